/-! ColouredHeapModel.canMend(I)Z -/
theorem dX10_canMend_0 : decode cX10_canMend 0 = .ok (.aload_n 0, 1) := by decide +kernel
theorem dX10_canMend_1 : decode cX10_canMend 1 = .ok (.iload_n 1, 1) := by decide +kernel
theorem dX10_canMend_2 : decode cX10_canMend 2 = .ok (.invokevirtual 334, 3) := by decide +kernel
theorem dX10_canMend_5 : decode cX10_canMend 5 = .ok (.ifCond .eq 21, 3) := by decide +kernel
theorem dX10_canMend_8 : decode cX10_canMend 8 = .ok (.aload_n 0, 1) := by decide +kernel
theorem dX10_canMend_9 : decode cX10_canMend 9 = .ok (.aload_n 0, 1) := by decide +kernel
theorem dX10_canMend_10 : decode cX10_canMend 10 = .ok (.aload_n 0, 1) := by decide +kernel
theorem dX10_canMend_11 : decode cX10_canMend 11 = .ok (.iload_n 1, 1) := by decide +kernel
theorem dX10_canMend_12 : decode cX10_canMend 12 = .ok (.invokevirtual 331, 3) := by decide +kernel
theorem dX10_canMend_15 : decode cX10_canMend 15 = .ok (.invokevirtual 80, 3) := by decide +kernel
theorem dX10_canMend_18 : decode cX10_canMend 18 = .ok (.bipush 10, 2) := by decide +kernel
theorem dX10_canMend_20 : decode cX10_canMend 20 = .ok (.invokevirtual 337, 3) := by decide +kernel
theorem dX10_canMend_23 : decode cX10_canMend 23 = .ok (.ifCond .eq 7, 3) := by decide +kernel
theorem dX10_canMend_26 : decode cX10_canMend 26 = .ok (.iconst 1, 1) := by decide +kernel
theorem dX10_canMend_27 : decode cX10_canMend 27 = .ok (.goto 4, 3) := by decide +kernel
theorem dX10_canMend_30 : decode cX10_canMend 30 = .ok (.iconst 0, 1) := by decide +kernel
theorem dX10_canMend_31 : decode cX10_canMend 31 = .ok (.ireturn, 1) := by decide +kernel
def f_X10_canMend (M : xm) (a1 : Int32) : Option (Int32) := xb1 (f_X10_needsMove M a1) (fun v2 => (if v2 = 0 then some (1 : Int32) else xb1 (f_X10_whereOf M a1) (fun v6 => xb1 (f_X10_sizeOf M v6) (fun v9 => xb1 (f_X10_hasRoom M v9 (10 : Int32)) (fun v12 => (if v12 = 0 then some (0 : Int32) else some (1 : Int32)))))))
set_option maxHeartbeats 4000000 in
set_option maxRecDepth 20000 in
theorem c_X10_canMend (l : Launch) (E : xE) (b : Nat) (M : xm) (Lm : xn) (a1 : Int32) {r : Int32} (hf : f_X10_canMend M a1 = some r) :
    xMet l E b NY yX10_canMend cX10_canMend 2 (some .boolean) (xR 4) [.ref (b + 0), .int a1] (cY E b M Lm) (some (.int r)) (xbo r = true) (cY E b M Lm) := by
  refine xMet.ofW (own := RX10) (by decide) rfl (Nat.le_of_ble_eq_true rfl) ?_
  intro p e s m below meth c H locs ls C hm hl
  have hx := C.1.1
  have hb := C.1.2.1
  have hl : lv_has ls 2 [(0, .ref (b + 0)), (1, .int a1)] := hl
  unfold f_X10_canMend at hf
  refine lv_aload_n hx hb dX10_canMend_0 rfl (lv_at hl 0 rfl) ?_
  refine lv_iload_n hx hb dX10_canMend_1 rfl (lv_at hl 1 rfl) ?_
  obtain ⟨v2, hq1, hf⟩ := xb1_e hf
  refine x_callVi (As := [.int a1]) (rest := []) C hm (c_X10_needsMove l E b M Lm a1 hq1) rfl cy_0 tc_X10_needsMove tm_RX10_334 ti_X10_needsMove ts_X10_needsMove tn_RX10 td_X10_needsMove rfl rfl ⟨Nat.le_of_ble_eq_true rfl, Nat.le_of_ble_eq_true rfl⟩ rfl hl.1 rfl (Nat.le_of_ble_eq_true rfl) ⟨Nat.zero_le _, Nat.zero_le _⟩ dX10_canMend_2 (fun H locs hP3 hm => ?_)
  refine lv_if_eq (tgt := 26) hx hb dX10_canMend_5 (by decide) (fun hc4 => ?_) (fun hc4 => ?_)
  · have hf := xif_t hc4 hf
    refine lv_iconst (v := (1 : Int32)) hx hb dX10_canMend_26 (by decide) ?_
    refine lv_goto (tgt := 31) hx hb dX10_canMend_27 (by decide) ?_
    cases hf
    exact x_zret C hm (by decide) (by decide) dX10_canMend_31
  have hf := xif_f hc4 hf
  refine lv_aload_n hx hb dX10_canMend_8 rfl (lv_at hl 0 rfl) ?_
  refine lv_aload_n hx hb dX10_canMend_9 rfl (lv_at hl 0 rfl) ?_
  refine lv_aload_n hx hb dX10_canMend_10 rfl (lv_at hl 0 rfl) ?_
  refine lv_iload_n hx hb dX10_canMend_11 rfl (lv_at hl 1 rfl) ?_
  obtain ⟨v6, hq5, hf⟩ := xb1_e hf
  refine x_callVi (As := [.int a1]) (rest := [.ref (b + 0), .ref (b + 0)]) C hm (c_X10_whereOf l E b M Lm a1 hq5) rfl cy_0 tc_X10_whereOf tm_RX10_331 ti_X10_whereOf ts_X10_whereOf tn_RX10 td_X10_whereOf rfl rfl ⟨Nat.le_of_ble_eq_true rfl, Nat.le_of_ble_eq_true rfl⟩ rfl hl.1 rfl (Nat.le_of_ble_eq_true rfl) ⟨Nat.zero_le _, Nat.zero_le _⟩ dX10_canMend_12 (fun H locs hP7 hm => ?_)
  obtain ⟨v9, hq8, hf⟩ := xb1_e hf
  refine x_callVi (As := [.int v6]) (rest := [.ref (b + 0)]) C hm (c_X10_sizeOf l E b M Lm v6 hq8) rfl cy_0 tc_X10_sizeOf tm_RX10_80 ti_X10_sizeOf ts_X10_sizeOf tn_RX10 td_X10_sizeOf rfl rfl ⟨Nat.le_of_ble_eq_true rfl, Nat.le_of_ble_eq_true rfl⟩ rfl hl.1 rfl (Nat.le_of_ble_eq_true rfl) ⟨Nat.zero_le _, Nat.zero_le _⟩ dX10_canMend_15 (fun H locs hP10 hm => ?_)
  refine lv_bipush (v := (10 : Int32)) hx hb dX10_canMend_18 (by decide) ?_
  obtain ⟨v12, hq11, hf⟩ := xb1_e hf
  refine x_callVi (As := [.int v9, .int (10 : Int32)]) (rest := []) C hm (c_X10_hasRoom l E b M Lm v9 (10 : Int32) hq11) rfl cy_0 tc_X10_hasRoom tm_RX10_337 ti_X10_hasRoom ts_X10_hasRoom tn_RX10 td_X10_hasRoom rfl rfl ⟨Nat.le_of_ble_eq_true rfl, Nat.le_of_ble_eq_true rfl⟩ rfl hl.1 rfl (Nat.le_of_ble_eq_true rfl) ⟨Nat.zero_le _, Nat.zero_le _⟩ dX10_canMend_20 (fun H locs hP13 hm => ?_)
  refine lv_if_eq (tgt := 30) hx hb dX10_canMend_23 (by decide) (fun hc14 => ?_) (fun hc14 => ?_)
  · have hf := xif_t hc14 hf
    refine lv_iconst (v := (0 : Int32)) hx hb dX10_canMend_30 (by decide) ?_
    cases hf
    exact x_zret C hm (by decide) (by decide) dX10_canMend_31
  have hf := xif_f hc14 hf
  refine lv_iconst (v := (1 : Int32)) hx hb dX10_canMend_26 (by decide) ?_
  refine lv_goto (tgt := 31) hx hb dX10_canMend_27 (by decide) ?_
  cases hf
  exact x_zret C hm (by decide) (by decide) dX10_canMend_31
/-! ColouredHeapModel.mendRoots()V -/
theorem dX10_mendRoots_0 : decode cX10_mendRoots 0 = .ok (.iconst 0, 1) := by decide +kernel
theorem dX10_mendRoots_1 : decode cX10_mendRoots 1 = .ok (.istore_n 1, 1) := by decide +kernel
theorem dX10_mendRoots_2 : decode cX10_mendRoots 2 = .ok (.iload_n 1, 1) := by decide +kernel
theorem dX10_mendRoots_3 : decode cX10_mendRoots 3 = .ok (.bipush 6, 2) := by decide +kernel
theorem dX10_mendRoots_5 : decode cX10_mendRoots 5 = .ok (.if_icmp .ge 47, 3) := by decide +kernel
theorem dX10_mendRoots_8 : decode cX10_mendRoots 8 = .ok (.aload_n 0, 1) := by decide +kernel
theorem dX10_mendRoots_9 : decode cX10_mendRoots 9 = .ok (.aload_n 0, 1) := by decide +kernel
theorem dX10_mendRoots_10 : decode cX10_mendRoots 10 = .ok (.getfield 7, 3) := by decide +kernel
theorem dX10_mendRoots_13 : decode cX10_mendRoots 13 = .ok (.bipush 29, 2) := by decide +kernel
theorem dX10_mendRoots_15 : decode cX10_mendRoots 15 = .ok (.iload_n 1, 1) := by decide +kernel
theorem dX10_mendRoots_16 : decode cX10_mendRoots 16 = .ok (.iadd, 1) := by decide +kernel
theorem dX10_mendRoots_17 : decode cX10_mendRoots 17 = .ok (.iaload, 1) := by decide +kernel
theorem dX10_mendRoots_18 : decode cX10_mendRoots 18 = .ok (.invokevirtual 346, 3) := by decide +kernel
theorem dX10_mendRoots_21 : decode cX10_mendRoots 21 = .ok (.ifCond .eq 25, 3) := by decide +kernel
theorem dX10_mendRoots_24 : decode cX10_mendRoots 24 = .ok (.aload_n 0, 1) := by decide +kernel
theorem dX10_mendRoots_25 : decode cX10_mendRoots 25 = .ok (.getfield 7, 3) := by decide +kernel
theorem dX10_mendRoots_28 : decode cX10_mendRoots 28 = .ok (.bipush 29, 2) := by decide +kernel
theorem dX10_mendRoots_30 : decode cX10_mendRoots 30 = .ok (.iload_n 1, 1) := by decide +kernel
theorem dX10_mendRoots_31 : decode cX10_mendRoots 31 = .ok (.iadd, 1) := by decide +kernel
theorem dX10_mendRoots_32 : decode cX10_mendRoots 32 = .ok (.aload_n 0, 1) := by decide +kernel
theorem dX10_mendRoots_33 : decode cX10_mendRoots 33 = .ok (.aload_n 0, 1) := by decide +kernel
theorem dX10_mendRoots_34 : decode cX10_mendRoots 34 = .ok (.getfield 7, 3) := by decide +kernel
theorem dX10_mendRoots_37 : decode cX10_mendRoots 37 = .ok (.bipush 29, 2) := by decide +kernel
theorem dX10_mendRoots_39 : decode cX10_mendRoots 39 = .ok (.iload_n 1, 1) := by decide +kernel
theorem dX10_mendRoots_40 : decode cX10_mendRoots 40 = .ok (.iadd, 1) := by decide +kernel
theorem dX10_mendRoots_41 : decode cX10_mendRoots 41 = .ok (.iaload, 1) := by decide +kernel
theorem dX10_mendRoots_42 : decode cX10_mendRoots 42 = .ok (.invokevirtual 343, 3) := by decide +kernel
theorem dX10_mendRoots_45 : decode cX10_mendRoots 45 = .ok (.iastore, 1) := by decide +kernel
theorem dX10_mendRoots_46 : decode cX10_mendRoots 46 = .ok (.iinc 1 1, 3) := by decide +kernel
theorem dX10_mendRoots_49 : decode cX10_mendRoots 49 = .ok (.goto (-47), 3) := by decide +kernel
theorem dX10_mendRoots_52 : decode cX10_mendRoots 52 = .ok (.return_, 1) := by decide +kernel
def g_X10_mendRoots_2  : Nat → xm → Int32 → Option ((xm))
  | 0, _, _ => none
  | n + 1, M2, x1 => (if (6 : Int32) ≤ x1 then some (M2) else if xin ((29 : Int32) + x1) 9878 = true then xb1 (f_X10_canMend M2 (M2 1 (Int32.toNatClampNeg ((29 : Int32) + x1)))) (fun v7 => (if v7 = 0 then xlet (x1 + (1 : Int32)) (fun v10 => g_X10_mendRoots_2 n M2 v10) else xb2 (f_X10_mended M2 (M2 1 (Int32.toNatClampNeg ((29 : Int32) + x1)))) (fun v12 M13 => xlet (up2 M13 1 (Int32.toNatClampNeg ((29 : Int32) + x1)) v12) (fun M15 => xlet (x1 + (1 : Int32)) (fun v16 => g_X10_mendRoots_2 n M15 v16))))) else none)
def f_X10_mendRoots (M : xm) : Option (xm) := xb1 (g_X10_mendRoots_2 xfuel M (0 : Int32)) (fun M17 => some M17)
set_option maxHeartbeats 4000000 in
set_option maxRecDepth 20000 in
theorem j_X10_mendRoots_2 {p : Program} {l : Launch} {e : Env} {s : State} {m : MethodId} {args : Array Value} {below : List Frame} {meth : Method} {c : Code} {Q : State → Prop} {E : xE} {b : Nat} (C : xC p s m args meth c cX10_mendRoots 2 RX10 none E b) {Lm : xn} {y3 : xm}
    (kx0 : ∀ (H : Heap) (locs : List Loc) (ls : Array Slot), xM E b NY (cY E b y3 Lm) s.heap H locs → lv_has ls 2 [] → W p l e (xR 6) s m args below meth c H locs 0 0 Q (F0 m 52 ls [])) :
    ∀ (n : Nat) (M2 : xm) (x1 : Int32) (H : Heap) (locs : List Loc) (ls : Array Slot), g_X10_mendRoots_2 n M2 x1 = some y3 → xM E b NY (cY E b M2 Lm) s.heap H locs → lv_has ls 2 [(0, .ref (b + 0)), (1, .int x1)] → W p l e (xR 6) s m args below meth c H locs 0 0 Q (F0 m 2 ls []) := by
  have hx := C.1.1
  have hb := C.1.2.1
  intro n
  induction n with
  | zero =>
    intro M2 x1 H locs ls hf hm hl
    rw [g_X10_mendRoots_2] at hf
    cases hf
  | succ n ih =>
    intro M2 x1 H locs ls hf hm hl
    rw [g_X10_mendRoots_2] at hf
    refine lv_iload_n hx hb dX10_mendRoots_2 rfl (lv_at hl 1 rfl) ?_
    refine lv_bipush (v := (6 : Int32)) hx hb dX10_mendRoots_3 (by decide) ?_
    refine lv_icmp_ge (tgt := 52) hx hb dX10_mendRoots_5 (by decide) (fun hc4 => ?_) (fun hc4 => ?_)
    · have hf := xif_t hc4 hf
      cases hf
      exact kx0 H locs ls hm (lv_sub hl [] rfl)
    have hf := xif_f hc4 hf
    refine lv_aload_n hx hb dX10_mendRoots_8 rfl (lv_at hl 0 rfl) ?_
    refine lv_aload_n hx hb dX10_mendRoots_9 rfl (lv_at hl 0 rfl) ?_
    refine x_get C hm inX10 rfl 0 (by decide) tf_RX10_7 cy_0 rfl dX10_mendRoots_10 ?_
    refine lv_bipush (v := (29 : Int32)) hx hb dX10_mendRoots_13 (by decide) ?_
    refine lv_iload_n hx hb dX10_mendRoots_15 rfl (lv_at hl 1 rfl) ?_
    refine lv_iadd hx hb dX10_mendRoots_16 ?_
    obtain ⟨hi5, hf⟩ := xif_s hf
    refine x_iald (j := (Int32.toNatClampNeg ((29 : Int32) + x1))) C hm cy_1 hi5 dX10_mendRoots_17 rfl ?_
    obtain ⟨v7, hq6, hf⟩ := xb1_e hf
    refine x_callVi (As := [.int (M2 1 (Int32.toNatClampNeg ((29 : Int32) + x1)))]) (rest := []) C hm (c_X10_canMend l E b M2 Lm (M2 1 (Int32.toNatClampNeg ((29 : Int32) + x1))) hq6) rfl cy_0 tc_X10_canMend tm_RX10_346 ti_X10_canMend ts_X10_canMend tn_RX10 td_X10_canMend rfl rfl ⟨Nat.le_of_ble_eq_true rfl, Nat.le_of_ble_eq_true rfl⟩ rfl hl.1 rfl (Nat.le_of_ble_eq_true rfl) ⟨Nat.zero_le _, Nat.zero_le _⟩ dX10_mendRoots_18 (fun H locs hP8 hm => ?_)
    refine lv_if_eq (tgt := 46) hx hb dX10_mendRoots_21 (by decide) (fun hc9 => ?_) (fun hc9 => ?_)
    · have hf := xif_t hc9 hf
      obtain ⟨v10, ev10, hf⟩ := xlet_x hf
      refine lv_iinc (v := v10) (lv' := [(1, .int v10), (0, .ref (b + 0))]) hx hb dX10_mendRoots_46 hl (k := 1) rfl (by rw [ev10]; rfl) (by decide) rfl (fun ls hl => ?_)
      refine lv_goto (tgt := 2) hx hb dX10_mendRoots_49 (by decide) ?_
      exact ih M2 v10 H locs ls hf hm (lv_sub hl [1, 0] rfl)
    have hf := xif_f hc9 hf
    refine lv_aload_n hx hb dX10_mendRoots_24 rfl (lv_at hl 0 rfl) ?_
    refine x_get C hm inX10 rfl 0 (by decide) tf_RX10_7 cy_0 rfl dX10_mendRoots_25 ?_
    refine lv_bipush (v := (29 : Int32)) hx hb dX10_mendRoots_28 (by decide) ?_
    refine lv_iload_n hx hb dX10_mendRoots_30 rfl (lv_at hl 1 rfl) ?_
    refine lv_iadd hx hb dX10_mendRoots_31 ?_
    refine lv_aload_n hx hb dX10_mendRoots_32 rfl (lv_at hl 0 rfl) ?_
    refine lv_aload_n hx hb dX10_mendRoots_33 rfl (lv_at hl 0 rfl) ?_
    refine x_get C hm inX10 rfl 0 (by decide) tf_RX10_7 cy_0 rfl dX10_mendRoots_34 ?_
    refine lv_bipush (v := (29 : Int32)) hx hb dX10_mendRoots_37 (by decide) ?_
    refine lv_iload_n hx hb dX10_mendRoots_39 rfl (lv_at hl 1 rfl) ?_
    refine lv_iadd hx hb dX10_mendRoots_40 ?_
    refine x_iald (j := (Int32.toNatClampNeg ((29 : Int32) + x1))) C hm cy_1 hi5 dX10_mendRoots_41 rfl ?_
    obtain ⟨v12, M13, hq11, hf⟩ := xb2_e hf
    refine x_callVi (As := [.int (M2 1 (Int32.toNatClampNeg ((29 : Int32) + x1)))]) (rest := [.int ((29 : Int32) + x1), .ref (b + 1)]) C hm (c_X10_mended l E b M2 Lm (M2 1 (Int32.toNatClampNeg ((29 : Int32) + x1))) hq11) rfl cy_0 tc_X10_mended tm_RX10_343 ti_X10_mended ts_X10_mended tn_RX10 td_X10_mended rfl rfl ⟨Nat.le_of_ble_eq_true rfl, Nat.le_of_ble_eq_true rfl⟩ rfl hl.1 rfl (Nat.le_of_ble_eq_true rfl) ⟨Nat.zero_le _, Nat.zero_le _⟩ dX10_mendRoots_42 (fun H locs hP14 hm => ?_)
    obtain ⟨M15, eM15, hf⟩ := xlet_x hf
    refine x_iast (j := (Int32.toNatClampNeg ((29 : Int32) + x1))) (cf' := cY E b M15 Lm) C hm cy_1 hi5 dX10_mendRoots_45 rfl (by rw [eM15]; exact cyu_1) (by rw [eM15]; exact cY_o) (fun H locs hm => ?_)
    obtain ⟨v16, ev16, hf⟩ := xlet_x hf
    refine lv_iinc (v := v16) (lv' := [(1, .int v16), (0, .ref (b + 0))]) hx hb dX10_mendRoots_46 hl (k := 1) rfl (by rw [ev16]; rfl) (by decide) rfl (fun ls hl => ?_)
    refine lv_goto (tgt := 2) hx hb dX10_mendRoots_49 (by decide) ?_
    exact ih M15 v16 H locs ls hf hm (lv_sub hl [1, 0] rfl)
set_option maxHeartbeats 4000000 in
set_option maxRecDepth 20000 in
theorem c_X10_mendRoots (l : Launch) (E : xE) (b : Nat) (M : xm) (Lm : xn) {M' : xm} (hf : f_X10_mendRoots M = some M') :
    xMet l E b NY yX10_mendRoots cX10_mendRoots 2 none (xR 6) [.ref (b + 0)] (cY E b M Lm) none True (cY E b M' Lm) := by
  refine xMet.ofW (own := RX10) (by decide) rfl (Nat.le_of_ble_eq_true rfl) ?_
  intro p e s m below meth c H locs ls C hm hl
  have hx := C.1.1
  have hb := C.1.2.1
  have hl : lv_has ls 2 [(0, .ref (b + 0))] := hl
  unfold f_X10_mendRoots at hf
  refine lv_iconst (v := (0 : Int32)) hx hb dX10_mendRoots_0 (by decide) ?_
  refine lv_istore_n (lv' := [(1, .int (0 : Int32)), (0, .ref (b + 0))]) hx hb dX10_mendRoots_1 rfl hl (by decide) rfl (fun ls hl => ?_)
  obtain ⟨M17, hq, hf⟩ := xb1_e hf
  refine j_X10_mendRoots_2 C (fun H locs ls hm hl => ?_) xfuel M (0 : Int32) H locs ls hq hm (lv_sub hl [1, 0] rfl)
  cases hf
  exact x_vret C hm trivial dX10_mendRoots_52
/-! ColouredHeapModel.chooseNow()I -/
theorem dX10_chooseNow_0 : decode cX10_chooseNow 0 = .ok (.iconst 0, 1) := by decide +kernel
theorem dX10_chooseNow_1 : decode cX10_chooseNow 1 = .ok (.istore_n 1, 1) := by decide +kernel
theorem dX10_chooseNow_2 : decode cX10_chooseNow 2 = .ok (.iload_n 1, 1) := by decide +kernel
theorem dX10_chooseNow_3 : decode cX10_chooseNow 3 = .ok (.bipush 64, 2) := by decide +kernel
theorem dX10_chooseNow_5 : decode cX10_chooseNow 5 = .ok (.if_icmp .ge 19, 3) := by decide +kernel
theorem dX10_chooseNow_8 : decode cX10_chooseNow 8 = .ok (.aload_n 0, 1) := by decide +kernel
theorem dX10_chooseNow_9 : decode cX10_chooseNow 9 = .ok (.getfield 7, 3) := by decide +kernel
theorem dX10_chooseNow_12 : decode cX10_chooseNow 12 = .ok (.bipush 105, 2) := by decide +kernel
theorem dX10_chooseNow_14 : decode cX10_chooseNow 14 = .ok (.iload_n 1, 1) := by decide +kernel
theorem dX10_chooseNow_15 : decode cX10_chooseNow 15 = .ok (.iadd, 1) := by decide +kernel
theorem dX10_chooseNow_16 : decode cX10_chooseNow 16 = .ok (.iconst (-1), 1) := by decide +kernel
theorem dX10_chooseNow_17 : decode cX10_chooseNow 17 = .ok (.iastore, 1) := by decide +kernel
theorem dX10_chooseNow_18 : decode cX10_chooseNow 18 = .ok (.iinc 1 1, 3) := by decide +kernel
theorem dX10_chooseNow_21 : decode cX10_chooseNow 21 = .ok (.goto (-19), 3) := by decide +kernel
theorem dX10_chooseNow_24 : decode cX10_chooseNow 24 = .ok (.iconst 0, 1) := by decide +kernel
theorem dX10_chooseNow_25 : decode cX10_chooseNow 25 = .ok (.istore_n 1, 1) := by decide +kernel
theorem dX10_chooseNow_26 : decode cX10_chooseNow 26 = .ok (.iload_n 1, 1) := by decide +kernel
theorem dX10_chooseNow_27 : decode cX10_chooseNow 27 = .ok (.bipush 8, 2) := by decide +kernel
theorem dX10_chooseNow_29 : decode cX10_chooseNow 29 = .ok (.if_icmp .ge 30, 3) := by decide +kernel
theorem dX10_chooseNow_32 : decode cX10_chooseNow 32 = .ok (.aload_n 0, 1) := by decide +kernel
theorem dX10_chooseNow_33 : decode cX10_chooseNow 33 = .ok (.iload_n 1, 1) := by decide +kernel
theorem dX10_chooseNow_34 : decode cX10_chooseNow 34 = .ok (.invokevirtual 364, 3) := by decide +kernel
theorem dX10_chooseNow_37 : decode cX10_chooseNow 37 = .ok (.ifCond .eq 16, 3) := by decide +kernel
theorem dX10_chooseNow_40 : decode cX10_chooseNow 40 = .ok (.aload_n 0, 1) := by decide +kernel
theorem dX10_chooseNow_41 : decode cX10_chooseNow 41 = .ok (.iload_n 1, 1) := by decide +kernel
theorem dX10_chooseNow_42 : decode cX10_chooseNow 42 = .ok (.invokevirtual 266, 3) := by decide +kernel
theorem dX10_chooseNow_45 : decode cX10_chooseNow 45 = .ok (.ifCond .ne 8, 3) := by decide +kernel
theorem dX10_chooseNow_48 : decode cX10_chooseNow 48 = .ok (.aload_n 0, 1) := by decide +kernel
theorem dX10_chooseNow_49 : decode cX10_chooseNow 49 = .ok (.iload_n 1, 1) := by decide +kernel
theorem dX10_chooseNow_50 : decode cX10_chooseNow 50 = .ok (.invokevirtual 367, 3) := by decide +kernel
theorem dX10_chooseNow_53 : decode cX10_chooseNow 53 = .ok (.iinc 1 1, 3) := by decide +kernel
theorem dX10_chooseNow_56 : decode cX10_chooseNow 56 = .ok (.goto (-30), 3) := by decide +kernel
theorem dX10_chooseNow_59 : decode cX10_chooseNow 59 = .ok (.aload_n 0, 1) := by decide +kernel
theorem dX10_chooseNow_60 : decode cX10_chooseNow 60 = .ok (.getfield 7, 3) := by decide +kernel
theorem dX10_chooseNow_63 : decode cX10_chooseNow 63 = .ok (.bipush 7, 2) := by decide +kernel
theorem dX10_chooseNow_65 : decode cX10_chooseNow 65 = .ok (.iconst 2, 1) := by decide +kernel
theorem dX10_chooseNow_66 : decode cX10_chooseNow 66 = .ok (.iastore, 1) := by decide +kernel
theorem dX10_chooseNow_67 : decode cX10_chooseNow 67 = .ok (.aload_n 0, 1) := by decide +kernel
theorem dX10_chooseNow_68 : decode cX10_chooseNow 68 = .ok (.getfield 7, 3) := by decide +kernel
theorem dX10_chooseNow_71 : decode cX10_chooseNow 71 = .ok (.bipush 6, 2) := by decide +kernel
theorem dX10_chooseNow_73 : decode cX10_chooseNow 73 = .ok (.iconst 2, 1) := by decide +kernel
theorem dX10_chooseNow_74 : decode cX10_chooseNow 74 = .ok (.iastore, 1) := by decide +kernel
theorem dX10_chooseNow_75 : decode cX10_chooseNow 75 = .ok (.iconst 0, 1) := by decide +kernel
theorem dX10_chooseNow_76 : decode cX10_chooseNow 76 = .ok (.istore_n 1, 1) := by decide +kernel
theorem dX10_chooseNow_77 : decode cX10_chooseNow 77 = .ok (.iconst 5, 1) := by decide +kernel
theorem dX10_chooseNow_78 : decode cX10_chooseNow 78 = .ok (.aload_n 0, 1) := by decide +kernel
theorem dX10_chooseNow_79 : decode cX10_chooseNow 79 = .ok (.invokevirtual 285, 3) := by decide +kernel
theorem dX10_chooseNow_82 : decode cX10_chooseNow 82 = .ok (.invokestatic 288, 3) := by decide +kernel
theorem dX10_chooseNow_85 : decode cX10_chooseNow 85 = .ok (.imul, 1) := by decide +kernel
theorem dX10_chooseNow_86 : decode cX10_chooseNow 86 = .ok (.istore_n 2, 1) := by decide +kernel
theorem dX10_chooseNow_87 : decode cX10_chooseNow 87 = .ok (.iconst 0, 1) := by decide +kernel
theorem dX10_chooseNow_88 : decode cX10_chooseNow 88 = .ok (.istore_n 3, 1) := by decide +kernel
theorem dX10_chooseNow_89 : decode cX10_chooseNow 89 = .ok (.iload_n 3, 1) := by decide +kernel
theorem dX10_chooseNow_90 : decode cX10_chooseNow 90 = .ok (.bipush 8, 2) := by decide +kernel
theorem dX10_chooseNow_92 : decode cX10_chooseNow 92 = .ok (.if_icmp .gt 78, 3) := by decide +kernel
theorem dX10_chooseNow_95 : decode cX10_chooseNow 95 = .ok (.iconst 0, 1) := by decide +kernel
theorem dX10_chooseNow_96 : decode cX10_chooseNow 96 = .ok (.istore 4, 2) := by decide +kernel
theorem dX10_chooseNow_98 : decode cX10_chooseNow 98 = .ok (.iload 4, 2) := by decide +kernel
theorem dX10_chooseNow_100 : decode cX10_chooseNow 100 = .ok (.bipush 8, 2) := by decide +kernel
theorem dX10_chooseNow_102 : decode cX10_chooseNow 102 = .ok (.if_icmp .ge 62, 3) := by decide +kernel
theorem dX10_chooseNow_105 : decode cX10_chooseNow 105 = .ok (.aload_n 0, 1) := by decide +kernel
theorem dX10_chooseNow_106 : decode cX10_chooseNow 106 = .ok (.iload 4, 2) := by decide +kernel
theorem dX10_chooseNow_108 : decode cX10_chooseNow 108 = .ok (.invokevirtual 364, 3) := by decide +kernel
theorem dX10_chooseNow_111 : decode cX10_chooseNow 111 = .ok (.ifCond .eq 47, 3) := by decide +kernel
theorem dX10_chooseNow_114 : decode cX10_chooseNow 114 = .ok (.aload_n 0, 1) := by decide +kernel
theorem dX10_chooseNow_115 : decode cX10_chooseNow 115 = .ok (.iload 4, 2) := by decide +kernel
theorem dX10_chooseNow_117 : decode cX10_chooseNow 117 = .ok (.invokevirtual 266, 3) := by decide +kernel
theorem dX10_chooseNow_120 : decode cX10_chooseNow 120 = .ok (.iload_n 3, 1) := by decide +kernel
theorem dX10_chooseNow_121 : decode cX10_chooseNow 121 = .ok (.if_icmp .ne 37, 3) := by decide +kernel
theorem dX10_chooseNow_124 : decode cX10_chooseNow 124 = .ok (.iload_n 3, 1) := by decide +kernel
theorem dX10_chooseNow_125 : decode cX10_chooseNow 125 = .ok (.iload_n 2, 1) := by decide +kernel
theorem dX10_chooseNow_126 : decode cX10_chooseNow 126 = .ok (.if_icmp .gt 32, 3) := by decide +kernel
theorem dX10_chooseNow_129 : decode cX10_chooseNow 129 = .ok (.aload_n 0, 1) := by decide +kernel
theorem dX10_chooseNow_130 : decode cX10_chooseNow 130 = .ok (.aload_n 0, 1) := by decide +kernel
theorem dX10_chooseNow_131 : decode cX10_chooseNow 131 = .ok (.getfield 7, 3) := by decide +kernel
theorem dX10_chooseNow_134 : decode cX10_chooseNow 134 = .ok (.iconst 1, 1) := by decide +kernel
theorem dX10_chooseNow_135 : decode cX10_chooseNow 135 = .ok (.iaload, 1) := by decide +kernel
theorem dX10_chooseNow_136 : decode cX10_chooseNow 136 = .ok (.iload 4, 2) := by decide +kernel
theorem dX10_chooseNow_138 : decode cX10_chooseNow 138 = .ok (.invokevirtual 370, 3) := by decide +kernel
theorem dX10_chooseNow_141 : decode cX10_chooseNow 141 = .ok (.ifCond .ne 6, 3) := by decide +kernel
theorem dX10_chooseNow_144 : decode cX10_chooseNow 144 = .ok (.goto 14, 3) := by decide +kernel
theorem dX10_chooseNow_147 : decode cX10_chooseNow 147 = .ok (.iload_n 1, 1) := by decide +kernel
theorem dX10_chooseNow_148 : decode cX10_chooseNow 148 = .ok (.iconst 1, 1) := by decide +kernel
theorem dX10_chooseNow_149 : decode cX10_chooseNow 149 = .ok (.iload 4, 2) := by decide +kernel
theorem dX10_chooseNow_151 : decode cX10_chooseNow 151 = .ok (.ishl, 1) := by decide +kernel
theorem dX10_chooseNow_152 : decode cX10_chooseNow 152 = .ok (.ior, 1) := by decide +kernel
theorem dX10_chooseNow_153 : decode cX10_chooseNow 153 = .ok (.istore_n 1, 1) := by decide +kernel
theorem dX10_chooseNow_154 : decode cX10_chooseNow 154 = .ok (.iload_n 2, 1) := by decide +kernel
theorem dX10_chooseNow_155 : decode cX10_chooseNow 155 = .ok (.iload_n 3, 1) := by decide +kernel
theorem dX10_chooseNow_156 : decode cX10_chooseNow 156 = .ok (.isub, 1) := by decide +kernel
theorem dX10_chooseNow_157 : decode cX10_chooseNow 157 = .ok (.istore_n 2, 1) := by decide +kernel
theorem dX10_chooseNow_158 : decode cX10_chooseNow 158 = .ok (.iinc 4 1, 3) := by decide +kernel
theorem dX10_chooseNow_161 : decode cX10_chooseNow 161 = .ok (.goto (-63), 3) := by decide +kernel
theorem dX10_chooseNow_164 : decode cX10_chooseNow 164 = .ok (.iinc 3 1, 3) := by decide +kernel
theorem dX10_chooseNow_167 : decode cX10_chooseNow 167 = .ok (.goto (-78), 3) := by decide +kernel
theorem dX10_chooseNow_170 : decode cX10_chooseNow 170 = .ok (.iconst 0, 1) := by decide +kernel
theorem dX10_chooseNow_171 : decode cX10_chooseNow 171 = .ok (.istore_n 3, 1) := by decide +kernel
theorem dX10_chooseNow_172 : decode cX10_chooseNow 172 = .ok (.iload_n 3, 1) := by decide +kernel
theorem dX10_chooseNow_173 : decode cX10_chooseNow 173 = .ok (.bipush 8, 2) := by decide +kernel
theorem dX10_chooseNow_175 : decode cX10_chooseNow 175 = .ok (.if_icmp .ge 27, 3) := by decide +kernel
theorem dX10_chooseNow_178 : decode cX10_chooseNow 178 = .ok (.iload_n 1, 1) := by decide +kernel
theorem dX10_chooseNow_179 : decode cX10_chooseNow 179 = .ok (.iload_n 3, 1) := by decide +kernel
theorem dX10_chooseNow_180 : decode cX10_chooseNow 180 = .ok (.invokestatic 242, 3) := by decide +kernel
theorem dX10_chooseNow_183 : decode cX10_chooseNow 183 = .ok (.ifCond .eq 13, 3) := by decide +kernel
theorem dX10_chooseNow_186 : decode cX10_chooseNow 186 = .ok (.aload_n 0, 1) := by decide +kernel
theorem dX10_chooseNow_187 : decode cX10_chooseNow 187 = .ok (.getfield 7, 3) := by decide +kernel
theorem dX10_chooseNow_190 : decode cX10_chooseNow 190 = .ok (.bipush 13, 2) := by decide +kernel
theorem dX10_chooseNow_192 : decode cX10_chooseNow 192 = .ok (.iload_n 3, 1) := by decide +kernel
theorem dX10_chooseNow_193 : decode cX10_chooseNow 193 = .ok (.iadd, 1) := by decide +kernel
theorem dX10_chooseNow_194 : decode cX10_chooseNow 194 = .ok (.iconst 2, 1) := by decide +kernel
theorem dX10_chooseNow_195 : decode cX10_chooseNow 195 = .ok (.iastore, 1) := by decide +kernel
theorem dX10_chooseNow_196 : decode cX10_chooseNow 196 = .ok (.iinc 3 1, 3) := by decide +kernel
theorem dX10_chooseNow_199 : decode cX10_chooseNow 199 = .ok (.goto (-27), 3) := by decide +kernel
theorem dX10_chooseNow_202 : decode cX10_chooseNow 202 = .ok (.aload_n 0, 1) := by decide +kernel
theorem dX10_chooseNow_203 : decode cX10_chooseNow 203 = .ok (.getfield 7, 3) := by decide +kernel
theorem dX10_chooseNow_206 : decode cX10_chooseNow 206 = .ok (.bipush 10, 2) := by decide +kernel
theorem dX10_chooseNow_208 : decode cX10_chooseNow 208 = .ok (.iconst (-1), 1) := by decide +kernel
theorem dX10_chooseNow_209 : decode cX10_chooseNow 209 = .ok (.iastore, 1) := by decide +kernel
theorem dX10_chooseNow_210 : decode cX10_chooseNow 210 = .ok (.aload_n 0, 1) := by decide +kernel
theorem dX10_chooseNow_211 : decode cX10_chooseNow 211 = .ok (.iconst 2, 1) := by decide +kernel
theorem dX10_chooseNow_212 : decode cX10_chooseNow 212 = .ok (.iload_n 1, 1) := by decide +kernel
theorem dX10_chooseNow_213 : decode cX10_chooseNow 213 = .ok (.invokevirtual 313, 3) := by decide +kernel
theorem dX10_chooseNow_216 : decode cX10_chooseNow 216 = .ok (.aload_n 0, 1) := by decide +kernel
theorem dX10_chooseNow_217 : decode cX10_chooseNow 217 = .ok (.invokevirtual 361, 3) := by decide +kernel
theorem dX10_chooseNow_220 : decode cX10_chooseNow 220 = .ok (.iload_n 1, 1) := by decide +kernel
theorem dX10_chooseNow_221 : decode cX10_chooseNow 221 = .ok (.invokestatic 288, 3) := by decide +kernel
theorem dX10_chooseNow_224 : decode cX10_chooseNow 224 = .ok (.ireturn, 1) := by decide +kernel
def g_X10_chooseNow_2 (Lm : xn) : Nat → xm → Int32 → Option ((xm))
  | 0, _, _ => none
  | n + 1, M2, x1 => (if (64 : Int32) ≤ x1 then some (M2) else if xin ((105 : Int32) + x1) 9878 = true then xlet (up2 M2 1 (Int32.toNatClampNeg ((105 : Int32) + x1)) (-1 : Int32)) (fun M6 => xlet (x1 + (1 : Int32)) (fun v7 => g_X10_chooseNow_2 Lm n M6 v7)) else none)
def g_X10_chooseNow_26 (Lm : xn) : Nat → xm → Int32 → Option ((xm))
  | 0, _, _ => none
  | n + 1, M10, x9 => (if (8 : Int32) ≤ x9 then some (M10) else xb1 (f_X10_isCandidate M10 x9) (fun v14 => (if v14 = 0 then xlet (x9 + (1 : Int32)) (fun v17 => g_X10_chooseNow_26 Lm n M10 v17) else xb1 (f_X10_liveOf M10 x9) (fun v19 => (if v19 = 0 then xb1 (f_X10_freePage M10 x9) (fun M24 => xlet (x9 + (1 : Int32)) (fun v26 => g_X10_chooseNow_26 Lm n M24 v26)) else xlet (x9 + (1 : Int32)) (fun v22 => g_X10_chooseNow_26 Lm n M10 v22))))))
def g_X10_chooseNow_98 (x48 : Int32) : Nat → xm → xn → Int32 → Int32 → Int32 → Option ((Int32 × Int32 × xm × xn))
  | 0, _, _, _, _, _ => none
  | n + 1, M50, L51, x46, x47, x49 => (if (8 : Int32) ≤ x49 then some ((x46, x47, M50, L51)) else xb1 (f_X10_isCandidate M50 x49) (fun v58 => (if v58 = 0 then xlet (x49 + (1 : Int32)) (fun v61 => g_X10_chooseNow_98 x48 n M50 L51 x46 x47 v61) else xb1 (f_X10_liveOf M50 x49) (fun v63 => (if v63 = x48 then (if x47 < x48 then xlet (x49 + (1 : Int32)) (fun v68 => g_X10_chooseNow_98 x48 n M50 L51 x46 x47 v68) else xb3 (f_X10_doesPick M50 L51 (M50 1 1) x49) (fun v70 M71 L72 => (if v70 = 0 then xlet (x49 + (1 : Int32)) (fun v78 => g_X10_chooseNow_98 x48 n M71 L72 x46 x47 v78) else xlet (x46 ||| ((1 : Int32) <<< (x49 &&& 31))) (fun v75 => xlet (x47 - x48) (fun v76 => xlet (x49 + (1 : Int32)) (fun v77 => g_X10_chooseNow_98 x48 n M71 L72 v75 v76 v77)))))) else xlet (x49 + (1 : Int32)) (fun v66 => g_X10_chooseNow_98 x48 n M50 L51 x46 x47 v66))))))
def g_X10_chooseNow_89  : Nat → xm → xn → Int32 → Int32 → Int32 → Option ((Int32 × xm × xn))
  | 0, _, _, _, _, _ => none
  | n + 1, M40, L41, x37, x38, x39 => (if (8 : Int32) < x39 then some ((x37, M40, L41)) else xb4 (g_X10_chooseNow_98 x39 xfuel M40 L41 x37 x38 (0 : Int32)) (fun v79 v80 M81 L82 => xlet (x39 + (1 : Int32)) (fun v83 => g_X10_chooseNow_89 n M81 L82 v79 v80 v83)))
def g_X10_chooseNow_172 (Lm : xn) (x87 : Int32) : Nat → xm → Int32 → Option ((xm))
  | 0, _, _ => none
  | n + 1, M89, x88 => (if (8 : Int32) ≤ x88 then some (M89) else (if (f_X10_has x87 x88) = 0 then xlet (x88 + (1 : Int32)) (fun v94 => g_X10_chooseNow_172 Lm x87 n M89 v94) else if xin ((13 : Int32) + x88) 9878 = true then xlet (up2 M89 1 (Int32.toNatClampNeg ((13 : Int32) + x88)) (2 : Int32)) (fun M96 => xlet (x88 + (1 : Int32)) (fun v97 => g_X10_chooseNow_172 Lm x87 n M96 v97)) else none))
def f_X10_chooseNow (M : xm) (Lm : xn) : Option (Int32 × xm × xn) := xb1 (g_X10_chooseNow_2 Lm xfuel M (0 : Int32)) (fun M8 => xb1 (g_X10_chooseNow_26 Lm xfuel M8 (0 : Int32)) (fun M27 => xlet (up2 M27 1 7 (2 : Int32)) (fun M28 => xlet (up2 M28 1 6 (2 : Int32)) (fun M29 => xb1 (f_X10_freePages M29) (fun v31 => xb1 (f_X10_bits v31) (fun v34 => xlet ((5 : Int32) * v34) (fun v36 => xb3 (g_X10_chooseNow_89 xfuel M29 Lm (0 : Int32) v36 (0 : Int32)) (fun v84 M85 L86 => xb1 (g_X10_chooseNow_172 L86 v84 xfuel M85 (0 : Int32)) (fun M98 => xlet (up2 M98 1 10 (-1 : Int32)) (fun M99 => xb1 (f_X10_write M99 (2 : Int32) v84) (fun M101 => xb1 (f_X10_mendRoots M101) (fun M104 => xb1 (f_X10_bits v84) (fun v107 => some (v107, M104, L86))))))))))))))
set_option maxHeartbeats 4000000 in
set_option maxRecDepth 20000 in
theorem j_X10_chooseNow_2 {p : Program} {l : Launch} {e : Env} {s : State} {m : MethodId} {args : Array Value} {below : List Frame} {meth : Method} {c : Code} {Q : State → Prop} {E : xE} {b : Nat} (C : xC p s m args meth c cX10_chooseNow 5 RX10 (some .int) E b) (Lm : xn) {y3 : xm}
    (kx0 : ∀ (H : Heap) (locs : List Loc) (ls : Array Slot), xM E b NY (cY E b y3 Lm) s.heap H locs → lv_has ls 5 [(0, .ref (b + 0))] → W p l e (xR 8) s m args below meth c H locs 0 0 Q (F0 m 24 ls [])) :
    ∀ (n : Nat) (M2 : xm) (x1 : Int32) (H : Heap) (locs : List Loc) (ls : Array Slot), g_X10_chooseNow_2 Lm n M2 x1 = some y3 → xM E b NY (cY E b M2 Lm) s.heap H locs → lv_has ls 5 [(0, .ref (b + 0)), (1, .int x1)] → W p l e (xR 8) s m args below meth c H locs 0 0 Q (F0 m 2 ls []) := by
  have hx := C.1.1
  have hb := C.1.2.1
  intro n
  induction n with
  | zero =>
    intro M2 x1 H locs ls hf hm hl
    rw [g_X10_chooseNow_2] at hf
    cases hf
  | succ n ih =>
    intro M2 x1 H locs ls hf hm hl
    rw [g_X10_chooseNow_2] at hf
    refine lv_iload_n hx hb dX10_chooseNow_2 rfl (lv_at hl 1 rfl) ?_
    refine lv_bipush (v := (64 : Int32)) hx hb dX10_chooseNow_3 (by decide) ?_
    refine lv_icmp_ge (tgt := 24) hx hb dX10_chooseNow_5 (by decide) (fun hc4 => ?_) (fun hc4 => ?_)
    · have hf := xif_t hc4 hf
      cases hf
      exact kx0 H locs ls hm (lv_sub hl [0] rfl)
    have hf := xif_f hc4 hf
    refine lv_aload_n hx hb dX10_chooseNow_8 rfl (lv_at hl 0 rfl) ?_
    refine x_get C hm inX10 rfl 0 (by decide) tf_RX10_7 cy_0 rfl dX10_chooseNow_9 ?_
    refine lv_bipush (v := (105 : Int32)) hx hb dX10_chooseNow_12 (by decide) ?_
    refine lv_iload_n hx hb dX10_chooseNow_14 rfl (lv_at hl 1 rfl) ?_
    refine lv_iadd hx hb dX10_chooseNow_15 ?_
    refine lv_iconst (v := (-1 : Int32)) hx hb dX10_chooseNow_16 (by decide) ?_
    obtain ⟨hi5, hf⟩ := xif_s hf
    obtain ⟨M6, eM6, hf⟩ := xlet_x hf
    refine x_iast (j := (Int32.toNatClampNeg ((105 : Int32) + x1))) (cf' := cY E b M6 Lm) C hm cy_1 hi5 dX10_chooseNow_17 rfl (by rw [eM6]; exact cyu_1) (by rw [eM6]; exact cY_o) (fun H locs hm => ?_)
    obtain ⟨v7, ev7, hf⟩ := xlet_x hf
    refine lv_iinc (v := v7) (lv' := [(1, .int v7), (0, .ref (b + 0))]) hx hb dX10_chooseNow_18 hl (k := 1) rfl (by rw [ev7]; rfl) (by decide) rfl (fun ls hl => ?_)
    refine lv_goto (tgt := 2) hx hb dX10_chooseNow_21 (by decide) ?_
    exact ih M6 v7 H locs ls hf hm (lv_sub hl [1, 0] rfl)
set_option maxHeartbeats 4000000 in
set_option maxRecDepth 20000 in
theorem j_X10_chooseNow_26 {p : Program} {l : Launch} {e : Env} {s : State} {m : MethodId} {args : Array Value} {below : List Frame} {meth : Method} {c : Code} {Q : State → Prop} {E : xE} {b : Nat} (C : xC p s m args meth c cX10_chooseNow 5 RX10 (some .int) E b) (Lm : xn) {y11 : xm}
    (kx0 : ∀ (H : Heap) (locs : List Loc) (ls : Array Slot), xM E b NY (cY E b y11 Lm) s.heap H locs → lv_has ls 5 [(0, .ref (b + 0))] → W p l e (xR 8) s m args below meth c H locs 0 0 Q (F0 m 59 ls [])) :
    ∀ (n : Nat) (M10 : xm) (x9 : Int32) (H : Heap) (locs : List Loc) (ls : Array Slot), g_X10_chooseNow_26 Lm n M10 x9 = some y11 → xM E b NY (cY E b M10 Lm) s.heap H locs → lv_has ls 5 [(0, .ref (b + 0)), (1, .int x9)] → W p l e (xR 8) s m args below meth c H locs 0 0 Q (F0 m 26 ls []) := by
  have hx := C.1.1
  have hb := C.1.2.1
  intro n
  induction n with
  | zero =>
    intro M10 x9 H locs ls hf hm hl
    rw [g_X10_chooseNow_26] at hf
    cases hf
  | succ n ih =>
    intro M10 x9 H locs ls hf hm hl
    rw [g_X10_chooseNow_26] at hf
    refine lv_iload_n hx hb dX10_chooseNow_26 rfl (lv_at hl 1 rfl) ?_
    refine lv_bipush (v := (8 : Int32)) hx hb dX10_chooseNow_27 (by decide) ?_
    refine lv_icmp_ge (tgt := 59) hx hb dX10_chooseNow_29 (by decide) (fun hc12 => ?_) (fun hc12 => ?_)
    · have hf := xif_t hc12 hf
      cases hf
      exact kx0 H locs ls hm (lv_sub hl [0] rfl)
    have hf := xif_f hc12 hf
    refine lv_aload_n hx hb dX10_chooseNow_32 rfl (lv_at hl 0 rfl) ?_
    refine lv_iload_n hx hb dX10_chooseNow_33 rfl (lv_at hl 1 rfl) ?_
    obtain ⟨v14, hq13, hf⟩ := xb1_e hf
    refine x_callVi (As := [.int x9]) (rest := []) C hm (c_X10_isCandidate l E b M10 Lm x9 hq13) rfl cy_0 tc_X10_isCandidate tm_RX10_364 ti_X10_isCandidate ts_X10_isCandidate tn_RX10 td_X10_isCandidate rfl rfl ⟨Nat.le_of_ble_eq_true rfl, Nat.le_of_ble_eq_true rfl⟩ rfl hl.1 rfl (Nat.le_of_ble_eq_true rfl) ⟨Nat.zero_le _, Nat.zero_le _⟩ dX10_chooseNow_34 (fun H locs hP15 hm => ?_)
    refine lv_if_eq (tgt := 53) hx hb dX10_chooseNow_37 (by decide) (fun hc16 => ?_) (fun hc16 => ?_)
    · have hf := xif_t hc16 hf
      obtain ⟨v17, ev17, hf⟩ := xlet_x hf
      refine lv_iinc (v := v17) (lv' := [(1, .int v17), (0, .ref (b + 0))]) hx hb dX10_chooseNow_53 hl (k := 1) rfl (by rw [ev17]; rfl) (by decide) rfl (fun ls hl => ?_)
      refine lv_goto (tgt := 26) hx hb dX10_chooseNow_56 (by decide) ?_
      exact ih M10 v17 H locs ls hf hm (lv_sub hl [1, 0] rfl)
    have hf := xif_f hc16 hf
    refine lv_aload_n hx hb dX10_chooseNow_40 rfl (lv_at hl 0 rfl) ?_
    refine lv_iload_n hx hb dX10_chooseNow_41 rfl (lv_at hl 1 rfl) ?_
    obtain ⟨v19, hq18, hf⟩ := xb1_e hf
    refine x_callVi (As := [.int x9]) (rest := []) C hm (c_X10_liveOf l E b M10 Lm x9 hq18) rfl cy_0 tc_X10_liveOf tm_RX10_266 ti_X10_liveOf ts_X10_liveOf tn_RX10 td_X10_liveOf rfl rfl ⟨Nat.le_of_ble_eq_true rfl, Nat.le_of_ble_eq_true rfl⟩ rfl hl.1 rfl (Nat.le_of_ble_eq_true rfl) ⟨Nat.zero_le _, Nat.zero_le _⟩ dX10_chooseNow_42 (fun H locs hP20 hm => ?_)
    refine lv_if_ne (tgt := 53) hx hb dX10_chooseNow_45 (by decide) (fun hc21 => ?_) (fun hc21 => ?_)
    · have hf := xif_f hc21 hf
      obtain ⟨v22, ev22, hf⟩ := xlet_x hf
      refine lv_iinc (v := v22) (lv' := [(1, .int v22), (0, .ref (b + 0))]) hx hb dX10_chooseNow_53 hl (k := 1) rfl (by rw [ev22]; rfl) (by decide) rfl (fun ls hl => ?_)
      refine lv_goto (tgt := 26) hx hb dX10_chooseNow_56 (by decide) ?_
      exact ih M10 v22 H locs ls hf hm (lv_sub hl [1, 0] rfl)
    have hf := xif_t hc21 hf
    refine lv_aload_n hx hb dX10_chooseNow_48 rfl (lv_at hl 0 rfl) ?_
    refine lv_iload_n hx hb dX10_chooseNow_49 rfl (lv_at hl 1 rfl) ?_
    obtain ⟨M24, hq23, hf⟩ := xb1_e hf
    refine x_callVv (As := [.int x9]) (rest := []) C hm (c_X10_freePage l E b M10 Lm x9 hq23) rfl cy_0 tc_X10_freePage tm_RX10_367 ti_X10_freePage ts_X10_freePage tn_RX10 td_X10_freePage rfl rfl ⟨Nat.le_of_ble_eq_true rfl, Nat.le_of_ble_eq_true rfl⟩ rfl hl.1 rfl (Nat.le_of_ble_eq_true rfl) ⟨Nat.zero_le _, Nat.zero_le _⟩ dX10_chooseNow_50 (fun H locs hP25 hm => ?_)
    obtain ⟨v26, ev26, hf⟩ := xlet_x hf
    refine lv_iinc (v := v26) (lv' := [(1, .int v26), (0, .ref (b + 0))]) hx hb dX10_chooseNow_53 hl (k := 1) rfl (by rw [ev26]; rfl) (by decide) rfl (fun ls hl => ?_)
    refine lv_goto (tgt := 26) hx hb dX10_chooseNow_56 (by decide) ?_
    exact ih M24 v26 H locs ls hf hm (lv_sub hl [1, 0] rfl)
set_option maxHeartbeats 4000000 in
set_option maxRecDepth 20000 in
theorem j_X10_chooseNow_98 {p : Program} {l : Launch} {e : Env} {s : State} {m : MethodId} {args : Array Value} {below : List Frame} {meth : Method} {c : Code} {Q : State → Prop} {E : xE} {b : Nat} (C : xC p s m args meth c cX10_chooseNow 5 RX10 (some .int) E b) (x48 : Int32) {y52 : Int32} {y53 : Int32} {y54 : xm} {y55 : xn}
    (kx0 : ∀ (H : Heap) (locs : List Loc) (ls : Array Slot), xM E b NY (cY E b y54 y55) s.heap H locs → lv_has ls 5 [(0, .ref (b + 0)), (1, .int y52), (2, .int y53), (3, .int x48)] → W p l e (xR 8) s m args below meth c H locs 0 0 Q (F0 m 164 ls [])) :
    ∀ (n : Nat) (M50 : xm) (L51 : xn) (x46 : Int32) (x47 : Int32) (x49 : Int32) (H : Heap) (locs : List Loc) (ls : Array Slot), g_X10_chooseNow_98 x48 n M50 L51 x46 x47 x49 = some (y52, y53, y54, y55) → xM E b NY (cY E b M50 L51) s.heap H locs → lv_has ls 5 [(0, .ref (b + 0)), (1, .int x46), (2, .int x47), (3, .int x48), (4, .int x49)] → W p l e (xR 8) s m args below meth c H locs 0 0 Q (F0 m 98 ls []) := by
  have hx := C.1.1
  have hb := C.1.2.1
  intro n
  induction n with
  | zero =>
    intro M50 L51 x46 x47 x49 H locs ls hf hm hl
    rw [g_X10_chooseNow_98] at hf
    cases hf
  | succ n ih =>
    intro M50 L51 x46 x47 x49 H locs ls hf hm hl
    rw [g_X10_chooseNow_98] at hf
    refine lv_iload hx hb dX10_chooseNow_98 (lv_at hl 4 rfl) ?_
    refine lv_bipush (v := (8 : Int32)) hx hb dX10_chooseNow_100 (by decide) ?_
    refine lv_icmp_ge (tgt := 164) hx hb dX10_chooseNow_102 (by decide) (fun hc56 => ?_) (fun hc56 => ?_)
    · have hf := xif_t hc56 hf
      cases hf
      exact kx0 H locs ls hm (lv_sub hl [0, 1, 2, 3] rfl)
    have hf := xif_f hc56 hf
    refine lv_aload_n hx hb dX10_chooseNow_105 rfl (lv_at hl 0 rfl) ?_
    refine lv_iload hx hb dX10_chooseNow_106 (lv_at hl 4 rfl) ?_
    obtain ⟨v58, hq57, hf⟩ := xb1_e hf
    refine x_callVi (As := [.int x49]) (rest := []) C hm (c_X10_isCandidate l E b M50 L51 x49 hq57) rfl cy_0 tc_X10_isCandidate tm_RX10_364 ti_X10_isCandidate ts_X10_isCandidate tn_RX10 td_X10_isCandidate rfl rfl ⟨Nat.le_of_ble_eq_true rfl, Nat.le_of_ble_eq_true rfl⟩ rfl hl.1 rfl (Nat.le_of_ble_eq_true rfl) ⟨Nat.zero_le _, Nat.zero_le _⟩ dX10_chooseNow_108 (fun H locs hP59 hm => ?_)
    refine lv_if_eq (tgt := 158) hx hb dX10_chooseNow_111 (by decide) (fun hc60 => ?_) (fun hc60 => ?_)
    · have hf := xif_t hc60 hf
      obtain ⟨v61, ev61, hf⟩ := xlet_x hf
      refine lv_iinc (v := v61) (lv' := [(4, .int v61), (0, .ref (b + 0)), (1, .int x46), (2, .int x47), (3, .int x48)]) hx hb dX10_chooseNow_158 hl (k := 4) rfl (by rw [ev61]; rfl) (by decide) rfl (fun ls hl => ?_)
      refine lv_goto (tgt := 98) hx hb dX10_chooseNow_161 (by decide) ?_
      exact ih M50 L51 x46 x47 v61 H locs ls hf hm (lv_sub hl [1, 2, 3, 4, 0] rfl)
    have hf := xif_f hc60 hf
    refine lv_aload_n hx hb dX10_chooseNow_114 rfl (lv_at hl 0 rfl) ?_
    refine lv_iload hx hb dX10_chooseNow_115 (lv_at hl 4 rfl) ?_
    obtain ⟨v63, hq62, hf⟩ := xb1_e hf
    refine x_callVi (As := [.int x49]) (rest := []) C hm (c_X10_liveOf l E b M50 L51 x49 hq62) rfl cy_0 tc_X10_liveOf tm_RX10_266 ti_X10_liveOf ts_X10_liveOf tn_RX10 td_X10_liveOf rfl rfl ⟨Nat.le_of_ble_eq_true rfl, Nat.le_of_ble_eq_true rfl⟩ rfl hl.1 rfl (Nat.le_of_ble_eq_true rfl) ⟨Nat.zero_le _, Nat.zero_le _⟩ dX10_chooseNow_117 (fun H locs hP64 hm => ?_)
    refine lv_iload_n hx hb dX10_chooseNow_120 rfl (lv_at hl 3 rfl) ?_
    refine lv_icmp_ne (tgt := 158) hx hb dX10_chooseNow_121 (by decide) (fun hc65 => ?_) (fun hc65 => ?_)
    · have hf := xif_f hc65 hf
      obtain ⟨v66, ev66, hf⟩ := xlet_x hf
      refine lv_iinc (v := v66) (lv' := [(4, .int v66), (0, .ref (b + 0)), (1, .int x46), (2, .int x47), (3, .int x48)]) hx hb dX10_chooseNow_158 hl (k := 4) rfl (by rw [ev66]; rfl) (by decide) rfl (fun ls hl => ?_)
      refine lv_goto (tgt := 98) hx hb dX10_chooseNow_161 (by decide) ?_
      exact ih M50 L51 x46 x47 v66 H locs ls hf hm (lv_sub hl [1, 2, 3, 4, 0] rfl)
    have hf := xif_t hc65 hf
    refine lv_iload_n hx hb dX10_chooseNow_124 rfl (lv_at hl 3 rfl) ?_
    refine lv_iload_n hx hb dX10_chooseNow_125 rfl (lv_at hl 2 rfl) ?_
    refine lv_icmp_gt (tgt := 158) hx hb dX10_chooseNow_126 (by decide) (fun hc67 => ?_) (fun hc67 => ?_)
    · have hf := xif_t hc67 hf
      obtain ⟨v68, ev68, hf⟩ := xlet_x hf
      refine lv_iinc (v := v68) (lv' := [(4, .int v68), (0, .ref (b + 0)), (1, .int x46), (2, .int x47), (3, .int x48)]) hx hb dX10_chooseNow_158 hl (k := 4) rfl (by rw [ev68]; rfl) (by decide) rfl (fun ls hl => ?_)
      refine lv_goto (tgt := 98) hx hb dX10_chooseNow_161 (by decide) ?_
      exact ih M50 L51 x46 x47 v68 H locs ls hf hm (lv_sub hl [1, 2, 3, 4, 0] rfl)
    have hf := xif_f hc67 hf
    refine lv_aload_n hx hb dX10_chooseNow_129 rfl (lv_at hl 0 rfl) ?_
    refine lv_aload_n hx hb dX10_chooseNow_130 rfl (lv_at hl 0 rfl) ?_
    refine x_get C hm inX10 rfl 0 (by decide) tf_RX10_7 cy_0 rfl dX10_chooseNow_131 ?_
    refine lv_iconst (v := (1 : Int32)) hx hb dX10_chooseNow_134 (by decide) ?_
    refine x_iald (j := 1) C hm cy_1 (by decide) dX10_chooseNow_135 (by decide) ?_
    refine lv_iload hx hb dX10_chooseNow_136 (lv_at hl 4 rfl) ?_
    obtain ⟨v70, M71, L72, hq69, hf⟩ := xb3_e hf
    refine x_callVi (As := [.int (M50 1 1), .int x49]) (rest := []) C hm (c_X10_doesPick l E b M50 L51 (M50 1 1) x49 hq69) rfl cy_0 tc_X10_doesPick tm_RX10_370 ti_X10_doesPick ts_X10_doesPick tn_RX10 td_X10_doesPick rfl rfl ⟨Nat.le_of_ble_eq_true rfl, Nat.le_of_ble_eq_true rfl⟩ rfl hl.1 rfl (Nat.le_of_ble_eq_true rfl) ⟨Nat.zero_le _, Nat.zero_le _⟩ dX10_chooseNow_138 (fun H locs hP73 hm => ?_)
    refine lv_if_ne (tgt := 147) hx hb dX10_chooseNow_141 (by decide) (fun hc74 => ?_) (fun hc74 => ?_)
    rotate_left
    · have hf := xif_t hc74 hf
      refine lv_goto (tgt := 158) hx hb dX10_chooseNow_144 (by decide) ?_
      obtain ⟨v78, ev78, hf⟩ := xlet_x hf
      refine lv_iinc (v := v78) (lv' := [(4, .int v78), (0, .ref (b + 0)), (1, .int x46), (2, .int x47), (3, .int x48)]) hx hb dX10_chooseNow_158 hl (k := 4) rfl (by rw [ev78]; rfl) (by decide) rfl (fun ls hl => ?_)
      refine lv_goto (tgt := 98) hx hb dX10_chooseNow_161 (by decide) ?_
      exact ih M71 L72 x46 x47 v78 H locs ls hf hm (lv_sub hl [1, 2, 3, 4, 0] rfl)
    have hf := xif_f hc74 hf
    refine lv_iload_n hx hb dX10_chooseNow_147 rfl (lv_at hl 1 rfl) ?_
    refine lv_iconst (v := (1 : Int32)) hx hb dX10_chooseNow_148 (by decide) ?_
    refine lv_iload hx hb dX10_chooseNow_149 (lv_at hl 4 rfl) ?_
    refine lv_ishl hx hb dX10_chooseNow_151 ?_
    refine lv_ior hx hb dX10_chooseNow_152 ?_
    refine lv_topi (fun v75 ev75 => ?_)
    have hf := xlet_e ev75 hf
    refine lv_istore_n (lv' := [(1, .int v75), (0, .ref (b + 0)), (2, .int x47), (3, .int x48), (4, .int x49)]) hx hb dX10_chooseNow_153 rfl hl (by decide) rfl (fun ls hl => ?_)
    refine lv_iload_n hx hb dX10_chooseNow_154 rfl (lv_at hl 2 rfl) ?_
    refine lv_iload_n hx hb dX10_chooseNow_155 rfl (lv_at hl 3 rfl) ?_
    refine lv_isub hx hb dX10_chooseNow_156 ?_
    refine lv_topi (fun v76 ev76 => ?_)
    have hf := xlet_e ev76 hf
    refine lv_istore_n (lv' := [(2, .int v76), (1, .int v75), (0, .ref (b + 0)), (3, .int x48), (4, .int x49)]) hx hb dX10_chooseNow_157 rfl hl (by decide) rfl (fun ls hl => ?_)
    obtain ⟨v77, ev77, hf⟩ := xlet_x hf
    refine lv_iinc (v := v77) (lv' := [(4, .int v77), (2, .int v76), (1, .int v75), (0, .ref (b + 0)), (3, .int x48)]) hx hb dX10_chooseNow_158 hl (k := 4) rfl (by rw [ev77]; rfl) (by decide) rfl (fun ls hl => ?_)
    refine lv_goto (tgt := 98) hx hb dX10_chooseNow_161 (by decide) ?_
    exact ih M71 L72 v75 v76 v77 H locs ls hf hm (lv_sub hl [3, 2, 1, 4, 0] rfl)
set_option maxHeartbeats 4000000 in
set_option maxRecDepth 20000 in
theorem j_X10_chooseNow_89 {p : Program} {l : Launch} {e : Env} {s : State} {m : MethodId} {args : Array Value} {below : List Frame} {meth : Method} {c : Code} {Q : State → Prop} {E : xE} {b : Nat} (C : xC p s m args meth c cX10_chooseNow 5 RX10 (some .int) E b)  {y42 : Int32} {y43 : xm} {y44 : xn}
    (kx0 : ∀ (H : Heap) (locs : List Loc) (ls : Array Slot), xM E b NY (cY E b y43 y44) s.heap H locs → lv_has ls 5 [(0, .ref (b + 0)), (1, .int y42)] → W p l e (xR 8) s m args below meth c H locs 0 0 Q (F0 m 170 ls [])) :
    ∀ (n : Nat) (M40 : xm) (L41 : xn) (x37 : Int32) (x38 : Int32) (x39 : Int32) (H : Heap) (locs : List Loc) (ls : Array Slot), g_X10_chooseNow_89 n M40 L41 x37 x38 x39 = some (y42, y43, y44) → xM E b NY (cY E b M40 L41) s.heap H locs → lv_has ls 5 [(0, .ref (b + 0)), (1, .int x37), (2, .int x38), (3, .int x39)] → W p l e (xR 8) s m args below meth c H locs 0 0 Q (F0 m 89 ls []) := by
  have hx := C.1.1
  have hb := C.1.2.1
  intro n
  induction n with
  | zero =>
    intro M40 L41 x37 x38 x39 H locs ls hf hm hl
    rw [g_X10_chooseNow_89] at hf
    cases hf
  | succ n ih =>
    intro M40 L41 x37 x38 x39 H locs ls hf hm hl
    rw [g_X10_chooseNow_89] at hf
    refine lv_iload_n hx hb dX10_chooseNow_89 rfl (lv_at hl 3 rfl) ?_
    refine lv_bipush (v := (8 : Int32)) hx hb dX10_chooseNow_90 (by decide) ?_
    refine lv_icmp_gt (tgt := 170) hx hb dX10_chooseNow_92 (by decide) (fun hc45 => ?_) (fun hc45 => ?_)
    · have hf := xif_t hc45 hf
      cases hf
      exact kx0 H locs ls hm (lv_sub hl [0, 1] rfl)
    have hf := xif_f hc45 hf
    refine lv_iconst (v := (0 : Int32)) hx hb dX10_chooseNow_95 (by decide) ?_
    refine lv_istore (lv' := [(4, .int (0 : Int32)), (0, .ref (b + 0)), (1, .int x37), (2, .int x38), (3, .int x39)]) hx hb dX10_chooseNow_96 hl (by decide) rfl (fun ls hl => ?_)
    obtain ⟨v79, v80, M81, L82, hq, hf⟩ := xb4_e hf
    refine j_X10_chooseNow_98 C x39 (fun H locs ls hm hl => ?_) xfuel M40 L41 x37 x38 (0 : Int32) H locs ls hq hm (lv_sub hl [1, 2, 3, 4, 0] rfl)
    obtain ⟨v83, ev83, hf⟩ := xlet_x hf
    refine lv_iinc (v := v83) (lv' := [(3, .int v83), (0, .ref (b + 0)), (1, .int v79), (2, .int v80)]) hx hb dX10_chooseNow_164 hl (k := 3) rfl (by rw [ev83]; rfl) (by decide) rfl (fun ls hl => ?_)
    refine lv_goto (tgt := 89) hx hb dX10_chooseNow_167 (by decide) ?_
    exact ih M81 L82 v79 v80 v83 H locs ls hf hm (lv_sub hl [1, 2, 3, 0] rfl)
set_option maxHeartbeats 4000000 in
set_option maxRecDepth 20000 in
theorem j_X10_chooseNow_172 {p : Program} {l : Launch} {e : Env} {s : State} {m : MethodId} {args : Array Value} {below : List Frame} {meth : Method} {c : Code} {Q : State → Prop} {E : xE} {b : Nat} (C : xC p s m args meth c cX10_chooseNow 5 RX10 (some .int) E b) (Lm : xn) (x87 : Int32) {y90 : xm}
    (kx0 : ∀ (H : Heap) (locs : List Loc) (ls : Array Slot), xM E b NY (cY E b y90 Lm) s.heap H locs → lv_has ls 5 [(0, .ref (b + 0)), (1, .int x87)] → W p l e (xR 8) s m args below meth c H locs 0 0 Q (F0 m 202 ls [])) :
    ∀ (n : Nat) (M89 : xm) (x88 : Int32) (H : Heap) (locs : List Loc) (ls : Array Slot), g_X10_chooseNow_172 Lm x87 n M89 x88 = some y90 → xM E b NY (cY E b M89 Lm) s.heap H locs → lv_has ls 5 [(0, .ref (b + 0)), (1, .int x87), (3, .int x88)] → W p l e (xR 8) s m args below meth c H locs 0 0 Q (F0 m 172 ls []) := by
  have hx := C.1.1
  have hb := C.1.2.1
  intro n
  induction n with
  | zero =>
    intro M89 x88 H locs ls hf hm hl
    rw [g_X10_chooseNow_172] at hf
    cases hf
  | succ n ih =>
    intro M89 x88 H locs ls hf hm hl
    rw [g_X10_chooseNow_172] at hf
    refine lv_iload_n hx hb dX10_chooseNow_172 rfl (lv_at hl 2 rfl) ?_
    refine lv_bipush (v := (8 : Int32)) hx hb dX10_chooseNow_173 (by decide) ?_
    refine lv_icmp_ge (tgt := 202) hx hb dX10_chooseNow_175 (by decide) (fun hc91 => ?_) (fun hc91 => ?_)
    · have hf := xif_t hc91 hf
      cases hf
      exact kx0 H locs ls hm (lv_sub hl [0, 1] rfl)
    have hf := xif_f hc91 hf
    refine lv_iload_n hx hb dX10_chooseNow_178 rfl (lv_at hl 1 rfl) ?_
    refine lv_iload_n hx hb dX10_chooseNow_179 rfl (lv_at hl 2 rfl) ?_
    refine x_callSi (As := [.int x87, .int x88]) (rest := []) C hm (c_X10_has l E b M89 Lm x87 x88 rfl) tc_X10_has tm_RX10_242 tz_X10_has tn_RX10 td_X10_has rfl rfl ⟨Nat.le_of_ble_eq_true rfl, Nat.le_of_ble_eq_true rfl⟩ rfl hl.1 rfl (Nat.le_of_ble_eq_true rfl) ⟨Nat.zero_le _, Nat.zero_le _⟩ dX10_chooseNow_180 (fun H locs hP92 hm => ?_)
    refine lv_if_eq (tgt := 196) hx hb dX10_chooseNow_183 (by decide) (fun hc93 => ?_) (fun hc93 => ?_)
    · have hf := xif_t hc93 hf
      obtain ⟨v94, ev94, hf⟩ := xlet_x hf
      refine lv_iinc (v := v94) (lv' := [(3, .int v94), (0, .ref (b + 0)), (1, .int x87)]) hx hb dX10_chooseNow_196 hl (k := 2) rfl (by rw [ev94]; rfl) (by decide) rfl (fun ls hl => ?_)
      refine lv_goto (tgt := 172) hx hb dX10_chooseNow_199 (by decide) ?_
      exact ih M89 v94 H locs ls hf hm (lv_sub hl [1, 2, 0] rfl)
    have hf := xif_f hc93 hf
    refine lv_aload_n hx hb dX10_chooseNow_186 rfl (lv_at hl 0 rfl) ?_
    refine x_get C hm inX10 rfl 0 (by decide) tf_RX10_7 cy_0 rfl dX10_chooseNow_187 ?_
    refine lv_bipush (v := (13 : Int32)) hx hb dX10_chooseNow_190 (by decide) ?_
    refine lv_iload_n hx hb dX10_chooseNow_192 rfl (lv_at hl 2 rfl) ?_
    refine lv_iadd hx hb dX10_chooseNow_193 ?_
    refine lv_iconst (v := (2 : Int32)) hx hb dX10_chooseNow_194 (by decide) ?_
    obtain ⟨hi95, hf⟩ := xif_s hf
    obtain ⟨M96, eM96, hf⟩ := xlet_x hf
    refine x_iast (j := (Int32.toNatClampNeg ((13 : Int32) + x88))) (cf' := cY E b M96 Lm) C hm cy_1 hi95 dX10_chooseNow_195 rfl (by rw [eM96]; exact cyu_1) (by rw [eM96]; exact cY_o) (fun H locs hm => ?_)
    obtain ⟨v97, ev97, hf⟩ := xlet_x hf
    refine lv_iinc (v := v97) (lv' := [(3, .int v97), (0, .ref (b + 0)), (1, .int x87)]) hx hb dX10_chooseNow_196 hl (k := 2) rfl (by rw [ev97]; rfl) (by decide) rfl (fun ls hl => ?_)
    refine lv_goto (tgt := 172) hx hb dX10_chooseNow_199 (by decide) ?_
    exact ih M96 v97 H locs ls hf hm (lv_sub hl [1, 2, 0] rfl)
set_option maxHeartbeats 4000000 in
set_option maxRecDepth 20000 in
theorem c_X10_chooseNow (l : Launch) (E : xE) (b : Nat) (M : xm) (Lm : xn) {r : Int32} {M' : xm} {L' : xn} (hf : f_X10_chooseNow M Lm = some (r, M', L')) :
    xMet l E b NY yX10_chooseNow cX10_chooseNow 5 (some .int) (xR 8) [.ref (b + 0)] (cY E b M Lm) (some (.int r)) True (cY E b M' L') := by
  refine xMet.ofW (own := RX10) (by decide) rfl (Nat.le_of_ble_eq_true rfl) ?_
  intro p e s m below meth c H locs ls C hm hl
  have hx := C.1.1
  have hb := C.1.2.1
  have hl : lv_has ls 5 [(0, .ref (b + 0))] := hl
  unfold f_X10_chooseNow at hf
  refine lv_iconst (v := (0 : Int32)) hx hb dX10_chooseNow_0 (by decide) ?_
  refine lv_istore_n (lv' := [(1, .int (0 : Int32)), (0, .ref (b + 0))]) hx hb dX10_chooseNow_1 rfl hl (by decide) rfl (fun ls hl => ?_)
  obtain ⟨M8, hq, hf⟩ := xb1_e hf
  refine j_X10_chooseNow_2 C Lm (fun H locs ls hm hl => ?_) xfuel M (0 : Int32) H locs ls hq hm (lv_sub hl [1, 0] rfl)
  refine lv_iconst (v := (0 : Int32)) hx hb dX10_chooseNow_24 (by decide) ?_
  refine lv_istore_n (lv' := [(1, .int (0 : Int32)), (0, .ref (b + 0))]) hx hb dX10_chooseNow_25 rfl hl (by decide) rfl (fun ls hl => ?_)
  obtain ⟨M27, hq, hf⟩ := xb1_e hf
  refine j_X10_chooseNow_26 C Lm (fun H locs ls hm hl => ?_) xfuel M8 (0 : Int32) H locs ls hq hm (lv_sub hl [1, 0] rfl)
  refine lv_aload_n hx hb dX10_chooseNow_59 rfl (lv_at hl 0 rfl) ?_
  refine x_get C hm inX10 rfl 0 (by decide) tf_RX10_7 cy_0 rfl dX10_chooseNow_60 ?_
  refine lv_bipush (v := (7 : Int32)) hx hb dX10_chooseNow_63 (by decide) ?_
  refine lv_iconst (v := (2 : Int32)) hx hb dX10_chooseNow_65 (by decide) ?_
  obtain ⟨M28, eM28, hf⟩ := xlet_x hf
  refine x_iast (j := 7) (cf' := cY E b M28 Lm) C hm cy_1 (by decide) dX10_chooseNow_66 (by decide) (by rw [eM28]; exact cyu_1) (by rw [eM28]; exact cY_o) (fun H locs hm => ?_)
  refine lv_aload_n hx hb dX10_chooseNow_67 rfl (lv_at hl 0 rfl) ?_
  refine x_get C hm inX10 rfl 0 (by decide) tf_RX10_7 cy_0 rfl dX10_chooseNow_68 ?_
  refine lv_bipush (v := (6 : Int32)) hx hb dX10_chooseNow_71 (by decide) ?_
  refine lv_iconst (v := (2 : Int32)) hx hb dX10_chooseNow_73 (by decide) ?_
  obtain ⟨M29, eM29, hf⟩ := xlet_x hf
  refine x_iast (j := 6) (cf' := cY E b M29 Lm) C hm cy_1 (by decide) dX10_chooseNow_74 (by decide) (by rw [eM29]; exact cyu_1) (by rw [eM29]; exact cY_o) (fun H locs hm => ?_)
  refine lv_iconst (v := (0 : Int32)) hx hb dX10_chooseNow_75 (by decide) ?_
  refine lv_istore_n (lv' := [(1, .int (0 : Int32)), (0, .ref (b + 0))]) hx hb dX10_chooseNow_76 rfl hl (by decide) rfl (fun ls hl => ?_)
  refine lv_iconst (v := (5 : Int32)) hx hb dX10_chooseNow_77 (by decide) ?_
  refine lv_aload_n hx hb dX10_chooseNow_78 rfl (lv_at hl 1 rfl) ?_
  obtain ⟨v31, hq30, hf⟩ := xb1_e hf
  refine x_callVi (As := []) (rest := [.int (5 : Int32)]) C hm (c_X10_freePages l E b M29 Lm hq30) rfl cy_0 tc_X10_freePages tm_RX10_285 ti_X10_freePages ts_X10_freePages tn_RX10 td_X10_freePages rfl rfl ⟨Nat.le_of_ble_eq_true rfl, Nat.le_of_ble_eq_true rfl⟩ rfl hl.1 rfl (Nat.le_of_ble_eq_true rfl) ⟨Nat.zero_le _, Nat.zero_le _⟩ dX10_chooseNow_79 (fun H locs hP32 hm => ?_)
  obtain ⟨v34, hq33, hf⟩ := xb1_e hf
  refine x_callSi (As := [.int v31]) (rest := [.int (5 : Int32)]) C hm (c_X10_bits l E b M29 Lm v31 hq33) tc_X10_bits tm_RX10_288 tz_X10_bits tn_RX10 td_X10_bits rfl rfl ⟨Nat.le_of_ble_eq_true rfl, Nat.le_of_ble_eq_true rfl⟩ rfl hl.1 rfl (Nat.le_of_ble_eq_true rfl) ⟨Nat.zero_le _, Nat.zero_le _⟩ dX10_chooseNow_82 (fun H locs hP35 hm => ?_)
  refine lv_imul hx hb dX10_chooseNow_85 ?_
  refine lv_topi (fun v36 ev36 => ?_)
  have hf := xlet_e ev36 hf
  refine lv_istore_n (lv' := [(2, .int v36), (1, .int (0 : Int32)), (0, .ref (b + 0))]) hx hb dX10_chooseNow_86 rfl hl (by decide) rfl (fun ls hl => ?_)
  refine lv_iconst (v := (0 : Int32)) hx hb dX10_chooseNow_87 (by decide) ?_
  refine lv_istore_n (lv' := [(3, .int (0 : Int32)), (2, .int v36), (1, .int (0 : Int32)), (0, .ref (b + 0))]) hx hb dX10_chooseNow_88 rfl hl (by decide) rfl (fun ls hl => ?_)
  obtain ⟨v84, M85, L86, hq, hf⟩ := xb3_e hf
  refine j_X10_chooseNow_89 C (fun H locs ls hm hl => ?_) xfuel M29 Lm (0 : Int32) v36 (0 : Int32) H locs ls hq hm (lv_sub hl [3, 2, 1, 0] rfl)
  refine lv_iconst (v := (0 : Int32)) hx hb dX10_chooseNow_170 (by decide) ?_
  refine lv_istore_n (lv' := [(3, .int (0 : Int32)), (0, .ref (b + 0)), (1, .int v84)]) hx hb dX10_chooseNow_171 rfl hl (by decide) rfl (fun ls hl => ?_)
  obtain ⟨M98, hq, hf⟩ := xb1_e hf
  refine j_X10_chooseNow_172 C L86 v84 (fun H locs ls hm hl => ?_) xfuel M85 (0 : Int32) H locs ls hq hm (lv_sub hl [1, 2, 0] rfl)
  refine lv_aload_n hx hb dX10_chooseNow_202 rfl (lv_at hl 0 rfl) ?_
  refine x_get C hm inX10 rfl 0 (by decide) tf_RX10_7 cy_0 rfl dX10_chooseNow_203 ?_
  refine lv_bipush (v := (10 : Int32)) hx hb dX10_chooseNow_206 (by decide) ?_
  refine lv_iconst (v := (-1 : Int32)) hx hb dX10_chooseNow_208 (by decide) ?_
  obtain ⟨M99, eM99, hf⟩ := xlet_x hf
  refine x_iast (j := 10) (cf' := cY E b M99 L86) C hm cy_1 (by decide) dX10_chooseNow_209 (by decide) (by rw [eM99]; exact cyu_1) (by rw [eM99]; exact cY_o) (fun H locs hm => ?_)
  refine lv_aload_n hx hb dX10_chooseNow_210 rfl (lv_at hl 0 rfl) ?_
  refine lv_iconst (v := (2 : Int32)) hx hb dX10_chooseNow_211 (by decide) ?_
  refine lv_iload_n hx hb dX10_chooseNow_212 rfl (lv_at hl 1 rfl) ?_
  obtain ⟨M101, hq100, hf⟩ := xb1_e hf
  refine x_callVv (As := [.int (2 : Int32), .int v84]) (rest := []) C hm (c_X10_write l E b M99 L86 (2 : Int32) v84 hq100) rfl cy_0 tc_X10_write tm_RX10_313 ti_X10_write ts_X10_write tn_RX10 td_X10_write rfl rfl ⟨Nat.le_of_ble_eq_true rfl, Nat.le_of_ble_eq_true rfl⟩ rfl hl.1 rfl (Nat.le_of_ble_eq_true rfl) ⟨Nat.zero_le _, Nat.zero_le _⟩ dX10_chooseNow_213 (fun H locs hP102 hm => ?_)
  refine lv_aload_n hx hb dX10_chooseNow_216 rfl (lv_at hl 0 rfl) ?_
  obtain ⟨M104, hq103, hf⟩ := xb1_e hf
  refine x_callVv (As := []) (rest := []) C hm (c_X10_mendRoots l E b M101 L86 hq103) rfl cy_0 tc_X10_mendRoots tm_RX10_361 ti_X10_mendRoots ts_X10_mendRoots tn_RX10 td_X10_mendRoots rfl rfl ⟨Nat.le_of_ble_eq_true rfl, Nat.le_of_ble_eq_true rfl⟩ rfl hl.1 rfl (Nat.le_of_ble_eq_true rfl) ⟨Nat.zero_le _, Nat.zero_le _⟩ dX10_chooseNow_217 (fun H locs hP105 hm => ?_)
  refine lv_iload_n hx hb dX10_chooseNow_220 rfl (lv_at hl 1 rfl) ?_
  obtain ⟨v107, hq106, hf⟩ := xb1_e hf
  refine x_callSi (As := [.int v84]) (rest := []) C hm (c_X10_bits l E b M104 L86 v84 hq106) tc_X10_bits tm_RX10_288 tz_X10_bits tn_RX10 td_X10_bits rfl rfl ⟨Nat.le_of_ble_eq_true rfl, Nat.le_of_ble_eq_true rfl⟩ rfl hl.1 rfl (Nat.le_of_ble_eq_true rfl) ⟨Nat.zero_le _, Nat.zero_le _⟩ dX10_chooseNow_221 (fun H locs hP108 hm => ?_)
  cases hf
  exact x_iret C hm trivial dX10_chooseNow_224
/-! ColouredHeapModel.mendWord(I)V -/
theorem dX10_mendWord_0 : decode cX10_mendWord 0 = .ok (.aload_n 0, 1) := by decide +kernel
theorem dX10_mendWord_1 : decode cX10_mendWord 1 = .ok (.aload_n 0, 1) := by decide +kernel
theorem dX10_mendWord_2 : decode cX10_mendWord 2 = .ok (.getfield 7, 3) := by decide +kernel
theorem dX10_mendWord_5 : decode cX10_mendWord 5 = .ok (.bipush 41, 2) := by decide +kernel
theorem dX10_mendWord_7 : decode cX10_mendWord 7 = .ok (.iload_n 1, 1) := by decide +kernel
theorem dX10_mendWord_8 : decode cX10_mendWord 8 = .ok (.iadd, 1) := by decide +kernel
theorem dX10_mendWord_9 : decode cX10_mendWord 9 = .ok (.iaload, 1) := by decide +kernel
theorem dX10_mendWord_10 : decode cX10_mendWord 10 = .ok (.invokevirtual 343, 3) := by decide +kernel
theorem dX10_mendWord_13 : decode cX10_mendWord 13 = .ok (.istore_n 2, 1) := by decide +kernel
theorem dX10_mendWord_14 : decode cX10_mendWord 14 = .ok (.iload_n 2, 1) := by decide +kernel
theorem dX10_mendWord_15 : decode cX10_mendWord 15 = .ok (.aload_n 0, 1) := by decide +kernel
theorem dX10_mendWord_16 : decode cX10_mendWord 16 = .ok (.getfield 7, 3) := by decide +kernel
theorem dX10_mendWord_19 : decode cX10_mendWord 19 = .ok (.bipush 41, 2) := by decide +kernel
theorem dX10_mendWord_21 : decode cX10_mendWord 21 = .ok (.iload_n 1, 1) := by decide +kernel
theorem dX10_mendWord_22 : decode cX10_mendWord 22 = .ok (.iadd, 1) := by decide +kernel
theorem dX10_mendWord_23 : decode cX10_mendWord 23 = .ok (.iaload, 1) := by decide +kernel
theorem dX10_mendWord_24 : decode cX10_mendWord 24 = .ok (.if_icmp .ne 4, 3) := by decide +kernel
theorem dX10_mendWord_27 : decode cX10_mendWord 27 = .ok (.return_, 1) := by decide +kernel
theorem dX10_mendWord_28 : decode cX10_mendWord 28 = .ok (.aload_n 0, 1) := by decide +kernel
theorem dX10_mendWord_29 : decode cX10_mendWord 29 = .ok (.getfield 7, 3) := by decide +kernel
theorem dX10_mendWord_32 : decode cX10_mendWord 32 = .ok (.bipush 41, 2) := by decide +kernel
theorem dX10_mendWord_34 : decode cX10_mendWord 34 = .ok (.iload_n 1, 1) := by decide +kernel
theorem dX10_mendWord_35 : decode cX10_mendWord 35 = .ok (.iadd, 1) := by decide +kernel
theorem dX10_mendWord_36 : decode cX10_mendWord 36 = .ok (.iload_n 2, 1) := by decide +kernel
theorem dX10_mendWord_37 : decode cX10_mendWord 37 = .ok (.iastore, 1) := by decide +kernel
theorem dX10_mendWord_38 : decode cX10_mendWord 38 = .ok (.aload_n 0, 1) := by decide +kernel
theorem dX10_mendWord_39 : decode cX10_mendWord 39 = .ok (.iconst 5, 1) := by decide +kernel
theorem dX10_mendWord_40 : decode cX10_mendWord 40 = .ok (.iload_n 1, 1) := by decide +kernel
theorem dX10_mendWord_41 : decode cX10_mendWord 41 = .ok (.invokevirtual 313, 3) := by decide +kernel
theorem dX10_mendWord_44 : decode cX10_mendWord 44 = .ok (.return_, 1) := by decide +kernel
def f_X10_mendWord (M : xm) (a1 : Int32) : Option (xm) := if xin ((41 : Int32) + a1) 9878 = true then xb2 (f_X10_mended M (M 1 (Int32.toNatClampNeg ((41 : Int32) + a1)))) (fun v3 M4 => (if v3 = (M4 1 (Int32.toNatClampNeg ((41 : Int32) + a1))) then some M4 else xlet (up2 M4 1 (Int32.toNatClampNeg ((41 : Int32) + a1)) v3) (fun M7 => xb1 (f_X10_write M7 (5 : Int32) a1) (fun M9 => some M9)))) else none
set_option maxHeartbeats 4000000 in
set_option maxRecDepth 20000 in
theorem c_X10_mendWord (l : Launch) (E : xE) (b : Nat) (M : xm) (Lm : xn) (a1 : Int32) {M' : xm} (hf : f_X10_mendWord M a1 = some M') :
    xMet l E b NY yX10_mendWord cX10_mendWord 3 none (xR 6) [.ref (b + 0), .int a1] (cY E b M Lm) none True (cY E b M' Lm) := by
  refine xMet.ofW (own := RX10) (by decide) rfl (Nat.le_of_ble_eq_true rfl) ?_
  intro p e s m below meth c H locs ls C hm hl
  have hx := C.1.1
  have hb := C.1.2.1
  have hl : lv_has ls 3 [(0, .ref (b + 0)), (1, .int a1)] := hl
  unfold f_X10_mendWord at hf
  refine lv_aload_n hx hb dX10_mendWord_0 rfl (lv_at hl 0 rfl) ?_
  refine lv_aload_n hx hb dX10_mendWord_1 rfl (lv_at hl 0 rfl) ?_
  refine x_get C hm inX10 rfl 0 (by decide) tf_RX10_7 cy_0 rfl dX10_mendWord_2 ?_
  refine lv_bipush (v := (41 : Int32)) hx hb dX10_mendWord_5 (by decide) ?_
  refine lv_iload_n hx hb dX10_mendWord_7 rfl (lv_at hl 1 rfl) ?_
  refine lv_iadd hx hb dX10_mendWord_8 ?_
  obtain ⟨hi1, hf⟩ := xif_s hf
  refine x_iald (j := (Int32.toNatClampNeg ((41 : Int32) + a1))) C hm cy_1 hi1 dX10_mendWord_9 rfl ?_
  obtain ⟨v3, M4, hq2, hf⟩ := xb2_e hf
  refine x_callVi (As := [.int (M 1 (Int32.toNatClampNeg ((41 : Int32) + a1)))]) (rest := []) C hm (c_X10_mended l E b M Lm (M 1 (Int32.toNatClampNeg ((41 : Int32) + a1))) hq2) rfl cy_0 tc_X10_mended tm_RX10_343 ti_X10_mended ts_X10_mended tn_RX10 td_X10_mended rfl rfl ⟨Nat.le_of_ble_eq_true rfl, Nat.le_of_ble_eq_true rfl⟩ rfl hl.1 rfl (Nat.le_of_ble_eq_true rfl) ⟨Nat.zero_le _, Nat.zero_le _⟩ dX10_mendWord_10 (fun H locs hP5 hm => ?_)
  refine lv_istore_n (lv' := [(2, .int v3), (0, .ref (b + 0)), (1, .int a1)]) hx hb dX10_mendWord_13 rfl hl (by decide) rfl (fun ls hl => ?_)
  refine lv_iload_n hx hb dX10_mendWord_14 rfl (lv_at hl 0 rfl) ?_
  refine lv_aload_n hx hb dX10_mendWord_15 rfl (lv_at hl 1 rfl) ?_
  refine x_get C hm inX10 rfl 0 (by decide) tf_RX10_7 cy_0 rfl dX10_mendWord_16 ?_
  refine lv_bipush (v := (41 : Int32)) hx hb dX10_mendWord_19 (by decide) ?_
  refine lv_iload_n hx hb dX10_mendWord_21 rfl (lv_at hl 2 rfl) ?_
  refine lv_iadd hx hb dX10_mendWord_22 ?_
  refine x_iald (j := (Int32.toNatClampNeg ((41 : Int32) + a1))) C hm cy_1 hi1 dX10_mendWord_23 rfl ?_
  refine lv_icmp_ne (tgt := 28) hx hb dX10_mendWord_24 (by decide) (fun hc6 => ?_) (fun hc6 => ?_)
  rotate_left
  · have hf := xif_t hc6 hf
    cases hf
    exact x_vret C hm trivial dX10_mendWord_27
  have hf := xif_f hc6 hf
  refine lv_aload_n hx hb dX10_mendWord_28 rfl (lv_at hl 1 rfl) ?_
  refine x_get C hm inX10 rfl 0 (by decide) tf_RX10_7 cy_0 rfl dX10_mendWord_29 ?_
  refine lv_bipush (v := (41 : Int32)) hx hb dX10_mendWord_32 (by decide) ?_
  refine lv_iload_n hx hb dX10_mendWord_34 rfl (lv_at hl 2 rfl) ?_
  refine lv_iadd hx hb dX10_mendWord_35 ?_
  refine lv_iload_n hx hb dX10_mendWord_36 rfl (lv_at hl 0 rfl) ?_
  obtain ⟨M7, eM7, hf⟩ := xlet_x hf
  refine x_iast (j := (Int32.toNatClampNeg ((41 : Int32) + a1))) (cf' := cY E b M7 Lm) C hm cy_1 hi1 dX10_mendWord_37 rfl (by rw [eM7]; exact cyu_1) (by rw [eM7]; exact cY_o) (fun H locs hm => ?_)
  refine lv_aload_n hx hb dX10_mendWord_38 rfl (lv_at hl 1 rfl) ?_
  refine lv_iconst (v := (5 : Int32)) hx hb dX10_mendWord_39 (by decide) ?_
  refine lv_iload_n hx hb dX10_mendWord_40 rfl (lv_at hl 2 rfl) ?_
  obtain ⟨M9, hq8, hf⟩ := xb1_e hf
  refine x_callVv (As := [.int (5 : Int32), .int a1]) (rest := []) C hm (c_X10_write l E b M7 Lm (5 : Int32) a1 hq8) rfl cy_0 tc_X10_write tm_RX10_313 ti_X10_write ts_X10_write tn_RX10 td_X10_write rfl rfl ⟨Nat.le_of_ble_eq_true rfl, Nat.le_of_ble_eq_true rfl⟩ rfl hl.1 rfl (Nat.le_of_ble_eq_true rfl) ⟨Nat.zero_le _, Nat.zero_le _⟩ dX10_mendWord_41 (fun H locs hP10 hm => ?_)
  cases hf
  exact x_vret C hm trivial dX10_mendWord_44
/-! ColouredHeapModel.markNow()V -/
theorem dX10_markNow_0 : decode cX10_markNow 0 = .ok (.aload_n 0, 1) := by decide +kernel
theorem dX10_markNow_1 : decode cX10_markNow 1 = .ok (.getfield 7, 3) := by decide +kernel
theorem dX10_markNow_4 : decode cX10_markNow 4 = .ok (.bipush 8, 2) := by decide +kernel
theorem dX10_markNow_6 : decode cX10_markNow 6 = .ok (.dup2, 1) := by decide +kernel
theorem dX10_markNow_7 : decode cX10_markNow 7 = .ok (.iaload, 1) := by decide +kernel
theorem dX10_markNow_8 : decode cX10_markNow 8 = .ok (.iconst 1, 1) := by decide +kernel
theorem dX10_markNow_9 : decode cX10_markNow 9 = .ok (.isub, 1) := by decide +kernel
theorem dX10_markNow_10 : decode cX10_markNow 10 = .ok (.iastore, 1) := by decide +kernel
theorem dX10_markNow_11 : decode cX10_markNow 11 = .ok (.aload_n 0, 1) := by decide +kernel
theorem dX10_markNow_12 : decode cX10_markNow 12 = .ok (.getfield 7, 3) := by decide +kernel
theorem dX10_markNow_15 : decode cX10_markNow 15 = .ok (.sipush 233, 3) := by decide +kernel
theorem dX10_markNow_18 : decode cX10_markNow 18 = .ok (.aload_n 0, 1) := by decide +kernel
theorem dX10_markNow_19 : decode cX10_markNow 19 = .ok (.getfield 7, 3) := by decide +kernel
theorem dX10_markNow_22 : decode cX10_markNow 22 = .ok (.bipush 8, 2) := by decide +kernel
theorem dX10_markNow_24 : decode cX10_markNow 24 = .ok (.iaload, 1) := by decide +kernel
theorem dX10_markNow_25 : decode cX10_markNow 25 = .ok (.iadd, 1) := by decide +kernel
theorem dX10_markNow_26 : decode cX10_markNow 26 = .ok (.iaload, 1) := by decide +kernel
theorem dX10_markNow_27 : decode cX10_markNow 27 = .ok (.istore_n 1, 1) := by decide +kernel
theorem dX10_markNow_28 : decode cX10_markNow 28 = .ok (.iconst 1, 1) := by decide +kernel
theorem dX10_markNow_29 : decode cX10_markNow 29 = .ok (.istore_n 2, 1) := by decide +kernel
theorem dX10_markNow_30 : decode cX10_markNow 30 = .ok (.iload_n 2, 1) := by decide +kernel
theorem dX10_markNow_31 : decode cX10_markNow 31 = .ok (.aload_n 0, 1) := by decide +kernel
theorem dX10_markNow_32 : decode cX10_markNow 32 = .ok (.iload_n 1, 1) := by decide +kernel
theorem dX10_markNow_33 : decode cX10_markNow 33 = .ok (.invokevirtual 67, 3) := by decide +kernel
theorem dX10_markNow_36 : decode cX10_markNow 36 = .ok (.if_icmp .gt 16, 3) := by decide +kernel
theorem dX10_markNow_39 : decode cX10_markNow 39 = .ok (.aload_n 0, 1) := by decide +kernel
theorem dX10_markNow_40 : decode cX10_markNow 40 = .ok (.iload_n 1, 1) := by decide +kernel
theorem dX10_markNow_41 : decode cX10_markNow 41 = .ok (.iload_n 2, 1) := by decide +kernel
theorem dX10_markNow_42 : decode cX10_markNow 42 = .ok (.iadd, 1) := by decide +kernel
theorem dX10_markNow_43 : decode cX10_markNow 43 = .ok (.invokevirtual 355, 3) := by decide +kernel
theorem dX10_markNow_46 : decode cX10_markNow 46 = .ok (.iinc 2 1, 3) := by decide +kernel
theorem dX10_markNow_49 : decode cX10_markNow 49 = .ok (.goto (-19), 3) := by decide +kernel
theorem dX10_markNow_52 : decode cX10_markNow 52 = .ok (.return_, 1) := by decide +kernel
def g_X10_markNow_30 (x4 : Int32) : Nat → xm → Int32 → Option ((xm))
  | 0, _, _ => none
  | n + 1, M6, x5 => xb1 (f_X10_fieldsOf M6 x4) (fun v9 => (if v9 < x5 then some (M6) else xb1 (f_X10_mendWord M6 (x4 + x5)) (fun M13 => xlet (x5 + (1 : Int32)) (fun v15 => g_X10_markNow_30 x4 n M13 v15))))
def f_X10_markNow (M : xm) : Option (xm) := xlet (up2 M 1 8 ((M 1 8) - (1 : Int32))) (fun M1 => if xin ((233 : Int32) + (M1 1 8)) 9878 = true then xlet (M1 1 (Int32.toNatClampNeg ((233 : Int32) + (M1 1 8)))) (fun v3 => xb1 (g_X10_markNow_30 v3 xfuel M1 (1 : Int32)) (fun M16 => some M16)) else none)
set_option maxHeartbeats 4000000 in
set_option maxRecDepth 20000 in
theorem j_X10_markNow_30 {p : Program} {l : Launch} {e : Env} {s : State} {m : MethodId} {args : Array Value} {below : List Frame} {meth : Method} {c : Code} {Q : State → Prop} {E : xE} {b : Nat} (C : xC p s m args meth c cX10_markNow 3 RX10 none E b) {Lm : xn} (x4 : Int32) {y7 : xm}
    (kx0 : ∀ (H : Heap) (locs : List Loc) (ls : Array Slot), xM E b NY (cY E b y7 Lm) s.heap H locs → lv_has ls 3 [] → W p l e (xR 7) s m args below meth c H locs 0 0 Q (F0 m 52 ls [])) :
    ∀ (n : Nat) (M6 : xm) (x5 : Int32) (H : Heap) (locs : List Loc) (ls : Array Slot), g_X10_markNow_30 x4 n M6 x5 = some y7 → xM E b NY (cY E b M6 Lm) s.heap H locs → lv_has ls 3 [(0, .ref (b + 0)), (1, .int x4), (2, .int x5)] → W p l e (xR 7) s m args below meth c H locs 0 0 Q (F0 m 30 ls []) := by
  have hx := C.1.1
  have hb := C.1.2.1
  intro n
  induction n with
  | zero =>
    intro M6 x5 H locs ls hf hm hl
    rw [g_X10_markNow_30] at hf
    cases hf
  | succ n ih =>
    intro M6 x5 H locs ls hf hm hl
    rw [g_X10_markNow_30] at hf
    refine lv_iload_n hx hb dX10_markNow_30 rfl (lv_at hl 2 rfl) ?_
    refine lv_aload_n hx hb dX10_markNow_31 rfl (lv_at hl 0 rfl) ?_
    refine lv_iload_n hx hb dX10_markNow_32 rfl (lv_at hl 1 rfl) ?_
    obtain ⟨v9, hq8, hf⟩ := xb1_e hf
    refine x_callVi (As := [.int x4]) (rest := [.int x5]) C hm (c_X10_fieldsOf l E b M6 Lm x4 hq8) rfl cy_0 tc_X10_fieldsOf tm_RX10_67 ti_X10_fieldsOf ts_X10_fieldsOf tn_RX10 td_X10_fieldsOf rfl rfl ⟨Nat.le_of_ble_eq_true rfl, Nat.le_of_ble_eq_true rfl⟩ rfl hl.1 rfl (Nat.le_of_ble_eq_true rfl) ⟨Nat.zero_le _, Nat.zero_le _⟩ dX10_markNow_33 (fun H locs hP10 hm => ?_)
    refine lv_icmp_gt (tgt := 52) hx hb dX10_markNow_36 (by decide) (fun hc11 => ?_) (fun hc11 => ?_)
    · have hf := xif_t hc11 hf
      cases hf
      exact kx0 H locs ls hm (lv_sub hl [] rfl)
    have hf := xif_f hc11 hf
    refine lv_aload_n hx hb dX10_markNow_39 rfl (lv_at hl 0 rfl) ?_
    refine lv_iload_n hx hb dX10_markNow_40 rfl (lv_at hl 1 rfl) ?_
    refine lv_iload_n hx hb dX10_markNow_41 rfl (lv_at hl 2 rfl) ?_
    refine lv_iadd hx hb dX10_markNow_42 ?_
    obtain ⟨M13, hq12, hf⟩ := xb1_e hf
    refine x_callVv (As := [.int (x4 + x5)]) (rest := []) C hm (c_X10_mendWord l E b M6 Lm (x4 + x5) hq12) rfl cy_0 tc_X10_mendWord tm_RX10_355 ti_X10_mendWord ts_X10_mendWord tn_RX10 td_X10_mendWord rfl rfl ⟨Nat.le_of_ble_eq_true rfl, Nat.le_of_ble_eq_true rfl⟩ rfl hl.1 rfl (Nat.le_of_ble_eq_true rfl) ⟨Nat.zero_le _, Nat.zero_le _⟩ dX10_markNow_43 (fun H locs hP14 hm => ?_)
    obtain ⟨v15, ev15, hf⟩ := xlet_x hf
    refine lv_iinc (v := v15) (lv' := [(2, .int v15), (0, .ref (b + 0)), (1, .int x4)]) hx hb dX10_markNow_46 hl (k := 2) rfl (by rw [ev15]; rfl) (by decide) rfl (fun ls hl => ?_)
    refine lv_goto (tgt := 30) hx hb dX10_markNow_49 (by decide) ?_
    exact ih M13 v15 H locs ls hf hm (lv_sub hl [1, 2, 0] rfl)
set_option maxHeartbeats 4000000 in
set_option maxRecDepth 20000 in
theorem c_X10_markNow (l : Launch) (E : xE) (b : Nat) (M : xm) (Lm : xn) {M' : xm} (hf : f_X10_markNow M = some M') :
    xMet l E b NY yX10_markNow cX10_markNow 3 none (xR 7) [.ref (b + 0)] (cY E b M Lm) none True (cY E b M' Lm) := by
  refine xMet.ofW (own := RX10) (by decide) rfl (Nat.le_of_ble_eq_true rfl) ?_
  intro p e s m below meth c H locs ls C hm hl
  have hx := C.1.1
  have hb := C.1.2.1
  have hl : lv_has ls 3 [(0, .ref (b + 0))] := hl
  unfold f_X10_markNow at hf
  refine lv_aload_n hx hb dX10_markNow_0 rfl (lv_at hl 0 rfl) ?_
  refine x_get C hm inX10 rfl 0 (by decide) tf_RX10_7 cy_0 rfl dX10_markNow_1 ?_
  refine lv_bipush (v := (8 : Int32)) hx hb dX10_markNow_4 (by decide) ?_
  refine lv_dup2_11 hx hb dX10_markNow_6 rfl rfl ?_
  refine x_iald (j := 8) C hm cy_1 (by decide) dX10_markNow_7 (by decide) ?_
  refine lv_iconst (v := (1 : Int32)) hx hb dX10_markNow_8 (by decide) ?_
  refine lv_isub hx hb dX10_markNow_9 ?_
  obtain ⟨M1, eM1, hf⟩ := xlet_x hf
  refine x_iast (j := 8) (cf' := cY E b M1 Lm) C hm cy_1 (by decide) dX10_markNow_10 (by decide) (by rw [eM1]; exact cyu_1) (by rw [eM1]; exact cY_o) (fun H locs hm => ?_)
  refine lv_aload_n hx hb dX10_markNow_11 rfl (lv_at hl 0 rfl) ?_
  refine x_get C hm inX10 rfl 0 (by decide) tf_RX10_7 cy_0 rfl dX10_markNow_12 ?_
  refine lv_sipush (v := (233 : Int32)) hx hb dX10_markNow_15 (by decide) ?_
  refine lv_aload_n hx hb dX10_markNow_18 rfl (lv_at hl 0 rfl) ?_
  refine x_get C hm inX10 rfl 0 (by decide) tf_RX10_7 cy_0 rfl dX10_markNow_19 ?_
  refine lv_bipush (v := (8 : Int32)) hx hb dX10_markNow_22 (by decide) ?_
  refine x_iald (j := 8) C hm cy_1 (by decide) dX10_markNow_24 (by decide) ?_
  refine lv_iadd hx hb dX10_markNow_25 ?_
  obtain ⟨hi2, hf⟩ := xif_s hf
  refine x_iald (j := (Int32.toNatClampNeg ((233 : Int32) + (M1 1 8)))) C hm cy_1 hi2 dX10_markNow_26 rfl ?_
  refine lv_topi (fun v3 ev3 => ?_)
  have hf := xlet_e ev3 hf
  refine lv_istore_n (lv' := [(1, .int v3), (0, .ref (b + 0))]) hx hb dX10_markNow_27 rfl hl (by decide) rfl (fun ls hl => ?_)
  refine lv_iconst (v := (1 : Int32)) hx hb dX10_markNow_28 (by decide) ?_
  refine lv_istore_n (lv' := [(2, .int (1 : Int32)), (1, .int v3), (0, .ref (b + 0))]) hx hb dX10_markNow_29 rfl hl (by decide) rfl (fun ls hl => ?_)
  obtain ⟨M16, hq, hf⟩ := xb1_e hf
  refine j_X10_markNow_30 C v3 (fun H locs ls hm hl => ?_) xfuel M1 (1 : Int32) H locs ls hq hm (lv_sub hl [2, 1, 0] rfl)
  cases hf
  exact x_vret C hm trivial dX10_markNow_52
/-! ColouredHeapModel.nextMove()I -/
theorem dX10_nextMove_0 : decode cX10_nextMove 0 = .ok (.iconst 0, 1) := by decide +kernel
theorem dX10_nextMove_1 : decode cX10_nextMove 1 = .ok (.istore_n 1, 1) := by decide +kernel
theorem dX10_nextMove_2 : decode cX10_nextMove 2 = .ok (.iload_n 1, 1) := by decide +kernel
theorem dX10_nextMove_3 : decode cX10_nextMove 3 = .ok (.bipush 64, 2) := by decide +kernel
theorem dX10_nextMove_5 : decode cX10_nextMove 5 = .ok (.if_icmp .ge 56, 3) := by decide +kernel
theorem dX10_nextMove_8 : decode cX10_nextMove 8 = .ok (.aload_n 0, 1) := by decide +kernel
theorem dX10_nextMove_9 : decode cX10_nextMove 9 = .ok (.getfield 7, 3) := by decide +kernel
theorem dX10_nextMove_12 : decode cX10_nextMove 12 = .ok (.bipush 13, 2) := by decide +kernel
theorem dX10_nextMove_14 : decode cX10_nextMove 14 = .ok (.iload_n 1, 1) := by decide +kernel
theorem dX10_nextMove_15 : decode cX10_nextMove 15 = .ok (.bipush 8, 2) := by decide +kernel
theorem dX10_nextMove_17 : decode cX10_nextMove 17 = .ok (.idiv, 1) := by decide +kernel
theorem dX10_nextMove_18 : decode cX10_nextMove 18 = .ok (.iadd, 1) := by decide +kernel
theorem dX10_nextMove_19 : decode cX10_nextMove 19 = .ok (.iaload, 1) := by decide +kernel
theorem dX10_nextMove_20 : decode cX10_nextMove 20 = .ok (.iconst 2, 1) := by decide +kernel
theorem dX10_nextMove_21 : decode cX10_nextMove 21 = .ok (.if_icmp .ne 34, 3) := by decide +kernel
theorem dX10_nextMove_24 : decode cX10_nextMove 24 = .ok (.aload_n 0, 1) := by decide +kernel
theorem dX10_nextMove_25 : decode cX10_nextMove 25 = .ok (.iload_n 1, 1) := by decide +kernel
theorem dX10_nextMove_26 : decode cX10_nextMove 26 = .ok (.invokevirtual 74, 3) := by decide +kernel
theorem dX10_nextMove_29 : decode cX10_nextMove 29 = .ok (.ifCond .eq 26, 3) := by decide +kernel
theorem dX10_nextMove_32 : decode cX10_nextMove 32 = .ok (.aload_n 0, 1) := by decide +kernel
theorem dX10_nextMove_33 : decode cX10_nextMove 33 = .ok (.iload_n 1, 1) := by decide +kernel
theorem dX10_nextMove_34 : decode cX10_nextMove 34 = .ok (.invokevirtual 77, 3) := by decide +kernel
theorem dX10_nextMove_37 : decode cX10_nextMove 37 = .ok (.ifCond .eq 18, 3) := by decide +kernel
theorem dX10_nextMove_40 : decode cX10_nextMove 40 = .ok (.aload_n 0, 1) := by decide +kernel
theorem dX10_nextMove_41 : decode cX10_nextMove 41 = .ok (.getfield 7, 3) := by decide +kernel
theorem dX10_nextMove_44 : decode cX10_nextMove 44 = .ok (.bipush 105, 2) := by decide +kernel
theorem dX10_nextMove_46 : decode cX10_nextMove 46 = .ok (.iload_n 1, 1) := by decide +kernel
theorem dX10_nextMove_47 : decode cX10_nextMove 47 = .ok (.iadd, 1) := by decide +kernel
theorem dX10_nextMove_48 : decode cX10_nextMove 48 = .ok (.iaload, 1) := by decide +kernel
theorem dX10_nextMove_49 : decode cX10_nextMove 49 = .ok (.iconst (-1), 1) := by decide +kernel
theorem dX10_nextMove_50 : decode cX10_nextMove 50 = .ok (.if_icmp .ne 5, 3) := by decide +kernel
theorem dX10_nextMove_53 : decode cX10_nextMove 53 = .ok (.iload_n 1, 1) := by decide +kernel
theorem dX10_nextMove_54 : decode cX10_nextMove 54 = .ok (.ireturn, 1) := by decide +kernel
theorem dX10_nextMove_55 : decode cX10_nextMove 55 = .ok (.iinc 1 1, 3) := by decide +kernel
theorem dX10_nextMove_58 : decode cX10_nextMove 58 = .ok (.goto (-56), 3) := by decide +kernel
theorem dX10_nextMove_61 : decode cX10_nextMove 61 = .ok (.iconst (-1), 1) := by decide +kernel
theorem dX10_nextMove_62 : decode cX10_nextMove 62 = .ok (.ireturn, 1) := by decide +kernel
def g_X10_nextMove_2 (M : xm) : Nat → Int32 → Option ((Int32) ⊕ (Unit))
  | 0, _ => none
  | n + 1, x1 => (if (64 : Int32) ≤ x1 then some (Sum.inr ()) else if xin ((13 : Int32) + (x1 / (8 : Int32))) 9878 = true then (if (M 1 (Int32.toNatClampNeg ((13 : Int32) + (x1 / (8 : Int32))))) = (2 : Int32) then xb1 (f_X10_isHead M x1) (fun v7 => (if v7 = 0 then xlet (x1 + (1 : Int32)) (fun v10 => g_X10_nextMove_2 M n v10) else xb1 (f_X10_isMarked M x1) (fun v12 => (if v12 = 0 then xlet (x1 + (1 : Int32)) (fun v15 => g_X10_nextMove_2 M n v15) else if xin ((105 : Int32) + x1) 9878 = true then (if (M 1 (Int32.toNatClampNeg ((105 : Int32) + x1))) = (-1 : Int32) then some (Sum.inl x1) else xlet (x1 + (1 : Int32)) (fun v18 => g_X10_nextMove_2 M n v18)) else none)))) else xlet (x1 + (1 : Int32)) (fun v5 => g_X10_nextMove_2 M n v5)) else none)
def f_X10_nextMove (M : xm) : Option (Int32) := xs2 (g_X10_nextMove_2 M xfuel (0 : Int32)) (fun q19 => some q19) (fun q19 => some (-1 : Int32))
set_option maxHeartbeats 4000000 in
set_option maxRecDepth 20000 in
theorem j_X10_nextMove_2 {p : Program} {l : Launch} {e : Env} {s : State} {m : MethodId} {args : Array Value} {below : List Frame} {meth : Method} {c : Code} {Q : State → Prop} {E : xE} {b : Nat} (C : xC p s m args meth c cX10_nextMove 2 RX10 (some .int) E b) (M : xm) {Lm : xn} {r : (Int32) ⊕ (Unit)}
    (kx0 : ∀ q : Int32, r = Sum.inl q → ∀ (H : Heap) (locs : List Loc) (ls : Array Slot), xM E b NY (cY E b M Lm) s.heap H locs → lv_has ls 2 [(1, .int q)] → W p l e (xR 4) s m args below meth c H locs 0 0 Q (F0 m 53 ls []))
    (kx1 : ∀ q : Unit, r = Sum.inr q → ∀ (H : Heap) (locs : List Loc) (ls : Array Slot), xM E b NY (cY E b M Lm) s.heap H locs → lv_has ls 2 [] → W p l e (xR 4) s m args below meth c H locs 0 0 Q (F0 m 61 ls [])) :
    ∀ (n : Nat) (x1 : Int32) (H : Heap) (locs : List Loc) (ls : Array Slot), g_X10_nextMove_2 M n x1 = some r → xM E b NY (cY E b M Lm) s.heap H locs → lv_has ls 2 [(0, .ref (b + 0)), (1, .int x1)] → W p l e (xR 4) s m args below meth c H locs 0 0 Q (F0 m 2 ls []) := by
  have hx := C.1.1
  have hb := C.1.2.1
  intro n
  induction n with
  | zero =>
    intro x1 H locs ls hf hm hl
    rw [g_X10_nextMove_2] at hf
    cases hf
  | succ n ih =>
    intro x1 H locs ls hf hm hl
    rw [g_X10_nextMove_2] at hf
    refine lv_iload_n hx hb dX10_nextMove_2 rfl (lv_at hl 1 rfl) ?_
    refine lv_bipush (v := (64 : Int32)) hx hb dX10_nextMove_3 (by decide) ?_
    refine lv_icmp_ge (tgt := 61) hx hb dX10_nextMove_5 (by decide) (fun hc2 => ?_) (fun hc2 => ?_)
    · have hf := xif_t hc2 hf
      cases hf
      exact kx1 () rfl H locs ls hm (lv_sub hl [] rfl)
    have hf := xif_f hc2 hf
    refine lv_aload_n hx hb dX10_nextMove_8 rfl (lv_at hl 0 rfl) ?_
    refine x_get C hm inX10 rfl 0 (by decide) tf_RX10_7 cy_0 rfl dX10_nextMove_9 ?_
    refine lv_bipush (v := (13 : Int32)) hx hb dX10_nextMove_12 (by decide) ?_
    refine lv_iload_n hx hb dX10_nextMove_14 rfl (lv_at hl 1 rfl) ?_
    refine lv_bipush (v := (8 : Int32)) hx hb dX10_nextMove_15 (by decide) ?_
    refine lv_idiv hx hb dX10_nextMove_17 (by decide) ?_
    refine lv_iadd hx hb dX10_nextMove_18 ?_
    obtain ⟨hi3, hf⟩ := xif_s hf
    refine x_iald (j := (Int32.toNatClampNeg ((13 : Int32) + (x1 / (8 : Int32))))) C hm cy_1 hi3 dX10_nextMove_19 rfl ?_
    refine lv_iconst (v := (2 : Int32)) hx hb dX10_nextMove_20 (by decide) ?_
    refine lv_icmp_ne (tgt := 55) hx hb dX10_nextMove_21 (by decide) (fun hc4 => ?_) (fun hc4 => ?_)
    · have hf := xif_f hc4 hf
      obtain ⟨v5, ev5, hf⟩ := xlet_x hf
      refine lv_iinc (v := v5) (lv' := [(1, .int v5), (0, .ref (b + 0))]) hx hb dX10_nextMove_55 hl (k := 1) rfl (by rw [ev5]; rfl) (by decide) rfl (fun ls hl => ?_)
      refine lv_goto (tgt := 2) hx hb dX10_nextMove_58 (by decide) ?_
      exact ih v5 H locs ls hf hm (lv_sub hl [1, 0] rfl)
    have hf := xif_t hc4 hf
    refine lv_aload_n hx hb dX10_nextMove_24 rfl (lv_at hl 0 rfl) ?_
    refine lv_iload_n hx hb dX10_nextMove_25 rfl (lv_at hl 1 rfl) ?_
    obtain ⟨v7, hq6, hf⟩ := xb1_e hf
    refine x_callVi (As := [.int x1]) (rest := []) C hm (c_X10_isHead l E b M Lm x1 hq6) rfl cy_0 tc_X10_isHead tm_RX10_74 ti_X10_isHead ts_X10_isHead tn_RX10 td_X10_isHead rfl rfl ⟨Nat.le_of_ble_eq_true rfl, Nat.le_of_ble_eq_true rfl⟩ rfl hl.1 rfl (Nat.le_of_ble_eq_true rfl) ⟨Nat.zero_le _, Nat.zero_le _⟩ dX10_nextMove_26 (fun H locs hP8 hm => ?_)
    refine lv_if_eq (tgt := 55) hx hb dX10_nextMove_29 (by decide) (fun hc9 => ?_) (fun hc9 => ?_)
    · have hf := xif_t hc9 hf
      obtain ⟨v10, ev10, hf⟩ := xlet_x hf
      refine lv_iinc (v := v10) (lv' := [(1, .int v10), (0, .ref (b + 0))]) hx hb dX10_nextMove_55 hl (k := 1) rfl (by rw [ev10]; rfl) (by decide) rfl (fun ls hl => ?_)
      refine lv_goto (tgt := 2) hx hb dX10_nextMove_58 (by decide) ?_
      exact ih v10 H locs ls hf hm (lv_sub hl [1, 0] rfl)
    have hf := xif_f hc9 hf
    refine lv_aload_n hx hb dX10_nextMove_32 rfl (lv_at hl 0 rfl) ?_
    refine lv_iload_n hx hb dX10_nextMove_33 rfl (lv_at hl 1 rfl) ?_
    obtain ⟨v12, hq11, hf⟩ := xb1_e hf
    refine x_callVi (As := [.int x1]) (rest := []) C hm (c_X10_isMarked l E b M Lm x1 hq11) rfl cy_0 tc_X10_isMarked tm_RX10_77 ti_X10_isMarked ts_X10_isMarked tn_RX10 td_X10_isMarked rfl rfl ⟨Nat.le_of_ble_eq_true rfl, Nat.le_of_ble_eq_true rfl⟩ rfl hl.1 rfl (Nat.le_of_ble_eq_true rfl) ⟨Nat.zero_le _, Nat.zero_le _⟩ dX10_nextMove_34 (fun H locs hP13 hm => ?_)
    refine lv_if_eq (tgt := 55) hx hb dX10_nextMove_37 (by decide) (fun hc14 => ?_) (fun hc14 => ?_)
    · have hf := xif_t hc14 hf
      obtain ⟨v15, ev15, hf⟩ := xlet_x hf
      refine lv_iinc (v := v15) (lv' := [(1, .int v15), (0, .ref (b + 0))]) hx hb dX10_nextMove_55 hl (k := 1) rfl (by rw [ev15]; rfl) (by decide) rfl (fun ls hl => ?_)
      refine lv_goto (tgt := 2) hx hb dX10_nextMove_58 (by decide) ?_
      exact ih v15 H locs ls hf hm (lv_sub hl [1, 0] rfl)
    have hf := xif_f hc14 hf
    refine lv_aload_n hx hb dX10_nextMove_40 rfl (lv_at hl 0 rfl) ?_
    refine x_get C hm inX10 rfl 0 (by decide) tf_RX10_7 cy_0 rfl dX10_nextMove_41 ?_
    refine lv_bipush (v := (105 : Int32)) hx hb dX10_nextMove_44 (by decide) ?_
    refine lv_iload_n hx hb dX10_nextMove_46 rfl (lv_at hl 1 rfl) ?_
    refine lv_iadd hx hb dX10_nextMove_47 ?_
    obtain ⟨hi16, hf⟩ := xif_s hf
    refine x_iald (j := (Int32.toNatClampNeg ((105 : Int32) + x1))) C hm cy_1 hi16 dX10_nextMove_48 rfl ?_
    refine lv_iconst (v := (-1 : Int32)) hx hb dX10_nextMove_49 (by decide) ?_
    refine lv_icmp_ne (tgt := 55) hx hb dX10_nextMove_50 (by decide) (fun hc17 => ?_) (fun hc17 => ?_)
    rotate_left
    · have hf := xif_t hc17 hf
      cases hf
      exact kx0 x1 rfl H locs ls hm (lv_sub hl [1] rfl)
    have hf := xif_f hc17 hf
    obtain ⟨v18, ev18, hf⟩ := xlet_x hf
    refine lv_iinc (v := v18) (lv' := [(1, .int v18), (0, .ref (b + 0))]) hx hb dX10_nextMove_55 hl (k := 1) rfl (by rw [ev18]; rfl) (by decide) rfl (fun ls hl => ?_)
    refine lv_goto (tgt := 2) hx hb dX10_nextMove_58 (by decide) ?_
    exact ih v18 H locs ls hf hm (lv_sub hl [1, 0] rfl)
set_option maxHeartbeats 4000000 in
set_option maxRecDepth 20000 in
theorem c_X10_nextMove (l : Launch) (E : xE) (b : Nat) (M : xm) (Lm : xn) {r : Int32} (hf : f_X10_nextMove M = some r) :
    xMet l E b NY yX10_nextMove cX10_nextMove 2 (some .int) (xR 4) [.ref (b + 0)] (cY E b M Lm) (some (.int r)) True (cY E b M Lm) := by
  refine xMet.ofW (own := RX10) (by decide) rfl (Nat.le_of_ble_eq_true rfl) ?_
  intro p e s m below meth c H locs ls C hm hl
  have hx := C.1.1
  have hb := C.1.2.1
  have hl : lv_has ls 2 [(0, .ref (b + 0))] := hl
  unfold f_X10_nextMove at hf
  refine lv_iconst (v := (0 : Int32)) hx hb dX10_nextMove_0 (by decide) ?_
  refine lv_istore_n (lv' := [(1, .int (0 : Int32)), (0, .ref (b + 0))]) hx hb dX10_nextMove_1 rfl hl (by decide) rfl (fun ls hl => ?_)
  rcases xs2_e hf with ⟨q19, hq, hf⟩ | ⟨q19, hq, hf⟩
  · refine j_X10_nextMove_2 C M (r := Sum.inl q19) (fun q2 hr H locs ls hm hl => ?_) (fun q2 hr => by cases hr) xfuel (0 : Int32) H locs ls hq hm (lv_sub hl [1, 0] rfl)
    cases hr
    refine lv_iload_n hx hb dX10_nextMove_53 rfl (lv_at hl 0 rfl) ?_
    cases hf
    exact x_iret C hm trivial dX10_nextMove_54
  · refine j_X10_nextMove_2 C M (r := Sum.inr q19) (fun q2 hr => by cases hr) (fun q2 hr H locs ls hm hl => ?_) xfuel (0 : Int32) H locs ls hq hm (lv_sub hl [1, 0] rfl)
    cases hr
    refine lv_iconst (v := (-1 : Int32)) hx hb dX10_nextMove_61 (by decide) ?_
    cases hf
    exact x_iret C hm trivial dX10_nextMove_62
/-! ColouredHeapModel.oneMove()V -/
theorem dX10_oneMove_0 : decode cX10_oneMove 0 = .ok (.aload_n 0, 1) := by decide +kernel
theorem dX10_oneMove_1 : decode cX10_oneMove 1 = .ok (.invokevirtual 373, 3) := by decide +kernel
theorem dX10_oneMove_4 : decode cX10_oneMove 4 = .ok (.istore_n 1, 1) := by decide +kernel
theorem dX10_oneMove_5 : decode cX10_oneMove 5 = .ok (.iload_n 1, 1) := by decide +kernel
theorem dX10_oneMove_6 : decode cX10_oneMove 6 = .ok (.iconst (-1), 1) := by decide +kernel
theorem dX10_oneMove_7 : decode cX10_oneMove 7 = .ok (.if_icmp .eq 22, 3) := by decide +kernel
theorem dX10_oneMove_10 : decode cX10_oneMove 10 = .ok (.aload_n 0, 1) := by decide +kernel
theorem dX10_oneMove_11 : decode cX10_oneMove 11 = .ok (.aload_n 0, 1) := by decide +kernel
theorem dX10_oneMove_12 : decode cX10_oneMove 12 = .ok (.iload_n 1, 1) := by decide +kernel
theorem dX10_oneMove_13 : decode cX10_oneMove 13 = .ok (.invokevirtual 80, 3) := by decide +kernel
theorem dX10_oneMove_16 : decode cX10_oneMove 16 = .ok (.bipush 10, 2) := by decide +kernel
theorem dX10_oneMove_18 : decode cX10_oneMove 18 = .ok (.invokevirtual 337, 3) := by decide +kernel
theorem dX10_oneMove_21 : decode cX10_oneMove 21 = .ok (.ifCond .eq 8, 3) := by decide +kernel
theorem dX10_oneMove_24 : decode cX10_oneMove 24 = .ok (.aload_n 0, 1) := by decide +kernel
theorem dX10_oneMove_25 : decode cX10_oneMove 25 = .ok (.iload_n 1, 1) := by decide +kernel
theorem dX10_oneMove_26 : decode cX10_oneMove 26 = .ok (.invokevirtual 340, 3) := by decide +kernel
theorem dX10_oneMove_29 : decode cX10_oneMove 29 = .ok (.iload_n 1, 1) := by decide +kernel
theorem dX10_oneMove_30 : decode cX10_oneMove 30 = .ok (.iconst (-1), 1) := by decide +kernel
theorem dX10_oneMove_31 : decode cX10_oneMove 31 = .ok (.if_icmp .ne 10, 3) := by decide +kernel
theorem dX10_oneMove_34 : decode cX10_oneMove 34 = .ok (.aload_n 0, 1) := by decide +kernel
theorem dX10_oneMove_35 : decode cX10_oneMove 35 = .ok (.invokevirtual 358, 3) := by decide +kernel
theorem dX10_oneMove_38 : decode cX10_oneMove 38 = .ok (.ifCond .eq 4, 3) := by decide +kernel
theorem dX10_oneMove_41 : decode cX10_oneMove 41 = .ok (.return_, 1) := by decide +kernel
theorem dX10_oneMove_42 : decode cX10_oneMove 42 = .ok (.iconst 0, 1) := by decide +kernel
theorem dX10_oneMove_43 : decode cX10_oneMove 43 = .ok (.istore_n 2, 1) := by decide +kernel
theorem dX10_oneMove_44 : decode cX10_oneMove 44 = .ok (.iload_n 2, 1) := by decide +kernel
theorem dX10_oneMove_45 : decode cX10_oneMove 45 = .ok (.bipush 8, 2) := by decide +kernel
theorem dX10_oneMove_47 : decode cX10_oneMove 47 = .ok (.if_icmp .ge 27, 3) := by decide +kernel
theorem dX10_oneMove_50 : decode cX10_oneMove 50 = .ok (.aload_n 0, 1) := by decide +kernel
theorem dX10_oneMove_51 : decode cX10_oneMove 51 = .ok (.getfield 7, 3) := by decide +kernel
theorem dX10_oneMove_54 : decode cX10_oneMove 54 = .ok (.bipush 13, 2) := by decide +kernel
theorem dX10_oneMove_56 : decode cX10_oneMove 56 = .ok (.iload_n 2, 1) := by decide +kernel
theorem dX10_oneMove_57 : decode cX10_oneMove 57 = .ok (.iadd, 1) := by decide +kernel
theorem dX10_oneMove_58 : decode cX10_oneMove 58 = .ok (.iaload, 1) := by decide +kernel
theorem dX10_oneMove_59 : decode cX10_oneMove 59 = .ok (.iconst 2, 1) := by decide +kernel
theorem dX10_oneMove_60 : decode cX10_oneMove 60 = .ok (.if_icmp .ne 8, 3) := by decide +kernel
theorem dX10_oneMove_63 : decode cX10_oneMove 63 = .ok (.aload_n 0, 1) := by decide +kernel
theorem dX10_oneMove_64 : decode cX10_oneMove 64 = .ok (.iload_n 2, 1) := by decide +kernel
theorem dX10_oneMove_65 : decode cX10_oneMove 65 = .ok (.invokevirtual 367, 3) := by decide +kernel
theorem dX10_oneMove_68 : decode cX10_oneMove 68 = .ok (.iinc 2 1, 3) := by decide +kernel
theorem dX10_oneMove_71 : decode cX10_oneMove 71 = .ok (.goto (-27), 3) := by decide +kernel
theorem dX10_oneMove_74 : decode cX10_oneMove 74 = .ok (.aload_n 0, 1) := by decide +kernel
theorem dX10_oneMove_75 : decode cX10_oneMove 75 = .ok (.getfield 7, 3) := by decide +kernel
theorem dX10_oneMove_78 : decode cX10_oneMove 78 = .ok (.bipush 6, 2) := by decide +kernel
theorem dX10_oneMove_80 : decode cX10_oneMove 80 = .ok (.iconst 0, 1) := by decide +kernel
theorem dX10_oneMove_81 : decode cX10_oneMove 81 = .ok (.iastore, 1) := by decide +kernel
theorem dX10_oneMove_82 : decode cX10_oneMove 82 = .ok (.return_, 1) := by decide +kernel
def g_X10_oneMove_44  : Nat → xm → Int32 → Option ((xm))
  | 0, _, _ => none
  | n + 1, M12, x11 => (if (8 : Int32) ≤ x11 then some (M12) else if xin ((13 : Int32) + x11) 9878 = true then (if (M12 1 (Int32.toNatClampNeg ((13 : Int32) + x11))) = (2 : Int32) then xb1 (f_X10_freePage M12 x11) (fun M19 => xlet (x11 + (1 : Int32)) (fun v21 => g_X10_oneMove_44 n M19 v21)) else xlet (x11 + (1 : Int32)) (fun v17 => g_X10_oneMove_44 n M12 v17)) else none)
def f_X10_oneMove (M : xm) : Option (xm) := xb1 (f_X10_nextMove M) (fun v2 => xlet (fun (M4 : xm) => (if v2 = (-1 : Int32) then xb1 (f_X10_areThreadsBegun M4) (fun v8 => (if v8 = 0 then xb1 (g_X10_oneMove_44 xfuel M4 (0 : Int32)) (fun M22 => xlet (up2 M22 1 6 (0 : Int32)) (fun M23 => some M23)) else some M4)) else some M4)) (fun k5 => (if v2 = (-1 : Int32) then (k5 M) else xb1 (f_X10_sizeOf M v2) (fun v26 => xb1 (f_X10_hasRoom M v26 (10 : Int32)) (fun v29 => (if v29 = 0 then (k5 M) else xb1 (f_X10_moveNow M v2) (fun M33 => (k5 M33))))))))
set_option maxHeartbeats 4000000 in
set_option maxRecDepth 20000 in
theorem j_X10_oneMove_44 {p : Program} {l : Launch} {e : Env} {s : State} {m : MethodId} {args : Array Value} {below : List Frame} {meth : Method} {c : Code} {Q : State → Prop} {E : xE} {b : Nat} (C : xC p s m args meth c cX10_oneMove 3 RX10 none E b) {Lm : xn} {y13 : xm}
    (kx0 : ∀ (H : Heap) (locs : List Loc) (ls : Array Slot), xM E b NY (cY E b y13 Lm) s.heap H locs → lv_has ls 3 [(0, .ref (b + 0))] → W p l e (xR 5) s m args below meth c H locs 0 0 Q (F0 m 74 ls [])) :
    ∀ (n : Nat) (M12 : xm) (x11 : Int32) (H : Heap) (locs : List Loc) (ls : Array Slot), g_X10_oneMove_44 n M12 x11 = some y13 → xM E b NY (cY E b M12 Lm) s.heap H locs → lv_has ls 3 [(0, .ref (b + 0)), (2, .int x11)] → W p l e (xR 5) s m args below meth c H locs 0 0 Q (F0 m 44 ls []) := by
  have hx := C.1.1
  have hb := C.1.2.1
  intro n
  induction n with
  | zero =>
    intro M12 x11 H locs ls hf hm hl
    rw [g_X10_oneMove_44] at hf
    cases hf
  | succ n ih =>
    intro M12 x11 H locs ls hf hm hl
    rw [g_X10_oneMove_44] at hf
    refine lv_iload_n hx hb dX10_oneMove_44 rfl (lv_at hl 1 rfl) ?_
    refine lv_bipush (v := (8 : Int32)) hx hb dX10_oneMove_45 (by decide) ?_
    refine lv_icmp_ge (tgt := 74) hx hb dX10_oneMove_47 (by decide) (fun hc14 => ?_) (fun hc14 => ?_)
    · have hf := xif_t hc14 hf
      cases hf
      exact kx0 H locs ls hm (lv_sub hl [0] rfl)
    have hf := xif_f hc14 hf
    refine lv_aload_n hx hb dX10_oneMove_50 rfl (lv_at hl 0 rfl) ?_
    refine x_get C hm inX10 rfl 0 (by decide) tf_RX10_7 cy_0 rfl dX10_oneMove_51 ?_
    refine lv_bipush (v := (13 : Int32)) hx hb dX10_oneMove_54 (by decide) ?_
    refine lv_iload_n hx hb dX10_oneMove_56 rfl (lv_at hl 1 rfl) ?_
    refine lv_iadd hx hb dX10_oneMove_57 ?_
    obtain ⟨hi15, hf⟩ := xif_s hf
    refine x_iald (j := (Int32.toNatClampNeg ((13 : Int32) + x11))) C hm cy_1 hi15 dX10_oneMove_58 rfl ?_
    refine lv_iconst (v := (2 : Int32)) hx hb dX10_oneMove_59 (by decide) ?_
    refine lv_icmp_ne (tgt := 68) hx hb dX10_oneMove_60 (by decide) (fun hc16 => ?_) (fun hc16 => ?_)
    · have hf := xif_f hc16 hf
      obtain ⟨v17, ev17, hf⟩ := xlet_x hf
      refine lv_iinc (v := v17) (lv' := [(2, .int v17), (0, .ref (b + 0))]) hx hb dX10_oneMove_68 hl (k := 1) rfl (by rw [ev17]; rfl) (by decide) rfl (fun ls hl => ?_)
      refine lv_goto (tgt := 44) hx hb dX10_oneMove_71 (by decide) ?_
      exact ih M12 v17 H locs ls hf hm (lv_sub hl [1, 0] rfl)
    have hf := xif_t hc16 hf
    refine lv_aload_n hx hb dX10_oneMove_63 rfl (lv_at hl 0 rfl) ?_
    refine lv_iload_n hx hb dX10_oneMove_64 rfl (lv_at hl 1 rfl) ?_
    obtain ⟨M19, hq18, hf⟩ := xb1_e hf
    refine x_callVv (As := [.int x11]) (rest := []) C hm (c_X10_freePage l E b M12 Lm x11 hq18) rfl cy_0 tc_X10_freePage tm_RX10_367 ti_X10_freePage ts_X10_freePage tn_RX10 td_X10_freePage rfl rfl ⟨Nat.le_of_ble_eq_true rfl, Nat.le_of_ble_eq_true rfl⟩ rfl hl.1 rfl (Nat.le_of_ble_eq_true rfl) ⟨Nat.zero_le _, Nat.zero_le _⟩ dX10_oneMove_65 (fun H locs hP20 hm => ?_)
    obtain ⟨v21, ev21, hf⟩ := xlet_x hf
    refine lv_iinc (v := v21) (lv' := [(2, .int v21), (0, .ref (b + 0))]) hx hb dX10_oneMove_68 hl (k := 1) rfl (by rw [ev21]; rfl) (by decide) rfl (fun ls hl => ?_)
    refine lv_goto (tgt := 44) hx hb dX10_oneMove_71 (by decide) ?_
    exact ih M19 v21 H locs ls hf hm (lv_sub hl [1, 0] rfl)
set_option maxHeartbeats 4000000 in
set_option maxRecDepth 20000 in
theorem c_X10_oneMove (l : Launch) (E : xE) (b : Nat) (M : xm) (Lm : xn) {M' : xm} (hf : f_X10_oneMove M = some M') :
    xMet l E b NY yX10_oneMove cX10_oneMove 3 none (xR 5) [.ref (b + 0)] (cY E b M Lm) none True (cY E b M' Lm) := by
  refine xMet.ofW (own := RX10) (by decide) rfl (Nat.le_of_ble_eq_true rfl) ?_
  intro p e s m below meth c H locs ls C hm hl
  have hx := C.1.1
  have hb := C.1.2.1
  have hl : lv_has ls 3 [(0, .ref (b + 0))] := hl
  unfold f_X10_oneMove at hf
  refine lv_aload_n hx hb dX10_oneMove_0 rfl (lv_at hl 0 rfl) ?_
  obtain ⟨v2, hq1, hf⟩ := xb1_e hf
  refine x_callVi (As := []) (rest := []) C hm (c_X10_nextMove l E b M Lm hq1) rfl cy_0 tc_X10_nextMove tm_RX10_373 ti_X10_nextMove ts_X10_nextMove tn_RX10 td_X10_nextMove rfl rfl ⟨Nat.le_of_ble_eq_true rfl, Nat.le_of_ble_eq_true rfl⟩ rfl hl.1 rfl (Nat.le_of_ble_eq_true rfl) ⟨Nat.zero_le _, Nat.zero_le _⟩ dX10_oneMove_1 (fun H locs hP3 hm => ?_)
  refine lv_istore_n (lv' := [(1, .int v2), (0, .ref (b + 0))]) hx hb dX10_oneMove_4 rfl hl (by decide) rfl (fun ls hl => ?_)
  refine lv_iload_n hx hb dX10_oneMove_5 rfl (lv_at hl 0 rfl) ?_
  refine lv_iconst (v := (-1 : Int32)) hx hb dX10_oneMove_6 (by decide) ?_
  obtain ⟨k5, ek5, hf⟩ := xlet_x hf
  have jk5 : ∀ (M4 : xm) (H : Heap) (locs : List Loc) (ls : Array Slot), k5 M4 = some M' → xM E b NY (cY E b M4 Lm) s.heap H locs → lv_has ls 3 [(0, .ref (b + 0)), (1, .int v2)] → W p l e (xR 5) s m ([.ref (b + 0)] : List Value).toArray below meth c H locs 0 0 (MQ below (xQ E b NY none True (cY E b M' Lm)) ([.ref (b + 0)] : List Value).toArray s 0 0 (xA b NY)) (F0 m 29 ls []) := by
    intro M4 H locs ls hf hm hl
    have hf := xap1 ek5 hf
    refine lv_iload_n hx hb dX10_oneMove_29 rfl (lv_at hl 1 rfl) ?_
    refine lv_iconst (v := (-1 : Int32)) hx hb dX10_oneMove_30 (by decide) ?_
    refine lv_icmp_ne (tgt := 41) hx hb dX10_oneMove_31 (by decide) (fun hc6 => ?_) (fun hc6 => ?_)
    · have hf := xif_f hc6 hf
      cases hf
      exact x_vret C hm trivial dX10_oneMove_41
    have hf := xif_t hc6 hf
    refine lv_aload_n hx hb dX10_oneMove_34 rfl (lv_at hl 0 rfl) ?_
    obtain ⟨v8, hq7, hf⟩ := xb1_e hf
    refine x_callVi (As := []) (rest := []) C hm (c_X10_areThreadsBegun l E b M4 Lm hq7) rfl cy_0 tc_X10_areThreadsBegun tm_RX10_358 ti_X10_areThreadsBegun ts_X10_areThreadsBegun tn_RX10 td_X10_areThreadsBegun rfl rfl ⟨Nat.le_of_ble_eq_true rfl, Nat.le_of_ble_eq_true rfl⟩ rfl hl.1 rfl (Nat.le_of_ble_eq_true rfl) ⟨Nat.zero_le _, Nat.zero_le _⟩ dX10_oneMove_35 (fun H locs hP9 hm => ?_)
    refine lv_if_eq (tgt := 42) hx hb dX10_oneMove_38 (by decide) (fun hc10 => ?_) (fun hc10 => ?_)
    rotate_left
    · have hf := xif_f hc10 hf
      cases hf
      exact x_vret C hm trivial dX10_oneMove_41
    have hf := xif_t hc10 hf
    refine lv_iconst (v := (0 : Int32)) hx hb dX10_oneMove_42 (by decide) ?_
    refine lv_istore_n (lv' := [(2, .int (0 : Int32)), (0, .ref (b + 0)), (1, .int v2)]) hx hb dX10_oneMove_43 rfl hl (by decide) rfl (fun ls hl => ?_)
    obtain ⟨M22, hq, hf⟩ := xb1_e hf
    refine j_X10_oneMove_44 C (fun H locs ls hm hl => ?_) xfuel M4 (0 : Int32) H locs ls hq hm (lv_sub hl [1, 0] rfl)
    refine lv_aload_n hx hb dX10_oneMove_74 rfl (lv_at hl 0 rfl) ?_
    refine x_get C hm inX10 rfl 0 (by decide) tf_RX10_7 cy_0 rfl dX10_oneMove_75 ?_
    refine lv_bipush (v := (6 : Int32)) hx hb dX10_oneMove_78 (by decide) ?_
    refine lv_iconst (v := (0 : Int32)) hx hb dX10_oneMove_80 (by decide) ?_
    obtain ⟨M23, eM23, hf⟩ := xlet_x hf
    refine x_iast (j := 6) (cf' := cY E b M23 Lm) C hm cy_1 (by decide) dX10_oneMove_81 (by decide) (by rw [eM23]; exact cyu_1) (by rw [eM23]; exact cY_o) (fun H locs hm => ?_)
    cases hf
    exact x_vret C hm trivial dX10_oneMove_82
  refine lv_icmp_eq (tgt := 29) hx hb dX10_oneMove_7 (by decide) (fun hc24 => ?_) (fun hc24 => ?_)
  · have hf := xif_t hc24 hf
    exact jk5 M H locs ls  hf hm (lv_sub hl [1, 0] rfl)
  have hf := xif_f hc24 hf
  refine lv_aload_n hx hb dX10_oneMove_10 rfl (lv_at hl 1 rfl) ?_
  refine lv_aload_n hx hb dX10_oneMove_11 rfl (lv_at hl 1 rfl) ?_
  refine lv_iload_n hx hb dX10_oneMove_12 rfl (lv_at hl 0 rfl) ?_
  obtain ⟨v26, hq25, hf⟩ := xb1_e hf
  refine x_callVi (As := [.int v2]) (rest := [.ref (b + 0)]) C hm (c_X10_sizeOf l E b M Lm v2 hq25) rfl cy_0 tc_X10_sizeOf tm_RX10_80 ti_X10_sizeOf ts_X10_sizeOf tn_RX10 td_X10_sizeOf rfl rfl ⟨Nat.le_of_ble_eq_true rfl, Nat.le_of_ble_eq_true rfl⟩ rfl hl.1 rfl (Nat.le_of_ble_eq_true rfl) ⟨Nat.zero_le _, Nat.zero_le _⟩ dX10_oneMove_13 (fun H locs hP27 hm => ?_)
  refine lv_bipush (v := (10 : Int32)) hx hb dX10_oneMove_16 (by decide) ?_
  obtain ⟨v29, hq28, hf⟩ := xb1_e hf
  refine x_callVi (As := [.int v26, .int (10 : Int32)]) (rest := []) C hm (c_X10_hasRoom l E b M Lm v26 (10 : Int32) hq28) rfl cy_0 tc_X10_hasRoom tm_RX10_337 ti_X10_hasRoom ts_X10_hasRoom tn_RX10 td_X10_hasRoom rfl rfl ⟨Nat.le_of_ble_eq_true rfl, Nat.le_of_ble_eq_true rfl⟩ rfl hl.1 rfl (Nat.le_of_ble_eq_true rfl) ⟨Nat.zero_le _, Nat.zero_le _⟩ dX10_oneMove_18 (fun H locs hP30 hm => ?_)
  refine lv_if_eq (tgt := 29) hx hb dX10_oneMove_21 (by decide) (fun hc31 => ?_) (fun hc31 => ?_)
  · have hf := xif_t hc31 hf
    exact jk5 M H locs ls  hf hm (lv_sub hl [1, 0] rfl)
  have hf := xif_f hc31 hf
  refine lv_aload_n hx hb dX10_oneMove_24 rfl (lv_at hl 1 rfl) ?_
  refine lv_iload_n hx hb dX10_oneMove_25 rfl (lv_at hl 0 rfl) ?_
  obtain ⟨M33, hq32, hf⟩ := xb1_e hf
  refine x_callVv (As := [.int v2]) (rest := []) C hm (c_X10_moveNow l E b M Lm v2 hq32) rfl cy_0 tc_X10_moveNow tm_RX10_340 ti_X10_moveNow ts_X10_moveNow tn_RX10 td_X10_moveNow rfl rfl ⟨Nat.le_of_ble_eq_true rfl, Nat.le_of_ble_eq_true rfl⟩ rfl hl.1 rfl (Nat.le_of_ble_eq_true rfl) ⟨Nat.zero_le _, Nat.zero_le _⟩ dX10_oneMove_26 (fun H locs hP34 hm => ?_)
  exact jk5 M33 H locs ls  hf hm (lv_sub hl [1, 0] rfl)
/-! ColouredHeapModel.startNow()V -/
theorem dX10_startNow_0 : decode cX10_startNow 0 = .ok (.aload_n 0, 1) := by decide +kernel
theorem dX10_startNow_1 : decode cX10_startNow 1 = .ok (.getfield 7, 3) := by decide +kernel
theorem dX10_startNow_4 : decode cX10_startNow 4 = .ok (.bipush 11, 2) := by decide +kernel
theorem dX10_startNow_6 : decode cX10_startNow 6 = .ok (.iconst 1, 1) := by decide +kernel
theorem dX10_startNow_7 : decode cX10_startNow 7 = .ok (.aload_n 0, 1) := by decide +kernel
theorem dX10_startNow_8 : decode cX10_startNow 8 = .ok (.getfield 7, 3) := by decide +kernel
theorem dX10_startNow_11 : decode cX10_startNow 11 = .ok (.bipush 11, 2) := by decide +kernel
theorem dX10_startNow_13 : decode cX10_startNow 13 = .ok (.iaload, 1) := by decide +kernel
theorem dX10_startNow_14 : decode cX10_startNow 14 = .ok (.isub, 1) := by decide +kernel
theorem dX10_startNow_15 : decode cX10_startNow 15 = .ok (.iastore, 1) := by decide +kernel
theorem dX10_startNow_16 : decode cX10_startNow 16 = .ok (.aload_n 0, 1) := by decide +kernel
theorem dX10_startNow_17 : decode cX10_startNow 17 = .ok (.getfield 7, 3) := by decide +kernel
theorem dX10_startNow_20 : decode cX10_startNow 20 = .ok (.bipush 7, 2) := by decide +kernel
theorem dX10_startNow_22 : decode cX10_startNow 22 = .ok (.aload_n 0, 1) := by decide +kernel
theorem dX10_startNow_23 : decode cX10_startNow 23 = .ok (.getfield 7, 3) := by decide +kernel
theorem dX10_startNow_26 : decode cX10_startNow 26 = .ok (.bipush 11, 2) := by decide +kernel
theorem dX10_startNow_28 : decode cX10_startNow 28 = .ok (.iaload, 1) := by decide +kernel
theorem dX10_startNow_29 : decode cX10_startNow 29 = .ok (.iastore, 1) := by decide +kernel
theorem dX10_startNow_30 : decode cX10_startNow 30 = .ok (.aload_n 0, 1) := by decide +kernel
theorem dX10_startNow_31 : decode cX10_startNow 31 = .ok (.getfield 7, 3) := by decide +kernel
theorem dX10_startNow_34 : decode cX10_startNow 34 = .ok (.bipush 6, 2) := by decide +kernel
theorem dX10_startNow_36 : decode cX10_startNow 36 = .ok (.iconst 1, 1) := by decide +kernel
theorem dX10_startNow_37 : decode cX10_startNow 37 = .ok (.iastore, 1) := by decide +kernel
theorem dX10_startNow_38 : decode cX10_startNow 38 = .ok (.aload_n 0, 1) := by decide +kernel
theorem dX10_startNow_39 : decode cX10_startNow 39 = .ok (.getfield 7, 3) := by decide +kernel
theorem dX10_startNow_42 : decode cX10_startNow 42 = .ok (.bipush 8, 2) := by decide +kernel
theorem dX10_startNow_44 : decode cX10_startNow 44 = .ok (.iconst 0, 1) := by decide +kernel
theorem dX10_startNow_45 : decode cX10_startNow 45 = .ok (.iastore, 1) := by decide +kernel
theorem dX10_startNow_46 : decode cX10_startNow 46 = .ok (.iconst 0, 1) := by decide +kernel
theorem dX10_startNow_47 : decode cX10_startNow 47 = .ok (.istore_n 1, 1) := by decide +kernel
theorem dX10_startNow_48 : decode cX10_startNow 48 = .ok (.iload_n 1, 1) := by decide +kernel
theorem dX10_startNow_49 : decode cX10_startNow 49 = .ok (.bipush 64, 2) := by decide +kernel
theorem dX10_startNow_51 : decode cX10_startNow 51 = .ok (.if_icmp .ge 20, 3) := by decide +kernel
theorem dX10_startNow_54 : decode cX10_startNow 54 = .ok (.aload_n 0, 1) := by decide +kernel
theorem dX10_startNow_55 : decode cX10_startNow 55 = .ok (.getfield 7, 3) := by decide +kernel
theorem dX10_startNow_58 : decode cX10_startNow 58 = .ok (.sipush 169, 3) := by decide +kernel
theorem dX10_startNow_61 : decode cX10_startNow 61 = .ok (.iload_n 1, 1) := by decide +kernel
theorem dX10_startNow_62 : decode cX10_startNow 62 = .ok (.iadd, 1) := by decide +kernel
theorem dX10_startNow_63 : decode cX10_startNow 63 = .ok (.iconst 0, 1) := by decide +kernel
theorem dX10_startNow_64 : decode cX10_startNow 64 = .ok (.iastore, 1) := by decide +kernel
theorem dX10_startNow_65 : decode cX10_startNow 65 = .ok (.iinc 1 1, 3) := by decide +kernel
theorem dX10_startNow_68 : decode cX10_startNow 68 = .ok (.goto (-20), 3) := by decide +kernel
theorem dX10_startNow_71 : decode cX10_startNow 71 = .ok (.aload_n 0, 1) := by decide +kernel
theorem dX10_startNow_72 : decode cX10_startNow 72 = .ok (.iconst 1, 1) := by decide +kernel
theorem dX10_startNow_73 : decode cX10_startNow 73 = .ok (.aload_n 0, 1) := by decide +kernel
theorem dX10_startNow_74 : decode cX10_startNow 74 = .ok (.getfield 7, 3) := by decide +kernel
theorem dX10_startNow_77 : decode cX10_startNow 77 = .ok (.bipush 7, 2) := by decide +kernel
theorem dX10_startNow_79 : decode cX10_startNow 79 = .ok (.iaload, 1) := by decide +kernel
theorem dX10_startNow_80 : decode cX10_startNow 80 = .ok (.invokevirtual 313, 3) := by decide +kernel
theorem dX10_startNow_83 : decode cX10_startNow 83 = .ok (.aload_n 0, 1) := by decide +kernel
theorem dX10_startNow_84 : decode cX10_startNow 84 = .ok (.invokevirtual 361, 3) := by decide +kernel
theorem dX10_startNow_87 : decode cX10_startNow 87 = .ok (.return_, 1) := by decide +kernel
def g_X10_startNow_48  : Nat → xm → Int32 → Option ((xm))
  | 0, _, _ => none
  | n + 1, M6, x5 => (if (64 : Int32) ≤ x5 then some (M6) else if xin ((169 : Int32) + x5) 9878 = true then xlet (up2 M6 1 (Int32.toNatClampNeg ((169 : Int32) + x5)) (0 : Int32)) (fun M10 => xlet (x5 + (1 : Int32)) (fun v11 => g_X10_startNow_48 n M10 v11)) else none)
def f_X10_startNow (M : xm) : Option (xm) := xlet (up2 M 1 11 ((1 : Int32) - (M 1 11))) (fun M1 => xlet (up2 M1 1 7 (M1 1 11)) (fun M2 => xlet (up2 M2 1 6 (1 : Int32)) (fun M3 => xlet (up2 M3 1 8 (0 : Int32)) (fun M4 => xb1 (g_X10_startNow_48 xfuel M4 (0 : Int32)) (fun M12 => xb1 (f_X10_write M12 (1 : Int32) (M12 1 7)) (fun M14 => xb1 (f_X10_mendRoots M14) (fun M17 => some M17)))))))
set_option maxHeartbeats 4000000 in
set_option maxRecDepth 20000 in
theorem j_X10_startNow_48 {p : Program} {l : Launch} {e : Env} {s : State} {m : MethodId} {args : Array Value} {below : List Frame} {meth : Method} {c : Code} {Q : State → Prop} {E : xE} {b : Nat} (C : xC p s m args meth c cX10_startNow 2 RX10 none E b) {Lm : xn} {y7 : xm}
    (kx0 : ∀ (H : Heap) (locs : List Loc) (ls : Array Slot), xM E b NY (cY E b y7 Lm) s.heap H locs → lv_has ls 2 [(0, .ref (b + 0))] → W p l e (xR 7) s m args below meth c H locs 0 0 Q (F0 m 71 ls [])) :
    ∀ (n : Nat) (M6 : xm) (x5 : Int32) (H : Heap) (locs : List Loc) (ls : Array Slot), g_X10_startNow_48 n M6 x5 = some y7 → xM E b NY (cY E b M6 Lm) s.heap H locs → lv_has ls 2 [(0, .ref (b + 0)), (1, .int x5)] → W p l e (xR 7) s m args below meth c H locs 0 0 Q (F0 m 48 ls []) := by
  have hx := C.1.1
  have hb := C.1.2.1
  intro n
  induction n with
  | zero =>
    intro M6 x5 H locs ls hf hm hl
    rw [g_X10_startNow_48] at hf
    cases hf
  | succ n ih =>
    intro M6 x5 H locs ls hf hm hl
    rw [g_X10_startNow_48] at hf
    refine lv_iload_n hx hb dX10_startNow_48 rfl (lv_at hl 1 rfl) ?_
    refine lv_bipush (v := (64 : Int32)) hx hb dX10_startNow_49 (by decide) ?_
    refine lv_icmp_ge (tgt := 71) hx hb dX10_startNow_51 (by decide) (fun hc8 => ?_) (fun hc8 => ?_)
    · have hf := xif_t hc8 hf
      cases hf
      exact kx0 H locs ls hm (lv_sub hl [0] rfl)
    have hf := xif_f hc8 hf
    refine lv_aload_n hx hb dX10_startNow_54 rfl (lv_at hl 0 rfl) ?_
    refine x_get C hm inX10 rfl 0 (by decide) tf_RX10_7 cy_0 rfl dX10_startNow_55 ?_
    refine lv_sipush (v := (169 : Int32)) hx hb dX10_startNow_58 (by decide) ?_
    refine lv_iload_n hx hb dX10_startNow_61 rfl (lv_at hl 1 rfl) ?_
    refine lv_iadd hx hb dX10_startNow_62 ?_
    refine lv_iconst (v := (0 : Int32)) hx hb dX10_startNow_63 (by decide) ?_
    obtain ⟨hi9, hf⟩ := xif_s hf
    obtain ⟨M10, eM10, hf⟩ := xlet_x hf
    refine x_iast (j := (Int32.toNatClampNeg ((169 : Int32) + x5))) (cf' := cY E b M10 Lm) C hm cy_1 hi9 dX10_startNow_64 rfl (by rw [eM10]; exact cyu_1) (by rw [eM10]; exact cY_o) (fun H locs hm => ?_)
    obtain ⟨v11, ev11, hf⟩ := xlet_x hf
    refine lv_iinc (v := v11) (lv' := [(1, .int v11), (0, .ref (b + 0))]) hx hb dX10_startNow_65 hl (k := 1) rfl (by rw [ev11]; rfl) (by decide) rfl (fun ls hl => ?_)
    refine lv_goto (tgt := 48) hx hb dX10_startNow_68 (by decide) ?_
    exact ih M10 v11 H locs ls hf hm (lv_sub hl [1, 0] rfl)
set_option maxHeartbeats 4000000 in
set_option maxRecDepth 20000 in
theorem c_X10_startNow (l : Launch) (E : xE) (b : Nat) (M : xm) (Lm : xn) {M' : xm} (hf : f_X10_startNow M = some M') :
    xMet l E b NY yX10_startNow cX10_startNow 2 none (xR 7) [.ref (b + 0)] (cY E b M Lm) none True (cY E b M' Lm) := by
  refine xMet.ofW (own := RX10) (by decide) rfl (Nat.le_of_ble_eq_true rfl) ?_
  intro p e s m below meth c H locs ls C hm hl
  have hx := C.1.1
  have hb := C.1.2.1
  have hl : lv_has ls 2 [(0, .ref (b + 0))] := hl
  unfold f_X10_startNow at hf
  refine lv_aload_n hx hb dX10_startNow_0 rfl (lv_at hl 0 rfl) ?_
  refine x_get C hm inX10 rfl 0 (by decide) tf_RX10_7 cy_0 rfl dX10_startNow_1 ?_
  refine lv_bipush (v := (11 : Int32)) hx hb dX10_startNow_4 (by decide) ?_
  refine lv_iconst (v := (1 : Int32)) hx hb dX10_startNow_6 (by decide) ?_
  refine lv_aload_n hx hb dX10_startNow_7 rfl (lv_at hl 0 rfl) ?_
  refine x_get C hm inX10 rfl 0 (by decide) tf_RX10_7 cy_0 rfl dX10_startNow_8 ?_
  refine lv_bipush (v := (11 : Int32)) hx hb dX10_startNow_11 (by decide) ?_
  refine x_iald (j := 11) C hm cy_1 (by decide) dX10_startNow_13 (by decide) ?_
  refine lv_isub hx hb dX10_startNow_14 ?_
  obtain ⟨M1, eM1, hf⟩ := xlet_x hf
  refine x_iast (j := 11) (cf' := cY E b M1 Lm) C hm cy_1 (by decide) dX10_startNow_15 (by decide) (by rw [eM1]; exact cyu_1) (by rw [eM1]; exact cY_o) (fun H locs hm => ?_)
  refine lv_aload_n hx hb dX10_startNow_16 rfl (lv_at hl 0 rfl) ?_
  refine x_get C hm inX10 rfl 0 (by decide) tf_RX10_7 cy_0 rfl dX10_startNow_17 ?_
  refine lv_bipush (v := (7 : Int32)) hx hb dX10_startNow_20 (by decide) ?_
  refine lv_aload_n hx hb dX10_startNow_22 rfl (lv_at hl 0 rfl) ?_
  refine x_get C hm inX10 rfl 0 (by decide) tf_RX10_7 cy_0 rfl dX10_startNow_23 ?_
  refine lv_bipush (v := (11 : Int32)) hx hb dX10_startNow_26 (by decide) ?_
  refine x_iald (j := 11) C hm cy_1 (by decide) dX10_startNow_28 (by decide) ?_
  obtain ⟨M2, eM2, hf⟩ := xlet_x hf
  refine x_iast (j := 7) (cf' := cY E b M2 Lm) C hm cy_1 (by decide) dX10_startNow_29 (by decide) (by rw [eM2]; exact cyu_1) (by rw [eM2]; exact cY_o) (fun H locs hm => ?_)
  refine lv_aload_n hx hb dX10_startNow_30 rfl (lv_at hl 0 rfl) ?_
  refine x_get C hm inX10 rfl 0 (by decide) tf_RX10_7 cy_0 rfl dX10_startNow_31 ?_
  refine lv_bipush (v := (6 : Int32)) hx hb dX10_startNow_34 (by decide) ?_
  refine lv_iconst (v := (1 : Int32)) hx hb dX10_startNow_36 (by decide) ?_
  obtain ⟨M3, eM3, hf⟩ := xlet_x hf
  refine x_iast (j := 6) (cf' := cY E b M3 Lm) C hm cy_1 (by decide) dX10_startNow_37 (by decide) (by rw [eM3]; exact cyu_1) (by rw [eM3]; exact cY_o) (fun H locs hm => ?_)
  refine lv_aload_n hx hb dX10_startNow_38 rfl (lv_at hl 0 rfl) ?_
  refine x_get C hm inX10 rfl 0 (by decide) tf_RX10_7 cy_0 rfl dX10_startNow_39 ?_
  refine lv_bipush (v := (8 : Int32)) hx hb dX10_startNow_42 (by decide) ?_
  refine lv_iconst (v := (0 : Int32)) hx hb dX10_startNow_44 (by decide) ?_
  obtain ⟨M4, eM4, hf⟩ := xlet_x hf
  refine x_iast (j := 8) (cf' := cY E b M4 Lm) C hm cy_1 (by decide) dX10_startNow_45 (by decide) (by rw [eM4]; exact cyu_1) (by rw [eM4]; exact cY_o) (fun H locs hm => ?_)
  refine lv_iconst (v := (0 : Int32)) hx hb dX10_startNow_46 (by decide) ?_
  refine lv_istore_n (lv' := [(1, .int (0 : Int32)), (0, .ref (b + 0))]) hx hb dX10_startNow_47 rfl hl (by decide) rfl (fun ls hl => ?_)
  obtain ⟨M12, hq, hf⟩ := xb1_e hf
  refine j_X10_startNow_48 C (fun H locs ls hm hl => ?_) xfuel M4 (0 : Int32) H locs ls hq hm (lv_sub hl [1, 0] rfl)
  refine lv_aload_n hx hb dX10_startNow_71 rfl (lv_at hl 0 rfl) ?_
  refine lv_iconst (v := (1 : Int32)) hx hb dX10_startNow_72 (by decide) ?_
  refine lv_aload_n hx hb dX10_startNow_73 rfl (lv_at hl 0 rfl) ?_
  refine x_get C hm inX10 rfl 0 (by decide) tf_RX10_7 cy_0 rfl dX10_startNow_74 ?_
  refine lv_bipush (v := (7 : Int32)) hx hb dX10_startNow_77 (by decide) ?_
  refine x_iald (j := 7) C hm cy_1 (by decide) dX10_startNow_79 (by decide) ?_
  obtain ⟨M14, hq13, hf⟩ := xb1_e hf
  refine x_callVv (As := [.int (1 : Int32), .int (M12 1 7)]) (rest := []) C hm (c_X10_write l E b M12 Lm (1 : Int32) (M12 1 7) hq13) rfl cy_0 tc_X10_write tm_RX10_313 ti_X10_write ts_X10_write tn_RX10 td_X10_write rfl rfl ⟨Nat.le_of_ble_eq_true rfl, Nat.le_of_ble_eq_true rfl⟩ rfl hl.1 rfl (Nat.le_of_ble_eq_true rfl) ⟨Nat.zero_le _, Nat.zero_le _⟩ dX10_startNow_80 (fun H locs hP15 hm => ?_)
  refine lv_aload_n hx hb dX10_startNow_83 rfl (lv_at hl 0 rfl) ?_
  obtain ⟨M17, hq16, hf⟩ := xb1_e hf
  refine x_callVv (As := []) (rest := []) C hm (c_X10_mendRoots l E b M14 Lm hq16) rfl cy_0 tc_X10_mendRoots tm_RX10_361 ti_X10_mendRoots ts_X10_mendRoots tn_RX10 td_X10_mendRoots rfl rfl ⟨Nat.le_of_ble_eq_true rfl, Nat.le_of_ble_eq_true rfl⟩ rfl hl.1 rfl (Nat.le_of_ble_eq_true rfl) ⟨Nat.zero_le _, Nat.zero_le _⟩ dX10_startNow_84 (fun H locs hP18 hm => ?_)
  cases hf
  exact x_vret C hm trivial dX10_startNow_87
/-! ColouredHeapModel.tick()V -/
theorem dX10_tick_0 : decode cX10_tick 0 = .ok (.aload_n 0, 1) := by decide +kernel
theorem dX10_tick_1 : decode cX10_tick 1 = .ok (.getfield 7, 3) := by decide +kernel
theorem dX10_tick_4 : decode cX10_tick 4 = .ok (.bipush 6, 2) := by decide +kernel
theorem dX10_tick_6 : decode cX10_tick 6 = .ok (.iaload, 1) := by decide +kernel
theorem dX10_tick_7 : decode cX10_tick 7 = .ok (.iconst 2, 1) := by decide +kernel
theorem dX10_tick_8 : decode cX10_tick 8 = .ok (.if_icmp .ne 10, 3) := by decide +kernel
theorem dX10_tick_11 : decode cX10_tick 11 = .ok (.aload_n 0, 1) := by decide +kernel
theorem dX10_tick_12 : decode cX10_tick 12 = .ok (.invokevirtual 376, 3) := by decide +kernel
theorem dX10_tick_15 : decode cX10_tick 15 = .ok (.goto 57, 3) := by decide +kernel
theorem dX10_tick_18 : decode cX10_tick 18 = .ok (.aload_n 0, 1) := by decide +kernel
theorem dX10_tick_19 : decode cX10_tick 19 = .ok (.getfield 7, 3) := by decide +kernel
theorem dX10_tick_22 : decode cX10_tick 22 = .ok (.bipush 6, 2) := by decide +kernel
theorem dX10_tick_24 : decode cX10_tick 24 = .ok (.iaload, 1) := by decide +kernel
theorem dX10_tick_25 : decode cX10_tick 25 = .ok (.iconst 1, 1) := by decide +kernel
theorem dX10_tick_26 : decode cX10_tick 26 = .ok (.if_icmp .ne 20, 3) := by decide +kernel
theorem dX10_tick_29 : decode cX10_tick 29 = .ok (.aload_n 0, 1) := by decide +kernel
theorem dX10_tick_30 : decode cX10_tick 30 = .ok (.getfield 7, 3) := by decide +kernel
theorem dX10_tick_33 : decode cX10_tick 33 = .ok (.bipush 8, 2) := by decide +kernel
theorem dX10_tick_35 : decode cX10_tick 35 = .ok (.iaload, 1) := by decide +kernel
theorem dX10_tick_36 : decode cX10_tick 36 = .ok (.ifCond .le 10, 3) := by decide +kernel
theorem dX10_tick_39 : decode cX10_tick 39 = .ok (.aload_n 0, 1) := by decide +kernel
theorem dX10_tick_40 : decode cX10_tick 40 = .ok (.invokevirtual 379, 3) := by decide +kernel
theorem dX10_tick_43 : decode cX10_tick 43 = .ok (.goto 29, 3) := by decide +kernel
theorem dX10_tick_46 : decode cX10_tick 46 = .ok (.aload_n 0, 1) := by decide +kernel
theorem dX10_tick_47 : decode cX10_tick 47 = .ok (.invokevirtual 382, 3) := by decide +kernel
theorem dX10_tick_50 : decode cX10_tick 50 = .ok (.ifCond .eq 11, 3) := by decide +kernel
theorem dX10_tick_53 : decode cX10_tick 53 = .ok (.aload_n 0, 1) := by decide +kernel
theorem dX10_tick_54 : decode cX10_tick 54 = .ok (.invokevirtual 385, 3) := by decide +kernel
theorem dX10_tick_57 : decode cX10_tick 57 = .ok (.pop, 1) := by decide +kernel
theorem dX10_tick_58 : decode cX10_tick 58 = .ok (.goto 14, 3) := by decide +kernel
theorem dX10_tick_61 : decode cX10_tick 61 = .ok (.aload_n 0, 1) := by decide +kernel
theorem dX10_tick_62 : decode cX10_tick 62 = .ok (.invokevirtual 388, 3) := by decide +kernel
theorem dX10_tick_65 : decode cX10_tick 65 = .ok (.ifCond .eq 7, 3) := by decide +kernel
theorem dX10_tick_68 : decode cX10_tick 68 = .ok (.aload_n 0, 1) := by decide +kernel
theorem dX10_tick_69 : decode cX10_tick 69 = .ok (.invokevirtual 391, 3) := by decide +kernel
theorem dX10_tick_72 : decode cX10_tick 72 = .ok (.aload_n 0, 1) := by decide +kernel
theorem dX10_tick_73 : decode cX10_tick 73 = .ok (.getfield 7, 3) := by decide +kernel
theorem dX10_tick_76 : decode cX10_tick 76 = .ok (.iconst 4, 1) := by decide +kernel
theorem dX10_tick_77 : decode cX10_tick 77 = .ok (.dup2, 1) := by decide +kernel
theorem dX10_tick_78 : decode cX10_tick 78 = .ok (.iaload, 1) := by decide +kernel
theorem dX10_tick_79 : decode cX10_tick 79 = .ok (.iconst 1, 1) := by decide +kernel
theorem dX10_tick_80 : decode cX10_tick 80 = .ok (.iadd, 1) := by decide +kernel
theorem dX10_tick_81 : decode cX10_tick 81 = .ok (.iastore, 1) := by decide +kernel
theorem dX10_tick_82 : decode cX10_tick 82 = .ok (.return_, 1) := by decide +kernel
def f_X10_tick (M : xm) (Lm : xn) : Option (xm × xn) := (if (M 1 6) = (2 : Int32) then xb1 (f_X10_oneMove M) (fun M29 => xlet (up2 M29 1 4 ((M29 1 4) + (1 : Int32))) (fun M31 => some (M31, Lm))) else xlet (xb1 (f_X10_canChoose M) (fun v4 => (if v4 = 0 then xb1 (f_X10_canStart M) (fun v8 => (if v8 = 0 then xlet (up2 M 1 4 ((M 1 4) + (1 : Int32))) (fun M11 => some (M11, Lm)) else xb1 (f_X10_startNow M) (fun M13 => xlet (up2 M13 1 4 ((M13 1 4) + (1 : Int32))) (fun M15 => some (M15, Lm))))) else xb3 (f_X10_chooseNow M Lm) (fun v17 M18 L19 => xlet (up2 M18 1 4 ((M18 1 4) + (1 : Int32))) (fun M21 => some (M21, L19)))))) (fun k2 => (if (M 1 6) = (1 : Int32) then (if (M 1 8) ≤ 0 then k2 else xb1 (f_X10_markNow M) (fun M25 => xlet (up2 M25 1 4 ((M25 1 4) + (1 : Int32))) (fun M27 => some (M27, Lm)))) else k2)))
set_option maxHeartbeats 4000000 in
set_option maxRecDepth 20000 in
theorem c_X10_tick (l : Launch) (E : xE) (b : Nat) (M : xm) (Lm : xn) {M' : xm} {L' : xn} (hf : f_X10_tick M Lm = some (M', L')) :
    xMet l E b NY yX10_tick cX10_tick 1 none (xR 9) [.ref (b + 0)] (cY E b M Lm) none True (cY E b M' L') := by
  refine xMet.ofW (own := RX10) (by decide) rfl (Nat.le_of_ble_eq_true rfl) ?_
  intro p e s m below meth c H locs ls C hm hl
  have hx := C.1.1
  have hb := C.1.2.1
  have hl : lv_has ls 1 [(0, .ref (b + 0))] := hl
  unfold f_X10_tick at hf
  refine lv_aload_n hx hb dX10_tick_0 rfl (lv_at hl 0 rfl) ?_
  refine x_get C hm inX10 rfl 0 (by decide) tf_RX10_7 cy_0 rfl dX10_tick_1 ?_
  refine lv_bipush (v := (6 : Int32)) hx hb dX10_tick_4 (by decide) ?_
  refine x_iald (j := 6) C hm cy_1 (by decide) dX10_tick_6 (by decide) ?_
  refine lv_iconst (v := (2 : Int32)) hx hb dX10_tick_7 (by decide) ?_
  refine lv_icmp_ne (tgt := 18) hx hb dX10_tick_8 (by decide) (fun hc1 => ?_) (fun hc1 => ?_)
  rotate_left
  · have hf := xif_t hc1 hf
    refine lv_aload_n hx hb dX10_tick_11 rfl (lv_at hl 0 rfl) ?_
    obtain ⟨M29, hq28, hf⟩ := xb1_e hf
    refine x_callVv (As := []) (rest := []) C hm (c_X10_oneMove l E b M Lm hq28) rfl cy_0 tc_X10_oneMove tm_RX10_376 ti_X10_oneMove ts_X10_oneMove tn_RX10 td_X10_oneMove rfl rfl ⟨Nat.le_of_ble_eq_true rfl, Nat.le_of_ble_eq_true rfl⟩ rfl hl.1 rfl (Nat.le_of_ble_eq_true rfl) ⟨Nat.zero_le _, Nat.zero_le _⟩ dX10_tick_12 (fun H locs hP30 hm => ?_)
    refine lv_goto (tgt := 72) hx hb dX10_tick_15 (by decide) ?_
    refine lv_aload_n hx hb dX10_tick_72 rfl (lv_at hl 0 rfl) ?_
    refine x_get C hm inX10 rfl 0 (by decide) tf_RX10_7 cy_0 rfl dX10_tick_73 ?_
    refine lv_iconst (v := (4 : Int32)) hx hb dX10_tick_76 (by decide) ?_
    refine lv_dup2_11 hx hb dX10_tick_77 rfl rfl ?_
    refine x_iald (j := 4) C hm cy_1 (by decide) dX10_tick_78 (by decide) ?_
    refine lv_iconst (v := (1 : Int32)) hx hb dX10_tick_79 (by decide) ?_
    refine lv_iadd hx hb dX10_tick_80 ?_
    obtain ⟨M31, eM31, hf⟩ := xlet_x hf
    refine x_iast (j := 4) (cf' := cY E b M31 Lm) C hm cy_1 (by decide) dX10_tick_81 (by decide) (by rw [eM31]; exact cyu_1) (by rw [eM31]; exact cY_o) (fun H locs hm => ?_)
    cases hf
    exact x_vret C hm trivial dX10_tick_82
  have hf := xif_f hc1 hf
  refine lv_aload_n hx hb dX10_tick_18 rfl (lv_at hl 0 rfl) ?_
  refine x_get C hm inX10 rfl 0 (by decide) tf_RX10_7 cy_0 rfl dX10_tick_19 ?_
  refine lv_bipush (v := (6 : Int32)) hx hb dX10_tick_22 (by decide) ?_
  refine x_iald (j := 6) C hm cy_1 (by decide) dX10_tick_24 (by decide) ?_
  refine lv_iconst (v := (1 : Int32)) hx hb dX10_tick_25 (by decide) ?_
  obtain ⟨k2, ek2, hf⟩ := xlet_x hf
  have jk2 : ∀  (H : Heap) (locs : List Loc) (ls : Array Slot), k2 = some (M', L') → xM E b NY (cY E b M Lm) s.heap H locs → lv_has ls 1 [(0, .ref (b + 0))] → W p l e (xR 9) s m ([.ref (b + 0)] : List Value).toArray below meth c H locs 0 0 (MQ below (xQ E b NY none True (cY E b M' L')) ([.ref (b + 0)] : List Value).toArray s 0 0 (xA b NY)) (F0 m 46 ls []) := by
    intro  H locs ls hf hm hl
    have hf := xap0 ek2 hf
    refine lv_aload_n hx hb dX10_tick_46 rfl (lv_at hl 0 rfl) ?_
    obtain ⟨v4, hq3, hf⟩ := xb1_e hf
    refine x_callVi (As := []) (rest := []) C hm (c_X10_canChoose l E b M Lm hq3) rfl cy_0 tc_X10_canChoose tm_RX10_382 ti_X10_canChoose ts_X10_canChoose tn_RX10 td_X10_canChoose rfl rfl ⟨Nat.le_of_ble_eq_true rfl, Nat.le_of_ble_eq_true rfl⟩ rfl hl.1 rfl (Nat.le_of_ble_eq_true rfl) ⟨Nat.zero_le _, Nat.zero_le _⟩ dX10_tick_47 (fun H locs hP5 hm => ?_)
    refine lv_if_eq (tgt := 61) hx hb dX10_tick_50 (by decide) (fun hc6 => ?_) (fun hc6 => ?_)
    rotate_left
    · have hf := xif_f hc6 hf
      refine lv_aload_n hx hb dX10_tick_53 rfl (lv_at hl 0 rfl) ?_
      obtain ⟨v17, M18, L19, hq16, hf⟩ := xb3_e hf
      refine x_callVi (As := []) (rest := []) C hm (c_X10_chooseNow l E b M Lm hq16) rfl cy_0 tc_X10_chooseNow tm_RX10_385 ti_X10_chooseNow ts_X10_chooseNow tn_RX10 td_X10_chooseNow rfl rfl ⟨Nat.le_of_ble_eq_true rfl, Nat.le_of_ble_eq_true rfl⟩ rfl hl.1 rfl (Nat.le_of_ble_eq_true rfl) ⟨Nat.zero_le _, Nat.zero_le _⟩ dX10_tick_54 (fun H locs hP20 hm => ?_)
      refine lv_pop hx hb dX10_tick_57 rfl ?_
      refine lv_goto (tgt := 72) hx hb dX10_tick_58 (by decide) ?_
      refine lv_aload_n hx hb dX10_tick_72 rfl (lv_at hl 0 rfl) ?_
      refine x_get C hm inX10 rfl 0 (by decide) tf_RX10_7 cy_0 rfl dX10_tick_73 ?_
      refine lv_iconst (v := (4 : Int32)) hx hb dX10_tick_76 (by decide) ?_
      refine lv_dup2_11 hx hb dX10_tick_77 rfl rfl ?_
      refine x_iald (j := 4) C hm cy_1 (by decide) dX10_tick_78 (by decide) ?_
      refine lv_iconst (v := (1 : Int32)) hx hb dX10_tick_79 (by decide) ?_
      refine lv_iadd hx hb dX10_tick_80 ?_
      obtain ⟨M21, eM21, hf⟩ := xlet_x hf
      refine x_iast (j := 4) (cf' := cY E b M21 L19) C hm cy_1 (by decide) dX10_tick_81 (by decide) (by rw [eM21]; exact cyu_1) (by rw [eM21]; exact cY_o) (fun H locs hm => ?_)
      cases hf
      exact x_vret C hm trivial dX10_tick_82
    have hf := xif_t hc6 hf
    refine lv_aload_n hx hb dX10_tick_61 rfl (lv_at hl 0 rfl) ?_
    obtain ⟨v8, hq7, hf⟩ := xb1_e hf
    refine x_callVi (As := []) (rest := []) C hm (c_X10_canStart l E b M Lm hq7) rfl cy_0 tc_X10_canStart tm_RX10_388 ti_X10_canStart ts_X10_canStart tn_RX10 td_X10_canStart rfl rfl ⟨Nat.le_of_ble_eq_true rfl, Nat.le_of_ble_eq_true rfl⟩ rfl hl.1 rfl (Nat.le_of_ble_eq_true rfl) ⟨Nat.zero_le _, Nat.zero_le _⟩ dX10_tick_62 (fun H locs hP9 hm => ?_)
    refine lv_if_eq (tgt := 72) hx hb dX10_tick_65 (by decide) (fun hc10 => ?_) (fun hc10 => ?_)
    · have hf := xif_t hc10 hf
      refine lv_aload_n hx hb dX10_tick_72 rfl (lv_at hl 0 rfl) ?_
      refine x_get C hm inX10 rfl 0 (by decide) tf_RX10_7 cy_0 rfl dX10_tick_73 ?_
      refine lv_iconst (v := (4 : Int32)) hx hb dX10_tick_76 (by decide) ?_
      refine lv_dup2_11 hx hb dX10_tick_77 rfl rfl ?_
      refine x_iald (j := 4) C hm cy_1 (by decide) dX10_tick_78 (by decide) ?_
      refine lv_iconst (v := (1 : Int32)) hx hb dX10_tick_79 (by decide) ?_
      refine lv_iadd hx hb dX10_tick_80 ?_
      obtain ⟨M11, eM11, hf⟩ := xlet_x hf
      refine x_iast (j := 4) (cf' := cY E b M11 Lm) C hm cy_1 (by decide) dX10_tick_81 (by decide) (by rw [eM11]; exact cyu_1) (by rw [eM11]; exact cY_o) (fun H locs hm => ?_)
      cases hf
      exact x_vret C hm trivial dX10_tick_82
    have hf := xif_f hc10 hf
    refine lv_aload_n hx hb dX10_tick_68 rfl (lv_at hl 0 rfl) ?_
    obtain ⟨M13, hq12, hf⟩ := xb1_e hf
    refine x_callVv (As := []) (rest := []) C hm (c_X10_startNow l E b M Lm hq12) rfl cy_0 tc_X10_startNow tm_RX10_391 ti_X10_startNow ts_X10_startNow tn_RX10 td_X10_startNow rfl rfl ⟨Nat.le_of_ble_eq_true rfl, Nat.le_of_ble_eq_true rfl⟩ rfl hl.1 rfl (Nat.le_of_ble_eq_true rfl) ⟨Nat.zero_le _, Nat.zero_le _⟩ dX10_tick_69 (fun H locs hP14 hm => ?_)
    refine lv_aload_n hx hb dX10_tick_72 rfl (lv_at hl 0 rfl) ?_
    refine x_get C hm inX10 rfl 0 (by decide) tf_RX10_7 cy_0 rfl dX10_tick_73 ?_
    refine lv_iconst (v := (4 : Int32)) hx hb dX10_tick_76 (by decide) ?_
    refine lv_dup2_11 hx hb dX10_tick_77 rfl rfl ?_
    refine x_iald (j := 4) C hm cy_1 (by decide) dX10_tick_78 (by decide) ?_
    refine lv_iconst (v := (1 : Int32)) hx hb dX10_tick_79 (by decide) ?_
    refine lv_iadd hx hb dX10_tick_80 ?_
    obtain ⟨M15, eM15, hf⟩ := xlet_x hf
    refine x_iast (j := 4) (cf' := cY E b M15 Lm) C hm cy_1 (by decide) dX10_tick_81 (by decide) (by rw [eM15]; exact cyu_1) (by rw [eM15]; exact cY_o) (fun H locs hm => ?_)
    cases hf
    exact x_vret C hm trivial dX10_tick_82
  refine lv_icmp_ne (tgt := 46) hx hb dX10_tick_26 (by decide) (fun hc22 => ?_) (fun hc22 => ?_)
  · have hf := xif_f hc22 hf
    exact jk2  H locs ls  hf hm (lv_sub hl [0] rfl)
  have hf := xif_t hc22 hf
  refine lv_aload_n hx hb dX10_tick_29 rfl (lv_at hl 0 rfl) ?_
  refine x_get C hm inX10 rfl 0 (by decide) tf_RX10_7 cy_0 rfl dX10_tick_30 ?_
  refine lv_bipush (v := (8 : Int32)) hx hb dX10_tick_33 (by decide) ?_
  refine x_iald (j := 8) C hm cy_1 (by decide) dX10_tick_35 (by decide) ?_
  refine lv_if_le (tgt := 46) hx hb dX10_tick_36 (by decide) (fun hc23 => ?_) (fun hc23 => ?_)
  · have hf := xif_t hc23 hf
    exact jk2  H locs ls  hf hm (lv_sub hl [0] rfl)
  have hf := xif_f hc23 hf
  refine lv_aload_n hx hb dX10_tick_39 rfl (lv_at hl 0 rfl) ?_
  obtain ⟨M25, hq24, hf⟩ := xb1_e hf
  refine x_callVv (As := []) (rest := []) C hm (c_X10_markNow l E b M Lm hq24) rfl cy_0 tc_X10_markNow tm_RX10_379 ti_X10_markNow ts_X10_markNow tn_RX10 td_X10_markNow rfl rfl ⟨Nat.le_of_ble_eq_true rfl, Nat.le_of_ble_eq_true rfl⟩ rfl hl.1 rfl (Nat.le_of_ble_eq_true rfl) ⟨Nat.zero_le _, Nat.zero_le _⟩ dX10_tick_40 (fun H locs hP26 hm => ?_)
  refine lv_goto (tgt := 72) hx hb dX10_tick_43 (by decide) ?_
  refine lv_aload_n hx hb dX10_tick_72 rfl (lv_at hl 0 rfl) ?_
  refine x_get C hm inX10 rfl 0 (by decide) tf_RX10_7 cy_0 rfl dX10_tick_73 ?_
  refine lv_iconst (v := (4 : Int32)) hx hb dX10_tick_76 (by decide) ?_
  refine lv_dup2_11 hx hb dX10_tick_77 rfl rfl ?_
  refine x_iald (j := 4) C hm cy_1 (by decide) dX10_tick_78 (by decide) ?_
  refine lv_iconst (v := (1 : Int32)) hx hb dX10_tick_79 (by decide) ?_
  refine lv_iadd hx hb dX10_tick_80 ?_
  obtain ⟨M27, eM27, hf⟩ := xlet_x hf
  refine x_iast (j := 4) (cf' := cY E b M27 Lm) C hm cy_1 (by decide) dX10_tick_81 (by decide) (by rw [eM27]; exact cyu_1) (by rw [eM27]; exact cY_o) (fun H locs hm => ?_)
  cases hf
  exact x_vret C hm trivial dX10_tick_82
/-! ColouredHeapModel.arePassed(I)Z -/
theorem dX10_arePassed_0 : decode cX10_arePassed 0 = .ok (.iconst 0, 1) := by decide +kernel
theorem dX10_arePassed_1 : decode cX10_arePassed 1 = .ok (.istore_n 2, 1) := by decide +kernel
theorem dX10_arePassed_2 : decode cX10_arePassed 2 = .ok (.iload_n 2, 1) := by decide +kernel
theorem dX10_arePassed_3 : decode cX10_arePassed 3 = .ok (.iload_n 1, 1) := by decide +kernel
theorem dX10_arePassed_4 : decode cX10_arePassed 4 = .ok (.if_icmp .ge 31, 3) := by decide +kernel
theorem dX10_arePassed_7 : decode cX10_arePassed 7 = .ok (.aload_n 0, 1) := by decide +kernel
theorem dX10_arePassed_8 : decode cX10_arePassed 8 = .ok (.getfield 7, 3) := by decide +kernel
theorem dX10_arePassed_11 : decode cX10_arePassed 11 = .ok (.iconst 4, 1) := by decide +kernel
theorem dX10_arePassed_12 : decode cX10_arePassed 12 = .ok (.iaload, 1) := by decide +kernel
theorem dX10_arePassed_13 : decode cX10_arePassed 13 = .ok (.sipush 9999, 3) := by decide +kernel
theorem dX10_arePassed_16 : decode cX10_arePassed 16 = .ok (.if_icmp .ne 5, 3) := by decide +kernel
theorem dX10_arePassed_19 : decode cX10_arePassed 19 = .ok (.iconst 0, 1) := by decide +kernel
theorem dX10_arePassed_20 : decode cX10_arePassed 20 = .ok (.ireturn, 1) := by decide +kernel
theorem dX10_arePassed_21 : decode cX10_arePassed 21 = .ok (.aload_n 0, 1) := by decide +kernel
theorem dX10_arePassed_22 : decode cX10_arePassed 22 = .ok (.invokevirtual 397, 3) := by decide +kernel
theorem dX10_arePassed_25 : decode cX10_arePassed 25 = .ok (.aload_n 0, 1) := by decide +kernel
theorem dX10_arePassed_26 : decode cX10_arePassed 26 = .ok (.invokevirtual 403, 3) := by decide +kernel
theorem dX10_arePassed_29 : decode cX10_arePassed 29 = .ok (.iinc 2 1, 3) := by decide +kernel
theorem dX10_arePassed_32 : decode cX10_arePassed 32 = .ok (.goto (-30), 3) := by decide +kernel
theorem dX10_arePassed_35 : decode cX10_arePassed 35 = .ok (.iconst 1, 1) := by decide +kernel
theorem dX10_arePassed_36 : decode cX10_arePassed 36 = .ok (.ireturn, 1) := by decide +kernel
def g_X10_arePassed_2 (x1 : Int32) : Nat → xm → xn → Int32 → Option ((xm × xn) ⊕ (xm × xn))
  | 0, _, _, _ => none
  | n + 1, M3, L4, x2 => (if x1 ≤ x2 then some (Sum.inr (M3, L4)) else (if (M3 1 4) = (9999 : Int32) then some (Sum.inl (M3, L4)) else xb1 (f_X10_keep M3) (fun M8 => xb2 (f_X10_tick M8 L4) (fun M11 L12 => xlet (x2 + (1 : Int32)) (fun v14 => g_X10_arePassed_2 x1 n M11 L12 v14)))))
def f_X10_arePassed (M : xm) (Lm : xn) (a1 : Int32) : Option (Int32 × xm × xn) := xs2 (g_X10_arePassed_2 a1 xfuel M Lm (0 : Int32)) (fun q15 => some ((0 : Int32), (q15.1), q15.2)) (fun q15 => some ((1 : Int32), (q15.1), q15.2))
set_option maxHeartbeats 4000000 in
set_option maxRecDepth 20000 in
theorem j_X10_arePassed_2 {p : Program} {l : Launch} {e : Env} {s : State} {m : MethodId} {args : Array Value} {below : List Frame} {meth : Method} {c : Code} {Q : State → Prop} {E : xE} {b : Nat} (C : xC p s m args meth c cX10_arePassed 3 RX10 (some .boolean) E b) (x1 : Int32) {r : (xm × xn) ⊕ (xm × xn)}
    (kx0 : ∀ q : xm × xn, r = Sum.inl q → ∀ (H : Heap) (locs : List Loc) (ls : Array Slot), xM E b NY (cY E b q.1 q.2) s.heap H locs → lv_has ls 3 [] → W p l e (xR 10) s m args below meth c H locs 0 0 Q (F0 m 19 ls []))
    (kx1 : ∀ q : xm × xn, r = Sum.inr q → ∀ (H : Heap) (locs : List Loc) (ls : Array Slot), xM E b NY (cY E b q.1 q.2) s.heap H locs → lv_has ls 3 [] → W p l e (xR 10) s m args below meth c H locs 0 0 Q (F0 m 35 ls [])) :
    ∀ (n : Nat) (M3 : xm) (L4 : xn) (x2 : Int32) (H : Heap) (locs : List Loc) (ls : Array Slot), g_X10_arePassed_2 x1 n M3 L4 x2 = some r → xM E b NY (cY E b M3 L4) s.heap H locs → lv_has ls 3 [(0, .ref (b + 0)), (1, .int x1), (2, .int x2)] → W p l e (xR 10) s m args below meth c H locs 0 0 Q (F0 m 2 ls []) := by
  have hx := C.1.1
  have hb := C.1.2.1
  intro n
  induction n with
  | zero =>
    intro M3 L4 x2 H locs ls hf hm hl
    rw [g_X10_arePassed_2] at hf
    cases hf
  | succ n ih =>
    intro M3 L4 x2 H locs ls hf hm hl
    rw [g_X10_arePassed_2] at hf
    refine lv_iload_n hx hb dX10_arePassed_2 rfl (lv_at hl 2 rfl) ?_
    refine lv_iload_n hx hb dX10_arePassed_3 rfl (lv_at hl 1 rfl) ?_
    refine lv_icmp_ge (tgt := 35) hx hb dX10_arePassed_4 (by decide) (fun hc5 => ?_) (fun hc5 => ?_)
    · have hf := xif_t hc5 hf
      cases hf
      exact kx1 (M3, L4) rfl H locs ls hm (lv_sub hl [] rfl)
    have hf := xif_f hc5 hf
    refine lv_aload_n hx hb dX10_arePassed_7 rfl (lv_at hl 0 rfl) ?_
    refine x_get C hm inX10 rfl 0 (by decide) tf_RX10_7 cy_0 rfl dX10_arePassed_8 ?_
    refine lv_iconst (v := (4 : Int32)) hx hb dX10_arePassed_11 (by decide) ?_
    refine x_iald (j := 4) C hm cy_1 (by decide) dX10_arePassed_12 (by decide) ?_
    refine lv_sipush (v := (9999 : Int32)) hx hb dX10_arePassed_13 (by decide) ?_
    refine lv_icmp_ne (tgt := 21) hx hb dX10_arePassed_16 (by decide) (fun hc6 => ?_) (fun hc6 => ?_)
    rotate_left
    · have hf := xif_t hc6 hf
      cases hf
      exact kx0 (M3, L4) rfl H locs ls hm (lv_sub hl [] rfl)
    have hf := xif_f hc6 hf
    refine lv_aload_n hx hb dX10_arePassed_21 rfl (lv_at hl 0 rfl) ?_
    obtain ⟨M8, hq7, hf⟩ := xb1_e hf
    refine x_callVv (As := []) (rest := []) C hm (c_X10_keep l E b M3 L4 hq7) rfl cy_0 tc_X10_keep tm_RX10_397 ti_X10_keep ts_X10_keep tn_RX10 td_X10_keep rfl rfl ⟨Nat.le_of_ble_eq_true rfl, Nat.le_of_ble_eq_true rfl⟩ rfl hl.1 rfl (Nat.le_of_ble_eq_true rfl) ⟨Nat.zero_le _, Nat.zero_le _⟩ dX10_arePassed_22 (fun H locs hP9 hm => ?_)
    refine lv_aload_n hx hb dX10_arePassed_25 rfl (lv_at hl 0 rfl) ?_
    obtain ⟨M11, L12, hq10, hf⟩ := xb2_e hf
    refine x_callVv (As := []) (rest := []) C hm (c_X10_tick l E b M8 L4 hq10) rfl cy_0 tc_X10_tick tm_RX10_403 ti_X10_tick ts_X10_tick tn_RX10 td_X10_tick rfl rfl ⟨Nat.le_of_ble_eq_true rfl, Nat.le_of_ble_eq_true rfl⟩ rfl hl.1 rfl (Nat.le_of_ble_eq_true rfl) ⟨Nat.zero_le _, Nat.zero_le _⟩ dX10_arePassed_26 (fun H locs hP13 hm => ?_)
    obtain ⟨v14, ev14, hf⟩ := xlet_x hf
    refine lv_iinc (v := v14) (lv' := [(2, .int v14), (0, .ref (b + 0)), (1, .int x1)]) hx hb dX10_arePassed_29 hl (k := 2) rfl (by rw [ev14]; rfl) (by decide) rfl (fun ls hl => ?_)
    refine lv_goto (tgt := 2) hx hb dX10_arePassed_32 (by decide) ?_
    exact ih M11 L12 v14 H locs ls hf hm (lv_sub hl [1, 2, 0] rfl)
set_option maxHeartbeats 4000000 in
set_option maxRecDepth 20000 in
theorem c_X10_arePassed (l : Launch) (E : xE) (b : Nat) (M : xm) (Lm : xn) (a1 : Int32) {r : Int32} {M' : xm} {L' : xn} (hf : f_X10_arePassed M Lm a1 = some (r, M', L')) :
    xMet l E b NY yX10_arePassed cX10_arePassed 3 (some .boolean) (xR 10) [.ref (b + 0), .int a1] (cY E b M Lm) (some (.int r)) (xbo r = true) (cY E b M' L') := by
  refine xMet.ofW (own := RX10) (by decide) rfl (Nat.le_of_ble_eq_true rfl) ?_
  intro p e s m below meth c H locs ls C hm hl
  have hx := C.1.1
  have hb := C.1.2.1
  have hl : lv_has ls 3 [(0, .ref (b + 0)), (1, .int a1)] := hl
  unfold f_X10_arePassed at hf
  refine lv_iconst (v := (0 : Int32)) hx hb dX10_arePassed_0 (by decide) ?_
  refine lv_istore_n (lv' := [(2, .int (0 : Int32)), (0, .ref (b + 0)), (1, .int a1)]) hx hb dX10_arePassed_1 rfl hl (by decide) rfl (fun ls hl => ?_)
  rcases xs2_e hf with ⟨q15, hq, hf⟩ | ⟨q15, hq, hf⟩
  · refine j_X10_arePassed_2 C a1 (r := Sum.inl q15) (fun q2 hr H locs ls hm hl => ?_) (fun q2 hr => by cases hr) xfuel M Lm (0 : Int32) H locs ls hq hm (lv_sub hl [1, 2, 0] rfl)
    cases hr
    refine lv_iconst (v := (0 : Int32)) hx hb dX10_arePassed_19 (by decide) ?_
    cases hf
    exact x_zret C hm (by decide) (by decide) dX10_arePassed_20
  · refine j_X10_arePassed_2 C a1 (r := Sum.inr q15) (fun q2 hr => by cases hr) (fun q2 hr H locs ls hm hl => ?_) xfuel M Lm (0 : Int32) H locs ls hq hm (lv_sub hl [1, 2, 0] rfl)
    cases hr
    refine lv_iconst (v := (1 : Int32)) hx hb dX10_arePassed_35 (by decide) ?_
    cases hf
    exact x_zret C hm (by decide) (by decide) dX10_arePassed_36
/-! ColouredHeapModel.at(I)I -/
theorem dX10_at_0 : decode cX10_at 0 = .ok (.iload_n 1, 1) := by decide +kernel
theorem dX10_at_1 : decode cX10_at 1 = .ok (.invokestatic 63, 3) := by decide +kernel
theorem dX10_at_4 : decode cX10_at 4 = .ok (.ifCond .eq 15, 3) := by decide +kernel
theorem dX10_at_7 : decode cX10_at 7 = .ok (.aload_n 0, 1) := by decide +kernel
theorem dX10_at_8 : decode cX10_at 8 = .ok (.getfield 7, 3) := by decide +kernel
theorem dX10_at_11 : decode cX10_at 11 = .ok (.bipush 41, 2) := by decide +kernel
theorem dX10_at_13 : decode cX10_at 13 = .ok (.iload_n 1, 1) := by decide +kernel
theorem dX10_at_14 : decode cX10_at 14 = .ok (.iadd, 1) := by decide +kernel
theorem dX10_at_15 : decode cX10_at 15 = .ok (.iaload, 1) := by decide +kernel
theorem dX10_at_16 : decode cX10_at 16 = .ok (.goto 5, 3) := by decide +kernel
theorem dX10_at_19 : decode cX10_at 19 = .ok (.bipush (-3), 2) := by decide +kernel
theorem dX10_at_21 : decode cX10_at 21 = .ok (.ireturn, 1) := by decide +kernel
def f_X10_at (M : xm) (a1 : Int32) : Option (Int32) := (if (f_X10_isPlace a1) = 0 then some (-3 : Int32) else if xin ((41 : Int32) + a1) 9878 = true then some (M 1 (Int32.toNatClampNeg ((41 : Int32) + a1))) else none)
set_option maxHeartbeats 4000000 in
set_option maxRecDepth 20000 in
theorem c_X10_at (l : Launch) (E : xE) (b : Nat) (M : xm) (Lm : xn) (a1 : Int32) {r : Int32} (hf : f_X10_at M a1 = some r) :
    xMet l E b NY yX10_at cX10_at 2 (some .int) (xR 3) [.ref (b + 0), .int a1] (cY E b M Lm) (some (.int r)) True (cY E b M Lm) := by
  refine xMet.ofW (own := RX10) (by decide) rfl (Nat.le_of_ble_eq_true rfl) ?_
  intro p e s m below meth c H locs ls C hm hl
  have hx := C.1.1
  have hb := C.1.2.1
  have hl : lv_has ls 2 [(0, .ref (b + 0)), (1, .int a1)] := hl
  unfold f_X10_at at hf
  refine lv_iload_n hx hb dX10_at_0 rfl (lv_at hl 1 rfl) ?_
  refine x_callSi (As := [.int a1]) (rest := []) C hm (c_X10_isPlace l E b M Lm a1 rfl) tc_X10_isPlace tm_RX10_63 tz_X10_isPlace tn_RX10 td_X10_isPlace rfl rfl ⟨Nat.le_of_ble_eq_true rfl, Nat.le_of_ble_eq_true rfl⟩ rfl hl.1 rfl (Nat.le_of_ble_eq_true rfl) ⟨Nat.zero_le _, Nat.zero_le _⟩ dX10_at_1 (fun H locs hP1 hm => ?_)
  refine lv_if_eq (tgt := 19) hx hb dX10_at_4 (by decide) (fun hc2 => ?_) (fun hc2 => ?_)
  · have hf := xif_t hc2 hf
    refine lv_bipush (v := (-3 : Int32)) hx hb dX10_at_19 (by decide) ?_
    cases hf
    exact x_iret C hm trivial dX10_at_21
  have hf := xif_f hc2 hf
  refine lv_aload_n hx hb dX10_at_7 rfl (lv_at hl 0 rfl) ?_
  refine x_get C hm inX10 rfl 0 (by decide) tf_RX10_7 cy_0 rfl dX10_at_8 ?_
  refine lv_bipush (v := (41 : Int32)) hx hb dX10_at_11 (by decide) ?_
  refine lv_iload_n hx hb dX10_at_13 rfl (lv_at hl 1 rfl) ?_
  refine lv_iadd hx hb dX10_at_14 ?_
  obtain ⟨hi3, hf⟩ := xif_s hf
  refine x_iald (j := (Int32.toNatClampNeg ((41 : Int32) + a1))) C hm cy_1 hi3 dX10_at_15 rfl ?_
  refine lv_goto (tgt := 21) hx hb dX10_at_16 (by decide) ?_
  cases hf
  exact x_iret C hm trivial dX10_at_21
/-! ColouredHeapModel.layRow([I[I)V -/
theorem dX10_layRow_0 : decode cX10_layRow 0 = .ok (.iconst 0, 1) := by decide +kernel
theorem dX10_layRow_1 : decode cX10_layRow 1 = .ok (.istore_n 2, 1) := by decide +kernel
theorem dX10_layRow_2 : decode cX10_layRow 2 = .ok (.iload_n 2, 1) := by decide +kernel
theorem dX10_layRow_3 : decode cX10_layRow 3 = .ok (.sipush 9878, 3) := by decide +kernel
theorem dX10_layRow_6 : decode cX10_layRow 6 = .ok (.if_icmp .ge 15, 3) := by decide +kernel
theorem dX10_layRow_9 : decode cX10_layRow 9 = .ok (.aload_n 1, 1) := by decide +kernel
theorem dX10_layRow_10 : decode cX10_layRow 10 = .ok (.iload_n 2, 1) := by decide +kernel
theorem dX10_layRow_11 : decode cX10_layRow 11 = .ok (.aload_n 0, 1) := by decide +kernel
theorem dX10_layRow_12 : decode cX10_layRow 12 = .ok (.iload_n 2, 1) := by decide +kernel
theorem dX10_layRow_13 : decode cX10_layRow 13 = .ok (.iaload, 1) := by decide +kernel
theorem dX10_layRow_14 : decode cX10_layRow 14 = .ok (.iastore, 1) := by decide +kernel
theorem dX10_layRow_15 : decode cX10_layRow 15 = .ok (.iinc 2 1, 3) := by decide +kernel
theorem dX10_layRow_18 : decode cX10_layRow 18 = .ok (.goto (-16), 3) := by decide +kernel
theorem dX10_layRow_21 : decode cX10_layRow 21 = .ok (.return_, 1) := by decide +kernel
def g_X10_layRow_2 (o1 : Nat) (o2 : Nat) : Nat → xm → Int32 → Option ((xm))
  | 0, _, _ => none
  | n + 1, M4, x3 => (if (9878 : Int32) ≤ x3 then some (M4) else if xin x3 9878 = true then xlet (up2 M4 o2 (Int32.toNatClampNeg x3) (M4 o1 (Int32.toNatClampNeg x3))) (fun M8 => xlet (x3 + (1 : Int32)) (fun v9 => g_X10_layRow_2 o1 o2 n M8 v9)) else none)
def f_X10_layRow (u0 : Nat) (u1 : Nat) (M : xm) : Option (xm) := xb1 (g_X10_layRow_2 u0 u1 xfuel M (0 : Int32)) (fun M10 => some M10)
set_option maxHeartbeats 4000000 in
set_option maxRecDepth 20000 in
theorem j_X10_layRow_2 {p : Program} {l : Launch} {e : Env} {s : State} {m : MethodId} {args : Array Value} {below : List Frame} {meth : Method} {c : Code} {Q : State → Prop} {E : xE} {b : Nat} (C : xC p s m args meth c cX10_layRow 3 RX10 none E b) {o1 : Nat} (A_o1 : aY o1 9878) {o2 : Nat} (A_o2 : aY o2 9878) {Lm : xn} {y5 : xm}
    (kx0 : ∀ (H : Heap) (locs : List Loc) (ls : Array Slot), xM E b NY (cY E b y5 Lm) s.heap H locs → lv_has ls 3 [] → W p l e (xR 1) s m args below meth c H locs 0 0 Q (F0 m 21 ls [])) :
    ∀ (n : Nat) (M4 : xm) (x3 : Int32) (H : Heap) (locs : List Loc) (ls : Array Slot), g_X10_layRow_2 o1 o2 n M4 x3 = some y5 → xM E b NY (cY E b M4 Lm) s.heap H locs → lv_has ls 3 [(0, .ref (b + o1)), (1, .ref (b + o2)), (2, .int x3)] → W p l e (xR 1) s m args below meth c H locs 0 0 Q (F0 m 2 ls []) := by
  have hx := C.1.1
  have hb := C.1.2.1
  intro n
  induction n with
  | zero =>
    intro M4 x3 H locs ls hf hm hl
    rw [g_X10_layRow_2] at hf
    cases hf
  | succ n ih =>
    intro M4 x3 H locs ls hf hm hl
    rw [g_X10_layRow_2] at hf
    refine lv_iload_n hx hb dX10_layRow_2 rfl (lv_at hl 2 rfl) ?_
    refine lv_sipush (v := (9878 : Int32)) hx hb dX10_layRow_3 (by decide) ?_
    refine lv_icmp_ge (tgt := 21) hx hb dX10_layRow_6 (by decide) (fun hc6 => ?_) (fun hc6 => ?_)
    · have hf := xif_t hc6 hf
      cases hf
      exact kx0 H locs ls hm (lv_sub hl [] rfl)
    have hf := xif_f hc6 hf
    refine lv_aload_n hx hb dX10_layRow_9 rfl (lv_at hl 1 rfl) ?_
    refine lv_iload_n hx hb dX10_layRow_10 rfl (lv_at hl 2 rfl) ?_
    refine lv_aload_n hx hb dX10_layRow_11 rfl (lv_at hl 0 rfl) ?_
    refine lv_iload_n hx hb dX10_layRow_12 rfl (lv_at hl 2 rfl) ?_
    obtain ⟨hi7, hf⟩ := xif_s hf
    refine x_iald (j := (Int32.toNatClampNeg x3)) C hm (A_o1 E b _ _).1 hi7 dX10_layRow_13 rfl ?_
    obtain ⟨M8, eM8, hf⟩ := xlet_x hf
    refine x_iast (j := (Int32.toNatClampNeg x3)) (cf' := cY E b M8 Lm) C hm (A_o2 E b _ _).1 hi7 dX10_layRow_14 rfl (by rw [eM8]; exact (A_o2 E b _ _).2 _ _) (by rw [eM8]; exact cY_o) (fun H locs hm => ?_)
    obtain ⟨v9, ev9, hf⟩ := xlet_x hf
    refine lv_iinc (v := v9) (lv' := [(2, .int v9), (0, .ref (b + o1)), (1, .ref (b + o2))]) hx hb dX10_layRow_15 hl (k := 2) rfl (by rw [ev9]; rfl) (by decide) rfl (fun ls hl => ?_)
    refine lv_goto (tgt := 2) hx hb dX10_layRow_18 (by decide) ?_
    exact ih M8 v9 H locs ls hf hm (lv_sub hl [1, 2, 0] rfl)
set_option maxHeartbeats 4000000 in
set_option maxRecDepth 20000 in
theorem c_X10_layRow (l : Launch) (E : xE) (b : Nat) {u0 : Nat} (A_u0 : aY u0 9878) {u1 : Nat} (A_u1 : aY u1 9878) (M : xm) (Lm : xn) {M' : xm} (hf : f_X10_layRow u0 u1 M = some M') :
    xMet l E b NY yX10_layRow cX10_layRow 3 none (xR 1) [.ref (b + u0), .ref (b + u1)] (cY E b M Lm) none True (cY E b M' Lm) := by
  refine xMet.ofW (own := RX10) (by decide) rfl (Nat.le_of_ble_eq_true rfl) ?_
  intro p e s m below meth c H locs ls C hm hl
  have hx := C.1.1
  have hb := C.1.2.1
  have hl : lv_has ls 3 [(0, .ref (b + u0)), (1, .ref (b + u1))] := hl
  unfold f_X10_layRow at hf
  refine lv_iconst (v := (0 : Int32)) hx hb dX10_layRow_0 (by decide) ?_
  refine lv_istore_n (lv' := [(2, .int (0 : Int32)), (0, .ref (b + u0)), (1, .ref (b + u1))]) hx hb dX10_layRow_1 rfl hl (by decide) rfl (fun ls hl => ?_)
  obtain ⟨M10, hq, hf⟩ := xb1_e hf
  refine j_X10_layRow_2 C A_u0 A_u1 (fun H locs ls hm hl => ?_) xfuel M (0 : Int32) H locs ls hq hm (lv_sub hl [1, 2, 0] rfl)
  cases hf
  exact x_vret C hm trivial dX10_layRow_21
/-! ColouredHeapModel.back()I -/
theorem dX10_back_0 : decode cX10_back 0 = .ok (.aload_n 0, 1) := by decide +kernel
theorem dX10_back_1 : decode cX10_back 1 = .ok (.getfield 13, 3) := by decide +kernel
theorem dX10_back_4 : decode cX10_back 4 = .ok (.aload_n 0, 1) := by decide +kernel
theorem dX10_back_5 : decode cX10_back 5 = .ok (.getfield 7, 3) := by decide +kernel
theorem dX10_back_8 : decode cX10_back 8 = .ok (.invokestatic 55, 3) := by decide +kernel
theorem dX10_back_11 : decode cX10_back 11 = .ok (.aload_n 0, 1) := by decide +kernel
theorem dX10_back_12 : decode cX10_back 12 = .ok (.getfield 7, 3) := by decide +kernel
theorem dX10_back_15 : decode cX10_back 15 = .ok (.iconst 4, 1) := by decide +kernel
theorem dX10_back_16 : decode cX10_back 16 = .ok (.iaload, 1) := by decide +kernel
theorem dX10_back_17 : decode cX10_back 17 = .ok (.ireturn, 1) := by decide +kernel
def f_X10_back (M : xm) : Option (Int32 × xm) := xb1 (f_X10_layRow 2 1 M) (fun M2 => some ((M2 1 4), M2))
set_option maxHeartbeats 4000000 in
set_option maxRecDepth 20000 in
theorem c_X10_back (l : Launch) (E : xE) (b : Nat) (M : xm) (Lm : xn) {r : Int32} {M' : xm} (hf : f_X10_back M = some (r, M')) :
    xMet l E b NY yX10_back cX10_back 1 (some .int) (xR 2) [.ref (b + 0)] (cY E b M Lm) (some (.int r)) True (cY E b M' Lm) := by
  refine xMet.ofW (own := RX10) (by decide) rfl (Nat.le_of_ble_eq_true rfl) ?_
  intro p e s m below meth c H locs ls C hm hl
  have hx := C.1.1
  have hb := C.1.2.1
  have hl : lv_has ls 1 [(0, .ref (b + 0))] := hl
  unfold f_X10_back at hf
  refine lv_aload_n hx hb dX10_back_0 rfl (lv_at hl 0 rfl) ?_
  refine x_get C hm inX10 rfl 1 (by decide) tf_RX10_13 cy_0 rfl dX10_back_1 ?_
  refine lv_aload_n hx hb dX10_back_4 rfl (lv_at hl 0 rfl) ?_
  refine x_get C hm inX10 rfl 0 (by decide) tf_RX10_7 cy_0 rfl dX10_back_5 ?_
  obtain ⟨M2, hq1, hf⟩ := xb1_e hf
  refine x_callSv (As := [.ref (b + 2), .ref (b + 1)]) (rest := []) C hm (c_X10_layRow l E b aY_2 aY_1 M Lm hq1) tc_X10_layRow tm_RX10_55 tz_X10_layRow tn_RX10 td_X10_layRow rfl rfl ⟨Nat.le_of_ble_eq_true rfl, Nat.le_of_ble_eq_true rfl⟩ rfl hl.1 rfl (Nat.le_of_ble_eq_true rfl) ⟨Nat.zero_le _, Nat.zero_le _⟩ dX10_back_8 (fun H locs hP3 hm => ?_)
  refine lv_aload_n hx hb dX10_back_11 rfl (lv_at hl 0 rfl) ?_
  refine x_get C hm inX10 rfl 0 (by decide) tf_RX10_7 cy_0 rfl dX10_back_12 ?_
  refine lv_iconst (v := (4 : Int32)) hx hb dX10_back_15 (by decide) ?_
  refine x_iald (j := 4) C hm cy_1 (by decide) dX10_back_16 (by decide) ?_
  cases hf
  exact x_iret C hm trivial dX10_back_17
/-! ColouredHeapModel.isRoot(I)Z -/
theorem dX10_isRoot_0 : decode cX10_isRoot 0 = .ok (.iload_n 0, 1) := by decide +kernel
theorem dX10_isRoot_1 : decode cX10_isRoot 1 = .ok (.iconst 0, 1) := by decide +kernel
theorem dX10_isRoot_2 : decode cX10_isRoot 2 = .ok (.iconst 5, 1) := by decide +kernel
theorem dX10_isRoot_3 : decode cX10_isRoot 3 = .ok (.invokestatic 59, 3) := by decide +kernel
theorem dX10_isRoot_6 : decode cX10_isRoot 6 = .ok (.ireturn, 1) := by decide +kernel
def f_X10_isRoot (a0 : Int32) : Int32 := (f_X10_isIn a0 (0 : Int32) (5 : Int32))
set_option maxHeartbeats 4000000 in
set_option maxRecDepth 20000 in
theorem c_X10_isRoot (l : Launch) (E : xE) (b : Nat) (M : xm) (Lm : xn) (a0 : Int32) {r : Int32} (hf : f_X10_isRoot a0 = r) :
    xMet l E b NY yX10_isRoot cX10_isRoot 1 (some .boolean) (xR 2) [.int a0] (cY E b M Lm) (some (.int r)) (xbo r = true) (cY E b M Lm) := by
  refine xMet.ofW (own := RX10) (by decide) rfl (Nat.le_of_ble_eq_true rfl) ?_
  intro p e s m below meth c H locs ls C hm hl
  have hx := C.1.1
  have hb := C.1.2.1
  have hl : lv_has ls 1 [(0, .int a0)] := hl
  unfold f_X10_isRoot at hf
  refine lv_iload_n hx hb dX10_isRoot_0 rfl (lv_at hl 0 rfl) ?_
  refine lv_iconst (v := (0 : Int32)) hx hb dX10_isRoot_1 (by decide) ?_
  refine lv_iconst (v := (5 : Int32)) hx hb dX10_isRoot_2 (by decide) ?_
  refine x_callSi (As := [.int a0, .int (0 : Int32), .int (5 : Int32)]) (rest := []) C hm (c_X10_isIn l E b M Lm a0 (0 : Int32) (5 : Int32) rfl) tc_X10_isIn tm_RX10_59 tz_X10_isIn tn_RX10 td_X10_isIn rfl rfl ⟨Nat.le_of_ble_eq_true rfl, Nat.le_of_ble_eq_true rfl⟩ rfl hl.1 rfl (Nat.le_of_ble_eq_true rfl) ⟨Nat.zero_le _, Nat.zero_le _⟩ dX10_isRoot_3 (fun H locs hP1 hm => ?_)
  cases hf
  exact x_zret C hm hP1 hP1 dX10_isRoot_6
/-! ColouredHeapModel.fieldAt(II)I -/
theorem dX10_fieldAt_0 : decode cX10_fieldAt 0 = .ok (.iload_n 1, 1) := by decide +kernel
theorem dX10_fieldAt_1 : decode cX10_fieldAt 1 = .ok (.invokestatic 349, 3) := by decide +kernel
theorem dX10_fieldAt_4 : decode cX10_fieldAt 4 = .ok (.ifCond .eq 16, 3) := by decide +kernel
theorem dX10_fieldAt_7 : decode cX10_fieldAt 7 = .ok (.aload_n 0, 1) := by decide +kernel
theorem dX10_fieldAt_8 : decode cX10_fieldAt 8 = .ok (.getfield 7, 3) := by decide +kernel
theorem dX10_fieldAt_11 : decode cX10_fieldAt 11 = .ok (.bipush 29, 2) := by decide +kernel
theorem dX10_fieldAt_13 : decode cX10_fieldAt 13 = .ok (.iload_n 1, 1) := by decide +kernel
theorem dX10_fieldAt_14 : decode cX10_fieldAt 14 = .ok (.iadd, 1) := by decide +kernel
theorem dX10_fieldAt_15 : decode cX10_fieldAt 15 = .ok (.iaload, 1) := by decide +kernel
theorem dX10_fieldAt_16 : decode cX10_fieldAt 16 = .ok (.iconst (-1), 1) := by decide +kernel
theorem dX10_fieldAt_17 : decode cX10_fieldAt 17 = .ok (.if_icmp .ne 5, 3) := by decide +kernel
theorem dX10_fieldAt_20 : decode cX10_fieldAt 20 = .ok (.iconst (-1), 1) := by decide +kernel
theorem dX10_fieldAt_21 : decode cX10_fieldAt 21 = .ok (.ireturn, 1) := by decide +kernel
theorem dX10_fieldAt_22 : decode cX10_fieldAt 22 = .ok (.aload_n 0, 1) := by decide +kernel
theorem dX10_fieldAt_23 : decode cX10_fieldAt 23 = .ok (.getfield 7, 3) := by decide +kernel
theorem dX10_fieldAt_26 : decode cX10_fieldAt 26 = .ok (.bipush 29, 2) := by decide +kernel
theorem dX10_fieldAt_28 : decode cX10_fieldAt 28 = .ok (.iload_n 1, 1) := by decide +kernel
theorem dX10_fieldAt_29 : decode cX10_fieldAt 29 = .ok (.iadd, 1) := by decide +kernel
theorem dX10_fieldAt_30 : decode cX10_fieldAt 30 = .ok (.iaload, 1) := by decide +kernel
theorem dX10_fieldAt_31 : decode cX10_fieldAt 31 = .ok (.bipush 64, 2) := by decide +kernel
theorem dX10_fieldAt_33 : decode cX10_fieldAt 33 = .ok (.irem, 1) := by decide +kernel
theorem dX10_fieldAt_34 : decode cX10_fieldAt 34 = .ok (.istore_n 3, 1) := by decide +kernel
theorem dX10_fieldAt_35 : decode cX10_fieldAt 35 = .ok (.iload_n 2, 1) := by decide +kernel
theorem dX10_fieldAt_36 : decode cX10_fieldAt 36 = .ok (.iconst 0, 1) := by decide +kernel
theorem dX10_fieldAt_37 : decode cX10_fieldAt 37 = .ok (.aload_n 0, 1) := by decide +kernel
theorem dX10_fieldAt_38 : decode cX10_fieldAt 38 = .ok (.iload_n 3, 1) := by decide +kernel
theorem dX10_fieldAt_39 : decode cX10_fieldAt 39 = .ok (.invokevirtual 67, 3) := by decide +kernel
theorem dX10_fieldAt_42 : decode cX10_fieldAt 42 = .ok (.iconst 1, 1) := by decide +kernel
theorem dX10_fieldAt_43 : decode cX10_fieldAt 43 = .ok (.isub, 1) := by decide +kernel
theorem dX10_fieldAt_44 : decode cX10_fieldAt 44 = .ok (.invokestatic 59, 3) := by decide +kernel
theorem dX10_fieldAt_47 : decode cX10_fieldAt 47 = .ok (.ifCond .eq 11, 3) := by decide +kernel
theorem dX10_fieldAt_50 : decode cX10_fieldAt 50 = .ok (.iload_n 3, 1) := by decide +kernel
theorem dX10_fieldAt_51 : decode cX10_fieldAt 51 = .ok (.iconst 1, 1) := by decide +kernel
theorem dX10_fieldAt_52 : decode cX10_fieldAt 52 = .ok (.iadd, 1) := by decide +kernel
theorem dX10_fieldAt_53 : decode cX10_fieldAt 53 = .ok (.iload_n 2, 1) := by decide +kernel
theorem dX10_fieldAt_54 : decode cX10_fieldAt 54 = .ok (.iadd, 1) := by decide +kernel
theorem dX10_fieldAt_55 : decode cX10_fieldAt 55 = .ok (.goto 4, 3) := by decide +kernel
theorem dX10_fieldAt_58 : decode cX10_fieldAt 58 = .ok (.iconst (-1), 1) := by decide +kernel
theorem dX10_fieldAt_59 : decode cX10_fieldAt 59 = .ok (.ireturn, 1) := by decide +kernel
def f_X10_fieldAt (M : xm) (a1 : Int32) (a2 : Int32) : Option (Int32) := (if (f_X10_isRoot a1) = 0 then some (-1 : Int32) else if xin ((29 : Int32) + a1) 9878 = true then (if (M 1 (Int32.toNatClampNeg ((29 : Int32) + a1))) = (-1 : Int32) then some (-1 : Int32) else xlet (xrem (M 1 (Int32.toNatClampNeg ((29 : Int32) + a1))) (64 : Int32)) (fun v5 => xb1 (f_X10_fieldsOf M v5) (fun v7 => (if (f_X10_isIn a2 (0 : Int32) (v7 - (1 : Int32))) = 0 then some (-1 : Int32) else some ((v5 + (1 : Int32)) + a2))))) else none)
set_option maxHeartbeats 4000000 in
set_option maxRecDepth 20000 in
theorem c_X10_fieldAt (l : Launch) (E : xE) (b : Nat) (M : xm) (Lm : xn) (a1 : Int32) (a2 : Int32) {r : Int32} (hf : f_X10_fieldAt M a1 a2 = some r) :
    xMet l E b NY yX10_fieldAt cX10_fieldAt 4 (some .int) (xR 3) [.ref (b + 0), .int a1, .int a2] (cY E b M Lm) (some (.int r)) True (cY E b M Lm) := by
  refine xMet.ofW (own := RX10) (by decide) rfl (Nat.le_of_ble_eq_true rfl) ?_
  intro p e s m below meth c H locs ls C hm hl
  have hx := C.1.1
  have hb := C.1.2.1
  have hl : lv_has ls 4 [(0, .ref (b + 0)), (1, .int a1), (2, .int a2)] := hl
  unfold f_X10_fieldAt at hf
  refine lv_iload_n hx hb dX10_fieldAt_0 rfl (lv_at hl 1 rfl) ?_
  refine x_callSi (As := [.int a1]) (rest := []) C hm (c_X10_isRoot l E b M Lm a1 rfl) tc_X10_isRoot tm_RX10_349 tz_X10_isRoot tn_RX10 td_X10_isRoot rfl rfl ⟨Nat.le_of_ble_eq_true rfl, Nat.le_of_ble_eq_true rfl⟩ rfl hl.1 rfl (Nat.le_of_ble_eq_true rfl) ⟨Nat.zero_le _, Nat.zero_le _⟩ dX10_fieldAt_1 (fun H locs hP1 hm => ?_)
  refine lv_if_eq (tgt := 20) hx hb dX10_fieldAt_4 (by decide) (fun hc2 => ?_) (fun hc2 => ?_)
  · have hf := xif_t hc2 hf
    refine lv_iconst (v := (-1 : Int32)) hx hb dX10_fieldAt_20 (by decide) ?_
    cases hf
    exact x_iret C hm trivial dX10_fieldAt_21
  have hf := xif_f hc2 hf
  refine lv_aload_n hx hb dX10_fieldAt_7 rfl (lv_at hl 0 rfl) ?_
  refine x_get C hm inX10 rfl 0 (by decide) tf_RX10_7 cy_0 rfl dX10_fieldAt_8 ?_
  refine lv_bipush (v := (29 : Int32)) hx hb dX10_fieldAt_11 (by decide) ?_
  refine lv_iload_n hx hb dX10_fieldAt_13 rfl (lv_at hl 1 rfl) ?_
  refine lv_iadd hx hb dX10_fieldAt_14 ?_
  obtain ⟨hi3, hf⟩ := xif_s hf
  refine x_iald (j := (Int32.toNatClampNeg ((29 : Int32) + a1))) C hm cy_1 hi3 dX10_fieldAt_15 rfl ?_
  refine lv_iconst (v := (-1 : Int32)) hx hb dX10_fieldAt_16 (by decide) ?_
  refine lv_icmp_ne (tgt := 22) hx hb dX10_fieldAt_17 (by decide) (fun hc4 => ?_) (fun hc4 => ?_)
  rotate_left
  · have hf := xif_t hc4 hf
    refine lv_iconst (v := (-1 : Int32)) hx hb dX10_fieldAt_20 (by decide) ?_
    cases hf
    exact x_iret C hm trivial dX10_fieldAt_21
  have hf := xif_f hc4 hf
  refine lv_aload_n hx hb dX10_fieldAt_22 rfl (lv_at hl 0 rfl) ?_
  refine x_get C hm inX10 rfl 0 (by decide) tf_RX10_7 cy_0 rfl dX10_fieldAt_23 ?_
  refine lv_bipush (v := (29 : Int32)) hx hb dX10_fieldAt_26 (by decide) ?_
  refine lv_iload_n hx hb dX10_fieldAt_28 rfl (lv_at hl 1 rfl) ?_
  refine lv_iadd hx hb dX10_fieldAt_29 ?_
  refine x_iald (j := (Int32.toNatClampNeg ((29 : Int32) + a1))) C hm cy_1 hi3 dX10_fieldAt_30 rfl ?_
  refine lv_bipush (v := (64 : Int32)) hx hb dX10_fieldAt_31 (by decide) ?_
  refine lv_irem hx hb dX10_fieldAt_33 (by decide) ?_
  refine lv_topi (fun v5 ev5 => ?_)
  have hf := xlet_e ev5 hf
  refine lv_istore_n (lv' := [(3, .int v5), (0, .ref (b + 0)), (1, .int a1), (2, .int a2)]) hx hb dX10_fieldAt_34 rfl hl (by decide) rfl (fun ls hl => ?_)
  refine lv_iload_n hx hb dX10_fieldAt_35 rfl (lv_at hl 3 rfl) ?_
  refine lv_iconst (v := (0 : Int32)) hx hb dX10_fieldAt_36 (by decide) ?_
  refine lv_aload_n hx hb dX10_fieldAt_37 rfl (lv_at hl 1 rfl) ?_
  refine lv_iload_n hx hb dX10_fieldAt_38 rfl (lv_at hl 0 rfl) ?_
  obtain ⟨v7, hq6, hf⟩ := xb1_e hf
  refine x_callVi (As := [.int v5]) (rest := [.int (0 : Int32), .int a2]) C hm (c_X10_fieldsOf l E b M Lm v5 hq6) rfl cy_0 tc_X10_fieldsOf tm_RX10_67 ti_X10_fieldsOf ts_X10_fieldsOf tn_RX10 td_X10_fieldsOf rfl rfl ⟨Nat.le_of_ble_eq_true rfl, Nat.le_of_ble_eq_true rfl⟩ rfl hl.1 rfl (Nat.le_of_ble_eq_true rfl) ⟨Nat.zero_le _, Nat.zero_le _⟩ dX10_fieldAt_39 (fun H locs hP8 hm => ?_)
  refine lv_iconst (v := (1 : Int32)) hx hb dX10_fieldAt_42 (by decide) ?_
  refine lv_isub hx hb dX10_fieldAt_43 ?_
  refine x_callSi (As := [.int a2, .int (0 : Int32), .int (v7 - (1 : Int32))]) (rest := []) C hm (c_X10_isIn l E b M Lm a2 (0 : Int32) (v7 - (1 : Int32)) rfl) tc_X10_isIn tm_RX10_59 tz_X10_isIn tn_RX10 td_X10_isIn rfl rfl ⟨Nat.le_of_ble_eq_true rfl, Nat.le_of_ble_eq_true rfl⟩ rfl hl.1 rfl (Nat.le_of_ble_eq_true rfl) ⟨Nat.zero_le _, Nat.zero_le _⟩ dX10_fieldAt_44 (fun H locs hP9 hm => ?_)
  refine lv_if_eq (tgt := 58) hx hb dX10_fieldAt_47 (by decide) (fun hc10 => ?_) (fun hc10 => ?_)
  · have hf := xif_t hc10 hf
    refine lv_iconst (v := (-1 : Int32)) hx hb dX10_fieldAt_58 (by decide) ?_
    cases hf
    exact x_iret C hm trivial dX10_fieldAt_59
  have hf := xif_f hc10 hf
  refine lv_iload_n hx hb dX10_fieldAt_50 rfl (lv_at hl 0 rfl) ?_
  refine lv_iconst (v := (1 : Int32)) hx hb dX10_fieldAt_51 (by decide) ?_
  refine lv_iadd hx hb dX10_fieldAt_52 ?_
  refine lv_iload_n hx hb dX10_fieldAt_53 rfl (lv_at hl 3 rfl) ?_
  refine lv_iadd hx hb dX10_fieldAt_54 ?_
  refine lv_goto (tgt := 59) hx hb dX10_fieldAt_55 (by decide) ?_
  cases hf
  exact x_iret C hm trivial dX10_fieldAt_59
/-! ColouredHeapModel.isThread(I)Z -/
theorem dX10_isThread_0 : decode cX10_isThread 0 = .ok (.iload_n 0, 1) := by decide +kernel
theorem dX10_isThread_1 : decode cX10_isThread 1 = .ok (.iconst 0, 1) := by decide +kernel
theorem dX10_isThread_2 : decode cX10_isThread 2 = .ok (.iconst 1, 1) := by decide +kernel
theorem dX10_isThread_3 : decode cX10_isThread 3 = .ok (.invokestatic 59, 3) := by decide +kernel
theorem dX10_isThread_6 : decode cX10_isThread 6 = .ok (.ireturn, 1) := by decide +kernel
def f_X10_isThread (a0 : Int32) : Int32 := (f_X10_isIn a0 (0 : Int32) (1 : Int32))
set_option maxHeartbeats 4000000 in
set_option maxRecDepth 20000 in
theorem c_X10_isThread (l : Launch) (E : xE) (b : Nat) (M : xm) (Lm : xn) (a0 : Int32) {r : Int32} (hf : f_X10_isThread a0 = r) :
    xMet l E b NY yX10_isThread cX10_isThread 1 (some .boolean) (xR 2) [.int a0] (cY E b M Lm) (some (.int r)) (xbo r = true) (cY E b M Lm) := by
  refine xMet.ofW (own := RX10) (by decide) rfl (Nat.le_of_ble_eq_true rfl) ?_
  intro p e s m below meth c H locs ls C hm hl
  have hx := C.1.1
  have hb := C.1.2.1
  have hl : lv_has ls 1 [(0, .int a0)] := hl
  unfold f_X10_isThread at hf
  refine lv_iload_n hx hb dX10_isThread_0 rfl (lv_at hl 0 rfl) ?_
  refine lv_iconst (v := (0 : Int32)) hx hb dX10_isThread_1 (by decide) ?_
  refine lv_iconst (v := (1 : Int32)) hx hb dX10_isThread_2 (by decide) ?_
  refine x_callSi (As := [.int a0, .int (0 : Int32), .int (1 : Int32)]) (rest := []) C hm (c_X10_isIn l E b M Lm a0 (0 : Int32) (1 : Int32) rfl) tc_X10_isIn tm_RX10_59 tz_X10_isIn tn_RX10 td_X10_isIn rfl rfl ⟨Nat.le_of_ble_eq_true rfl, Nat.le_of_ble_eq_true rfl⟩ rfl hl.1 rfl (Nat.le_of_ble_eq_true rfl) ⟨Nat.zero_le _, Nat.zero_le _⟩ dX10_isThread_3 (fun H locs hP1 hm => ?_)
  cases hf
  exact x_zret C hm hP1 hP1 dX10_isThread_6
/-! ColouredHeapModel.begin(III)I -/
theorem dX10_begin_0 : decode cX10_begin 0 = .ok (.aload_n 0, 1) := by decide +kernel
theorem dX10_begin_1 : decode cX10_begin 1 = .ok (.iload_n 2, 1) := by decide +kernel
theorem dX10_begin_2 : decode cX10_begin 2 = .ok (.iload_n 3, 1) := by decide +kernel
theorem dX10_begin_3 : decode cX10_begin 3 = .ok (.invokevirtual 352, 3) := by decide +kernel
theorem dX10_begin_6 : decode cX10_begin 6 = .ok (.istore 4, 2) := by decide +kernel
theorem dX10_begin_8 : decode cX10_begin 8 = .ok (.iload_n 1, 1) := by decide +kernel
theorem dX10_begin_9 : decode cX10_begin 9 = .ok (.invokestatic 412, 3) := by decide +kernel
theorem dX10_begin_12 : decode cX10_begin 12 = .ok (.ifCond .eq 34, 3) := by decide +kernel
theorem dX10_begin_15 : decode cX10_begin 15 = .ok (.aload_n 0, 1) := by decide +kernel
theorem dX10_begin_16 : decode cX10_begin 16 = .ok (.iload_n 1, 1) := by decide +kernel
theorem dX10_begin_17 : decode cX10_begin 17 = .ok (.invokevirtual 71, 3) := by decide +kernel
theorem dX10_begin_20 : decode cX10_begin 20 = .ok (.ifCond .ne 26, 3) := by decide +kernel
theorem dX10_begin_23 : decode cX10_begin 23 = .ok (.iload 4, 2) := by decide +kernel
theorem dX10_begin_25 : decode cX10_begin 25 = .ok (.iconst (-1), 1) := by decide +kernel
theorem dX10_begin_26 : decode cX10_begin 26 = .ok (.if_icmp .eq 20, 3) := by decide +kernel
theorem dX10_begin_29 : decode cX10_begin 29 = .ok (.aload_n 0, 1) := by decide +kernel
theorem dX10_begin_30 : decode cX10_begin 30 = .ok (.aload_n 0, 1) := by decide +kernel
theorem dX10_begin_31 : decode cX10_begin 31 = .ok (.getfield 7, 3) := by decide +kernel
theorem dX10_begin_34 : decode cX10_begin 34 = .ok (.bipush 41, 2) := by decide +kernel
theorem dX10_begin_36 : decode cX10_begin 36 = .ok (.iload 4, 2) := by decide +kernel
theorem dX10_begin_38 : decode cX10_begin 38 = .ok (.iadd, 1) := by decide +kernel
theorem dX10_begin_39 : decode cX10_begin 39 = .ok (.iaload, 1) := by decide +kernel
theorem dX10_begin_40 : decode cX10_begin 40 = .ok (.invokevirtual 346, 3) := by decide +kernel
theorem dX10_begin_43 : decode cX10_begin 43 = .ok (.ifCond .ne 5, 3) := by decide +kernel
theorem dX10_begin_46 : decode cX10_begin 46 = .ok (.iconst (-1), 1) := by decide +kernel
theorem dX10_begin_47 : decode cX10_begin 47 = .ok (.ireturn, 1) := by decide +kernel
theorem dX10_begin_48 : decode cX10_begin 48 = .ok (.aload_n 0, 1) := by decide +kernel
theorem dX10_begin_49 : decode cX10_begin 49 = .ok (.invokevirtual 397, 3) := by decide +kernel
theorem dX10_begin_52 : decode cX10_begin 52 = .ok (.aload_n 0, 1) := by decide +kernel
theorem dX10_begin_53 : decode cX10_begin 53 = .ok (.getfield 7, 3) := by decide +kernel
theorem dX10_begin_56 : decode cX10_begin 56 = .ok (.bipush 41, 2) := by decide +kernel
theorem dX10_begin_58 : decode cX10_begin 58 = .ok (.iload 4, 2) := by decide +kernel
theorem dX10_begin_60 : decode cX10_begin 60 = .ok (.iadd, 1) := by decide +kernel
theorem dX10_begin_61 : decode cX10_begin 61 = .ok (.iaload, 1) := by decide +kernel
theorem dX10_begin_62 : decode cX10_begin 62 = .ok (.istore 5, 2) := by decide +kernel
theorem dX10_begin_64 : decode cX10_begin 64 = .ok (.aload_n 0, 1) := by decide +kernel
theorem dX10_begin_65 : decode cX10_begin 65 = .ok (.getfield 7, 3) := by decide +kernel
theorem dX10_begin_68 : decode cX10_begin 68 = .ok (.bipush 35, 2) := by decide +kernel
theorem dX10_begin_70 : decode cX10_begin 70 = .ok (.iload_n 1, 1) := by decide +kernel
theorem dX10_begin_71 : decode cX10_begin 71 = .ok (.iadd, 1) := by decide +kernel
theorem dX10_begin_72 : decode cX10_begin 72 = .ok (.iload 4, 2) := by decide +kernel
theorem dX10_begin_74 : decode cX10_begin 74 = .ok (.iastore, 1) := by decide +kernel
theorem dX10_begin_75 : decode cX10_begin 75 = .ok (.aload_n 0, 1) := by decide +kernel
theorem dX10_begin_76 : decode cX10_begin 76 = .ok (.getfield 7, 3) := by decide +kernel
theorem dX10_begin_79 : decode cX10_begin 79 = .ok (.bipush 37, 2) := by decide +kernel
theorem dX10_begin_81 : decode cX10_begin 81 = .ok (.iload_n 1, 1) := by decide +kernel
theorem dX10_begin_82 : decode cX10_begin 82 = .ok (.iadd, 1) := by decide +kernel
theorem dX10_begin_83 : decode cX10_begin 83 = .ok (.iload 5, 2) := by decide +kernel
theorem dX10_begin_85 : decode cX10_begin 85 = .ok (.iastore, 1) := by decide +kernel
theorem dX10_begin_86 : decode cX10_begin 86 = .ok (.aload_n 0, 1) := by decide +kernel
theorem dX10_begin_87 : decode cX10_begin 87 = .ok (.getfield 7, 3) := by decide +kernel
theorem dX10_begin_90 : decode cX10_begin 90 = .ok (.bipush 39, 2) := by decide +kernel
theorem dX10_begin_92 : decode cX10_begin 92 = .ok (.iload_n 1, 1) := by decide +kernel
theorem dX10_begin_93 : decode cX10_begin 93 = .ok (.iadd, 1) := by decide +kernel
theorem dX10_begin_94 : decode cX10_begin 94 = .ok (.iconst (-1), 1) := by decide +kernel
theorem dX10_begin_95 : decode cX10_begin 95 = .ok (.iastore, 1) := by decide +kernel
theorem dX10_begin_96 : decode cX10_begin 96 = .ok (.aload_n 0, 1) := by decide +kernel
theorem dX10_begin_97 : decode cX10_begin 97 = .ok (.iload 5, 2) := by decide +kernel
theorem dX10_begin_99 : decode cX10_begin 99 = .ok (.invokevirtual 334, 3) := by decide +kernel
theorem dX10_begin_102 : decode cX10_begin 102 = .ok (.ifCond .ne 5, 3) := by decide +kernel
theorem dX10_begin_105 : decode cX10_begin 105 = .ok (.iconst 0, 1) := by decide +kernel
theorem dX10_begin_106 : decode cX10_begin 106 = .ok (.ireturn, 1) := by decide +kernel
theorem dX10_begin_107 : decode cX10_begin 107 = .ok (.aload_n 0, 1) := by decide +kernel
theorem dX10_begin_108 : decode cX10_begin 108 = .ok (.iload 5, 2) := by decide +kernel
theorem dX10_begin_110 : decode cX10_begin 110 = .ok (.invokevirtual 331, 3) := by decide +kernel
theorem dX10_begin_113 : decode cX10_begin 113 = .ok (.istore 6, 2) := by decide +kernel
theorem dX10_begin_115 : decode cX10_begin 115 = .ok (.aload_n 0, 1) := by decide +kernel
theorem dX10_begin_116 : decode cX10_begin 116 = .ok (.getfield 7, 3) := by decide +kernel
theorem dX10_begin_119 : decode cX10_begin 119 = .ok (.bipush 39, 2) := by decide +kernel
theorem dX10_begin_121 : decode cX10_begin 121 = .ok (.iload_n 1, 1) := by decide +kernel
theorem dX10_begin_122 : decode cX10_begin 122 = .ok (.iadd, 1) := by decide +kernel
theorem dX10_begin_123 : decode cX10_begin 123 = .ok (.aload_n 0, 1) := by decide +kernel
theorem dX10_begin_124 : decode cX10_begin 124 = .ok (.aload_n 0, 1) := by decide +kernel
theorem dX10_begin_125 : decode cX10_begin 125 = .ok (.iload 6, 2) := by decide +kernel
theorem dX10_begin_127 : decode cX10_begin 127 = .ok (.invokevirtual 80, 3) := by decide +kernel
theorem dX10_begin_130 : decode cX10_begin 130 = .ok (.bipush 10, 2) := by decide +kernel
theorem dX10_begin_132 : decode cX10_begin 132 = .ok (.invokevirtual 316, 3) := by decide +kernel
theorem dX10_begin_135 : decode cX10_begin 135 = .ok (.iastore, 1) := by decide +kernel
theorem dX10_begin_136 : decode cX10_begin 136 = .ok (.aload_n 0, 1) := by decide +kernel
theorem dX10_begin_137 : decode cX10_begin 137 = .ok (.iload 6, 2) := by decide +kernel
theorem dX10_begin_139 : decode cX10_begin 139 = .ok (.aload_n 0, 1) := by decide +kernel
theorem dX10_begin_140 : decode cX10_begin 140 = .ok (.getfield 7, 3) := by decide +kernel
theorem dX10_begin_143 : decode cX10_begin 143 = .ok (.bipush 39, 2) := by decide +kernel
theorem dX10_begin_145 : decode cX10_begin 145 = .ok (.iload_n 1, 1) := by decide +kernel
theorem dX10_begin_146 : decode cX10_begin 146 = .ok (.iadd, 1) := by decide +kernel
theorem dX10_begin_147 : decode cX10_begin 147 = .ok (.iaload, 1) := by decide +kernel
theorem dX10_begin_148 : decode cX10_begin 148 = .ok (.invokevirtual 319, 3) := by decide +kernel
theorem dX10_begin_151 : decode cX10_begin 151 = .ok (.iconst 1, 1) := by decide +kernel
theorem dX10_begin_152 : decode cX10_begin 152 = .ok (.ireturn, 1) := by decide +kernel
def f_X10_begin (M : xm) (a1 : Int32) (a2 : Int32) (a3 : Int32) : Option (Int32 × xm) := xb1 (f_X10_fieldAt M a2 a3) (fun v2 => (if (f_X10_isThread a1) = 0 then some ((-1 : Int32), M) else xb1 (f_X10_isBegun M a1) (fun v7 => (if v7 = 0 then (if v2 = (-1 : Int32) then some ((-1 : Int32), M) else if xin ((41 : Int32) + v2) 9878 = true then xb1 (f_X10_canMend M (M 1 (Int32.toNatClampNeg ((41 : Int32) + v2)))) (fun v13 => (if v13 = 0 then some ((-1 : Int32), M) else xb1 (f_X10_keep M) (fun M17 => xlet (M17 1 (Int32.toNatClampNeg ((41 : Int32) + v2))) (fun v19 => if xin ((35 : Int32) + a1) 9878 = true then xlet (up2 M17 1 (Int32.toNatClampNeg ((35 : Int32) + a1)) v2) (fun M21 => if xin ((37 : Int32) + a1) 9878 = true then xlet (up2 M21 1 (Int32.toNatClampNeg ((37 : Int32) + a1)) v19) (fun M23 => if xin ((39 : Int32) + a1) 9878 = true then xlet (up2 M23 1 (Int32.toNatClampNeg ((39 : Int32) + a1)) (-1 : Int32)) (fun M25 => xb1 (f_X10_needsMove M25 v19) (fun v27 => (if v27 = 0 then some ((0 : Int32), M25) else xb1 (f_X10_whereOf M25 v19) (fun v31 => xb1 (f_X10_sizeOf M25 v31) (fun v34 => xb2 (f_X10_given M25 v34 (10 : Int32)) (fun v37 M38 => xlet (up2 M38 1 (Int32.toNatClampNeg ((39 : Int32) + a1)) v37) (fun M40 => xb1 (f_X10_copyWords M40 v31 (M40 1 (Int32.toNatClampNeg ((39 : Int32) + a1)))) (fun M42 => some ((1 : Int32), M42))))))))) else none) else none) else none)))) else none) else some ((-1 : Int32), M)))))
set_option maxHeartbeats 4000000 in
set_option maxRecDepth 20000 in
theorem c_X10_begin (l : Launch) (E : xE) (b : Nat) (M : xm) (Lm : xn) (a1 : Int32) (a2 : Int32) (a3 : Int32) {r : Int32} {M' : xm} (hf : f_X10_begin M a1 a2 a3 = some (r, M')) :
    xMet l E b NY yX10_begin cX10_begin 7 (some .int) (xR 5) [.ref (b + 0), .int a1, .int a2, .int a3] (cY E b M Lm) (some (.int r)) True (cY E b M' Lm) := by
  refine xMet.ofW (own := RX10) (by decide) rfl (Nat.le_of_ble_eq_true rfl) ?_
  intro p e s m below meth c H locs ls C hm hl
  have hx := C.1.1
  have hb := C.1.2.1
  have hl : lv_has ls 7 [(0, .ref (b + 0)), (1, .int a1), (2, .int a2), (3, .int a3)] := hl
  unfold f_X10_begin at hf
  refine lv_aload_n hx hb dX10_begin_0 rfl (lv_at hl 0 rfl) ?_
  refine lv_iload_n hx hb dX10_begin_1 rfl (lv_at hl 2 rfl) ?_
  refine lv_iload_n hx hb dX10_begin_2 rfl (lv_at hl 3 rfl) ?_
  obtain ⟨v2, hq1, hf⟩ := xb1_e hf
  refine x_callVi (As := [.int a2, .int a3]) (rest := []) C hm (c_X10_fieldAt l E b M Lm a2 a3 hq1) rfl cy_0 tc_X10_fieldAt tm_RX10_352 ti_X10_fieldAt ts_X10_fieldAt tn_RX10 td_X10_fieldAt rfl rfl ⟨Nat.le_of_ble_eq_true rfl, Nat.le_of_ble_eq_true rfl⟩ rfl hl.1 rfl (Nat.le_of_ble_eq_true rfl) ⟨Nat.zero_le _, Nat.zero_le _⟩ dX10_begin_3 (fun H locs hP3 hm => ?_)
  refine lv_istore (lv' := [(4, .int v2), (0, .ref (b + 0)), (1, .int a1), (2, .int a2), (3, .int a3)]) hx hb dX10_begin_6 hl (by decide) rfl (fun ls hl => ?_)
  refine lv_iload_n hx hb dX10_begin_8 rfl (lv_at hl 2 rfl) ?_
  refine x_callSi (As := [.int a1]) (rest := []) C hm (c_X10_isThread l E b M Lm a1 rfl) tc_X10_isThread tm_RX10_412 tz_X10_isThread tn_RX10 td_X10_isThread rfl rfl ⟨Nat.le_of_ble_eq_true rfl, Nat.le_of_ble_eq_true rfl⟩ rfl hl.1 rfl (Nat.le_of_ble_eq_true rfl) ⟨Nat.zero_le _, Nat.zero_le _⟩ dX10_begin_9 (fun H locs hP4 hm => ?_)
  refine lv_if_eq (tgt := 46) hx hb dX10_begin_12 (by decide) (fun hc5 => ?_) (fun hc5 => ?_)
  · have hf := xif_t hc5 hf
    refine lv_iconst (v := (-1 : Int32)) hx hb dX10_begin_46 (by decide) ?_
    cases hf
    exact x_iret C hm trivial dX10_begin_47
  have hf := xif_f hc5 hf
  refine lv_aload_n hx hb dX10_begin_15 rfl (lv_at hl 1 rfl) ?_
  refine lv_iload_n hx hb dX10_begin_16 rfl (lv_at hl 2 rfl) ?_
  obtain ⟨v7, hq6, hf⟩ := xb1_e hf
  refine x_callVi (As := [.int a1]) (rest := []) C hm (c_X10_isBegun l E b M Lm a1 hq6) rfl cy_0 tc_X10_isBegun tm_RX10_71 ti_X10_isBegun ts_X10_isBegun tn_RX10 td_X10_isBegun rfl rfl ⟨Nat.le_of_ble_eq_true rfl, Nat.le_of_ble_eq_true rfl⟩ rfl hl.1 rfl (Nat.le_of_ble_eq_true rfl) ⟨Nat.zero_le _, Nat.zero_le _⟩ dX10_begin_17 (fun H locs hP8 hm => ?_)
  refine lv_if_ne (tgt := 46) hx hb dX10_begin_20 (by decide) (fun hc9 => ?_) (fun hc9 => ?_)
  · have hf := xif_f hc9 hf
    refine lv_iconst (v := (-1 : Int32)) hx hb dX10_begin_46 (by decide) ?_
    cases hf
    exact x_iret C hm trivial dX10_begin_47
  have hf := xif_t hc9 hf
  refine lv_iload hx hb dX10_begin_23 (lv_at hl 0 rfl) ?_
  refine lv_iconst (v := (-1 : Int32)) hx hb dX10_begin_25 (by decide) ?_
  refine lv_icmp_eq (tgt := 46) hx hb dX10_begin_26 (by decide) (fun hc10 => ?_) (fun hc10 => ?_)
  · have hf := xif_t hc10 hf
    refine lv_iconst (v := (-1 : Int32)) hx hb dX10_begin_46 (by decide) ?_
    cases hf
    exact x_iret C hm trivial dX10_begin_47
  have hf := xif_f hc10 hf
  refine lv_aload_n hx hb dX10_begin_29 rfl (lv_at hl 1 rfl) ?_
  refine lv_aload_n hx hb dX10_begin_30 rfl (lv_at hl 1 rfl) ?_
  refine x_get C hm inX10 rfl 0 (by decide) tf_RX10_7 cy_0 rfl dX10_begin_31 ?_
  refine lv_bipush (v := (41 : Int32)) hx hb dX10_begin_34 (by decide) ?_
  refine lv_iload hx hb dX10_begin_36 (lv_at hl 0 rfl) ?_
  refine lv_iadd hx hb dX10_begin_38 ?_
  obtain ⟨hi11, hf⟩ := xif_s hf
  refine x_iald (j := (Int32.toNatClampNeg ((41 : Int32) + v2))) C hm cy_1 hi11 dX10_begin_39 rfl ?_
  obtain ⟨v13, hq12, hf⟩ := xb1_e hf
  refine x_callVi (As := [.int (M 1 (Int32.toNatClampNeg ((41 : Int32) + v2)))]) (rest := []) C hm (c_X10_canMend l E b M Lm (M 1 (Int32.toNatClampNeg ((41 : Int32) + v2))) hq12) rfl cy_0 tc_X10_canMend tm_RX10_346 ti_X10_canMend ts_X10_canMend tn_RX10 td_X10_canMend rfl rfl ⟨Nat.le_of_ble_eq_true rfl, Nat.le_of_ble_eq_true rfl⟩ rfl hl.1 rfl (Nat.le_of_ble_eq_true rfl) ⟨Nat.zero_le _, Nat.zero_le _⟩ dX10_begin_40 (fun H locs hP14 hm => ?_)
  refine lv_if_ne (tgt := 48) hx hb dX10_begin_43 (by decide) (fun hc15 => ?_) (fun hc15 => ?_)
  rotate_left
  · have hf := xif_t hc15 hf
    refine lv_iconst (v := (-1 : Int32)) hx hb dX10_begin_46 (by decide) ?_
    cases hf
    exact x_iret C hm trivial dX10_begin_47
  have hf := xif_f hc15 hf
  refine lv_aload_n hx hb dX10_begin_48 rfl (lv_at hl 1 rfl) ?_
  obtain ⟨M17, hq16, hf⟩ := xb1_e hf
  refine x_callVv (As := []) (rest := []) C hm (c_X10_keep l E b M Lm hq16) rfl cy_0 tc_X10_keep tm_RX10_397 ti_X10_keep ts_X10_keep tn_RX10 td_X10_keep rfl rfl ⟨Nat.le_of_ble_eq_true rfl, Nat.le_of_ble_eq_true rfl⟩ rfl hl.1 rfl (Nat.le_of_ble_eq_true rfl) ⟨Nat.zero_le _, Nat.zero_le _⟩ dX10_begin_49 (fun H locs hP18 hm => ?_)
  refine lv_aload_n hx hb dX10_begin_52 rfl (lv_at hl 1 rfl) ?_
  refine x_get C hm inX10 rfl 0 (by decide) tf_RX10_7 cy_0 rfl dX10_begin_53 ?_
  refine lv_bipush (v := (41 : Int32)) hx hb dX10_begin_56 (by decide) ?_
  refine lv_iload hx hb dX10_begin_58 (lv_at hl 0 rfl) ?_
  refine lv_iadd hx hb dX10_begin_60 ?_
  refine x_iald (j := (Int32.toNatClampNeg ((41 : Int32) + v2))) C hm cy_1 hi11 dX10_begin_61 rfl ?_
  refine lv_topi (fun v19 ev19 => ?_)
  have hf := xlet_e ev19 hf
  refine lv_istore (lv' := [(5, .int v19), (4, .int v2), (0, .ref (b + 0)), (1, .int a1), (2, .int a2), (3, .int a3)]) hx hb dX10_begin_62 hl (by decide) rfl (fun ls hl => ?_)
  refine lv_aload_n hx hb dX10_begin_64 rfl (lv_at hl 2 rfl) ?_
  refine x_get C hm inX10 rfl 0 (by decide) tf_RX10_7 cy_0 rfl dX10_begin_65 ?_
  refine lv_bipush (v := (35 : Int32)) hx hb dX10_begin_68 (by decide) ?_
  refine lv_iload_n hx hb dX10_begin_70 rfl (lv_at hl 3 rfl) ?_
  refine lv_iadd hx hb dX10_begin_71 ?_
  refine lv_iload hx hb dX10_begin_72 (lv_at hl 1 rfl) ?_
  obtain ⟨hi20, hf⟩ := xif_s hf
  obtain ⟨M21, eM21, hf⟩ := xlet_x hf
  refine x_iast (j := (Int32.toNatClampNeg ((35 : Int32) + a1))) (cf' := cY E b M21 Lm) C hm cy_1 hi20 dX10_begin_74 rfl (by rw [eM21]; exact cyu_1) (by rw [eM21]; exact cY_o) (fun H locs hm => ?_)
  refine lv_aload_n hx hb dX10_begin_75 rfl (lv_at hl 2 rfl) ?_
  refine x_get C hm inX10 rfl 0 (by decide) tf_RX10_7 cy_0 rfl dX10_begin_76 ?_
  refine lv_bipush (v := (37 : Int32)) hx hb dX10_begin_79 (by decide) ?_
  refine lv_iload_n hx hb dX10_begin_81 rfl (lv_at hl 3 rfl) ?_
  refine lv_iadd hx hb dX10_begin_82 ?_
  refine lv_iload hx hb dX10_begin_83 (lv_at hl 0 rfl) ?_
  obtain ⟨hi22, hf⟩ := xif_s hf
  obtain ⟨M23, eM23, hf⟩ := xlet_x hf
  refine x_iast (j := (Int32.toNatClampNeg ((37 : Int32) + a1))) (cf' := cY E b M23 Lm) C hm cy_1 hi22 dX10_begin_85 rfl (by rw [eM23]; exact cyu_1) (by rw [eM23]; exact cY_o) (fun H locs hm => ?_)
  refine lv_aload_n hx hb dX10_begin_86 rfl (lv_at hl 2 rfl) ?_
  refine x_get C hm inX10 rfl 0 (by decide) tf_RX10_7 cy_0 rfl dX10_begin_87 ?_
  refine lv_bipush (v := (39 : Int32)) hx hb dX10_begin_90 (by decide) ?_
  refine lv_iload_n hx hb dX10_begin_92 rfl (lv_at hl 3 rfl) ?_
  refine lv_iadd hx hb dX10_begin_93 ?_
  refine lv_iconst (v := (-1 : Int32)) hx hb dX10_begin_94 (by decide) ?_
  obtain ⟨hi24, hf⟩ := xif_s hf
  obtain ⟨M25, eM25, hf⟩ := xlet_x hf
  refine x_iast (j := (Int32.toNatClampNeg ((39 : Int32) + a1))) (cf' := cY E b M25 Lm) C hm cy_1 hi24 dX10_begin_95 rfl (by rw [eM25]; exact cyu_1) (by rw [eM25]; exact cY_o) (fun H locs hm => ?_)
  refine lv_aload_n hx hb dX10_begin_96 rfl (lv_at hl 2 rfl) ?_
  refine lv_iload hx hb dX10_begin_97 (lv_at hl 0 rfl) ?_
  obtain ⟨v27, hq26, hf⟩ := xb1_e hf
  refine x_callVi (As := [.int v19]) (rest := []) C hm (c_X10_needsMove l E b M25 Lm v19 hq26) rfl cy_0 tc_X10_needsMove tm_RX10_334 ti_X10_needsMove ts_X10_needsMove tn_RX10 td_X10_needsMove rfl rfl ⟨Nat.le_of_ble_eq_true rfl, Nat.le_of_ble_eq_true rfl⟩ rfl hl.1 rfl (Nat.le_of_ble_eq_true rfl) ⟨Nat.zero_le _, Nat.zero_le _⟩ dX10_begin_99 (fun H locs hP28 hm => ?_)
  refine lv_if_ne (tgt := 107) hx hb dX10_begin_102 (by decide) (fun hc29 => ?_) (fun hc29 => ?_)
  rotate_left
  · have hf := xif_t hc29 hf
    refine lv_iconst (v := (0 : Int32)) hx hb dX10_begin_105 (by decide) ?_
    cases hf
    exact x_iret C hm trivial dX10_begin_106
  have hf := xif_f hc29 hf
  refine lv_aload_n hx hb dX10_begin_107 rfl (lv_at hl 2 rfl) ?_
  refine lv_iload hx hb dX10_begin_108 (lv_at hl 0 rfl) ?_
  obtain ⟨v31, hq30, hf⟩ := xb1_e hf
  refine x_callVi (As := [.int v19]) (rest := []) C hm (c_X10_whereOf l E b M25 Lm v19 hq30) rfl cy_0 tc_X10_whereOf tm_RX10_331 ti_X10_whereOf ts_X10_whereOf tn_RX10 td_X10_whereOf rfl rfl ⟨Nat.le_of_ble_eq_true rfl, Nat.le_of_ble_eq_true rfl⟩ rfl hl.1 rfl (Nat.le_of_ble_eq_true rfl) ⟨Nat.zero_le _, Nat.zero_le _⟩ dX10_begin_110 (fun H locs hP32 hm => ?_)
  refine lv_istore (lv' := [(6, .int v31), (5, .int v19), (4, .int v2), (0, .ref (b + 0)), (1, .int a1), (2, .int a2), (3, .int a3)]) hx hb dX10_begin_113 hl (by decide) rfl (fun ls hl => ?_)
  refine lv_aload_n hx hb dX10_begin_115 rfl (lv_at hl 3 rfl) ?_
  refine x_get C hm inX10 rfl 0 (by decide) tf_RX10_7 cy_0 rfl dX10_begin_116 ?_
  refine lv_bipush (v := (39 : Int32)) hx hb dX10_begin_119 (by decide) ?_
  refine lv_iload_n hx hb dX10_begin_121 rfl (lv_at hl 4 rfl) ?_
  refine lv_iadd hx hb dX10_begin_122 ?_
  refine lv_aload_n hx hb dX10_begin_123 rfl (lv_at hl 3 rfl) ?_
  refine lv_aload_n hx hb dX10_begin_124 rfl (lv_at hl 3 rfl) ?_
  refine lv_iload hx hb dX10_begin_125 (lv_at hl 0 rfl) ?_
  obtain ⟨v34, hq33, hf⟩ := xb1_e hf
  refine x_callVi (As := [.int v31]) (rest := [.ref (b + 0), .int ((39 : Int32) + a1), .ref (b + 1)]) C hm (c_X10_sizeOf l E b M25 Lm v31 hq33) rfl cy_0 tc_X10_sizeOf tm_RX10_80 ti_X10_sizeOf ts_X10_sizeOf tn_RX10 td_X10_sizeOf rfl rfl ⟨Nat.le_of_ble_eq_true rfl, Nat.le_of_ble_eq_true rfl⟩ rfl hl.1 rfl (Nat.le_of_ble_eq_true rfl) ⟨Nat.zero_le _, Nat.zero_le _⟩ dX10_begin_127 (fun H locs hP35 hm => ?_)
  refine lv_bipush (v := (10 : Int32)) hx hb dX10_begin_130 (by decide) ?_
  obtain ⟨v37, M38, hq36, hf⟩ := xb2_e hf
  refine x_callVi (As := [.int v34, .int (10 : Int32)]) (rest := [.int ((39 : Int32) + a1), .ref (b + 1)]) C hm (c_X10_given l E b M25 Lm v34 (10 : Int32) hq36) rfl cy_0 tc_X10_given tm_RX10_316 ti_X10_given ts_X10_given tn_RX10 td_X10_given rfl rfl ⟨Nat.le_of_ble_eq_true rfl, Nat.le_of_ble_eq_true rfl⟩ rfl hl.1 rfl (Nat.le_of_ble_eq_true rfl) ⟨Nat.zero_le _, Nat.zero_le _⟩ dX10_begin_132 (fun H locs hP39 hm => ?_)
  obtain ⟨M40, eM40, hf⟩ := xlet_x hf
  refine x_iast (j := (Int32.toNatClampNeg ((39 : Int32) + a1))) (cf' := cY E b M40 Lm) C hm cy_1 hi24 dX10_begin_135 rfl (by rw [eM40]; exact cyu_1) (by rw [eM40]; exact cY_o) (fun H locs hm => ?_)
  refine lv_aload_n hx hb dX10_begin_136 rfl (lv_at hl 3 rfl) ?_
  refine lv_iload hx hb dX10_begin_137 (lv_at hl 0 rfl) ?_
  refine lv_aload_n hx hb dX10_begin_139 rfl (lv_at hl 3 rfl) ?_
  refine x_get C hm inX10 rfl 0 (by decide) tf_RX10_7 cy_0 rfl dX10_begin_140 ?_
  refine lv_bipush (v := (39 : Int32)) hx hb dX10_begin_143 (by decide) ?_
  refine lv_iload_n hx hb dX10_begin_145 rfl (lv_at hl 4 rfl) ?_
  refine lv_iadd hx hb dX10_begin_146 ?_
  refine x_iald (j := (Int32.toNatClampNeg ((39 : Int32) + a1))) C hm cy_1 hi24 dX10_begin_147 rfl ?_
  obtain ⟨M42, hq41, hf⟩ := xb1_e hf
  refine x_callVv (As := [.int v31, .int (M40 1 (Int32.toNatClampNeg ((39 : Int32) + a1)))]) (rest := []) C hm (c_X10_copyWords l E b M40 Lm v31 (M40 1 (Int32.toNatClampNeg ((39 : Int32) + a1))) hq41) rfl cy_0 tc_X10_copyWords tm_RX10_319 ti_X10_copyWords ts_X10_copyWords tn_RX10 td_X10_copyWords rfl rfl ⟨Nat.le_of_ble_eq_true rfl, Nat.le_of_ble_eq_true rfl⟩ rfl hl.1 rfl (Nat.le_of_ble_eq_true rfl) ⟨Nat.zero_le _, Nat.zero_le _⟩ dX10_begin_148 (fun H locs hP43 hm => ?_)
  refine lv_iconst (v := (1 : Int32)) hx hb dX10_begin_151 (by decide) ?_
  cases hf
  exact x_iret C hm trivial dX10_begin_152
/-! ColouredHeapModel.emit(II)V -/
theorem dX10_emit_0 : decode cX10_emit 0 = .ok (.aload_n 0, 1) := by decide +kernel
theorem dX10_emit_1 : decode cX10_emit 1 = .ok (.getfield 16, 3) := by decide +kernel
theorem dX10_emit_4 : decode cX10_emit 4 = .ok (.aload_n 0, 1) := by decide +kernel
theorem dX10_emit_5 : decode cX10_emit 5 = .ok (.getfield 137, 3) := by decide +kernel
theorem dX10_emit_8 : decode cX10_emit 8 = .ok (.bipush 97, 2) := by decide +kernel
theorem dX10_emit_10 : decode cX10_emit 10 = .ok (.iadd, 1) := by decide +kernel
theorem dX10_emit_11 : decode cX10_emit 11 = .ok (.iconst 2, 1) := by decide +kernel
theorem dX10_emit_12 : decode cX10_emit 12 = .ok (.aload_n 0, 1) := by decide +kernel
theorem dX10_emit_13 : decode cX10_emit 13 = .ok (.getfield 140, 3) := by decide +kernel
theorem dX10_emit_16 : decode cX10_emit 16 = .ok (.imul, 1) := by decide +kernel
theorem dX10_emit_17 : decode cX10_emit 17 = .ok (.iadd, 1) := by decide +kernel
theorem dX10_emit_18 : decode cX10_emit 18 = .ok (.iload_n 1, 1) := by decide +kernel
theorem dX10_emit_19 : decode cX10_emit 19 = .ok (.iastore, 1) := by decide +kernel
theorem dX10_emit_20 : decode cX10_emit 20 = .ok (.aload_n 0, 1) := by decide +kernel
theorem dX10_emit_21 : decode cX10_emit 21 = .ok (.getfield 16, 3) := by decide +kernel
theorem dX10_emit_24 : decode cX10_emit 24 = .ok (.aload_n 0, 1) := by decide +kernel
theorem dX10_emit_25 : decode cX10_emit 25 = .ok (.getfield 137, 3) := by decide +kernel
theorem dX10_emit_28 : decode cX10_emit 28 = .ok (.bipush 97, 2) := by decide +kernel
theorem dX10_emit_30 : decode cX10_emit 30 = .ok (.iadd, 1) := by decide +kernel
theorem dX10_emit_31 : decode cX10_emit 31 = .ok (.iconst 2, 1) := by decide +kernel
theorem dX10_emit_32 : decode cX10_emit 32 = .ok (.aload_n 0, 1) := by decide +kernel
theorem dX10_emit_33 : decode cX10_emit 33 = .ok (.getfield 140, 3) := by decide +kernel
theorem dX10_emit_36 : decode cX10_emit 36 = .ok (.imul, 1) := by decide +kernel
theorem dX10_emit_37 : decode cX10_emit 37 = .ok (.iadd, 1) := by decide +kernel
theorem dX10_emit_38 : decode cX10_emit 38 = .ok (.iconst 1, 1) := by decide +kernel
theorem dX10_emit_39 : decode cX10_emit 39 = .ok (.iadd, 1) := by decide +kernel
theorem dX10_emit_40 : decode cX10_emit 40 = .ok (.iload_n 2, 1) := by decide +kernel
theorem dX10_emit_41 : decode cX10_emit 41 = .ok (.iastore, 1) := by decide +kernel
theorem dX10_emit_42 : decode cX10_emit 42 = .ok (.aload_n 0, 1) := by decide +kernel
theorem dX10_emit_43 : decode cX10_emit 43 = .ok (.dup, 1) := by decide +kernel
theorem dX10_emit_44 : decode cX10_emit 44 = .ok (.getfield 140, 3) := by decide +kernel
theorem dX10_emit_47 : decode cX10_emit 47 = .ok (.iconst 1, 1) := by decide +kernel
theorem dX10_emit_48 : decode cX10_emit 48 = .ok (.iadd, 1) := by decide +kernel
theorem dX10_emit_49 : decode cX10_emit 49 = .ok (.putfield 140, 3) := by decide +kernel
theorem dX10_emit_52 : decode cX10_emit 52 = .ok (.return_, 1) := by decide +kernel
def f_X10_emit (M : xm) (a1 : Int32) (a2 : Int32) : Option (xm) := if xin (((M 0 12) + (97 : Int32)) + ((2 : Int32) * (M 0 13))) 2820 = true then xlet (up2 M 3 (Int32.toNatClampNeg (((M 0 12) + (97 : Int32)) + ((2 : Int32) * (M 0 13)))) a1) (fun M2 => if xin ((((M2 0 12) + (97 : Int32)) + ((2 : Int32) * (M2 0 13))) + (1 : Int32)) 2820 = true then xlet (up2 M2 3 (Int32.toNatClampNeg ((((M2 0 12) + (97 : Int32)) + ((2 : Int32) * (M2 0 13))) + (1 : Int32))) a2) (fun M4 => xlet (up2 M4 0 13 ((M4 0 13) + (1 : Int32))) (fun M5 => some M5)) else none) else none
set_option maxHeartbeats 4000000 in
set_option maxRecDepth 20000 in
theorem c_X10_emit (l : Launch) (E : xE) (b : Nat) (M : xm) (Lm : xn) (a1 : Int32) (a2 : Int32) {M' : xm} (hf : f_X10_emit M a1 a2 = some M') :
    xMet l E b NY yX10_emit cX10_emit 3 none (xR 1) [.ref (b + 0), .int a1, .int a2] (cY E b M Lm) none True (cY E b M' Lm) := by
  refine xMet.ofW (own := RX10) (by decide) rfl (Nat.le_of_ble_eq_true rfl) ?_
  intro p e s m below meth c H locs ls C hm hl
  have hx := C.1.1
  have hb := C.1.2.1
  have hl : lv_has ls 3 [(0, .ref (b + 0)), (1, .int a1), (2, .int a2)] := hl
  unfold f_X10_emit at hf
  refine lv_aload_n hx hb dX10_emit_0 rfl (lv_at hl 0 rfl) ?_
  refine x_get C hm inX10 rfl 2 (by decide) tf_RX10_16 cy_0 rfl dX10_emit_1 ?_
  refine lv_aload_n hx hb dX10_emit_4 rfl (lv_at hl 0 rfl) ?_
  refine x_get C hm inX10 rfl 12 (by decide) tf_RX10_137 cy_0 rfl dX10_emit_5 ?_
  refine lv_bipush (v := (97 : Int32)) hx hb dX10_emit_8 (by decide) ?_
  refine lv_iadd hx hb dX10_emit_10 ?_
  refine lv_iconst (v := (2 : Int32)) hx hb dX10_emit_11 (by decide) ?_
  refine lv_aload_n hx hb dX10_emit_12 rfl (lv_at hl 0 rfl) ?_
  refine x_get C hm inX10 rfl 13 (by decide) tf_RX10_140 cy_0 rfl dX10_emit_13 ?_
  refine lv_imul hx hb dX10_emit_16 ?_
  refine lv_iadd hx hb dX10_emit_17 ?_
  refine lv_iload_n hx hb dX10_emit_18 rfl (lv_at hl 1 rfl) ?_
  obtain ⟨hi1, hf⟩ := xif_s hf
  obtain ⟨M2, eM2, hf⟩ := xlet_x hf
  refine x_iast (j := (Int32.toNatClampNeg (((M 0 12) + (97 : Int32)) + ((2 : Int32) * (M 0 13))))) (cf' := cY E b M2 Lm) C hm cy_3 hi1 dX10_emit_19 rfl (by rw [eM2]; exact cyu_3) (by rw [eM2]; exact cY_o) (fun H locs hm => ?_)
  refine lv_aload_n hx hb dX10_emit_20 rfl (lv_at hl 0 rfl) ?_
  refine x_get C hm inX10 rfl 2 (by decide) tf_RX10_16 cy_0 rfl dX10_emit_21 ?_
  refine lv_aload_n hx hb dX10_emit_24 rfl (lv_at hl 0 rfl) ?_
  refine x_get C hm inX10 rfl 12 (by decide) tf_RX10_137 cy_0 rfl dX10_emit_25 ?_
  refine lv_bipush (v := (97 : Int32)) hx hb dX10_emit_28 (by decide) ?_
  refine lv_iadd hx hb dX10_emit_30 ?_
  refine lv_iconst (v := (2 : Int32)) hx hb dX10_emit_31 (by decide) ?_
  refine lv_aload_n hx hb dX10_emit_32 rfl (lv_at hl 0 rfl) ?_
  refine x_get C hm inX10 rfl 13 (by decide) tf_RX10_140 cy_0 rfl dX10_emit_33 ?_
  refine lv_imul hx hb dX10_emit_36 ?_
  refine lv_iadd hx hb dX10_emit_37 ?_
  refine lv_iconst (v := (1 : Int32)) hx hb dX10_emit_38 (by decide) ?_
  refine lv_iadd hx hb dX10_emit_39 ?_
  refine lv_iload_n hx hb dX10_emit_40 rfl (lv_at hl 2 rfl) ?_
  obtain ⟨hi3, hf⟩ := xif_s hf
  obtain ⟨M4, eM4, hf⟩ := xlet_x hf
  refine x_iast (j := (Int32.toNatClampNeg ((((M2 0 12) + (97 : Int32)) + ((2 : Int32) * (M2 0 13))) + (1 : Int32)))) (cf' := cY E b M4 Lm) C hm cy_3 hi3 dX10_emit_41 rfl (by rw [eM4]; exact cyu_3) (by rw [eM4]; exact cY_o) (fun H locs hm => ?_)
  refine lv_aload_n hx hb dX10_emit_42 rfl (lv_at hl 0 rfl) ?_
  refine lv_dup hx hb dX10_emit_43 rfl ?_
  refine x_get C hm inX10 rfl 13 (by decide) tf_RX10_140 cy_0 rfl dX10_emit_44 ?_
  refine lv_iconst (v := (1 : Int32)) hx hb dX10_emit_47 (by decide) ?_
  refine lv_iadd hx hb dX10_emit_48 ?_
  obtain ⟨M5, eM5, hf⟩ := xlet_x hf
  refine x_put (cf' := cY E b M5 Lm) C hm inX10 tyX10 tyX10_ok nmX10 rfl 13 (by decide) tf_RX10_140 rfl rfl rfl cy_0 (Nat.le_of_ble_eq_true rfl) (by rw [eM5]; exact cyf_13) (by rw [eM5]; exact cY_o) dX10_emit_49 (fun H locs hm => ?_)
  cases hf
  exact x_vret C hm trivial dX10_emit_52
/-! ColouredHeapModel.openAt()I -/
theorem dX10_openAt_0 : decode cX10_openAt 0 = .ok (.aload_n 0, 1) := by decide +kernel
theorem dX10_openAt_1 : decode cX10_openAt 1 = .ok (.getfield 150, 3) := by decide +kernel
theorem dX10_openAt_4 : decode cX10_openAt 4 = .ok (.iconst 1, 1) := by decide +kernel
theorem dX10_openAt_5 : decode cX10_openAt 5 = .ok (.isub, 1) := by decide +kernel
theorem dX10_openAt_6 : decode cX10_openAt 6 = .ok (.istore_n 1, 1) := by decide +kernel
theorem dX10_openAt_7 : decode cX10_openAt 7 = .ok (.iload_n 1, 1) := by decide +kernel
theorem dX10_openAt_8 : decode cX10_openAt 8 = .ok (.ifCond .lt 20, 3) := by decide +kernel
theorem dX10_openAt_11 : decode cX10_openAt 11 = .ok (.aload_n 0, 1) := by decide +kernel
theorem dX10_openAt_12 : decode cX10_openAt 12 = .ok (.getfield 29, 3) := by decide +kernel
theorem dX10_openAt_15 : decode cX10_openAt 15 = .ok (.iload_n 1, 1) := by decide +kernel
theorem dX10_openAt_16 : decode cX10_openAt 16 = .ok (.iaload, 1) := by decide +kernel
theorem dX10_openAt_17 : decode cX10_openAt 17 = .ok (.bipush 40, 2) := by decide +kernel
theorem dX10_openAt_19 : decode cX10_openAt 19 = .ok (.if_icmp .ge 9, 3) := by decide +kernel
theorem dX10_openAt_22 : decode cX10_openAt 22 = .ok (.iinc 1 (-1), 3) := by decide +kernel
theorem dX10_openAt_25 : decode cX10_openAt 25 = .ok (.goto (-18), 3) := by decide +kernel
theorem dX10_openAt_28 : decode cX10_openAt 28 = .ok (.iload_n 1, 1) := by decide +kernel
theorem dX10_openAt_29 : decode cX10_openAt 29 = .ok (.ireturn, 1) := by decide +kernel
def g_X10_openAt_7 (M : xm) : Nat → Int32 → Option ((Int32))
  | 0, _ => none
  | n + 1, x2 => (if x2 < 0 then some (x2) else if xin x2 160 = true then (if (40 : Int32) ≤ (M 5 (Int32.toNatClampNeg x2)) then some (x2) else xlet (x2 + (-1 : Int32)) (fun v7 => g_X10_openAt_7 M n v7)) else none)
def f_X10_openAt (M : xm) : Option (Int32) := xlet ((M 0 16) - (1 : Int32)) (fun v1 => xb1 (g_X10_openAt_7 M xfuel v1) (fun v8 => some v8))
set_option maxHeartbeats 4000000 in
set_option maxRecDepth 20000 in
theorem j_X10_openAt_7 {p : Program} {l : Launch} {e : Env} {s : State} {m : MethodId} {args : Array Value} {below : List Frame} {meth : Method} {c : Code} {Q : State → Prop} {E : xE} {b : Nat} (C : xC p s m args meth c cX10_openAt 2 RX10 (some .int) E b) (M : xm) {Lm : xn} {y3 : Int32}
    (kx0 : ∀ (H : Heap) (locs : List Loc) (ls : Array Slot), xM E b NY (cY E b M Lm) s.heap H locs → lv_has ls 2 [(1, .int y3)] → W p l e (xR 1) s m args below meth c H locs 0 0 Q (F0 m 28 ls [])) :
    ∀ (n : Nat) (x2 : Int32) (H : Heap) (locs : List Loc) (ls : Array Slot), g_X10_openAt_7 M n x2 = some y3 → xM E b NY (cY E b M Lm) s.heap H locs → lv_has ls 2 [(0, .ref (b + 0)), (1, .int x2)] → W p l e (xR 1) s m args below meth c H locs 0 0 Q (F0 m 7 ls []) := by
  have hx := C.1.1
  have hb := C.1.2.1
  intro n
  induction n with
  | zero =>
    intro x2 H locs ls hf hm hl
    rw [g_X10_openAt_7] at hf
    cases hf
  | succ n ih =>
    intro x2 H locs ls hf hm hl
    rw [g_X10_openAt_7] at hf
    refine lv_iload_n hx hb dX10_openAt_7 rfl (lv_at hl 1 rfl) ?_
    refine lv_if_lt (tgt := 28) hx hb dX10_openAt_8 (by decide) (fun hc4 => ?_) (fun hc4 => ?_)
    · have hf := xif_t hc4 hf
      cases hf
      exact kx0 H locs ls hm (lv_sub hl [1] rfl)
    have hf := xif_f hc4 hf
    refine lv_aload_n hx hb dX10_openAt_11 rfl (lv_at hl 0 rfl) ?_
    refine x_get C hm inX10 rfl 15 (by decide) tf_RX10_29 cy_0 rfl dX10_openAt_12 ?_
    refine lv_iload_n hx hb dX10_openAt_15 rfl (lv_at hl 1 rfl) ?_
    obtain ⟨hi5, hf⟩ := xif_s hf
    refine x_iald (j := (Int32.toNatClampNeg x2)) C hm cy_5 hi5 dX10_openAt_16 rfl ?_
    refine lv_bipush (v := (40 : Int32)) hx hb dX10_openAt_17 (by decide) ?_
    refine lv_icmp_ge (tgt := 28) hx hb dX10_openAt_19 (by decide) (fun hc6 => ?_) (fun hc6 => ?_)
    · have hf := xif_t hc6 hf
      cases hf
      exact kx0 H locs ls hm (lv_sub hl [1] rfl)
    have hf := xif_f hc6 hf
    obtain ⟨v7, ev7, hf⟩ := xlet_x hf
    refine lv_iinc (v := v7) (lv' := [(1, .int v7), (0, .ref (b + 0))]) hx hb dX10_openAt_22 hl (k := 1) rfl (by rw [ev7]; rfl) (by decide) rfl (fun ls hl => ?_)
    refine lv_goto (tgt := 7) hx hb dX10_openAt_25 (by decide) ?_
    exact ih v7 H locs ls hf hm (lv_sub hl [1, 0] rfl)
set_option maxHeartbeats 4000000 in
set_option maxRecDepth 20000 in
theorem c_X10_openAt (l : Launch) (E : xE) (b : Nat) (M : xm) (Lm : xn) {r : Int32} (hf : f_X10_openAt M = some r) :
    xMet l E b NY yX10_openAt cX10_openAt 2 (some .int) (xR 1) [.ref (b + 0)] (cY E b M Lm) (some (.int r)) True (cY E b M Lm) := by
  refine xMet.ofW (own := RX10) (by decide) rfl (Nat.le_of_ble_eq_true rfl) ?_
  intro p e s m below meth c H locs ls C hm hl
  have hx := C.1.1
  have hb := C.1.2.1
  have hl : lv_has ls 2 [(0, .ref (b + 0))] := hl
  unfold f_X10_openAt at hf
  refine lv_aload_n hx hb dX10_openAt_0 rfl (lv_at hl 0 rfl) ?_
  refine x_get C hm inX10 rfl 16 (by decide) tf_RX10_150 cy_0 rfl dX10_openAt_1 ?_
  refine lv_iconst (v := (1 : Int32)) hx hb dX10_openAt_4 (by decide) ?_
  refine lv_isub hx hb dX10_openAt_5 ?_
  refine lv_topi (fun v1 ev1 => ?_)
  have hf := xlet_e ev1 hf
  refine lv_istore_n (lv' := [(1, .int v1), (0, .ref (b + 0))]) hx hb dX10_openAt_6 rfl hl (by decide) rfl (fun ls hl => ?_)
  obtain ⟨v8, hq, hf⟩ := xb1_e hf
  refine j_X10_openAt_7 C M (fun H locs ls hm hl => ?_) xfuel v1 H locs ls hq hm (lv_sub hl [1, 0] rfl)
  refine lv_iload_n hx hb dX10_openAt_28 rfl (lv_at hl 0 rfl) ?_
  cases hf
  exact x_iret C hm trivial dX10_openAt_29
/-! ColouredHeapModel.openNow()I -/
theorem dX10_openNow_0 : decode cX10_openNow 0 = .ok (.aload_n 0, 1) := by decide +kernel
theorem dX10_openNow_1 : decode cX10_openNow 1 = .ok (.invokevirtual 163, 3) := by decide +kernel
theorem dX10_openNow_4 : decode cX10_openNow 4 = .ok (.ifCond .ge 7, 3) := by decide +kernel
theorem dX10_openNow_7 : decode cX10_openNow 7 = .ok (.iconst (-1), 1) := by decide +kernel
theorem dX10_openNow_8 : decode cX10_openNow 8 = .ok (.goto 12, 3) := by decide +kernel
theorem dX10_openNow_11 : decode cX10_openNow 11 = .ok (.aload_n 0, 1) := by decide +kernel
theorem dX10_openNow_12 : decode cX10_openNow 12 = .ok (.getfield 29, 3) := by decide +kernel
theorem dX10_openNow_15 : decode cX10_openNow 15 = .ok (.aload_n 0, 1) := by decide +kernel
theorem dX10_openNow_16 : decode cX10_openNow 16 = .ok (.invokevirtual 163, 3) := by decide +kernel
theorem dX10_openNow_19 : decode cX10_openNow 19 = .ok (.iaload, 1) := by decide +kernel
theorem dX10_openNow_20 : decode cX10_openNow 20 = .ok (.ireturn, 1) := by decide +kernel
def f_X10_openNow (M : xm) : Option (Int32) := xb1 (f_X10_openAt M) (fun v2 => (if 0 ≤ v2 then xb1 (f_X10_openAt M) (fun v6 => if xin v6 160 = true then some (M 5 (Int32.toNatClampNeg v6)) else none) else some (-1 : Int32)))
set_option maxHeartbeats 4000000 in
set_option maxRecDepth 20000 in
theorem c_X10_openNow (l : Launch) (E : xE) (b : Nat) (M : xm) (Lm : xn) {r : Int32} (hf : f_X10_openNow M = some r) :
    xMet l E b NY yX10_openNow cX10_openNow 1 (some .int) (xR 2) [.ref (b + 0)] (cY E b M Lm) (some (.int r)) True (cY E b M Lm) := by
  refine xMet.ofW (own := RX10) (by decide) rfl (Nat.le_of_ble_eq_true rfl) ?_
  intro p e s m below meth c H locs ls C hm hl
  have hx := C.1.1
  have hb := C.1.2.1
  have hl : lv_has ls 1 [(0, .ref (b + 0))] := hl
  unfold f_X10_openNow at hf
  refine lv_aload_n hx hb dX10_openNow_0 rfl (lv_at hl 0 rfl) ?_
  obtain ⟨v2, hq1, hf⟩ := xb1_e hf
  refine x_callVi (As := []) (rest := []) C hm (c_X10_openAt l E b M Lm hq1) rfl cy_0 tc_X10_openAt tm_RX10_163 ti_X10_openAt ts_X10_openAt tn_RX10 td_X10_openAt rfl rfl ⟨Nat.le_of_ble_eq_true rfl, Nat.le_of_ble_eq_true rfl⟩ rfl hl.1 rfl (Nat.le_of_ble_eq_true rfl) ⟨Nat.zero_le _, Nat.zero_le _⟩ dX10_openNow_1 (fun H locs hP3 hm => ?_)
  refine lv_if_ge (tgt := 11) hx hb dX10_openNow_4 (by decide) (fun hc4 => ?_) (fun hc4 => ?_)
  rotate_left
  · have hf := xif_f hc4 hf
    refine lv_iconst (v := (-1 : Int32)) hx hb dX10_openNow_7 (by decide) ?_
    refine lv_goto (tgt := 20) hx hb dX10_openNow_8 (by decide) ?_
    cases hf
    exact x_iret C hm trivial dX10_openNow_20
  have hf := xif_t hc4 hf
  refine lv_aload_n hx hb dX10_openNow_11 rfl (lv_at hl 0 rfl) ?_
  refine x_get C hm inX10 rfl 15 (by decide) tf_RX10_29 cy_0 rfl dX10_openNow_12 ?_
  refine lv_aload_n hx hb dX10_openNow_15 rfl (lv_at hl 0 rfl) ?_
  obtain ⟨v6, hq5, hf⟩ := xb1_e hf
  refine x_callVi (As := []) (rest := [.ref (b + 5)]) C hm (c_X10_openAt l E b M Lm hq5) rfl cy_0 tc_X10_openAt tm_RX10_163 ti_X10_openAt ts_X10_openAt tn_RX10 td_X10_openAt rfl rfl ⟨Nat.le_of_ble_eq_true rfl, Nat.le_of_ble_eq_true rfl⟩ rfl hl.1 rfl (Nat.le_of_ble_eq_true rfl) ⟨Nat.zero_le _, Nat.zero_le _⟩ dX10_openNow_16 (fun H locs hP7 hm => ?_)
  obtain ⟨hi8, hf⟩ := xif_s hf
  refine x_iald (j := (Int32.toNatClampNeg v6)) C hm cy_5 hi8 dX10_openNow_19 rfl ?_
  cases hf
  exact x_iret C hm trivial dX10_openNow_20
/-! ColouredHeapModel.rank(I)I -/
theorem dX10_rank_0 : decode cX10_rank 0 = .ok (.iload_n 0, 1) := by decide +kernel
theorem dX10_rank_1 : decode cX10_rank 1 = .ok (.bipush 40, 2) := by decide +kernel
theorem dX10_rank_3 : decode cX10_rank 3 = .ok (.if_icmp .lt 7, 3) := by decide +kernel
theorem dX10_rank_6 : decode cX10_rank 6 = .ok (.iconst 0, 1) := by decide +kernel
theorem dX10_rank_7 : decode cX10_rank 7 = .ok (.goto 66, 3) := by decide +kernel
theorem dX10_rank_10 : decode cX10_rank 10 = .ok (.iload_n 0, 1) := by decide +kernel
theorem dX10_rank_11 : decode cX10_rank 11 = .ok (.bipush 22, 2) := by decide +kernel
theorem dX10_rank_13 : decode cX10_rank 13 = .ok (.if_icmp .ne 7, 3) := by decide +kernel
theorem dX10_rank_16 : decode cX10_rank 16 = .ok (.iconst 1, 1) := by decide +kernel
theorem dX10_rank_17 : decode cX10_rank 17 = .ok (.goto 56, 3) := by decide +kernel
theorem dX10_rank_20 : decode cX10_rank 20 = .ok (.iload_n 0, 1) := by decide +kernel
theorem dX10_rank_21 : decode cX10_rank 21 = .ok (.bipush 21, 2) := by decide +kernel
theorem dX10_rank_23 : decode cX10_rank 23 = .ok (.if_icmp .ne 7, 3) := by decide +kernel
theorem dX10_rank_26 : decode cX10_rank 26 = .ok (.iconst 2, 1) := by decide +kernel
theorem dX10_rank_27 : decode cX10_rank 27 = .ok (.goto 46, 3) := by decide +kernel
theorem dX10_rank_30 : decode cX10_rank 30 = .ok (.iload_n 0, 1) := by decide +kernel
theorem dX10_rank_31 : decode cX10_rank 31 = .ok (.bipush 20, 2) := by decide +kernel
theorem dX10_rank_33 : decode cX10_rank 33 = .ok (.if_icmp .ne 7, 3) := by decide +kernel
theorem dX10_rank_36 : decode cX10_rank 36 = .ok (.iconst 3, 1) := by decide +kernel
theorem dX10_rank_37 : decode cX10_rank 37 = .ok (.goto 36, 3) := by decide +kernel
theorem dX10_rank_40 : decode cX10_rank 40 = .ok (.iload_n 0, 1) := by decide +kernel
theorem dX10_rank_41 : decode cX10_rank 41 = .ok (.bipush 10, 2) := by decide +kernel
theorem dX10_rank_43 : decode cX10_rank 43 = .ok (.if_icmp .lt 7, 3) := by decide +kernel
theorem dX10_rank_46 : decode cX10_rank 46 = .ok (.iconst 4, 1) := by decide +kernel
theorem dX10_rank_47 : decode cX10_rank 47 = .ok (.goto 26, 3) := by decide +kernel
theorem dX10_rank_50 : decode cX10_rank 50 = .ok (.iload_n 0, 1) := by decide +kernel
theorem dX10_rank_51 : decode cX10_rank 51 = .ok (.bipush 8, 2) := by decide +kernel
theorem dX10_rank_53 : decode cX10_rank 53 = .ok (.if_icmp .lt 8, 3) := by decide +kernel
theorem dX10_rank_56 : decode cX10_rank 56 = .ok (.bipush 6, 2) := by decide +kernel
theorem dX10_rank_58 : decode cX10_rank 58 = .ok (.goto 15, 3) := by decide +kernel
theorem dX10_rank_61 : decode cX10_rank 61 = .ok (.iload_n 0, 1) := by decide +kernel
theorem dX10_rank_62 : decode cX10_rank 62 = .ok (.bipush 6, 2) := by decide +kernel
theorem dX10_rank_64 : decode cX10_rank 64 = .ok (.if_icmp .lt 7, 3) := by decide +kernel
theorem dX10_rank_67 : decode cX10_rank 67 = .ok (.iconst 5, 1) := by decide +kernel
theorem dX10_rank_68 : decode cX10_rank 68 = .ok (.goto 5, 3) := by decide +kernel
theorem dX10_rank_71 : decode cX10_rank 71 = .ok (.bipush 7, 2) := by decide +kernel
theorem dX10_rank_73 : decode cX10_rank 73 = .ok (.ireturn, 1) := by decide +kernel
def f_X10_rank (a0 : Int32) : Int32 := (if a0 < (40 : Int32) then (if a0 = (22 : Int32) then (1 : Int32) else (if a0 = (21 : Int32) then (2 : Int32) else (if a0 = (20 : Int32) then (3 : Int32) else (if a0 < (10 : Int32) then (if a0 < (8 : Int32) then (if a0 < (6 : Int32) then (7 : Int32) else (5 : Int32)) else (6 : Int32)) else (4 : Int32))))) else (0 : Int32))
set_option maxHeartbeats 4000000 in
set_option maxRecDepth 20000 in
theorem c_X10_rank (l : Launch) (E : xE) (b : Nat) (M : xm) (Lm : xn) (a0 : Int32) {r : Int32} (hf : f_X10_rank a0 = r) :
    xMet l E b NY yX10_rank cX10_rank 1 (some .int) (xR 1) [.int a0] (cY E b M Lm) (some (.int r)) True (cY E b M Lm) := by
  refine xMet.ofW (own := RX10) (by decide) rfl (Nat.le_of_ble_eq_true rfl) ?_
  intro p e s m below meth c H locs ls C hm hl
  have hx := C.1.1
  have hb := C.1.2.1
  have hl : lv_has ls 1 [(0, .int a0)] := hl
  unfold f_X10_rank at hf
  refine lv_iload_n hx hb dX10_rank_0 rfl (lv_at hl 0 rfl) ?_
  refine lv_bipush (v := (40 : Int32)) hx hb dX10_rank_1 (by decide) ?_
  refine lv_icmp_lt (tgt := 10) hx hb dX10_rank_3 (by decide) (fun hc1 => ?_) (fun hc1 => ?_)
  rotate_left
  · have hf := xif_f hc1 hf
    refine lv_iconst (v := (0 : Int32)) hx hb dX10_rank_6 (by decide) ?_
    refine lv_goto (tgt := 73) hx hb dX10_rank_7 (by decide) ?_
    cases hf
    exact x_iret C hm trivial dX10_rank_73
  have hf := xif_t hc1 hf
  refine lv_iload_n hx hb dX10_rank_10 rfl (lv_at hl 0 rfl) ?_
  refine lv_bipush (v := (22 : Int32)) hx hb dX10_rank_11 (by decide) ?_
  refine lv_icmp_ne (tgt := 20) hx hb dX10_rank_13 (by decide) (fun hc2 => ?_) (fun hc2 => ?_)
  rotate_left
  · have hf := xif_t hc2 hf
    refine lv_iconst (v := (1 : Int32)) hx hb dX10_rank_16 (by decide) ?_
    refine lv_goto (tgt := 73) hx hb dX10_rank_17 (by decide) ?_
    cases hf
    exact x_iret C hm trivial dX10_rank_73
  have hf := xif_f hc2 hf
  refine lv_iload_n hx hb dX10_rank_20 rfl (lv_at hl 0 rfl) ?_
  refine lv_bipush (v := (21 : Int32)) hx hb dX10_rank_21 (by decide) ?_
  refine lv_icmp_ne (tgt := 30) hx hb dX10_rank_23 (by decide) (fun hc3 => ?_) (fun hc3 => ?_)
  rotate_left
  · have hf := xif_t hc3 hf
    refine lv_iconst (v := (2 : Int32)) hx hb dX10_rank_26 (by decide) ?_
    refine lv_goto (tgt := 73) hx hb dX10_rank_27 (by decide) ?_
    cases hf
    exact x_iret C hm trivial dX10_rank_73
  have hf := xif_f hc3 hf
  refine lv_iload_n hx hb dX10_rank_30 rfl (lv_at hl 0 rfl) ?_
  refine lv_bipush (v := (20 : Int32)) hx hb dX10_rank_31 (by decide) ?_
  refine lv_icmp_ne (tgt := 40) hx hb dX10_rank_33 (by decide) (fun hc4 => ?_) (fun hc4 => ?_)
  rotate_left
  · have hf := xif_t hc4 hf
    refine lv_iconst (v := (3 : Int32)) hx hb dX10_rank_36 (by decide) ?_
    refine lv_goto (tgt := 73) hx hb dX10_rank_37 (by decide) ?_
    cases hf
    exact x_iret C hm trivial dX10_rank_73
  have hf := xif_f hc4 hf
  refine lv_iload_n hx hb dX10_rank_40 rfl (lv_at hl 0 rfl) ?_
  refine lv_bipush (v := (10 : Int32)) hx hb dX10_rank_41 (by decide) ?_
  refine lv_icmp_lt (tgt := 50) hx hb dX10_rank_43 (by decide) (fun hc5 => ?_) (fun hc5 => ?_)
  rotate_left
  · have hf := xif_f hc5 hf
    refine lv_iconst (v := (4 : Int32)) hx hb dX10_rank_46 (by decide) ?_
    refine lv_goto (tgt := 73) hx hb dX10_rank_47 (by decide) ?_
    cases hf
    exact x_iret C hm trivial dX10_rank_73
  have hf := xif_t hc5 hf
  refine lv_iload_n hx hb dX10_rank_50 rfl (lv_at hl 0 rfl) ?_
  refine lv_bipush (v := (8 : Int32)) hx hb dX10_rank_51 (by decide) ?_
  refine lv_icmp_lt (tgt := 61) hx hb dX10_rank_53 (by decide) (fun hc6 => ?_) (fun hc6 => ?_)
  rotate_left
  · have hf := xif_f hc6 hf
    refine lv_bipush (v := (6 : Int32)) hx hb dX10_rank_56 (by decide) ?_
    refine lv_goto (tgt := 73) hx hb dX10_rank_58 (by decide) ?_
    cases hf
    exact x_iret C hm trivial dX10_rank_73
  have hf := xif_t hc6 hf
  refine lv_iload_n hx hb dX10_rank_61 rfl (lv_at hl 0 rfl) ?_
  refine lv_bipush (v := (6 : Int32)) hx hb dX10_rank_62 (by decide) ?_
  refine lv_icmp_lt (tgt := 71) hx hb dX10_rank_64 (by decide) (fun hc7 => ?_) (fun hc7 => ?_)
  · have hf := xif_t hc7 hf
    refine lv_bipush (v := (7 : Int32)) hx hb dX10_rank_71 (by decide) ?_
    cases hf
    exact x_iret C hm trivial dX10_rank_73
  have hf := xif_f hc7 hf
  refine lv_iconst (v := (5 : Int32)) hx hb dX10_rank_67 (by decide) ?_
  refine lv_goto (tgt := 73) hx hb dX10_rank_68 (by decide) ?_
  cases hf
  exact x_iret C hm trivial dX10_rank_73
/-! ColouredHeapModel.isAskAhead()Z -/
theorem dX10_isAskAhead_0 : decode cX10_isAskAhead 0 = .ok (.aload_n 0, 1) := by decide +kernel
theorem dX10_isAskAhead_1 : decode cX10_isAskAhead 1 = .ok (.invokevirtual 167, 3) := by decide +kernel
theorem dX10_isAskAhead_4 : decode cX10_isAskAhead 4 = .ok (.bipush 41, 2) := by decide +kernel
theorem dX10_isAskAhead_6 : decode cX10_isAskAhead 6 = .ok (.if_icmp .ne 45, 3) := by decide +kernel
theorem dX10_isAskAhead_9 : decode cX10_isAskAhead 9 = .ok (.aload_n 0, 1) := by decide +kernel
theorem dX10_isAskAhead_10 : decode cX10_isAskAhead 10 = .ok (.getfield 29, 3) := by decide +kernel
theorem dX10_isAskAhead_13 : decode cX10_isAskAhead 13 = .ok (.aload_n 0, 1) := by decide +kernel
theorem dX10_isAskAhead_14 : decode cX10_isAskAhead 14 = .ok (.getfield 150, 3) := by decide +kernel
theorem dX10_isAskAhead_17 : decode cX10_isAskAhead 17 = .ok (.iconst 1, 1) := by decide +kernel
theorem dX10_isAskAhead_18 : decode cX10_isAskAhead 18 = .ok (.isub, 1) := by decide +kernel
theorem dX10_isAskAhead_19 : decode cX10_isAskAhead 19 = .ok (.iaload, 1) := by decide +kernel
theorem dX10_isAskAhead_20 : decode cX10_isAskAhead 20 = .ok (.bipush 40, 2) := by decide +kernel
theorem dX10_isAskAhead_22 : decode cX10_isAskAhead 22 = .ok (.if_icmp .ge 25, 3) := by decide +kernel
theorem dX10_isAskAhead_25 : decode cX10_isAskAhead 25 = .ok (.aload_n 0, 1) := by decide +kernel
theorem dX10_isAskAhead_26 : decode cX10_isAskAhead 26 = .ok (.getfield 29, 3) := by decide +kernel
theorem dX10_isAskAhead_29 : decode cX10_isAskAhead 29 = .ok (.aload_n 0, 1) := by decide +kernel
theorem dX10_isAskAhead_30 : decode cX10_isAskAhead 30 = .ok (.getfield 150, 3) := by decide +kernel
theorem dX10_isAskAhead_33 : decode cX10_isAskAhead 33 = .ok (.iconst 1, 1) := by decide +kernel
theorem dX10_isAskAhead_34 : decode cX10_isAskAhead 34 = .ok (.isub, 1) := by decide +kernel
theorem dX10_isAskAhead_35 : decode cX10_isAskAhead 35 = .ok (.iaload, 1) := by decide +kernel
theorem dX10_isAskAhead_36 : decode cX10_isAskAhead 36 = .ok (.invokestatic 153, 3) := by decide +kernel
theorem dX10_isAskAhead_39 : decode cX10_isAskAhead 39 = .ok (.iconst 1, 1) := by decide +kernel
theorem dX10_isAskAhead_40 : decode cX10_isAskAhead 40 = .ok (.iconst 3, 1) := by decide +kernel
theorem dX10_isAskAhead_41 : decode cX10_isAskAhead 41 = .ok (.invokestatic 59, 3) := by decide +kernel
theorem dX10_isAskAhead_44 : decode cX10_isAskAhead 44 = .ok (.ifCond .eq 7, 3) := by decide +kernel
theorem dX10_isAskAhead_47 : decode cX10_isAskAhead 47 = .ok (.iconst 1, 1) := by decide +kernel
theorem dX10_isAskAhead_48 : decode cX10_isAskAhead 48 = .ok (.goto 4, 3) := by decide +kernel
theorem dX10_isAskAhead_51 : decode cX10_isAskAhead 51 = .ok (.iconst 0, 1) := by decide +kernel
theorem dX10_isAskAhead_52 : decode cX10_isAskAhead 52 = .ok (.ireturn, 1) := by decide +kernel
def f_X10_isAskAhead (M : xm) : Option (Int32) := xb1 (f_X10_openNow M) (fun v2 => (if v2 = (41 : Int32) then if xin ((M 0 16) - (1 : Int32)) 160 = true then (if (40 : Int32) ≤ (M 5 (Int32.toNatClampNeg ((M 0 16) - (1 : Int32)))) then some (1 : Int32) else (if (f_X10_isIn (f_X10_rank (M 5 (Int32.toNatClampNeg ((M 0 16) - (1 : Int32))))) (1 : Int32) (3 : Int32)) = 0 then some (0 : Int32) else some (1 : Int32))) else none else some (0 : Int32)))
set_option maxHeartbeats 4000000 in
set_option maxRecDepth 20000 in
theorem c_X10_isAskAhead (l : Launch) (E : xE) (b : Nat) (M : xm) (Lm : xn) {r : Int32} (hf : f_X10_isAskAhead M = some r) :
    xMet l E b NY yX10_isAskAhead cX10_isAskAhead 1 (some .boolean) (xR 3) [.ref (b + 0)] (cY E b M Lm) (some (.int r)) (xbo r = true) (cY E b M Lm) := by
  refine xMet.ofW (own := RX10) (by decide) rfl (Nat.le_of_ble_eq_true rfl) ?_
  intro p e s m below meth c H locs ls C hm hl
  have hx := C.1.1
  have hb := C.1.2.1
  have hl : lv_has ls 1 [(0, .ref (b + 0))] := hl
  unfold f_X10_isAskAhead at hf
  refine lv_aload_n hx hb dX10_isAskAhead_0 rfl (lv_at hl 0 rfl) ?_
  obtain ⟨v2, hq1, hf⟩ := xb1_e hf
  refine x_callVi (As := []) (rest := []) C hm (c_X10_openNow l E b M Lm hq1) rfl cy_0 tc_X10_openNow tm_RX10_167 ti_X10_openNow ts_X10_openNow tn_RX10 td_X10_openNow rfl rfl ⟨Nat.le_of_ble_eq_true rfl, Nat.le_of_ble_eq_true rfl⟩ rfl hl.1 rfl (Nat.le_of_ble_eq_true rfl) ⟨Nat.zero_le _, Nat.zero_le _⟩ dX10_isAskAhead_1 (fun H locs hP3 hm => ?_)
  refine lv_bipush (v := (41 : Int32)) hx hb dX10_isAskAhead_4 (by decide) ?_
  refine lv_icmp_ne (tgt := 51) hx hb dX10_isAskAhead_6 (by decide) (fun hc4 => ?_) (fun hc4 => ?_)
  · have hf := xif_f hc4 hf
    refine lv_iconst (v := (0 : Int32)) hx hb dX10_isAskAhead_51 (by decide) ?_
    cases hf
    exact x_zret C hm (by decide) (by decide) dX10_isAskAhead_52
  have hf := xif_t hc4 hf
  refine lv_aload_n hx hb dX10_isAskAhead_9 rfl (lv_at hl 0 rfl) ?_
  refine x_get C hm inX10 rfl 15 (by decide) tf_RX10_29 cy_0 rfl dX10_isAskAhead_10 ?_
  refine lv_aload_n hx hb dX10_isAskAhead_13 rfl (lv_at hl 0 rfl) ?_
  refine x_get C hm inX10 rfl 16 (by decide) tf_RX10_150 cy_0 rfl dX10_isAskAhead_14 ?_
  refine lv_iconst (v := (1 : Int32)) hx hb dX10_isAskAhead_17 (by decide) ?_
  refine lv_isub hx hb dX10_isAskAhead_18 ?_
  obtain ⟨hi5, hf⟩ := xif_s hf
  refine x_iald (j := (Int32.toNatClampNeg ((M 0 16) - (1 : Int32)))) C hm cy_5 hi5 dX10_isAskAhead_19 rfl ?_
  refine lv_bipush (v := (40 : Int32)) hx hb dX10_isAskAhead_20 (by decide) ?_
  refine lv_icmp_ge (tgt := 47) hx hb dX10_isAskAhead_22 (by decide) (fun hc6 => ?_) (fun hc6 => ?_)
  · have hf := xif_t hc6 hf
    refine lv_iconst (v := (1 : Int32)) hx hb dX10_isAskAhead_47 (by decide) ?_
    refine lv_goto (tgt := 52) hx hb dX10_isAskAhead_48 (by decide) ?_
    cases hf
    exact x_zret C hm (by decide) (by decide) dX10_isAskAhead_52
  have hf := xif_f hc6 hf
  refine lv_aload_n hx hb dX10_isAskAhead_25 rfl (lv_at hl 0 rfl) ?_
  refine x_get C hm inX10 rfl 15 (by decide) tf_RX10_29 cy_0 rfl dX10_isAskAhead_26 ?_
  refine lv_aload_n hx hb dX10_isAskAhead_29 rfl (lv_at hl 0 rfl) ?_
  refine x_get C hm inX10 rfl 16 (by decide) tf_RX10_150 cy_0 rfl dX10_isAskAhead_30 ?_
  refine lv_iconst (v := (1 : Int32)) hx hb dX10_isAskAhead_33 (by decide) ?_
  refine lv_isub hx hb dX10_isAskAhead_34 ?_
  refine x_iald (j := (Int32.toNatClampNeg ((M 0 16) - (1 : Int32)))) C hm cy_5 hi5 dX10_isAskAhead_35 rfl ?_
  refine x_callSi (As := [.int (M 5 (Int32.toNatClampNeg ((M 0 16) - (1 : Int32))))]) (rest := []) C hm (c_X10_rank l E b M Lm (M 5 (Int32.toNatClampNeg ((M 0 16) - (1 : Int32)))) rfl) tc_X10_rank tm_RX10_153 tz_X10_rank tn_RX10 td_X10_rank rfl rfl ⟨Nat.le_of_ble_eq_true rfl, Nat.le_of_ble_eq_true rfl⟩ rfl hl.1 rfl (Nat.le_of_ble_eq_true rfl) ⟨Nat.zero_le _, Nat.zero_le _⟩ dX10_isAskAhead_36 (fun H locs hP7 hm => ?_)
  refine lv_iconst (v := (1 : Int32)) hx hb dX10_isAskAhead_39 (by decide) ?_
  refine lv_iconst (v := (3 : Int32)) hx hb dX10_isAskAhead_40 (by decide) ?_
  refine x_callSi (As := [.int (f_X10_rank (M 5 (Int32.toNatClampNeg ((M 0 16) - (1 : Int32))))), .int (1 : Int32), .int (3 : Int32)]) (rest := []) C hm (c_X10_isIn l E b M Lm (f_X10_rank (M 5 (Int32.toNatClampNeg ((M 0 16) - (1 : Int32))))) (1 : Int32) (3 : Int32) rfl) tc_X10_isIn tm_RX10_59 tz_X10_isIn tn_RX10 td_X10_isIn rfl rfl ⟨Nat.le_of_ble_eq_true rfl, Nat.le_of_ble_eq_true rfl⟩ rfl hl.1 rfl (Nat.le_of_ble_eq_true rfl) ⟨Nat.zero_le _, Nat.zero_le _⟩ dX10_isAskAhead_41 (fun H locs hP8 hm => ?_)
  refine lv_if_eq (tgt := 51) hx hb dX10_isAskAhead_44 (by decide) (fun hc9 => ?_) (fun hc9 => ?_)
  · have hf := xif_t hc9 hf
    refine lv_iconst (v := (0 : Int32)) hx hb dX10_isAskAhead_51 (by decide) ?_
    cases hf
    exact x_zret C hm (by decide) (by decide) dX10_isAskAhead_52
  have hf := xif_f hc9 hf
  refine lv_iconst (v := (1 : Int32)) hx hb dX10_isAskAhead_47 (by decide) ?_
  refine lv_goto (tgt := 52) hx hb dX10_isAskAhead_48 (by decide) ?_
  cases hf
  exact x_zret C hm (by decide) (by decide) dX10_isAskAhead_52
/-! ColouredHeapModel.isOf(I)Z -/
theorem dX10_isOf_0 : decode cX10_isOf 0 = .ok (.iload_n 1, 1) := by decide +kernel
theorem dX10_isOf_1 : decode cX10_isOf 1 = .ok (.iconst 4, 1) := by decide +kernel
theorem dX10_isOf_2 : decode cX10_isOf 2 = .ok (.if_icmp .lt 27, 3) := by decide +kernel
theorem dX10_isOf_5 : decode cX10_isOf 5 = .ok (.iload_n 1, 1) := by decide +kernel
theorem dX10_isOf_6 : decode cX10_isOf 6 = .ok (.bipush 7, 2) := by decide +kernel
theorem dX10_isOf_8 : decode cX10_isOf 8 = .ok (.if_icmp .ge 13, 3) := by decide +kernel
theorem dX10_isOf_11 : decode cX10_isOf 11 = .ok (.aload_n 0, 1) := by decide +kernel
theorem dX10_isOf_12 : decode cX10_isOf 12 = .ok (.getfield 147, 3) := by decide +kernel
theorem dX10_isOf_15 : decode cX10_isOf 15 = .ok (.ifCond .ne 18, 3) := by decide +kernel
theorem dX10_isOf_18 : decode cX10_isOf 18 = .ok (.goto 11, 3) := by decide +kernel
theorem dX10_isOf_21 : decode cX10_isOf 21 = .ok (.aload_n 0, 1) := by decide +kernel
theorem dX10_isOf_22 : decode cX10_isOf 22 = .ok (.getfield 147, 3) := by decide +kernel
theorem dX10_isOf_25 : decode cX10_isOf 25 = .ok (.iconst 1, 1) := by decide +kernel
theorem dX10_isOf_26 : decode cX10_isOf 26 = .ok (.if_icmp .ne 7, 3) := by decide +kernel
theorem dX10_isOf_29 : decode cX10_isOf 29 = .ok (.iconst 1, 1) := by decide +kernel
theorem dX10_isOf_30 : decode cX10_isOf 30 = .ok (.goto 4, 3) := by decide +kernel
theorem dX10_isOf_33 : decode cX10_isOf 33 = .ok (.iconst 0, 1) := by decide +kernel
theorem dX10_isOf_34 : decode cX10_isOf 34 = .ok (.ireturn, 1) := by decide +kernel
def f_X10_isOf (M : xm) (a1 : Int32) : Int32 := (if a1 < (4 : Int32) then (1 : Int32) else (if (7 : Int32) ≤ a1 then (if (M 0 14) = (1 : Int32) then (1 : Int32) else (0 : Int32)) else (if (M 0 14) = 0 then (1 : Int32) else (0 : Int32))))
set_option maxHeartbeats 4000000 in
set_option maxRecDepth 20000 in
theorem c_X10_isOf (l : Launch) (E : xE) (b : Nat) (M : xm) (Lm : xn) (a1 : Int32) {r : Int32} (hf : f_X10_isOf M a1 = r) :
    xMet l E b NY yX10_isOf cX10_isOf 2 (some .boolean) (xR 1) [.ref (b + 0), .int a1] (cY E b M Lm) (some (.int r)) (xbo r = true) (cY E b M Lm) := by
  refine xMet.ofW (own := RX10) (by decide) rfl (Nat.le_of_ble_eq_true rfl) ?_
  intro p e s m below meth c H locs ls C hm hl
  have hx := C.1.1
  have hb := C.1.2.1
  have hl : lv_has ls 2 [(0, .ref (b + 0)), (1, .int a1)] := hl
  unfold f_X10_isOf at hf
  refine lv_iload_n hx hb dX10_isOf_0 rfl (lv_at hl 1 rfl) ?_
  refine lv_iconst (v := (4 : Int32)) hx hb dX10_isOf_1 (by decide) ?_
  refine lv_icmp_lt (tgt := 29) hx hb dX10_isOf_2 (by decide) (fun hc1 => ?_) (fun hc1 => ?_)
  · have hf := xif_t hc1 hf
    refine lv_iconst (v := (1 : Int32)) hx hb dX10_isOf_29 (by decide) ?_
    refine lv_goto (tgt := 34) hx hb dX10_isOf_30 (by decide) ?_
    cases hf
    exact x_zret C hm (by decide) (by decide) dX10_isOf_34
  have hf := xif_f hc1 hf
  refine lv_iload_n hx hb dX10_isOf_5 rfl (lv_at hl 1 rfl) ?_
  refine lv_bipush (v := (7 : Int32)) hx hb dX10_isOf_6 (by decide) ?_
  refine lv_icmp_ge (tgt := 21) hx hb dX10_isOf_8 (by decide) (fun hc2 => ?_) (fun hc2 => ?_)
  · have hf := xif_t hc2 hf
    refine lv_aload_n hx hb dX10_isOf_21 rfl (lv_at hl 0 rfl) ?_
    refine x_get C hm inX10 rfl 14 (by decide) tf_RX10_147 cy_0 rfl dX10_isOf_22 ?_
    refine lv_iconst (v := (1 : Int32)) hx hb dX10_isOf_25 (by decide) ?_
    refine lv_icmp_ne (tgt := 33) hx hb dX10_isOf_26 (by decide) (fun hc3 => ?_) (fun hc3 => ?_)
    · have hf := xif_f hc3 hf
      refine lv_iconst (v := (0 : Int32)) hx hb dX10_isOf_33 (by decide) ?_
      cases hf
      exact x_zret C hm (by decide) (by decide) dX10_isOf_34
    have hf := xif_t hc3 hf
    refine lv_iconst (v := (1 : Int32)) hx hb dX10_isOf_29 (by decide) ?_
    refine lv_goto (tgt := 34) hx hb dX10_isOf_30 (by decide) ?_
    cases hf
    exact x_zret C hm (by decide) (by decide) dX10_isOf_34
  have hf := xif_f hc2 hf
  refine lv_aload_n hx hb dX10_isOf_11 rfl (lv_at hl 0 rfl) ?_
  refine x_get C hm inX10 rfl 14 (by decide) tf_RX10_147 cy_0 rfl dX10_isOf_12 ?_
  refine lv_if_ne (tgt := 33) hx hb dX10_isOf_15 (by decide) (fun hc4 => ?_) (fun hc4 => ?_)
  · have hf := xif_f hc4 hf
    refine lv_iconst (v := (0 : Int32)) hx hb dX10_isOf_33 (by decide) ?_
    cases hf
    exact x_zret C hm (by decide) (by decide) dX10_isOf_34
  have hf := xif_t hc4 hf
  refine lv_goto (tgt := 29) hx hb dX10_isOf_18 (by decide) ?_
  refine lv_iconst (v := (1 : Int32)) hx hb dX10_isOf_29 (by decide) ?_
  refine lv_goto (tgt := 34) hx hb dX10_isOf_30 (by decide) ?_
  cases hf
  exact x_zret C hm (by decide) (by decide) dX10_isOf_34
