/-! ColouredHeap$Reader.sum(I)V -/
theorem dX4_sum_0 : decode cX4_sum 0 = .ok (.aload_n 0, 1) := by decide +kernel
theorem dX4_sum_1 : decode cX4_sum 1 = .ok (.iload_n 1, 1) := by decide +kernel
theorem dX4_sum_2 : decode cX4_sum 2 = .ok (.invokevirtual 158, 3) := by decide +kernel
theorem dX4_sum_5 : decode cX4_sum 5 = .ok (.iconst 0, 1) := by decide +kernel
theorem dX4_sum_6 : decode cX4_sum 6 = .ok (.istore_n 2, 1) := by decide +kernel
theorem dX4_sum_7 : decode cX4_sum 7 = .ok (.iload_n 2, 1) := by decide +kernel
theorem dX4_sum_8 : decode cX4_sum 8 = .ok (.sipush 300, 3) := by decide +kernel
theorem dX4_sum_11 : decode cX4_sum 11 = .ok (.if_icmp .ge 54, 3) := by decide +kernel
theorem dX4_sum_14 : decode cX4_sum 14 = .ok (.aload_n 0, 1) := by decide +kernel
theorem dX4_sum_15 : decode cX4_sum 15 = .ok (.bipush 31, 2) := by decide +kernel
theorem dX4_sum_17 : decode cX4_sum 17 = .ok (.invokevirtual 58, 3) := by decide +kernel
theorem dX4_sum_20 : decode cX4_sum 20 = .ok (.ifCond .ne 12, 3) := by decide +kernel
theorem dX4_sum_23 : decode cX4_sum 23 = .ok (.aload_n 0, 1) := by decide +kernel
theorem dX4_sum_24 : decode cX4_sum 24 = .ok (.bipush 32, 2) := by decide +kernel
theorem dX4_sum_26 : decode cX4_sum 26 = .ok (.invokevirtual 58, 3) := by decide +kernel
theorem dX4_sum_29 : decode cX4_sum 29 = .ok (.ifCond .eq 36, 3) := by decide +kernel
theorem dX4_sum_32 : decode cX4_sum 32 = .ok (.aload_n 0, 1) := by decide +kernel
theorem dX4_sum_33 : decode cX4_sum 33 = .ok (.invokevirtual 111, 3) := by decide +kernel
theorem dX4_sum_36 : decode cX4_sum 36 = .ok (.istore_n 3, 1) := by decide +kernel
theorem dX4_sum_37 : decode cX4_sum 37 = .ok (.aload_n 0, 1) := by decide +kernel
theorem dX4_sum_38 : decode cX4_sum 38 = .ok (.dup, 1) := by decide +kernel
theorem dX4_sum_39 : decode cX4_sum 39 = .ok (.getfield 44, 3) := by decide +kernel
theorem dX4_sum_42 : decode cX4_sum 42 = .ok (.iconst 1, 1) := by decide +kernel
theorem dX4_sum_43 : decode cX4_sum 43 = .ok (.iadd, 1) := by decide +kernel
theorem dX4_sum_44 : decode cX4_sum 44 = .ok (.putfield 44, 3) := by decide +kernel
theorem dX4_sum_47 : decode cX4_sum 47 = .ok (.aload_n 0, 1) := by decide +kernel
theorem dX4_sum_48 : decode cX4_sum 48 = .ok (.iload_n 1, 1) := by decide +kernel
theorem dX4_sum_49 : decode cX4_sum 49 = .ok (.invokevirtual 158, 3) := by decide +kernel
theorem dX4_sum_52 : decode cX4_sum 52 = .ok (.aload_n 0, 1) := by decide +kernel
theorem dX4_sum_53 : decode cX4_sum 53 = .ok (.iload_n 3, 1) := by decide +kernel
theorem dX4_sum_54 : decode cX4_sum 54 = .ok (.iconst 0, 1) := by decide +kernel
theorem dX4_sum_55 : decode cX4_sum 55 = .ok (.invokevirtual 161, 3) := by decide +kernel
theorem dX4_sum_58 : decode cX4_sum 58 = .ok (.pop, 1) := by decide +kernel
theorem dX4_sum_59 : decode cX4_sum 59 = .ok (.iinc 2 1, 3) := by decide +kernel
theorem dX4_sum_62 : decode cX4_sum 62 = .ok (.goto (-55), 3) := by decide +kernel
theorem dX4_sum_65 : decode cX4_sum 65 = .ok (.return_, 1) := by decide +kernel
def g_X4_sum_7 (R : Nat → xm → Int32 → Int32 → Option xm) (x3 : Int32) : Nat → xm → Int32 → Option ((xm))
  | 0, _, _ => none
  | n + 1, M5, x4 => (if (300 : Int32) ≤ x4 then some (M5) else xb1 (f_X4_isNext M5 (31 : Int32)) (fun v9 => xlet (xb1 (f_X4_nextKind M5) (fun v13 => xlet (up2 M5 990 9 ((M5 990 9) + (1 : Int32))) (fun M15 => xb1 (R 1 M15 x3 0) (fun M16 => xb2 (f_X4_emit M16 v13 (0 : Int32)) (fun v19 M20 => xlet (x4 + (1 : Int32)) (fun v22 => g_X4_sum_7 R x3 n M20 v22)))))) (fun k11 => (if v9 = 0 then xb1 (f_X4_isNext M5 (32 : Int32)) (fun v25 => (if v25 = 0 then some (M5) else k11)) else k11))))
def fb_X4_sum (R : Nat → xm → Int32 → Int32 → Option xm) (M : xm) (a1 : Int32) : Option xm := xb1 (R 1 M a1 0) (fun M1 => xb1 (g_X4_sum_7 R a1 xfuel M1 (0 : Int32)) (fun M28 => some M28))
set_option maxHeartbeats 4000000 in
set_option maxRecDepth 20000 in
theorem j_X4_sum_7 {p : Program} {l : Launch} {e : Env} {s : State} {m : MethodId} {args : Array Value} {below : List Frame} {meth : Method} {c : Code} {Q : State → Prop} {E : xE} {b : Nat} (C : xC p s m args meth c cX4_sum 4 RX4 none E b) (R : Nat → xm → Int32 → Int32 → Option xm) (d : Nat) (hR_X4_ask : ∀ (M : xm) (a0 : Int32) (M' : xm), R 7 M a0 0 = some M' → xMet l E b NX yX4_ask cX4_ask 2 none (xR (d + 8)) [.ref (b + 990), .int a0] (cX E b M) none True (cX E b M')) (hR_X4_both : ∀ (M : xm) (a0 : Int32) (M' : xm), R 6 M a0 0 = some M' → xMet l E b NX yX4_both cX4_both 3 none (xR (d + 8)) [.ref (b + 990), .int a0] (cX E b M) none True (cX E b M')) (hR_X4_choice : ∀ (M : xm) (a0 : Int32) (M' : xm), R 4 M a0 0 = some M' → xMet l E b NX yX4_choice cX4_choice 4 none (xR (d + 8)) [.ref (b + 990), .int a0] (cX E b M) none True (cX E b M')) (hR_X4_comparison : ∀ (M : xm) (a0 : Int32) (M' : xm), R 8 M a0 0 = some M' → xMet l E b NX yX4_comparison cX4_comparison 4 none (xR (d + 8)) [.ref (b + 990), .int a0] (cX E b M) none True (cX E b M')) (hR_X4_either : ∀ (M : xm) (a0 : Int32) (M' : xm), R 5 M a0 0 = some M' → xMet l E b NX yX4_either cX4_either 3 none (xR (d + 8)) [.ref (b + 990), .int a0] (cX E b M) none True (cX E b M')) (hR_X4_one : ∀ (M : xm) (a0 : Int32) (M' : xm), R 2 M a0 0 = some M' → xMet l E b NX yX4_one cX4_one 3 none (xR (d + 8)) [.ref (b + 990), .int a0] (cX E b M) none True (cX E b M')) (hR_X4_openedOne : ∀ (M : xm) (a0 : Int32) (a1 : Int32) (M' : xm), R 3 M a0 a1 = some M' → xMet l E b NX yX4_openedOne cX4_openedOne 3 none (xR (d + 8)) [.ref (b + 990), .int a0, .int a1] (cX E b M) none True (cX E b M')) (hR_X4_product : ∀ (M : xm) (a0 : Int32) (M' : xm), R 1 M a0 0 = some M' → xMet l E b NX yX4_product cX4_product 4 none (xR (d + 8)) [.ref (b + 990), .int a0] (cX E b M) none True (cX E b M')) (hR_X4_sum : ∀ (M : xm) (a0 : Int32) (M' : xm), R 0 M a0 0 = some M' → xMet l E b NX yX4_sum cX4_sum 4 none (xR (d + 8)) [.ref (b + 990), .int a0] (cX E b M) none True (cX E b M')) (x3 : Int32) {y6 : xm}
    (kx0 : ∀ (H : Heap) (locs : List Loc) (ls : Array Slot), xM E b NX (cX E b y6) s.heap H locs → lv_has ls 4 [] → W p l e (xR (d + 9)) s m args below meth c H locs 0 0 Q (F0 m 65 ls [])) :
    ∀ (n : Nat) (M5 : xm) (x4 : Int32) (H : Heap) (locs : List Loc) (ls : Array Slot), g_X4_sum_7 R x3 n M5 x4 = some y6 → xM E b NX (cX E b M5) s.heap H locs → lv_has ls 4 [(0, .ref (b + 990)), (1, .int x3), (2, .int x4)] → W p l e (xR (d + 9)) s m args below meth c H locs 0 0 Q (F0 m 7 ls []) := by
  have hx := C.1.1
  have hb := C.1.2.1
  intro n
  induction n with
  | zero =>
    intro M5 x4 H locs ls hf hm hl
    rw [g_X4_sum_7] at hf
    cases hf
  | succ n ih =>
    intro M5 x4 H locs ls hf hm hl
    rw [g_X4_sum_7] at hf
    refine lv_iload_n hx hb dX4_sum_7 rfl (lv_at hl 2 rfl) ?_
    refine lv_sipush (v := (300 : Int32)) hx hb dX4_sum_8 (by decide) ?_
    refine lv_icmp_ge (tgt := 65) hx hb dX4_sum_11 (by decide) (fun hc7 => ?_) (fun hc7 => ?_)
    · have hf := xif_t hc7 hf
      cases hf
      exact kx0 H locs ls hm (lv_sub hl [] rfl)
    have hf := xif_f hc7 hf
    refine lv_aload_n hx hb dX4_sum_14 rfl (lv_at hl 0 rfl) ?_
    refine lv_bipush (v := (31 : Int32)) hx hb dX4_sum_15 (by decide) ?_
    obtain ⟨v9, hq8, hf⟩ := xb1_e hf
    refine x_callVi (As := [.int (31 : Int32)]) (rest := []) C hm (c_X4_isNext l E b M5 (31 : Int32) hq8) rfl (cx_Reader (LX_reader 0 _ rfl)) tc_X4_isNext tm_RX4_58 ti_X4_isNext ts_X4_isNext tn_RX4 td_X4_isNext rfl rfl ⟨by show 2 + 1 ≤ d + 9; omega, by show 8 + (2 + 11) + 64 * 2 ≤ 64 * (d + 9); omega⟩ rfl hl.1 rfl (Nat.le_of_ble_eq_true rfl) ⟨Nat.zero_le _, Nat.zero_le _⟩ dX4_sum_17 (fun H locs hP10 hm => ?_)
    obtain ⟨k11, ek11, hf⟩ := xlet_x hf
    have jk11 : ∀  (H : Heap) (locs : List Loc) (ls : Array Slot), k11 = some y6 → xM E b NX (cX E b M5) s.heap H locs → lv_has ls 4 [(0, .ref (b + 990)), (1, .int x3), (2, .int x4)] → W p l e (xR (d + 9)) s m args below meth c H locs 0 0 Q (F0 m 32 ls []) := by
      intro  H locs ls hf hm hl
      have hf := xap0 ek11 hf
      refine lv_aload_n hx hb dX4_sum_32 rfl (lv_at hl 0 rfl) ?_
      obtain ⟨v13, hq12, hf⟩ := xb1_e hf
      refine x_callVi (As := []) (rest := []) C hm (c_X4_nextKind l E b M5 hq12) rfl (cx_Reader (LX_reader 0 _ rfl)) tc_X4_nextKind tm_RX4_111 ti_X4_nextKind ts_X4_nextKind tn_RX4 td_X4_nextKind rfl rfl ⟨by show 1 + 1 ≤ d + 9; omega, by show 8 + (1 + 11) + 64 * 1 ≤ 64 * (d + 9); omega⟩ rfl hl.1 rfl (Nat.le_of_ble_eq_true rfl) ⟨Nat.zero_le _, Nat.zero_le _⟩ dX4_sum_33 (fun H locs hP14 hm => ?_)
      refine lv_istore_n (lv' := [(3, .int v13), (0, .ref (b + 990)), (1, .int x3), (2, .int x4)]) hx hb dX4_sum_36 rfl hl (by decide) rfl (fun ls hl => ?_)
      refine lv_aload_n hx hb dX4_sum_37 rfl (lv_at hl 1 rfl) ?_
      refine lv_dup hx hb dX4_sum_38 rfl ?_
      refine x_get C hm inX4 rfl 9 (by decide) tf_RX4_44 (cx_Reader (LX_reader 0 _ rfl)) rfl dX4_sum_39 ?_
      refine lv_iconst (v := (1 : Int32)) hx hb dX4_sum_42 (by decide) ?_
      refine lv_iadd hx hb dX4_sum_43 ?_
      obtain ⟨M15, eM15, hf⟩ := xlet_x hf
      refine x_put (cf' := cX E b M15) C hm inX4 tyX4 tyX4_ok nmX4 rfl 9 (by decide) tf_RX4_44 rfl rfl rfl (cx_Reader (LX_reader 0 _ rfl)) (Nat.le_of_ble_eq_true rfl) (by rw [eM15]; exact cu_Reader_9 (LX_reader 0 _ rfl)) (by rw [eM15]; exact cX_o) dX4_sum_44 (fun H locs hm => ?_)
      refine lv_aload_n hx hb dX4_sum_47 rfl (lv_at hl 1 rfl) ?_
      refine lv_iload_n hx hb dX4_sum_48 rfl (lv_at hl 2 rfl) ?_
      obtain ⟨M16, hq17, hf⟩ := xb1_e hf
      refine x_callVv (As := [.int x3]) (rest := []) C hm (hR_X4_product M15 x3 _ hq17) rfl (cx_Reader (LX_reader 0 _ rfl)) tc_X4_product tm_RX4_158 ti_X4_product ts_X4_product tn_RX4 td_X4_product rfl rfl ⟨by show d + 8 + 1 ≤ d + 9; omega, by show 8 + (4 + 11) + 64 * (d + 8) ≤ 64 * (d + 9); omega⟩ rfl hl.1 rfl (Nat.le_of_ble_eq_true rfl) ⟨Nat.zero_le _, Nat.zero_le _⟩ dX4_sum_49 (fun H locs _ hm => ?_)
      refine lv_aload_n hx hb dX4_sum_52 rfl (lv_at hl 1 rfl) ?_
      refine lv_iload_n hx hb dX4_sum_53 rfl (lv_at hl 0 rfl) ?_
      refine lv_iconst (v := (0 : Int32)) hx hb dX4_sum_54 (by decide) ?_
      obtain ⟨v19, M20, hq18, hf⟩ := xb2_e hf
      refine x_callVi (As := [.int v13, .int (0 : Int32)]) (rest := []) C hm (c_X4_emit l E b M16 v13 (0 : Int32) hq18) rfl (cx_Reader (LX_reader 0 _ rfl)) tc_X4_emit tm_RX4_161 ti_X4_emit ts_X4_emit tn_RX4 td_X4_emit rfl rfl ⟨by show 2 + 1 ≤ d + 9; omega, by show 8 + (3 + 11) + 64 * 2 ≤ 64 * (d + 9); omega⟩ rfl hl.1 rfl (Nat.le_of_ble_eq_true rfl) ⟨Nat.zero_le _, Nat.zero_le _⟩ dX4_sum_55 (fun H locs hP21 hm => ?_)
      refine lv_pop hx hb dX4_sum_58 rfl ?_
      obtain ⟨v22, ev22, hf⟩ := xlet_x hf
      refine lv_iinc (v := v22) (lv' := [(2, .int v22), (3, .int v13), (0, .ref (b + 990)), (1, .int x3)]) hx hb dX4_sum_59 hl (k := 3) rfl (by rw [ev22]; rfl) (by decide) rfl (fun ls hl => ?_)
      refine lv_goto (tgt := 7) hx hb dX4_sum_62 (by decide) ?_
      exact ih M20 v22 H locs ls hf hm (lv_sub hl [2, 3, 0] rfl)
    refine lv_if_ne (tgt := 32) hx hb dX4_sum_20 (by decide) (fun hc23 => ?_) (fun hc23 => ?_)
    · have hf := xif_f hc23 hf
      exact jk11  H locs ls  hf hm (lv_sub hl [0, 1, 2] rfl)
    have hf := xif_t hc23 hf
    refine lv_aload_n hx hb dX4_sum_23 rfl (lv_at hl 0 rfl) ?_
    refine lv_bipush (v := (32 : Int32)) hx hb dX4_sum_24 (by decide) ?_
    obtain ⟨v25, hq24, hf⟩ := xb1_e hf
    refine x_callVi (As := [.int (32 : Int32)]) (rest := []) C hm (c_X4_isNext l E b M5 (32 : Int32) hq24) rfl (cx_Reader (LX_reader 0 _ rfl)) tc_X4_isNext tm_RX4_58 ti_X4_isNext ts_X4_isNext tn_RX4 td_X4_isNext rfl rfl ⟨by show 2 + 1 ≤ d + 9; omega, by show 8 + (2 + 11) + 64 * 2 ≤ 64 * (d + 9); omega⟩ rfl hl.1 rfl (Nat.le_of_ble_eq_true rfl) ⟨Nat.zero_le _, Nat.zero_le _⟩ dX4_sum_26 (fun H locs hP26 hm => ?_)
    refine lv_if_eq (tgt := 65) hx hb dX4_sum_29 (by decide) (fun hc27 => ?_) (fun hc27 => ?_)
    rotate_left
    · have hf := xif_f hc27 hf
      exact jk11  H locs ls  hf hm (lv_sub hl [0, 1, 2] rfl)
    have hf := xif_t hc27 hf
    cases hf
    exact kx0 H locs ls hm (lv_sub hl [] rfl)
set_option maxHeartbeats 4000000 in
set_option maxRecDepth 20000 in
theorem cb_X4_sum (l : Launch) (E : xE) (b : Nat) (R : Nat → xm → Int32 → Int32 → Option xm) (d : Nat) (hR_X4_ask : ∀ (M : xm) (a0 : Int32) (M' : xm), R 7 M a0 0 = some M' → xMet l E b NX yX4_ask cX4_ask 2 none (xR (d + 8)) [.ref (b + 990), .int a0] (cX E b M) none True (cX E b M')) (hR_X4_both : ∀ (M : xm) (a0 : Int32) (M' : xm), R 6 M a0 0 = some M' → xMet l E b NX yX4_both cX4_both 3 none (xR (d + 8)) [.ref (b + 990), .int a0] (cX E b M) none True (cX E b M')) (hR_X4_choice : ∀ (M : xm) (a0 : Int32) (M' : xm), R 4 M a0 0 = some M' → xMet l E b NX yX4_choice cX4_choice 4 none (xR (d + 8)) [.ref (b + 990), .int a0] (cX E b M) none True (cX E b M')) (hR_X4_comparison : ∀ (M : xm) (a0 : Int32) (M' : xm), R 8 M a0 0 = some M' → xMet l E b NX yX4_comparison cX4_comparison 4 none (xR (d + 8)) [.ref (b + 990), .int a0] (cX E b M) none True (cX E b M')) (hR_X4_either : ∀ (M : xm) (a0 : Int32) (M' : xm), R 5 M a0 0 = some M' → xMet l E b NX yX4_either cX4_either 3 none (xR (d + 8)) [.ref (b + 990), .int a0] (cX E b M) none True (cX E b M')) (hR_X4_one : ∀ (M : xm) (a0 : Int32) (M' : xm), R 2 M a0 0 = some M' → xMet l E b NX yX4_one cX4_one 3 none (xR (d + 8)) [.ref (b + 990), .int a0] (cX E b M) none True (cX E b M')) (hR_X4_openedOne : ∀ (M : xm) (a0 : Int32) (a1 : Int32) (M' : xm), R 3 M a0 a1 = some M' → xMet l E b NX yX4_openedOne cX4_openedOne 3 none (xR (d + 8)) [.ref (b + 990), .int a0, .int a1] (cX E b M) none True (cX E b M')) (hR_X4_product : ∀ (M : xm) (a0 : Int32) (M' : xm), R 1 M a0 0 = some M' → xMet l E b NX yX4_product cX4_product 4 none (xR (d + 8)) [.ref (b + 990), .int a0] (cX E b M) none True (cX E b M')) (hR_X4_sum : ∀ (M : xm) (a0 : Int32) (M' : xm), R 0 M a0 0 = some M' → xMet l E b NX yX4_sum cX4_sum 4 none (xR (d + 8)) [.ref (b + 990), .int a0] (cX E b M) none True (cX E b M')) (M : xm) (a1 : Int32) {M' : xm} (hf : fb_X4_sum R M a1 = some M') :
    xMet l E b NX yX4_sum cX4_sum 4 none (xR (d + 9)) [.ref (b + 990), .int a1] (cX E b M) none True (cX E b M') := by
  refine xMet.ofW (own := RX4) (by decide) rfl (Nat.le_of_ble_eq_true rfl) ?_
  intro p e s m below meth c H locs ls C hm hl
  have hx := C.1.1
  have hb := C.1.2.1
  have hl : lv_has ls 4 [(0, .ref (b + 990)), (1, .int a1)] := hl
  unfold fb_X4_sum at hf
  refine lv_aload_n hx hb dX4_sum_0 rfl (lv_at hl 0 rfl) ?_
  refine lv_iload_n hx hb dX4_sum_1 rfl (lv_at hl 1 rfl) ?_
  obtain ⟨M1, hq2, hf⟩ := xb1_e hf
  refine x_callVv (As := [.int a1]) (rest := []) C hm (hR_X4_product M a1 _ hq2) rfl (cx_Reader (LX_reader 0 _ rfl)) tc_X4_product tm_RX4_158 ti_X4_product ts_X4_product tn_RX4 td_X4_product rfl rfl ⟨by show d + 8 + 1 ≤ d + 9; omega, by show 8 + (4 + 11) + 64 * (d + 8) ≤ 64 * (d + 9); omega⟩ rfl hl.1 rfl (Nat.le_of_ble_eq_true rfl) ⟨Nat.zero_le _, Nat.zero_le _⟩ dX4_sum_2 (fun H locs _ hm => ?_)
  refine lv_iconst (v := (0 : Int32)) hx hb dX4_sum_5 (by decide) ?_
  refine lv_istore_n (lv' := [(2, .int (0 : Int32)), (0, .ref (b + 990)), (1, .int a1)]) hx hb dX4_sum_6 rfl hl (by decide) rfl (fun ls hl => ?_)
  obtain ⟨M28, hq, hf⟩ := xb1_e hf
  refine j_X4_sum_7 C R d hR_X4_ask hR_X4_both hR_X4_choice hR_X4_comparison hR_X4_either hR_X4_one hR_X4_openedOne hR_X4_product hR_X4_sum a1 (fun H locs ls hm hl => ?_) xfuel M1 (0 : Int32) H locs ls hq hm (lv_sub hl [1, 2, 0] rfl)
  cases hf
  exact x_vret C hm trivial dX4_sum_65
/-! ColouredHeap$Reader.product(I)V -/
theorem dX4_product_0 : decode cX4_product 0 = .ok (.aload_n 0, 1) := by decide +kernel
theorem dX4_product_1 : decode cX4_product 1 = .ok (.iload_n 1, 1) := by decide +kernel
theorem dX4_product_2 : decode cX4_product 2 = .ok (.invokevirtual 164, 3) := by decide +kernel
theorem dX4_product_5 : decode cX4_product 5 = .ok (.iconst 0, 1) := by decide +kernel
theorem dX4_product_6 : decode cX4_product 6 = .ok (.istore_n 2, 1) := by decide +kernel
theorem dX4_product_7 : decode cX4_product 7 = .ok (.iload_n 2, 1) := by decide +kernel
theorem dX4_product_8 : decode cX4_product 8 = .ok (.sipush 300, 3) := by decide +kernel
theorem dX4_product_11 : decode cX4_product 11 = .ok (.if_icmp .ge 54, 3) := by decide +kernel
theorem dX4_product_14 : decode cX4_product 14 = .ok (.aload_n 0, 1) := by decide +kernel
theorem dX4_product_15 : decode cX4_product 15 = .ok (.bipush 33, 2) := by decide +kernel
theorem dX4_product_17 : decode cX4_product 17 = .ok (.invokevirtual 58, 3) := by decide +kernel
theorem dX4_product_20 : decode cX4_product 20 = .ok (.ifCond .ne 12, 3) := by decide +kernel
theorem dX4_product_23 : decode cX4_product 23 = .ok (.aload_n 0, 1) := by decide +kernel
theorem dX4_product_24 : decode cX4_product 24 = .ok (.bipush 34, 2) := by decide +kernel
theorem dX4_product_26 : decode cX4_product 26 = .ok (.invokevirtual 58, 3) := by decide +kernel
theorem dX4_product_29 : decode cX4_product 29 = .ok (.ifCond .eq 36, 3) := by decide +kernel
theorem dX4_product_32 : decode cX4_product 32 = .ok (.aload_n 0, 1) := by decide +kernel
theorem dX4_product_33 : decode cX4_product 33 = .ok (.invokevirtual 111, 3) := by decide +kernel
theorem dX4_product_36 : decode cX4_product 36 = .ok (.istore_n 3, 1) := by decide +kernel
theorem dX4_product_37 : decode cX4_product 37 = .ok (.aload_n 0, 1) := by decide +kernel
theorem dX4_product_38 : decode cX4_product 38 = .ok (.dup, 1) := by decide +kernel
theorem dX4_product_39 : decode cX4_product 39 = .ok (.getfield 44, 3) := by decide +kernel
theorem dX4_product_42 : decode cX4_product 42 = .ok (.iconst 1, 1) := by decide +kernel
theorem dX4_product_43 : decode cX4_product 43 = .ok (.iadd, 1) := by decide +kernel
theorem dX4_product_44 : decode cX4_product 44 = .ok (.putfield 44, 3) := by decide +kernel
theorem dX4_product_47 : decode cX4_product 47 = .ok (.aload_n 0, 1) := by decide +kernel
theorem dX4_product_48 : decode cX4_product 48 = .ok (.iload_n 1, 1) := by decide +kernel
theorem dX4_product_49 : decode cX4_product 49 = .ok (.invokevirtual 164, 3) := by decide +kernel
theorem dX4_product_52 : decode cX4_product 52 = .ok (.aload_n 0, 1) := by decide +kernel
theorem dX4_product_53 : decode cX4_product 53 = .ok (.iload_n 3, 1) := by decide +kernel
theorem dX4_product_54 : decode cX4_product 54 = .ok (.iconst 0, 1) := by decide +kernel
theorem dX4_product_55 : decode cX4_product 55 = .ok (.invokevirtual 161, 3) := by decide +kernel
theorem dX4_product_58 : decode cX4_product 58 = .ok (.pop, 1) := by decide +kernel
theorem dX4_product_59 : decode cX4_product 59 = .ok (.iinc 2 1, 3) := by decide +kernel
theorem dX4_product_62 : decode cX4_product 62 = .ok (.goto (-55), 3) := by decide +kernel
theorem dX4_product_65 : decode cX4_product 65 = .ok (.return_, 1) := by decide +kernel
def g_X4_product_7 (R : Nat → xm → Int32 → Int32 → Option xm) (x3 : Int32) : Nat → xm → Int32 → Option ((xm))
  | 0, _, _ => none
  | n + 1, M5, x4 => (if (300 : Int32) ≤ x4 then some (M5) else xb1 (f_X4_isNext M5 (33 : Int32)) (fun v9 => xlet (xb1 (f_X4_nextKind M5) (fun v13 => xlet (up2 M5 990 9 ((M5 990 9) + (1 : Int32))) (fun M15 => xb1 (R 2 M15 x3 0) (fun M16 => xb2 (f_X4_emit M16 v13 (0 : Int32)) (fun v19 M20 => xlet (x4 + (1 : Int32)) (fun v22 => g_X4_product_7 R x3 n M20 v22)))))) (fun k11 => (if v9 = 0 then xb1 (f_X4_isNext M5 (34 : Int32)) (fun v25 => (if v25 = 0 then some (M5) else k11)) else k11))))
def fb_X4_product (R : Nat → xm → Int32 → Int32 → Option xm) (M : xm) (a1 : Int32) : Option xm := xb1 (R 2 M a1 0) (fun M1 => xb1 (g_X4_product_7 R a1 xfuel M1 (0 : Int32)) (fun M28 => some M28))
set_option maxHeartbeats 4000000 in
set_option maxRecDepth 20000 in
theorem j_X4_product_7 {p : Program} {l : Launch} {e : Env} {s : State} {m : MethodId} {args : Array Value} {below : List Frame} {meth : Method} {c : Code} {Q : State → Prop} {E : xE} {b : Nat} (C : xC p s m args meth c cX4_product 4 RX4 none E b) (R : Nat → xm → Int32 → Int32 → Option xm) (d : Nat) (hR_X4_ask : ∀ (M : xm) (a0 : Int32) (M' : xm), R 7 M a0 0 = some M' → xMet l E b NX yX4_ask cX4_ask 2 none (xR (d + 8)) [.ref (b + 990), .int a0] (cX E b M) none True (cX E b M')) (hR_X4_both : ∀ (M : xm) (a0 : Int32) (M' : xm), R 6 M a0 0 = some M' → xMet l E b NX yX4_both cX4_both 3 none (xR (d + 8)) [.ref (b + 990), .int a0] (cX E b M) none True (cX E b M')) (hR_X4_choice : ∀ (M : xm) (a0 : Int32) (M' : xm), R 4 M a0 0 = some M' → xMet l E b NX yX4_choice cX4_choice 4 none (xR (d + 8)) [.ref (b + 990), .int a0] (cX E b M) none True (cX E b M')) (hR_X4_comparison : ∀ (M : xm) (a0 : Int32) (M' : xm), R 8 M a0 0 = some M' → xMet l E b NX yX4_comparison cX4_comparison 4 none (xR (d + 8)) [.ref (b + 990), .int a0] (cX E b M) none True (cX E b M')) (hR_X4_either : ∀ (M : xm) (a0 : Int32) (M' : xm), R 5 M a0 0 = some M' → xMet l E b NX yX4_either cX4_either 3 none (xR (d + 8)) [.ref (b + 990), .int a0] (cX E b M) none True (cX E b M')) (hR_X4_one : ∀ (M : xm) (a0 : Int32) (M' : xm), R 2 M a0 0 = some M' → xMet l E b NX yX4_one cX4_one 3 none (xR (d + 8)) [.ref (b + 990), .int a0] (cX E b M) none True (cX E b M')) (hR_X4_openedOne : ∀ (M : xm) (a0 : Int32) (a1 : Int32) (M' : xm), R 3 M a0 a1 = some M' → xMet l E b NX yX4_openedOne cX4_openedOne 3 none (xR (d + 8)) [.ref (b + 990), .int a0, .int a1] (cX E b M) none True (cX E b M')) (hR_X4_product : ∀ (M : xm) (a0 : Int32) (M' : xm), R 1 M a0 0 = some M' → xMet l E b NX yX4_product cX4_product 4 none (xR (d + 8)) [.ref (b + 990), .int a0] (cX E b M) none True (cX E b M')) (hR_X4_sum : ∀ (M : xm) (a0 : Int32) (M' : xm), R 0 M a0 0 = some M' → xMet l E b NX yX4_sum cX4_sum 4 none (xR (d + 8)) [.ref (b + 990), .int a0] (cX E b M) none True (cX E b M')) (x3 : Int32) {y6 : xm}
    (kx0 : ∀ (H : Heap) (locs : List Loc) (ls : Array Slot), xM E b NX (cX E b y6) s.heap H locs → lv_has ls 4 [] → W p l e (xR (d + 9)) s m args below meth c H locs 0 0 Q (F0 m 65 ls [])) :
    ∀ (n : Nat) (M5 : xm) (x4 : Int32) (H : Heap) (locs : List Loc) (ls : Array Slot), g_X4_product_7 R x3 n M5 x4 = some y6 → xM E b NX (cX E b M5) s.heap H locs → lv_has ls 4 [(0, .ref (b + 990)), (1, .int x3), (2, .int x4)] → W p l e (xR (d + 9)) s m args below meth c H locs 0 0 Q (F0 m 7 ls []) := by
  have hx := C.1.1
  have hb := C.1.2.1
  intro n
  induction n with
  | zero =>
    intro M5 x4 H locs ls hf hm hl
    rw [g_X4_product_7] at hf
    cases hf
  | succ n ih =>
    intro M5 x4 H locs ls hf hm hl
    rw [g_X4_product_7] at hf
    refine lv_iload_n hx hb dX4_product_7 rfl (lv_at hl 2 rfl) ?_
    refine lv_sipush (v := (300 : Int32)) hx hb dX4_product_8 (by decide) ?_
    refine lv_icmp_ge (tgt := 65) hx hb dX4_product_11 (by decide) (fun hc7 => ?_) (fun hc7 => ?_)
    · have hf := xif_t hc7 hf
      cases hf
      exact kx0 H locs ls hm (lv_sub hl [] rfl)
    have hf := xif_f hc7 hf
    refine lv_aload_n hx hb dX4_product_14 rfl (lv_at hl 0 rfl) ?_
    refine lv_bipush (v := (33 : Int32)) hx hb dX4_product_15 (by decide) ?_
    obtain ⟨v9, hq8, hf⟩ := xb1_e hf
    refine x_callVi (As := [.int (33 : Int32)]) (rest := []) C hm (c_X4_isNext l E b M5 (33 : Int32) hq8) rfl (cx_Reader (LX_reader 0 _ rfl)) tc_X4_isNext tm_RX4_58 ti_X4_isNext ts_X4_isNext tn_RX4 td_X4_isNext rfl rfl ⟨by show 2 + 1 ≤ d + 9; omega, by show 8 + (2 + 11) + 64 * 2 ≤ 64 * (d + 9); omega⟩ rfl hl.1 rfl (Nat.le_of_ble_eq_true rfl) ⟨Nat.zero_le _, Nat.zero_le _⟩ dX4_product_17 (fun H locs hP10 hm => ?_)
    obtain ⟨k11, ek11, hf⟩ := xlet_x hf
    have jk11 : ∀  (H : Heap) (locs : List Loc) (ls : Array Slot), k11 = some y6 → xM E b NX (cX E b M5) s.heap H locs → lv_has ls 4 [(0, .ref (b + 990)), (1, .int x3), (2, .int x4)] → W p l e (xR (d + 9)) s m args below meth c H locs 0 0 Q (F0 m 32 ls []) := by
      intro  H locs ls hf hm hl
      have hf := xap0 ek11 hf
      refine lv_aload_n hx hb dX4_product_32 rfl (lv_at hl 0 rfl) ?_
      obtain ⟨v13, hq12, hf⟩ := xb1_e hf
      refine x_callVi (As := []) (rest := []) C hm (c_X4_nextKind l E b M5 hq12) rfl (cx_Reader (LX_reader 0 _ rfl)) tc_X4_nextKind tm_RX4_111 ti_X4_nextKind ts_X4_nextKind tn_RX4 td_X4_nextKind rfl rfl ⟨by show 1 + 1 ≤ d + 9; omega, by show 8 + (1 + 11) + 64 * 1 ≤ 64 * (d + 9); omega⟩ rfl hl.1 rfl (Nat.le_of_ble_eq_true rfl) ⟨Nat.zero_le _, Nat.zero_le _⟩ dX4_product_33 (fun H locs hP14 hm => ?_)
      refine lv_istore_n (lv' := [(3, .int v13), (0, .ref (b + 990)), (1, .int x3), (2, .int x4)]) hx hb dX4_product_36 rfl hl (by decide) rfl (fun ls hl => ?_)
      refine lv_aload_n hx hb dX4_product_37 rfl (lv_at hl 1 rfl) ?_
      refine lv_dup hx hb dX4_product_38 rfl ?_
      refine x_get C hm inX4 rfl 9 (by decide) tf_RX4_44 (cx_Reader (LX_reader 0 _ rfl)) rfl dX4_product_39 ?_
      refine lv_iconst (v := (1 : Int32)) hx hb dX4_product_42 (by decide) ?_
      refine lv_iadd hx hb dX4_product_43 ?_
      obtain ⟨M15, eM15, hf⟩ := xlet_x hf
      refine x_put (cf' := cX E b M15) C hm inX4 tyX4 tyX4_ok nmX4 rfl 9 (by decide) tf_RX4_44 rfl rfl rfl (cx_Reader (LX_reader 0 _ rfl)) (Nat.le_of_ble_eq_true rfl) (by rw [eM15]; exact cu_Reader_9 (LX_reader 0 _ rfl)) (by rw [eM15]; exact cX_o) dX4_product_44 (fun H locs hm => ?_)
      refine lv_aload_n hx hb dX4_product_47 rfl (lv_at hl 1 rfl) ?_
      refine lv_iload_n hx hb dX4_product_48 rfl (lv_at hl 2 rfl) ?_
      obtain ⟨M16, hq17, hf⟩ := xb1_e hf
      refine x_callVv (As := [.int x3]) (rest := []) C hm (hR_X4_one M15 x3 _ hq17) rfl (cx_Reader (LX_reader 0 _ rfl)) tc_X4_one tm_RX4_164 ti_X4_one ts_X4_one tn_RX4 td_X4_one rfl rfl ⟨by show d + 8 + 1 ≤ d + 9; omega, by show 8 + (3 + 11) + 64 * (d + 8) ≤ 64 * (d + 9); omega⟩ rfl hl.1 rfl (Nat.le_of_ble_eq_true rfl) ⟨Nat.zero_le _, Nat.zero_le _⟩ dX4_product_49 (fun H locs _ hm => ?_)
      refine lv_aload_n hx hb dX4_product_52 rfl (lv_at hl 1 rfl) ?_
      refine lv_iload_n hx hb dX4_product_53 rfl (lv_at hl 0 rfl) ?_
      refine lv_iconst (v := (0 : Int32)) hx hb dX4_product_54 (by decide) ?_
      obtain ⟨v19, M20, hq18, hf⟩ := xb2_e hf
      refine x_callVi (As := [.int v13, .int (0 : Int32)]) (rest := []) C hm (c_X4_emit l E b M16 v13 (0 : Int32) hq18) rfl (cx_Reader (LX_reader 0 _ rfl)) tc_X4_emit tm_RX4_161 ti_X4_emit ts_X4_emit tn_RX4 td_X4_emit rfl rfl ⟨by show 2 + 1 ≤ d + 9; omega, by show 8 + (3 + 11) + 64 * 2 ≤ 64 * (d + 9); omega⟩ rfl hl.1 rfl (Nat.le_of_ble_eq_true rfl) ⟨Nat.zero_le _, Nat.zero_le _⟩ dX4_product_55 (fun H locs hP21 hm => ?_)
      refine lv_pop hx hb dX4_product_58 rfl ?_
      obtain ⟨v22, ev22, hf⟩ := xlet_x hf
      refine lv_iinc (v := v22) (lv' := [(2, .int v22), (3, .int v13), (0, .ref (b + 990)), (1, .int x3)]) hx hb dX4_product_59 hl (k := 3) rfl (by rw [ev22]; rfl) (by decide) rfl (fun ls hl => ?_)
      refine lv_goto (tgt := 7) hx hb dX4_product_62 (by decide) ?_
      exact ih M20 v22 H locs ls hf hm (lv_sub hl [2, 3, 0] rfl)
    refine lv_if_ne (tgt := 32) hx hb dX4_product_20 (by decide) (fun hc23 => ?_) (fun hc23 => ?_)
    · have hf := xif_f hc23 hf
      exact jk11  H locs ls  hf hm (lv_sub hl [0, 1, 2] rfl)
    have hf := xif_t hc23 hf
    refine lv_aload_n hx hb dX4_product_23 rfl (lv_at hl 0 rfl) ?_
    refine lv_bipush (v := (34 : Int32)) hx hb dX4_product_24 (by decide) ?_
    obtain ⟨v25, hq24, hf⟩ := xb1_e hf
    refine x_callVi (As := [.int (34 : Int32)]) (rest := []) C hm (c_X4_isNext l E b M5 (34 : Int32) hq24) rfl (cx_Reader (LX_reader 0 _ rfl)) tc_X4_isNext tm_RX4_58 ti_X4_isNext ts_X4_isNext tn_RX4 td_X4_isNext rfl rfl ⟨by show 2 + 1 ≤ d + 9; omega, by show 8 + (2 + 11) + 64 * 2 ≤ 64 * (d + 9); omega⟩ rfl hl.1 rfl (Nat.le_of_ble_eq_true rfl) ⟨Nat.zero_le _, Nat.zero_le _⟩ dX4_product_26 (fun H locs hP26 hm => ?_)
    refine lv_if_eq (tgt := 65) hx hb dX4_product_29 (by decide) (fun hc27 => ?_) (fun hc27 => ?_)
    rotate_left
    · have hf := xif_f hc27 hf
      exact jk11  H locs ls  hf hm (lv_sub hl [0, 1, 2] rfl)
    have hf := xif_t hc27 hf
    cases hf
    exact kx0 H locs ls hm (lv_sub hl [] rfl)
set_option maxHeartbeats 4000000 in
set_option maxRecDepth 20000 in
theorem cb_X4_product (l : Launch) (E : xE) (b : Nat) (R : Nat → xm → Int32 → Int32 → Option xm) (d : Nat) (hR_X4_ask : ∀ (M : xm) (a0 : Int32) (M' : xm), R 7 M a0 0 = some M' → xMet l E b NX yX4_ask cX4_ask 2 none (xR (d + 8)) [.ref (b + 990), .int a0] (cX E b M) none True (cX E b M')) (hR_X4_both : ∀ (M : xm) (a0 : Int32) (M' : xm), R 6 M a0 0 = some M' → xMet l E b NX yX4_both cX4_both 3 none (xR (d + 8)) [.ref (b + 990), .int a0] (cX E b M) none True (cX E b M')) (hR_X4_choice : ∀ (M : xm) (a0 : Int32) (M' : xm), R 4 M a0 0 = some M' → xMet l E b NX yX4_choice cX4_choice 4 none (xR (d + 8)) [.ref (b + 990), .int a0] (cX E b M) none True (cX E b M')) (hR_X4_comparison : ∀ (M : xm) (a0 : Int32) (M' : xm), R 8 M a0 0 = some M' → xMet l E b NX yX4_comparison cX4_comparison 4 none (xR (d + 8)) [.ref (b + 990), .int a0] (cX E b M) none True (cX E b M')) (hR_X4_either : ∀ (M : xm) (a0 : Int32) (M' : xm), R 5 M a0 0 = some M' → xMet l E b NX yX4_either cX4_either 3 none (xR (d + 8)) [.ref (b + 990), .int a0] (cX E b M) none True (cX E b M')) (hR_X4_one : ∀ (M : xm) (a0 : Int32) (M' : xm), R 2 M a0 0 = some M' → xMet l E b NX yX4_one cX4_one 3 none (xR (d + 8)) [.ref (b + 990), .int a0] (cX E b M) none True (cX E b M')) (hR_X4_openedOne : ∀ (M : xm) (a0 : Int32) (a1 : Int32) (M' : xm), R 3 M a0 a1 = some M' → xMet l E b NX yX4_openedOne cX4_openedOne 3 none (xR (d + 8)) [.ref (b + 990), .int a0, .int a1] (cX E b M) none True (cX E b M')) (hR_X4_product : ∀ (M : xm) (a0 : Int32) (M' : xm), R 1 M a0 0 = some M' → xMet l E b NX yX4_product cX4_product 4 none (xR (d + 8)) [.ref (b + 990), .int a0] (cX E b M) none True (cX E b M')) (hR_X4_sum : ∀ (M : xm) (a0 : Int32) (M' : xm), R 0 M a0 0 = some M' → xMet l E b NX yX4_sum cX4_sum 4 none (xR (d + 8)) [.ref (b + 990), .int a0] (cX E b M) none True (cX E b M')) (M : xm) (a1 : Int32) {M' : xm} (hf : fb_X4_product R M a1 = some M') :
    xMet l E b NX yX4_product cX4_product 4 none (xR (d + 9)) [.ref (b + 990), .int a1] (cX E b M) none True (cX E b M') := by
  refine xMet.ofW (own := RX4) (by decide) rfl (Nat.le_of_ble_eq_true rfl) ?_
  intro p e s m below meth c H locs ls C hm hl
  have hx := C.1.1
  have hb := C.1.2.1
  have hl : lv_has ls 4 [(0, .ref (b + 990)), (1, .int a1)] := hl
  unfold fb_X4_product at hf
  refine lv_aload_n hx hb dX4_product_0 rfl (lv_at hl 0 rfl) ?_
  refine lv_iload_n hx hb dX4_product_1 rfl (lv_at hl 1 rfl) ?_
  obtain ⟨M1, hq2, hf⟩ := xb1_e hf
  refine x_callVv (As := [.int a1]) (rest := []) C hm (hR_X4_one M a1 _ hq2) rfl (cx_Reader (LX_reader 0 _ rfl)) tc_X4_one tm_RX4_164 ti_X4_one ts_X4_one tn_RX4 td_X4_one rfl rfl ⟨by show d + 8 + 1 ≤ d + 9; omega, by show 8 + (3 + 11) + 64 * (d + 8) ≤ 64 * (d + 9); omega⟩ rfl hl.1 rfl (Nat.le_of_ble_eq_true rfl) ⟨Nat.zero_le _, Nat.zero_le _⟩ dX4_product_2 (fun H locs _ hm => ?_)
  refine lv_iconst (v := (0 : Int32)) hx hb dX4_product_5 (by decide) ?_
  refine lv_istore_n (lv' := [(2, .int (0 : Int32)), (0, .ref (b + 990)), (1, .int a1)]) hx hb dX4_product_6 rfl hl (by decide) rfl (fun ls hl => ?_)
  obtain ⟨M28, hq, hf⟩ := xb1_e hf
  refine j_X4_product_7 C R d hR_X4_ask hR_X4_both hR_X4_choice hR_X4_comparison hR_X4_either hR_X4_one hR_X4_openedOne hR_X4_product hR_X4_sum a1 (fun H locs ls hm hl => ?_) xfuel M1 (0 : Int32) H locs ls hq hm (lv_sub hl [1, 2, 0] rfl)
  cases hf
  exact x_vret C hm trivial dX4_product_65
/-! ColouredHeap$Reader.one(I)V -/
theorem dX4_one_0 : decode cX4_one 0 = .ok (.aload_n 0, 1) := by decide +kernel
theorem dX4_one_1 : decode cX4_one 1 = .ok (.invokevirtual 111, 3) := by decide +kernel
theorem dX4_one_4 : decode cX4_one 4 = .ok (.istore_n 2, 1) := by decide +kernel
theorem dX4_one_5 : decode cX4_one 5 = .ok (.iload_n 2, 1) := by decide +kernel
theorem dX4_one_6 : decode cX4_one 6 = .ok (.bipush 40, 2) := by decide +kernel
theorem dX4_one_8 : decode cX4_one 8 = .ok (.if_icmp .ne 21, 3) := by decide +kernel
theorem dX4_one_11 : decode cX4_one 11 = .ok (.aload_n 0, 1) := by decide +kernel
theorem dX4_one_12 : decode cX4_one 12 = .ok (.bipush 40, 2) := by decide +kernel
theorem dX4_one_14 : decode cX4_one 14 = .ok (.aload_n 0, 1) := by decide +kernel
theorem dX4_one_15 : decode cX4_one 15 = .ok (.iconst 0, 1) := by decide +kernel
theorem dX4_one_16 : decode cX4_one 16 = .ok (.sipush 9999, 3) := by decide +kernel
theorem dX4_one_19 : decode cX4_one 19 = .ok (.invokevirtual 118, 3) := by decide +kernel
theorem dX4_one_22 : decode cX4_one 22 = .ok (.invokevirtual 161, 3) := by decide +kernel
theorem dX4_one_25 : decode cX4_one 25 = .ok (.pop, 1) := by decide +kernel
theorem dX4_one_26 : decode cX4_one 26 = .ok (.goto 70, 3) := by decide +kernel
theorem dX4_one_29 : decode cX4_one 29 = .ok (.iload_n 2, 1) := by decide +kernel
theorem dX4_one_30 : decode cX4_one 30 = .ok (.bipush 19, 2) := by decide +kernel
theorem dX4_one_32 : decode cX4_one 32 = .ok (.if_icmp .lt 17, 3) := by decide +kernel
theorem dX4_one_35 : decode cX4_one 35 = .ok (.iload_n 2, 1) := by decide +kernel
theorem dX4_one_36 : decode cX4_one 36 = .ok (.bipush 26, 2) := by decide +kernel
theorem dX4_one_38 : decode cX4_one 38 = .ok (.if_icmp .gt 11, 3) := by decide +kernel
theorem dX4_one_41 : decode cX4_one 41 = .ok (.aload_n 0, 1) := by decide +kernel
theorem dX4_one_42 : decode cX4_one 42 = .ok (.iload_n 2, 1) := by decide +kernel
theorem dX4_one_43 : decode cX4_one 43 = .ok (.invokevirtual 167, 3) := by decide +kernel
theorem dX4_one_46 : decode cX4_one 46 = .ok (.goto 50, 3) := by decide +kernel
theorem dX4_one_49 : decode cX4_one 49 = .ok (.iload_n 2, 1) := by decide +kernel
theorem dX4_one_50 : decode cX4_one 50 = .ok (.invokestatic 170, 3) := by decide +kernel
theorem dX4_one_53 : decode cX4_one 53 = .ok (.ifCond .ne 11, 3) := by decide +kernel
theorem dX4_one_56 : decode cX4_one 56 = .ok (.aload_n 0, 1) := by decide +kernel
theorem dX4_one_57 : decode cX4_one 57 = .ok (.iconst 1, 1) := by decide +kernel
theorem dX4_one_58 : decode cX4_one 58 = .ok (.invokevirtual 114, 3) := by decide +kernel
theorem dX4_one_61 : decode cX4_one 61 = .ok (.goto 35, 3) := by decide +kernel
theorem dX4_one_64 : decode cX4_one 64 = .ok (.iload_n 1, 1) := by decide +kernel
theorem dX4_one_65 : decode cX4_one 65 = .ok (.bipush 8, 2) := by decide +kernel
theorem dX4_one_67 : decode cX4_one 67 = .ok (.if_icmp .lt 11, 3) := by decide +kernel
theorem dX4_one_70 : decode cX4_one 70 = .ok (.aload_n 0, 1) := by decide +kernel
theorem dX4_one_71 : decode cX4_one 71 = .ok (.iconst 3, 1) := by decide +kernel
theorem dX4_one_72 : decode cX4_one 72 = .ok (.invokevirtual 114, 3) := by decide +kernel
theorem dX4_one_75 : decode cX4_one 75 = .ok (.goto 21, 3) := by decide +kernel
theorem dX4_one_78 : decode cX4_one 78 = .ok (.aload_n 0, 1) := by decide +kernel
theorem dX4_one_79 : decode cX4_one 79 = .ok (.dup, 1) := by decide +kernel
theorem dX4_one_80 : decode cX4_one 80 = .ok (.getfield 44, 3) := by decide +kernel
theorem dX4_one_83 : decode cX4_one 83 = .ok (.iconst 1, 1) := by decide +kernel
theorem dX4_one_84 : decode cX4_one 84 = .ok (.iadd, 1) := by decide +kernel
theorem dX4_one_85 : decode cX4_one 85 = .ok (.putfield 44, 3) := by decide +kernel
theorem dX4_one_88 : decode cX4_one 88 = .ok (.aload_n 0, 1) := by decide +kernel
theorem dX4_one_89 : decode cX4_one 89 = .ok (.iload_n 2, 1) := by decide +kernel
theorem dX4_one_90 : decode cX4_one 90 = .ok (.iload_n 1, 1) := by decide +kernel
theorem dX4_one_91 : decode cX4_one 91 = .ok (.iconst 1, 1) := by decide +kernel
theorem dX4_one_92 : decode cX4_one 92 = .ok (.iadd, 1) := by decide +kernel
theorem dX4_one_93 : decode cX4_one 93 = .ok (.invokevirtual 173, 3) := by decide +kernel
theorem dX4_one_96 : decode cX4_one 96 = .ok (.return_, 1) := by decide +kernel
def fb_X4_one (R : Nat → xm → Int32 → Int32 → Option xm) (M : xm) (a1 : Int32) : Option xm := xb1 (f_X4_nextKind M) (fun v2 => (if v2 = (40 : Int32) then xb2 (f_X4_wantNumber M (0 : Int32) (9999 : Int32)) (fun v24 M25 => xb2 (f_X4_emit M25 (40 : Int32) v24) (fun v28 M29 => some M29)) else xlet ((if (f_X4_opensOne v2) = 0 then xb1 (f_X4_refuse M (1 : Int32)) (fun M16 => some M16) else (if a1 < (8 : Int32) then xlet (up2 M 990 9 ((M 990 9) + (1 : Int32))) (fun M9 => xb1 (R 3 M9 v2 (a1 + (1 : Int32))) (fun M10 => some M10)) else xb1 (f_X4_refuse M (3 : Int32)) (fun M13 => some M13)))) (fun k5 => (if v2 < (19 : Int32) then k5 else (if (26 : Int32) < v2 then k5 else xb1 (f_X4_name M v2) (fun M21 => some M21))))))
set_option maxHeartbeats 4000000 in
set_option maxRecDepth 20000 in
theorem cb_X4_one (l : Launch) (E : xE) (b : Nat) (R : Nat → xm → Int32 → Int32 → Option xm) (d : Nat) (hR_X4_ask : ∀ (M : xm) (a0 : Int32) (M' : xm), R 7 M a0 0 = some M' → xMet l E b NX yX4_ask cX4_ask 2 none (xR (d + 8)) [.ref (b + 990), .int a0] (cX E b M) none True (cX E b M')) (hR_X4_both : ∀ (M : xm) (a0 : Int32) (M' : xm), R 6 M a0 0 = some M' → xMet l E b NX yX4_both cX4_both 3 none (xR (d + 8)) [.ref (b + 990), .int a0] (cX E b M) none True (cX E b M')) (hR_X4_choice : ∀ (M : xm) (a0 : Int32) (M' : xm), R 4 M a0 0 = some M' → xMet l E b NX yX4_choice cX4_choice 4 none (xR (d + 8)) [.ref (b + 990), .int a0] (cX E b M) none True (cX E b M')) (hR_X4_comparison : ∀ (M : xm) (a0 : Int32) (M' : xm), R 8 M a0 0 = some M' → xMet l E b NX yX4_comparison cX4_comparison 4 none (xR (d + 8)) [.ref (b + 990), .int a0] (cX E b M) none True (cX E b M')) (hR_X4_either : ∀ (M : xm) (a0 : Int32) (M' : xm), R 5 M a0 0 = some M' → xMet l E b NX yX4_either cX4_either 3 none (xR (d + 8)) [.ref (b + 990), .int a0] (cX E b M) none True (cX E b M')) (hR_X4_one : ∀ (M : xm) (a0 : Int32) (M' : xm), R 2 M a0 0 = some M' → xMet l E b NX yX4_one cX4_one 3 none (xR (d + 8)) [.ref (b + 990), .int a0] (cX E b M) none True (cX E b M')) (hR_X4_openedOne : ∀ (M : xm) (a0 : Int32) (a1 : Int32) (M' : xm), R 3 M a0 a1 = some M' → xMet l E b NX yX4_openedOne cX4_openedOne 3 none (xR (d + 8)) [.ref (b + 990), .int a0, .int a1] (cX E b M) none True (cX E b M')) (hR_X4_product : ∀ (M : xm) (a0 : Int32) (M' : xm), R 1 M a0 0 = some M' → xMet l E b NX yX4_product cX4_product 4 none (xR (d + 8)) [.ref (b + 990), .int a0] (cX E b M) none True (cX E b M')) (hR_X4_sum : ∀ (M : xm) (a0 : Int32) (M' : xm), R 0 M a0 0 = some M' → xMet l E b NX yX4_sum cX4_sum 4 none (xR (d + 8)) [.ref (b + 990), .int a0] (cX E b M) none True (cX E b M')) (M : xm) (a1 : Int32) {M' : xm} (hf : fb_X4_one R M a1 = some M') :
    xMet l E b NX yX4_one cX4_one 3 none (xR (d + 9)) [.ref (b + 990), .int a1] (cX E b M) none True (cX E b M') := by
  refine xMet.ofW (own := RX4) (by decide) rfl (Nat.le_of_ble_eq_true rfl) ?_
  intro p e s m below meth c H locs ls C hm hl
  have hx := C.1.1
  have hb := C.1.2.1
  have hl : lv_has ls 3 [(0, .ref (b + 990)), (1, .int a1)] := hl
  unfold fb_X4_one at hf
  refine lv_aload_n hx hb dX4_one_0 rfl (lv_at hl 0 rfl) ?_
  obtain ⟨v2, hq1, hf⟩ := xb1_e hf
  refine x_callVi (As := []) (rest := []) C hm (c_X4_nextKind l E b M hq1) rfl (cx_Reader (LX_reader 0 _ rfl)) tc_X4_nextKind tm_RX4_111 ti_X4_nextKind ts_X4_nextKind tn_RX4 td_X4_nextKind rfl rfl ⟨by show 1 + 1 ≤ d + 9; omega, by show 8 + (1 + 11) + 64 * 1 ≤ 64 * (d + 9); omega⟩ rfl hl.1 rfl (Nat.le_of_ble_eq_true rfl) ⟨Nat.zero_le _, Nat.zero_le _⟩ dX4_one_1 (fun H locs hP3 hm => ?_)
  refine lv_istore_n (lv' := [(2, .int v2), (0, .ref (b + 990)), (1, .int a1)]) hx hb dX4_one_4 rfl hl (by decide) rfl (fun ls hl => ?_)
  refine lv_iload_n hx hb dX4_one_5 rfl (lv_at hl 0 rfl) ?_
  refine lv_bipush (v := (40 : Int32)) hx hb dX4_one_6 (by decide) ?_
  refine lv_icmp_ne (tgt := 29) hx hb dX4_one_8 (by decide) (fun hc4 => ?_) (fun hc4 => ?_)
  rotate_left
  · have hf := xif_t hc4 hf
    refine lv_aload_n hx hb dX4_one_11 rfl (lv_at hl 1 rfl) ?_
    refine lv_bipush (v := (40 : Int32)) hx hb dX4_one_12 (by decide) ?_
    refine lv_aload_n hx hb dX4_one_14 rfl (lv_at hl 1 rfl) ?_
    refine lv_iconst (v := (0 : Int32)) hx hb dX4_one_15 (by decide) ?_
    refine lv_sipush (v := (9999 : Int32)) hx hb dX4_one_16 (by decide) ?_
    obtain ⟨v24, M25, hq23, hf⟩ := xb2_e hf
    refine x_callVi (As := [.int (0 : Int32), .int (9999 : Int32)]) (rest := [.int (40 : Int32), .ref (b + 990)]) C hm (c_X4_wantNumber l E b M (0 : Int32) (9999 : Int32) hq23) rfl (cx_Reader (LX_reader 0 _ rfl)) tc_X4_wantNumber tm_RX4_118 ti_X4_wantNumber ts_X4_wantNumber tn_RX4 td_X4_wantNumber rfl rfl ⟨by show 3 + 1 ≤ d + 9; omega, by show 8 + (4 + 11) + 64 * 3 ≤ 64 * (d + 9); omega⟩ rfl hl.1 rfl (Nat.le_of_ble_eq_true rfl) ⟨Nat.zero_le _, Nat.zero_le _⟩ dX4_one_19 (fun H locs hP26 hm => ?_)
    obtain ⟨v28, M29, hq27, hf⟩ := xb2_e hf
    refine x_callVi (As := [.int (40 : Int32), .int v24]) (rest := []) C hm (c_X4_emit l E b M25 (40 : Int32) v24 hq27) rfl (cx_Reader (LX_reader 0 _ rfl)) tc_X4_emit tm_RX4_161 ti_X4_emit ts_X4_emit tn_RX4 td_X4_emit rfl rfl ⟨by show 2 + 1 ≤ d + 9; omega, by show 8 + (3 + 11) + 64 * 2 ≤ 64 * (d + 9); omega⟩ rfl hl.1 rfl (Nat.le_of_ble_eq_true rfl) ⟨Nat.zero_le _, Nat.zero_le _⟩ dX4_one_22 (fun H locs hP30 hm => ?_)
    refine lv_pop hx hb dX4_one_25 rfl ?_
    refine lv_goto (tgt := 96) hx hb dX4_one_26 (by decide) ?_
    cases hf
    exact x_vret C hm trivial dX4_one_96
  have hf := xif_f hc4 hf
  refine lv_iload_n hx hb dX4_one_29 rfl (lv_at hl 0 rfl) ?_
  refine lv_bipush (v := (19 : Int32)) hx hb dX4_one_30 (by decide) ?_
  obtain ⟨k5, ek5, hf⟩ := xlet_x hf
  have jk5 : ∀  (H : Heap) (locs : List Loc) (ls : Array Slot), k5 = some M' → xM E b NX (cX E b M) s.heap H locs → lv_has ls 3 [(0, .ref (b + 990)), (1, .int a1), (2, .int v2)] → W p l e (xR (d + 9)) s m ([.ref (b + 990), .int a1] : List Value).toArray below meth c H locs 0 0 (MQ below (xQ E b NX none True (cX E b M')) ([.ref (b + 990), .int a1] : List Value).toArray s 0 0 (xA b NX)) (F0 m 49 ls []) := by
    intro  H locs ls hf hm hl
    have hf := xap0 ek5 hf
    refine lv_iload_n hx hb dX4_one_49 rfl (lv_at hl 2 rfl) ?_
    refine x_callSi (As := [.int v2]) (rest := []) C hm (c_X4_opensOne l E b M v2 rfl) tc_X4_opensOne tm_RX4_170 tz_X4_opensOne tn_RX4 td_X4_opensOne rfl rfl ⟨by show 1 + 1 ≤ d + 9; omega, by show 8 + (1 + 11) + 64 * 1 ≤ 64 * (d + 9); omega⟩ rfl hl.1 rfl (Nat.le_of_ble_eq_true rfl) ⟨Nat.zero_le _, Nat.zero_le _⟩ dX4_one_50 (fun H locs hP6 hm => ?_)
    refine lv_if_ne (tgt := 64) hx hb dX4_one_53 (by decide) (fun hc7 => ?_) (fun hc7 => ?_)
    rotate_left
    · have hf := xif_t hc7 hf
      refine lv_aload_n hx hb dX4_one_56 rfl (lv_at hl 0 rfl) ?_
      refine lv_iconst (v := (1 : Int32)) hx hb dX4_one_57 (by decide) ?_
      obtain ⟨M16, hq15, hf⟩ := xb1_e hf
      refine x_callVv (As := [.int (1 : Int32)]) (rest := []) C hm (c_X4_refuse l E b M (1 : Int32) hq15) rfl (cx_Reader (LX_reader 0 _ rfl)) tc_X4_refuse tm_RX4_114 ti_X4_refuse ts_X4_refuse tn_RX4 td_X4_refuse rfl rfl ⟨by show 1 + 1 ≤ d + 9; omega, by show 8 + (2 + 11) + 64 * 1 ≤ 64 * (d + 9); omega⟩ rfl hl.1 rfl (Nat.le_of_ble_eq_true rfl) ⟨Nat.zero_le _, Nat.zero_le _⟩ dX4_one_58 (fun H locs hP17 hm => ?_)
      refine lv_goto (tgt := 96) hx hb dX4_one_61 (by decide) ?_
      cases hf
      exact x_vret C hm trivial dX4_one_96
    have hf := xif_f hc7 hf
    refine lv_iload_n hx hb dX4_one_64 rfl (lv_at hl 1 rfl) ?_
    refine lv_bipush (v := (8 : Int32)) hx hb dX4_one_65 (by decide) ?_
    refine lv_icmp_lt (tgt := 78) hx hb dX4_one_67 (by decide) (fun hc8 => ?_) (fun hc8 => ?_)
    rotate_left
    · have hf := xif_f hc8 hf
      refine lv_aload_n hx hb dX4_one_70 rfl (lv_at hl 0 rfl) ?_
      refine lv_iconst (v := (3 : Int32)) hx hb dX4_one_71 (by decide) ?_
      obtain ⟨M13, hq12, hf⟩ := xb1_e hf
      refine x_callVv (As := [.int (3 : Int32)]) (rest := []) C hm (c_X4_refuse l E b M (3 : Int32) hq12) rfl (cx_Reader (LX_reader 0 _ rfl)) tc_X4_refuse tm_RX4_114 ti_X4_refuse ts_X4_refuse tn_RX4 td_X4_refuse rfl rfl ⟨by show 1 + 1 ≤ d + 9; omega, by show 8 + (2 + 11) + 64 * 1 ≤ 64 * (d + 9); omega⟩ rfl hl.1 rfl (Nat.le_of_ble_eq_true rfl) ⟨Nat.zero_le _, Nat.zero_le _⟩ dX4_one_72 (fun H locs hP14 hm => ?_)
      refine lv_goto (tgt := 96) hx hb dX4_one_75 (by decide) ?_
      cases hf
      exact x_vret C hm trivial dX4_one_96
    have hf := xif_t hc8 hf
    refine lv_aload_n hx hb dX4_one_78 rfl (lv_at hl 0 rfl) ?_
    refine lv_dup hx hb dX4_one_79 rfl ?_
    refine x_get C hm inX4 rfl 9 (by decide) tf_RX4_44 (cx_Reader (LX_reader 0 _ rfl)) rfl dX4_one_80 ?_
    refine lv_iconst (v := (1 : Int32)) hx hb dX4_one_83 (by decide) ?_
    refine lv_iadd hx hb dX4_one_84 ?_
    obtain ⟨M9, eM9, hf⟩ := xlet_x hf
    refine x_put (cf' := cX E b M9) C hm inX4 tyX4 tyX4_ok nmX4 rfl 9 (by decide) tf_RX4_44 rfl rfl rfl (cx_Reader (LX_reader 0 _ rfl)) (Nat.le_of_ble_eq_true rfl) (by rw [eM9]; exact cu_Reader_9 (LX_reader 0 _ rfl)) (by rw [eM9]; exact cX_o) dX4_one_85 (fun H locs hm => ?_)
    refine lv_aload_n hx hb dX4_one_88 rfl (lv_at hl 0 rfl) ?_
    refine lv_iload_n hx hb dX4_one_89 rfl (lv_at hl 2 rfl) ?_
    refine lv_iload_n hx hb dX4_one_90 rfl (lv_at hl 1 rfl) ?_
    refine lv_iconst (v := (1 : Int32)) hx hb dX4_one_91 (by decide) ?_
    refine lv_iadd hx hb dX4_one_92 ?_
    obtain ⟨M10, hq11, hf⟩ := xb1_e hf
    refine x_callVv (As := [.int v2, .int (a1 + (1 : Int32))]) (rest := []) C hm (hR_X4_openedOne M9 v2 (a1 + (1 : Int32)) _ hq11) rfl (cx_Reader (LX_reader 0 _ rfl)) tc_X4_openedOne tm_RX4_173 ti_X4_openedOne ts_X4_openedOne tn_RX4 td_X4_openedOne rfl rfl ⟨by show d + 8 + 1 ≤ d + 9; omega, by show 8 + (3 + 11) + 64 * (d + 8) ≤ 64 * (d + 9); omega⟩ rfl hl.1 rfl (Nat.le_of_ble_eq_true rfl) ⟨Nat.zero_le _, Nat.zero_le _⟩ dX4_one_93 (fun H locs _ hm => ?_)
    cases hf
    exact x_vret C hm trivial dX4_one_96
  refine lv_icmp_lt (tgt := 49) hx hb dX4_one_32 (by decide) (fun hc18 => ?_) (fun hc18 => ?_)
  · have hf := xif_t hc18 hf
    exact jk5  H locs ls  hf hm (lv_sub hl [1, 2, 0] rfl)
  have hf := xif_f hc18 hf
  refine lv_iload_n hx hb dX4_one_35 rfl (lv_at hl 0 rfl) ?_
  refine lv_bipush (v := (26 : Int32)) hx hb dX4_one_36 (by decide) ?_
  refine lv_icmp_gt (tgt := 49) hx hb dX4_one_38 (by decide) (fun hc19 => ?_) (fun hc19 => ?_)
  · have hf := xif_t hc19 hf
    exact jk5  H locs ls  hf hm (lv_sub hl [1, 2, 0] rfl)
  have hf := xif_f hc19 hf
  refine lv_aload_n hx hb dX4_one_41 rfl (lv_at hl 1 rfl) ?_
  refine lv_iload_n hx hb dX4_one_42 rfl (lv_at hl 0 rfl) ?_
  obtain ⟨M21, hq20, hf⟩ := xb1_e hf
  refine x_callVv (As := [.int v2]) (rest := []) C hm (c_X4_name l E b M v2 hq20) rfl (cx_Reader (LX_reader 0 _ rfl)) tc_X4_name tm_RX4_167 ti_X4_name ts_X4_name tn_RX4 td_X4_name rfl rfl ⟨by show 3 + 1 ≤ d + 9; omega, by show 8 + (4 + 11) + 64 * 3 ≤ 64 * (d + 9); omega⟩ rfl hl.1 rfl (Nat.le_of_ble_eq_true rfl) ⟨Nat.zero_le _, Nat.zero_le _⟩ dX4_one_43 (fun H locs hP22 hm => ?_)
  refine lv_goto (tgt := 96) hx hb dX4_one_46 (by decide) ?_
  cases hf
  exact x_vret C hm trivial dX4_one_96
/-! ColouredHeap$Reader.openedOne(II)V -/
theorem dX4_openedOne_0 : decode cX4_openedOne 0 = .ok (.iload_n 1, 1) := by decide +kernel
theorem dX4_openedOne_1 : decode cX4_openedOne 1 = .ok (.bipush 35, 2) := by decide +kernel
theorem dX4_openedOne_3 : decode cX4_openedOne 3 = .ok (.if_icmp .ne 17, 3) := by decide +kernel
theorem dX4_openedOne_6 : decode cX4_openedOne 6 = .ok (.aload_n 0, 1) := by decide +kernel
theorem dX4_openedOne_7 : decode cX4_openedOne 7 = .ok (.iload_n 2, 1) := by decide +kernel
theorem dX4_openedOne_8 : decode cX4_openedOne 8 = .ok (.invokevirtual 142, 3) := by decide +kernel
theorem dX4_openedOne_11 : decode cX4_openedOne 11 = .ok (.aload_n 0, 1) := by decide +kernel
theorem dX4_openedOne_12 : decode cX4_openedOne 12 = .ok (.bipush 36, 2) := by decide +kernel
theorem dX4_openedOne_14 : decode cX4_openedOne 14 = .ok (.invokevirtual 133, 3) := by decide +kernel
theorem dX4_openedOne_17 : decode cX4_openedOne 17 = .ok (.goto 40, 3) := by decide +kernel
theorem dX4_openedOne_20 : decode cX4_openedOne 20 = .ok (.iload_n 1, 1) := by decide +kernel
theorem dX4_openedOne_21 : decode cX4_openedOne 21 = .ok (.bipush 12, 2) := by decide +kernel
theorem dX4_openedOne_23 : decode cX4_openedOne 23 = .ok (.if_icmp .ne 11, 3) := by decide +kernel
theorem dX4_openedOne_26 : decode cX4_openedOne 26 = .ok (.aload_n 0, 1) := by decide +kernel
theorem dX4_openedOne_27 : decode cX4_openedOne 27 = .ok (.iload_n 2, 1) := by decide +kernel
theorem dX4_openedOne_28 : decode cX4_openedOne 28 = .ok (.invokevirtual 177, 3) := by decide +kernel
theorem dX4_openedOne_31 : decode cX4_openedOne 31 = .ok (.goto 26, 3) := by decide +kernel
theorem dX4_openedOne_34 : decode cX4_openedOne 34 = .ok (.aload_n 0, 1) := by decide +kernel
theorem dX4_openedOne_35 : decode cX4_openedOne 35 = .ok (.iload_n 2, 1) := by decide +kernel
theorem dX4_openedOne_36 : decode cX4_openedOne 36 = .ok (.invokevirtual 164, 3) := by decide +kernel
theorem dX4_openedOne_39 : decode cX4_openedOne 39 = .ok (.aload_n 0, 1) := by decide +kernel
theorem dX4_openedOne_40 : decode cX4_openedOne 40 = .ok (.iload_n 1, 1) := by decide +kernel
theorem dX4_openedOne_41 : decode cX4_openedOne 41 = .ok (.bipush 32, 2) := by decide +kernel
theorem dX4_openedOne_43 : decode cX4_openedOne 43 = .ok (.if_icmp .ne 8, 3) := by decide +kernel
theorem dX4_openedOne_46 : decode cX4_openedOne 46 = .ok (.bipush 43, 2) := by decide +kernel
theorem dX4_openedOne_48 : decode cX4_openedOne 48 = .ok (.goto 4, 3) := by decide +kernel
theorem dX4_openedOne_51 : decode cX4_openedOne 51 = .ok (.iload_n 1, 1) := by decide +kernel
theorem dX4_openedOne_52 : decode cX4_openedOne 52 = .ok (.iconst 0, 1) := by decide +kernel
theorem dX4_openedOne_53 : decode cX4_openedOne 53 = .ok (.invokevirtual 161, 3) := by decide +kernel
theorem dX4_openedOne_56 : decode cX4_openedOne 56 = .ok (.pop, 1) := by decide +kernel
theorem dX4_openedOne_57 : decode cX4_openedOne 57 = .ok (.return_, 1) := by decide +kernel
def fb_X4_openedOne (R : Nat → xm → Int32 → Int32 → Option xm) (M : xm) (a1 : Int32) (a2 : Int32) : Option xm := (if a1 = (35 : Int32) then xb1 (R 0 M a2 0) (fun M16 => xb1 (f_X4_want M16 (36 : Int32)) (fun M19 => some M19)) else (if a1 = (12 : Int32) then xb1 (R 4 M a2 0) (fun M14 => some M14) else xb1 (R 2 M a2 0) (fun M3 => (if a1 = (32 : Int32) then xb2 (f_X4_emit M3 (43 : Int32) (0 : Int32)) (fun v11 M12 => some M12) else xb2 (f_X4_emit M3 a1 (0 : Int32)) (fun v7 M8 => some M8)))))
set_option maxHeartbeats 4000000 in
set_option maxRecDepth 20000 in
theorem cb_X4_openedOne (l : Launch) (E : xE) (b : Nat) (R : Nat → xm → Int32 → Int32 → Option xm) (d : Nat) (hR_X4_ask : ∀ (M : xm) (a0 : Int32) (M' : xm), R 7 M a0 0 = some M' → xMet l E b NX yX4_ask cX4_ask 2 none (xR (d + 8)) [.ref (b + 990), .int a0] (cX E b M) none True (cX E b M')) (hR_X4_both : ∀ (M : xm) (a0 : Int32) (M' : xm), R 6 M a0 0 = some M' → xMet l E b NX yX4_both cX4_both 3 none (xR (d + 8)) [.ref (b + 990), .int a0] (cX E b M) none True (cX E b M')) (hR_X4_choice : ∀ (M : xm) (a0 : Int32) (M' : xm), R 4 M a0 0 = some M' → xMet l E b NX yX4_choice cX4_choice 4 none (xR (d + 8)) [.ref (b + 990), .int a0] (cX E b M) none True (cX E b M')) (hR_X4_comparison : ∀ (M : xm) (a0 : Int32) (M' : xm), R 8 M a0 0 = some M' → xMet l E b NX yX4_comparison cX4_comparison 4 none (xR (d + 8)) [.ref (b + 990), .int a0] (cX E b M) none True (cX E b M')) (hR_X4_either : ∀ (M : xm) (a0 : Int32) (M' : xm), R 5 M a0 0 = some M' → xMet l E b NX yX4_either cX4_either 3 none (xR (d + 8)) [.ref (b + 990), .int a0] (cX E b M) none True (cX E b M')) (hR_X4_one : ∀ (M : xm) (a0 : Int32) (M' : xm), R 2 M a0 0 = some M' → xMet l E b NX yX4_one cX4_one 3 none (xR (d + 8)) [.ref (b + 990), .int a0] (cX E b M) none True (cX E b M')) (hR_X4_openedOne : ∀ (M : xm) (a0 : Int32) (a1 : Int32) (M' : xm), R 3 M a0 a1 = some M' → xMet l E b NX yX4_openedOne cX4_openedOne 3 none (xR (d + 8)) [.ref (b + 990), .int a0, .int a1] (cX E b M) none True (cX E b M')) (hR_X4_product : ∀ (M : xm) (a0 : Int32) (M' : xm), R 1 M a0 0 = some M' → xMet l E b NX yX4_product cX4_product 4 none (xR (d + 8)) [.ref (b + 990), .int a0] (cX E b M) none True (cX E b M')) (hR_X4_sum : ∀ (M : xm) (a0 : Int32) (M' : xm), R 0 M a0 0 = some M' → xMet l E b NX yX4_sum cX4_sum 4 none (xR (d + 8)) [.ref (b + 990), .int a0] (cX E b M) none True (cX E b M')) (M : xm) (a1 : Int32) (a2 : Int32) {M' : xm} (hf : fb_X4_openedOne R M a1 a2 = some M') :
    xMet l E b NX yX4_openedOne cX4_openedOne 3 none (xR (d + 9)) [.ref (b + 990), .int a1, .int a2] (cX E b M) none True (cX E b M') := by
  refine xMet.ofW (own := RX4) (by decide) rfl (Nat.le_of_ble_eq_true rfl) ?_
  intro p e s m below meth c H locs ls C hm hl
  have hx := C.1.1
  have hb := C.1.2.1
  have hl : lv_has ls 3 [(0, .ref (b + 990)), (1, .int a1), (2, .int a2)] := hl
  unfold fb_X4_openedOne at hf
  refine lv_iload_n hx hb dX4_openedOne_0 rfl (lv_at hl 1 rfl) ?_
  refine lv_bipush (v := (35 : Int32)) hx hb dX4_openedOne_1 (by decide) ?_
  refine lv_icmp_ne (tgt := 20) hx hb dX4_openedOne_3 (by decide) (fun hc1 => ?_) (fun hc1 => ?_)
  rotate_left
  · have hf := xif_t hc1 hf
    refine lv_aload_n hx hb dX4_openedOne_6 rfl (lv_at hl 0 rfl) ?_
    refine lv_iload_n hx hb dX4_openedOne_7 rfl (lv_at hl 2 rfl) ?_
    obtain ⟨M16, hq17, hf⟩ := xb1_e hf
    refine x_callVv (As := [.int a2]) (rest := []) C hm (hR_X4_sum M a2 _ hq17) rfl (cx_Reader (LX_reader 0 _ rfl)) tc_X4_sum tm_RX4_142 ti_X4_sum ts_X4_sum tn_RX4 td_X4_sum rfl rfl ⟨by show d + 8 + 1 ≤ d + 9; omega, by show 8 + (4 + 11) + 64 * (d + 8) ≤ 64 * (d + 9); omega⟩ rfl hl.1 rfl (Nat.le_of_ble_eq_true rfl) ⟨Nat.zero_le _, Nat.zero_le _⟩ dX4_openedOne_8 (fun H locs _ hm => ?_)
    refine lv_aload_n hx hb dX4_openedOne_11 rfl (lv_at hl 0 rfl) ?_
    refine lv_bipush (v := (36 : Int32)) hx hb dX4_openedOne_12 (by decide) ?_
    obtain ⟨M19, hq18, hf⟩ := xb1_e hf
    refine x_callVv (As := [.int (36 : Int32)]) (rest := []) C hm (c_X4_want l E b M16 (36 : Int32) hq18) rfl (cx_Reader (LX_reader 0 _ rfl)) tc_X4_want tm_RX4_133 ti_X4_want ts_X4_want tn_RX4 td_X4_want rfl rfl ⟨by show 3 + 1 ≤ d + 9; omega, by show 8 + (2 + 11) + 64 * 3 ≤ 64 * (d + 9); omega⟩ rfl hl.1 rfl (Nat.le_of_ble_eq_true rfl) ⟨Nat.zero_le _, Nat.zero_le _⟩ dX4_openedOne_14 (fun H locs hP20 hm => ?_)
    refine lv_goto (tgt := 57) hx hb dX4_openedOne_17 (by decide) ?_
    cases hf
    exact x_vret C hm trivial dX4_openedOne_57
  have hf := xif_f hc1 hf
  refine lv_iload_n hx hb dX4_openedOne_20 rfl (lv_at hl 1 rfl) ?_
  refine lv_bipush (v := (12 : Int32)) hx hb dX4_openedOne_21 (by decide) ?_
  refine lv_icmp_ne (tgt := 34) hx hb dX4_openedOne_23 (by decide) (fun hc2 => ?_) (fun hc2 => ?_)
  rotate_left
  · have hf := xif_t hc2 hf
    refine lv_aload_n hx hb dX4_openedOne_26 rfl (lv_at hl 0 rfl) ?_
    refine lv_iload_n hx hb dX4_openedOne_27 rfl (lv_at hl 2 rfl) ?_
    obtain ⟨M14, hq15, hf⟩ := xb1_e hf
    refine x_callVv (As := [.int a2]) (rest := []) C hm (hR_X4_choice M a2 _ hq15) rfl (cx_Reader (LX_reader 0 _ rfl)) tc_X4_choice tm_RX4_177 ti_X4_choice ts_X4_choice tn_RX4 td_X4_choice rfl rfl ⟨by show d + 8 + 1 ≤ d + 9; omega, by show 8 + (4 + 11) + 64 * (d + 8) ≤ 64 * (d + 9); omega⟩ rfl hl.1 rfl (Nat.le_of_ble_eq_true rfl) ⟨Nat.zero_le _, Nat.zero_le _⟩ dX4_openedOne_28 (fun H locs _ hm => ?_)
    refine lv_goto (tgt := 57) hx hb dX4_openedOne_31 (by decide) ?_
    cases hf
    exact x_vret C hm trivial dX4_openedOne_57
  have hf := xif_f hc2 hf
  refine lv_aload_n hx hb dX4_openedOne_34 rfl (lv_at hl 0 rfl) ?_
  refine lv_iload_n hx hb dX4_openedOne_35 rfl (lv_at hl 2 rfl) ?_
  obtain ⟨M3, hq4, hf⟩ := xb1_e hf
  refine x_callVv (As := [.int a2]) (rest := []) C hm (hR_X4_one M a2 _ hq4) rfl (cx_Reader (LX_reader 0 _ rfl)) tc_X4_one tm_RX4_164 ti_X4_one ts_X4_one tn_RX4 td_X4_one rfl rfl ⟨by show d + 8 + 1 ≤ d + 9; omega, by show 8 + (3 + 11) + 64 * (d + 8) ≤ 64 * (d + 9); omega⟩ rfl hl.1 rfl (Nat.le_of_ble_eq_true rfl) ⟨Nat.zero_le _, Nat.zero_le _⟩ dX4_openedOne_36 (fun H locs _ hm => ?_)
  refine lv_aload_n hx hb dX4_openedOne_39 rfl (lv_at hl 0 rfl) ?_
  refine lv_iload_n hx hb dX4_openedOne_40 rfl (lv_at hl 1 rfl) ?_
  refine lv_bipush (v := (32 : Int32)) hx hb dX4_openedOne_41 (by decide) ?_
  refine lv_icmp_ne (tgt := 51) hx hb dX4_openedOne_43 (by decide) (fun hc5 => ?_) (fun hc5 => ?_)
  · have hf := xif_f hc5 hf
    refine lv_iload_n hx hb dX4_openedOne_51 rfl (lv_at hl 1 rfl) ?_
    refine lv_iconst (v := (0 : Int32)) hx hb dX4_openedOne_52 (by decide) ?_
    obtain ⟨v7, M8, hq6, hf⟩ := xb2_e hf
    refine x_callVi (As := [.int a1, .int (0 : Int32)]) (rest := []) C hm (c_X4_emit l E b M3 a1 (0 : Int32) hq6) rfl (cx_Reader (LX_reader 0 _ rfl)) tc_X4_emit tm_RX4_161 ti_X4_emit ts_X4_emit tn_RX4 td_X4_emit rfl rfl ⟨by show 2 + 1 ≤ d + 9; omega, by show 8 + (3 + 11) + 64 * 2 ≤ 64 * (d + 9); omega⟩ rfl hl.1 rfl (Nat.le_of_ble_eq_true rfl) ⟨Nat.zero_le _, Nat.zero_le _⟩ dX4_openedOne_53 (fun H locs hP9 hm => ?_)
    refine lv_pop hx hb dX4_openedOne_56 rfl ?_
    cases hf
    exact x_vret C hm trivial dX4_openedOne_57
  have hf := xif_t hc5 hf
  refine lv_bipush (v := (43 : Int32)) hx hb dX4_openedOne_46 (by decide) ?_
  refine lv_goto (tgt := 52) hx hb dX4_openedOne_48 (by decide) ?_
  refine lv_iconst (v := (0 : Int32)) hx hb dX4_openedOne_52 (by decide) ?_
  obtain ⟨v11, M12, hq10, hf⟩ := xb2_e hf
  refine x_callVi (As := [.int (43 : Int32), .int (0 : Int32)]) (rest := []) C hm (c_X4_emit l E b M3 (43 : Int32) (0 : Int32) hq10) rfl (cx_Reader (LX_reader 0 _ rfl)) tc_X4_emit tm_RX4_161 ti_X4_emit ts_X4_emit tn_RX4 td_X4_emit rfl rfl ⟨by show 2 + 1 ≤ d + 9; omega, by show 8 + (3 + 11) + 64 * 2 ≤ 64 * (d + 9); omega⟩ rfl hl.1 rfl (Nat.le_of_ble_eq_true rfl) ⟨Nat.zero_le _, Nat.zero_le _⟩ dX4_openedOne_53 (fun H locs hP13 hm => ?_)
  refine lv_pop hx hb dX4_openedOne_56 rfl ?_
  cases hf
  exact x_vret C hm trivial dX4_openedOne_57
/-! ColouredHeap$Reader.choice(I)V -/
theorem dX4_choice_0 : decode cX4_choice 0 = .ok (.aload_n 0, 1) := by decide +kernel
theorem dX4_choice_1 : decode cX4_choice 1 = .ok (.iload_n 1, 1) := by decide +kernel
theorem dX4_choice_2 : decode cX4_choice 2 = .ok (.invokevirtual 180, 3) := by decide +kernel
theorem dX4_choice_5 : decode cX4_choice 5 = .ok (.aload_n 0, 1) := by decide +kernel
theorem dX4_choice_6 : decode cX4_choice 6 = .ok (.bipush 13, 2) := by decide +kernel
theorem dX4_choice_8 : decode cX4_choice 8 = .ok (.invokevirtual 133, 3) := by decide +kernel
theorem dX4_choice_11 : decode cX4_choice 11 = .ok (.aload_n 0, 1) := by decide +kernel
theorem dX4_choice_12 : decode cX4_choice 12 = .ok (.bipush 45, 2) := by decide +kernel
theorem dX4_choice_14 : decode cX4_choice 14 = .ok (.iconst 0, 1) := by decide +kernel
theorem dX4_choice_15 : decode cX4_choice 15 = .ok (.invokevirtual 161, 3) := by decide +kernel
theorem dX4_choice_18 : decode cX4_choice 18 = .ok (.istore_n 2, 1) := by decide +kernel
theorem dX4_choice_19 : decode cX4_choice 19 = .ok (.aload_n 0, 1) := by decide +kernel
theorem dX4_choice_20 : decode cX4_choice 20 = .ok (.iload_n 1, 1) := by decide +kernel
theorem dX4_choice_21 : decode cX4_choice 21 = .ok (.invokevirtual 142, 3) := by decide +kernel
theorem dX4_choice_24 : decode cX4_choice 24 = .ok (.aload_n 0, 1) := by decide +kernel
theorem dX4_choice_25 : decode cX4_choice 25 = .ok (.bipush 14, 2) := by decide +kernel
theorem dX4_choice_27 : decode cX4_choice 27 = .ok (.invokevirtual 133, 3) := by decide +kernel
theorem dX4_choice_30 : decode cX4_choice 30 = .ok (.aload_n 0, 1) := by decide +kernel
theorem dX4_choice_31 : decode cX4_choice 31 = .ok (.bipush 44, 2) := by decide +kernel
theorem dX4_choice_33 : decode cX4_choice 33 = .ok (.iconst 0, 1) := by decide +kernel
theorem dX4_choice_34 : decode cX4_choice 34 = .ok (.invokevirtual 161, 3) := by decide +kernel
theorem dX4_choice_37 : decode cX4_choice 37 = .ok (.istore_n 3, 1) := by decide +kernel
theorem dX4_choice_38 : decode cX4_choice 38 = .ok (.aload_n 0, 1) := by decide +kernel
theorem dX4_choice_39 : decode cX4_choice 39 = .ok (.getfield 27, 3) := by decide +kernel
theorem dX4_choice_42 : decode cX4_choice 42 = .ok (.iload_n 2, 1) := by decide +kernel
theorem dX4_choice_43 : decode cX4_choice 43 = .ok (.invokevirtual 183, 3) := by decide +kernel
theorem dX4_choice_46 : decode cX4_choice 46 = .ok (.aload_n 0, 1) := by decide +kernel
theorem dX4_choice_47 : decode cX4_choice 47 = .ok (.iload_n 1, 1) := by decide +kernel
theorem dX4_choice_48 : decode cX4_choice 48 = .ok (.invokevirtual 142, 3) := by decide +kernel
theorem dX4_choice_51 : decode cX4_choice 51 = .ok (.aload_n 0, 1) := by decide +kernel
theorem dX4_choice_52 : decode cX4_choice 52 = .ok (.bipush 15, 2) := by decide +kernel
theorem dX4_choice_54 : decode cX4_choice 54 = .ok (.invokevirtual 133, 3) := by decide +kernel
theorem dX4_choice_57 : decode cX4_choice 57 = .ok (.aload_n 0, 1) := by decide +kernel
theorem dX4_choice_58 : decode cX4_choice 58 = .ok (.getfield 27, 3) := by decide +kernel
theorem dX4_choice_61 : decode cX4_choice 61 = .ok (.iload_n 3, 1) := by decide +kernel
theorem dX4_choice_62 : decode cX4_choice 62 = .ok (.invokevirtual 183, 3) := by decide +kernel
theorem dX4_choice_65 : decode cX4_choice 65 = .ok (.return_, 1) := by decide +kernel
def fb_X4_choice (R : Nat → xm → Int32 → Int32 → Option xm) (M : xm) (a1 : Int32) : Option xm := xb1 (R 5 M a1 0) (fun M1 => xb1 (f_X4_want M1 (13 : Int32)) (fun M4 => xb2 (f_X4_emit M4 (45 : Int32) (0 : Int32)) (fun v7 M8 => xb1 (R 0 M8 a1 0) (fun M10 => xb1 (f_X4_want M10 (14 : Int32)) (fun M13 => xb2 (f_X4_emit M13 (44 : Int32) (0 : Int32)) (fun v16 M17 => xb1 (f_X7_landHere (990 + 5) M17 v7) (fun M20 => xb1 (R 0 M20 a1 0) (fun M22 => xb1 (f_X4_want M22 (15 : Int32)) (fun M25 => xb1 (f_X7_landHere (990 + 5) M25 v16) (fun M28 => some M28))))))))))
set_option maxHeartbeats 4000000 in
set_option maxRecDepth 20000 in
theorem cb_X4_choice (l : Launch) (E : xE) (b : Nat) (R : Nat → xm → Int32 → Int32 → Option xm) (d : Nat) (hR_X4_ask : ∀ (M : xm) (a0 : Int32) (M' : xm), R 7 M a0 0 = some M' → xMet l E b NX yX4_ask cX4_ask 2 none (xR (d + 8)) [.ref (b + 990), .int a0] (cX E b M) none True (cX E b M')) (hR_X4_both : ∀ (M : xm) (a0 : Int32) (M' : xm), R 6 M a0 0 = some M' → xMet l E b NX yX4_both cX4_both 3 none (xR (d + 8)) [.ref (b + 990), .int a0] (cX E b M) none True (cX E b M')) (hR_X4_choice : ∀ (M : xm) (a0 : Int32) (M' : xm), R 4 M a0 0 = some M' → xMet l E b NX yX4_choice cX4_choice 4 none (xR (d + 8)) [.ref (b + 990), .int a0] (cX E b M) none True (cX E b M')) (hR_X4_comparison : ∀ (M : xm) (a0 : Int32) (M' : xm), R 8 M a0 0 = some M' → xMet l E b NX yX4_comparison cX4_comparison 4 none (xR (d + 8)) [.ref (b + 990), .int a0] (cX E b M) none True (cX E b M')) (hR_X4_either : ∀ (M : xm) (a0 : Int32) (M' : xm), R 5 M a0 0 = some M' → xMet l E b NX yX4_either cX4_either 3 none (xR (d + 8)) [.ref (b + 990), .int a0] (cX E b M) none True (cX E b M')) (hR_X4_one : ∀ (M : xm) (a0 : Int32) (M' : xm), R 2 M a0 0 = some M' → xMet l E b NX yX4_one cX4_one 3 none (xR (d + 8)) [.ref (b + 990), .int a0] (cX E b M) none True (cX E b M')) (hR_X4_openedOne : ∀ (M : xm) (a0 : Int32) (a1 : Int32) (M' : xm), R 3 M a0 a1 = some M' → xMet l E b NX yX4_openedOne cX4_openedOne 3 none (xR (d + 8)) [.ref (b + 990), .int a0, .int a1] (cX E b M) none True (cX E b M')) (hR_X4_product : ∀ (M : xm) (a0 : Int32) (M' : xm), R 1 M a0 0 = some M' → xMet l E b NX yX4_product cX4_product 4 none (xR (d + 8)) [.ref (b + 990), .int a0] (cX E b M) none True (cX E b M')) (hR_X4_sum : ∀ (M : xm) (a0 : Int32) (M' : xm), R 0 M a0 0 = some M' → xMet l E b NX yX4_sum cX4_sum 4 none (xR (d + 8)) [.ref (b + 990), .int a0] (cX E b M) none True (cX E b M')) (M : xm) (a1 : Int32) {M' : xm} (hf : fb_X4_choice R M a1 = some M') :
    xMet l E b NX yX4_choice cX4_choice 4 none (xR (d + 9)) [.ref (b + 990), .int a1] (cX E b M) none True (cX E b M') := by
  refine xMet.ofW (own := RX4) (by decide) rfl (Nat.le_of_ble_eq_true rfl) ?_
  intro p e s m below meth c H locs ls C hm hl
  have hx := C.1.1
  have hb := C.1.2.1
  have hl : lv_has ls 4 [(0, .ref (b + 990)), (1, .int a1)] := hl
  unfold fb_X4_choice at hf
  refine lv_aload_n hx hb dX4_choice_0 rfl (lv_at hl 0 rfl) ?_
  refine lv_iload_n hx hb dX4_choice_1 rfl (lv_at hl 1 rfl) ?_
  obtain ⟨M1, hq2, hf⟩ := xb1_e hf
  refine x_callVv (As := [.int a1]) (rest := []) C hm (hR_X4_either M a1 _ hq2) rfl (cx_Reader (LX_reader 0 _ rfl)) tc_X4_either tm_RX4_180 ti_X4_either ts_X4_either tn_RX4 td_X4_either rfl rfl ⟨by show d + 8 + 1 ≤ d + 9; omega, by show 8 + (3 + 11) + 64 * (d + 8) ≤ 64 * (d + 9); omega⟩ rfl hl.1 rfl (Nat.le_of_ble_eq_true rfl) ⟨Nat.zero_le _, Nat.zero_le _⟩ dX4_choice_2 (fun H locs _ hm => ?_)
  refine lv_aload_n hx hb dX4_choice_5 rfl (lv_at hl 0 rfl) ?_
  refine lv_bipush (v := (13 : Int32)) hx hb dX4_choice_6 (by decide) ?_
  obtain ⟨M4, hq3, hf⟩ := xb1_e hf
  refine x_callVv (As := [.int (13 : Int32)]) (rest := []) C hm (c_X4_want l E b M1 (13 : Int32) hq3) rfl (cx_Reader (LX_reader 0 _ rfl)) tc_X4_want tm_RX4_133 ti_X4_want ts_X4_want tn_RX4 td_X4_want rfl rfl ⟨by show 3 + 1 ≤ d + 9; omega, by show 8 + (2 + 11) + 64 * 3 ≤ 64 * (d + 9); omega⟩ rfl hl.1 rfl (Nat.le_of_ble_eq_true rfl) ⟨Nat.zero_le _, Nat.zero_le _⟩ dX4_choice_8 (fun H locs hP5 hm => ?_)
  refine lv_aload_n hx hb dX4_choice_11 rfl (lv_at hl 0 rfl) ?_
  refine lv_bipush (v := (45 : Int32)) hx hb dX4_choice_12 (by decide) ?_
  refine lv_iconst (v := (0 : Int32)) hx hb dX4_choice_14 (by decide) ?_
  obtain ⟨v7, M8, hq6, hf⟩ := xb2_e hf
  refine x_callVi (As := [.int (45 : Int32), .int (0 : Int32)]) (rest := []) C hm (c_X4_emit l E b M4 (45 : Int32) (0 : Int32) hq6) rfl (cx_Reader (LX_reader 0 _ rfl)) tc_X4_emit tm_RX4_161 ti_X4_emit ts_X4_emit tn_RX4 td_X4_emit rfl rfl ⟨by show 2 + 1 ≤ d + 9; omega, by show 8 + (3 + 11) + 64 * 2 ≤ 64 * (d + 9); omega⟩ rfl hl.1 rfl (Nat.le_of_ble_eq_true rfl) ⟨Nat.zero_le _, Nat.zero_le _⟩ dX4_choice_15 (fun H locs hP9 hm => ?_)
  refine lv_istore_n (lv' := [(2, .int v7), (0, .ref (b + 990)), (1, .int a1)]) hx hb dX4_choice_18 rfl hl (by decide) rfl (fun ls hl => ?_)
  refine lv_aload_n hx hb dX4_choice_19 rfl (lv_at hl 1 rfl) ?_
  refine lv_iload_n hx hb dX4_choice_20 rfl (lv_at hl 2 rfl) ?_
  obtain ⟨M10, hq11, hf⟩ := xb1_e hf
  refine x_callVv (As := [.int a1]) (rest := []) C hm (hR_X4_sum M8 a1 _ hq11) rfl (cx_Reader (LX_reader 0 _ rfl)) tc_X4_sum tm_RX4_142 ti_X4_sum ts_X4_sum tn_RX4 td_X4_sum rfl rfl ⟨by show d + 8 + 1 ≤ d + 9; omega, by show 8 + (4 + 11) + 64 * (d + 8) ≤ 64 * (d + 9); omega⟩ rfl hl.1 rfl (Nat.le_of_ble_eq_true rfl) ⟨Nat.zero_le _, Nat.zero_le _⟩ dX4_choice_21 (fun H locs _ hm => ?_)
  refine lv_aload_n hx hb dX4_choice_24 rfl (lv_at hl 1 rfl) ?_
  refine lv_bipush (v := (14 : Int32)) hx hb dX4_choice_25 (by decide) ?_
  obtain ⟨M13, hq12, hf⟩ := xb1_e hf
  refine x_callVv (As := [.int (14 : Int32)]) (rest := []) C hm (c_X4_want l E b M10 (14 : Int32) hq12) rfl (cx_Reader (LX_reader 0 _ rfl)) tc_X4_want tm_RX4_133 ti_X4_want ts_X4_want tn_RX4 td_X4_want rfl rfl ⟨by show 3 + 1 ≤ d + 9; omega, by show 8 + (2 + 11) + 64 * 3 ≤ 64 * (d + 9); omega⟩ rfl hl.1 rfl (Nat.le_of_ble_eq_true rfl) ⟨Nat.zero_le _, Nat.zero_le _⟩ dX4_choice_27 (fun H locs hP14 hm => ?_)
  refine lv_aload_n hx hb dX4_choice_30 rfl (lv_at hl 1 rfl) ?_
  refine lv_bipush (v := (44 : Int32)) hx hb dX4_choice_31 (by decide) ?_
  refine lv_iconst (v := (0 : Int32)) hx hb dX4_choice_33 (by decide) ?_
  obtain ⟨v16, M17, hq15, hf⟩ := xb2_e hf
  refine x_callVi (As := [.int (44 : Int32), .int (0 : Int32)]) (rest := []) C hm (c_X4_emit l E b M13 (44 : Int32) (0 : Int32) hq15) rfl (cx_Reader (LX_reader 0 _ rfl)) tc_X4_emit tm_RX4_161 ti_X4_emit ts_X4_emit tn_RX4 td_X4_emit rfl rfl ⟨by show 2 + 1 ≤ d + 9; omega, by show 8 + (3 + 11) + 64 * 2 ≤ 64 * (d + 9); omega⟩ rfl hl.1 rfl (Nat.le_of_ble_eq_true rfl) ⟨Nat.zero_le _, Nat.zero_le _⟩ dX4_choice_34 (fun H locs hP18 hm => ?_)
  refine lv_istore_n (lv' := [(3, .int v16), (2, .int v7), (0, .ref (b + 990)), (1, .int a1)]) hx hb dX4_choice_37 rfl hl (by decide) rfl (fun ls hl => ?_)
  refine lv_aload_n hx hb dX4_choice_38 rfl (lv_at hl 2 rfl) ?_
  refine x_get C hm inX4 rfl 4 (by decide) tf_RX4_27 (cx_Reader (LX_reader 0 _ rfl)) rfl dX4_choice_39 ?_
  refine lv_iload_n hx hb dX4_choice_42 rfl (lv_at hl 1 rfl) ?_
  obtain ⟨M20, hq19, hf⟩ := xb1_e hf
  refine x_callVv (As := [.int v7]) (rest := []) C hm (c_X7_landHere l E b (lat_draft LX_reader) M17 v7 hq19) rfl (cx_Text ((lat_draft LX_reader) 0 _ rfl)) tc_X7_landHere tm_RX4_183 ti_X7_landHere ts_X7_landHere tn_RX7 td_X7_landHere rfl rfl ⟨by show 1 + 1 ≤ d + 9; omega, by show 8 + (2 + 11) + 64 * 1 ≤ 64 * (d + 9); omega⟩ rfl hl.1 rfl (Nat.le_of_ble_eq_true rfl) ⟨Nat.zero_le _, Nat.zero_le _⟩ dX4_choice_43 (fun H locs hP21 hm => ?_)
  refine lv_aload_n hx hb dX4_choice_46 rfl (lv_at hl 2 rfl) ?_
  refine lv_iload_n hx hb dX4_choice_47 rfl (lv_at hl 3 rfl) ?_
  obtain ⟨M22, hq23, hf⟩ := xb1_e hf
  refine x_callVv (As := [.int a1]) (rest := []) C hm (hR_X4_sum M20 a1 _ hq23) rfl (cx_Reader (LX_reader 0 _ rfl)) tc_X4_sum tm_RX4_142 ti_X4_sum ts_X4_sum tn_RX4 td_X4_sum rfl rfl ⟨by show d + 8 + 1 ≤ d + 9; omega, by show 8 + (4 + 11) + 64 * (d + 8) ≤ 64 * (d + 9); omega⟩ rfl hl.1 rfl (Nat.le_of_ble_eq_true rfl) ⟨Nat.zero_le _, Nat.zero_le _⟩ dX4_choice_48 (fun H locs _ hm => ?_)
  refine lv_aload_n hx hb dX4_choice_51 rfl (lv_at hl 2 rfl) ?_
  refine lv_bipush (v := (15 : Int32)) hx hb dX4_choice_52 (by decide) ?_
  obtain ⟨M25, hq24, hf⟩ := xb1_e hf
  refine x_callVv (As := [.int (15 : Int32)]) (rest := []) C hm (c_X4_want l E b M22 (15 : Int32) hq24) rfl (cx_Reader (LX_reader 0 _ rfl)) tc_X4_want tm_RX4_133 ti_X4_want ts_X4_want tn_RX4 td_X4_want rfl rfl ⟨by show 3 + 1 ≤ d + 9; omega, by show 8 + (2 + 11) + 64 * 3 ≤ 64 * (d + 9); omega⟩ rfl hl.1 rfl (Nat.le_of_ble_eq_true rfl) ⟨Nat.zero_le _, Nat.zero_le _⟩ dX4_choice_54 (fun H locs hP26 hm => ?_)
  refine lv_aload_n hx hb dX4_choice_57 rfl (lv_at hl 2 rfl) ?_
  refine x_get C hm inX4 rfl 4 (by decide) tf_RX4_27 (cx_Reader (LX_reader 0 _ rfl)) rfl dX4_choice_58 ?_
  refine lv_iload_n hx hb dX4_choice_61 rfl (lv_at hl 0 rfl) ?_
  obtain ⟨M28, hq27, hf⟩ := xb1_e hf
  refine x_callVv (As := [.int v16]) (rest := []) C hm (c_X7_landHere l E b (lat_draft LX_reader) M25 v16 hq27) rfl (cx_Text ((lat_draft LX_reader) 0 _ rfl)) tc_X7_landHere tm_RX4_183 ti_X7_landHere ts_X7_landHere tn_RX7 td_X7_landHere rfl rfl ⟨by show 1 + 1 ≤ d + 9; omega, by show 8 + (2 + 11) + 64 * 1 ≤ 64 * (d + 9); omega⟩ rfl hl.1 rfl (Nat.le_of_ble_eq_true rfl) ⟨Nat.zero_le _, Nat.zero_le _⟩ dX4_choice_62 (fun H locs hP29 hm => ?_)
  cases hf
  exact x_vret C hm trivial dX4_choice_65
/-! ColouredHeap$Reader.either(I)V -/
theorem dX4_either_0 : decode cX4_either 0 = .ok (.aload_n 0, 1) := by decide +kernel
theorem dX4_either_1 : decode cX4_either 1 = .ok (.iload_n 1, 1) := by decide +kernel
theorem dX4_either_2 : decode cX4_either 2 = .ok (.invokevirtual 186, 3) := by decide +kernel
theorem dX4_either_5 : decode cX4_either 5 = .ok (.iconst 0, 1) := by decide +kernel
theorem dX4_either_6 : decode cX4_either 6 = .ok (.istore_n 2, 1) := by decide +kernel
theorem dX4_either_7 : decode cX4_either 7 = .ok (.iload_n 2, 1) := by decide +kernel
theorem dX4_either_8 : decode cX4_either 8 = .ok (.sipush 300, 3) := by decide +kernel
theorem dX4_either_11 : decode cX4_either 11 = .ok (.if_icmp .ge 41, 3) := by decide +kernel
theorem dX4_either_14 : decode cX4_either 14 = .ok (.aload_n 0, 1) := by decide +kernel
theorem dX4_either_15 : decode cX4_either 15 = .ok (.bipush 16, 2) := by decide +kernel
theorem dX4_either_17 : decode cX4_either 17 = .ok (.invokevirtual 58, 3) := by decide +kernel
theorem dX4_either_20 : decode cX4_either 20 = .ok (.ifCond .eq 32, 3) := by decide +kernel
theorem dX4_either_23 : decode cX4_either 23 = .ok (.aload_n 0, 1) := by decide +kernel
theorem dX4_either_24 : decode cX4_either 24 = .ok (.dup, 1) := by decide +kernel
theorem dX4_either_25 : decode cX4_either 25 = .ok (.getfield 44, 3) := by decide +kernel
theorem dX4_either_28 : decode cX4_either 28 = .ok (.iconst 1, 1) := by decide +kernel
theorem dX4_either_29 : decode cX4_either 29 = .ok (.iadd, 1) := by decide +kernel
theorem dX4_either_30 : decode cX4_either 30 = .ok (.putfield 44, 3) := by decide +kernel
theorem dX4_either_33 : decode cX4_either 33 = .ok (.aload_n 0, 1) := by decide +kernel
theorem dX4_either_34 : decode cX4_either 34 = .ok (.iload_n 1, 1) := by decide +kernel
theorem dX4_either_35 : decode cX4_either 35 = .ok (.invokevirtual 186, 3) := by decide +kernel
theorem dX4_either_38 : decode cX4_either 38 = .ok (.aload_n 0, 1) := by decide +kernel
theorem dX4_either_39 : decode cX4_either 39 = .ok (.bipush 16, 2) := by decide +kernel
theorem dX4_either_41 : decode cX4_either 41 = .ok (.iconst 0, 1) := by decide +kernel
theorem dX4_either_42 : decode cX4_either 42 = .ok (.invokevirtual 161, 3) := by decide +kernel
theorem dX4_either_45 : decode cX4_either 45 = .ok (.pop, 1) := by decide +kernel
theorem dX4_either_46 : decode cX4_either 46 = .ok (.iinc 2 1, 3) := by decide +kernel
theorem dX4_either_49 : decode cX4_either 49 = .ok (.goto (-42), 3) := by decide +kernel
theorem dX4_either_52 : decode cX4_either 52 = .ok (.return_, 1) := by decide +kernel
def g_X4_either_7 (R : Nat → xm → Int32 → Int32 → Option xm) (x3 : Int32) : Nat → xm → Int32 → Option ((xm))
  | 0, _, _ => none
  | n + 1, M5, x4 => (if (300 : Int32) ≤ x4 then some (M5) else xb1 (f_X4_isNext M5 (16 : Int32)) (fun v9 => (if v9 = 0 then some (M5) else xlet (up2 M5 990 9 ((M5 990 9) + (1 : Int32))) (fun M12 => xb1 (R 6 M12 x3 0) (fun M13 => xb2 (f_X4_emit M13 (16 : Int32) (0 : Int32)) (fun v16 M17 => xlet (x4 + (1 : Int32)) (fun v19 => g_X4_either_7 R x3 n M17 v19)))))))
def fb_X4_either (R : Nat → xm → Int32 → Int32 → Option xm) (M : xm) (a1 : Int32) : Option xm := xb1 (R 6 M a1 0) (fun M1 => xb1 (g_X4_either_7 R a1 xfuel M1 (0 : Int32)) (fun M20 => some M20))
set_option maxHeartbeats 4000000 in
set_option maxRecDepth 20000 in
theorem j_X4_either_7 {p : Program} {l : Launch} {e : Env} {s : State} {m : MethodId} {args : Array Value} {below : List Frame} {meth : Method} {c : Code} {Q : State → Prop} {E : xE} {b : Nat} (C : xC p s m args meth c cX4_either 3 RX4 none E b) (R : Nat → xm → Int32 → Int32 → Option xm) (d : Nat) (hR_X4_ask : ∀ (M : xm) (a0 : Int32) (M' : xm), R 7 M a0 0 = some M' → xMet l E b NX yX4_ask cX4_ask 2 none (xR (d + 8)) [.ref (b + 990), .int a0] (cX E b M) none True (cX E b M')) (hR_X4_both : ∀ (M : xm) (a0 : Int32) (M' : xm), R 6 M a0 0 = some M' → xMet l E b NX yX4_both cX4_both 3 none (xR (d + 8)) [.ref (b + 990), .int a0] (cX E b M) none True (cX E b M')) (hR_X4_choice : ∀ (M : xm) (a0 : Int32) (M' : xm), R 4 M a0 0 = some M' → xMet l E b NX yX4_choice cX4_choice 4 none (xR (d + 8)) [.ref (b + 990), .int a0] (cX E b M) none True (cX E b M')) (hR_X4_comparison : ∀ (M : xm) (a0 : Int32) (M' : xm), R 8 M a0 0 = some M' → xMet l E b NX yX4_comparison cX4_comparison 4 none (xR (d + 8)) [.ref (b + 990), .int a0] (cX E b M) none True (cX E b M')) (hR_X4_either : ∀ (M : xm) (a0 : Int32) (M' : xm), R 5 M a0 0 = some M' → xMet l E b NX yX4_either cX4_either 3 none (xR (d + 8)) [.ref (b + 990), .int a0] (cX E b M) none True (cX E b M')) (hR_X4_one : ∀ (M : xm) (a0 : Int32) (M' : xm), R 2 M a0 0 = some M' → xMet l E b NX yX4_one cX4_one 3 none (xR (d + 8)) [.ref (b + 990), .int a0] (cX E b M) none True (cX E b M')) (hR_X4_openedOne : ∀ (M : xm) (a0 : Int32) (a1 : Int32) (M' : xm), R 3 M a0 a1 = some M' → xMet l E b NX yX4_openedOne cX4_openedOne 3 none (xR (d + 8)) [.ref (b + 990), .int a0, .int a1] (cX E b M) none True (cX E b M')) (hR_X4_product : ∀ (M : xm) (a0 : Int32) (M' : xm), R 1 M a0 0 = some M' → xMet l E b NX yX4_product cX4_product 4 none (xR (d + 8)) [.ref (b + 990), .int a0] (cX E b M) none True (cX E b M')) (hR_X4_sum : ∀ (M : xm) (a0 : Int32) (M' : xm), R 0 M a0 0 = some M' → xMet l E b NX yX4_sum cX4_sum 4 none (xR (d + 8)) [.ref (b + 990), .int a0] (cX E b M) none True (cX E b M')) (x3 : Int32) {y6 : xm}
    (kx0 : ∀ (H : Heap) (locs : List Loc) (ls : Array Slot), xM E b NX (cX E b y6) s.heap H locs → lv_has ls 3 [] → W p l e (xR (d + 9)) s m args below meth c H locs 0 0 Q (F0 m 52 ls [])) :
    ∀ (n : Nat) (M5 : xm) (x4 : Int32) (H : Heap) (locs : List Loc) (ls : Array Slot), g_X4_either_7 R x3 n M5 x4 = some y6 → xM E b NX (cX E b M5) s.heap H locs → lv_has ls 3 [(0, .ref (b + 990)), (1, .int x3), (2, .int x4)] → W p l e (xR (d + 9)) s m args below meth c H locs 0 0 Q (F0 m 7 ls []) := by
  have hx := C.1.1
  have hb := C.1.2.1
  intro n
  induction n with
  | zero =>
    intro M5 x4 H locs ls hf hm hl
    rw [g_X4_either_7] at hf
    cases hf
  | succ n ih =>
    intro M5 x4 H locs ls hf hm hl
    rw [g_X4_either_7] at hf
    refine lv_iload_n hx hb dX4_either_7 rfl (lv_at hl 2 rfl) ?_
    refine lv_sipush (v := (300 : Int32)) hx hb dX4_either_8 (by decide) ?_
    refine lv_icmp_ge (tgt := 52) hx hb dX4_either_11 (by decide) (fun hc7 => ?_) (fun hc7 => ?_)
    · have hf := xif_t hc7 hf
      cases hf
      exact kx0 H locs ls hm (lv_sub hl [] rfl)
    have hf := xif_f hc7 hf
    refine lv_aload_n hx hb dX4_either_14 rfl (lv_at hl 0 rfl) ?_
    refine lv_bipush (v := (16 : Int32)) hx hb dX4_either_15 (by decide) ?_
    obtain ⟨v9, hq8, hf⟩ := xb1_e hf
    refine x_callVi (As := [.int (16 : Int32)]) (rest := []) C hm (c_X4_isNext l E b M5 (16 : Int32) hq8) rfl (cx_Reader (LX_reader 0 _ rfl)) tc_X4_isNext tm_RX4_58 ti_X4_isNext ts_X4_isNext tn_RX4 td_X4_isNext rfl rfl ⟨by show 2 + 1 ≤ d + 9; omega, by show 8 + (2 + 11) + 64 * 2 ≤ 64 * (d + 9); omega⟩ rfl hl.1 rfl (Nat.le_of_ble_eq_true rfl) ⟨Nat.zero_le _, Nat.zero_le _⟩ dX4_either_17 (fun H locs hP10 hm => ?_)
    refine lv_if_eq (tgt := 52) hx hb dX4_either_20 (by decide) (fun hc11 => ?_) (fun hc11 => ?_)
    · have hf := xif_t hc11 hf
      cases hf
      exact kx0 H locs ls hm (lv_sub hl [] rfl)
    have hf := xif_f hc11 hf
    refine lv_aload_n hx hb dX4_either_23 rfl (lv_at hl 0 rfl) ?_
    refine lv_dup hx hb dX4_either_24 rfl ?_
    refine x_get C hm inX4 rfl 9 (by decide) tf_RX4_44 (cx_Reader (LX_reader 0 _ rfl)) rfl dX4_either_25 ?_
    refine lv_iconst (v := (1 : Int32)) hx hb dX4_either_28 (by decide) ?_
    refine lv_iadd hx hb dX4_either_29 ?_
    obtain ⟨M12, eM12, hf⟩ := xlet_x hf
    refine x_put (cf' := cX E b M12) C hm inX4 tyX4 tyX4_ok nmX4 rfl 9 (by decide) tf_RX4_44 rfl rfl rfl (cx_Reader (LX_reader 0 _ rfl)) (Nat.le_of_ble_eq_true rfl) (by rw [eM12]; exact cu_Reader_9 (LX_reader 0 _ rfl)) (by rw [eM12]; exact cX_o) dX4_either_30 (fun H locs hm => ?_)
    refine lv_aload_n hx hb dX4_either_33 rfl (lv_at hl 0 rfl) ?_
    refine lv_iload_n hx hb dX4_either_34 rfl (lv_at hl 1 rfl) ?_
    obtain ⟨M13, hq14, hf⟩ := xb1_e hf
    refine x_callVv (As := [.int x3]) (rest := []) C hm (hR_X4_both M12 x3 _ hq14) rfl (cx_Reader (LX_reader 0 _ rfl)) tc_X4_both tm_RX4_186 ti_X4_both ts_X4_both tn_RX4 td_X4_both rfl rfl ⟨by show d + 8 + 1 ≤ d + 9; omega, by show 8 + (3 + 11) + 64 * (d + 8) ≤ 64 * (d + 9); omega⟩ rfl hl.1 rfl (Nat.le_of_ble_eq_true rfl) ⟨Nat.zero_le _, Nat.zero_le _⟩ dX4_either_35 (fun H locs _ hm => ?_)
    refine lv_aload_n hx hb dX4_either_38 rfl (lv_at hl 0 rfl) ?_
    refine lv_bipush (v := (16 : Int32)) hx hb dX4_either_39 (by decide) ?_
    refine lv_iconst (v := (0 : Int32)) hx hb dX4_either_41 (by decide) ?_
    obtain ⟨v16, M17, hq15, hf⟩ := xb2_e hf
    refine x_callVi (As := [.int (16 : Int32), .int (0 : Int32)]) (rest := []) C hm (c_X4_emit l E b M13 (16 : Int32) (0 : Int32) hq15) rfl (cx_Reader (LX_reader 0 _ rfl)) tc_X4_emit tm_RX4_161 ti_X4_emit ts_X4_emit tn_RX4 td_X4_emit rfl rfl ⟨by show 2 + 1 ≤ d + 9; omega, by show 8 + (3 + 11) + 64 * 2 ≤ 64 * (d + 9); omega⟩ rfl hl.1 rfl (Nat.le_of_ble_eq_true rfl) ⟨Nat.zero_le _, Nat.zero_le _⟩ dX4_either_42 (fun H locs hP18 hm => ?_)
    refine lv_pop hx hb dX4_either_45 rfl ?_
    obtain ⟨v19, ev19, hf⟩ := xlet_x hf
    refine lv_iinc (v := v19) (lv' := [(2, .int v19), (0, .ref (b + 990)), (1, .int x3)]) hx hb dX4_either_46 hl (k := 2) rfl (by rw [ev19]; rfl) (by decide) rfl (fun ls hl => ?_)
    refine lv_goto (tgt := 7) hx hb dX4_either_49 (by decide) ?_
    exact ih M17 v19 H locs ls hf hm (lv_sub hl [1, 2, 0] rfl)
set_option maxHeartbeats 4000000 in
set_option maxRecDepth 20000 in
theorem cb_X4_either (l : Launch) (E : xE) (b : Nat) (R : Nat → xm → Int32 → Int32 → Option xm) (d : Nat) (hR_X4_ask : ∀ (M : xm) (a0 : Int32) (M' : xm), R 7 M a0 0 = some M' → xMet l E b NX yX4_ask cX4_ask 2 none (xR (d + 8)) [.ref (b + 990), .int a0] (cX E b M) none True (cX E b M')) (hR_X4_both : ∀ (M : xm) (a0 : Int32) (M' : xm), R 6 M a0 0 = some M' → xMet l E b NX yX4_both cX4_both 3 none (xR (d + 8)) [.ref (b + 990), .int a0] (cX E b M) none True (cX E b M')) (hR_X4_choice : ∀ (M : xm) (a0 : Int32) (M' : xm), R 4 M a0 0 = some M' → xMet l E b NX yX4_choice cX4_choice 4 none (xR (d + 8)) [.ref (b + 990), .int a0] (cX E b M) none True (cX E b M')) (hR_X4_comparison : ∀ (M : xm) (a0 : Int32) (M' : xm), R 8 M a0 0 = some M' → xMet l E b NX yX4_comparison cX4_comparison 4 none (xR (d + 8)) [.ref (b + 990), .int a0] (cX E b M) none True (cX E b M')) (hR_X4_either : ∀ (M : xm) (a0 : Int32) (M' : xm), R 5 M a0 0 = some M' → xMet l E b NX yX4_either cX4_either 3 none (xR (d + 8)) [.ref (b + 990), .int a0] (cX E b M) none True (cX E b M')) (hR_X4_one : ∀ (M : xm) (a0 : Int32) (M' : xm), R 2 M a0 0 = some M' → xMet l E b NX yX4_one cX4_one 3 none (xR (d + 8)) [.ref (b + 990), .int a0] (cX E b M) none True (cX E b M')) (hR_X4_openedOne : ∀ (M : xm) (a0 : Int32) (a1 : Int32) (M' : xm), R 3 M a0 a1 = some M' → xMet l E b NX yX4_openedOne cX4_openedOne 3 none (xR (d + 8)) [.ref (b + 990), .int a0, .int a1] (cX E b M) none True (cX E b M')) (hR_X4_product : ∀ (M : xm) (a0 : Int32) (M' : xm), R 1 M a0 0 = some M' → xMet l E b NX yX4_product cX4_product 4 none (xR (d + 8)) [.ref (b + 990), .int a0] (cX E b M) none True (cX E b M')) (hR_X4_sum : ∀ (M : xm) (a0 : Int32) (M' : xm), R 0 M a0 0 = some M' → xMet l E b NX yX4_sum cX4_sum 4 none (xR (d + 8)) [.ref (b + 990), .int a0] (cX E b M) none True (cX E b M')) (M : xm) (a1 : Int32) {M' : xm} (hf : fb_X4_either R M a1 = some M') :
    xMet l E b NX yX4_either cX4_either 3 none (xR (d + 9)) [.ref (b + 990), .int a1] (cX E b M) none True (cX E b M') := by
  refine xMet.ofW (own := RX4) (by decide) rfl (Nat.le_of_ble_eq_true rfl) ?_
  intro p e s m below meth c H locs ls C hm hl
  have hx := C.1.1
  have hb := C.1.2.1
  have hl : lv_has ls 3 [(0, .ref (b + 990)), (1, .int a1)] := hl
  unfold fb_X4_either at hf
  refine lv_aload_n hx hb dX4_either_0 rfl (lv_at hl 0 rfl) ?_
  refine lv_iload_n hx hb dX4_either_1 rfl (lv_at hl 1 rfl) ?_
  obtain ⟨M1, hq2, hf⟩ := xb1_e hf
  refine x_callVv (As := [.int a1]) (rest := []) C hm (hR_X4_both M a1 _ hq2) rfl (cx_Reader (LX_reader 0 _ rfl)) tc_X4_both tm_RX4_186 ti_X4_both ts_X4_both tn_RX4 td_X4_both rfl rfl ⟨by show d + 8 + 1 ≤ d + 9; omega, by show 8 + (3 + 11) + 64 * (d + 8) ≤ 64 * (d + 9); omega⟩ rfl hl.1 rfl (Nat.le_of_ble_eq_true rfl) ⟨Nat.zero_le _, Nat.zero_le _⟩ dX4_either_2 (fun H locs _ hm => ?_)
  refine lv_iconst (v := (0 : Int32)) hx hb dX4_either_5 (by decide) ?_
  refine lv_istore_n (lv' := [(2, .int (0 : Int32)), (0, .ref (b + 990)), (1, .int a1)]) hx hb dX4_either_6 rfl hl (by decide) rfl (fun ls hl => ?_)
  obtain ⟨M20, hq, hf⟩ := xb1_e hf
  refine j_X4_either_7 C R d hR_X4_ask hR_X4_both hR_X4_choice hR_X4_comparison hR_X4_either hR_X4_one hR_X4_openedOne hR_X4_product hR_X4_sum a1 (fun H locs ls hm hl => ?_) xfuel M1 (0 : Int32) H locs ls hq hm (lv_sub hl [1, 2, 0] rfl)
  cases hf
  exact x_vret C hm trivial dX4_either_52
/-! ColouredHeap$Reader.both(I)V -/
theorem dX4_both_0 : decode cX4_both 0 = .ok (.aload_n 0, 1) := by decide +kernel
theorem dX4_both_1 : decode cX4_both 1 = .ok (.iload_n 1, 1) := by decide +kernel
theorem dX4_both_2 : decode cX4_both 2 = .ok (.invokevirtual 189, 3) := by decide +kernel
theorem dX4_both_5 : decode cX4_both 5 = .ok (.iconst 0, 1) := by decide +kernel
theorem dX4_both_6 : decode cX4_both 6 = .ok (.istore_n 2, 1) := by decide +kernel
theorem dX4_both_7 : decode cX4_both 7 = .ok (.iload_n 2, 1) := by decide +kernel
theorem dX4_both_8 : decode cX4_both 8 = .ok (.sipush 300, 3) := by decide +kernel
theorem dX4_both_11 : decode cX4_both 11 = .ok (.if_icmp .ge 41, 3) := by decide +kernel
theorem dX4_both_14 : decode cX4_both 14 = .ok (.aload_n 0, 1) := by decide +kernel
theorem dX4_both_15 : decode cX4_both 15 = .ok (.bipush 17, 2) := by decide +kernel
theorem dX4_both_17 : decode cX4_both 17 = .ok (.invokevirtual 58, 3) := by decide +kernel
theorem dX4_both_20 : decode cX4_both 20 = .ok (.ifCond .eq 32, 3) := by decide +kernel
theorem dX4_both_23 : decode cX4_both 23 = .ok (.aload_n 0, 1) := by decide +kernel
theorem dX4_both_24 : decode cX4_both 24 = .ok (.dup, 1) := by decide +kernel
theorem dX4_both_25 : decode cX4_both 25 = .ok (.getfield 44, 3) := by decide +kernel
theorem dX4_both_28 : decode cX4_both 28 = .ok (.iconst 1, 1) := by decide +kernel
theorem dX4_both_29 : decode cX4_both 29 = .ok (.iadd, 1) := by decide +kernel
theorem dX4_both_30 : decode cX4_both 30 = .ok (.putfield 44, 3) := by decide +kernel
theorem dX4_both_33 : decode cX4_both 33 = .ok (.aload_n 0, 1) := by decide +kernel
theorem dX4_both_34 : decode cX4_both 34 = .ok (.iload_n 1, 1) := by decide +kernel
theorem dX4_both_35 : decode cX4_both 35 = .ok (.invokevirtual 189, 3) := by decide +kernel
theorem dX4_both_38 : decode cX4_both 38 = .ok (.aload_n 0, 1) := by decide +kernel
theorem dX4_both_39 : decode cX4_both 39 = .ok (.bipush 17, 2) := by decide +kernel
theorem dX4_both_41 : decode cX4_both 41 = .ok (.iconst 0, 1) := by decide +kernel
theorem dX4_both_42 : decode cX4_both 42 = .ok (.invokevirtual 161, 3) := by decide +kernel
theorem dX4_both_45 : decode cX4_both 45 = .ok (.pop, 1) := by decide +kernel
theorem dX4_both_46 : decode cX4_both 46 = .ok (.iinc 2 1, 3) := by decide +kernel
theorem dX4_both_49 : decode cX4_both 49 = .ok (.goto (-42), 3) := by decide +kernel
theorem dX4_both_52 : decode cX4_both 52 = .ok (.return_, 1) := by decide +kernel
def g_X4_both_7 (R : Nat → xm → Int32 → Int32 → Option xm) (x3 : Int32) : Nat → xm → Int32 → Option ((xm))
  | 0, _, _ => none
  | n + 1, M5, x4 => (if (300 : Int32) ≤ x4 then some (M5) else xb1 (f_X4_isNext M5 (17 : Int32)) (fun v9 => (if v9 = 0 then some (M5) else xlet (up2 M5 990 9 ((M5 990 9) + (1 : Int32))) (fun M12 => xb1 (R 7 M12 x3 0) (fun M13 => xb2 (f_X4_emit M13 (17 : Int32) (0 : Int32)) (fun v16 M17 => xlet (x4 + (1 : Int32)) (fun v19 => g_X4_both_7 R x3 n M17 v19)))))))
def fb_X4_both (R : Nat → xm → Int32 → Int32 → Option xm) (M : xm) (a1 : Int32) : Option xm := xb1 (R 7 M a1 0) (fun M1 => xb1 (g_X4_both_7 R a1 xfuel M1 (0 : Int32)) (fun M20 => some M20))
set_option maxHeartbeats 4000000 in
set_option maxRecDepth 20000 in
theorem j_X4_both_7 {p : Program} {l : Launch} {e : Env} {s : State} {m : MethodId} {args : Array Value} {below : List Frame} {meth : Method} {c : Code} {Q : State → Prop} {E : xE} {b : Nat} (C : xC p s m args meth c cX4_both 3 RX4 none E b) (R : Nat → xm → Int32 → Int32 → Option xm) (d : Nat) (hR_X4_ask : ∀ (M : xm) (a0 : Int32) (M' : xm), R 7 M a0 0 = some M' → xMet l E b NX yX4_ask cX4_ask 2 none (xR (d + 8)) [.ref (b + 990), .int a0] (cX E b M) none True (cX E b M')) (hR_X4_both : ∀ (M : xm) (a0 : Int32) (M' : xm), R 6 M a0 0 = some M' → xMet l E b NX yX4_both cX4_both 3 none (xR (d + 8)) [.ref (b + 990), .int a0] (cX E b M) none True (cX E b M')) (hR_X4_choice : ∀ (M : xm) (a0 : Int32) (M' : xm), R 4 M a0 0 = some M' → xMet l E b NX yX4_choice cX4_choice 4 none (xR (d + 8)) [.ref (b + 990), .int a0] (cX E b M) none True (cX E b M')) (hR_X4_comparison : ∀ (M : xm) (a0 : Int32) (M' : xm), R 8 M a0 0 = some M' → xMet l E b NX yX4_comparison cX4_comparison 4 none (xR (d + 8)) [.ref (b + 990), .int a0] (cX E b M) none True (cX E b M')) (hR_X4_either : ∀ (M : xm) (a0 : Int32) (M' : xm), R 5 M a0 0 = some M' → xMet l E b NX yX4_either cX4_either 3 none (xR (d + 8)) [.ref (b + 990), .int a0] (cX E b M) none True (cX E b M')) (hR_X4_one : ∀ (M : xm) (a0 : Int32) (M' : xm), R 2 M a0 0 = some M' → xMet l E b NX yX4_one cX4_one 3 none (xR (d + 8)) [.ref (b + 990), .int a0] (cX E b M) none True (cX E b M')) (hR_X4_openedOne : ∀ (M : xm) (a0 : Int32) (a1 : Int32) (M' : xm), R 3 M a0 a1 = some M' → xMet l E b NX yX4_openedOne cX4_openedOne 3 none (xR (d + 8)) [.ref (b + 990), .int a0, .int a1] (cX E b M) none True (cX E b M')) (hR_X4_product : ∀ (M : xm) (a0 : Int32) (M' : xm), R 1 M a0 0 = some M' → xMet l E b NX yX4_product cX4_product 4 none (xR (d + 8)) [.ref (b + 990), .int a0] (cX E b M) none True (cX E b M')) (hR_X4_sum : ∀ (M : xm) (a0 : Int32) (M' : xm), R 0 M a0 0 = some M' → xMet l E b NX yX4_sum cX4_sum 4 none (xR (d + 8)) [.ref (b + 990), .int a0] (cX E b M) none True (cX E b M')) (x3 : Int32) {y6 : xm}
    (kx0 : ∀ (H : Heap) (locs : List Loc) (ls : Array Slot), xM E b NX (cX E b y6) s.heap H locs → lv_has ls 3 [] → W p l e (xR (d + 9)) s m args below meth c H locs 0 0 Q (F0 m 52 ls [])) :
    ∀ (n : Nat) (M5 : xm) (x4 : Int32) (H : Heap) (locs : List Loc) (ls : Array Slot), g_X4_both_7 R x3 n M5 x4 = some y6 → xM E b NX (cX E b M5) s.heap H locs → lv_has ls 3 [(0, .ref (b + 990)), (1, .int x3), (2, .int x4)] → W p l e (xR (d + 9)) s m args below meth c H locs 0 0 Q (F0 m 7 ls []) := by
  have hx := C.1.1
  have hb := C.1.2.1
  intro n
  induction n with
  | zero =>
    intro M5 x4 H locs ls hf hm hl
    rw [g_X4_both_7] at hf
    cases hf
  | succ n ih =>
    intro M5 x4 H locs ls hf hm hl
    rw [g_X4_both_7] at hf
    refine lv_iload_n hx hb dX4_both_7 rfl (lv_at hl 2 rfl) ?_
    refine lv_sipush (v := (300 : Int32)) hx hb dX4_both_8 (by decide) ?_
    refine lv_icmp_ge (tgt := 52) hx hb dX4_both_11 (by decide) (fun hc7 => ?_) (fun hc7 => ?_)
    · have hf := xif_t hc7 hf
      cases hf
      exact kx0 H locs ls hm (lv_sub hl [] rfl)
    have hf := xif_f hc7 hf
    refine lv_aload_n hx hb dX4_both_14 rfl (lv_at hl 0 rfl) ?_
    refine lv_bipush (v := (17 : Int32)) hx hb dX4_both_15 (by decide) ?_
    obtain ⟨v9, hq8, hf⟩ := xb1_e hf
    refine x_callVi (As := [.int (17 : Int32)]) (rest := []) C hm (c_X4_isNext l E b M5 (17 : Int32) hq8) rfl (cx_Reader (LX_reader 0 _ rfl)) tc_X4_isNext tm_RX4_58 ti_X4_isNext ts_X4_isNext tn_RX4 td_X4_isNext rfl rfl ⟨by show 2 + 1 ≤ d + 9; omega, by show 8 + (2 + 11) + 64 * 2 ≤ 64 * (d + 9); omega⟩ rfl hl.1 rfl (Nat.le_of_ble_eq_true rfl) ⟨Nat.zero_le _, Nat.zero_le _⟩ dX4_both_17 (fun H locs hP10 hm => ?_)
    refine lv_if_eq (tgt := 52) hx hb dX4_both_20 (by decide) (fun hc11 => ?_) (fun hc11 => ?_)
    · have hf := xif_t hc11 hf
      cases hf
      exact kx0 H locs ls hm (lv_sub hl [] rfl)
    have hf := xif_f hc11 hf
    refine lv_aload_n hx hb dX4_both_23 rfl (lv_at hl 0 rfl) ?_
    refine lv_dup hx hb dX4_both_24 rfl ?_
    refine x_get C hm inX4 rfl 9 (by decide) tf_RX4_44 (cx_Reader (LX_reader 0 _ rfl)) rfl dX4_both_25 ?_
    refine lv_iconst (v := (1 : Int32)) hx hb dX4_both_28 (by decide) ?_
    refine lv_iadd hx hb dX4_both_29 ?_
    obtain ⟨M12, eM12, hf⟩ := xlet_x hf
    refine x_put (cf' := cX E b M12) C hm inX4 tyX4 tyX4_ok nmX4 rfl 9 (by decide) tf_RX4_44 rfl rfl rfl (cx_Reader (LX_reader 0 _ rfl)) (Nat.le_of_ble_eq_true rfl) (by rw [eM12]; exact cu_Reader_9 (LX_reader 0 _ rfl)) (by rw [eM12]; exact cX_o) dX4_both_30 (fun H locs hm => ?_)
    refine lv_aload_n hx hb dX4_both_33 rfl (lv_at hl 0 rfl) ?_
    refine lv_iload_n hx hb dX4_both_34 rfl (lv_at hl 1 rfl) ?_
    obtain ⟨M13, hq14, hf⟩ := xb1_e hf
    refine x_callVv (As := [.int x3]) (rest := []) C hm (hR_X4_ask M12 x3 _ hq14) rfl (cx_Reader (LX_reader 0 _ rfl)) tc_X4_ask tm_RX4_189 ti_X4_ask ts_X4_ask tn_RX4 td_X4_ask rfl rfl ⟨by show d + 8 + 1 ≤ d + 9; omega, by show 8 + (2 + 11) + 64 * (d + 8) ≤ 64 * (d + 9); omega⟩ rfl hl.1 rfl (Nat.le_of_ble_eq_true rfl) ⟨Nat.zero_le _, Nat.zero_le _⟩ dX4_both_35 (fun H locs _ hm => ?_)
    refine lv_aload_n hx hb dX4_both_38 rfl (lv_at hl 0 rfl) ?_
    refine lv_bipush (v := (17 : Int32)) hx hb dX4_both_39 (by decide) ?_
    refine lv_iconst (v := (0 : Int32)) hx hb dX4_both_41 (by decide) ?_
    obtain ⟨v16, M17, hq15, hf⟩ := xb2_e hf
    refine x_callVi (As := [.int (17 : Int32), .int (0 : Int32)]) (rest := []) C hm (c_X4_emit l E b M13 (17 : Int32) (0 : Int32) hq15) rfl (cx_Reader (LX_reader 0 _ rfl)) tc_X4_emit tm_RX4_161 ti_X4_emit ts_X4_emit tn_RX4 td_X4_emit rfl rfl ⟨by show 2 + 1 ≤ d + 9; omega, by show 8 + (3 + 11) + 64 * 2 ≤ 64 * (d + 9); omega⟩ rfl hl.1 rfl (Nat.le_of_ble_eq_true rfl) ⟨Nat.zero_le _, Nat.zero_le _⟩ dX4_both_42 (fun H locs hP18 hm => ?_)
    refine lv_pop hx hb dX4_both_45 rfl ?_
    obtain ⟨v19, ev19, hf⟩ := xlet_x hf
    refine lv_iinc (v := v19) (lv' := [(2, .int v19), (0, .ref (b + 990)), (1, .int x3)]) hx hb dX4_both_46 hl (k := 2) rfl (by rw [ev19]; rfl) (by decide) rfl (fun ls hl => ?_)
    refine lv_goto (tgt := 7) hx hb dX4_both_49 (by decide) ?_
    exact ih M17 v19 H locs ls hf hm (lv_sub hl [1, 2, 0] rfl)
set_option maxHeartbeats 4000000 in
set_option maxRecDepth 20000 in
theorem cb_X4_both (l : Launch) (E : xE) (b : Nat) (R : Nat → xm → Int32 → Int32 → Option xm) (d : Nat) (hR_X4_ask : ∀ (M : xm) (a0 : Int32) (M' : xm), R 7 M a0 0 = some M' → xMet l E b NX yX4_ask cX4_ask 2 none (xR (d + 8)) [.ref (b + 990), .int a0] (cX E b M) none True (cX E b M')) (hR_X4_both : ∀ (M : xm) (a0 : Int32) (M' : xm), R 6 M a0 0 = some M' → xMet l E b NX yX4_both cX4_both 3 none (xR (d + 8)) [.ref (b + 990), .int a0] (cX E b M) none True (cX E b M')) (hR_X4_choice : ∀ (M : xm) (a0 : Int32) (M' : xm), R 4 M a0 0 = some M' → xMet l E b NX yX4_choice cX4_choice 4 none (xR (d + 8)) [.ref (b + 990), .int a0] (cX E b M) none True (cX E b M')) (hR_X4_comparison : ∀ (M : xm) (a0 : Int32) (M' : xm), R 8 M a0 0 = some M' → xMet l E b NX yX4_comparison cX4_comparison 4 none (xR (d + 8)) [.ref (b + 990), .int a0] (cX E b M) none True (cX E b M')) (hR_X4_either : ∀ (M : xm) (a0 : Int32) (M' : xm), R 5 M a0 0 = some M' → xMet l E b NX yX4_either cX4_either 3 none (xR (d + 8)) [.ref (b + 990), .int a0] (cX E b M) none True (cX E b M')) (hR_X4_one : ∀ (M : xm) (a0 : Int32) (M' : xm), R 2 M a0 0 = some M' → xMet l E b NX yX4_one cX4_one 3 none (xR (d + 8)) [.ref (b + 990), .int a0] (cX E b M) none True (cX E b M')) (hR_X4_openedOne : ∀ (M : xm) (a0 : Int32) (a1 : Int32) (M' : xm), R 3 M a0 a1 = some M' → xMet l E b NX yX4_openedOne cX4_openedOne 3 none (xR (d + 8)) [.ref (b + 990), .int a0, .int a1] (cX E b M) none True (cX E b M')) (hR_X4_product : ∀ (M : xm) (a0 : Int32) (M' : xm), R 1 M a0 0 = some M' → xMet l E b NX yX4_product cX4_product 4 none (xR (d + 8)) [.ref (b + 990), .int a0] (cX E b M) none True (cX E b M')) (hR_X4_sum : ∀ (M : xm) (a0 : Int32) (M' : xm), R 0 M a0 0 = some M' → xMet l E b NX yX4_sum cX4_sum 4 none (xR (d + 8)) [.ref (b + 990), .int a0] (cX E b M) none True (cX E b M')) (M : xm) (a1 : Int32) {M' : xm} (hf : fb_X4_both R M a1 = some M') :
    xMet l E b NX yX4_both cX4_both 3 none (xR (d + 9)) [.ref (b + 990), .int a1] (cX E b M) none True (cX E b M') := by
  refine xMet.ofW (own := RX4) (by decide) rfl (Nat.le_of_ble_eq_true rfl) ?_
  intro p e s m below meth c H locs ls C hm hl
  have hx := C.1.1
  have hb := C.1.2.1
  have hl : lv_has ls 3 [(0, .ref (b + 990)), (1, .int a1)] := hl
  unfold fb_X4_both at hf
  refine lv_aload_n hx hb dX4_both_0 rfl (lv_at hl 0 rfl) ?_
  refine lv_iload_n hx hb dX4_both_1 rfl (lv_at hl 1 rfl) ?_
  obtain ⟨M1, hq2, hf⟩ := xb1_e hf
  refine x_callVv (As := [.int a1]) (rest := []) C hm (hR_X4_ask M a1 _ hq2) rfl (cx_Reader (LX_reader 0 _ rfl)) tc_X4_ask tm_RX4_189 ti_X4_ask ts_X4_ask tn_RX4 td_X4_ask rfl rfl ⟨by show d + 8 + 1 ≤ d + 9; omega, by show 8 + (2 + 11) + 64 * (d + 8) ≤ 64 * (d + 9); omega⟩ rfl hl.1 rfl (Nat.le_of_ble_eq_true rfl) ⟨Nat.zero_le _, Nat.zero_le _⟩ dX4_both_2 (fun H locs _ hm => ?_)
  refine lv_iconst (v := (0 : Int32)) hx hb dX4_both_5 (by decide) ?_
  refine lv_istore_n (lv' := [(2, .int (0 : Int32)), (0, .ref (b + 990)), (1, .int a1)]) hx hb dX4_both_6 rfl hl (by decide) rfl (fun ls hl => ?_)
  obtain ⟨M20, hq, hf⟩ := xb1_e hf
  refine j_X4_both_7 C R d hR_X4_ask hR_X4_both hR_X4_choice hR_X4_comparison hR_X4_either hR_X4_one hR_X4_openedOne hR_X4_product hR_X4_sum a1 (fun H locs ls hm hl => ?_) xfuel M1 (0 : Int32) H locs ls hq hm (lv_sub hl [1, 2, 0] rfl)
  cases hf
  exact x_vret C hm trivial dX4_both_52
/-! ColouredHeap$Reader.ask(I)V -/
theorem dX4_ask_0 : decode cX4_ask 0 = .ok (.aload_n 0, 1) := by decide +kernel
theorem dX4_ask_1 : decode cX4_ask 1 = .ok (.bipush 18, 2) := by decide +kernel
theorem dX4_ask_3 : decode cX4_ask 3 = .ok (.invokevirtual 58, 3) := by decide +kernel
theorem dX4_ask_6 : decode cX4_ask 6 = .ok (.ifCond .ne 11, 3) := by decide +kernel
theorem dX4_ask_9 : decode cX4_ask 9 = .ok (.aload_n 0, 1) := by decide +kernel
theorem dX4_ask_10 : decode cX4_ask 10 = .ok (.iload_n 1, 1) := by decide +kernel
theorem dX4_ask_11 : decode cX4_ask 11 = .ok (.invokevirtual 192, 3) := by decide +kernel
theorem dX4_ask_14 : decode cX4_ask 14 = .ok (.goto 42, 3) := by decide +kernel
theorem dX4_ask_17 : decode cX4_ask 17 = .ok (.iload_n 1, 1) := by decide +kernel
theorem dX4_ask_18 : decode cX4_ask 18 = .ok (.bipush 8, 2) := by decide +kernel
theorem dX4_ask_20 : decode cX4_ask 20 = .ok (.if_icmp .lt 11, 3) := by decide +kernel
theorem dX4_ask_23 : decode cX4_ask 23 = .ok (.aload_n 0, 1) := by decide +kernel
theorem dX4_ask_24 : decode cX4_ask 24 = .ok (.iconst 3, 1) := by decide +kernel
theorem dX4_ask_25 : decode cX4_ask 25 = .ok (.invokevirtual 114, 3) := by decide +kernel
theorem dX4_ask_28 : decode cX4_ask 28 = .ok (.goto 28, 3) := by decide +kernel
theorem dX4_ask_31 : decode cX4_ask 31 = .ok (.aload_n 0, 1) := by decide +kernel
theorem dX4_ask_32 : decode cX4_ask 32 = .ok (.dup, 1) := by decide +kernel
theorem dX4_ask_33 : decode cX4_ask 33 = .ok (.getfield 44, 3) := by decide +kernel
theorem dX4_ask_36 : decode cX4_ask 36 = .ok (.iconst 1, 1) := by decide +kernel
theorem dX4_ask_37 : decode cX4_ask 37 = .ok (.iadd, 1) := by decide +kernel
theorem dX4_ask_38 : decode cX4_ask 38 = .ok (.putfield 44, 3) := by decide +kernel
theorem dX4_ask_41 : decode cX4_ask 41 = .ok (.aload_n 0, 1) := by decide +kernel
theorem dX4_ask_42 : decode cX4_ask 42 = .ok (.iload_n 1, 1) := by decide +kernel
theorem dX4_ask_43 : decode cX4_ask 43 = .ok (.iconst 1, 1) := by decide +kernel
theorem dX4_ask_44 : decode cX4_ask 44 = .ok (.iadd, 1) := by decide +kernel
theorem dX4_ask_45 : decode cX4_ask 45 = .ok (.invokevirtual 189, 3) := by decide +kernel
theorem dX4_ask_48 : decode cX4_ask 48 = .ok (.aload_n 0, 1) := by decide +kernel
theorem dX4_ask_49 : decode cX4_ask 49 = .ok (.bipush 18, 2) := by decide +kernel
theorem dX4_ask_51 : decode cX4_ask 51 = .ok (.iconst 0, 1) := by decide +kernel
theorem dX4_ask_52 : decode cX4_ask 52 = .ok (.invokevirtual 161, 3) := by decide +kernel
theorem dX4_ask_55 : decode cX4_ask 55 = .ok (.pop, 1) := by decide +kernel
theorem dX4_ask_56 : decode cX4_ask 56 = .ok (.return_, 1) := by decide +kernel
def fb_X4_ask (R : Nat → xm → Int32 → Int32 → Option xm) (M : xm) (a1 : Int32) : Option xm := xb1 (f_X4_isNext M (18 : Int32)) (fun v2 => (if v2 = 0 then xb1 (R 8 M a1 0) (fun M16 => some M16) else (if a1 < (8 : Int32) then xlet (up2 M 990 9 ((M 990 9) + (1 : Int32))) (fun M6 => xb1 (R 7 M6 (a1 + (1 : Int32)) 0) (fun M7 => xb2 (f_X4_emit M7 (18 : Int32) (0 : Int32)) (fun v10 M11 => some M11))) else xb1 (f_X4_refuse M (3 : Int32)) (fun M14 => some M14))))
set_option maxHeartbeats 4000000 in
set_option maxRecDepth 20000 in
theorem cb_X4_ask (l : Launch) (E : xE) (b : Nat) (R : Nat → xm → Int32 → Int32 → Option xm) (d : Nat) (hR_X4_ask : ∀ (M : xm) (a0 : Int32) (M' : xm), R 7 M a0 0 = some M' → xMet l E b NX yX4_ask cX4_ask 2 none (xR (d + 8)) [.ref (b + 990), .int a0] (cX E b M) none True (cX E b M')) (hR_X4_both : ∀ (M : xm) (a0 : Int32) (M' : xm), R 6 M a0 0 = some M' → xMet l E b NX yX4_both cX4_both 3 none (xR (d + 8)) [.ref (b + 990), .int a0] (cX E b M) none True (cX E b M')) (hR_X4_choice : ∀ (M : xm) (a0 : Int32) (M' : xm), R 4 M a0 0 = some M' → xMet l E b NX yX4_choice cX4_choice 4 none (xR (d + 8)) [.ref (b + 990), .int a0] (cX E b M) none True (cX E b M')) (hR_X4_comparison : ∀ (M : xm) (a0 : Int32) (M' : xm), R 8 M a0 0 = some M' → xMet l E b NX yX4_comparison cX4_comparison 4 none (xR (d + 8)) [.ref (b + 990), .int a0] (cX E b M) none True (cX E b M')) (hR_X4_either : ∀ (M : xm) (a0 : Int32) (M' : xm), R 5 M a0 0 = some M' → xMet l E b NX yX4_either cX4_either 3 none (xR (d + 8)) [.ref (b + 990), .int a0] (cX E b M) none True (cX E b M')) (hR_X4_one : ∀ (M : xm) (a0 : Int32) (M' : xm), R 2 M a0 0 = some M' → xMet l E b NX yX4_one cX4_one 3 none (xR (d + 8)) [.ref (b + 990), .int a0] (cX E b M) none True (cX E b M')) (hR_X4_openedOne : ∀ (M : xm) (a0 : Int32) (a1 : Int32) (M' : xm), R 3 M a0 a1 = some M' → xMet l E b NX yX4_openedOne cX4_openedOne 3 none (xR (d + 8)) [.ref (b + 990), .int a0, .int a1] (cX E b M) none True (cX E b M')) (hR_X4_product : ∀ (M : xm) (a0 : Int32) (M' : xm), R 1 M a0 0 = some M' → xMet l E b NX yX4_product cX4_product 4 none (xR (d + 8)) [.ref (b + 990), .int a0] (cX E b M) none True (cX E b M')) (hR_X4_sum : ∀ (M : xm) (a0 : Int32) (M' : xm), R 0 M a0 0 = some M' → xMet l E b NX yX4_sum cX4_sum 4 none (xR (d + 8)) [.ref (b + 990), .int a0] (cX E b M) none True (cX E b M')) (M : xm) (a1 : Int32) {M' : xm} (hf : fb_X4_ask R M a1 = some M') :
    xMet l E b NX yX4_ask cX4_ask 2 none (xR (d + 9)) [.ref (b + 990), .int a1] (cX E b M) none True (cX E b M') := by
  refine xMet.ofW (own := RX4) (by decide) rfl (Nat.le_of_ble_eq_true rfl) ?_
  intro p e s m below meth c H locs ls C hm hl
  have hx := C.1.1
  have hb := C.1.2.1
  have hl : lv_has ls 2 [(0, .ref (b + 990)), (1, .int a1)] := hl
  unfold fb_X4_ask at hf
  refine lv_aload_n hx hb dX4_ask_0 rfl (lv_at hl 0 rfl) ?_
  refine lv_bipush (v := (18 : Int32)) hx hb dX4_ask_1 (by decide) ?_
  obtain ⟨v2, hq1, hf⟩ := xb1_e hf
  refine x_callVi (As := [.int (18 : Int32)]) (rest := []) C hm (c_X4_isNext l E b M (18 : Int32) hq1) rfl (cx_Reader (LX_reader 0 _ rfl)) tc_X4_isNext tm_RX4_58 ti_X4_isNext ts_X4_isNext tn_RX4 td_X4_isNext rfl rfl ⟨by show 2 + 1 ≤ d + 9; omega, by show 8 + (2 + 11) + 64 * 2 ≤ 64 * (d + 9); omega⟩ rfl hl.1 rfl (Nat.le_of_ble_eq_true rfl) ⟨Nat.zero_le _, Nat.zero_le _⟩ dX4_ask_3 (fun H locs hP3 hm => ?_)
  refine lv_if_ne (tgt := 17) hx hb dX4_ask_6 (by decide) (fun hc4 => ?_) (fun hc4 => ?_)
  rotate_left
  · have hf := xif_t hc4 hf
    refine lv_aload_n hx hb dX4_ask_9 rfl (lv_at hl 0 rfl) ?_
    refine lv_iload_n hx hb dX4_ask_10 rfl (lv_at hl 1 rfl) ?_
    obtain ⟨M16, hq17, hf⟩ := xb1_e hf
    refine x_callVv (As := [.int a1]) (rest := []) C hm (hR_X4_comparison M a1 _ hq17) rfl (cx_Reader (LX_reader 0 _ rfl)) tc_X4_comparison tm_RX4_192 ti_X4_comparison ts_X4_comparison tn_RX4 td_X4_comparison rfl rfl ⟨by show d + 8 + 1 ≤ d + 9; omega, by show 8 + (4 + 11) + 64 * (d + 8) ≤ 64 * (d + 9); omega⟩ rfl hl.1 rfl (Nat.le_of_ble_eq_true rfl) ⟨Nat.zero_le _, Nat.zero_le _⟩ dX4_ask_11 (fun H locs _ hm => ?_)
    refine lv_goto (tgt := 56) hx hb dX4_ask_14 (by decide) ?_
    cases hf
    exact x_vret C hm trivial dX4_ask_56
  have hf := xif_f hc4 hf
  refine lv_iload_n hx hb dX4_ask_17 rfl (lv_at hl 1 rfl) ?_
  refine lv_bipush (v := (8 : Int32)) hx hb dX4_ask_18 (by decide) ?_
  refine lv_icmp_lt (tgt := 31) hx hb dX4_ask_20 (by decide) (fun hc5 => ?_) (fun hc5 => ?_)
  rotate_left
  · have hf := xif_f hc5 hf
    refine lv_aload_n hx hb dX4_ask_23 rfl (lv_at hl 0 rfl) ?_
    refine lv_iconst (v := (3 : Int32)) hx hb dX4_ask_24 (by decide) ?_
    obtain ⟨M14, hq13, hf⟩ := xb1_e hf
    refine x_callVv (As := [.int (3 : Int32)]) (rest := []) C hm (c_X4_refuse l E b M (3 : Int32) hq13) rfl (cx_Reader (LX_reader 0 _ rfl)) tc_X4_refuse tm_RX4_114 ti_X4_refuse ts_X4_refuse tn_RX4 td_X4_refuse rfl rfl ⟨by show 1 + 1 ≤ d + 9; omega, by show 8 + (2 + 11) + 64 * 1 ≤ 64 * (d + 9); omega⟩ rfl hl.1 rfl (Nat.le_of_ble_eq_true rfl) ⟨Nat.zero_le _, Nat.zero_le _⟩ dX4_ask_25 (fun H locs hP15 hm => ?_)
    refine lv_goto (tgt := 56) hx hb dX4_ask_28 (by decide) ?_
    cases hf
    exact x_vret C hm trivial dX4_ask_56
  have hf := xif_t hc5 hf
  refine lv_aload_n hx hb dX4_ask_31 rfl (lv_at hl 0 rfl) ?_
  refine lv_dup hx hb dX4_ask_32 rfl ?_
  refine x_get C hm inX4 rfl 9 (by decide) tf_RX4_44 (cx_Reader (LX_reader 0 _ rfl)) rfl dX4_ask_33 ?_
  refine lv_iconst (v := (1 : Int32)) hx hb dX4_ask_36 (by decide) ?_
  refine lv_iadd hx hb dX4_ask_37 ?_
  obtain ⟨M6, eM6, hf⟩ := xlet_x hf
  refine x_put (cf' := cX E b M6) C hm inX4 tyX4 tyX4_ok nmX4 rfl 9 (by decide) tf_RX4_44 rfl rfl rfl (cx_Reader (LX_reader 0 _ rfl)) (Nat.le_of_ble_eq_true rfl) (by rw [eM6]; exact cu_Reader_9 (LX_reader 0 _ rfl)) (by rw [eM6]; exact cX_o) dX4_ask_38 (fun H locs hm => ?_)
  refine lv_aload_n hx hb dX4_ask_41 rfl (lv_at hl 0 rfl) ?_
  refine lv_iload_n hx hb dX4_ask_42 rfl (lv_at hl 1 rfl) ?_
  refine lv_iconst (v := (1 : Int32)) hx hb dX4_ask_43 (by decide) ?_
  refine lv_iadd hx hb dX4_ask_44 ?_
  obtain ⟨M7, hq8, hf⟩ := xb1_e hf
  refine x_callVv (As := [.int (a1 + (1 : Int32))]) (rest := []) C hm (hR_X4_ask M6 (a1 + (1 : Int32)) _ hq8) rfl (cx_Reader (LX_reader 0 _ rfl)) tc_X4_ask tm_RX4_189 ti_X4_ask ts_X4_ask tn_RX4 td_X4_ask rfl rfl ⟨by show d + 8 + 1 ≤ d + 9; omega, by show 8 + (2 + 11) + 64 * (d + 8) ≤ 64 * (d + 9); omega⟩ rfl hl.1 rfl (Nat.le_of_ble_eq_true rfl) ⟨Nat.zero_le _, Nat.zero_le _⟩ dX4_ask_45 (fun H locs _ hm => ?_)
  refine lv_aload_n hx hb dX4_ask_48 rfl (lv_at hl 0 rfl) ?_
  refine lv_bipush (v := (18 : Int32)) hx hb dX4_ask_49 (by decide) ?_
  refine lv_iconst (v := (0 : Int32)) hx hb dX4_ask_51 (by decide) ?_
  obtain ⟨v10, M11, hq9, hf⟩ := xb2_e hf
  refine x_callVi (As := [.int (18 : Int32), .int (0 : Int32)]) (rest := []) C hm (c_X4_emit l E b M7 (18 : Int32) (0 : Int32) hq9) rfl (cx_Reader (LX_reader 0 _ rfl)) tc_X4_emit tm_RX4_161 ti_X4_emit ts_X4_emit tn_RX4 td_X4_emit rfl rfl ⟨by show 2 + 1 ≤ d + 9; omega, by show 8 + (3 + 11) + 64 * 2 ≤ 64 * (d + 9); omega⟩ rfl hl.1 rfl (Nat.le_of_ble_eq_true rfl) ⟨Nat.zero_le _, Nat.zero_le _⟩ dX4_ask_52 (fun H locs hP12 hm => ?_)
  refine lv_pop hx hb dX4_ask_55 rfl ?_
  cases hf
  exact x_vret C hm trivial dX4_ask_56
/-! ColouredHeap$Reader.comparison(I)V -/
theorem dX4_comparison_0 : decode cX4_comparison 0 = .ok (.aload_n 0, 1) := by decide +kernel
theorem dX4_comparison_1 : decode cX4_comparison 1 = .ok (.iload_n 1, 1) := by decide +kernel
theorem dX4_comparison_2 : decode cX4_comparison 2 = .ok (.invokevirtual 142, 3) := by decide +kernel
theorem dX4_comparison_5 : decode cX4_comparison 5 = .ok (.aload_n 0, 1) := by decide +kernel
theorem dX4_comparison_6 : decode cX4_comparison 6 = .ok (.invokevirtual 111, 3) := by decide +kernel
theorem dX4_comparison_9 : decode cX4_comparison 9 = .ok (.istore_n 2, 1) := by decide +kernel
theorem dX4_comparison_10 : decode cX4_comparison 10 = .ok (.iload_n 2, 1) := by decide +kernel
theorem dX4_comparison_11 : decode cX4_comparison 11 = .ok (.bipush 27, 2) := by decide +kernel
theorem dX4_comparison_13 : decode cX4_comparison 13 = .ok (.if_icmp .lt 9, 3) := by decide +kernel
theorem dX4_comparison_16 : decode cX4_comparison 16 = .ok (.iload_n 2, 1) := by decide +kernel
theorem dX4_comparison_17 : decode cX4_comparison 17 = .ok (.bipush 30, 2) := by decide +kernel
theorem dX4_comparison_19 : decode cX4_comparison 19 = .ok (.if_icmp .le 15, 3) := by decide +kernel
theorem dX4_comparison_22 : decode cX4_comparison 22 = .ok (.iload_n 2, 1) := by decide +kernel
theorem dX4_comparison_23 : decode cX4_comparison 23 = .ok (.bipush 38, 2) := by decide +kernel
theorem dX4_comparison_25 : decode cX4_comparison 25 = .ok (.if_icmp .eq 9, 3) := by decide +kernel
theorem dX4_comparison_28 : decode cX4_comparison 28 = .ok (.iload_n 2, 1) := by decide +kernel
theorem dX4_comparison_29 : decode cX4_comparison 29 = .ok (.bipush 39, 2) := by decide +kernel
theorem dX4_comparison_31 : decode cX4_comparison 31 = .ok (.if_icmp .ne 7, 3) := by decide +kernel
theorem dX4_comparison_34 : decode cX4_comparison 34 = .ok (.iconst 1, 1) := by decide +kernel
theorem dX4_comparison_35 : decode cX4_comparison 35 = .ok (.goto 4, 3) := by decide +kernel
theorem dX4_comparison_38 : decode cX4_comparison 38 = .ok (.iconst 0, 1) := by decide +kernel
theorem dX4_comparison_39 : decode cX4_comparison 39 = .ok (.istore_n 3, 1) := by decide +kernel
theorem dX4_comparison_40 : decode cX4_comparison 40 = .ok (.iload_n 3, 1) := by decide +kernel
theorem dX4_comparison_41 : decode cX4_comparison 41 = .ok (.ifCond .eq 28, 3) := by decide +kernel
theorem dX4_comparison_44 : decode cX4_comparison 44 = .ok (.aload_n 0, 1) := by decide +kernel
theorem dX4_comparison_45 : decode cX4_comparison 45 = .ok (.dup, 1) := by decide +kernel
theorem dX4_comparison_46 : decode cX4_comparison 46 = .ok (.getfield 44, 3) := by decide +kernel
theorem dX4_comparison_49 : decode cX4_comparison 49 = .ok (.iconst 1, 1) := by decide +kernel
theorem dX4_comparison_50 : decode cX4_comparison 50 = .ok (.iadd, 1) := by decide +kernel
theorem dX4_comparison_51 : decode cX4_comparison 51 = .ok (.putfield 44, 3) := by decide +kernel
theorem dX4_comparison_54 : decode cX4_comparison 54 = .ok (.aload_n 0, 1) := by decide +kernel
theorem dX4_comparison_55 : decode cX4_comparison 55 = .ok (.iload_n 1, 1) := by decide +kernel
theorem dX4_comparison_56 : decode cX4_comparison 56 = .ok (.invokevirtual 142, 3) := by decide +kernel
theorem dX4_comparison_59 : decode cX4_comparison 59 = .ok (.aload_n 0, 1) := by decide +kernel
theorem dX4_comparison_60 : decode cX4_comparison 60 = .ok (.iload_n 2, 1) := by decide +kernel
theorem dX4_comparison_61 : decode cX4_comparison 61 = .ok (.iconst 0, 1) := by decide +kernel
theorem dX4_comparison_62 : decode cX4_comparison 62 = .ok (.invokevirtual 161, 3) := by decide +kernel
theorem dX4_comparison_65 : decode cX4_comparison 65 = .ok (.pop, 1) := by decide +kernel
theorem dX4_comparison_66 : decode cX4_comparison 66 = .ok (.goto 8, 3) := by decide +kernel
theorem dX4_comparison_69 : decode cX4_comparison 69 = .ok (.aload_n 0, 1) := by decide +kernel
theorem dX4_comparison_70 : decode cX4_comparison 70 = .ok (.iconst 1, 1) := by decide +kernel
theorem dX4_comparison_71 : decode cX4_comparison 71 = .ok (.invokevirtual 114, 3) := by decide +kernel
theorem dX4_comparison_74 : decode cX4_comparison 74 = .ok (.return_, 1) := by decide +kernel
def fb_X4_comparison (R : Nat → xm → Int32 → Int32 → Option xm) (M : xm) (a1 : Int32) : Option xm := xb1 (R 0 M a1 0) (fun M1 => xb1 (f_X4_nextKind M1) (fun v4 => xlet (fun (w6 : Int32) => (if w6 = 0 then xb1 (f_X4_refuse M1 (1 : Int32)) (fun M10 => some M10) else xlet (up2 M1 990 9 ((M1 990 9) + (1 : Int32))) (fun M12 => xb1 (R 0 M12 a1 0) (fun M13 => xb2 (f_X4_emit M13 v4 (0 : Int32)) (fun v16 M17 => some M17))))) (fun k7 => xlet ((k7 (1 : Int32))) (fun k19 => xlet ((if v4 = (38 : Int32) then k19 else (if v4 = (39 : Int32) then k19 else (k7 (0 : Int32))))) (fun k20 => (if v4 < (27 : Int32) then k20 else (if v4 ≤ (30 : Int32) then k19 else k20)))))))
set_option maxHeartbeats 4000000 in
set_option maxRecDepth 20000 in
theorem cb_X4_comparison (l : Launch) (E : xE) (b : Nat) (R : Nat → xm → Int32 → Int32 → Option xm) (d : Nat) (hR_X4_ask : ∀ (M : xm) (a0 : Int32) (M' : xm), R 7 M a0 0 = some M' → xMet l E b NX yX4_ask cX4_ask 2 none (xR (d + 8)) [.ref (b + 990), .int a0] (cX E b M) none True (cX E b M')) (hR_X4_both : ∀ (M : xm) (a0 : Int32) (M' : xm), R 6 M a0 0 = some M' → xMet l E b NX yX4_both cX4_both 3 none (xR (d + 8)) [.ref (b + 990), .int a0] (cX E b M) none True (cX E b M')) (hR_X4_choice : ∀ (M : xm) (a0 : Int32) (M' : xm), R 4 M a0 0 = some M' → xMet l E b NX yX4_choice cX4_choice 4 none (xR (d + 8)) [.ref (b + 990), .int a0] (cX E b M) none True (cX E b M')) (hR_X4_comparison : ∀ (M : xm) (a0 : Int32) (M' : xm), R 8 M a0 0 = some M' → xMet l E b NX yX4_comparison cX4_comparison 4 none (xR (d + 8)) [.ref (b + 990), .int a0] (cX E b M) none True (cX E b M')) (hR_X4_either : ∀ (M : xm) (a0 : Int32) (M' : xm), R 5 M a0 0 = some M' → xMet l E b NX yX4_either cX4_either 3 none (xR (d + 8)) [.ref (b + 990), .int a0] (cX E b M) none True (cX E b M')) (hR_X4_one : ∀ (M : xm) (a0 : Int32) (M' : xm), R 2 M a0 0 = some M' → xMet l E b NX yX4_one cX4_one 3 none (xR (d + 8)) [.ref (b + 990), .int a0] (cX E b M) none True (cX E b M')) (hR_X4_openedOne : ∀ (M : xm) (a0 : Int32) (a1 : Int32) (M' : xm), R 3 M a0 a1 = some M' → xMet l E b NX yX4_openedOne cX4_openedOne 3 none (xR (d + 8)) [.ref (b + 990), .int a0, .int a1] (cX E b M) none True (cX E b M')) (hR_X4_product : ∀ (M : xm) (a0 : Int32) (M' : xm), R 1 M a0 0 = some M' → xMet l E b NX yX4_product cX4_product 4 none (xR (d + 8)) [.ref (b + 990), .int a0] (cX E b M) none True (cX E b M')) (hR_X4_sum : ∀ (M : xm) (a0 : Int32) (M' : xm), R 0 M a0 0 = some M' → xMet l E b NX yX4_sum cX4_sum 4 none (xR (d + 8)) [.ref (b + 990), .int a0] (cX E b M) none True (cX E b M')) (M : xm) (a1 : Int32) {M' : xm} (hf : fb_X4_comparison R M a1 = some M') :
    xMet l E b NX yX4_comparison cX4_comparison 4 none (xR (d + 9)) [.ref (b + 990), .int a1] (cX E b M) none True (cX E b M') := by
  refine xMet.ofW (own := RX4) (by decide) rfl (Nat.le_of_ble_eq_true rfl) ?_
  intro p e s m below meth c H locs ls C hm hl
  have hx := C.1.1
  have hb := C.1.2.1
  have hl : lv_has ls 4 [(0, .ref (b + 990)), (1, .int a1)] := hl
  unfold fb_X4_comparison at hf
  refine lv_aload_n hx hb dX4_comparison_0 rfl (lv_at hl 0 rfl) ?_
  refine lv_iload_n hx hb dX4_comparison_1 rfl (lv_at hl 1 rfl) ?_
  obtain ⟨M1, hq2, hf⟩ := xb1_e hf
  refine x_callVv (As := [.int a1]) (rest := []) C hm (hR_X4_sum M a1 _ hq2) rfl (cx_Reader (LX_reader 0 _ rfl)) tc_X4_sum tm_RX4_142 ti_X4_sum ts_X4_sum tn_RX4 td_X4_sum rfl rfl ⟨by show d + 8 + 1 ≤ d + 9; omega, by show 8 + (4 + 11) + 64 * (d + 8) ≤ 64 * (d + 9); omega⟩ rfl hl.1 rfl (Nat.le_of_ble_eq_true rfl) ⟨Nat.zero_le _, Nat.zero_le _⟩ dX4_comparison_2 (fun H locs _ hm => ?_)
  refine lv_aload_n hx hb dX4_comparison_5 rfl (lv_at hl 0 rfl) ?_
  obtain ⟨v4, hq3, hf⟩ := xb1_e hf
  refine x_callVi (As := []) (rest := []) C hm (c_X4_nextKind l E b M1 hq3) rfl (cx_Reader (LX_reader 0 _ rfl)) tc_X4_nextKind tm_RX4_111 ti_X4_nextKind ts_X4_nextKind tn_RX4 td_X4_nextKind rfl rfl ⟨by show 1 + 1 ≤ d + 9; omega, by show 8 + (1 + 11) + 64 * 1 ≤ 64 * (d + 9); omega⟩ rfl hl.1 rfl (Nat.le_of_ble_eq_true rfl) ⟨Nat.zero_le _, Nat.zero_le _⟩ dX4_comparison_6 (fun H locs hP5 hm => ?_)
  refine lv_istore_n (lv' := [(2, .int v4), (0, .ref (b + 990)), (1, .int a1)]) hx hb dX4_comparison_9 rfl hl (by decide) rfl (fun ls hl => ?_)
  refine lv_iload_n hx hb dX4_comparison_10 rfl (lv_at hl 0 rfl) ?_
  refine lv_bipush (v := (27 : Int32)) hx hb dX4_comparison_11 (by decide) ?_
  obtain ⟨k7, ek7, hf⟩ := xlet_x hf
  have jk7 : ∀ (w6 : Int32) (H : Heap) (locs : List Loc) (ls : Array Slot), k7 w6 = some M' → xM E b NX (cX E b M1) s.heap H locs → lv_has ls 4 [(0, .ref (b + 990)), (1, .int a1), (2, .int v4)] → W p l e (xR (d + 9)) s m ([.ref (b + 990), .int a1] : List Value).toArray below meth c H locs 0 0 (MQ below (xQ E b NX none True (cX E b M')) ([.ref (b + 990), .int a1] : List Value).toArray s 0 0 (xA b NX)) (F0 m 39 ls [.int w6]) := by
    intro w6 H locs ls hf hm hl
    have hf := xap1 ek7 hf
    refine lv_istore_n (lv' := [(3, .int w6), (0, .ref (b + 990)), (1, .int a1), (2, .int v4)]) hx hb dX4_comparison_39 rfl hl (by decide) rfl (fun ls hl => ?_)
    refine lv_iload_n hx hb dX4_comparison_40 rfl (lv_at hl 0 rfl) ?_
    refine lv_if_eq (tgt := 69) hx hb dX4_comparison_41 (by decide) (fun hc8 => ?_) (fun hc8 => ?_)
    · have hf := xif_t hc8 hf
      refine lv_aload_n hx hb dX4_comparison_69 rfl (lv_at hl 1 rfl) ?_
      refine lv_iconst (v := (1 : Int32)) hx hb dX4_comparison_70 (by decide) ?_
      obtain ⟨M10, hq9, hf⟩ := xb1_e hf
      refine x_callVv (As := [.int (1 : Int32)]) (rest := []) C hm (c_X4_refuse l E b M1 (1 : Int32) hq9) rfl (cx_Reader (LX_reader 0 _ rfl)) tc_X4_refuse tm_RX4_114 ti_X4_refuse ts_X4_refuse tn_RX4 td_X4_refuse rfl rfl ⟨by show 1 + 1 ≤ d + 9; omega, by show 8 + (2 + 11) + 64 * 1 ≤ 64 * (d + 9); omega⟩ rfl hl.1 rfl (Nat.le_of_ble_eq_true rfl) ⟨Nat.zero_le _, Nat.zero_le _⟩ dX4_comparison_71 (fun H locs hP11 hm => ?_)
      cases hf
      exact x_vret C hm trivial dX4_comparison_74
    have hf := xif_f hc8 hf
    refine lv_aload_n hx hb dX4_comparison_44 rfl (lv_at hl 1 rfl) ?_
    refine lv_dup hx hb dX4_comparison_45 rfl ?_
    refine x_get C hm inX4 rfl 9 (by decide) tf_RX4_44 (cx_Reader (LX_reader 0 _ rfl)) rfl dX4_comparison_46 ?_
    refine lv_iconst (v := (1 : Int32)) hx hb dX4_comparison_49 (by decide) ?_
    refine lv_iadd hx hb dX4_comparison_50 ?_
    obtain ⟨M12, eM12, hf⟩ := xlet_x hf
    refine x_put (cf' := cX E b M12) C hm inX4 tyX4 tyX4_ok nmX4 rfl 9 (by decide) tf_RX4_44 rfl rfl rfl (cx_Reader (LX_reader 0 _ rfl)) (Nat.le_of_ble_eq_true rfl) (by rw [eM12]; exact cu_Reader_9 (LX_reader 0 _ rfl)) (by rw [eM12]; exact cX_o) dX4_comparison_51 (fun H locs hm => ?_)
    refine lv_aload_n hx hb dX4_comparison_54 rfl (lv_at hl 1 rfl) ?_
    refine lv_iload_n hx hb dX4_comparison_55 rfl (lv_at hl 2 rfl) ?_
    obtain ⟨M13, hq14, hf⟩ := xb1_e hf
    refine x_callVv (As := [.int a1]) (rest := []) C hm (hR_X4_sum M12 a1 _ hq14) rfl (cx_Reader (LX_reader 0 _ rfl)) tc_X4_sum tm_RX4_142 ti_X4_sum ts_X4_sum tn_RX4 td_X4_sum rfl rfl ⟨by show d + 8 + 1 ≤ d + 9; omega, by show 8 + (4 + 11) + 64 * (d + 8) ≤ 64 * (d + 9); omega⟩ rfl hl.1 rfl (Nat.le_of_ble_eq_true rfl) ⟨Nat.zero_le _, Nat.zero_le _⟩ dX4_comparison_56 (fun H locs _ hm => ?_)
    refine lv_aload_n hx hb dX4_comparison_59 rfl (lv_at hl 1 rfl) ?_
    refine lv_iload_n hx hb dX4_comparison_60 rfl (lv_at hl 3 rfl) ?_
    refine lv_iconst (v := (0 : Int32)) hx hb dX4_comparison_61 (by decide) ?_
    obtain ⟨v16, M17, hq15, hf⟩ := xb2_e hf
    refine x_callVi (As := [.int v4, .int (0 : Int32)]) (rest := []) C hm (c_X4_emit l E b M13 v4 (0 : Int32) hq15) rfl (cx_Reader (LX_reader 0 _ rfl)) tc_X4_emit tm_RX4_161 ti_X4_emit ts_X4_emit tn_RX4 td_X4_emit rfl rfl ⟨by show 2 + 1 ≤ d + 9; omega, by show 8 + (3 + 11) + 64 * 2 ≤ 64 * (d + 9); omega⟩ rfl hl.1 rfl (Nat.le_of_ble_eq_true rfl) ⟨Nat.zero_le _, Nat.zero_le _⟩ dX4_comparison_62 (fun H locs hP18 hm => ?_)
    refine lv_pop hx hb dX4_comparison_65 rfl ?_
    refine lv_goto (tgt := 74) hx hb dX4_comparison_66 (by decide) ?_
    cases hf
    exact x_vret C hm trivial dX4_comparison_74
  obtain ⟨k19, ek19, hf⟩ := xlet_x hf
  have jk19 : ∀  (H : Heap) (locs : List Loc) (ls : Array Slot), k19 = some M' → xM E b NX (cX E b M1) s.heap H locs → lv_has ls 4 [(0, .ref (b + 990)), (1, .int a1), (2, .int v4)] → W p l e (xR (d + 9)) s m ([.ref (b + 990), .int a1] : List Value).toArray below meth c H locs 0 0 (MQ below (xQ E b NX none True (cX E b M')) ([.ref (b + 990), .int a1] : List Value).toArray s 0 0 (xA b NX)) (F0 m 34 ls []) := by
    intro  H locs ls hf hm hl
    have hf := xap0 ek19 hf
    refine lv_iconst (v := (1 : Int32)) hx hb dX4_comparison_34 (by decide) ?_
    refine lv_goto (tgt := 39) hx hb dX4_comparison_35 (by decide) ?_
    exact jk7 (1 : Int32) H locs ls  hf hm (lv_sub hl [0, 1, 2] rfl)
  obtain ⟨k20, ek20, hf⟩ := xlet_x hf
  have jk20 : ∀  (H : Heap) (locs : List Loc) (ls : Array Slot), k20 = some M' → xM E b NX (cX E b M1) s.heap H locs → lv_has ls 4 [(0, .ref (b + 990)), (1, .int a1), (2, .int v4)] → W p l e (xR (d + 9)) s m ([.ref (b + 990), .int a1] : List Value).toArray below meth c H locs 0 0 (MQ below (xQ E b NX none True (cX E b M')) ([.ref (b + 990), .int a1] : List Value).toArray s 0 0 (xA b NX)) (F0 m 22 ls []) := by
    intro  H locs ls hf hm hl
    have hf := xap0 ek20 hf
    refine lv_iload_n hx hb dX4_comparison_22 rfl (lv_at hl 2 rfl) ?_
    refine lv_bipush (v := (38 : Int32)) hx hb dX4_comparison_23 (by decide) ?_
    refine lv_icmp_eq (tgt := 34) hx hb dX4_comparison_25 (by decide) (fun hc21 => ?_) (fun hc21 => ?_)
    · have hf := xif_t hc21 hf
      exact jk19  H locs ls  hf hm (lv_sub hl [0, 1, 2] rfl)
    have hf := xif_f hc21 hf
    refine lv_iload_n hx hb dX4_comparison_28 rfl (lv_at hl 2 rfl) ?_
    refine lv_bipush (v := (39 : Int32)) hx hb dX4_comparison_29 (by decide) ?_
    refine lv_icmp_ne (tgt := 38) hx hb dX4_comparison_31 (by decide) (fun hc22 => ?_) (fun hc22 => ?_)
    rotate_left
    · have hf := xif_t hc22 hf
      exact jk19  H locs ls  hf hm (lv_sub hl [0, 1, 2] rfl)
    have hf := xif_f hc22 hf
    refine lv_iconst (v := (0 : Int32)) hx hb dX4_comparison_38 (by decide) ?_
    exact jk7 (0 : Int32) H locs ls  hf hm (lv_sub hl [0, 1, 2] rfl)
  refine lv_icmp_lt (tgt := 22) hx hb dX4_comparison_13 (by decide) (fun hc23 => ?_) (fun hc23 => ?_)
  · have hf := xif_t hc23 hf
    exact jk20  H locs ls  hf hm (lv_sub hl [1, 2, 0] rfl)
  have hf := xif_f hc23 hf
  refine lv_iload_n hx hb dX4_comparison_16 rfl (lv_at hl 0 rfl) ?_
  refine lv_bipush (v := (30 : Int32)) hx hb dX4_comparison_17 (by decide) ?_
  refine lv_icmp_le (tgt := 34) hx hb dX4_comparison_19 (by decide) (fun hc24 => ?_) (fun hc24 => ?_)
  · have hf := xif_t hc24 hf
    exact jk19  H locs ls  hf hm (lv_sub hl [1, 2, 0] rfl)
  have hf := xif_f hc24 hf
  exact jk20  H locs ls  hf hm (lv_sub hl [1, 2, 0] rfl)
/-- the reading of sums: the group by its depth -/
def f_X4_rec : Nat → Nat → xm → Int32 → Int32 → Option xm
  | 0, _, _, _, _ => none
  | d + 1, tag, M, a, a2 => if tag = 0 then fb_X4_sum (f_X4_rec d) M a else if tag = 1 then fb_X4_product (f_X4_rec d) M a else if tag = 2 then fb_X4_one (f_X4_rec d) M a else if tag = 3 then fb_X4_openedOne (f_X4_rec d) M a a2 else if tag = 4 then fb_X4_choice (f_X4_rec d) M a else if tag = 5 then fb_X4_either (f_X4_rec d) M a else if tag = 6 then fb_X4_both (f_X4_rec d) M a else if tag = 7 then fb_X4_ask (f_X4_rec d) M a else if tag = 8 then fb_X4_comparison (f_X4_rec d) M a else none
theorem c_X4_rec (l : Launch) (E : xE) (b : Nat) : ∀ d : Nat, (∀ (M : xm) (a0 : Int32) (M' : xm), f_X4_rec d 7 M a0 0 = some M' → xMet l E b NX yX4_ask cX4_ask 2 none (xR (d + 8)) [.ref (b + 990), .int a0] (cX E b M) none True (cX E b M')) ∧ (∀ (M : xm) (a0 : Int32) (M' : xm), f_X4_rec d 6 M a0 0 = some M' → xMet l E b NX yX4_both cX4_both 3 none (xR (d + 8)) [.ref (b + 990), .int a0] (cX E b M) none True (cX E b M')) ∧ (∀ (M : xm) (a0 : Int32) (M' : xm), f_X4_rec d 4 M a0 0 = some M' → xMet l E b NX yX4_choice cX4_choice 4 none (xR (d + 8)) [.ref (b + 990), .int a0] (cX E b M) none True (cX E b M')) ∧ (∀ (M : xm) (a0 : Int32) (M' : xm), f_X4_rec d 8 M a0 0 = some M' → xMet l E b NX yX4_comparison cX4_comparison 4 none (xR (d + 8)) [.ref (b + 990), .int a0] (cX E b M) none True (cX E b M')) ∧ (∀ (M : xm) (a0 : Int32) (M' : xm), f_X4_rec d 5 M a0 0 = some M' → xMet l E b NX yX4_either cX4_either 3 none (xR (d + 8)) [.ref (b + 990), .int a0] (cX E b M) none True (cX E b M')) ∧ (∀ (M : xm) (a0 : Int32) (M' : xm), f_X4_rec d 2 M a0 0 = some M' → xMet l E b NX yX4_one cX4_one 3 none (xR (d + 8)) [.ref (b + 990), .int a0] (cX E b M) none True (cX E b M')) ∧ (∀ (M : xm) (a0 : Int32) (a1 : Int32) (M' : xm), f_X4_rec d 3 M a0 a1 = some M' → xMet l E b NX yX4_openedOne cX4_openedOne 3 none (xR (d + 8)) [.ref (b + 990), .int a0, .int a1] (cX E b M) none True (cX E b M')) ∧ (∀ (M : xm) (a0 : Int32) (M' : xm), f_X4_rec d 1 M a0 0 = some M' → xMet l E b NX yX4_product cX4_product 4 none (xR (d + 8)) [.ref (b + 990), .int a0] (cX E b M) none True (cX E b M')) ∧ (∀ (M : xm) (a0 : Int32) (M' : xm), f_X4_rec d 0 M a0 0 = some M' → xMet l E b NX yX4_sum cX4_sum 4 none (xR (d + 8)) [.ref (b + 990), .int a0] (cX E b M) none True (cX E b M'))
  | 0 => ⟨(fun _ _ _ hf => by rw [f_X4_rec] at hf; cases hf), (fun _ _ _ hf => by rw [f_X4_rec] at hf; cases hf), (fun _ _ _ hf => by rw [f_X4_rec] at hf; cases hf), (fun _ _ _ hf => by rw [f_X4_rec] at hf; cases hf), (fun _ _ _ hf => by rw [f_X4_rec] at hf; cases hf), (fun _ _ _ hf => by rw [f_X4_rec] at hf; cases hf), (fun _ _ _ _ hf => by rw [f_X4_rec] at hf; cases hf), (fun _ _ _ hf => by rw [f_X4_rec] at hf; cases hf), (fun _ _ _ hf => by rw [f_X4_rec] at hf; cases hf)⟩
  | d + 1 => by
    obtain ⟨hR_X4_ask, hR_X4_both, hR_X4_choice, hR_X4_comparison, hR_X4_either, hR_X4_one, hR_X4_openedOne, hR_X4_product, hR_X4_sum⟩ := c_X4_rec l E b d
    exact ⟨fun M a0 M' hf => cb_X4_ask l E b (f_X4_rec d) d hR_X4_ask hR_X4_both hR_X4_choice hR_X4_comparison hR_X4_either hR_X4_one hR_X4_openedOne hR_X4_product hR_X4_sum M a0 (by rw [f_X4_rec] at hf; exact hf),
      fun M a0 M' hf => cb_X4_both l E b (f_X4_rec d) d hR_X4_ask hR_X4_both hR_X4_choice hR_X4_comparison hR_X4_either hR_X4_one hR_X4_openedOne hR_X4_product hR_X4_sum M a0 (by rw [f_X4_rec] at hf; exact hf),
      fun M a0 M' hf => cb_X4_choice l E b (f_X4_rec d) d hR_X4_ask hR_X4_both hR_X4_choice hR_X4_comparison hR_X4_either hR_X4_one hR_X4_openedOne hR_X4_product hR_X4_sum M a0 (by rw [f_X4_rec] at hf; exact hf),
      fun M a0 M' hf => cb_X4_comparison l E b (f_X4_rec d) d hR_X4_ask hR_X4_both hR_X4_choice hR_X4_comparison hR_X4_either hR_X4_one hR_X4_openedOne hR_X4_product hR_X4_sum M a0 (by rw [f_X4_rec] at hf; exact hf),
      fun M a0 M' hf => cb_X4_either l E b (f_X4_rec d) d hR_X4_ask hR_X4_both hR_X4_choice hR_X4_comparison hR_X4_either hR_X4_one hR_X4_openedOne hR_X4_product hR_X4_sum M a0 (by rw [f_X4_rec] at hf; exact hf),
      fun M a0 M' hf => cb_X4_one l E b (f_X4_rec d) d hR_X4_ask hR_X4_both hR_X4_choice hR_X4_comparison hR_X4_either hR_X4_one hR_X4_openedOne hR_X4_product hR_X4_sum M a0 (by rw [f_X4_rec] at hf; exact hf),
      fun M a0 a1 M' hf => cb_X4_openedOne l E b (f_X4_rec d) d hR_X4_ask hR_X4_both hR_X4_choice hR_X4_comparison hR_X4_either hR_X4_one hR_X4_openedOne hR_X4_product hR_X4_sum M a0 a1 (by rw [f_X4_rec] at hf; exact hf),
      fun M a0 M' hf => cb_X4_product l E b (f_X4_rec d) d hR_X4_ask hR_X4_both hR_X4_choice hR_X4_comparison hR_X4_either hR_X4_one hR_X4_openedOne hR_X4_product hR_X4_sum M a0 (by rw [f_X4_rec] at hf; exact hf),
      fun M a0 M' hf => cb_X4_sum l E b (f_X4_rec d) d hR_X4_ask hR_X4_both hR_X4_choice hR_X4_comparison hR_X4_either hR_X4_one hR_X4_openedOne hR_X4_product hR_X4_sum M a0 (by rw [f_X4_rec] at hf; exact hf)⟩
def f_X4_sum (M : xm) (a1 : Int32) : Option xm := f_X4_rec 200 0 M a1 0
theorem c_X4_sum (l : Launch) (E : xE) (b : Nat) (M : xm) (a1 : Int32) {M' : xm} (hf : f_X4_sum M a1 = some M') : xMet l E b NX yX4_sum cX4_sum 4 none (xR 208) [.ref (b + 990), .int a1] (cX E b M) none True (cX E b M') := (c_X4_rec l E b 200).2.2.2.2.2.2.2.2 M a1 M' hf
def f_X4_product (M : xm) (a1 : Int32) : Option xm := f_X4_rec 200 1 M a1 0
theorem c_X4_product (l : Launch) (E : xE) (b : Nat) (M : xm) (a1 : Int32) {M' : xm} (hf : f_X4_product M a1 = some M') : xMet l E b NX yX4_product cX4_product 4 none (xR 208) [.ref (b + 990), .int a1] (cX E b M) none True (cX E b M') := (c_X4_rec l E b 200).2.2.2.2.2.2.2.1 M a1 M' hf
def f_X4_one (M : xm) (a1 : Int32) : Option xm := f_X4_rec 200 2 M a1 0
theorem c_X4_one (l : Launch) (E : xE) (b : Nat) (M : xm) (a1 : Int32) {M' : xm} (hf : f_X4_one M a1 = some M') : xMet l E b NX yX4_one cX4_one 3 none (xR 208) [.ref (b + 990), .int a1] (cX E b M) none True (cX E b M') := (c_X4_rec l E b 200).2.2.2.2.2.1 M a1 M' hf
def f_X4_openedOne (M : xm) (a1 : Int32) (a2 : Int32) : Option xm := f_X4_rec 200 3 M a1 a2
theorem c_X4_openedOne (l : Launch) (E : xE) (b : Nat) (M : xm) (a1 : Int32) (a2 : Int32) {M' : xm} (hf : f_X4_openedOne M a1 a2 = some M') : xMet l E b NX yX4_openedOne cX4_openedOne 3 none (xR 208) [.ref (b + 990), .int a1, .int a2] (cX E b M) none True (cX E b M') := (c_X4_rec l E b 200).2.2.2.2.2.2.1 M a1 a2 M' hf
def f_X4_choice (M : xm) (a1 : Int32) : Option xm := f_X4_rec 200 4 M a1 0
theorem c_X4_choice (l : Launch) (E : xE) (b : Nat) (M : xm) (a1 : Int32) {M' : xm} (hf : f_X4_choice M a1 = some M') : xMet l E b NX yX4_choice cX4_choice 4 none (xR 208) [.ref (b + 990), .int a1] (cX E b M) none True (cX E b M') := (c_X4_rec l E b 200).2.2.1 M a1 M' hf
def f_X4_either (M : xm) (a1 : Int32) : Option xm := f_X4_rec 200 5 M a1 0
theorem c_X4_either (l : Launch) (E : xE) (b : Nat) (M : xm) (a1 : Int32) {M' : xm} (hf : f_X4_either M a1 = some M') : xMet l E b NX yX4_either cX4_either 3 none (xR 208) [.ref (b + 990), .int a1] (cX E b M) none True (cX E b M') := (c_X4_rec l E b 200).2.2.2.2.1 M a1 M' hf
def f_X4_both (M : xm) (a1 : Int32) : Option xm := f_X4_rec 200 6 M a1 0
theorem c_X4_both (l : Launch) (E : xE) (b : Nat) (M : xm) (a1 : Int32) {M' : xm} (hf : f_X4_both M a1 = some M') : xMet l E b NX yX4_both cX4_both 3 none (xR 208) [.ref (b + 990), .int a1] (cX E b M) none True (cX E b M') := (c_X4_rec l E b 200).2.1 M a1 M' hf
def f_X4_ask (M : xm) (a1 : Int32) : Option xm := f_X4_rec 200 7 M a1 0
theorem c_X4_ask (l : Launch) (E : xE) (b : Nat) (M : xm) (a1 : Int32) {M' : xm} (hf : f_X4_ask M a1 = some M') : xMet l E b NX yX4_ask cX4_ask 2 none (xR 208) [.ref (b + 990), .int a1] (cX E b M) none True (cX E b M') := (c_X4_rec l E b 200).1 M a1 M' hf
def f_X4_comparison (M : xm) (a1 : Int32) : Option xm := f_X4_rec 200 8 M a1 0
theorem c_X4_comparison (l : Launch) (E : xE) (b : Nat) (M : xm) (a1 : Int32) {M' : xm} (hf : f_X4_comparison M a1 = some M') : xMet l E b NX yX4_comparison cX4_comparison 4 none (xR 208) [.ref (b + 990), .int a1] (cX E b M) none True (cX E b M') := (c_X4_rec l E b 200).2.2.2.1 M a1 M' hf
