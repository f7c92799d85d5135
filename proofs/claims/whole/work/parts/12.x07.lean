/-! ColouredHeap$Survey.take(LColouredHeap$Heap;I)V -/
theorem dX6_take_0 : decode cX6_take 0 = .ok (.aload_n 0, 1) := by decide +kernel
theorem dX6_take_1 : decode cX6_take 1 = .ok (.getfield 9, 3) := by decide +kernel
theorem dX6_take_4 : decode cX6_take 4 = .ok (.iconst (-1), 1) := by decide +kernel
theorem dX6_take_5 : decode cX6_take 5 = .ok (.invokestatic 21, 3) := by decide +kernel
theorem dX6_take_8 : decode cX6_take 8 = .ok (.aload_n 0, 1) := by decide +kernel
theorem dX6_take_9 : decode cX6_take 9 = .ok (.iconst 0, 1) := by decide +kernel
theorem dX6_take_10 : decode cX6_take 10 = .ok (.putfield 27, 3) := by decide +kernel
theorem dX6_take_13 : decode cX6_take 13 = .ok (.aload_n 0, 1) := by decide +kernel
theorem dX6_take_14 : decode cX6_take 14 = .ok (.iconst 0, 1) := by decide +kernel
theorem dX6_take_15 : decode cX6_take 15 = .ok (.putfield 31, 3) := by decide +kernel
theorem dX6_take_18 : decode cX6_take 18 = .ok (.aload_n 0, 1) := by decide +kernel
theorem dX6_take_19 : decode cX6_take 19 = .ok (.iconst 0, 1) := by decide +kernel
theorem dX6_take_20 : decode cX6_take 20 = .ok (.putfield 34, 3) := by decide +kernel
theorem dX6_take_23 : decode cX6_take 23 = .ok (.aload_n 0, 1) := by decide +kernel
theorem dX6_take_24 : decode cX6_take 24 = .ok (.iconst 1, 1) := by decide +kernel
theorem dX6_take_25 : decode cX6_take 25 = .ok (.putfield 37, 3) := by decide +kernel
theorem dX6_take_28 : decode cX6_take 28 = .ok (.iconst 0, 1) := by decide +kernel
theorem dX6_take_29 : decode cX6_take 29 = .ok (.istore_n 3, 1) := by decide +kernel
theorem dX6_take_30 : decode cX6_take 30 = .ok (.iload_n 3, 1) := by decide +kernel
theorem dX6_take_31 : decode cX6_take 31 = .ok (.bipush 6, 2) := by decide +kernel
theorem dX6_take_33 : decode cX6_take 33 = .ok (.if_icmp .ge 22, 3) := by decide +kernel
theorem dX6_take_36 : decode cX6_take 36 = .ok (.aload_n 0, 1) := by decide +kernel
theorem dX6_take_37 : decode cX6_take 37 = .ok (.aload_n 1, 1) := by decide +kernel
theorem dX6_take_38 : decode cX6_take 38 = .ok (.aload_n 1, 1) := by decide +kernel
theorem dX6_take_39 : decode cX6_take 39 = .ok (.getfield 41, 3) := by decide +kernel
theorem dX6_take_42 : decode cX6_take 42 = .ok (.iload_n 3, 1) := by decide +kernel
theorem dX6_take_43 : decode cX6_take 43 = .ok (.iaload, 1) := by decide +kernel
theorem dX6_take_44 : decode cX6_take 44 = .ok (.iconst 0, 1) := by decide +kernel
theorem dX6_take_45 : decode cX6_take 45 = .ok (.iload_n 2, 1) := by decide +kernel
theorem dX6_take_46 : decode cX6_take 46 = .ok (.invokevirtual 46, 3) := by decide +kernel
theorem dX6_take_49 : decode cX6_take 49 = .ok (.iinc 3 1, 3) := by decide +kernel
theorem dX6_take_52 : decode cX6_take 52 = .ok (.goto (-22), 3) := by decide +kernel
theorem dX6_take_55 : decode cX6_take 55 = .ok (.iconst 0, 1) := by decide +kernel
theorem dX6_take_56 : decode cX6_take 56 = .ok (.istore_n 3, 1) := by decide +kernel
theorem dX6_take_57 : decode cX6_take 57 = .ok (.iload_n 3, 1) := by decide +kernel
theorem dX6_take_58 : decode cX6_take 58 = .ok (.aload_n 0, 1) := by decide +kernel
theorem dX6_take_59 : decode cX6_take 59 = .ok (.getfield 27, 3) := by decide +kernel
theorem dX6_take_62 : decode cX6_take 62 = .ok (.if_icmp .ge 72, 3) := by decide +kernel
theorem dX6_take_65 : decode cX6_take 65 = .ok (.iload_n 3, 1) := by decide +kernel
theorem dX6_take_66 : decode cX6_take 66 = .ok (.bipush 64, 2) := by decide +kernel
theorem dX6_take_68 : decode cX6_take 68 = .ok (.if_icmp .ge 66, 3) := by decide +kernel
theorem dX6_take_71 : decode cX6_take 71 = .ok (.aload_n 0, 1) := by decide +kernel
theorem dX6_take_72 : decode cX6_take 72 = .ok (.getfield 15, 3) := by decide +kernel
theorem dX6_take_75 : decode cX6_take 75 = .ok (.iload_n 3, 1) := by decide +kernel
theorem dX6_take_76 : decode cX6_take 76 = .ok (.iaload, 1) := by decide +kernel
theorem dX6_take_77 : decode cX6_take 77 = .ok (.istore 4, 2) := by decide +kernel
theorem dX6_take_79 : decode cX6_take 79 = .ok (.aload_n 1, 1) := by decide +kernel
theorem dX6_take_80 : decode cX6_take 80 = .ok (.iload 4, 2) := by decide +kernel
theorem dX6_take_82 : decode cX6_take 82 = .ok (.invokevirtual 50, 3) := by decide +kernel
theorem dX6_take_85 : decode cX6_take 85 = .ok (.iconst 1, 1) := by decide +kernel
theorem dX6_take_86 : decode cX6_take 86 = .ok (.isub, 1) := by decide +kernel
theorem dX6_take_87 : decode cX6_take 87 = .ok (.istore 5, 2) := by decide +kernel
theorem dX6_take_89 : decode cX6_take 89 = .ok (.iconst 0, 1) := by decide +kernel
theorem dX6_take_90 : decode cX6_take 90 = .ok (.istore 6, 2) := by decide +kernel
theorem dX6_take_92 : decode cX6_take 92 = .ok (.iload 6, 2) := by decide +kernel
theorem dX6_take_94 : decode cX6_take 94 = .ok (.iload 5, 2) := by decide +kernel
theorem dX6_take_96 : decode cX6_take 96 = .ok (.if_icmp .ge 32, 3) := by decide +kernel
theorem dX6_take_99 : decode cX6_take 99 = .ok (.aload_n 0, 1) := by decide +kernel
theorem dX6_take_100 : decode cX6_take 100 = .ok (.aload_n 1, 1) := by decide +kernel
theorem dX6_take_101 : decode cX6_take 101 = .ok (.aload_n 1, 1) := by decide +kernel
theorem dX6_take_102 : decode cX6_take 102 = .ok (.iload 4, 2) := by decide +kernel
theorem dX6_take_104 : decode cX6_take 104 = .ok (.iload 6, 2) := by decide +kernel
theorem dX6_take_106 : decode cX6_take 106 = .ok (.invokevirtual 54, 3) := by decide +kernel
theorem dX6_take_109 : decode cX6_take 109 = .ok (.aload_n 0, 1) := by decide +kernel
theorem dX6_take_110 : decode cX6_take 110 = .ok (.getfield 9, 3) := by decide +kernel
theorem dX6_take_113 : decode cX6_take 113 = .ok (.iload 4, 2) := by decide +kernel
theorem dX6_take_115 : decode cX6_take 115 = .ok (.iaload, 1) := by decide +kernel
theorem dX6_take_116 : decode cX6_take 116 = .ok (.iconst 1, 1) := by decide +kernel
theorem dX6_take_117 : decode cX6_take 117 = .ok (.iadd, 1) := by decide +kernel
theorem dX6_take_118 : decode cX6_take 118 = .ok (.iload_n 2, 1) := by decide +kernel
theorem dX6_take_119 : decode cX6_take 119 = .ok (.invokevirtual 46, 3) := by decide +kernel
theorem dX6_take_122 : decode cX6_take 122 = .ok (.iinc 6 1, 3) := by decide +kernel
theorem dX6_take_125 : decode cX6_take 125 = .ok (.goto (-33), 3) := by decide +kernel
theorem dX6_take_128 : decode cX6_take 128 = .ok (.iinc 3 1, 3) := by decide +kernel
theorem dX6_take_131 : decode cX6_take 131 = .ok (.goto (-74), 3) := by decide +kernel
theorem dX6_take_134 : decode cX6_take 134 = .ok (.return_, 1) := by decide +kernel
def g_X6_take_30 (o8 : Nat) (x9 : Int32) : Nat → xm → Int32 → Option ((xm))
  | 0, _, _ => none
  | n + 1, M11, x10 => (if (6 : Int32) ≤ x10 then some (M11) else if xin x10 6 = true then xb1 (f_X6_follow o8 M11 (M11 (o8 + 8) (Int32.toNatClampNeg x10)) (0 : Int32) x9) (fun M16 => xlet (x10 + (1 : Int32)) (fun v18 => g_X6_take_30 o8 x9 n M16 v18)) else none)
def g_X6_take_92 (o33 : Nat) (x34 : Int32) (x35 : Int32) (x36 : Int32) (x37 : Int32) : Nat → xm → Int32 → Option ((xm))
  | 0, _, _ => none
  | n + 1, M39, x38 => (if x37 ≤ x38 then some (M39) else xb1 (f_X1_fieldOf o33 M39 x36 x38) (fun v43 => if xin x36 64 = true then xb1 (f_X6_follow o33 M39 v43 ((M39 (986 + 1) (Int32.toNatClampNeg x36)) + (1 : Int32)) x34) (fun M47 => xlet (x38 + (1 : Int32)) (fun v49 => g_X6_take_92 o33 x34 x35 x36 x37 n M47 v49)) else none))
def g_X6_take_57 (o20 : Nat) (x21 : Int32) : Nat → xm → Int32 → Option ((xm))
  | 0, _, _ => none
  | n + 1, M23, x22 => (if (M23 986 3) ≤ x22 then some (M23) else (if (64 : Int32) ≤ x22 then some (M23) else if xin x22 64 = true then xlet (M23 (986 + 2) (Int32.toNatClampNeg x22)) (fun v28 => xb1 (f_X1_sizeAt o20 M23 v28) (fun v30 => xlet (v30 - (1 : Int32)) (fun v32 => xb1 (g_X6_take_92 o20 x21 x22 v28 v32 xfuel M23 (0 : Int32)) (fun M50 => xlet (x22 + (1 : Int32)) (fun v51 => g_X6_take_57 o20 x21 n M50 v51))))) else none))
def f_X6_take (u1 : Nat) (M : xm) (a2 : Int32) : Option (xm) := xb1 (f_J7_fill_53178 (986 + 1) 64 M (-1 : Int32)) (fun M2 => xlet (up2 M2 986 3 (0 : Int32)) (fun M4 => xlet (up2 M4 986 4 (0 : Int32)) (fun M5 => xlet (up2 M5 986 5 (0 : Int32)) (fun M6 => xlet (up2 M6 986 6 (1 : Int32)) (fun M7 => xb1 (g_X6_take_30 u1 a2 xfuel M7 (0 : Int32)) (fun M19 => xb1 (g_X6_take_57 u1 a2 xfuel M19 (0 : Int32)) (fun M52 => some M52)))))))
set_option maxHeartbeats 4000000 in
set_option maxRecDepth 20000 in
theorem j_X6_take_30 {p : Program} {l : Launch} {e : Env} {s : State} {m : MethodId} {args : Array Value} {below : List Frame} {meth : Method} {c : Code} {Q : State → Prop} {E : xE} {b : Nat} (C : xC p s m args meth c cX6_take 7 RX6 none E b) {o8 : Nat} (L_o8 : lat o8 pHeap) (x9 : Int32) {y12 : xm}
    (kx0 : ∀ (H : Heap) (locs : List Loc) (ls : Array Slot), xM E b NX (cX E b y12) s.heap H locs → lv_has ls 7 [(0, .ref (b + 986)), (1, .ref (b + o8)), (2, .int x9)] → W p l e (xR 4) s m args below meth c H locs 0 0 Q (F0 m 55 ls [])) :
    ∀ (n : Nat) (M11 : xm) (x10 : Int32) (H : Heap) (locs : List Loc) (ls : Array Slot), g_X6_take_30 o8 x9 n M11 x10 = some y12 → xM E b NX (cX E b M11) s.heap H locs → lv_has ls 7 [(0, .ref (b + 986)), (1, .ref (b + o8)), (2, .int x9), (3, .int x10)] → W p l e (xR 4) s m args below meth c H locs 0 0 Q (F0 m 30 ls []) := by
  have hx := C.1.1
  have hb := C.1.2.1
  intro n
  induction n with
  | zero =>
    intro M11 x10 H locs ls hf hm hl
    rw [g_X6_take_30] at hf
    cases hf
  | succ n ih =>
    intro M11 x10 H locs ls hf hm hl
    rw [g_X6_take_30] at hf
    refine lv_iload_n hx hb dX6_take_30 rfl (lv_at hl 3 rfl) ?_
    refine lv_bipush (v := (6 : Int32)) hx hb dX6_take_31 (by decide) ?_
    refine lv_icmp_ge (tgt := 55) hx hb dX6_take_33 (by decide) (fun hc13 => ?_) (fun hc13 => ?_)
    · have hf := xif_t hc13 hf
      cases hf
      exact kx0 H locs ls hm (lv_sub hl [0, 1, 2] rfl)
    have hf := xif_f hc13 hf
    refine lv_aload_n hx hb dX6_take_36 rfl (lv_at hl 0 rfl) ?_
    refine lv_aload_n hx hb dX6_take_37 rfl (lv_at hl 1 rfl) ?_
    refine lv_aload_n hx hb dX6_take_38 rfl (lv_at hl 1 rfl) ?_
    refine x_get C hm inX1 rfl 7 (by decide) tf_RX6_41 (cx_Heap (L_o8 0 _ rfl)) rfl dX6_take_39 ?_
    refine lv_iload_n hx hb dX6_take_42 rfl (lv_at hl 3 rfl) ?_
    obtain ⟨hi14, hf⟩ := xif_s hf
    refine x_iald (j := (Int32.toNatClampNeg x10)) C hm (cx_I (L_o8 8 _ rfl)) hi14 dX6_take_43 rfl ?_
    refine lv_iconst (v := (0 : Int32)) hx hb dX6_take_44 (by decide) ?_
    refine lv_iload_n hx hb dX6_take_45 rfl (lv_at hl 2 rfl) ?_
    obtain ⟨M16, hq15, hf⟩ := xb1_e hf
    refine x_callVv (As := [.ref (b + o8), .int (M11 (o8 + 8) (Int32.toNatClampNeg x10)), .int (0 : Int32), .int x9]) (rest := []) C hm (c_X6_follow l E b L_o8 M11 (M11 (o8 + 8) (Int32.toNatClampNeg x10)) (0 : Int32) x9 hq15) rfl (cx_Survey (LX_survey 0 _ rfl)) tc_X6_follow tm_RX6_46 ti_X6_follow ts_X6_follow tn_RX6 td_X6_follow rfl rfl ⟨Nat.le_of_ble_eq_true rfl, Nat.le_of_ble_eq_true rfl⟩ rfl hl.1 rfl (Nat.le_of_ble_eq_true rfl) ⟨Nat.zero_le _, Nat.zero_le _⟩ dX6_take_46 (fun H locs hP17 hm => ?_)
    obtain ⟨v18, ev18, hf⟩ := xlet_x hf
    refine lv_iinc (v := v18) (lv' := [(3, .int v18), (0, .ref (b + 986)), (1, .ref (b + o8)), (2, .int x9)]) hx hb dX6_take_49 hl (k := 3) rfl (by rw [ev18]; rfl) (by decide) rfl (fun ls hl => ?_)
    refine lv_goto (tgt := 30) hx hb dX6_take_52 (by decide) ?_
    exact ih M16 v18 H locs ls hf hm (lv_sub hl [1, 2, 3, 0] rfl)
set_option maxHeartbeats 4000000 in
set_option maxRecDepth 20000 in
theorem j_X6_take_92 {p : Program} {l : Launch} {e : Env} {s : State} {m : MethodId} {args : Array Value} {below : List Frame} {meth : Method} {c : Code} {Q : State → Prop} {E : xE} {b : Nat} (C : xC p s m args meth c cX6_take 7 RX6 none E b) {o33 : Nat} (L_o33 : lat o33 pHeap) (x34 : Int32) (x35 : Int32) (x36 : Int32) (x37 : Int32) {y40 : xm}
    (kx0 : ∀ (H : Heap) (locs : List Loc) (ls : Array Slot), xM E b NX (cX E b y40) s.heap H locs → lv_has ls 7 [(0, .ref (b + 986)), (1, .ref (b + o33)), (2, .int x34), (3, .int x35)] → W p l e (xR 4) s m args below meth c H locs 0 0 Q (F0 m 128 ls [])) :
    ∀ (n : Nat) (M39 : xm) (x38 : Int32) (H : Heap) (locs : List Loc) (ls : Array Slot), g_X6_take_92 o33 x34 x35 x36 x37 n M39 x38 = some y40 → xM E b NX (cX E b M39) s.heap H locs → lv_has ls 7 [(0, .ref (b + 986)), (1, .ref (b + o33)), (2, .int x34), (3, .int x35), (4, .int x36), (5, .int x37), (6, .int x38)] → W p l e (xR 4) s m args below meth c H locs 0 0 Q (F0 m 92 ls []) := by
  have hx := C.1.1
  have hb := C.1.2.1
  intro n
  induction n with
  | zero =>
    intro M39 x38 H locs ls hf hm hl
    rw [g_X6_take_92] at hf
    cases hf
  | succ n ih =>
    intro M39 x38 H locs ls hf hm hl
    rw [g_X6_take_92] at hf
    refine lv_iload hx hb dX6_take_92 (lv_at hl 6 rfl) ?_
    refine lv_iload hx hb dX6_take_94 (lv_at hl 5 rfl) ?_
    refine lv_icmp_ge (tgt := 128) hx hb dX6_take_96 (by decide) (fun hc41 => ?_) (fun hc41 => ?_)
    · have hf := xif_t hc41 hf
      cases hf
      exact kx0 H locs ls hm (lv_sub hl [0, 1, 2, 3] rfl)
    have hf := xif_f hc41 hf
    refine lv_aload_n hx hb dX6_take_99 rfl (lv_at hl 0 rfl) ?_
    refine lv_aload_n hx hb dX6_take_100 rfl (lv_at hl 1 rfl) ?_
    refine lv_aload_n hx hb dX6_take_101 rfl (lv_at hl 1 rfl) ?_
    refine lv_iload hx hb dX6_take_102 (lv_at hl 4 rfl) ?_
    refine lv_iload hx hb dX6_take_104 (lv_at hl 6 rfl) ?_
    obtain ⟨v43, hq42, hf⟩ := xb1_e hf
    refine x_callVi (As := [.int x36, .int x38]) (rest := [.ref (b + o33), .ref (b + 986)]) C hm (c_X1_fieldOf l E b L_o33 M39 x36 x38 hq42) rfl (cx_Heap (L_o33 0 _ rfl)) tc_X1_fieldOf tm_RX6_54 ti_X1_fieldOf ts_X1_fieldOf tn_RX1 td_X1_fieldOf rfl rfl ⟨Nat.le_of_ble_eq_true rfl, Nat.le_of_ble_eq_true rfl⟩ rfl hl.1 rfl (Nat.le_of_ble_eq_true rfl) ⟨Nat.zero_le _, Nat.zero_le _⟩ dX6_take_106 (fun H locs hP44 hm => ?_)
    refine lv_aload_n hx hb dX6_take_109 rfl (lv_at hl 0 rfl) ?_
    refine x_get C hm inX6 rfl 0 (by decide) tf_RX6_9 (cx_Survey (LX_survey 0 _ rfl)) rfl dX6_take_110 ?_
    refine lv_iload hx hb dX6_take_113 (lv_at hl 4 rfl) ?_
    obtain ⟨hi45, hf⟩ := xif_s hf
    refine x_iald (j := (Int32.toNatClampNeg x36)) C hm (cx_I (LX_survey 1 _ rfl)) hi45 dX6_take_115 rfl ?_
    refine lv_iconst (v := (1 : Int32)) hx hb dX6_take_116 (by decide) ?_
    refine lv_iadd hx hb dX6_take_117 ?_
    refine lv_iload_n hx hb dX6_take_118 rfl (lv_at hl 2 rfl) ?_
    obtain ⟨M47, hq46, hf⟩ := xb1_e hf
    refine x_callVv (As := [.ref (b + o33), .int v43, .int ((M39 (986 + 1) (Int32.toNatClampNeg x36)) + (1 : Int32)), .int x34]) (rest := []) C hm (c_X6_follow l E b L_o33 M39 v43 ((M39 (986 + 1) (Int32.toNatClampNeg x36)) + (1 : Int32)) x34 hq46) rfl (cx_Survey (LX_survey 0 _ rfl)) tc_X6_follow tm_RX6_46 ti_X6_follow ts_X6_follow tn_RX6 td_X6_follow rfl rfl ⟨Nat.le_of_ble_eq_true rfl, Nat.le_of_ble_eq_true rfl⟩ rfl hl.1 rfl (Nat.le_of_ble_eq_true rfl) ⟨Nat.zero_le _, Nat.zero_le _⟩ dX6_take_119 (fun H locs hP48 hm => ?_)
    obtain ⟨v49, ev49, hf⟩ := xlet_x hf
    refine lv_iinc (v := v49) (lv' := [(6, .int v49), (0, .ref (b + 986)), (1, .ref (b + o33)), (2, .int x34), (3, .int x35), (4, .int x36), (5, .int x37)]) hx hb dX6_take_122 hl (k := 6) rfl (by rw [ev49]; rfl) (by decide) rfl (fun ls hl => ?_)
    refine lv_goto (tgt := 92) hx hb dX6_take_125 (by decide) ?_
    exact ih M47 v49 H locs ls hf hm (lv_sub hl [1, 2, 3, 4, 5, 6, 0] rfl)
set_option maxHeartbeats 4000000 in
set_option maxRecDepth 20000 in
theorem j_X6_take_57 {p : Program} {l : Launch} {e : Env} {s : State} {m : MethodId} {args : Array Value} {below : List Frame} {meth : Method} {c : Code} {Q : State → Prop} {E : xE} {b : Nat} (C : xC p s m args meth c cX6_take 7 RX6 none E b) {o20 : Nat} (L_o20 : lat o20 pHeap) (x21 : Int32) {y24 : xm}
    (kx0 : ∀ (H : Heap) (locs : List Loc) (ls : Array Slot), xM E b NX (cX E b y24) s.heap H locs → lv_has ls 7 [] → W p l e (xR 4) s m args below meth c H locs 0 0 Q (F0 m 134 ls [])) :
    ∀ (n : Nat) (M23 : xm) (x22 : Int32) (H : Heap) (locs : List Loc) (ls : Array Slot), g_X6_take_57 o20 x21 n M23 x22 = some y24 → xM E b NX (cX E b M23) s.heap H locs → lv_has ls 7 [(0, .ref (b + 986)), (1, .ref (b + o20)), (2, .int x21), (3, .int x22)] → W p l e (xR 4) s m args below meth c H locs 0 0 Q (F0 m 57 ls []) := by
  have hx := C.1.1
  have hb := C.1.2.1
  intro n
  induction n with
  | zero =>
    intro M23 x22 H locs ls hf hm hl
    rw [g_X6_take_57] at hf
    cases hf
  | succ n ih =>
    intro M23 x22 H locs ls hf hm hl
    rw [g_X6_take_57] at hf
    refine lv_iload_n hx hb dX6_take_57 rfl (lv_at hl 3 rfl) ?_
    refine lv_aload_n hx hb dX6_take_58 rfl (lv_at hl 0 rfl) ?_
    refine x_get C hm inX6 rfl 3 (by decide) tf_RX6_27 (cx_Survey (LX_survey 0 _ rfl)) rfl dX6_take_59 ?_
    refine lv_icmp_ge (tgt := 134) hx hb dX6_take_62 (by decide) (fun hc25 => ?_) (fun hc25 => ?_)
    · have hf := xif_t hc25 hf
      cases hf
      exact kx0 H locs ls hm (lv_sub hl [] rfl)
    have hf := xif_f hc25 hf
    refine lv_iload_n hx hb dX6_take_65 rfl (lv_at hl 3 rfl) ?_
    refine lv_bipush (v := (64 : Int32)) hx hb dX6_take_66 (by decide) ?_
    refine lv_icmp_ge (tgt := 134) hx hb dX6_take_68 (by decide) (fun hc26 => ?_) (fun hc26 => ?_)
    · have hf := xif_t hc26 hf
      cases hf
      exact kx0 H locs ls hm (lv_sub hl [] rfl)
    have hf := xif_f hc26 hf
    refine lv_aload_n hx hb dX6_take_71 rfl (lv_at hl 0 rfl) ?_
    refine x_get C hm inX6 rfl 1 (by decide) tf_RX6_15 (cx_Survey (LX_survey 0 _ rfl)) rfl dX6_take_72 ?_
    refine lv_iload_n hx hb dX6_take_75 rfl (lv_at hl 3 rfl) ?_
    obtain ⟨hi27, hf⟩ := xif_s hf
    refine x_iald (j := (Int32.toNatClampNeg x22)) C hm (cx_I (LX_survey 2 _ rfl)) hi27 dX6_take_76 rfl ?_
    refine lv_topi (fun v28 ev28 => ?_)
    have hf := xlet_e ev28 hf
    refine lv_istore (lv' := [(4, .int v28), (0, .ref (b + 986)), (1, .ref (b + o20)), (2, .int x21), (3, .int x22)]) hx hb dX6_take_77 hl (by decide) rfl (fun ls hl => ?_)
    refine lv_aload_n hx hb dX6_take_79 rfl (lv_at hl 2 rfl) ?_
    refine lv_iload hx hb dX6_take_80 (lv_at hl 0 rfl) ?_
    obtain ⟨v30, hq29, hf⟩ := xb1_e hf
    refine x_callVi (As := [.int v28]) (rest := []) C hm (c_X1_sizeAt l E b L_o20 M23 v28 hq29) rfl (cx_Heap (L_o20 0 _ rfl)) tc_X1_sizeAt tm_RX6_50 ti_X1_sizeAt ts_X1_sizeAt tn_RX1 td_X1_sizeAt rfl rfl ⟨Nat.le_of_ble_eq_true rfl, Nat.le_of_ble_eq_true rfl⟩ rfl hl.1 rfl (Nat.le_of_ble_eq_true rfl) ⟨Nat.zero_le _, Nat.zero_le _⟩ dX6_take_82 (fun H locs hP31 hm => ?_)
    refine lv_iconst (v := (1 : Int32)) hx hb dX6_take_85 (by decide) ?_
    refine lv_isub hx hb dX6_take_86 ?_
    refine lv_topi (fun v32 ev32 => ?_)
    have hf := xlet_e ev32 hf
    refine lv_istore (lv' := [(5, .int v32), (4, .int v28), (0, .ref (b + 986)), (1, .ref (b + o20)), (2, .int x21), (3, .int x22)]) hx hb dX6_take_87 hl (by decide) rfl (fun ls hl => ?_)
    refine lv_iconst (v := (0 : Int32)) hx hb dX6_take_89 (by decide) ?_
    refine lv_istore (lv' := [(6, .int (0 : Int32)), (5, .int v32), (4, .int v28), (0, .ref (b + 986)), (1, .ref (b + o20)), (2, .int x21), (3, .int x22)]) hx hb dX6_take_90 hl (by decide) rfl (fun ls hl => ?_)
    obtain ⟨M50, hq, hf⟩ := xb1_e hf
    refine j_X6_take_92 C L_o20 x21 x22 v28 v32 (fun H locs ls hm hl => ?_) xfuel M23 (0 : Int32) H locs ls hq hm (lv_sub hl [3, 4, 5, 6, 2, 1, 0] rfl)
    obtain ⟨v51, ev51, hf⟩ := xlet_x hf
    refine lv_iinc (v := v51) (lv' := [(3, .int v51), (0, .ref (b + 986)), (1, .ref (b + o20)), (2, .int x21)]) hx hb dX6_take_128 hl (k := 3) rfl (by rw [ev51]; rfl) (by decide) rfl (fun ls hl => ?_)
    refine lv_goto (tgt := 57) hx hb dX6_take_131 (by decide) ?_
    exact ih M50 v51 H locs ls hf hm (lv_sub hl [1, 2, 3, 0] rfl)
set_option maxHeartbeats 4000000 in
set_option maxRecDepth 20000 in
theorem c_X6_take (l : Launch) (E : xE) (b : Nat) {u1 : Nat} (L_u1 : lat u1 pHeap) (M : xm) (a2 : Int32) {M' : xm} (hf : f_X6_take u1 M a2 = some M') :
    xMet l E b NX yX6_take cX6_take 7 none (xR 4) [.ref (b + 986), .ref (b + u1), .int a2] (cX E b M) none True (cX E b M') := by
  refine xMet.ofW (own := RX6) (by decide) rfl (Nat.le_of_ble_eq_true rfl) ?_
  intro p e s m below meth c H locs ls C hm hl
  have hx := C.1.1
  have hb := C.1.2.1
  have hl : lv_has ls 7 [(0, .ref (b + 986)), (1, .ref (b + u1)), (2, .int a2)] := hl
  unfold f_X6_take at hf
  refine lv_aload_n hx hb dX6_take_0 rfl (lv_at hl 0 rfl) ?_
  refine x_get C hm inX6 rfl 0 (by decide) tf_RX6_9 (cx_Survey (LX_survey 0 _ rfl)) rfl dX6_take_1 ?_
  refine lv_iconst (v := (-1 : Int32)) hx hb dX6_take_4 (by decide) ?_
  obtain ⟨M2, hq1, hf⟩ := xb1_e hf
  refine x_callSv (As := [.ref (b + (986 + 1)), .int (-1 : Int32)]) (rest := []) C hm (c_J7_fill_53178 l E b (LX_survey 1 _ rfl) M (-1 : Int32) hq1) tc_J7_fill_53178 tm_RX6_21 tz_J7_fill_53178 tn_RJ7 td_J7_fill_53178 rfl rfl ⟨Nat.le_of_ble_eq_true rfl, Nat.le_of_ble_eq_true rfl⟩ rfl hl.1 rfl (Nat.le_of_ble_eq_true rfl) ⟨Nat.zero_le _, Nat.zero_le _⟩ dX6_take_5 (fun H locs hP3 hm => ?_)
  refine lv_aload_n hx hb dX6_take_8 rfl (lv_at hl 0 rfl) ?_
  refine lv_iconst (v := (0 : Int32)) hx hb dX6_take_9 (by decide) ?_
  obtain ⟨M4, eM4, hf⟩ := xlet_x hf
  refine x_put (cf' := cX E b M4) C hm inX6 tyX6 tyX6_ok nmX6 rfl 3 (by decide) tf_RX6_27 rfl rfl rfl (cx_Survey (LX_survey 0 _ rfl)) (Nat.le_of_ble_eq_true rfl) (by rw [eM4]; exact cu_Survey_3 (LX_survey 0 _ rfl)) (by rw [eM4]; exact cX_o) dX6_take_10 (fun H locs hm => ?_)
  refine lv_aload_n hx hb dX6_take_13 rfl (lv_at hl 0 rfl) ?_
  refine lv_iconst (v := (0 : Int32)) hx hb dX6_take_14 (by decide) ?_
  obtain ⟨M5, eM5, hf⟩ := xlet_x hf
  refine x_put (cf' := cX E b M5) C hm inX6 tyX6 tyX6_ok nmX6 rfl 4 (by decide) tf_RX6_31 rfl rfl rfl (cx_Survey (LX_survey 0 _ rfl)) (Nat.le_of_ble_eq_true rfl) (by rw [eM5]; exact cu_Survey_4 (LX_survey 0 _ rfl)) (by rw [eM5]; exact cX_o) dX6_take_15 (fun H locs hm => ?_)
  refine lv_aload_n hx hb dX6_take_18 rfl (lv_at hl 0 rfl) ?_
  refine lv_iconst (v := (0 : Int32)) hx hb dX6_take_19 (by decide) ?_
  obtain ⟨M6, eM6, hf⟩ := xlet_x hf
  refine x_put (cf' := cX E b M6) C hm inX6 tyX6 tyX6_ok nmX6 rfl 5 (by decide) tf_RX6_34 rfl rfl rfl (cx_Survey (LX_survey 0 _ rfl)) (Nat.le_of_ble_eq_true rfl) (by rw [eM6]; exact cu_Survey_5 (LX_survey 0 _ rfl)) (by rw [eM6]; exact cX_o) dX6_take_20 (fun H locs hm => ?_)
  refine lv_aload_n hx hb dX6_take_23 rfl (lv_at hl 0 rfl) ?_
  refine lv_iconst (v := (1 : Int32)) hx hb dX6_take_24 (by decide) ?_
  obtain ⟨M7, eM7, hf⟩ := xlet_x hf
  refine x_put (cf' := cX E b M7) C hm inX6 tyX6 tyX6_ok nmX6 rfl 6 (by decide) tf_RX6_37 rfl (xbo_n (by decide)) rfl (cx_Survey (LX_survey 0 _ rfl)) (Nat.le_of_ble_eq_true rfl) (by rw [eM7]; exact cu_Survey_6 (LX_survey 0 _ rfl)) (by rw [eM7]; exact cX_o) dX6_take_25 (fun H locs hm => ?_)
  refine lv_iconst (v := (0 : Int32)) hx hb dX6_take_28 (by decide) ?_
  refine lv_istore_n (lv' := [(3, .int (0 : Int32)), (0, .ref (b + 986)), (1, .ref (b + u1)), (2, .int a2)]) hx hb dX6_take_29 rfl hl (by decide) rfl (fun ls hl => ?_)
  obtain ⟨M19, hq, hf⟩ := xb1_e hf
  refine j_X6_take_30 C L_u1 a2 (fun H locs ls hm hl => ?_) xfuel M7 (0 : Int32) H locs ls hq hm (lv_sub hl [1, 2, 3, 0] rfl)
  refine lv_iconst (v := (0 : Int32)) hx hb dX6_take_55 (by decide) ?_
  refine lv_istore_n (lv' := [(3, .int (0 : Int32)), (0, .ref (b + 986)), (1, .ref (b + u1)), (2, .int a2)]) hx hb dX6_take_56 rfl hl (by decide) rfl (fun ls hl => ?_)
  obtain ⟨M52, hq, hf⟩ := xb1_e hf
  refine j_X6_take_57 C L_u1 a2 (fun H locs ls hm hl => ?_) xfuel M19 (0 : Int32) H locs ls hq hm (lv_sub hl [1, 2, 3, 0] rfl)
  cases hf
  exact x_vret C hm trivial dX6_take_134
/-! ColouredHeap$Text.takeOver(LColouredHeap$Text;)V -/
theorem dX7_takeOver_0 : decode cX7_takeOver 0 = .ok (.aload_n 1, 1) := by decide +kernel
theorem dX7_takeOver_1 : decode cX7_takeOver 1 = .ok (.getfield 9, 3) := by decide +kernel
theorem dX7_takeOver_4 : decode cX7_takeOver 4 = .ok (.iconst 0, 1) := by decide +kernel
theorem dX7_takeOver_5 : decode cX7_takeOver 5 = .ok (.aload_n 0, 1) := by decide +kernel
theorem dX7_takeOver_6 : decode cX7_takeOver 6 = .ok (.getfield 9, 3) := by decide +kernel
theorem dX7_takeOver_9 : decode cX7_takeOver 9 = .ok (.iconst 0, 1) := by decide +kernel
theorem dX7_takeOver_10 : decode cX7_takeOver 10 = .ok (.bipush 24, 2) := by decide +kernel
theorem dX7_takeOver_12 : decode cX7_takeOver 12 = .ok (.invokestatic 43, 3) := by decide +kernel
theorem dX7_takeOver_15 : decode cX7_takeOver 15 = .ok (.aload_n 1, 1) := by decide +kernel
theorem dX7_takeOver_16 : decode cX7_takeOver 16 = .ok (.getfield 15, 3) := by decide +kernel
theorem dX7_takeOver_19 : decode cX7_takeOver 19 = .ok (.iconst 0, 1) := by decide +kernel
theorem dX7_takeOver_20 : decode cX7_takeOver 20 = .ok (.aload_n 0, 1) := by decide +kernel
theorem dX7_takeOver_21 : decode cX7_takeOver 21 = .ok (.getfield 15, 3) := by decide +kernel
theorem dX7_takeOver_24 : decode cX7_takeOver 24 = .ok (.iconst 0, 1) := by decide +kernel
theorem dX7_takeOver_25 : decode cX7_takeOver 25 = .ok (.bipush 24, 2) := by decide +kernel
theorem dX7_takeOver_27 : decode cX7_takeOver 27 = .ok (.invokestatic 43, 3) := by decide +kernel
theorem dX7_takeOver_30 : decode cX7_takeOver 30 = .ok (.aload_n 1, 1) := by decide +kernel
theorem dX7_takeOver_31 : decode cX7_takeOver 31 = .ok (.getfield 18, 3) := by decide +kernel
theorem dX7_takeOver_34 : decode cX7_takeOver 34 = .ok (.iconst 0, 1) := by decide +kernel
theorem dX7_takeOver_35 : decode cX7_takeOver 35 = .ok (.aload_n 0, 1) := by decide +kernel
theorem dX7_takeOver_36 : decode cX7_takeOver 36 = .ok (.getfield 18, 3) := by decide +kernel
theorem dX7_takeOver_39 : decode cX7_takeOver 39 = .ok (.iconst 0, 1) := by decide +kernel
theorem dX7_takeOver_40 : decode cX7_takeOver 40 = .ok (.bipush 24, 2) := by decide +kernel
theorem dX7_takeOver_42 : decode cX7_takeOver 42 = .ok (.invokestatic 43, 3) := by decide +kernel
theorem dX7_takeOver_45 : decode cX7_takeOver 45 = .ok (.aload_n 1, 1) := by decide +kernel
theorem dX7_takeOver_46 : decode cX7_takeOver 46 = .ok (.getfield 21, 3) := by decide +kernel
theorem dX7_takeOver_49 : decode cX7_takeOver 49 = .ok (.iconst 0, 1) := by decide +kernel
theorem dX7_takeOver_50 : decode cX7_takeOver 50 = .ok (.aload_n 0, 1) := by decide +kernel
theorem dX7_takeOver_51 : decode cX7_takeOver 51 = .ok (.getfield 21, 3) := by decide +kernel
theorem dX7_takeOver_54 : decode cX7_takeOver 54 = .ok (.iconst 0, 1) := by decide +kernel
theorem dX7_takeOver_55 : decode cX7_takeOver 55 = .ok (.bipush 24, 2) := by decide +kernel
theorem dX7_takeOver_57 : decode cX7_takeOver 57 = .ok (.invokestatic 43, 3) := by decide +kernel
theorem dX7_takeOver_60 : decode cX7_takeOver 60 = .ok (.aload_n 1, 1) := by decide +kernel
theorem dX7_takeOver_61 : decode cX7_takeOver 61 = .ok (.getfield 24, 3) := by decide +kernel
theorem dX7_takeOver_64 : decode cX7_takeOver 64 = .ok (.iconst 0, 1) := by decide +kernel
theorem dX7_takeOver_65 : decode cX7_takeOver 65 = .ok (.aload_n 0, 1) := by decide +kernel
theorem dX7_takeOver_66 : decode cX7_takeOver 66 = .ok (.getfield 24, 3) := by decide +kernel
theorem dX7_takeOver_69 : decode cX7_takeOver 69 = .ok (.iconst 0, 1) := by decide +kernel
theorem dX7_takeOver_70 : decode cX7_takeOver 70 = .ok (.sipush 300, 3) := by decide +kernel
theorem dX7_takeOver_73 : decode cX7_takeOver 73 = .ok (.invokestatic 43, 3) := by decide +kernel
theorem dX7_takeOver_76 : decode cX7_takeOver 76 = .ok (.aload_n 1, 1) := by decide +kernel
theorem dX7_takeOver_77 : decode cX7_takeOver 77 = .ok (.getfield 27, 3) := by decide +kernel
theorem dX7_takeOver_80 : decode cX7_takeOver 80 = .ok (.iconst 0, 1) := by decide +kernel
theorem dX7_takeOver_81 : decode cX7_takeOver 81 = .ok (.aload_n 0, 1) := by decide +kernel
theorem dX7_takeOver_82 : decode cX7_takeOver 82 = .ok (.getfield 27, 3) := by decide +kernel
theorem dX7_takeOver_85 : decode cX7_takeOver 85 = .ok (.iconst 0, 1) := by decide +kernel
theorem dX7_takeOver_86 : decode cX7_takeOver 86 = .ok (.sipush 300, 3) := by decide +kernel
theorem dX7_takeOver_89 : decode cX7_takeOver 89 = .ok (.invokestatic 43, 3) := by decide +kernel
theorem dX7_takeOver_92 : decode cX7_takeOver 92 = .ok (.aload_n 1, 1) := by decide +kernel
theorem dX7_takeOver_93 : decode cX7_takeOver 93 = .ok (.getfield 30, 3) := by decide +kernel
theorem dX7_takeOver_96 : decode cX7_takeOver 96 = .ok (.iconst 0, 1) := by decide +kernel
theorem dX7_takeOver_97 : decode cX7_takeOver 97 = .ok (.aload_n 0, 1) := by decide +kernel
theorem dX7_takeOver_98 : decode cX7_takeOver 98 = .ok (.getfield 30, 3) := by decide +kernel
theorem dX7_takeOver_101 : decode cX7_takeOver 101 = .ok (.iconst 0, 1) := by decide +kernel
theorem dX7_takeOver_102 : decode cX7_takeOver 102 = .ok (.iconst 2, 1) := by decide +kernel
theorem dX7_takeOver_103 : decode cX7_takeOver 103 = .ok (.invokestatic 43, 3) := by decide +kernel
theorem dX7_takeOver_106 : decode cX7_takeOver 106 = .ok (.aload_n 1, 1) := by decide +kernel
theorem dX7_takeOver_107 : decode cX7_takeOver 107 = .ok (.getfield 33, 3) := by decide +kernel
theorem dX7_takeOver_110 : decode cX7_takeOver 110 = .ok (.iconst 0, 1) := by decide +kernel
theorem dX7_takeOver_111 : decode cX7_takeOver 111 = .ok (.aload_n 0, 1) := by decide +kernel
theorem dX7_takeOver_112 : decode cX7_takeOver 112 = .ok (.getfield 33, 3) := by decide +kernel
theorem dX7_takeOver_115 : decode cX7_takeOver 115 = .ok (.iconst 0, 1) := by decide +kernel
theorem dX7_takeOver_116 : decode cX7_takeOver 116 = .ok (.iconst 2, 1) := by decide +kernel
theorem dX7_takeOver_117 : decode cX7_takeOver 117 = .ok (.invokestatic 43, 3) := by decide +kernel
theorem dX7_takeOver_120 : decode cX7_takeOver 120 = .ok (.aload_n 0, 1) := by decide +kernel
theorem dX7_takeOver_121 : decode cX7_takeOver 121 = .ok (.aload_n 1, 1) := by decide +kernel
theorem dX7_takeOver_122 : decode cX7_takeOver 122 = .ok (.getfield 36, 3) := by decide +kernel
theorem dX7_takeOver_125 : decode cX7_takeOver 125 = .ok (.putfield 36, 3) := by decide +kernel
theorem dX7_takeOver_128 : decode cX7_takeOver 128 = .ok (.aload_n 0, 1) := by decide +kernel
theorem dX7_takeOver_129 : decode cX7_takeOver 129 = .ok (.aload_n 1, 1) := by decide +kernel
theorem dX7_takeOver_130 : decode cX7_takeOver 130 = .ok (.getfield 40, 3) := by decide +kernel
theorem dX7_takeOver_133 : decode cX7_takeOver 133 = .ok (.putfield 40, 3) := by decide +kernel
theorem dX7_takeOver_136 : decode cX7_takeOver 136 = .ok (.return_, 1) := by decide +kernel
def f_X7_takeOver (u0 : Nat) (u1 : Nat) (M : xm) : Option (xm) := xlet (xcopy M (u1 + 1) (u0 + 1) 24) (fun M1 => xlet (xcopy M1 (u1 + 2) (u0 + 2) 24) (fun M2 => xlet (xcopy M2 (u1 + 3) (u0 + 3) 24) (fun M3 => xlet (xcopy M3 (u1 + 4) (u0 + 4) 24) (fun M4 => xlet (xcopy M4 (u1 + 5) (u0 + 5) 300) (fun M5 => xlet (xcopy M5 (u1 + 6) (u0 + 6) 300) (fun M6 => xlet (xcopy M6 (u1 + 7) (u0 + 7) 2) (fun M7 => xlet (xcopy M7 (u1 + 8) (u0 + 8) 2) (fun M8 => xlet (up2 M8 u0 8 (M8 u1 8)) (fun M9 => xlet (up2 M9 u0 9 (M9 u1 9)) (fun M10 => some M10))))))))))
set_option maxHeartbeats 4000000 in
set_option maxRecDepth 20000 in
theorem c_X7_takeOver (l : Launch) (E : xE) (b : Nat) {u0 : Nat} (L_u0 : lat u0 pText) {u1 : Nat} (L_u1 : lat u1 pText) (M : xm) {M' : xm} (hf : f_X7_takeOver u0 u1 M = some M') :
    xMet l E b NX yX7_takeOver cX7_takeOver 2 none (xR 2) [.ref (b + u0), .ref (b + u1)] (cX E b M) none True (cX E b M') := by
  refine xMet.ofW (own := RX7) (by decide) rfl (Nat.le_of_ble_eq_true rfl) ?_
  intro p e s m below meth c H locs ls C hm hl
  have hx := C.1.1
  have hb := C.1.2.1
  have hl : lv_has ls 2 [(0, .ref (b + u0)), (1, .ref (b + u1))] := hl
  unfold f_X7_takeOver at hf
  refine lv_aload_n hx hb dX7_takeOver_0 rfl (lv_at hl 1 rfl) ?_
  refine x_get C hm inX7 rfl 0 (by decide) tf_RX7_9 (cx_Text (L_u1 0 _ rfl)) rfl dX7_takeOver_1 ?_
  refine lv_iconst (v := (0 : Int32)) hx hb dX7_takeOver_4 (by decide) ?_
  refine lv_aload_n hx hb dX7_takeOver_5 rfl (lv_at hl 0 rfl) ?_
  refine x_get C hm inX7 rfl 0 (by decide) tf_RX7_9 (cx_Text (L_u0 0 _ rfl)) rfl dX7_takeOver_6 ?_
  refine lv_iconst (v := (0 : Int32)) hx hb dX7_takeOver_9 (by decide) ?_
  refine lv_bipush (v := (24 : Int32)) hx hb dX7_takeOver_10 (by decide) ?_
  obtain ⟨M1, eM1, hf⟩ := xlet_x hf
  refine x_copy (cf' := cX E b M1) C hm hl.1 (C.1.2.2.2.2 _ tm_RX7_43) (C.1.2.2.2.2 _ tv_arraycopy) (C.1.2.2.2.2 _ tz_arraycopy) (C.1.2.2.2.2 _ tn_System) (cx_I (L_u1 1 _ rfl)) (cx_I (L_u0 1 _ rfl)) (n := (24 : Int32)) (by decide) rfl (by decide) (by decide) (Nat.le_of_ble_eq_true rfl) (Nat.le_of_ble_eq_true rfl) dX7_takeOver_12 (by rw [eM1]; exact cc_I (L_u0 1 _ rfl)) (by rw [eM1]; exact cc_o) (fun H locs hm => ?_)
  refine lv_aload_n hx hb dX7_takeOver_15 rfl (lv_at hl 1 rfl) ?_
  refine x_get C hm inX7 rfl 1 (by decide) tf_RX7_15 (cx_Text (L_u1 0 _ rfl)) rfl dX7_takeOver_16 ?_
  refine lv_iconst (v := (0 : Int32)) hx hb dX7_takeOver_19 (by decide) ?_
  refine lv_aload_n hx hb dX7_takeOver_20 rfl (lv_at hl 0 rfl) ?_
  refine x_get C hm inX7 rfl 1 (by decide) tf_RX7_15 (cx_Text (L_u0 0 _ rfl)) rfl dX7_takeOver_21 ?_
  refine lv_iconst (v := (0 : Int32)) hx hb dX7_takeOver_24 (by decide) ?_
  refine lv_bipush (v := (24 : Int32)) hx hb dX7_takeOver_25 (by decide) ?_
  obtain ⟨M2, eM2, hf⟩ := xlet_x hf
  refine x_copy (cf' := cX E b M2) C hm hl.1 (C.1.2.2.2.2 _ tm_RX7_43) (C.1.2.2.2.2 _ tv_arraycopy) (C.1.2.2.2.2 _ tz_arraycopy) (C.1.2.2.2.2 _ tn_System) (cx_I (L_u1 2 _ rfl)) (cx_I (L_u0 2 _ rfl)) (n := (24 : Int32)) (by decide) rfl (by decide) (by decide) (Nat.le_of_ble_eq_true rfl) (Nat.le_of_ble_eq_true rfl) dX7_takeOver_27 (by rw [eM2]; exact cc_I (L_u0 2 _ rfl)) (by rw [eM2]; exact cc_o) (fun H locs hm => ?_)
  refine lv_aload_n hx hb dX7_takeOver_30 rfl (lv_at hl 1 rfl) ?_
  refine x_get C hm inX7 rfl 2 (by decide) tf_RX7_18 (cx_Text (L_u1 0 _ rfl)) rfl dX7_takeOver_31 ?_
  refine lv_iconst (v := (0 : Int32)) hx hb dX7_takeOver_34 (by decide) ?_
  refine lv_aload_n hx hb dX7_takeOver_35 rfl (lv_at hl 0 rfl) ?_
  refine x_get C hm inX7 rfl 2 (by decide) tf_RX7_18 (cx_Text (L_u0 0 _ rfl)) rfl dX7_takeOver_36 ?_
  refine lv_iconst (v := (0 : Int32)) hx hb dX7_takeOver_39 (by decide) ?_
  refine lv_bipush (v := (24 : Int32)) hx hb dX7_takeOver_40 (by decide) ?_
  obtain ⟨M3, eM3, hf⟩ := xlet_x hf
  refine x_copy (cf' := cX E b M3) C hm hl.1 (C.1.2.2.2.2 _ tm_RX7_43) (C.1.2.2.2.2 _ tv_arraycopy) (C.1.2.2.2.2 _ tz_arraycopy) (C.1.2.2.2.2 _ tn_System) (cx_I (L_u1 3 _ rfl)) (cx_I (L_u0 3 _ rfl)) (n := (24 : Int32)) (by decide) rfl (by decide) (by decide) (Nat.le_of_ble_eq_true rfl) (Nat.le_of_ble_eq_true rfl) dX7_takeOver_42 (by rw [eM3]; exact cc_I (L_u0 3 _ rfl)) (by rw [eM3]; exact cc_o) (fun H locs hm => ?_)
  refine lv_aload_n hx hb dX7_takeOver_45 rfl (lv_at hl 1 rfl) ?_
  refine x_get C hm inX7 rfl 3 (by decide) tf_RX7_21 (cx_Text (L_u1 0 _ rfl)) rfl dX7_takeOver_46 ?_
  refine lv_iconst (v := (0 : Int32)) hx hb dX7_takeOver_49 (by decide) ?_
  refine lv_aload_n hx hb dX7_takeOver_50 rfl (lv_at hl 0 rfl) ?_
  refine x_get C hm inX7 rfl 3 (by decide) tf_RX7_21 (cx_Text (L_u0 0 _ rfl)) rfl dX7_takeOver_51 ?_
  refine lv_iconst (v := (0 : Int32)) hx hb dX7_takeOver_54 (by decide) ?_
  refine lv_bipush (v := (24 : Int32)) hx hb dX7_takeOver_55 (by decide) ?_
  obtain ⟨M4, eM4, hf⟩ := xlet_x hf
  refine x_copy (cf' := cX E b M4) C hm hl.1 (C.1.2.2.2.2 _ tm_RX7_43) (C.1.2.2.2.2 _ tv_arraycopy) (C.1.2.2.2.2 _ tz_arraycopy) (C.1.2.2.2.2 _ tn_System) (cx_I (L_u1 4 _ rfl)) (cx_I (L_u0 4 _ rfl)) (n := (24 : Int32)) (by decide) rfl (by decide) (by decide) (Nat.le_of_ble_eq_true rfl) (Nat.le_of_ble_eq_true rfl) dX7_takeOver_57 (by rw [eM4]; exact cc_I (L_u0 4 _ rfl)) (by rw [eM4]; exact cc_o) (fun H locs hm => ?_)
  refine lv_aload_n hx hb dX7_takeOver_60 rfl (lv_at hl 1 rfl) ?_
  refine x_get C hm inX7 rfl 4 (by decide) tf_RX7_24 (cx_Text (L_u1 0 _ rfl)) rfl dX7_takeOver_61 ?_
  refine lv_iconst (v := (0 : Int32)) hx hb dX7_takeOver_64 (by decide) ?_
  refine lv_aload_n hx hb dX7_takeOver_65 rfl (lv_at hl 0 rfl) ?_
  refine x_get C hm inX7 rfl 4 (by decide) tf_RX7_24 (cx_Text (L_u0 0 _ rfl)) rfl dX7_takeOver_66 ?_
  refine lv_iconst (v := (0 : Int32)) hx hb dX7_takeOver_69 (by decide) ?_
  refine lv_sipush (v := (300 : Int32)) hx hb dX7_takeOver_70 (by decide) ?_
  obtain ⟨M5, eM5, hf⟩ := xlet_x hf
  refine x_copy (cf' := cX E b M5) C hm hl.1 (C.1.2.2.2.2 _ tm_RX7_43) (C.1.2.2.2.2 _ tv_arraycopy) (C.1.2.2.2.2 _ tz_arraycopy) (C.1.2.2.2.2 _ tn_System) (cx_I (L_u1 5 _ rfl)) (cx_I (L_u0 5 _ rfl)) (n := (300 : Int32)) (by decide) rfl (by decide) (by decide) (Nat.le_of_ble_eq_true rfl) (Nat.le_of_ble_eq_true rfl) dX7_takeOver_73 (by rw [eM5]; exact cc_I (L_u0 5 _ rfl)) (by rw [eM5]; exact cc_o) (fun H locs hm => ?_)
  refine lv_aload_n hx hb dX7_takeOver_76 rfl (lv_at hl 1 rfl) ?_
  refine x_get C hm inX7 rfl 5 (by decide) tf_RX7_27 (cx_Text (L_u1 0 _ rfl)) rfl dX7_takeOver_77 ?_
  refine lv_iconst (v := (0 : Int32)) hx hb dX7_takeOver_80 (by decide) ?_
  refine lv_aload_n hx hb dX7_takeOver_81 rfl (lv_at hl 0 rfl) ?_
  refine x_get C hm inX7 rfl 5 (by decide) tf_RX7_27 (cx_Text (L_u0 0 _ rfl)) rfl dX7_takeOver_82 ?_
  refine lv_iconst (v := (0 : Int32)) hx hb dX7_takeOver_85 (by decide) ?_
  refine lv_sipush (v := (300 : Int32)) hx hb dX7_takeOver_86 (by decide) ?_
  obtain ⟨M6, eM6, hf⟩ := xlet_x hf
  refine x_copy (cf' := cX E b M6) C hm hl.1 (C.1.2.2.2.2 _ tm_RX7_43) (C.1.2.2.2.2 _ tv_arraycopy) (C.1.2.2.2.2 _ tz_arraycopy) (C.1.2.2.2.2 _ tn_System) (cx_I (L_u1 6 _ rfl)) (cx_I (L_u0 6 _ rfl)) (n := (300 : Int32)) (by decide) rfl (by decide) (by decide) (Nat.le_of_ble_eq_true rfl) (Nat.le_of_ble_eq_true rfl) dX7_takeOver_89 (by rw [eM6]; exact cc_I (L_u0 6 _ rfl)) (by rw [eM6]; exact cc_o) (fun H locs hm => ?_)
  refine lv_aload_n hx hb dX7_takeOver_92 rfl (lv_at hl 1 rfl) ?_
  refine x_get C hm inX7 rfl 6 (by decide) tf_RX7_30 (cx_Text (L_u1 0 _ rfl)) rfl dX7_takeOver_93 ?_
  refine lv_iconst (v := (0 : Int32)) hx hb dX7_takeOver_96 (by decide) ?_
  refine lv_aload_n hx hb dX7_takeOver_97 rfl (lv_at hl 0 rfl) ?_
  refine x_get C hm inX7 rfl 6 (by decide) tf_RX7_30 (cx_Text (L_u0 0 _ rfl)) rfl dX7_takeOver_98 ?_
  refine lv_iconst (v := (0 : Int32)) hx hb dX7_takeOver_101 (by decide) ?_
  refine lv_iconst (v := (2 : Int32)) hx hb dX7_takeOver_102 (by decide) ?_
  obtain ⟨M7, eM7, hf⟩ := xlet_x hf
  refine x_copy (cf' := cX E b M7) C hm hl.1 (C.1.2.2.2.2 _ tm_RX7_43) (C.1.2.2.2.2 _ tv_arraycopy) (C.1.2.2.2.2 _ tz_arraycopy) (C.1.2.2.2.2 _ tn_System) (cx_I (L_u1 7 _ rfl)) (cx_I (L_u0 7 _ rfl)) (n := (2 : Int32)) (by decide) rfl (by decide) (by decide) (Nat.le_of_ble_eq_true rfl) (Nat.le_of_ble_eq_true rfl) dX7_takeOver_103 (by rw [eM7]; exact cc_I (L_u0 7 _ rfl)) (by rw [eM7]; exact cc_o) (fun H locs hm => ?_)
  refine lv_aload_n hx hb dX7_takeOver_106 rfl (lv_at hl 1 rfl) ?_
  refine x_get C hm inX7 rfl 7 (by decide) tf_RX7_33 (cx_Text (L_u1 0 _ rfl)) rfl dX7_takeOver_107 ?_
  refine lv_iconst (v := (0 : Int32)) hx hb dX7_takeOver_110 (by decide) ?_
  refine lv_aload_n hx hb dX7_takeOver_111 rfl (lv_at hl 0 rfl) ?_
  refine x_get C hm inX7 rfl 7 (by decide) tf_RX7_33 (cx_Text (L_u0 0 _ rfl)) rfl dX7_takeOver_112 ?_
  refine lv_iconst (v := (0 : Int32)) hx hb dX7_takeOver_115 (by decide) ?_
  refine lv_iconst (v := (2 : Int32)) hx hb dX7_takeOver_116 (by decide) ?_
  obtain ⟨M8, eM8, hf⟩ := xlet_x hf
  refine x_copy (cf' := cX E b M8) C hm hl.1 (C.1.2.2.2.2 _ tm_RX7_43) (C.1.2.2.2.2 _ tv_arraycopy) (C.1.2.2.2.2 _ tz_arraycopy) (C.1.2.2.2.2 _ tn_System) (cx_I (L_u1 8 _ rfl)) (cx_I (L_u0 8 _ rfl)) (n := (2 : Int32)) (by decide) rfl (by decide) (by decide) (Nat.le_of_ble_eq_true rfl) (Nat.le_of_ble_eq_true rfl) dX7_takeOver_117 (by rw [eM8]; exact cc_I (L_u0 8 _ rfl)) (by rw [eM8]; exact cc_o) (fun H locs hm => ?_)
  refine lv_aload_n hx hb dX7_takeOver_120 rfl (lv_at hl 0 rfl) ?_
  refine lv_aload_n hx hb dX7_takeOver_121 rfl (lv_at hl 1 rfl) ?_
  refine x_get C hm inX7 rfl 8 (by decide) tf_RX7_36 (cx_Text (L_u1 0 _ rfl)) rfl dX7_takeOver_122 ?_
  obtain ⟨M9, eM9, hf⟩ := xlet_x hf
  refine x_put (cf' := cX E b M9) C hm inX7 tyX7 tyX7_ok nmX7 rfl 8 (by decide) tf_RX7_36 rfl rfl rfl (cx_Text (L_u0 0 _ rfl)) (Nat.le_of_ble_eq_true rfl) (by rw [eM9]; exact cu_Text_8 (L_u0 0 _ rfl)) (by rw [eM9]; exact cX_o) dX7_takeOver_125 (fun H locs hm => ?_)
  refine lv_aload_n hx hb dX7_takeOver_128 rfl (lv_at hl 0 rfl) ?_
  refine lv_aload_n hx hb dX7_takeOver_129 rfl (lv_at hl 1 rfl) ?_
  refine x_get C hm inX7 rfl 9 (by decide) tf_RX7_40 (cx_Text (L_u1 0 _ rfl)) rfl dX7_takeOver_130 ?_
  obtain ⟨M10, eM10, hf⟩ := xlet_x hf
  refine x_put (cf' := cX E b M10) C hm inX7 tyX7 tyX7_ok nmX7 rfl 9 (by decide) tf_RX7_40 rfl rfl rfl (cx_Text (L_u0 0 _ rfl)) (Nat.le_of_ble_eq_true rfl) (by rw [eM10]; exact cu_Text_9 (L_u0 0 _ rfl)) (by rw [eM10]; exact cX_o) dX7_takeOver_133 (fun H locs hm => ?_)
  cases hf
  exact x_vret C hm trivial dX7_takeOver_136
/-! ColouredHeap$Told.takeOver(LColouredHeap$Told;)V -/
theorem dX8_takeOver_0 : decode cX8_takeOver 0 = .ok (.aload_n 1, 1) := by decide +kernel
theorem dX8_takeOver_1 : decode cX8_takeOver 1 = .ok (.getfield 9, 3) := by decide +kernel
theorem dX8_takeOver_4 : decode cX8_takeOver 4 = .ok (.iconst 0, 1) := by decide +kernel
theorem dX8_takeOver_5 : decode cX8_takeOver 5 = .ok (.aload_n 0, 1) := by decide +kernel
theorem dX8_takeOver_6 : decode cX8_takeOver 6 = .ok (.getfield 9, 3) := by decide +kernel
theorem dX8_takeOver_9 : decode cX8_takeOver 9 = .ok (.iconst 0, 1) := by decide +kernel
theorem dX8_takeOver_10 : decode cX8_takeOver 10 = .ok (.bipush 8, 2) := by decide +kernel
theorem dX8_takeOver_12 : decode cX8_takeOver 12 = .ok (.invokestatic 28, 3) := by decide +kernel
theorem dX8_takeOver_15 : decode cX8_takeOver 15 = .ok (.aload_n 1, 1) := by decide +kernel
theorem dX8_takeOver_16 : decode cX8_takeOver 16 = .ok (.getfield 15, 3) := by decide +kernel
theorem dX8_takeOver_19 : decode cX8_takeOver 19 = .ok (.iconst 0, 1) := by decide +kernel
theorem dX8_takeOver_20 : decode cX8_takeOver 20 = .ok (.aload_n 0, 1) := by decide +kernel
theorem dX8_takeOver_21 : decode cX8_takeOver 21 = .ok (.getfield 15, 3) := by decide +kernel
theorem dX8_takeOver_24 : decode cX8_takeOver 24 = .ok (.iconst 0, 1) := by decide +kernel
theorem dX8_takeOver_25 : decode cX8_takeOver 25 = .ok (.bipush 8, 2) := by decide +kernel
theorem dX8_takeOver_27 : decode cX8_takeOver 27 = .ok (.invokestatic 28, 3) := by decide +kernel
theorem dX8_takeOver_30 : decode cX8_takeOver 30 = .ok (.aload_n 0, 1) := by decide +kernel
theorem dX8_takeOver_31 : decode cX8_takeOver 31 = .ok (.aload_n 1, 1) := by decide +kernel
theorem dX8_takeOver_32 : decode cX8_takeOver 32 = .ok (.getfield 18, 3) := by decide +kernel
theorem dX8_takeOver_35 : decode cX8_takeOver 35 = .ok (.putfield 18, 3) := by decide +kernel
theorem dX8_takeOver_38 : decode cX8_takeOver 38 = .ok (.aload_n 0, 1) := by decide +kernel
theorem dX8_takeOver_39 : decode cX8_takeOver 39 = .ok (.aload_n 1, 1) := by decide +kernel
theorem dX8_takeOver_40 : decode cX8_takeOver 40 = .ok (.getfield 22, 3) := by decide +kernel
theorem dX8_takeOver_43 : decode cX8_takeOver 43 = .ok (.putfield 22, 3) := by decide +kernel
theorem dX8_takeOver_46 : decode cX8_takeOver 46 = .ok (.aload_n 0, 1) := by decide +kernel
theorem dX8_takeOver_47 : decode cX8_takeOver 47 = .ok (.aload_n 1, 1) := by decide +kernel
theorem dX8_takeOver_48 : decode cX8_takeOver 48 = .ok (.getfield 25, 3) := by decide +kernel
theorem dX8_takeOver_51 : decode cX8_takeOver 51 = .ok (.putfield 25, 3) := by decide +kernel
theorem dX8_takeOver_54 : decode cX8_takeOver 54 = .ok (.return_, 1) := by decide +kernel
def f_X8_takeOver (u0 : Nat) (u1 : Nat) (M : xm) : Option (xm) := xlet (xcopy M (u1 + 1) (u0 + 1) 8) (fun M1 => xlet (xcopy M1 (u1 + 2) (u0 + 2) 8) (fun M2 => xlet (up2 M2 u0 2 (M2 u1 2)) (fun M3 => xlet (up2 M3 u0 3 (M3 u1 3)) (fun M4 => xlet (up2 M4 u0 4 (M4 u1 4)) (fun M5 => some M5)))))
set_option maxHeartbeats 4000000 in
set_option maxRecDepth 20000 in
theorem c_X8_takeOver (l : Launch) (E : xE) (b : Nat) {u0 : Nat} (L_u0 : lat u0 pTold) {u1 : Nat} (L_u1 : lat u1 pTold) (M : xm) {M' : xm} (hf : f_X8_takeOver u0 u1 M = some M') :
    xMet l E b NX yX8_takeOver cX8_takeOver 2 none (xR 2) [.ref (b + u0), .ref (b + u1)] (cX E b M) none True (cX E b M') := by
  refine xMet.ofW (own := RX8) (by decide) rfl (Nat.le_of_ble_eq_true rfl) ?_
  intro p e s m below meth c H locs ls C hm hl
  have hx := C.1.1
  have hb := C.1.2.1
  have hl : lv_has ls 2 [(0, .ref (b + u0)), (1, .ref (b + u1))] := hl
  unfold f_X8_takeOver at hf
  refine lv_aload_n hx hb dX8_takeOver_0 rfl (lv_at hl 1 rfl) ?_
  refine x_get C hm inX8 rfl 0 (by decide) tf_RX8_9 (cx_Told (L_u1 0 _ rfl)) rfl dX8_takeOver_1 ?_
  refine lv_iconst (v := (0 : Int32)) hx hb dX8_takeOver_4 (by decide) ?_
  refine lv_aload_n hx hb dX8_takeOver_5 rfl (lv_at hl 0 rfl) ?_
  refine x_get C hm inX8 rfl 0 (by decide) tf_RX8_9 (cx_Told (L_u0 0 _ rfl)) rfl dX8_takeOver_6 ?_
  refine lv_iconst (v := (0 : Int32)) hx hb dX8_takeOver_9 (by decide) ?_
  refine lv_bipush (v := (8 : Int32)) hx hb dX8_takeOver_10 (by decide) ?_
  obtain ⟨M1, eM1, hf⟩ := xlet_x hf
  refine x_copy (cf' := cX E b M1) C hm hl.1 (C.1.2.2.2.2 _ tm_RX8_28) (C.1.2.2.2.2 _ tv_arraycopy) (C.1.2.2.2.2 _ tz_arraycopy) (C.1.2.2.2.2 _ tn_System) (cx_I (L_u1 1 _ rfl)) (cx_I (L_u0 1 _ rfl)) (n := (8 : Int32)) (by decide) rfl (by decide) (by decide) (Nat.le_of_ble_eq_true rfl) (Nat.le_of_ble_eq_true rfl) dX8_takeOver_12 (by rw [eM1]; exact cc_I (L_u0 1 _ rfl)) (by rw [eM1]; exact cc_o) (fun H locs hm => ?_)
  refine lv_aload_n hx hb dX8_takeOver_15 rfl (lv_at hl 1 rfl) ?_
  refine x_get C hm inX8 rfl 1 (by decide) tf_RX8_15 (cx_Told (L_u1 0 _ rfl)) rfl dX8_takeOver_16 ?_
  refine lv_iconst (v := (0 : Int32)) hx hb dX8_takeOver_19 (by decide) ?_
  refine lv_aload_n hx hb dX8_takeOver_20 rfl (lv_at hl 0 rfl) ?_
  refine x_get C hm inX8 rfl 1 (by decide) tf_RX8_15 (cx_Told (L_u0 0 _ rfl)) rfl dX8_takeOver_21 ?_
  refine lv_iconst (v := (0 : Int32)) hx hb dX8_takeOver_24 (by decide) ?_
  refine lv_bipush (v := (8 : Int32)) hx hb dX8_takeOver_25 (by decide) ?_
  obtain ⟨M2, eM2, hf⟩ := xlet_x hf
  refine x_copy (cf' := cX E b M2) C hm hl.1 (C.1.2.2.2.2 _ tm_RX8_28) (C.1.2.2.2.2 _ tv_arraycopy) (C.1.2.2.2.2 _ tz_arraycopy) (C.1.2.2.2.2 _ tn_System) (cx_I (L_u1 2 _ rfl)) (cx_I (L_u0 2 _ rfl)) (n := (8 : Int32)) (by decide) rfl (by decide) (by decide) (Nat.le_of_ble_eq_true rfl) (Nat.le_of_ble_eq_true rfl) dX8_takeOver_27 (by rw [eM2]; exact cc_I (L_u0 2 _ rfl)) (by rw [eM2]; exact cc_o) (fun H locs hm => ?_)
  refine lv_aload_n hx hb dX8_takeOver_30 rfl (lv_at hl 0 rfl) ?_
  refine lv_aload_n hx hb dX8_takeOver_31 rfl (lv_at hl 1 rfl) ?_
  refine x_get C hm inX8 rfl 2 (by decide) tf_RX8_18 (cx_Told (L_u1 0 _ rfl)) rfl dX8_takeOver_32 ?_
  obtain ⟨M3, eM3, hf⟩ := xlet_x hf
  refine x_put (cf' := cX E b M3) C hm inX8 tyX8 tyX8_ok nmX8 rfl 2 (by decide) tf_RX8_18 rfl rfl rfl (cx_Told (L_u0 0 _ rfl)) (Nat.le_of_ble_eq_true rfl) (by rw [eM3]; exact cu_Told_2 (L_u0 0 _ rfl)) (by rw [eM3]; exact cX_o) dX8_takeOver_35 (fun H locs hm => ?_)
  refine lv_aload_n hx hb dX8_takeOver_38 rfl (lv_at hl 0 rfl) ?_
  refine lv_aload_n hx hb dX8_takeOver_39 rfl (lv_at hl 1 rfl) ?_
  refine x_get C hm inX8 rfl 3 (by decide) tf_RX8_22 (cx_Told (L_u1 0 _ rfl)) rfl dX8_takeOver_40 ?_
  obtain ⟨M4, eM4, hf⟩ := xlet_x hf
  refine x_put (cf' := cX E b M4) C hm inX8 tyX8 tyX8_ok nmX8 rfl 3 (by decide) tf_RX8_22 rfl rfl rfl (cx_Told (L_u0 0 _ rfl)) (Nat.le_of_ble_eq_true rfl) (by rw [eM4]; exact cu_Told_3 (L_u0 0 _ rfl)) (by rw [eM4]; exact cX_o) dX8_takeOver_43 (fun H locs hm => ?_)
  refine lv_aload_n hx hb dX8_takeOver_46 rfl (lv_at hl 0 rfl) ?_
  refine lv_aload_n hx hb dX8_takeOver_47 rfl (lv_at hl 1 rfl) ?_
  refine x_get C hm inX8 rfl 4 (by decide) tf_RX8_25 (cx_Told (L_u1 0 _ rfl)) rfl dX8_takeOver_48 ?_
  obtain ⟨M5, eM5, hf⟩ := xlet_x hf
  refine x_put (cf' := cX E b M5) C hm inX8 tyX8 tyX8_ok nmX8 rfl 4 (by decide) tf_RX8_25 rfl rfl rfl (cx_Told (L_u0 0 _ rfl)) (Nat.le_of_ble_eq_true rfl) (by rw [eM5]; exact cu_Told_4 (L_u0 0 _ rfl)) (by rw [eM5]; exact cX_o) dX8_takeOver_51 (fun H locs hm => ?_)
  cases hf
  exact x_vret C hm trivial dX8_takeOver_54
/-! ColouredHeap.about(I)I -/
theorem dX9_about_0 : decode cX9_about 0 = .ok (.iload_n 1, 1) := by decide +kernel
theorem dX9_about_1 : decode cX9_about 1 = .ok (.tableswitch 87 0 5 #[39, 47, 55, 63, 71, 79], 39) := by decide +kernel
theorem dX9_about_40 : decode cX9_about 40 = .ok (.aload_n 0, 1) := by decide +kernel
theorem dX9_about_41 : decode cX9_about 41 = .ok (.getfield 26, 3) := by decide +kernel
theorem dX9_about_44 : decode cX9_about 44 = .ok (.getfield 78, 3) := by decide +kernel
theorem dX9_about_47 : decode cX9_about 47 = .ok (.ireturn, 1) := by decide +kernel
theorem dX9_about_48 : decode cX9_about 48 = .ok (.aload_n 0, 1) := by decide +kernel
theorem dX9_about_49 : decode cX9_about 49 = .ok (.getfield 26, 3) := by decide +kernel
theorem dX9_about_52 : decode cX9_about 52 = .ok (.getfield 102, 3) := by decide +kernel
theorem dX9_about_55 : decode cX9_about 55 = .ok (.ireturn, 1) := by decide +kernel
theorem dX9_about_56 : decode cX9_about 56 = .ok (.aload_n 0, 1) := by decide +kernel
theorem dX9_about_57 : decode cX9_about 57 = .ok (.getfield 19, 3) := by decide +kernel
theorem dX9_about_60 : decode cX9_about 60 = .ok (.getfield 208, 3) := by decide +kernel
theorem dX9_about_63 : decode cX9_about 63 = .ok (.ireturn, 1) := by decide +kernel
theorem dX9_about_64 : decode cX9_about 64 = .ok (.aload_n 0, 1) := by decide +kernel
theorem dX9_about_65 : decode cX9_about 65 = .ok (.getfield 10, 3) := by decide +kernel
theorem dX9_about_68 : decode cX9_about 68 = .ok (.invokevirtual 298, 3) := by decide +kernel
theorem dX9_about_71 : decode cX9_about 71 = .ok (.ireturn, 1) := by decide +kernel
theorem dX9_about_72 : decode cX9_about 72 = .ok (.aload_n 0, 1) := by decide +kernel
theorem dX9_about_73 : decode cX9_about 73 = .ok (.getfield 26, 3) := by decide +kernel
theorem dX9_about_76 : decode cX9_about 76 = .ok (.getfield 310, 3) := by decide +kernel
theorem dX9_about_79 : decode cX9_about 79 = .ok (.ireturn, 1) := by decide +kernel
theorem dX9_about_80 : decode cX9_about 80 = .ok (.aload_n 0, 1) := by decide +kernel
theorem dX9_about_81 : decode cX9_about 81 = .ok (.getfield 52, 3) := by decide +kernel
theorem dX9_about_84 : decode cX9_about 84 = .ok (.getfield 70, 3) := by decide +kernel
theorem dX9_about_87 : decode cX9_about 87 = .ok (.ireturn, 1) := by decide +kernel
theorem dX9_about_88 : decode cX9_about 88 = .ok (.bipush (-2), 2) := by decide +kernel
theorem dX9_about_90 : decode cX9_about 90 = .ok (.ireturn, 1) := by decide +kernel
def f_X9_about (M : xm) (a1 : Int32) : Option (Int32) := (if a1 = (0 : Int32) then some (M 483 3) else (if a1 = (1 : Int32) then some (M 483 4) else (if a1 = (2 : Int32) then some (M 16 2) else (if a1 = (3 : Int32) then xb1 (f_X1_threadsBegun 1 M) (fun v6 => some v6) else (if a1 = (4 : Int32) then some (M 483 2) else (if a1 = (5 : Int32) then some (M 990 5) else some (-2 : Int32)))))))
set_option maxHeartbeats 4000000 in
set_option maxRecDepth 20000 in
theorem c_X9_about (l : Launch) (E : xE) (b : Nat) (M : xm) (a1 : Int32) {r : Int32} (hf : f_X9_about M a1 = some r) :
    xMet l E b NX yX9_about cX9_about 2 (some .int) (xR 3) [.ref (b + 0), .int a1] (cX E b M) (some (.int r)) True (cX E b M) := by
  refine xMet.ofW (own := RX9) (by decide) rfl (Nat.le_of_ble_eq_true rfl) ?_
  intro p e s m below meth c H locs ls C hm hl
  have hx := C.1.1
  have hb := C.1.2.1
  have hl : lv_has ls 2 [(0, .ref (b + 0)), (1, .int a1)] := hl
  unfold f_X9_about at hf
  refine lv_iload_n hx hb dX9_about_0 rfl (lv_at hl 1 rfl) ?_
  by_cases hs1 : a1 = (0 : Int32)
  · have hf := xif_t hs1 hf
    refine x_tabIn (tgt := 40) hx hb (0 : Int32) hs1 dX9_about_1 (by decide) (by decide) rfl (by decide) ?_
    refine lv_aload_n hx hb dX9_about_40 rfl (lv_at hl 0 rfl) ?_
    refine x_get C hm inX9 rfl 2 (by decide) tf_RX9_26 (cx_ColouredHeap LX_top) rfl dX9_about_41 ?_
    refine x_get C hm inX8 rfl 3 (by decide) tf_RX9_78 (cx_Told (LX_told 0 _ rfl)) rfl dX9_about_44 ?_
    cases hf
    exact x_iret C hm trivial dX9_about_47
  have hf := xif_f hs1 hf
  by_cases hs2 : a1 = (1 : Int32)
  · have hf := xif_t hs2 hf
    refine x_tabIn (tgt := 48) hx hb (1 : Int32) hs2 dX9_about_1 (by decide) (by decide) rfl (by decide) ?_
    refine lv_aload_n hx hb dX9_about_48 rfl (lv_at hl 0 rfl) ?_
    refine x_get C hm inX9 rfl 2 (by decide) tf_RX9_26 (cx_ColouredHeap LX_top) rfl dX9_about_49 ?_
    refine x_get C hm inX8 rfl 4 (by decide) tf_RX9_102 (cx_Told (LX_told 0 _ rfl)) rfl dX9_about_52 ?_
    cases hf
    exact x_iret C hm trivial dX9_about_55
  have hf := xif_f hs2 hf
  by_cases hs3 : a1 = (2 : Int32)
  · have hf := xif_t hs3 hf
    refine x_tabIn (tgt := 56) hx hb (2 : Int32) hs3 dX9_about_1 (by decide) (by decide) rfl (by decide) ?_
    refine lv_aload_n hx hb dX9_about_56 rfl (lv_at hl 0 rfl) ?_
    refine x_get C hm inX9 rfl 1 (by decide) tf_RX9_19 (cx_ColouredHeap LX_top) rfl dX9_about_57 ?_
    refine x_get C hm inX5 rfl 2 (by decide) tf_RX9_208 (cx_Steps (LX_steps 0 _ rfl)) rfl dX9_about_60 ?_
    cases hf
    exact x_iret C hm trivial dX9_about_63
  have hf := xif_f hs3 hf
  by_cases hs4 : a1 = (3 : Int32)
  · have hf := xif_t hs4 hf
    refine x_tabIn (tgt := 64) hx hb (3 : Int32) hs4 dX9_about_1 (by decide) (by decide) rfl (by decide) ?_
    refine lv_aload_n hx hb dX9_about_64 rfl (lv_at hl 0 rfl) ?_
    refine x_get C hm inX9 rfl 0 (by decide) tf_RX9_10 (cx_ColouredHeap LX_top) rfl dX9_about_65 ?_
    obtain ⟨v6, hq5, hf⟩ := xb1_e hf
    refine x_callVi (As := []) (rest := []) C hm (c_X1_threadsBegun l E b LX_heap M hq5) rfl (cx_Heap (LX_heap 0 _ rfl)) tc_X1_threadsBegun tm_RX9_298 ti_X1_threadsBegun ts_X1_threadsBegun tn_RX1 td_X1_threadsBegun rfl rfl ⟨Nat.le_of_ble_eq_true rfl, Nat.le_of_ble_eq_true rfl⟩ rfl hl.1 rfl (Nat.le_of_ble_eq_true rfl) ⟨Nat.zero_le _, Nat.zero_le _⟩ dX9_about_68 (fun H locs hP7 hm => ?_)
    cases hf
    exact x_iret C hm trivial dX9_about_71
  have hf := xif_f hs4 hf
  by_cases hs8 : a1 = (4 : Int32)
  · have hf := xif_t hs8 hf
    refine x_tabIn (tgt := 72) hx hb (4 : Int32) hs8 dX9_about_1 (by decide) (by decide) rfl (by decide) ?_
    refine lv_aload_n hx hb dX9_about_72 rfl (lv_at hl 0 rfl) ?_
    refine x_get C hm inX9 rfl 2 (by decide) tf_RX9_26 (cx_ColouredHeap LX_top) rfl dX9_about_73 ?_
    refine x_get C hm inX8 rfl 2 (by decide) tf_RX9_310 (cx_Told (LX_told 0 _ rfl)) rfl dX9_about_76 ?_
    cases hf
    exact x_iret C hm trivial dX9_about_79
  have hf := xif_f hs8 hf
  by_cases hs9 : a1 = (5 : Int32)
  · have hf := xif_t hs9 hf
    refine x_tabIn (tgt := 80) hx hb (5 : Int32) hs9 dX9_about_1 (by decide) (by decide) rfl (by decide) ?_
    refine lv_aload_n hx hb dX9_about_80 rfl (lv_at hl 0 rfl) ?_
    refine x_get C hm inX9 rfl 8 (by decide) tf_RX9_52 (cx_ColouredHeap LX_top) rfl dX9_about_81 ?_
    refine x_get C hm inX4 rfl 5 (by decide) tf_RX9_70 (cx_Reader (LX_reader 0 _ rfl)) rfl dX9_about_84 ?_
    cases hf
    exact x_iret C hm trivial dX9_about_87
  have hf := xif_f hs9 hf
  refine x_tabOut (tgt := 88) hx hb dX9_about_1 (by decide) (fun i hi => ?_) (by decide) ?_
  · match i, hi with
    | 0, _ => exact hs1
    | 1, _ => exact hs2
    | 2, _ => exact hs3
    | 3, _ => exact hs4
    | 4, _ => exact hs8
    | 5, _ => exact hs9
    | (i + 6), hi => exact absurd hi (by omega)
  refine lv_bipush (v := (-2 : Int32)) hx hb dX9_about_88 (by decide) ?_
  cases hf
  exact x_iret C hm trivial dX9_about_90
/-! ColouredHeap.agreesWhenFirst(I)Z -/
theorem dX9_agreesWhenFirst_0 : decode cX9_agreesWhenFirst 0 = .ok (.aload_n 0, 1) := by decide +kernel
theorem dX9_agreesWhenFirst_1 : decode cX9_agreesWhenFirst 1 = .ok (.getfield 39, 3) := by decide +kernel
theorem dX9_agreesWhenFirst_4 : decode cX9_agreesWhenFirst 4 = .ok (.aload_n 0, 1) := by decide +kernel
theorem dX9_agreesWhenFirst_5 : decode cX9_agreesWhenFirst 5 = .ok (.getfield 10, 3) := by decide +kernel
theorem dX9_agreesWhenFirst_8 : decode cX9_agreesWhenFirst 8 = .ok (.invokevirtual 261, 3) := by decide +kernel
theorem dX9_agreesWhenFirst_11 : decode cX9_agreesWhenFirst 11 = .ok (.aload_n 0, 1) := by decide +kernel
theorem dX9_agreesWhenFirst_12 : decode cX9_agreesWhenFirst 12 = .ok (.getfield 39, 3) := by decide +kernel
theorem dX9_agreesWhenFirst_15 : decode cX9_agreesWhenFirst 15 = .ok (.getfield 332, 3) := by decide +kernel
theorem dX9_agreesWhenFirst_18 : decode cX9_agreesWhenFirst 18 = .ok (.iconst 0, 1) := by decide +kernel
theorem dX9_agreesWhenFirst_19 : decode cX9_agreesWhenFirst 19 = .ok (.iaload, 1) := by decide +kernel
theorem dX9_agreesWhenFirst_20 : decode cX9_agreesWhenFirst 20 = .ok (.istore_n 2, 1) := by decide +kernel
theorem dX9_agreesWhenFirst_21 : decode cX9_agreesWhenFirst 21 = .ok (.aload_n 0, 1) := by decide +kernel
theorem dX9_agreesWhenFirst_22 : decode cX9_agreesWhenFirst 22 = .ok (.getfield 39, 3) := by decide +kernel
theorem dX9_agreesWhenFirst_25 : decode cX9_agreesWhenFirst 25 = .ok (.getfield 332, 3) := by decide +kernel
theorem dX9_agreesWhenFirst_28 : decode cX9_agreesWhenFirst 28 = .ok (.iconst 1, 1) := by decide +kernel
theorem dX9_agreesWhenFirst_29 : decode cX9_agreesWhenFirst 29 = .ok (.iaload, 1) := by decide +kernel
theorem dX9_agreesWhenFirst_30 : decode cX9_agreesWhenFirst 30 = .ok (.istore_n 3, 1) := by decide +kernel
theorem dX9_agreesWhenFirst_31 : decode cX9_agreesWhenFirst 31 = .ok (.aload_n 0, 1) := by decide +kernel
theorem dX9_agreesWhenFirst_32 : decode cX9_agreesWhenFirst 32 = .ok (.getfield 39, 3) := by decide +kernel
theorem dX9_agreesWhenFirst_35 : decode cX9_agreesWhenFirst 35 = .ok (.iload_n 1, 1) := by decide +kernel
theorem dX9_agreesWhenFirst_36 : decode cX9_agreesWhenFirst 36 = .ok (.iload_n 1, 1) := by decide +kernel
theorem dX9_agreesWhenFirst_37 : decode cX9_agreesWhenFirst 37 = .ok (.invokevirtual 149, 3) := by decide +kernel
theorem dX9_agreesWhenFirst_40 : decode cX9_agreesWhenFirst 40 = .ok (.pop, 1) := by decide +kernel
theorem dX9_agreesWhenFirst_41 : decode cX9_agreesWhenFirst 41 = .ok (.aload_n 0, 1) := by decide +kernel
theorem dX9_agreesWhenFirst_42 : decode cX9_agreesWhenFirst 42 = .ok (.getfield 39, 3) := by decide +kernel
theorem dX9_agreesWhenFirst_45 : decode cX9_agreesWhenFirst 45 = .ok (.iconst 1, 1) := by decide +kernel
theorem dX9_agreesWhenFirst_46 : decode cX9_agreesWhenFirst 46 = .ok (.iload_n 1, 1) := by decide +kernel
theorem dX9_agreesWhenFirst_47 : decode cX9_agreesWhenFirst 47 = .ok (.isub, 1) := by decide +kernel
theorem dX9_agreesWhenFirst_48 : decode cX9_agreesWhenFirst 48 = .ok (.iconst 1, 1) := by decide +kernel
theorem dX9_agreesWhenFirst_49 : decode cX9_agreesWhenFirst 49 = .ok (.iload_n 1, 1) := by decide +kernel
theorem dX9_agreesWhenFirst_50 : decode cX9_agreesWhenFirst 50 = .ok (.isub, 1) := by decide +kernel
theorem dX9_agreesWhenFirst_51 : decode cX9_agreesWhenFirst 51 = .ok (.invokevirtual 149, 3) := by decide +kernel
theorem dX9_agreesWhenFirst_54 : decode cX9_agreesWhenFirst 54 = .ok (.pop, 1) := by decide +kernel
theorem dX9_agreesWhenFirst_55 : decode cX9_agreesWhenFirst 55 = .ok (.iload_n 2, 1) := by decide +kernel
theorem dX9_agreesWhenFirst_56 : decode cX9_agreesWhenFirst 56 = .ok (.invokestatic 214, 3) := by decide +kernel
theorem dX9_agreesWhenFirst_59 : decode cX9_agreesWhenFirst 59 = .ok (.ifCond .eq 84, 3) := by decide +kernel
theorem dX9_agreesWhenFirst_62 : decode cX9_agreesWhenFirst 62 = .ok (.iload_n 3, 1) := by decide +kernel
theorem dX9_agreesWhenFirst_63 : decode cX9_agreesWhenFirst 63 = .ok (.invokestatic 214, 3) := by decide +kernel
theorem dX9_agreesWhenFirst_66 : decode cX9_agreesWhenFirst 66 = .ok (.ifCond .eq 77, 3) := by decide +kernel
theorem dX9_agreesWhenFirst_69 : decode cX9_agreesWhenFirst 69 = .ok (.aload_n 0, 1) := by decide +kernel
theorem dX9_agreesWhenFirst_70 : decode cX9_agreesWhenFirst 70 = .ok (.getfield 39, 3) := by decide +kernel
theorem dX9_agreesWhenFirst_73 : decode cX9_agreesWhenFirst 73 = .ok (.aload_n 0, 1) := by decide +kernel
theorem dX9_agreesWhenFirst_74 : decode cX9_agreesWhenFirst 74 = .ok (.getfield 39, 3) := by decide +kernel
theorem dX9_agreesWhenFirst_77 : decode cX9_agreesWhenFirst 77 = .ok (.getfield 139, 3) := by decide +kernel
theorem dX9_agreesWhenFirst_80 : decode cX9_agreesWhenFirst 80 = .ok (.iconst 0, 1) := by decide +kernel
theorem dX9_agreesWhenFirst_81 : decode cX9_agreesWhenFirst 81 = .ok (.iaload, 1) := by decide +kernel
theorem dX9_agreesWhenFirst_82 : decode cX9_agreesWhenFirst 82 = .ok (.invokevirtual 267, 3) := by decide +kernel
theorem dX9_agreesWhenFirst_85 : decode cX9_agreesWhenFirst 85 = .ok (.aload_n 0, 1) := by decide +kernel
theorem dX9_agreesWhenFirst_86 : decode cX9_agreesWhenFirst 86 = .ok (.getfield 39, 3) := by decide +kernel
theorem dX9_agreesWhenFirst_89 : decode cX9_agreesWhenFirst 89 = .ok (.aload_n 0, 1) := by decide +kernel
theorem dX9_agreesWhenFirst_90 : decode cX9_agreesWhenFirst 90 = .ok (.getfield 39, 3) := by decide +kernel
theorem dX9_agreesWhenFirst_93 : decode cX9_agreesWhenFirst 93 = .ok (.getfield 217, 3) := by decide +kernel
theorem dX9_agreesWhenFirst_96 : decode cX9_agreesWhenFirst 96 = .ok (.iload_n 2, 1) := by decide +kernel
theorem dX9_agreesWhenFirst_97 : decode cX9_agreesWhenFirst 97 = .ok (.iaload, 1) := by decide +kernel
theorem dX9_agreesWhenFirst_98 : decode cX9_agreesWhenFirst 98 = .ok (.invokevirtual 267, 3) := by decide +kernel
theorem dX9_agreesWhenFirst_101 : decode cX9_agreesWhenFirst 101 = .ok (.if_icmp .ne 42, 3) := by decide +kernel
theorem dX9_agreesWhenFirst_104 : decode cX9_agreesWhenFirst 104 = .ok (.aload_n 0, 1) := by decide +kernel
theorem dX9_agreesWhenFirst_105 : decode cX9_agreesWhenFirst 105 = .ok (.getfield 39, 3) := by decide +kernel
theorem dX9_agreesWhenFirst_108 : decode cX9_agreesWhenFirst 108 = .ok (.aload_n 0, 1) := by decide +kernel
theorem dX9_agreesWhenFirst_109 : decode cX9_agreesWhenFirst 109 = .ok (.getfield 39, 3) := by decide +kernel
theorem dX9_agreesWhenFirst_112 : decode cX9_agreesWhenFirst 112 = .ok (.getfield 139, 3) := by decide +kernel
theorem dX9_agreesWhenFirst_115 : decode cX9_agreesWhenFirst 115 = .ok (.iconst 1, 1) := by decide +kernel
theorem dX9_agreesWhenFirst_116 : decode cX9_agreesWhenFirst 116 = .ok (.iaload, 1) := by decide +kernel
theorem dX9_agreesWhenFirst_117 : decode cX9_agreesWhenFirst 117 = .ok (.invokevirtual 267, 3) := by decide +kernel
theorem dX9_agreesWhenFirst_120 : decode cX9_agreesWhenFirst 120 = .ok (.aload_n 0, 1) := by decide +kernel
theorem dX9_agreesWhenFirst_121 : decode cX9_agreesWhenFirst 121 = .ok (.getfield 39, 3) := by decide +kernel
theorem dX9_agreesWhenFirst_124 : decode cX9_agreesWhenFirst 124 = .ok (.aload_n 0, 1) := by decide +kernel
theorem dX9_agreesWhenFirst_125 : decode cX9_agreesWhenFirst 125 = .ok (.getfield 39, 3) := by decide +kernel
theorem dX9_agreesWhenFirst_128 : decode cX9_agreesWhenFirst 128 = .ok (.getfield 217, 3) := by decide +kernel
theorem dX9_agreesWhenFirst_131 : decode cX9_agreesWhenFirst 131 = .ok (.iload_n 3, 1) := by decide +kernel
theorem dX9_agreesWhenFirst_132 : decode cX9_agreesWhenFirst 132 = .ok (.iaload, 1) := by decide +kernel
theorem dX9_agreesWhenFirst_133 : decode cX9_agreesWhenFirst 133 = .ok (.invokevirtual 267, 3) := by decide +kernel
theorem dX9_agreesWhenFirst_136 : decode cX9_agreesWhenFirst 136 = .ok (.if_icmp .ne 7, 3) := by decide +kernel
theorem dX9_agreesWhenFirst_139 : decode cX9_agreesWhenFirst 139 = .ok (.iconst 1, 1) := by decide +kernel
theorem dX9_agreesWhenFirst_140 : decode cX9_agreesWhenFirst 140 = .ok (.goto 4, 3) := by decide +kernel
theorem dX9_agreesWhenFirst_143 : decode cX9_agreesWhenFirst 143 = .ok (.iconst 0, 1) := by decide +kernel
theorem dX9_agreesWhenFirst_144 : decode cX9_agreesWhenFirst 144 = .ok (.ireturn, 1) := by decide +kernel
def f_X9_agreesWhenFirst (M : xm) (a1 : Int32) : Option (Int32 × xm) := xb1 (f_X1_takeOver 971 1 M) (fun M2 => xlet (M2 (971 + 10) 0) (fun v4 => xlet (M2 (971 + 10) 1) (fun v5 => xb2 (f_X1_finishRead 971 M2 a1 a1) (fun v7 M8 => xb2 (f_X1_finishRead 971 M8 ((1 : Int32) - a1) ((1 : Int32) - a1)) (fun v11 M12 => (if (f_X9_isAddress v4) = 0 then some ((0 : Int32), M12) else (if (f_X9_isAddress v5) = 0 then some ((0 : Int32), M12) else xb1 (f_X1_leadsTo 971 M12 (M12 (971 + 8) 0)) (fun v19 => if xin v4 64 = true then xb1 (f_X1_leadsTo 971 M12 (M12 (971 + 1) (Int32.toNatClampNeg v4))) (fun v23 => (if v19 = v23 then xb1 (f_X1_leadsTo 971 M12 (M12 (971 + 8) 1)) (fun v27 => if xin v5 64 = true then xb1 (f_X1_leadsTo 971 M12 (M12 (971 + 1) (Int32.toNatClampNeg v5))) (fun v31 => (if v27 = v31 then some ((1 : Int32), M12) else some ((0 : Int32), M12))) else none) else some ((0 : Int32), M12))) else none))))))))
set_option maxHeartbeats 4000000 in
set_option maxRecDepth 20000 in
theorem c_X9_agreesWhenFirst (l : Launch) (E : xE) (b : Nat) (M : xm) (a1 : Int32) {r : Int32} {M' : xm} (hf : f_X9_agreesWhenFirst M a1 = some (r, M')) :
    xMet l E b NX yX9_agreesWhenFirst cX9_agreesWhenFirst 4 (some .boolean) (xR 6) [.ref (b + 0), .int a1] (cX E b M) (some (.int r)) (xbo r = true) (cX E b M') := by
  refine xMet.ofW (own := RX9) (by decide) rfl (Nat.le_of_ble_eq_true rfl) ?_
  intro p e s m below meth c H locs ls C hm hl
  have hx := C.1.1
  have hb := C.1.2.1
  have hl : lv_has ls 4 [(0, .ref (b + 0)), (1, .int a1)] := hl
  unfold f_X9_agreesWhenFirst at hf
  refine lv_aload_n hx hb dX9_agreesWhenFirst_0 rfl (lv_at hl 0 rfl) ?_
  refine x_get C hm inX9 rfl 6 (by decide) tf_RX9_39 (cx_ColouredHeap LX_top) rfl dX9_agreesWhenFirst_1 ?_
  refine lv_aload_n hx hb dX9_agreesWhenFirst_4 rfl (lv_at hl 0 rfl) ?_
  refine x_get C hm inX9 rfl 0 (by decide) tf_RX9_10 (cx_ColouredHeap LX_top) rfl dX9_agreesWhenFirst_5 ?_
  obtain ⟨M2, hq1, hf⟩ := xb1_e hf
  refine x_callVv (As := [.ref (b + 1)]) (rest := []) C hm (c_X1_takeOver l E b LX_trial LX_heap M hq1) rfl (cx_Heap (LX_trial 0 _ rfl)) tc_X1_takeOver tm_RX9_261 ti_X1_takeOver ts_X1_takeOver tn_RX1 td_X1_takeOver rfl rfl ⟨Nat.le_of_ble_eq_true rfl, Nat.le_of_ble_eq_true rfl⟩ rfl hl.1 rfl (Nat.le_of_ble_eq_true rfl) ⟨Nat.zero_le _, Nat.zero_le _⟩ dX9_agreesWhenFirst_8 (fun H locs hP3 hm => ?_)
  refine lv_aload_n hx hb dX9_agreesWhenFirst_11 rfl (lv_at hl 0 rfl) ?_
  refine x_get C hm inX9 rfl 6 (by decide) tf_RX9_39 (cx_ColouredHeap LX_top) rfl dX9_agreesWhenFirst_12 ?_
  refine x_get C hm inX1 rfl 9 (by decide) tf_RX9_332 (cx_Heap (LX_trial 0 _ rfl)) rfl dX9_agreesWhenFirst_15 ?_
  refine lv_iconst (v := (0 : Int32)) hx hb dX9_agreesWhenFirst_18 (by decide) ?_
  refine x_iald (j := 0) C hm (cx_I (LX_trial 10 _ rfl)) (by decide) dX9_agreesWhenFirst_19 (by decide) ?_
  refine lv_topi (fun v4 ev4 => ?_)
  have hf := xlet_e ev4 hf
  refine lv_istore_n (lv' := [(2, .int v4), (0, .ref (b + 0)), (1, .int a1)]) hx hb dX9_agreesWhenFirst_20 rfl hl (by decide) rfl (fun ls hl => ?_)
  refine lv_aload_n hx hb dX9_agreesWhenFirst_21 rfl (lv_at hl 1 rfl) ?_
  refine x_get C hm inX9 rfl 6 (by decide) tf_RX9_39 (cx_ColouredHeap LX_top) rfl dX9_agreesWhenFirst_22 ?_
  refine x_get C hm inX1 rfl 9 (by decide) tf_RX9_332 (cx_Heap (LX_trial 0 _ rfl)) rfl dX9_agreesWhenFirst_25 ?_
  refine lv_iconst (v := (1 : Int32)) hx hb dX9_agreesWhenFirst_28 (by decide) ?_
  refine x_iald (j := 1) C hm (cx_I (LX_trial 10 _ rfl)) (by decide) dX9_agreesWhenFirst_29 (by decide) ?_
  refine lv_topi (fun v5 ev5 => ?_)
  have hf := xlet_e ev5 hf
  refine lv_istore_n (lv' := [(3, .int v5), (2, .int v4), (0, .ref (b + 0)), (1, .int a1)]) hx hb dX9_agreesWhenFirst_30 rfl hl (by decide) rfl (fun ls hl => ?_)
  refine lv_aload_n hx hb dX9_agreesWhenFirst_31 rfl (lv_at hl 2 rfl) ?_
  refine x_get C hm inX9 rfl 6 (by decide) tf_RX9_39 (cx_ColouredHeap LX_top) rfl dX9_agreesWhenFirst_32 ?_
  refine lv_iload_n hx hb dX9_agreesWhenFirst_35 rfl (lv_at hl 3 rfl) ?_
  refine lv_iload_n hx hb dX9_agreesWhenFirst_36 rfl (lv_at hl 3 rfl) ?_
  obtain ⟨v7, M8, hq6, hf⟩ := xb2_e hf
  refine x_callVi (As := [.int a1, .int a1]) (rest := []) C hm (c_X1_finishRead l E b LX_trial M2 a1 a1 hq6) rfl (cx_Heap (LX_trial 0 _ rfl)) tc_X1_finishRead tm_RX9_149 ti_X1_finishRead ts_X1_finishRead tn_RX1 td_X1_finishRead rfl rfl ⟨Nat.le_of_ble_eq_true rfl, Nat.le_of_ble_eq_true rfl⟩ rfl hl.1 rfl (Nat.le_of_ble_eq_true rfl) ⟨Nat.zero_le _, Nat.zero_le _⟩ dX9_agreesWhenFirst_37 (fun H locs hP9 hm => ?_)
  refine lv_pop hx hb dX9_agreesWhenFirst_40 rfl ?_
  refine lv_aload_n hx hb dX9_agreesWhenFirst_41 rfl (lv_at hl 2 rfl) ?_
  refine x_get C hm inX9 rfl 6 (by decide) tf_RX9_39 (cx_ColouredHeap LX_top) rfl dX9_agreesWhenFirst_42 ?_
  refine lv_iconst (v := (1 : Int32)) hx hb dX9_agreesWhenFirst_45 (by decide) ?_
  refine lv_iload_n hx hb dX9_agreesWhenFirst_46 rfl (lv_at hl 3 rfl) ?_
  refine lv_isub hx hb dX9_agreesWhenFirst_47 ?_
  refine lv_iconst (v := (1 : Int32)) hx hb dX9_agreesWhenFirst_48 (by decide) ?_
  refine lv_iload_n hx hb dX9_agreesWhenFirst_49 rfl (lv_at hl 3 rfl) ?_
  refine lv_isub hx hb dX9_agreesWhenFirst_50 ?_
  obtain ⟨v11, M12, hq10, hf⟩ := xb2_e hf
  refine x_callVi (As := [.int ((1 : Int32) - a1), .int ((1 : Int32) - a1)]) (rest := []) C hm (c_X1_finishRead l E b LX_trial M8 ((1 : Int32) - a1) ((1 : Int32) - a1) hq10) rfl (cx_Heap (LX_trial 0 _ rfl)) tc_X1_finishRead tm_RX9_149 ti_X1_finishRead ts_X1_finishRead tn_RX1 td_X1_finishRead rfl rfl ⟨Nat.le_of_ble_eq_true rfl, Nat.le_of_ble_eq_true rfl⟩ rfl hl.1 rfl (Nat.le_of_ble_eq_true rfl) ⟨Nat.zero_le _, Nat.zero_le _⟩ dX9_agreesWhenFirst_51 (fun H locs hP13 hm => ?_)
  refine lv_pop hx hb dX9_agreesWhenFirst_54 rfl ?_
  refine lv_iload_n hx hb dX9_agreesWhenFirst_55 rfl (lv_at hl 1 rfl) ?_
  refine x_callSi (As := [.int v4]) (rest := []) C hm (c_X9_isAddress l E b M12 v4 rfl) tc_X9_isAddress tm_RX9_214 tz_X9_isAddress tn_RX9 td_X9_isAddress rfl rfl ⟨Nat.le_of_ble_eq_true rfl, Nat.le_of_ble_eq_true rfl⟩ rfl hl.1 rfl (Nat.le_of_ble_eq_true rfl) ⟨Nat.zero_le _, Nat.zero_le _⟩ dX9_agreesWhenFirst_56 (fun H locs hP14 hm => ?_)
  refine lv_if_eq (tgt := 143) hx hb dX9_agreesWhenFirst_59 (by decide) (fun hc15 => ?_) (fun hc15 => ?_)
  · have hf := xif_t hc15 hf
    refine lv_iconst (v := (0 : Int32)) hx hb dX9_agreesWhenFirst_143 (by decide) ?_
    cases hf
    exact x_zret C hm (by decide) (by decide) dX9_agreesWhenFirst_144
  have hf := xif_f hc15 hf
  refine lv_iload_n hx hb dX9_agreesWhenFirst_62 rfl (lv_at hl 0 rfl) ?_
  refine x_callSi (As := [.int v5]) (rest := []) C hm (c_X9_isAddress l E b M12 v5 rfl) tc_X9_isAddress tm_RX9_214 tz_X9_isAddress tn_RX9 td_X9_isAddress rfl rfl ⟨Nat.le_of_ble_eq_true rfl, Nat.le_of_ble_eq_true rfl⟩ rfl hl.1 rfl (Nat.le_of_ble_eq_true rfl) ⟨Nat.zero_le _, Nat.zero_le _⟩ dX9_agreesWhenFirst_63 (fun H locs hP16 hm => ?_)
  refine lv_if_eq (tgt := 143) hx hb dX9_agreesWhenFirst_66 (by decide) (fun hc17 => ?_) (fun hc17 => ?_)
  · have hf := xif_t hc17 hf
    refine lv_iconst (v := (0 : Int32)) hx hb dX9_agreesWhenFirst_143 (by decide) ?_
    cases hf
    exact x_zret C hm (by decide) (by decide) dX9_agreesWhenFirst_144
  have hf := xif_f hc17 hf
  refine lv_aload_n hx hb dX9_agreesWhenFirst_69 rfl (lv_at hl 2 rfl) ?_
  refine x_get C hm inX9 rfl 6 (by decide) tf_RX9_39 (cx_ColouredHeap LX_top) rfl dX9_agreesWhenFirst_70 ?_
  refine lv_aload_n hx hb dX9_agreesWhenFirst_73 rfl (lv_at hl 2 rfl) ?_
  refine x_get C hm inX9 rfl 6 (by decide) tf_RX9_39 (cx_ColouredHeap LX_top) rfl dX9_agreesWhenFirst_74 ?_
  refine x_get C hm inX1 rfl 7 (by decide) tf_RX9_139 (cx_Heap (LX_trial 0 _ rfl)) rfl dX9_agreesWhenFirst_77 ?_
  refine lv_iconst (v := (0 : Int32)) hx hb dX9_agreesWhenFirst_80 (by decide) ?_
  refine x_iald (j := 0) C hm (cx_I (LX_trial 8 _ rfl)) (by decide) dX9_agreesWhenFirst_81 (by decide) ?_
  obtain ⟨v19, hq18, hf⟩ := xb1_e hf
  refine x_callVi (As := [.int (M12 (971 + 8) 0)]) (rest := []) C hm (c_X1_leadsTo l E b LX_trial M12 (M12 (971 + 8) 0) hq18) rfl (cx_Heap (LX_trial 0 _ rfl)) tc_X1_leadsTo tm_RX9_267 ti_X1_leadsTo ts_X1_leadsTo tn_RX1 td_X1_leadsTo rfl rfl ⟨Nat.le_of_ble_eq_true rfl, Nat.le_of_ble_eq_true rfl⟩ rfl hl.1 rfl (Nat.le_of_ble_eq_true rfl) ⟨Nat.zero_le _, Nat.zero_le _⟩ dX9_agreesWhenFirst_82 (fun H locs hP20 hm => ?_)
  refine lv_aload_n hx hb dX9_agreesWhenFirst_85 rfl (lv_at hl 2 rfl) ?_
  refine x_get C hm inX9 rfl 6 (by decide) tf_RX9_39 (cx_ColouredHeap LX_top) rfl dX9_agreesWhenFirst_86 ?_
  refine lv_aload_n hx hb dX9_agreesWhenFirst_89 rfl (lv_at hl 2 rfl) ?_
  refine x_get C hm inX9 rfl 6 (by decide) tf_RX9_39 (cx_ColouredHeap LX_top) rfl dX9_agreesWhenFirst_90 ?_
  refine x_get C hm inX1 rfl 0 (by decide) tf_RX9_217 (cx_Heap (LX_trial 0 _ rfl)) rfl dX9_agreesWhenFirst_93 ?_
  refine lv_iload_n hx hb dX9_agreesWhenFirst_96 rfl (lv_at hl 1 rfl) ?_
  obtain ⟨hi21, hf⟩ := xif_s hf
  refine x_iald (j := (Int32.toNatClampNeg v4)) C hm (cx_I (LX_trial 1 _ rfl)) hi21 dX9_agreesWhenFirst_97 rfl ?_
  obtain ⟨v23, hq22, hf⟩ := xb1_e hf
  refine x_callVi (As := [.int (M12 (971 + 1) (Int32.toNatClampNeg v4))]) (rest := [.int v19]) C hm (c_X1_leadsTo l E b LX_trial M12 (M12 (971 + 1) (Int32.toNatClampNeg v4)) hq22) rfl (cx_Heap (LX_trial 0 _ rfl)) tc_X1_leadsTo tm_RX9_267 ti_X1_leadsTo ts_X1_leadsTo tn_RX1 td_X1_leadsTo rfl rfl ⟨Nat.le_of_ble_eq_true rfl, Nat.le_of_ble_eq_true rfl⟩ rfl hl.1 rfl (Nat.le_of_ble_eq_true rfl) ⟨Nat.zero_le _, Nat.zero_le _⟩ dX9_agreesWhenFirst_98 (fun H locs hP24 hm => ?_)
  refine lv_icmp_ne (tgt := 143) hx hb dX9_agreesWhenFirst_101 (by decide) (fun hc25 => ?_) (fun hc25 => ?_)
  · have hf := xif_f hc25 hf
    refine lv_iconst (v := (0 : Int32)) hx hb dX9_agreesWhenFirst_143 (by decide) ?_
    cases hf
    exact x_zret C hm (by decide) (by decide) dX9_agreesWhenFirst_144
  have hf := xif_t hc25 hf
  refine lv_aload_n hx hb dX9_agreesWhenFirst_104 rfl (lv_at hl 2 rfl) ?_
  refine x_get C hm inX9 rfl 6 (by decide) tf_RX9_39 (cx_ColouredHeap LX_top) rfl dX9_agreesWhenFirst_105 ?_
  refine lv_aload_n hx hb dX9_agreesWhenFirst_108 rfl (lv_at hl 2 rfl) ?_
  refine x_get C hm inX9 rfl 6 (by decide) tf_RX9_39 (cx_ColouredHeap LX_top) rfl dX9_agreesWhenFirst_109 ?_
  refine x_get C hm inX1 rfl 7 (by decide) tf_RX9_139 (cx_Heap (LX_trial 0 _ rfl)) rfl dX9_agreesWhenFirst_112 ?_
  refine lv_iconst (v := (1 : Int32)) hx hb dX9_agreesWhenFirst_115 (by decide) ?_
  refine x_iald (j := 1) C hm (cx_I (LX_trial 8 _ rfl)) (by decide) dX9_agreesWhenFirst_116 (by decide) ?_
  obtain ⟨v27, hq26, hf⟩ := xb1_e hf
  refine x_callVi (As := [.int (M12 (971 + 8) 1)]) (rest := []) C hm (c_X1_leadsTo l E b LX_trial M12 (M12 (971 + 8) 1) hq26) rfl (cx_Heap (LX_trial 0 _ rfl)) tc_X1_leadsTo tm_RX9_267 ti_X1_leadsTo ts_X1_leadsTo tn_RX1 td_X1_leadsTo rfl rfl ⟨Nat.le_of_ble_eq_true rfl, Nat.le_of_ble_eq_true rfl⟩ rfl hl.1 rfl (Nat.le_of_ble_eq_true rfl) ⟨Nat.zero_le _, Nat.zero_le _⟩ dX9_agreesWhenFirst_117 (fun H locs hP28 hm => ?_)
  refine lv_aload_n hx hb dX9_agreesWhenFirst_120 rfl (lv_at hl 2 rfl) ?_
  refine x_get C hm inX9 rfl 6 (by decide) tf_RX9_39 (cx_ColouredHeap LX_top) rfl dX9_agreesWhenFirst_121 ?_
  refine lv_aload_n hx hb dX9_agreesWhenFirst_124 rfl (lv_at hl 2 rfl) ?_
  refine x_get C hm inX9 rfl 6 (by decide) tf_RX9_39 (cx_ColouredHeap LX_top) rfl dX9_agreesWhenFirst_125 ?_
  refine x_get C hm inX1 rfl 0 (by decide) tf_RX9_217 (cx_Heap (LX_trial 0 _ rfl)) rfl dX9_agreesWhenFirst_128 ?_
  refine lv_iload_n hx hb dX9_agreesWhenFirst_131 rfl (lv_at hl 0 rfl) ?_
  obtain ⟨hi29, hf⟩ := xif_s hf
  refine x_iald (j := (Int32.toNatClampNeg v5)) C hm (cx_I (LX_trial 1 _ rfl)) hi29 dX9_agreesWhenFirst_132 rfl ?_
  obtain ⟨v31, hq30, hf⟩ := xb1_e hf
  refine x_callVi (As := [.int (M12 (971 + 1) (Int32.toNatClampNeg v5))]) (rest := [.int v27]) C hm (c_X1_leadsTo l E b LX_trial M12 (M12 (971 + 1) (Int32.toNatClampNeg v5)) hq30) rfl (cx_Heap (LX_trial 0 _ rfl)) tc_X1_leadsTo tm_RX9_267 ti_X1_leadsTo ts_X1_leadsTo tn_RX1 td_X1_leadsTo rfl rfl ⟨Nat.le_of_ble_eq_true rfl, Nat.le_of_ble_eq_true rfl⟩ rfl hl.1 rfl (Nat.le_of_ble_eq_true rfl) ⟨Nat.zero_le _, Nat.zero_le _⟩ dX9_agreesWhenFirst_133 (fun H locs hP32 hm => ?_)
  refine lv_icmp_ne (tgt := 143) hx hb dX9_agreesWhenFirst_136 (by decide) (fun hc33 => ?_) (fun hc33 => ?_)
  · have hf := xif_f hc33 hf
    refine lv_iconst (v := (0 : Int32)) hx hb dX9_agreesWhenFirst_143 (by decide) ?_
    cases hf
    exact x_zret C hm (by decide) (by decide) dX9_agreesWhenFirst_144
  have hf := xif_t hc33 hf
  refine lv_iconst (v := (1 : Int32)) hx hb dX9_agreesWhenFirst_139 (by decide) ?_
  refine lv_goto (tgt := 144) hx hb dX9_agreesWhenFirst_140 (by decide) ?_
  cases hf
  exact x_zret C hm (by decide) (by decide) dX9_agreesWhenFirst_144
/-! ColouredHeap.agreesWithSaid(LColouredHeap$Text;)Z -/
theorem dX9_agreesWithSaid_0 : decode cX9_agreesWithSaid 0 = .ok (.iconst 0, 1) := by decide +kernel
theorem dX9_agreesWithSaid_1 : decode cX9_agreesWithSaid 1 = .ok (.istore_n 2, 1) := by decide +kernel
theorem dX9_agreesWithSaid_2 : decode cX9_agreesWithSaid 2 = .ok (.iload_n 2, 1) := by decide +kernel
theorem dX9_agreesWithSaid_3 : decode cX9_agreesWithSaid 3 = .ok (.bipush 8, 2) := by decide +kernel
theorem dX9_agreesWithSaid_5 : decode cX9_agreesWithSaid 5 = .ok (.if_icmp .ge 66, 3) := by decide +kernel
theorem dX9_agreesWithSaid_8 : decode cX9_agreesWithSaid 8 = .ok (.iload_n 2, 1) := by decide +kernel
theorem dX9_agreesWithSaid_9 : decode cX9_agreesWithSaid 9 = .ok (.aload_n 0, 1) := by decide +kernel
theorem dX9_agreesWithSaid_10 : decode cX9_agreesWithSaid 10 = .ok (.getfield 26, 3) := by decide +kernel
theorem dX9_agreesWithSaid_13 : decode cX9_agreesWithSaid 13 = .ok (.getfield 310, 3) := by decide +kernel
theorem dX9_agreesWithSaid_16 : decode cX9_agreesWithSaid 16 = .ok (.if_icmp .ge 55, 3) := by decide +kernel
theorem dX9_agreesWithSaid_19 : decode cX9_agreesWithSaid 19 = .ok (.aload_n 0, 1) := by decide +kernel
theorem dX9_agreesWithSaid_20 : decode cX9_agreesWithSaid 20 = .ok (.getfield 59, 3) := by decide +kernel
theorem dX9_agreesWithSaid_23 : decode cX9_agreesWithSaid 23 = .ok (.aload_n 1, 1) := by decide +kernel
theorem dX9_agreesWithSaid_24 : decode cX9_agreesWithSaid 24 = .ok (.aload_n 0, 1) := by decide +kernel
theorem dX9_agreesWithSaid_25 : decode cX9_agreesWithSaid 25 = .ok (.getfield 10, 3) := by decide +kernel
theorem dX9_agreesWithSaid_28 : decode cX9_agreesWithSaid 28 = .ok (.aload_n 0, 1) := by decide +kernel
theorem dX9_agreesWithSaid_29 : decode cX9_agreesWithSaid 29 = .ok (.getfield 26, 3) := by decide +kernel
theorem dX9_agreesWithSaid_32 : decode cX9_agreesWithSaid 32 = .ok (.getfield 313, 3) := by decide +kernel
theorem dX9_agreesWithSaid_35 : decode cX9_agreesWithSaid 35 = .ok (.iload_n 2, 1) := by decide +kernel
theorem dX9_agreesWithSaid_36 : decode cX9_agreesWithSaid 36 = .ok (.iaload, 1) := by decide +kernel
theorem dX9_agreesWithSaid_37 : decode cX9_agreesWithSaid 37 = .ok (.invokevirtual 235, 3) := by decide +kernel
theorem dX9_agreesWithSaid_40 : decode cX9_agreesWithSaid 40 = .ok (.istore_n 3, 1) := by decide +kernel
theorem dX9_agreesWithSaid_41 : decode cX9_agreesWithSaid 41 = .ok (.iload_n 3, 1) := by decide +kernel
theorem dX9_agreesWithSaid_42 : decode cX9_agreesWithSaid 42 = .ok (.aload_n 0, 1) := by decide +kernel
theorem dX9_agreesWithSaid_43 : decode cX9_agreesWithSaid 43 = .ok (.getfield 26, 3) := by decide +kernel
theorem dX9_agreesWithSaid_46 : decode cX9_agreesWithSaid 46 = .ok (.getfield 316, 3) := by decide +kernel
theorem dX9_agreesWithSaid_49 : decode cX9_agreesWithSaid 49 = .ok (.iload_n 2, 1) := by decide +kernel
theorem dX9_agreesWithSaid_50 : decode cX9_agreesWithSaid 50 = .ok (.iaload, 1) := by decide +kernel
theorem dX9_agreesWithSaid_51 : decode cX9_agreesWithSaid 51 = .ok (.iconst 1, 1) := by decide +kernel
theorem dX9_agreesWithSaid_52 : decode cX9_agreesWithSaid 52 = .ok (.if_icmp .ne 7, 3) := by decide +kernel
theorem dX9_agreesWithSaid_55 : decode cX9_agreesWithSaid 55 = .ok (.iconst 1, 1) := by decide +kernel
theorem dX9_agreesWithSaid_56 : decode cX9_agreesWithSaid 56 = .ok (.goto 4, 3) := by decide +kernel
theorem dX9_agreesWithSaid_59 : decode cX9_agreesWithSaid 59 = .ok (.iconst 0, 1) := by decide +kernel
theorem dX9_agreesWithSaid_60 : decode cX9_agreesWithSaid 60 = .ok (.if_icmp .eq 5, 3) := by decide +kernel
theorem dX9_agreesWithSaid_63 : decode cX9_agreesWithSaid 63 = .ok (.iconst 0, 1) := by decide +kernel
theorem dX9_agreesWithSaid_64 : decode cX9_agreesWithSaid 64 = .ok (.ireturn, 1) := by decide +kernel
theorem dX9_agreesWithSaid_65 : decode cX9_agreesWithSaid 65 = .ok (.iinc 2 1, 3) := by decide +kernel
theorem dX9_agreesWithSaid_68 : decode cX9_agreesWithSaid 68 = .ok (.goto (-66), 3) := by decide +kernel
theorem dX9_agreesWithSaid_71 : decode cX9_agreesWithSaid 71 = .ok (.iconst 1, 1) := by decide +kernel
theorem dX9_agreesWithSaid_72 : decode cX9_agreesWithSaid 72 = .ok (.ireturn, 1) := by decide +kernel
def g_X9_agreesWithSaid_2 (o1 : Nat) : Nat → xm → Int32 → Option ((xm) ⊕ (xm))
  | 0, _, _ => none
  | n + 1, M3, x2 => (if (8 : Int32) ≤ x2 then some (Sum.inr M3) else (if (M3 483 2) ≤ x2 then some (Sum.inr M3) else if xin x2 8 = true then xb2 (f_X3_picked (some o1) 1 M3 (M3 (483 + 1) (Int32.toNatClampNeg x2))) (fun v8 M9 => (if (M9 (483 + 2) (Int32.toNatClampNeg x2)) = (1 : Int32) then (if v8 = (1 : Int32) then xlet (x2 + (1 : Int32)) (fun v15 => g_X9_agreesWithSaid_2 o1 n M9 v15) else some (Sum.inl M9)) else (if v8 = (0 : Int32) then xlet (x2 + (1 : Int32)) (fun v13 => g_X9_agreesWithSaid_2 o1 n M9 v13) else some (Sum.inl M9)))) else none))
def f_X9_agreesWithSaid (u1 : Nat) (M : xm) : Option (Int32 × xm) := xs2 (g_X9_agreesWithSaid_2 u1 xfuel M (0 : Int32)) (fun q16 => some ((0 : Int32), q16)) (fun q16 => some ((1 : Int32), q16))
set_option maxHeartbeats 4000000 in
set_option maxRecDepth 20000 in
theorem j_X9_agreesWithSaid_2 {p : Program} {l : Launch} {e : Env} {s : State} {m : MethodId} {args : Array Value} {below : List Frame} {meth : Method} {c : Code} {Q : State → Prop} {E : xE} {b : Nat} (C : xC p s m args meth c cX9_agreesWithSaid 4 RX9 (some .boolean) E b) {o1 : Nat} (L_o1 : lat o1 pText) {r : (xm) ⊕ (xm)}
    (kx0 : ∀ q : xm, r = Sum.inl q → ∀ (H : Heap) (locs : List Loc) (ls : Array Slot), xM E b NX (cX E b q) s.heap H locs → lv_has ls 4 [] → W p l e (xR 5) s m args below meth c H locs 0 0 Q (F0 m 63 ls []))
    (kx1 : ∀ q : xm, r = Sum.inr q → ∀ (H : Heap) (locs : List Loc) (ls : Array Slot), xM E b NX (cX E b q) s.heap H locs → lv_has ls 4 [] → W p l e (xR 5) s m args below meth c H locs 0 0 Q (F0 m 71 ls [])) :
    ∀ (n : Nat) (M3 : xm) (x2 : Int32) (H : Heap) (locs : List Loc) (ls : Array Slot), g_X9_agreesWithSaid_2 o1 n M3 x2 = some r → xM E b NX (cX E b M3) s.heap H locs → lv_has ls 4 [(0, .ref (b + 0)), (1, .ref (b + o1)), (2, .int x2)] → W p l e (xR 5) s m args below meth c H locs 0 0 Q (F0 m 2 ls []) := by
  have hx := C.1.1
  have hb := C.1.2.1
  intro n
  induction n with
  | zero =>
    intro M3 x2 H locs ls hf hm hl
    rw [g_X9_agreesWithSaid_2] at hf
    cases hf
  | succ n ih =>
    intro M3 x2 H locs ls hf hm hl
    rw [g_X9_agreesWithSaid_2] at hf
    refine lv_iload_n hx hb dX9_agreesWithSaid_2 rfl (lv_at hl 2 rfl) ?_
    refine lv_bipush (v := (8 : Int32)) hx hb dX9_agreesWithSaid_3 (by decide) ?_
    refine lv_icmp_ge (tgt := 71) hx hb dX9_agreesWithSaid_5 (by decide) (fun hc4 => ?_) (fun hc4 => ?_)
    · have hf := xif_t hc4 hf
      cases hf
      exact kx1 M3 rfl H locs ls hm (lv_sub hl [] rfl)
    have hf := xif_f hc4 hf
    refine lv_iload_n hx hb dX9_agreesWithSaid_8 rfl (lv_at hl 2 rfl) ?_
    refine lv_aload_n hx hb dX9_agreesWithSaid_9 rfl (lv_at hl 0 rfl) ?_
    refine x_get C hm inX9 rfl 2 (by decide) tf_RX9_26 (cx_ColouredHeap LX_top) rfl dX9_agreesWithSaid_10 ?_
    refine x_get C hm inX8 rfl 2 (by decide) tf_RX9_310 (cx_Told (LX_told 0 _ rfl)) rfl dX9_agreesWithSaid_13 ?_
    refine lv_icmp_ge (tgt := 71) hx hb dX9_agreesWithSaid_16 (by decide) (fun hc5 => ?_) (fun hc5 => ?_)
    · have hf := xif_t hc5 hf
      cases hf
      exact kx1 M3 rfl H locs ls hm (lv_sub hl [] rfl)
    have hf := xif_f hc5 hf
    refine lv_aload_n hx hb dX9_agreesWithSaid_19 rfl (lv_at hl 0 rfl) ?_
    refine x_get C hm inX9 rfl 9 (by decide) tf_RX9_59 (cx_ColouredHeap LX_top) rfl dX9_agreesWithSaid_20 ?_
    refine lv_aload_n hx hb dX9_agreesWithSaid_23 rfl (lv_at hl 1 rfl) ?_
    refine lv_aload_n hx hb dX9_agreesWithSaid_24 rfl (lv_at hl 0 rfl) ?_
    refine x_get C hm inX9 rfl 0 (by decide) tf_RX9_10 (cx_ColouredHeap LX_top) rfl dX9_agreesWithSaid_25 ?_
    refine lv_aload_n hx hb dX9_agreesWithSaid_28 rfl (lv_at hl 0 rfl) ?_
    refine x_get C hm inX9 rfl 2 (by decide) tf_RX9_26 (cx_ColouredHeap LX_top) rfl dX9_agreesWithSaid_29 ?_
    refine x_get C hm inX8 rfl 0 (by decide) tf_RX9_313 (cx_Told (LX_told 0 _ rfl)) rfl dX9_agreesWithSaid_32 ?_
    refine lv_iload_n hx hb dX9_agreesWithSaid_35 rfl (lv_at hl 2 rfl) ?_
    obtain ⟨hi6, hf⟩ := xif_s hf
    refine x_iald (j := (Int32.toNatClampNeg x2)) C hm (cx_I (LX_told 1 _ rfl)) hi6 dX9_agreesWithSaid_36 rfl ?_
    obtain ⟨v8, M9, hq7, hf⟩ := xb2_e hf
    refine x_callVi (As := [.ref (b + o1), .ref (b + 1), .int (M3 (483 + 1) (Int32.toNatClampNeg x2))]) (rest := []) C hm (c_X3_picked l E b (fun k h => by cases h; exact L_o1) LX_heap M3 (M3 (483 + 1) (Int32.toNatClampNeg x2)) hq7) rfl (cx_Law (LX_law 0 _ rfl)) tc_X3_picked tm_RX9_235 ti_X3_picked ts_X3_picked tn_RX3 td_X3_picked rfl rfl ⟨Nat.le_of_ble_eq_true rfl, Nat.le_of_ble_eq_true rfl⟩ rfl hl.1 rfl (Nat.le_of_ble_eq_true rfl) ⟨Nat.zero_le _, Nat.zero_le _⟩ dX9_agreesWithSaid_37 (fun H locs hP10 hm => ?_)
    refine lv_istore_n (lv' := [(3, .int v8), (0, .ref (b + 0)), (1, .ref (b + o1)), (2, .int x2)]) hx hb dX9_agreesWithSaid_40 rfl hl (by decide) rfl (fun ls hl => ?_)
    refine lv_iload_n hx hb dX9_agreesWithSaid_41 rfl (lv_at hl 0 rfl) ?_
    refine lv_aload_n hx hb dX9_agreesWithSaid_42 rfl (lv_at hl 1 rfl) ?_
    refine x_get C hm inX9 rfl 2 (by decide) tf_RX9_26 (cx_ColouredHeap LX_top) rfl dX9_agreesWithSaid_43 ?_
    refine x_get C hm inX8 rfl 1 (by decide) tf_RX9_316 (cx_Told (LX_told 0 _ rfl)) rfl dX9_agreesWithSaid_46 ?_
    refine lv_iload_n hx hb dX9_agreesWithSaid_49 rfl (lv_at hl 3 rfl) ?_
    refine x_iald (j := (Int32.toNatClampNeg x2)) C hm (cx_I (LX_told 2 _ rfl)) hi6 dX9_agreesWithSaid_50 rfl ?_
    refine lv_iconst (v := (1 : Int32)) hx hb dX9_agreesWithSaid_51 (by decide) ?_
    refine lv_icmp_ne (tgt := 59) hx hb dX9_agreesWithSaid_52 (by decide) (fun hc11 => ?_) (fun hc11 => ?_)
    · have hf := xif_f hc11 hf
      refine lv_iconst (v := (0 : Int32)) hx hb dX9_agreesWithSaid_59 (by decide) ?_
      refine lv_icmp_eq (tgt := 65) hx hb dX9_agreesWithSaid_60 (by decide) (fun hc12 => ?_) (fun hc12 => ?_)
      rotate_left
      · have hf := xif_f hc12 hf
        cases hf
        exact kx0 M9 rfl H locs ls hm (lv_sub hl [] rfl)
      have hf := xif_t hc12 hf
      obtain ⟨v13, ev13, hf⟩ := xlet_x hf
      refine lv_iinc (v := v13) (lv' := [(2, .int v13), (3, .int v8), (0, .ref (b + 0)), (1, .ref (b + o1))]) hx hb dX9_agreesWithSaid_65 hl (k := 3) rfl (by rw [ev13]; rfl) (by decide) rfl (fun ls hl => ?_)
      refine lv_goto (tgt := 2) hx hb dX9_agreesWithSaid_68 (by decide) ?_
      exact ih M9 v13 H locs ls hf hm (lv_sub hl [2, 3, 0] rfl)
    have hf := xif_t hc11 hf
    refine lv_iconst (v := (1 : Int32)) hx hb dX9_agreesWithSaid_55 (by decide) ?_
    refine lv_goto (tgt := 60) hx hb dX9_agreesWithSaid_56 (by decide) ?_
    refine lv_icmp_eq (tgt := 65) hx hb dX9_agreesWithSaid_60 (by decide) (fun hc14 => ?_) (fun hc14 => ?_)
    rotate_left
    · have hf := xif_f hc14 hf
      cases hf
      exact kx0 M9 rfl H locs ls hm (lv_sub hl [] rfl)
    have hf := xif_t hc14 hf
    obtain ⟨v15, ev15, hf⟩ := xlet_x hf
    refine lv_iinc (v := v15) (lv' := [(2, .int v15), (3, .int v8), (0, .ref (b + 0)), (1, .ref (b + o1))]) hx hb dX9_agreesWithSaid_65 hl (k := 3) rfl (by rw [ev15]; rfl) (by decide) rfl (fun ls hl => ?_)
    refine lv_goto (tgt := 2) hx hb dX9_agreesWithSaid_68 (by decide) ?_
    exact ih M9 v15 H locs ls hf hm (lv_sub hl [2, 3, 0] rfl)
set_option maxHeartbeats 4000000 in
set_option maxRecDepth 20000 in
theorem c_X9_agreesWithSaid (l : Launch) (E : xE) (b : Nat) {u1 : Nat} (L_u1 : lat u1 pText) (M : xm) {r : Int32} {M' : xm} (hf : f_X9_agreesWithSaid u1 M = some (r, M')) :
    xMet l E b NX yX9_agreesWithSaid cX9_agreesWithSaid 4 (some .boolean) (xR 5) [.ref (b + 0), .ref (b + u1)] (cX E b M) (some (.int r)) (xbo r = true) (cX E b M') := by
  refine xMet.ofW (own := RX9) (by decide) rfl (Nat.le_of_ble_eq_true rfl) ?_
  intro p e s m below meth c H locs ls C hm hl
  have hx := C.1.1
  have hb := C.1.2.1
  have hl : lv_has ls 4 [(0, .ref (b + 0)), (1, .ref (b + u1))] := hl
  unfold f_X9_agreesWithSaid at hf
  refine lv_iconst (v := (0 : Int32)) hx hb dX9_agreesWithSaid_0 (by decide) ?_
  refine lv_istore_n (lv' := [(2, .int (0 : Int32)), (0, .ref (b + 0)), (1, .ref (b + u1))]) hx hb dX9_agreesWithSaid_1 rfl hl (by decide) rfl (fun ls hl => ?_)
  rcases xs2_e hf with ⟨q16, hq, hf⟩ | ⟨q16, hq, hf⟩
  · refine j_X9_agreesWithSaid_2 C L_u1 (r := Sum.inl q16) (fun q2 hr H locs ls hm hl => ?_) (fun q2 hr => by cases hr) xfuel M (0 : Int32) H locs ls hq hm (lv_sub hl [1, 2, 0] rfl)
    cases hr
    refine lv_iconst (v := (0 : Int32)) hx hb dX9_agreesWithSaid_63 (by decide) ?_
    cases hf
    exact x_zret C hm (by decide) (by decide) dX9_agreesWithSaid_64
  · refine j_X9_agreesWithSaid_2 C L_u1 (r := Sum.inr q16) (fun q2 hr => by cases hr) (fun q2 hr H locs ls hm hl => ?_) xfuel M (0 : Int32) H locs ls hq hm (lv_sub hl [1, 2, 0] rfl)
    cases hr
    refine lv_iconst (v := (1 : Int32)) hx hb dX9_agreesWithSaid_71 (by decide) ?_
    cases hf
    exact x_zret C hm (by decide) (by decide) dX9_agreesWithSaid_72
/-! ColouredHeap.alike()I -/
theorem dX9_alike_0 : decode cX9_alike 0 = .ok (.aload_n 0, 1) := by decide +kernel
theorem dX9_alike_1 : decode cX9_alike 1 = .ok (.getfield 10, 3) := by decide +kernel
theorem dX9_alike_4 : decode cX9_alike 4 = .ok (.invokevirtual 298, 3) := by decide +kernel
theorem dX9_alike_7 : decode cX9_alike 7 = .ok (.iconst 3, 1) := by decide +kernel
theorem dX9_alike_8 : decode cX9_alike 8 = .ok (.if_icmp .eq 5, 3) := by decide +kernel
theorem dX9_alike_11 : decode cX9_alike 11 = .ok (.iconst (-1), 1) := by decide +kernel
theorem dX9_alike_12 : decode cX9_alike 12 = .ok (.ireturn, 1) := by decide +kernel
theorem dX9_alike_13 : decode cX9_alike 13 = .ok (.aload_n 0, 1) := by decide +kernel
theorem dX9_alike_14 : decode cX9_alike 14 = .ok (.iconst 0, 1) := by decide +kernel
theorem dX9_alike_15 : decode cX9_alike 15 = .ok (.invokevirtual 301, 3) := by decide +kernel
theorem dX9_alike_18 : decode cX9_alike 18 = .ok (.ifCond .eq 15, 3) := by decide +kernel
theorem dX9_alike_21 : decode cX9_alike 21 = .ok (.aload_n 0, 1) := by decide +kernel
theorem dX9_alike_22 : decode cX9_alike 22 = .ok (.iconst 1, 1) := by decide +kernel
theorem dX9_alike_23 : decode cX9_alike 23 = .ok (.invokevirtual 301, 3) := by decide +kernel
theorem dX9_alike_26 : decode cX9_alike 26 = .ok (.ifCond .eq 7, 3) := by decide +kernel
theorem dX9_alike_29 : decode cX9_alike 29 = .ok (.iconst 1, 1) := by decide +kernel
theorem dX9_alike_30 : decode cX9_alike 30 = .ok (.goto 4, 3) := by decide +kernel
theorem dX9_alike_33 : decode cX9_alike 33 = .ok (.iconst 0, 1) := by decide +kernel
theorem dX9_alike_34 : decode cX9_alike 34 = .ok (.ireturn, 1) := by decide +kernel
def f_X9_alike (M : xm) : Option (Int32 × xm) := xb1 (f_X1_threadsBegun 1 M) (fun v2 => (if v2 = (3 : Int32) then xb2 (f_X9_agreesWhenFirst M (0 : Int32)) (fun v6 M7 => (if v6 = 0 then some ((0 : Int32), M7) else xb2 (f_X9_agreesWhenFirst M7 (1 : Int32)) (fun v11 M12 => (if v11 = 0 then some ((0 : Int32), M12) else some ((1 : Int32), M12))))) else some ((-1 : Int32), M)))
set_option maxHeartbeats 4000000 in
set_option maxRecDepth 20000 in
theorem c_X9_alike (l : Launch) (E : xE) (b : Nat) (M : xm) {r : Int32} {M' : xm} (hf : f_X9_alike M = some (r, M')) :
    xMet l E b NX yX9_alike cX9_alike 1 (some .int) (xR 7) [.ref (b + 0)] (cX E b M) (some (.int r)) True (cX E b M') := by
  refine xMet.ofW (own := RX9) (by decide) rfl (Nat.le_of_ble_eq_true rfl) ?_
  intro p e s m below meth c H locs ls C hm hl
  have hx := C.1.1
  have hb := C.1.2.1
  have hl : lv_has ls 1 [(0, .ref (b + 0))] := hl
  unfold f_X9_alike at hf
  refine lv_aload_n hx hb dX9_alike_0 rfl (lv_at hl 0 rfl) ?_
  refine x_get C hm inX9 rfl 0 (by decide) tf_RX9_10 (cx_ColouredHeap LX_top) rfl dX9_alike_1 ?_
  obtain ⟨v2, hq1, hf⟩ := xb1_e hf
  refine x_callVi (As := []) (rest := []) C hm (c_X1_threadsBegun l E b LX_heap M hq1) rfl (cx_Heap (LX_heap 0 _ rfl)) tc_X1_threadsBegun tm_RX9_298 ti_X1_threadsBegun ts_X1_threadsBegun tn_RX1 td_X1_threadsBegun rfl rfl ⟨Nat.le_of_ble_eq_true rfl, Nat.le_of_ble_eq_true rfl⟩ rfl hl.1 rfl (Nat.le_of_ble_eq_true rfl) ⟨Nat.zero_le _, Nat.zero_le _⟩ dX9_alike_4 (fun H locs hP3 hm => ?_)
  refine lv_iconst (v := (3 : Int32)) hx hb dX9_alike_7 (by decide) ?_
  refine lv_icmp_eq (tgt := 13) hx hb dX9_alike_8 (by decide) (fun hc4 => ?_) (fun hc4 => ?_)
  rotate_left
  · have hf := xif_f hc4 hf
    refine lv_iconst (v := (-1 : Int32)) hx hb dX9_alike_11 (by decide) ?_
    cases hf
    exact x_iret C hm trivial dX9_alike_12
  have hf := xif_t hc4 hf
  refine lv_aload_n hx hb dX9_alike_13 rfl (lv_at hl 0 rfl) ?_
  refine lv_iconst (v := (0 : Int32)) hx hb dX9_alike_14 (by decide) ?_
  obtain ⟨v6, M7, hq5, hf⟩ := xb2_e hf
  refine x_callVi (As := [.int (0 : Int32)]) (rest := []) C hm (c_X9_agreesWhenFirst l E b M (0 : Int32) hq5) rfl (cx_ColouredHeap LX_top) tc_X9_agreesWhenFirst tm_RX9_301 ti_X9_agreesWhenFirst ts_X9_agreesWhenFirst tn_RX9 td_X9_agreesWhenFirst rfl rfl ⟨Nat.le_of_ble_eq_true rfl, Nat.le_of_ble_eq_true rfl⟩ rfl hl.1 rfl (Nat.le_of_ble_eq_true rfl) ⟨Nat.zero_le _, Nat.zero_le _⟩ dX9_alike_15 (fun H locs hP8 hm => ?_)
  refine lv_if_eq (tgt := 33) hx hb dX9_alike_18 (by decide) (fun hc9 => ?_) (fun hc9 => ?_)
  · have hf := xif_t hc9 hf
    refine lv_iconst (v := (0 : Int32)) hx hb dX9_alike_33 (by decide) ?_
    cases hf
    exact x_iret C hm trivial dX9_alike_34
  have hf := xif_f hc9 hf
  refine lv_aload_n hx hb dX9_alike_21 rfl (lv_at hl 0 rfl) ?_
  refine lv_iconst (v := (1 : Int32)) hx hb dX9_alike_22 (by decide) ?_
  obtain ⟨v11, M12, hq10, hf⟩ := xb2_e hf
  refine x_callVi (As := [.int (1 : Int32)]) (rest := []) C hm (c_X9_agreesWhenFirst l E b M7 (1 : Int32) hq10) rfl (cx_ColouredHeap LX_top) tc_X9_agreesWhenFirst tm_RX9_301 ti_X9_agreesWhenFirst ts_X9_agreesWhenFirst tn_RX9 td_X9_agreesWhenFirst rfl rfl ⟨Nat.le_of_ble_eq_true rfl, Nat.le_of_ble_eq_true rfl⟩ rfl hl.1 rfl (Nat.le_of_ble_eq_true rfl) ⟨Nat.zero_le _, Nat.zero_le _⟩ dX9_alike_23 (fun H locs hP13 hm => ?_)
  refine lv_if_eq (tgt := 33) hx hb dX9_alike_26 (by decide) (fun hc14 => ?_) (fun hc14 => ?_)
  · have hf := xif_t hc14 hf
    refine lv_iconst (v := (0 : Int32)) hx hb dX9_alike_33 (by decide) ?_
    cases hf
    exact x_iret C hm trivial dX9_alike_34
  have hf := xif_f hc14 hf
  refine lv_iconst (v := (1 : Int32)) hx hb dX9_alike_29 (by decide) ?_
  refine lv_goto (tgt := 34) hx hb dX9_alike_30 (by decide) ?_
  cases hf
  exact x_iret C hm trivial dX9_alike_34
/-! ColouredHeap.at(I)I -/
theorem dX9_at_0 : decode cX9_at 0 = .ok (.iload_n 1, 1) := by decide +kernel
theorem dX9_at_1 : decode cX9_at 1 = .ok (.invokestatic 214, 3) := by decide +kernel
theorem dX9_at_4 : decode cX9_at 4 = .ok (.ifCond .eq 15, 3) := by decide +kernel
theorem dX9_at_7 : decode cX9_at 7 = .ok (.aload_n 0, 1) := by decide +kernel
theorem dX9_at_8 : decode cX9_at 8 = .ok (.getfield 10, 3) := by decide +kernel
theorem dX9_at_11 : decode cX9_at 11 = .ok (.getfield 217, 3) := by decide +kernel
theorem dX9_at_14 : decode cX9_at 14 = .ok (.iload_n 1, 1) := by decide +kernel
theorem dX9_at_15 : decode cX9_at 15 = .ok (.iaload, 1) := by decide +kernel
theorem dX9_at_16 : decode cX9_at 16 = .ok (.goto 5, 3) := by decide +kernel
theorem dX9_at_19 : decode cX9_at 19 = .ok (.bipush (-3), 2) := by decide +kernel
theorem dX9_at_21 : decode cX9_at 21 = .ok (.ireturn, 1) := by decide +kernel
def f_X9_at (M : xm) (a1 : Int32) : Option (Int32) := (if (f_X9_isAddress a1) = 0 then some (-3 : Int32) else if xin a1 64 = true then some (M (1 + 1) (Int32.toNatClampNeg a1)) else none)
set_option maxHeartbeats 4000000 in
set_option maxRecDepth 20000 in
theorem c_X9_at (l : Launch) (E : xE) (b : Nat) (M : xm) (a1 : Int32) {r : Int32} (hf : f_X9_at M a1 = some r) :
    xMet l E b NX yX9_at cX9_at 2 (some .int) (xR 2) [.ref (b + 0), .int a1] (cX E b M) (some (.int r)) True (cX E b M) := by
  refine xMet.ofW (own := RX9) (by decide) rfl (Nat.le_of_ble_eq_true rfl) ?_
  intro p e s m below meth c H locs ls C hm hl
  have hx := C.1.1
  have hb := C.1.2.1
  have hl : lv_has ls 2 [(0, .ref (b + 0)), (1, .int a1)] := hl
  unfold f_X9_at at hf
  refine lv_iload_n hx hb dX9_at_0 rfl (lv_at hl 1 rfl) ?_
  refine x_callSi (As := [.int a1]) (rest := []) C hm (c_X9_isAddress l E b M a1 rfl) tc_X9_isAddress tm_RX9_214 tz_X9_isAddress tn_RX9 td_X9_isAddress rfl rfl ⟨Nat.le_of_ble_eq_true rfl, Nat.le_of_ble_eq_true rfl⟩ rfl hl.1 rfl (Nat.le_of_ble_eq_true rfl) ⟨Nat.zero_le _, Nat.zero_le _⟩ dX9_at_1 (fun H locs hP1 hm => ?_)
  refine lv_if_eq (tgt := 19) hx hb dX9_at_4 (by decide) (fun hc2 => ?_) (fun hc2 => ?_)
  · have hf := xif_t hc2 hf
    refine lv_bipush (v := (-3 : Int32)) hx hb dX9_at_19 (by decide) ?_
    cases hf
    exact x_iret C hm trivial dX9_at_21
  have hf := xif_f hc2 hf
  refine lv_aload_n hx hb dX9_at_7 rfl (lv_at hl 0 rfl) ?_
  refine x_get C hm inX9 rfl 0 (by decide) tf_RX9_10 (cx_ColouredHeap LX_top) rfl dX9_at_8 ?_
  refine x_get C hm inX1 rfl 0 (by decide) tf_RX9_217 (cx_Heap (LX_heap 0 _ rfl)) rfl dX9_at_11 ?_
  refine lv_iload_n hx hb dX9_at_14 rfl (lv_at hl 1 rfl) ?_
  obtain ⟨hi3, hf⟩ := xif_s hf
  refine x_iald (j := (Int32.toNatClampNeg a1)) C hm (cx_I (LX_heap 1 _ rfl)) hi3 dX9_at_15 rfl ?_
  refine lv_goto (tgt := 21) hx hb dX9_at_16 (by decide) ?_
  cases hf
  exact x_iret C hm trivial dX9_at_21
/-! ColouredHeap.back()I -/
theorem dX9_back_0 : decode cX9_back 0 = .ok (.aload_n 0, 1) := by decide +kernel
theorem dX9_back_1 : decode cX9_back 1 = .ok (.getfield 10, 3) := by decide +kernel
theorem dX9_back_4 : decode cX9_back 4 = .ok (.aload_n 0, 1) := by decide +kernel
theorem dX9_back_5 : decode cX9_back 5 = .ok (.getfield 30, 3) := by decide +kernel
theorem dX9_back_8 : decode cX9_back 8 = .ok (.invokevirtual 261, 3) := by decide +kernel
theorem dX9_back_11 : decode cX9_back 11 = .ok (.aload_n 0, 1) := by decide +kernel
theorem dX9_back_12 : decode cX9_back 12 = .ok (.getfield 19, 3) := by decide +kernel
theorem dX9_back_15 : decode cX9_back 15 = .ok (.aload_n 0, 1) := by decide +kernel
theorem dX9_back_16 : decode cX9_back 16 = .ok (.getfield 33, 3) := by decide +kernel
theorem dX9_back_19 : decode cX9_back 19 = .ok (.invokevirtual 326, 3) := by decide +kernel
theorem dX9_back_22 : decode cX9_back 22 = .ok (.aload_n 0, 1) := by decide +kernel
theorem dX9_back_23 : decode cX9_back 23 = .ok (.getfield 26, 3) := by decide +kernel
theorem dX9_back_26 : decode cX9_back 26 = .ok (.aload_n 0, 1) := by decide +kernel
theorem dX9_back_27 : decode cX9_back 27 = .ok (.getfield 36, 3) := by decide +kernel
theorem dX9_back_30 : decode cX9_back 30 = .ok (.invokevirtual 329, 3) := by decide +kernel
theorem dX9_back_33 : decode cX9_back 33 = .ok (.aload_n 0, 1) := by decide +kernel
theorem dX9_back_34 : decode cX9_back 34 = .ok (.getfield 10, 3) := by decide +kernel
theorem dX9_back_37 : decode cX9_back 37 = .ok (.getfield 124, 3) := by decide +kernel
theorem dX9_back_40 : decode cX9_back 40 = .ok (.ireturn, 1) := by decide +kernel
def f_X9_back (M : xm) : Option (Int32 × xm) := xb1 (f_X1_takeOver 1 486 M) (fun M2 => xb1 (f_X5_takeOver 16 501 M2) (fun M5 => xb1 (f_X8_takeOver 483 968 M5) (fun M8 => some ((M8 1 17), M8))))
set_option maxHeartbeats 4000000 in
set_option maxRecDepth 20000 in
theorem c_X9_back (l : Launch) (E : xE) (b : Nat) (M : xm) {r : Int32} {M' : xm} (hf : f_X9_back M = some (r, M')) :
    xMet l E b NX yX9_back cX9_back 1 (some .int) (xR 5) [.ref (b + 0)] (cX E b M) (some (.int r)) True (cX E b M') := by
  refine xMet.ofW (own := RX9) (by decide) rfl (Nat.le_of_ble_eq_true rfl) ?_
  intro p e s m below meth c H locs ls C hm hl
  have hx := C.1.1
  have hb := C.1.2.1
  have hl : lv_has ls 1 [(0, .ref (b + 0))] := hl
  unfold f_X9_back at hf
  refine lv_aload_n hx hb dX9_back_0 rfl (lv_at hl 0 rfl) ?_
  refine x_get C hm inX9 rfl 0 (by decide) tf_RX9_10 (cx_ColouredHeap LX_top) rfl dX9_back_1 ?_
  refine lv_aload_n hx hb dX9_back_4 rfl (lv_at hl 0 rfl) ?_
  refine x_get C hm inX9 rfl 3 (by decide) tf_RX9_30 (cx_ColouredHeap LX_top) rfl dX9_back_5 ?_
  obtain ⟨M2, hq1, hf⟩ := xb1_e hf
  refine x_callVv (As := [.ref (b + 486)]) (rest := []) C hm (c_X1_takeOver l E b LX_heap LX_imageHeap M hq1) rfl (cx_Heap (LX_heap 0 _ rfl)) tc_X1_takeOver tm_RX9_261 ti_X1_takeOver ts_X1_takeOver tn_RX1 td_X1_takeOver rfl rfl ⟨Nat.le_of_ble_eq_true rfl, Nat.le_of_ble_eq_true rfl⟩ rfl hl.1 rfl (Nat.le_of_ble_eq_true rfl) ⟨Nat.zero_le _, Nat.zero_le _⟩ dX9_back_8 (fun H locs hP3 hm => ?_)
  refine lv_aload_n hx hb dX9_back_11 rfl (lv_at hl 0 rfl) ?_
  refine x_get C hm inX9 rfl 1 (by decide) tf_RX9_19 (cx_ColouredHeap LX_top) rfl dX9_back_12 ?_
  refine lv_aload_n hx hb dX9_back_15 rfl (lv_at hl 0 rfl) ?_
  refine x_get C hm inX9 rfl 4 (by decide) tf_RX9_33 (cx_ColouredHeap LX_top) rfl dX9_back_16 ?_
  obtain ⟨M5, hq4, hf⟩ := xb1_e hf
  refine x_callVv (As := [.ref (b + 501)]) (rest := []) C hm (c_X5_takeOver l E b LX_steps LX_imageSteps M2 hq4) rfl (cx_Steps (LX_steps 0 _ rfl)) tc_X5_takeOver tm_RX9_326 ti_X5_takeOver ts_X5_takeOver tn_RX5 td_X5_takeOver rfl rfl ⟨Nat.le_of_ble_eq_true rfl, Nat.le_of_ble_eq_true rfl⟩ rfl hl.1 rfl (Nat.le_of_ble_eq_true rfl) ⟨Nat.zero_le _, Nat.zero_le _⟩ dX9_back_19 (fun H locs hP6 hm => ?_)
  refine lv_aload_n hx hb dX9_back_22 rfl (lv_at hl 0 rfl) ?_
  refine x_get C hm inX9 rfl 2 (by decide) tf_RX9_26 (cx_ColouredHeap LX_top) rfl dX9_back_23 ?_
  refine lv_aload_n hx hb dX9_back_26 rfl (lv_at hl 0 rfl) ?_
  refine x_get C hm inX9 rfl 5 (by decide) tf_RX9_36 (cx_ColouredHeap LX_top) rfl dX9_back_27 ?_
  obtain ⟨M8, hq7, hf⟩ := xb1_e hf
  refine x_callVv (As := [.ref (b + 968)]) (rest := []) C hm (c_X8_takeOver l E b LX_told LX_imageTold M5 hq7) rfl (cx_Told (LX_told 0 _ rfl)) tc_X8_takeOver tm_RX9_329 ti_X8_takeOver ts_X8_takeOver tn_RX8 td_X8_takeOver rfl rfl ⟨Nat.le_of_ble_eq_true rfl, Nat.le_of_ble_eq_true rfl⟩ rfl hl.1 rfl (Nat.le_of_ble_eq_true rfl) ⟨Nat.zero_le _, Nat.zero_le _⟩ dX9_back_30 (fun H locs hP9 hm => ?_)
  refine lv_aload_n hx hb dX9_back_33 rfl (lv_at hl 0 rfl) ?_
  refine x_get C hm inX9 rfl 0 (by decide) tf_RX9_10 (cx_ColouredHeap LX_top) rfl dX9_back_34 ?_
  refine x_get C hm inX1 rfl 17 (by decide) tf_RX9_124 (cx_Heap (LX_heap 0 _ rfl)) rfl dX9_back_37 ?_
  cases hf
  exact x_iret C hm trivial dX9_back_40
/-! ColouredHeap.begin(III)I -/
theorem dX9_begin_0 : decode cX9_begin 0 = .ok (.aload_n 0, 1) := by decide +kernel
theorem dX9_begin_1 : decode cX9_begin 1 = .ok (.getfield 19, 3) := by decide +kernel
theorem dX9_begin_4 : decode cX9_begin 4 = .ok (.aload_n 0, 1) := by decide +kernel
theorem dX9_begin_5 : decode cX9_begin 5 = .ok (.getfield 10, 3) := by decide +kernel
theorem dX9_begin_8 : decode cX9_begin 8 = .ok (.invokevirtual 113, 3) := by decide +kernel
theorem dX9_begin_11 : decode cX9_begin 11 = .ok (.aload_n 0, 1) := by decide +kernel
theorem dX9_begin_12 : decode cX9_begin 12 = .ok (.getfield 10, 3) := by decide +kernel
theorem dX9_begin_15 : decode cX9_begin 15 = .ok (.iload_n 1, 1) := by decide +kernel
theorem dX9_begin_16 : decode cX9_begin 16 = .ok (.iload_n 2, 1) := by decide +kernel
theorem dX9_begin_17 : decode cX9_begin 17 = .ok (.iload_n 3, 1) := by decide +kernel
theorem dX9_begin_18 : decode cX9_begin 18 = .ok (.invokevirtual 143, 3) := by decide +kernel
theorem dX9_begin_21 : decode cX9_begin 21 = .ok (.istore 4, 2) := by decide +kernel
theorem dX9_begin_23 : decode cX9_begin 23 = .ok (.iload 4, 2) := by decide +kernel
theorem dX9_begin_25 : decode cX9_begin 25 = .ok (.iconst (-1), 1) := by decide +kernel
theorem dX9_begin_26 : decode cX9_begin 26 = .ok (.if_icmp .eq 10, 3) := by decide +kernel
theorem dX9_begin_29 : decode cX9_begin 29 = .ok (.aload_n 0, 1) := by decide +kernel
theorem dX9_begin_30 : decode cX9_begin 30 = .ok (.getfield 19, 3) := by decide +kernel
theorem dX9_begin_33 : decode cX9_begin 33 = .ok (.invokevirtual 121, 3) := by decide +kernel
theorem dX9_begin_36 : decode cX9_begin 36 = .ok (.iload 4, 2) := by decide +kernel
theorem dX9_begin_38 : decode cX9_begin 38 = .ok (.ireturn, 1) := by decide +kernel
def f_X9_begin (M : xm) (a1 : Int32) (a2 : Int32) (a3 : Int32) : Option (Int32 × xm) := xb1 (f_X5_prepare 16 1 M) (fun M2 => xb2 (f_X1_beginRead 1 M2 a1 a2 a3) (fun v5 M6 => (if v5 = (-1 : Int32) then some (v5, M6) else xb1 (f_X5_keep 16 M6) (fun M10 => some (v5, M10)))))
set_option maxHeartbeats 4000000 in
set_option maxRecDepth 20000 in
theorem c_X9_begin (l : Launch) (E : xE) (b : Nat) (M : xm) (a1 : Int32) (a2 : Int32) (a3 : Int32) {r : Int32} {M' : xm} (hf : f_X9_begin M a1 a2 a3 = some (r, M')) :
    xMet l E b NX yX9_begin cX9_begin 5 (some .int) (xR 5) [.ref (b + 0), .int a1, .int a2, .int a3] (cX E b M) (some (.int r)) True (cX E b M') := by
  refine xMet.ofW (own := RX9) (by decide) rfl (Nat.le_of_ble_eq_true rfl) ?_
  intro p e s m below meth c H locs ls C hm hl
  have hx := C.1.1
  have hb := C.1.2.1
  have hl : lv_has ls 5 [(0, .ref (b + 0)), (1, .int a1), (2, .int a2), (3, .int a3)] := hl
  unfold f_X9_begin at hf
  refine lv_aload_n hx hb dX9_begin_0 rfl (lv_at hl 0 rfl) ?_
  refine x_get C hm inX9 rfl 1 (by decide) tf_RX9_19 (cx_ColouredHeap LX_top) rfl dX9_begin_1 ?_
  refine lv_aload_n hx hb dX9_begin_4 rfl (lv_at hl 0 rfl) ?_
  refine x_get C hm inX9 rfl 0 (by decide) tf_RX9_10 (cx_ColouredHeap LX_top) rfl dX9_begin_5 ?_
  obtain ⟨M2, hq1, hf⟩ := xb1_e hf
  refine x_callVv (As := [.ref (b + 1)]) (rest := []) C hm (c_X5_prepare l E b LX_steps LX_heap M hq1) rfl (cx_Steps (LX_steps 0 _ rfl)) tc_X5_prepare tm_RX9_113 ti_X5_prepare ts_X5_prepare tn_RX5 td_X5_prepare rfl rfl ⟨Nat.le_of_ble_eq_true rfl, Nat.le_of_ble_eq_true rfl⟩ rfl hl.1 rfl (Nat.le_of_ble_eq_true rfl) ⟨Nat.zero_le _, Nat.zero_le _⟩ dX9_begin_8 (fun H locs hP3 hm => ?_)
  refine lv_aload_n hx hb dX9_begin_11 rfl (lv_at hl 0 rfl) ?_
  refine x_get C hm inX9 rfl 0 (by decide) tf_RX9_10 (cx_ColouredHeap LX_top) rfl dX9_begin_12 ?_
  refine lv_iload_n hx hb dX9_begin_15 rfl (lv_at hl 1 rfl) ?_
  refine lv_iload_n hx hb dX9_begin_16 rfl (lv_at hl 2 rfl) ?_
  refine lv_iload_n hx hb dX9_begin_17 rfl (lv_at hl 3 rfl) ?_
  obtain ⟨v5, M6, hq4, hf⟩ := xb2_e hf
  refine x_callVi (As := [.int a1, .int a2, .int a3]) (rest := []) C hm (c_X1_beginRead l E b LX_heap M2 a1 a2 a3 hq4) rfl (cx_Heap (LX_heap 0 _ rfl)) tc_X1_beginRead tm_RX9_143 ti_X1_beginRead ts_X1_beginRead tn_RX1 td_X1_beginRead rfl rfl ⟨Nat.le_of_ble_eq_true rfl, Nat.le_of_ble_eq_true rfl⟩ rfl hl.1 rfl (Nat.le_of_ble_eq_true rfl) ⟨Nat.zero_le _, Nat.zero_le _⟩ dX9_begin_18 (fun H locs hP7 hm => ?_)
  refine lv_istore (lv' := [(4, .int v5), (0, .ref (b + 0)), (1, .int a1), (2, .int a2), (3, .int a3)]) hx hb dX9_begin_21 hl (by decide) rfl (fun ls hl => ?_)
  refine lv_iload hx hb dX9_begin_23 (lv_at hl 0 rfl) ?_
  refine lv_iconst (v := (-1 : Int32)) hx hb dX9_begin_25 (by decide) ?_
  refine lv_icmp_eq (tgt := 36) hx hb dX9_begin_26 (by decide) (fun hc8 => ?_) (fun hc8 => ?_)
  · have hf := xif_t hc8 hf
    refine lv_iload hx hb dX9_begin_36 (lv_at hl 0 rfl) ?_
    cases hf
    exact x_iret C hm trivial dX9_begin_38
  have hf := xif_f hc8 hf
  refine lv_aload_n hx hb dX9_begin_29 rfl (lv_at hl 1 rfl) ?_
  refine x_get C hm inX9 rfl 1 (by decide) tf_RX9_19 (cx_ColouredHeap LX_top) rfl dX9_begin_30 ?_
  obtain ⟨M10, hq9, hf⟩ := xb1_e hf
  refine x_callVv (As := []) (rest := []) C hm (c_X5_keep l E b LX_steps M6 hq9) rfl (cx_Steps (LX_steps 0 _ rfl)) tc_X5_keep tm_RX9_121 ti_X5_keep ts_X5_keep tn_RX5 td_X5_keep rfl rfl ⟨Nat.le_of_ble_eq_true rfl, Nat.le_of_ble_eq_true rfl⟩ rfl hl.1 rfl (Nat.le_of_ble_eq_true rfl) ⟨Nat.zero_le _, Nat.zero_le _⟩ dX9_begin_33 (fun H locs hP11 hm => ?_)
  refine lv_iload hx hb dX9_begin_36 (lv_at hl 0 rfl) ?_
  cases hf
  exact x_iret C hm trivial dX9_begin_38
/-! ColouredHeap.book(II)I -/
theorem dX9_book_0 : decode cX9_book 0 = .ok (.iload_n 1, 1) := by decide +kernel
theorem dX9_book_1 : decode cX9_book 1 = .ok (.iconst (-1), 1) := by decide +kernel
theorem dX9_book_2 : decode cX9_book 2 = .ok (.if_icmp .ne 16, 3) := by decide +kernel
theorem dX9_book_5 : decode cX9_book 5 = .ok (.aload_n 0, 1) := by decide +kernel
theorem dX9_book_6 : decode cX9_book 6 = .ok (.getfield 10, 3) := by decide +kernel
theorem dX9_book_9 : decode cX9_book 9 = .ok (.getfield 251, 3) := by decide +kernel
theorem dX9_book_12 : decode cX9_book 12 = .ok (.getfield 255, 3) := by decide +kernel
theorem dX9_book_15 : decode cX9_book 15 = .ok (.goto 15, 3) := by decide +kernel
theorem dX9_book_18 : decode cX9_book 18 = .ok (.aload_n 0, 1) := by decide +kernel
theorem dX9_book_19 : decode cX9_book 19 = .ok (.getfield 10, 3) := by decide +kernel
theorem dX9_book_22 : decode cX9_book 22 = .ok (.getfield 251, 3) := by decide +kernel
theorem dX9_book_25 : decode cX9_book 25 = .ok (.iload_n 1, 1) := by decide +kernel
theorem dX9_book_26 : decode cX9_book 26 = .ok (.iload_n 2, 1) := by decide +kernel
theorem dX9_book_27 : decode cX9_book 27 = .ok (.invokevirtual 258, 3) := by decide +kernel
theorem dX9_book_30 : decode cX9_book 30 = .ok (.ireturn, 1) := by decide +kernel
def f_X9_book (M : xm) (a1 : Int32) (a2 : Int32) : Option (Int32) := (if a1 = (-1 : Int32) then some (M (1 + 13) 2) else xb1 (f_X0_part (1 + 13) M a1 a2) (fun v3 => some v3))
set_option maxHeartbeats 4000000 in
set_option maxRecDepth 20000 in
theorem c_X9_book (l : Launch) (E : xE) (b : Nat) (M : xm) (a1 : Int32) (a2 : Int32) {r : Int32} (hf : f_X9_book M a1 a2 = some r) :
    xMet l E b NX yX9_book cX9_book 3 (some .int) (xR 2) [.ref (b + 0), .int a1, .int a2] (cX E b M) (some (.int r)) True (cX E b M) := by
  refine xMet.ofW (own := RX9) (by decide) rfl (Nat.le_of_ble_eq_true rfl) ?_
  intro p e s m below meth c H locs ls C hm hl
  have hx := C.1.1
  have hb := C.1.2.1
  have hl : lv_has ls 3 [(0, .ref (b + 0)), (1, .int a1), (2, .int a2)] := hl
  unfold f_X9_book at hf
  refine lv_iload_n hx hb dX9_book_0 rfl (lv_at hl 1 rfl) ?_
  refine lv_iconst (v := (-1 : Int32)) hx hb dX9_book_1 (by decide) ?_
  refine lv_icmp_ne (tgt := 18) hx hb dX9_book_2 (by decide) (fun hc1 => ?_) (fun hc1 => ?_)
  rotate_left
  · have hf := xif_t hc1 hf
    refine lv_aload_n hx hb dX9_book_5 rfl (lv_at hl 0 rfl) ?_
    refine x_get C hm inX9 rfl 0 (by decide) tf_RX9_10 (cx_ColouredHeap LX_top) rfl dX9_book_6 ?_
    refine x_get C hm inX1 rfl 12 (by decide) tf_RX9_251 (cx_Heap (LX_heap 0 _ rfl)) rfl dX9_book_9 ?_
    refine x_get C hm inX0 rfl 2 (by decide) tf_RX9_255 (cx_Book ((lat_book LX_heap) 0 _ rfl)) rfl dX9_book_12 ?_
    refine lv_goto (tgt := 30) hx hb dX9_book_15 (by decide) ?_
    cases hf
    exact x_iret C hm trivial dX9_book_30
  have hf := xif_f hc1 hf
  refine lv_aload_n hx hb dX9_book_18 rfl (lv_at hl 0 rfl) ?_
  refine x_get C hm inX9 rfl 0 (by decide) tf_RX9_10 (cx_ColouredHeap LX_top) rfl dX9_book_19 ?_
  refine x_get C hm inX1 rfl 12 (by decide) tf_RX9_251 (cx_Heap (LX_heap 0 _ rfl)) rfl dX9_book_22 ?_
  refine lv_iload_n hx hb dX9_book_25 rfl (lv_at hl 1 rfl) ?_
  refine lv_iload_n hx hb dX9_book_26 rfl (lv_at hl 2 rfl) ?_
  obtain ⟨v3, hq2, hf⟩ := xb1_e hf
  refine x_callVi (As := [.int a1, .int a2]) (rest := []) C hm (c_X0_part l E b (lat_book LX_heap) M a1 a2 hq2) rfl (cx_Book ((lat_book LX_heap) 0 _ rfl)) tc_X0_part tm_RX9_258 ti_X0_part ts_X0_part tn_RX0 td_X0_part rfl rfl ⟨Nat.le_of_ble_eq_true rfl, Nat.le_of_ble_eq_true rfl⟩ rfl hl.1 rfl (Nat.le_of_ble_eq_true rfl) ⟨Nat.zero_le _, Nat.zero_le _⟩ dX9_book_27 (fun H locs hP4 hm => ?_)
  cases hf
  exact x_iret C hm trivial dX9_book_30
/-! ColouredHeap.by(I)Z -/
theorem dX9_by_0 : decode cX9_by 0 = .ok (.iload_n 1, 1) := by decide +kernel
theorem dX9_by_1 : decode cX9_by 1 = .ok (.iconst (-1), 1) := by decide +kernel
theorem dX9_by_2 : decode cX9_by 2 = .ok (.if_icmp .lt 14, 3) := by decide +kernel
theorem dX9_by_5 : decode cX9_by 5 = .ok (.iload_n 1, 1) := by decide +kernel
theorem dX9_by_6 : decode cX9_by 6 = .ok (.aload_n 0, 1) := by decide +kernel
theorem dX9_by_7 : decode cX9_by 7 = .ok (.getfield 26, 3) := by decide +kernel
theorem dX9_by_10 : decode cX9_by 10 = .ok (.getfield 78, 3) := by decide +kernel
theorem dX9_by_13 : decode cX9_by 13 = .ok (.if_icmp .lt 5, 3) := by decide +kernel
theorem dX9_by_16 : decode cX9_by 16 = .ok (.iconst 0, 1) := by decide +kernel
theorem dX9_by_17 : decode cX9_by 17 = .ok (.ireturn, 1) := by decide +kernel
theorem dX9_by_18 : decode cX9_by 18 = .ok (.aload_n 0, 1) := by decide +kernel
theorem dX9_by_19 : decode cX9_by 19 = .ok (.getfield 26, 3) := by decide +kernel
theorem dX9_by_22 : decode cX9_by 22 = .ok (.iload_n 1, 1) := by decide +kernel
theorem dX9_by_23 : decode cX9_by 23 = .ok (.putfield 102, 3) := by decide +kernel
theorem dX9_by_26 : decode cX9_by 26 = .ok (.iconst 1, 1) := by decide +kernel
theorem dX9_by_27 : decode cX9_by 27 = .ok (.ireturn, 1) := by decide +kernel
def f_X9_by (M : xm) (a1 : Int32) : Option (Int32 × xm) := (if a1 < (-1 : Int32) then some ((0 : Int32), M) else (if a1 < (M 483 3) then xlet (up2 M 483 4 a1) (fun M3 => some ((1 : Int32), M3)) else some ((0 : Int32), M)))
set_option maxHeartbeats 4000000 in
set_option maxRecDepth 20000 in
theorem c_X9_by (l : Launch) (E : xE) (b : Nat) (M : xm) (a1 : Int32) {r : Int32} {M' : xm} (hf : f_X9_by M a1 = some (r, M')) :
    xMet l E b NX yX9_by cX9_by 2 (some .boolean) (xR 1) [.ref (b + 0), .int a1] (cX E b M) (some (.int r)) (xbo r = true) (cX E b M') := by
  refine xMet.ofW (own := RX9) (by decide) rfl (Nat.le_of_ble_eq_true rfl) ?_
  intro p e s m below meth c H locs ls C hm hl
  have hx := C.1.1
  have hb := C.1.2.1
  have hl : lv_has ls 2 [(0, .ref (b + 0)), (1, .int a1)] := hl
  unfold f_X9_by at hf
  refine lv_iload_n hx hb dX9_by_0 rfl (lv_at hl 1 rfl) ?_
  refine lv_iconst (v := (-1 : Int32)) hx hb dX9_by_1 (by decide) ?_
  refine lv_icmp_lt (tgt := 16) hx hb dX9_by_2 (by decide) (fun hc1 => ?_) (fun hc1 => ?_)
  · have hf := xif_t hc1 hf
    refine lv_iconst (v := (0 : Int32)) hx hb dX9_by_16 (by decide) ?_
    cases hf
    exact x_zret C hm (by decide) (by decide) dX9_by_17
  have hf := xif_f hc1 hf
  refine lv_iload_n hx hb dX9_by_5 rfl (lv_at hl 1 rfl) ?_
  refine lv_aload_n hx hb dX9_by_6 rfl (lv_at hl 0 rfl) ?_
  refine x_get C hm inX9 rfl 2 (by decide) tf_RX9_26 (cx_ColouredHeap LX_top) rfl dX9_by_7 ?_
  refine x_get C hm inX8 rfl 3 (by decide) tf_RX9_78 (cx_Told (LX_told 0 _ rfl)) rfl dX9_by_10 ?_
  refine lv_icmp_lt (tgt := 18) hx hb dX9_by_13 (by decide) (fun hc2 => ?_) (fun hc2 => ?_)
  rotate_left
  · have hf := xif_f hc2 hf
    refine lv_iconst (v := (0 : Int32)) hx hb dX9_by_16 (by decide) ?_
    cases hf
    exact x_zret C hm (by decide) (by decide) dX9_by_17
  have hf := xif_t hc2 hf
  refine lv_aload_n hx hb dX9_by_18 rfl (lv_at hl 0 rfl) ?_
  refine x_get C hm inX9 rfl 2 (by decide) tf_RX9_26 (cx_ColouredHeap LX_top) rfl dX9_by_19 ?_
  refine lv_iload_n hx hb dX9_by_22 rfl (lv_at hl 1 rfl) ?_
  obtain ⟨M3, eM3, hf⟩ := xlet_x hf
  refine x_put (cf' := cX E b M3) C hm inX8 tyX8 tyX8_ok nmX8 rfl 4 (by decide) tf_RX9_102 rfl rfl rfl (cx_Told (LX_told 0 _ rfl)) (Nat.le_of_ble_eq_true rfl) (by rw [eM3]; exact cu_Told_4 (LX_told 0 _ rfl)) (by rw [eM3]; exact cX_o) dX9_by_23 (fun H locs hm => ?_)
  refine lv_iconst (v := (1 : Int32)) hx hb dX9_by_26 (by decide) ?_
  cases hf
  exact x_zret C hm (by decide) (by decide) dX9_by_27
/-! ColouredHeap.isReached(I)Z -/
theorem dX9_isReached_0 : decode cX9_isReached 0 = .ok (.aload_n 0, 1) := by decide +kernel
theorem dX9_isReached_1 : decode cX9_isReached 1 = .ok (.getfield 45, 3) := by decide +kernel
theorem dX9_isReached_4 : decode cX9_isReached 4 = .ok (.aload_n 0, 1) := by decide +kernel
theorem dX9_isReached_5 : decode cX9_isReached 5 = .ok (.getfield 10, 3) := by decide +kernel
theorem dX9_isReached_8 : decode cX9_isReached 8 = .ok (.iconst (-1), 1) := by decide +kernel
theorem dX9_isReached_9 : decode cX9_isReached 9 = .ok (.invokevirtual 273, 3) := by decide +kernel
theorem dX9_isReached_12 : decode cX9_isReached 12 = .ok (.iload_n 1, 1) := by decide +kernel
theorem dX9_isReached_13 : decode cX9_isReached 13 = .ok (.invokestatic 214, 3) := by decide +kernel
theorem dX9_isReached_16 : decode cX9_isReached 16 = .ok (.ifCond .eq 20, 3) := by decide +kernel
theorem dX9_isReached_19 : decode cX9_isReached 19 = .ok (.aload_n 0, 1) := by decide +kernel
theorem dX9_isReached_20 : decode cX9_isReached 20 = .ok (.getfield 45, 3) := by decide +kernel
theorem dX9_isReached_23 : decode cX9_isReached 23 = .ok (.getfield 291, 3) := by decide +kernel
theorem dX9_isReached_26 : decode cX9_isReached 26 = .ok (.iload_n 1, 1) := by decide +kernel
theorem dX9_isReached_27 : decode cX9_isReached 27 = .ok (.iaload, 1) := by decide +kernel
theorem dX9_isReached_28 : decode cX9_isReached 28 = .ok (.iconst (-1), 1) := by decide +kernel
theorem dX9_isReached_29 : decode cX9_isReached 29 = .ok (.if_icmp .eq 7, 3) := by decide +kernel
theorem dX9_isReached_32 : decode cX9_isReached 32 = .ok (.iconst 1, 1) := by decide +kernel
theorem dX9_isReached_33 : decode cX9_isReached 33 = .ok (.goto 4, 3) := by decide +kernel
theorem dX9_isReached_36 : decode cX9_isReached 36 = .ok (.iconst 0, 1) := by decide +kernel
theorem dX9_isReached_37 : decode cX9_isReached 37 = .ok (.ireturn, 1) := by decide +kernel
def f_X9_isReached (M : xm) (a1 : Int32) : Option (Int32 × xm) := xb1 (f_X6_take 1 M (-1 : Int32)) (fun M2 => (if (f_X9_isAddress a1) = 0 then some ((0 : Int32), M2) else if xin a1 64 = true then (if (M2 (986 + 1) (Int32.toNatClampNeg a1)) = (-1 : Int32) then some ((0 : Int32), M2) else some ((1 : Int32), M2)) else none))
set_option maxHeartbeats 4000000 in
set_option maxRecDepth 20000 in
theorem c_X9_isReached (l : Launch) (E : xE) (b : Nat) (M : xm) (a1 : Int32) {r : Int32} {M' : xm} (hf : f_X9_isReached M a1 = some (r, M')) :
    xMet l E b NX yX9_isReached cX9_isReached 2 (some .boolean) (xR 5) [.ref (b + 0), .int a1] (cX E b M) (some (.int r)) (xbo r = true) (cX E b M') := by
  refine xMet.ofW (own := RX9) (by decide) rfl (Nat.le_of_ble_eq_true rfl) ?_
  intro p e s m below meth c H locs ls C hm hl
  have hx := C.1.1
  have hb := C.1.2.1
  have hl : lv_has ls 2 [(0, .ref (b + 0)), (1, .int a1)] := hl
  unfold f_X9_isReached at hf
  refine lv_aload_n hx hb dX9_isReached_0 rfl (lv_at hl 0 rfl) ?_
  refine x_get C hm inX9 rfl 7 (by decide) tf_RX9_45 (cx_ColouredHeap LX_top) rfl dX9_isReached_1 ?_
  refine lv_aload_n hx hb dX9_isReached_4 rfl (lv_at hl 0 rfl) ?_
  refine x_get C hm inX9 rfl 0 (by decide) tf_RX9_10 (cx_ColouredHeap LX_top) rfl dX9_isReached_5 ?_
  refine lv_iconst (v := (-1 : Int32)) hx hb dX9_isReached_8 (by decide) ?_
  obtain ⟨M2, hq1, hf⟩ := xb1_e hf
  refine x_callVv (As := [.ref (b + 1), .int (-1 : Int32)]) (rest := []) C hm (c_X6_take l E b LX_heap M (-1 : Int32) hq1) rfl (cx_Survey (LX_survey 0 _ rfl)) tc_X6_take tm_RX9_273 ti_X6_take ts_X6_take tn_RX6 td_X6_take rfl rfl ⟨Nat.le_of_ble_eq_true rfl, Nat.le_of_ble_eq_true rfl⟩ rfl hl.1 rfl (Nat.le_of_ble_eq_true rfl) ⟨Nat.zero_le _, Nat.zero_le _⟩ dX9_isReached_9 (fun H locs hP3 hm => ?_)
  refine lv_iload_n hx hb dX9_isReached_12 rfl (lv_at hl 1 rfl) ?_
  refine x_callSi (As := [.int a1]) (rest := []) C hm (c_X9_isAddress l E b M2 a1 rfl) tc_X9_isAddress tm_RX9_214 tz_X9_isAddress tn_RX9 td_X9_isAddress rfl rfl ⟨Nat.le_of_ble_eq_true rfl, Nat.le_of_ble_eq_true rfl⟩ rfl hl.1 rfl (Nat.le_of_ble_eq_true rfl) ⟨Nat.zero_le _, Nat.zero_le _⟩ dX9_isReached_13 (fun H locs hP4 hm => ?_)
  refine lv_if_eq (tgt := 36) hx hb dX9_isReached_16 (by decide) (fun hc5 => ?_) (fun hc5 => ?_)
  · have hf := xif_t hc5 hf
    refine lv_iconst (v := (0 : Int32)) hx hb dX9_isReached_36 (by decide) ?_
    cases hf
    exact x_zret C hm (by decide) (by decide) dX9_isReached_37
  have hf := xif_f hc5 hf
  refine lv_aload_n hx hb dX9_isReached_19 rfl (lv_at hl 0 rfl) ?_
  refine x_get C hm inX9 rfl 7 (by decide) tf_RX9_45 (cx_ColouredHeap LX_top) rfl dX9_isReached_20 ?_
  refine x_get C hm inX6 rfl 0 (by decide) tf_RX9_291 (cx_Survey (LX_survey 0 _ rfl)) rfl dX9_isReached_23 ?_
  refine lv_iload_n hx hb dX9_isReached_26 rfl (lv_at hl 1 rfl) ?_
  obtain ⟨hi6, hf⟩ := xif_s hf
  refine x_iald (j := (Int32.toNatClampNeg a1)) C hm (cx_I (LX_survey 1 _ rfl)) hi6 dX9_isReached_27 rfl ?_
  refine lv_iconst (v := (-1 : Int32)) hx hb dX9_isReached_28 (by decide) ?_
  refine lv_icmp_eq (tgt := 36) hx hb dX9_isReached_29 (by decide) (fun hc7 => ?_) (fun hc7 => ?_)
  · have hf := xif_t hc7 hf
    refine lv_iconst (v := (0 : Int32)) hx hb dX9_isReached_36 (by decide) ?_
    cases hf
    exact x_zret C hm (by decide) (by decide) dX9_isReached_37
  have hf := xif_f hc7 hf
  refine lv_iconst (v := (1 : Int32)) hx hb dX9_isReached_32 (by decide) ?_
  refine lv_goto (tgt := 37) hx hb dX9_isReached_33 (by decide) ?_
  cases hf
  exact x_zret C hm (by decide) (by decide) dX9_isReached_37
/-! ColouredHeap.chain(I)I -/
theorem dX9_chain_0 : decode cX9_chain 0 = .ok (.aload_n 0, 1) := by decide +kernel
theorem dX9_chain_1 : decode cX9_chain 1 = .ok (.iload_n 1, 1) := by decide +kernel
theorem dX9_chain_2 : decode cX9_chain 2 = .ok (.invokevirtual 270, 3) := by decide +kernel
theorem dX9_chain_5 : decode cX9_chain 5 = .ok (.ifCond .eq 18, 3) := by decide +kernel
theorem dX9_chain_8 : decode cX9_chain 8 = .ok (.aload_n 0, 1) := by decide +kernel
theorem dX9_chain_9 : decode cX9_chain 9 = .ok (.getfield 45, 3) := by decide +kernel
theorem dX9_chain_12 : decode cX9_chain 12 = .ok (.aload_n 0, 1) := by decide +kernel
theorem dX9_chain_13 : decode cX9_chain 13 = .ok (.getfield 10, 3) := by decide +kernel
theorem dX9_chain_16 : decode cX9_chain 16 = .ok (.iload_n 1, 1) := by decide +kernel
theorem dX9_chain_17 : decode cX9_chain 17 = .ok (.invokevirtual 307, 3) := by decide +kernel
theorem dX9_chain_20 : decode cX9_chain 20 = .ok (.goto 4, 3) := by decide +kernel
theorem dX9_chain_23 : decode cX9_chain 23 = .ok (.iconst (-1), 1) := by decide +kernel
theorem dX9_chain_24 : decode cX9_chain 24 = .ok (.ireturn, 1) := by decide +kernel
def f_X9_chain (M : xm) (a1 : Int32) : Option (Int32 × xm) := xb2 (f_X9_isReached M a1) (fun v2 M3 => (if v2 = 0 then some ((-1 : Int32), M3) else xb2 (f_X6_chainFrom 1 M3 a1) (fun v7 M8 => some (v7, M8))))
set_option maxHeartbeats 4000000 in
set_option maxRecDepth 20000 in
theorem c_X9_chain (l : Launch) (E : xE) (b : Nat) (M : xm) (a1 : Int32) {r : Int32} {M' : xm} (hf : f_X9_chain M a1 = some (r, M')) :
    xMet l E b NX yX9_chain cX9_chain 2 (some .int) (xR 6) [.ref (b + 0), .int a1] (cX E b M) (some (.int r)) True (cX E b M') := by
  refine xMet.ofW (own := RX9) (by decide) rfl (Nat.le_of_ble_eq_true rfl) ?_
  intro p e s m below meth c H locs ls C hm hl
  have hx := C.1.1
  have hb := C.1.2.1
  have hl : lv_has ls 2 [(0, .ref (b + 0)), (1, .int a1)] := hl
  unfold f_X9_chain at hf
  refine lv_aload_n hx hb dX9_chain_0 rfl (lv_at hl 0 rfl) ?_
  refine lv_iload_n hx hb dX9_chain_1 rfl (lv_at hl 1 rfl) ?_
  obtain ⟨v2, M3, hq1, hf⟩ := xb2_e hf
  refine x_callVi (As := [.int a1]) (rest := []) C hm (c_X9_isReached l E b M a1 hq1) rfl (cx_ColouredHeap LX_top) tc_X9_isReached tm_RX9_270 ti_X9_isReached ts_X9_isReached tn_RX9 td_X9_isReached rfl rfl ⟨Nat.le_of_ble_eq_true rfl, Nat.le_of_ble_eq_true rfl⟩ rfl hl.1 rfl (Nat.le_of_ble_eq_true rfl) ⟨Nat.zero_le _, Nat.zero_le _⟩ dX9_chain_2 (fun H locs hP4 hm => ?_)
  refine lv_if_eq (tgt := 23) hx hb dX9_chain_5 (by decide) (fun hc5 => ?_) (fun hc5 => ?_)
  · have hf := xif_t hc5 hf
    refine lv_iconst (v := (-1 : Int32)) hx hb dX9_chain_23 (by decide) ?_
    cases hf
    exact x_iret C hm trivial dX9_chain_24
  have hf := xif_f hc5 hf
  refine lv_aload_n hx hb dX9_chain_8 rfl (lv_at hl 0 rfl) ?_
  refine x_get C hm inX9 rfl 7 (by decide) tf_RX9_45 (cx_ColouredHeap LX_top) rfl dX9_chain_9 ?_
  refine lv_aload_n hx hb dX9_chain_12 rfl (lv_at hl 0 rfl) ?_
  refine x_get C hm inX9 rfl 0 (by decide) tf_RX9_10 (cx_ColouredHeap LX_top) rfl dX9_chain_13 ?_
  refine lv_iload_n hx hb dX9_chain_16 rfl (lv_at hl 1 rfl) ?_
  obtain ⟨v7, M8, hq6, hf⟩ := xb2_e hf
  refine x_callVi (As := [.ref (b + 1), .int a1]) (rest := []) C hm (c_X6_chainFrom l E b LX_heap M3 a1 hq6) rfl (cx_Survey (LX_survey 0 _ rfl)) tc_X6_chainFrom tm_RX9_307 ti_X6_chainFrom ts_X6_chainFrom tn_RX6 td_X6_chainFrom rfl rfl ⟨Nat.le_of_ble_eq_true rfl, Nat.le_of_ble_eq_true rfl⟩ rfl hl.1 rfl (Nat.le_of_ble_eq_true rfl) ⟨Nat.zero_le _, Nat.zero_le _⟩ dX9_chain_17 (fun H locs hP9 hm => ?_)
  refine lv_goto (tgt := 24) hx hb dX9_chain_20 (by decide) ?_
  cases hf
  exact x_iret C hm trivial dX9_chain_24
/-! ColouredHeap.textAt(I)LColouredHeap$Text; -/
theorem dX9_textAt_0 : decode cX9_textAt 0 = .ok (.iload_n 1, 1) := by decide +kernel
theorem dX9_textAt_1 : decode cX9_textAt 1 = .ok (.ifCond .lt 17, 3) := by decide +kernel
theorem dX9_textAt_4 : decode cX9_textAt 4 = .ok (.iload_n 1, 1) := by decide +kernel
theorem dX9_textAt_5 : decode cX9_textAt 5 = .ok (.iconst 4, 1) := by decide +kernel
theorem dX9_textAt_6 : decode cX9_textAt 6 = .ok (.if_icmp .ge 12, 3) := by decide +kernel
theorem dX9_textAt_9 : decode cX9_textAt 9 = .ok (.aload_n 0, 1) := by decide +kernel
theorem dX9_textAt_10 : decode cX9_textAt 10 = .ok (.getfield 65, 3) := by decide +kernel
theorem dX9_textAt_13 : decode cX9_textAt 13 = .ok (.iload_n 1, 1) := by decide +kernel
theorem dX9_textAt_14 : decode cX9_textAt 14 = .ok (.aaload, 1) := by decide +kernel
theorem dX9_textAt_15 : decode cX9_textAt 15 = .ok (.goto 4, 3) := by decide +kernel
theorem dX9_textAt_18 : decode cX9_textAt 18 = .ok (.aconst_null, 1) := by decide +kernel
theorem dX9_textAt_19 : decode cX9_textAt 19 = .ok (.areturn, 1) := by decide +kernel
def f_X9_textAt (a1 : Int32) : Option (Option Nat) := (if a1 < 0 then some none else (if (4 : Int32) ≤ a1 then some none else if xin a1 4 = true then some (some (1006 + (1 + 9 * (Int32.toNatClampNeg a1)))) else none))
set_option maxHeartbeats 4000000 in
set_option maxRecDepth 20000 in
theorem c_X9_textAt (l : Launch) (E : xE) (b : Nat) (M : xm) (a1 : Int32) {r : Option Nat} (hf : f_X9_textAt a1 = some r) :
    xMet l E b NX yX9_textAt cX9_textAt 2 (some (.object "ColouredHeap$Text")) (xR 1) [.ref (b + 0), .int a1] (cX E b M) (some (xrf b r)) True (cX E b M) := by
  refine xMet.ofW (own := RX9) (by decide) rfl (Nat.le_of_ble_eq_true rfl) ?_
  intro p e s m below meth c H locs ls C hm hl
  have hx := C.1.1
  have hb := C.1.2.1
  have hl : lv_has ls 2 [(0, .ref (b + 0)), (1, .int a1)] := hl
  unfold f_X9_textAt at hf
  refine lv_iload_n hx hb dX9_textAt_0 rfl (lv_at hl 1 rfl) ?_
  refine lv_if_lt (tgt := 18) hx hb dX9_textAt_1 (by decide) (fun hc1 => ?_) (fun hc1 => ?_)
  · have hf := xif_t hc1 hf
    refine lv_null hx hb dX9_textAt_18 ?_
    cases hf
    exact x_aret C hm trivial (Or.inl ⟨_, rfl⟩) (Or.inl rfl) dX9_textAt_19
  have hf := xif_f hc1 hf
  refine lv_iload_n hx hb dX9_textAt_4 rfl (lv_at hl 1 rfl) ?_
  refine lv_iconst (v := (4 : Int32)) hx hb dX9_textAt_5 (by decide) ?_
  refine lv_icmp_ge (tgt := 18) hx hb dX9_textAt_6 (by decide) (fun hc2 => ?_) (fun hc2 => ?_)
  · have hf := xif_t hc2 hf
    refine lv_null hx hb dX9_textAt_18 ?_
    cases hf
    exact x_aret C hm trivial (Or.inl ⟨_, rfl⟩) (Or.inl rfl) dX9_textAt_19
  have hf := xif_f hc2 hf
  refine lv_aload_n hx hb dX9_textAt_9 rfl (lv_at hl 0 rfl) ?_
  refine x_get C hm inX9 rfl 10 (by decide) tf_RX9_65 (cx_ColouredHeap LX_top) rfl dX9_textAt_10 ?_
  refine lv_iload_n hx hb dX9_textAt_13 rfl (lv_at hl 1 rfl) ?_
  obtain ⟨hi3, hf⟩ := xif_s hf
  refine x_aald (t0 := 4) (Cn := "ColouredHeap$Text") (d := (fun i => 1006 + (1 + 9 * i))) C hm (cx_T (LX_texts 0 _ rfl)) rfl hi3 rfl dX9_textAt_14 ?_
  refine lv_goto (tgt := 19) hx hb dX9_textAt_15 (by decide) ?_
  cases hf
  exact x_aret C hm trivial (Or.inl ⟨_, rfl⟩) (Or.inr ⟨_, rfl⟩) dX9_textAt_19
theorem X9_textAt_lat {i : Int32} {o : Option Nat} (h : f_X9_textAt i = some o) : ∀ k, o = some k → lat k pText := by
  intro k hk
  subst hk
  unfold f_X9_textAt at h
  split at h
  · cases h
  · split at h
    · cases h
    · split at h
      · next h2 => cases h; exact lat_text LX_texts (xin_lt h2)
      · cases h
/-! ColouredHeap.choose()I -/
theorem dX9_choose_0 : decode cX9_choose 0 = .ok (.aload_n 0, 1) := by decide +kernel
theorem dX9_choose_1 : decode cX9_choose 1 = .ok (.getfield 10, 3) := by decide +kernel
theorem dX9_choose_4 : decode cX9_choose 4 = .ok (.invokevirtual 161, 3) := by decide +kernel
theorem dX9_choose_7 : decode cX9_choose 7 = .ok (.ifCond .ne 5, 3) := by decide +kernel
theorem dX9_choose_10 : decode cX9_choose 10 = .ok (.iconst (-1), 1) := by decide +kernel
theorem dX9_choose_11 : decode cX9_choose 11 = .ok (.ireturn, 1) := by decide +kernel
theorem dX9_choose_12 : decode cX9_choose 12 = .ok (.aload_n 0, 1) := by decide +kernel
theorem dX9_choose_13 : decode cX9_choose 13 = .ok (.getfield 19, 3) := by decide +kernel
theorem dX9_choose_16 : decode cX9_choose 16 = .ok (.aload_n 0, 1) := by decide +kernel
theorem dX9_choose_17 : decode cX9_choose 17 = .ok (.getfield 10, 3) := by decide +kernel
theorem dX9_choose_20 : decode cX9_choose 20 = .ok (.invokevirtual 113, 3) := by decide +kernel
theorem dX9_choose_23 : decode cX9_choose 23 = .ok (.aload_n 0, 1) := by decide +kernel
theorem dX9_choose_24 : decode cX9_choose 24 = .ok (.getfield 19, 3) := by decide +kernel
theorem dX9_choose_27 : decode cX9_choose 27 = .ok (.invokevirtual 121, 3) := by decide +kernel
theorem dX9_choose_30 : decode cX9_choose 30 = .ok (.aload_n 0, 1) := by decide +kernel
theorem dX9_choose_31 : decode cX9_choose 31 = .ok (.getfield 10, 3) := by decide +kernel
theorem dX9_choose_34 : decode cX9_choose 34 = .ok (.aload_n 0, 1) := by decide +kernel
theorem dX9_choose_35 : decode cX9_choose 35 = .ok (.getfield 59, 3) := by decide +kernel
theorem dX9_choose_38 : decode cX9_choose 38 = .ok (.aload_n 0, 1) := by decide +kernel
theorem dX9_choose_39 : decode cX9_choose 39 = .ok (.aload_n 0, 1) := by decide +kernel
theorem dX9_choose_40 : decode cX9_choose 40 = .ok (.getfield 26, 3) := by decide +kernel
theorem dX9_choose_43 : decode cX9_choose 43 = .ok (.getfield 102, 3) := by decide +kernel
theorem dX9_choose_46 : decode cX9_choose 46 = .ok (.invokevirtual 80, 3) := by decide +kernel
theorem dX9_choose_49 : decode cX9_choose 49 = .ok (.invokevirtual 164, 3) := by decide +kernel
theorem dX9_choose_52 : decode cX9_choose 52 = .ok (.istore_n 1, 1) := by decide +kernel
theorem dX9_choose_53 : decode cX9_choose 53 = .ok (.aload_n 0, 1) := by decide +kernel
theorem dX9_choose_54 : decode cX9_choose 54 = .ok (.getfield 10, 3) := by decide +kernel
theorem dX9_choose_57 : decode cX9_choose 57 = .ok (.invokevirtual 158, 3) := by decide +kernel
theorem dX9_choose_60 : decode cX9_choose 60 = .ok (.iload_n 1, 1) := by decide +kernel
theorem dX9_choose_61 : decode cX9_choose 61 = .ok (.ireturn, 1) := by decide +kernel
def f_X9_choose (M : xm) : Option (Int32 × xm) := xb1 (f_X1_canChoose 1 M) (fun v2 => (if v2 = 0 then some ((-1 : Int32), M) else xb1 (f_X5_prepare 16 1 M) (fun M6 => xb1 (f_X5_keep 16 M6) (fun M9 => xb1 (f_X9_textAt (M9 483 4)) (fun o12 => xb2 (f_X1_turnToMoving 1 o12 M9) (fun v15 M16 => xb1 (f_X1_mendRoots 1 M16) (fun M19 => some (v15, M19))))))))
set_option maxHeartbeats 4000000 in
set_option maxRecDepth 20000 in
theorem c_X9_choose (l : Launch) (E : xE) (b : Nat) (M : xm) {r : Int32} {M' : xm} (hf : f_X9_choose M = some (r, M')) :
    xMet l E b NX yX9_choose cX9_choose 2 (some .int) (xR 7) [.ref (b + 0)] (cX E b M) (some (.int r)) True (cX E b M') := by
  refine xMet.ofW (own := RX9) (by decide) rfl (Nat.le_of_ble_eq_true rfl) ?_
  intro p e s m below meth c H locs ls C hm hl
  have hx := C.1.1
  have hb := C.1.2.1
  have hl : lv_has ls 2 [(0, .ref (b + 0))] := hl
  unfold f_X9_choose at hf
  refine lv_aload_n hx hb dX9_choose_0 rfl (lv_at hl 0 rfl) ?_
  refine x_get C hm inX9 rfl 0 (by decide) tf_RX9_10 (cx_ColouredHeap LX_top) rfl dX9_choose_1 ?_
  obtain ⟨v2, hq1, hf⟩ := xb1_e hf
  refine x_callVi (As := []) (rest := []) C hm (c_X1_canChoose l E b LX_heap M hq1) rfl (cx_Heap (LX_heap 0 _ rfl)) tc_X1_canChoose tm_RX9_161 ti_X1_canChoose ts_X1_canChoose tn_RX1 td_X1_canChoose rfl rfl ⟨Nat.le_of_ble_eq_true rfl, Nat.le_of_ble_eq_true rfl⟩ rfl hl.1 rfl (Nat.le_of_ble_eq_true rfl) ⟨Nat.zero_le _, Nat.zero_le _⟩ dX9_choose_4 (fun H locs hP3 hm => ?_)
  refine lv_if_ne (tgt := 12) hx hb dX9_choose_7 (by decide) (fun hc4 => ?_) (fun hc4 => ?_)
  rotate_left
  · have hf := xif_t hc4 hf
    refine lv_iconst (v := (-1 : Int32)) hx hb dX9_choose_10 (by decide) ?_
    cases hf
    exact x_iret C hm trivial dX9_choose_11
  have hf := xif_f hc4 hf
  refine lv_aload_n hx hb dX9_choose_12 rfl (lv_at hl 0 rfl) ?_
  refine x_get C hm inX9 rfl 1 (by decide) tf_RX9_19 (cx_ColouredHeap LX_top) rfl dX9_choose_13 ?_
  refine lv_aload_n hx hb dX9_choose_16 rfl (lv_at hl 0 rfl) ?_
  refine x_get C hm inX9 rfl 0 (by decide) tf_RX9_10 (cx_ColouredHeap LX_top) rfl dX9_choose_17 ?_
  obtain ⟨M6, hq5, hf⟩ := xb1_e hf
  refine x_callVv (As := [.ref (b + 1)]) (rest := []) C hm (c_X5_prepare l E b LX_steps LX_heap M hq5) rfl (cx_Steps (LX_steps 0 _ rfl)) tc_X5_prepare tm_RX9_113 ti_X5_prepare ts_X5_prepare tn_RX5 td_X5_prepare rfl rfl ⟨Nat.le_of_ble_eq_true rfl, Nat.le_of_ble_eq_true rfl⟩ rfl hl.1 rfl (Nat.le_of_ble_eq_true rfl) ⟨Nat.zero_le _, Nat.zero_le _⟩ dX9_choose_20 (fun H locs hP7 hm => ?_)
  refine lv_aload_n hx hb dX9_choose_23 rfl (lv_at hl 0 rfl) ?_
  refine x_get C hm inX9 rfl 1 (by decide) tf_RX9_19 (cx_ColouredHeap LX_top) rfl dX9_choose_24 ?_
  obtain ⟨M9, hq8, hf⟩ := xb1_e hf
  refine x_callVv (As := []) (rest := []) C hm (c_X5_keep l E b LX_steps M6 hq8) rfl (cx_Steps (LX_steps 0 _ rfl)) tc_X5_keep tm_RX9_121 ti_X5_keep ts_X5_keep tn_RX5 td_X5_keep rfl rfl ⟨Nat.le_of_ble_eq_true rfl, Nat.le_of_ble_eq_true rfl⟩ rfl hl.1 rfl (Nat.le_of_ble_eq_true rfl) ⟨Nat.zero_le _, Nat.zero_le _⟩ dX9_choose_27 (fun H locs hP10 hm => ?_)
  refine lv_aload_n hx hb dX9_choose_30 rfl (lv_at hl 0 rfl) ?_
  refine x_get C hm inX9 rfl 0 (by decide) tf_RX9_10 (cx_ColouredHeap LX_top) rfl dX9_choose_31 ?_
  refine lv_aload_n hx hb dX9_choose_34 rfl (lv_at hl 0 rfl) ?_
  refine x_get C hm inX9 rfl 9 (by decide) tf_RX9_59 (cx_ColouredHeap LX_top) rfl dX9_choose_35 ?_
  refine lv_aload_n hx hb dX9_choose_38 rfl (lv_at hl 0 rfl) ?_
  refine lv_aload_n hx hb dX9_choose_39 rfl (lv_at hl 0 rfl) ?_
  refine x_get C hm inX9 rfl 2 (by decide) tf_RX9_26 (cx_ColouredHeap LX_top) rfl dX9_choose_40 ?_
  refine x_get C hm inX8 rfl 4 (by decide) tf_RX9_102 (cx_Told (LX_told 0 _ rfl)) rfl dX9_choose_43 ?_
  obtain ⟨o12, hq11, hf⟩ := xb1_e hf
  refine x_callVr (As := [.int (M9 483 4)]) (rest := [.ref (b + 1004), .ref (b + 1)]) C hm (c_X9_textAt l E b M9 (M9 483 4) hq11) rfl (cx_ColouredHeap LX_top) tc_X9_textAt tm_RX9_80 ti_X9_textAt ts_X9_textAt tn_RX9 td_X9_textAt rfl rfl ⟨Nat.le_of_ble_eq_true rfl, Nat.le_of_ble_eq_true rfl⟩ rfl hl.1 rfl (Nat.le_of_ble_eq_true rfl) ⟨Nat.zero_le _, Nat.zero_le _⟩ dX9_choose_46 (fun H locs hP13 hm => ?_)
  obtain ⟨v15, M16, hq14, hf⟩ := xb2_e hf
  refine x_callVi (As := [.ref (b + 1004), xrf b o12]) (rest := []) C hm (c_X1_turnToMoving l E b LX_heap (X9_textAt_lat  hq11) M9 hq14) rfl (cx_Heap (LX_heap 0 _ rfl)) tc_X1_turnToMoving tm_RX9_164 ti_X1_turnToMoving ts_X1_turnToMoving tn_RX1 td_X1_turnToMoving rfl rfl ⟨Nat.le_of_ble_eq_true rfl, Nat.le_of_ble_eq_true rfl⟩ rfl hl.1 rfl (Nat.le_of_ble_eq_true rfl) ⟨Nat.zero_le _, Nat.zero_le _⟩ dX9_choose_49 (fun H locs hP17 hm => ?_)
  refine lv_istore_n (lv' := [(1, .int v15), (0, .ref (b + 0))]) hx hb dX9_choose_52 rfl hl (by decide) rfl (fun ls hl => ?_)
  refine lv_aload_n hx hb dX9_choose_53 rfl (lv_at hl 1 rfl) ?_
  refine x_get C hm inX9 rfl 0 (by decide) tf_RX9_10 (cx_ColouredHeap LX_top) rfl dX9_choose_54 ?_
  obtain ⟨M19, hq18, hf⟩ := xb1_e hf
  refine x_callVv (As := []) (rest := []) C hm (c_X1_mendRoots l E b LX_heap M16 hq18) rfl (cx_Heap (LX_heap 0 _ rfl)) tc_X1_mendRoots tm_RX9_158 ti_X1_mendRoots ts_X1_mendRoots tn_RX1 td_X1_mendRoots rfl rfl ⟨Nat.le_of_ble_eq_true rfl, Nat.le_of_ble_eq_true rfl⟩ rfl hl.1 rfl (Nat.le_of_ble_eq_true rfl) ⟨Nat.zero_le _, Nat.zero_le _⟩ dX9_choose_57 (fun H locs hP20 hm => ?_)
  refine lv_iload_n hx hb dX9_choose_60 rfl (lv_at hl 0 rfl) ?_
  cases hf
  exact x_iret C hm trivial dX9_choose_61
/-! ColouredHeap.copy(II)Z -/
theorem dX9_copy_0 : decode cX9_copy 0 = .ok (.iload_n 1, 1) := by decide +kernel
theorem dX9_copy_1 : decode cX9_copy 1 = .ok (.invokestatic 105, 3) := by decide +kernel
theorem dX9_copy_4 : decode cX9_copy 4 = .ok (.ifCond .eq 15, 3) := by decide +kernel
theorem dX9_copy_7 : decode cX9_copy 7 = .ok (.iload_n 2, 1) := by decide +kernel
theorem dX9_copy_8 : decode cX9_copy 8 = .ok (.invokestatic 105, 3) := by decide +kernel
theorem dX9_copy_11 : decode cX9_copy 11 = .ok (.ifCond .eq 8, 3) := by decide +kernel
theorem dX9_copy_14 : decode cX9_copy 14 = .ok (.iload_n 1, 1) := by decide +kernel
theorem dX9_copy_15 : decode cX9_copy 15 = .ok (.iload_n 2, 1) := by decide +kernel
theorem dX9_copy_16 : decode cX9_copy 16 = .ok (.if_icmp .ne 5, 3) := by decide +kernel
theorem dX9_copy_19 : decode cX9_copy 19 = .ok (.iconst 0, 1) := by decide +kernel
theorem dX9_copy_20 : decode cX9_copy 20 = .ok (.ireturn, 1) := by decide +kernel
theorem dX9_copy_21 : decode cX9_copy 21 = .ok (.aload_n 0, 1) := by decide +kernel
theorem dX9_copy_22 : decode cX9_copy 22 = .ok (.getfield 19, 3) := by decide +kernel
theorem dX9_copy_25 : decode cX9_copy 25 = .ok (.aload_n 0, 1) := by decide +kernel
theorem dX9_copy_26 : decode cX9_copy 26 = .ok (.getfield 10, 3) := by decide +kernel
theorem dX9_copy_29 : decode cX9_copy 29 = .ok (.invokevirtual 113, 3) := by decide +kernel
theorem dX9_copy_32 : decode cX9_copy 32 = .ok (.aload_n 0, 1) := by decide +kernel
theorem dX9_copy_33 : decode cX9_copy 33 = .ok (.getfield 19, 3) := by decide +kernel
theorem dX9_copy_36 : decode cX9_copy 36 = .ok (.invokevirtual 121, 3) := by decide +kernel
theorem dX9_copy_39 : decode cX9_copy 39 = .ok (.aload_n 0, 1) := by decide +kernel
theorem dX9_copy_40 : decode cX9_copy 40 = .ok (.getfield 10, 3) := by decide +kernel
theorem dX9_copy_43 : decode cX9_copy 43 = .ok (.getfield 139, 3) := by decide +kernel
theorem dX9_copy_46 : decode cX9_copy 46 = .ok (.iload_n 1, 1) := by decide +kernel
theorem dX9_copy_47 : decode cX9_copy 47 = .ok (.aload_n 0, 1) := by decide +kernel
theorem dX9_copy_48 : decode cX9_copy 48 = .ok (.getfield 10, 3) := by decide +kernel
theorem dX9_copy_51 : decode cX9_copy 51 = .ok (.getfield 139, 3) := by decide +kernel
theorem dX9_copy_54 : decode cX9_copy 54 = .ok (.iload_n 2, 1) := by decide +kernel
theorem dX9_copy_55 : decode cX9_copy 55 = .ok (.iaload, 1) := by decide +kernel
theorem dX9_copy_56 : decode cX9_copy 56 = .ok (.iastore, 1) := by decide +kernel
theorem dX9_copy_57 : decode cX9_copy 57 = .ok (.iconst 1, 1) := by decide +kernel
theorem dX9_copy_58 : decode cX9_copy 58 = .ok (.ireturn, 1) := by decide +kernel
def f_X9_copy (M : xm) (a1 : Int32) (a2 : Int32) : Option (Int32 × xm) := (if (f_X9_isRoot a1) = 0 then some ((0 : Int32), M) else (if (f_X9_isRoot a2) = 0 then some ((0 : Int32), M) else (if a1 = a2 then some ((0 : Int32), M) else xb1 (f_X5_prepare 16 1 M) (fun M7 => xb1 (f_X5_keep 16 M7) (fun M10 => if xin a2 6 = true then if xin a1 6 = true then xlet (up2 M10 (1 + 8) (Int32.toNatClampNeg a1) (M10 (1 + 8) (Int32.toNatClampNeg a2))) (fun M14 => some ((1 : Int32), M14)) else none else none)))))
set_option maxHeartbeats 4000000 in
set_option maxRecDepth 20000 in
theorem c_X9_copy (l : Launch) (E : xE) (b : Nat) (M : xm) (a1 : Int32) (a2 : Int32) {r : Int32} {M' : xm} (hf : f_X9_copy M a1 a2 = some (r, M')) :
    xMet l E b NX yX9_copy cX9_copy 3 (some .boolean) (xR 5) [.ref (b + 0), .int a1, .int a2] (cX E b M) (some (.int r)) (xbo r = true) (cX E b M') := by
  refine xMet.ofW (own := RX9) (by decide) rfl (Nat.le_of_ble_eq_true rfl) ?_
  intro p e s m below meth c H locs ls C hm hl
  have hx := C.1.1
  have hb := C.1.2.1
  have hl : lv_has ls 3 [(0, .ref (b + 0)), (1, .int a1), (2, .int a2)] := hl
  unfold f_X9_copy at hf
  refine lv_iload_n hx hb dX9_copy_0 rfl (lv_at hl 1 rfl) ?_
  refine x_callSi (As := [.int a1]) (rest := []) C hm (c_X9_isRoot l E b M a1 rfl) tc_X9_isRoot tm_RX9_105 tz_X9_isRoot tn_RX9 td_X9_isRoot rfl rfl ⟨Nat.le_of_ble_eq_true rfl, Nat.le_of_ble_eq_true rfl⟩ rfl hl.1 rfl (Nat.le_of_ble_eq_true rfl) ⟨Nat.zero_le _, Nat.zero_le _⟩ dX9_copy_1 (fun H locs hP1 hm => ?_)
  refine lv_if_eq (tgt := 19) hx hb dX9_copy_4 (by decide) (fun hc2 => ?_) (fun hc2 => ?_)
  · have hf := xif_t hc2 hf
    refine lv_iconst (v := (0 : Int32)) hx hb dX9_copy_19 (by decide) ?_
    cases hf
    exact x_zret C hm (by decide) (by decide) dX9_copy_20
  have hf := xif_f hc2 hf
  refine lv_iload_n hx hb dX9_copy_7 rfl (lv_at hl 2 rfl) ?_
  refine x_callSi (As := [.int a2]) (rest := []) C hm (c_X9_isRoot l E b M a2 rfl) tc_X9_isRoot tm_RX9_105 tz_X9_isRoot tn_RX9 td_X9_isRoot rfl rfl ⟨Nat.le_of_ble_eq_true rfl, Nat.le_of_ble_eq_true rfl⟩ rfl hl.1 rfl (Nat.le_of_ble_eq_true rfl) ⟨Nat.zero_le _, Nat.zero_le _⟩ dX9_copy_8 (fun H locs hP3 hm => ?_)
  refine lv_if_eq (tgt := 19) hx hb dX9_copy_11 (by decide) (fun hc4 => ?_) (fun hc4 => ?_)
  · have hf := xif_t hc4 hf
    refine lv_iconst (v := (0 : Int32)) hx hb dX9_copy_19 (by decide) ?_
    cases hf
    exact x_zret C hm (by decide) (by decide) dX9_copy_20
  have hf := xif_f hc4 hf
  refine lv_iload_n hx hb dX9_copy_14 rfl (lv_at hl 1 rfl) ?_
  refine lv_iload_n hx hb dX9_copy_15 rfl (lv_at hl 2 rfl) ?_
  refine lv_icmp_ne (tgt := 21) hx hb dX9_copy_16 (by decide) (fun hc5 => ?_) (fun hc5 => ?_)
  rotate_left
  · have hf := xif_t hc5 hf
    refine lv_iconst (v := (0 : Int32)) hx hb dX9_copy_19 (by decide) ?_
    cases hf
    exact x_zret C hm (by decide) (by decide) dX9_copy_20
  have hf := xif_f hc5 hf
  refine lv_aload_n hx hb dX9_copy_21 rfl (lv_at hl 0 rfl) ?_
  refine x_get C hm inX9 rfl 1 (by decide) tf_RX9_19 (cx_ColouredHeap LX_top) rfl dX9_copy_22 ?_
  refine lv_aload_n hx hb dX9_copy_25 rfl (lv_at hl 0 rfl) ?_
  refine x_get C hm inX9 rfl 0 (by decide) tf_RX9_10 (cx_ColouredHeap LX_top) rfl dX9_copy_26 ?_
  obtain ⟨M7, hq6, hf⟩ := xb1_e hf
  refine x_callVv (As := [.ref (b + 1)]) (rest := []) C hm (c_X5_prepare l E b LX_steps LX_heap M hq6) rfl (cx_Steps (LX_steps 0 _ rfl)) tc_X5_prepare tm_RX9_113 ti_X5_prepare ts_X5_prepare tn_RX5 td_X5_prepare rfl rfl ⟨Nat.le_of_ble_eq_true rfl, Nat.le_of_ble_eq_true rfl⟩ rfl hl.1 rfl (Nat.le_of_ble_eq_true rfl) ⟨Nat.zero_le _, Nat.zero_le _⟩ dX9_copy_29 (fun H locs hP8 hm => ?_)
  refine lv_aload_n hx hb dX9_copy_32 rfl (lv_at hl 0 rfl) ?_
  refine x_get C hm inX9 rfl 1 (by decide) tf_RX9_19 (cx_ColouredHeap LX_top) rfl dX9_copy_33 ?_
  obtain ⟨M10, hq9, hf⟩ := xb1_e hf
  refine x_callVv (As := []) (rest := []) C hm (c_X5_keep l E b LX_steps M7 hq9) rfl (cx_Steps (LX_steps 0 _ rfl)) tc_X5_keep tm_RX9_121 ti_X5_keep ts_X5_keep tn_RX5 td_X5_keep rfl rfl ⟨Nat.le_of_ble_eq_true rfl, Nat.le_of_ble_eq_true rfl⟩ rfl hl.1 rfl (Nat.le_of_ble_eq_true rfl) ⟨Nat.zero_le _, Nat.zero_le _⟩ dX9_copy_36 (fun H locs hP11 hm => ?_)
  refine lv_aload_n hx hb dX9_copy_39 rfl (lv_at hl 0 rfl) ?_
  refine x_get C hm inX9 rfl 0 (by decide) tf_RX9_10 (cx_ColouredHeap LX_top) rfl dX9_copy_40 ?_
  refine x_get C hm inX1 rfl 7 (by decide) tf_RX9_139 (cx_Heap (LX_heap 0 _ rfl)) rfl dX9_copy_43 ?_
  refine lv_iload_n hx hb dX9_copy_46 rfl (lv_at hl 1 rfl) ?_
  refine lv_aload_n hx hb dX9_copy_47 rfl (lv_at hl 0 rfl) ?_
  refine x_get C hm inX9 rfl 0 (by decide) tf_RX9_10 (cx_ColouredHeap LX_top) rfl dX9_copy_48 ?_
  refine x_get C hm inX1 rfl 7 (by decide) tf_RX9_139 (cx_Heap (LX_heap 0 _ rfl)) rfl dX9_copy_51 ?_
  refine lv_iload_n hx hb dX9_copy_54 rfl (lv_at hl 2 rfl) ?_
  obtain ⟨hi12, hf⟩ := xif_s hf
  refine x_iald (j := (Int32.toNatClampNeg a2)) C hm (cx_I (LX_heap 8 _ rfl)) hi12 dX9_copy_55 rfl ?_
  obtain ⟨hi13, hf⟩ := xif_s hf
  obtain ⟨M14, eM14, hf⟩ := xlet_x hf
  refine x_iast (j := (Int32.toNatClampNeg a1)) (cf' := cX E b M14) C hm (cx_I (LX_heap 8 _ rfl)) hi13 dX9_copy_56 rfl (by rw [eM14]; exact cu_I (LX_heap 8 _ rfl)) (by rw [eM14]; exact cX_o) (fun H locs hm => ?_)
  refine lv_iconst (v := (1 : Int32)) hx hb dX9_copy_57 (by decide) ?_
  cases hf
  exact x_zret C hm (by decide) (by decide) dX9_copy_58
/-! ColouredHeap.current(I)I -/
theorem dX9_current_0 : decode cX9_current 0 = .ok (.aload_n 0, 1) := by decide +kernel
theorem dX9_current_1 : decode cX9_current 1 = .ok (.getfield 10, 3) := by decide +kernel
theorem dX9_current_4 : decode cX9_current 4 = .ok (.iload_n 1, 1) := by decide +kernel
theorem dX9_current_5 : decode cX9_current 5 = .ok (.invokevirtual 267, 3) := by decide +kernel
theorem dX9_current_8 : decode cX9_current 8 = .ok (.ireturn, 1) := by decide +kernel
def f_X9_current (M : xm) (a1 : Int32) : Option (Int32) := xb1 (f_X1_leadsTo 1 M a1) (fun v2 => some v2)
set_option maxHeartbeats 4000000 in
set_option maxRecDepth 20000 in
theorem c_X9_current (l : Launch) (E : xE) (b : Nat) (M : xm) (a1 : Int32) {r : Int32} (hf : f_X9_current M a1 = some r) :
    xMet l E b NX yX9_current cX9_current 2 (some .int) (xR 2) [.ref (b + 0), .int a1] (cX E b M) (some (.int r)) True (cX E b M) := by
  refine xMet.ofW (own := RX9) (by decide) rfl (Nat.le_of_ble_eq_true rfl) ?_
  intro p e s m below meth c H locs ls C hm hl
  have hx := C.1.1
  have hb := C.1.2.1
  have hl : lv_has ls 2 [(0, .ref (b + 0)), (1, .int a1)] := hl
  unfold f_X9_current at hf
  refine lv_aload_n hx hb dX9_current_0 rfl (lv_at hl 0 rfl) ?_
  refine x_get C hm inX9 rfl 0 (by decide) tf_RX9_10 (cx_ColouredHeap LX_top) rfl dX9_current_1 ?_
  refine lv_iload_n hx hb dX9_current_4 rfl (lv_at hl 1 rfl) ?_
  obtain ⟨v2, hq1, hf⟩ := xb1_e hf
  refine x_callVi (As := [.int a1]) (rest := []) C hm (c_X1_leadsTo l E b LX_heap M a1 hq1) rfl (cx_Heap (LX_heap 0 _ rfl)) tc_X1_leadsTo tm_RX9_267 ti_X1_leadsTo ts_X1_leadsTo tn_RX1 td_X1_leadsTo rfl rfl ⟨Nat.le_of_ble_eq_true rfl, Nat.le_of_ble_eq_true rfl⟩ rfl hl.1 rfl (Nat.le_of_ble_eq_true rfl) ⟨Nat.zero_le _, Nat.zero_le _⟩ dX9_current_5 (fun H locs hP3 hm => ?_)
  cases hf
  exact x_iret C hm trivial dX9_current_8
/-! ColouredHeap.passTicks(I)I -/
theorem dX9_passTicks_0 : decode cX9_passTicks 0 = .ok (.iconst 0, 1) := by decide +kernel
theorem dX9_passTicks_1 : decode cX9_passTicks 1 = .ok (.istore_n 2, 1) := by decide +kernel
theorem dX9_passTicks_2 : decode cX9_passTicks 2 = .ok (.iconst 0, 1) := by decide +kernel
theorem dX9_passTicks_3 : decode cX9_passTicks 3 = .ok (.istore_n 3, 1) := by decide +kernel
theorem dX9_passTicks_4 : decode cX9_passTicks 4 = .ok (.iload_n 3, 1) := by decide +kernel
theorem dX9_passTicks_5 : decode cX9_passTicks 5 = .ok (.iload_n 1, 1) := by decide +kernel
theorem dX9_passTicks_6 : decode cX9_passTicks 6 = .ok (.if_icmp .ge 65, 3) := by decide +kernel
theorem dX9_passTicks_9 : decode cX9_passTicks 9 = .ok (.aload_n 0, 1) := by decide +kernel
theorem dX9_passTicks_10 : decode cX9_passTicks 10 = .ok (.getfield 10, 3) := by decide +kernel
theorem dX9_passTicks_13 : decode cX9_passTicks 13 = .ok (.getfield 124, 3) := by decide +kernel
theorem dX9_passTicks_16 : decode cX9_passTicks 16 = .ok (.sipush 9999, 3) := by decide +kernel
theorem dX9_passTicks_19 : decode cX9_passTicks 19 = .ok (.if_icmp .ge 52, 3) := by decide +kernel
theorem dX9_passTicks_22 : decode cX9_passTicks 22 = .ok (.aload_n 0, 1) := by decide +kernel
theorem dX9_passTicks_23 : decode cX9_passTicks 23 = .ok (.getfield 19, 3) := by decide +kernel
theorem dX9_passTicks_26 : decode cX9_passTicks 26 = .ok (.aload_n 0, 1) := by decide +kernel
theorem dX9_passTicks_27 : decode cX9_passTicks 27 = .ok (.getfield 10, 3) := by decide +kernel
theorem dX9_passTicks_30 : decode cX9_passTicks 30 = .ok (.invokevirtual 113, 3) := by decide +kernel
theorem dX9_passTicks_33 : decode cX9_passTicks 33 = .ok (.aload_n 0, 1) := by decide +kernel
theorem dX9_passTicks_34 : decode cX9_passTicks 34 = .ok (.getfield 19, 3) := by decide +kernel
theorem dX9_passTicks_37 : decode cX9_passTicks 37 = .ok (.invokevirtual 121, 3) := by decide +kernel
theorem dX9_passTicks_40 : decode cX9_passTicks 40 = .ok (.aload_n 0, 1) := by decide +kernel
theorem dX9_passTicks_41 : decode cX9_passTicks 41 = .ok (.getfield 10, 3) := by decide +kernel
theorem dX9_passTicks_44 : decode cX9_passTicks 44 = .ok (.aload_n 0, 1) := by decide +kernel
theorem dX9_passTicks_45 : decode cX9_passTicks 45 = .ok (.getfield 59, 3) := by decide +kernel
theorem dX9_passTicks_48 : decode cX9_passTicks 48 = .ok (.aload_n 0, 1) := by decide +kernel
theorem dX9_passTicks_49 : decode cX9_passTicks 49 = .ok (.aload_n 0, 1) := by decide +kernel
theorem dX9_passTicks_50 : decode cX9_passTicks 50 = .ok (.getfield 26, 3) := by decide +kernel
theorem dX9_passTicks_53 : decode cX9_passTicks 53 = .ok (.getfield 102, 3) := by decide +kernel
theorem dX9_passTicks_56 : decode cX9_passTicks 56 = .ok (.invokevirtual 80, 3) := by decide +kernel
theorem dX9_passTicks_59 : decode cX9_passTicks 59 = .ok (.invokevirtual 127, 3) := by decide +kernel
theorem dX9_passTicks_62 : decode cX9_passTicks 62 = .ok (.iinc 2 1, 3) := by decide +kernel
theorem dX9_passTicks_65 : decode cX9_passTicks 65 = .ok (.iinc 3 1, 3) := by decide +kernel
theorem dX9_passTicks_68 : decode cX9_passTicks 68 = .ok (.goto (-64), 3) := by decide +kernel
theorem dX9_passTicks_71 : decode cX9_passTicks 71 = .ok (.iload_n 2, 1) := by decide +kernel
theorem dX9_passTicks_72 : decode cX9_passTicks 72 = .ok (.ireturn, 1) := by decide +kernel
def g_X9_passTicks_4 (x1 : Int32) : Nat → xm → Int32 → Int32 → Option ((Int32 × xm))
  | 0, _, _, _ => none
  | n + 1, M4, x2, x3 => (if x1 ≤ x3 then some ((x2, M4)) else (if (9999 : Int32) ≤ (M4 1 17) then some ((x2, M4)) else xb1 (f_X5_prepare 16 1 M4) (fun M10 => xb1 (f_X5_keep 16 M10) (fun M13 => xb1 (f_X9_textAt (M13 483 4)) (fun o16 => xb1 (f_X1_tick 1 o16 M13) (fun M19 => xlet (x2 + (1 : Int32)) (fun v21 => xlet (x3 + (1 : Int32)) (fun v22 => g_X9_passTicks_4 x1 n M19 v21 v22))))))))
def f_X9_passTicks (M : xm) (a1 : Int32) : Option (Int32 × xm) := xb2 (g_X9_passTicks_4 a1 xfuel M (0 : Int32) (0 : Int32)) (fun v23 M24 => some (v23, M24))
set_option maxHeartbeats 4000000 in
set_option maxRecDepth 20000 in
theorem j_X9_passTicks_4 {p : Program} {l : Launch} {e : Env} {s : State} {m : MethodId} {args : Array Value} {below : List Frame} {meth : Method} {c : Code} {Q : State → Prop} {E : xE} {b : Nat} (C : xC p s m args meth c cX9_passTicks 4 RX9 (some .int) E b) (x1 : Int32) {y5 : Int32} {y6 : xm}
    (kx0 : ∀ (H : Heap) (locs : List Loc) (ls : Array Slot), xM E b NX (cX E b y6) s.heap H locs → lv_has ls 4 [(2, .int y5)] → W p l e (xR 8) s m args below meth c H locs 0 0 Q (F0 m 71 ls [])) :
    ∀ (n : Nat) (M4 : xm) (x2 : Int32) (x3 : Int32) (H : Heap) (locs : List Loc) (ls : Array Slot), g_X9_passTicks_4 x1 n M4 x2 x3 = some (y5, y6) → xM E b NX (cX E b M4) s.heap H locs → lv_has ls 4 [(0, .ref (b + 0)), (1, .int x1), (2, .int x2), (3, .int x3)] → W p l e (xR 8) s m args below meth c H locs 0 0 Q (F0 m 4 ls []) := by
  have hx := C.1.1
  have hb := C.1.2.1
  intro n
  induction n with
  | zero =>
    intro M4 x2 x3 H locs ls hf hm hl
    rw [g_X9_passTicks_4] at hf
    cases hf
  | succ n ih =>
    intro M4 x2 x3 H locs ls hf hm hl
    rw [g_X9_passTicks_4] at hf
    refine lv_iload_n hx hb dX9_passTicks_4 rfl (lv_at hl 3 rfl) ?_
    refine lv_iload_n hx hb dX9_passTicks_5 rfl (lv_at hl 1 rfl) ?_
    refine lv_icmp_ge (tgt := 71) hx hb dX9_passTicks_6 (by decide) (fun hc7 => ?_) (fun hc7 => ?_)
    · have hf := xif_t hc7 hf
      cases hf
      exact kx0 H locs ls hm (lv_sub hl [2] rfl)
    have hf := xif_f hc7 hf
    refine lv_aload_n hx hb dX9_passTicks_9 rfl (lv_at hl 0 rfl) ?_
    refine x_get C hm inX9 rfl 0 (by decide) tf_RX9_10 (cx_ColouredHeap LX_top) rfl dX9_passTicks_10 ?_
    refine x_get C hm inX1 rfl 17 (by decide) tf_RX9_124 (cx_Heap (LX_heap 0 _ rfl)) rfl dX9_passTicks_13 ?_
    refine lv_sipush (v := (9999 : Int32)) hx hb dX9_passTicks_16 (by decide) ?_
    refine lv_icmp_ge (tgt := 71) hx hb dX9_passTicks_19 (by decide) (fun hc8 => ?_) (fun hc8 => ?_)
    · have hf := xif_t hc8 hf
      cases hf
      exact kx0 H locs ls hm (lv_sub hl [2] rfl)
    have hf := xif_f hc8 hf
    refine lv_aload_n hx hb dX9_passTicks_22 rfl (lv_at hl 0 rfl) ?_
    refine x_get C hm inX9 rfl 1 (by decide) tf_RX9_19 (cx_ColouredHeap LX_top) rfl dX9_passTicks_23 ?_
    refine lv_aload_n hx hb dX9_passTicks_26 rfl (lv_at hl 0 rfl) ?_
    refine x_get C hm inX9 rfl 0 (by decide) tf_RX9_10 (cx_ColouredHeap LX_top) rfl dX9_passTicks_27 ?_
    obtain ⟨M10, hq9, hf⟩ := xb1_e hf
    refine x_callVv (As := [.ref (b + 1)]) (rest := []) C hm (c_X5_prepare l E b LX_steps LX_heap M4 hq9) rfl (cx_Steps (LX_steps 0 _ rfl)) tc_X5_prepare tm_RX9_113 ti_X5_prepare ts_X5_prepare tn_RX5 td_X5_prepare rfl rfl ⟨Nat.le_of_ble_eq_true rfl, Nat.le_of_ble_eq_true rfl⟩ rfl hl.1 rfl (Nat.le_of_ble_eq_true rfl) ⟨Nat.zero_le _, Nat.zero_le _⟩ dX9_passTicks_30 (fun H locs hP11 hm => ?_)
    refine lv_aload_n hx hb dX9_passTicks_33 rfl (lv_at hl 0 rfl) ?_
    refine x_get C hm inX9 rfl 1 (by decide) tf_RX9_19 (cx_ColouredHeap LX_top) rfl dX9_passTicks_34 ?_
    obtain ⟨M13, hq12, hf⟩ := xb1_e hf
    refine x_callVv (As := []) (rest := []) C hm (c_X5_keep l E b LX_steps M10 hq12) rfl (cx_Steps (LX_steps 0 _ rfl)) tc_X5_keep tm_RX9_121 ti_X5_keep ts_X5_keep tn_RX5 td_X5_keep rfl rfl ⟨Nat.le_of_ble_eq_true rfl, Nat.le_of_ble_eq_true rfl⟩ rfl hl.1 rfl (Nat.le_of_ble_eq_true rfl) ⟨Nat.zero_le _, Nat.zero_le _⟩ dX9_passTicks_37 (fun H locs hP14 hm => ?_)
    refine lv_aload_n hx hb dX9_passTicks_40 rfl (lv_at hl 0 rfl) ?_
    refine x_get C hm inX9 rfl 0 (by decide) tf_RX9_10 (cx_ColouredHeap LX_top) rfl dX9_passTicks_41 ?_
    refine lv_aload_n hx hb dX9_passTicks_44 rfl (lv_at hl 0 rfl) ?_
    refine x_get C hm inX9 rfl 9 (by decide) tf_RX9_59 (cx_ColouredHeap LX_top) rfl dX9_passTicks_45 ?_
    refine lv_aload_n hx hb dX9_passTicks_48 rfl (lv_at hl 0 rfl) ?_
    refine lv_aload_n hx hb dX9_passTicks_49 rfl (lv_at hl 0 rfl) ?_
    refine x_get C hm inX9 rfl 2 (by decide) tf_RX9_26 (cx_ColouredHeap LX_top) rfl dX9_passTicks_50 ?_
    refine x_get C hm inX8 rfl 4 (by decide) tf_RX9_102 (cx_Told (LX_told 0 _ rfl)) rfl dX9_passTicks_53 ?_
    obtain ⟨o16, hq15, hf⟩ := xb1_e hf
    refine x_callVr (As := [.int (M13 483 4)]) (rest := [.ref (b + 1004), .ref (b + 1)]) C hm (c_X9_textAt l E b M13 (M13 483 4) hq15) rfl (cx_ColouredHeap LX_top) tc_X9_textAt tm_RX9_80 ti_X9_textAt ts_X9_textAt tn_RX9 td_X9_textAt rfl rfl ⟨Nat.le_of_ble_eq_true rfl, Nat.le_of_ble_eq_true rfl⟩ rfl hl.1 rfl (Nat.le_of_ble_eq_true rfl) ⟨Nat.zero_le _, Nat.zero_le _⟩ dX9_passTicks_56 (fun H locs hP17 hm => ?_)
    obtain ⟨M19, hq18, hf⟩ := xb1_e hf
    refine x_callVv (As := [.ref (b + 1004), xrf b o16]) (rest := []) C hm (c_X1_tick l E b LX_heap (X9_textAt_lat  hq15) M13 hq18) rfl (cx_Heap (LX_heap 0 _ rfl)) tc_X1_tick tm_RX9_127 ti_X1_tick ts_X1_tick tn_RX1 td_X1_tick rfl rfl ⟨Nat.le_of_ble_eq_true rfl, Nat.le_of_ble_eq_true rfl⟩ rfl hl.1 rfl (Nat.le_of_ble_eq_true rfl) ⟨Nat.zero_le _, Nat.zero_le _⟩ dX9_passTicks_59 (fun H locs hP20 hm => ?_)
    obtain ⟨v21, ev21, hf⟩ := xlet_x hf
    refine lv_iinc (v := v21) (lv' := [(2, .int v21), (0, .ref (b + 0)), (1, .int x1), (3, .int x3)]) hx hb dX9_passTicks_62 hl (k := 2) rfl (by rw [ev21]; rfl) (by decide) rfl (fun ls hl => ?_)
    obtain ⟨v22, ev22, hf⟩ := xlet_x hf
    refine lv_iinc (v := v22) (lv' := [(3, .int v22), (2, .int v21), (0, .ref (b + 0)), (1, .int x1)]) hx hb dX9_passTicks_65 hl (k := 3) rfl (by rw [ev22]; rfl) (by decide) rfl (fun ls hl => ?_)
    refine lv_goto (tgt := 4) hx hb dX9_passTicks_68 (by decide) ?_
    exact ih M19 v21 v22 H locs ls hf hm (lv_sub hl [2, 3, 1, 0] rfl)
set_option maxHeartbeats 4000000 in
set_option maxRecDepth 20000 in
theorem c_X9_passTicks (l : Launch) (E : xE) (b : Nat) (M : xm) (a1 : Int32) {r : Int32} {M' : xm} (hf : f_X9_passTicks M a1 = some (r, M')) :
    xMet l E b NX yX9_passTicks cX9_passTicks 4 (some .int) (xR 8) [.ref (b + 0), .int a1] (cX E b M) (some (.int r)) True (cX E b M') := by
  refine xMet.ofW (own := RX9) (by decide) rfl (Nat.le_of_ble_eq_true rfl) ?_
  intro p e s m below meth c H locs ls C hm hl
  have hx := C.1.1
  have hb := C.1.2.1
  have hl : lv_has ls 4 [(0, .ref (b + 0)), (1, .int a1)] := hl
  unfold f_X9_passTicks at hf
  refine lv_iconst (v := (0 : Int32)) hx hb dX9_passTicks_0 (by decide) ?_
  refine lv_istore_n (lv' := [(2, .int (0 : Int32)), (0, .ref (b + 0)), (1, .int a1)]) hx hb dX9_passTicks_1 rfl hl (by decide) rfl (fun ls hl => ?_)
  refine lv_iconst (v := (0 : Int32)) hx hb dX9_passTicks_2 (by decide) ?_
  refine lv_istore_n (lv' := [(3, .int (0 : Int32)), (2, .int (0 : Int32)), (0, .ref (b + 0)), (1, .int a1)]) hx hb dX9_passTicks_3 rfl hl (by decide) rfl (fun ls hl => ?_)
  obtain ⟨v23, M24, hq, hf⟩ := xb2_e hf
  refine j_X9_passTicks_4 C a1 (fun H locs ls hm hl => ?_) xfuel M (0 : Int32) (0 : Int32) H locs ls hq hm (lv_sub hl [2, 3, 1, 0] rfl)
  refine lv_iload_n hx hb dX9_passTicks_71 rfl (lv_at hl 0 rfl) ?_
  cases hf
  exact x_iret C hm trivial dX9_passTicks_72
/-! ColouredHeap.day(I)I -/
theorem dX9_day_0 : decode cX9_day 0 = .ok (.iload_n 1, 1) := by decide +kernel
theorem dX9_day_1 : decode cX9_day 1 = .ok (.iconst 1, 1) := by decide +kernel
theorem dX9_day_2 : decode cX9_day 2 = .ok (.if_icmp .lt 24, 3) := by decide +kernel
theorem dX9_day_5 : decode cX9_day 5 = .ok (.iload_n 1, 1) := by decide +kernel
theorem dX9_day_6 : decode cX9_day 6 = .ok (.bipush 60, 2) := by decide +kernel
theorem dX9_day_8 : decode cX9_day 8 = .ok (.if_icmp .gt 18, 3) := by decide +kernel
theorem dX9_day_11 : decode cX9_day 11 = .ok (.aload_n 0, 1) := by decide +kernel
theorem dX9_day_12 : decode cX9_day 12 = .ok (.getfield 10, 3) := by decide +kernel
theorem dX9_day_15 : decode cX9_day 15 = .ok (.getfield 124, 3) := by decide +kernel
theorem dX9_day_18 : decode cX9_day 18 = .ok (.iload_n 1, 1) := by decide +kernel
theorem dX9_day_19 : decode cX9_day 19 = .ok (.iadd, 1) := by decide +kernel
theorem dX9_day_20 : decode cX9_day 20 = .ok (.sipush 9999, 3) := by decide +kernel
theorem dX9_day_23 : decode cX9_day 23 = .ok (.if_icmp .le 5, 3) := by decide +kernel
theorem dX9_day_26 : decode cX9_day 26 = .ok (.iconst (-1), 1) := by decide +kernel
theorem dX9_day_27 : decode cX9_day 27 = .ok (.ireturn, 1) := by decide +kernel
theorem dX9_day_28 : decode cX9_day 28 = .ok (.aload_n 0, 1) := by decide +kernel
theorem dX9_day_29 : decode cX9_day 29 = .ok (.iload_n 1, 1) := by decide +kernel
theorem dX9_day_30 : decode cX9_day 30 = .ok (.invokevirtual 168, 3) := by decide +kernel
theorem dX9_day_33 : decode cX9_day 33 = .ok (.pop, 1) := by decide +kernel
theorem dX9_day_34 : decode cX9_day 34 = .ok (.aload_n 0, 1) := by decide +kernel
theorem dX9_day_35 : decode cX9_day 35 = .ok (.getfield 10, 3) := by decide +kernel
theorem dX9_day_38 : decode cX9_day 38 = .ok (.getfield 172, 3) := by decide +kernel
theorem dX9_day_41 : decode cX9_day 41 = .ok (.ireturn, 1) := by decide +kernel
def f_X9_day (M : xm) (a1 : Int32) : Option (Int32 × xm) := (if a1 < (1 : Int32) then some ((-1 : Int32), M) else (if (60 : Int32) < a1 then some ((-1 : Int32), M) else (if ((M 1 17) + a1) ≤ (9999 : Int32) then xb2 (f_X9_passTicks M a1) (fun v5 M6 => some ((M6 1 14), M6)) else some ((-1 : Int32), M))))
set_option maxHeartbeats 4000000 in
set_option maxRecDepth 20000 in
theorem c_X9_day (l : Launch) (E : xE) (b : Nat) (M : xm) (a1 : Int32) {r : Int32} {M' : xm} (hf : f_X9_day M a1 = some (r, M')) :
    xMet l E b NX yX9_day cX9_day 2 (some .int) (xR 9) [.ref (b + 0), .int a1] (cX E b M) (some (.int r)) True (cX E b M') := by
  refine xMet.ofW (own := RX9) (by decide) rfl (Nat.le_of_ble_eq_true rfl) ?_
  intro p e s m below meth c H locs ls C hm hl
  have hx := C.1.1
  have hb := C.1.2.1
  have hl : lv_has ls 2 [(0, .ref (b + 0)), (1, .int a1)] := hl
  unfold f_X9_day at hf
  refine lv_iload_n hx hb dX9_day_0 rfl (lv_at hl 1 rfl) ?_
  refine lv_iconst (v := (1 : Int32)) hx hb dX9_day_1 (by decide) ?_
  refine lv_icmp_lt (tgt := 26) hx hb dX9_day_2 (by decide) (fun hc1 => ?_) (fun hc1 => ?_)
  · have hf := xif_t hc1 hf
    refine lv_iconst (v := (-1 : Int32)) hx hb dX9_day_26 (by decide) ?_
    cases hf
    exact x_iret C hm trivial dX9_day_27
  have hf := xif_f hc1 hf
  refine lv_iload_n hx hb dX9_day_5 rfl (lv_at hl 1 rfl) ?_
  refine lv_bipush (v := (60 : Int32)) hx hb dX9_day_6 (by decide) ?_
  refine lv_icmp_gt (tgt := 26) hx hb dX9_day_8 (by decide) (fun hc2 => ?_) (fun hc2 => ?_)
  · have hf := xif_t hc2 hf
    refine lv_iconst (v := (-1 : Int32)) hx hb dX9_day_26 (by decide) ?_
    cases hf
    exact x_iret C hm trivial dX9_day_27
  have hf := xif_f hc2 hf
  refine lv_aload_n hx hb dX9_day_11 rfl (lv_at hl 0 rfl) ?_
  refine x_get C hm inX9 rfl 0 (by decide) tf_RX9_10 (cx_ColouredHeap LX_top) rfl dX9_day_12 ?_
  refine x_get C hm inX1 rfl 17 (by decide) tf_RX9_124 (cx_Heap (LX_heap 0 _ rfl)) rfl dX9_day_15 ?_
  refine lv_iload_n hx hb dX9_day_18 rfl (lv_at hl 1 rfl) ?_
  refine lv_iadd hx hb dX9_day_19 ?_
  refine lv_sipush (v := (9999 : Int32)) hx hb dX9_day_20 (by decide) ?_
  refine lv_icmp_le (tgt := 28) hx hb dX9_day_23 (by decide) (fun hc3 => ?_) (fun hc3 => ?_)
  rotate_left
  · have hf := xif_f hc3 hf
    refine lv_iconst (v := (-1 : Int32)) hx hb dX9_day_26 (by decide) ?_
    cases hf
    exact x_iret C hm trivial dX9_day_27
  have hf := xif_t hc3 hf
  refine lv_aload_n hx hb dX9_day_28 rfl (lv_at hl 0 rfl) ?_
  refine lv_iload_n hx hb dX9_day_29 rfl (lv_at hl 1 rfl) ?_
  obtain ⟨v5, M6, hq4, hf⟩ := xb2_e hf
  refine x_callVi (As := [.int a1]) (rest := []) C hm (c_X9_passTicks l E b M a1 hq4) rfl (cx_ColouredHeap LX_top) tc_X9_passTicks tm_RX9_168 ti_X9_passTicks ts_X9_passTicks tn_RX9 td_X9_passTicks rfl rfl ⟨Nat.le_of_ble_eq_true rfl, Nat.le_of_ble_eq_true rfl⟩ rfl hl.1 rfl (Nat.le_of_ble_eq_true rfl) ⟨Nat.zero_le _, Nat.zero_le _⟩ dX9_day_30 (fun H locs hP7 hm => ?_)
  refine lv_pop hx hb dX9_day_33 rfl ?_
  refine lv_aload_n hx hb dX9_day_34 rfl (lv_at hl 0 rfl) ?_
  refine x_get C hm inX9 rfl 0 (by decide) tf_RX9_10 (cx_ColouredHeap LX_top) rfl dX9_day_35 ?_
  refine x_get C hm inX1 rfl 14 (by decide) tf_RX9_172 (cx_Heap (LX_heap 0 _ rfl)) rfl dX9_day_38 ?_
  cases hf
  exact x_iret C hm trivial dX9_day_41
/-! ColouredHeap.dead()I -/
theorem dX9_dead_0 : decode cX9_dead 0 = .ok (.aload_n 0, 1) := by decide +kernel
theorem dX9_dead_1 : decode cX9_dead 1 = .ok (.getfield 45, 3) := by decide +kernel
theorem dX9_dead_4 : decode cX9_dead 4 = .ok (.aload_n 0, 1) := by decide +kernel
theorem dX9_dead_5 : decode cX9_dead 5 = .ok (.getfield 10, 3) := by decide +kernel
theorem dX9_dead_8 : decode cX9_dead 8 = .ok (.iconst (-1), 1) := by decide +kernel
theorem dX9_dead_9 : decode cX9_dead 9 = .ok (.invokevirtual 273, 3) := by decide +kernel
theorem dX9_dead_12 : decode cX9_dead 12 = .ok (.iconst 0, 1) := by decide +kernel
theorem dX9_dead_13 : decode cX9_dead 13 = .ok (.istore_n 1, 1) := by decide +kernel
theorem dX9_dead_14 : decode cX9_dead 14 = .ok (.iconst 0, 1) := by decide +kernel
theorem dX9_dead_15 : decode cX9_dead 15 = .ok (.istore_n 2, 1) := by decide +kernel
theorem dX9_dead_16 : decode cX9_dead 16 = .ok (.iload_n 2, 1) := by decide +kernel
theorem dX9_dead_17 : decode cX9_dead 17 = .ok (.bipush 8, 2) := by decide +kernel
theorem dX9_dead_19 : decode cX9_dead 19 = .ok (.if_icmp .ge 24, 3) := by decide +kernel
theorem dX9_dead_22 : decode cX9_dead 22 = .ok (.iload_n 1, 1) := by decide +kernel
theorem dX9_dead_23 : decode cX9_dead 23 = .ok (.aload_n 0, 1) := by decide +kernel
theorem dX9_dead_24 : decode cX9_dead 24 = .ok (.getfield 45, 3) := by decide +kernel
theorem dX9_dead_27 : decode cX9_dead 27 = .ok (.aload_n 0, 1) := by decide +kernel
theorem dX9_dead_28 : decode cX9_dead 28 = .ok (.getfield 10, 3) := by decide +kernel
theorem dX9_dead_31 : decode cX9_dead 31 = .ok (.iload_n 2, 1) := by decide +kernel
theorem dX9_dead_32 : decode cX9_dead 32 = .ok (.invokevirtual 280, 3) := by decide +kernel
theorem dX9_dead_35 : decode cX9_dead 35 = .ok (.iadd, 1) := by decide +kernel
theorem dX9_dead_36 : decode cX9_dead 36 = .ok (.istore_n 1, 1) := by decide +kernel
theorem dX9_dead_37 : decode cX9_dead 37 = .ok (.iinc 2 1, 3) := by decide +kernel
theorem dX9_dead_40 : decode cX9_dead 40 = .ok (.goto (-24), 3) := by decide +kernel
theorem dX9_dead_43 : decode cX9_dead 43 = .ok (.iload_n 1, 1) := by decide +kernel
theorem dX9_dead_44 : decode cX9_dead 44 = .ok (.ireturn, 1) := by decide +kernel
def g_X9_dead_16 (M : xm) : Nat → Int32 → Int32 → Option ((Int32))
  | 0, _, _ => none
  | n + 1, x4, x5 => (if (8 : Int32) ≤ x5 then some (x4) else xb1 (f_X6_gapsOf 1 M x5) (fun v9 => xlet (x4 + v9) (fun v11 => xlet (x5 + (1 : Int32)) (fun v12 => g_X9_dead_16 M n v11 v12))))
def f_X9_dead (M : xm) : Option (Int32 × xm) := xb1 (f_X6_take 1 M (-1 : Int32)) (fun M2 => xb1 (g_X9_dead_16 M2 xfuel (0 : Int32) (0 : Int32)) (fun v13 => some (v13, M2)))
set_option maxHeartbeats 4000000 in
set_option maxRecDepth 20000 in
theorem j_X9_dead_16 {p : Program} {l : Launch} {e : Env} {s : State} {m : MethodId} {args : Array Value} {below : List Frame} {meth : Method} {c : Code} {Q : State → Prop} {E : xE} {b : Nat} (C : xC p s m args meth c cX9_dead 3 RX9 (some .int) E b) (M : xm) {y6 : Int32}
    (kx0 : ∀ (H : Heap) (locs : List Loc) (ls : Array Slot), xM E b NX (cX E b M) s.heap H locs → lv_has ls 3 [(1, .int y6)] → W p l e (xR 5) s m args below meth c H locs 0 0 Q (F0 m 43 ls [])) :
    ∀ (n : Nat) (x4 : Int32) (x5 : Int32) (H : Heap) (locs : List Loc) (ls : Array Slot), g_X9_dead_16 M n x4 x5 = some y6 → xM E b NX (cX E b M) s.heap H locs → lv_has ls 3 [(0, .ref (b + 0)), (1, .int x4), (2, .int x5)] → W p l e (xR 5) s m args below meth c H locs 0 0 Q (F0 m 16 ls []) := by
  have hx := C.1.1
  have hb := C.1.2.1
  intro n
  induction n with
  | zero =>
    intro x4 x5 H locs ls hf hm hl
    rw [g_X9_dead_16] at hf
    cases hf
  | succ n ih =>
    intro x4 x5 H locs ls hf hm hl
    rw [g_X9_dead_16] at hf
    refine lv_iload_n hx hb dX9_dead_16 rfl (lv_at hl 2 rfl) ?_
    refine lv_bipush (v := (8 : Int32)) hx hb dX9_dead_17 (by decide) ?_
    refine lv_icmp_ge (tgt := 43) hx hb dX9_dead_19 (by decide) (fun hc7 => ?_) (fun hc7 => ?_)
    · have hf := xif_t hc7 hf
      cases hf
      exact kx0 H locs ls hm (lv_sub hl [1] rfl)
    have hf := xif_f hc7 hf
    refine lv_iload_n hx hb dX9_dead_22 rfl (lv_at hl 1 rfl) ?_
    refine lv_aload_n hx hb dX9_dead_23 rfl (lv_at hl 0 rfl) ?_
    refine x_get C hm inX9 rfl 7 (by decide) tf_RX9_45 (cx_ColouredHeap LX_top) rfl dX9_dead_24 ?_
    refine lv_aload_n hx hb dX9_dead_27 rfl (lv_at hl 0 rfl) ?_
    refine x_get C hm inX9 rfl 0 (by decide) tf_RX9_10 (cx_ColouredHeap LX_top) rfl dX9_dead_28 ?_
    refine lv_iload_n hx hb dX9_dead_31 rfl (lv_at hl 2 rfl) ?_
    obtain ⟨v9, hq8, hf⟩ := xb1_e hf
    refine x_callVi (As := [.ref (b + 1), .int x5]) (rest := [.int x4]) C hm (c_X6_gapsOf l E b LX_heap M x5 hq8) rfl (cx_Survey (LX_survey 0 _ rfl)) tc_X6_gapsOf tm_RX9_280 ti_X6_gapsOf ts_X6_gapsOf tn_RX6 td_X6_gapsOf rfl rfl ⟨Nat.le_of_ble_eq_true rfl, Nat.le_of_ble_eq_true rfl⟩ rfl hl.1 rfl (Nat.le_of_ble_eq_true rfl) ⟨Nat.zero_le _, Nat.zero_le _⟩ dX9_dead_32 (fun H locs hP10 hm => ?_)
    refine lv_iadd hx hb dX9_dead_35 ?_
    refine lv_topi (fun v11 ev11 => ?_)
    have hf := xlet_e ev11 hf
    refine lv_istore_n (lv' := [(1, .int v11), (0, .ref (b + 0)), (2, .int x5)]) hx hb dX9_dead_36 rfl hl (by decide) rfl (fun ls hl => ?_)
    obtain ⟨v12, ev12, hf⟩ := xlet_x hf
    refine lv_iinc (v := v12) (lv' := [(2, .int v12), (1, .int v11), (0, .ref (b + 0))]) hx hb dX9_dead_37 hl (k := 2) rfl (by rw [ev12]; rfl) (by decide) rfl (fun ls hl => ?_)
    refine lv_goto (tgt := 16) hx hb dX9_dead_40 (by decide) ?_
    exact ih v11 v12 H locs ls hf hm (lv_sub hl [2, 1, 0] rfl)
set_option maxHeartbeats 4000000 in
set_option maxRecDepth 20000 in
theorem c_X9_dead (l : Launch) (E : xE) (b : Nat) (M : xm) {r : Int32} {M' : xm} (hf : f_X9_dead M = some (r, M')) :
    xMet l E b NX yX9_dead cX9_dead 3 (some .int) (xR 5) [.ref (b + 0)] (cX E b M) (some (.int r)) True (cX E b M') := by
  refine xMet.ofW (own := RX9) (by decide) rfl (Nat.le_of_ble_eq_true rfl) ?_
  intro p e s m below meth c H locs ls C hm hl
  have hx := C.1.1
  have hb := C.1.2.1
  have hl : lv_has ls 3 [(0, .ref (b + 0))] := hl
  unfold f_X9_dead at hf
  refine lv_aload_n hx hb dX9_dead_0 rfl (lv_at hl 0 rfl) ?_
  refine x_get C hm inX9 rfl 7 (by decide) tf_RX9_45 (cx_ColouredHeap LX_top) rfl dX9_dead_1 ?_
  refine lv_aload_n hx hb dX9_dead_4 rfl (lv_at hl 0 rfl) ?_
  refine x_get C hm inX9 rfl 0 (by decide) tf_RX9_10 (cx_ColouredHeap LX_top) rfl dX9_dead_5 ?_
  refine lv_iconst (v := (-1 : Int32)) hx hb dX9_dead_8 (by decide) ?_
  obtain ⟨M2, hq1, hf⟩ := xb1_e hf
  refine x_callVv (As := [.ref (b + 1), .int (-1 : Int32)]) (rest := []) C hm (c_X6_take l E b LX_heap M (-1 : Int32) hq1) rfl (cx_Survey (LX_survey 0 _ rfl)) tc_X6_take tm_RX9_273 ti_X6_take ts_X6_take tn_RX6 td_X6_take rfl rfl ⟨Nat.le_of_ble_eq_true rfl, Nat.le_of_ble_eq_true rfl⟩ rfl hl.1 rfl (Nat.le_of_ble_eq_true rfl) ⟨Nat.zero_le _, Nat.zero_le _⟩ dX9_dead_9 (fun H locs hP3 hm => ?_)
  refine lv_iconst (v := (0 : Int32)) hx hb dX9_dead_12 (by decide) ?_
  refine lv_istore_n (lv' := [(1, .int (0 : Int32)), (0, .ref (b + 0))]) hx hb dX9_dead_13 rfl hl (by decide) rfl (fun ls hl => ?_)
  refine lv_iconst (v := (0 : Int32)) hx hb dX9_dead_14 (by decide) ?_
  refine lv_istore_n (lv' := [(2, .int (0 : Int32)), (1, .int (0 : Int32)), (0, .ref (b + 0))]) hx hb dX9_dead_15 rfl hl (by decide) rfl (fun ls hl => ?_)
  obtain ⟨v13, hq, hf⟩ := xb1_e hf
  refine j_X9_dead_16 C M2 (fun H locs ls hm hl => ?_) xfuel (0 : Int32) (0 : Int32) H locs ls hq hm (lv_sub hl [2, 1, 0] rfl)
  refine lv_iload_n hx hb dX9_dead_43 rfl (lv_at hl 0 rfl) ?_
  cases hf
  exact x_iret C hm trivial dX9_dead_44
/-! ColouredHeap.draw(I)V -/
theorem dX9_draw_0 : decode cX9_draw 0 = .ok (.iload_n 1, 1) := by decide +kernel
theorem dX9_draw_1 : decode cX9_draw 1 = .ok (.bipush 6, 2) := by decide +kernel
theorem dX9_draw_3 : decode cX9_draw 3 = .ok (.idiv, 1) := by decide +kernel
theorem dX9_draw_4 : decode cX9_draw 4 = .ok (.istore_n 2, 1) := by decide +kernel
theorem dX9_draw_5 : decode cX9_draw 5 = .ok (.iload_n 1, 1) := by decide +kernel
theorem dX9_draw_6 : decode cX9_draw 6 = .ok (.bipush 6, 2) := by decide +kernel
theorem dX9_draw_8 : decode cX9_draw 8 = .ok (.irem, 1) := by decide +kernel
theorem dX9_draw_9 : decode cX9_draw 9 = .ok (.tableswitch 124 0 3 #[31, 48, 70, 91], 31) := by decide +kernel
theorem dX9_draw_40 : decode cX9_draw 40 = .ok (.aload_n 0, 1) := by decide +kernel
theorem dX9_draw_41 : decode cX9_draw 41 = .ok (.getfield 10, 3) := by decide +kernel
theorem dX9_draw_44 : decode cX9_draw 44 = .ok (.iload_n 1, 1) := by decide +kernel
theorem dX9_draw_45 : decode cX9_draw 45 = .ok (.iconst 5, 1) := by decide +kernel
theorem dX9_draw_46 : decode cX9_draw 46 = .ok (.irem, 1) := by decide +kernel
theorem dX9_draw_47 : decode cX9_draw 47 = .ok (.iload_n 2, 1) := by decide +kernel
theorem dX9_draw_48 : decode cX9_draw 48 = .ok (.iconst 4, 1) := by decide +kernel
theorem dX9_draw_49 : decode cX9_draw 49 = .ok (.irem, 1) := by decide +kernel
theorem dX9_draw_50 : decode cX9_draw 50 = .ok (.invokevirtual 117, 3) := by decide +kernel
theorem dX9_draw_53 : decode cX9_draw 53 = .ok (.pop, 1) := by decide +kernel
theorem dX9_draw_54 : decode cX9_draw 54 = .ok (.goto 114, 3) := by decide +kernel
theorem dX9_draw_57 : decode cX9_draw 57 = .ok (.aload_n 0, 1) := by decide +kernel
theorem dX9_draw_58 : decode cX9_draw 58 = .ok (.getfield 10, 3) := by decide +kernel
theorem dX9_draw_61 : decode cX9_draw 61 = .ok (.iconst 4, 1) := by decide +kernel
theorem dX9_draw_62 : decode cX9_draw 62 = .ok (.iload_n 1, 1) := by decide +kernel
theorem dX9_draw_63 : decode cX9_draw 63 = .ok (.iconst 2, 1) := by decide +kernel
theorem dX9_draw_64 : decode cX9_draw 64 = .ok (.irem, 1) := by decide +kernel
theorem dX9_draw_65 : decode cX9_draw 65 = .ok (.iadd, 1) := by decide +kernel
theorem dX9_draw_66 : decode cX9_draw 66 = .ok (.iload_n 1, 1) := by decide +kernel
theorem dX9_draw_67 : decode cX9_draw 67 = .ok (.iconst 4, 1) := by decide +kernel
theorem dX9_draw_68 : decode cX9_draw 68 = .ok (.irem, 1) := by decide +kernel
theorem dX9_draw_69 : decode cX9_draw 69 = .ok (.iload_n 2, 1) := by decide +kernel
theorem dX9_draw_70 : decode cX9_draw 70 = .ok (.iconst 3, 1) := by decide +kernel
theorem dX9_draw_71 : decode cX9_draw 71 = .ok (.irem, 1) := by decide +kernel
theorem dX9_draw_72 : decode cX9_draw 72 = .ok (.invokevirtual 131, 3) := by decide +kernel
theorem dX9_draw_75 : decode cX9_draw 75 = .ok (.pop, 1) := by decide +kernel
theorem dX9_draw_76 : decode cX9_draw 76 = .ok (.goto 92, 3) := by decide +kernel
theorem dX9_draw_79 : decode cX9_draw 79 = .ok (.aload_n 0, 1) := by decide +kernel
theorem dX9_draw_80 : decode cX9_draw 80 = .ok (.getfield 10, 3) := by decide +kernel
theorem dX9_draw_83 : decode cX9_draw 83 = .ok (.iload_n 1, 1) := by decide +kernel
theorem dX9_draw_84 : decode cX9_draw 84 = .ok (.iconst 4, 1) := by decide +kernel
theorem dX9_draw_85 : decode cX9_draw 85 = .ok (.irem, 1) := by decide +kernel
theorem dX9_draw_86 : decode cX9_draw 86 = .ok (.iload_n 1, 1) := by decide +kernel
theorem dX9_draw_87 : decode cX9_draw 87 = .ok (.iconst 3, 1) := by decide +kernel
theorem dX9_draw_88 : decode cX9_draw 88 = .ok (.irem, 1) := by decide +kernel
theorem dX9_draw_89 : decode cX9_draw 89 = .ok (.iload_n 2, 1) := by decide +kernel
theorem dX9_draw_90 : decode cX9_draw 90 = .ok (.bipush 6, 2) := by decide +kernel
theorem dX9_draw_92 : decode cX9_draw 92 = .ok (.irem, 1) := by decide +kernel
theorem dX9_draw_93 : decode cX9_draw 93 = .ok (.invokevirtual 135, 3) := by decide +kernel
theorem dX9_draw_96 : decode cX9_draw 96 = .ok (.pop, 1) := by decide +kernel
theorem dX9_draw_97 : decode cX9_draw 97 = .ok (.goto 71, 3) := by decide +kernel
theorem dX9_draw_100 : decode cX9_draw 100 = .ok (.iload_n 1, 1) := by decide +kernel
theorem dX9_draw_101 : decode cX9_draw 101 = .ok (.iconst 4, 1) := by decide +kernel
theorem dX9_draw_102 : decode cX9_draw 102 = .ok (.irem, 1) := by decide +kernel
theorem dX9_draw_103 : decode cX9_draw 103 = .ok (.iconst 1, 1) := by decide +kernel
theorem dX9_draw_104 : decode cX9_draw 104 = .ok (.if_icmp .ne 64, 3) := by decide +kernel
theorem dX9_draw_107 : decode cX9_draw 107 = .ok (.iload_n 2, 1) := by decide +kernel
theorem dX9_draw_108 : decode cX9_draw 108 = .ok (.bipush 6, 2) := by decide +kernel
theorem dX9_draw_110 : decode cX9_draw 110 = .ok (.irem, 1) := by decide +kernel
theorem dX9_draw_111 : decode cX9_draw 111 = .ok (.invokestatic 105, 3) := by decide +kernel
theorem dX9_draw_114 : decode cX9_draw 114 = .ok (.ifCond .eq 54, 3) := by decide +kernel
theorem dX9_draw_117 : decode cX9_draw 117 = .ok (.aload_n 0, 1) := by decide +kernel
theorem dX9_draw_118 : decode cX9_draw 118 = .ok (.getfield 10, 3) := by decide +kernel
theorem dX9_draw_121 : decode cX9_draw 121 = .ok (.getfield 139, 3) := by decide +kernel
theorem dX9_draw_124 : decode cX9_draw 124 = .ok (.iload_n 2, 1) := by decide +kernel
theorem dX9_draw_125 : decode cX9_draw 125 = .ok (.bipush 6, 2) := by decide +kernel
theorem dX9_draw_127 : decode cX9_draw 127 = .ok (.irem, 1) := by decide +kernel
theorem dX9_draw_128 : decode cX9_draw 128 = .ok (.iconst (-1), 1) := by decide +kernel
theorem dX9_draw_129 : decode cX9_draw 129 = .ok (.iastore, 1) := by decide +kernel
theorem dX9_draw_130 : decode cX9_draw 130 = .ok (.goto 38, 3) := by decide +kernel
theorem dX9_draw_133 : decode cX9_draw 133 = .ok (.aload_n 0, 1) := by decide +kernel
theorem dX9_draw_134 : decode cX9_draw 134 = .ok (.getfield 10, 3) := by decide +kernel
theorem dX9_draw_137 : decode cX9_draw 137 = .ok (.getfield 124, 3) := by decide +kernel
theorem dX9_draw_140 : decode cX9_draw 140 = .ok (.sipush 9999, 3) := by decide +kernel
theorem dX9_draw_143 : decode cX9_draw 143 = .ok (.if_icmp .ge 25, 3) := by decide +kernel
theorem dX9_draw_146 : decode cX9_draw 146 = .ok (.aload_n 0, 1) := by decide +kernel
theorem dX9_draw_147 : decode cX9_draw 147 = .ok (.getfield 10, 3) := by decide +kernel
theorem dX9_draw_150 : decode cX9_draw 150 = .ok (.aload_n 0, 1) := by decide +kernel
theorem dX9_draw_151 : decode cX9_draw 151 = .ok (.getfield 59, 3) := by decide +kernel
theorem dX9_draw_154 : decode cX9_draw 154 = .ok (.aload_n 0, 1) := by decide +kernel
theorem dX9_draw_155 : decode cX9_draw 155 = .ok (.aload_n 0, 1) := by decide +kernel
theorem dX9_draw_156 : decode cX9_draw 156 = .ok (.getfield 26, 3) := by decide +kernel
theorem dX9_draw_159 : decode cX9_draw 159 = .ok (.getfield 102, 3) := by decide +kernel
theorem dX9_draw_162 : decode cX9_draw 162 = .ok (.invokevirtual 80, 3) := by decide +kernel
theorem dX9_draw_165 : decode cX9_draw 165 = .ok (.invokevirtual 127, 3) := by decide +kernel
theorem dX9_draw_168 : decode cX9_draw 168 = .ok (.return_, 1) := by decide +kernel
def f_X9_draw (M : xm) (a1 : Int32) : Option (xm) := xlet (a1 / (6 : Int32)) (fun v1 => (if (xrem a1 (6 : Int32)) = (0 : Int32) then xb2 (f_X1_makeObject 1 M (xrem a1 (5 : Int32)) (xrem v1 (4 : Int32))) (fun v4 M5 => some M5) else (if (xrem a1 (6 : Int32)) = (1 : Int32) then xb2 (f_X1_loadField 1 M ((4 : Int32) + (xrem a1 (2 : Int32))) (xrem a1 (4 : Int32)) (xrem v1 (3 : Int32))) (fun v9 M10 => some M10) else (if (xrem a1 (6 : Int32)) = (2 : Int32) then xb2 (f_X1_storeField 1 M (xrem a1 (4 : Int32)) (xrem a1 (3 : Int32)) (xrem v1 (6 : Int32))) (fun v14 M15 => some M15) else (if (xrem a1 (6 : Int32)) = (3 : Int32) then (if (xrem a1 (4 : Int32)) = (1 : Int32) then (if (f_X9_isRoot (xrem v1 (6 : Int32))) = 0 then some M else if xin (xrem v1 (6 : Int32)) 6 = true then xlet (up2 M (1 + 8) (Int32.toNatClampNeg (xrem v1 (6 : Int32))) (-1 : Int32)) (fun M22 => some M22) else none) else some M) else (if (9999 : Int32) ≤ (M 1 17) then some M else xb1 (f_X9_textAt (M 483 4)) (fun o25 => xb1 (f_X1_tick 1 o25 M) (fun M28 => some M28))))))))
set_option maxHeartbeats 4000000 in
set_option maxRecDepth 20000 in
theorem c_X9_draw (l : Launch) (E : xE) (b : Nat) (M : xm) (a1 : Int32) {M' : xm} (hf : f_X9_draw M a1 = some M') :
    xMet l E b NX yX9_draw cX9_draw 3 none (xR 8) [.ref (b + 0), .int a1] (cX E b M) none True (cX E b M') := by
  refine xMet.ofW (own := RX9) (by decide) rfl (Nat.le_of_ble_eq_true rfl) ?_
  intro p e s m below meth c H locs ls C hm hl
  have hx := C.1.1
  have hb := C.1.2.1
  have hl : lv_has ls 3 [(0, .ref (b + 0)), (1, .int a1)] := hl
  unfold f_X9_draw at hf
  refine lv_iload_n hx hb dX9_draw_0 rfl (lv_at hl 1 rfl) ?_
  refine lv_bipush (v := (6 : Int32)) hx hb dX9_draw_1 (by decide) ?_
  refine lv_idiv hx hb dX9_draw_3 (by decide) ?_
  refine lv_topi (fun v1 ev1 => ?_)
  have hf := xlet_e ev1 hf
  refine lv_istore_n (lv' := [(2, .int v1), (0, .ref (b + 0)), (1, .int a1)]) hx hb dX9_draw_4 rfl hl (by decide) rfl (fun ls hl => ?_)
  refine lv_iload_n hx hb dX9_draw_5 rfl (lv_at hl 2 rfl) ?_
  refine lv_bipush (v := (6 : Int32)) hx hb dX9_draw_6 (by decide) ?_
  refine lv_irem hx hb dX9_draw_8 (by decide) ?_
  by_cases hs2 : (xrem a1 (6 : Int32)) = (0 : Int32)
  · have hf := xif_t hs2 hf
    refine x_tabIn (tgt := 40) hx hb (0 : Int32) hs2 dX9_draw_9 (by decide) (by decide) rfl (by decide) ?_
    refine lv_aload_n hx hb dX9_draw_40 rfl (lv_at hl 1 rfl) ?_
    refine x_get C hm inX9 rfl 0 (by decide) tf_RX9_10 (cx_ColouredHeap LX_top) rfl dX9_draw_41 ?_
    refine lv_iload_n hx hb dX9_draw_44 rfl (lv_at hl 2 rfl) ?_
    refine lv_iconst (v := (5 : Int32)) hx hb dX9_draw_45 (by decide) ?_
    refine lv_irem hx hb dX9_draw_46 (by decide) ?_
    refine lv_iload_n hx hb dX9_draw_47 rfl (lv_at hl 0 rfl) ?_
    refine lv_iconst (v := (4 : Int32)) hx hb dX9_draw_48 (by decide) ?_
    refine lv_irem hx hb dX9_draw_49 (by decide) ?_
    obtain ⟨v4, M5, hq3, hf⟩ := xb2_e hf
    refine x_callVi (As := [.int (xrem a1 (5 : Int32)), .int (xrem v1 (4 : Int32))]) (rest := []) C hm (c_X1_makeObject l E b LX_heap M (xrem a1 (5 : Int32)) (xrem v1 (4 : Int32)) hq3) rfl (cx_Heap (LX_heap 0 _ rfl)) tc_X1_makeObject tm_RX9_117 ti_X1_makeObject ts_X1_makeObject tn_RX1 td_X1_makeObject rfl rfl ⟨Nat.le_of_ble_eq_true rfl, Nat.le_of_ble_eq_true rfl⟩ rfl hl.1 rfl (Nat.le_of_ble_eq_true rfl) ⟨Nat.zero_le _, Nat.zero_le _⟩ dX9_draw_50 (fun H locs hP6 hm => ?_)
    refine lv_pop hx hb dX9_draw_53 rfl ?_
    refine lv_goto (tgt := 168) hx hb dX9_draw_54 (by decide) ?_
    cases hf
    exact x_vret C hm trivial dX9_draw_168
  have hf := xif_f hs2 hf
  by_cases hs7 : (xrem a1 (6 : Int32)) = (1 : Int32)
  · have hf := xif_t hs7 hf
    refine x_tabIn (tgt := 57) hx hb (1 : Int32) hs7 dX9_draw_9 (by decide) (by decide) rfl (by decide) ?_
    refine lv_aload_n hx hb dX9_draw_57 rfl (lv_at hl 1 rfl) ?_
    refine x_get C hm inX9 rfl 0 (by decide) tf_RX9_10 (cx_ColouredHeap LX_top) rfl dX9_draw_58 ?_
    refine lv_iconst (v := (4 : Int32)) hx hb dX9_draw_61 (by decide) ?_
    refine lv_iload_n hx hb dX9_draw_62 rfl (lv_at hl 2 rfl) ?_
    refine lv_iconst (v := (2 : Int32)) hx hb dX9_draw_63 (by decide) ?_
    refine lv_irem hx hb dX9_draw_64 (by decide) ?_
    refine lv_iadd hx hb dX9_draw_65 ?_
    refine lv_iload_n hx hb dX9_draw_66 rfl (lv_at hl 2 rfl) ?_
    refine lv_iconst (v := (4 : Int32)) hx hb dX9_draw_67 (by decide) ?_
    refine lv_irem hx hb dX9_draw_68 (by decide) ?_
    refine lv_iload_n hx hb dX9_draw_69 rfl (lv_at hl 0 rfl) ?_
    refine lv_iconst (v := (3 : Int32)) hx hb dX9_draw_70 (by decide) ?_
    refine lv_irem hx hb dX9_draw_71 (by decide) ?_
    obtain ⟨v9, M10, hq8, hf⟩ := xb2_e hf
    refine x_callVi (As := [.int ((4 : Int32) + (xrem a1 (2 : Int32))), .int (xrem a1 (4 : Int32)), .int (xrem v1 (3 : Int32))]) (rest := []) C hm (c_X1_loadField l E b LX_heap M ((4 : Int32) + (xrem a1 (2 : Int32))) (xrem a1 (4 : Int32)) (xrem v1 (3 : Int32)) hq8) rfl (cx_Heap (LX_heap 0 _ rfl)) tc_X1_loadField tm_RX9_131 ti_X1_loadField ts_X1_loadField tn_RX1 td_X1_loadField rfl rfl ⟨Nat.le_of_ble_eq_true rfl, Nat.le_of_ble_eq_true rfl⟩ rfl hl.1 rfl (Nat.le_of_ble_eq_true rfl) ⟨Nat.zero_le _, Nat.zero_le _⟩ dX9_draw_72 (fun H locs hP11 hm => ?_)
    refine lv_pop hx hb dX9_draw_75 rfl ?_
    refine lv_goto (tgt := 168) hx hb dX9_draw_76 (by decide) ?_
    cases hf
    exact x_vret C hm trivial dX9_draw_168
  have hf := xif_f hs7 hf
  by_cases hs12 : (xrem a1 (6 : Int32)) = (2 : Int32)
  · have hf := xif_t hs12 hf
    refine x_tabIn (tgt := 79) hx hb (2 : Int32) hs12 dX9_draw_9 (by decide) (by decide) rfl (by decide) ?_
    refine lv_aload_n hx hb dX9_draw_79 rfl (lv_at hl 1 rfl) ?_
    refine x_get C hm inX9 rfl 0 (by decide) tf_RX9_10 (cx_ColouredHeap LX_top) rfl dX9_draw_80 ?_
    refine lv_iload_n hx hb dX9_draw_83 rfl (lv_at hl 2 rfl) ?_
    refine lv_iconst (v := (4 : Int32)) hx hb dX9_draw_84 (by decide) ?_
    refine lv_irem hx hb dX9_draw_85 (by decide) ?_
    refine lv_iload_n hx hb dX9_draw_86 rfl (lv_at hl 2 rfl) ?_
    refine lv_iconst (v := (3 : Int32)) hx hb dX9_draw_87 (by decide) ?_
    refine lv_irem hx hb dX9_draw_88 (by decide) ?_
    refine lv_iload_n hx hb dX9_draw_89 rfl (lv_at hl 0 rfl) ?_
    refine lv_bipush (v := (6 : Int32)) hx hb dX9_draw_90 (by decide) ?_
    refine lv_irem hx hb dX9_draw_92 (by decide) ?_
    obtain ⟨v14, M15, hq13, hf⟩ := xb2_e hf
    refine x_callVi (As := [.int (xrem a1 (4 : Int32)), .int (xrem a1 (3 : Int32)), .int (xrem v1 (6 : Int32))]) (rest := []) C hm (c_X1_storeField l E b LX_heap M (xrem a1 (4 : Int32)) (xrem a1 (3 : Int32)) (xrem v1 (6 : Int32)) hq13) rfl (cx_Heap (LX_heap 0 _ rfl)) tc_X1_storeField tm_RX9_135 ti_X1_storeField ts_X1_storeField tn_RX1 td_X1_storeField rfl rfl ⟨Nat.le_of_ble_eq_true rfl, Nat.le_of_ble_eq_true rfl⟩ rfl hl.1 rfl (Nat.le_of_ble_eq_true rfl) ⟨Nat.zero_le _, Nat.zero_le _⟩ dX9_draw_93 (fun H locs hP16 hm => ?_)
    refine lv_pop hx hb dX9_draw_96 rfl ?_
    refine lv_goto (tgt := 168) hx hb dX9_draw_97 (by decide) ?_
    cases hf
    exact x_vret C hm trivial dX9_draw_168
  have hf := xif_f hs12 hf
  by_cases hs17 : (xrem a1 (6 : Int32)) = (3 : Int32)
  · have hf := xif_t hs17 hf
    refine x_tabIn (tgt := 100) hx hb (3 : Int32) hs17 dX9_draw_9 (by decide) (by decide) rfl (by decide) ?_
    refine lv_iload_n hx hb dX9_draw_100 rfl (lv_at hl 2 rfl) ?_
    refine lv_iconst (v := (4 : Int32)) hx hb dX9_draw_101 (by decide) ?_
    refine lv_irem hx hb dX9_draw_102 (by decide) ?_
    refine lv_iconst (v := (1 : Int32)) hx hb dX9_draw_103 (by decide) ?_
    refine lv_icmp_ne (tgt := 168) hx hb dX9_draw_104 (by decide) (fun hc18 => ?_) (fun hc18 => ?_)
    · have hf := xif_f hc18 hf
      cases hf
      exact x_vret C hm trivial dX9_draw_168
    have hf := xif_t hc18 hf
    refine lv_iload_n hx hb dX9_draw_107 rfl (lv_at hl 0 rfl) ?_
    refine lv_bipush (v := (6 : Int32)) hx hb dX9_draw_108 (by decide) ?_
    refine lv_irem hx hb dX9_draw_110 (by decide) ?_
    refine x_callSi (As := [.int (xrem v1 (6 : Int32))]) (rest := []) C hm (c_X9_isRoot l E b M (xrem v1 (6 : Int32)) rfl) tc_X9_isRoot tm_RX9_105 tz_X9_isRoot tn_RX9 td_X9_isRoot rfl rfl ⟨Nat.le_of_ble_eq_true rfl, Nat.le_of_ble_eq_true rfl⟩ rfl hl.1 rfl (Nat.le_of_ble_eq_true rfl) ⟨Nat.zero_le _, Nat.zero_le _⟩ dX9_draw_111 (fun H locs hP19 hm => ?_)
    refine lv_if_eq (tgt := 168) hx hb dX9_draw_114 (by decide) (fun hc20 => ?_) (fun hc20 => ?_)
    · have hf := xif_t hc20 hf
      cases hf
      exact x_vret C hm trivial dX9_draw_168
    have hf := xif_f hc20 hf
    refine lv_aload_n hx hb dX9_draw_117 rfl (lv_at hl 1 rfl) ?_
    refine x_get C hm inX9 rfl 0 (by decide) tf_RX9_10 (cx_ColouredHeap LX_top) rfl dX9_draw_118 ?_
    refine x_get C hm inX1 rfl 7 (by decide) tf_RX9_139 (cx_Heap (LX_heap 0 _ rfl)) rfl dX9_draw_121 ?_
    refine lv_iload_n hx hb dX9_draw_124 rfl (lv_at hl 0 rfl) ?_
    refine lv_bipush (v := (6 : Int32)) hx hb dX9_draw_125 (by decide) ?_
    refine lv_irem hx hb dX9_draw_127 (by decide) ?_
    refine lv_iconst (v := (-1 : Int32)) hx hb dX9_draw_128 (by decide) ?_
    obtain ⟨hi21, hf⟩ := xif_s hf
    obtain ⟨M22, eM22, hf⟩ := xlet_x hf
    refine x_iast (j := (Int32.toNatClampNeg (xrem v1 (6 : Int32)))) (cf' := cX E b M22) C hm (cx_I (LX_heap 8 _ rfl)) hi21 dX9_draw_129 rfl (by rw [eM22]; exact cu_I (LX_heap 8 _ rfl)) (by rw [eM22]; exact cX_o) (fun H locs hm => ?_)
    refine lv_goto (tgt := 168) hx hb dX9_draw_130 (by decide) ?_
    cases hf
    exact x_vret C hm trivial dX9_draw_168
  have hf := xif_f hs17 hf
  refine x_tabOut (tgt := 133) hx hb dX9_draw_9 (by decide) (fun i hi => ?_) (by decide) ?_
  · match i, hi with
    | 0, _ => exact hs2
    | 1, _ => exact hs7
    | 2, _ => exact hs12
    | 3, _ => exact hs17
    | (i + 4), hi => exact absurd hi (by omega)
  refine lv_aload_n hx hb dX9_draw_133 rfl (lv_at hl 1 rfl) ?_
  refine x_get C hm inX9 rfl 0 (by decide) tf_RX9_10 (cx_ColouredHeap LX_top) rfl dX9_draw_134 ?_
  refine x_get C hm inX1 rfl 17 (by decide) tf_RX9_124 (cx_Heap (LX_heap 0 _ rfl)) rfl dX9_draw_137 ?_
  refine lv_sipush (v := (9999 : Int32)) hx hb dX9_draw_140 (by decide) ?_
  refine lv_icmp_ge (tgt := 168) hx hb dX9_draw_143 (by decide) (fun hc23 => ?_) (fun hc23 => ?_)
  · have hf := xif_t hc23 hf
    cases hf
    exact x_vret C hm trivial dX9_draw_168
  have hf := xif_f hc23 hf
  refine lv_aload_n hx hb dX9_draw_146 rfl (lv_at hl 1 rfl) ?_
  refine x_get C hm inX9 rfl 0 (by decide) tf_RX9_10 (cx_ColouredHeap LX_top) rfl dX9_draw_147 ?_
  refine lv_aload_n hx hb dX9_draw_150 rfl (lv_at hl 1 rfl) ?_
  refine x_get C hm inX9 rfl 9 (by decide) tf_RX9_59 (cx_ColouredHeap LX_top) rfl dX9_draw_151 ?_
  refine lv_aload_n hx hb dX9_draw_154 rfl (lv_at hl 1 rfl) ?_
  refine lv_aload_n hx hb dX9_draw_155 rfl (lv_at hl 1 rfl) ?_
  refine x_get C hm inX9 rfl 2 (by decide) tf_RX9_26 (cx_ColouredHeap LX_top) rfl dX9_draw_156 ?_
  refine x_get C hm inX8 rfl 4 (by decide) tf_RX9_102 (cx_Told (LX_told 0 _ rfl)) rfl dX9_draw_159 ?_
  obtain ⟨o25, hq24, hf⟩ := xb1_e hf
  refine x_callVr (As := [.int (M 483 4)]) (rest := [.ref (b + 1004), .ref (b + 1)]) C hm (c_X9_textAt l E b M (M 483 4) hq24) rfl (cx_ColouredHeap LX_top) tc_X9_textAt tm_RX9_80 ti_X9_textAt ts_X9_textAt tn_RX9 td_X9_textAt rfl rfl ⟨Nat.le_of_ble_eq_true rfl, Nat.le_of_ble_eq_true rfl⟩ rfl hl.1 rfl (Nat.le_of_ble_eq_true rfl) ⟨Nat.zero_le _, Nat.zero_le _⟩ dX9_draw_162 (fun H locs hP26 hm => ?_)
  obtain ⟨M28, hq27, hf⟩ := xb1_e hf
  refine x_callVv (As := [.ref (b + 1004), xrf b o25]) (rest := []) C hm (c_X1_tick l E b LX_heap (X9_textAt_lat  hq24) M hq27) rfl (cx_Heap (LX_heap 0 _ rfl)) tc_X1_tick tm_RX9_127 ti_X1_tick ts_X1_tick tn_RX1 td_X1_tick rfl rfl ⟨Nat.le_of_ble_eq_true rfl, Nat.le_of_ble_eq_true rfl⟩ rfl hl.1 rfl (Nat.le_of_ble_eq_true rfl) ⟨Nat.zero_le _, Nat.zero_le _⟩ dX9_draw_165 (fun H locs hP29 hm => ?_)
  cases hf
  exact x_vret C hm trivial dX9_draw_168
/-! ColouredHeap.drop(I)Z -/
theorem dX9_drop_0 : decode cX9_drop 0 = .ok (.iload_n 1, 1) := by decide +kernel
theorem dX9_drop_1 : decode cX9_drop 1 = .ok (.invokestatic 105, 3) := by decide +kernel
theorem dX9_drop_4 : decode cX9_drop 4 = .ok (.ifCond .eq 16, 3) := by decide +kernel
theorem dX9_drop_7 : decode cX9_drop 7 = .ok (.aload_n 0, 1) := by decide +kernel
theorem dX9_drop_8 : decode cX9_drop 8 = .ok (.getfield 10, 3) := by decide +kernel
theorem dX9_drop_11 : decode cX9_drop 11 = .ok (.getfield 139, 3) := by decide +kernel
theorem dX9_drop_14 : decode cX9_drop 14 = .ok (.iload_n 1, 1) := by decide +kernel
theorem dX9_drop_15 : decode cX9_drop 15 = .ok (.iaload, 1) := by decide +kernel
theorem dX9_drop_16 : decode cX9_drop 16 = .ok (.iconst (-1), 1) := by decide +kernel
theorem dX9_drop_17 : decode cX9_drop 17 = .ok (.if_icmp .ne 5, 3) := by decide +kernel
theorem dX9_drop_20 : decode cX9_drop 20 = .ok (.iconst 0, 1) := by decide +kernel
theorem dX9_drop_21 : decode cX9_drop 21 = .ok (.ireturn, 1) := by decide +kernel
theorem dX9_drop_22 : decode cX9_drop 22 = .ok (.aload_n 0, 1) := by decide +kernel
theorem dX9_drop_23 : decode cX9_drop 23 = .ok (.getfield 19, 3) := by decide +kernel
theorem dX9_drop_26 : decode cX9_drop 26 = .ok (.aload_n 0, 1) := by decide +kernel
theorem dX9_drop_27 : decode cX9_drop 27 = .ok (.getfield 10, 3) := by decide +kernel
theorem dX9_drop_30 : decode cX9_drop 30 = .ok (.invokevirtual 113, 3) := by decide +kernel
theorem dX9_drop_33 : decode cX9_drop 33 = .ok (.aload_n 0, 1) := by decide +kernel
theorem dX9_drop_34 : decode cX9_drop 34 = .ok (.getfield 19, 3) := by decide +kernel
theorem dX9_drop_37 : decode cX9_drop 37 = .ok (.invokevirtual 121, 3) := by decide +kernel
theorem dX9_drop_40 : decode cX9_drop 40 = .ok (.aload_n 0, 1) := by decide +kernel
theorem dX9_drop_41 : decode cX9_drop 41 = .ok (.getfield 10, 3) := by decide +kernel
theorem dX9_drop_44 : decode cX9_drop 44 = .ok (.getfield 139, 3) := by decide +kernel
theorem dX9_drop_47 : decode cX9_drop 47 = .ok (.iload_n 1, 1) := by decide +kernel
theorem dX9_drop_48 : decode cX9_drop 48 = .ok (.iconst (-1), 1) := by decide +kernel
theorem dX9_drop_49 : decode cX9_drop 49 = .ok (.iastore, 1) := by decide +kernel
theorem dX9_drop_50 : decode cX9_drop 50 = .ok (.iconst 1, 1) := by decide +kernel
theorem dX9_drop_51 : decode cX9_drop 51 = .ok (.ireturn, 1) := by decide +kernel
def f_X9_drop (M : xm) (a1 : Int32) : Option (Int32 × xm) := (if (f_X9_isRoot a1) = 0 then some ((0 : Int32), M) else if xin a1 6 = true then (if (M (1 + 8) (Int32.toNatClampNeg a1)) = (-1 : Int32) then some ((0 : Int32), M) else xb1 (f_X5_prepare 16 1 M) (fun M6 => xb1 (f_X5_keep 16 M6) (fun M9 => xlet (up2 M9 (1 + 8) (Int32.toNatClampNeg a1) (-1 : Int32)) (fun M11 => some ((1 : Int32), M11))))) else none)
set_option maxHeartbeats 4000000 in
set_option maxRecDepth 20000 in
theorem c_X9_drop (l : Launch) (E : xE) (b : Nat) (M : xm) (a1 : Int32) {r : Int32} {M' : xm} (hf : f_X9_drop M a1 = some (r, M')) :
    xMet l E b NX yX9_drop cX9_drop 2 (some .boolean) (xR 5) [.ref (b + 0), .int a1] (cX E b M) (some (.int r)) (xbo r = true) (cX E b M') := by
  refine xMet.ofW (own := RX9) (by decide) rfl (Nat.le_of_ble_eq_true rfl) ?_
  intro p e s m below meth c H locs ls C hm hl
  have hx := C.1.1
  have hb := C.1.2.1
  have hl : lv_has ls 2 [(0, .ref (b + 0)), (1, .int a1)] := hl
  unfold f_X9_drop at hf
  refine lv_iload_n hx hb dX9_drop_0 rfl (lv_at hl 1 rfl) ?_
  refine x_callSi (As := [.int a1]) (rest := []) C hm (c_X9_isRoot l E b M a1 rfl) tc_X9_isRoot tm_RX9_105 tz_X9_isRoot tn_RX9 td_X9_isRoot rfl rfl ⟨Nat.le_of_ble_eq_true rfl, Nat.le_of_ble_eq_true rfl⟩ rfl hl.1 rfl (Nat.le_of_ble_eq_true rfl) ⟨Nat.zero_le _, Nat.zero_le _⟩ dX9_drop_1 (fun H locs hP1 hm => ?_)
  refine lv_if_eq (tgt := 20) hx hb dX9_drop_4 (by decide) (fun hc2 => ?_) (fun hc2 => ?_)
  · have hf := xif_t hc2 hf
    refine lv_iconst (v := (0 : Int32)) hx hb dX9_drop_20 (by decide) ?_
    cases hf
    exact x_zret C hm (by decide) (by decide) dX9_drop_21
  have hf := xif_f hc2 hf
  refine lv_aload_n hx hb dX9_drop_7 rfl (lv_at hl 0 rfl) ?_
  refine x_get C hm inX9 rfl 0 (by decide) tf_RX9_10 (cx_ColouredHeap LX_top) rfl dX9_drop_8 ?_
  refine x_get C hm inX1 rfl 7 (by decide) tf_RX9_139 (cx_Heap (LX_heap 0 _ rfl)) rfl dX9_drop_11 ?_
  refine lv_iload_n hx hb dX9_drop_14 rfl (lv_at hl 1 rfl) ?_
  obtain ⟨hi3, hf⟩ := xif_s hf
  refine x_iald (j := (Int32.toNatClampNeg a1)) C hm (cx_I (LX_heap 8 _ rfl)) hi3 dX9_drop_15 rfl ?_
  refine lv_iconst (v := (-1 : Int32)) hx hb dX9_drop_16 (by decide) ?_
  refine lv_icmp_ne (tgt := 22) hx hb dX9_drop_17 (by decide) (fun hc4 => ?_) (fun hc4 => ?_)
  rotate_left
  · have hf := xif_t hc4 hf
    refine lv_iconst (v := (0 : Int32)) hx hb dX9_drop_20 (by decide) ?_
    cases hf
    exact x_zret C hm (by decide) (by decide) dX9_drop_21
  have hf := xif_f hc4 hf
  refine lv_aload_n hx hb dX9_drop_22 rfl (lv_at hl 0 rfl) ?_
  refine x_get C hm inX9 rfl 1 (by decide) tf_RX9_19 (cx_ColouredHeap LX_top) rfl dX9_drop_23 ?_
  refine lv_aload_n hx hb dX9_drop_26 rfl (lv_at hl 0 rfl) ?_
  refine x_get C hm inX9 rfl 0 (by decide) tf_RX9_10 (cx_ColouredHeap LX_top) rfl dX9_drop_27 ?_
  obtain ⟨M6, hq5, hf⟩ := xb1_e hf
  refine x_callVv (As := [.ref (b + 1)]) (rest := []) C hm (c_X5_prepare l E b LX_steps LX_heap M hq5) rfl (cx_Steps (LX_steps 0 _ rfl)) tc_X5_prepare tm_RX9_113 ti_X5_prepare ts_X5_prepare tn_RX5 td_X5_prepare rfl rfl ⟨Nat.le_of_ble_eq_true rfl, Nat.le_of_ble_eq_true rfl⟩ rfl hl.1 rfl (Nat.le_of_ble_eq_true rfl) ⟨Nat.zero_le _, Nat.zero_le _⟩ dX9_drop_30 (fun H locs hP7 hm => ?_)
  refine lv_aload_n hx hb dX9_drop_33 rfl (lv_at hl 0 rfl) ?_
  refine x_get C hm inX9 rfl 1 (by decide) tf_RX9_19 (cx_ColouredHeap LX_top) rfl dX9_drop_34 ?_
  obtain ⟨M9, hq8, hf⟩ := xb1_e hf
  refine x_callVv (As := []) (rest := []) C hm (c_X5_keep l E b LX_steps M6 hq8) rfl (cx_Steps (LX_steps 0 _ rfl)) tc_X5_keep tm_RX9_121 ti_X5_keep ts_X5_keep tn_RX5 td_X5_keep rfl rfl ⟨Nat.le_of_ble_eq_true rfl, Nat.le_of_ble_eq_true rfl⟩ rfl hl.1 rfl (Nat.le_of_ble_eq_true rfl) ⟨Nat.zero_le _, Nat.zero_le _⟩ dX9_drop_37 (fun H locs hP10 hm => ?_)
  refine lv_aload_n hx hb dX9_drop_40 rfl (lv_at hl 0 rfl) ?_
  refine x_get C hm inX9 rfl 0 (by decide) tf_RX9_10 (cx_ColouredHeap LX_top) rfl dX9_drop_41 ?_
  refine x_get C hm inX1 rfl 7 (by decide) tf_RX9_139 (cx_Heap (LX_heap 0 _ rfl)) rfl dX9_drop_44 ?_
  refine lv_iload_n hx hb dX9_drop_47 rfl (lv_at hl 1 rfl) ?_
  refine lv_iconst (v := (-1 : Int32)) hx hb dX9_drop_48 (by decide) ?_
  obtain ⟨M11, eM11, hf⟩ := xlet_x hf
  refine x_iast (j := (Int32.toNatClampNeg a1)) (cf' := cX E b M11) C hm (cx_I (LX_heap 8 _ rfl)) hi3 dX9_drop_49 rfl (by rw [eM11]; exact cu_I (LX_heap 8 _ rfl)) (by rw [eM11]; exact cX_o) (fun H locs hm => ?_)
  refine lv_iconst (v := (1 : Int32)) hx hb dX9_drop_50 (by decide) ?_
  cases hf
  exact x_zret C hm (by decide) (by decide) dX9_drop_51
/-! ColouredHeap.end(I)I -/
theorem dX9_end_0 : decode cX9_end 0 = .ok (.iload_n 1, 1) := by decide +kernel
theorem dX9_end_1 : decode cX9_end 1 = .ok (.ifCond .lt 14, 3) := by decide +kernel
theorem dX9_end_4 : decode cX9_end 4 = .ok (.iload_n 1, 1) := by decide +kernel
theorem dX9_end_5 : decode cX9_end 5 = .ok (.aload_n 0, 1) := by decide +kernel
theorem dX9_end_6 : decode cX9_end 6 = .ok (.getfield 52, 3) := by decide +kernel
theorem dX9_end_9 : decode cX9_end 9 = .ok (.getfield 70, 3) := by decide +kernel
theorem dX9_end_12 : decode cX9_end 12 = .ok (.if_icmp .le 5, 3) := by decide +kernel
theorem dX9_end_15 : decode cX9_end 15 = .ok (.iconst (-1), 1) := by decide +kernel
theorem dX9_end_16 : decode cX9_end 16 = .ok (.ireturn, 1) := by decide +kernel
theorem dX9_end_17 : decode cX9_end 17 = .ok (.aload_n 0, 1) := by decide +kernel
theorem dX9_end_18 : decode cX9_end 18 = .ok (.getfield 52, 3) := by decide +kernel
theorem dX9_end_21 : decode cX9_end 21 = .ok (.iload_n 1, 1) := by decide +kernel
theorem dX9_end_22 : decode cX9_end 22 = .ok (.putfield 70, 3) := by decide +kernel
theorem dX9_end_25 : decode cX9_end 25 = .ok (.iload_n 1, 1) := by decide +kernel
theorem dX9_end_26 : decode cX9_end 26 = .ok (.ireturn, 1) := by decide +kernel
def f_X9_end (M : xm) (a1 : Int32) : Option (Int32 × xm) := (if a1 < 0 then some ((-1 : Int32), M) else (if a1 ≤ (M 990 5) then xlet (up2 M 990 5 a1) (fun M3 => some (a1, M3)) else some ((-1 : Int32), M)))
set_option maxHeartbeats 4000000 in
set_option maxRecDepth 20000 in
theorem c_X9_end (l : Launch) (E : xE) (b : Nat) (M : xm) (a1 : Int32) {r : Int32} {M' : xm} (hf : f_X9_end M a1 = some (r, M')) :
    xMet l E b NX yX9_end cX9_end 2 (some .int) (xR 1) [.ref (b + 0), .int a1] (cX E b M) (some (.int r)) True (cX E b M') := by
  refine xMet.ofW (own := RX9) (by decide) rfl (Nat.le_of_ble_eq_true rfl) ?_
  intro p e s m below meth c H locs ls C hm hl
  have hx := C.1.1
  have hb := C.1.2.1
  have hl : lv_has ls 2 [(0, .ref (b + 0)), (1, .int a1)] := hl
  unfold f_X9_end at hf
  refine lv_iload_n hx hb dX9_end_0 rfl (lv_at hl 1 rfl) ?_
  refine lv_if_lt (tgt := 15) hx hb dX9_end_1 (by decide) (fun hc1 => ?_) (fun hc1 => ?_)
  · have hf := xif_t hc1 hf
    refine lv_iconst (v := (-1 : Int32)) hx hb dX9_end_15 (by decide) ?_
    cases hf
    exact x_iret C hm trivial dX9_end_16
  have hf := xif_f hc1 hf
  refine lv_iload_n hx hb dX9_end_4 rfl (lv_at hl 1 rfl) ?_
  refine lv_aload_n hx hb dX9_end_5 rfl (lv_at hl 0 rfl) ?_
  refine x_get C hm inX9 rfl 8 (by decide) tf_RX9_52 (cx_ColouredHeap LX_top) rfl dX9_end_6 ?_
  refine x_get C hm inX4 rfl 5 (by decide) tf_RX9_70 (cx_Reader (LX_reader 0 _ rfl)) rfl dX9_end_9 ?_
  refine lv_icmp_le (tgt := 17) hx hb dX9_end_12 (by decide) (fun hc2 => ?_) (fun hc2 => ?_)
  rotate_left
  · have hf := xif_f hc2 hf
    refine lv_iconst (v := (-1 : Int32)) hx hb dX9_end_15 (by decide) ?_
    cases hf
    exact x_iret C hm trivial dX9_end_16
  have hf := xif_t hc2 hf
  refine lv_aload_n hx hb dX9_end_17 rfl (lv_at hl 0 rfl) ?_
  refine x_get C hm inX9 rfl 8 (by decide) tf_RX9_52 (cx_ColouredHeap LX_top) rfl dX9_end_18 ?_
  refine lv_iload_n hx hb dX9_end_21 rfl (lv_at hl 1 rfl) ?_
  obtain ⟨M3, eM3, hf⟩ := xlet_x hf
  refine x_put (cf' := cX E b M3) C hm inX4 tyX4 tyX4_ok nmX4 rfl 5 (by decide) tf_RX9_70 rfl rfl rfl (cx_Reader (LX_reader 0 _ rfl)) (Nat.le_of_ble_eq_true rfl) (by rw [eM3]; exact cu_Reader_5 (LX_reader 0 _ rfl)) (by rw [eM3]; exact cX_o) dX9_end_22 (fun H locs hm => ?_)
  refine lv_iload_n hx hb dX9_end_25 rfl (lv_at hl 1 rfl) ?_
  cases hf
  exact x_iret C hm trivial dX9_end_26
/-! ColouredHeap.far(I)I -/
theorem dX9_far_0 : decode cX9_far 0 = .ok (.aload_n 0, 1) := by decide +kernel
theorem dX9_far_1 : decode cX9_far 1 = .ok (.iload_n 1, 1) := by decide +kernel
theorem dX9_far_2 : decode cX9_far 2 = .ok (.invokevirtual 270, 3) := by decide +kernel
theorem dX9_far_5 : decode cX9_far 5 = .ok (.ifCond .eq 15, 3) := by decide +kernel
theorem dX9_far_8 : decode cX9_far 8 = .ok (.aload_n 0, 1) := by decide +kernel
theorem dX9_far_9 : decode cX9_far 9 = .ok (.getfield 45, 3) := by decide +kernel
theorem dX9_far_12 : decode cX9_far 12 = .ok (.getfield 291, 3) := by decide +kernel
theorem dX9_far_15 : decode cX9_far 15 = .ok (.iload_n 1, 1) := by decide +kernel
theorem dX9_far_16 : decode cX9_far 16 = .ok (.iaload, 1) := by decide +kernel
theorem dX9_far_17 : decode cX9_far 17 = .ok (.goto 4, 3) := by decide +kernel
theorem dX9_far_20 : decode cX9_far 20 = .ok (.iconst (-1), 1) := by decide +kernel
theorem dX9_far_21 : decode cX9_far 21 = .ok (.ireturn, 1) := by decide +kernel
def f_X9_far (M : xm) (a1 : Int32) : Option (Int32 × xm) := xb2 (f_X9_isReached M a1) (fun v2 M3 => (if v2 = 0 then some ((-1 : Int32), M3) else if xin a1 64 = true then some ((M3 (986 + 1) (Int32.toNatClampNeg a1)), M3) else none))
set_option maxHeartbeats 4000000 in
set_option maxRecDepth 20000 in
theorem c_X9_far (l : Launch) (E : xE) (b : Nat) (M : xm) (a1 : Int32) {r : Int32} {M' : xm} (hf : f_X9_far M a1 = some (r, M')) :
    xMet l E b NX yX9_far cX9_far 2 (some .int) (xR 6) [.ref (b + 0), .int a1] (cX E b M) (some (.int r)) True (cX E b M') := by
  refine xMet.ofW (own := RX9) (by decide) rfl (Nat.le_of_ble_eq_true rfl) ?_
  intro p e s m below meth c H locs ls C hm hl
  have hx := C.1.1
  have hb := C.1.2.1
  have hl : lv_has ls 2 [(0, .ref (b + 0)), (1, .int a1)] := hl
  unfold f_X9_far at hf
  refine lv_aload_n hx hb dX9_far_0 rfl (lv_at hl 0 rfl) ?_
  refine lv_iload_n hx hb dX9_far_1 rfl (lv_at hl 1 rfl) ?_
  obtain ⟨v2, M3, hq1, hf⟩ := xb2_e hf
  refine x_callVi (As := [.int a1]) (rest := []) C hm (c_X9_isReached l E b M a1 hq1) rfl (cx_ColouredHeap LX_top) tc_X9_isReached tm_RX9_270 ti_X9_isReached ts_X9_isReached tn_RX9 td_X9_isReached rfl rfl ⟨Nat.le_of_ble_eq_true rfl, Nat.le_of_ble_eq_true rfl⟩ rfl hl.1 rfl (Nat.le_of_ble_eq_true rfl) ⟨Nat.zero_le _, Nat.zero_le _⟩ dX9_far_2 (fun H locs hP4 hm => ?_)
  refine lv_if_eq (tgt := 20) hx hb dX9_far_5 (by decide) (fun hc5 => ?_) (fun hc5 => ?_)
  · have hf := xif_t hc5 hf
    refine lv_iconst (v := (-1 : Int32)) hx hb dX9_far_20 (by decide) ?_
    cases hf
    exact x_iret C hm trivial dX9_far_21
  have hf := xif_f hc5 hf
  refine lv_aload_n hx hb dX9_far_8 rfl (lv_at hl 0 rfl) ?_
  refine x_get C hm inX9 rfl 7 (by decide) tf_RX9_45 (cx_ColouredHeap LX_top) rfl dX9_far_9 ?_
  refine x_get C hm inX6 rfl 0 (by decide) tf_RX9_291 (cx_Survey (LX_survey 0 _ rfl)) rfl dX9_far_12 ?_
  refine lv_iload_n hx hb dX9_far_15 rfl (lv_at hl 1 rfl) ?_
  obtain ⟨hi6, hf⟩ := xif_s hf
  refine x_iald (j := (Int32.toNatClampNeg a1)) C hm (cx_I (LX_survey 1 _ rfl)) hi6 dX9_far_16 rfl ?_
  refine lv_goto (tgt := 21) hx hb dX9_far_17 (by decide) ?_
  cases hf
  exact x_iret C hm trivial dX9_far_21
/-! ColouredHeap.fault(I)I -/
theorem dX9_fault_0 : decode cX9_fault 0 = .ok (.iload_n 1, 1) := by decide +kernel
theorem dX9_fault_1 : decode cX9_fault 1 = .ok (.ifCond .ne 11, 3) := by decide +kernel
theorem dX9_fault_4 : decode cX9_fault 4 = .ok (.aload_n 0, 1) := by decide +kernel
theorem dX9_fault_5 : decode cX9_fault 5 = .ok (.getfield 52, 3) := by decide +kernel
theorem dX9_fault_8 : decode cX9_fault 8 = .ok (.getfield 96, 3) := by decide +kernel
theorem dX9_fault_11 : decode cX9_fault 11 = .ok (.ireturn, 1) := by decide +kernel
theorem dX9_fault_12 : decode cX9_fault 12 = .ok (.iload_n 1, 1) := by decide +kernel
theorem dX9_fault_13 : decode cX9_fault 13 = .ok (.iconst 1, 1) := by decide +kernel
theorem dX9_fault_14 : decode cX9_fault 14 = .ok (.if_icmp .ne 13, 3) := by decide +kernel
theorem dX9_fault_17 : decode cX9_fault 17 = .ok (.aload_n 0, 1) := by decide +kernel
theorem dX9_fault_18 : decode cX9_fault 18 = .ok (.getfield 52, 3) := by decide +kernel
theorem dX9_fault_21 : decode cX9_fault 21 = .ok (.getfield 99, 3) := by decide +kernel
theorem dX9_fault_24 : decode cX9_fault 24 = .ok (.goto 4, 3) := by decide +kernel
theorem dX9_fault_27 : decode cX9_fault 27 = .ok (.iconst (-1), 1) := by decide +kernel
theorem dX9_fault_28 : decode cX9_fault 28 = .ok (.ireturn, 1) := by decide +kernel
def f_X9_fault (M : xm) (a1 : Int32) : Int32 := (if a1 = 0 then (M 990 6) else (if a1 = (1 : Int32) then (M 990 7) else (-1 : Int32)))
set_option maxHeartbeats 4000000 in
set_option maxRecDepth 20000 in
theorem c_X9_fault (l : Launch) (E : xE) (b : Nat) (M : xm) (a1 : Int32) {r : Int32} (hf : f_X9_fault M a1 = r) :
    xMet l E b NX yX9_fault cX9_fault 2 (some .int) (xR 1) [.ref (b + 0), .int a1] (cX E b M) (some (.int r)) True (cX E b M) := by
  refine xMet.ofW (own := RX9) (by decide) rfl (Nat.le_of_ble_eq_true rfl) ?_
  intro p e s m below meth c H locs ls C hm hl
  have hx := C.1.1
  have hb := C.1.2.1
  have hl : lv_has ls 2 [(0, .ref (b + 0)), (1, .int a1)] := hl
  unfold f_X9_fault at hf
  refine lv_iload_n hx hb dX9_fault_0 rfl (lv_at hl 1 rfl) ?_
  refine lv_if_ne (tgt := 12) hx hb dX9_fault_1 (by decide) (fun hc1 => ?_) (fun hc1 => ?_)
  rotate_left
  · have hf := xif_t hc1 hf
    refine lv_aload_n hx hb dX9_fault_4 rfl (lv_at hl 0 rfl) ?_
    refine x_get C hm inX9 rfl 8 (by decide) tf_RX9_52 (cx_ColouredHeap LX_top) rfl dX9_fault_5 ?_
    refine x_get C hm inX4 rfl 6 (by decide) tf_RX9_96 (cx_Reader (LX_reader 0 _ rfl)) rfl dX9_fault_8 ?_
    cases hf
    exact x_iret C hm trivial dX9_fault_11
  have hf := xif_f hc1 hf
  refine lv_iload_n hx hb dX9_fault_12 rfl (lv_at hl 1 rfl) ?_
  refine lv_iconst (v := (1 : Int32)) hx hb dX9_fault_13 (by decide) ?_
  refine lv_icmp_ne (tgt := 27) hx hb dX9_fault_14 (by decide) (fun hc2 => ?_) (fun hc2 => ?_)
  · have hf := xif_f hc2 hf
    refine lv_iconst (v := (-1 : Int32)) hx hb dX9_fault_27 (by decide) ?_
    cases hf
    exact x_iret C hm trivial dX9_fault_28
  have hf := xif_t hc2 hf
  refine lv_aload_n hx hb dX9_fault_17 rfl (lv_at hl 0 rfl) ?_
  refine x_get C hm inX9 rfl 8 (by decide) tf_RX9_52 (cx_ColouredHeap LX_top) rfl dX9_fault_18 ?_
  refine x_get C hm inX4 rfl 7 (by decide) tf_RX9_99 (cx_Reader (LX_reader 0 _ rfl)) rfl dX9_fault_21 ?_
  refine lv_goto (tgt := 28) hx hb dX9_fault_24 (by decide) ?_
  cases hf
  exact x_iret C hm trivial dX9_fault_28
/-! ColouredHeap.feed(IIIII)I -/
theorem dX9_feed_0 : decode cX9_feed 0 = .ok (.aload_n 0, 1) := by decide +kernel
theorem dX9_feed_1 : decode cX9_feed 1 = .ok (.getfield 52, 3) := by decide +kernel
theorem dX9_feed_4 : decode cX9_feed 4 = .ok (.getfield 70, 3) := by decide +kernel
theorem dX9_feed_7 : decode cX9_feed 7 = .ok (.bipush 20, 2) := by decide +kernel
theorem dX9_feed_9 : decode cX9_feed 9 = .ok (.iadd, 1) := by decide +kernel
theorem dX9_feed_10 : decode cX9_feed 10 = .ok (.sipush 300, 3) := by decide +kernel
theorem dX9_feed_13 : decode cX9_feed 13 = .ok (.if_icmp .le 5, 3) := by decide +kernel
theorem dX9_feed_16 : decode cX9_feed 16 = .ok (.iconst (-1), 1) := by decide +kernel
theorem dX9_feed_17 : decode cX9_feed 17 = .ok (.ireturn, 1) := by decide +kernel
theorem dX9_feed_18 : decode cX9_feed 18 = .ok (.aload_n 0, 1) := by decide +kernel
theorem dX9_feed_19 : decode cX9_feed 19 = .ok (.getfield 52, 3) := by decide +kernel
theorem dX9_feed_22 : decode cX9_feed 22 = .ok (.iload_n 1, 1) := by decide +kernel
theorem dX9_feed_23 : decode cX9_feed 23 = .ok (.invokevirtual 74, 3) := by decide +kernel
theorem dX9_feed_26 : decode cX9_feed 26 = .ok (.aload_n 0, 1) := by decide +kernel
theorem dX9_feed_27 : decode cX9_feed 27 = .ok (.getfield 52, 3) := by decide +kernel
theorem dX9_feed_30 : decode cX9_feed 30 = .ok (.iload_n 2, 1) := by decide +kernel
theorem dX9_feed_31 : decode cX9_feed 31 = .ok (.invokevirtual 74, 3) := by decide +kernel
theorem dX9_feed_34 : decode cX9_feed 34 = .ok (.aload_n 0, 1) := by decide +kernel
theorem dX9_feed_35 : decode cX9_feed 35 = .ok (.getfield 52, 3) := by decide +kernel
theorem dX9_feed_38 : decode cX9_feed 38 = .ok (.iload_n 3, 1) := by decide +kernel
theorem dX9_feed_39 : decode cX9_feed 39 = .ok (.invokevirtual 74, 3) := by decide +kernel
theorem dX9_feed_42 : decode cX9_feed 42 = .ok (.aload_n 0, 1) := by decide +kernel
theorem dX9_feed_43 : decode cX9_feed 43 = .ok (.getfield 52, 3) := by decide +kernel
theorem dX9_feed_46 : decode cX9_feed 46 = .ok (.iload 4, 2) := by decide +kernel
theorem dX9_feed_48 : decode cX9_feed 48 = .ok (.invokevirtual 74, 3) := by decide +kernel
theorem dX9_feed_51 : decode cX9_feed 51 = .ok (.aload_n 0, 1) := by decide +kernel
theorem dX9_feed_52 : decode cX9_feed 52 = .ok (.getfield 52, 3) := by decide +kernel
theorem dX9_feed_55 : decode cX9_feed 55 = .ok (.iload 5, 2) := by decide +kernel
theorem dX9_feed_57 : decode cX9_feed 57 = .ok (.invokevirtual 74, 3) := by decide +kernel
theorem dX9_feed_60 : decode cX9_feed 60 = .ok (.aload_n 0, 1) := by decide +kernel
theorem dX9_feed_61 : decode cX9_feed 61 = .ok (.getfield 52, 3) := by decide +kernel
theorem dX9_feed_64 : decode cX9_feed 64 = .ok (.getfield 70, 3) := by decide +kernel
theorem dX9_feed_67 : decode cX9_feed 67 = .ok (.ireturn, 1) := by decide +kernel
def f_X9_feed (M : xm) (a1 : Int32) (a2 : Int32) (a3 : Int32) (a4 : Int32) (a5 : Int32) : Option (Int32 × xm) := (if ((M 990 5) + (20 : Int32)) ≤ (300 : Int32) then xb1 (f_X4_add M a1) (fun M3 => xb1 (f_X4_add M3 a2) (fun M6 => xb1 (f_X4_add M6 a3) (fun M9 => xb1 (f_X4_add M9 a4) (fun M12 => xb1 (f_X4_add M12 a5) (fun M15 => some ((M15 990 5), M15)))))) else some ((-1 : Int32), M))
set_option maxHeartbeats 4000000 in
set_option maxRecDepth 20000 in
theorem c_X9_feed (l : Launch) (E : xE) (b : Nat) (M : xm) (a1 : Int32) (a2 : Int32) (a3 : Int32) (a4 : Int32) (a5 : Int32) {r : Int32} {M' : xm} (hf : f_X9_feed M a1 a2 a3 a4 a5 = some (r, M')) :
    xMet l E b NX yX9_feed cX9_feed 6 (some .int) (xR 2) [.ref (b + 0), .int a1, .int a2, .int a3, .int a4, .int a5] (cX E b M) (some (.int r)) True (cX E b M') := by
  refine xMet.ofW (own := RX9) (by decide) rfl (Nat.le_of_ble_eq_true rfl) ?_
  intro p e s m below meth c H locs ls C hm hl
  have hx := C.1.1
  have hb := C.1.2.1
  have hl : lv_has ls 6 [(0, .ref (b + 0)), (1, .int a1), (2, .int a2), (3, .int a3), (4, .int a4), (5, .int a5)] := hl
  unfold f_X9_feed at hf
  refine lv_aload_n hx hb dX9_feed_0 rfl (lv_at hl 0 rfl) ?_
  refine x_get C hm inX9 rfl 8 (by decide) tf_RX9_52 (cx_ColouredHeap LX_top) rfl dX9_feed_1 ?_
  refine x_get C hm inX4 rfl 5 (by decide) tf_RX9_70 (cx_Reader (LX_reader 0 _ rfl)) rfl dX9_feed_4 ?_
  refine lv_bipush (v := (20 : Int32)) hx hb dX9_feed_7 (by decide) ?_
  refine lv_iadd hx hb dX9_feed_9 ?_
  refine lv_sipush (v := (300 : Int32)) hx hb dX9_feed_10 (by decide) ?_
  refine lv_icmp_le (tgt := 18) hx hb dX9_feed_13 (by decide) (fun hc1 => ?_) (fun hc1 => ?_)
  rotate_left
  · have hf := xif_f hc1 hf
    refine lv_iconst (v := (-1 : Int32)) hx hb dX9_feed_16 (by decide) ?_
    cases hf
    exact x_iret C hm trivial dX9_feed_17
  have hf := xif_t hc1 hf
  refine lv_aload_n hx hb dX9_feed_18 rfl (lv_at hl 0 rfl) ?_
  refine x_get C hm inX9 rfl 8 (by decide) tf_RX9_52 (cx_ColouredHeap LX_top) rfl dX9_feed_19 ?_
  refine lv_iload_n hx hb dX9_feed_22 rfl (lv_at hl 1 rfl) ?_
  obtain ⟨M3, hq2, hf⟩ := xb1_e hf
  refine x_callVv (As := [.int a1]) (rest := []) C hm (c_X4_add l E b M a1 hq2) rfl (cx_Reader (LX_reader 0 _ rfl)) tc_X4_add tm_RX9_74 ti_X4_add ts_X4_add tn_RX4 td_X4_add rfl rfl ⟨Nat.le_of_ble_eq_true rfl, Nat.le_of_ble_eq_true rfl⟩ rfl hl.1 rfl (Nat.le_of_ble_eq_true rfl) ⟨Nat.zero_le _, Nat.zero_le _⟩ dX9_feed_23 (fun H locs hP4 hm => ?_)
  refine lv_aload_n hx hb dX9_feed_26 rfl (lv_at hl 0 rfl) ?_
  refine x_get C hm inX9 rfl 8 (by decide) tf_RX9_52 (cx_ColouredHeap LX_top) rfl dX9_feed_27 ?_
  refine lv_iload_n hx hb dX9_feed_30 rfl (lv_at hl 2 rfl) ?_
  obtain ⟨M6, hq5, hf⟩ := xb1_e hf
  refine x_callVv (As := [.int a2]) (rest := []) C hm (c_X4_add l E b M3 a2 hq5) rfl (cx_Reader (LX_reader 0 _ rfl)) tc_X4_add tm_RX9_74 ti_X4_add ts_X4_add tn_RX4 td_X4_add rfl rfl ⟨Nat.le_of_ble_eq_true rfl, Nat.le_of_ble_eq_true rfl⟩ rfl hl.1 rfl (Nat.le_of_ble_eq_true rfl) ⟨Nat.zero_le _, Nat.zero_le _⟩ dX9_feed_31 (fun H locs hP7 hm => ?_)
  refine lv_aload_n hx hb dX9_feed_34 rfl (lv_at hl 0 rfl) ?_
  refine x_get C hm inX9 rfl 8 (by decide) tf_RX9_52 (cx_ColouredHeap LX_top) rfl dX9_feed_35 ?_
  refine lv_iload_n hx hb dX9_feed_38 rfl (lv_at hl 3 rfl) ?_
  obtain ⟨M9, hq8, hf⟩ := xb1_e hf
  refine x_callVv (As := [.int a3]) (rest := []) C hm (c_X4_add l E b M6 a3 hq8) rfl (cx_Reader (LX_reader 0 _ rfl)) tc_X4_add tm_RX9_74 ti_X4_add ts_X4_add tn_RX4 td_X4_add rfl rfl ⟨Nat.le_of_ble_eq_true rfl, Nat.le_of_ble_eq_true rfl⟩ rfl hl.1 rfl (Nat.le_of_ble_eq_true rfl) ⟨Nat.zero_le _, Nat.zero_le _⟩ dX9_feed_39 (fun H locs hP10 hm => ?_)
  refine lv_aload_n hx hb dX9_feed_42 rfl (lv_at hl 0 rfl) ?_
  refine x_get C hm inX9 rfl 8 (by decide) tf_RX9_52 (cx_ColouredHeap LX_top) rfl dX9_feed_43 ?_
  refine lv_iload hx hb dX9_feed_46 (lv_at hl 4 rfl) ?_
  obtain ⟨M12, hq11, hf⟩ := xb1_e hf
  refine x_callVv (As := [.int a4]) (rest := []) C hm (c_X4_add l E b M9 a4 hq11) rfl (cx_Reader (LX_reader 0 _ rfl)) tc_X4_add tm_RX9_74 ti_X4_add ts_X4_add tn_RX4 td_X4_add rfl rfl ⟨Nat.le_of_ble_eq_true rfl, Nat.le_of_ble_eq_true rfl⟩ rfl hl.1 rfl (Nat.le_of_ble_eq_true rfl) ⟨Nat.zero_le _, Nat.zero_le _⟩ dX9_feed_48 (fun H locs hP13 hm => ?_)
  refine lv_aload_n hx hb dX9_feed_51 rfl (lv_at hl 0 rfl) ?_
  refine x_get C hm inX9 rfl 8 (by decide) tf_RX9_52 (cx_ColouredHeap LX_top) rfl dX9_feed_52 ?_
  refine lv_iload hx hb dX9_feed_55 (lv_at hl 5 rfl) ?_
  obtain ⟨M15, hq14, hf⟩ := xb1_e hf
  refine x_callVv (As := [.int a5]) (rest := []) C hm (c_X4_add l E b M12 a5 hq14) rfl (cx_Reader (LX_reader 0 _ rfl)) tc_X4_add tm_RX9_74 ti_X4_add ts_X4_add tn_RX4 td_X4_add rfl rfl ⟨Nat.le_of_ble_eq_true rfl, Nat.le_of_ble_eq_true rfl⟩ rfl hl.1 rfl (Nat.le_of_ble_eq_true rfl) ⟨Nat.zero_le _, Nat.zero_le _⟩ dX9_feed_57 (fun H locs hP16 hm => ?_)
  refine lv_aload_n hx hb dX9_feed_60 rfl (lv_at hl 0 rfl) ?_
  refine x_get C hm inX9 rfl 8 (by decide) tf_RX9_52 (cx_ColouredHeap LX_top) rfl dX9_feed_61 ?_
  refine x_get C hm inX4 rfl 5 (by decide) tf_RX9_70 (cx_Reader (LX_reader 0 _ rfl)) rfl dX9_feed_64 ?_
  cases hf
  exact x_iret C hm trivial dX9_feed_67
/-! ColouredHeap.finish(II)I -/
theorem dX9_finish_0 : decode cX9_finish 0 = .ok (.iload_n 2, 1) := by decide +kernel
theorem dX9_finish_1 : decode cX9_finish 1 = .ok (.invokestatic 105, 3) := by decide +kernel
theorem dX9_finish_4 : decode cX9_finish 4 = .ok (.ifCond .eq 14, 3) := by decide +kernel
theorem dX9_finish_7 : decode cX9_finish 7 = .ok (.aload_n 0, 1) := by decide +kernel
theorem dX9_finish_8 : decode cX9_finish 8 = .ok (.getfield 10, 3) := by decide +kernel
theorem dX9_finish_11 : decode cX9_finish 11 = .ok (.iload_n 1, 1) := by decide +kernel
theorem dX9_finish_12 : decode cX9_finish 12 = .ok (.invokevirtual 146, 3) := by decide +kernel
theorem dX9_finish_15 : decode cX9_finish 15 = .ok (.ifCond .ne 6, 3) := by decide +kernel
theorem dX9_finish_18 : decode cX9_finish 18 = .ok (.bipush (-2), 2) := by decide +kernel
theorem dX9_finish_20 : decode cX9_finish 20 = .ok (.ireturn, 1) := by decide +kernel
theorem dX9_finish_21 : decode cX9_finish 21 = .ok (.aload_n 0, 1) := by decide +kernel
theorem dX9_finish_22 : decode cX9_finish 22 = .ok (.getfield 19, 3) := by decide +kernel
theorem dX9_finish_25 : decode cX9_finish 25 = .ok (.aload_n 0, 1) := by decide +kernel
theorem dX9_finish_26 : decode cX9_finish 26 = .ok (.getfield 10, 3) := by decide +kernel
theorem dX9_finish_29 : decode cX9_finish 29 = .ok (.invokevirtual 113, 3) := by decide +kernel
theorem dX9_finish_32 : decode cX9_finish 32 = .ok (.aload_n 0, 1) := by decide +kernel
theorem dX9_finish_33 : decode cX9_finish 33 = .ok (.getfield 19, 3) := by decide +kernel
theorem dX9_finish_36 : decode cX9_finish 36 = .ok (.invokevirtual 121, 3) := by decide +kernel
theorem dX9_finish_39 : decode cX9_finish 39 = .ok (.aload_n 0, 1) := by decide +kernel
theorem dX9_finish_40 : decode cX9_finish 40 = .ok (.getfield 10, 3) := by decide +kernel
theorem dX9_finish_43 : decode cX9_finish 43 = .ok (.iload_n 1, 1) := by decide +kernel
theorem dX9_finish_44 : decode cX9_finish 44 = .ok (.iload_n 2, 1) := by decide +kernel
theorem dX9_finish_45 : decode cX9_finish 45 = .ok (.invokevirtual 149, 3) := by decide +kernel
theorem dX9_finish_48 : decode cX9_finish 48 = .ok (.ireturn, 1) := by decide +kernel
def f_X9_finish (M : xm) (a1 : Int32) (a2 : Int32) : Option (Int32 × xm) := (if (f_X9_isRoot a2) = 0 then some ((-2 : Int32), M) else xb1 (f_X1_hasBegun 1 M a1) (fun v4 => (if v4 = 0 then some ((-2 : Int32), M) else xb1 (f_X5_prepare 16 1 M) (fun M8 => xb1 (f_X5_keep 16 M8) (fun M11 => xb2 (f_X1_finishRead 1 M11 a1 a2) (fun v14 M15 => some (v14, M15)))))))
set_option maxHeartbeats 4000000 in
set_option maxRecDepth 20000 in
theorem c_X9_finish (l : Launch) (E : xE) (b : Nat) (M : xm) (a1 : Int32) (a2 : Int32) {r : Int32} {M' : xm} (hf : f_X9_finish M a1 a2 = some (r, M')) :
    xMet l E b NX yX9_finish cX9_finish 3 (some .int) (xR 6) [.ref (b + 0), .int a1, .int a2] (cX E b M) (some (.int r)) True (cX E b M') := by
  refine xMet.ofW (own := RX9) (by decide) rfl (Nat.le_of_ble_eq_true rfl) ?_
  intro p e s m below meth c H locs ls C hm hl
  have hx := C.1.1
  have hb := C.1.2.1
  have hl : lv_has ls 3 [(0, .ref (b + 0)), (1, .int a1), (2, .int a2)] := hl
  unfold f_X9_finish at hf
  refine lv_iload_n hx hb dX9_finish_0 rfl (lv_at hl 2 rfl) ?_
  refine x_callSi (As := [.int a2]) (rest := []) C hm (c_X9_isRoot l E b M a2 rfl) tc_X9_isRoot tm_RX9_105 tz_X9_isRoot tn_RX9 td_X9_isRoot rfl rfl ⟨Nat.le_of_ble_eq_true rfl, Nat.le_of_ble_eq_true rfl⟩ rfl hl.1 rfl (Nat.le_of_ble_eq_true rfl) ⟨Nat.zero_le _, Nat.zero_le _⟩ dX9_finish_1 (fun H locs hP1 hm => ?_)
  refine lv_if_eq (tgt := 18) hx hb dX9_finish_4 (by decide) (fun hc2 => ?_) (fun hc2 => ?_)
  · have hf := xif_t hc2 hf
    refine lv_bipush (v := (-2 : Int32)) hx hb dX9_finish_18 (by decide) ?_
    cases hf
    exact x_iret C hm trivial dX9_finish_20
  have hf := xif_f hc2 hf
  refine lv_aload_n hx hb dX9_finish_7 rfl (lv_at hl 0 rfl) ?_
  refine x_get C hm inX9 rfl 0 (by decide) tf_RX9_10 (cx_ColouredHeap LX_top) rfl dX9_finish_8 ?_
  refine lv_iload_n hx hb dX9_finish_11 rfl (lv_at hl 1 rfl) ?_
  obtain ⟨v4, hq3, hf⟩ := xb1_e hf
  refine x_callVi (As := [.int a1]) (rest := []) C hm (c_X1_hasBegun l E b LX_heap M a1 hq3) rfl (cx_Heap (LX_heap 0 _ rfl)) tc_X1_hasBegun tm_RX9_146 ti_X1_hasBegun ts_X1_hasBegun tn_RX1 td_X1_hasBegun rfl rfl ⟨Nat.le_of_ble_eq_true rfl, Nat.le_of_ble_eq_true rfl⟩ rfl hl.1 rfl (Nat.le_of_ble_eq_true rfl) ⟨Nat.zero_le _, Nat.zero_le _⟩ dX9_finish_12 (fun H locs hP5 hm => ?_)
  refine lv_if_ne (tgt := 21) hx hb dX9_finish_15 (by decide) (fun hc6 => ?_) (fun hc6 => ?_)
  rotate_left
  · have hf := xif_t hc6 hf
    refine lv_bipush (v := (-2 : Int32)) hx hb dX9_finish_18 (by decide) ?_
    cases hf
    exact x_iret C hm trivial dX9_finish_20
  have hf := xif_f hc6 hf
  refine lv_aload_n hx hb dX9_finish_21 rfl (lv_at hl 0 rfl) ?_
  refine x_get C hm inX9 rfl 1 (by decide) tf_RX9_19 (cx_ColouredHeap LX_top) rfl dX9_finish_22 ?_
  refine lv_aload_n hx hb dX9_finish_25 rfl (lv_at hl 0 rfl) ?_
  refine x_get C hm inX9 rfl 0 (by decide) tf_RX9_10 (cx_ColouredHeap LX_top) rfl dX9_finish_26 ?_
  obtain ⟨M8, hq7, hf⟩ := xb1_e hf
  refine x_callVv (As := [.ref (b + 1)]) (rest := []) C hm (c_X5_prepare l E b LX_steps LX_heap M hq7) rfl (cx_Steps (LX_steps 0 _ rfl)) tc_X5_prepare tm_RX9_113 ti_X5_prepare ts_X5_prepare tn_RX5 td_X5_prepare rfl rfl ⟨Nat.le_of_ble_eq_true rfl, Nat.le_of_ble_eq_true rfl⟩ rfl hl.1 rfl (Nat.le_of_ble_eq_true rfl) ⟨Nat.zero_le _, Nat.zero_le _⟩ dX9_finish_29 (fun H locs hP9 hm => ?_)
  refine lv_aload_n hx hb dX9_finish_32 rfl (lv_at hl 0 rfl) ?_
  refine x_get C hm inX9 rfl 1 (by decide) tf_RX9_19 (cx_ColouredHeap LX_top) rfl dX9_finish_33 ?_
  obtain ⟨M11, hq10, hf⟩ := xb1_e hf
  refine x_callVv (As := []) (rest := []) C hm (c_X5_keep l E b LX_steps M8 hq10) rfl (cx_Steps (LX_steps 0 _ rfl)) tc_X5_keep tm_RX9_121 ti_X5_keep ts_X5_keep tn_RX5 td_X5_keep rfl rfl ⟨Nat.le_of_ble_eq_true rfl, Nat.le_of_ble_eq_true rfl⟩ rfl hl.1 rfl (Nat.le_of_ble_eq_true rfl) ⟨Nat.zero_le _, Nat.zero_le _⟩ dX9_finish_36 (fun H locs hP12 hm => ?_)
  refine lv_aload_n hx hb dX9_finish_39 rfl (lv_at hl 0 rfl) ?_
  refine x_get C hm inX9 rfl 0 (by decide) tf_RX9_10 (cx_ColouredHeap LX_top) rfl dX9_finish_40 ?_
  refine lv_iload_n hx hb dX9_finish_43 rfl (lv_at hl 1 rfl) ?_
  refine lv_iload_n hx hb dX9_finish_44 rfl (lv_at hl 2 rfl) ?_
  obtain ⟨v14, M15, hq13, hf⟩ := xb2_e hf
  refine x_callVi (As := [.int a1, .int a2]) (rest := []) C hm (c_X1_finishRead l E b LX_heap M11 a1 a2 hq13) rfl (cx_Heap (LX_heap 0 _ rfl)) tc_X1_finishRead tm_RX9_149 ti_X1_finishRead ts_X1_finishRead tn_RX1 td_X1_finishRead rfl rfl ⟨Nat.le_of_ble_eq_true rfl, Nat.le_of_ble_eq_true rfl⟩ rfl hl.1 rfl (Nat.le_of_ble_eq_true rfl) ⟨Nat.zero_le _, Nat.zero_le _⟩ dX9_finish_45 (fun H locs hP16 hm => ?_)
  cases hf
  exact x_iret C hm trivial dX9_finish_48
