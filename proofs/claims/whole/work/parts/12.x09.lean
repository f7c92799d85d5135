/-! ColouredHeap.whose()I -/
theorem dX9_whose_0 : decode cX9_whose 0 = .ok (.iconst 0, 1) := by decide +kernel
theorem dX9_whose_1 : decode cX9_whose 1 = .ok (.istore_n 1, 1) := by decide +kernel
theorem dX9_whose_2 : decode cX9_whose 2 = .ok (.iconst 0, 1) := by decide +kernel
theorem dX9_whose_3 : decode cX9_whose 3 = .ok (.istore_n 2, 1) := by decide +kernel
theorem dX9_whose_4 : decode cX9_whose 4 = .ok (.iload_n 2, 1) := by decide +kernel
theorem dX9_whose_5 : decode cX9_whose 5 = .ok (.iconst 4, 1) := by decide +kernel
theorem dX9_whose_6 : decode cX9_whose 6 = .ok (.if_icmp .ge 39, 3) := by decide +kernel
theorem dX9_whose_9 : decode cX9_whose 9 = .ok (.iload_n 2, 1) := by decide +kernel
theorem dX9_whose_10 : decode cX9_whose 10 = .ok (.aload_n 0, 1) := by decide +kernel
theorem dX9_whose_11 : decode cX9_whose 11 = .ok (.getfield 26, 3) := by decide +kernel
theorem dX9_whose_14 : decode cX9_whose 14 = .ok (.getfield 78, 3) := by decide +kernel
theorem dX9_whose_17 : decode cX9_whose 17 = .ok (.if_icmp .ge 28, 3) := by decide +kernel
theorem dX9_whose_20 : decode cX9_whose 20 = .ok (.aload_n 0, 1) := by decide +kernel
theorem dX9_whose_21 : decode cX9_whose 21 = .ok (.aload_n 0, 1) := by decide +kernel
theorem dX9_whose_22 : decode cX9_whose 22 = .ok (.getfield 65, 3) := by decide +kernel
theorem dX9_whose_25 : decode cX9_whose 25 = .ok (.iload_n 2, 1) := by decide +kernel
theorem dX9_whose_26 : decode cX9_whose 26 = .ok (.aaload, 1) := by decide +kernel
theorem dX9_whose_27 : decode cX9_whose 27 = .ok (.invokevirtual 319, 3) := by decide +kernel
theorem dX9_whose_30 : decode cX9_whose 30 = .ok (.ifCond .eq 9, 3) := by decide +kernel
theorem dX9_whose_33 : decode cX9_whose 33 = .ok (.iload_n 1, 1) := by decide +kernel
theorem dX9_whose_34 : decode cX9_whose 34 = .ok (.iconst 1, 1) := by decide +kernel
theorem dX9_whose_35 : decode cX9_whose 35 = .ok (.iload_n 2, 1) := by decide +kernel
theorem dX9_whose_36 : decode cX9_whose 36 = .ok (.ishl, 1) := by decide +kernel
theorem dX9_whose_37 : decode cX9_whose 37 = .ok (.ior, 1) := by decide +kernel
theorem dX9_whose_38 : decode cX9_whose 38 = .ok (.istore_n 1, 1) := by decide +kernel
theorem dX9_whose_39 : decode cX9_whose 39 = .ok (.iinc 2 1, 3) := by decide +kernel
theorem dX9_whose_42 : decode cX9_whose 42 = .ok (.goto (-38), 3) := by decide +kernel
theorem dX9_whose_45 : decode cX9_whose 45 = .ok (.iload_n 1, 1) := by decide +kernel
theorem dX9_whose_46 : decode cX9_whose 46 = .ok (.ireturn, 1) := by decide +kernel
def g_X9_whose_4  : Nat → xm → Int32 → Int32 → Option ((Int32 × xm))
  | 0, _, _, _ => none
  | n + 1, M3, x1, x2 => (if (4 : Int32) ≤ x2 then some ((x1, M3)) else (if (M3 483 3) ≤ x2 then some ((x1, M3)) else if xin x2 4 = true then xb2 (f_X9_agreesWithSaid (1006 + (1 + 9 * (Int32.toNatClampNeg x2))) M3) (fun v10 M11 => (if v10 = 0 then xlet (x2 + (1 : Int32)) (fun v14 => g_X9_whose_4 n M11 x1 v14) else xlet (x1 ||| ((1 : Int32) <<< (x2 &&& 31))) (fun v15 => xlet (x2 + (1 : Int32)) (fun v16 => g_X9_whose_4 n M11 v15 v16)))) else none))
def f_X9_whose (M : xm) : Option (Int32 × xm) := xb2 (g_X9_whose_4 xfuel M (0 : Int32) (0 : Int32)) (fun v17 M18 => some (v17, M18))
set_option maxHeartbeats 4000000 in
set_option maxRecDepth 20000 in
theorem j_X9_whose_4 {p : Program} {l : Launch} {e : Env} {s : State} {m : MethodId} {args : Array Value} {below : List Frame} {meth : Method} {c : Code} {Q : State → Prop} {E : xE} {b : Nat} (C : xC p s m args meth c cX9_whose 3 RX9 (some .int) E b)  {y4 : Int32} {y5 : xm}
    (kx0 : ∀ (H : Heap) (locs : List Loc) (ls : Array Slot), xM E b NX (cX E b y5) s.heap H locs → lv_has ls 3 [(1, .int y4)] → W p l e (xR 6) s m args below meth c H locs 0 0 Q (F0 m 45 ls [])) :
    ∀ (n : Nat) (M3 : xm) (x1 : Int32) (x2 : Int32) (H : Heap) (locs : List Loc) (ls : Array Slot), g_X9_whose_4 n M3 x1 x2 = some (y4, y5) → xM E b NX (cX E b M3) s.heap H locs → lv_has ls 3 [(0, .ref (b + 0)), (1, .int x1), (2, .int x2)] → W p l e (xR 6) s m args below meth c H locs 0 0 Q (F0 m 4 ls []) := by
  have hx := C.1.1
  have hb := C.1.2.1
  intro n
  induction n with
  | zero =>
    intro M3 x1 x2 H locs ls hf hm hl
    rw [g_X9_whose_4] at hf
    cases hf
  | succ n ih =>
    intro M3 x1 x2 H locs ls hf hm hl
    rw [g_X9_whose_4] at hf
    refine lv_iload_n hx hb dX9_whose_4 rfl (lv_at hl 2 rfl) ?_
    refine lv_iconst (v := (4 : Int32)) hx hb dX9_whose_5 (by decide) ?_
    refine lv_icmp_ge (tgt := 45) hx hb dX9_whose_6 (by decide) (fun hc6 => ?_) (fun hc6 => ?_)
    · have hf := xif_t hc6 hf
      cases hf
      exact kx0 H locs ls hm (lv_sub hl [1] rfl)
    have hf := xif_f hc6 hf
    refine lv_iload_n hx hb dX9_whose_9 rfl (lv_at hl 2 rfl) ?_
    refine lv_aload_n hx hb dX9_whose_10 rfl (lv_at hl 0 rfl) ?_
    refine x_get C hm inX9 rfl 2 (by decide) tf_RX9_26 (cx_ColouredHeap LX_top) rfl dX9_whose_11 ?_
    refine x_get C hm inX8 rfl 3 (by decide) tf_RX9_78 (cx_Told (LX_told 0 _ rfl)) rfl dX9_whose_14 ?_
    refine lv_icmp_ge (tgt := 45) hx hb dX9_whose_17 (by decide) (fun hc7 => ?_) (fun hc7 => ?_)
    · have hf := xif_t hc7 hf
      cases hf
      exact kx0 H locs ls hm (lv_sub hl [1] rfl)
    have hf := xif_f hc7 hf
    refine lv_aload_n hx hb dX9_whose_20 rfl (lv_at hl 0 rfl) ?_
    refine lv_aload_n hx hb dX9_whose_21 rfl (lv_at hl 0 rfl) ?_
    refine x_get C hm inX9 rfl 10 (by decide) tf_RX9_65 (cx_ColouredHeap LX_top) rfl dX9_whose_22 ?_
    refine lv_iload_n hx hb dX9_whose_25 rfl (lv_at hl 2 rfl) ?_
    obtain ⟨hi8, hf⟩ := xif_s hf
    refine x_aald (t0 := 4) (Cn := "ColouredHeap$Text") (d := (fun i => 1006 + (1 + 9 * i))) C hm (cx_T (LX_texts 0 _ rfl)) rfl hi8 rfl dX9_whose_26 ?_
    obtain ⟨v10, M11, hq9, hf⟩ := xb2_e hf
    refine x_callVi (As := [.ref (b + (1006 + (1 + 9 * (Int32.toNatClampNeg x2))))]) (rest := []) C hm (c_X9_agreesWithSaid l E b (lat_text LX_texts (xin_lt hi8)) M3 hq9) rfl (cx_ColouredHeap LX_top) tc_X9_agreesWithSaid tm_RX9_319 ti_X9_agreesWithSaid ts_X9_agreesWithSaid tn_RX9 td_X9_agreesWithSaid rfl rfl ⟨Nat.le_of_ble_eq_true rfl, Nat.le_of_ble_eq_true rfl⟩ rfl hl.1 rfl (Nat.le_of_ble_eq_true rfl) ⟨Nat.zero_le _, Nat.zero_le _⟩ dX9_whose_27 (fun H locs hP12 hm => ?_)
    refine lv_if_eq (tgt := 39) hx hb dX9_whose_30 (by decide) (fun hc13 => ?_) (fun hc13 => ?_)
    · have hf := xif_t hc13 hf
      obtain ⟨v14, ev14, hf⟩ := xlet_x hf
      refine lv_iinc (v := v14) (lv' := [(2, .int v14), (0, .ref (b + 0)), (1, .int x1)]) hx hb dX9_whose_39 hl (k := 2) rfl (by rw [ev14]; rfl) (by decide) rfl (fun ls hl => ?_)
      refine lv_goto (tgt := 4) hx hb dX9_whose_42 (by decide) ?_
      exact ih M11 x1 v14 H locs ls hf hm (lv_sub hl [1, 2, 0] rfl)
    have hf := xif_f hc13 hf
    refine lv_iload_n hx hb dX9_whose_33 rfl (lv_at hl 1 rfl) ?_
    refine lv_iconst (v := (1 : Int32)) hx hb dX9_whose_34 (by decide) ?_
    refine lv_iload_n hx hb dX9_whose_35 rfl (lv_at hl 2 rfl) ?_
    refine lv_ishl hx hb dX9_whose_36 ?_
    refine lv_ior hx hb dX9_whose_37 ?_
    refine lv_topi (fun v15 ev15 => ?_)
    have hf := xlet_e ev15 hf
    refine lv_istore_n (lv' := [(1, .int v15), (0, .ref (b + 0)), (2, .int x2)]) hx hb dX9_whose_38 rfl hl (by decide) rfl (fun ls hl => ?_)
    obtain ⟨v16, ev16, hf⟩ := xlet_x hf
    refine lv_iinc (v := v16) (lv' := [(2, .int v16), (1, .int v15), (0, .ref (b + 0))]) hx hb dX9_whose_39 hl (k := 2) rfl (by rw [ev16]; rfl) (by decide) rfl (fun ls hl => ?_)
    refine lv_goto (tgt := 4) hx hb dX9_whose_42 (by decide) ?_
    exact ih M11 v15 v16 H locs ls hf hm (lv_sub hl [2, 1, 0] rfl)
set_option maxHeartbeats 4000000 in
set_option maxRecDepth 20000 in
theorem c_X9_whose (l : Launch) (E : xE) (b : Nat) (M : xm) {r : Int32} {M' : xm} (hf : f_X9_whose M = some (r, M')) :
    xMet l E b NX yX9_whose cX9_whose 3 (some .int) (xR 6) [.ref (b + 0)] (cX E b M) (some (.int r)) True (cX E b M') := by
  refine xMet.ofW (own := RX9) (by decide) rfl (Nat.le_of_ble_eq_true rfl) ?_
  intro p e s m below meth c H locs ls C hm hl
  have hx := C.1.1
  have hb := C.1.2.1
  have hl : lv_has ls 3 [(0, .ref (b + 0))] := hl
  unfold f_X9_whose at hf
  refine lv_iconst (v := (0 : Int32)) hx hb dX9_whose_0 (by decide) ?_
  refine lv_istore_n (lv' := [(1, .int (0 : Int32)), (0, .ref (b + 0))]) hx hb dX9_whose_1 rfl hl (by decide) rfl (fun ls hl => ?_)
  refine lv_iconst (v := (0 : Int32)) hx hb dX9_whose_2 (by decide) ?_
  refine lv_istore_n (lv' := [(2, .int (0 : Int32)), (1, .int (0 : Int32)), (0, .ref (b + 0))]) hx hb dX9_whose_3 rfl hl (by decide) rfl (fun ls hl => ?_)
  obtain ⟨v17, M18, hq, hf⟩ := xb2_e hf
  refine j_X9_whose_4 C (fun H locs ls hm hl => ?_) xfuel M (0 : Int32) (0 : Int32) H locs ls hq hm (lv_sub hl [2, 1, 0] rfl)
  refine lv_iload_n hx hb dX9_whose_45 rfl (lv_at hl 0 rfl) ?_
  cases hf
  exact x_iret C hm trivial dX9_whose_46
/-! ColouredHeap.years(II)I -/
theorem dX9_years_0 : decode cX9_years 0 = .ok (.iload_n 1, 1) := by decide +kernel
theorem dX9_years_1 : decode cX9_years 1 = .ok (.ifCond .lt 21, 3) := by decide +kernel
theorem dX9_years_4 : decode cX9_years 4 = .ok (.iload_n 1, 1) := by decide +kernel
theorem dX9_years_5 : decode cX9_years 5 = .ok (.sipush 9999, 3) := by decide +kernel
theorem dX9_years_8 : decode cX9_years 8 = .ok (.if_icmp .gt 14, 3) := by decide +kernel
theorem dX9_years_11 : decode cX9_years 11 = .ok (.iload_n 2, 1) := by decide +kernel
theorem dX9_years_12 : decode cX9_years 12 = .ok (.iconst 1, 1) := by decide +kernel
theorem dX9_years_13 : decode cX9_years 13 = .ok (.if_icmp .lt 9, 3) := by decide +kernel
theorem dX9_years_16 : decode cX9_years 16 = .ok (.iload_n 2, 1) := by decide +kernel
theorem dX9_years_17 : decode cX9_years 17 = .ok (.bipush 40, 2) := by decide +kernel
theorem dX9_years_19 : decode cX9_years 19 = .ok (.if_icmp .le 5, 3) := by decide +kernel
theorem dX9_years_22 : decode cX9_years 22 = .ok (.iconst (-1), 1) := by decide +kernel
theorem dX9_years_23 : decode cX9_years 23 = .ok (.ireturn, 1) := by decide +kernel
theorem dX9_years_24 : decode cX9_years 24 = .ok (.aload_n 0, 1) := by decide +kernel
theorem dX9_years_25 : decode cX9_years 25 = .ok (.getfield 19, 3) := by decide +kernel
theorem dX9_years_28 : decode cX9_years 28 = .ok (.aload_n 0, 1) := by decide +kernel
theorem dX9_years_29 : decode cX9_years 29 = .ok (.getfield 10, 3) := by decide +kernel
theorem dX9_years_32 : decode cX9_years 32 = .ok (.invokevirtual 113, 3) := by decide +kernel
theorem dX9_years_35 : decode cX9_years 35 = .ok (.aload_n 0, 1) := by decide +kernel
theorem dX9_years_36 : decode cX9_years 36 = .ok (.getfield 19, 3) := by decide +kernel
theorem dX9_years_39 : decode cX9_years 39 = .ok (.invokevirtual 121, 3) := by decide +kernel
theorem dX9_years_42 : decode cX9_years 42 = .ok (.aload_n 0, 1) := by decide +kernel
theorem dX9_years_43 : decode cX9_years 43 = .ok (.getfield 10, 3) := by decide +kernel
theorem dX9_years_46 : decode cX9_years 46 = .ok (.iload_n 1, 1) := by decide +kernel
theorem dX9_years_47 : decode cX9_years 47 = .ok (.iconst 2, 1) := by decide +kernel
theorem dX9_years_48 : decode cX9_years 48 = .ok (.imul, 1) := by decide +kernel
theorem dX9_years_49 : decode cX9_years 49 = .ok (.sipush 463, 3) := by decide +kernel
theorem dX9_years_52 : decode cX9_years 52 = .ok (.iadd, 1) := by decide +kernel
theorem dX9_years_53 : decode cX9_years 53 = .ok (.putfield 202, 3) := by decide +kernel
theorem dX9_years_56 : decode cX9_years 56 = .ok (.iconst 0, 1) := by decide +kernel
theorem dX9_years_57 : decode cX9_years 57 = .ok (.istore_n 3, 1) := by decide +kernel
theorem dX9_years_58 : decode cX9_years 58 = .ok (.iload_n 3, 1) := by decide +kernel
theorem dX9_years_59 : decode cX9_years 59 = .ok (.iload_n 2, 1) := by decide +kernel
theorem dX9_years_60 : decode cX9_years 60 = .ok (.if_icmp .ge 45, 3) := by decide +kernel
theorem dX9_years_63 : decode cX9_years 63 = .ok (.aload_n 0, 1) := by decide +kernel
theorem dX9_years_64 : decode cX9_years 64 = .ok (.getfield 10, 3) := by decide +kernel
theorem dX9_years_67 : decode cX9_years 67 = .ok (.getfield 202, 3) := by decide +kernel
theorem dX9_years_70 : decode cX9_years 70 = .ok (.istore 4, 2) := by decide +kernel
theorem dX9_years_72 : decode cX9_years 72 = .ok (.aload_n 0, 1) := by decide +kernel
theorem dX9_years_73 : decode cX9_years 73 = .ok (.getfield 10, 3) := by decide +kernel
theorem dX9_years_76 : decode cX9_years 76 = .ok (.iload 4, 2) := by decide +kernel
theorem dX9_years_78 : decode cX9_years 78 = .ok (.sipush 733, 3) := by decide +kernel
theorem dX9_years_81 : decode cX9_years 81 = .ok (.imul, 1) := by decide +kernel
theorem dX9_years_82 : decode cX9_years 82 = .ok (.sipush 599, 3) := by decide +kernel
theorem dX9_years_85 : decode cX9_years 85 = .ok (.iadd, 1) := by decide +kernel
theorem dX9_years_86 : decode cX9_years 86 = .ok (.sipush 31063, 3) := by decide +kernel
theorem dX9_years_89 : decode cX9_years 89 = .ok (.irem, 1) := by decide +kernel
theorem dX9_years_90 : decode cX9_years 90 = .ok (.putfield 202, 3) := by decide +kernel
theorem dX9_years_93 : decode cX9_years 93 = .ok (.aload_n 0, 1) := by decide +kernel
theorem dX9_years_94 : decode cX9_years 94 = .ok (.iload 4, 2) := by decide +kernel
theorem dX9_years_96 : decode cX9_years 96 = .ok (.invokevirtual 205, 3) := by decide +kernel
theorem dX9_years_99 : decode cX9_years 99 = .ok (.iinc 3 1, 3) := by decide +kernel
theorem dX9_years_102 : decode cX9_years 102 = .ok (.goto (-44), 3) := by decide +kernel
theorem dX9_years_105 : decode cX9_years 105 = .ok (.aload_n 0, 1) := by decide +kernel
theorem dX9_years_106 : decode cX9_years 106 = .ok (.getfield 10, 3) := by decide +kernel
theorem dX9_years_109 : decode cX9_years 109 = .ok (.getfield 124, 3) := by decide +kernel
theorem dX9_years_112 : decode cX9_years 112 = .ok (.ireturn, 1) := by decide +kernel
def g_X9_years_58 (x12 : Int32) : Nat → xm → Int32 → Option ((xm))
  | 0, _, _ => none
  | n + 1, M14, x13 => (if x12 ≤ x13 then some (M14) else xlet (M14 1 18) (fun v17 => xlet (up2 M14 1 18 (xrem ((v17 * (733 : Int32)) + (599 : Int32)) (31063 : Int32))) (fun M18 => xb1 (f_X9_draw M18 v17) (fun M20 => xlet (x13 + (1 : Int32)) (fun v22 => g_X9_years_58 x12 n M20 v22)))))
def f_X9_years (M : xm) (a1 : Int32) (a2 : Int32) : Option (Int32 × xm) := (if a1 < 0 then some ((-1 : Int32), M) else (if (9999 : Int32) < a1 then some ((-1 : Int32), M) else (if a2 < (1 : Int32) then some ((-1 : Int32), M) else (if a2 ≤ (40 : Int32) then xb1 (f_X5_prepare 16 1 M) (fun M6 => xb1 (f_X5_keep 16 M6) (fun M9 => xlet (up2 M9 1 18 ((a1 * (2 : Int32)) + (463 : Int32))) (fun M11 => xb1 (g_X9_years_58 a2 xfuel M11 (0 : Int32)) (fun M23 => some ((M23 1 17), M23))))) else some ((-1 : Int32), M)))))
set_option maxHeartbeats 4000000 in
set_option maxRecDepth 20000 in
theorem j_X9_years_58 {p : Program} {l : Launch} {e : Env} {s : State} {m : MethodId} {args : Array Value} {below : List Frame} {meth : Method} {c : Code} {Q : State → Prop} {E : xE} {b : Nat} (C : xC p s m args meth c cX9_years 5 RX9 (some .int) E b) (x12 : Int32) {y15 : xm}
    (kx0 : ∀ (H : Heap) (locs : List Loc) (ls : Array Slot), xM E b NX (cX E b y15) s.heap H locs → lv_has ls 5 [(0, .ref (b + 0))] → W p l e (xR 9) s m args below meth c H locs 0 0 Q (F0 m 105 ls [])) :
    ∀ (n : Nat) (M14 : xm) (x13 : Int32) (H : Heap) (locs : List Loc) (ls : Array Slot), g_X9_years_58 x12 n M14 x13 = some y15 → xM E b NX (cX E b M14) s.heap H locs → lv_has ls 5 [(0, .ref (b + 0)), (2, .int x12), (3, .int x13)] → W p l e (xR 9) s m args below meth c H locs 0 0 Q (F0 m 58 ls []) := by
  have hx := C.1.1
  have hb := C.1.2.1
  intro n
  induction n with
  | zero =>
    intro M14 x13 H locs ls hf hm hl
    rw [g_X9_years_58] at hf
    cases hf
  | succ n ih =>
    intro M14 x13 H locs ls hf hm hl
    rw [g_X9_years_58] at hf
    refine lv_iload_n hx hb dX9_years_58 rfl (lv_at hl 2 rfl) ?_
    refine lv_iload_n hx hb dX9_years_59 rfl (lv_at hl 1 rfl) ?_
    refine lv_icmp_ge (tgt := 105) hx hb dX9_years_60 (by decide) (fun hc16 => ?_) (fun hc16 => ?_)
    · have hf := xif_t hc16 hf
      cases hf
      exact kx0 H locs ls hm (lv_sub hl [0] rfl)
    have hf := xif_f hc16 hf
    refine lv_aload_n hx hb dX9_years_63 rfl (lv_at hl 0 rfl) ?_
    refine x_get C hm inX9 rfl 0 (by decide) tf_RX9_10 (cx_ColouredHeap LX_top) rfl dX9_years_64 ?_
    refine x_get C hm inX1 rfl 18 (by decide) tf_RX9_202 (cx_Heap (LX_heap 0 _ rfl)) rfl dX9_years_67 ?_
    refine lv_topi (fun v17 ev17 => ?_)
    have hf := xlet_e ev17 hf
    refine lv_istore (lv' := [(4, .int v17), (0, .ref (b + 0)), (2, .int x12), (3, .int x13)]) hx hb dX9_years_70 hl (by decide) rfl (fun ls hl => ?_)
    refine lv_aload_n hx hb dX9_years_72 rfl (lv_at hl 1 rfl) ?_
    refine x_get C hm inX9 rfl 0 (by decide) tf_RX9_10 (cx_ColouredHeap LX_top) rfl dX9_years_73 ?_
    refine lv_iload hx hb dX9_years_76 (lv_at hl 0 rfl) ?_
    refine lv_sipush (v := (733 : Int32)) hx hb dX9_years_78 (by decide) ?_
    refine lv_imul hx hb dX9_years_81 ?_
    refine lv_sipush (v := (599 : Int32)) hx hb dX9_years_82 (by decide) ?_
    refine lv_iadd hx hb dX9_years_85 ?_
    refine lv_sipush (v := (31063 : Int32)) hx hb dX9_years_86 (by decide) ?_
    refine lv_irem hx hb dX9_years_89 (by decide) ?_
    obtain ⟨M18, eM18, hf⟩ := xlet_x hf
    refine x_put (cf' := cX E b M18) C hm inX1 tyX1 tyX1_ok nmX1 rfl 18 (by decide) tf_RX9_202 rfl rfl rfl (cx_Heap (LX_heap 0 _ rfl)) (Nat.le_of_ble_eq_true rfl) (by rw [eM18]; exact cu_Heap_18 (LX_heap 0 _ rfl)) (by rw [eM18]; exact cX_o) dX9_years_90 (fun H locs hm => ?_)
    refine lv_aload_n hx hb dX9_years_93 rfl (lv_at hl 1 rfl) ?_
    refine lv_iload hx hb dX9_years_94 (lv_at hl 0 rfl) ?_
    obtain ⟨M20, hq19, hf⟩ := xb1_e hf
    refine x_callVv (As := [.int v17]) (rest := []) C hm (c_X9_draw l E b M18 v17 hq19) rfl (cx_ColouredHeap LX_top) tc_X9_draw tm_RX9_205 ti_X9_draw ts_X9_draw tn_RX9 td_X9_draw rfl rfl ⟨Nat.le_of_ble_eq_true rfl, Nat.le_of_ble_eq_true rfl⟩ rfl hl.1 rfl (Nat.le_of_ble_eq_true rfl) ⟨Nat.zero_le _, Nat.zero_le _⟩ dX9_years_96 (fun H locs hP21 hm => ?_)
    obtain ⟨v22, ev22, hf⟩ := xlet_x hf
    refine lv_iinc (v := v22) (lv' := [(3, .int v22), (4, .int v17), (0, .ref (b + 0)), (2, .int x12)]) hx hb dX9_years_99 hl (k := 3) rfl (by rw [ev22]; rfl) (by decide) rfl (fun ls hl => ?_)
    refine lv_goto (tgt := 58) hx hb dX9_years_102 (by decide) ?_
    exact ih M20 v22 H locs ls hf hm (lv_sub hl [2, 3, 0] rfl)
set_option maxHeartbeats 4000000 in
set_option maxRecDepth 20000 in
theorem c_X9_years (l : Launch) (E : xE) (b : Nat) (M : xm) (a1 : Int32) (a2 : Int32) {r : Int32} {M' : xm} (hf : f_X9_years M a1 a2 = some (r, M')) :
    xMet l E b NX yX9_years cX9_years 5 (some .int) (xR 9) [.ref (b + 0), .int a1, .int a2] (cX E b M) (some (.int r)) True (cX E b M') := by
  refine xMet.ofW (own := RX9) (by decide) rfl (Nat.le_of_ble_eq_true rfl) ?_
  intro p e s m below meth c H locs ls C hm hl
  have hx := C.1.1
  have hb := C.1.2.1
  have hl : lv_has ls 5 [(0, .ref (b + 0)), (1, .int a1), (2, .int a2)] := hl
  unfold f_X9_years at hf
  refine lv_iload_n hx hb dX9_years_0 rfl (lv_at hl 1 rfl) ?_
  refine lv_if_lt (tgt := 22) hx hb dX9_years_1 (by decide) (fun hc1 => ?_) (fun hc1 => ?_)
  · have hf := xif_t hc1 hf
    refine lv_iconst (v := (-1 : Int32)) hx hb dX9_years_22 (by decide) ?_
    cases hf
    exact x_iret C hm trivial dX9_years_23
  have hf := xif_f hc1 hf
  refine lv_iload_n hx hb dX9_years_4 rfl (lv_at hl 1 rfl) ?_
  refine lv_sipush (v := (9999 : Int32)) hx hb dX9_years_5 (by decide) ?_
  refine lv_icmp_gt (tgt := 22) hx hb dX9_years_8 (by decide) (fun hc2 => ?_) (fun hc2 => ?_)
  · have hf := xif_t hc2 hf
    refine lv_iconst (v := (-1 : Int32)) hx hb dX9_years_22 (by decide) ?_
    cases hf
    exact x_iret C hm trivial dX9_years_23
  have hf := xif_f hc2 hf
  refine lv_iload_n hx hb dX9_years_11 rfl (lv_at hl 2 rfl) ?_
  refine lv_iconst (v := (1 : Int32)) hx hb dX9_years_12 (by decide) ?_
  refine lv_icmp_lt (tgt := 22) hx hb dX9_years_13 (by decide) (fun hc3 => ?_) (fun hc3 => ?_)
  · have hf := xif_t hc3 hf
    refine lv_iconst (v := (-1 : Int32)) hx hb dX9_years_22 (by decide) ?_
    cases hf
    exact x_iret C hm trivial dX9_years_23
  have hf := xif_f hc3 hf
  refine lv_iload_n hx hb dX9_years_16 rfl (lv_at hl 2 rfl) ?_
  refine lv_bipush (v := (40 : Int32)) hx hb dX9_years_17 (by decide) ?_
  refine lv_icmp_le (tgt := 24) hx hb dX9_years_19 (by decide) (fun hc4 => ?_) (fun hc4 => ?_)
  rotate_left
  · have hf := xif_f hc4 hf
    refine lv_iconst (v := (-1 : Int32)) hx hb dX9_years_22 (by decide) ?_
    cases hf
    exact x_iret C hm trivial dX9_years_23
  have hf := xif_t hc4 hf
  refine lv_aload_n hx hb dX9_years_24 rfl (lv_at hl 0 rfl) ?_
  refine x_get C hm inX9 rfl 1 (by decide) tf_RX9_19 (cx_ColouredHeap LX_top) rfl dX9_years_25 ?_
  refine lv_aload_n hx hb dX9_years_28 rfl (lv_at hl 0 rfl) ?_
  refine x_get C hm inX9 rfl 0 (by decide) tf_RX9_10 (cx_ColouredHeap LX_top) rfl dX9_years_29 ?_
  obtain ⟨M6, hq5, hf⟩ := xb1_e hf
  refine x_callVv (As := [.ref (b + 1)]) (rest := []) C hm (c_X5_prepare l E b LX_steps LX_heap M hq5) rfl (cx_Steps (LX_steps 0 _ rfl)) tc_X5_prepare tm_RX9_113 ti_X5_prepare ts_X5_prepare tn_RX5 td_X5_prepare rfl rfl ⟨Nat.le_of_ble_eq_true rfl, Nat.le_of_ble_eq_true rfl⟩ rfl hl.1 rfl (Nat.le_of_ble_eq_true rfl) ⟨Nat.zero_le _, Nat.zero_le _⟩ dX9_years_32 (fun H locs hP7 hm => ?_)
  refine lv_aload_n hx hb dX9_years_35 rfl (lv_at hl 0 rfl) ?_
  refine x_get C hm inX9 rfl 1 (by decide) tf_RX9_19 (cx_ColouredHeap LX_top) rfl dX9_years_36 ?_
  obtain ⟨M9, hq8, hf⟩ := xb1_e hf
  refine x_callVv (As := []) (rest := []) C hm (c_X5_keep l E b LX_steps M6 hq8) rfl (cx_Steps (LX_steps 0 _ rfl)) tc_X5_keep tm_RX9_121 ti_X5_keep ts_X5_keep tn_RX5 td_X5_keep rfl rfl ⟨Nat.le_of_ble_eq_true rfl, Nat.le_of_ble_eq_true rfl⟩ rfl hl.1 rfl (Nat.le_of_ble_eq_true rfl) ⟨Nat.zero_le _, Nat.zero_le _⟩ dX9_years_39 (fun H locs hP10 hm => ?_)
  refine lv_aload_n hx hb dX9_years_42 rfl (lv_at hl 0 rfl) ?_
  refine x_get C hm inX9 rfl 0 (by decide) tf_RX9_10 (cx_ColouredHeap LX_top) rfl dX9_years_43 ?_
  refine lv_iload_n hx hb dX9_years_46 rfl (lv_at hl 1 rfl) ?_
  refine lv_iconst (v := (2 : Int32)) hx hb dX9_years_47 (by decide) ?_
  refine lv_imul hx hb dX9_years_48 ?_
  refine lv_sipush (v := (463 : Int32)) hx hb dX9_years_49 (by decide) ?_
  refine lv_iadd hx hb dX9_years_52 ?_
  obtain ⟨M11, eM11, hf⟩ := xlet_x hf
  refine x_put (cf' := cX E b M11) C hm inX1 tyX1 tyX1_ok nmX1 rfl 18 (by decide) tf_RX9_202 rfl rfl rfl (cx_Heap (LX_heap 0 _ rfl)) (Nat.le_of_ble_eq_true rfl) (by rw [eM11]; exact cu_Heap_18 (LX_heap 0 _ rfl)) (by rw [eM11]; exact cX_o) dX9_years_53 (fun H locs hm => ?_)
  refine lv_iconst (v := (0 : Int32)) hx hb dX9_years_56 (by decide) ?_
  refine lv_istore_n (lv' := [(3, .int (0 : Int32)), (0, .ref (b + 0)), (1, .int a1), (2, .int a2)]) hx hb dX9_years_57 rfl hl (by decide) rfl (fun ls hl => ?_)
  obtain ⟨M23, hq, hf⟩ := xb1_e hf
  refine j_X9_years_58 C a2 (fun H locs ls hm hl => ?_) xfuel M11 (0 : Int32) H locs ls hq hm (lv_sub hl [1, 3, 0] rfl)
  refine lv_aload_n hx hb dX9_years_105 rfl (lv_at hl 0 rfl) ?_
  refine x_get C hm inX9 rfl 0 (by decide) tf_RX9_10 (cx_ColouredHeap LX_top) rfl dX9_years_106 ?_
  refine x_get C hm inX1 rfl 17 (by decide) tf_RX9_124 (cx_Heap (LX_heap 0 _ rfl)) rfl dX9_years_109 ?_
  cases hf
  exact x_iret C hm trivial dX9_years_112
