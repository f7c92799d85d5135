/-! ColouredHeapModel.text()I -/
theorem dX10_text_0 : decode cX10_text 0 = .ok (.aload_n 0, 1) := by decide +kernel
theorem dX10_text_1 : decode cX10_text 1 = .ok (.getfield 7, 3) := by decide +kernel
theorem dX10_text_4 : decode cX10_text 4 = .ok (.iconst 0, 1) := by decide +kernel
theorem dX10_text_5 : decode cX10_text 5 = .ok (.iaload, 1) := by decide +kernel
theorem dX10_text_6 : decode cX10_text 6 = .ok (.iconst 4, 1) := by decide +kernel
theorem dX10_text_7 : decode cX10_text 7 = .ok (.if_icmp .ne 5, 3) := by decide +kernel
theorem dX10_text_10 : decode cX10_text 10 = .ok (.iconst (-1), 1) := by decide +kernel
theorem dX10_text_11 : decode cX10_text 11 = .ok (.ireturn, 1) := by decide +kernel
theorem dX10_text_12 : decode cX10_text 12 = .ok (.aload_n 0, 1) := by decide +kernel
theorem dX10_text_13 : decode cX10_text 13 = .ok (.aload_n 0, 1) := by decide +kernel
theorem dX10_text_14 : decode cX10_text 14 = .ok (.invokevirtual 253, 3) := by decide +kernel
theorem dX10_text_17 : decode cX10_text 17 = .ok (.putfield 22, 3) := by decide +kernel
theorem dX10_text_20 : decode cX10_text 20 = .ok (.aload_n 0, 1) := by decide +kernel
theorem dX10_text_21 : decode cX10_text 21 = .ok (.aload_n 0, 1) := by decide +kernel
theorem dX10_text_22 : decode cX10_text 22 = .ok (.getfield 22, 3) := by decide +kernel
theorem dX10_text_25 : decode cX10_text 25 = .ok (.ifCond .ne 7, 3) := by decide +kernel
theorem dX10_text_28 : decode cX10_text 28 = .ok (.iconst (-1), 1) := by decide +kernel
theorem dX10_text_29 : decode cX10_text 29 = .ok (.goto 7, 3) := by decide +kernel
theorem dX10_text_32 : decode cX10_text 32 = .ok (.aload_n 0, 1) := by decide +kernel
theorem dX10_text_33 : decode cX10_text 33 = .ok (.getfield 96, 3) := by decide +kernel
theorem dX10_text_36 : decode cX10_text 36 = .ok (.putfield 26, 3) := by decide +kernel
theorem dX10_text_39 : decode cX10_text 39 = .ok (.aload_n 0, 1) := by decide +kernel
theorem dX10_text_40 : decode cX10_text 40 = .ok (.iconst 0, 1) := by decide +kernel
theorem dX10_text_41 : decode cX10_text 41 = .ok (.putfield 83, 3) := by decide +kernel
theorem dX10_text_44 : decode cX10_text 44 = .ok (.aload_n 0, 1) := by decide +kernel
theorem dX10_text_45 : decode cX10_text 45 = .ok (.getfield 22, 3) := by decide +kernel
theorem dX10_text_48 : decode cX10_text 48 = .ok (.ifCond .eq 5, 3) := by decide +kernel
theorem dX10_text_51 : decode cX10_text 51 = .ok (.iconst (-1), 1) := by decide +kernel
theorem dX10_text_52 : decode cX10_text 52 = .ok (.ireturn, 1) := by decide +kernel
theorem dX10_text_53 : decode cX10_text 53 = .ok (.aload_n 0, 1) := by decide +kernel
theorem dX10_text_54 : decode cX10_text 54 = .ok (.getfield 7, 3) := by decide +kernel
theorem dX10_text_57 : decode cX10_text 57 = .ok (.iconst 0, 1) := by decide +kernel
theorem dX10_text_58 : decode cX10_text 58 = .ok (.dup2, 1) := by decide +kernel
theorem dX10_text_59 : decode cX10_text 59 = .ok (.iaload, 1) := by decide +kernel
theorem dX10_text_60 : decode cX10_text 60 = .ok (.iconst 1, 1) := by decide +kernel
theorem dX10_text_61 : decode cX10_text 61 = .ok (.iadd, 1) := by decide +kernel
theorem dX10_text_62 : decode cX10_text 62 = .ok (.iastore, 1) := by decide +kernel
theorem dX10_text_63 : decode cX10_text 63 = .ok (.aload_n 0, 1) := by decide +kernel
theorem dX10_text_64 : decode cX10_text 64 = .ok (.getfield 7, 3) := by decide +kernel
theorem dX10_text_67 : decode cX10_text 67 = .ok (.iconst 0, 1) := by decide +kernel
theorem dX10_text_68 : decode cX10_text 68 = .ok (.iaload, 1) := by decide +kernel
theorem dX10_text_69 : decode cX10_text 69 = .ok (.iconst 1, 1) := by decide +kernel
theorem dX10_text_70 : decode cX10_text 70 = .ok (.isub, 1) := by decide +kernel
theorem dX10_text_71 : decode cX10_text 71 = .ok (.ireturn, 1) := by decide +kernel
def f_X10_text (M : xm) (Lm : xn) : Option (Int32 × xm × xn) := (if (M 1 0) = (4 : Int32) then some ((-1 : Int32), M, Lm) else xb3 (f_X10_readText M Lm) (fun v3 M4 L5 => xlet (up2 M4 0 5 v3) (fun M7 => xlet (fun (w8 : Int32) => xlet (up2 M7 0 6 w8) (fun M10 => xlet (up2 M10 0 4 (0 : Int32)) (fun M11 => (if (M11 0 5) = 0 then xlet (up2 M11 1 0 ((M11 1 0) + (1 : Int32))) (fun M13 => some (((M13 1 0) - (1 : Int32)), M13, L5)) else some ((-1 : Int32), M11, L5))))) (fun k9 => (if (M7 0 5) = 0 then (k9 (-1 : Int32)) else (k9 (M7 0 8)))))))
set_option maxHeartbeats 4000000 in
set_option maxRecDepth 20000 in
theorem c_X10_text (l : Launch) (E : xE) (b : Nat) (M : xm) (Lm : xn) {r : Int32} {M' : xm} {L' : xn} (hf : f_X10_text M Lm = some (r, M', L')) :
    xMet l E b NY yX10_text cX10_text 1 (some .int) (xR 13) [.ref (b + 0)] (cY E b M Lm) (some (.int r)) True (cY E b M' L') := by
  refine xMet.ofW (own := RX10) (by decide) rfl (Nat.le_of_ble_eq_true rfl) ?_
  intro p e s m below meth c H locs ls C hm hl
  have hx := C.1.1
  have hb := C.1.2.1
  have hl : lv_has ls 1 [(0, .ref (b + 0))] := hl
  unfold f_X10_text at hf
  refine lv_aload_n hx hb dX10_text_0 rfl (lv_at hl 0 rfl) ?_
  refine x_get C hm inX10 rfl 0 (by decide) tf_RX10_7 cy_0 rfl dX10_text_1 ?_
  refine lv_iconst (v := (0 : Int32)) hx hb dX10_text_4 (by decide) ?_
  refine x_iald (j := 0) C hm cy_1 (by decide) dX10_text_5 (by decide) ?_
  refine lv_iconst (v := (4 : Int32)) hx hb dX10_text_6 (by decide) ?_
  refine lv_icmp_ne (tgt := 12) hx hb dX10_text_7 (by decide) (fun hc1 => ?_) (fun hc1 => ?_)
  rotate_left
  · have hf := xif_t hc1 hf
    refine lv_iconst (v := (-1 : Int32)) hx hb dX10_text_10 (by decide) ?_
    cases hf
    exact x_iret C hm trivial dX10_text_11
  have hf := xif_f hc1 hf
  refine lv_aload_n hx hb dX10_text_12 rfl (lv_at hl 0 rfl) ?_
  refine lv_aload_n hx hb dX10_text_13 rfl (lv_at hl 0 rfl) ?_
  obtain ⟨v3, M4, L5, hq2, hf⟩ := xb3_e hf
  refine x_callVi (As := []) (rest := [.ref (b + 0)]) C hm (c_X10_readText l E b M Lm hq2) rfl cy_0 tc_X10_readText tm_RX10_253 ti_X10_readText ts_X10_readText tn_RX10 td_X10_readText rfl rfl ⟨Nat.le_of_ble_eq_true rfl, Nat.le_of_ble_eq_true rfl⟩ rfl hl.1 rfl (Nat.le_of_ble_eq_true rfl) ⟨Nat.zero_le _, Nat.zero_le _⟩ dX10_text_14 (fun H locs hP6 hm => ?_)
  obtain ⟨M7, eM7, hf⟩ := xlet_x hf
  refine x_put (cf' := cY E b M7 L5) C hm inX10 tyX10 tyX10_ok nmX10 rfl 5 (by decide) tf_RX10_22 rfl rfl rfl cy_0 (Nat.le_of_ble_eq_true rfl) (by rw [eM7]; exact cyf_5) (by rw [eM7]; exact cY_o) dX10_text_17 (fun H locs hm => ?_)
  refine lv_aload_n hx hb dX10_text_20 rfl (lv_at hl 0 rfl) ?_
  refine lv_aload_n hx hb dX10_text_21 rfl (lv_at hl 0 rfl) ?_
  refine x_get C hm inX10 rfl 5 (by decide) tf_RX10_22 cy_0 rfl dX10_text_22 ?_
  obtain ⟨k9, ek9, hf⟩ := xlet_x hf
  have jk9 : ∀ (w8 : Int32) (H : Heap) (locs : List Loc) (ls : Array Slot), k9 w8 = some (r, M', L') → xM E b NY (cY E b M7 L5) s.heap H locs → lv_has ls 1 [(0, .ref (b + 0))] → W p l e (xR 13) s m ([.ref (b + 0)] : List Value).toArray below meth c H locs 0 0 (MQ below (xQ E b NY (some (.int r)) True (cY E b M' L')) ([.ref (b + 0)] : List Value).toArray s 0 0 (xA b NY)) (F0 m 36 ls [.int w8, .ref (b + 0)]) := by
    intro w8 H locs ls hf hm hl
    have hf := xap1 ek9 hf
    obtain ⟨M10, eM10, hf⟩ := xlet_x hf
    refine x_put (cf' := cY E b M10 L5) C hm inX10 tyX10 tyX10_ok nmX10 rfl 6 (by decide) tf_RX10_26 rfl rfl rfl cy_0 (Nat.le_of_ble_eq_true rfl) (by rw [eM10]; exact cyf_6) (by rw [eM10]; exact cY_o) dX10_text_36 (fun H locs hm => ?_)
    refine lv_aload_n hx hb dX10_text_39 rfl (lv_at hl 0 rfl) ?_
    refine lv_iconst (v := (0 : Int32)) hx hb dX10_text_40 (by decide) ?_
    obtain ⟨M11, eM11, hf⟩ := xlet_x hf
    refine x_put (cf' := cY E b M11 L5) C hm inX10 tyX10 tyX10_ok nmX10 rfl 4 (by decide) tf_RX10_83 rfl rfl rfl cy_0 (Nat.le_of_ble_eq_true rfl) (by rw [eM11]; exact cyf_4) (by rw [eM11]; exact cY_o) dX10_text_41 (fun H locs hm => ?_)
    refine lv_aload_n hx hb dX10_text_44 rfl (lv_at hl 0 rfl) ?_
    refine x_get C hm inX10 rfl 5 (by decide) tf_RX10_22 cy_0 rfl dX10_text_45 ?_
    refine lv_if_eq (tgt := 53) hx hb dX10_text_48 (by decide) (fun hc12 => ?_) (fun hc12 => ?_)
    rotate_left
    · have hf := xif_f hc12 hf
      refine lv_iconst (v := (-1 : Int32)) hx hb dX10_text_51 (by decide) ?_
      cases hf
      exact x_iret C hm trivial dX10_text_52
    have hf := xif_t hc12 hf
    refine lv_aload_n hx hb dX10_text_53 rfl (lv_at hl 0 rfl) ?_
    refine x_get C hm inX10 rfl 0 (by decide) tf_RX10_7 cy_0 rfl dX10_text_54 ?_
    refine lv_iconst (v := (0 : Int32)) hx hb dX10_text_57 (by decide) ?_
    refine lv_dup2_11 hx hb dX10_text_58 rfl rfl ?_
    refine x_iald (j := 0) C hm cy_1 (by decide) dX10_text_59 (by decide) ?_
    refine lv_iconst (v := (1 : Int32)) hx hb dX10_text_60 (by decide) ?_
    refine lv_iadd hx hb dX10_text_61 ?_
    obtain ⟨M13, eM13, hf⟩ := xlet_x hf
    refine x_iast (j := 0) (cf' := cY E b M13 L5) C hm cy_1 (by decide) dX10_text_62 (by decide) (by rw [eM13]; exact cyu_1) (by rw [eM13]; exact cY_o) (fun H locs hm => ?_)
    refine lv_aload_n hx hb dX10_text_63 rfl (lv_at hl 0 rfl) ?_
    refine x_get C hm inX10 rfl 0 (by decide) tf_RX10_7 cy_0 rfl dX10_text_64 ?_
    refine lv_iconst (v := (0 : Int32)) hx hb dX10_text_67 (by decide) ?_
    refine x_iald (j := 0) C hm cy_1 (by decide) dX10_text_68 (by decide) ?_
    refine lv_iconst (v := (1 : Int32)) hx hb dX10_text_69 (by decide) ?_
    refine lv_isub hx hb dX10_text_70 ?_
    cases hf
    exact x_iret C hm trivial dX10_text_71
  refine lv_if_ne (tgt := 32) hx hb dX10_text_25 (by decide) (fun hc14 => ?_) (fun hc14 => ?_)
  · have hf := xif_f hc14 hf
    refine lv_aload_n hx hb dX10_text_32 rfl (lv_at hl 0 rfl) ?_
    refine x_get C hm inX10 rfl 8 (by decide) tf_RX10_96 cy_0 rfl dX10_text_33 ?_
    exact jk9 (M7 0 8) H locs ls  hf hm (lv_sub hl [0] rfl)
  have hf := xif_t hc14 hf
  refine lv_iconst (v := (-1 : Int32)) hx hb dX10_text_28 (by decide) ?_
  refine lv_goto (tgt := 36) hx hb dX10_text_29 (by decide) ?_
  exact jk9 (-1 : Int32) H locs ls  hf hm (lv_sub hl [0] rfl)
/-! ColouredHeapModel.till()I -/
theorem dX10_till_0 : decode cX10_till 0 = .ok (.aload_n 0, 1) := by decide +kernel
theorem dX10_till_1 : decode cX10_till 1 = .ok (.invokevirtual 451, 3) := by decide +kernel
theorem dX10_till_4 : decode cX10_till 4 = .ok (.iconst 0, 1) := by decide +kernel
theorem dX10_till_5 : decode cX10_till 5 = .ok (.istore_n 1, 1) := by decide +kernel
theorem dX10_till_6 : decode cX10_till 6 = .ok (.iload_n 1, 1) := by decide +kernel
theorem dX10_till_7 : decode cX10_till 7 = .ok (.sipush 200, 3) := by decide +kernel
theorem dX10_till_10 : decode cX10_till 10 = .ok (.if_icmp .ge 23, 3) := by decide +kernel
theorem dX10_till_13 : decode cX10_till 13 = .ok (.aload_n 0, 1) := by decide +kernel
theorem dX10_till_14 : decode cX10_till 14 = .ok (.getfield 7, 3) := by decide +kernel
theorem dX10_till_17 : decode cX10_till 17 = .ok (.bipush 6, 2) := by decide +kernel
theorem dX10_till_19 : decode cX10_till 19 = .ok (.iaload, 1) := by decide +kernel
theorem dX10_till_20 : decode cX10_till 20 = .ok (.ifCond .eq 13, 3) := by decide +kernel
theorem dX10_till_23 : decode cX10_till 23 = .ok (.aload_n 0, 1) := by decide +kernel
theorem dX10_till_24 : decode cX10_till 24 = .ok (.invokevirtual 403, 3) := by decide +kernel
theorem dX10_till_27 : decode cX10_till 27 = .ok (.iinc 1 1, 3) := by decide +kernel
theorem dX10_till_30 : decode cX10_till 30 = .ok (.goto (-24), 3) := by decide +kernel
theorem dX10_till_33 : decode cX10_till 33 = .ok (.aload_n 0, 1) := by decide +kernel
theorem dX10_till_34 : decode cX10_till 34 = .ok (.getfield 7, 3) := by decide +kernel
theorem dX10_till_37 : decode cX10_till 37 = .ok (.bipush 6, 2) := by decide +kernel
theorem dX10_till_39 : decode cX10_till 39 = .ok (.iaload, 1) := by decide +kernel
theorem dX10_till_40 : decode cX10_till 40 = .ok (.ifCond .ne 7, 3) := by decide +kernel
theorem dX10_till_43 : decode cX10_till 43 = .ok (.iload_n 1, 1) := by decide +kernel
theorem dX10_till_44 : decode cX10_till 44 = .ok (.goto 4, 3) := by decide +kernel
theorem dX10_till_47 : decode cX10_till 47 = .ok (.iconst (-1), 1) := by decide +kernel
theorem dX10_till_48 : decode cX10_till 48 = .ok (.istore_n 2, 1) := by decide +kernel
theorem dX10_till_49 : decode cX10_till 49 = .ok (.aload_n 0, 1) := by decide +kernel
theorem dX10_till_50 : decode cX10_till 50 = .ok (.invokevirtual 454, 3) := by decide +kernel
theorem dX10_till_53 : decode cX10_till 53 = .ok (.iload_n 2, 1) := by decide +kernel
theorem dX10_till_54 : decode cX10_till 54 = .ok (.ireturn, 1) := by decide +kernel
def g_X10_till_6  : Nat → xm → xn → Int32 → Option ((Int32 × xm × xn))
  | 0, _, _, _ => none
  | n + 1, M5, L6, x4 => (if (200 : Int32) ≤ x4 then some ((x4, M5, L6)) else (if (M5 1 6) = 0 then some ((x4, M5, L6)) else xb2 (f_X10_tick M5 L6) (fun M13 L14 => xlet (x4 + (1 : Int32)) (fun v16 => g_X10_till_6 n M13 L14 v16))))
def f_X10_till (M : xm) (Lm : xn) : Option (Int32 × xm × xn) := xb1 (f_X10_putAside M) (fun M2 => xb3 (g_X10_till_6 xfuel M2 Lm (0 : Int32)) (fun v17 M18 L19 => xlet (fun (w20 : Int32) => xb1 (f_X10_bringBack M18) (fun M23 => some (w20, M23, L19))) (fun k21 => (if (M18 1 6) = 0 then (k21 v17) else (k21 (-1 : Int32))))))
set_option maxHeartbeats 4000000 in
set_option maxRecDepth 20000 in
theorem j_X10_till_6 {p : Program} {l : Launch} {e : Env} {s : State} {m : MethodId} {args : Array Value} {below : List Frame} {meth : Method} {c : Code} {Q : State → Prop} {E : xE} {b : Nat} (C : xC p s m args meth c cX10_till 3 RX10 (some .int) E b)  {y7 : Int32} {y8 : xm} {y9 : xn}
    (kx0 : ∀ (H : Heap) (locs : List Loc) (ls : Array Slot), xM E b NY (cY E b y8 y9) s.heap H locs → lv_has ls 3 [(0, .ref (b + 0)), (1, .int y7)] → W p l e (xR 10) s m args below meth c H locs 0 0 Q (F0 m 33 ls [])) :
    ∀ (n : Nat) (M5 : xm) (L6 : xn) (x4 : Int32) (H : Heap) (locs : List Loc) (ls : Array Slot), g_X10_till_6 n M5 L6 x4 = some (y7, y8, y9) → xM E b NY (cY E b M5 L6) s.heap H locs → lv_has ls 3 [(0, .ref (b + 0)), (1, .int x4)] → W p l e (xR 10) s m args below meth c H locs 0 0 Q (F0 m 6 ls []) := by
  have hx := C.1.1
  have hb := C.1.2.1
  intro n
  induction n with
  | zero =>
    intro M5 L6 x4 H locs ls hf hm hl
    rw [g_X10_till_6] at hf
    cases hf
  | succ n ih =>
    intro M5 L6 x4 H locs ls hf hm hl
    rw [g_X10_till_6] at hf
    refine lv_iload_n hx hb dX10_till_6 rfl (lv_at hl 1 rfl) ?_
    refine lv_sipush (v := (200 : Int32)) hx hb dX10_till_7 (by decide) ?_
    refine lv_icmp_ge (tgt := 33) hx hb dX10_till_10 (by decide) (fun hc10 => ?_) (fun hc10 => ?_)
    · have hf := xif_t hc10 hf
      cases hf
      exact kx0 H locs ls hm (lv_sub hl [0, 1] rfl)
    have hf := xif_f hc10 hf
    refine lv_aload_n hx hb dX10_till_13 rfl (lv_at hl 0 rfl) ?_
    refine x_get C hm inX10 rfl 0 (by decide) tf_RX10_7 cy_0 rfl dX10_till_14 ?_
    refine lv_bipush (v := (6 : Int32)) hx hb dX10_till_17 (by decide) ?_
    refine x_iald (j := 6) C hm cy_1 (by decide) dX10_till_19 (by decide) ?_
    refine lv_if_eq (tgt := 33) hx hb dX10_till_20 (by decide) (fun hc11 => ?_) (fun hc11 => ?_)
    · have hf := xif_t hc11 hf
      cases hf
      exact kx0 H locs ls hm (lv_sub hl [0, 1] rfl)
    have hf := xif_f hc11 hf
    refine lv_aload_n hx hb dX10_till_23 rfl (lv_at hl 0 rfl) ?_
    obtain ⟨M13, L14, hq12, hf⟩ := xb2_e hf
    refine x_callVv (As := []) (rest := []) C hm (c_X10_tick l E b M5 L6 hq12) rfl cy_0 tc_X10_tick tm_RX10_403 ti_X10_tick ts_X10_tick tn_RX10 td_X10_tick rfl rfl ⟨Nat.le_of_ble_eq_true rfl, Nat.le_of_ble_eq_true rfl⟩ rfl hl.1 rfl (Nat.le_of_ble_eq_true rfl) ⟨Nat.zero_le _, Nat.zero_le _⟩ dX10_till_24 (fun H locs hP15 hm => ?_)
    obtain ⟨v16, ev16, hf⟩ := xlet_x hf
    refine lv_iinc (v := v16) (lv' := [(1, .int v16), (0, .ref (b + 0))]) hx hb dX10_till_27 hl (k := 1) rfl (by rw [ev16]; rfl) (by decide) rfl (fun ls hl => ?_)
    refine lv_goto (tgt := 6) hx hb dX10_till_30 (by decide) ?_
    exact ih M13 L14 v16 H locs ls hf hm (lv_sub hl [1, 0] rfl)
set_option maxHeartbeats 4000000 in
set_option maxRecDepth 20000 in
theorem c_X10_till (l : Launch) (E : xE) (b : Nat) (M : xm) (Lm : xn) {r : Int32} {M' : xm} {L' : xn} (hf : f_X10_till M Lm = some (r, M', L')) :
    xMet l E b NY yX10_till cX10_till 3 (some .int) (xR 10) [.ref (b + 0)] (cY E b M Lm) (some (.int r)) True (cY E b M' L') := by
  refine xMet.ofW (own := RX10) (by decide) rfl (Nat.le_of_ble_eq_true rfl) ?_
  intro p e s m below meth c H locs ls C hm hl
  have hx := C.1.1
  have hb := C.1.2.1
  have hl : lv_has ls 3 [(0, .ref (b + 0))] := hl
  unfold f_X10_till at hf
  refine lv_aload_n hx hb dX10_till_0 rfl (lv_at hl 0 rfl) ?_
  obtain ⟨M2, hq1, hf⟩ := xb1_e hf
  refine x_callVv (As := []) (rest := []) C hm (c_X10_putAside l E b M Lm hq1) rfl cy_0 tc_X10_putAside tm_RX10_451 ti_X10_putAside ts_X10_putAside tn_RX10 td_X10_putAside rfl rfl ⟨Nat.le_of_ble_eq_true rfl, Nat.le_of_ble_eq_true rfl⟩ rfl hl.1 rfl (Nat.le_of_ble_eq_true rfl) ⟨Nat.zero_le _, Nat.zero_le _⟩ dX10_till_1 (fun H locs hP3 hm => ?_)
  refine lv_iconst (v := (0 : Int32)) hx hb dX10_till_4 (by decide) ?_
  refine lv_istore_n (lv' := [(1, .int (0 : Int32)), (0, .ref (b + 0))]) hx hb dX10_till_5 rfl hl (by decide) rfl (fun ls hl => ?_)
  obtain ⟨v17, M18, L19, hq, hf⟩ := xb3_e hf
  refine j_X10_till_6 C (fun H locs ls hm hl => ?_) xfuel M2 Lm (0 : Int32) H locs ls hq hm (lv_sub hl [1, 0] rfl)
  refine lv_aload_n hx hb dX10_till_33 rfl (lv_at hl 0 rfl) ?_
  refine x_get C hm inX10 rfl 0 (by decide) tf_RX10_7 cy_0 rfl dX10_till_34 ?_
  refine lv_bipush (v := (6 : Int32)) hx hb dX10_till_37 (by decide) ?_
  refine x_iald (j := 6) C hm cy_1 (by decide) dX10_till_39 (by decide) ?_
  obtain ⟨k21, ek21, hf⟩ := xlet_x hf
  have jk21 : ∀ (w20 : Int32) (H : Heap) (locs : List Loc) (ls : Array Slot), k21 w20 = some (r, M', L') → xM E b NY (cY E b M18 L19) s.heap H locs → lv_has ls 3 [(0, .ref (b + 0))] → W p l e (xR 10) s m ([.ref (b + 0)] : List Value).toArray below meth c H locs 0 0 (MQ below (xQ E b NY (some (.int r)) True (cY E b M' L')) ([.ref (b + 0)] : List Value).toArray s 0 0 (xA b NY)) (F0 m 48 ls [.int w20]) := by
    intro w20 H locs ls hf hm hl
    have hf := xap1 ek21 hf
    refine lv_istore_n (lv' := [(2, .int w20), (0, .ref (b + 0))]) hx hb dX10_till_48 rfl hl (by decide) rfl (fun ls hl => ?_)
    refine lv_aload_n hx hb dX10_till_49 rfl (lv_at hl 1 rfl) ?_
    obtain ⟨M23, hq22, hf⟩ := xb1_e hf
    refine x_callVv (As := []) (rest := []) C hm (c_X10_bringBack l E b M18 L19 hq22) rfl cy_0 tc_X10_bringBack tm_RX10_454 ti_X10_bringBack ts_X10_bringBack tn_RX10 td_X10_bringBack rfl rfl ⟨Nat.le_of_ble_eq_true rfl, Nat.le_of_ble_eq_true rfl⟩ rfl hl.1 rfl (Nat.le_of_ble_eq_true rfl) ⟨Nat.zero_le _, Nat.zero_le _⟩ dX10_till_50 (fun H locs hP24 hm => ?_)
    refine lv_iload_n hx hb dX10_till_53 rfl (lv_at hl 0 rfl) ?_
    cases hf
    exact x_iret C hm trivial dX10_till_54
  refine lv_if_ne (tgt := 47) hx hb dX10_till_40 (by decide) (fun hc25 => ?_) (fun hc25 => ?_)
  · have hf := xif_f hc25 hf
    refine lv_iconst (v := (-1 : Int32)) hx hb dX10_till_47 (by decide) ?_
    exact jk21 (-1 : Int32) H locs ls  hf hm (lv_sub hl [0] rfl)
  have hf := xif_t hc25 hf
  refine lv_iload_n hx hb dX10_till_43 rfl (lv_at hl 1 rfl) ?_
  refine lv_goto (tgt := 48) hx hb dX10_till_44 (by decide) ?_
  exact jk21 v17 H locs ls  hf hm (lv_sub hl [0] rfl)
/-! ColouredHeapModel.undo()I -/
theorem dX10_undo_0 : decode cX10_undo 0 = .ok (.aload_n 0, 1) := by decide +kernel
theorem dX10_undo_1 : decode cX10_undo 1 = .ok (.getfield 7, 3) := by decide +kernel
theorem dX10_undo_4 : decode cX10_undo 4 = .ok (.iconst 2, 1) := by decide +kernel
theorem dX10_undo_5 : decode cX10_undo 5 = .ok (.iaload, 1) := by decide +kernel
theorem dX10_undo_6 : decode cX10_undo 6 = .ok (.ifCond .ne 5, 3) := by decide +kernel
theorem dX10_undo_9 : decode cX10_undo 9 = .ok (.iconst (-1), 1) := by decide +kernel
theorem dX10_undo_10 : decode cX10_undo 10 = .ok (.ireturn, 1) := by decide +kernel
theorem dX10_undo_11 : decode cX10_undo 11 = .ok (.aload_n 0, 1) := by decide +kernel
theorem dX10_undo_12 : decode cX10_undo 12 = .ok (.getfield 7, 3) := by decide +kernel
theorem dX10_undo_15 : decode cX10_undo 15 = .ok (.iconst 2, 1) := by decide +kernel
theorem dX10_undo_16 : decode cX10_undo 16 = .ok (.dup2, 1) := by decide +kernel
theorem dX10_undo_17 : decode cX10_undo 17 = .ok (.iaload, 1) := by decide +kernel
theorem dX10_undo_18 : decode cX10_undo 18 = .ok (.iconst 1, 1) := by decide +kernel
theorem dX10_undo_19 : decode cX10_undo 19 = .ok (.isub, 1) := by decide +kernel
theorem dX10_undo_20 : decode cX10_undo 20 = .ok (.iastore, 1) := by decide +kernel
theorem dX10_undo_21 : decode cX10_undo 21 = .ok (.iconst 0, 1) := by decide +kernel
theorem dX10_undo_22 : decode cX10_undo 22 = .ok (.istore_n 1, 1) := by decide +kernel
theorem dX10_undo_23 : decode cX10_undo 23 = .ok (.iload_n 1, 1) := by decide +kernel
theorem dX10_undo_24 : decode cX10_undo 24 = .ok (.sipush 318, 3) := by decide +kernel
theorem dX10_undo_27 : decode cX10_undo 27 = .ok (.if_icmp .ge 38, 3) := by decide +kernel
theorem dX10_undo_30 : decode cX10_undo 30 = .ok (.aload_n 0, 1) := by decide +kernel
theorem dX10_undo_31 : decode cX10_undo 31 = .ok (.getfield 7, 3) := by decide +kernel
theorem dX10_undo_34 : decode cX10_undo 34 = .ok (.iconst 4, 1) := by decide +kernel
theorem dX10_undo_35 : decode cX10_undo 35 = .ok (.iload_n 1, 1) := by decide +kernel
theorem dX10_undo_36 : decode cX10_undo 36 = .ok (.iadd, 1) := by decide +kernel
theorem dX10_undo_37 : decode cX10_undo 37 = .ok (.aload_n 0, 1) := by decide +kernel
theorem dX10_undo_38 : decode cX10_undo 38 = .ok (.getfield 7, 3) := by decide +kernel
theorem dX10_undo_41 : decode cX10_undo 41 = .ok (.sipush 338, 3) := by decide +kernel
theorem dX10_undo_44 : decode cX10_undo 44 = .ok (.sipush 318, 3) := by decide +kernel
theorem dX10_undo_47 : decode cX10_undo 47 = .ok (.aload_n 0, 1) := by decide +kernel
theorem dX10_undo_48 : decode cX10_undo 48 = .ok (.getfield 7, 3) := by decide +kernel
theorem dX10_undo_51 : decode cX10_undo 51 = .ok (.iconst 2, 1) := by decide +kernel
theorem dX10_undo_52 : decode cX10_undo 52 = .ok (.iaload, 1) := by decide +kernel
theorem dX10_undo_53 : decode cX10_undo 53 = .ok (.imul, 1) := by decide +kernel
theorem dX10_undo_54 : decode cX10_undo 54 = .ok (.iadd, 1) := by decide +kernel
theorem dX10_undo_55 : decode cX10_undo 55 = .ok (.iload_n 1, 1) := by decide +kernel
theorem dX10_undo_56 : decode cX10_undo 56 = .ok (.iadd, 1) := by decide +kernel
theorem dX10_undo_57 : decode cX10_undo 57 = .ok (.iaload, 1) := by decide +kernel
theorem dX10_undo_58 : decode cX10_undo 58 = .ok (.iastore, 1) := by decide +kernel
theorem dX10_undo_59 : decode cX10_undo 59 = .ok (.iinc 1 1, 3) := by decide +kernel
theorem dX10_undo_62 : decode cX10_undo 62 = .ok (.goto (-39), 3) := by decide +kernel
theorem dX10_undo_65 : decode cX10_undo 65 = .ok (.aload_n 0, 1) := by decide +kernel
theorem dX10_undo_66 : decode cX10_undo 66 = .ok (.getfield 7, 3) := by decide +kernel
theorem dX10_undo_69 : decode cX10_undo 69 = .ok (.iconst 2, 1) := by decide +kernel
theorem dX10_undo_70 : decode cX10_undo 70 = .ok (.iaload, 1) := by decide +kernel
theorem dX10_undo_71 : decode cX10_undo 71 = .ok (.ireturn, 1) := by decide +kernel
def g_X10_undo_23  : Nat → xm → Int32 → Option ((xm))
  | 0, _, _ => none
  | n + 1, M4, x3 => (if (318 : Int32) ≤ x3 then some (M4) else if xin (((338 : Int32) + ((318 : Int32) * (M4 1 2))) + x3) 9878 = true then if xin ((4 : Int32) + x3) 9878 = true then xlet (up2 M4 1 (Int32.toNatClampNeg ((4 : Int32) + x3)) (M4 1 (Int32.toNatClampNeg (((338 : Int32) + ((318 : Int32) * (M4 1 2))) + x3)))) (fun M9 => xlet (x3 + (1 : Int32)) (fun v10 => g_X10_undo_23 n M9 v10)) else none else none)
def f_X10_undo (M : xm) : Option (Int32 × xm) := (if (M 1 2) = 0 then some ((-1 : Int32), M) else xlet (up2 M 1 2 ((M 1 2) - (1 : Int32))) (fun M2 => xb1 (g_X10_undo_23 xfuel M2 (0 : Int32)) (fun M11 => some ((M11 1 2), M11))))
set_option maxHeartbeats 4000000 in
set_option maxRecDepth 20000 in
theorem j_X10_undo_23 {p : Program} {l : Launch} {e : Env} {s : State} {m : MethodId} {args : Array Value} {below : List Frame} {meth : Method} {c : Code} {Q : State → Prop} {E : xE} {b : Nat} (C : xC p s m args meth c cX10_undo 2 RX10 (some .int) E b) {Lm : xn} {y5 : xm}
    (kx0 : ∀ (H : Heap) (locs : List Loc) (ls : Array Slot), xM E b NY (cY E b y5 Lm) s.heap H locs → lv_has ls 2 [(0, .ref (b + 0))] → W p l e (xR 1) s m args below meth c H locs 0 0 Q (F0 m 65 ls [])) :
    ∀ (n : Nat) (M4 : xm) (x3 : Int32) (H : Heap) (locs : List Loc) (ls : Array Slot), g_X10_undo_23 n M4 x3 = some y5 → xM E b NY (cY E b M4 Lm) s.heap H locs → lv_has ls 2 [(0, .ref (b + 0)), (1, .int x3)] → W p l e (xR 1) s m args below meth c H locs 0 0 Q (F0 m 23 ls []) := by
  have hx := C.1.1
  have hb := C.1.2.1
  intro n
  induction n with
  | zero =>
    intro M4 x3 H locs ls hf hm hl
    rw [g_X10_undo_23] at hf
    cases hf
  | succ n ih =>
    intro M4 x3 H locs ls hf hm hl
    rw [g_X10_undo_23] at hf
    refine lv_iload_n hx hb dX10_undo_23 rfl (lv_at hl 1 rfl) ?_
    refine lv_sipush (v := (318 : Int32)) hx hb dX10_undo_24 (by decide) ?_
    refine lv_icmp_ge (tgt := 65) hx hb dX10_undo_27 (by decide) (fun hc6 => ?_) (fun hc6 => ?_)
    · have hf := xif_t hc6 hf
      cases hf
      exact kx0 H locs ls hm (lv_sub hl [0] rfl)
    have hf := xif_f hc6 hf
    refine lv_aload_n hx hb dX10_undo_30 rfl (lv_at hl 0 rfl) ?_
    refine x_get C hm inX10 rfl 0 (by decide) tf_RX10_7 cy_0 rfl dX10_undo_31 ?_
    refine lv_iconst (v := (4 : Int32)) hx hb dX10_undo_34 (by decide) ?_
    refine lv_iload_n hx hb dX10_undo_35 rfl (lv_at hl 1 rfl) ?_
    refine lv_iadd hx hb dX10_undo_36 ?_
    refine lv_aload_n hx hb dX10_undo_37 rfl (lv_at hl 0 rfl) ?_
    refine x_get C hm inX10 rfl 0 (by decide) tf_RX10_7 cy_0 rfl dX10_undo_38 ?_
    refine lv_sipush (v := (338 : Int32)) hx hb dX10_undo_41 (by decide) ?_
    refine lv_sipush (v := (318 : Int32)) hx hb dX10_undo_44 (by decide) ?_
    refine lv_aload_n hx hb dX10_undo_47 rfl (lv_at hl 0 rfl) ?_
    refine x_get C hm inX10 rfl 0 (by decide) tf_RX10_7 cy_0 rfl dX10_undo_48 ?_
    refine lv_iconst (v := (2 : Int32)) hx hb dX10_undo_51 (by decide) ?_
    refine x_iald (j := 2) C hm cy_1 (by decide) dX10_undo_52 (by decide) ?_
    refine lv_imul hx hb dX10_undo_53 ?_
    refine lv_iadd hx hb dX10_undo_54 ?_
    refine lv_iload_n hx hb dX10_undo_55 rfl (lv_at hl 1 rfl) ?_
    refine lv_iadd hx hb dX10_undo_56 ?_
    obtain ⟨hi7, hf⟩ := xif_s hf
    refine x_iald (j := (Int32.toNatClampNeg (((338 : Int32) + ((318 : Int32) * (M4 1 2))) + x3))) C hm cy_1 hi7 dX10_undo_57 rfl ?_
    obtain ⟨hi8, hf⟩ := xif_s hf
    obtain ⟨M9, eM9, hf⟩ := xlet_x hf
    refine x_iast (j := (Int32.toNatClampNeg ((4 : Int32) + x3))) (cf' := cY E b M9 Lm) C hm cy_1 hi8 dX10_undo_58 rfl (by rw [eM9]; exact cyu_1) (by rw [eM9]; exact cY_o) (fun H locs hm => ?_)
    obtain ⟨v10, ev10, hf⟩ := xlet_x hf
    refine lv_iinc (v := v10) (lv' := [(1, .int v10), (0, .ref (b + 0))]) hx hb dX10_undo_59 hl (k := 1) rfl (by rw [ev10]; rfl) (by decide) rfl (fun ls hl => ?_)
    refine lv_goto (tgt := 23) hx hb dX10_undo_62 (by decide) ?_
    exact ih M9 v10 H locs ls hf hm (lv_sub hl [1, 0] rfl)
set_option maxHeartbeats 4000000 in
set_option maxRecDepth 20000 in
theorem c_X10_undo (l : Launch) (E : xE) (b : Nat) (M : xm) (Lm : xn) {r : Int32} {M' : xm} (hf : f_X10_undo M = some (r, M')) :
    xMet l E b NY yX10_undo cX10_undo 2 (some .int) (xR 1) [.ref (b + 0)] (cY E b M Lm) (some (.int r)) True (cY E b M' Lm) := by
  refine xMet.ofW (own := RX10) (by decide) rfl (Nat.le_of_ble_eq_true rfl) ?_
  intro p e s m below meth c H locs ls C hm hl
  have hx := C.1.1
  have hb := C.1.2.1
  have hl : lv_has ls 2 [(0, .ref (b + 0))] := hl
  unfold f_X10_undo at hf
  refine lv_aload_n hx hb dX10_undo_0 rfl (lv_at hl 0 rfl) ?_
  refine x_get C hm inX10 rfl 0 (by decide) tf_RX10_7 cy_0 rfl dX10_undo_1 ?_
  refine lv_iconst (v := (2 : Int32)) hx hb dX10_undo_4 (by decide) ?_
  refine x_iald (j := 2) C hm cy_1 (by decide) dX10_undo_5 (by decide) ?_
  refine lv_if_ne (tgt := 11) hx hb dX10_undo_6 (by decide) (fun hc1 => ?_) (fun hc1 => ?_)
  rotate_left
  · have hf := xif_t hc1 hf
    refine lv_iconst (v := (-1 : Int32)) hx hb dX10_undo_9 (by decide) ?_
    cases hf
    exact x_iret C hm trivial dX10_undo_10
  have hf := xif_f hc1 hf
  refine lv_aload_n hx hb dX10_undo_11 rfl (lv_at hl 0 rfl) ?_
  refine x_get C hm inX10 rfl 0 (by decide) tf_RX10_7 cy_0 rfl dX10_undo_12 ?_
  refine lv_iconst (v := (2 : Int32)) hx hb dX10_undo_15 (by decide) ?_
  refine lv_dup2_11 hx hb dX10_undo_16 rfl rfl ?_
  refine x_iald (j := 2) C hm cy_1 (by decide) dX10_undo_17 (by decide) ?_
  refine lv_iconst (v := (1 : Int32)) hx hb dX10_undo_18 (by decide) ?_
  refine lv_isub hx hb dX10_undo_19 ?_
  obtain ⟨M2, eM2, hf⟩ := xlet_x hf
  refine x_iast (j := 2) (cf' := cY E b M2 Lm) C hm cy_1 (by decide) dX10_undo_20 (by decide) (by rw [eM2]; exact cyu_1) (by rw [eM2]; exact cY_o) (fun H locs hm => ?_)
  refine lv_iconst (v := (0 : Int32)) hx hb dX10_undo_21 (by decide) ?_
  refine lv_istore_n (lv' := [(1, .int (0 : Int32)), (0, .ref (b + 0))]) hx hb dX10_undo_22 rfl hl (by decide) rfl (fun ls hl => ?_)
  obtain ⟨M11, hq, hf⟩ := xb1_e hf
  refine j_X10_undo_23 C (fun H locs ls hm hl => ?_) xfuel M2 (0 : Int32) H locs ls hq hm (lv_sub hl [1, 0] rfl)
  refine lv_aload_n hx hb dX10_undo_65 rfl (lv_at hl 0 rfl) ?_
  refine x_get C hm inX10 rfl 0 (by decide) tf_RX10_7 cy_0 rfl dX10_undo_66 ?_
  refine lv_iconst (v := (2 : Int32)) hx hb dX10_undo_69 (by decide) ?_
  refine x_iald (j := 2) C hm cy_1 (by decide) dX10_undo_70 (by decide) ?_
  cases hf
  exact x_iret C hm trivial dX10_undo_71
/-! ColouredHeapModel.whose()I -/
theorem dX10_whose_0 : decode cX10_whose 0 = .ok (.iconst 0, 1) := by decide +kernel
theorem dX10_whose_1 : decode cX10_whose 1 = .ok (.istore_n 1, 1) := by decide +kernel
theorem dX10_whose_2 : decode cX10_whose 2 = .ok (.iconst 0, 1) := by decide +kernel
theorem dX10_whose_3 : decode cX10_whose 3 = .ok (.istore_n 2, 1) := by decide +kernel
theorem dX10_whose_4 : decode cX10_whose 4 = .ok (.iload_n 2, 1) := by decide +kernel
theorem dX10_whose_5 : decode cX10_whose 5 = .ok (.aload_n 0, 1) := by decide +kernel
theorem dX10_whose_6 : decode cX10_whose 6 = .ok (.getfield 7, 3) := by decide +kernel
theorem dX10_whose_9 : decode cX10_whose 9 = .ok (.iconst 0, 1) := by decide +kernel
theorem dX10_whose_10 : decode cX10_whose 10 = .ok (.iaload, 1) := by decide +kernel
theorem dX10_whose_11 : decode cX10_whose 11 = .ok (.if_icmp .ge 96, 3) := by decide +kernel
theorem dX10_whose_14 : decode cX10_whose 14 = .ok (.iconst 1, 1) := by decide +kernel
theorem dX10_whose_15 : decode cX10_whose 15 = .ok (.istore_n 3, 1) := by decide +kernel
theorem dX10_whose_16 : decode cX10_whose 16 = .ok (.sipush 322, 3) := by decide +kernel
theorem dX10_whose_19 : decode cX10_whose 19 = .ok (.istore 4, 2) := by decide +kernel
theorem dX10_whose_21 : decode cX10_whose 21 = .ok (.iload 4, 2) := by decide +kernel
theorem dX10_whose_23 : decode cX10_whose 23 = .ok (.sipush 322, 3) := by decide +kernel
theorem dX10_whose_26 : decode cX10_whose 26 = .ok (.iconst 2, 1) := by decide +kernel
theorem dX10_whose_27 : decode cX10_whose 27 = .ok (.aload_n 0, 1) := by decide +kernel
theorem dX10_whose_28 : decode cX10_whose 28 = .ok (.getfield 7, 3) := by decide +kernel
theorem dX10_whose_31 : decode cX10_whose 31 = .ok (.iconst 3, 1) := by decide +kernel
theorem dX10_whose_32 : decode cX10_whose 32 = .ok (.iaload, 1) := by decide +kernel
theorem dX10_whose_33 : decode cX10_whose 33 = .ok (.imul, 1) := by decide +kernel
theorem dX10_whose_34 : decode cX10_whose 34 = .ok (.iadd, 1) := by decide +kernel
theorem dX10_whose_35 : decode cX10_whose 35 = .ok (.if_icmp .ge 52, 3) := by decide +kernel
theorem dX10_whose_38 : decode cX10_whose 38 = .ok (.iload_n 3, 1) := by decide +kernel
theorem dX10_whose_39 : decode cX10_whose 39 = .ok (.ifCond .eq 40, 3) := by decide +kernel
theorem dX10_whose_42 : decode cX10_whose 42 = .ok (.aload_n 0, 1) := by decide +kernel
theorem dX10_whose_43 : decode cX10_whose 43 = .ok (.iload_n 2, 1) := by decide +kernel
theorem dX10_whose_44 : decode cX10_whose 44 = .ok (.aload_n 0, 1) := by decide +kernel
theorem dX10_whose_45 : decode cX10_whose 45 = .ok (.getfield 7, 3) := by decide +kernel
theorem dX10_whose_48 : decode cX10_whose 48 = .ok (.iload 4, 2) := by decide +kernel
theorem dX10_whose_50 : decode cX10_whose 50 = .ok (.iaload, 1) := by decide +kernel
theorem dX10_whose_51 : decode cX10_whose 51 = .ok (.invokevirtual 370, 3) := by decide +kernel
theorem dX10_whose_54 : decode cX10_whose 54 = .ok (.aload_n 0, 1) := by decide +kernel
theorem dX10_whose_55 : decode cX10_whose 55 = .ok (.getfield 7, 3) := by decide +kernel
theorem dX10_whose_58 : decode cX10_whose 58 = .ok (.iload 4, 2) := by decide +kernel
theorem dX10_whose_60 : decode cX10_whose 60 = .ok (.iconst 1, 1) := by decide +kernel
theorem dX10_whose_61 : decode cX10_whose 61 = .ok (.iadd, 1) := by decide +kernel
theorem dX10_whose_62 : decode cX10_whose 62 = .ok (.iaload, 1) := by decide +kernel
theorem dX10_whose_63 : decode cX10_whose 63 = .ok (.iconst 1, 1) := by decide +kernel
theorem dX10_whose_64 : decode cX10_whose 64 = .ok (.if_icmp .ne 7, 3) := by decide +kernel
theorem dX10_whose_67 : decode cX10_whose 67 = .ok (.iconst 1, 1) := by decide +kernel
theorem dX10_whose_68 : decode cX10_whose 68 = .ok (.goto 4, 3) := by decide +kernel
theorem dX10_whose_71 : decode cX10_whose 71 = .ok (.iconst 0, 1) := by decide +kernel
theorem dX10_whose_72 : decode cX10_whose 72 = .ok (.if_icmp .ne 7, 3) := by decide +kernel
theorem dX10_whose_75 : decode cX10_whose 75 = .ok (.iconst 1, 1) := by decide +kernel
theorem dX10_whose_76 : decode cX10_whose 76 = .ok (.goto 4, 3) := by decide +kernel
theorem dX10_whose_79 : decode cX10_whose 79 = .ok (.iconst 0, 1) := by decide +kernel
theorem dX10_whose_80 : decode cX10_whose 80 = .ok (.istore_n 3, 1) := by decide +kernel
theorem dX10_whose_81 : decode cX10_whose 81 = .ok (.iinc 4 2, 3) := by decide +kernel
theorem dX10_whose_84 : decode cX10_whose 84 = .ok (.goto (-63), 3) := by decide +kernel
theorem dX10_whose_87 : decode cX10_whose 87 = .ok (.iload_n 1, 1) := by decide +kernel
theorem dX10_whose_88 : decode cX10_whose 88 = .ok (.iload_n 3, 1) := by decide +kernel
theorem dX10_whose_89 : decode cX10_whose 89 = .ok (.ifCond .eq 9, 3) := by decide +kernel
theorem dX10_whose_92 : decode cX10_whose 92 = .ok (.iconst 1, 1) := by decide +kernel
theorem dX10_whose_93 : decode cX10_whose 93 = .ok (.iload_n 2, 1) := by decide +kernel
theorem dX10_whose_94 : decode cX10_whose 94 = .ok (.ishl, 1) := by decide +kernel
theorem dX10_whose_95 : decode cX10_whose 95 = .ok (.goto 4, 3) := by decide +kernel
theorem dX10_whose_98 : decode cX10_whose 98 = .ok (.iconst 0, 1) := by decide +kernel
theorem dX10_whose_99 : decode cX10_whose 99 = .ok (.ior, 1) := by decide +kernel
theorem dX10_whose_100 : decode cX10_whose 100 = .ok (.istore_n 1, 1) := by decide +kernel
theorem dX10_whose_101 : decode cX10_whose 101 = .ok (.iinc 2 1, 3) := by decide +kernel
theorem dX10_whose_104 : decode cX10_whose 104 = .ok (.goto (-100), 3) := by decide +kernel
theorem dX10_whose_107 : decode cX10_whose 107 = .ok (.iload_n 1, 1) := by decide +kernel
theorem dX10_whose_108 : decode cX10_whose 108 = .ok (.ireturn, 1) := by decide +kernel
def g_X10_whose_21 (x9 : Int32) (x10 : Int32) : Nat → xm → xn → Int32 → Int32 → Option ((Int32 × xm × xn))
  | 0, _, _, _, _ => none
  | n + 1, M13, L14, x11, x12 => (if ((322 : Int32) + ((2 : Int32) * (M13 1 3))) ≤ x12 then some ((x11, M13, L14)) else (if x11 = 0 then xlet (x12 + (2 : Int32)) (fun v20 => g_X10_whose_21 x9 x10 n M13 L14 (0 : Int32) v20) else if xin x12 9878 = true then xb3 (f_X10_doesPick M13 L14 x10 (M13 1 (Int32.toNatClampNeg x12))) (fun v23 M24 L25 => if xin (x12 + (1 : Int32)) 9878 = true then (if (M24 1 (Int32.toNatClampNeg (x12 + (1 : Int32)))) = (1 : Int32) then (if v23 = (1 : Int32) then xlet (x12 + (2 : Int32)) (fun v34 => g_X10_whose_21 x9 x10 n M24 L25 (1 : Int32) v34) else xlet (x12 + (2 : Int32)) (fun v33 => g_X10_whose_21 x9 x10 n M24 L25 (0 : Int32) v33)) else (if v23 = (0 : Int32) then xlet (x12 + (2 : Int32)) (fun v31 => g_X10_whose_21 x9 x10 n M24 L25 (1 : Int32) v31) else xlet (x12 + (2 : Int32)) (fun v30 => g_X10_whose_21 x9 x10 n M24 L25 (0 : Int32) v30))) else none) else none))
def g_X10_whose_4  : Nat → xm → xn → Int32 → Int32 → Option ((Int32 × xm × xn))
  | 0, _, _, _, _ => none
  | n + 1, M3, L4, x1, x2 => (if (M3 1 0) ≤ x2 then some ((x1, M3, L4)) else xb3 (g_X10_whose_21 x1 x2 xfuel M3 L4 (1 : Int32) (322 : Int32)) (fun v35 M36 L37 => (if v35 = 0 then xlet (x1 ||| (0 : Int32)) (fun v39 => xlet (x2 + (1 : Int32)) (fun v40 => g_X10_whose_4 n M36 L37 v39 v40)) else xlet (x1 ||| ((1 : Int32) <<< (x2 &&& 31))) (fun v41 => xlet (x2 + (1 : Int32)) (fun v42 => g_X10_whose_4 n M36 L37 v41 v42)))))
def f_X10_whose (M : xm) (Lm : xn) : Option (Int32 × xm × xn) := xb3 (g_X10_whose_4 xfuel M Lm (0 : Int32) (0 : Int32)) (fun v43 M44 L45 => some (v43, M44, L45))
set_option maxHeartbeats 4000000 in
set_option maxRecDepth 20000 in
theorem j_X10_whose_21 {p : Program} {l : Launch} {e : Env} {s : State} {m : MethodId} {args : Array Value} {below : List Frame} {meth : Method} {c : Code} {Q : State → Prop} {E : xE} {b : Nat} (C : xC p s m args meth c cX10_whose 5 RX10 (some .int) E b) (x9 : Int32) (x10 : Int32) {y15 : Int32} {y16 : xm} {y17 : xn}
    (kx0 : ∀ (H : Heap) (locs : List Loc) (ls : Array Slot), xM E b NY (cY E b y16 y17) s.heap H locs → lv_has ls 5 [(0, .ref (b + 0)), (1, .int x9), (2, .int x10), (3, .int y15)] → W p l e (xR 8) s m args below meth c H locs 0 0 Q (F0 m 87 ls [])) :
    ∀ (n : Nat) (M13 : xm) (L14 : xn) (x11 : Int32) (x12 : Int32) (H : Heap) (locs : List Loc) (ls : Array Slot), g_X10_whose_21 x9 x10 n M13 L14 x11 x12 = some (y15, y16, y17) → xM E b NY (cY E b M13 L14) s.heap H locs → lv_has ls 5 [(0, .ref (b + 0)), (1, .int x9), (2, .int x10), (3, .int x11), (4, .int x12)] → W p l e (xR 8) s m args below meth c H locs 0 0 Q (F0 m 21 ls []) := by
  have hx := C.1.1
  have hb := C.1.2.1
  intro n
  induction n with
  | zero =>
    intro M13 L14 x11 x12 H locs ls hf hm hl
    rw [g_X10_whose_21] at hf
    cases hf
  | succ n ih =>
    intro M13 L14 x11 x12 H locs ls hf hm hl
    rw [g_X10_whose_21] at hf
    refine lv_iload hx hb dX10_whose_21 (lv_at hl 4 rfl) ?_
    refine lv_sipush (v := (322 : Int32)) hx hb dX10_whose_23 (by decide) ?_
    refine lv_iconst (v := (2 : Int32)) hx hb dX10_whose_26 (by decide) ?_
    refine lv_aload_n hx hb dX10_whose_27 rfl (lv_at hl 0 rfl) ?_
    refine x_get C hm inX10 rfl 0 (by decide) tf_RX10_7 cy_0 rfl dX10_whose_28 ?_
    refine lv_iconst (v := (3 : Int32)) hx hb dX10_whose_31 (by decide) ?_
    refine x_iald (j := 3) C hm cy_1 (by decide) dX10_whose_32 (by decide) ?_
    refine lv_imul hx hb dX10_whose_33 ?_
    refine lv_iadd hx hb dX10_whose_34 ?_
    refine lv_icmp_ge (tgt := 87) hx hb dX10_whose_35 (by decide) (fun hc18 => ?_) (fun hc18 => ?_)
    · have hf := xif_t hc18 hf
      cases hf
      exact kx0 H locs ls hm (lv_sub hl [0, 1, 2, 3] rfl)
    have hf := xif_f hc18 hf
    refine lv_iload_n hx hb dX10_whose_38 rfl (lv_at hl 3 rfl) ?_
    refine lv_if_eq (tgt := 79) hx hb dX10_whose_39 (by decide) (fun hc19 => ?_) (fun hc19 => ?_)
    · have hf := xif_t hc19 hf
      refine lv_iconst (v := (0 : Int32)) hx hb dX10_whose_79 (by decide) ?_
      refine lv_istore_n (lv' := [(3, .int (0 : Int32)), (0, .ref (b + 0)), (1, .int x9), (2, .int x10), (4, .int x12)]) hx hb dX10_whose_80 rfl hl (by decide) rfl (fun ls hl => ?_)
      obtain ⟨v20, ev20, hf⟩ := xlet_x hf
      refine lv_iinc (v := v20) (lv' := [(4, .int v20), (3, .int (0 : Int32)), (0, .ref (b + 0)), (1, .int x9), (2, .int x10)]) hx hb dX10_whose_81 hl (k := 4) rfl (by rw [ev20]; rfl) (by decide) rfl (fun ls hl => ?_)
      refine lv_goto (tgt := 21) hx hb dX10_whose_84 (by decide) ?_
      exact ih M13 L14 (0 : Int32) v20 H locs ls hf hm (lv_sub hl [2, 3, 4, 1, 0] rfl)
    have hf := xif_f hc19 hf
    refine lv_aload_n hx hb dX10_whose_42 rfl (lv_at hl 0 rfl) ?_
    refine lv_iload_n hx hb dX10_whose_43 rfl (lv_at hl 2 rfl) ?_
    refine lv_aload_n hx hb dX10_whose_44 rfl (lv_at hl 0 rfl) ?_
    refine x_get C hm inX10 rfl 0 (by decide) tf_RX10_7 cy_0 rfl dX10_whose_45 ?_
    refine lv_iload hx hb dX10_whose_48 (lv_at hl 4 rfl) ?_
    obtain ⟨hi21, hf⟩ := xif_s hf
    refine x_iald (j := (Int32.toNatClampNeg x12)) C hm cy_1 hi21 dX10_whose_50 rfl ?_
    obtain ⟨v23, M24, L25, hq22, hf⟩ := xb3_e hf
    refine x_callVi (As := [.int x10, .int (M13 1 (Int32.toNatClampNeg x12))]) (rest := []) C hm (c_X10_doesPick l E b M13 L14 x10 (M13 1 (Int32.toNatClampNeg x12)) hq22) rfl cy_0 tc_X10_doesPick tm_RX10_370 ti_X10_doesPick ts_X10_doesPick tn_RX10 td_X10_doesPick rfl rfl ⟨Nat.le_of_ble_eq_true rfl, Nat.le_of_ble_eq_true rfl⟩ rfl hl.1 rfl (Nat.le_of_ble_eq_true rfl) ⟨Nat.zero_le _, Nat.zero_le _⟩ dX10_whose_51 (fun H locs hP26 hm => ?_)
    refine lv_aload_n hx hb dX10_whose_54 rfl (lv_at hl 0 rfl) ?_
    refine x_get C hm inX10 rfl 0 (by decide) tf_RX10_7 cy_0 rfl dX10_whose_55 ?_
    refine lv_iload hx hb dX10_whose_58 (lv_at hl 4 rfl) ?_
    refine lv_iconst (v := (1 : Int32)) hx hb dX10_whose_60 (by decide) ?_
    refine lv_iadd hx hb dX10_whose_61 ?_
    obtain ⟨hi27, hf⟩ := xif_s hf
    refine x_iald (j := (Int32.toNatClampNeg (x12 + (1 : Int32)))) C hm cy_1 hi27 dX10_whose_62 rfl ?_
    refine lv_iconst (v := (1 : Int32)) hx hb dX10_whose_63 (by decide) ?_
    refine lv_icmp_ne (tgt := 71) hx hb dX10_whose_64 (by decide) (fun hc28 => ?_) (fun hc28 => ?_)
    · have hf := xif_f hc28 hf
      refine lv_iconst (v := (0 : Int32)) hx hb dX10_whose_71 (by decide) ?_
      refine lv_icmp_ne (tgt := 79) hx hb dX10_whose_72 (by decide) (fun hc29 => ?_) (fun hc29 => ?_)
      · have hf := xif_f hc29 hf
        refine lv_iconst (v := (0 : Int32)) hx hb dX10_whose_79 (by decide) ?_
        refine lv_istore_n (lv' := [(3, .int (0 : Int32)), (0, .ref (b + 0)), (1, .int x9), (2, .int x10), (4, .int x12)]) hx hb dX10_whose_80 rfl hl (by decide) rfl (fun ls hl => ?_)
        obtain ⟨v30, ev30, hf⟩ := xlet_x hf
        refine lv_iinc (v := v30) (lv' := [(4, .int v30), (3, .int (0 : Int32)), (0, .ref (b + 0)), (1, .int x9), (2, .int x10)]) hx hb dX10_whose_81 hl (k := 4) rfl (by rw [ev30]; rfl) (by decide) rfl (fun ls hl => ?_)
        refine lv_goto (tgt := 21) hx hb dX10_whose_84 (by decide) ?_
        exact ih M24 L25 (0 : Int32) v30 H locs ls hf hm (lv_sub hl [2, 3, 4, 1, 0] rfl)
      have hf := xif_t hc29 hf
      refine lv_iconst (v := (1 : Int32)) hx hb dX10_whose_75 (by decide) ?_
      refine lv_goto (tgt := 80) hx hb dX10_whose_76 (by decide) ?_
      refine lv_istore_n (lv' := [(3, .int (1 : Int32)), (0, .ref (b + 0)), (1, .int x9), (2, .int x10), (4, .int x12)]) hx hb dX10_whose_80 rfl hl (by decide) rfl (fun ls hl => ?_)
      obtain ⟨v31, ev31, hf⟩ := xlet_x hf
      refine lv_iinc (v := v31) (lv' := [(4, .int v31), (3, .int (1 : Int32)), (0, .ref (b + 0)), (1, .int x9), (2, .int x10)]) hx hb dX10_whose_81 hl (k := 4) rfl (by rw [ev31]; rfl) (by decide) rfl (fun ls hl => ?_)
      refine lv_goto (tgt := 21) hx hb dX10_whose_84 (by decide) ?_
      exact ih M24 L25 (1 : Int32) v31 H locs ls hf hm (lv_sub hl [2, 3, 4, 1, 0] rfl)
    have hf := xif_t hc28 hf
    refine lv_iconst (v := (1 : Int32)) hx hb dX10_whose_67 (by decide) ?_
    refine lv_goto (tgt := 72) hx hb dX10_whose_68 (by decide) ?_
    refine lv_icmp_ne (tgt := 79) hx hb dX10_whose_72 (by decide) (fun hc32 => ?_) (fun hc32 => ?_)
    · have hf := xif_f hc32 hf
      refine lv_iconst (v := (0 : Int32)) hx hb dX10_whose_79 (by decide) ?_
      refine lv_istore_n (lv' := [(3, .int (0 : Int32)), (0, .ref (b + 0)), (1, .int x9), (2, .int x10), (4, .int x12)]) hx hb dX10_whose_80 rfl hl (by decide) rfl (fun ls hl => ?_)
      obtain ⟨v33, ev33, hf⟩ := xlet_x hf
      refine lv_iinc (v := v33) (lv' := [(4, .int v33), (3, .int (0 : Int32)), (0, .ref (b + 0)), (1, .int x9), (2, .int x10)]) hx hb dX10_whose_81 hl (k := 4) rfl (by rw [ev33]; rfl) (by decide) rfl (fun ls hl => ?_)
      refine lv_goto (tgt := 21) hx hb dX10_whose_84 (by decide) ?_
      exact ih M24 L25 (0 : Int32) v33 H locs ls hf hm (lv_sub hl [2, 3, 4, 1, 0] rfl)
    have hf := xif_t hc32 hf
    refine lv_iconst (v := (1 : Int32)) hx hb dX10_whose_75 (by decide) ?_
    refine lv_goto (tgt := 80) hx hb dX10_whose_76 (by decide) ?_
    refine lv_istore_n (lv' := [(3, .int (1 : Int32)), (0, .ref (b + 0)), (1, .int x9), (2, .int x10), (4, .int x12)]) hx hb dX10_whose_80 rfl hl (by decide) rfl (fun ls hl => ?_)
    obtain ⟨v34, ev34, hf⟩ := xlet_x hf
    refine lv_iinc (v := v34) (lv' := [(4, .int v34), (3, .int (1 : Int32)), (0, .ref (b + 0)), (1, .int x9), (2, .int x10)]) hx hb dX10_whose_81 hl (k := 4) rfl (by rw [ev34]; rfl) (by decide) rfl (fun ls hl => ?_)
    refine lv_goto (tgt := 21) hx hb dX10_whose_84 (by decide) ?_
    exact ih M24 L25 (1 : Int32) v34 H locs ls hf hm (lv_sub hl [2, 3, 4, 1, 0] rfl)
set_option maxHeartbeats 4000000 in
set_option maxRecDepth 20000 in
theorem j_X10_whose_4 {p : Program} {l : Launch} {e : Env} {s : State} {m : MethodId} {args : Array Value} {below : List Frame} {meth : Method} {c : Code} {Q : State → Prop} {E : xE} {b : Nat} (C : xC p s m args meth c cX10_whose 5 RX10 (some .int) E b)  {y5 : Int32} {y6 : xm} {y7 : xn}
    (kx0 : ∀ (H : Heap) (locs : List Loc) (ls : Array Slot), xM E b NY (cY E b y6 y7) s.heap H locs → lv_has ls 5 [(1, .int y5)] → W p l e (xR 8) s m args below meth c H locs 0 0 Q (F0 m 107 ls [])) :
    ∀ (n : Nat) (M3 : xm) (L4 : xn) (x1 : Int32) (x2 : Int32) (H : Heap) (locs : List Loc) (ls : Array Slot), g_X10_whose_4 n M3 L4 x1 x2 = some (y5, y6, y7) → xM E b NY (cY E b M3 L4) s.heap H locs → lv_has ls 5 [(0, .ref (b + 0)), (1, .int x1), (2, .int x2)] → W p l e (xR 8) s m args below meth c H locs 0 0 Q (F0 m 4 ls []) := by
  have hx := C.1.1
  have hb := C.1.2.1
  intro n
  induction n with
  | zero =>
    intro M3 L4 x1 x2 H locs ls hf hm hl
    rw [g_X10_whose_4] at hf
    cases hf
  | succ n ih =>
    intro M3 L4 x1 x2 H locs ls hf hm hl
    rw [g_X10_whose_4] at hf
    refine lv_iload_n hx hb dX10_whose_4 rfl (lv_at hl 2 rfl) ?_
    refine lv_aload_n hx hb dX10_whose_5 rfl (lv_at hl 0 rfl) ?_
    refine x_get C hm inX10 rfl 0 (by decide) tf_RX10_7 cy_0 rfl dX10_whose_6 ?_
    refine lv_iconst (v := (0 : Int32)) hx hb dX10_whose_9 (by decide) ?_
    refine x_iald (j := 0) C hm cy_1 (by decide) dX10_whose_10 (by decide) ?_
    refine lv_icmp_ge (tgt := 107) hx hb dX10_whose_11 (by decide) (fun hc8 => ?_) (fun hc8 => ?_)
    · have hf := xif_t hc8 hf
      cases hf
      exact kx0 H locs ls hm (lv_sub hl [1] rfl)
    have hf := xif_f hc8 hf
    refine lv_iconst (v := (1 : Int32)) hx hb dX10_whose_14 (by decide) ?_
    refine lv_istore_n (lv' := [(3, .int (1 : Int32)), (0, .ref (b + 0)), (1, .int x1), (2, .int x2)]) hx hb dX10_whose_15 rfl hl (by decide) rfl (fun ls hl => ?_)
    refine lv_sipush (v := (322 : Int32)) hx hb dX10_whose_16 (by decide) ?_
    refine lv_istore (lv' := [(4, .int (322 : Int32)), (3, .int (1 : Int32)), (0, .ref (b + 0)), (1, .int x1), (2, .int x2)]) hx hb dX10_whose_19 hl (by decide) rfl (fun ls hl => ?_)
    obtain ⟨v35, M36, L37, hq, hf⟩ := xb3_e hf
    refine j_X10_whose_21 C x1 x2 (fun H locs ls hm hl => ?_) xfuel M3 L4 (1 : Int32) (322 : Int32) H locs ls hq hm (lv_sub hl [2, 3, 4, 1, 0] rfl)
    refine lv_iload_n hx hb dX10_whose_87 rfl (lv_at hl 1 rfl) ?_
    refine lv_iload_n hx hb dX10_whose_88 rfl (lv_at hl 3 rfl) ?_
    refine lv_if_eq (tgt := 98) hx hb dX10_whose_89 (by decide) (fun hc38 => ?_) (fun hc38 => ?_)
    · have hf := xif_t hc38 hf
      refine lv_iconst (v := (0 : Int32)) hx hb dX10_whose_98 (by decide) ?_
      refine lv_ior hx hb dX10_whose_99 ?_
      refine lv_topi (fun v39 ev39 => ?_)
      have hf := xlet_e ev39 hf
      refine lv_istore_n (lv' := [(1, .int v39), (0, .ref (b + 0)), (2, .int x2), (3, .int v35)]) hx hb dX10_whose_100 rfl hl (by decide) rfl (fun ls hl => ?_)
      obtain ⟨v40, ev40, hf⟩ := xlet_x hf
      refine lv_iinc (v := v40) (lv' := [(2, .int v40), (1, .int v39), (0, .ref (b + 0)), (3, .int v35)]) hx hb dX10_whose_101 hl (k := 2) rfl (by rw [ev40]; rfl) (by decide) rfl (fun ls hl => ?_)
      refine lv_goto (tgt := 4) hx hb dX10_whose_104 (by decide) ?_
      exact ih M36 L37 v39 v40 H locs ls hf hm (lv_sub hl [2, 1, 0] rfl)
    have hf := xif_f hc38 hf
    refine lv_iconst (v := (1 : Int32)) hx hb dX10_whose_92 (by decide) ?_
    refine lv_iload_n hx hb dX10_whose_93 rfl (lv_at hl 2 rfl) ?_
    refine lv_ishl hx hb dX10_whose_94 ?_
    refine lv_goto (tgt := 99) hx hb dX10_whose_95 (by decide) ?_
    refine lv_ior hx hb dX10_whose_99 ?_
    refine lv_topi (fun v41 ev41 => ?_)
    have hf := xlet_e ev41 hf
    refine lv_istore_n (lv' := [(1, .int v41), (0, .ref (b + 0)), (2, .int x2), (3, .int v35)]) hx hb dX10_whose_100 rfl hl (by decide) rfl (fun ls hl => ?_)
    obtain ⟨v42, ev42, hf⟩ := xlet_x hf
    refine lv_iinc (v := v42) (lv' := [(2, .int v42), (1, .int v41), (0, .ref (b + 0)), (3, .int v35)]) hx hb dX10_whose_101 hl (k := 2) rfl (by rw [ev42]; rfl) (by decide) rfl (fun ls hl => ?_)
    refine lv_goto (tgt := 4) hx hb dX10_whose_104 (by decide) ?_
    exact ih M36 L37 v41 v42 H locs ls hf hm (lv_sub hl [2, 1, 0] rfl)
set_option maxHeartbeats 4000000 in
set_option maxRecDepth 20000 in
theorem c_X10_whose (l : Launch) (E : xE) (b : Nat) (M : xm) (Lm : xn) {r : Int32} {M' : xm} {L' : xn} (hf : f_X10_whose M Lm = some (r, M', L')) :
    xMet l E b NY yX10_whose cX10_whose 5 (some .int) (xR 8) [.ref (b + 0)] (cY E b M Lm) (some (.int r)) True (cY E b M' L') := by
  refine xMet.ofW (own := RX10) (by decide) rfl (Nat.le_of_ble_eq_true rfl) ?_
  intro p e s m below meth c H locs ls C hm hl
  have hx := C.1.1
  have hb := C.1.2.1
  have hl : lv_has ls 5 [(0, .ref (b + 0))] := hl
  unfold f_X10_whose at hf
  refine lv_iconst (v := (0 : Int32)) hx hb dX10_whose_0 (by decide) ?_
  refine lv_istore_n (lv' := [(1, .int (0 : Int32)), (0, .ref (b + 0))]) hx hb dX10_whose_1 rfl hl (by decide) rfl (fun ls hl => ?_)
  refine lv_iconst (v := (0 : Int32)) hx hb dX10_whose_2 (by decide) ?_
  refine lv_istore_n (lv' := [(2, .int (0 : Int32)), (1, .int (0 : Int32)), (0, .ref (b + 0))]) hx hb dX10_whose_3 rfl hl (by decide) rfl (fun ls hl => ?_)
  obtain ⟨v43, M44, L45, hq, hf⟩ := xb3_e hf
  refine j_X10_whose_4 C (fun H locs ls hm hl => ?_) xfuel M Lm (0 : Int32) (0 : Int32) H locs ls hq hm (lv_sub hl [2, 1, 0] rfl)
  refine lv_iload_n hx hb dX10_whose_107 rfl (lv_at hl 0 rfl) ?_
  cases hf
  exact x_iret C hm trivial dX10_whose_108
/-! ColouredHeapModel.years(II)I -/
theorem dX10_years_0 : decode cX10_years 0 = .ok (.iload_n 1, 1) := by decide +kernel
theorem dX10_years_1 : decode cX10_years 1 = .ok (.iconst 0, 1) := by decide +kernel
theorem dX10_years_2 : decode cX10_years 2 = .ok (.sipush 9999, 3) := by decide +kernel
theorem dX10_years_5 : decode cX10_years 5 = .ok (.invokestatic 59, 3) := by decide +kernel
theorem dX10_years_8 : decode cX10_years 8 = .ok (.ifCond .eq 13, 3) := by decide +kernel
theorem dX10_years_11 : decode cX10_years 11 = .ok (.iload_n 2, 1) := by decide +kernel
theorem dX10_years_12 : decode cX10_years 12 = .ok (.iconst 1, 1) := by decide +kernel
theorem dX10_years_13 : decode cX10_years 13 = .ok (.bipush 40, 2) := by decide +kernel
theorem dX10_years_15 : decode cX10_years 15 = .ok (.invokestatic 59, 3) := by decide +kernel
theorem dX10_years_18 : decode cX10_years 18 = .ok (.ifCond .ne 5, 3) := by decide +kernel
theorem dX10_years_21 : decode cX10_years 21 = .ok (.iconst (-1), 1) := by decide +kernel
theorem dX10_years_22 : decode cX10_years 22 = .ok (.ireturn, 1) := by decide +kernel
theorem dX10_years_23 : decode cX10_years 23 = .ok (.aload_n 0, 1) := by decide +kernel
theorem dX10_years_24 : decode cX10_years 24 = .ok (.invokevirtual 397, 3) := by decide +kernel
theorem dX10_years_27 : decode cX10_years 27 = .ok (.aload_n 0, 1) := by decide +kernel
theorem dX10_years_28 : decode cX10_years 28 = .ok (.getfield 7, 3) := by decide +kernel
theorem dX10_years_31 : decode cX10_years 31 = .ok (.iconst 5, 1) := by decide +kernel
theorem dX10_years_32 : decode cX10_years 32 = .ok (.iload_n 1, 1) := by decide +kernel
theorem dX10_years_33 : decode cX10_years 33 = .ok (.iconst 2, 1) := by decide +kernel
theorem dX10_years_34 : decode cX10_years 34 = .ok (.imul, 1) := by decide +kernel
theorem dX10_years_35 : decode cX10_years 35 = .ok (.sipush 463, 3) := by decide +kernel
theorem dX10_years_38 : decode cX10_years 38 = .ok (.iadd, 1) := by decide +kernel
theorem dX10_years_39 : decode cX10_years 39 = .ok (.iastore, 1) := by decide +kernel
theorem dX10_years_40 : decode cX10_years 40 = .ok (.iconst 0, 1) := by decide +kernel
theorem dX10_years_41 : decode cX10_years 41 = .ok (.istore_n 3, 1) := by decide +kernel
theorem dX10_years_42 : decode cX10_years 42 = .ok (.iload_n 3, 1) := by decide +kernel
theorem dX10_years_43 : decode cX10_years 43 = .ok (.iload_n 2, 1) := by decide +kernel
theorem dX10_years_44 : decode cX10_years 44 = .ok (.if_icmp .ge 27, 3) := by decide +kernel
theorem dX10_years_47 : decode cX10_years 47 = .ok (.aload_n 0, 1) := by decide +kernel
theorem dX10_years_48 : decode cX10_years 48 = .ok (.getfield 7, 3) := by decide +kernel
theorem dX10_years_51 : decode cX10_years 51 = .ok (.iconst 5, 1) := by decide +kernel
theorem dX10_years_52 : decode cX10_years 52 = .ok (.iaload, 1) := by decide +kernel
theorem dX10_years_53 : decode cX10_years 53 = .ok (.istore 4, 2) := by decide +kernel
theorem dX10_years_55 : decode cX10_years 55 = .ok (.aload_n 0, 1) := by decide +kernel
theorem dX10_years_56 : decode cX10_years 56 = .ok (.invokevirtual 439, 3) := by decide +kernel
theorem dX10_years_59 : decode cX10_years 59 = .ok (.aload_n 0, 1) := by decide +kernel
theorem dX10_years_60 : decode cX10_years 60 = .ok (.iload 4, 2) := by decide +kernel
theorem dX10_years_62 : decode cX10_years 62 = .ok (.invokevirtual 442, 3) := by decide +kernel
theorem dX10_years_65 : decode cX10_years 65 = .ok (.iinc 3 1, 3) := by decide +kernel
theorem dX10_years_68 : decode cX10_years 68 = .ok (.goto (-26), 3) := by decide +kernel
theorem dX10_years_71 : decode cX10_years 71 = .ok (.aload_n 0, 1) := by decide +kernel
theorem dX10_years_72 : decode cX10_years 72 = .ok (.getfield 7, 3) := by decide +kernel
theorem dX10_years_75 : decode cX10_years 75 = .ok (.iconst 4, 1) := by decide +kernel
theorem dX10_years_76 : decode cX10_years 76 = .ok (.iaload, 1) := by decide +kernel
theorem dX10_years_77 : decode cX10_years 77 = .ok (.ireturn, 1) := by decide +kernel
def g_X10_years_42 (x9 : Int32) : Nat → xm → xn → Int32 → Option ((xm × xn))
  | 0, _, _, _ => none
  | n + 1, M11, L12, x10 => (if x9 ≤ x10 then some ((M11, L12)) else xlet (M11 1 5) (fun v16 => xb1 (f_X10_anew M11) (fun M18 => xb2 (f_X10_happens M18 L12 v16) (fun M21 L22 => xlet (x10 + (1 : Int32)) (fun v24 => g_X10_years_42 x9 n M21 L22 v24)))))
def f_X10_years (M : xm) (Lm : xn) (a1 : Int32) (a2 : Int32) : Option (Int32 × xm × xn) := (if (f_X10_isIn a1 (0 : Int32) (9999 : Int32)) = 0 then some ((-1 : Int32), M, Lm) else (if (f_X10_isIn a2 (1 : Int32) (40 : Int32)) = 0 then some ((-1 : Int32), M, Lm) else xb1 (f_X10_keep M) (fun M6 => xlet (up2 M6 1 5 ((a1 * (2 : Int32)) + (463 : Int32))) (fun M8 => xb2 (g_X10_years_42 a2 xfuel M8 Lm (0 : Int32)) (fun M25 L26 => some ((M25 1 4), M25, L26))))))
set_option maxHeartbeats 4000000 in
set_option maxRecDepth 20000 in
theorem j_X10_years_42 {p : Program} {l : Launch} {e : Env} {s : State} {m : MethodId} {args : Array Value} {below : List Frame} {meth : Method} {c : Code} {Q : State → Prop} {E : xE} {b : Nat} (C : xC p s m args meth c cX10_years 5 RX10 (some .int) E b) (x9 : Int32) {y13 : xm} {y14 : xn}
    (kx0 : ∀ (H : Heap) (locs : List Loc) (ls : Array Slot), xM E b NY (cY E b y13 y14) s.heap H locs → lv_has ls 5 [(0, .ref (b + 0))] → W p l e (xR 11) s m args below meth c H locs 0 0 Q (F0 m 71 ls [])) :
    ∀ (n : Nat) (M11 : xm) (L12 : xn) (x10 : Int32) (H : Heap) (locs : List Loc) (ls : Array Slot), g_X10_years_42 x9 n M11 L12 x10 = some (y13, y14) → xM E b NY (cY E b M11 L12) s.heap H locs → lv_has ls 5 [(0, .ref (b + 0)), (2, .int x9), (3, .int x10)] → W p l e (xR 11) s m args below meth c H locs 0 0 Q (F0 m 42 ls []) := by
  have hx := C.1.1
  have hb := C.1.2.1
  intro n
  induction n with
  | zero =>
    intro M11 L12 x10 H locs ls hf hm hl
    rw [g_X10_years_42] at hf
    cases hf
  | succ n ih =>
    intro M11 L12 x10 H locs ls hf hm hl
    rw [g_X10_years_42] at hf
    refine lv_iload_n hx hb dX10_years_42 rfl (lv_at hl 2 rfl) ?_
    refine lv_iload_n hx hb dX10_years_43 rfl (lv_at hl 1 rfl) ?_
    refine lv_icmp_ge (tgt := 71) hx hb dX10_years_44 (by decide) (fun hc15 => ?_) (fun hc15 => ?_)
    · have hf := xif_t hc15 hf
      cases hf
      exact kx0 H locs ls hm (lv_sub hl [0] rfl)
    have hf := xif_f hc15 hf
    refine lv_aload_n hx hb dX10_years_47 rfl (lv_at hl 0 rfl) ?_
    refine x_get C hm inX10 rfl 0 (by decide) tf_RX10_7 cy_0 rfl dX10_years_48 ?_
    refine lv_iconst (v := (5 : Int32)) hx hb dX10_years_51 (by decide) ?_
    refine x_iald (j := 5) C hm cy_1 (by decide) dX10_years_52 (by decide) ?_
    refine lv_topi (fun v16 ev16 => ?_)
    have hf := xlet_e ev16 hf
    refine lv_istore (lv' := [(4, .int v16), (0, .ref (b + 0)), (2, .int x9), (3, .int x10)]) hx hb dX10_years_53 hl (by decide) rfl (fun ls hl => ?_)
    refine lv_aload_n hx hb dX10_years_55 rfl (lv_at hl 1 rfl) ?_
    obtain ⟨M18, hq17, hf⟩ := xb1_e hf
    refine x_callVv (As := []) (rest := []) C hm (c_X10_anew l E b M11 L12 hq17) rfl cy_0 tc_X10_anew tm_RX10_439 ti_X10_anew ts_X10_anew tn_RX10 td_X10_anew rfl rfl ⟨Nat.le_of_ble_eq_true rfl, Nat.le_of_ble_eq_true rfl⟩ rfl hl.1 rfl (Nat.le_of_ble_eq_true rfl) ⟨Nat.zero_le _, Nat.zero_le _⟩ dX10_years_56 (fun H locs hP19 hm => ?_)
    refine lv_aload_n hx hb dX10_years_59 rfl (lv_at hl 1 rfl) ?_
    refine lv_iload hx hb dX10_years_60 (lv_at hl 0 rfl) ?_
    obtain ⟨M21, L22, hq20, hf⟩ := xb2_e hf
    refine x_callVv (As := [.int v16]) (rest := []) C hm (c_X10_happens l E b M18 L12 v16 hq20) rfl cy_0 tc_X10_happens tm_RX10_442 ti_X10_happens ts_X10_happens tn_RX10 td_X10_happens rfl rfl ⟨Nat.le_of_ble_eq_true rfl, Nat.le_of_ble_eq_true rfl⟩ rfl hl.1 rfl (Nat.le_of_ble_eq_true rfl) ⟨Nat.zero_le _, Nat.zero_le _⟩ dX10_years_62 (fun H locs hP23 hm => ?_)
    obtain ⟨v24, ev24, hf⟩ := xlet_x hf
    refine lv_iinc (v := v24) (lv' := [(3, .int v24), (4, .int v16), (0, .ref (b + 0)), (2, .int x9)]) hx hb dX10_years_65 hl (k := 3) rfl (by rw [ev24]; rfl) (by decide) rfl (fun ls hl => ?_)
    refine lv_goto (tgt := 42) hx hb dX10_years_68 (by decide) ?_
    exact ih M21 L22 v24 H locs ls hf hm (lv_sub hl [2, 3, 0] rfl)
set_option maxHeartbeats 4000000 in
set_option maxRecDepth 20000 in
theorem c_X10_years (l : Launch) (E : xE) (b : Nat) (M : xm) (Lm : xn) (a1 : Int32) (a2 : Int32) {r : Int32} {M' : xm} {L' : xn} (hf : f_X10_years M Lm a1 a2 = some (r, M', L')) :
    xMet l E b NY yX10_years cX10_years 5 (some .int) (xR 11) [.ref (b + 0), .int a1, .int a2] (cY E b M Lm) (some (.int r)) True (cY E b M' L') := by
  refine xMet.ofW (own := RX10) (by decide) rfl (Nat.le_of_ble_eq_true rfl) ?_
  intro p e s m below meth c H locs ls C hm hl
  have hx := C.1.1
  have hb := C.1.2.1
  have hl : lv_has ls 5 [(0, .ref (b + 0)), (1, .int a1), (2, .int a2)] := hl
  unfold f_X10_years at hf
  refine lv_iload_n hx hb dX10_years_0 rfl (lv_at hl 1 rfl) ?_
  refine lv_iconst (v := (0 : Int32)) hx hb dX10_years_1 (by decide) ?_
  refine lv_sipush (v := (9999 : Int32)) hx hb dX10_years_2 (by decide) ?_
  refine x_callSi (As := [.int a1, .int (0 : Int32), .int (9999 : Int32)]) (rest := []) C hm (c_X10_isIn l E b M Lm a1 (0 : Int32) (9999 : Int32) rfl) tc_X10_isIn tm_RX10_59 tz_X10_isIn tn_RX10 td_X10_isIn rfl rfl ⟨Nat.le_of_ble_eq_true rfl, Nat.le_of_ble_eq_true rfl⟩ rfl hl.1 rfl (Nat.le_of_ble_eq_true rfl) ⟨Nat.zero_le _, Nat.zero_le _⟩ dX10_years_5 (fun H locs hP1 hm => ?_)
  refine lv_if_eq (tgt := 21) hx hb dX10_years_8 (by decide) (fun hc2 => ?_) (fun hc2 => ?_)
  · have hf := xif_t hc2 hf
    refine lv_iconst (v := (-1 : Int32)) hx hb dX10_years_21 (by decide) ?_
    cases hf
    exact x_iret C hm trivial dX10_years_22
  have hf := xif_f hc2 hf
  refine lv_iload_n hx hb dX10_years_11 rfl (lv_at hl 2 rfl) ?_
  refine lv_iconst (v := (1 : Int32)) hx hb dX10_years_12 (by decide) ?_
  refine lv_bipush (v := (40 : Int32)) hx hb dX10_years_13 (by decide) ?_
  refine x_callSi (As := [.int a2, .int (1 : Int32), .int (40 : Int32)]) (rest := []) C hm (c_X10_isIn l E b M Lm a2 (1 : Int32) (40 : Int32) rfl) tc_X10_isIn tm_RX10_59 tz_X10_isIn tn_RX10 td_X10_isIn rfl rfl ⟨Nat.le_of_ble_eq_true rfl, Nat.le_of_ble_eq_true rfl⟩ rfl hl.1 rfl (Nat.le_of_ble_eq_true rfl) ⟨Nat.zero_le _, Nat.zero_le _⟩ dX10_years_15 (fun H locs hP3 hm => ?_)
  refine lv_if_ne (tgt := 23) hx hb dX10_years_18 (by decide) (fun hc4 => ?_) (fun hc4 => ?_)
  rotate_left
  · have hf := xif_t hc4 hf
    refine lv_iconst (v := (-1 : Int32)) hx hb dX10_years_21 (by decide) ?_
    cases hf
    exact x_iret C hm trivial dX10_years_22
  have hf := xif_f hc4 hf
  refine lv_aload_n hx hb dX10_years_23 rfl (lv_at hl 0 rfl) ?_
  obtain ⟨M6, hq5, hf⟩ := xb1_e hf
  refine x_callVv (As := []) (rest := []) C hm (c_X10_keep l E b M Lm hq5) rfl cy_0 tc_X10_keep tm_RX10_397 ti_X10_keep ts_X10_keep tn_RX10 td_X10_keep rfl rfl ⟨Nat.le_of_ble_eq_true rfl, Nat.le_of_ble_eq_true rfl⟩ rfl hl.1 rfl (Nat.le_of_ble_eq_true rfl) ⟨Nat.zero_le _, Nat.zero_le _⟩ dX10_years_24 (fun H locs hP7 hm => ?_)
  refine lv_aload_n hx hb dX10_years_27 rfl (lv_at hl 0 rfl) ?_
  refine x_get C hm inX10 rfl 0 (by decide) tf_RX10_7 cy_0 rfl dX10_years_28 ?_
  refine lv_iconst (v := (5 : Int32)) hx hb dX10_years_31 (by decide) ?_
  refine lv_iload_n hx hb dX10_years_32 rfl (lv_at hl 1 rfl) ?_
  refine lv_iconst (v := (2 : Int32)) hx hb dX10_years_33 (by decide) ?_
  refine lv_imul hx hb dX10_years_34 ?_
  refine lv_sipush (v := (463 : Int32)) hx hb dX10_years_35 (by decide) ?_
  refine lv_iadd hx hb dX10_years_38 ?_
  obtain ⟨M8, eM8, hf⟩ := xlet_x hf
  refine x_iast (j := 5) (cf' := cY E b M8 Lm) C hm cy_1 (by decide) dX10_years_39 (by decide) (by rw [eM8]; exact cyu_1) (by rw [eM8]; exact cY_o) (fun H locs hm => ?_)
  refine lv_iconst (v := (0 : Int32)) hx hb dX10_years_40 (by decide) ?_
  refine lv_istore_n (lv' := [(3, .int (0 : Int32)), (0, .ref (b + 0)), (1, .int a1), (2, .int a2)]) hx hb dX10_years_41 rfl hl (by decide) rfl (fun ls hl => ?_)
  obtain ⟨M25, L26, hq, hf⟩ := xb2_e hf
  refine j_X10_years_42 C a2 (fun H locs ls hm hl => ?_) xfuel M8 Lm (0 : Int32) H locs ls hq hm (lv_sub hl [1, 3, 0] rfl)
  refine lv_aload_n hx hb dX10_years_71 rfl (lv_at hl 0 rfl) ?_
  refine x_get C hm inX10 rfl 0 (by decide) tf_RX10_7 cy_0 rfl dX10_years_72 ?_
  refine lv_iconst (v := (4 : Int32)) hx hb dX10_years_75 (by decide) ?_
  refine x_iald (j := 4) C hm cy_1 (by decide) dX10_years_76 (by decide) ?_
  cases hf
  exact x_iret C hm trivial dX10_years_77
