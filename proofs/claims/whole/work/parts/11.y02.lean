/-! ColouredHeapModel.keep()V -/
theorem dX10_keep_0 : decode cX10_keep 0 = .ok (.aload_n 0, 1) := by decide +kernel
theorem dX10_keep_1 : decode cX10_keep 1 = .ok (.getfield 7, 3) := by decide +kernel
theorem dX10_keep_4 : decode cX10_keep 4 = .ok (.iconst 2, 1) := by decide +kernel
theorem dX10_keep_5 : decode cX10_keep 5 = .ok (.iaload, 1) := by decide +kernel
theorem dX10_keep_6 : decode cX10_keep 6 = .ok (.bipush 30, 2) := by decide +kernel
theorem dX10_keep_8 : decode cX10_keep 8 = .ok (.if_icmp .ne 48, 3) := by decide +kernel
theorem dX10_keep_11 : decode cX10_keep 11 = .ok (.iconst 0, 1) := by decide +kernel
theorem dX10_keep_12 : decode cX10_keep 12 = .ok (.istore_n 1, 1) := by decide +kernel
theorem dX10_keep_13 : decode cX10_keep 13 = .ok (.iload_n 1, 1) := by decide +kernel
theorem dX10_keep_14 : decode cX10_keep 14 = .ok (.sipush 9222, 3) := by decide +kernel
theorem dX10_keep_17 : decode cX10_keep 17 = .ok (.if_icmp .ge 29, 3) := by decide +kernel
theorem dX10_keep_20 : decode cX10_keep 20 = .ok (.aload_n 0, 1) := by decide +kernel
theorem dX10_keep_21 : decode cX10_keep 21 = .ok (.getfield 7, 3) := by decide +kernel
theorem dX10_keep_24 : decode cX10_keep 24 = .ok (.sipush 338, 3) := by decide +kernel
theorem dX10_keep_27 : decode cX10_keep 27 = .ok (.iload_n 1, 1) := by decide +kernel
theorem dX10_keep_28 : decode cX10_keep 28 = .ok (.iadd, 1) := by decide +kernel
theorem dX10_keep_29 : decode cX10_keep 29 = .ok (.aload_n 0, 1) := by decide +kernel
theorem dX10_keep_30 : decode cX10_keep 30 = .ok (.getfield 7, 3) := by decide +kernel
theorem dX10_keep_33 : decode cX10_keep 33 = .ok (.sipush 656, 3) := by decide +kernel
theorem dX10_keep_36 : decode cX10_keep 36 = .ok (.iload_n 1, 1) := by decide +kernel
theorem dX10_keep_37 : decode cX10_keep 37 = .ok (.iadd, 1) := by decide +kernel
theorem dX10_keep_38 : decode cX10_keep 38 = .ok (.iaload, 1) := by decide +kernel
theorem dX10_keep_39 : decode cX10_keep 39 = .ok (.iastore, 1) := by decide +kernel
theorem dX10_keep_40 : decode cX10_keep 40 = .ok (.iinc 1 1, 3) := by decide +kernel
theorem dX10_keep_43 : decode cX10_keep 43 = .ok (.goto (-30), 3) := by decide +kernel
theorem dX10_keep_46 : decode cX10_keep 46 = .ok (.aload_n 0, 1) := by decide +kernel
theorem dX10_keep_47 : decode cX10_keep 47 = .ok (.getfield 7, 3) := by decide +kernel
theorem dX10_keep_50 : decode cX10_keep 50 = .ok (.iconst 2, 1) := by decide +kernel
theorem dX10_keep_51 : decode cX10_keep 51 = .ok (.dup2, 1) := by decide +kernel
theorem dX10_keep_52 : decode cX10_keep 52 = .ok (.iaload, 1) := by decide +kernel
theorem dX10_keep_53 : decode cX10_keep 53 = .ok (.iconst 1, 1) := by decide +kernel
theorem dX10_keep_54 : decode cX10_keep 54 = .ok (.isub, 1) := by decide +kernel
theorem dX10_keep_55 : decode cX10_keep 55 = .ok (.iastore, 1) := by decide +kernel
theorem dX10_keep_56 : decode cX10_keep 56 = .ok (.iconst 0, 1) := by decide +kernel
theorem dX10_keep_57 : decode cX10_keep 57 = .ok (.istore_n 1, 1) := by decide +kernel
theorem dX10_keep_58 : decode cX10_keep 58 = .ok (.iload_n 1, 1) := by decide +kernel
theorem dX10_keep_59 : decode cX10_keep 59 = .ok (.sipush 318, 3) := by decide +kernel
theorem dX10_keep_62 : decode cX10_keep 62 = .ok (.if_icmp .ge 38, 3) := by decide +kernel
theorem dX10_keep_65 : decode cX10_keep 65 = .ok (.aload_n 0, 1) := by decide +kernel
theorem dX10_keep_66 : decode cX10_keep 66 = .ok (.getfield 7, 3) := by decide +kernel
theorem dX10_keep_69 : decode cX10_keep 69 = .ok (.sipush 338, 3) := by decide +kernel
theorem dX10_keep_72 : decode cX10_keep 72 = .ok (.sipush 318, 3) := by decide +kernel
theorem dX10_keep_75 : decode cX10_keep 75 = .ok (.aload_n 0, 1) := by decide +kernel
theorem dX10_keep_76 : decode cX10_keep 76 = .ok (.getfield 7, 3) := by decide +kernel
theorem dX10_keep_79 : decode cX10_keep 79 = .ok (.iconst 2, 1) := by decide +kernel
theorem dX10_keep_80 : decode cX10_keep 80 = .ok (.iaload, 1) := by decide +kernel
theorem dX10_keep_81 : decode cX10_keep 81 = .ok (.imul, 1) := by decide +kernel
theorem dX10_keep_82 : decode cX10_keep 82 = .ok (.iadd, 1) := by decide +kernel
theorem dX10_keep_83 : decode cX10_keep 83 = .ok (.iload_n 1, 1) := by decide +kernel
theorem dX10_keep_84 : decode cX10_keep 84 = .ok (.iadd, 1) := by decide +kernel
theorem dX10_keep_85 : decode cX10_keep 85 = .ok (.aload_n 0, 1) := by decide +kernel
theorem dX10_keep_86 : decode cX10_keep 86 = .ok (.getfield 7, 3) := by decide +kernel
theorem dX10_keep_89 : decode cX10_keep 89 = .ok (.iconst 4, 1) := by decide +kernel
theorem dX10_keep_90 : decode cX10_keep 90 = .ok (.iload_n 1, 1) := by decide +kernel
theorem dX10_keep_91 : decode cX10_keep 91 = .ok (.iadd, 1) := by decide +kernel
theorem dX10_keep_92 : decode cX10_keep 92 = .ok (.iaload, 1) := by decide +kernel
theorem dX10_keep_93 : decode cX10_keep 93 = .ok (.iastore, 1) := by decide +kernel
theorem dX10_keep_94 : decode cX10_keep 94 = .ok (.iinc 1 1, 3) := by decide +kernel
theorem dX10_keep_97 : decode cX10_keep 97 = .ok (.goto (-39), 3) := by decide +kernel
theorem dX10_keep_100 : decode cX10_keep 100 = .ok (.aload_n 0, 1) := by decide +kernel
theorem dX10_keep_101 : decode cX10_keep 101 = .ok (.getfield 7, 3) := by decide +kernel
theorem dX10_keep_104 : decode cX10_keep 104 = .ok (.iconst 2, 1) := by decide +kernel
theorem dX10_keep_105 : decode cX10_keep 105 = .ok (.dup2, 1) := by decide +kernel
theorem dX10_keep_106 : decode cX10_keep 106 = .ok (.iaload, 1) := by decide +kernel
theorem dX10_keep_107 : decode cX10_keep 107 = .ok (.iconst 1, 1) := by decide +kernel
theorem dX10_keep_108 : decode cX10_keep 108 = .ok (.iadd, 1) := by decide +kernel
theorem dX10_keep_109 : decode cX10_keep 109 = .ok (.iastore, 1) := by decide +kernel
theorem dX10_keep_110 : decode cX10_keep 110 = .ok (.return_, 1) := by decide +kernel
def g_X10_keep_58  : Nat → xm → Int32 → Option ((xm))
  | 0, _, _ => none
  | n + 1, M4, x3 => (if (318 : Int32) ≤ x3 then some (M4) else if xin ((4 : Int32) + x3) 9878 = true then if xin (((338 : Int32) + ((318 : Int32) * (M4 1 2))) + x3) 9878 = true then xlet (up2 M4 1 (Int32.toNatClampNeg (((338 : Int32) + ((318 : Int32) * (M4 1 2))) + x3)) (M4 1 (Int32.toNatClampNeg ((4 : Int32) + x3)))) (fun M9 => xlet (x3 + (1 : Int32)) (fun v10 => g_X10_keep_58 n M9 v10)) else none else none)
def g_X10_keep_13  : Nat → xm → Int32 → Option ((xm))
  | 0, _, _ => none
  | n + 1, M15, x14 => (if (9222 : Int32) ≤ x14 then some (M15) else if xin ((656 : Int32) + x14) 9878 = true then if xin ((338 : Int32) + x14) 9878 = true then xlet (up2 M15 1 (Int32.toNatClampNeg ((338 : Int32) + x14)) (M15 1 (Int32.toNatClampNeg ((656 : Int32) + x14)))) (fun M20 => xlet (x14 + (1 : Int32)) (fun v21 => g_X10_keep_13 n M20 v21)) else none else none)
def f_X10_keep (M : xm) : Option (xm) := xlet (fun (M1 : xm) => xb1 (g_X10_keep_58 xfuel M1 (0 : Int32)) (fun M11 => xlet (up2 M11 1 2 ((M11 1 2) + (1 : Int32))) (fun M12 => some M12))) (fun k2 => (if (M 1 2) = (30 : Int32) then xb1 (g_X10_keep_13 xfuel M (0 : Int32)) (fun M22 => xlet (up2 M22 1 2 ((M22 1 2) - (1 : Int32))) (fun M23 => (k2 M23))) else (k2 M)))
set_option maxHeartbeats 4000000 in
set_option maxRecDepth 20000 in
theorem j_X10_keep_58 {p : Program} {l : Launch} {e : Env} {s : State} {m : MethodId} {args : Array Value} {below : List Frame} {meth : Method} {c : Code} {Q : State → Prop} {E : xE} {b : Nat} (C : xC p s m args meth c cX10_keep 2 RX10 none E b) {Lm : xn} {y5 : xm}
    (kx0 : ∀ (H : Heap) (locs : List Loc) (ls : Array Slot), xM E b NY (cY E b y5 Lm) s.heap H locs → lv_has ls 2 [(0, .ref (b + 0))] → W p l e (xR 1) s m args below meth c H locs 0 0 Q (F0 m 100 ls [])) :
    ∀ (n : Nat) (M4 : xm) (x3 : Int32) (H : Heap) (locs : List Loc) (ls : Array Slot), g_X10_keep_58 n M4 x3 = some y5 → xM E b NY (cY E b M4 Lm) s.heap H locs → lv_has ls 2 [(0, .ref (b + 0)), (1, .int x3)] → W p l e (xR 1) s m args below meth c H locs 0 0 Q (F0 m 58 ls []) := by
  have hx := C.1.1
  have hb := C.1.2.1
  intro n
  induction n with
  | zero =>
    intro M4 x3 H locs ls hf hm hl
    rw [g_X10_keep_58] at hf
    cases hf
  | succ n ih =>
    intro M4 x3 H locs ls hf hm hl
    rw [g_X10_keep_58] at hf
    refine lv_iload_n hx hb dX10_keep_58 rfl (lv_at hl 1 rfl) ?_
    refine lv_sipush (v := (318 : Int32)) hx hb dX10_keep_59 (by decide) ?_
    refine lv_icmp_ge (tgt := 100) hx hb dX10_keep_62 (by decide) (fun hc6 => ?_) (fun hc6 => ?_)
    · have hf := xif_t hc6 hf
      cases hf
      exact kx0 H locs ls hm (lv_sub hl [0] rfl)
    have hf := xif_f hc6 hf
    refine lv_aload_n hx hb dX10_keep_65 rfl (lv_at hl 0 rfl) ?_
    refine x_get C hm inX10 rfl 0 (by decide) tf_RX10_7 cy_0 rfl dX10_keep_66 ?_
    refine lv_sipush (v := (338 : Int32)) hx hb dX10_keep_69 (by decide) ?_
    refine lv_sipush (v := (318 : Int32)) hx hb dX10_keep_72 (by decide) ?_
    refine lv_aload_n hx hb dX10_keep_75 rfl (lv_at hl 0 rfl) ?_
    refine x_get C hm inX10 rfl 0 (by decide) tf_RX10_7 cy_0 rfl dX10_keep_76 ?_
    refine lv_iconst (v := (2 : Int32)) hx hb dX10_keep_79 (by decide) ?_
    refine x_iald (j := 2) C hm cy_1 (by decide) dX10_keep_80 (by decide) ?_
    refine lv_imul hx hb dX10_keep_81 ?_
    refine lv_iadd hx hb dX10_keep_82 ?_
    refine lv_iload_n hx hb dX10_keep_83 rfl (lv_at hl 1 rfl) ?_
    refine lv_iadd hx hb dX10_keep_84 ?_
    refine lv_aload_n hx hb dX10_keep_85 rfl (lv_at hl 0 rfl) ?_
    refine x_get C hm inX10 rfl 0 (by decide) tf_RX10_7 cy_0 rfl dX10_keep_86 ?_
    refine lv_iconst (v := (4 : Int32)) hx hb dX10_keep_89 (by decide) ?_
    refine lv_iload_n hx hb dX10_keep_90 rfl (lv_at hl 1 rfl) ?_
    refine lv_iadd hx hb dX10_keep_91 ?_
    obtain ⟨hi7, hf⟩ := xif_s hf
    refine x_iald (j := (Int32.toNatClampNeg ((4 : Int32) + x3))) C hm cy_1 hi7 dX10_keep_92 rfl ?_
    obtain ⟨hi8, hf⟩ := xif_s hf
    obtain ⟨M9, eM9, hf⟩ := xlet_x hf
    refine x_iast (j := (Int32.toNatClampNeg (((338 : Int32) + ((318 : Int32) * (M4 1 2))) + x3))) (cf' := cY E b M9 Lm) C hm cy_1 hi8 dX10_keep_93 rfl (by rw [eM9]; exact cyu_1) (by rw [eM9]; exact cY_o) (fun H locs hm => ?_)
    obtain ⟨v10, ev10, hf⟩ := xlet_x hf
    refine lv_iinc (v := v10) (lv' := [(1, .int v10), (0, .ref (b + 0))]) hx hb dX10_keep_94 hl (k := 1) rfl (by rw [ev10]; rfl) (by decide) rfl (fun ls hl => ?_)
    refine lv_goto (tgt := 58) hx hb dX10_keep_97 (by decide) ?_
    exact ih M9 v10 H locs ls hf hm (lv_sub hl [1, 0] rfl)
set_option maxHeartbeats 4000000 in
set_option maxRecDepth 20000 in
theorem j_X10_keep_13 {p : Program} {l : Launch} {e : Env} {s : State} {m : MethodId} {args : Array Value} {below : List Frame} {meth : Method} {c : Code} {Q : State → Prop} {E : xE} {b : Nat} (C : xC p s m args meth c cX10_keep 2 RX10 none E b) {Lm : xn} {y16 : xm}
    (kx0 : ∀ (H : Heap) (locs : List Loc) (ls : Array Slot), xM E b NY (cY E b y16 Lm) s.heap H locs → lv_has ls 2 [(0, .ref (b + 0))] → W p l e (xR 1) s m args below meth c H locs 0 0 Q (F0 m 46 ls [])) :
    ∀ (n : Nat) (M15 : xm) (x14 : Int32) (H : Heap) (locs : List Loc) (ls : Array Slot), g_X10_keep_13 n M15 x14 = some y16 → xM E b NY (cY E b M15 Lm) s.heap H locs → lv_has ls 2 [(0, .ref (b + 0)), (1, .int x14)] → W p l e (xR 1) s m args below meth c H locs 0 0 Q (F0 m 13 ls []) := by
  have hx := C.1.1
  have hb := C.1.2.1
  intro n
  induction n with
  | zero =>
    intro M15 x14 H locs ls hf hm hl
    rw [g_X10_keep_13] at hf
    cases hf
  | succ n ih =>
    intro M15 x14 H locs ls hf hm hl
    rw [g_X10_keep_13] at hf
    refine lv_iload_n hx hb dX10_keep_13 rfl (lv_at hl 1 rfl) ?_
    refine lv_sipush (v := (9222 : Int32)) hx hb dX10_keep_14 (by decide) ?_
    refine lv_icmp_ge (tgt := 46) hx hb dX10_keep_17 (by decide) (fun hc17 => ?_) (fun hc17 => ?_)
    · have hf := xif_t hc17 hf
      cases hf
      exact kx0 H locs ls hm (lv_sub hl [0] rfl)
    have hf := xif_f hc17 hf
    refine lv_aload_n hx hb dX10_keep_20 rfl (lv_at hl 0 rfl) ?_
    refine x_get C hm inX10 rfl 0 (by decide) tf_RX10_7 cy_0 rfl dX10_keep_21 ?_
    refine lv_sipush (v := (338 : Int32)) hx hb dX10_keep_24 (by decide) ?_
    refine lv_iload_n hx hb dX10_keep_27 rfl (lv_at hl 1 rfl) ?_
    refine lv_iadd hx hb dX10_keep_28 ?_
    refine lv_aload_n hx hb dX10_keep_29 rfl (lv_at hl 0 rfl) ?_
    refine x_get C hm inX10 rfl 0 (by decide) tf_RX10_7 cy_0 rfl dX10_keep_30 ?_
    refine lv_sipush (v := (656 : Int32)) hx hb dX10_keep_33 (by decide) ?_
    refine lv_iload_n hx hb dX10_keep_36 rfl (lv_at hl 1 rfl) ?_
    refine lv_iadd hx hb dX10_keep_37 ?_
    obtain ⟨hi18, hf⟩ := xif_s hf
    refine x_iald (j := (Int32.toNatClampNeg ((656 : Int32) + x14))) C hm cy_1 hi18 dX10_keep_38 rfl ?_
    obtain ⟨hi19, hf⟩ := xif_s hf
    obtain ⟨M20, eM20, hf⟩ := xlet_x hf
    refine x_iast (j := (Int32.toNatClampNeg ((338 : Int32) + x14))) (cf' := cY E b M20 Lm) C hm cy_1 hi19 dX10_keep_39 rfl (by rw [eM20]; exact cyu_1) (by rw [eM20]; exact cY_o) (fun H locs hm => ?_)
    obtain ⟨v21, ev21, hf⟩ := xlet_x hf
    refine lv_iinc (v := v21) (lv' := [(1, .int v21), (0, .ref (b + 0))]) hx hb dX10_keep_40 hl (k := 1) rfl (by rw [ev21]; rfl) (by decide) rfl (fun ls hl => ?_)
    refine lv_goto (tgt := 13) hx hb dX10_keep_43 (by decide) ?_
    exact ih M20 v21 H locs ls hf hm (lv_sub hl [1, 0] rfl)
set_option maxHeartbeats 4000000 in
set_option maxRecDepth 20000 in
theorem c_X10_keep (l : Launch) (E : xE) (b : Nat) (M : xm) (Lm : xn) {M' : xm} (hf : f_X10_keep M = some M') :
    xMet l E b NY yX10_keep cX10_keep 2 none (xR 1) [.ref (b + 0)] (cY E b M Lm) none True (cY E b M' Lm) := by
  refine xMet.ofW (own := RX10) (by decide) rfl (Nat.le_of_ble_eq_true rfl) ?_
  intro p e s m below meth c H locs ls C hm hl
  have hx := C.1.1
  have hb := C.1.2.1
  have hl : lv_has ls 2 [(0, .ref (b + 0))] := hl
  unfold f_X10_keep at hf
  refine lv_aload_n hx hb dX10_keep_0 rfl (lv_at hl 0 rfl) ?_
  refine x_get C hm inX10 rfl 0 (by decide) tf_RX10_7 cy_0 rfl dX10_keep_1 ?_
  refine lv_iconst (v := (2 : Int32)) hx hb dX10_keep_4 (by decide) ?_
  refine x_iald (j := 2) C hm cy_1 (by decide) dX10_keep_5 (by decide) ?_
  refine lv_bipush (v := (30 : Int32)) hx hb dX10_keep_6 (by decide) ?_
  obtain ⟨k2, ek2, hf⟩ := xlet_x hf
  have jk2 : ∀ (M1 : xm) (H : Heap) (locs : List Loc) (ls : Array Slot), k2 M1 = some M' → xM E b NY (cY E b M1 Lm) s.heap H locs → lv_has ls 2 [(0, .ref (b + 0))] → W p l e (xR 1) s m ([.ref (b + 0)] : List Value).toArray below meth c H locs 0 0 (MQ below (xQ E b NY none True (cY E b M' Lm)) ([.ref (b + 0)] : List Value).toArray s 0 0 (xA b NY)) (F0 m 56 ls []) := by
    intro M1 H locs ls hf hm hl
    have hf := xap1 ek2 hf
    refine lv_iconst (v := (0 : Int32)) hx hb dX10_keep_56 (by decide) ?_
    refine lv_istore_n (lv' := [(1, .int (0 : Int32)), (0, .ref (b + 0))]) hx hb dX10_keep_57 rfl hl (by decide) rfl (fun ls hl => ?_)
    obtain ⟨M11, hq, hf⟩ := xb1_e hf
    refine j_X10_keep_58 C (fun H locs ls hm hl => ?_) xfuel M1 (0 : Int32) H locs ls hq hm (lv_sub hl [1, 0] rfl)
    refine lv_aload_n hx hb dX10_keep_100 rfl (lv_at hl 0 rfl) ?_
    refine x_get C hm inX10 rfl 0 (by decide) tf_RX10_7 cy_0 rfl dX10_keep_101 ?_
    refine lv_iconst (v := (2 : Int32)) hx hb dX10_keep_104 (by decide) ?_
    refine lv_dup2_11 hx hb dX10_keep_105 rfl rfl ?_
    refine x_iald (j := 2) C hm cy_1 (by decide) dX10_keep_106 (by decide) ?_
    refine lv_iconst (v := (1 : Int32)) hx hb dX10_keep_107 (by decide) ?_
    refine lv_iadd hx hb dX10_keep_108 ?_
    obtain ⟨M12, eM12, hf⟩ := xlet_x hf
    refine x_iast (j := 2) (cf' := cY E b M12 Lm) C hm cy_1 (by decide) dX10_keep_109 (by decide) (by rw [eM12]; exact cyu_1) (by rw [eM12]; exact cY_o) (fun H locs hm => ?_)
    cases hf
    exact x_vret C hm trivial dX10_keep_110
  refine lv_icmp_ne (tgt := 56) hx hb dX10_keep_8 (by decide) (fun hc13 => ?_) (fun hc13 => ?_)
  · have hf := xif_f hc13 hf
    exact jk2 M H locs ls  hf hm (lv_sub hl [0] rfl)
  have hf := xif_t hc13 hf
  refine lv_iconst (v := (0 : Int32)) hx hb dX10_keep_11 (by decide) ?_
  refine lv_istore_n (lv' := [(1, .int (0 : Int32)), (0, .ref (b + 0))]) hx hb dX10_keep_12 rfl hl (by decide) rfl (fun ls hl => ?_)
  obtain ⟨M22, hq, hf⟩ := xb1_e hf
  refine j_X10_keep_13 C (fun H locs ls hm hl => ?_) xfuel M (0 : Int32) H locs ls hq hm (lv_sub hl [1, 0] rfl)
  refine lv_aload_n hx hb dX10_keep_46 rfl (lv_at hl 0 rfl) ?_
  refine x_get C hm inX10 rfl 0 (by decide) tf_RX10_7 cy_0 rfl dX10_keep_47 ?_
  refine lv_iconst (v := (2 : Int32)) hx hb dX10_keep_50 (by decide) ?_
  refine lv_dup2_11 hx hb dX10_keep_51 rfl rfl ?_
  refine x_iald (j := 2) C hm cy_1 (by decide) dX10_keep_52 (by decide) ?_
  refine lv_iconst (v := (1 : Int32)) hx hb dX10_keep_53 (by decide) ?_
  refine lv_isub hx hb dX10_keep_54 ?_
  obtain ⟨M23, eM23, hf⟩ := xlet_x hf
  refine x_iast (j := 2) (cf' := cY E b M23 Lm) C hm cy_1 (by decide) dX10_keep_55 (by decide) (by rw [eM23]; exact cyu_1) (by rw [eM23]; exact cY_o) (fun H locs hm => ?_)
  exact jk2 M23 H locs ls  hf hm (lv_sub hl [0] rfl)
/-! ColouredHeapModel.areThreadsBegun()Z -/
theorem dX10_areThreadsBegun_0 : decode cX10_areThreadsBegun 0 = .ok (.aload_n 0, 1) := by decide +kernel
theorem dX10_areThreadsBegun_1 : decode cX10_areThreadsBegun 1 = .ok (.iconst 0, 1) := by decide +kernel
theorem dX10_areThreadsBegun_2 : decode cX10_areThreadsBegun 2 = .ok (.invokevirtual 71, 3) := by decide +kernel
theorem dX10_areThreadsBegun_5 : decode cX10_areThreadsBegun 5 = .ok (.ifCond .ne 11, 3) := by decide +kernel
theorem dX10_areThreadsBegun_8 : decode cX10_areThreadsBegun 8 = .ok (.aload_n 0, 1) := by decide +kernel
theorem dX10_areThreadsBegun_9 : decode cX10_areThreadsBegun 9 = .ok (.iconst 1, 1) := by decide +kernel
theorem dX10_areThreadsBegun_10 : decode cX10_areThreadsBegun 10 = .ok (.invokevirtual 71, 3) := by decide +kernel
theorem dX10_areThreadsBegun_13 : decode cX10_areThreadsBegun 13 = .ok (.ifCond .eq 7, 3) := by decide +kernel
theorem dX10_areThreadsBegun_16 : decode cX10_areThreadsBegun 16 = .ok (.iconst 1, 1) := by decide +kernel
theorem dX10_areThreadsBegun_17 : decode cX10_areThreadsBegun 17 = .ok (.goto 4, 3) := by decide +kernel
theorem dX10_areThreadsBegun_20 : decode cX10_areThreadsBegun 20 = .ok (.iconst 0, 1) := by decide +kernel
theorem dX10_areThreadsBegun_21 : decode cX10_areThreadsBegun 21 = .ok (.ireturn, 1) := by decide +kernel
def f_X10_areThreadsBegun (M : xm) : Option (Int32) := xb1 (f_X10_isBegun M (0 : Int32)) (fun v2 => (if v2 = 0 then xb1 (f_X10_isBegun M (1 : Int32)) (fun v6 => (if v6 = 0 then some (0 : Int32) else some (1 : Int32))) else some (1 : Int32)))
set_option maxHeartbeats 4000000 in
set_option maxRecDepth 20000 in
theorem c_X10_areThreadsBegun (l : Launch) (E : xE) (b : Nat) (M : xm) (Lm : xn) {r : Int32} (hf : f_X10_areThreadsBegun M = some r) :
    xMet l E b NY yX10_areThreadsBegun cX10_areThreadsBegun 1 (some .boolean) (xR 2) [.ref (b + 0)] (cY E b M Lm) (some (.int r)) (xbo r = true) (cY E b M Lm) := by
  refine xMet.ofW (own := RX10) (by decide) rfl (Nat.le_of_ble_eq_true rfl) ?_
  intro p e s m below meth c H locs ls C hm hl
  have hx := C.1.1
  have hb := C.1.2.1
  have hl : lv_has ls 1 [(0, .ref (b + 0))] := hl
  unfold f_X10_areThreadsBegun at hf
  refine lv_aload_n hx hb dX10_areThreadsBegun_0 rfl (lv_at hl 0 rfl) ?_
  refine lv_iconst (v := (0 : Int32)) hx hb dX10_areThreadsBegun_1 (by decide) ?_
  obtain ⟨v2, hq1, hf⟩ := xb1_e hf
  refine x_callVi (As := [.int (0 : Int32)]) (rest := []) C hm (c_X10_isBegun l E b M Lm (0 : Int32) hq1) rfl cy_0 tc_X10_isBegun tm_RX10_71 ti_X10_isBegun ts_X10_isBegun tn_RX10 td_X10_isBegun rfl rfl ⟨Nat.le_of_ble_eq_true rfl, Nat.le_of_ble_eq_true rfl⟩ rfl hl.1 rfl (Nat.le_of_ble_eq_true rfl) ⟨Nat.zero_le _, Nat.zero_le _⟩ dX10_areThreadsBegun_2 (fun H locs hP3 hm => ?_)
  refine lv_if_ne (tgt := 16) hx hb dX10_areThreadsBegun_5 (by decide) (fun hc4 => ?_) (fun hc4 => ?_)
  · have hf := xif_f hc4 hf
    refine lv_iconst (v := (1 : Int32)) hx hb dX10_areThreadsBegun_16 (by decide) ?_
    refine lv_goto (tgt := 21) hx hb dX10_areThreadsBegun_17 (by decide) ?_
    cases hf
    exact x_zret C hm (by decide) (by decide) dX10_areThreadsBegun_21
  have hf := xif_t hc4 hf
  refine lv_aload_n hx hb dX10_areThreadsBegun_8 rfl (lv_at hl 0 rfl) ?_
  refine lv_iconst (v := (1 : Int32)) hx hb dX10_areThreadsBegun_9 (by decide) ?_
  obtain ⟨v6, hq5, hf⟩ := xb1_e hf
  refine x_callVi (As := [.int (1 : Int32)]) (rest := []) C hm (c_X10_isBegun l E b M Lm (1 : Int32) hq5) rfl cy_0 tc_X10_isBegun tm_RX10_71 ti_X10_isBegun ts_X10_isBegun tn_RX10 td_X10_isBegun rfl rfl ⟨Nat.le_of_ble_eq_true rfl, Nat.le_of_ble_eq_true rfl⟩ rfl hl.1 rfl (Nat.le_of_ble_eq_true rfl) ⟨Nat.zero_le _, Nat.zero_le _⟩ dX10_areThreadsBegun_10 (fun H locs hP7 hm => ?_)
  refine lv_if_eq (tgt := 20) hx hb dX10_areThreadsBegun_13 (by decide) (fun hc8 => ?_) (fun hc8 => ?_)
  · have hf := xif_t hc8 hf
    refine lv_iconst (v := (0 : Int32)) hx hb dX10_areThreadsBegun_20 (by decide) ?_
    cases hf
    exact x_zret C hm (by decide) (by decide) dX10_areThreadsBegun_21
  have hf := xif_f hc8 hf
  refine lv_iconst (v := (1 : Int32)) hx hb dX10_areThreadsBegun_16 (by decide) ?_
  refine lv_goto (tgt := 21) hx hb dX10_areThreadsBegun_17 (by decide) ?_
  cases hf
  exact x_zret C hm (by decide) (by decide) dX10_areThreadsBegun_21
/-! ColouredHeapModel.canChoose()Z -/
theorem dX10_canChoose_0 : decode cX10_canChoose 0 = .ok (.aload_n 0, 1) := by decide +kernel
theorem dX10_canChoose_1 : decode cX10_canChoose 1 = .ok (.getfield 7, 3) := by decide +kernel
theorem dX10_canChoose_4 : decode cX10_canChoose 4 = .ok (.bipush 6, 2) := by decide +kernel
theorem dX10_canChoose_6 : decode cX10_canChoose 6 = .ok (.iaload, 1) := by decide +kernel
theorem dX10_canChoose_7 : decode cX10_canChoose 7 = .ok (.iconst 1, 1) := by decide +kernel
theorem dX10_canChoose_8 : decode cX10_canChoose 8 = .ok (.if_icmp .ne 24, 3) := by decide +kernel
theorem dX10_canChoose_11 : decode cX10_canChoose 11 = .ok (.aload_n 0, 1) := by decide +kernel
theorem dX10_canChoose_12 : decode cX10_canChoose 12 = .ok (.getfield 7, 3) := by decide +kernel
theorem dX10_canChoose_15 : decode cX10_canChoose 15 = .ok (.bipush 8, 2) := by decide +kernel
theorem dX10_canChoose_17 : decode cX10_canChoose 17 = .ok (.iaload, 1) := by decide +kernel
theorem dX10_canChoose_18 : decode cX10_canChoose 18 = .ok (.ifCond .ne 14, 3) := by decide +kernel
theorem dX10_canChoose_21 : decode cX10_canChoose 21 = .ok (.aload_n 0, 1) := by decide +kernel
theorem dX10_canChoose_22 : decode cX10_canChoose 22 = .ok (.invokevirtual 358, 3) := by decide +kernel
theorem dX10_canChoose_25 : decode cX10_canChoose 25 = .ok (.ifCond .ne 7, 3) := by decide +kernel
theorem dX10_canChoose_28 : decode cX10_canChoose 28 = .ok (.iconst 1, 1) := by decide +kernel
theorem dX10_canChoose_29 : decode cX10_canChoose 29 = .ok (.goto 4, 3) := by decide +kernel
theorem dX10_canChoose_32 : decode cX10_canChoose 32 = .ok (.iconst 0, 1) := by decide +kernel
theorem dX10_canChoose_33 : decode cX10_canChoose 33 = .ok (.ireturn, 1) := by decide +kernel
def f_X10_canChoose (M : xm) : Option (Int32) := (if (M 1 6) = (1 : Int32) then (if (M 1 8) = 0 then xb1 (f_X10_areThreadsBegun M) (fun v4 => (if v4 = 0 then some (1 : Int32) else some (0 : Int32))) else some (0 : Int32)) else some (0 : Int32))
set_option maxHeartbeats 4000000 in
set_option maxRecDepth 20000 in
theorem c_X10_canChoose (l : Launch) (E : xE) (b : Nat) (M : xm) (Lm : xn) {r : Int32} (hf : f_X10_canChoose M = some r) :
    xMet l E b NY yX10_canChoose cX10_canChoose 1 (some .boolean) (xR 3) [.ref (b + 0)] (cY E b M Lm) (some (.int r)) (xbo r = true) (cY E b M Lm) := by
  refine xMet.ofW (own := RX10) (by decide) rfl (Nat.le_of_ble_eq_true rfl) ?_
  intro p e s m below meth c H locs ls C hm hl
  have hx := C.1.1
  have hb := C.1.2.1
  have hl : lv_has ls 1 [(0, .ref (b + 0))] := hl
  unfold f_X10_canChoose at hf
  refine lv_aload_n hx hb dX10_canChoose_0 rfl (lv_at hl 0 rfl) ?_
  refine x_get C hm inX10 rfl 0 (by decide) tf_RX10_7 cy_0 rfl dX10_canChoose_1 ?_
  refine lv_bipush (v := (6 : Int32)) hx hb dX10_canChoose_4 (by decide) ?_
  refine x_iald (j := 6) C hm cy_1 (by decide) dX10_canChoose_6 (by decide) ?_
  refine lv_iconst (v := (1 : Int32)) hx hb dX10_canChoose_7 (by decide) ?_
  refine lv_icmp_ne (tgt := 32) hx hb dX10_canChoose_8 (by decide) (fun hc1 => ?_) (fun hc1 => ?_)
  · have hf := xif_f hc1 hf
    refine lv_iconst (v := (0 : Int32)) hx hb dX10_canChoose_32 (by decide) ?_
    cases hf
    exact x_zret C hm (by decide) (by decide) dX10_canChoose_33
  have hf := xif_t hc1 hf
  refine lv_aload_n hx hb dX10_canChoose_11 rfl (lv_at hl 0 rfl) ?_
  refine x_get C hm inX10 rfl 0 (by decide) tf_RX10_7 cy_0 rfl dX10_canChoose_12 ?_
  refine lv_bipush (v := (8 : Int32)) hx hb dX10_canChoose_15 (by decide) ?_
  refine x_iald (j := 8) C hm cy_1 (by decide) dX10_canChoose_17 (by decide) ?_
  refine lv_if_ne (tgt := 32) hx hb dX10_canChoose_18 (by decide) (fun hc2 => ?_) (fun hc2 => ?_)
  · have hf := xif_f hc2 hf
    refine lv_iconst (v := (0 : Int32)) hx hb dX10_canChoose_32 (by decide) ?_
    cases hf
    exact x_zret C hm (by decide) (by decide) dX10_canChoose_33
  have hf := xif_t hc2 hf
  refine lv_aload_n hx hb dX10_canChoose_21 rfl (lv_at hl 0 rfl) ?_
  obtain ⟨v4, hq3, hf⟩ := xb1_e hf
  refine x_callVi (As := []) (rest := []) C hm (c_X10_areThreadsBegun l E b M Lm hq3) rfl cy_0 tc_X10_areThreadsBegun tm_RX10_358 ti_X10_areThreadsBegun ts_X10_areThreadsBegun tn_RX10 td_X10_areThreadsBegun rfl rfl ⟨Nat.le_of_ble_eq_true rfl, Nat.le_of_ble_eq_true rfl⟩ rfl hl.1 rfl (Nat.le_of_ble_eq_true rfl) ⟨Nat.zero_le _, Nat.zero_le _⟩ dX10_canChoose_22 (fun H locs hP5 hm => ?_)
  refine lv_if_ne (tgt := 32) hx hb dX10_canChoose_25 (by decide) (fun hc6 => ?_) (fun hc6 => ?_)
  · have hf := xif_f hc6 hf
    refine lv_iconst (v := (0 : Int32)) hx hb dX10_canChoose_32 (by decide) ?_
    cases hf
    exact x_zret C hm (by decide) (by decide) dX10_canChoose_33
  have hf := xif_t hc6 hf
  refine lv_iconst (v := (1 : Int32)) hx hb dX10_canChoose_28 (by decide) ?_
  refine lv_goto (tgt := 33) hx hb dX10_canChoose_29 (by decide) ?_
  cases hf
  exact x_zret C hm (by decide) (by decide) dX10_canChoose_33
/-! ColouredHeapModel.canStart()Z -/
theorem dX10_canStart_0 : decode cX10_canStart 0 = .ok (.aload_n 0, 1) := by decide +kernel
theorem dX10_canStart_1 : decode cX10_canStart 1 = .ok (.getfield 7, 3) := by decide +kernel
theorem dX10_canStart_4 : decode cX10_canStart 4 = .ok (.bipush 6, 2) := by decide +kernel
theorem dX10_canStart_6 : decode cX10_canStart 6 = .ok (.iaload, 1) := by decide +kernel
theorem dX10_canStart_7 : decode cX10_canStart 7 = .ok (.ifCond .ne 14, 3) := by decide +kernel
theorem dX10_canStart_10 : decode cX10_canStart 10 = .ok (.aload_n 0, 1) := by decide +kernel
theorem dX10_canStart_11 : decode cX10_canStart 11 = .ok (.invokevirtual 358, 3) := by decide +kernel
theorem dX10_canStart_14 : decode cX10_canStart 14 = .ok (.ifCond .ne 7, 3) := by decide +kernel
theorem dX10_canStart_17 : decode cX10_canStart 17 = .ok (.iconst 1, 1) := by decide +kernel
theorem dX10_canStart_18 : decode cX10_canStart 18 = .ok (.goto 4, 3) := by decide +kernel
theorem dX10_canStart_21 : decode cX10_canStart 21 = .ok (.iconst 0, 1) := by decide +kernel
theorem dX10_canStart_22 : decode cX10_canStart 22 = .ok (.ireturn, 1) := by decide +kernel
def f_X10_canStart (M : xm) : Option (Int32) := (if (M 1 6) = 0 then xb1 (f_X10_areThreadsBegun M) (fun v3 => (if v3 = 0 then some (1 : Int32) else some (0 : Int32))) else some (0 : Int32))
set_option maxHeartbeats 4000000 in
set_option maxRecDepth 20000 in
theorem c_X10_canStart (l : Launch) (E : xE) (b : Nat) (M : xm) (Lm : xn) {r : Int32} (hf : f_X10_canStart M = some r) :
    xMet l E b NY yX10_canStart cX10_canStart 1 (some .boolean) (xR 3) [.ref (b + 0)] (cY E b M Lm) (some (.int r)) (xbo r = true) (cY E b M Lm) := by
  refine xMet.ofW (own := RX10) (by decide) rfl (Nat.le_of_ble_eq_true rfl) ?_
  intro p e s m below meth c H locs ls C hm hl
  have hx := C.1.1
  have hb := C.1.2.1
  have hl : lv_has ls 1 [(0, .ref (b + 0))] := hl
  unfold f_X10_canStart at hf
  refine lv_aload_n hx hb dX10_canStart_0 rfl (lv_at hl 0 rfl) ?_
  refine x_get C hm inX10 rfl 0 (by decide) tf_RX10_7 cy_0 rfl dX10_canStart_1 ?_
  refine lv_bipush (v := (6 : Int32)) hx hb dX10_canStart_4 (by decide) ?_
  refine x_iald (j := 6) C hm cy_1 (by decide) dX10_canStart_6 (by decide) ?_
  refine lv_if_ne (tgt := 21) hx hb dX10_canStart_7 (by decide) (fun hc1 => ?_) (fun hc1 => ?_)
  · have hf := xif_f hc1 hf
    refine lv_iconst (v := (0 : Int32)) hx hb dX10_canStart_21 (by decide) ?_
    cases hf
    exact x_zret C hm (by decide) (by decide) dX10_canStart_22
  have hf := xif_t hc1 hf
  refine lv_aload_n hx hb dX10_canStart_10 rfl (lv_at hl 0 rfl) ?_
  obtain ⟨v3, hq2, hf⟩ := xb1_e hf
  refine x_callVi (As := []) (rest := []) C hm (c_X10_areThreadsBegun l E b M Lm hq2) rfl cy_0 tc_X10_areThreadsBegun tm_RX10_358 ti_X10_areThreadsBegun ts_X10_areThreadsBegun tn_RX10 td_X10_areThreadsBegun rfl rfl ⟨Nat.le_of_ble_eq_true rfl, Nat.le_of_ble_eq_true rfl⟩ rfl hl.1 rfl (Nat.le_of_ble_eq_true rfl) ⟨Nat.zero_le _, Nat.zero_le _⟩ dX10_canStart_11 (fun H locs hP4 hm => ?_)
  refine lv_if_ne (tgt := 21) hx hb dX10_canStart_14 (by decide) (fun hc5 => ?_) (fun hc5 => ?_)
  · have hf := xif_f hc5 hf
    refine lv_iconst (v := (0 : Int32)) hx hb dX10_canStart_21 (by decide) ?_
    cases hf
    exact x_zret C hm (by decide) (by decide) dX10_canStart_22
  have hf := xif_t hc5 hf
  refine lv_iconst (v := (1 : Int32)) hx hb dX10_canStart_17 (by decide) ?_
  refine lv_goto (tgt := 22) hx hb dX10_canStart_18 (by decide) ?_
  cases hf
  exact x_zret C hm (by decide) (by decide) dX10_canStart_22
/-! ColouredHeapModel.bits(I)I -/
theorem dX10_bits_0 : decode cX10_bits 0 = .ok (.iconst 0, 1) := by decide +kernel
theorem dX10_bits_1 : decode cX10_bits 1 = .ok (.istore_n 1, 1) := by decide +kernel
theorem dX10_bits_2 : decode cX10_bits 2 = .ok (.iload_n 0, 1) := by decide +kernel
theorem dX10_bits_3 : decode cX10_bits 3 = .ok (.istore_n 2, 1) := by decide +kernel
theorem dX10_bits_4 : decode cX10_bits 4 = .ok (.iload_n 2, 1) := by decide +kernel
theorem dX10_bits_5 : decode cX10_bits 5 = .ok (.ifCond .eq 15, 3) := by decide +kernel
theorem dX10_bits_8 : decode cX10_bits 8 = .ok (.iinc 1 1, 3) := by decide +kernel
theorem dX10_bits_11 : decode cX10_bits 11 = .ok (.iload_n 2, 1) := by decide +kernel
theorem dX10_bits_12 : decode cX10_bits 12 = .ok (.iload_n 2, 1) := by decide +kernel
theorem dX10_bits_13 : decode cX10_bits 13 = .ok (.iconst 1, 1) := by decide +kernel
theorem dX10_bits_14 : decode cX10_bits 14 = .ok (.isub, 1) := by decide +kernel
theorem dX10_bits_15 : decode cX10_bits 15 = .ok (.iand, 1) := by decide +kernel
theorem dX10_bits_16 : decode cX10_bits 16 = .ok (.istore_n 2, 1) := by decide +kernel
theorem dX10_bits_17 : decode cX10_bits 17 = .ok (.goto (-13), 3) := by decide +kernel
theorem dX10_bits_20 : decode cX10_bits 20 = .ok (.iload_n 1, 1) := by decide +kernel
theorem dX10_bits_21 : decode cX10_bits 21 = .ok (.ireturn, 1) := by decide +kernel
def g_X10_bits_4  : Nat → Int32 → Int32 → Option ((Int32))
  | 0, _, _ => none
  | n + 1, x1, x2 => (if x2 = 0 then some (x1) else xlet (x1 + (1 : Int32)) (fun v5 => xlet (x2 &&& (x2 - (1 : Int32))) (fun v6 => g_X10_bits_4 n v5 v6)))
def f_X10_bits (a0 : Int32) : Option (Int32) := xb1 (g_X10_bits_4 xfuel (0 : Int32) a0) (fun v7 => some v7)
set_option maxHeartbeats 4000000 in
set_option maxRecDepth 20000 in
theorem j_X10_bits_4 {p : Program} {l : Launch} {e : Env} {s : State} {m : MethodId} {args : Array Value} {below : List Frame} {meth : Method} {c : Code} {Q : State → Prop} {E : xE} {b : Nat} (C : xC p s m args meth c cX10_bits 3 RX10 (some .int) E b) {M : xm} {Lm : xn} {y3 : Int32}
    (kx0 : ∀ (H : Heap) (locs : List Loc) (ls : Array Slot), xM E b NY (cY E b M Lm) s.heap H locs → lv_has ls 3 [(1, .int y3)] → W p l e (xR 1) s m args below meth c H locs 0 0 Q (F0 m 20 ls [])) :
    ∀ (n : Nat) (x1 : Int32) (x2 : Int32) (H : Heap) (locs : List Loc) (ls : Array Slot), g_X10_bits_4 n x1 x2 = some y3 → xM E b NY (cY E b M Lm) s.heap H locs → lv_has ls 3 [(1, .int x1), (2, .int x2)] → W p l e (xR 1) s m args below meth c H locs 0 0 Q (F0 m 4 ls []) := by
  have hx := C.1.1
  have hb := C.1.2.1
  intro n
  induction n with
  | zero =>
    intro x1 x2 H locs ls hf hm hl
    rw [g_X10_bits_4] at hf
    cases hf
  | succ n ih =>
    intro x1 x2 H locs ls hf hm hl
    rw [g_X10_bits_4] at hf
    refine lv_iload_n hx hb dX10_bits_4 rfl (lv_at hl 1 rfl) ?_
    refine lv_if_eq (tgt := 20) hx hb dX10_bits_5 (by decide) (fun hc4 => ?_) (fun hc4 => ?_)
    · have hf := xif_t hc4 hf
      cases hf
      exact kx0 H locs ls hm (lv_sub hl [0] rfl)
    have hf := xif_f hc4 hf
    obtain ⟨v5, ev5, hf⟩ := xlet_x hf
    refine lv_iinc (v := v5) (lv' := [(1, .int v5), (2, .int x2)]) hx hb dX10_bits_8 hl (k := 0) rfl (by rw [ev5]; rfl) (by decide) rfl (fun ls hl => ?_)
    refine lv_iload_n hx hb dX10_bits_11 rfl (lv_at hl 1 rfl) ?_
    refine lv_iload_n hx hb dX10_bits_12 rfl (lv_at hl 1 rfl) ?_
    refine lv_iconst (v := (1 : Int32)) hx hb dX10_bits_13 (by decide) ?_
    refine lv_isub hx hb dX10_bits_14 ?_
    refine lv_iand hx hb dX10_bits_15 ?_
    refine lv_topi (fun v6 ev6 => ?_)
    have hf := xlet_e ev6 hf
    refine lv_istore_n (lv' := [(2, .int v6), (1, .int v5)]) hx hb dX10_bits_16 rfl hl (by decide) rfl (fun ls hl => ?_)
    refine lv_goto (tgt := 4) hx hb dX10_bits_17 (by decide) ?_
    exact ih v5 v6 H locs ls hf hm (lv_sub hl [1, 0] rfl)
set_option maxHeartbeats 4000000 in
set_option maxRecDepth 20000 in
theorem c_X10_bits (l : Launch) (E : xE) (b : Nat) (M : xm) (Lm : xn) (a0 : Int32) {r : Int32} (hf : f_X10_bits a0 = some r) :
    xMet l E b NY yX10_bits cX10_bits 3 (some .int) (xR 1) [.int a0] (cY E b M Lm) (some (.int r)) True (cY E b M Lm) := by
  refine xMet.ofW (own := RX10) (by decide) rfl (Nat.le_of_ble_eq_true rfl) ?_
  intro p e s m below meth c H locs ls C hm hl
  have hx := C.1.1
  have hb := C.1.2.1
  have hl : lv_has ls 3 [(0, .int a0)] := hl
  unfold f_X10_bits at hf
  refine lv_iconst (v := (0 : Int32)) hx hb dX10_bits_0 (by decide) ?_
  refine lv_istore_n (lv' := [(1, .int (0 : Int32)), (0, .int a0)]) hx hb dX10_bits_1 rfl hl (by decide) rfl (fun ls hl => ?_)
  refine lv_iload_n hx hb dX10_bits_2 rfl (lv_at hl 1 rfl) ?_
  refine lv_istore_n (lv' := [(2, .int a0), (1, .int (0 : Int32)), (0, .int a0)]) hx hb dX10_bits_3 rfl hl (by decide) rfl (fun ls hl => ?_)
  obtain ⟨v7, hq, hf⟩ := xb1_e hf
  refine j_X10_bits_4 C (fun H locs ls hm hl => ?_) xfuel (0 : Int32) a0 H locs ls hq hm (lv_sub hl [1, 0] rfl)
  refine lv_iload_n hx hb dX10_bits_20 rfl (lv_at hl 0 rfl) ?_
  cases hf
  exact x_iret C hm trivial dX10_bits_21
/-! ColouredHeapModel.clauseOf(II)I -/
theorem dX10_clauseOf_0 : decode cX10_clauseOf 0 = .ok (.iconst 0, 1) := by decide +kernel
theorem dX10_clauseOf_1 : decode cX10_clauseOf 1 = .ok (.istore_n 3, 1) := by decide +kernel
theorem dX10_clauseOf_2 : decode cX10_clauseOf 2 = .ok (.iload_n 1, 1) := by decide +kernel
theorem dX10_clauseOf_3 : decode cX10_clauseOf 3 = .ok (.ifCond .lt 45, 3) := by decide +kernel
theorem dX10_clauseOf_6 : decode cX10_clauseOf 6 = .ok (.iload_n 3, 1) := by decide +kernel
theorem dX10_clauseOf_7 : decode cX10_clauseOf 7 = .ok (.aload_n 0, 1) := by decide +kernel
theorem dX10_clauseOf_8 : decode cX10_clauseOf 8 = .ok (.getfield 16, 3) := by decide +kernel
theorem dX10_clauseOf_11 : decode cX10_clauseOf 11 = .ok (.sipush 705, 3) := by decide +kernel
theorem dX10_clauseOf_14 : decode cX10_clauseOf 14 = .ok (.iload_n 1, 1) := by decide +kernel
theorem dX10_clauseOf_15 : decode cX10_clauseOf 15 = .ok (.imul, 1) := by decide +kernel
theorem dX10_clauseOf_16 : decode cX10_clauseOf 16 = .ok (.iaload, 1) := by decide +kernel
theorem dX10_clauseOf_17 : decode cX10_clauseOf 17 = .ok (.if_icmp .ge 31, 3) := by decide +kernel
theorem dX10_clauseOf_20 : decode cX10_clauseOf 20 = .ok (.aload_n 0, 1) := by decide +kernel
theorem dX10_clauseOf_21 : decode cX10_clauseOf 21 = .ok (.getfield 16, 3) := by decide +kernel
theorem dX10_clauseOf_24 : decode cX10_clauseOf 24 = .ok (.sipush 705, 3) := by decide +kernel
theorem dX10_clauseOf_27 : decode cX10_clauseOf 27 = .ok (.iload_n 1, 1) := by decide +kernel
theorem dX10_clauseOf_28 : decode cX10_clauseOf 28 = .ok (.imul, 1) := by decide +kernel
theorem dX10_clauseOf_29 : decode cX10_clauseOf 29 = .ok (.iconst 1, 1) := by decide +kernel
theorem dX10_clauseOf_30 : decode cX10_clauseOf 30 = .ok (.iadd, 1) := by decide +kernel
theorem dX10_clauseOf_31 : decode cX10_clauseOf 31 = .ok (.iconst 4, 1) := by decide +kernel
theorem dX10_clauseOf_32 : decode cX10_clauseOf 32 = .ok (.iload_n 3, 1) := by decide +kernel
theorem dX10_clauseOf_33 : decode cX10_clauseOf 33 = .ok (.imul, 1) := by decide +kernel
theorem dX10_clauseOf_34 : decode cX10_clauseOf 34 = .ok (.iadd, 1) := by decide +kernel
theorem dX10_clauseOf_35 : decode cX10_clauseOf 35 = .ok (.iaload, 1) := by decide +kernel
theorem dX10_clauseOf_36 : decode cX10_clauseOf 36 = .ok (.iload_n 2, 1) := by decide +kernel
theorem dX10_clauseOf_37 : decode cX10_clauseOf 37 = .ok (.if_icmp .ne 5, 3) := by decide +kernel
theorem dX10_clauseOf_40 : decode cX10_clauseOf 40 = .ok (.iload_n 3, 1) := by decide +kernel
theorem dX10_clauseOf_41 : decode cX10_clauseOf 41 = .ok (.ireturn, 1) := by decide +kernel
theorem dX10_clauseOf_42 : decode cX10_clauseOf 42 = .ok (.iinc 3 1, 3) := by decide +kernel
theorem dX10_clauseOf_45 : decode cX10_clauseOf 45 = .ok (.goto (-43), 3) := by decide +kernel
theorem dX10_clauseOf_48 : decode cX10_clauseOf 48 = .ok (.iconst (-1), 1) := by decide +kernel
theorem dX10_clauseOf_49 : decode cX10_clauseOf 49 = .ok (.ireturn, 1) := by decide +kernel
def g_X10_clauseOf_2 (M : xm) (x1 : Int32) (x2 : Int32) : Nat → Int32 → Option ((Int32) ⊕ (Unit))
  | 0, _ => none
  | n + 1, x3 => (if x1 < 0 then some (Sum.inr ()) else if xin ((705 : Int32) * x1) 2820 = true then (if (M 3 (Int32.toNatClampNeg ((705 : Int32) * x1))) ≤ x3 then some (Sum.inr ()) else if xin ((((705 : Int32) * x1) + (1 : Int32)) + ((4 : Int32) * x3)) 2820 = true then (if (M 3 (Int32.toNatClampNeg ((((705 : Int32) * x1) + (1 : Int32)) + ((4 : Int32) * x3)))) = x2 then some (Sum.inl x3) else xlet (x3 + (1 : Int32)) (fun v9 => g_X10_clauseOf_2 M x1 x2 n v9)) else none) else none)
def f_X10_clauseOf (M : xm) (a1 : Int32) (a2 : Int32) : Option (Int32) := xs2 (g_X10_clauseOf_2 M a1 a2 xfuel (0 : Int32)) (fun q10 => some q10) (fun q10 => some (-1 : Int32))
set_option maxHeartbeats 4000000 in
set_option maxRecDepth 20000 in
theorem j_X10_clauseOf_2 {p : Program} {l : Launch} {e : Env} {s : State} {m : MethodId} {args : Array Value} {below : List Frame} {meth : Method} {c : Code} {Q : State → Prop} {E : xE} {b : Nat} (C : xC p s m args meth c cX10_clauseOf 4 RX10 (some .int) E b) (M : xm) {Lm : xn} (x1 : Int32) (x2 : Int32) {r : (Int32) ⊕ (Unit)}
    (kx0 : ∀ q : Int32, r = Sum.inl q → ∀ (H : Heap) (locs : List Loc) (ls : Array Slot), xM E b NY (cY E b M Lm) s.heap H locs → lv_has ls 4 [(3, .int q)] → W p l e (xR 1) s m args below meth c H locs 0 0 Q (F0 m 40 ls []))
    (kx1 : ∀ q : Unit, r = Sum.inr q → ∀ (H : Heap) (locs : List Loc) (ls : Array Slot), xM E b NY (cY E b M Lm) s.heap H locs → lv_has ls 4 [] → W p l e (xR 1) s m args below meth c H locs 0 0 Q (F0 m 48 ls [])) :
    ∀ (n : Nat) (x3 : Int32) (H : Heap) (locs : List Loc) (ls : Array Slot), g_X10_clauseOf_2 M x1 x2 n x3 = some r → xM E b NY (cY E b M Lm) s.heap H locs → lv_has ls 4 [(0, .ref (b + 0)), (1, .int x1), (2, .int x2), (3, .int x3)] → W p l e (xR 1) s m args below meth c H locs 0 0 Q (F0 m 2 ls []) := by
  have hx := C.1.1
  have hb := C.1.2.1
  intro n
  induction n with
  | zero =>
    intro x3 H locs ls hf hm hl
    rw [g_X10_clauseOf_2] at hf
    cases hf
  | succ n ih =>
    intro x3 H locs ls hf hm hl
    rw [g_X10_clauseOf_2] at hf
    refine lv_iload_n hx hb dX10_clauseOf_2 rfl (lv_at hl 1 rfl) ?_
    refine lv_if_lt (tgt := 48) hx hb dX10_clauseOf_3 (by decide) (fun hc4 => ?_) (fun hc4 => ?_)
    · have hf := xif_t hc4 hf
      cases hf
      exact kx1 () rfl H locs ls hm (lv_sub hl [] rfl)
    have hf := xif_f hc4 hf
    refine lv_iload_n hx hb dX10_clauseOf_6 rfl (lv_at hl 3 rfl) ?_
    refine lv_aload_n hx hb dX10_clauseOf_7 rfl (lv_at hl 0 rfl) ?_
    refine x_get C hm inX10 rfl 2 (by decide) tf_RX10_16 cy_0 rfl dX10_clauseOf_8 ?_
    refine lv_sipush (v := (705 : Int32)) hx hb dX10_clauseOf_11 (by decide) ?_
    refine lv_iload_n hx hb dX10_clauseOf_14 rfl (lv_at hl 1 rfl) ?_
    refine lv_imul hx hb dX10_clauseOf_15 ?_
    obtain ⟨hi5, hf⟩ := xif_s hf
    refine x_iald (j := (Int32.toNatClampNeg ((705 : Int32) * x1))) C hm cy_3 hi5 dX10_clauseOf_16 rfl ?_
    refine lv_icmp_ge (tgt := 48) hx hb dX10_clauseOf_17 (by decide) (fun hc6 => ?_) (fun hc6 => ?_)
    · have hf := xif_t hc6 hf
      cases hf
      exact kx1 () rfl H locs ls hm (lv_sub hl [] rfl)
    have hf := xif_f hc6 hf
    refine lv_aload_n hx hb dX10_clauseOf_20 rfl (lv_at hl 0 rfl) ?_
    refine x_get C hm inX10 rfl 2 (by decide) tf_RX10_16 cy_0 rfl dX10_clauseOf_21 ?_
    refine lv_sipush (v := (705 : Int32)) hx hb dX10_clauseOf_24 (by decide) ?_
    refine lv_iload_n hx hb dX10_clauseOf_27 rfl (lv_at hl 1 rfl) ?_
    refine lv_imul hx hb dX10_clauseOf_28 ?_
    refine lv_iconst (v := (1 : Int32)) hx hb dX10_clauseOf_29 (by decide) ?_
    refine lv_iadd hx hb dX10_clauseOf_30 ?_
    refine lv_iconst (v := (4 : Int32)) hx hb dX10_clauseOf_31 (by decide) ?_
    refine lv_iload_n hx hb dX10_clauseOf_32 rfl (lv_at hl 3 rfl) ?_
    refine lv_imul hx hb dX10_clauseOf_33 ?_
    refine lv_iadd hx hb dX10_clauseOf_34 ?_
    obtain ⟨hi7, hf⟩ := xif_s hf
    refine x_iald (j := (Int32.toNatClampNeg ((((705 : Int32) * x1) + (1 : Int32)) + ((4 : Int32) * x3)))) C hm cy_3 hi7 dX10_clauseOf_35 rfl ?_
    refine lv_iload_n hx hb dX10_clauseOf_36 rfl (lv_at hl 2 rfl) ?_
    refine lv_icmp_ne (tgt := 42) hx hb dX10_clauseOf_37 (by decide) (fun hc8 => ?_) (fun hc8 => ?_)
    rotate_left
    · have hf := xif_t hc8 hf
      cases hf
      exact kx0 x3 rfl H locs ls hm (lv_sub hl [3] rfl)
    have hf := xif_f hc8 hf
    obtain ⟨v9, ev9, hf⟩ := xlet_x hf
    refine lv_iinc (v := v9) (lv' := [(3, .int v9), (0, .ref (b + 0)), (1, .int x1), (2, .int x2)]) hx hb dX10_clauseOf_42 hl (k := 3) rfl (by rw [ev9]; rfl) (by decide) rfl (fun ls hl => ?_)
    refine lv_goto (tgt := 2) hx hb dX10_clauseOf_45 (by decide) ?_
    exact ih v9 H locs ls hf hm (lv_sub hl [1, 2, 3, 0] rfl)
set_option maxHeartbeats 4000000 in
set_option maxRecDepth 20000 in
theorem c_X10_clauseOf (l : Launch) (E : xE) (b : Nat) (M : xm) (Lm : xn) (a1 : Int32) (a2 : Int32) {r : Int32} (hf : f_X10_clauseOf M a1 a2 = some r) :
    xMet l E b NY yX10_clauseOf cX10_clauseOf 4 (some .int) (xR 1) [.ref (b + 0), .int a1, .int a2] (cY E b M Lm) (some (.int r)) True (cY E b M Lm) := by
  refine xMet.ofW (own := RX10) (by decide) rfl (Nat.le_of_ble_eq_true rfl) ?_
  intro p e s m below meth c H locs ls C hm hl
  have hx := C.1.1
  have hb := C.1.2.1
  have hl : lv_has ls 4 [(0, .ref (b + 0)), (1, .int a1), (2, .int a2)] := hl
  unfold f_X10_clauseOf at hf
  refine lv_iconst (v := (0 : Int32)) hx hb dX10_clauseOf_0 (by decide) ?_
  refine lv_istore_n (lv' := [(3, .int (0 : Int32)), (0, .ref (b + 0)), (1, .int a1), (2, .int a2)]) hx hb dX10_clauseOf_1 rfl hl (by decide) rfl (fun ls hl => ?_)
  rcases xs2_e hf with ⟨q10, hq, hf⟩ | ⟨q10, hq, hf⟩
  · refine j_X10_clauseOf_2 C M a1 a2 (r := Sum.inl q10) (fun q2 hr H locs ls hm hl => ?_) (fun q2 hr => by cases hr) xfuel (0 : Int32) H locs ls hq hm (lv_sub hl [1, 2, 3, 0] rfl)
    cases hr
    refine lv_iload_n hx hb dX10_clauseOf_40 rfl (lv_at hl 0 rfl) ?_
    cases hf
    exact x_iret C hm trivial dX10_clauseOf_41
  · refine j_X10_clauseOf_2 C M a1 a2 (r := Sum.inr q10) (fun q2 hr => by cases hr) (fun q2 hr H locs ls hm hl => ?_) xfuel (0 : Int32) H locs ls hq hm (lv_sub hl [1, 2, 3, 0] rfl)
    cases hr
    refine lv_iconst (v := (-1 : Int32)) hx hb dX10_clauseOf_48 (by decide) ?_
    cases hf
    exact x_iret C hm trivial dX10_clauseOf_49
/-! ColouredHeapModel.isPlace(I)Z -/
theorem dX10_isPlace_0 : decode cX10_isPlace 0 = .ok (.iload_n 0, 1) := by decide +kernel
theorem dX10_isPlace_1 : decode cX10_isPlace 1 = .ok (.iconst 0, 1) := by decide +kernel
theorem dX10_isPlace_2 : decode cX10_isPlace 2 = .ok (.bipush 63, 2) := by decide +kernel
theorem dX10_isPlace_4 : decode cX10_isPlace 4 = .ok (.invokestatic 59, 3) := by decide +kernel
theorem dX10_isPlace_7 : decode cX10_isPlace 7 = .ok (.ireturn, 1) := by decide +kernel
def f_X10_isPlace (a0 : Int32) : Int32 := (f_X10_isIn a0 (0 : Int32) (63 : Int32))
set_option maxHeartbeats 4000000 in
set_option maxRecDepth 20000 in
theorem c_X10_isPlace (l : Launch) (E : xE) (b : Nat) (M : xm) (Lm : xn) (a0 : Int32) {r : Int32} (hf : f_X10_isPlace a0 = r) :
    xMet l E b NY yX10_isPlace cX10_isPlace 1 (some .boolean) (xR 2) [.int a0] (cY E b M Lm) (some (.int r)) (xbo r = true) (cY E b M Lm) := by
  refine xMet.ofW (own := RX10) (by decide) rfl (Nat.le_of_ble_eq_true rfl) ?_
  intro p e s m below meth c H locs ls C hm hl
  have hx := C.1.1
  have hb := C.1.2.1
  have hl : lv_has ls 1 [(0, .int a0)] := hl
  unfold f_X10_isPlace at hf
  refine lv_iload_n hx hb dX10_isPlace_0 rfl (lv_at hl 0 rfl) ?_
  refine lv_iconst (v := (0 : Int32)) hx hb dX10_isPlace_1 (by decide) ?_
  refine lv_bipush (v := (63 : Int32)) hx hb dX10_isPlace_2 (by decide) ?_
  refine x_callSi (As := [.int a0, .int (0 : Int32), .int (63 : Int32)]) (rest := []) C hm (c_X10_isIn l E b M Lm a0 (0 : Int32) (63 : Int32) rfl) tc_X10_isIn tm_RX10_59 tz_X10_isIn tn_RX10 td_X10_isIn rfl rfl ⟨Nat.le_of_ble_eq_true rfl, Nat.le_of_ble_eq_true rfl⟩ rfl hl.1 rfl (Nat.le_of_ble_eq_true rfl) ⟨Nat.zero_le _, Nat.zero_le _⟩ dX10_isPlace_4 (fun H locs hP1 hm => ?_)
  cases hf
  exact x_zret C hm hP1 hP1 dX10_isPlace_7
/-! ColouredHeapModel.isHead(I)Z -/
theorem dX10_isHead_0 : decode cX10_isHead 0 = .ok (.iload_n 1, 1) := by decide +kernel
theorem dX10_isHead_1 : decode cX10_isHead 1 = .ok (.invokestatic 63, 3) := by decide +kernel
theorem dX10_isHead_4 : decode cX10_isHead 4 = .ok (.ifCond .eq 22, 3) := by decide +kernel
theorem dX10_isHead_7 : decode cX10_isHead 7 = .ok (.aload_n 0, 1) := by decide +kernel
theorem dX10_isHead_8 : decode cX10_isHead 8 = .ok (.getfield 7, 3) := by decide +kernel
theorem dX10_isHead_11 : decode cX10_isHead 11 = .ok (.bipush 41, 2) := by decide +kernel
theorem dX10_isHead_13 : decode cX10_isHead 13 = .ok (.iload_n 1, 1) := by decide +kernel
theorem dX10_isHead_14 : decode cX10_isHead 14 = .ok (.iadd, 1) := by decide +kernel
theorem dX10_isHead_15 : decode cX10_isHead 15 = .ok (.iaload, 1) := by decide +kernel
theorem dX10_isHead_16 : decode cX10_isHead 16 = .ok (.sipush 1000, 3) := by decide +kernel
theorem dX10_isHead_19 : decode cX10_isHead 19 = .ok (.if_icmp .lt 7, 3) := by decide +kernel
theorem dX10_isHead_22 : decode cX10_isHead 22 = .ok (.iconst 1, 1) := by decide +kernel
theorem dX10_isHead_23 : decode cX10_isHead 23 = .ok (.goto 4, 3) := by decide +kernel
theorem dX10_isHead_26 : decode cX10_isHead 26 = .ok (.iconst 0, 1) := by decide +kernel
theorem dX10_isHead_27 : decode cX10_isHead 27 = .ok (.ireturn, 1) := by decide +kernel
def f_X10_isHead (M : xm) (a1 : Int32) : Option (Int32) := (if (f_X10_isPlace a1) = 0 then some (0 : Int32) else if xin ((41 : Int32) + a1) 9878 = true then (if (M 1 (Int32.toNatClampNeg ((41 : Int32) + a1))) < (1000 : Int32) then some (0 : Int32) else some (1 : Int32)) else none)
set_option maxHeartbeats 4000000 in
set_option maxRecDepth 20000 in
theorem c_X10_isHead (l : Launch) (E : xE) (b : Nat) (M : xm) (Lm : xn) (a1 : Int32) {r : Int32} (hf : f_X10_isHead M a1 = some r) :
    xMet l E b NY yX10_isHead cX10_isHead 2 (some .boolean) (xR 3) [.ref (b + 0), .int a1] (cY E b M Lm) (some (.int r)) (xbo r = true) (cY E b M Lm) := by
  refine xMet.ofW (own := RX10) (by decide) rfl (Nat.le_of_ble_eq_true rfl) ?_
  intro p e s m below meth c H locs ls C hm hl
  have hx := C.1.1
  have hb := C.1.2.1
  have hl : lv_has ls 2 [(0, .ref (b + 0)), (1, .int a1)] := hl
  unfold f_X10_isHead at hf
  refine lv_iload_n hx hb dX10_isHead_0 rfl (lv_at hl 1 rfl) ?_
  refine x_callSi (As := [.int a1]) (rest := []) C hm (c_X10_isPlace l E b M Lm a1 rfl) tc_X10_isPlace tm_RX10_63 tz_X10_isPlace tn_RX10 td_X10_isPlace rfl rfl ⟨Nat.le_of_ble_eq_true rfl, Nat.le_of_ble_eq_true rfl⟩ rfl hl.1 rfl (Nat.le_of_ble_eq_true rfl) ⟨Nat.zero_le _, Nat.zero_le _⟩ dX10_isHead_1 (fun H locs hP1 hm => ?_)
  refine lv_if_eq (tgt := 26) hx hb dX10_isHead_4 (by decide) (fun hc2 => ?_) (fun hc2 => ?_)
  · have hf := xif_t hc2 hf
    refine lv_iconst (v := (0 : Int32)) hx hb dX10_isHead_26 (by decide) ?_
    cases hf
    exact x_zret C hm (by decide) (by decide) dX10_isHead_27
  have hf := xif_f hc2 hf
  refine lv_aload_n hx hb dX10_isHead_7 rfl (lv_at hl 0 rfl) ?_
  refine x_get C hm inX10 rfl 0 (by decide) tf_RX10_7 cy_0 rfl dX10_isHead_8 ?_
  refine lv_bipush (v := (41 : Int32)) hx hb dX10_isHead_11 (by decide) ?_
  refine lv_iload_n hx hb dX10_isHead_13 rfl (lv_at hl 1 rfl) ?_
  refine lv_iadd hx hb dX10_isHead_14 ?_
  obtain ⟨hi3, hf⟩ := xif_s hf
  refine x_iald (j := (Int32.toNatClampNeg ((41 : Int32) + a1))) C hm cy_1 hi3 dX10_isHead_15 rfl ?_
  refine lv_sipush (v := (1000 : Int32)) hx hb dX10_isHead_16 (by decide) ?_
  refine lv_icmp_lt (tgt := 26) hx hb dX10_isHead_19 (by decide) (fun hc4 => ?_) (fun hc4 => ?_)
  · have hf := xif_t hc4 hf
    refine lv_iconst (v := (0 : Int32)) hx hb dX10_isHead_26 (by decide) ?_
    cases hf
    exact x_zret C hm (by decide) (by decide) dX10_isHead_27
  have hf := xif_f hc4 hf
  refine lv_iconst (v := (1 : Int32)) hx hb dX10_isHead_22 (by decide) ?_
  refine lv_goto (tgt := 27) hx hb dX10_isHead_23 (by decide) ?_
  cases hf
  exact x_zret C hm (by decide) (by decide) dX10_isHead_27
/-! ColouredHeapModel.liveOf(I)I -/
theorem dX10_liveOf_0 : decode cX10_liveOf 0 = .ok (.iconst 0, 1) := by decide +kernel
theorem dX10_liveOf_1 : decode cX10_liveOf 1 = .ok (.istore_n 2, 1) := by decide +kernel
theorem dX10_liveOf_2 : decode cX10_liveOf 2 = .ok (.bipush 8, 2) := by decide +kernel
theorem dX10_liveOf_4 : decode cX10_liveOf 4 = .ok (.iload_n 1, 1) := by decide +kernel
theorem dX10_liveOf_5 : decode cX10_liveOf 5 = .ok (.imul, 1) := by decide +kernel
theorem dX10_liveOf_6 : decode cX10_liveOf 6 = .ok (.istore_n 3, 1) := by decide +kernel
theorem dX10_liveOf_7 : decode cX10_liveOf 7 = .ok (.iload_n 3, 1) := by decide +kernel
theorem dX10_liveOf_8 : decode cX10_liveOf 8 = .ok (.bipush 8, 2) := by decide +kernel
theorem dX10_liveOf_10 : decode cX10_liveOf 10 = .ok (.iload_n 1, 1) := by decide +kernel
theorem dX10_liveOf_11 : decode cX10_liveOf 11 = .ok (.imul, 1) := by decide +kernel
theorem dX10_liveOf_12 : decode cX10_liveOf 12 = .ok (.bipush 8, 2) := by decide +kernel
theorem dX10_liveOf_14 : decode cX10_liveOf 14 = .ok (.iadd, 1) := by decide +kernel
theorem dX10_liveOf_15 : decode cX10_liveOf 15 = .ok (.if_icmp .ge 37, 3) := by decide +kernel
theorem dX10_liveOf_18 : decode cX10_liveOf 18 = .ok (.iload_n 2, 1) := by decide +kernel
theorem dX10_liveOf_19 : decode cX10_liveOf 19 = .ok (.aload_n 0, 1) := by decide +kernel
theorem dX10_liveOf_20 : decode cX10_liveOf 20 = .ok (.iload_n 3, 1) := by decide +kernel
theorem dX10_liveOf_21 : decode cX10_liveOf 21 = .ok (.invokevirtual 74, 3) := by decide +kernel
theorem dX10_liveOf_24 : decode cX10_liveOf 24 = .ok (.ifCond .eq 19, 3) := by decide +kernel
theorem dX10_liveOf_27 : decode cX10_liveOf 27 = .ok (.aload_n 0, 1) := by decide +kernel
theorem dX10_liveOf_28 : decode cX10_liveOf 28 = .ok (.iload_n 3, 1) := by decide +kernel
theorem dX10_liveOf_29 : decode cX10_liveOf 29 = .ok (.invokevirtual 77, 3) := by decide +kernel
theorem dX10_liveOf_32 : decode cX10_liveOf 32 = .ok (.ifCond .eq 11, 3) := by decide +kernel
theorem dX10_liveOf_35 : decode cX10_liveOf 35 = .ok (.aload_n 0, 1) := by decide +kernel
theorem dX10_liveOf_36 : decode cX10_liveOf 36 = .ok (.iload_n 3, 1) := by decide +kernel
theorem dX10_liveOf_37 : decode cX10_liveOf 37 = .ok (.invokevirtual 80, 3) := by decide +kernel
theorem dX10_liveOf_40 : decode cX10_liveOf 40 = .ok (.goto 4, 3) := by decide +kernel
theorem dX10_liveOf_43 : decode cX10_liveOf 43 = .ok (.iconst 0, 1) := by decide +kernel
theorem dX10_liveOf_44 : decode cX10_liveOf 44 = .ok (.iadd, 1) := by decide +kernel
theorem dX10_liveOf_45 : decode cX10_liveOf 45 = .ok (.istore_n 2, 1) := by decide +kernel
theorem dX10_liveOf_46 : decode cX10_liveOf 46 = .ok (.iinc 3 1, 3) := by decide +kernel
theorem dX10_liveOf_49 : decode cX10_liveOf 49 = .ok (.goto (-42), 3) := by decide +kernel
theorem dX10_liveOf_52 : decode cX10_liveOf 52 = .ok (.iload_n 2, 1) := by decide +kernel
theorem dX10_liveOf_53 : decode cX10_liveOf 53 = .ok (.ireturn, 1) := by decide +kernel
def g_X10_liveOf_7 (M : xm) (x2 : Int32) : Nat → Int32 → Int32 → Option ((Int32))
  | 0, _, _ => none
  | n + 1, x3, x4 => (if (((8 : Int32) * x2) + (8 : Int32)) ≤ x4 then some (x3) else xb1 (f_X10_isHead M x4) (fun v8 => (if v8 = 0 then xlet (x3 + (0 : Int32)) (fun v11 => xlet (x4 + (1 : Int32)) (fun v12 => g_X10_liveOf_7 M x2 n v11 v12)) else xb1 (f_X10_isMarked M x4) (fun v14 => (if v14 = 0 then xlet (x3 + (0 : Int32)) (fun v17 => xlet (x4 + (1 : Int32)) (fun v18 => g_X10_liveOf_7 M x2 n v17 v18)) else xb1 (f_X10_sizeOf M x4) (fun v20 => xlet (x3 + v20) (fun v22 => xlet (x4 + (1 : Int32)) (fun v23 => g_X10_liveOf_7 M x2 n v22 v23))))))))
def f_X10_liveOf (M : xm) (a1 : Int32) : Option (Int32) := xlet ((8 : Int32) * a1) (fun v1 => xb1 (g_X10_liveOf_7 M a1 xfuel (0 : Int32) v1) (fun v24 => some v24))
set_option maxHeartbeats 4000000 in
set_option maxRecDepth 20000 in
theorem j_X10_liveOf_7 {p : Program} {l : Launch} {e : Env} {s : State} {m : MethodId} {args : Array Value} {below : List Frame} {meth : Method} {c : Code} {Q : State → Prop} {E : xE} {b : Nat} (C : xC p s m args meth c cX10_liveOf 4 RX10 (some .int) E b) (M : xm) {Lm : xn} (x2 : Int32) {y5 : Int32}
    (kx0 : ∀ (H : Heap) (locs : List Loc) (ls : Array Slot), xM E b NY (cY E b M Lm) s.heap H locs → lv_has ls 4 [(2, .int y5)] → W p l e (xR 4) s m args below meth c H locs 0 0 Q (F0 m 52 ls [])) :
    ∀ (n : Nat) (x3 : Int32) (x4 : Int32) (H : Heap) (locs : List Loc) (ls : Array Slot), g_X10_liveOf_7 M x2 n x3 x4 = some y5 → xM E b NY (cY E b M Lm) s.heap H locs → lv_has ls 4 [(0, .ref (b + 0)), (1, .int x2), (2, .int x3), (3, .int x4)] → W p l e (xR 4) s m args below meth c H locs 0 0 Q (F0 m 7 ls []) := by
  have hx := C.1.1
  have hb := C.1.2.1
  intro n
  induction n with
  | zero =>
    intro x3 x4 H locs ls hf hm hl
    rw [g_X10_liveOf_7] at hf
    cases hf
  | succ n ih =>
    intro x3 x4 H locs ls hf hm hl
    rw [g_X10_liveOf_7] at hf
    refine lv_iload_n hx hb dX10_liveOf_7 rfl (lv_at hl 3 rfl) ?_
    refine lv_bipush (v := (8 : Int32)) hx hb dX10_liveOf_8 (by decide) ?_
    refine lv_iload_n hx hb dX10_liveOf_10 rfl (lv_at hl 1 rfl) ?_
    refine lv_imul hx hb dX10_liveOf_11 ?_
    refine lv_bipush (v := (8 : Int32)) hx hb dX10_liveOf_12 (by decide) ?_
    refine lv_iadd hx hb dX10_liveOf_14 ?_
    refine lv_icmp_ge (tgt := 52) hx hb dX10_liveOf_15 (by decide) (fun hc6 => ?_) (fun hc6 => ?_)
    · have hf := xif_t hc6 hf
      cases hf
      exact kx0 H locs ls hm (lv_sub hl [2] rfl)
    have hf := xif_f hc6 hf
    refine lv_iload_n hx hb dX10_liveOf_18 rfl (lv_at hl 2 rfl) ?_
    refine lv_aload_n hx hb dX10_liveOf_19 rfl (lv_at hl 0 rfl) ?_
    refine lv_iload_n hx hb dX10_liveOf_20 rfl (lv_at hl 3 rfl) ?_
    obtain ⟨v8, hq7, hf⟩ := xb1_e hf
    refine x_callVi (As := [.int x4]) (rest := [.int x3]) C hm (c_X10_isHead l E b M Lm x4 hq7) rfl cy_0 tc_X10_isHead tm_RX10_74 ti_X10_isHead ts_X10_isHead tn_RX10 td_X10_isHead rfl rfl ⟨Nat.le_of_ble_eq_true rfl, Nat.le_of_ble_eq_true rfl⟩ rfl hl.1 rfl (Nat.le_of_ble_eq_true rfl) ⟨Nat.zero_le _, Nat.zero_le _⟩ dX10_liveOf_21 (fun H locs hP9 hm => ?_)
    refine lv_if_eq (tgt := 43) hx hb dX10_liveOf_24 (by decide) (fun hc10 => ?_) (fun hc10 => ?_)
    · have hf := xif_t hc10 hf
      refine lv_iconst (v := (0 : Int32)) hx hb dX10_liveOf_43 (by decide) ?_
      refine lv_iadd hx hb dX10_liveOf_44 ?_
      refine lv_topi (fun v11 ev11 => ?_)
      have hf := xlet_e ev11 hf
      refine lv_istore_n (lv' := [(2, .int v11), (0, .ref (b + 0)), (1, .int x2), (3, .int x4)]) hx hb dX10_liveOf_45 rfl hl (by decide) rfl (fun ls hl => ?_)
      obtain ⟨v12, ev12, hf⟩ := xlet_x hf
      refine lv_iinc (v := v12) (lv' := [(3, .int v12), (2, .int v11), (0, .ref (b + 0)), (1, .int x2)]) hx hb dX10_liveOf_46 hl (k := 3) rfl (by rw [ev12]; rfl) (by decide) rfl (fun ls hl => ?_)
      refine lv_goto (tgt := 7) hx hb dX10_liveOf_49 (by decide) ?_
      exact ih v11 v12 H locs ls hf hm (lv_sub hl [2, 3, 1, 0] rfl)
    have hf := xif_f hc10 hf
    refine lv_aload_n hx hb dX10_liveOf_27 rfl (lv_at hl 0 rfl) ?_
    refine lv_iload_n hx hb dX10_liveOf_28 rfl (lv_at hl 3 rfl) ?_
    obtain ⟨v14, hq13, hf⟩ := xb1_e hf
    refine x_callVi (As := [.int x4]) (rest := [.int x3]) C hm (c_X10_isMarked l E b M Lm x4 hq13) rfl cy_0 tc_X10_isMarked tm_RX10_77 ti_X10_isMarked ts_X10_isMarked tn_RX10 td_X10_isMarked rfl rfl ⟨Nat.le_of_ble_eq_true rfl, Nat.le_of_ble_eq_true rfl⟩ rfl hl.1 rfl (Nat.le_of_ble_eq_true rfl) ⟨Nat.zero_le _, Nat.zero_le _⟩ dX10_liveOf_29 (fun H locs hP15 hm => ?_)
    refine lv_if_eq (tgt := 43) hx hb dX10_liveOf_32 (by decide) (fun hc16 => ?_) (fun hc16 => ?_)
    · have hf := xif_t hc16 hf
      refine lv_iconst (v := (0 : Int32)) hx hb dX10_liveOf_43 (by decide) ?_
      refine lv_iadd hx hb dX10_liveOf_44 ?_
      refine lv_topi (fun v17 ev17 => ?_)
      have hf := xlet_e ev17 hf
      refine lv_istore_n (lv' := [(2, .int v17), (0, .ref (b + 0)), (1, .int x2), (3, .int x4)]) hx hb dX10_liveOf_45 rfl hl (by decide) rfl (fun ls hl => ?_)
      obtain ⟨v18, ev18, hf⟩ := xlet_x hf
      refine lv_iinc (v := v18) (lv' := [(3, .int v18), (2, .int v17), (0, .ref (b + 0)), (1, .int x2)]) hx hb dX10_liveOf_46 hl (k := 3) rfl (by rw [ev18]; rfl) (by decide) rfl (fun ls hl => ?_)
      refine lv_goto (tgt := 7) hx hb dX10_liveOf_49 (by decide) ?_
      exact ih v17 v18 H locs ls hf hm (lv_sub hl [2, 3, 1, 0] rfl)
    have hf := xif_f hc16 hf
    refine lv_aload_n hx hb dX10_liveOf_35 rfl (lv_at hl 0 rfl) ?_
    refine lv_iload_n hx hb dX10_liveOf_36 rfl (lv_at hl 3 rfl) ?_
    obtain ⟨v20, hq19, hf⟩ := xb1_e hf
    refine x_callVi (As := [.int x4]) (rest := [.int x3]) C hm (c_X10_sizeOf l E b M Lm x4 hq19) rfl cy_0 tc_X10_sizeOf tm_RX10_80 ti_X10_sizeOf ts_X10_sizeOf tn_RX10 td_X10_sizeOf rfl rfl ⟨Nat.le_of_ble_eq_true rfl, Nat.le_of_ble_eq_true rfl⟩ rfl hl.1 rfl (Nat.le_of_ble_eq_true rfl) ⟨Nat.zero_le _, Nat.zero_le _⟩ dX10_liveOf_37 (fun H locs hP21 hm => ?_)
    refine lv_goto (tgt := 44) hx hb dX10_liveOf_40 (by decide) ?_
    refine lv_iadd hx hb dX10_liveOf_44 ?_
    refine lv_topi (fun v22 ev22 => ?_)
    have hf := xlet_e ev22 hf
    refine lv_istore_n (lv' := [(2, .int v22), (0, .ref (b + 0)), (1, .int x2), (3, .int x4)]) hx hb dX10_liveOf_45 rfl hl (by decide) rfl (fun ls hl => ?_)
    obtain ⟨v23, ev23, hf⟩ := xlet_x hf
    refine lv_iinc (v := v23) (lv' := [(3, .int v23), (2, .int v22), (0, .ref (b + 0)), (1, .int x2)]) hx hb dX10_liveOf_46 hl (k := 3) rfl (by rw [ev23]; rfl) (by decide) rfl (fun ls hl => ?_)
    refine lv_goto (tgt := 7) hx hb dX10_liveOf_49 (by decide) ?_
    exact ih v22 v23 H locs ls hf hm (lv_sub hl [2, 3, 1, 0] rfl)
set_option maxHeartbeats 4000000 in
set_option maxRecDepth 20000 in
theorem c_X10_liveOf (l : Launch) (E : xE) (b : Nat) (M : xm) (Lm : xn) (a1 : Int32) {r : Int32} (hf : f_X10_liveOf M a1 = some r) :
    xMet l E b NY yX10_liveOf cX10_liveOf 4 (some .int) (xR 4) [.ref (b + 0), .int a1] (cY E b M Lm) (some (.int r)) True (cY E b M Lm) := by
  refine xMet.ofW (own := RX10) (by decide) rfl (Nat.le_of_ble_eq_true rfl) ?_
  intro p e s m below meth c H locs ls C hm hl
  have hx := C.1.1
  have hb := C.1.2.1
  have hl : lv_has ls 4 [(0, .ref (b + 0)), (1, .int a1)] := hl
  unfold f_X10_liveOf at hf
  refine lv_iconst (v := (0 : Int32)) hx hb dX10_liveOf_0 (by decide) ?_
  refine lv_istore_n (lv' := [(2, .int (0 : Int32)), (0, .ref (b + 0)), (1, .int a1)]) hx hb dX10_liveOf_1 rfl hl (by decide) rfl (fun ls hl => ?_)
  refine lv_bipush (v := (8 : Int32)) hx hb dX10_liveOf_2 (by decide) ?_
  refine lv_iload_n hx hb dX10_liveOf_4 rfl (lv_at hl 2 rfl) ?_
  refine lv_imul hx hb dX10_liveOf_5 ?_
  refine lv_topi (fun v1 ev1 => ?_)
  have hf := xlet_e ev1 hf
  refine lv_istore_n (lv' := [(3, .int v1), (2, .int (0 : Int32)), (0, .ref (b + 0)), (1, .int a1)]) hx hb dX10_liveOf_6 rfl hl (by decide) rfl (fun ls hl => ?_)
  obtain ⟨v24, hq, hf⟩ := xb1_e hf
  refine j_X10_liveOf_7 C M a1 (fun H locs ls hm hl => ?_) xfuel (0 : Int32) v1 H locs ls hq hm (lv_sub hl [2, 3, 1, 0] rfl)
  refine lv_iload_n hx hb dX10_liveOf_52 rfl (lv_at hl 0 rfl) ?_
  cases hf
  exact x_iret C hm trivial dX10_liveOf_53
/-! ColouredHeapModel.freePages()I -/
theorem dX10_freePages_0 : decode cX10_freePages 0 = .ok (.iconst 0, 1) := by decide +kernel
theorem dX10_freePages_1 : decode cX10_freePages 1 = .ok (.istore_n 1, 1) := by decide +kernel
theorem dX10_freePages_2 : decode cX10_freePages 2 = .ok (.iconst 0, 1) := by decide +kernel
theorem dX10_freePages_3 : decode cX10_freePages 3 = .ok (.istore_n 2, 1) := by decide +kernel
theorem dX10_freePages_4 : decode cX10_freePages 4 = .ok (.iload_n 2, 1) := by decide +kernel
theorem dX10_freePages_5 : decode cX10_freePages 5 = .ok (.bipush 8, 2) := by decide +kernel
theorem dX10_freePages_7 : decode cX10_freePages 7 = .ok (.if_icmp .ge 31, 3) := by decide +kernel
theorem dX10_freePages_10 : decode cX10_freePages 10 = .ok (.iload_n 1, 1) := by decide +kernel
theorem dX10_freePages_11 : decode cX10_freePages 11 = .ok (.aload_n 0, 1) := by decide +kernel
theorem dX10_freePages_12 : decode cX10_freePages 12 = .ok (.getfield 7, 3) := by decide +kernel
theorem dX10_freePages_15 : decode cX10_freePages 15 = .ok (.bipush 13, 2) := by decide +kernel
theorem dX10_freePages_17 : decode cX10_freePages 17 = .ok (.iload_n 2, 1) := by decide +kernel
theorem dX10_freePages_18 : decode cX10_freePages 18 = .ok (.iadd, 1) := by decide +kernel
theorem dX10_freePages_19 : decode cX10_freePages 19 = .ok (.iaload, 1) := by decide +kernel
theorem dX10_freePages_20 : decode cX10_freePages 20 = .ok (.ifCond .ne 9, 3) := by decide +kernel
theorem dX10_freePages_23 : decode cX10_freePages 23 = .ok (.iconst 1, 1) := by decide +kernel
theorem dX10_freePages_24 : decode cX10_freePages 24 = .ok (.iload_n 2, 1) := by decide +kernel
theorem dX10_freePages_25 : decode cX10_freePages 25 = .ok (.ishl, 1) := by decide +kernel
theorem dX10_freePages_26 : decode cX10_freePages 26 = .ok (.goto 4, 3) := by decide +kernel
theorem dX10_freePages_29 : decode cX10_freePages 29 = .ok (.iconst 0, 1) := by decide +kernel
theorem dX10_freePages_30 : decode cX10_freePages 30 = .ok (.ior, 1) := by decide +kernel
theorem dX10_freePages_31 : decode cX10_freePages 31 = .ok (.istore_n 1, 1) := by decide +kernel
theorem dX10_freePages_32 : decode cX10_freePages 32 = .ok (.iinc 2 1, 3) := by decide +kernel
theorem dX10_freePages_35 : decode cX10_freePages 35 = .ok (.goto (-31), 3) := by decide +kernel
theorem dX10_freePages_38 : decode cX10_freePages 38 = .ok (.iload_n 1, 1) := by decide +kernel
theorem dX10_freePages_39 : decode cX10_freePages 39 = .ok (.ireturn, 1) := by decide +kernel
def g_X10_freePages_4 (M : xm) : Nat → Int32 → Int32 → Option ((Int32))
  | 0, _, _ => none
  | n + 1, x1, x2 => (if (8 : Int32) ≤ x2 then some (x1) else if xin ((13 : Int32) + x2) 9878 = true then (if (M 1 (Int32.toNatClampNeg ((13 : Int32) + x2))) = 0 then xlet (x1 ||| ((1 : Int32) <<< (x2 &&& 31))) (fun v9 => xlet (x2 + (1 : Int32)) (fun v10 => g_X10_freePages_4 M n v9 v10)) else xlet (x1 ||| (0 : Int32)) (fun v7 => xlet (x2 + (1 : Int32)) (fun v8 => g_X10_freePages_4 M n v7 v8))) else none)
def f_X10_freePages (M : xm) : Option (Int32) := xb1 (g_X10_freePages_4 M xfuel (0 : Int32) (0 : Int32)) (fun v11 => some v11)
set_option maxHeartbeats 4000000 in
set_option maxRecDepth 20000 in
theorem j_X10_freePages_4 {p : Program} {l : Launch} {e : Env} {s : State} {m : MethodId} {args : Array Value} {below : List Frame} {meth : Method} {c : Code} {Q : State → Prop} {E : xE} {b : Nat} (C : xC p s m args meth c cX10_freePages 3 RX10 (some .int) E b) (M : xm) {Lm : xn} {y3 : Int32}
    (kx0 : ∀ (H : Heap) (locs : List Loc) (ls : Array Slot), xM E b NY (cY E b M Lm) s.heap H locs → lv_has ls 3 [(1, .int y3)] → W p l e (xR 1) s m args below meth c H locs 0 0 Q (F0 m 38 ls [])) :
    ∀ (n : Nat) (x1 : Int32) (x2 : Int32) (H : Heap) (locs : List Loc) (ls : Array Slot), g_X10_freePages_4 M n x1 x2 = some y3 → xM E b NY (cY E b M Lm) s.heap H locs → lv_has ls 3 [(0, .ref (b + 0)), (1, .int x1), (2, .int x2)] → W p l e (xR 1) s m args below meth c H locs 0 0 Q (F0 m 4 ls []) := by
  have hx := C.1.1
  have hb := C.1.2.1
  intro n
  induction n with
  | zero =>
    intro x1 x2 H locs ls hf hm hl
    rw [g_X10_freePages_4] at hf
    cases hf
  | succ n ih =>
    intro x1 x2 H locs ls hf hm hl
    rw [g_X10_freePages_4] at hf
    refine lv_iload_n hx hb dX10_freePages_4 rfl (lv_at hl 2 rfl) ?_
    refine lv_bipush (v := (8 : Int32)) hx hb dX10_freePages_5 (by decide) ?_
    refine lv_icmp_ge (tgt := 38) hx hb dX10_freePages_7 (by decide) (fun hc4 => ?_) (fun hc4 => ?_)
    · have hf := xif_t hc4 hf
      cases hf
      exact kx0 H locs ls hm (lv_sub hl [1] rfl)
    have hf := xif_f hc4 hf
    refine lv_iload_n hx hb dX10_freePages_10 rfl (lv_at hl 1 rfl) ?_
    refine lv_aload_n hx hb dX10_freePages_11 rfl (lv_at hl 0 rfl) ?_
    refine x_get C hm inX10 rfl 0 (by decide) tf_RX10_7 cy_0 rfl dX10_freePages_12 ?_
    refine lv_bipush (v := (13 : Int32)) hx hb dX10_freePages_15 (by decide) ?_
    refine lv_iload_n hx hb dX10_freePages_17 rfl (lv_at hl 2 rfl) ?_
    refine lv_iadd hx hb dX10_freePages_18 ?_
    obtain ⟨hi5, hf⟩ := xif_s hf
    refine x_iald (j := (Int32.toNatClampNeg ((13 : Int32) + x2))) C hm cy_1 hi5 dX10_freePages_19 rfl ?_
    refine lv_if_ne (tgt := 29) hx hb dX10_freePages_20 (by decide) (fun hc6 => ?_) (fun hc6 => ?_)
    · have hf := xif_f hc6 hf
      refine lv_iconst (v := (0 : Int32)) hx hb dX10_freePages_29 (by decide) ?_
      refine lv_ior hx hb dX10_freePages_30 ?_
      refine lv_topi (fun v7 ev7 => ?_)
      have hf := xlet_e ev7 hf
      refine lv_istore_n (lv' := [(1, .int v7), (0, .ref (b + 0)), (2, .int x2)]) hx hb dX10_freePages_31 rfl hl (by decide) rfl (fun ls hl => ?_)
      obtain ⟨v8, ev8, hf⟩ := xlet_x hf
      refine lv_iinc (v := v8) (lv' := [(2, .int v8), (1, .int v7), (0, .ref (b + 0))]) hx hb dX10_freePages_32 hl (k := 2) rfl (by rw [ev8]; rfl) (by decide) rfl (fun ls hl => ?_)
      refine lv_goto (tgt := 4) hx hb dX10_freePages_35 (by decide) ?_
      exact ih v7 v8 H locs ls hf hm (lv_sub hl [2, 1, 0] rfl)
    have hf := xif_t hc6 hf
    refine lv_iconst (v := (1 : Int32)) hx hb dX10_freePages_23 (by decide) ?_
    refine lv_iload_n hx hb dX10_freePages_24 rfl (lv_at hl 2 rfl) ?_
    refine lv_ishl hx hb dX10_freePages_25 ?_
    refine lv_goto (tgt := 30) hx hb dX10_freePages_26 (by decide) ?_
    refine lv_ior hx hb dX10_freePages_30 ?_
    refine lv_topi (fun v9 ev9 => ?_)
    have hf := xlet_e ev9 hf
    refine lv_istore_n (lv' := [(1, .int v9), (0, .ref (b + 0)), (2, .int x2)]) hx hb dX10_freePages_31 rfl hl (by decide) rfl (fun ls hl => ?_)
    obtain ⟨v10, ev10, hf⟩ := xlet_x hf
    refine lv_iinc (v := v10) (lv' := [(2, .int v10), (1, .int v9), (0, .ref (b + 0))]) hx hb dX10_freePages_32 hl (k := 2) rfl (by rw [ev10]; rfl) (by decide) rfl (fun ls hl => ?_)
    refine lv_goto (tgt := 4) hx hb dX10_freePages_35 (by decide) ?_
    exact ih v9 v10 H locs ls hf hm (lv_sub hl [2, 1, 0] rfl)
set_option maxHeartbeats 4000000 in
set_option maxRecDepth 20000 in
theorem c_X10_freePages (l : Launch) (E : xE) (b : Nat) (M : xm) (Lm : xn) {r : Int32} (hf : f_X10_freePages M = some r) :
    xMet l E b NY yX10_freePages cX10_freePages 3 (some .int) (xR 1) [.ref (b + 0)] (cY E b M Lm) (some (.int r)) True (cY E b M Lm) := by
  refine xMet.ofW (own := RX10) (by decide) rfl (Nat.le_of_ble_eq_true rfl) ?_
  intro p e s m below meth c H locs ls C hm hl
  have hx := C.1.1
  have hb := C.1.2.1
  have hl : lv_has ls 3 [(0, .ref (b + 0))] := hl
  unfold f_X10_freePages at hf
  refine lv_iconst (v := (0 : Int32)) hx hb dX10_freePages_0 (by decide) ?_
  refine lv_istore_n (lv' := [(1, .int (0 : Int32)), (0, .ref (b + 0))]) hx hb dX10_freePages_1 rfl hl (by decide) rfl (fun ls hl => ?_)
  refine lv_iconst (v := (0 : Int32)) hx hb dX10_freePages_2 (by decide) ?_
  refine lv_istore_n (lv' := [(2, .int (0 : Int32)), (1, .int (0 : Int32)), (0, .ref (b + 0))]) hx hb dX10_freePages_3 rfl hl (by decide) rfl (fun ls hl => ?_)
  obtain ⟨v11, hq, hf⟩ := xb1_e hf
  refine j_X10_freePages_4 C M (fun H locs ls hm hl => ?_) xfuel (0 : Int32) (0 : Int32) H locs ls hq hm (lv_sub hl [2, 1, 0] rfl)
  refine lv_iload_n hx hb dX10_freePages_38 rfl (lv_at hl 0 rfl) ?_
  cases hf
  exact x_iret C hm trivial dX10_freePages_39
/-! ColouredHeapModel.name()V -/
theorem dX10_name_0 : decode cX10_name 0 = .ok (.aload_n 0, 1) := by decide +kernel
theorem dX10_name_1 : decode cX10_name 1 = .ok (.getfield 32, 3) := by decide +kernel
theorem dX10_name_4 : decode cX10_name 4 = .ok (.iconst 0, 1) := by decide +kernel
theorem dX10_name_5 : decode cX10_name 5 = .ok (.aload_n 0, 1) := by decide +kernel
theorem dX10_name_6 : decode cX10_name 6 = .ok (.getfield 7, 3) := by decide +kernel
theorem dX10_name_9 : decode cX10_name 9 = .ok (.iconst 4, 1) := by decide +kernel
theorem dX10_name_10 : decode cX10_name 10 = .ok (.iaload, 1) := by decide +kernel
theorem dX10_name_11 : decode cX10_name 11 = .ok (.iastore, 1) := by decide +kernel
theorem dX10_name_12 : decode cX10_name 12 = .ok (.aload_n 0, 1) := by decide +kernel
theorem dX10_name_13 : decode cX10_name 13 = .ok (.getfield 32, 3) := by decide +kernel
theorem dX10_name_16 : decode cX10_name 16 = .ok (.iconst 1, 1) := by decide +kernel
theorem dX10_name_17 : decode cX10_name 17 = .ok (.aload_n 0, 1) := by decide +kernel
theorem dX10_name_18 : decode cX10_name 18 = .ok (.getfield 7, 3) := by decide +kernel
theorem dX10_name_21 : decode cX10_name 21 = .ok (.bipush 6, 2) := by decide +kernel
theorem dX10_name_23 : decode cX10_name 23 = .ok (.iaload, 1) := by decide +kernel
theorem dX10_name_24 : decode cX10_name 24 = .ok (.iastore, 1) := by decide +kernel
theorem dX10_name_25 : decode cX10_name 25 = .ok (.aload_n 0, 1) := by decide +kernel
theorem dX10_name_26 : decode cX10_name 26 = .ok (.getfield 32, 3) := by decide +kernel
theorem dX10_name_29 : decode cX10_name 29 = .ok (.iconst 2, 1) := by decide +kernel
theorem dX10_name_30 : decode cX10_name 30 = .ok (.aload_n 0, 1) := by decide +kernel
theorem dX10_name_31 : decode cX10_name 31 = .ok (.invokevirtual 285, 3) := by decide +kernel
theorem dX10_name_34 : decode cX10_name 34 = .ok (.invokestatic 288, 3) := by decide +kernel
theorem dX10_name_37 : decode cX10_name 37 = .ok (.iastore, 1) := by decide +kernel
theorem dX10_name_38 : decode cX10_name 38 = .ok (.aload_n 0, 1) := by decide +kernel
theorem dX10_name_39 : decode cX10_name 39 = .ok (.getfield 32, 3) := by decide +kernel
theorem dX10_name_42 : decode cX10_name 42 = .ok (.iconst 3, 1) := by decide +kernel
theorem dX10_name_43 : decode cX10_name 43 = .ok (.aload_n 0, 1) := by decide +kernel
theorem dX10_name_44 : decode cX10_name 44 = .ok (.getfield 7, 3) := by decide +kernel
theorem dX10_name_47 : decode cX10_name 47 = .ok (.bipush 8, 2) := by decide +kernel
theorem dX10_name_49 : decode cX10_name 49 = .ok (.iaload, 1) := by decide +kernel
theorem dX10_name_50 : decode cX10_name 50 = .ok (.iastore, 1) := by decide +kernel
theorem dX10_name_51 : decode cX10_name 51 = .ok (.return_, 1) := by decide +kernel
def f_X10_name (M : xm) : Option (xm) := xlet (up2 M 6 0 (M 1 4)) (fun M1 => xlet (up2 M1 6 1 (M1 1 6)) (fun M2 => xb1 (f_X10_freePages M2) (fun v4 => xb1 (f_X10_bits v4) (fun v7 => xlet (up2 M2 6 2 v7) (fun M9 => xlet (up2 M9 6 3 (M9 1 8)) (fun M10 => some M10))))))
set_option maxHeartbeats 4000000 in
set_option maxRecDepth 20000 in
theorem c_X10_name (l : Launch) (E : xE) (b : Nat) (M : xm) (Lm : xn) {M' : xm} (hf : f_X10_name M = some M') :
    xMet l E b NY yX10_name cX10_name 1 none (xR 2) [.ref (b + 0)] (cY E b M Lm) none True (cY E b M' Lm) := by
  refine xMet.ofW (own := RX10) (by decide) rfl (Nat.le_of_ble_eq_true rfl) ?_
  intro p e s m below meth c H locs ls C hm hl
  have hx := C.1.1
  have hb := C.1.2.1
  have hl : lv_has ls 1 [(0, .ref (b + 0))] := hl
  unfold f_X10_name at hf
  refine lv_aload_n hx hb dX10_name_0 rfl (lv_at hl 0 rfl) ?_
  refine x_get C hm inX10 rfl 20 (by decide) tf_RX10_32 cy_0 rfl dX10_name_1 ?_
  refine lv_iconst (v := (0 : Int32)) hx hb dX10_name_4 (by decide) ?_
  refine lv_aload_n hx hb dX10_name_5 rfl (lv_at hl 0 rfl) ?_
  refine x_get C hm inX10 rfl 0 (by decide) tf_RX10_7 cy_0 rfl dX10_name_6 ?_
  refine lv_iconst (v := (4 : Int32)) hx hb dX10_name_9 (by decide) ?_
  refine x_iald (j := 4) C hm cy_1 (by decide) dX10_name_10 (by decide) ?_
  obtain ⟨M1, eM1, hf⟩ := xlet_x hf
  refine x_iast (j := 0) (cf' := cY E b M1 Lm) C hm cy_6 (by decide) dX10_name_11 (by decide) (by rw [eM1]; exact cyu_6) (by rw [eM1]; exact cY_o) (fun H locs hm => ?_)
  refine lv_aload_n hx hb dX10_name_12 rfl (lv_at hl 0 rfl) ?_
  refine x_get C hm inX10 rfl 20 (by decide) tf_RX10_32 cy_0 rfl dX10_name_13 ?_
  refine lv_iconst (v := (1 : Int32)) hx hb dX10_name_16 (by decide) ?_
  refine lv_aload_n hx hb dX10_name_17 rfl (lv_at hl 0 rfl) ?_
  refine x_get C hm inX10 rfl 0 (by decide) tf_RX10_7 cy_0 rfl dX10_name_18 ?_
  refine lv_bipush (v := (6 : Int32)) hx hb dX10_name_21 (by decide) ?_
  refine x_iald (j := 6) C hm cy_1 (by decide) dX10_name_23 (by decide) ?_
  obtain ⟨M2, eM2, hf⟩ := xlet_x hf
  refine x_iast (j := 1) (cf' := cY E b M2 Lm) C hm cy_6 (by decide) dX10_name_24 (by decide) (by rw [eM2]; exact cyu_6) (by rw [eM2]; exact cY_o) (fun H locs hm => ?_)
  refine lv_aload_n hx hb dX10_name_25 rfl (lv_at hl 0 rfl) ?_
  refine x_get C hm inX10 rfl 20 (by decide) tf_RX10_32 cy_0 rfl dX10_name_26 ?_
  refine lv_iconst (v := (2 : Int32)) hx hb dX10_name_29 (by decide) ?_
  refine lv_aload_n hx hb dX10_name_30 rfl (lv_at hl 0 rfl) ?_
  obtain ⟨v4, hq3, hf⟩ := xb1_e hf
  refine x_callVi (As := []) (rest := [.int (2 : Int32), .ref (b + 6)]) C hm (c_X10_freePages l E b M2 Lm hq3) rfl cy_0 tc_X10_freePages tm_RX10_285 ti_X10_freePages ts_X10_freePages tn_RX10 td_X10_freePages rfl rfl ⟨Nat.le_of_ble_eq_true rfl, Nat.le_of_ble_eq_true rfl⟩ rfl hl.1 rfl (Nat.le_of_ble_eq_true rfl) ⟨Nat.zero_le _, Nat.zero_le _⟩ dX10_name_31 (fun H locs hP5 hm => ?_)
  obtain ⟨v7, hq6, hf⟩ := xb1_e hf
  refine x_callSi (As := [.int v4]) (rest := [.int (2 : Int32), .ref (b + 6)]) C hm (c_X10_bits l E b M2 Lm v4 hq6) tc_X10_bits tm_RX10_288 tz_X10_bits tn_RX10 td_X10_bits rfl rfl ⟨Nat.le_of_ble_eq_true rfl, Nat.le_of_ble_eq_true rfl⟩ rfl hl.1 rfl (Nat.le_of_ble_eq_true rfl) ⟨Nat.zero_le _, Nat.zero_le _⟩ dX10_name_34 (fun H locs hP8 hm => ?_)
  obtain ⟨M9, eM9, hf⟩ := xlet_x hf
  refine x_iast (j := 2) (cf' := cY E b M9 Lm) C hm cy_6 (by decide) dX10_name_37 (by decide) (by rw [eM9]; exact cyu_6) (by rw [eM9]; exact cY_o) (fun H locs hm => ?_)
  refine lv_aload_n hx hb dX10_name_38 rfl (lv_at hl 0 rfl) ?_
  refine x_get C hm inX10 rfl 20 (by decide) tf_RX10_32 cy_0 rfl dX10_name_39 ?_
  refine lv_iconst (v := (3 : Int32)) hx hb dX10_name_42 (by decide) ?_
  refine lv_aload_n hx hb dX10_name_43 rfl (lv_at hl 0 rfl) ?_
  refine x_get C hm inX10 rfl 0 (by decide) tf_RX10_7 cy_0 rfl dX10_name_44 ?_
  refine lv_bipush (v := (8 : Int32)) hx hb dX10_name_47 (by decide) ?_
  refine x_iald (j := 8) C hm cy_1 (by decide) dX10_name_49 (by decide) ?_
  obtain ⟨M10, eM10, hf⟩ := xlet_x hf
  refine x_iast (j := 3) (cf' := cY E b M10 Lm) C hm cy_6 (by decide) dX10_name_50 (by decide) (by rw [eM10]; exact cyu_6) (by rw [eM10]; exact cY_o) (fun H locs hm => ?_)
  cases hf
  exact x_vret C hm trivial dX10_name_51
/-! ColouredHeapModel.isAsked(IJJ)Z -/
theorem dX10_isAsked_0 : decode cX10_isAsked 0 = .ok (.iload_n 0, 1) := by decide +kernel
theorem dX10_isAsked_1 : decode cX10_isAsked 1 = .ok (.bipush 10, 2) := by decide +kernel
theorem dX10_isAsked_3 : decode cX10_isAsked 3 = .ok (.if_icmp .ne 17, 3) := by decide +kernel
theorem dX10_isAsked_6 : decode cX10_isAsked 6 = .ok (.lload_n 1, 1) := by decide +kernel
theorem dX10_isAsked_7 : decode cX10_isAsked 7 = .ok (.lload_n 3, 1) := by decide +kernel
theorem dX10_isAsked_8 : decode cX10_isAsked 8 = .ok (.lcmp, 1) := by decide +kernel
theorem dX10_isAsked_9 : decode cX10_isAsked 9 = .ok (.ifCond .ge 7, 3) := by decide +kernel
theorem dX10_isAsked_12 : decode cX10_isAsked 12 = .ok (.iconst 1, 1) := by decide +kernel
theorem dX10_isAsked_13 : decode cX10_isAsked 13 = .ok (.goto 98, 3) := by decide +kernel
theorem dX10_isAsked_16 : decode cX10_isAsked 16 = .ok (.iconst 0, 1) := by decide +kernel
theorem dX10_isAsked_17 : decode cX10_isAsked 17 = .ok (.goto 94, 3) := by decide +kernel
theorem dX10_isAsked_20 : decode cX10_isAsked 20 = .ok (.iload_n 0, 1) := by decide +kernel
theorem dX10_isAsked_21 : decode cX10_isAsked 21 = .ok (.bipush 11, 2) := by decide +kernel
theorem dX10_isAsked_23 : decode cX10_isAsked 23 = .ok (.if_icmp .ne 17, 3) := by decide +kernel
theorem dX10_isAsked_26 : decode cX10_isAsked 26 = .ok (.lload_n 1, 1) := by decide +kernel
theorem dX10_isAsked_27 : decode cX10_isAsked 27 = .ok (.lload_n 3, 1) := by decide +kernel
theorem dX10_isAsked_28 : decode cX10_isAsked 28 = .ok (.lcmp, 1) := by decide +kernel
theorem dX10_isAsked_29 : decode cX10_isAsked 29 = .ok (.ifCond .gt 7, 3) := by decide +kernel
theorem dX10_isAsked_32 : decode cX10_isAsked 32 = .ok (.iconst 1, 1) := by decide +kernel
theorem dX10_isAsked_33 : decode cX10_isAsked 33 = .ok (.goto 78, 3) := by decide +kernel
theorem dX10_isAsked_36 : decode cX10_isAsked 36 = .ok (.iconst 0, 1) := by decide +kernel
theorem dX10_isAsked_37 : decode cX10_isAsked 37 = .ok (.goto 74, 3) := by decide +kernel
theorem dX10_isAsked_40 : decode cX10_isAsked 40 = .ok (.iload_n 0, 1) := by decide +kernel
theorem dX10_isAsked_41 : decode cX10_isAsked 41 = .ok (.bipush 12, 2) := by decide +kernel
theorem dX10_isAsked_43 : decode cX10_isAsked 43 = .ok (.if_icmp .ne 17, 3) := by decide +kernel
theorem dX10_isAsked_46 : decode cX10_isAsked 46 = .ok (.lload_n 1, 1) := by decide +kernel
theorem dX10_isAsked_47 : decode cX10_isAsked 47 = .ok (.lload_n 3, 1) := by decide +kernel
theorem dX10_isAsked_48 : decode cX10_isAsked 48 = .ok (.lcmp, 1) := by decide +kernel
theorem dX10_isAsked_49 : decode cX10_isAsked 49 = .ok (.ifCond .le 7, 3) := by decide +kernel
theorem dX10_isAsked_52 : decode cX10_isAsked 52 = .ok (.iconst 1, 1) := by decide +kernel
theorem dX10_isAsked_53 : decode cX10_isAsked 53 = .ok (.goto 58, 3) := by decide +kernel
theorem dX10_isAsked_56 : decode cX10_isAsked 56 = .ok (.iconst 0, 1) := by decide +kernel
theorem dX10_isAsked_57 : decode cX10_isAsked 57 = .ok (.goto 54, 3) := by decide +kernel
theorem dX10_isAsked_60 : decode cX10_isAsked 60 = .ok (.iload_n 0, 1) := by decide +kernel
theorem dX10_isAsked_61 : decode cX10_isAsked 61 = .ok (.bipush 13, 2) := by decide +kernel
theorem dX10_isAsked_63 : decode cX10_isAsked 63 = .ok (.if_icmp .ne 17, 3) := by decide +kernel
theorem dX10_isAsked_66 : decode cX10_isAsked 66 = .ok (.lload_n 1, 1) := by decide +kernel
theorem dX10_isAsked_67 : decode cX10_isAsked 67 = .ok (.lload_n 3, 1) := by decide +kernel
theorem dX10_isAsked_68 : decode cX10_isAsked 68 = .ok (.lcmp, 1) := by decide +kernel
theorem dX10_isAsked_69 : decode cX10_isAsked 69 = .ok (.ifCond .lt 7, 3) := by decide +kernel
theorem dX10_isAsked_72 : decode cX10_isAsked 72 = .ok (.iconst 1, 1) := by decide +kernel
theorem dX10_isAsked_73 : decode cX10_isAsked 73 = .ok (.goto 38, 3) := by decide +kernel
theorem dX10_isAsked_76 : decode cX10_isAsked 76 = .ok (.iconst 0, 1) := by decide +kernel
theorem dX10_isAsked_77 : decode cX10_isAsked 77 = .ok (.goto 34, 3) := by decide +kernel
theorem dX10_isAsked_80 : decode cX10_isAsked 80 = .ok (.iload_n 0, 1) := by decide +kernel
theorem dX10_isAsked_81 : decode cX10_isAsked 81 = .ok (.bipush 14, 2) := by decide +kernel
theorem dX10_isAsked_83 : decode cX10_isAsked 83 = .ok (.if_icmp .ne 17, 3) := by decide +kernel
theorem dX10_isAsked_86 : decode cX10_isAsked 86 = .ok (.lload_n 1, 1) := by decide +kernel
theorem dX10_isAsked_87 : decode cX10_isAsked 87 = .ok (.lload_n 3, 1) := by decide +kernel
theorem dX10_isAsked_88 : decode cX10_isAsked 88 = .ok (.lcmp, 1) := by decide +kernel
theorem dX10_isAsked_89 : decode cX10_isAsked 89 = .ok (.ifCond .ne 7, 3) := by decide +kernel
theorem dX10_isAsked_92 : decode cX10_isAsked 92 = .ok (.iconst 1, 1) := by decide +kernel
theorem dX10_isAsked_93 : decode cX10_isAsked 93 = .ok (.goto 18, 3) := by decide +kernel
theorem dX10_isAsked_96 : decode cX10_isAsked 96 = .ok (.iconst 0, 1) := by decide +kernel
theorem dX10_isAsked_97 : decode cX10_isAsked 97 = .ok (.goto 14, 3) := by decide +kernel
theorem dX10_isAsked_100 : decode cX10_isAsked 100 = .ok (.lload_n 1, 1) := by decide +kernel
theorem dX10_isAsked_101 : decode cX10_isAsked 101 = .ok (.lload_n 3, 1) := by decide +kernel
theorem dX10_isAsked_102 : decode cX10_isAsked 102 = .ok (.lcmp, 1) := by decide +kernel
theorem dX10_isAsked_103 : decode cX10_isAsked 103 = .ok (.ifCond .eq 7, 3) := by decide +kernel
theorem dX10_isAsked_106 : decode cX10_isAsked 106 = .ok (.iconst 1, 1) := by decide +kernel
theorem dX10_isAsked_107 : decode cX10_isAsked 107 = .ok (.goto 4, 3) := by decide +kernel
theorem dX10_isAsked_110 : decode cX10_isAsked 110 = .ok (.iconst 0, 1) := by decide +kernel
theorem dX10_isAsked_111 : decode cX10_isAsked 111 = .ok (.ireturn, 1) := by decide +kernel
def f_X10_isAsked (a0 : Int32) (a1 : Int64) (a2 : Int64) : Int32 := (if a0 = (10 : Int32) then (if 0 ≤ (lg_cmp a1 a2) then (0 : Int32) else (1 : Int32)) else (if a0 = (11 : Int32) then (if 0 < (lg_cmp a1 a2) then (0 : Int32) else (1 : Int32)) else (if a0 = (12 : Int32) then (if (lg_cmp a1 a2) ≤ 0 then (0 : Int32) else (1 : Int32)) else (if a0 = (13 : Int32) then (if (lg_cmp a1 a2) < 0 then (0 : Int32) else (1 : Int32)) else (if a0 = (14 : Int32) then (if (lg_cmp a1 a2) = 0 then (1 : Int32) else (0 : Int32)) else (if (lg_cmp a1 a2) = 0 then (0 : Int32) else (1 : Int32)))))))
set_option maxHeartbeats 4000000 in
set_option maxRecDepth 20000 in
theorem c_X10_isAsked (l : Launch) (E : xE) (b : Nat) (M : xm) (Lm : xn) (a0 : Int32) (a1 : Int64) (a2 : Int64) {r : Int32} (hf : f_X10_isAsked a0 a1 a2 = r) :
    xMet l E b NY yX10_isAsked cX10_isAsked 5 (some .boolean) (xR 1) [.int a0, .long a1, .long a2] (cY E b M Lm) (some (.int r)) (xbo r = true) (cY E b M Lm) := by
  refine xMet.ofW (own := RX10) (by decide) rfl (Nat.le_of_ble_eq_true rfl) ?_
  intro p e s m below meth c H locs ls C hm hl
  have hx := C.1.1
  have hb := C.1.2.1
  have hl : lv_has ls 5 [(0, .int a0), (1, .long a1), (3, .long a2)] := hl
  unfold f_X10_isAsked at hf
  refine lv_iload_n hx hb dX10_isAsked_0 rfl (lv_at hl 0 rfl) ?_
  refine lv_bipush (v := (10 : Int32)) hx hb dX10_isAsked_1 (by decide) ?_
  refine lv_icmp_ne (tgt := 20) hx hb dX10_isAsked_3 (by decide) (fun hc1 => ?_) (fun hc1 => ?_)
  rotate_left
  · have hf := xif_t hc1 hf
    refine lv_lload_n hx hb dX10_isAsked_6 rfl (lv_at hl 1 rfl) ?_
    refine lv_lload_n hx hb dX10_isAsked_7 rfl (lv_at hl 2 rfl) ?_
    refine W.lcmp hx hb dX10_isAsked_8 ?_
    refine lv_if_ge (tgt := 16) hx hb dX10_isAsked_9 (by decide) (fun hc11 => ?_) (fun hc11 => ?_)
    · have hf := xif_t hc11 hf
      refine lv_iconst (v := (0 : Int32)) hx hb dX10_isAsked_16 (by decide) ?_
      refine lv_goto (tgt := 111) hx hb dX10_isAsked_17 (by decide) ?_
      cases hf
      exact x_zret C hm (by decide) (by decide) dX10_isAsked_111
    have hf := xif_f hc11 hf
    refine lv_iconst (v := (1 : Int32)) hx hb dX10_isAsked_12 (by decide) ?_
    refine lv_goto (tgt := 111) hx hb dX10_isAsked_13 (by decide) ?_
    cases hf
    exact x_zret C hm (by decide) (by decide) dX10_isAsked_111
  have hf := xif_f hc1 hf
  refine lv_iload_n hx hb dX10_isAsked_20 rfl (lv_at hl 0 rfl) ?_
  refine lv_bipush (v := (11 : Int32)) hx hb dX10_isAsked_21 (by decide) ?_
  refine lv_icmp_ne (tgt := 40) hx hb dX10_isAsked_23 (by decide) (fun hc2 => ?_) (fun hc2 => ?_)
  rotate_left
  · have hf := xif_t hc2 hf
    refine lv_lload_n hx hb dX10_isAsked_26 rfl (lv_at hl 1 rfl) ?_
    refine lv_lload_n hx hb dX10_isAsked_27 rfl (lv_at hl 2 rfl) ?_
    refine W.lcmp hx hb dX10_isAsked_28 ?_
    refine lv_if_gt (tgt := 36) hx hb dX10_isAsked_29 (by decide) (fun hc10 => ?_) (fun hc10 => ?_)
    · have hf := xif_t hc10 hf
      refine lv_iconst (v := (0 : Int32)) hx hb dX10_isAsked_36 (by decide) ?_
      refine lv_goto (tgt := 111) hx hb dX10_isAsked_37 (by decide) ?_
      cases hf
      exact x_zret C hm (by decide) (by decide) dX10_isAsked_111
    have hf := xif_f hc10 hf
    refine lv_iconst (v := (1 : Int32)) hx hb dX10_isAsked_32 (by decide) ?_
    refine lv_goto (tgt := 111) hx hb dX10_isAsked_33 (by decide) ?_
    cases hf
    exact x_zret C hm (by decide) (by decide) dX10_isAsked_111
  have hf := xif_f hc2 hf
  refine lv_iload_n hx hb dX10_isAsked_40 rfl (lv_at hl 0 rfl) ?_
  refine lv_bipush (v := (12 : Int32)) hx hb dX10_isAsked_41 (by decide) ?_
  refine lv_icmp_ne (tgt := 60) hx hb dX10_isAsked_43 (by decide) (fun hc3 => ?_) (fun hc3 => ?_)
  rotate_left
  · have hf := xif_t hc3 hf
    refine lv_lload_n hx hb dX10_isAsked_46 rfl (lv_at hl 1 rfl) ?_
    refine lv_lload_n hx hb dX10_isAsked_47 rfl (lv_at hl 2 rfl) ?_
    refine W.lcmp hx hb dX10_isAsked_48 ?_
    refine lv_if_le (tgt := 56) hx hb dX10_isAsked_49 (by decide) (fun hc9 => ?_) (fun hc9 => ?_)
    · have hf := xif_t hc9 hf
      refine lv_iconst (v := (0 : Int32)) hx hb dX10_isAsked_56 (by decide) ?_
      refine lv_goto (tgt := 111) hx hb dX10_isAsked_57 (by decide) ?_
      cases hf
      exact x_zret C hm (by decide) (by decide) dX10_isAsked_111
    have hf := xif_f hc9 hf
    refine lv_iconst (v := (1 : Int32)) hx hb dX10_isAsked_52 (by decide) ?_
    refine lv_goto (tgt := 111) hx hb dX10_isAsked_53 (by decide) ?_
    cases hf
    exact x_zret C hm (by decide) (by decide) dX10_isAsked_111
  have hf := xif_f hc3 hf
  refine lv_iload_n hx hb dX10_isAsked_60 rfl (lv_at hl 0 rfl) ?_
  refine lv_bipush (v := (13 : Int32)) hx hb dX10_isAsked_61 (by decide) ?_
  refine lv_icmp_ne (tgt := 80) hx hb dX10_isAsked_63 (by decide) (fun hc4 => ?_) (fun hc4 => ?_)
  rotate_left
  · have hf := xif_t hc4 hf
    refine lv_lload_n hx hb dX10_isAsked_66 rfl (lv_at hl 1 rfl) ?_
    refine lv_lload_n hx hb dX10_isAsked_67 rfl (lv_at hl 2 rfl) ?_
    refine W.lcmp hx hb dX10_isAsked_68 ?_
    refine lv_if_lt (tgt := 76) hx hb dX10_isAsked_69 (by decide) (fun hc8 => ?_) (fun hc8 => ?_)
    · have hf := xif_t hc8 hf
      refine lv_iconst (v := (0 : Int32)) hx hb dX10_isAsked_76 (by decide) ?_
      refine lv_goto (tgt := 111) hx hb dX10_isAsked_77 (by decide) ?_
      cases hf
      exact x_zret C hm (by decide) (by decide) dX10_isAsked_111
    have hf := xif_f hc8 hf
    refine lv_iconst (v := (1 : Int32)) hx hb dX10_isAsked_72 (by decide) ?_
    refine lv_goto (tgt := 111) hx hb dX10_isAsked_73 (by decide) ?_
    cases hf
    exact x_zret C hm (by decide) (by decide) dX10_isAsked_111
  have hf := xif_f hc4 hf
  refine lv_iload_n hx hb dX10_isAsked_80 rfl (lv_at hl 0 rfl) ?_
  refine lv_bipush (v := (14 : Int32)) hx hb dX10_isAsked_81 (by decide) ?_
  refine lv_icmp_ne (tgt := 100) hx hb dX10_isAsked_83 (by decide) (fun hc5 => ?_) (fun hc5 => ?_)
  · have hf := xif_f hc5 hf
    refine lv_lload_n hx hb dX10_isAsked_100 rfl (lv_at hl 1 rfl) ?_
    refine lv_lload_n hx hb dX10_isAsked_101 rfl (lv_at hl 2 rfl) ?_
    refine W.lcmp hx hb dX10_isAsked_102 ?_
    refine lv_if_eq (tgt := 110) hx hb dX10_isAsked_103 (by decide) (fun hc6 => ?_) (fun hc6 => ?_)
    · have hf := xif_t hc6 hf
      refine lv_iconst (v := (0 : Int32)) hx hb dX10_isAsked_110 (by decide) ?_
      cases hf
      exact x_zret C hm (by decide) (by decide) dX10_isAsked_111
    have hf := xif_f hc6 hf
    refine lv_iconst (v := (1 : Int32)) hx hb dX10_isAsked_106 (by decide) ?_
    refine lv_goto (tgt := 111) hx hb dX10_isAsked_107 (by decide) ?_
    cases hf
    exact x_zret C hm (by decide) (by decide) dX10_isAsked_111
  have hf := xif_t hc5 hf
  refine lv_lload_n hx hb dX10_isAsked_86 rfl (lv_at hl 1 rfl) ?_
  refine lv_lload_n hx hb dX10_isAsked_87 rfl (lv_at hl 2 rfl) ?_
  refine W.lcmp hx hb dX10_isAsked_88 ?_
  refine lv_if_ne (tgt := 96) hx hb dX10_isAsked_89 (by decide) (fun hc7 => ?_) (fun hc7 => ?_)
  · have hf := xif_f hc7 hf
    refine lv_iconst (v := (0 : Int32)) hx hb dX10_isAsked_96 (by decide) ?_
    refine lv_goto (tgt := 111) hx hb dX10_isAsked_97 (by decide) ?_
    cases hf
    exact x_zret C hm (by decide) (by decide) dX10_isAsked_111
  have hf := xif_t hc7 hf
  refine lv_iconst (v := (1 : Int32)) hx hb dX10_isAsked_92 (by decide) ?_
  refine lv_goto (tgt := 111) hx hb dX10_isAsked_93 (by decide) ?_
  cases hf
  exact x_zret C hm (by decide) (by decide) dX10_isAsked_111
/-! ColouredHeapModel.joined(IZZ)Z -/
theorem dX10_joined_0 : decode cX10_joined 0 = .ok (.iload_n 0, 1) := by decide +kernel
theorem dX10_joined_1 : decode cX10_joined 1 = .ok (.bipush 21, 2) := by decide +kernel
theorem dX10_joined_3 : decode cX10_joined 3 = .ok (.if_icmp .ne 19, 3) := by decide +kernel
theorem dX10_joined_6 : decode cX10_joined 6 = .ok (.iload_n 1, 1) := by decide +kernel
theorem dX10_joined_7 : decode cX10_joined 7 = .ok (.ifCond .eq 11, 3) := by decide +kernel
theorem dX10_joined_10 : decode cX10_joined 10 = .ok (.iload_n 2, 1) := by decide +kernel
theorem dX10_joined_11 : decode cX10_joined 11 = .ok (.ifCond .eq 7, 3) := by decide +kernel
theorem dX10_joined_14 : decode cX10_joined 14 = .ok (.iconst 1, 1) := by decide +kernel
theorem dX10_joined_15 : decode cX10_joined 15 = .ok (.goto 20, 3) := by decide +kernel
theorem dX10_joined_18 : decode cX10_joined 18 = .ok (.iconst 0, 1) := by decide +kernel
theorem dX10_joined_19 : decode cX10_joined 19 = .ok (.goto 16, 3) := by decide +kernel
theorem dX10_joined_22 : decode cX10_joined 22 = .ok (.iload_n 1, 1) := by decide +kernel
theorem dX10_joined_23 : decode cX10_joined 23 = .ok (.ifCond .ne 7, 3) := by decide +kernel
theorem dX10_joined_26 : decode cX10_joined 26 = .ok (.iload_n 2, 1) := by decide +kernel
theorem dX10_joined_27 : decode cX10_joined 27 = .ok (.ifCond .eq 7, 3) := by decide +kernel
theorem dX10_joined_30 : decode cX10_joined 30 = .ok (.iconst 1, 1) := by decide +kernel
theorem dX10_joined_31 : decode cX10_joined 31 = .ok (.goto 4, 3) := by decide +kernel
theorem dX10_joined_34 : decode cX10_joined 34 = .ok (.iconst 0, 1) := by decide +kernel
theorem dX10_joined_35 : decode cX10_joined 35 = .ok (.ireturn, 1) := by decide +kernel
def f_X10_joined (a0 : Int32) (a1 : Int32) (a2 : Int32) : Int32 := (if a0 = (21 : Int32) then (if a1 = 0 then (0 : Int32) else (if a2 = 0 then (0 : Int32) else (1 : Int32))) else (if a1 = 0 then (if a2 = 0 then (0 : Int32) else (1 : Int32)) else (1 : Int32)))
set_option maxHeartbeats 4000000 in
set_option maxRecDepth 20000 in
theorem c_X10_joined (l : Launch) (E : xE) (b : Nat) (M : xm) (Lm : xn) (a0 : Int32) (a1 : Int32) (a2 : Int32) {r : Int32} (hf : f_X10_joined a0 a1 a2 = r) :
    xMet l E b NY yX10_joined cX10_joined 3 (some .boolean) (xR 1) [.int a0, .int a1, .int a2] (cY E b M Lm) (some (.int r)) (xbo r = true) (cY E b M Lm) := by
  refine xMet.ofW (own := RX10) (by decide) rfl (Nat.le_of_ble_eq_true rfl) ?_
  intro p e s m below meth c H locs ls C hm hl
  have hx := C.1.1
  have hb := C.1.2.1
  have hl : lv_has ls 3 [(0, .int a0), (1, .int a1), (2, .int a2)] := hl
  unfold f_X10_joined at hf
  refine lv_iload_n hx hb dX10_joined_0 rfl (lv_at hl 0 rfl) ?_
  refine lv_bipush (v := (21 : Int32)) hx hb dX10_joined_1 (by decide) ?_
  refine lv_icmp_ne (tgt := 22) hx hb dX10_joined_3 (by decide) (fun hc1 => ?_) (fun hc1 => ?_)
  · have hf := xif_f hc1 hf
    refine lv_iload_n hx hb dX10_joined_22 rfl (lv_at hl 1 rfl) ?_
    refine lv_if_ne (tgt := 30) hx hb dX10_joined_23 (by decide) (fun hc2 => ?_) (fun hc2 => ?_)
    · have hf := xif_f hc2 hf
      refine lv_iconst (v := (1 : Int32)) hx hb dX10_joined_30 (by decide) ?_
      refine lv_goto (tgt := 35) hx hb dX10_joined_31 (by decide) ?_
      cases hf
      exact x_zret C hm (by decide) (by decide) dX10_joined_35
    have hf := xif_t hc2 hf
    refine lv_iload_n hx hb dX10_joined_26 rfl (lv_at hl 2 rfl) ?_
    refine lv_if_eq (tgt := 34) hx hb dX10_joined_27 (by decide) (fun hc3 => ?_) (fun hc3 => ?_)
    · have hf := xif_t hc3 hf
      refine lv_iconst (v := (0 : Int32)) hx hb dX10_joined_34 (by decide) ?_
      cases hf
      exact x_zret C hm (by decide) (by decide) dX10_joined_35
    have hf := xif_f hc3 hf
    refine lv_iconst (v := (1 : Int32)) hx hb dX10_joined_30 (by decide) ?_
    refine lv_goto (tgt := 35) hx hb dX10_joined_31 (by decide) ?_
    cases hf
    exact x_zret C hm (by decide) (by decide) dX10_joined_35
  have hf := xif_t hc1 hf
  refine lv_iload_n hx hb dX10_joined_6 rfl (lv_at hl 1 rfl) ?_
  refine lv_if_eq (tgt := 18) hx hb dX10_joined_7 (by decide) (fun hc4 => ?_) (fun hc4 => ?_)
  · have hf := xif_t hc4 hf
    refine lv_iconst (v := (0 : Int32)) hx hb dX10_joined_18 (by decide) ?_
    refine lv_goto (tgt := 35) hx hb dX10_joined_19 (by decide) ?_
    cases hf
    exact x_zret C hm (by decide) (by decide) dX10_joined_35
  have hf := xif_f hc4 hf
  refine lv_iload_n hx hb dX10_joined_10 rfl (lv_at hl 2 rfl) ?_
  refine lv_if_eq (tgt := 18) hx hb dX10_joined_11 (by decide) (fun hc5 => ?_) (fun hc5 => ?_)
  · have hf := xif_t hc5 hf
    refine lv_iconst (v := (0 : Int32)) hx hb dX10_joined_18 (by decide) ?_
    refine lv_goto (tgt := 35) hx hb dX10_joined_19 (by decide) ?_
    cases hf
    exact x_zret C hm (by decide) (by decide) dX10_joined_35
  have hf := xif_f hc5 hf
  refine lv_iconst (v := (1 : Int32)) hx hb dX10_joined_14 (by decide) ?_
  refine lv_goto (tgt := 35) hx hb dX10_joined_15 (by decide) ?_
  cases hf
  exact x_zret C hm (by decide) (by decide) dX10_joined_35
/-! ColouredHeapModel.ofOne(IJ)J -/
theorem dX10_ofOne_0 : decode cX10_ofOne 0 = .ok (.iload_n 1, 1) := by decide +kernel
theorem dX10_ofOne_1 : decode cX10_ofOne 1 = .ok (.iconst 5, 1) := by decide +kernel
theorem dX10_ofOne_2 : decode cX10_ofOne 2 = .ok (.if_icmp .ne 6, 3) := by decide +kernel
theorem dX10_ofOne_5 : decode cX10_ofOne 5 = .ok (.lload_n 2, 1) := by decide +kernel
theorem dX10_ofOne_6 : decode cX10_ofOne 6 = .ok (.lneg, 1) := by decide +kernel
theorem dX10_ofOne_7 : decode cX10_ofOne 7 = .ok (.lreturn, 1) := by decide +kernel
theorem dX10_ofOne_8 : decode cX10_ofOne 8 = .ok (.lload_n 2, 1) := by decide +kernel
theorem dX10_ofOne_9 : decode cX10_ofOne 9 = .ok (.lconst 0, 1) := by decide +kernel
theorem dX10_ofOne_10 : decode cX10_ofOne 10 = .ok (.lcmp, 1) := by decide +kernel
theorem dX10_ofOne_11 : decode cX10_ofOne 11 = .ok (.ifCond .lt 11, 3) := by decide +kernel
theorem dX10_ofOne_14 : decode cX10_ofOne 14 = .ok (.lload_n 2, 1) := by decide +kernel
theorem dX10_ofOne_15 : decode cX10_ofOne 15 = .ok (.ldc2_w 264, 3) := by decide +kernel
theorem dX10_ofOne_18 : decode cX10_ofOne 18 = .ok (.lcmp, 1) := by decide +kernel
theorem dX10_ofOne_19 : decode cX10_ofOne 19 = .ok (.ifCond .lt 5, 3) := by decide +kernel
theorem dX10_ofOne_22 : decode cX10_ofOne 22 = .ok (.lconst 0, 1) := by decide +kernel
theorem dX10_ofOne_23 : decode cX10_ofOne 23 = .ok (.lreturn, 1) := by decide +kernel
theorem dX10_ofOne_24 : decode cX10_ofOne 24 = .ok (.iload_n 1, 1) := by decide +kernel
theorem dX10_ofOne_25 : decode cX10_ofOne 25 = .ok (.iconst 2, 1) := by decide +kernel
theorem dX10_ofOne_26 : decode cX10_ofOne 26 = .ok (.if_icmp .ne 13, 3) := by decide +kernel
theorem dX10_ofOne_29 : decode cX10_ofOne 29 = .ok (.aload_n 0, 1) := by decide +kernel
theorem dX10_ofOne_30 : decode cX10_ofOne 30 = .ok (.lload_n 2, 1) := by decide +kernel
theorem dX10_ofOne_31 : decode cX10_ofOne 31 = .ok (.l2i, 1) := by decide +kernel
theorem dX10_ofOne_32 : decode cX10_ofOne 32 = .ok (.invokevirtual 266, 3) := by decide +kernel
theorem dX10_ofOne_35 : decode cX10_ofOne 35 = .ok (.i2l, 1) := by decide +kernel
theorem dX10_ofOne_36 : decode cX10_ofOne 36 = .ok (.goto 14, 3) := by decide +kernel
theorem dX10_ofOne_39 : decode cX10_ofOne 39 = .ok (.aload_n 0, 1) := by decide +kernel
theorem dX10_ofOne_40 : decode cX10_ofOne 40 = .ok (.getfield 7, 3) := by decide +kernel
theorem dX10_ofOne_43 : decode cX10_ofOne 43 = .ok (.bipush 21, 2) := by decide +kernel
theorem dX10_ofOne_45 : decode cX10_ofOne 45 = .ok (.lload_n 2, 1) := by decide +kernel
theorem dX10_ofOne_46 : decode cX10_ofOne 46 = .ok (.l2i, 1) := by decide +kernel
theorem dX10_ofOne_47 : decode cX10_ofOne 47 = .ok (.iadd, 1) := by decide +kernel
theorem dX10_ofOne_48 : decode cX10_ofOne 48 = .ok (.iaload, 1) := by decide +kernel
theorem dX10_ofOne_49 : decode cX10_ofOne 49 = .ok (.i2l, 1) := by decide +kernel
theorem dX10_ofOne_50 : decode cX10_ofOne 50 = .ok (.lreturn, 1) := by decide +kernel
def f_X10_ofOne (M : xm) (a1 : Int32) (a2 : Int64) : Option (Int64) := (if a1 = (5 : Int32) then some (-a2) else (if (lg_cmp a2 (0 : Int64)) < 0 then some (0 : Int64) else (if (lg_cmp a2 (8 : Int64)) < 0 then (if a1 = (2 : Int32) then xb1 (f_X10_liveOf M (a2.toInt32)) (fun v7 => some (v7.toInt64)) else if xin ((21 : Int32) + (a2.toInt32)) 9878 = true then some ((M 1 (Int32.toNatClampNeg ((21 : Int32) + (a2.toInt32)))).toInt64) else none) else some (0 : Int64))))
set_option maxHeartbeats 4000000 in
set_option maxRecDepth 20000 in
theorem c_X10_ofOne (l : Launch) (E : xE) (b : Nat) (M : xm) (Lm : xn) (a1 : Int32) (a2 : Int64) {r : Int64} (hf : f_X10_ofOne M a1 a2 = some r) :
    xMet l E b NY yX10_ofOne cX10_ofOne 4 (some .long) (xR 5) [.ref (b + 0), .int a1, .long a2] (cY E b M Lm) (some (.long r)) True (cY E b M Lm) := by
  refine xMet.ofW (own := RX10) (by decide) rfl (Nat.le_of_ble_eq_true rfl) ?_
  intro p e s m below meth c H locs ls C hm hl
  have hx := C.1.1
  have hb := C.1.2.1
  have hl : lv_has ls 4 [(0, .ref (b + 0)), (1, .int a1), (2, .long a2)] := hl
  unfold f_X10_ofOne at hf
  refine lv_iload_n hx hb dX10_ofOne_0 rfl (lv_at hl 1 rfl) ?_
  refine lv_iconst (v := (5 : Int32)) hx hb dX10_ofOne_1 (by decide) ?_
  refine lv_icmp_ne (tgt := 8) hx hb dX10_ofOne_2 (by decide) (fun hc1 => ?_) (fun hc1 => ?_)
  rotate_left
  · have hf := xif_t hc1 hf
    refine lv_lload_n hx hb dX10_ofOne_5 rfl (lv_at hl 2 rfl) ?_
    refine lv_lneg hx hb dX10_ofOne_6 ?_
    cases hf
    exact x_lret C hm trivial dX10_ofOne_7
  have hf := xif_f hc1 hf
  refine lv_lload_n hx hb dX10_ofOne_8 rfl (lv_at hl 2 rfl) ?_
  refine lv_lconst (v := (0 : Int64)) hx hb dX10_ofOne_9 (by decide) ?_
  refine W.lcmp hx hb dX10_ofOne_10 ?_
  refine lv_if_lt (tgt := 22) hx hb dX10_ofOne_11 (by decide) (fun hc2 => ?_) (fun hc2 => ?_)
  · have hf := xif_t hc2 hf
    refine lv_lconst (v := (0 : Int64)) hx hb dX10_ofOne_22 (by decide) ?_
    cases hf
    exact x_lret C hm trivial dX10_ofOne_23
  have hf := xif_f hc2 hf
  refine lv_lload_n hx hb dX10_ofOne_14 rfl (lv_at hl 2 rfl) ?_
  refine lv_ldc2 (v := (8 : Int64)) hx hb C.1.2.2.2.1 (C.1.2.2.2.2 _ tk_RX10_264) dX10_ofOne_15 ?_
  refine W.lcmp hx hb dX10_ofOne_18 ?_
  refine lv_if_lt (tgt := 24) hx hb dX10_ofOne_19 (by decide) (fun hc3 => ?_) (fun hc3 => ?_)
  rotate_left
  · have hf := xif_f hc3 hf
    refine lv_lconst (v := (0 : Int64)) hx hb dX10_ofOne_22 (by decide) ?_
    cases hf
    exact x_lret C hm trivial dX10_ofOne_23
  have hf := xif_t hc3 hf
  refine lv_iload_n hx hb dX10_ofOne_24 rfl (lv_at hl 1 rfl) ?_
  refine lv_iconst (v := (2 : Int32)) hx hb dX10_ofOne_25 (by decide) ?_
  refine lv_icmp_ne (tgt := 39) hx hb dX10_ofOne_26 (by decide) (fun hc4 => ?_) (fun hc4 => ?_)
  rotate_left
  · have hf := xif_t hc4 hf
    refine lv_aload_n hx hb dX10_ofOne_29 rfl (lv_at hl 0 rfl) ?_
    refine lv_lload_n hx hb dX10_ofOne_30 rfl (lv_at hl 2 rfl) ?_
    refine lv_l2i hx hb dX10_ofOne_31 rfl ?_
    obtain ⟨v7, hq6, hf⟩ := xb1_e hf
    refine x_callVi (As := [.int (a2.toInt32)]) (rest := []) C hm (c_X10_liveOf l E b M Lm (a2.toInt32) hq6) rfl cy_0 tc_X10_liveOf tm_RX10_266 ti_X10_liveOf ts_X10_liveOf tn_RX10 td_X10_liveOf rfl rfl ⟨Nat.le_of_ble_eq_true rfl, Nat.le_of_ble_eq_true rfl⟩ rfl hl.1 rfl (Nat.le_of_ble_eq_true rfl) ⟨Nat.zero_le _, Nat.zero_le _⟩ dX10_ofOne_32 (fun H locs hP8 hm => ?_)
    refine lv_i2l hx hb dX10_ofOne_35 rfl ?_
    refine lv_goto (tgt := 50) hx hb dX10_ofOne_36 (by decide) ?_
    cases hf
    exact x_lret C hm trivial dX10_ofOne_50
  have hf := xif_f hc4 hf
  refine lv_aload_n hx hb dX10_ofOne_39 rfl (lv_at hl 0 rfl) ?_
  refine x_get C hm inX10 rfl 0 (by decide) tf_RX10_7 cy_0 rfl dX10_ofOne_40 ?_
  refine lv_bipush (v := (21 : Int32)) hx hb dX10_ofOne_43 (by decide) ?_
  refine lv_lload_n hx hb dX10_ofOne_45 rfl (lv_at hl 2 rfl) ?_
  refine lv_l2i hx hb dX10_ofOne_46 rfl ?_
  refine lv_iadd hx hb dX10_ofOne_47 ?_
  obtain ⟨hi5, hf⟩ := xif_s hf
  refine x_iald (j := (Int32.toNatClampNeg ((21 : Int32) + (a2.toInt32)))) C hm cy_1 hi5 dX10_ofOne_48 rfl ?_
  refine lv_i2l hx hb dX10_ofOne_49 rfl ?_
  cases hf
  exact x_lret C hm trivial dX10_ofOne_50
/-! ColouredHeapModel.clip(J)J -/
theorem dX10_clip_0 : decode cX10_clip 0 = .ok (.lload_n 0, 1) := by decide +kernel
theorem dX10_clip_1 : decode cX10_clip 1 = .ok (.ldc2_w 256, 3) := by decide +kernel
theorem dX10_clip_4 : decode cX10_clip 4 = .ok (.lcmp, 1) := by decide +kernel
theorem dX10_clip_5 : decode cX10_clip 5 = .ok (.ifCond .le 9, 3) := by decide +kernel
theorem dX10_clip_8 : decode cX10_clip 8 = .ok (.ldc2_w 256, 3) := by decide +kernel
theorem dX10_clip_11 : decode cX10_clip 11 = .ok (.goto 18, 3) := by decide +kernel
theorem dX10_clip_14 : decode cX10_clip 14 = .ok (.lload_n 0, 1) := by decide +kernel
theorem dX10_clip_15 : decode cX10_clip 15 = .ok (.ldc2_w 258, 3) := by decide +kernel
theorem dX10_clip_18 : decode cX10_clip 18 = .ok (.lcmp, 1) := by decide +kernel
theorem dX10_clip_19 : decode cX10_clip 19 = .ok (.ifCond .ge 9, 3) := by decide +kernel
theorem dX10_clip_22 : decode cX10_clip 22 = .ok (.ldc2_w 258, 3) := by decide +kernel
theorem dX10_clip_25 : decode cX10_clip 25 = .ok (.goto 4, 3) := by decide +kernel
theorem dX10_clip_28 : decode cX10_clip 28 = .ok (.lload_n 0, 1) := by decide +kernel
theorem dX10_clip_29 : decode cX10_clip 29 = .ok (.lreturn, 1) := by decide +kernel
def f_X10_clip (a0 : Int64) : Int64 := (if (lg_cmp a0 (1000000 : Int64)) ≤ 0 then (if 0 ≤ (lg_cmp a0 (-1000000 : Int64)) then a0 else (-1000000 : Int64)) else (1000000 : Int64))
set_option maxHeartbeats 4000000 in
set_option maxRecDepth 20000 in
theorem c_X10_clip (l : Launch) (E : xE) (b : Nat) (M : xm) (Lm : xn) (a0 : Int64) {r : Int64} (hf : f_X10_clip a0 = r) :
    xMet l E b NY yX10_clip cX10_clip 2 (some .long) (xR 1) [.long a0] (cY E b M Lm) (some (.long r)) True (cY E b M Lm) := by
  refine xMet.ofW (own := RX10) (by decide) rfl (Nat.le_of_ble_eq_true rfl) ?_
  intro p e s m below meth c H locs ls C hm hl
  have hx := C.1.1
  have hb := C.1.2.1
  have hl : lv_has ls 2 [(0, .long a0)] := hl
  unfold f_X10_clip at hf
  refine lv_lload_n hx hb dX10_clip_0 rfl (lv_at hl 0 rfl) ?_
  refine lv_ldc2 (v := (1000000 : Int64)) hx hb C.1.2.2.2.1 (C.1.2.2.2.2 _ tk_RX10_256) dX10_clip_1 ?_
  refine W.lcmp hx hb dX10_clip_4 ?_
  refine lv_if_le (tgt := 14) hx hb dX10_clip_5 (by decide) (fun hc1 => ?_) (fun hc1 => ?_)
  rotate_left
  · have hf := xif_f hc1 hf
    refine lv_ldc2 (v := (1000000 : Int64)) hx hb C.1.2.2.2.1 (C.1.2.2.2.2 _ tk_RX10_256) dX10_clip_8 ?_
    refine lv_goto (tgt := 29) hx hb dX10_clip_11 (by decide) ?_
    cases hf
    exact x_lret C hm trivial dX10_clip_29
  have hf := xif_t hc1 hf
  refine lv_lload_n hx hb dX10_clip_14 rfl (lv_at hl 0 rfl) ?_
  refine lv_ldc2 (v := (-1000000 : Int64)) hx hb C.1.2.2.2.1 (C.1.2.2.2.2 _ tk_RX10_258) dX10_clip_15 ?_
  refine W.lcmp hx hb dX10_clip_18 ?_
  refine lv_if_ge (tgt := 28) hx hb dX10_clip_19 (by decide) (fun hc2 => ?_) (fun hc2 => ?_)
  · have hf := xif_t hc2 hf
    refine lv_lload_n hx hb dX10_clip_28 rfl (lv_at hl 0 rfl) ?_
    cases hf
    exact x_lret C hm trivial dX10_clip_29
  have hf := xif_f hc2 hf
  refine lv_ldc2 (v := (-1000000 : Int64)) hx hb C.1.2.2.2.1 (C.1.2.2.2.2 _ tk_RX10_258) dX10_clip_22 ?_
  refine lv_goto (tgt := 29) hx hb dX10_clip_25 (by decide) ?_
  cases hf
  exact x_lret C hm trivial dX10_clip_29
/-! ColouredHeapModel.two(IJJ)J -/
theorem dX10_two_0 : decode cX10_two 0 = .ok (.iload_n 0, 1) := by decide +kernel
theorem dX10_two_1 : decode cX10_two 1 = .ok (.tableswitch 48 6 8 #[27, 34, 41], 27) := by decide +kernel
theorem dX10_two_28 : decode cX10_two 28 = .ok (.lload_n 1, 1) := by decide +kernel
theorem dX10_two_29 : decode cX10_two 29 = .ok (.lload_n 3, 1) := by decide +kernel
theorem dX10_two_30 : decode cX10_two 30 = .ok (.ladd, 1) := by decide +kernel
theorem dX10_two_31 : decode cX10_two 31 = .ok (.invokestatic 260, 3) := by decide +kernel
theorem dX10_two_34 : decode cX10_two 34 = .ok (.lreturn, 1) := by decide +kernel
theorem dX10_two_35 : decode cX10_two 35 = .ok (.lload_n 1, 1) := by decide +kernel
theorem dX10_two_36 : decode cX10_two 36 = .ok (.lload_n 3, 1) := by decide +kernel
theorem dX10_two_37 : decode cX10_two 37 = .ok (.lsub, 1) := by decide +kernel
theorem dX10_two_38 : decode cX10_two 38 = .ok (.invokestatic 260, 3) := by decide +kernel
theorem dX10_two_41 : decode cX10_two 41 = .ok (.lreturn, 1) := by decide +kernel
theorem dX10_two_42 : decode cX10_two 42 = .ok (.lload_n 1, 1) := by decide +kernel
theorem dX10_two_43 : decode cX10_two 43 = .ok (.lload_n 3, 1) := by decide +kernel
theorem dX10_two_44 : decode cX10_two 44 = .ok (.lmul, 1) := by decide +kernel
theorem dX10_two_45 : decode cX10_two 45 = .ok (.invokestatic 260, 3) := by decide +kernel
theorem dX10_two_48 : decode cX10_two 48 = .ok (.lreturn, 1) := by decide +kernel
theorem dX10_two_49 : decode cX10_two 49 = .ok (.lload_n 3, 1) := by decide +kernel
theorem dX10_two_50 : decode cX10_two 50 = .ok (.lconst 0, 1) := by decide +kernel
theorem dX10_two_51 : decode cX10_two 51 = .ok (.lcmp, 1) := by decide +kernel
theorem dX10_two_52 : decode cX10_two 52 = .ok (.ifCond .ne 7, 3) := by decide +kernel
theorem dX10_two_55 : decode cX10_two 55 = .ok (.lconst 0, 1) := by decide +kernel
theorem dX10_two_56 : decode cX10_two 56 = .ok (.goto 9, 3) := by decide +kernel
theorem dX10_two_59 : decode cX10_two 59 = .ok (.lload_n 1, 1) := by decide +kernel
theorem dX10_two_60 : decode cX10_two 60 = .ok (.lload_n 3, 1) := by decide +kernel
theorem dX10_two_61 : decode cX10_two 61 = .ok (.ldiv, 1) := by decide +kernel
theorem dX10_two_62 : decode cX10_two 62 = .ok (.invokestatic 260, 3) := by decide +kernel
theorem dX10_two_65 : decode cX10_two 65 = .ok (.lreturn, 1) := by decide +kernel
def f_X10_two (a0 : Int32) (a1 : Int64) (a2 : Int64) : Option (Int64) := (if a0 = (6 : Int32) then some (f_X10_clip (a1 + a2)) else (if a0 = (7 : Int32) then some (f_X10_clip (a1 - a2)) else (if a0 = (8 : Int32) then some (f_X10_clip (a1 * a2)) else (if (lg_cmp a2 (0 : Int64)) = 0 then some (0 : Int64) else if ¬ a2 = 0 then some (f_X10_clip (a1 / a2)) else none))))
set_option maxHeartbeats 4000000 in
set_option maxRecDepth 20000 in
theorem c_X10_two (l : Launch) (E : xE) (b : Nat) (M : xm) (Lm : xn) (a0 : Int32) (a1 : Int64) (a2 : Int64) {r : Int64} (hf : f_X10_two a0 a1 a2 = some r) :
    xMet l E b NY yX10_two cX10_two 5 (some .long) (xR 2) [.int a0, .long a1, .long a2] (cY E b M Lm) (some (.long r)) True (cY E b M Lm) := by
  refine xMet.ofW (own := RX10) (by decide) rfl (Nat.le_of_ble_eq_true rfl) ?_
  intro p e s m below meth c H locs ls C hm hl
  have hx := C.1.1
  have hb := C.1.2.1
  have hl : lv_has ls 5 [(0, .int a0), (1, .long a1), (3, .long a2)] := hl
  unfold f_X10_two at hf
  refine lv_iload_n hx hb dX10_two_0 rfl (lv_at hl 0 rfl) ?_
  by_cases hs1 : a0 = (6 : Int32)
  · have hf := xif_t hs1 hf
    refine x_tabIn (tgt := 28) hx hb (6 : Int32) hs1 dX10_two_1 (by decide) (by decide) rfl (by decide) ?_
    refine lv_lload_n hx hb dX10_two_28 rfl (lv_at hl 1 rfl) ?_
    refine lv_lload_n hx hb dX10_two_29 rfl (lv_at hl 2 rfl) ?_
    refine lv_ladd hx hb dX10_two_30 ?_
    refine x_callSl (As := [.long (a1 + a2)]) (rest := []) C hm (c_X10_clip l E b M Lm (a1 + a2) rfl) tc_X10_clip tm_RX10_260 tz_X10_clip tn_RX10 td_X10_clip rfl rfl ⟨Nat.le_of_ble_eq_true rfl, Nat.le_of_ble_eq_true rfl⟩ rfl hl.1 rfl (Nat.le_of_ble_eq_true rfl) ⟨Nat.zero_le _, Nat.zero_le _⟩ dX10_two_31 (fun H locs hP2 hm => ?_)
    cases hf
    exact x_lret C hm trivial dX10_two_34
  have hf := xif_f hs1 hf
  by_cases hs3 : a0 = (7 : Int32)
  · have hf := xif_t hs3 hf
    refine x_tabIn (tgt := 35) hx hb (7 : Int32) hs3 dX10_two_1 (by decide) (by decide) rfl (by decide) ?_
    refine lv_lload_n hx hb dX10_two_35 rfl (lv_at hl 1 rfl) ?_
    refine lv_lload_n hx hb dX10_two_36 rfl (lv_at hl 2 rfl) ?_
    refine lv_lsub hx hb dX10_two_37 ?_
    refine x_callSl (As := [.long (a1 - a2)]) (rest := []) C hm (c_X10_clip l E b M Lm (a1 - a2) rfl) tc_X10_clip tm_RX10_260 tz_X10_clip tn_RX10 td_X10_clip rfl rfl ⟨Nat.le_of_ble_eq_true rfl, Nat.le_of_ble_eq_true rfl⟩ rfl hl.1 rfl (Nat.le_of_ble_eq_true rfl) ⟨Nat.zero_le _, Nat.zero_le _⟩ dX10_two_38 (fun H locs hP4 hm => ?_)
    cases hf
    exact x_lret C hm trivial dX10_two_41
  have hf := xif_f hs3 hf
  by_cases hs5 : a0 = (8 : Int32)
  · have hf := xif_t hs5 hf
    refine x_tabIn (tgt := 42) hx hb (8 : Int32) hs5 dX10_two_1 (by decide) (by decide) rfl (by decide) ?_
    refine lv_lload_n hx hb dX10_two_42 rfl (lv_at hl 1 rfl) ?_
    refine lv_lload_n hx hb dX10_two_43 rfl (lv_at hl 2 rfl) ?_
    refine lv_lmul hx hb dX10_two_44 ?_
    refine x_callSl (As := [.long (a1 * a2)]) (rest := []) C hm (c_X10_clip l E b M Lm (a1 * a2) rfl) tc_X10_clip tm_RX10_260 tz_X10_clip tn_RX10 td_X10_clip rfl rfl ⟨Nat.le_of_ble_eq_true rfl, Nat.le_of_ble_eq_true rfl⟩ rfl hl.1 rfl (Nat.le_of_ble_eq_true rfl) ⟨Nat.zero_le _, Nat.zero_le _⟩ dX10_two_45 (fun H locs hP6 hm => ?_)
    cases hf
    exact x_lret C hm trivial dX10_two_48
  have hf := xif_f hs5 hf
  refine x_tabOut (tgt := 49) hx hb dX10_two_1 (by decide) (fun i hi => ?_) (by decide) ?_
  · match i, hi with
    | 0, _ => exact hs1
    | 1, _ => exact hs3
    | 2, _ => exact hs5
    | (i + 3), hi => exact absurd hi (by omega)
  refine lv_lload_n hx hb dX10_two_49 rfl (lv_at hl 2 rfl) ?_
  refine lv_lconst (v := (0 : Int64)) hx hb dX10_two_50 (by decide) ?_
  refine W.lcmp hx hb dX10_two_51 ?_
  refine lv_if_ne (tgt := 59) hx hb dX10_two_52 (by decide) (fun hc7 => ?_) (fun hc7 => ?_)
  rotate_left
  · have hf := xif_t hc7 hf
    refine lv_lconst (v := (0 : Int64)) hx hb dX10_two_55 (by decide) ?_
    refine lv_goto (tgt := 65) hx hb dX10_two_56 (by decide) ?_
    cases hf
    exact x_lret C hm trivial dX10_two_65
  have hf := xif_f hc7 hf
  refine lv_lload_n hx hb dX10_two_59 rfl (lv_at hl 1 rfl) ?_
  refine lv_lload_n hx hb dX10_two_60 rfl (lv_at hl 2 rfl) ?_
  obtain ⟨hz8, hf⟩ := xif_s hf
  refine lv_ldiv hx hb dX10_two_61 hz8 ?_
  refine x_callSl (As := [.long (a1 / a2)]) (rest := []) C hm (c_X10_clip l E b M Lm (a1 / a2) rfl) tc_X10_clip tm_RX10_260 tz_X10_clip tn_RX10 td_X10_clip rfl rfl ⟨Nat.le_of_ble_eq_true rfl, Nat.le_of_ble_eq_true rfl⟩ rfl hl.1 rfl (Nat.le_of_ble_eq_true rfl) ⟨Nat.zero_le _, Nat.zero_le _⟩ dX10_two_62 (fun H locs hP9 hm => ?_)
  cases hf
  exact x_lret C hm trivial dX10_two_65
/-! ColouredHeapModel.summedUp(II)J -/
theorem dX10_summedUp_0 : decode cX10_summedUp 0 = .ok (.sipush 705, 3) := by decide +kernel
theorem dX10_summedUp_3 : decode cX10_summedUp 3 = .ok (.iload_n 1, 1) := by decide +kernel
theorem dX10_summedUp_4 : decode cX10_summedUp 4 = .ok (.imul, 1) := by decide +kernel
theorem dX10_summedUp_5 : decode cX10_summedUp 5 = .ok (.iconst 1, 1) := by decide +kernel
theorem dX10_summedUp_6 : decode cX10_summedUp 6 = .ok (.iadd, 1) := by decide +kernel
theorem dX10_summedUp_7 : decode cX10_summedUp 7 = .ok (.iconst 4, 1) := by decide +kernel
theorem dX10_summedUp_8 : decode cX10_summedUp 8 = .ok (.iload_n 2, 1) := by decide +kernel
theorem dX10_summedUp_9 : decode cX10_summedUp 9 = .ok (.imul, 1) := by decide +kernel
theorem dX10_summedUp_10 : decode cX10_summedUp 10 = .ok (.iadd, 1) := by decide +kernel
theorem dX10_summedUp_11 : decode cX10_summedUp 11 = .ok (.istore_n 3, 1) := by decide +kernel
theorem dX10_summedUp_12 : decode cX10_summedUp 12 = .ok (.sipush 705, 3) := by decide +kernel
theorem dX10_summedUp_15 : decode cX10_summedUp 15 = .ok (.iload_n 1, 1) := by decide +kernel
theorem dX10_summedUp_16 : decode cX10_summedUp 16 = .ok (.imul, 1) := by decide +kernel
theorem dX10_summedUp_17 : decode cX10_summedUp 17 = .ok (.bipush 97, 2) := by decide +kernel
theorem dX10_summedUp_19 : decode cX10_summedUp 19 = .ok (.iadd, 1) := by decide +kernel
theorem dX10_summedUp_20 : decode cX10_summedUp 20 = .ok (.istore 4, 2) := by decide +kernel
theorem dX10_summedUp_22 : decode cX10_summedUp 22 = .ok (.iconst 0, 1) := by decide +kernel
theorem dX10_summedUp_23 : decode cX10_summedUp 23 = .ok (.istore 5, 2) := by decide +kernel
theorem dX10_summedUp_25 : decode cX10_summedUp 25 = .ok (.iconst 0, 1) := by decide +kernel
theorem dX10_summedUp_26 : decode cX10_summedUp 26 = .ok (.istore 6, 2) := by decide +kernel
theorem dX10_summedUp_28 : decode cX10_summedUp 28 = .ok (.aload_n 0, 1) := by decide +kernel
theorem dX10_summedUp_29 : decode cX10_summedUp 29 = .ok (.getfield 16, 3) := by decide +kernel
theorem dX10_summedUp_32 : decode cX10_summedUp 32 = .ok (.iload_n 3, 1) := by decide +kernel
theorem dX10_summedUp_33 : decode cX10_summedUp 33 = .ok (.iconst 1, 1) := by decide +kernel
theorem dX10_summedUp_34 : decode cX10_summedUp 34 = .ok (.iadd, 1) := by decide +kernel
theorem dX10_summedUp_35 : decode cX10_summedUp 35 = .ok (.iaload, 1) := by decide +kernel
theorem dX10_summedUp_36 : decode cX10_summedUp 36 = .ok (.istore 7, 2) := by decide +kernel
theorem dX10_summedUp_38 : decode cX10_summedUp 38 = .ok (.iload 7, 2) := by decide +kernel
theorem dX10_summedUp_40 : decode cX10_summedUp 40 = .ok (.aload_n 0, 1) := by decide +kernel
theorem dX10_summedUp_41 : decode cX10_summedUp 41 = .ok (.getfield 16, 3) := by decide +kernel
theorem dX10_summedUp_44 : decode cX10_summedUp 44 = .ok (.iload_n 3, 1) := by decide +kernel
theorem dX10_summedUp_45 : decode cX10_summedUp 45 = .ok (.iconst 2, 1) := by decide +kernel
theorem dX10_summedUp_46 : decode cX10_summedUp 46 = .ok (.iadd, 1) := by decide +kernel
theorem dX10_summedUp_47 : decode cX10_summedUp 47 = .ok (.iaload, 1) := by decide +kernel
theorem dX10_summedUp_48 : decode cX10_summedUp 48 = .ok (.if_icmp .ge 307, 3) := by decide +kernel
theorem dX10_summedUp_51 : decode cX10_summedUp 51 = .ok (.aload_n 0, 1) := by decide +kernel
theorem dX10_summedUp_52 : decode cX10_summedUp 52 = .ok (.getfield 16, 3) := by decide +kernel
theorem dX10_summedUp_55 : decode cX10_summedUp 55 = .ok (.iload 4, 2) := by decide +kernel
theorem dX10_summedUp_57 : decode cX10_summedUp 57 = .ok (.iconst 2, 1) := by decide +kernel
theorem dX10_summedUp_58 : decode cX10_summedUp 58 = .ok (.iload 7, 2) := by decide +kernel
theorem dX10_summedUp_60 : decode cX10_summedUp 60 = .ok (.imul, 1) := by decide +kernel
theorem dX10_summedUp_61 : decode cX10_summedUp 61 = .ok (.iadd, 1) := by decide +kernel
theorem dX10_summedUp_62 : decode cX10_summedUp 62 = .ok (.iaload, 1) := by decide +kernel
theorem dX10_summedUp_63 : decode cX10_summedUp 63 = .ok (.istore 8, 2) := by decide +kernel
theorem dX10_summedUp_65 : decode cX10_summedUp 65 = .ok (.aload_n 0, 1) := by decide +kernel
theorem dX10_summedUp_66 : decode cX10_summedUp 66 = .ok (.getfield 16, 3) := by decide +kernel
theorem dX10_summedUp_69 : decode cX10_summedUp 69 = .ok (.iload 4, 2) := by decide +kernel
theorem dX10_summedUp_71 : decode cX10_summedUp 71 = .ok (.iconst 2, 1) := by decide +kernel
theorem dX10_summedUp_72 : decode cX10_summedUp 72 = .ok (.iload 7, 2) := by decide +kernel
theorem dX10_summedUp_74 : decode cX10_summedUp 74 = .ok (.imul, 1) := by decide +kernel
theorem dX10_summedUp_75 : decode cX10_summedUp 75 = .ok (.iadd, 1) := by decide +kernel
theorem dX10_summedUp_76 : decode cX10_summedUp 76 = .ok (.iconst 1, 1) := by decide +kernel
theorem dX10_summedUp_77 : decode cX10_summedUp 77 = .ok (.iadd, 1) := by decide +kernel
theorem dX10_summedUp_78 : decode cX10_summedUp 78 = .ok (.iaload, 1) := by decide +kernel
theorem dX10_summedUp_79 : decode cX10_summedUp 79 = .ok (.istore 9, 2) := by decide +kernel
theorem dX10_summedUp_81 : decode cX10_summedUp 81 = .ok (.iload 8, 2) := by decide +kernel
theorem dX10_summedUp_83 : decode cX10_summedUp 83 = .ok (.iconst 1, 1) := by decide +kernel
theorem dX10_summedUp_84 : decode cX10_summedUp 84 = .ok (.if_icmp .gt 35, 3) := by decide +kernel
theorem dX10_summedUp_87 : decode cX10_summedUp 87 = .ok (.aload_n 0, 1) := by decide +kernel
theorem dX10_summedUp_88 : decode cX10_summedUp 88 = .ok (.getfield 35, 3) := by decide +kernel
theorem dX10_summedUp_91 : decode cX10_summedUp 91 = .ok (.iload 5, 2) := by decide +kernel
theorem dX10_summedUp_93 : decode cX10_summedUp 93 = .ok (.iload 8, 2) := by decide +kernel
theorem dX10_summedUp_95 : decode cX10_summedUp 95 = .ok (.ifCond .ne 9, 3) := by decide +kernel
theorem dX10_summedUp_98 : decode cX10_summedUp 98 = .ok (.iload 9, 2) := by decide +kernel
theorem dX10_summedUp_100 : decode cX10_summedUp 100 = .ok (.i2l, 1) := by decide +kernel
theorem dX10_summedUp_101 : decode cX10_summedUp 101 = .ok (.goto 11, 3) := by decide +kernel
theorem dX10_summedUp_104 : decode cX10_summedUp 104 = .ok (.aload_n 0, 1) := by decide +kernel
theorem dX10_summedUp_105 : decode cX10_summedUp 105 = .ok (.getfield 32, 3) := by decide +kernel
theorem dX10_summedUp_108 : decode cX10_summedUp 108 = .ok (.iload 9, 2) := by decide +kernel
theorem dX10_summedUp_110 : decode cX10_summedUp 110 = .ok (.iaload, 1) := by decide +kernel
theorem dX10_summedUp_111 : decode cX10_summedUp 111 = .ok (.i2l, 1) := by decide +kernel
theorem dX10_summedUp_112 : decode cX10_summedUp 112 = .ok (.lastore, 1) := by decide +kernel
theorem dX10_summedUp_113 : decode cX10_summedUp 113 = .ok (.iinc 5 1, 3) := by decide +kernel
theorem dX10_summedUp_116 : decode cX10_summedUp 116 = .ok (.goto 233, 3) := by decide +kernel
theorem dX10_summedUp_119 : decode cX10_summedUp 119 = .ok (.iload 8, 2) := by decide +kernel
theorem dX10_summedUp_121 : decode cX10_summedUp 121 = .ok (.iconst 3, 1) := by decide +kernel
theorem dX10_summedUp_122 : decode cX10_summedUp 122 = .ok (.if_icmp .ne 38, 3) := by decide +kernel
theorem dX10_summedUp_125 : decode cX10_summedUp 125 = .ok (.iinc 5 (-1), 3) := by decide +kernel
theorem dX10_summedUp_128 : decode cX10_summedUp 128 = .ok (.iinc 6 (-1), 3) := by decide +kernel
theorem dX10_summedUp_131 : decode cX10_summedUp 131 = .ok (.aload_n 0, 1) := by decide +kernel
theorem dX10_summedUp_132 : decode cX10_summedUp 132 = .ok (.getfield 39, 3) := by decide +kernel
theorem dX10_summedUp_135 : decode cX10_summedUp 135 = .ok (.iload 6, 2) := by decide +kernel
theorem dX10_summedUp_137 : decode cX10_summedUp 137 = .ok (.baload, 1) := by decide +kernel
theorem dX10_summedUp_138 : decode cX10_summedUp 138 = .ok (.ifCond .ne 211, 3) := by decide +kernel
theorem dX10_summedUp_141 : decode cX10_summedUp 141 = .ok (.aload_n 0, 1) := by decide +kernel
theorem dX10_summedUp_142 : decode cX10_summedUp 142 = .ok (.getfield 35, 3) := by decide +kernel
theorem dX10_summedUp_145 : decode cX10_summedUp 145 = .ok (.iload 5, 2) := by decide +kernel
theorem dX10_summedUp_147 : decode cX10_summedUp 147 = .ok (.iconst 1, 1) := by decide +kernel
theorem dX10_summedUp_148 : decode cX10_summedUp 148 = .ok (.isub, 1) := by decide +kernel
theorem dX10_summedUp_149 : decode cX10_summedUp 149 = .ok (.aload_n 0, 1) := by decide +kernel
theorem dX10_summedUp_150 : decode cX10_summedUp 150 = .ok (.getfield 35, 3) := by decide +kernel
theorem dX10_summedUp_153 : decode cX10_summedUp 153 = .ok (.iload 5, 2) := by decide +kernel
theorem dX10_summedUp_155 : decode cX10_summedUp 155 = .ok (.laload, 1) := by decide +kernel
theorem dX10_summedUp_156 : decode cX10_summedUp 156 = .ok (.lastore, 1) := by decide +kernel
theorem dX10_summedUp_157 : decode cX10_summedUp 157 = .ok (.goto 192, 3) := by decide +kernel
theorem dX10_summedUp_160 : decode cX10_summedUp 160 = .ok (.iload 8, 2) := by decide +kernel
theorem dX10_summedUp_162 : decode cX10_summedUp 162 = .ok (.iconst 5, 1) := by decide +kernel
theorem dX10_summedUp_163 : decode cX10_summedUp 163 = .ok (.if_icmp .gt 30, 3) := by decide +kernel
theorem dX10_summedUp_166 : decode cX10_summedUp 166 = .ok (.aload_n 0, 1) := by decide +kernel
theorem dX10_summedUp_167 : decode cX10_summedUp 167 = .ok (.getfield 35, 3) := by decide +kernel
theorem dX10_summedUp_170 : decode cX10_summedUp 170 = .ok (.iload 5, 2) := by decide +kernel
theorem dX10_summedUp_172 : decode cX10_summedUp 172 = .ok (.iconst 1, 1) := by decide +kernel
theorem dX10_summedUp_173 : decode cX10_summedUp 173 = .ok (.isub, 1) := by decide +kernel
theorem dX10_summedUp_174 : decode cX10_summedUp 174 = .ok (.aload_n 0, 1) := by decide +kernel
theorem dX10_summedUp_175 : decode cX10_summedUp 175 = .ok (.iload 8, 2) := by decide +kernel
theorem dX10_summedUp_177 : decode cX10_summedUp 177 = .ok (.aload_n 0, 1) := by decide +kernel
theorem dX10_summedUp_178 : decode cX10_summedUp 178 = .ok (.getfield 35, 3) := by decide +kernel
theorem dX10_summedUp_181 : decode cX10_summedUp 181 = .ok (.iload 5, 2) := by decide +kernel
theorem dX10_summedUp_183 : decode cX10_summedUp 183 = .ok (.iconst 1, 1) := by decide +kernel
theorem dX10_summedUp_184 : decode cX10_summedUp 184 = .ok (.isub, 1) := by decide +kernel
theorem dX10_summedUp_185 : decode cX10_summedUp 185 = .ok (.laload, 1) := by decide +kernel
theorem dX10_summedUp_186 : decode cX10_summedUp 186 = .ok (.invokevirtual 269, 3) := by decide +kernel
theorem dX10_summedUp_189 : decode cX10_summedUp 189 = .ok (.lastore, 1) := by decide +kernel
theorem dX10_summedUp_190 : decode cX10_summedUp 190 = .ok (.goto 159, 3) := by decide +kernel
theorem dX10_summedUp_193 : decode cX10_summedUp 193 = .ok (.iload 8, 2) := by decide +kernel
theorem dX10_summedUp_195 : decode cX10_summedUp 195 = .ok (.bipush 10, 2) := by decide +kernel
theorem dX10_summedUp_197 : decode cX10_summedUp 197 = .ok (.if_icmp .ge 39, 3) := by decide +kernel
theorem dX10_summedUp_200 : decode cX10_summedUp 200 = .ok (.iinc 5 (-1), 3) := by decide +kernel
theorem dX10_summedUp_203 : decode cX10_summedUp 203 = .ok (.aload_n 0, 1) := by decide +kernel
theorem dX10_summedUp_204 : decode cX10_summedUp 204 = .ok (.getfield 35, 3) := by decide +kernel
theorem dX10_summedUp_207 : decode cX10_summedUp 207 = .ok (.iload 5, 2) := by decide +kernel
theorem dX10_summedUp_209 : decode cX10_summedUp 209 = .ok (.iconst 1, 1) := by decide +kernel
theorem dX10_summedUp_210 : decode cX10_summedUp 210 = .ok (.isub, 1) := by decide +kernel
theorem dX10_summedUp_211 : decode cX10_summedUp 211 = .ok (.iload 8, 2) := by decide +kernel
theorem dX10_summedUp_213 : decode cX10_summedUp 213 = .ok (.aload_n 0, 1) := by decide +kernel
theorem dX10_summedUp_214 : decode cX10_summedUp 214 = .ok (.getfield 35, 3) := by decide +kernel
theorem dX10_summedUp_217 : decode cX10_summedUp 217 = .ok (.iload 5, 2) := by decide +kernel
theorem dX10_summedUp_219 : decode cX10_summedUp 219 = .ok (.iconst 1, 1) := by decide +kernel
theorem dX10_summedUp_220 : decode cX10_summedUp 220 = .ok (.isub, 1) := by decide +kernel
theorem dX10_summedUp_221 : decode cX10_summedUp 221 = .ok (.laload, 1) := by decide +kernel
theorem dX10_summedUp_222 : decode cX10_summedUp 222 = .ok (.aload_n 0, 1) := by decide +kernel
theorem dX10_summedUp_223 : decode cX10_summedUp 223 = .ok (.getfield 35, 3) := by decide +kernel
theorem dX10_summedUp_226 : decode cX10_summedUp 226 = .ok (.iload 5, 2) := by decide +kernel
theorem dX10_summedUp_228 : decode cX10_summedUp 228 = .ok (.laload, 1) := by decide +kernel
theorem dX10_summedUp_229 : decode cX10_summedUp 229 = .ok (.invokestatic 273, 3) := by decide +kernel
theorem dX10_summedUp_232 : decode cX10_summedUp 232 = .ok (.lastore, 1) := by decide +kernel
theorem dX10_summedUp_233 : decode cX10_summedUp 233 = .ok (.goto 116, 3) := by decide +kernel
theorem dX10_summedUp_236 : decode cX10_summedUp 236 = .ok (.iload 8, 2) := by decide +kernel
theorem dX10_summedUp_238 : decode cX10_summedUp 238 = .ok (.bipush 20, 2) := by decide +kernel
theorem dX10_summedUp_240 : decode cX10_summedUp 240 = .ok (.if_icmp .ge 40, 3) := by decide +kernel
theorem dX10_summedUp_243 : decode cX10_summedUp 243 = .ok (.iinc 5 (-2), 3) := by decide +kernel
theorem dX10_summedUp_246 : decode cX10_summedUp 246 = .ok (.aload_n 0, 1) := by decide +kernel
theorem dX10_summedUp_247 : decode cX10_summedUp 247 = .ok (.getfield 39, 3) := by decide +kernel
theorem dX10_summedUp_250 : decode cX10_summedUp 250 = .ok (.iload 6, 2) := by decide +kernel
theorem dX10_summedUp_252 : decode cX10_summedUp 252 = .ok (.iload 8, 2) := by decide +kernel
theorem dX10_summedUp_254 : decode cX10_summedUp 254 = .ok (.aload_n 0, 1) := by decide +kernel
theorem dX10_summedUp_255 : decode cX10_summedUp 255 = .ok (.getfield 35, 3) := by decide +kernel
theorem dX10_summedUp_258 : decode cX10_summedUp 258 = .ok (.iload 5, 2) := by decide +kernel
theorem dX10_summedUp_260 : decode cX10_summedUp 260 = .ok (.laload, 1) := by decide +kernel
theorem dX10_summedUp_261 : decode cX10_summedUp 261 = .ok (.aload_n 0, 1) := by decide +kernel
theorem dX10_summedUp_262 : decode cX10_summedUp 262 = .ok (.getfield 35, 3) := by decide +kernel
theorem dX10_summedUp_265 : decode cX10_summedUp 265 = .ok (.iload 5, 2) := by decide +kernel
theorem dX10_summedUp_267 : decode cX10_summedUp 267 = .ok (.iconst 1, 1) := by decide +kernel
theorem dX10_summedUp_268 : decode cX10_summedUp 268 = .ok (.iadd, 1) := by decide +kernel
theorem dX10_summedUp_269 : decode cX10_summedUp 269 = .ok (.laload, 1) := by decide +kernel
theorem dX10_summedUp_270 : decode cX10_summedUp 270 = .ok (.invokestatic 277, 3) := by decide +kernel
theorem dX10_summedUp_273 : decode cX10_summedUp 273 = .ok (.bastore, 1) := by decide +kernel
theorem dX10_summedUp_274 : decode cX10_summedUp 274 = .ok (.iinc 6 1, 3) := by decide +kernel
theorem dX10_summedUp_277 : decode cX10_summedUp 277 = .ok (.goto 72, 3) := by decide +kernel
theorem dX10_summedUp_280 : decode cX10_summedUp 280 = .ok (.iload 8, 2) := by decide +kernel
theorem dX10_summedUp_282 : decode cX10_summedUp 282 = .ok (.bipush 20, 2) := by decide +kernel
theorem dX10_summedUp_284 : decode cX10_summedUp 284 = .ok (.if_icmp .ne 32, 3) := by decide +kernel
theorem dX10_summedUp_287 : decode cX10_summedUp 287 = .ok (.aload_n 0, 1) := by decide +kernel
theorem dX10_summedUp_288 : decode cX10_summedUp 288 = .ok (.getfield 39, 3) := by decide +kernel
theorem dX10_summedUp_291 : decode cX10_summedUp 291 = .ok (.iload 6, 2) := by decide +kernel
theorem dX10_summedUp_293 : decode cX10_summedUp 293 = .ok (.iconst 1, 1) := by decide +kernel
theorem dX10_summedUp_294 : decode cX10_summedUp 294 = .ok (.isub, 1) := by decide +kernel
theorem dX10_summedUp_295 : decode cX10_summedUp 295 = .ok (.aload_n 0, 1) := by decide +kernel
theorem dX10_summedUp_296 : decode cX10_summedUp 296 = .ok (.getfield 39, 3) := by decide +kernel
theorem dX10_summedUp_299 : decode cX10_summedUp 299 = .ok (.iload 6, 2) := by decide +kernel
theorem dX10_summedUp_301 : decode cX10_summedUp 301 = .ok (.iconst 1, 1) := by decide +kernel
theorem dX10_summedUp_302 : decode cX10_summedUp 302 = .ok (.isub, 1) := by decide +kernel
theorem dX10_summedUp_303 : decode cX10_summedUp 303 = .ok (.baload, 1) := by decide +kernel
theorem dX10_summedUp_304 : decode cX10_summedUp 304 = .ok (.ifCond .ne 7, 3) := by decide +kernel
theorem dX10_summedUp_307 : decode cX10_summedUp 307 = .ok (.iconst 1, 1) := by decide +kernel
theorem dX10_summedUp_308 : decode cX10_summedUp 308 = .ok (.goto 4, 3) := by decide +kernel
theorem dX10_summedUp_311 : decode cX10_summedUp 311 = .ok (.iconst 0, 1) := by decide +kernel
theorem dX10_summedUp_312 : decode cX10_summedUp 312 = .ok (.bastore, 1) := by decide +kernel
theorem dX10_summedUp_313 : decode cX10_summedUp 313 = .ok (.goto 36, 3) := by decide +kernel
theorem dX10_summedUp_316 : decode cX10_summedUp 316 = .ok (.iinc 6 (-1), 3) := by decide +kernel
theorem dX10_summedUp_319 : decode cX10_summedUp 319 = .ok (.aload_n 0, 1) := by decide +kernel
theorem dX10_summedUp_320 : decode cX10_summedUp 320 = .ok (.getfield 39, 3) := by decide +kernel
theorem dX10_summedUp_323 : decode cX10_summedUp 323 = .ok (.iload 6, 2) := by decide +kernel
theorem dX10_summedUp_325 : decode cX10_summedUp 325 = .ok (.iconst 1, 1) := by decide +kernel
theorem dX10_summedUp_326 : decode cX10_summedUp 326 = .ok (.isub, 1) := by decide +kernel
theorem dX10_summedUp_327 : decode cX10_summedUp 327 = .ok (.iload 8, 2) := by decide +kernel
theorem dX10_summedUp_329 : decode cX10_summedUp 329 = .ok (.aload_n 0, 1) := by decide +kernel
theorem dX10_summedUp_330 : decode cX10_summedUp 330 = .ok (.getfield 39, 3) := by decide +kernel
theorem dX10_summedUp_333 : decode cX10_summedUp 333 = .ok (.iload 6, 2) := by decide +kernel
theorem dX10_summedUp_335 : decode cX10_summedUp 335 = .ok (.iconst 1, 1) := by decide +kernel
theorem dX10_summedUp_336 : decode cX10_summedUp 336 = .ok (.isub, 1) := by decide +kernel
theorem dX10_summedUp_337 : decode cX10_summedUp 337 = .ok (.baload, 1) := by decide +kernel
theorem dX10_summedUp_338 : decode cX10_summedUp 338 = .ok (.aload_n 0, 1) := by decide +kernel
theorem dX10_summedUp_339 : decode cX10_summedUp 339 = .ok (.getfield 39, 3) := by decide +kernel
theorem dX10_summedUp_342 : decode cX10_summedUp 342 = .ok (.iload 6, 2) := by decide +kernel
theorem dX10_summedUp_344 : decode cX10_summedUp 344 = .ok (.baload, 1) := by decide +kernel
theorem dX10_summedUp_345 : decode cX10_summedUp 345 = .ok (.invokestatic 281, 3) := by decide +kernel
theorem dX10_summedUp_348 : decode cX10_summedUp 348 = .ok (.bastore, 1) := by decide +kernel
theorem dX10_summedUp_349 : decode cX10_summedUp 349 = .ok (.iinc 7 1, 3) := by decide +kernel
theorem dX10_summedUp_352 : decode cX10_summedUp 352 = .ok (.goto (-314), 3) := by decide +kernel
theorem dX10_summedUp_355 : decode cX10_summedUp 355 = .ok (.aload_n 0, 1) := by decide +kernel
theorem dX10_summedUp_356 : decode cX10_summedUp 356 = .ok (.getfield 35, 3) := by decide +kernel
theorem dX10_summedUp_359 : decode cX10_summedUp 359 = .ok (.iconst 0, 1) := by decide +kernel
theorem dX10_summedUp_360 : decode cX10_summedUp 360 = .ok (.laload, 1) := by decide +kernel
theorem dX10_summedUp_361 : decode cX10_summedUp 361 = .ok (.lreturn, 1) := by decide +kernel
def g_X10_summedUp_38 (x5 : Int32) (x6 : Int32) : Nat → xm → xn → Int32 → Int32 → Int32 → Option ((xm × xn))
  | 0, _, _, _, _, _ => none
  | n + 1, M10, L11, x7, x8, x9 => if xin (x5 + (2 : Int32)) 2820 = true then (if (M10 3 (Int32.toNatClampNeg (x5 + (2 : Int32)))) ≤ x9 then some ((M10, L11)) else if xin (x6 + ((2 : Int32) * x9)) 2820 = true then xlet (M10 3 (Int32.toNatClampNeg (x6 + ((2 : Int32) * x9)))) (fun v17 => if xin ((x6 + ((2 : Int32) * x9)) + (1 : Int32)) 2820 = true then xlet (M10 3 (Int32.toNatClampNeg ((x6 + ((2 : Int32) * x9)) + (1 : Int32)))) (fun v19 => (if (1 : Int32) < v17 then (if v17 = (3 : Int32) then xlet (x7 + (-1 : Int32)) (fun v60 => xlet (x8 + (-1 : Int32)) (fun v61 => if xin v61 330 = true then (if (M10 8 (Int32.toNatClampNeg v61)) = 0 then if xin v60 330 = true then if xin (v60 - (1 : Int32)) 330 = true then xlet (up2 L11 7 (Int32.toNatClampNeg (v60 - (1 : Int32))) (L11 7 (Int32.toNatClampNeg v60))) (fun L67 => xlet (x9 + (1 : Int32)) (fun v68 => g_X10_summedUp_38 x5 x6 n M10 L67 v60 v61 v68)) else none else none else xlet (x9 + (1 : Int32)) (fun v64 => g_X10_summedUp_38 x5 x6 n M10 L11 v60 v61 v64)) else none)) else (if (5 : Int32) < v17 then (if (10 : Int32) ≤ v17 then (if (20 : Int32) ≤ v17 then (if v17 = (20 : Int32) then if xin (x8 - (1 : Int32)) 330 = true then (if (M10 8 (Int32.toNatClampNeg (x8 - (1 : Int32)))) = 0 then xlet (up2 M10 8 (Int32.toNatClampNeg (x8 - (1 : Int32))) (1 : Int32)) (fun M36 => xlet (x9 + (1 : Int32)) (fun v37 => g_X10_summedUp_38 x5 x6 n M36 L11 x7 x8 v37)) else xlet (up2 M10 8 (Int32.toNatClampNeg (x8 - (1 : Int32))) (0 : Int32)) (fun M34 => xlet (x9 + (1 : Int32)) (fun v35 => g_X10_summedUp_38 x5 x6 n M34 L11 x7 x8 v35))) else none else xlet (x8 + (-1 : Int32)) (fun v26 => if xin (v26 - (1 : Int32)) 330 = true then if xin v26 330 = true then xlet (up2 M10 8 (Int32.toNatClampNeg (v26 - (1 : Int32))) (f_X10_joined v17 (M10 8 (Int32.toNatClampNeg (v26 - (1 : Int32)))) (M10 8 (Int32.toNatClampNeg v26)))) (fun M30 => xlet (x9 + (1 : Int32)) (fun v31 => g_X10_summedUp_38 x5 x6 n M30 L11 x7 v26 v31)) else none else none)) else xlet (x7 + (-2 : Int32)) (fun v38 => if xin v38 330 = true then if xin (v38 + (1 : Int32)) 330 = true then if xin x8 330 = true then xlet (up2 M10 8 (Int32.toNatClampNeg x8) (f_X10_isAsked v17 (L11 7 (Int32.toNatClampNeg v38)) (L11 7 (Int32.toNatClampNeg (v38 + (1 : Int32)))))) (fun M43 => xlet (x8 + (1 : Int32)) (fun v44 => xlet (x9 + (1 : Int32)) (fun v45 => g_X10_summedUp_38 x5 x6 n M43 L11 v38 v44 v45))) else none else none else none)) else xlet (x7 + (-1 : Int32)) (fun v46 => if xin (v46 - (1 : Int32)) 330 = true then if xin v46 330 = true then xb1 (f_X10_two v17 (L11 7 (Int32.toNatClampNeg (v46 - (1 : Int32)))) (L11 7 (Int32.toNatClampNeg v46))) (fun v50 => xlet (up2 L11 7 (Int32.toNatClampNeg (v46 - (1 : Int32))) v50) (fun L52 => xlet (x9 + (1 : Int32)) (fun v53 => g_X10_summedUp_38 x5 x6 n M10 L52 v46 x8 v53))) else none else none)) else if xin (x7 - (1 : Int32)) 330 = true then xb1 (f_X10_ofOne M10 v17 (L11 7 (Int32.toNatClampNeg (x7 - (1 : Int32))))) (fun v56 => xlet (up2 L11 7 (Int32.toNatClampNeg (x7 - (1 : Int32))) v56) (fun L58 => xlet (x9 + (1 : Int32)) (fun v59 => g_X10_summedUp_38 x5 x6 n M10 L58 x7 x8 v59))) else none)) else (if v17 = 0 then if xin x7 330 = true then xlet (up2 L11 7 (Int32.toNatClampNeg x7) (v19.toInt64)) (fun L76 => xlet (x7 + (1 : Int32)) (fun v77 => xlet (x9 + (1 : Int32)) (fun v78 => g_X10_summedUp_38 x5 x6 n M10 L76 v77 x8 v78))) else none else if xin v19 8 = true then if xin x7 330 = true then xlet (up2 L11 7 (Int32.toNatClampNeg x7) ((M10 6 (Int32.toNatClampNeg v19)).toInt64)) (fun L72 => xlet (x7 + (1 : Int32)) (fun v73 => xlet (x9 + (1 : Int32)) (fun v74 => g_X10_summedUp_38 x5 x6 n M10 L72 v73 x8 v74))) else none else none))) else none) else none) else none
def f_X10_summedUp (M : xm) (Lm : xn) (a1 : Int32) (a2 : Int32) : Option (Int64 × xm × xn) := xlet ((((705 : Int32) * a1) + (1 : Int32)) + ((4 : Int32) * a2)) (fun v1 => xlet (((705 : Int32) * a1) + (97 : Int32)) (fun v2 => if xin (v1 + (1 : Int32)) 2820 = true then xlet (M 3 (Int32.toNatClampNeg (v1 + (1 : Int32)))) (fun v4 => xb2 (g_X10_summedUp_38 v1 v2 xfuel M Lm (0 : Int32) (0 : Int32) v4) (fun M79 L80 => some ((L80 7 0), M79, L80))) else none))
set_option maxHeartbeats 4000000 in
set_option maxRecDepth 20000 in
theorem j_X10_summedUp_38 {p : Program} {l : Launch} {e : Env} {s : State} {m : MethodId} {args : Array Value} {below : List Frame} {meth : Method} {c : Code} {Q : State → Prop} {E : xE} {b : Nat} (C : xC p s m args meth c cX10_summedUp 10 RX10 (some .long) E b) (x5 : Int32) (x6 : Int32) {y12 : xm} {y13 : xn}
    (kx0 : ∀ (H : Heap) (locs : List Loc) (ls : Array Slot), xM E b NY (cY E b y12 y13) s.heap H locs → lv_has ls 10 [(0, .ref (b + 0))] → W p l e (xR 6) s m args below meth c H locs 0 0 Q (F0 m 355 ls [])) :
    ∀ (n : Nat) (M10 : xm) (L11 : xn) (x7 : Int32) (x8 : Int32) (x9 : Int32) (H : Heap) (locs : List Loc) (ls : Array Slot), g_X10_summedUp_38 x5 x6 n M10 L11 x7 x8 x9 = some (y12, y13) → xM E b NY (cY E b M10 L11) s.heap H locs → lv_has ls 10 [(0, .ref (b + 0)), (3, .int x5), (4, .int x6), (5, .int x7), (6, .int x8), (7, .int x9)] → W p l e (xR 6) s m args below meth c H locs 0 0 Q (F0 m 38 ls []) := by
  have hx := C.1.1
  have hb := C.1.2.1
  intro n
  induction n with
  | zero =>
    intro M10 L11 x7 x8 x9 H locs ls hf hm hl
    rw [g_X10_summedUp_38] at hf
    cases hf
  | succ n ih =>
    intro M10 L11 x7 x8 x9 H locs ls hf hm hl
    rw [g_X10_summedUp_38] at hf
    refine lv_iload hx hb dX10_summedUp_38 (lv_at hl 5 rfl) ?_
    refine lv_aload_n hx hb dX10_summedUp_40 rfl (lv_at hl 0 rfl) ?_
    refine x_get C hm inX10 rfl 2 (by decide) tf_RX10_16 cy_0 rfl dX10_summedUp_41 ?_
    refine lv_iload_n hx hb dX10_summedUp_44 rfl (lv_at hl 1 rfl) ?_
    refine lv_iconst (v := (2 : Int32)) hx hb dX10_summedUp_45 (by decide) ?_
    refine lv_iadd hx hb dX10_summedUp_46 ?_
    obtain ⟨hi14, hf⟩ := xif_s hf
    refine x_iald (j := (Int32.toNatClampNeg (x5 + (2 : Int32)))) C hm cy_3 hi14 dX10_summedUp_47 rfl ?_
    refine lv_icmp_ge (tgt := 355) hx hb dX10_summedUp_48 (by decide) (fun hc15 => ?_) (fun hc15 => ?_)
    · have hf := xif_t hc15 hf
      cases hf
      exact kx0 H locs ls hm (lv_sub hl [0] rfl)
    have hf := xif_f hc15 hf
    refine lv_aload_n hx hb dX10_summedUp_51 rfl (lv_at hl 0 rfl) ?_
    refine x_get C hm inX10 rfl 2 (by decide) tf_RX10_16 cy_0 rfl dX10_summedUp_52 ?_
    refine lv_iload hx hb dX10_summedUp_55 (lv_at hl 2 rfl) ?_
    refine lv_iconst (v := (2 : Int32)) hx hb dX10_summedUp_57 (by decide) ?_
    refine lv_iload hx hb dX10_summedUp_58 (lv_at hl 5 rfl) ?_
    refine lv_imul hx hb dX10_summedUp_60 ?_
    refine lv_iadd hx hb dX10_summedUp_61 ?_
    obtain ⟨hi16, hf⟩ := xif_s hf
    refine x_iald (j := (Int32.toNatClampNeg (x6 + ((2 : Int32) * x9)))) C hm cy_3 hi16 dX10_summedUp_62 rfl ?_
    refine lv_topi (fun v17 ev17 => ?_)
    have hf := xlet_e ev17 hf
    refine lv_istore (lv' := [(8, .int v17), (0, .ref (b + 0)), (3, .int x5), (4, .int x6), (5, .int x7), (6, .int x8), (7, .int x9)]) hx hb dX10_summedUp_63 hl (by decide) rfl (fun ls hl => ?_)
    refine lv_aload_n hx hb dX10_summedUp_65 rfl (lv_at hl 1 rfl) ?_
    refine x_get C hm inX10 rfl 2 (by decide) tf_RX10_16 cy_0 rfl dX10_summedUp_66 ?_
    refine lv_iload hx hb dX10_summedUp_69 (lv_at hl 3 rfl) ?_
    refine lv_iconst (v := (2 : Int32)) hx hb dX10_summedUp_71 (by decide) ?_
    refine lv_iload hx hb dX10_summedUp_72 (lv_at hl 6 rfl) ?_
    refine lv_imul hx hb dX10_summedUp_74 ?_
    refine lv_iadd hx hb dX10_summedUp_75 ?_
    refine lv_iconst (v := (1 : Int32)) hx hb dX10_summedUp_76 (by decide) ?_
    refine lv_iadd hx hb dX10_summedUp_77 ?_
    obtain ⟨hi18, hf⟩ := xif_s hf
    refine x_iald (j := (Int32.toNatClampNeg ((x6 + ((2 : Int32) * x9)) + (1 : Int32)))) C hm cy_3 hi18 dX10_summedUp_78 rfl ?_
    refine lv_topi (fun v19 ev19 => ?_)
    have hf := xlet_e ev19 hf
    refine lv_istore (lv' := [(9, .int v19), (8, .int v17), (0, .ref (b + 0)), (3, .int x5), (4, .int x6), (5, .int x7), (6, .int x8), (7, .int x9)]) hx hb dX10_summedUp_79 hl (by decide) rfl (fun ls hl => ?_)
    refine lv_iload hx hb dX10_summedUp_81 (lv_at hl 1 rfl) ?_
    refine lv_iconst (v := (1 : Int32)) hx hb dX10_summedUp_83 (by decide) ?_
    refine lv_icmp_gt (tgt := 119) hx hb dX10_summedUp_84 (by decide) (fun hc20 => ?_) (fun hc20 => ?_)
    rotate_left
    · have hf := xif_f hc20 hf
      refine lv_aload_n hx hb dX10_summedUp_87 rfl (lv_at hl 2 rfl) ?_
      refine x_get C hm inX10 rfl 21 (by decide) tf_RX10_35 cy_0 rfl dX10_summedUp_88 ?_
      refine lv_iload hx hb dX10_summedUp_91 (lv_at hl 5 rfl) ?_
      refine lv_iload hx hb dX10_summedUp_93 (lv_at hl 1 rfl) ?_
      refine lv_if_ne (tgt := 104) hx hb dX10_summedUp_95 (by decide) (fun hc69 => ?_) (fun hc69 => ?_)
      rotate_left
      · have hf := xif_t hc69 hf
        refine lv_iload hx hb dX10_summedUp_98 (lv_at hl 0 rfl) ?_
        refine lv_i2l hx hb dX10_summedUp_100 rfl ?_
        refine lv_goto (tgt := 112) hx hb dX10_summedUp_101 (by decide) ?_
        obtain ⟨hi75, hf⟩ := xif_s hf
        obtain ⟨L76, eL76, hf⟩ := xlet_x hf
        refine x_last (j := (Int32.toNatClampNeg x7)) (cf' := cY E b M10 L76) C hm cy_7 hi75 dX10_summedUp_112 rfl (by rw [eL76]; exact cyu_7) (by rw [eL76]; exact cY_oL) (fun H locs hm => ?_)
        obtain ⟨v77, ev77, hf⟩ := xlet_x hf
        refine lv_iinc (v := v77) (lv' := [(5, .int v77), (9, .int v19), (8, .int v17), (0, .ref (b + 0)), (3, .int x5), (4, .int x6), (6, .int x8), (7, .int x9)]) hx hb dX10_summedUp_113 hl (k := 5) rfl (by rw [ev77]; rfl) (by decide) rfl (fun ls hl => ?_)
        refine lv_goto (tgt := 349) hx hb dX10_summedUp_116 (by decide) ?_
        obtain ⟨v78, ev78, hf⟩ := xlet_x hf
        refine lv_iinc (v := v78) (lv' := [(7, .int v78), (5, .int v77), (9, .int v19), (8, .int v17), (0, .ref (b + 0)), (3, .int x5), (4, .int x6), (6, .int x8)]) hx hb dX10_summedUp_349 hl (k := 7) rfl (by rw [ev78]; rfl) (by decide) rfl (fun ls hl => ?_)
        refine lv_goto (tgt := 38) hx hb dX10_summedUp_352 (by decide) ?_
        exact ih M10 L76 v77 x8 v78 H locs ls hf hm (lv_sub hl [4, 5, 6, 1, 7, 0] rfl)
      have hf := xif_f hc69 hf
      refine lv_aload_n hx hb dX10_summedUp_104 rfl (lv_at hl 2 rfl) ?_
      refine x_get C hm inX10 rfl 20 (by decide) tf_RX10_32 cy_0 rfl dX10_summedUp_105 ?_
      refine lv_iload hx hb dX10_summedUp_108 (lv_at hl 0 rfl) ?_
      obtain ⟨hi70, hf⟩ := xif_s hf
      refine x_iald (j := (Int32.toNatClampNeg v19)) C hm cy_6 hi70 dX10_summedUp_110 rfl ?_
      refine lv_i2l hx hb dX10_summedUp_111 rfl ?_
      obtain ⟨hi71, hf⟩ := xif_s hf
      obtain ⟨L72, eL72, hf⟩ := xlet_x hf
      refine x_last (j := (Int32.toNatClampNeg x7)) (cf' := cY E b M10 L72) C hm cy_7 hi71 dX10_summedUp_112 rfl (by rw [eL72]; exact cyu_7) (by rw [eL72]; exact cY_oL) (fun H locs hm => ?_)
      obtain ⟨v73, ev73, hf⟩ := xlet_x hf
      refine lv_iinc (v := v73) (lv' := [(5, .int v73), (9, .int v19), (8, .int v17), (0, .ref (b + 0)), (3, .int x5), (4, .int x6), (6, .int x8), (7, .int x9)]) hx hb dX10_summedUp_113 hl (k := 5) rfl (by rw [ev73]; rfl) (by decide) rfl (fun ls hl => ?_)
      refine lv_goto (tgt := 349) hx hb dX10_summedUp_116 (by decide) ?_
      obtain ⟨v74, ev74, hf⟩ := xlet_x hf
      refine lv_iinc (v := v74) (lv' := [(7, .int v74), (5, .int v73), (9, .int v19), (8, .int v17), (0, .ref (b + 0)), (3, .int x5), (4, .int x6), (6, .int x8)]) hx hb dX10_summedUp_349 hl (k := 7) rfl (by rw [ev74]; rfl) (by decide) rfl (fun ls hl => ?_)
      refine lv_goto (tgt := 38) hx hb dX10_summedUp_352 (by decide) ?_
      exact ih M10 L72 v73 x8 v74 H locs ls hf hm (lv_sub hl [4, 5, 6, 1, 7, 0] rfl)
    have hf := xif_t hc20 hf
    refine lv_iload hx hb dX10_summedUp_119 (lv_at hl 1 rfl) ?_
    refine lv_iconst (v := (3 : Int32)) hx hb dX10_summedUp_121 (by decide) ?_
    refine lv_icmp_ne (tgt := 160) hx hb dX10_summedUp_122 (by decide) (fun hc21 => ?_) (fun hc21 => ?_)
    rotate_left
    · have hf := xif_t hc21 hf
      obtain ⟨v60, ev60, hf⟩ := xlet_x hf
      refine lv_iinc (v := v60) (lv' := [(5, .int v60), (9, .int v19), (8, .int v17), (0, .ref (b + 0)), (3, .int x5), (4, .int x6), (6, .int x8), (7, .int x9)]) hx hb dX10_summedUp_125 hl (k := 5) rfl (by rw [ev60]; rfl) (by decide) rfl (fun ls hl => ?_)
      obtain ⟨v61, ev61, hf⟩ := xlet_x hf
      refine lv_iinc (v := v61) (lv' := [(6, .int v61), (5, .int v60), (9, .int v19), (8, .int v17), (0, .ref (b + 0)), (3, .int x5), (4, .int x6), (7, .int x9)]) hx hb dX10_summedUp_128 hl (k := 6) rfl (by rw [ev61]; rfl) (by decide) rfl (fun ls hl => ?_)
      refine lv_aload_n hx hb dX10_summedUp_131 rfl (lv_at hl 4 rfl) ?_
      refine x_get C hm inX10 rfl 22 (by decide) tf_RX10_39 cy_0 rfl dX10_summedUp_132 ?_
      refine lv_iload hx hb dX10_summedUp_135 (lv_at hl 0 rfl) ?_
      obtain ⟨hi62, hf⟩ := xif_s hf
      refine x_zald (j := (Int32.toNatClampNeg v61)) C hm cy_8 hi62 dX10_summedUp_137 rfl ?_
      refine lv_if_ne (tgt := 349) hx hb dX10_summedUp_138 (by decide) (fun hc63 => ?_) (fun hc63 => ?_)
      · have hf := xif_f hc63 hf
        obtain ⟨v64, ev64, hf⟩ := xlet_x hf
        refine lv_iinc (v := v64) (lv' := [(7, .int v64), (6, .int v61), (5, .int v60), (9, .int v19), (8, .int v17), (0, .ref (b + 0)), (3, .int x5), (4, .int x6)]) hx hb dX10_summedUp_349 hl (k := 7) rfl (by rw [ev64]; rfl) (by decide) rfl (fun ls hl => ?_)
        refine lv_goto (tgt := 38) hx hb dX10_summedUp_352 (by decide) ?_
        exact ih M10 L11 v60 v61 v64 H locs ls hf hm (lv_sub hl [5, 6, 7, 2, 1, 0] rfl)
      have hf := xif_t hc63 hf
      refine lv_aload_n hx hb dX10_summedUp_141 rfl (lv_at hl 4 rfl) ?_
      refine x_get C hm inX10 rfl 21 (by decide) tf_RX10_35 cy_0 rfl dX10_summedUp_142 ?_
      refine lv_iload hx hb dX10_summedUp_145 (lv_at hl 1 rfl) ?_
      refine lv_iconst (v := (1 : Int32)) hx hb dX10_summedUp_147 (by decide) ?_
      refine lv_isub hx hb dX10_summedUp_148 ?_
      refine lv_aload_n hx hb dX10_summedUp_149 rfl (lv_at hl 4 rfl) ?_
      refine x_get C hm inX10 rfl 21 (by decide) tf_RX10_35 cy_0 rfl dX10_summedUp_150 ?_
      refine lv_iload hx hb dX10_summedUp_153 (lv_at hl 1 rfl) ?_
      obtain ⟨hi65, hf⟩ := xif_s hf
      refine x_lald (j := (Int32.toNatClampNeg v60)) C hm cy_7 hi65 dX10_summedUp_155 rfl ?_
      obtain ⟨hi66, hf⟩ := xif_s hf
      obtain ⟨L67, eL67, hf⟩ := xlet_x hf
      refine x_last (j := (Int32.toNatClampNeg (v60 - (1 : Int32)))) (cf' := cY E b M10 L67) C hm cy_7 hi66 dX10_summedUp_156 rfl (by rw [eL67]; exact cyu_7) (by rw [eL67]; exact cY_oL) (fun H locs hm => ?_)
      refine lv_goto (tgt := 349) hx hb dX10_summedUp_157 (by decide) ?_
      obtain ⟨v68, ev68, hf⟩ := xlet_x hf
      refine lv_iinc (v := v68) (lv' := [(7, .int v68), (6, .int v61), (5, .int v60), (9, .int v19), (8, .int v17), (0, .ref (b + 0)), (3, .int x5), (4, .int x6)]) hx hb dX10_summedUp_349 hl (k := 7) rfl (by rw [ev68]; rfl) (by decide) rfl (fun ls hl => ?_)
      refine lv_goto (tgt := 38) hx hb dX10_summedUp_352 (by decide) ?_
      exact ih M10 L67 v60 v61 v68 H locs ls hf hm (lv_sub hl [5, 6, 7, 2, 1, 0] rfl)
    have hf := xif_f hc21 hf
    refine lv_iload hx hb dX10_summedUp_160 (lv_at hl 1 rfl) ?_
    refine lv_iconst (v := (5 : Int32)) hx hb dX10_summedUp_162 (by decide) ?_
    refine lv_icmp_gt (tgt := 193) hx hb dX10_summedUp_163 (by decide) (fun hc22 => ?_) (fun hc22 => ?_)
    rotate_left
    · have hf := xif_f hc22 hf
      refine lv_aload_n hx hb dX10_summedUp_166 rfl (lv_at hl 2 rfl) ?_
      refine x_get C hm inX10 rfl 21 (by decide) tf_RX10_35 cy_0 rfl dX10_summedUp_167 ?_
      refine lv_iload hx hb dX10_summedUp_170 (lv_at hl 5 rfl) ?_
      refine lv_iconst (v := (1 : Int32)) hx hb dX10_summedUp_172 (by decide) ?_
      refine lv_isub hx hb dX10_summedUp_173 ?_
      refine lv_aload_n hx hb dX10_summedUp_174 rfl (lv_at hl 2 rfl) ?_
      refine lv_iload hx hb dX10_summedUp_175 (lv_at hl 1 rfl) ?_
      refine lv_aload_n hx hb dX10_summedUp_177 rfl (lv_at hl 2 rfl) ?_
      refine x_get C hm inX10 rfl 21 (by decide) tf_RX10_35 cy_0 rfl dX10_summedUp_178 ?_
      refine lv_iload hx hb dX10_summedUp_181 (lv_at hl 5 rfl) ?_
      refine lv_iconst (v := (1 : Int32)) hx hb dX10_summedUp_183 (by decide) ?_
      refine lv_isub hx hb dX10_summedUp_184 ?_
      obtain ⟨hi54, hf⟩ := xif_s hf
      refine x_lald (j := (Int32.toNatClampNeg (x7 - (1 : Int32)))) C hm cy_7 hi54 dX10_summedUp_185 rfl ?_
      obtain ⟨v56, hq55, hf⟩ := xb1_e hf
      refine x_callVl (As := [.int v17, .long (L11 7 (Int32.toNatClampNeg (x7 - (1 : Int32))))]) (rest := [.int (x7 - (1 : Int32)), .ref (b + 7)]) C hm (c_X10_ofOne l E b M10 L11 v17 (L11 7 (Int32.toNatClampNeg (x7 - (1 : Int32)))) hq55) rfl cy_0 tc_X10_ofOne tm_RX10_269 ti_X10_ofOne ts_X10_ofOne tn_RX10 td_X10_ofOne rfl rfl ⟨Nat.le_of_ble_eq_true rfl, Nat.le_of_ble_eq_true rfl⟩ rfl hl.1 rfl (Nat.le_of_ble_eq_true rfl) ⟨Nat.zero_le _, Nat.zero_le _⟩ dX10_summedUp_186 (fun H locs hP57 hm => ?_)
      obtain ⟨L58, eL58, hf⟩ := xlet_x hf
      refine x_last (j := (Int32.toNatClampNeg (x7 - (1 : Int32)))) (cf' := cY E b M10 L58) C hm cy_7 hi54 dX10_summedUp_189 rfl (by rw [eL58]; exact cyu_7) (by rw [eL58]; exact cY_oL) (fun H locs hm => ?_)
      refine lv_goto (tgt := 349) hx hb dX10_summedUp_190 (by decide) ?_
      obtain ⟨v59, ev59, hf⟩ := xlet_x hf
      refine lv_iinc (v := v59) (lv' := [(7, .int v59), (9, .int v19), (8, .int v17), (0, .ref (b + 0)), (3, .int x5), (4, .int x6), (5, .int x7), (6, .int x8)]) hx hb dX10_summedUp_349 hl (k := 7) rfl (by rw [ev59]; rfl) (by decide) rfl (fun ls hl => ?_)
      refine lv_goto (tgt := 38) hx hb dX10_summedUp_352 (by decide) ?_
      exact ih M10 L58 x7 x8 v59 H locs ls hf hm (lv_sub hl [3, 4, 5, 6, 7, 0] rfl)
    have hf := xif_t hc22 hf
    refine lv_iload hx hb dX10_summedUp_193 (lv_at hl 1 rfl) ?_
    refine lv_bipush (v := (10 : Int32)) hx hb dX10_summedUp_195 (by decide) ?_
    refine lv_icmp_ge (tgt := 236) hx hb dX10_summedUp_197 (by decide) (fun hc23 => ?_) (fun hc23 => ?_)
    rotate_left
    · have hf := xif_f hc23 hf
      obtain ⟨v46, ev46, hf⟩ := xlet_x hf
      refine lv_iinc (v := v46) (lv' := [(5, .int v46), (9, .int v19), (8, .int v17), (0, .ref (b + 0)), (3, .int x5), (4, .int x6), (6, .int x8), (7, .int x9)]) hx hb dX10_summedUp_200 hl (k := 5) rfl (by rw [ev46]; rfl) (by decide) rfl (fun ls hl => ?_)
      refine lv_aload_n hx hb dX10_summedUp_203 rfl (lv_at hl 3 rfl) ?_
      refine x_get C hm inX10 rfl 21 (by decide) tf_RX10_35 cy_0 rfl dX10_summedUp_204 ?_
      refine lv_iload hx hb dX10_summedUp_207 (lv_at hl 0 rfl) ?_
      refine lv_iconst (v := (1 : Int32)) hx hb dX10_summedUp_209 (by decide) ?_
      refine lv_isub hx hb dX10_summedUp_210 ?_
      refine lv_iload hx hb dX10_summedUp_211 (lv_at hl 2 rfl) ?_
      refine lv_aload_n hx hb dX10_summedUp_213 rfl (lv_at hl 3 rfl) ?_
      refine x_get C hm inX10 rfl 21 (by decide) tf_RX10_35 cy_0 rfl dX10_summedUp_214 ?_
      refine lv_iload hx hb dX10_summedUp_217 (lv_at hl 0 rfl) ?_
      refine lv_iconst (v := (1 : Int32)) hx hb dX10_summedUp_219 (by decide) ?_
      refine lv_isub hx hb dX10_summedUp_220 ?_
      obtain ⟨hi47, hf⟩ := xif_s hf
      refine x_lald (j := (Int32.toNatClampNeg (v46 - (1 : Int32)))) C hm cy_7 hi47 dX10_summedUp_221 rfl ?_
      refine lv_aload_n hx hb dX10_summedUp_222 rfl (lv_at hl 3 rfl) ?_
      refine x_get C hm inX10 rfl 21 (by decide) tf_RX10_35 cy_0 rfl dX10_summedUp_223 ?_
      refine lv_iload hx hb dX10_summedUp_226 (lv_at hl 0 rfl) ?_
      obtain ⟨hi48, hf⟩ := xif_s hf
      refine x_lald (j := (Int32.toNatClampNeg v46)) C hm cy_7 hi48 dX10_summedUp_228 rfl ?_
      obtain ⟨v50, hq49, hf⟩ := xb1_e hf
      refine x_callSl (As := [.int v17, .long (L11 7 (Int32.toNatClampNeg (v46 - (1 : Int32)))), .long (L11 7 (Int32.toNatClampNeg v46))]) (rest := [.int (v46 - (1 : Int32)), .ref (b + 7)]) C hm (c_X10_two l E b M10 L11 v17 (L11 7 (Int32.toNatClampNeg (v46 - (1 : Int32)))) (L11 7 (Int32.toNatClampNeg v46)) hq49) tc_X10_two tm_RX10_273 tz_X10_two tn_RX10 td_X10_two rfl rfl ⟨Nat.le_of_ble_eq_true rfl, Nat.le_of_ble_eq_true rfl⟩ rfl hl.1 rfl (Nat.le_of_ble_eq_true rfl) ⟨Nat.zero_le _, Nat.zero_le _⟩ dX10_summedUp_229 (fun H locs hP51 hm => ?_)
      obtain ⟨L52, eL52, hf⟩ := xlet_x hf
      refine x_last (j := (Int32.toNatClampNeg (v46 - (1 : Int32)))) (cf' := cY E b M10 L52) C hm cy_7 hi47 dX10_summedUp_232 rfl (by rw [eL52]; exact cyu_7) (by rw [eL52]; exact cY_oL) (fun H locs hm => ?_)
      refine lv_goto (tgt := 349) hx hb dX10_summedUp_233 (by decide) ?_
      obtain ⟨v53, ev53, hf⟩ := xlet_x hf
      refine lv_iinc (v := v53) (lv' := [(7, .int v53), (5, .int v46), (9, .int v19), (8, .int v17), (0, .ref (b + 0)), (3, .int x5), (4, .int x6), (6, .int x8)]) hx hb dX10_summedUp_349 hl (k := 7) rfl (by rw [ev53]; rfl) (by decide) rfl (fun ls hl => ?_)
      refine lv_goto (tgt := 38) hx hb dX10_summedUp_352 (by decide) ?_
      exact ih M10 L52 v46 x8 v53 H locs ls hf hm (lv_sub hl [4, 5, 6, 1, 7, 0] rfl)
    have hf := xif_t hc23 hf
    refine lv_iload hx hb dX10_summedUp_236 (lv_at hl 1 rfl) ?_
    refine lv_bipush (v := (20 : Int32)) hx hb dX10_summedUp_238 (by decide) ?_
    refine lv_icmp_ge (tgt := 280) hx hb dX10_summedUp_240 (by decide) (fun hc24 => ?_) (fun hc24 => ?_)
    rotate_left
    · have hf := xif_f hc24 hf
      obtain ⟨v38, ev38, hf⟩ := xlet_x hf
      refine lv_iinc (v := v38) (lv' := [(5, .int v38), (9, .int v19), (8, .int v17), (0, .ref (b + 0)), (3, .int x5), (4, .int x6), (6, .int x8), (7, .int x9)]) hx hb dX10_summedUp_243 hl (k := 5) rfl (by rw [ev38]; rfl) (by decide) rfl (fun ls hl => ?_)
      refine lv_aload_n hx hb dX10_summedUp_246 rfl (lv_at hl 3 rfl) ?_
      refine x_get C hm inX10 rfl 22 (by decide) tf_RX10_39 cy_0 rfl dX10_summedUp_247 ?_
      refine lv_iload hx hb dX10_summedUp_250 (lv_at hl 6 rfl) ?_
      refine lv_iload hx hb dX10_summedUp_252 (lv_at hl 2 rfl) ?_
      refine lv_aload_n hx hb dX10_summedUp_254 rfl (lv_at hl 3 rfl) ?_
      refine x_get C hm inX10 rfl 21 (by decide) tf_RX10_35 cy_0 rfl dX10_summedUp_255 ?_
      refine lv_iload hx hb dX10_summedUp_258 (lv_at hl 0 rfl) ?_
      obtain ⟨hi39, hf⟩ := xif_s hf
      refine x_lald (j := (Int32.toNatClampNeg v38)) C hm cy_7 hi39 dX10_summedUp_260 rfl ?_
      refine lv_aload_n hx hb dX10_summedUp_261 rfl (lv_at hl 3 rfl) ?_
      refine x_get C hm inX10 rfl 21 (by decide) tf_RX10_35 cy_0 rfl dX10_summedUp_262 ?_
      refine lv_iload hx hb dX10_summedUp_265 (lv_at hl 0 rfl) ?_
      refine lv_iconst (v := (1 : Int32)) hx hb dX10_summedUp_267 (by decide) ?_
      refine lv_iadd hx hb dX10_summedUp_268 ?_
      obtain ⟨hi40, hf⟩ := xif_s hf
      refine x_lald (j := (Int32.toNatClampNeg (v38 + (1 : Int32)))) C hm cy_7 hi40 dX10_summedUp_269 rfl ?_
      refine x_callSi (As := [.int v17, .long (L11 7 (Int32.toNatClampNeg v38)), .long (L11 7 (Int32.toNatClampNeg (v38 + (1 : Int32))))]) (rest := [.int x8, .ref (b + 8)]) C hm (c_X10_isAsked l E b M10 L11 v17 (L11 7 (Int32.toNatClampNeg v38)) (L11 7 (Int32.toNatClampNeg (v38 + (1 : Int32)))) rfl) tc_X10_isAsked tm_RX10_277 tz_X10_isAsked tn_RX10 td_X10_isAsked rfl rfl ⟨Nat.le_of_ble_eq_true rfl, Nat.le_of_ble_eq_true rfl⟩ rfl hl.1 rfl (Nat.le_of_ble_eq_true rfl) ⟨Nat.zero_le _, Nat.zero_le _⟩ dX10_summedUp_270 (fun H locs hP41 hm => ?_)
      obtain ⟨hi42, hf⟩ := xif_s hf
      obtain ⟨M43, eM43, hf⟩ := xlet_x hf
      refine x_zast (j := (Int32.toNatClampNeg x8)) (cf' := cY E b M43 L11) C hm cy_8 hi42 hP41 dX10_summedUp_273 rfl (by rw [eM43]; exact cyu_8) (by rw [eM43]; exact cY_o) (fun H locs hm => ?_)
      obtain ⟨v44, ev44, hf⟩ := xlet_x hf
      refine lv_iinc (v := v44) (lv' := [(6, .int v44), (5, .int v38), (9, .int v19), (8, .int v17), (0, .ref (b + 0)), (3, .int x5), (4, .int x6), (7, .int x9)]) hx hb dX10_summedUp_274 hl (k := 6) rfl (by rw [ev44]; rfl) (by decide) rfl (fun ls hl => ?_)
      refine lv_goto (tgt := 349) hx hb dX10_summedUp_277 (by decide) ?_
      obtain ⟨v45, ev45, hf⟩ := xlet_x hf
      refine lv_iinc (v := v45) (lv' := [(7, .int v45), (6, .int v44), (5, .int v38), (9, .int v19), (8, .int v17), (0, .ref (b + 0)), (3, .int x5), (4, .int x6)]) hx hb dX10_summedUp_349 hl (k := 7) rfl (by rw [ev45]; rfl) (by decide) rfl (fun ls hl => ?_)
      refine lv_goto (tgt := 38) hx hb dX10_summedUp_352 (by decide) ?_
      exact ih M43 L11 v38 v44 v45 H locs ls hf hm (lv_sub hl [5, 6, 7, 2, 1, 0] rfl)
    have hf := xif_t hc24 hf
    refine lv_iload hx hb dX10_summedUp_280 (lv_at hl 1 rfl) ?_
    refine lv_bipush (v := (20 : Int32)) hx hb dX10_summedUp_282 (by decide) ?_
    refine lv_icmp_ne (tgt := 316) hx hb dX10_summedUp_284 (by decide) (fun hc25 => ?_) (fun hc25 => ?_)
    · have hf := xif_f hc25 hf
      obtain ⟨v26, ev26, hf⟩ := xlet_x hf
      refine lv_iinc (v := v26) (lv' := [(6, .int v26), (9, .int v19), (8, .int v17), (0, .ref (b + 0)), (3, .int x5), (4, .int x6), (5, .int x7), (7, .int x9)]) hx hb dX10_summedUp_316 hl (k := 6) rfl (by rw [ev26]; rfl) (by decide) rfl (fun ls hl => ?_)
      refine lv_aload_n hx hb dX10_summedUp_319 rfl (lv_at hl 3 rfl) ?_
      refine x_get C hm inX10 rfl 22 (by decide) tf_RX10_39 cy_0 rfl dX10_summedUp_320 ?_
      refine lv_iload hx hb dX10_summedUp_323 (lv_at hl 0 rfl) ?_
      refine lv_iconst (v := (1 : Int32)) hx hb dX10_summedUp_325 (by decide) ?_
      refine lv_isub hx hb dX10_summedUp_326 ?_
      refine lv_iload hx hb dX10_summedUp_327 (lv_at hl 2 rfl) ?_
      refine lv_aload_n hx hb dX10_summedUp_329 rfl (lv_at hl 3 rfl) ?_
      refine x_get C hm inX10 rfl 22 (by decide) tf_RX10_39 cy_0 rfl dX10_summedUp_330 ?_
      refine lv_iload hx hb dX10_summedUp_333 (lv_at hl 0 rfl) ?_
      refine lv_iconst (v := (1 : Int32)) hx hb dX10_summedUp_335 (by decide) ?_
      refine lv_isub hx hb dX10_summedUp_336 ?_
      obtain ⟨hi27, hf⟩ := xif_s hf
      refine x_zald (j := (Int32.toNatClampNeg (v26 - (1 : Int32)))) C hm cy_8 hi27 dX10_summedUp_337 rfl ?_
      refine lv_aload_n hx hb dX10_summedUp_338 rfl (lv_at hl 3 rfl) ?_
      refine x_get C hm inX10 rfl 22 (by decide) tf_RX10_39 cy_0 rfl dX10_summedUp_339 ?_
      refine lv_iload hx hb dX10_summedUp_342 (lv_at hl 0 rfl) ?_
      obtain ⟨hi28, hf⟩ := xif_s hf
      refine x_zald (j := (Int32.toNatClampNeg v26)) C hm cy_8 hi28 dX10_summedUp_344 rfl ?_
      refine x_callSi (As := [.int v17, .int (M10 8 (Int32.toNatClampNeg (v26 - (1 : Int32)))), .int (M10 8 (Int32.toNatClampNeg v26))]) (rest := [.int (v26 - (1 : Int32)), .ref (b + 8)]) C hm (c_X10_joined l E b M10 L11 v17 (M10 8 (Int32.toNatClampNeg (v26 - (1 : Int32)))) (M10 8 (Int32.toNatClampNeg v26)) rfl) tc_X10_joined tm_RX10_281 tz_X10_joined tn_RX10 td_X10_joined rfl rfl ⟨Nat.le_of_ble_eq_true rfl, Nat.le_of_ble_eq_true rfl⟩ rfl hl.1 rfl (Nat.le_of_ble_eq_true rfl) ⟨Nat.zero_le _, Nat.zero_le _⟩ dX10_summedUp_345 (fun H locs hP29 hm => ?_)
      obtain ⟨M30, eM30, hf⟩ := xlet_x hf
      refine x_zast (j := (Int32.toNatClampNeg (v26 - (1 : Int32)))) (cf' := cY E b M30 L11) C hm cy_8 hi27 hP29 dX10_summedUp_348 rfl (by rw [eM30]; exact cyu_8) (by rw [eM30]; exact cY_o) (fun H locs hm => ?_)
      obtain ⟨v31, ev31, hf⟩ := xlet_x hf
      refine lv_iinc (v := v31) (lv' := [(7, .int v31), (6, .int v26), (9, .int v19), (8, .int v17), (0, .ref (b + 0)), (3, .int x5), (4, .int x6), (5, .int x7)]) hx hb dX10_summedUp_349 hl (k := 7) rfl (by rw [ev31]; rfl) (by decide) rfl (fun ls hl => ?_)
      refine lv_goto (tgt := 38) hx hb dX10_summedUp_352 (by decide) ?_
      exact ih M30 L11 x7 v26 v31 H locs ls hf hm (lv_sub hl [4, 5, 6, 7, 1, 0] rfl)
    have hf := xif_t hc25 hf
    refine lv_aload_n hx hb dX10_summedUp_287 rfl (lv_at hl 2 rfl) ?_
    refine x_get C hm inX10 rfl 22 (by decide) tf_RX10_39 cy_0 rfl dX10_summedUp_288 ?_
    refine lv_iload hx hb dX10_summedUp_291 (lv_at hl 6 rfl) ?_
    refine lv_iconst (v := (1 : Int32)) hx hb dX10_summedUp_293 (by decide) ?_
    refine lv_isub hx hb dX10_summedUp_294 ?_
    refine lv_aload_n hx hb dX10_summedUp_295 rfl (lv_at hl 2 rfl) ?_
    refine x_get C hm inX10 rfl 22 (by decide) tf_RX10_39 cy_0 rfl dX10_summedUp_296 ?_
    refine lv_iload hx hb dX10_summedUp_299 (lv_at hl 6 rfl) ?_
    refine lv_iconst (v := (1 : Int32)) hx hb dX10_summedUp_301 (by decide) ?_
    refine lv_isub hx hb dX10_summedUp_302 ?_
    obtain ⟨hi32, hf⟩ := xif_s hf
    refine x_zald (j := (Int32.toNatClampNeg (x8 - (1 : Int32)))) C hm cy_8 hi32 dX10_summedUp_303 rfl ?_
    refine lv_if_ne (tgt := 311) hx hb dX10_summedUp_304 (by decide) (fun hc33 => ?_) (fun hc33 => ?_)
    · have hf := xif_f hc33 hf
      refine lv_iconst (v := (0 : Int32)) hx hb dX10_summedUp_311 (by decide) ?_
      obtain ⟨M34, eM34, hf⟩ := xlet_x hf
      refine x_zast (j := (Int32.toNatClampNeg (x8 - (1 : Int32)))) (cf' := cY E b M34 L11) C hm cy_8 hi32 (by decide) dX10_summedUp_312 rfl (by rw [eM34]; exact cyu_8) (by rw [eM34]; exact cY_o) (fun H locs hm => ?_)
      refine lv_goto (tgt := 349) hx hb dX10_summedUp_313 (by decide) ?_
      obtain ⟨v35, ev35, hf⟩ := xlet_x hf
      refine lv_iinc (v := v35) (lv' := [(7, .int v35), (9, .int v19), (8, .int v17), (0, .ref (b + 0)), (3, .int x5), (4, .int x6), (5, .int x7), (6, .int x8)]) hx hb dX10_summedUp_349 hl (k := 7) rfl (by rw [ev35]; rfl) (by decide) rfl (fun ls hl => ?_)
      refine lv_goto (tgt := 38) hx hb dX10_summedUp_352 (by decide) ?_
      exact ih M34 L11 x7 x8 v35 H locs ls hf hm (lv_sub hl [3, 4, 5, 6, 7, 0] rfl)
    have hf := xif_t hc33 hf
    refine lv_iconst (v := (1 : Int32)) hx hb dX10_summedUp_307 (by decide) ?_
    refine lv_goto (tgt := 312) hx hb dX10_summedUp_308 (by decide) ?_
    obtain ⟨M36, eM36, hf⟩ := xlet_x hf
    refine x_zast (j := (Int32.toNatClampNeg (x8 - (1 : Int32)))) (cf' := cY E b M36 L11) C hm cy_8 hi32 (by decide) dX10_summedUp_312 rfl (by rw [eM36]; exact cyu_8) (by rw [eM36]; exact cY_o) (fun H locs hm => ?_)
    refine lv_goto (tgt := 349) hx hb dX10_summedUp_313 (by decide) ?_
    obtain ⟨v37, ev37, hf⟩ := xlet_x hf
    refine lv_iinc (v := v37) (lv' := [(7, .int v37), (9, .int v19), (8, .int v17), (0, .ref (b + 0)), (3, .int x5), (4, .int x6), (5, .int x7), (6, .int x8)]) hx hb dX10_summedUp_349 hl (k := 7) rfl (by rw [ev37]; rfl) (by decide) rfl (fun ls hl => ?_)
    refine lv_goto (tgt := 38) hx hb dX10_summedUp_352 (by decide) ?_
    exact ih M36 L11 x7 x8 v37 H locs ls hf hm (lv_sub hl [3, 4, 5, 6, 7, 0] rfl)
set_option maxHeartbeats 4000000 in
set_option maxRecDepth 20000 in
theorem c_X10_summedUp (l : Launch) (E : xE) (b : Nat) (M : xm) (Lm : xn) (a1 : Int32) (a2 : Int32) {r : Int64} {M' : xm} {L' : xn} (hf : f_X10_summedUp M Lm a1 a2 = some (r, M', L')) :
    xMet l E b NY yX10_summedUp cX10_summedUp 10 (some .long) (xR 6) [.ref (b + 0), .int a1, .int a2] (cY E b M Lm) (some (.long r)) True (cY E b M' L') := by
  refine xMet.ofW (own := RX10) (by decide) rfl (Nat.le_of_ble_eq_true rfl) ?_
  intro p e s m below meth c H locs ls C hm hl
  have hx := C.1.1
  have hb := C.1.2.1
  have hl : lv_has ls 10 [(0, .ref (b + 0)), (1, .int a1), (2, .int a2)] := hl
  unfold f_X10_summedUp at hf
  refine lv_sipush (v := (705 : Int32)) hx hb dX10_summedUp_0 (by decide) ?_
  refine lv_iload_n hx hb dX10_summedUp_3 rfl (lv_at hl 1 rfl) ?_
  refine lv_imul hx hb dX10_summedUp_4 ?_
  refine lv_iconst (v := (1 : Int32)) hx hb dX10_summedUp_5 (by decide) ?_
  refine lv_iadd hx hb dX10_summedUp_6 ?_
  refine lv_iconst (v := (4 : Int32)) hx hb dX10_summedUp_7 (by decide) ?_
  refine lv_iload_n hx hb dX10_summedUp_8 rfl (lv_at hl 2 rfl) ?_
  refine lv_imul hx hb dX10_summedUp_9 ?_
  refine lv_iadd hx hb dX10_summedUp_10 ?_
  refine lv_topi (fun v1 ev1 => ?_)
  have hf := xlet_e ev1 hf
  refine lv_istore_n (lv' := [(3, .int v1), (0, .ref (b + 0)), (1, .int a1), (2, .int a2)]) hx hb dX10_summedUp_11 rfl hl (by decide) rfl (fun ls hl => ?_)
  refine lv_sipush (v := (705 : Int32)) hx hb dX10_summedUp_12 (by decide) ?_
  refine lv_iload_n hx hb dX10_summedUp_15 rfl (lv_at hl 2 rfl) ?_
  refine lv_imul hx hb dX10_summedUp_16 ?_
  refine lv_bipush (v := (97 : Int32)) hx hb dX10_summedUp_17 (by decide) ?_
  refine lv_iadd hx hb dX10_summedUp_19 ?_
  refine lv_topi (fun v2 ev2 => ?_)
  have hf := xlet_e ev2 hf
  refine lv_istore (lv' := [(4, .int v2), (3, .int v1), (0, .ref (b + 0)), (1, .int a1), (2, .int a2)]) hx hb dX10_summedUp_20 hl (by decide) rfl (fun ls hl => ?_)
  refine lv_iconst (v := (0 : Int32)) hx hb dX10_summedUp_22 (by decide) ?_
  refine lv_istore (lv' := [(5, .int (0 : Int32)), (4, .int v2), (3, .int v1), (0, .ref (b + 0)), (1, .int a1), (2, .int a2)]) hx hb dX10_summedUp_23 hl (by decide) rfl (fun ls hl => ?_)
  refine lv_iconst (v := (0 : Int32)) hx hb dX10_summedUp_25 (by decide) ?_
  refine lv_istore (lv' := [(6, .int (0 : Int32)), (5, .int (0 : Int32)), (4, .int v2), (3, .int v1), (0, .ref (b + 0)), (1, .int a1), (2, .int a2)]) hx hb dX10_summedUp_26 hl (by decide) rfl (fun ls hl => ?_)
  refine lv_aload_n hx hb dX10_summedUp_28 rfl (lv_at hl 4 rfl) ?_
  refine x_get C hm inX10 rfl 2 (by decide) tf_RX10_16 cy_0 rfl dX10_summedUp_29 ?_
  refine lv_iload_n hx hb dX10_summedUp_32 rfl (lv_at hl 3 rfl) ?_
  refine lv_iconst (v := (1 : Int32)) hx hb dX10_summedUp_33 (by decide) ?_
  refine lv_iadd hx hb dX10_summedUp_34 ?_
  obtain ⟨hi3, hf⟩ := xif_s hf
  refine x_iald (j := (Int32.toNatClampNeg (v1 + (1 : Int32)))) C hm cy_3 hi3 dX10_summedUp_35 rfl ?_
  refine lv_topi (fun v4 ev4 => ?_)
  have hf := xlet_e ev4 hf
  refine lv_istore (lv' := [(7, .int v4), (6, .int (0 : Int32)), (5, .int (0 : Int32)), (4, .int v2), (3, .int v1), (0, .ref (b + 0)), (1, .int a1), (2, .int a2)]) hx hb dX10_summedUp_36 hl (by decide) rfl (fun ls hl => ?_)
  obtain ⟨M79, L80, hq, hf⟩ := xb2_e hf
  refine j_X10_summedUp_38 C v1 v2 (fun H locs ls hm hl => ?_) xfuel M Lm (0 : Int32) (0 : Int32) v4 H locs ls hq hm (lv_sub hl [5, 4, 3, 2, 1, 0] rfl)
  refine lv_aload_n hx hb dX10_summedUp_355 rfl (lv_at hl 0 rfl) ?_
  refine x_get C hm inX10 rfl 21 (by decide) tf_RX10_35 cy_0 rfl dX10_summedUp_356 ?_
  refine lv_iconst (v := (0 : Int32)) hx hb dX10_summedUp_359 (by decide) ?_
  refine x_lald (j := 0) C hm cy_7 (by decide) dX10_summedUp_360 (by decide) ?_
  cases hf
  exact x_lret C hm trivial dX10_summedUp_361
/-! ColouredHeapModel.doesPick(II)Z -/
theorem dX10_doesPick_0 : decode cX10_doesPick 0 = .ok (.aload_n 0, 1) := by decide +kernel
theorem dX10_doesPick_1 : decode cX10_doesPick 1 = .ok (.iload_n 1, 1) := by decide +kernel
theorem dX10_doesPick_2 : decode cX10_doesPick 2 = .ok (.iconst 0, 1) := by decide +kernel
theorem dX10_doesPick_3 : decode cX10_doesPick 3 = .ok (.invokevirtual 291, 3) := by decide +kernel
theorem dX10_doesPick_6 : decode cX10_doesPick 6 = .ok (.istore_n 3, 1) := by decide +kernel
theorem dX10_doesPick_7 : decode cX10_doesPick 7 = .ok (.aload_n 0, 1) := by decide +kernel
theorem dX10_doesPick_8 : decode cX10_doesPick 8 = .ok (.iload_n 2, 1) := by decide +kernel
theorem dX10_doesPick_9 : decode cX10_doesPick 9 = .ok (.invokevirtual 266, 3) := by decide +kernel
theorem dX10_doesPick_12 : decode cX10_doesPick 12 = .ok (.istore 4, 2) := by decide +kernel
theorem dX10_doesPick_14 : decode cX10_doesPick 14 = .ok (.iload_n 3, 1) := by decide +kernel
theorem dX10_doesPick_15 : decode cX10_doesPick 15 = .ok (.iconst (-1), 1) := by decide +kernel
theorem dX10_doesPick_16 : decode cX10_doesPick 16 = .ok (.if_icmp .ne 25, 3) := by decide +kernel
theorem dX10_doesPick_19 : decode cX10_doesPick 19 = .ok (.iconst 2, 1) := by decide +kernel
theorem dX10_doesPick_20 : decode cX10_doesPick 20 = .ok (.iload 4, 2) := by decide +kernel
theorem dX10_doesPick_22 : decode cX10_doesPick 22 = .ok (.imul, 1) := by decide +kernel
theorem dX10_doesPick_23 : decode cX10_doesPick 23 = .ok (.aload_n 0, 1) := by decide +kernel
theorem dX10_doesPick_24 : decode cX10_doesPick 24 = .ok (.getfield 7, 3) := by decide +kernel
theorem dX10_doesPick_27 : decode cX10_doesPick 27 = .ok (.bipush 21, 2) := by decide +kernel
theorem dX10_doesPick_29 : decode cX10_doesPick 29 = .ok (.iload_n 2, 1) := by decide +kernel
theorem dX10_doesPick_30 : decode cX10_doesPick 30 = .ok (.iadd, 1) := by decide +kernel
theorem dX10_doesPick_31 : decode cX10_doesPick 31 = .ok (.iaload, 1) := by decide +kernel
theorem dX10_doesPick_32 : decode cX10_doesPick 32 = .ok (.if_icmp .gt 7, 3) := by decide +kernel
theorem dX10_doesPick_35 : decode cX10_doesPick 35 = .ok (.iconst 1, 1) := by decide +kernel
theorem dX10_doesPick_36 : decode cX10_doesPick 36 = .ok (.goto 4, 3) := by decide +kernel
theorem dX10_doesPick_39 : decode cX10_doesPick 39 = .ok (.iconst 0, 1) := by decide +kernel
theorem dX10_doesPick_40 : decode cX10_doesPick 40 = .ok (.ireturn, 1) := by decide +kernel
theorem dX10_doesPick_41 : decode cX10_doesPick 41 = .ok (.aload_n 0, 1) := by decide +kernel
theorem dX10_doesPick_42 : decode cX10_doesPick 42 = .ok (.invokevirtual 294, 3) := by decide +kernel
theorem dX10_doesPick_45 : decode cX10_doesPick 45 = .ok (.aload_n 0, 1) := by decide +kernel
theorem dX10_doesPick_46 : decode cX10_doesPick 46 = .ok (.getfield 32, 3) := by decide +kernel
theorem dX10_doesPick_49 : decode cX10_doesPick 49 = .ok (.iconst 4, 1) := by decide +kernel
theorem dX10_doesPick_50 : decode cX10_doesPick 50 = .ok (.iload_n 2, 1) := by decide +kernel
theorem dX10_doesPick_51 : decode cX10_doesPick 51 = .ok (.iastore, 1) := by decide +kernel
theorem dX10_doesPick_52 : decode cX10_doesPick 52 = .ok (.aload_n 0, 1) := by decide +kernel
theorem dX10_doesPick_53 : decode cX10_doesPick 53 = .ok (.getfield 32, 3) := by decide +kernel
theorem dX10_doesPick_56 : decode cX10_doesPick 56 = .ok (.iconst 5, 1) := by decide +kernel
theorem dX10_doesPick_57 : decode cX10_doesPick 57 = .ok (.iload 4, 2) := by decide +kernel
theorem dX10_doesPick_59 : decode cX10_doesPick 59 = .ok (.iastore, 1) := by decide +kernel
theorem dX10_doesPick_60 : decode cX10_doesPick 60 = .ok (.aload_n 0, 1) := by decide +kernel
theorem dX10_doesPick_61 : decode cX10_doesPick 61 = .ok (.getfield 32, 3) := by decide +kernel
theorem dX10_doesPick_64 : decode cX10_doesPick 64 = .ok (.bipush 6, 2) := by decide +kernel
theorem dX10_doesPick_66 : decode cX10_doesPick 66 = .ok (.aload_n 0, 1) := by decide +kernel
theorem dX10_doesPick_67 : decode cX10_doesPick 67 = .ok (.getfield 7, 3) := by decide +kernel
theorem dX10_doesPick_70 : decode cX10_doesPick 70 = .ok (.bipush 21, 2) := by decide +kernel
theorem dX10_doesPick_72 : decode cX10_doesPick 72 = .ok (.iload_n 2, 1) := by decide +kernel
theorem dX10_doesPick_73 : decode cX10_doesPick 73 = .ok (.iadd, 1) := by decide +kernel
theorem dX10_doesPick_74 : decode cX10_doesPick 74 = .ok (.iaload, 1) := by decide +kernel
theorem dX10_doesPick_75 : decode cX10_doesPick 75 = .ok (.iastore, 1) := by decide +kernel
theorem dX10_doesPick_76 : decode cX10_doesPick 76 = .ok (.aload_n 0, 1) := by decide +kernel
theorem dX10_doesPick_77 : decode cX10_doesPick 77 = .ok (.iload_n 1, 1) := by decide +kernel
theorem dX10_doesPick_78 : decode cX10_doesPick 78 = .ok (.iload_n 3, 1) := by decide +kernel
theorem dX10_doesPick_79 : decode cX10_doesPick 79 = .ok (.invokevirtual 297, 3) := by decide +kernel
theorem dX10_doesPick_82 : decode cX10_doesPick 82 = .ok (.lconst 0, 1) := by decide +kernel
theorem dX10_doesPick_83 : decode cX10_doesPick 83 = .ok (.lcmp, 1) := by decide +kernel
theorem dX10_doesPick_84 : decode cX10_doesPick 84 = .ok (.ifCond .le 7, 3) := by decide +kernel
theorem dX10_doesPick_87 : decode cX10_doesPick 87 = .ok (.iconst 1, 1) := by decide +kernel
theorem dX10_doesPick_88 : decode cX10_doesPick 88 = .ok (.goto 4, 3) := by decide +kernel
theorem dX10_doesPick_91 : decode cX10_doesPick 91 = .ok (.iconst 0, 1) := by decide +kernel
theorem dX10_doesPick_92 : decode cX10_doesPick 92 = .ok (.ireturn, 1) := by decide +kernel
def f_X10_doesPick (M : xm) (Lm : xn) (a1 : Int32) (a2 : Int32) : Option (Int32 × xm × xn) := xb1 (f_X10_clauseOf M a1 (0 : Int32)) (fun v2 => xb1 (f_X10_liveOf M a2) (fun v5 => (if v2 = (-1 : Int32) then if xin ((21 : Int32) + a2) 9878 = true then (if (M 1 (Int32.toNatClampNeg ((21 : Int32) + a2))) < ((2 : Int32) * v5) then some ((0 : Int32), M, Lm) else some ((1 : Int32), M, Lm)) else none else xb1 (f_X10_name M) (fun M9 => xlet (up2 M9 6 4 a2) (fun M11 => xlet (up2 M11 6 5 v5) (fun M12 => if xin ((21 : Int32) + a2) 9878 = true then xlet (up2 M12 6 6 (M12 1 (Int32.toNatClampNeg ((21 : Int32) + a2)))) (fun M14 => xb3 (f_X10_summedUp M14 Lm a1 v2) (fun v16 M17 L18 => (if (lg_cmp v16 (0 : Int64)) ≤ 0 then some ((0 : Int32), M17, L18) else some ((1 : Int32), M17, L18)))) else none))))))
set_option maxHeartbeats 4000000 in
set_option maxRecDepth 20000 in
theorem c_X10_doesPick (l : Launch) (E : xE) (b : Nat) (M : xm) (Lm : xn) (a1 : Int32) (a2 : Int32) {r : Int32} {M' : xm} {L' : xn} (hf : f_X10_doesPick M Lm a1 a2 = some (r, M', L')) :
    xMet l E b NY yX10_doesPick cX10_doesPick 5 (some .boolean) (xR 7) [.ref (b + 0), .int a1, .int a2] (cY E b M Lm) (some (.int r)) (xbo r = true) (cY E b M' L') := by
  refine xMet.ofW (own := RX10) (by decide) rfl (Nat.le_of_ble_eq_true rfl) ?_
  intro p e s m below meth c H locs ls C hm hl
  have hx := C.1.1
  have hb := C.1.2.1
  have hl : lv_has ls 5 [(0, .ref (b + 0)), (1, .int a1), (2, .int a2)] := hl
  unfold f_X10_doesPick at hf
  refine lv_aload_n hx hb dX10_doesPick_0 rfl (lv_at hl 0 rfl) ?_
  refine lv_iload_n hx hb dX10_doesPick_1 rfl (lv_at hl 1 rfl) ?_
  refine lv_iconst (v := (0 : Int32)) hx hb dX10_doesPick_2 (by decide) ?_
  obtain ⟨v2, hq1, hf⟩ := xb1_e hf
  refine x_callVi (As := [.int a1, .int (0 : Int32)]) (rest := []) C hm (c_X10_clauseOf l E b M Lm a1 (0 : Int32) hq1) rfl cy_0 tc_X10_clauseOf tm_RX10_291 ti_X10_clauseOf ts_X10_clauseOf tn_RX10 td_X10_clauseOf rfl rfl ⟨Nat.le_of_ble_eq_true rfl, Nat.le_of_ble_eq_true rfl⟩ rfl hl.1 rfl (Nat.le_of_ble_eq_true rfl) ⟨Nat.zero_le _, Nat.zero_le _⟩ dX10_doesPick_3 (fun H locs hP3 hm => ?_)
  refine lv_istore_n (lv' := [(3, .int v2), (0, .ref (b + 0)), (1, .int a1), (2, .int a2)]) hx hb dX10_doesPick_6 rfl hl (by decide) rfl (fun ls hl => ?_)
  refine lv_aload_n hx hb dX10_doesPick_7 rfl (lv_at hl 1 rfl) ?_
  refine lv_iload_n hx hb dX10_doesPick_8 rfl (lv_at hl 3 rfl) ?_
  obtain ⟨v5, hq4, hf⟩ := xb1_e hf
  refine x_callVi (As := [.int a2]) (rest := []) C hm (c_X10_liveOf l E b M Lm a2 hq4) rfl cy_0 tc_X10_liveOf tm_RX10_266 ti_X10_liveOf ts_X10_liveOf tn_RX10 td_X10_liveOf rfl rfl ⟨Nat.le_of_ble_eq_true rfl, Nat.le_of_ble_eq_true rfl⟩ rfl hl.1 rfl (Nat.le_of_ble_eq_true rfl) ⟨Nat.zero_le _, Nat.zero_le _⟩ dX10_doesPick_9 (fun H locs hP6 hm => ?_)
  refine lv_istore (lv' := [(4, .int v5), (3, .int v2), (0, .ref (b + 0)), (1, .int a1), (2, .int a2)]) hx hb dX10_doesPick_12 hl (by decide) rfl (fun ls hl => ?_)
  refine lv_iload_n hx hb dX10_doesPick_14 rfl (lv_at hl 1 rfl) ?_
  refine lv_iconst (v := (-1 : Int32)) hx hb dX10_doesPick_15 (by decide) ?_
  refine lv_icmp_ne (tgt := 41) hx hb dX10_doesPick_16 (by decide) (fun hc7 => ?_) (fun hc7 => ?_)
  rotate_left
  · have hf := xif_t hc7 hf
    refine lv_iconst (v := (2 : Int32)) hx hb dX10_doesPick_19 (by decide) ?_
    refine lv_iload hx hb dX10_doesPick_20 (lv_at hl 0 rfl) ?_
    refine lv_imul hx hb dX10_doesPick_22 ?_
    refine lv_aload_n hx hb dX10_doesPick_23 rfl (lv_at hl 2 rfl) ?_
    refine x_get C hm inX10 rfl 0 (by decide) tf_RX10_7 cy_0 rfl dX10_doesPick_24 ?_
    refine lv_bipush (v := (21 : Int32)) hx hb dX10_doesPick_27 (by decide) ?_
    refine lv_iload_n hx hb dX10_doesPick_29 rfl (lv_at hl 4 rfl) ?_
    refine lv_iadd hx hb dX10_doesPick_30 ?_
    obtain ⟨hi21, hf⟩ := xif_s hf
    refine x_iald (j := (Int32.toNatClampNeg ((21 : Int32) + a2))) C hm cy_1 hi21 dX10_doesPick_31 rfl ?_
    refine lv_icmp_gt (tgt := 39) hx hb dX10_doesPick_32 (by decide) (fun hc22 => ?_) (fun hc22 => ?_)
    · have hf := xif_t hc22 hf
      refine lv_iconst (v := (0 : Int32)) hx hb dX10_doesPick_39 (by decide) ?_
      cases hf
      exact x_zret C hm (by decide) (by decide) dX10_doesPick_40
    have hf := xif_f hc22 hf
    refine lv_iconst (v := (1 : Int32)) hx hb dX10_doesPick_35 (by decide) ?_
    refine lv_goto (tgt := 40) hx hb dX10_doesPick_36 (by decide) ?_
    cases hf
    exact x_zret C hm (by decide) (by decide) dX10_doesPick_40
  have hf := xif_f hc7 hf
  refine lv_aload_n hx hb dX10_doesPick_41 rfl (lv_at hl 2 rfl) ?_
  obtain ⟨M9, hq8, hf⟩ := xb1_e hf
  refine x_callVv (As := []) (rest := []) C hm (c_X10_name l E b M Lm hq8) rfl cy_0 tc_X10_name tm_RX10_294 ti_X10_name ts_X10_name tn_RX10 td_X10_name rfl rfl ⟨Nat.le_of_ble_eq_true rfl, Nat.le_of_ble_eq_true rfl⟩ rfl hl.1 rfl (Nat.le_of_ble_eq_true rfl) ⟨Nat.zero_le _, Nat.zero_le _⟩ dX10_doesPick_42 (fun H locs hP10 hm => ?_)
  refine lv_aload_n hx hb dX10_doesPick_45 rfl (lv_at hl 2 rfl) ?_
  refine x_get C hm inX10 rfl 20 (by decide) tf_RX10_32 cy_0 rfl dX10_doesPick_46 ?_
  refine lv_iconst (v := (4 : Int32)) hx hb dX10_doesPick_49 (by decide) ?_
  refine lv_iload_n hx hb dX10_doesPick_50 rfl (lv_at hl 4 rfl) ?_
  obtain ⟨M11, eM11, hf⟩ := xlet_x hf
  refine x_iast (j := 4) (cf' := cY E b M11 Lm) C hm cy_6 (by decide) dX10_doesPick_51 (by decide) (by rw [eM11]; exact cyu_6) (by rw [eM11]; exact cY_o) (fun H locs hm => ?_)
  refine lv_aload_n hx hb dX10_doesPick_52 rfl (lv_at hl 2 rfl) ?_
  refine x_get C hm inX10 rfl 20 (by decide) tf_RX10_32 cy_0 rfl dX10_doesPick_53 ?_
  refine lv_iconst (v := (5 : Int32)) hx hb dX10_doesPick_56 (by decide) ?_
  refine lv_iload hx hb dX10_doesPick_57 (lv_at hl 0 rfl) ?_
  obtain ⟨M12, eM12, hf⟩ := xlet_x hf
  refine x_iast (j := 5) (cf' := cY E b M12 Lm) C hm cy_6 (by decide) dX10_doesPick_59 (by decide) (by rw [eM12]; exact cyu_6) (by rw [eM12]; exact cY_o) (fun H locs hm => ?_)
  refine lv_aload_n hx hb dX10_doesPick_60 rfl (lv_at hl 2 rfl) ?_
  refine x_get C hm inX10 rfl 20 (by decide) tf_RX10_32 cy_0 rfl dX10_doesPick_61 ?_
  refine lv_bipush (v := (6 : Int32)) hx hb dX10_doesPick_64 (by decide) ?_
  refine lv_aload_n hx hb dX10_doesPick_66 rfl (lv_at hl 2 rfl) ?_
  refine x_get C hm inX10 rfl 0 (by decide) tf_RX10_7 cy_0 rfl dX10_doesPick_67 ?_
  refine lv_bipush (v := (21 : Int32)) hx hb dX10_doesPick_70 (by decide) ?_
  refine lv_iload_n hx hb dX10_doesPick_72 rfl (lv_at hl 4 rfl) ?_
  refine lv_iadd hx hb dX10_doesPick_73 ?_
  obtain ⟨hi13, hf⟩ := xif_s hf
  refine x_iald (j := (Int32.toNatClampNeg ((21 : Int32) + a2))) C hm cy_1 hi13 dX10_doesPick_74 rfl ?_
  obtain ⟨M14, eM14, hf⟩ := xlet_x hf
  refine x_iast (j := 6) (cf' := cY E b M14 Lm) C hm cy_6 (by decide) dX10_doesPick_75 (by decide) (by rw [eM14]; exact cyu_6) (by rw [eM14]; exact cY_o) (fun H locs hm => ?_)
  refine lv_aload_n hx hb dX10_doesPick_76 rfl (lv_at hl 2 rfl) ?_
  refine lv_iload_n hx hb dX10_doesPick_77 rfl (lv_at hl 3 rfl) ?_
  refine lv_iload_n hx hb dX10_doesPick_78 rfl (lv_at hl 1 rfl) ?_
  obtain ⟨v16, M17, L18, hq15, hf⟩ := xb3_e hf
  refine x_callVl (As := [.int a1, .int v2]) (rest := []) C hm (c_X10_summedUp l E b M14 Lm a1 v2 hq15) rfl cy_0 tc_X10_summedUp tm_RX10_297 ti_X10_summedUp ts_X10_summedUp tn_RX10 td_X10_summedUp rfl rfl ⟨Nat.le_of_ble_eq_true rfl, Nat.le_of_ble_eq_true rfl⟩ rfl hl.1 rfl (Nat.le_of_ble_eq_true rfl) ⟨Nat.zero_le _, Nat.zero_le _⟩ dX10_doesPick_79 (fun H locs hP19 hm => ?_)
  refine lv_lconst (v := (0 : Int64)) hx hb dX10_doesPick_82 (by decide) ?_
  refine W.lcmp hx hb dX10_doesPick_83 ?_
  refine lv_if_le (tgt := 91) hx hb dX10_doesPick_84 (by decide) (fun hc20 => ?_) (fun hc20 => ?_)
  · have hf := xif_t hc20 hf
    refine lv_iconst (v := (0 : Int32)) hx hb dX10_doesPick_91 (by decide) ?_
    cases hf
    exact x_zret C hm (by decide) (by decide) dX10_doesPick_92
  have hf := xif_f hc20 hf
  refine lv_iconst (v := (1 : Int32)) hx hb dX10_doesPick_87 (by decide) ?_
  refine lv_goto (tgt := 92) hx hb dX10_doesPick_88 (by decide) ?_
  cases hf
  exact x_zret C hm (by decide) (by decide) dX10_doesPick_92
/-! ColouredHeapModel.freePage(I)V -/
theorem dX10_freePage_0 : decode cX10_freePage 0 = .ok (.aload_n 0, 1) := by decide +kernel
theorem dX10_freePage_1 : decode cX10_freePage 1 = .ok (.getfield 7, 3) := by decide +kernel
theorem dX10_freePage_4 : decode cX10_freePage 4 = .ok (.bipush 13, 2) := by decide +kernel
theorem dX10_freePage_6 : decode cX10_freePage 6 = .ok (.iload_n 1, 1) := by decide +kernel
theorem dX10_freePage_7 : decode cX10_freePage 7 = .ok (.iadd, 1) := by decide +kernel
theorem dX10_freePage_8 : decode cX10_freePage 8 = .ok (.iconst 0, 1) := by decide +kernel
theorem dX10_freePage_9 : decode cX10_freePage 9 = .ok (.iastore, 1) := by decide +kernel
theorem dX10_freePage_10 : decode cX10_freePage 10 = .ok (.aload_n 0, 1) := by decide +kernel
theorem dX10_freePage_11 : decode cX10_freePage 11 = .ok (.getfield 7, 3) := by decide +kernel
theorem dX10_freePage_14 : decode cX10_freePage 14 = .ok (.bipush 21, 2) := by decide +kernel
theorem dX10_freePage_16 : decode cX10_freePage 16 = .ok (.iload_n 1, 1) := by decide +kernel
theorem dX10_freePage_17 : decode cX10_freePage 17 = .ok (.iadd, 1) := by decide +kernel
theorem dX10_freePage_18 : decode cX10_freePage 18 = .ok (.iconst 0, 1) := by decide +kernel
theorem dX10_freePage_19 : decode cX10_freePage 19 = .ok (.iastore, 1) := by decide +kernel
theorem dX10_freePage_20 : decode cX10_freePage 20 = .ok (.bipush 8, 2) := by decide +kernel
theorem dX10_freePage_22 : decode cX10_freePage 22 = .ok (.iload_n 1, 1) := by decide +kernel
theorem dX10_freePage_23 : decode cX10_freePage 23 = .ok (.imul, 1) := by decide +kernel
theorem dX10_freePage_24 : decode cX10_freePage 24 = .ok (.istore_n 2, 1) := by decide +kernel
theorem dX10_freePage_25 : decode cX10_freePage 25 = .ok (.iload_n 2, 1) := by decide +kernel
theorem dX10_freePage_26 : decode cX10_freePage 26 = .ok (.bipush 8, 2) := by decide +kernel
theorem dX10_freePage_28 : decode cX10_freePage 28 = .ok (.iload_n 1, 1) := by decide +kernel
theorem dX10_freePage_29 : decode cX10_freePage 29 = .ok (.imul, 1) := by decide +kernel
theorem dX10_freePage_30 : decode cX10_freePage 30 = .ok (.bipush 8, 2) := by decide +kernel
theorem dX10_freePage_32 : decode cX10_freePage 32 = .ok (.iadd, 1) := by decide +kernel
theorem dX10_freePage_33 : decode cX10_freePage 33 = .ok (.if_icmp .ge 31, 3) := by decide +kernel
theorem dX10_freePage_36 : decode cX10_freePage 36 = .ok (.aload_n 0, 1) := by decide +kernel
theorem dX10_freePage_37 : decode cX10_freePage 37 = .ok (.getfield 7, 3) := by decide +kernel
theorem dX10_freePage_40 : decode cX10_freePage 40 = .ok (.bipush 41, 2) := by decide +kernel
theorem dX10_freePage_42 : decode cX10_freePage 42 = .ok (.iload_n 2, 1) := by decide +kernel
theorem dX10_freePage_43 : decode cX10_freePage 43 = .ok (.iadd, 1) := by decide +kernel
theorem dX10_freePage_44 : decode cX10_freePage 44 = .ok (.bipush (-2), 2) := by decide +kernel
theorem dX10_freePage_46 : decode cX10_freePage 46 = .ok (.iastore, 1) := by decide +kernel
theorem dX10_freePage_47 : decode cX10_freePage 47 = .ok (.aload_n 0, 1) := by decide +kernel
theorem dX10_freePage_48 : decode cX10_freePage 48 = .ok (.getfield 7, 3) := by decide +kernel
theorem dX10_freePage_51 : decode cX10_freePage 51 = .ok (.sipush 169, 3) := by decide +kernel
theorem dX10_freePage_54 : decode cX10_freePage 54 = .ok (.iload_n 2, 1) := by decide +kernel
theorem dX10_freePage_55 : decode cX10_freePage 55 = .ok (.iadd, 1) := by decide +kernel
theorem dX10_freePage_56 : decode cX10_freePage 56 = .ok (.iconst 0, 1) := by decide +kernel
theorem dX10_freePage_57 : decode cX10_freePage 57 = .ok (.iastore, 1) := by decide +kernel
theorem dX10_freePage_58 : decode cX10_freePage 58 = .ok (.iinc 2 1, 3) := by decide +kernel
theorem dX10_freePage_61 : decode cX10_freePage 61 = .ok (.goto (-36), 3) := by decide +kernel
theorem dX10_freePage_64 : decode cX10_freePage 64 = .ok (.aload_n 0, 1) := by decide +kernel
theorem dX10_freePage_65 : decode cX10_freePage 65 = .ok (.iconst 3, 1) := by decide +kernel
theorem dX10_freePage_66 : decode cX10_freePage 66 = .ok (.iload_n 1, 1) := by decide +kernel
theorem dX10_freePage_67 : decode cX10_freePage 67 = .ok (.invokevirtual 313, 3) := by decide +kernel
theorem dX10_freePage_70 : decode cX10_freePage 70 = .ok (.return_, 1) := by decide +kernel
def g_X10_freePage_25 (x6 : Int32) : Nat → xm → Int32 → Option ((xm))
  | 0, _, _ => none
  | n + 1, M8, x7 => (if (((8 : Int32) * x6) + (8 : Int32)) ≤ x7 then some (M8) else if xin ((41 : Int32) + x7) 9878 = true then xlet (up2 M8 1 (Int32.toNatClampNeg ((41 : Int32) + x7)) (-2 : Int32)) (fun M12 => if xin ((169 : Int32) + x7) 9878 = true then xlet (up2 M12 1 (Int32.toNatClampNeg ((169 : Int32) + x7)) (0 : Int32)) (fun M14 => xlet (x7 + (1 : Int32)) (fun v15 => g_X10_freePage_25 x6 n M14 v15)) else none) else none)
def f_X10_freePage (M : xm) (a1 : Int32) : Option (xm) := if xin ((13 : Int32) + a1) 9878 = true then xlet (up2 M 1 (Int32.toNatClampNeg ((13 : Int32) + a1)) (0 : Int32)) (fun M2 => if xin ((21 : Int32) + a1) 9878 = true then xlet (up2 M2 1 (Int32.toNatClampNeg ((21 : Int32) + a1)) (0 : Int32)) (fun M4 => xlet ((8 : Int32) * a1) (fun v5 => xb1 (g_X10_freePage_25 a1 xfuel M4 v5) (fun M16 => xb1 (f_X10_write M16 (3 : Int32) a1) (fun M18 => some M18)))) else none) else none
set_option maxHeartbeats 4000000 in
set_option maxRecDepth 20000 in
theorem j_X10_freePage_25 {p : Program} {l : Launch} {e : Env} {s : State} {m : MethodId} {args : Array Value} {below : List Frame} {meth : Method} {c : Code} {Q : State → Prop} {E : xE} {b : Nat} (C : xC p s m args meth c cX10_freePage 3 RX10 none E b) {Lm : xn} (x6 : Int32) {y9 : xm}
    (kx0 : ∀ (H : Heap) (locs : List Loc) (ls : Array Slot), xM E b NY (cY E b y9 Lm) s.heap H locs → lv_has ls 3 [(0, .ref (b + 0)), (1, .int x6)] → W p l e (xR 2) s m args below meth c H locs 0 0 Q (F0 m 64 ls [])) :
    ∀ (n : Nat) (M8 : xm) (x7 : Int32) (H : Heap) (locs : List Loc) (ls : Array Slot), g_X10_freePage_25 x6 n M8 x7 = some y9 → xM E b NY (cY E b M8 Lm) s.heap H locs → lv_has ls 3 [(0, .ref (b + 0)), (1, .int x6), (2, .int x7)] → W p l e (xR 2) s m args below meth c H locs 0 0 Q (F0 m 25 ls []) := by
  have hx := C.1.1
  have hb := C.1.2.1
  intro n
  induction n with
  | zero =>
    intro M8 x7 H locs ls hf hm hl
    rw [g_X10_freePage_25] at hf
    cases hf
  | succ n ih =>
    intro M8 x7 H locs ls hf hm hl
    rw [g_X10_freePage_25] at hf
    refine lv_iload_n hx hb dX10_freePage_25 rfl (lv_at hl 2 rfl) ?_
    refine lv_bipush (v := (8 : Int32)) hx hb dX10_freePage_26 (by decide) ?_
    refine lv_iload_n hx hb dX10_freePage_28 rfl (lv_at hl 1 rfl) ?_
    refine lv_imul hx hb dX10_freePage_29 ?_
    refine lv_bipush (v := (8 : Int32)) hx hb dX10_freePage_30 (by decide) ?_
    refine lv_iadd hx hb dX10_freePage_32 ?_
    refine lv_icmp_ge (tgt := 64) hx hb dX10_freePage_33 (by decide) (fun hc10 => ?_) (fun hc10 => ?_)
    · have hf := xif_t hc10 hf
      cases hf
      exact kx0 H locs ls hm (lv_sub hl [0, 1] rfl)
    have hf := xif_f hc10 hf
    refine lv_aload_n hx hb dX10_freePage_36 rfl (lv_at hl 0 rfl) ?_
    refine x_get C hm inX10 rfl 0 (by decide) tf_RX10_7 cy_0 rfl dX10_freePage_37 ?_
    refine lv_bipush (v := (41 : Int32)) hx hb dX10_freePage_40 (by decide) ?_
    refine lv_iload_n hx hb dX10_freePage_42 rfl (lv_at hl 2 rfl) ?_
    refine lv_iadd hx hb dX10_freePage_43 ?_
    refine lv_bipush (v := (-2 : Int32)) hx hb dX10_freePage_44 (by decide) ?_
    obtain ⟨hi11, hf⟩ := xif_s hf
    obtain ⟨M12, eM12, hf⟩ := xlet_x hf
    refine x_iast (j := (Int32.toNatClampNeg ((41 : Int32) + x7))) (cf' := cY E b M12 Lm) C hm cy_1 hi11 dX10_freePage_46 rfl (by rw [eM12]; exact cyu_1) (by rw [eM12]; exact cY_o) (fun H locs hm => ?_)
    refine lv_aload_n hx hb dX10_freePage_47 rfl (lv_at hl 0 rfl) ?_
    refine x_get C hm inX10 rfl 0 (by decide) tf_RX10_7 cy_0 rfl dX10_freePage_48 ?_
    refine lv_sipush (v := (169 : Int32)) hx hb dX10_freePage_51 (by decide) ?_
    refine lv_iload_n hx hb dX10_freePage_54 rfl (lv_at hl 2 rfl) ?_
    refine lv_iadd hx hb dX10_freePage_55 ?_
    refine lv_iconst (v := (0 : Int32)) hx hb dX10_freePage_56 (by decide) ?_
    obtain ⟨hi13, hf⟩ := xif_s hf
    obtain ⟨M14, eM14, hf⟩ := xlet_x hf
    refine x_iast (j := (Int32.toNatClampNeg ((169 : Int32) + x7))) (cf' := cY E b M14 Lm) C hm cy_1 hi13 dX10_freePage_57 rfl (by rw [eM14]; exact cyu_1) (by rw [eM14]; exact cY_o) (fun H locs hm => ?_)
    obtain ⟨v15, ev15, hf⟩ := xlet_x hf
    refine lv_iinc (v := v15) (lv' := [(2, .int v15), (0, .ref (b + 0)), (1, .int x6)]) hx hb dX10_freePage_58 hl (k := 2) rfl (by rw [ev15]; rfl) (by decide) rfl (fun ls hl => ?_)
    refine lv_goto (tgt := 25) hx hb dX10_freePage_61 (by decide) ?_
    exact ih M14 v15 H locs ls hf hm (lv_sub hl [1, 2, 0] rfl)
set_option maxHeartbeats 4000000 in
set_option maxRecDepth 20000 in
theorem c_X10_freePage (l : Launch) (E : xE) (b : Nat) (M : xm) (Lm : xn) (a1 : Int32) {M' : xm} (hf : f_X10_freePage M a1 = some M') :
    xMet l E b NY yX10_freePage cX10_freePage 3 none (xR 2) [.ref (b + 0), .int a1] (cY E b M Lm) none True (cY E b M' Lm) := by
  refine xMet.ofW (own := RX10) (by decide) rfl (Nat.le_of_ble_eq_true rfl) ?_
  intro p e s m below meth c H locs ls C hm hl
  have hx := C.1.1
  have hb := C.1.2.1
  have hl : lv_has ls 3 [(0, .ref (b + 0)), (1, .int a1)] := hl
  unfold f_X10_freePage at hf
  refine lv_aload_n hx hb dX10_freePage_0 rfl (lv_at hl 0 rfl) ?_
  refine x_get C hm inX10 rfl 0 (by decide) tf_RX10_7 cy_0 rfl dX10_freePage_1 ?_
  refine lv_bipush (v := (13 : Int32)) hx hb dX10_freePage_4 (by decide) ?_
  refine lv_iload_n hx hb dX10_freePage_6 rfl (lv_at hl 1 rfl) ?_
  refine lv_iadd hx hb dX10_freePage_7 ?_
  refine lv_iconst (v := (0 : Int32)) hx hb dX10_freePage_8 (by decide) ?_
  obtain ⟨hi1, hf⟩ := xif_s hf
  obtain ⟨M2, eM2, hf⟩ := xlet_x hf
  refine x_iast (j := (Int32.toNatClampNeg ((13 : Int32) + a1))) (cf' := cY E b M2 Lm) C hm cy_1 hi1 dX10_freePage_9 rfl (by rw [eM2]; exact cyu_1) (by rw [eM2]; exact cY_o) (fun H locs hm => ?_)
  refine lv_aload_n hx hb dX10_freePage_10 rfl (lv_at hl 0 rfl) ?_
  refine x_get C hm inX10 rfl 0 (by decide) tf_RX10_7 cy_0 rfl dX10_freePage_11 ?_
  refine lv_bipush (v := (21 : Int32)) hx hb dX10_freePage_14 (by decide) ?_
  refine lv_iload_n hx hb dX10_freePage_16 rfl (lv_at hl 1 rfl) ?_
  refine lv_iadd hx hb dX10_freePage_17 ?_
  refine lv_iconst (v := (0 : Int32)) hx hb dX10_freePage_18 (by decide) ?_
  obtain ⟨hi3, hf⟩ := xif_s hf
  obtain ⟨M4, eM4, hf⟩ := xlet_x hf
  refine x_iast (j := (Int32.toNatClampNeg ((21 : Int32) + a1))) (cf' := cY E b M4 Lm) C hm cy_1 hi3 dX10_freePage_19 rfl (by rw [eM4]; exact cyu_1) (by rw [eM4]; exact cY_o) (fun H locs hm => ?_)
  refine lv_bipush (v := (8 : Int32)) hx hb dX10_freePage_20 (by decide) ?_
  refine lv_iload_n hx hb dX10_freePage_22 rfl (lv_at hl 1 rfl) ?_
  refine lv_imul hx hb dX10_freePage_23 ?_
  refine lv_topi (fun v5 ev5 => ?_)
  have hf := xlet_e ev5 hf
  refine lv_istore_n (lv' := [(2, .int v5), (0, .ref (b + 0)), (1, .int a1)]) hx hb dX10_freePage_24 rfl hl (by decide) rfl (fun ls hl => ?_)
  obtain ⟨M16, hq, hf⟩ := xb1_e hf
  refine j_X10_freePage_25 C a1 (fun H locs ls hm hl => ?_) xfuel M4 v5 H locs ls hq hm (lv_sub hl [1, 2, 0] rfl)
  refine lv_aload_n hx hb dX10_freePage_64 rfl (lv_at hl 0 rfl) ?_
  refine lv_iconst (v := (3 : Int32)) hx hb dX10_freePage_65 (by decide) ?_
  refine lv_iload_n hx hb dX10_freePage_66 rfl (lv_at hl 1 rfl) ?_
  obtain ⟨M18, hq17, hf⟩ := xb1_e hf
  refine x_callVv (As := [.int (3 : Int32), .int a1]) (rest := []) C hm (c_X10_write l E b M16 Lm (3 : Int32) a1 hq17) rfl cy_0 tc_X10_write tm_RX10_313 ti_X10_write ts_X10_write tn_RX10 td_X10_write rfl rfl ⟨Nat.le_of_ble_eq_true rfl, Nat.le_of_ble_eq_true rfl⟩ rfl hl.1 rfl (Nat.le_of_ble_eq_true rfl) ⟨Nat.zero_le _, Nat.zero_le _⟩ dX10_freePage_67 (fun H locs hP19 hm => ?_)
  cases hf
  exact x_vret C hm trivial dX10_freePage_70
/-! ColouredHeapModel.has(II)Z -/
theorem dX10_has_0 : decode cX10_has 0 = .ok (.iload_n 0, 1) := by decide +kernel
theorem dX10_has_1 : decode cX10_has 1 = .ok (.iload_n 1, 1) := by decide +kernel
theorem dX10_has_2 : decode cX10_has 2 = .ok (.ishr, 1) := by decide +kernel
theorem dX10_has_3 : decode cX10_has 3 = .ok (.iconst 1, 1) := by decide +kernel
theorem dX10_has_4 : decode cX10_has 4 = .ok (.iand, 1) := by decide +kernel
theorem dX10_has_5 : decode cX10_has 5 = .ok (.iconst 1, 1) := by decide +kernel
theorem dX10_has_6 : decode cX10_has 6 = .ok (.if_icmp .ne 7, 3) := by decide +kernel
theorem dX10_has_9 : decode cX10_has 9 = .ok (.iconst 1, 1) := by decide +kernel
theorem dX10_has_10 : decode cX10_has 10 = .ok (.goto 4, 3) := by decide +kernel
theorem dX10_has_13 : decode cX10_has 13 = .ok (.iconst 0, 1) := by decide +kernel
theorem dX10_has_14 : decode cX10_has 14 = .ok (.ireturn, 1) := by decide +kernel
def f_X10_has (a0 : Int32) (a1 : Int32) : Int32 := (if ((a0 >>> (a1 &&& 31)) &&& (1 : Int32)) = (1 : Int32) then (1 : Int32) else (0 : Int32))
set_option maxHeartbeats 4000000 in
set_option maxRecDepth 20000 in
theorem c_X10_has (l : Launch) (E : xE) (b : Nat) (M : xm) (Lm : xn) (a0 : Int32) (a1 : Int32) {r : Int32} (hf : f_X10_has a0 a1 = r) :
    xMet l E b NY yX10_has cX10_has 2 (some .boolean) (xR 1) [.int a0, .int a1] (cY E b M Lm) (some (.int r)) (xbo r = true) (cY E b M Lm) := by
  refine xMet.ofW (own := RX10) (by decide) rfl (Nat.le_of_ble_eq_true rfl) ?_
  intro p e s m below meth c H locs ls C hm hl
  have hx := C.1.1
  have hb := C.1.2.1
  have hl : lv_has ls 2 [(0, .int a0), (1, .int a1)] := hl
  unfold f_X10_has at hf
  refine lv_iload_n hx hb dX10_has_0 rfl (lv_at hl 0 rfl) ?_
  refine lv_iload_n hx hb dX10_has_1 rfl (lv_at hl 1 rfl) ?_
  refine lv_ishr hx hb dX10_has_2 ?_
  refine lv_iconst (v := (1 : Int32)) hx hb dX10_has_3 (by decide) ?_
  refine lv_iand hx hb dX10_has_4 ?_
  refine lv_iconst (v := (1 : Int32)) hx hb dX10_has_5 (by decide) ?_
  refine lv_icmp_ne (tgt := 13) hx hb dX10_has_6 (by decide) (fun hc1 => ?_) (fun hc1 => ?_)
  · have hf := xif_f hc1 hf
    refine lv_iconst (v := (0 : Int32)) hx hb dX10_has_13 (by decide) ?_
    cases hf
    exact x_zret C hm (by decide) (by decide) dX10_has_14
  have hf := xif_t hc1 hf
  refine lv_iconst (v := (1 : Int32)) hx hb dX10_has_9 (by decide) ?_
  refine lv_goto (tgt := 14) hx hb dX10_has_10 (by decide) ?_
  cases hf
  exact x_zret C hm (by decide) (by decide) dX10_has_14
/-! ColouredHeapModel.isCandidate(I)Z -/
theorem dX10_isCandidate_0 : decode cX10_isCandidate 0 = .ok (.aload_n 0, 1) := by decide +kernel
theorem dX10_isCandidate_1 : decode cX10_isCandidate 1 = .ok (.getfield 7, 3) := by decide +kernel
theorem dX10_isCandidate_4 : decode cX10_isCandidate 4 = .ok (.bipush 13, 2) := by decide +kernel
theorem dX10_isCandidate_6 : decode cX10_isCandidate 6 = .ok (.iload_n 1, 1) := by decide +kernel
theorem dX10_isCandidate_7 : decode cX10_isCandidate 7 = .ok (.iadd, 1) := by decide +kernel
theorem dX10_isCandidate_8 : decode cX10_isCandidate 8 = .ok (.iaload, 1) := by decide +kernel
theorem dX10_isCandidate_9 : decode cX10_isCandidate 9 = .ok (.iconst 1, 1) := by decide +kernel
theorem dX10_isCandidate_10 : decode cX10_isCandidate 10 = .ok (.if_icmp .ne 29, 3) := by decide +kernel
theorem dX10_isCandidate_13 : decode cX10_isCandidate 13 = .ok (.iload_n 1, 1) := by decide +kernel
theorem dX10_isCandidate_14 : decode cX10_isCandidate 14 = .ok (.aload_n 0, 1) := by decide +kernel
theorem dX10_isCandidate_15 : decode cX10_isCandidate 15 = .ok (.getfield 7, 3) := by decide +kernel
theorem dX10_isCandidate_18 : decode cX10_isCandidate 18 = .ok (.bipush 9, 2) := by decide +kernel
theorem dX10_isCandidate_20 : decode cX10_isCandidate 20 = .ok (.iaload, 1) := by decide +kernel
theorem dX10_isCandidate_21 : decode cX10_isCandidate 21 = .ok (.if_icmp .eq 18, 3) := by decide +kernel
theorem dX10_isCandidate_24 : decode cX10_isCandidate 24 = .ok (.iload_n 1, 1) := by decide +kernel
theorem dX10_isCandidate_25 : decode cX10_isCandidate 25 = .ok (.aload_n 0, 1) := by decide +kernel
theorem dX10_isCandidate_26 : decode cX10_isCandidate 26 = .ok (.getfield 7, 3) := by decide +kernel
theorem dX10_isCandidate_29 : decode cX10_isCandidate 29 = .ok (.bipush 10, 2) := by decide +kernel
theorem dX10_isCandidate_31 : decode cX10_isCandidate 31 = .ok (.iaload, 1) := by decide +kernel
theorem dX10_isCandidate_32 : decode cX10_isCandidate 32 = .ok (.if_icmp .eq 7, 3) := by decide +kernel
theorem dX10_isCandidate_35 : decode cX10_isCandidate 35 = .ok (.iconst 1, 1) := by decide +kernel
theorem dX10_isCandidate_36 : decode cX10_isCandidate 36 = .ok (.goto 4, 3) := by decide +kernel
theorem dX10_isCandidate_39 : decode cX10_isCandidate 39 = .ok (.iconst 0, 1) := by decide +kernel
theorem dX10_isCandidate_40 : decode cX10_isCandidate 40 = .ok (.ireturn, 1) := by decide +kernel
def f_X10_isCandidate (M : xm) (a1 : Int32) : Option (Int32) := if xin ((13 : Int32) + a1) 9878 = true then (if (M 1 (Int32.toNatClampNeg ((13 : Int32) + a1))) = (1 : Int32) then (if a1 = (M 1 9) then some (0 : Int32) else (if a1 = (M 1 10) then some (0 : Int32) else some (1 : Int32))) else some (0 : Int32)) else none
set_option maxHeartbeats 4000000 in
set_option maxRecDepth 20000 in
theorem c_X10_isCandidate (l : Launch) (E : xE) (b : Nat) (M : xm) (Lm : xn) (a1 : Int32) {r : Int32} (hf : f_X10_isCandidate M a1 = some r) :
    xMet l E b NY yX10_isCandidate cX10_isCandidate 2 (some .boolean) (xR 1) [.ref (b + 0), .int a1] (cY E b M Lm) (some (.int r)) (xbo r = true) (cY E b M Lm) := by
  refine xMet.ofW (own := RX10) (by decide) rfl (Nat.le_of_ble_eq_true rfl) ?_
  intro p e s m below meth c H locs ls C hm hl
  have hx := C.1.1
  have hb := C.1.2.1
  have hl : lv_has ls 2 [(0, .ref (b + 0)), (1, .int a1)] := hl
  unfold f_X10_isCandidate at hf
  refine lv_aload_n hx hb dX10_isCandidate_0 rfl (lv_at hl 0 rfl) ?_
  refine x_get C hm inX10 rfl 0 (by decide) tf_RX10_7 cy_0 rfl dX10_isCandidate_1 ?_
  refine lv_bipush (v := (13 : Int32)) hx hb dX10_isCandidate_4 (by decide) ?_
  refine lv_iload_n hx hb dX10_isCandidate_6 rfl (lv_at hl 1 rfl) ?_
  refine lv_iadd hx hb dX10_isCandidate_7 ?_
  obtain ⟨hi1, hf⟩ := xif_s hf
  refine x_iald (j := (Int32.toNatClampNeg ((13 : Int32) + a1))) C hm cy_1 hi1 dX10_isCandidate_8 rfl ?_
  refine lv_iconst (v := (1 : Int32)) hx hb dX10_isCandidate_9 (by decide) ?_
  refine lv_icmp_ne (tgt := 39) hx hb dX10_isCandidate_10 (by decide) (fun hc2 => ?_) (fun hc2 => ?_)
  · have hf := xif_f hc2 hf
    refine lv_iconst (v := (0 : Int32)) hx hb dX10_isCandidate_39 (by decide) ?_
    cases hf
    exact x_zret C hm (by decide) (by decide) dX10_isCandidate_40
  have hf := xif_t hc2 hf
  refine lv_iload_n hx hb dX10_isCandidate_13 rfl (lv_at hl 1 rfl) ?_
  refine lv_aload_n hx hb dX10_isCandidate_14 rfl (lv_at hl 0 rfl) ?_
  refine x_get C hm inX10 rfl 0 (by decide) tf_RX10_7 cy_0 rfl dX10_isCandidate_15 ?_
  refine lv_bipush (v := (9 : Int32)) hx hb dX10_isCandidate_18 (by decide) ?_
  refine x_iald (j := 9) C hm cy_1 (by decide) dX10_isCandidate_20 (by decide) ?_
  refine lv_icmp_eq (tgt := 39) hx hb dX10_isCandidate_21 (by decide) (fun hc3 => ?_) (fun hc3 => ?_)
  · have hf := xif_t hc3 hf
    refine lv_iconst (v := (0 : Int32)) hx hb dX10_isCandidate_39 (by decide) ?_
    cases hf
    exact x_zret C hm (by decide) (by decide) dX10_isCandidate_40
  have hf := xif_f hc3 hf
  refine lv_iload_n hx hb dX10_isCandidate_24 rfl (lv_at hl 1 rfl) ?_
  refine lv_aload_n hx hb dX10_isCandidate_25 rfl (lv_at hl 0 rfl) ?_
  refine x_get C hm inX10 rfl 0 (by decide) tf_RX10_7 cy_0 rfl dX10_isCandidate_26 ?_
  refine lv_bipush (v := (10 : Int32)) hx hb dX10_isCandidate_29 (by decide) ?_
  refine x_iald (j := 10) C hm cy_1 (by decide) dX10_isCandidate_31 (by decide) ?_
  refine lv_icmp_eq (tgt := 39) hx hb dX10_isCandidate_32 (by decide) (fun hc4 => ?_) (fun hc4 => ?_)
  · have hf := xif_t hc4 hf
    refine lv_iconst (v := (0 : Int32)) hx hb dX10_isCandidate_39 (by decide) ?_
    cases hf
    exact x_zret C hm (by decide) (by decide) dX10_isCandidate_40
  have hf := xif_f hc4 hf
  refine lv_iconst (v := (1 : Int32)) hx hb dX10_isCandidate_35 (by decide) ?_
  refine lv_goto (tgt := 40) hx hb dX10_isCandidate_36 (by decide) ?_
  cases hf
  exact x_zret C hm (by decide) (by decide) dX10_isCandidate_40
/-! ColouredHeapModel.hasRoom(II)Z -/
theorem dX10_hasRoom_0 : decode cX10_hasRoom 0 = .ok (.aload_n 0, 1) := by decide +kernel
theorem dX10_hasRoom_1 : decode cX10_hasRoom 1 = .ok (.getfield 7, 3) := by decide +kernel
theorem dX10_hasRoom_4 : decode cX10_hasRoom 4 = .ok (.iload_n 2, 1) := by decide +kernel
theorem dX10_hasRoom_5 : decode cX10_hasRoom 5 = .ok (.iaload, 1) := by decide +kernel
theorem dX10_hasRoom_6 : decode cX10_hasRoom 6 = .ok (.iconst (-1), 1) := by decide +kernel
theorem dX10_hasRoom_7 : decode cX10_hasRoom 7 = .ok (.if_icmp .eq 24, 3) := by decide +kernel
theorem dX10_hasRoom_10 : decode cX10_hasRoom 10 = .ok (.aload_n 0, 1) := by decide +kernel
theorem dX10_hasRoom_11 : decode cX10_hasRoom 11 = .ok (.getfield 7, 3) := by decide +kernel
theorem dX10_hasRoom_14 : decode cX10_hasRoom 14 = .ok (.bipush 21, 2) := by decide +kernel
theorem dX10_hasRoom_16 : decode cX10_hasRoom 16 = .ok (.aload_n 0, 1) := by decide +kernel
theorem dX10_hasRoom_17 : decode cX10_hasRoom 17 = .ok (.getfield 7, 3) := by decide +kernel
theorem dX10_hasRoom_20 : decode cX10_hasRoom 20 = .ok (.iload_n 2, 1) := by decide +kernel
theorem dX10_hasRoom_21 : decode cX10_hasRoom 21 = .ok (.iaload, 1) := by decide +kernel
theorem dX10_hasRoom_22 : decode cX10_hasRoom 22 = .ok (.iadd, 1) := by decide +kernel
theorem dX10_hasRoom_23 : decode cX10_hasRoom 23 = .ok (.iaload, 1) := by decide +kernel
theorem dX10_hasRoom_24 : decode cX10_hasRoom 24 = .ok (.iload_n 1, 1) := by decide +kernel
theorem dX10_hasRoom_25 : decode cX10_hasRoom 25 = .ok (.iadd, 1) := by decide +kernel
theorem dX10_hasRoom_26 : decode cX10_hasRoom 26 = .ok (.bipush 8, 2) := by decide +kernel
theorem dX10_hasRoom_28 : decode cX10_hasRoom 28 = .ok (.if_icmp .le 11, 3) := by decide +kernel
theorem dX10_hasRoom_31 : decode cX10_hasRoom 31 = .ok (.aload_n 0, 1) := by decide +kernel
theorem dX10_hasRoom_32 : decode cX10_hasRoom 32 = .ok (.invokevirtual 310, 3) := by decide +kernel
theorem dX10_hasRoom_35 : decode cX10_hasRoom 35 = .ok (.iconst (-1), 1) := by decide +kernel
theorem dX10_hasRoom_36 : decode cX10_hasRoom 36 = .ok (.if_icmp .eq 7, 3) := by decide +kernel
theorem dX10_hasRoom_39 : decode cX10_hasRoom 39 = .ok (.iconst 1, 1) := by decide +kernel
theorem dX10_hasRoom_40 : decode cX10_hasRoom 40 = .ok (.goto 4, 3) := by decide +kernel
theorem dX10_hasRoom_43 : decode cX10_hasRoom 43 = .ok (.iconst 0, 1) := by decide +kernel
theorem dX10_hasRoom_44 : decode cX10_hasRoom 44 = .ok (.ireturn, 1) := by decide +kernel
def f_X10_hasRoom (M : xm) (a1 : Int32) (a2 : Int32) : Option (Int32) := if xin a2 9878 = true then xlet (xb1 (f_X10_lowestFree M) (fun v4 => (if v4 = (-1 : Int32) then some (0 : Int32) else some (1 : Int32)))) (fun k2 => (if (M 1 (Int32.toNatClampNeg a2)) = (-1 : Int32) then k2 else if xin ((21 : Int32) + (M 1 (Int32.toNatClampNeg a2))) 9878 = true then (if ((M 1 (Int32.toNatClampNeg ((21 : Int32) + (M 1 (Int32.toNatClampNeg a2))))) + a1) ≤ (8 : Int32) then some (1 : Int32) else k2) else none)) else none
set_option maxHeartbeats 4000000 in
set_option maxRecDepth 20000 in
theorem c_X10_hasRoom (l : Launch) (E : xE) (b : Nat) (M : xm) (Lm : xn) (a1 : Int32) (a2 : Int32) {r : Int32} (hf : f_X10_hasRoom M a1 a2 = some r) :
    xMet l E b NY yX10_hasRoom cX10_hasRoom 3 (some .boolean) (xR 2) [.ref (b + 0), .int a1, .int a2] (cY E b M Lm) (some (.int r)) (xbo r = true) (cY E b M Lm) := by
  refine xMet.ofW (own := RX10) (by decide) rfl (Nat.le_of_ble_eq_true rfl) ?_
  intro p e s m below meth c H locs ls C hm hl
  have hx := C.1.1
  have hb := C.1.2.1
  have hl : lv_has ls 3 [(0, .ref (b + 0)), (1, .int a1), (2, .int a2)] := hl
  unfold f_X10_hasRoom at hf
  refine lv_aload_n hx hb dX10_hasRoom_0 rfl (lv_at hl 0 rfl) ?_
  refine x_get C hm inX10 rfl 0 (by decide) tf_RX10_7 cy_0 rfl dX10_hasRoom_1 ?_
  refine lv_iload_n hx hb dX10_hasRoom_4 rfl (lv_at hl 2 rfl) ?_
  obtain ⟨hi1, hf⟩ := xif_s hf
  refine x_iald (j := (Int32.toNatClampNeg a2)) C hm cy_1 hi1 dX10_hasRoom_5 rfl ?_
  refine lv_iconst (v := (-1 : Int32)) hx hb dX10_hasRoom_6 (by decide) ?_
  obtain ⟨k2, ek2, hf⟩ := xlet_x hf
  have jk2 : ∀  (H : Heap) (locs : List Loc) (ls : Array Slot), k2 = some r → xM E b NY (cY E b M Lm) s.heap H locs → lv_has ls 3 [(0, .ref (b + 0))] → W p l e (xR 2) s m ([.ref (b + 0), .int a1, .int a2] : List Value).toArray below meth c H locs 0 0 (MQ below (xQ E b NY (some (.int r)) (xbo r = true) (cY E b M Lm)) ([.ref (b + 0), .int a1, .int a2] : List Value).toArray s 0 0 (xA b NY)) (F0 m 31 ls []) := by
    intro  H locs ls hf hm hl
    have hf := xap0 ek2 hf
    refine lv_aload_n hx hb dX10_hasRoom_31 rfl (lv_at hl 0 rfl) ?_
    obtain ⟨v4, hq3, hf⟩ := xb1_e hf
    refine x_callVi (As := []) (rest := []) C hm (c_X10_lowestFree l E b M Lm hq3) rfl cy_0 tc_X10_lowestFree tm_RX10_310 ti_X10_lowestFree ts_X10_lowestFree tn_RX10 td_X10_lowestFree rfl rfl ⟨Nat.le_of_ble_eq_true rfl, Nat.le_of_ble_eq_true rfl⟩ rfl hl.1 rfl (Nat.le_of_ble_eq_true rfl) ⟨Nat.zero_le _, Nat.zero_le _⟩ dX10_hasRoom_32 (fun H locs hP5 hm => ?_)
    refine lv_iconst (v := (-1 : Int32)) hx hb dX10_hasRoom_35 (by decide) ?_
    refine lv_icmp_eq (tgt := 43) hx hb dX10_hasRoom_36 (by decide) (fun hc6 => ?_) (fun hc6 => ?_)
    · have hf := xif_t hc6 hf
      refine lv_iconst (v := (0 : Int32)) hx hb dX10_hasRoom_43 (by decide) ?_
      cases hf
      exact x_zret C hm (by decide) (by decide) dX10_hasRoom_44
    have hf := xif_f hc6 hf
    refine lv_iconst (v := (1 : Int32)) hx hb dX10_hasRoom_39 (by decide) ?_
    refine lv_goto (tgt := 44) hx hb dX10_hasRoom_40 (by decide) ?_
    cases hf
    exact x_zret C hm (by decide) (by decide) dX10_hasRoom_44
  refine lv_icmp_eq (tgt := 31) hx hb dX10_hasRoom_7 (by decide) (fun hc7 => ?_) (fun hc7 => ?_)
  · have hf := xif_t hc7 hf
    exact jk2  H locs ls  hf hm (lv_sub hl [0] rfl)
  have hf := xif_f hc7 hf
  refine lv_aload_n hx hb dX10_hasRoom_10 rfl (lv_at hl 0 rfl) ?_
  refine x_get C hm inX10 rfl 0 (by decide) tf_RX10_7 cy_0 rfl dX10_hasRoom_11 ?_
  refine lv_bipush (v := (21 : Int32)) hx hb dX10_hasRoom_14 (by decide) ?_
  refine lv_aload_n hx hb dX10_hasRoom_16 rfl (lv_at hl 0 rfl) ?_
  refine x_get C hm inX10 rfl 0 (by decide) tf_RX10_7 cy_0 rfl dX10_hasRoom_17 ?_
  refine lv_iload_n hx hb dX10_hasRoom_20 rfl (lv_at hl 2 rfl) ?_
  refine x_iald (j := (Int32.toNatClampNeg a2)) C hm cy_1 hi1 dX10_hasRoom_21 rfl ?_
  refine lv_iadd hx hb dX10_hasRoom_22 ?_
  obtain ⟨hi8, hf⟩ := xif_s hf
  refine x_iald (j := (Int32.toNatClampNeg ((21 : Int32) + (M 1 (Int32.toNatClampNeg a2))))) C hm cy_1 hi8 dX10_hasRoom_23 rfl ?_
  refine lv_iload_n hx hb dX10_hasRoom_24 rfl (lv_at hl 1 rfl) ?_
  refine lv_iadd hx hb dX10_hasRoom_25 ?_
  refine lv_bipush (v := (8 : Int32)) hx hb dX10_hasRoom_26 (by decide) ?_
  refine lv_icmp_le (tgt := 39) hx hb dX10_hasRoom_28 (by decide) (fun hc9 => ?_) (fun hc9 => ?_)
  rotate_left
  · have hf := xif_f hc9 hf
    exact jk2  H locs ls  hf hm (lv_sub hl [0] rfl)
  have hf := xif_t hc9 hf
  refine lv_iconst (v := (1 : Int32)) hx hb dX10_hasRoom_39 (by decide) ?_
  refine lv_goto (tgt := 44) hx hb dX10_hasRoom_40 (by decide) ?_
  cases hf
  exact x_zret C hm (by decide) (by decide) dX10_hasRoom_44
