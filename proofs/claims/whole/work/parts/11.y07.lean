/-! ColouredHeapModel.morePages(III)I -/
theorem dX10_morePages_0 : decode cX10_morePages 0 = .ok (.iload_n 2, 1) := by decide +kernel
theorem dX10_morePages_1 : decode cX10_morePages 1 = .ok (.iconst 2, 1) := by decide +kernel
theorem dX10_morePages_2 : decode cX10_morePages 2 = .ok (.iload_n 3, 1) := by decide +kernel
theorem dX10_morePages_3 : decode cX10_morePages 3 = .ok (.imul, 1) := by decide +kernel
theorem dX10_morePages_4 : decode cX10_morePages 4 = .ok (.iadd, 1) := by decide +kernel
theorem dX10_morePages_5 : decode cX10_morePages 5 = .ok (.istore 4, 2) := by decide +kernel
theorem dX10_morePages_7 : decode cX10_morePages 7 = .ok (.aload_n 0, 1) := by decide +kernel
theorem dX10_morePages_8 : decode cX10_morePages 8 = .ok (.getfield 49, 3) := by decide +kernel
theorem dX10_morePages_11 : decode cX10_morePages 11 = .ok (.iconst 2, 1) := by decide +kernel
theorem dX10_morePages_12 : decode cX10_morePages 12 = .ok (.iaload, 1) := by decide +kernel
theorem dX10_morePages_13 : decode cX10_morePages 13 = .ok (.iload 4, 2) := by decide +kernel
theorem dX10_morePages_15 : decode cX10_morePages 15 = .ok (.if_icmp .le 15, 3) := by decide +kernel
theorem dX10_morePages_18 : decode cX10_morePages 18 = .ok (.aload_n 0, 1) := by decide +kernel
theorem dX10_morePages_19 : decode cX10_morePages 19 = .ok (.getfield 49, 3) := by decide +kernel
theorem dX10_morePages_22 : decode cX10_morePages 22 = .ok (.iconst 2, 1) := by decide +kernel
theorem dX10_morePages_23 : decode cX10_morePages 23 = .ok (.iaload, 1) := by decide +kernel
theorem dX10_morePages_24 : decode cX10_morePages 24 = .ok (.iload 4, 2) := by decide +kernel
theorem dX10_morePages_26 : decode cX10_morePages 26 = .ok (.isub, 1) := by decide +kernel
theorem dX10_morePages_27 : decode cX10_morePages 27 = .ok (.goto 4, 3) := by decide +kernel
theorem dX10_morePages_30 : decode cX10_morePages 30 = .ok (.iconst 0, 1) := by decide +kernel
theorem dX10_morePages_31 : decode cX10_morePages 31 = .ok (.istore 5, 2) := by decide +kernel
theorem dX10_morePages_33 : decode cX10_morePages 33 = .ok (.aload_n 0, 1) := by decide +kernel
theorem dX10_morePages_34 : decode cX10_morePages 34 = .ok (.getfield 49, 3) := by decide +kernel
theorem dX10_morePages_37 : decode cX10_morePages 37 = .ok (.iconst 2, 1) := by decide +kernel
theorem dX10_morePages_38 : decode cX10_morePages 38 = .ok (.iaload, 1) := by decide +kernel
theorem dX10_morePages_39 : decode cX10_morePages 39 = .ok (.iload 5, 2) := by decide +kernel
theorem dX10_morePages_41 : decode cX10_morePages 41 = .ok (.isub, 1) := by decide +kernel
theorem dX10_morePages_42 : decode cX10_morePages 42 = .ok (.istore 6, 2) := by decide +kernel
theorem dX10_morePages_44 : decode cX10_morePages 44 = .ok (.iconst 2, 1) := by decide +kernel
theorem dX10_morePages_45 : decode cX10_morePages 45 = .ok (.iload 5, 2) := by decide +kernel
theorem dX10_morePages_47 : decode cX10_morePages 47 = .ok (.imul, 1) := by decide +kernel
theorem dX10_morePages_48 : decode cX10_morePages 48 = .ok (.aload_n 0, 1) := by decide +kernel
theorem dX10_morePages_49 : decode cX10_morePages 49 = .ok (.getfield 49, 3) := by decide +kernel
theorem dX10_morePages_52 : decode cX10_morePages 52 = .ok (.iconst 1, 1) := by decide +kernel
theorem dX10_morePages_53 : decode cX10_morePages 53 = .ok (.iaload, 1) := by decide +kernel
theorem dX10_morePages_54 : decode cX10_morePages 54 = .ok (.iadd, 1) := by decide +kernel
theorem dX10_morePages_55 : decode cX10_morePages 55 = .ok (.istore 7, 2) := by decide +kernel
theorem dX10_morePages_57 : decode cX10_morePages 57 = .ok (.iload_n 1, 1) := by decide +kernel
theorem dX10_morePages_58 : decode cX10_morePages 58 = .ok (.iconst 2, 1) := by decide +kernel
theorem dX10_morePages_59 : decode cX10_morePages 59 = .ok (.iload_n 2, 1) := by decide +kernel
theorem dX10_morePages_60 : decode cX10_morePages 60 = .ok (.imul, 1) := by decide +kernel
theorem dX10_morePages_61 : decode cX10_morePages 61 = .ok (.iadd, 1) := by decide +kernel
theorem dX10_morePages_62 : decode cX10_morePages 62 = .ok (.iconst 2, 1) := by decide +kernel
theorem dX10_morePages_63 : decode cX10_morePages 63 = .ok (.iload 6, 2) := by decide +kernel
theorem dX10_morePages_65 : decode cX10_morePages 65 = .ok (.imul, 1) := by decide +kernel
theorem dX10_morePages_66 : decode cX10_morePages 66 = .ok (.isub, 1) := by decide +kernel
theorem dX10_morePages_67 : decode cX10_morePages 67 = .ok (.istore 8, 2) := by decide +kernel
theorem dX10_morePages_69 : decode cX10_morePages 69 = .ok (.iload 7, 2) := by decide +kernel
theorem dX10_morePages_71 : decode cX10_morePages 71 = .ok (.iload 8, 2) := by decide +kernel
theorem dX10_morePages_73 : decode cX10_morePages 73 = .ok (.if_icmp .le 11, 3) := by decide +kernel
theorem dX10_morePages_76 : decode cX10_morePages 76 = .ok (.iload 7, 2) := by decide +kernel
theorem dX10_morePages_78 : decode cX10_morePages 78 = .ok (.iload 8, 2) := by decide +kernel
theorem dX10_morePages_80 : decode cX10_morePages 80 = .ok (.isub, 1) := by decide +kernel
theorem dX10_morePages_81 : decode cX10_morePages 81 = .ok (.goto 4, 3) := by decide +kernel
theorem dX10_morePages_84 : decode cX10_morePages 84 = .ok (.iconst 0, 1) := by decide +kernel
theorem dX10_morePages_85 : decode cX10_morePages 85 = .ok (.istore 7, 2) := by decide +kernel
theorem dX10_morePages_87 : decode cX10_morePages 87 = .ok (.iload 7, 2) := by decide +kernel
theorem dX10_morePages_89 : decode cX10_morePages 89 = .ok (.bipush 7, 2) := by decide +kernel
theorem dX10_morePages_91 : decode cX10_morePages 91 = .ok (.iadd, 1) := by decide +kernel
theorem dX10_morePages_92 : decode cX10_morePages 92 = .ok (.bipush 8, 2) := by decide +kernel
theorem dX10_morePages_94 : decode cX10_morePages 94 = .ok (.idiv, 1) := by decide +kernel
theorem dX10_morePages_95 : decode cX10_morePages 95 = .ok (.istore 9, 2) := by decide +kernel
theorem dX10_morePages_97 : decode cX10_morePages 97 = .ok (.iload 9, 2) := by decide +kernel
theorem dX10_morePages_99 : decode cX10_morePages 99 = .ok (.iload 5, 2) := by decide +kernel
theorem dX10_morePages_101 : decode cX10_morePages 101 = .ok (.iconst 3, 1) := by decide +kernel
theorem dX10_morePages_102 : decode cX10_morePages 102 = .ok (.iadd, 1) := by decide +kernel
theorem dX10_morePages_103 : decode cX10_morePages 103 = .ok (.iconst 4, 1) := by decide +kernel
theorem dX10_morePages_104 : decode cX10_morePages 104 = .ok (.idiv, 1) := by decide +kernel
theorem dX10_morePages_105 : decode cX10_morePages 105 = .ok (.if_icmp .le 8, 3) := by decide +kernel
theorem dX10_morePages_108 : decode cX10_morePages 108 = .ok (.iload 9, 2) := by decide +kernel
theorem dX10_morePages_110 : decode cX10_morePages 110 = .ok (.goto 9, 3) := by decide +kernel
theorem dX10_morePages_113 : decode cX10_morePages 113 = .ok (.iload 5, 2) := by decide +kernel
theorem dX10_morePages_115 : decode cX10_morePages 115 = .ok (.iconst 3, 1) := by decide +kernel
theorem dX10_morePages_116 : decode cX10_morePages 116 = .ok (.iadd, 1) := by decide +kernel
theorem dX10_morePages_117 : decode cX10_morePages 117 = .ok (.iconst 4, 1) := by decide +kernel
theorem dX10_morePages_118 : decode cX10_morePages 118 = .ok (.idiv, 1) := by decide +kernel
theorem dX10_morePages_119 : decode cX10_morePages 119 = .ok (.ireturn, 1) := by decide +kernel
def f_X10_morePages (M : xm) (a1 : Int32) (a2 : Int32) (a3 : Int32) : Int32 := xlet (a2 + ((2 : Int32) * a3)) (fun v1 => xlet (fun (w2 : Int32) => xlet ((M 11 2) - w2) (fun v4 => xlet (((2 : Int32) * w2) + (M 11 1)) (fun v5 => xlet ((a1 + ((2 : Int32) * a2)) - ((2 : Int32) * v4)) (fun v6 => xlet (fun (w7 : Int32) => xlet ((w7 + (7 : Int32)) / (8 : Int32)) (fun v9 => (if v9 ≤ ((w2 + (3 : Int32)) / (4 : Int32)) then ((w2 + (3 : Int32)) / (4 : Int32)) else v9))) (fun k8 => (if v5 ≤ v6 then (k8 (0 : Int32)) else (k8 (v5 - v6)))))))) (fun k3 => (if (M 11 2) ≤ v1 then (k3 (0 : Int32)) else (k3 ((M 11 2) - v1)))))
set_option maxHeartbeats 4000000 in
set_option maxRecDepth 20000 in
theorem c_X10_morePages (l : Launch) (E : xE) (b : Nat) (M : xm) (Lm : xn) (a1 : Int32) (a2 : Int32) (a3 : Int32) {r : Int32} (hf : f_X10_morePages M a1 a2 a3 = r) :
    xMet l E b NY yX10_morePages cX10_morePages 10 (some .int) (xR 1) [.ref (b + 0), .int a1, .int a2, .int a3] (cY E b M Lm) (some (.int r)) True (cY E b M Lm) := by
  refine xMet.ofW (own := RX10) (by decide) rfl (Nat.le_of_ble_eq_true rfl) ?_
  intro p e s m below meth c H locs ls C hm hl
  have hx := C.1.1
  have hb := C.1.2.1
  have hl : lv_has ls 10 [(0, .ref (b + 0)), (1, .int a1), (2, .int a2), (3, .int a3)] := hl
  unfold f_X10_morePages at hf
  refine lv_iload_n hx hb dX10_morePages_0 rfl (lv_at hl 2 rfl) ?_
  refine lv_iconst (v := (2 : Int32)) hx hb dX10_morePages_1 (by decide) ?_
  refine lv_iload_n hx hb dX10_morePages_2 rfl (lv_at hl 3 rfl) ?_
  refine lv_imul hx hb dX10_morePages_3 ?_
  refine lv_iadd hx hb dX10_morePages_4 ?_
  refine lv_topi (fun v1 ev1 => ?_)
  have hf := xlet_e ev1 hf
  refine lv_istore (lv' := [(4, .int v1), (0, .ref (b + 0)), (1, .int a1), (2, .int a2), (3, .int a3)]) hx hb dX10_morePages_5 hl (by decide) rfl (fun ls hl => ?_)
  refine lv_aload_n hx hb dX10_morePages_7 rfl (lv_at hl 1 rfl) ?_
  refine x_get C hm inX10 rfl 25 (by decide) tf_RX10_49 cy_0 rfl dX10_morePages_8 ?_
  refine lv_iconst (v := (2 : Int32)) hx hb dX10_morePages_11 (by decide) ?_
  refine x_iald (j := 2) C hm cy_11 (by decide) dX10_morePages_12 (by decide) ?_
  refine lv_iload hx hb dX10_morePages_13 (lv_at hl 0 rfl) ?_
  obtain ⟨k3, ek3, hf⟩ := xlet_x hf
  have jk3 : ∀ (w2 : Int32) (H : Heap) (locs : List Loc) (ls : Array Slot), k3 w2 = r → xM E b NY (cY E b M Lm) s.heap H locs → lv_has ls 10 [(0, .ref (b + 0)), (1, .int a1), (2, .int a2)] → W p l e (xR 1) s m ([.ref (b + 0), .int a1, .int a2, .int a3] : List Value).toArray below meth c H locs 0 0 (MQ below (xQ E b NY (some (.int r)) True (cY E b M Lm)) ([.ref (b + 0), .int a1, .int a2, .int a3] : List Value).toArray s 0 0 (xA b NY)) (F0 m 31 ls [.int w2]) := by
    intro w2 H locs ls hf hm hl
    have hf := xap1 ek3 hf
    refine lv_istore (lv' := [(5, .int w2), (0, .ref (b + 0)), (1, .int a1), (2, .int a2)]) hx hb dX10_morePages_31 hl (by decide) rfl (fun ls hl => ?_)
    refine lv_aload_n hx hb dX10_morePages_33 rfl (lv_at hl 1 rfl) ?_
    refine x_get C hm inX10 rfl 25 (by decide) tf_RX10_49 cy_0 rfl dX10_morePages_34 ?_
    refine lv_iconst (v := (2 : Int32)) hx hb dX10_morePages_37 (by decide) ?_
    refine x_iald (j := 2) C hm cy_11 (by decide) dX10_morePages_38 (by decide) ?_
    refine lv_iload hx hb dX10_morePages_39 (lv_at hl 0 rfl) ?_
    refine lv_isub hx hb dX10_morePages_41 ?_
    refine lv_topi (fun v4 ev4 => ?_)
    have hf := xlet_e ev4 hf
    refine lv_istore (lv' := [(6, .int v4), (5, .int w2), (0, .ref (b + 0)), (1, .int a1), (2, .int a2)]) hx hb dX10_morePages_42 hl (by decide) rfl (fun ls hl => ?_)
    refine lv_iconst (v := (2 : Int32)) hx hb dX10_morePages_44 (by decide) ?_
    refine lv_iload hx hb dX10_morePages_45 (lv_at hl 1 rfl) ?_
    refine lv_imul hx hb dX10_morePages_47 ?_
    refine lv_aload_n hx hb dX10_morePages_48 rfl (lv_at hl 2 rfl) ?_
    refine x_get C hm inX10 rfl 25 (by decide) tf_RX10_49 cy_0 rfl dX10_morePages_49 ?_
    refine lv_iconst (v := (1 : Int32)) hx hb dX10_morePages_52 (by decide) ?_
    refine x_iald (j := 1) C hm cy_11 (by decide) dX10_morePages_53 (by decide) ?_
    refine lv_iadd hx hb dX10_morePages_54 ?_
    refine lv_topi (fun v5 ev5 => ?_)
    have hf := xlet_e ev5 hf
    refine lv_istore (lv' := [(7, .int v5), (6, .int v4), (5, .int w2), (0, .ref (b + 0)), (1, .int a1), (2, .int a2)]) hx hb dX10_morePages_55 hl (by decide) rfl (fun ls hl => ?_)
    refine lv_iload_n hx hb dX10_morePages_57 rfl (lv_at hl 4 rfl) ?_
    refine lv_iconst (v := (2 : Int32)) hx hb dX10_morePages_58 (by decide) ?_
    refine lv_iload_n hx hb dX10_morePages_59 rfl (lv_at hl 5 rfl) ?_
    refine lv_imul hx hb dX10_morePages_60 ?_
    refine lv_iadd hx hb dX10_morePages_61 ?_
    refine lv_iconst (v := (2 : Int32)) hx hb dX10_morePages_62 (by decide) ?_
    refine lv_iload hx hb dX10_morePages_63 (lv_at hl 1 rfl) ?_
    refine lv_imul hx hb dX10_morePages_65 ?_
    refine lv_isub hx hb dX10_morePages_66 ?_
    refine lv_topi (fun v6 ev6 => ?_)
    have hf := xlet_e ev6 hf
    refine lv_istore (lv' := [(8, .int v6), (7, .int v5), (6, .int v4), (5, .int w2), (0, .ref (b + 0)), (1, .int a1), (2, .int a2)]) hx hb dX10_morePages_67 hl (by decide) rfl (fun ls hl => ?_)
    refine lv_iload hx hb dX10_morePages_69 (lv_at hl 1 rfl) ?_
    refine lv_iload hx hb dX10_morePages_71 (lv_at hl 0 rfl) ?_
    obtain ⟨k8, ek8, hf⟩ := xlet_x hf
    have jk8 : ∀ (w7 : Int32) (H : Heap) (locs : List Loc) (ls : Array Slot), k8 w7 = r → xM E b NY (cY E b M Lm) s.heap H locs → lv_has ls 10 [(5, .int w2)] → W p l e (xR 1) s m ([.ref (b + 0), .int a1, .int a2, .int a3] : List Value).toArray below meth c H locs 0 0 (MQ below (xQ E b NY (some (.int r)) True (cY E b M Lm)) ([.ref (b + 0), .int a1, .int a2, .int a3] : List Value).toArray s 0 0 (xA b NY)) (F0 m 85 ls [.int w7]) := by
      intro w7 H locs ls hf hm hl
      have hf := xap1 ek8 hf
      refine lv_istore (lv' := [(7, .int w7), (5, .int w2)]) hx hb dX10_morePages_85 hl (by decide) rfl (fun ls hl => ?_)
      refine lv_iload hx hb dX10_morePages_87 (lv_at hl 0 rfl) ?_
      refine lv_bipush (v := (7 : Int32)) hx hb dX10_morePages_89 (by decide) ?_
      refine lv_iadd hx hb dX10_morePages_91 ?_
      refine lv_bipush (v := (8 : Int32)) hx hb dX10_morePages_92 (by decide) ?_
      refine lv_idiv hx hb dX10_morePages_94 (by decide) ?_
      refine lv_topi (fun v9 ev9 => ?_)
      have hf := xlet_e ev9 hf
      refine lv_istore (lv' := [(9, .int v9), (7, .int w7), (5, .int w2)]) hx hb dX10_morePages_95 hl (by decide) rfl (fun ls hl => ?_)
      refine lv_iload hx hb dX10_morePages_97 (lv_at hl 0 rfl) ?_
      refine lv_iload hx hb dX10_morePages_99 (lv_at hl 2 rfl) ?_
      refine lv_iconst (v := (3 : Int32)) hx hb dX10_morePages_101 (by decide) ?_
      refine lv_iadd hx hb dX10_morePages_102 ?_
      refine lv_iconst (v := (4 : Int32)) hx hb dX10_morePages_103 (by decide) ?_
      refine lv_idiv hx hb dX10_morePages_104 (by decide) ?_
      refine lv_icmp_le (tgt := 113) hx hb dX10_morePages_105 (by decide) (fun hc10 => ?_) (fun hc10 => ?_)
      rotate_left
      · have hf := xif_f hc10 hf
        refine lv_iload hx hb dX10_morePages_108 (lv_at hl 0 rfl) ?_
        refine lv_goto (tgt := 119) hx hb dX10_morePages_110 (by decide) ?_
        cases hf
        exact x_iret C hm trivial dX10_morePages_119
      have hf := xif_t hc10 hf
      refine lv_iload hx hb dX10_morePages_113 (lv_at hl 2 rfl) ?_
      refine lv_iconst (v := (3 : Int32)) hx hb dX10_morePages_115 (by decide) ?_
      refine lv_iadd hx hb dX10_morePages_116 ?_
      refine lv_iconst (v := (4 : Int32)) hx hb dX10_morePages_117 (by decide) ?_
      refine lv_idiv hx hb dX10_morePages_118 (by decide) ?_
      cases hf
      exact x_iret C hm trivial dX10_morePages_119
    refine lv_icmp_le (tgt := 84) hx hb dX10_morePages_73 (by decide) (fun hc11 => ?_) (fun hc11 => ?_)
    · have hf := xif_t hc11 hf
      refine lv_iconst (v := (0 : Int32)) hx hb dX10_morePages_84 (by decide) ?_
      exact jk8 (0 : Int32) H locs ls  hf hm (lv_sub hl [3] rfl)
    have hf := xif_f hc11 hf
    refine lv_iload hx hb dX10_morePages_76 (lv_at hl 1 rfl) ?_
    refine lv_iload hx hb dX10_morePages_78 (lv_at hl 0 rfl) ?_
    refine lv_isub hx hb dX10_morePages_80 ?_
    refine lv_goto (tgt := 85) hx hb dX10_morePages_81 (by decide) ?_
    exact jk8 (v5 - v6) H locs ls  hf hm (lv_sub hl [3] rfl)
  refine lv_icmp_le (tgt := 30) hx hb dX10_morePages_15 (by decide) (fun hc12 => ?_) (fun hc12 => ?_)
  · have hf := xif_t hc12 hf
    refine lv_iconst (v := (0 : Int32)) hx hb dX10_morePages_30 (by decide) ?_
    exact jk3 (0 : Int32) H locs ls  hf hm (lv_sub hl [1, 2, 3] rfl)
  have hf := xif_f hc12 hf
  refine lv_aload_n hx hb dX10_morePages_18 rfl (lv_at hl 1 rfl) ?_
  refine x_get C hm inX10 rfl 25 (by decide) tf_RX10_49 cy_0 rfl dX10_morePages_19 ?_
  refine lv_iconst (v := (2 : Int32)) hx hb dX10_morePages_22 (by decide) ?_
  refine x_iald (j := 2) C hm cy_11 (by decide) dX10_morePages_23 (by decide) ?_
  refine lv_iload hx hb dX10_morePages_24 (lv_at hl 0 rfl) ?_
  refine lv_isub hx hb dX10_morePages_26 ?_
  refine lv_goto (tgt := 31) hx hb dX10_morePages_27 (by decide) ?_
  exact jk3 ((M 11 2) - v1) H locs ls  hf hm (lv_sub hl [1, 2, 3] rfl)
/-! ColouredHeapModel.paces(I)I -/
theorem dX10_paces_0 : decode cX10_paces 0 = .ok (.iload_n 1, 1) := by decide +kernel
theorem dX10_paces_1 : decode cX10_paces 1 = .ok (.iconst 0, 1) := by decide +kernel
theorem dX10_paces_2 : decode cX10_paces 2 = .ok (.iconst 3, 1) := by decide +kernel
theorem dX10_paces_3 : decode cX10_paces 3 = .ok (.invokestatic 59, 3) := by decide +kernel
theorem dX10_paces_6 : decode cX10_paces 6 = .ok (.ifCond .eq 11, 3) := by decide +kernel
theorem dX10_paces_9 : decode cX10_paces 9 = .ok (.aload_n 0, 1) := by decide +kernel
theorem dX10_paces_10 : decode cX10_paces 10 = .ok (.iload_n 1, 1) := by decide +kernel
theorem dX10_paces_11 : decode cX10_paces 11 = .ok (.invokevirtual 394, 3) := by decide +kernel
theorem dX10_paces_14 : decode cX10_paces 14 = .ok (.goto 4, 3) := by decide +kernel
theorem dX10_paces_17 : decode cX10_paces 17 = .ok (.iconst (-1), 1) := by decide +kernel
theorem dX10_paces_18 : decode cX10_paces 18 = .ok (.ireturn, 1) := by decide +kernel
def f_X10_paces (M : xm) (Lm : xn) (a1 : Int32) : Option (Int32 × xm × xn) := (if (f_X10_isIn a1 (0 : Int32) (3 : Int32)) = 0 then some ((-1 : Int32), M, Lm) else xb3 (f_X10_pacesOf M Lm a1) (fun v4 M5 L6 => some (v4, M5, L6)))
set_option maxHeartbeats 4000000 in
set_option maxRecDepth 20000 in
theorem c_X10_paces (l : Launch) (E : xE) (b : Nat) (M : xm) (Lm : xn) (a1 : Int32) {r : Int32} {M' : xm} {L' : xn} (hf : f_X10_paces M Lm a1 = some (r, M', L')) :
    xMet l E b NY yX10_paces cX10_paces 2 (some .int) (xR 8) [.ref (b + 0), .int a1] (cY E b M Lm) (some (.int r)) True (cY E b M' L') := by
  refine xMet.ofW (own := RX10) (by decide) rfl (Nat.le_of_ble_eq_true rfl) ?_
  intro p e s m below meth c H locs ls C hm hl
  have hx := C.1.1
  have hb := C.1.2.1
  have hl : lv_has ls 2 [(0, .ref (b + 0)), (1, .int a1)] := hl
  unfold f_X10_paces at hf
  refine lv_iload_n hx hb dX10_paces_0 rfl (lv_at hl 1 rfl) ?_
  refine lv_iconst (v := (0 : Int32)) hx hb dX10_paces_1 (by decide) ?_
  refine lv_iconst (v := (3 : Int32)) hx hb dX10_paces_2 (by decide) ?_
  refine x_callSi (As := [.int a1, .int (0 : Int32), .int (3 : Int32)]) (rest := []) C hm (c_X10_isIn l E b M Lm a1 (0 : Int32) (3 : Int32) rfl) tc_X10_isIn tm_RX10_59 tz_X10_isIn tn_RX10 td_X10_isIn rfl rfl ⟨Nat.le_of_ble_eq_true rfl, Nat.le_of_ble_eq_true rfl⟩ rfl hl.1 rfl (Nat.le_of_ble_eq_true rfl) ⟨Nat.zero_le _, Nat.zero_le _⟩ dX10_paces_3 (fun H locs hP1 hm => ?_)
  refine lv_if_eq (tgt := 17) hx hb dX10_paces_6 (by decide) (fun hc2 => ?_) (fun hc2 => ?_)
  · have hf := xif_t hc2 hf
    refine lv_iconst (v := (-1 : Int32)) hx hb dX10_paces_17 (by decide) ?_
    cases hf
    exact x_iret C hm trivial dX10_paces_18
  have hf := xif_f hc2 hf
  refine lv_aload_n hx hb dX10_paces_9 rfl (lv_at hl 0 rfl) ?_
  refine lv_iload_n hx hb dX10_paces_10 rfl (lv_at hl 1 rfl) ?_
  obtain ⟨v4, M5, L6, hq3, hf⟩ := xb3_e hf
  refine x_callVi (As := [.int a1]) (rest := []) C hm (c_X10_pacesOf l E b M Lm a1 hq3) rfl cy_0 tc_X10_pacesOf tm_RX10_394 ti_X10_pacesOf ts_X10_pacesOf tn_RX10 td_X10_pacesOf rfl rfl ⟨Nat.le_of_ble_eq_true rfl, Nat.le_of_ble_eq_true rfl⟩ rfl hl.1 rfl (Nat.le_of_ble_eq_true rfl) ⟨Nat.zero_le _, Nat.zero_le _⟩ dX10_paces_11 (fun H locs hP7 hm => ?_)
  refine lv_goto (tgt := 18) hx hb dX10_paces_14 (by decide) ?_
  cases hf
  exact x_iret C hm trivial dX10_paces_18
/-! ColouredHeapModel.pack()I -/
theorem dX10_pack_0 : decode cX10_pack 0 = .ok (.aload_n 0, 1) := by decide +kernel
theorem dX10_pack_1 : decode cX10_pack 1 = .ok (.iconst (-1), 1) := by decide +kernel
theorem dX10_pack_2 : decode cX10_pack 2 = .ok (.invokevirtual 461, 3) := by decide +kernel
theorem dX10_pack_5 : decode cX10_pack 5 = .ok (.iconst 0, 1) := by decide +kernel
theorem dX10_pack_6 : decode cX10_pack 6 = .ok (.istore_n 1, 1) := by decide +kernel
theorem dX10_pack_7 : decode cX10_pack 7 = .ok (.iload_n 1, 1) := by decide +kernel
theorem dX10_pack_8 : decode cX10_pack 8 = .ok (.iconst 5, 1) := by decide +kernel
theorem dX10_pack_9 : decode cX10_pack 9 = .ok (.if_icmp .ge 16, 3) := by decide +kernel
theorem dX10_pack_12 : decode cX10_pack 12 = .ok (.aload_n 0, 1) := by decide +kernel
theorem dX10_pack_13 : decode cX10_pack 13 = .ok (.getfield 49, 3) := by decide +kernel
theorem dX10_pack_16 : decode cX10_pack 16 = .ok (.iload_n 1, 1) := by decide +kernel
theorem dX10_pack_17 : decode cX10_pack 17 = .ok (.iconst 0, 1) := by decide +kernel
theorem dX10_pack_18 : decode cX10_pack 18 = .ok (.iastore, 1) := by decide +kernel
theorem dX10_pack_19 : decode cX10_pack 19 = .ok (.iinc 1 1, 3) := by decide +kernel
theorem dX10_pack_22 : decode cX10_pack 22 = .ok (.goto (-15), 3) := by decide +kernel
theorem dX10_pack_25 : decode cX10_pack 25 = .ok (.iconst 0, 1) := by decide +kernel
theorem dX10_pack_26 : decode cX10_pack 26 = .ok (.istore_n 1, 1) := by decide +kernel
theorem dX10_pack_27 : decode cX10_pack 27 = .ok (.iload_n 1, 1) := by decide +kernel
theorem dX10_pack_28 : decode cX10_pack 28 = .ok (.bipush 64, 2) := by decide +kernel
theorem dX10_pack_30 : decode cX10_pack 30 = .ok (.if_icmp .ge 33, 3) := by decide +kernel
theorem dX10_pack_33 : decode cX10_pack 33 = .ok (.aload_n 0, 1) := by decide +kernel
theorem dX10_pack_34 : decode cX10_pack 34 = .ok (.getfield 46, 3) := by decide +kernel
theorem dX10_pack_37 : decode cX10_pack 37 = .ok (.iload_n 1, 1) := by decide +kernel
theorem dX10_pack_38 : decode cX10_pack 38 = .ok (.iaload, 1) := by decide +kernel
theorem dX10_pack_39 : decode cX10_pack 39 = .ok (.iconst (-1), 1) := by decide +kernel
theorem dX10_pack_40 : decode cX10_pack 40 = .ok (.if_icmp .eq 17, 3) := by decide +kernel
theorem dX10_pack_43 : decode cX10_pack 43 = .ok (.aload_n 0, 1) := by decide +kernel
theorem dX10_pack_44 : decode cX10_pack 44 = .ok (.getfield 49, 3) := by decide +kernel
theorem dX10_pack_47 : decode cX10_pack 47 = .ok (.aload_n 0, 1) := by decide +kernel
theorem dX10_pack_48 : decode cX10_pack 48 = .ok (.iload_n 1, 1) := by decide +kernel
theorem dX10_pack_49 : decode cX10_pack 49 = .ok (.invokevirtual 80, 3) := by decide +kernel
theorem dX10_pack_52 : decode cX10_pack 52 = .ok (.dup2, 1) := by decide +kernel
theorem dX10_pack_53 : decode cX10_pack 53 = .ok (.iaload, 1) := by decide +kernel
theorem dX10_pack_54 : decode cX10_pack 54 = .ok (.iconst 1, 1) := by decide +kernel
theorem dX10_pack_55 : decode cX10_pack 55 = .ok (.iadd, 1) := by decide +kernel
theorem dX10_pack_56 : decode cX10_pack 56 = .ok (.iastore, 1) := by decide +kernel
theorem dX10_pack_57 : decode cX10_pack 57 = .ok (.iinc 1 1, 3) := by decide +kernel
theorem dX10_pack_60 : decode cX10_pack 60 = .ok (.goto (-33), 3) := by decide +kernel
theorem dX10_pack_63 : decode cX10_pack 63 = .ok (.ldc_w 476, 3) := by decide +kernel
theorem dX10_pack_66 : decode cX10_pack 66 = .ok (.istore_n 1, 1) := by decide +kernel
theorem dX10_pack_67 : decode cX10_pack 67 = .ok (.iconst 0, 1) := by decide +kernel
theorem dX10_pack_68 : decode cX10_pack 68 = .ok (.istore_n 2, 1) := by decide +kernel
theorem dX10_pack_69 : decode cX10_pack 69 = .ok (.iconst 2, 1) := by decide +kernel
theorem dX10_pack_70 : decode cX10_pack 70 = .ok (.iload_n 2, 1) := by decide +kernel
theorem dX10_pack_71 : decode cX10_pack 71 = .ok (.imul, 1) := by decide +kernel
theorem dX10_pack_72 : decode cX10_pack 72 = .ok (.aload_n 0, 1) := by decide +kernel
theorem dX10_pack_73 : decode cX10_pack 73 = .ok (.getfield 49, 3) := by decide +kernel
theorem dX10_pack_76 : decode cX10_pack 76 = .ok (.iconst 4, 1) := by decide +kernel
theorem dX10_pack_77 : decode cX10_pack 77 = .ok (.iaload, 1) := by decide +kernel
theorem dX10_pack_78 : decode cX10_pack 78 = .ok (.if_icmp .gt 144, 3) := by decide +kernel
theorem dX10_pack_81 : decode cX10_pack 81 = .ok (.iconst 0, 1) := by decide +kernel
theorem dX10_pack_82 : decode cX10_pack 82 = .ok (.istore_n 3, 1) := by decide +kernel
theorem dX10_pack_83 : decode cX10_pack 83 = .ok (.iconst 2, 1) := by decide +kernel
theorem dX10_pack_84 : decode cX10_pack 84 = .ok (.iload_n 2, 1) := by decide +kernel
theorem dX10_pack_85 : decode cX10_pack 85 = .ok (.imul, 1) := by decide +kernel
theorem dX10_pack_86 : decode cX10_pack 86 = .ok (.iload_n 3, 1) := by decide +kernel
theorem dX10_pack_87 : decode cX10_pack 87 = .ok (.iadd, 1) := by decide +kernel
theorem dX10_pack_88 : decode cX10_pack 88 = .ok (.aload_n 0, 1) := by decide +kernel
theorem dX10_pack_89 : decode cX10_pack 89 = .ok (.getfield 49, 3) := by decide +kernel
theorem dX10_pack_92 : decode cX10_pack 92 = .ok (.iconst 4, 1) := by decide +kernel
theorem dX10_pack_93 : decode cX10_pack 93 = .ok (.iaload, 1) := by decide +kernel
theorem dX10_pack_94 : decode cX10_pack 94 = .ok (.if_icmp .gt 122, 3) := by decide +kernel
theorem dX10_pack_97 : decode cX10_pack 97 = .ok (.iload_n 3, 1) := by decide +kernel
theorem dX10_pack_98 : decode cX10_pack 98 = .ok (.aload_n 0, 1) := by decide +kernel
theorem dX10_pack_99 : decode cX10_pack 99 = .ok (.getfield 49, 3) := by decide +kernel
theorem dX10_pack_102 : decode cX10_pack 102 = .ok (.iconst 3, 1) := by decide +kernel
theorem dX10_pack_103 : decode cX10_pack 103 = .ok (.iaload, 1) := by decide +kernel
theorem dX10_pack_104 : decode cX10_pack 104 = .ok (.if_icmp .gt 112, 3) := by decide +kernel
theorem dX10_pack_107 : decode cX10_pack 107 = .ok (.iconst 0, 1) := by decide +kernel
theorem dX10_pack_108 : decode cX10_pack 108 = .ok (.istore 4, 2) := by decide +kernel
theorem dX10_pack_110 : decode cX10_pack 110 = .ok (.iload_n 3, 1) := by decide +kernel
theorem dX10_pack_111 : decode cX10_pack 111 = .ok (.iconst 2, 1) := by decide +kernel
theorem dX10_pack_112 : decode cX10_pack 112 = .ok (.iload 4, 2) := by decide +kernel
theorem dX10_pack_114 : decode cX10_pack 114 = .ok (.imul, 1) := by decide +kernel
theorem dX10_pack_115 : decode cX10_pack 115 = .ok (.iadd, 1) := by decide +kernel
theorem dX10_pack_116 : decode cX10_pack 116 = .ok (.aload_n 0, 1) := by decide +kernel
theorem dX10_pack_117 : decode cX10_pack 117 = .ok (.getfield 49, 3) := by decide +kernel
theorem dX10_pack_120 : decode cX10_pack 120 = .ok (.iconst 3, 1) := by decide +kernel
theorem dX10_pack_121 : decode cX10_pack 121 = .ok (.iaload, 1) := by decide +kernel
theorem dX10_pack_122 : decode cX10_pack 122 = .ok (.if_icmp .gt 88, 3) := by decide +kernel
theorem dX10_pack_125 : decode cX10_pack 125 = .ok (.aload_n 0, 1) := by decide +kernel
theorem dX10_pack_126 : decode cX10_pack 126 = .ok (.getfield 49, 3) := by decide +kernel
theorem dX10_pack_129 : decode cX10_pack 129 = .ok (.iconst 4, 1) := by decide +kernel
theorem dX10_pack_130 : decode cX10_pack 130 = .ok (.iaload, 1) := by decide +kernel
theorem dX10_pack_131 : decode cX10_pack 131 = .ok (.iconst 2, 1) := by decide +kernel
theorem dX10_pack_132 : decode cX10_pack 132 = .ok (.iload_n 2, 1) := by decide +kernel
theorem dX10_pack_133 : decode cX10_pack 133 = .ok (.imul, 1) := by decide +kernel
theorem dX10_pack_134 : decode cX10_pack 134 = .ok (.isub, 1) := by decide +kernel
theorem dX10_pack_135 : decode cX10_pack 135 = .ok (.iload_n 3, 1) := by decide +kernel
theorem dX10_pack_136 : decode cX10_pack 136 = .ok (.isub, 1) := by decide +kernel
theorem dX10_pack_137 : decode cX10_pack 137 = .ok (.istore 5, 2) := by decide +kernel
theorem dX10_pack_139 : decode cX10_pack 139 = .ok (.aload_n 0, 1) := by decide +kernel
theorem dX10_pack_140 : decode cX10_pack 140 = .ok (.getfield 49, 3) := by decide +kernel
theorem dX10_pack_143 : decode cX10_pack 143 = .ok (.iconst 3, 1) := by decide +kernel
theorem dX10_pack_144 : decode cX10_pack 144 = .ok (.iaload, 1) := by decide +kernel
theorem dX10_pack_145 : decode cX10_pack 145 = .ok (.iload_n 3, 1) := by decide +kernel
theorem dX10_pack_146 : decode cX10_pack 146 = .ok (.isub, 1) := by decide +kernel
theorem dX10_pack_147 : decode cX10_pack 147 = .ok (.iconst 2, 1) := by decide +kernel
theorem dX10_pack_148 : decode cX10_pack 148 = .ok (.iload 4, 2) := by decide +kernel
theorem dX10_pack_150 : decode cX10_pack 150 = .ok (.imul, 1) := by decide +kernel
theorem dX10_pack_151 : decode cX10_pack 151 = .ok (.isub, 1) := by decide +kernel
theorem dX10_pack_152 : decode cX10_pack 152 = .ok (.istore 6, 2) := by decide +kernel
theorem dX10_pack_154 : decode cX10_pack 154 = .ok (.iload_n 2, 1) := by decide +kernel
theorem dX10_pack_155 : decode cX10_pack 155 = .ok (.iload_n 3, 1) := by decide +kernel
theorem dX10_pack_156 : decode cX10_pack 156 = .ok (.iadd, 1) := by decide +kernel
theorem dX10_pack_157 : decode cX10_pack 157 = .ok (.iload 4, 2) := by decide +kernel
theorem dX10_pack_159 : decode cX10_pack 159 = .ok (.iadd, 1) := by decide +kernel
theorem dX10_pack_160 : decode cX10_pack 160 = .ok (.iload 5, 2) := by decide +kernel
theorem dX10_pack_162 : decode cX10_pack 162 = .ok (.iadd, 1) := by decide +kernel
theorem dX10_pack_163 : decode cX10_pack 163 = .ok (.iload 6, 2) := by decide +kernel
theorem dX10_pack_165 : decode cX10_pack 165 = .ok (.iadd, 1) := by decide +kernel
theorem dX10_pack_166 : decode cX10_pack 166 = .ok (.aload_n 0, 1) := by decide +kernel
theorem dX10_pack_167 : decode cX10_pack 167 = .ok (.iload_n 3, 1) := by decide +kernel
theorem dX10_pack_168 : decode cX10_pack 168 = .ok (.iconst 4, 1) := by decide +kernel
theorem dX10_pack_169 : decode cX10_pack 169 = .ok (.iload 5, 2) := by decide +kernel
theorem dX10_pack_171 : decode cX10_pack 171 = .ok (.imul, 1) := by decide +kernel
theorem dX10_pack_172 : decode cX10_pack 172 = .ok (.iadd, 1) := by decide +kernel
theorem dX10_pack_173 : decode cX10_pack 173 = .ok (.iconst 5, 1) := by decide +kernel
theorem dX10_pack_174 : decode cX10_pack 174 = .ok (.iload 6, 2) := by decide +kernel
theorem dX10_pack_176 : decode cX10_pack 176 = .ok (.imul, 1) := by decide +kernel
theorem dX10_pack_177 : decode cX10_pack 177 = .ok (.iadd, 1) := by decide +kernel
theorem dX10_pack_178 : decode cX10_pack 178 = .ok (.iload 4, 2) := by decide +kernel
theorem dX10_pack_180 : decode cX10_pack 180 = .ok (.iload 5, 2) := by decide +kernel
theorem dX10_pack_182 : decode cX10_pack 182 = .ok (.iload 6, 2) := by decide +kernel
theorem dX10_pack_184 : decode cX10_pack 184 = .ok (.iadd, 1) := by decide +kernel
theorem dX10_pack_185 : decode cX10_pack 185 = .ok (.invokevirtual 477, 3) := by decide +kernel
theorem dX10_pack_188 : decode cX10_pack 188 = .ok (.iadd, 1) := by decide +kernel
theorem dX10_pack_189 : decode cX10_pack 189 = .ok (.istore 7, 2) := by decide +kernel
theorem dX10_pack_191 : decode cX10_pack 191 = .ok (.iload 7, 2) := by decide +kernel
theorem dX10_pack_193 : decode cX10_pack 193 = .ok (.iload_n 1, 1) := by decide +kernel
theorem dX10_pack_194 : decode cX10_pack 194 = .ok (.if_icmp .ge 8, 3) := by decide +kernel
theorem dX10_pack_197 : decode cX10_pack 197 = .ok (.iload 7, 2) := by decide +kernel
theorem dX10_pack_199 : decode cX10_pack 199 = .ok (.goto 4, 3) := by decide +kernel
theorem dX10_pack_202 : decode cX10_pack 202 = .ok (.iload_n 1, 1) := by decide +kernel
theorem dX10_pack_203 : decode cX10_pack 203 = .ok (.istore_n 1, 1) := by decide +kernel
theorem dX10_pack_204 : decode cX10_pack 204 = .ok (.iinc 4 1, 3) := by decide +kernel
theorem dX10_pack_207 : decode cX10_pack 207 = .ok (.goto (-97), 3) := by decide +kernel
theorem dX10_pack_210 : decode cX10_pack 210 = .ok (.iinc 3 1, 3) := by decide +kernel
theorem dX10_pack_213 : decode cX10_pack 213 = .ok (.goto (-130), 3) := by decide +kernel
theorem dX10_pack_216 : decode cX10_pack 216 = .ok (.iinc 2 1, 3) := by decide +kernel
theorem dX10_pack_219 : decode cX10_pack 219 = .ok (.goto (-150), 3) := by decide +kernel
theorem dX10_pack_222 : decode cX10_pack 222 = .ok (.iload_n 1, 1) := by decide +kernel
theorem dX10_pack_223 : decode cX10_pack 223 = .ok (.ireturn, 1) := by decide +kernel
def g_X10_pack_7  : Nat → xm → Int32 → Option ((xm))
  | 0, _, _ => none
  | n + 1, M5, x4 => (if (5 : Int32) ≤ x4 then some (M5) else if xin x4 5 = true then xlet (up2 M5 11 (Int32.toNatClampNeg x4) (0 : Int32)) (fun M9 => xlet (x4 + (1 : Int32)) (fun v10 => g_X10_pack_7 n M9 v10)) else none)
def g_X10_pack_27  : Nat → xm → Int32 → Option ((xm))
  | 0, _, _ => none
  | n + 1, M13, x12 => (if (64 : Int32) ≤ x12 then some (M13) else if xin x12 64 = true then (if (M13 10 (Int32.toNatClampNeg x12)) = (-1 : Int32) then xlet (x12 + (1 : Int32)) (fun v18 => g_X10_pack_27 n M13 v18) else xb1 (f_X10_sizeOf M13 x12) (fun v20 => if xin v20 5 = true then xlet (up2 M13 11 (Int32.toNatClampNeg v20) ((M13 11 (Int32.toNatClampNeg v20)) + (1 : Int32))) (fun M23 => xlet (x12 + (1 : Int32)) (fun v24 => g_X10_pack_27 n M23 v24)) else none)) else none)
def g_X10_pack_110 (M : xm) (x37 : Int32) (x38 : Int32) : Nat → Int32 → Int32 → Option ((Int32))
  | 0, _, _ => none
  | n + 1, x36, x39 => (if (M 11 3) < (x38 + ((2 : Int32) * x39)) then some (x36) else xlet (((M 11 4) - ((2 : Int32) * x37)) - x38) (fun v42 => xlet (((M 11 3) - x38) - ((2 : Int32) * x39)) (fun v43 => xlet (((((x37 + x38) + x39) + v42) + v43) + (f_X10_morePages M ((x38 + ((4 : Int32) * v42)) + ((5 : Int32) * v43)) x39 (v42 + v43))) (fun v45 => (if x36 ≤ v45 then xlet (x39 + (1 : Int32)) (fun v47 => g_X10_pack_110 M x37 x38 n x36 v47) else xlet (x39 + (1 : Int32)) (fun v48 => g_X10_pack_110 M x37 x38 n v45 v48))))))
def g_X10_pack_83 (M : xm) (x31 : Int32) : Nat → Int32 → Int32 → Option ((Int32))
  | 0, _, _ => none
  | n + 1, x30, x32 => (if (M 11 4) < (((2 : Int32) * x31) + x32) then some (x30) else (if (M 11 3) < x32 then some (x30) else xb1 (g_X10_pack_110 M x31 x32 xfuel x30 (0 : Int32)) (fun v49 => xlet (x32 + (1 : Int32)) (fun v50 => g_X10_pack_83 M x31 n v49 v50))))
def g_X10_pack_69 (M : xm) : Nat → Int32 → Int32 → Option ((Int32))
  | 0, _, _ => none
  | n + 1, x26, x27 => (if (M 11 4) < ((2 : Int32) * x27) then some (x26) else xb1 (g_X10_pack_83 M x27 xfuel x26 (0 : Int32)) (fun v51 => xlet (x27 + (1 : Int32)) (fun v52 => g_X10_pack_69 M n v51 v52)))
def f_X10_pack (M : xm) : Option (Int32 × xm) := xb1 (f_X10_layLoads M (-1 : Int32)) (fun M2 => xb1 (g_X10_pack_7 xfuel M2 (0 : Int32)) (fun M11 => xb1 (g_X10_pack_27 xfuel M11 (0 : Int32)) (fun M25 => xb1 (g_X10_pack_69 M25 xfuel (1000000 : Int32) (0 : Int32)) (fun v53 => some (v53, M25)))))
set_option maxHeartbeats 4000000 in
set_option maxRecDepth 20000 in
theorem j_X10_pack_7 {p : Program} {l : Launch} {e : Env} {s : State} {m : MethodId} {args : Array Value} {below : List Frame} {meth : Method} {c : Code} {Q : State → Prop} {E : xE} {b : Nat} (C : xC p s m args meth c cX10_pack 8 RX10 (some .int) E b) {Lm : xn} {y6 : xm}
    (kx0 : ∀ (H : Heap) (locs : List Loc) (ls : Array Slot), xM E b NY (cY E b y6 Lm) s.heap H locs → lv_has ls 8 [(0, .ref (b + 0))] → W p l e (xR 6) s m args below meth c H locs 0 0 Q (F0 m 25 ls [])) :
    ∀ (n : Nat) (M5 : xm) (x4 : Int32) (H : Heap) (locs : List Loc) (ls : Array Slot), g_X10_pack_7 n M5 x4 = some y6 → xM E b NY (cY E b M5 Lm) s.heap H locs → lv_has ls 8 [(0, .ref (b + 0)), (1, .int x4)] → W p l e (xR 6) s m args below meth c H locs 0 0 Q (F0 m 7 ls []) := by
  have hx := C.1.1
  have hb := C.1.2.1
  intro n
  induction n with
  | zero =>
    intro M5 x4 H locs ls hf hm hl
    rw [g_X10_pack_7] at hf
    cases hf
  | succ n ih =>
    intro M5 x4 H locs ls hf hm hl
    rw [g_X10_pack_7] at hf
    refine lv_iload_n hx hb dX10_pack_7 rfl (lv_at hl 1 rfl) ?_
    refine lv_iconst (v := (5 : Int32)) hx hb dX10_pack_8 (by decide) ?_
    refine lv_icmp_ge (tgt := 25) hx hb dX10_pack_9 (by decide) (fun hc7 => ?_) (fun hc7 => ?_)
    · have hf := xif_t hc7 hf
      cases hf
      exact kx0 H locs ls hm (lv_sub hl [0] rfl)
    have hf := xif_f hc7 hf
    refine lv_aload_n hx hb dX10_pack_12 rfl (lv_at hl 0 rfl) ?_
    refine x_get C hm inX10 rfl 25 (by decide) tf_RX10_49 cy_0 rfl dX10_pack_13 ?_
    refine lv_iload_n hx hb dX10_pack_16 rfl (lv_at hl 1 rfl) ?_
    refine lv_iconst (v := (0 : Int32)) hx hb dX10_pack_17 (by decide) ?_
    obtain ⟨hi8, hf⟩ := xif_s hf
    obtain ⟨M9, eM9, hf⟩ := xlet_x hf
    refine x_iast (j := (Int32.toNatClampNeg x4)) (cf' := cY E b M9 Lm) C hm cy_11 hi8 dX10_pack_18 rfl (by rw [eM9]; exact cyu_11) (by rw [eM9]; exact cY_o) (fun H locs hm => ?_)
    obtain ⟨v10, ev10, hf⟩ := xlet_x hf
    refine lv_iinc (v := v10) (lv' := [(1, .int v10), (0, .ref (b + 0))]) hx hb dX10_pack_19 hl (k := 1) rfl (by rw [ev10]; rfl) (by decide) rfl (fun ls hl => ?_)
    refine lv_goto (tgt := 7) hx hb dX10_pack_22 (by decide) ?_
    exact ih M9 v10 H locs ls hf hm (lv_sub hl [1, 0] rfl)
set_option maxHeartbeats 4000000 in
set_option maxRecDepth 20000 in
theorem j_X10_pack_27 {p : Program} {l : Launch} {e : Env} {s : State} {m : MethodId} {args : Array Value} {below : List Frame} {meth : Method} {c : Code} {Q : State → Prop} {E : xE} {b : Nat} (C : xC p s m args meth c cX10_pack 8 RX10 (some .int) E b) {Lm : xn} {y14 : xm}
    (kx0 : ∀ (H : Heap) (locs : List Loc) (ls : Array Slot), xM E b NY (cY E b y14 Lm) s.heap H locs → lv_has ls 8 [(0, .ref (b + 0))] → W p l e (xR 6) s m args below meth c H locs 0 0 Q (F0 m 63 ls [])) :
    ∀ (n : Nat) (M13 : xm) (x12 : Int32) (H : Heap) (locs : List Loc) (ls : Array Slot), g_X10_pack_27 n M13 x12 = some y14 → xM E b NY (cY E b M13 Lm) s.heap H locs → lv_has ls 8 [(0, .ref (b + 0)), (1, .int x12)] → W p l e (xR 6) s m args below meth c H locs 0 0 Q (F0 m 27 ls []) := by
  have hx := C.1.1
  have hb := C.1.2.1
  intro n
  induction n with
  | zero =>
    intro M13 x12 H locs ls hf hm hl
    rw [g_X10_pack_27] at hf
    cases hf
  | succ n ih =>
    intro M13 x12 H locs ls hf hm hl
    rw [g_X10_pack_27] at hf
    refine lv_iload_n hx hb dX10_pack_27 rfl (lv_at hl 1 rfl) ?_
    refine lv_bipush (v := (64 : Int32)) hx hb dX10_pack_28 (by decide) ?_
    refine lv_icmp_ge (tgt := 63) hx hb dX10_pack_30 (by decide) (fun hc15 => ?_) (fun hc15 => ?_)
    · have hf := xif_t hc15 hf
      cases hf
      exact kx0 H locs ls hm (lv_sub hl [0] rfl)
    have hf := xif_f hc15 hf
    refine lv_aload_n hx hb dX10_pack_33 rfl (lv_at hl 0 rfl) ?_
    refine x_get C hm inX10 rfl 24 (by decide) tf_RX10_46 cy_0 rfl dX10_pack_34 ?_
    refine lv_iload_n hx hb dX10_pack_37 rfl (lv_at hl 1 rfl) ?_
    obtain ⟨hi16, hf⟩ := xif_s hf
    refine x_iald (j := (Int32.toNatClampNeg x12)) C hm cy_10 hi16 dX10_pack_38 rfl ?_
    refine lv_iconst (v := (-1 : Int32)) hx hb dX10_pack_39 (by decide) ?_
    refine lv_icmp_eq (tgt := 57) hx hb dX10_pack_40 (by decide) (fun hc17 => ?_) (fun hc17 => ?_)
    · have hf := xif_t hc17 hf
      obtain ⟨v18, ev18, hf⟩ := xlet_x hf
      refine lv_iinc (v := v18) (lv' := [(1, .int v18), (0, .ref (b + 0))]) hx hb dX10_pack_57 hl (k := 1) rfl (by rw [ev18]; rfl) (by decide) rfl (fun ls hl => ?_)
      refine lv_goto (tgt := 27) hx hb dX10_pack_60 (by decide) ?_
      exact ih M13 v18 H locs ls hf hm (lv_sub hl [1, 0] rfl)
    have hf := xif_f hc17 hf
    refine lv_aload_n hx hb dX10_pack_43 rfl (lv_at hl 0 rfl) ?_
    refine x_get C hm inX10 rfl 25 (by decide) tf_RX10_49 cy_0 rfl dX10_pack_44 ?_
    refine lv_aload_n hx hb dX10_pack_47 rfl (lv_at hl 0 rfl) ?_
    refine lv_iload_n hx hb dX10_pack_48 rfl (lv_at hl 1 rfl) ?_
    obtain ⟨v20, hq19, hf⟩ := xb1_e hf
    refine x_callVi (As := [.int x12]) (rest := [.ref (b + 11)]) C hm (c_X10_sizeOf l E b M13 Lm x12 hq19) rfl cy_0 tc_X10_sizeOf tm_RX10_80 ti_X10_sizeOf ts_X10_sizeOf tn_RX10 td_X10_sizeOf rfl rfl ⟨Nat.le_of_ble_eq_true rfl, Nat.le_of_ble_eq_true rfl⟩ rfl hl.1 rfl (Nat.le_of_ble_eq_true rfl) ⟨Nat.zero_le _, Nat.zero_le _⟩ dX10_pack_49 (fun H locs hP21 hm => ?_)
    refine lv_dup2_11 hx hb dX10_pack_52 rfl rfl ?_
    obtain ⟨hi22, hf⟩ := xif_s hf
    refine x_iald (j := (Int32.toNatClampNeg v20)) C hm cy_11 hi22 dX10_pack_53 rfl ?_
    refine lv_iconst (v := (1 : Int32)) hx hb dX10_pack_54 (by decide) ?_
    refine lv_iadd hx hb dX10_pack_55 ?_
    obtain ⟨M23, eM23, hf⟩ := xlet_x hf
    refine x_iast (j := (Int32.toNatClampNeg v20)) (cf' := cY E b M23 Lm) C hm cy_11 hi22 dX10_pack_56 rfl (by rw [eM23]; exact cyu_11) (by rw [eM23]; exact cY_o) (fun H locs hm => ?_)
    obtain ⟨v24, ev24, hf⟩ := xlet_x hf
    refine lv_iinc (v := v24) (lv' := [(1, .int v24), (0, .ref (b + 0))]) hx hb dX10_pack_57 hl (k := 1) rfl (by rw [ev24]; rfl) (by decide) rfl (fun ls hl => ?_)
    refine lv_goto (tgt := 27) hx hb dX10_pack_60 (by decide) ?_
    exact ih M23 v24 H locs ls hf hm (lv_sub hl [1, 0] rfl)
set_option maxHeartbeats 4000000 in
set_option maxRecDepth 20000 in
theorem j_X10_pack_110 {p : Program} {l : Launch} {e : Env} {s : State} {m : MethodId} {args : Array Value} {below : List Frame} {meth : Method} {c : Code} {Q : State → Prop} {E : xE} {b : Nat} (C : xC p s m args meth c cX10_pack 8 RX10 (some .int) E b) (M : xm) {Lm : xn} (x37 : Int32) (x38 : Int32) {y40 : Int32}
    (kx0 : ∀ (H : Heap) (locs : List Loc) (ls : Array Slot), xM E b NY (cY E b M Lm) s.heap H locs → lv_has ls 8 [(0, .ref (b + 0)), (1, .int y40), (2, .int x37), (3, .int x38)] → W p l e (xR 6) s m args below meth c H locs 0 0 Q (F0 m 210 ls [])) :
    ∀ (n : Nat) (x36 : Int32) (x39 : Int32) (H : Heap) (locs : List Loc) (ls : Array Slot), g_X10_pack_110 M x37 x38 n x36 x39 = some y40 → xM E b NY (cY E b M Lm) s.heap H locs → lv_has ls 8 [(0, .ref (b + 0)), (1, .int x36), (2, .int x37), (3, .int x38), (4, .int x39)] → W p l e (xR 6) s m args below meth c H locs 0 0 Q (F0 m 110 ls []) := by
  have hx := C.1.1
  have hb := C.1.2.1
  intro n
  induction n with
  | zero =>
    intro x36 x39 H locs ls hf hm hl
    rw [g_X10_pack_110] at hf
    cases hf
  | succ n ih =>
    intro x36 x39 H locs ls hf hm hl
    rw [g_X10_pack_110] at hf
    refine lv_iload_n hx hb dX10_pack_110 rfl (lv_at hl 3 rfl) ?_
    refine lv_iconst (v := (2 : Int32)) hx hb dX10_pack_111 (by decide) ?_
    refine lv_iload hx hb dX10_pack_112 (lv_at hl 4 rfl) ?_
    refine lv_imul hx hb dX10_pack_114 ?_
    refine lv_iadd hx hb dX10_pack_115 ?_
    refine lv_aload_n hx hb dX10_pack_116 rfl (lv_at hl 0 rfl) ?_
    refine x_get C hm inX10 rfl 25 (by decide) tf_RX10_49 cy_0 rfl dX10_pack_117 ?_
    refine lv_iconst (v := (3 : Int32)) hx hb dX10_pack_120 (by decide) ?_
    refine x_iald (j := 3) C hm cy_11 (by decide) dX10_pack_121 (by decide) ?_
    refine lv_icmp_gt (tgt := 210) hx hb dX10_pack_122 (by decide) (fun hc41 => ?_) (fun hc41 => ?_)
    · have hf := xif_t hc41 hf
      cases hf
      exact kx0 H locs ls hm (lv_sub hl [0, 1, 2, 3] rfl)
    have hf := xif_f hc41 hf
    refine lv_aload_n hx hb dX10_pack_125 rfl (lv_at hl 0 rfl) ?_
    refine x_get C hm inX10 rfl 25 (by decide) tf_RX10_49 cy_0 rfl dX10_pack_126 ?_
    refine lv_iconst (v := (4 : Int32)) hx hb dX10_pack_129 (by decide) ?_
    refine x_iald (j := 4) C hm cy_11 (by decide) dX10_pack_130 (by decide) ?_
    refine lv_iconst (v := (2 : Int32)) hx hb dX10_pack_131 (by decide) ?_
    refine lv_iload_n hx hb dX10_pack_132 rfl (lv_at hl 2 rfl) ?_
    refine lv_imul hx hb dX10_pack_133 ?_
    refine lv_isub hx hb dX10_pack_134 ?_
    refine lv_iload_n hx hb dX10_pack_135 rfl (lv_at hl 3 rfl) ?_
    refine lv_isub hx hb dX10_pack_136 ?_
    refine lv_topi (fun v42 ev42 => ?_)
    have hf := xlet_e ev42 hf
    refine lv_istore (lv' := [(5, .int v42), (0, .ref (b + 0)), (1, .int x36), (2, .int x37), (3, .int x38), (4, .int x39)]) hx hb dX10_pack_137 hl (by decide) rfl (fun ls hl => ?_)
    refine lv_aload_n hx hb dX10_pack_139 rfl (lv_at hl 1 rfl) ?_
    refine x_get C hm inX10 rfl 25 (by decide) tf_RX10_49 cy_0 rfl dX10_pack_140 ?_
    refine lv_iconst (v := (3 : Int32)) hx hb dX10_pack_143 (by decide) ?_
    refine x_iald (j := 3) C hm cy_11 (by decide) dX10_pack_144 (by decide) ?_
    refine lv_iload_n hx hb dX10_pack_145 rfl (lv_at hl 4 rfl) ?_
    refine lv_isub hx hb dX10_pack_146 ?_
    refine lv_iconst (v := (2 : Int32)) hx hb dX10_pack_147 (by decide) ?_
    refine lv_iload hx hb dX10_pack_148 (lv_at hl 5 rfl) ?_
    refine lv_imul hx hb dX10_pack_150 ?_
    refine lv_isub hx hb dX10_pack_151 ?_
    refine lv_topi (fun v43 ev43 => ?_)
    have hf := xlet_e ev43 hf
    refine lv_istore (lv' := [(6, .int v43), (5, .int v42), (0, .ref (b + 0)), (1, .int x36), (2, .int x37), (3, .int x38), (4, .int x39)]) hx hb dX10_pack_152 hl (by decide) rfl (fun ls hl => ?_)
    refine lv_iload_n hx hb dX10_pack_154 rfl (lv_at hl 4 rfl) ?_
    refine lv_iload_n hx hb dX10_pack_155 rfl (lv_at hl 5 rfl) ?_
    refine lv_iadd hx hb dX10_pack_156 ?_
    refine lv_iload hx hb dX10_pack_157 (lv_at hl 6 rfl) ?_
    refine lv_iadd hx hb dX10_pack_159 ?_
    refine lv_iload hx hb dX10_pack_160 (lv_at hl 1 rfl) ?_
    refine lv_iadd hx hb dX10_pack_162 ?_
    refine lv_iload hx hb dX10_pack_163 (lv_at hl 0 rfl) ?_
    refine lv_iadd hx hb dX10_pack_165 ?_
    refine lv_aload_n hx hb dX10_pack_166 rfl (lv_at hl 2 rfl) ?_
    refine lv_iload_n hx hb dX10_pack_167 rfl (lv_at hl 5 rfl) ?_
    refine lv_iconst (v := (4 : Int32)) hx hb dX10_pack_168 (by decide) ?_
    refine lv_iload hx hb dX10_pack_169 (lv_at hl 1 rfl) ?_
    refine lv_imul hx hb dX10_pack_171 ?_
    refine lv_iadd hx hb dX10_pack_172 ?_
    refine lv_iconst (v := (5 : Int32)) hx hb dX10_pack_173 (by decide) ?_
    refine lv_iload hx hb dX10_pack_174 (lv_at hl 0 rfl) ?_
    refine lv_imul hx hb dX10_pack_176 ?_
    refine lv_iadd hx hb dX10_pack_177 ?_
    refine lv_iload hx hb dX10_pack_178 (lv_at hl 6 rfl) ?_
    refine lv_iload hx hb dX10_pack_180 (lv_at hl 1 rfl) ?_
    refine lv_iload hx hb dX10_pack_182 (lv_at hl 0 rfl) ?_
    refine lv_iadd hx hb dX10_pack_184 ?_
    refine x_callVi (As := [.int ((x38 + ((4 : Int32) * v42)) + ((5 : Int32) * v43)), .int x39, .int (v42 + v43)]) (rest := [.int ((((x37 + x38) + x39) + v42) + v43)]) C hm (c_X10_morePages l E b M Lm ((x38 + ((4 : Int32) * v42)) + ((5 : Int32) * v43)) x39 (v42 + v43) rfl) rfl cy_0 tc_X10_morePages tm_RX10_477 ti_X10_morePages ts_X10_morePages tn_RX10 td_X10_morePages rfl rfl ⟨Nat.le_of_ble_eq_true rfl, Nat.le_of_ble_eq_true rfl⟩ rfl hl.1 rfl (Nat.le_of_ble_eq_true rfl) ⟨Nat.zero_le _, Nat.zero_le _⟩ dX10_pack_185 (fun H locs hP44 hm => ?_)
    refine lv_iadd hx hb dX10_pack_188 ?_
    refine lv_topi (fun v45 ev45 => ?_)
    have hf := xlet_e ev45 hf
    refine lv_istore (lv' := [(7, .int v45), (6, .int v43), (5, .int v42), (0, .ref (b + 0)), (1, .int x36), (2, .int x37), (3, .int x38), (4, .int x39)]) hx hb dX10_pack_189 hl (by decide) rfl (fun ls hl => ?_)
    refine lv_iload hx hb dX10_pack_191 (lv_at hl 0 rfl) ?_
    refine lv_iload_n hx hb dX10_pack_193 rfl (lv_at hl 4 rfl) ?_
    refine lv_icmp_ge (tgt := 202) hx hb dX10_pack_194 (by decide) (fun hc46 => ?_) (fun hc46 => ?_)
    · have hf := xif_t hc46 hf
      refine lv_iload_n hx hb dX10_pack_202 rfl (lv_at hl 4 rfl) ?_
      refine lv_istore_n (lv' := [(1, .int x36), (7, .int v45), (6, .int v43), (5, .int v42), (0, .ref (b + 0)), (2, .int x37), (3, .int x38), (4, .int x39)]) hx hb dX10_pack_203 rfl hl (by decide) rfl (fun ls hl => ?_)
      obtain ⟨v47, ev47, hf⟩ := xlet_x hf
      refine lv_iinc (v := v47) (lv' := [(4, .int v47), (1, .int x36), (7, .int v45), (6, .int v43), (5, .int v42), (0, .ref (b + 0)), (2, .int x37), (3, .int x38)]) hx hb dX10_pack_204 hl (k := 7) rfl (by rw [ev47]; rfl) (by decide) rfl (fun ls hl => ?_)
      refine lv_goto (tgt := 110) hx hb dX10_pack_207 (by decide) ?_
      exact ih x36 v47 H locs ls hf hm (lv_sub hl [5, 1, 6, 7, 0] rfl)
    have hf := xif_f hc46 hf
    refine lv_iload hx hb dX10_pack_197 (lv_at hl 0 rfl) ?_
    refine lv_goto (tgt := 203) hx hb dX10_pack_199 (by decide) ?_
    refine lv_istore_n (lv' := [(1, .int v45), (7, .int v45), (6, .int v43), (5, .int v42), (0, .ref (b + 0)), (2, .int x37), (3, .int x38), (4, .int x39)]) hx hb dX10_pack_203 rfl hl (by decide) rfl (fun ls hl => ?_)
    obtain ⟨v48, ev48, hf⟩ := xlet_x hf
    refine lv_iinc (v := v48) (lv' := [(4, .int v48), (1, .int v45), (7, .int v45), (6, .int v43), (5, .int v42), (0, .ref (b + 0)), (2, .int x37), (3, .int x38)]) hx hb dX10_pack_204 hl (k := 7) rfl (by rw [ev48]; rfl) (by decide) rfl (fun ls hl => ?_)
    refine lv_goto (tgt := 110) hx hb dX10_pack_207 (by decide) ?_
    exact ih v45 v48 H locs ls hf hm (lv_sub hl [5, 1, 6, 7, 0] rfl)
set_option maxHeartbeats 4000000 in
set_option maxRecDepth 20000 in
theorem j_X10_pack_83 {p : Program} {l : Launch} {e : Env} {s : State} {m : MethodId} {args : Array Value} {below : List Frame} {meth : Method} {c : Code} {Q : State → Prop} {E : xE} {b : Nat} (C : xC p s m args meth c cX10_pack 8 RX10 (some .int) E b) (M : xm) {Lm : xn} (x31 : Int32) {y33 : Int32}
    (kx0 : ∀ (H : Heap) (locs : List Loc) (ls : Array Slot), xM E b NY (cY E b M Lm) s.heap H locs → lv_has ls 8 [(0, .ref (b + 0)), (1, .int y33), (2, .int x31)] → W p l e (xR 6) s m args below meth c H locs 0 0 Q (F0 m 216 ls [])) :
    ∀ (n : Nat) (x30 : Int32) (x32 : Int32) (H : Heap) (locs : List Loc) (ls : Array Slot), g_X10_pack_83 M x31 n x30 x32 = some y33 → xM E b NY (cY E b M Lm) s.heap H locs → lv_has ls 8 [(0, .ref (b + 0)), (1, .int x30), (2, .int x31), (3, .int x32)] → W p l e (xR 6) s m args below meth c H locs 0 0 Q (F0 m 83 ls []) := by
  have hx := C.1.1
  have hb := C.1.2.1
  intro n
  induction n with
  | zero =>
    intro x30 x32 H locs ls hf hm hl
    rw [g_X10_pack_83] at hf
    cases hf
  | succ n ih =>
    intro x30 x32 H locs ls hf hm hl
    rw [g_X10_pack_83] at hf
    refine lv_iconst (v := (2 : Int32)) hx hb dX10_pack_83 (by decide) ?_
    refine lv_iload_n hx hb dX10_pack_84 rfl (lv_at hl 2 rfl) ?_
    refine lv_imul hx hb dX10_pack_85 ?_
    refine lv_iload_n hx hb dX10_pack_86 rfl (lv_at hl 3 rfl) ?_
    refine lv_iadd hx hb dX10_pack_87 ?_
    refine lv_aload_n hx hb dX10_pack_88 rfl (lv_at hl 0 rfl) ?_
    refine x_get C hm inX10 rfl 25 (by decide) tf_RX10_49 cy_0 rfl dX10_pack_89 ?_
    refine lv_iconst (v := (4 : Int32)) hx hb dX10_pack_92 (by decide) ?_
    refine x_iald (j := 4) C hm cy_11 (by decide) dX10_pack_93 (by decide) ?_
    refine lv_icmp_gt (tgt := 216) hx hb dX10_pack_94 (by decide) (fun hc34 => ?_) (fun hc34 => ?_)
    · have hf := xif_t hc34 hf
      cases hf
      exact kx0 H locs ls hm (lv_sub hl [0, 1, 2] rfl)
    have hf := xif_f hc34 hf
    refine lv_iload_n hx hb dX10_pack_97 rfl (lv_at hl 3 rfl) ?_
    refine lv_aload_n hx hb dX10_pack_98 rfl (lv_at hl 0 rfl) ?_
    refine x_get C hm inX10 rfl 25 (by decide) tf_RX10_49 cy_0 rfl dX10_pack_99 ?_
    refine lv_iconst (v := (3 : Int32)) hx hb dX10_pack_102 (by decide) ?_
    refine x_iald (j := 3) C hm cy_11 (by decide) dX10_pack_103 (by decide) ?_
    refine lv_icmp_gt (tgt := 216) hx hb dX10_pack_104 (by decide) (fun hc35 => ?_) (fun hc35 => ?_)
    · have hf := xif_t hc35 hf
      cases hf
      exact kx0 H locs ls hm (lv_sub hl [0, 1, 2] rfl)
    have hf := xif_f hc35 hf
    refine lv_iconst (v := (0 : Int32)) hx hb dX10_pack_107 (by decide) ?_
    refine lv_istore (lv' := [(4, .int (0 : Int32)), (0, .ref (b + 0)), (1, .int x30), (2, .int x31), (3, .int x32)]) hx hb dX10_pack_108 hl (by decide) rfl (fun ls hl => ?_)
    obtain ⟨v49, hq, hf⟩ := xb1_e hf
    refine j_X10_pack_110 C M x31 x32 (fun H locs ls hm hl => ?_) xfuel x30 (0 : Int32) H locs ls hq hm (lv_sub hl [1, 2, 3, 4, 0] rfl)
    obtain ⟨v50, ev50, hf⟩ := xlet_x hf
    refine lv_iinc (v := v50) (lv' := [(3, .int v50), (0, .ref (b + 0)), (1, .int v49), (2, .int x31)]) hx hb dX10_pack_210 hl (k := 3) rfl (by rw [ev50]; rfl) (by decide) rfl (fun ls hl => ?_)
    refine lv_goto (tgt := 83) hx hb dX10_pack_213 (by decide) ?_
    exact ih v49 v50 H locs ls hf hm (lv_sub hl [1, 2, 3, 0] rfl)
set_option maxHeartbeats 4000000 in
set_option maxRecDepth 20000 in
theorem j_X10_pack_69 {p : Program} {l : Launch} {e : Env} {s : State} {m : MethodId} {args : Array Value} {below : List Frame} {meth : Method} {c : Code} {Q : State → Prop} {E : xE} {b : Nat} (C : xC p s m args meth c cX10_pack 8 RX10 (some .int) E b) (M : xm) {Lm : xn} {y28 : Int32}
    (kx0 : ∀ (H : Heap) (locs : List Loc) (ls : Array Slot), xM E b NY (cY E b M Lm) s.heap H locs → lv_has ls 8 [(1, .int y28)] → W p l e (xR 6) s m args below meth c H locs 0 0 Q (F0 m 222 ls [])) :
    ∀ (n : Nat) (x26 : Int32) (x27 : Int32) (H : Heap) (locs : List Loc) (ls : Array Slot), g_X10_pack_69 M n x26 x27 = some y28 → xM E b NY (cY E b M Lm) s.heap H locs → lv_has ls 8 [(0, .ref (b + 0)), (1, .int x26), (2, .int x27)] → W p l e (xR 6) s m args below meth c H locs 0 0 Q (F0 m 69 ls []) := by
  have hx := C.1.1
  have hb := C.1.2.1
  intro n
  induction n with
  | zero =>
    intro x26 x27 H locs ls hf hm hl
    rw [g_X10_pack_69] at hf
    cases hf
  | succ n ih =>
    intro x26 x27 H locs ls hf hm hl
    rw [g_X10_pack_69] at hf
    refine lv_iconst (v := (2 : Int32)) hx hb dX10_pack_69 (by decide) ?_
    refine lv_iload_n hx hb dX10_pack_70 rfl (lv_at hl 2 rfl) ?_
    refine lv_imul hx hb dX10_pack_71 ?_
    refine lv_aload_n hx hb dX10_pack_72 rfl (lv_at hl 0 rfl) ?_
    refine x_get C hm inX10 rfl 25 (by decide) tf_RX10_49 cy_0 rfl dX10_pack_73 ?_
    refine lv_iconst (v := (4 : Int32)) hx hb dX10_pack_76 (by decide) ?_
    refine x_iald (j := 4) C hm cy_11 (by decide) dX10_pack_77 (by decide) ?_
    refine lv_icmp_gt (tgt := 222) hx hb dX10_pack_78 (by decide) (fun hc29 => ?_) (fun hc29 => ?_)
    · have hf := xif_t hc29 hf
      cases hf
      exact kx0 H locs ls hm (lv_sub hl [1] rfl)
    have hf := xif_f hc29 hf
    refine lv_iconst (v := (0 : Int32)) hx hb dX10_pack_81 (by decide) ?_
    refine lv_istore_n (lv' := [(3, .int (0 : Int32)), (0, .ref (b + 0)), (1, .int x26), (2, .int x27)]) hx hb dX10_pack_82 rfl hl (by decide) rfl (fun ls hl => ?_)
    obtain ⟨v51, hq, hf⟩ := xb1_e hf
    refine j_X10_pack_83 C M x27 (fun H locs ls hm hl => ?_) xfuel x26 (0 : Int32) H locs ls hq hm (lv_sub hl [1, 2, 3, 0] rfl)
    obtain ⟨v52, ev52, hf⟩ := xlet_x hf
    refine lv_iinc (v := v52) (lv' := [(2, .int v52), (0, .ref (b + 0)), (1, .int v51)]) hx hb dX10_pack_216 hl (k := 2) rfl (by rw [ev52]; rfl) (by decide) rfl (fun ls hl => ?_)
    refine lv_goto (tgt := 69) hx hb dX10_pack_219 (by decide) ?_
    exact ih v51 v52 H locs ls hf hm (lv_sub hl [1, 2, 0] rfl)
set_option maxHeartbeats 4000000 in
set_option maxRecDepth 20000 in
theorem c_X10_pack (l : Launch) (E : xE) (b : Nat) (M : xm) (Lm : xn) {r : Int32} {M' : xm} (hf : f_X10_pack M = some (r, M')) :
    xMet l E b NY yX10_pack cX10_pack 8 (some .int) (xR 6) [.ref (b + 0)] (cY E b M Lm) (some (.int r)) True (cY E b M' Lm) := by
  refine xMet.ofW (own := RX10) (by decide) rfl (Nat.le_of_ble_eq_true rfl) ?_
  intro p e s m below meth c H locs ls C hm hl
  have hx := C.1.1
  have hb := C.1.2.1
  have hl : lv_has ls 8 [(0, .ref (b + 0))] := hl
  unfold f_X10_pack at hf
  refine lv_aload_n hx hb dX10_pack_0 rfl (lv_at hl 0 rfl) ?_
  refine lv_iconst (v := (-1 : Int32)) hx hb dX10_pack_1 (by decide) ?_
  obtain ⟨M2, hq1, hf⟩ := xb1_e hf
  refine x_callVv (As := [.int (-1 : Int32)]) (rest := []) C hm (c_X10_layLoads l E b M Lm (-1 : Int32) hq1) rfl cy_0 tc_X10_layLoads tm_RX10_461 ti_X10_layLoads ts_X10_layLoads tn_RX10 td_X10_layLoads rfl rfl ⟨Nat.le_of_ble_eq_true rfl, Nat.le_of_ble_eq_true rfl⟩ rfl hl.1 rfl (Nat.le_of_ble_eq_true rfl) ⟨Nat.zero_le _, Nat.zero_le _⟩ dX10_pack_2 (fun H locs hP3 hm => ?_)
  refine lv_iconst (v := (0 : Int32)) hx hb dX10_pack_5 (by decide) ?_
  refine lv_istore_n (lv' := [(1, .int (0 : Int32)), (0, .ref (b + 0))]) hx hb dX10_pack_6 rfl hl (by decide) rfl (fun ls hl => ?_)
  obtain ⟨M11, hq, hf⟩ := xb1_e hf
  refine j_X10_pack_7 C (fun H locs ls hm hl => ?_) xfuel M2 (0 : Int32) H locs ls hq hm (lv_sub hl [1, 0] rfl)
  refine lv_iconst (v := (0 : Int32)) hx hb dX10_pack_25 (by decide) ?_
  refine lv_istore_n (lv' := [(1, .int (0 : Int32)), (0, .ref (b + 0))]) hx hb dX10_pack_26 rfl hl (by decide) rfl (fun ls hl => ?_)
  obtain ⟨M25, hq, hf⟩ := xb1_e hf
  refine j_X10_pack_27 C (fun H locs ls hm hl => ?_) xfuel M11 (0 : Int32) H locs ls hq hm (lv_sub hl [1, 0] rfl)
  refine lv_ldcw (v := (1000000 : Int32)) hx hb C.1.2.2.2.1 (C.1.2.2.2.2 _ tk_RX10_476) dX10_pack_63 ?_
  refine lv_istore_n (lv' := [(1, .int (1000000 : Int32)), (0, .ref (b + 0))]) hx hb dX10_pack_66 rfl hl (by decide) rfl (fun ls hl => ?_)
  refine lv_iconst (v := (0 : Int32)) hx hb dX10_pack_67 (by decide) ?_
  refine lv_istore_n (lv' := [(2, .int (0 : Int32)), (1, .int (1000000 : Int32)), (0, .ref (b + 0))]) hx hb dX10_pack_68 rfl hl (by decide) rfl (fun ls hl => ?_)
  obtain ⟨v53, hq, hf⟩ := xb1_e hf
  refine j_X10_pack_69 C M25 (fun H locs ls hm hl => ?_) xfuel (1000000 : Int32) (0 : Int32) H locs ls hq hm (lv_sub hl [2, 1, 0] rfl)
  refine lv_iload_n hx hb dX10_pack_222 rfl (lv_at hl 0 rfl) ?_
  cases hf
  exact x_iret C hm trivial dX10_pack_223
/-! ColouredHeapModel.page(II)I -/
theorem dX10_page_0 : decode cX10_page 0 = .ok (.iload_n 1, 1) := by decide +kernel
theorem dX10_page_1 : decode cX10_page 1 = .ok (.invokestatic 445, 3) := by decide +kernel
theorem dX10_page_4 : decode cX10_page 4 = .ok (.ifCond .ne 5, 3) := by decide +kernel
theorem dX10_page_7 : decode cX10_page 7 = .ok (.iconst (-1), 1) := by decide +kernel
theorem dX10_page_8 : decode cX10_page 8 = .ok (.ireturn, 1) := by decide +kernel
theorem dX10_page_9 : decode cX10_page 9 = .ok (.iload_n 2, 1) := by decide +kernel
theorem dX10_page_10 : decode cX10_page 10 = .ok (.tableswitch 76 0 3 #[30, 40, 50, 56], 30) := by decide +kernel
theorem dX10_page_40 : decode cX10_page 40 = .ok (.aload_n 0, 1) := by decide +kernel
theorem dX10_page_41 : decode cX10_page 41 = .ok (.getfield 7, 3) := by decide +kernel
theorem dX10_page_44 : decode cX10_page 44 = .ok (.bipush 13, 2) := by decide +kernel
theorem dX10_page_46 : decode cX10_page 46 = .ok (.iload_n 1, 1) := by decide +kernel
theorem dX10_page_47 : decode cX10_page 47 = .ok (.iadd, 1) := by decide +kernel
theorem dX10_page_48 : decode cX10_page 48 = .ok (.iaload, 1) := by decide +kernel
theorem dX10_page_49 : decode cX10_page 49 = .ok (.ireturn, 1) := by decide +kernel
theorem dX10_page_50 : decode cX10_page 50 = .ok (.aload_n 0, 1) := by decide +kernel
theorem dX10_page_51 : decode cX10_page 51 = .ok (.getfield 7, 3) := by decide +kernel
theorem dX10_page_54 : decode cX10_page 54 = .ok (.bipush 21, 2) := by decide +kernel
theorem dX10_page_56 : decode cX10_page 56 = .ok (.iload_n 1, 1) := by decide +kernel
theorem dX10_page_57 : decode cX10_page 57 = .ok (.iadd, 1) := by decide +kernel
theorem dX10_page_58 : decode cX10_page 58 = .ok (.iaload, 1) := by decide +kernel
theorem dX10_page_59 : decode cX10_page 59 = .ok (.ireturn, 1) := by decide +kernel
theorem dX10_page_60 : decode cX10_page 60 = .ok (.aload_n 0, 1) := by decide +kernel
theorem dX10_page_61 : decode cX10_page 61 = .ok (.iload_n 1, 1) := by decide +kernel
theorem dX10_page_62 : decode cX10_page 62 = .ok (.invokevirtual 266, 3) := by decide +kernel
theorem dX10_page_65 : decode cX10_page 65 = .ok (.ireturn, 1) := by decide +kernel
theorem dX10_page_66 : decode cX10_page 66 = .ok (.aload_n 0, 1) := by decide +kernel
theorem dX10_page_67 : decode cX10_page 67 = .ok (.aload_n 0, 1) := by decide +kernel
theorem dX10_page_68 : decode cX10_page 68 = .ok (.getfield 7, 3) := by decide +kernel
theorem dX10_page_71 : decode cX10_page 71 = .ok (.iconst 1, 1) := by decide +kernel
theorem dX10_page_72 : decode cX10_page 72 = .ok (.iaload, 1) := by decide +kernel
theorem dX10_page_73 : decode cX10_page 73 = .ok (.iload_n 1, 1) := by decide +kernel
theorem dX10_page_74 : decode cX10_page 74 = .ok (.invokevirtual 370, 3) := by decide +kernel
theorem dX10_page_77 : decode cX10_page 77 = .ok (.ifCond .eq 7, 3) := by decide +kernel
theorem dX10_page_80 : decode cX10_page 80 = .ok (.iconst 1, 1) := by decide +kernel
theorem dX10_page_81 : decode cX10_page 81 = .ok (.goto 4, 3) := by decide +kernel
theorem dX10_page_84 : decode cX10_page 84 = .ok (.iconst 0, 1) := by decide +kernel
theorem dX10_page_85 : decode cX10_page 85 = .ok (.ireturn, 1) := by decide +kernel
theorem dX10_page_86 : decode cX10_page 86 = .ok (.iconst (-1), 1) := by decide +kernel
theorem dX10_page_87 : decode cX10_page 87 = .ok (.ireturn, 1) := by decide +kernel
def f_X10_page (M : xm) (Lm : xn) (a1 : Int32) (a2 : Int32) : Option (Int32 × xm × xn) := (if (f_X10_isPage a1) = 0 then some ((-1 : Int32), M, Lm) else (if a2 = (0 : Int32) then if xin ((13 : Int32) + a1) 9878 = true then some ((M 1 (Int32.toNatClampNeg ((13 : Int32) + a1))), M, Lm) else none else (if a2 = (1 : Int32) then if xin ((21 : Int32) + a1) 9878 = true then some ((M 1 (Int32.toNatClampNeg ((21 : Int32) + a1))), M, Lm) else none else (if a2 = (2 : Int32) then xb1 (f_X10_liveOf M a1) (fun v9 => some (v9, M, Lm)) else (if a2 = (3 : Int32) then xb3 (f_X10_doesPick M Lm (M 1 1) a1) (fun v13 M14 L15 => (if v13 = 0 then some ((0 : Int32), M14, L15) else some ((1 : Int32), M14, L15))) else some ((-1 : Int32), M, Lm))))))
set_option maxHeartbeats 4000000 in
set_option maxRecDepth 20000 in
theorem c_X10_page (l : Launch) (E : xE) (b : Nat) (M : xm) (Lm : xn) (a1 : Int32) (a2 : Int32) {r : Int32} {M' : xm} {L' : xn} (hf : f_X10_page M Lm a1 a2 = some (r, M', L')) :
    xMet l E b NY yX10_page cX10_page 3 (some .int) (xR 8) [.ref (b + 0), .int a1, .int a2] (cY E b M Lm) (some (.int r)) True (cY E b M' L') := by
  refine xMet.ofW (own := RX10) (by decide) rfl (Nat.le_of_ble_eq_true rfl) ?_
  intro p e s m below meth c H locs ls C hm hl
  have hx := C.1.1
  have hb := C.1.2.1
  have hl : lv_has ls 3 [(0, .ref (b + 0)), (1, .int a1), (2, .int a2)] := hl
  unfold f_X10_page at hf
  refine lv_iload_n hx hb dX10_page_0 rfl (lv_at hl 1 rfl) ?_
  refine x_callSi (As := [.int a1]) (rest := []) C hm (c_X10_isPage l E b M Lm a1 rfl) tc_X10_isPage tm_RX10_445 tz_X10_isPage tn_RX10 td_X10_isPage rfl rfl ⟨Nat.le_of_ble_eq_true rfl, Nat.le_of_ble_eq_true rfl⟩ rfl hl.1 rfl (Nat.le_of_ble_eq_true rfl) ⟨Nat.zero_le _, Nat.zero_le _⟩ dX10_page_1 (fun H locs hP1 hm => ?_)
  refine lv_if_ne (tgt := 9) hx hb dX10_page_4 (by decide) (fun hc2 => ?_) (fun hc2 => ?_)
  rotate_left
  · have hf := xif_t hc2 hf
    refine lv_iconst (v := (-1 : Int32)) hx hb dX10_page_7 (by decide) ?_
    cases hf
    exact x_iret C hm trivial dX10_page_8
  have hf := xif_f hc2 hf
  refine lv_iload_n hx hb dX10_page_9 rfl (lv_at hl 2 rfl) ?_
  by_cases hs3 : a2 = (0 : Int32)
  · have hf := xif_t hs3 hf
    refine x_tabIn (tgt := 40) hx hb (0 : Int32) hs3 dX10_page_10 (by decide) (by decide) rfl (by decide) ?_
    refine lv_aload_n hx hb dX10_page_40 rfl (lv_at hl 0 rfl) ?_
    refine x_get C hm inX10 rfl 0 (by decide) tf_RX10_7 cy_0 rfl dX10_page_41 ?_
    refine lv_bipush (v := (13 : Int32)) hx hb dX10_page_44 (by decide) ?_
    refine lv_iload_n hx hb dX10_page_46 rfl (lv_at hl 1 rfl) ?_
    refine lv_iadd hx hb dX10_page_47 ?_
    obtain ⟨hi4, hf⟩ := xif_s hf
    refine x_iald (j := (Int32.toNatClampNeg ((13 : Int32) + a1))) C hm cy_1 hi4 dX10_page_48 rfl ?_
    cases hf
    exact x_iret C hm trivial dX10_page_49
  have hf := xif_f hs3 hf
  by_cases hs5 : a2 = (1 : Int32)
  · have hf := xif_t hs5 hf
    refine x_tabIn (tgt := 50) hx hb (1 : Int32) hs5 dX10_page_10 (by decide) (by decide) rfl (by decide) ?_
    refine lv_aload_n hx hb dX10_page_50 rfl (lv_at hl 0 rfl) ?_
    refine x_get C hm inX10 rfl 0 (by decide) tf_RX10_7 cy_0 rfl dX10_page_51 ?_
    refine lv_bipush (v := (21 : Int32)) hx hb dX10_page_54 (by decide) ?_
    refine lv_iload_n hx hb dX10_page_56 rfl (lv_at hl 1 rfl) ?_
    refine lv_iadd hx hb dX10_page_57 ?_
    obtain ⟨hi6, hf⟩ := xif_s hf
    refine x_iald (j := (Int32.toNatClampNeg ((21 : Int32) + a1))) C hm cy_1 hi6 dX10_page_58 rfl ?_
    cases hf
    exact x_iret C hm trivial dX10_page_59
  have hf := xif_f hs5 hf
  by_cases hs7 : a2 = (2 : Int32)
  · have hf := xif_t hs7 hf
    refine x_tabIn (tgt := 60) hx hb (2 : Int32) hs7 dX10_page_10 (by decide) (by decide) rfl (by decide) ?_
    refine lv_aload_n hx hb dX10_page_60 rfl (lv_at hl 0 rfl) ?_
    refine lv_iload_n hx hb dX10_page_61 rfl (lv_at hl 1 rfl) ?_
    obtain ⟨v9, hq8, hf⟩ := xb1_e hf
    refine x_callVi (As := [.int a1]) (rest := []) C hm (c_X10_liveOf l E b M Lm a1 hq8) rfl cy_0 tc_X10_liveOf tm_RX10_266 ti_X10_liveOf ts_X10_liveOf tn_RX10 td_X10_liveOf rfl rfl ⟨Nat.le_of_ble_eq_true rfl, Nat.le_of_ble_eq_true rfl⟩ rfl hl.1 rfl (Nat.le_of_ble_eq_true rfl) ⟨Nat.zero_le _, Nat.zero_le _⟩ dX10_page_62 (fun H locs hP10 hm => ?_)
    cases hf
    exact x_iret C hm trivial dX10_page_65
  have hf := xif_f hs7 hf
  by_cases hs11 : a2 = (3 : Int32)
  · have hf := xif_t hs11 hf
    refine x_tabIn (tgt := 66) hx hb (3 : Int32) hs11 dX10_page_10 (by decide) (by decide) rfl (by decide) ?_
    refine lv_aload_n hx hb dX10_page_66 rfl (lv_at hl 0 rfl) ?_
    refine lv_aload_n hx hb dX10_page_67 rfl (lv_at hl 0 rfl) ?_
    refine x_get C hm inX10 rfl 0 (by decide) tf_RX10_7 cy_0 rfl dX10_page_68 ?_
    refine lv_iconst (v := (1 : Int32)) hx hb dX10_page_71 (by decide) ?_
    refine x_iald (j := 1) C hm cy_1 (by decide) dX10_page_72 (by decide) ?_
    refine lv_iload_n hx hb dX10_page_73 rfl (lv_at hl 1 rfl) ?_
    obtain ⟨v13, M14, L15, hq12, hf⟩ := xb3_e hf
    refine x_callVi (As := [.int (M 1 1), .int a1]) (rest := []) C hm (c_X10_doesPick l E b M Lm (M 1 1) a1 hq12) rfl cy_0 tc_X10_doesPick tm_RX10_370 ti_X10_doesPick ts_X10_doesPick tn_RX10 td_X10_doesPick rfl rfl ⟨Nat.le_of_ble_eq_true rfl, Nat.le_of_ble_eq_true rfl⟩ rfl hl.1 rfl (Nat.le_of_ble_eq_true rfl) ⟨Nat.zero_le _, Nat.zero_le _⟩ dX10_page_74 (fun H locs hP16 hm => ?_)
    refine lv_if_eq (tgt := 84) hx hb dX10_page_77 (by decide) (fun hc17 => ?_) (fun hc17 => ?_)
    · have hf := xif_t hc17 hf
      refine lv_iconst (v := (0 : Int32)) hx hb dX10_page_84 (by decide) ?_
      cases hf
      exact x_iret C hm trivial dX10_page_85
    have hf := xif_f hc17 hf
    refine lv_iconst (v := (1 : Int32)) hx hb dX10_page_80 (by decide) ?_
    refine lv_goto (tgt := 85) hx hb dX10_page_81 (by decide) ?_
    cases hf
    exact x_iret C hm trivial dX10_page_85
  have hf := xif_f hs11 hf
  refine x_tabOut (tgt := 86) hx hb dX10_page_10 (by decide) (fun i hi => ?_) (by decide) ?_
  · match i, hi with
    | 0, _ => exact hs3
    | 1, _ => exact hs5
    | 2, _ => exact hs7
    | 3, _ => exact hs11
    | (i + 4), hi => exact absurd hi (by omega)
  refine lv_iconst (v := (-1 : Int32)) hx hb dX10_page_86 (by decide) ?_
  cases hf
  exact x_iret C hm trivial dX10_page_87
/-! ColouredHeapModel.played(I)I -/
theorem dX10_played_0 : decode cX10_played 0 = .ok (.iload_n 1, 1) := by decide +kernel
theorem dX10_played_1 : decode cX10_played 1 = .ok (.iconst 0, 1) := by decide +kernel
theorem dX10_played_2 : decode cX10_played 2 = .ok (.aload_n 0, 1) := by decide +kernel
theorem dX10_played_3 : decode cX10_played 3 = .ok (.getfield 7, 3) := by decide +kernel
theorem dX10_played_6 : decode cX10_played 6 = .ok (.iconst 0, 1) := by decide +kernel
theorem dX10_played_7 : decode cX10_played 7 = .ok (.iaload, 1) := by decide +kernel
theorem dX10_played_8 : decode cX10_played 8 = .ok (.iconst 1, 1) := by decide +kernel
theorem dX10_played_9 : decode cX10_played 9 = .ok (.isub, 1) := by decide +kernel
theorem dX10_played_10 : decode cX10_played 10 = .ok (.invokestatic 59, 3) := by decide +kernel
theorem dX10_played_13 : decode cX10_played 13 = .ok (.ifCond .ne 6, 3) := by decide +kernel
theorem dX10_played_16 : decode cX10_played 16 = .ok (.bipush (-2), 2) := by decide +kernel
theorem dX10_played_18 : decode cX10_played 18 = .ok (.ireturn, 1) := by decide +kernel
theorem dX10_played_19 : decode cX10_played 19 = .ok (.iconst 0, 1) := by decide +kernel
theorem dX10_played_20 : decode cX10_played 20 = .ok (.istore_n 2, 1) := by decide +kernel
theorem dX10_played_21 : decode cX10_played 21 = .ok (.iload_n 2, 1) := by decide +kernel
theorem dX10_played_22 : decode cX10_played 22 = .ok (.aload_n 0, 1) := by decide +kernel
theorem dX10_played_23 : decode cX10_played 23 = .ok (.getfield 16, 3) := by decide +kernel
theorem dX10_played_26 : decode cX10_played 26 = .ok (.sipush 705, 3) := by decide +kernel
theorem dX10_played_29 : decode cX10_played 29 = .ok (.iload_n 1, 1) := by decide +kernel
theorem dX10_played_30 : decode cX10_played 30 = .ok (.imul, 1) := by decide +kernel
theorem dX10_played_31 : decode cX10_played 31 = .ok (.iaload, 1) := by decide +kernel
theorem dX10_played_32 : decode cX10_played 32 = .ok (.if_icmp .ge 29, 3) := by decide +kernel
theorem dX10_played_35 : decode cX10_played 35 = .ok (.aload_n 0, 1) := by decide +kernel
theorem dX10_played_36 : decode cX10_played 36 = .ok (.sipush 705, 3) := by decide +kernel
theorem dX10_played_39 : decode cX10_played 39 = .ok (.iload_n 1, 1) := by decide +kernel
theorem dX10_played_40 : decode cX10_played 40 = .ok (.imul, 1) := by decide +kernel
theorem dX10_played_41 : decode cX10_played 41 = .ok (.iconst 1, 1) := by decide +kernel
theorem dX10_played_42 : decode cX10_played 42 = .ok (.iadd, 1) := by decide +kernel
theorem dX10_played_43 : decode cX10_played 43 = .ok (.iconst 4, 1) := by decide +kernel
theorem dX10_played_44 : decode cX10_played 44 = .ok (.iload_n 2, 1) := by decide +kernel
theorem dX10_played_45 : decode cX10_played 45 = .ok (.imul, 1) := by decide +kernel
theorem dX10_played_46 : decode cX10_played 46 = .ok (.iadd, 1) := by decide +kernel
theorem dX10_played_47 : decode cX10_played 47 = .ok (.invokevirtual 436, 3) := by decide +kernel
theorem dX10_played_50 : decode cX10_played 50 = .ok (.ifCond .ne 5, 3) := by decide +kernel
theorem dX10_played_53 : decode cX10_played 53 = .ok (.iload_n 2, 1) := by decide +kernel
theorem dX10_played_54 : decode cX10_played 54 = .ok (.ireturn, 1) := by decide +kernel
theorem dX10_played_55 : decode cX10_played 55 = .ok (.iinc 2 1, 3) := by decide +kernel
theorem dX10_played_58 : decode cX10_played 58 = .ok (.goto (-37), 3) := by decide +kernel
theorem dX10_played_61 : decode cX10_played 61 = .ok (.iconst (-1), 1) := by decide +kernel
theorem dX10_played_62 : decode cX10_played 62 = .ok (.ireturn, 1) := by decide +kernel
def g_X10_played_21 (x3 : Int32) : Nat → xm → xn → Int32 → Option ((Int32 × xm × xn) ⊕ (xm × xn))
  | 0, _, _, _ => none
  | n + 1, M5, L6, x4 => if xin ((705 : Int32) * x3) 2820 = true then (if (M5 3 (Int32.toNatClampNeg ((705 : Int32) * x3))) ≤ x4 then some (Sum.inr (M5, L6)) else xb3 (f_X10_isPlayed M5 L6 ((((705 : Int32) * x3) + (1 : Int32)) + ((4 : Int32) * x4))) (fun v10 M11 L12 => (if v10 = 0 then some (Sum.inl (x4, M11, L12)) else xlet (x4 + (1 : Int32)) (fun v15 => g_X10_played_21 x3 n M11 L12 v15)))) else none
def f_X10_played (M : xm) (Lm : xn) (a1 : Int32) : Option (Int32 × xm × xn) := (if (f_X10_isIn a1 (0 : Int32) ((M 1 0) - (1 : Int32))) = 0 then some ((-2 : Int32), M, Lm) else xs2 (g_X10_played_21 a1 xfuel M Lm (0 : Int32)) (fun q16 => some (q16.1, (q16.2.1), q16.2.2)) (fun q16 => some ((-1 : Int32), (q16.1), q16.2)))
set_option maxHeartbeats 4000000 in
set_option maxRecDepth 20000 in
theorem j_X10_played_21 {p : Program} {l : Launch} {e : Env} {s : State} {m : MethodId} {args : Array Value} {below : List Frame} {meth : Method} {c : Code} {Q : State → Prop} {E : xE} {b : Nat} (C : xC p s m args meth c cX10_played 3 RX10 (some .int) E b) (x3 : Int32) {r : (Int32 × xm × xn) ⊕ (xm × xn)}
    (kx0 : ∀ q : Int32 × xm × xn, r = Sum.inl q → ∀ (H : Heap) (locs : List Loc) (ls : Array Slot), xM E b NY (cY E b q.2.1 q.2.2) s.heap H locs → lv_has ls 3 [(2, .int q.1)] → W p l e (xR 12) s m args below meth c H locs 0 0 Q (F0 m 53 ls []))
    (kx1 : ∀ q : xm × xn, r = Sum.inr q → ∀ (H : Heap) (locs : List Loc) (ls : Array Slot), xM E b NY (cY E b q.1 q.2) s.heap H locs → lv_has ls 3 [] → W p l e (xR 12) s m args below meth c H locs 0 0 Q (F0 m 61 ls [])) :
    ∀ (n : Nat) (M5 : xm) (L6 : xn) (x4 : Int32) (H : Heap) (locs : List Loc) (ls : Array Slot), g_X10_played_21 x3 n M5 L6 x4 = some r → xM E b NY (cY E b M5 L6) s.heap H locs → lv_has ls 3 [(0, .ref (b + 0)), (1, .int x3), (2, .int x4)] → W p l e (xR 12) s m args below meth c H locs 0 0 Q (F0 m 21 ls []) := by
  have hx := C.1.1
  have hb := C.1.2.1
  intro n
  induction n with
  | zero =>
    intro M5 L6 x4 H locs ls hf hm hl
    rw [g_X10_played_21] at hf
    cases hf
  | succ n ih =>
    intro M5 L6 x4 H locs ls hf hm hl
    rw [g_X10_played_21] at hf
    refine lv_iload_n hx hb dX10_played_21 rfl (lv_at hl 2 rfl) ?_
    refine lv_aload_n hx hb dX10_played_22 rfl (lv_at hl 0 rfl) ?_
    refine x_get C hm inX10 rfl 2 (by decide) tf_RX10_16 cy_0 rfl dX10_played_23 ?_
    refine lv_sipush (v := (705 : Int32)) hx hb dX10_played_26 (by decide) ?_
    refine lv_iload_n hx hb dX10_played_29 rfl (lv_at hl 1 rfl) ?_
    refine lv_imul hx hb dX10_played_30 ?_
    obtain ⟨hi7, hf⟩ := xif_s hf
    refine x_iald (j := (Int32.toNatClampNeg ((705 : Int32) * x3))) C hm cy_3 hi7 dX10_played_31 rfl ?_
    refine lv_icmp_ge (tgt := 61) hx hb dX10_played_32 (by decide) (fun hc8 => ?_) (fun hc8 => ?_)
    · have hf := xif_t hc8 hf
      cases hf
      exact kx1 (M5, L6) rfl H locs ls hm (lv_sub hl [] rfl)
    have hf := xif_f hc8 hf
    refine lv_aload_n hx hb dX10_played_35 rfl (lv_at hl 0 rfl) ?_
    refine lv_sipush (v := (705 : Int32)) hx hb dX10_played_36 (by decide) ?_
    refine lv_iload_n hx hb dX10_played_39 rfl (lv_at hl 1 rfl) ?_
    refine lv_imul hx hb dX10_played_40 ?_
    refine lv_iconst (v := (1 : Int32)) hx hb dX10_played_41 (by decide) ?_
    refine lv_iadd hx hb dX10_played_42 ?_
    refine lv_iconst (v := (4 : Int32)) hx hb dX10_played_43 (by decide) ?_
    refine lv_iload_n hx hb dX10_played_44 rfl (lv_at hl 2 rfl) ?_
    refine lv_imul hx hb dX10_played_45 ?_
    refine lv_iadd hx hb dX10_played_46 ?_
    obtain ⟨v10, M11, L12, hq9, hf⟩ := xb3_e hf
    refine x_callVi (As := [.int ((((705 : Int32) * x3) + (1 : Int32)) + ((4 : Int32) * x4))]) (rest := []) C hm (c_X10_isPlayed l E b M5 L6 ((((705 : Int32) * x3) + (1 : Int32)) + ((4 : Int32) * x4)) hq9) rfl cy_0 tc_X10_isPlayed tm_RX10_436 ti_X10_isPlayed ts_X10_isPlayed tn_RX10 td_X10_isPlayed rfl rfl ⟨Nat.le_of_ble_eq_true rfl, Nat.le_of_ble_eq_true rfl⟩ rfl hl.1 rfl (Nat.le_of_ble_eq_true rfl) ⟨Nat.zero_le _, Nat.zero_le _⟩ dX10_played_47 (fun H locs hP13 hm => ?_)
    refine lv_if_ne (tgt := 55) hx hb dX10_played_50 (by decide) (fun hc14 => ?_) (fun hc14 => ?_)
    rotate_left
    · have hf := xif_t hc14 hf
      cases hf
      exact kx0 (x4, M11, L12) rfl H locs ls hm (lv_sub hl [2] rfl)
    have hf := xif_f hc14 hf
    obtain ⟨v15, ev15, hf⟩ := xlet_x hf
    refine lv_iinc (v := v15) (lv' := [(2, .int v15), (0, .ref (b + 0)), (1, .int x3)]) hx hb dX10_played_55 hl (k := 2) rfl (by rw [ev15]; rfl) (by decide) rfl (fun ls hl => ?_)
    refine lv_goto (tgt := 21) hx hb dX10_played_58 (by decide) ?_
    exact ih M11 L12 v15 H locs ls hf hm (lv_sub hl [1, 2, 0] rfl)
set_option maxHeartbeats 4000000 in
set_option maxRecDepth 20000 in
theorem c_X10_played (l : Launch) (E : xE) (b : Nat) (M : xm) (Lm : xn) (a1 : Int32) {r : Int32} {M' : xm} {L' : xn} (hf : f_X10_played M Lm a1 = some (r, M', L')) :
    xMet l E b NY yX10_played cX10_played 3 (some .int) (xR 12) [.ref (b + 0), .int a1] (cY E b M Lm) (some (.int r)) True (cY E b M' L') := by
  refine xMet.ofW (own := RX10) (by decide) rfl (Nat.le_of_ble_eq_true rfl) ?_
  intro p e s m below meth c H locs ls C hm hl
  have hx := C.1.1
  have hb := C.1.2.1
  have hl : lv_has ls 3 [(0, .ref (b + 0)), (1, .int a1)] := hl
  unfold f_X10_played at hf
  refine lv_iload_n hx hb dX10_played_0 rfl (lv_at hl 1 rfl) ?_
  refine lv_iconst (v := (0 : Int32)) hx hb dX10_played_1 (by decide) ?_
  refine lv_aload_n hx hb dX10_played_2 rfl (lv_at hl 0 rfl) ?_
  refine x_get C hm inX10 rfl 0 (by decide) tf_RX10_7 cy_0 rfl dX10_played_3 ?_
  refine lv_iconst (v := (0 : Int32)) hx hb dX10_played_6 (by decide) ?_
  refine x_iald (j := 0) C hm cy_1 (by decide) dX10_played_7 (by decide) ?_
  refine lv_iconst (v := (1 : Int32)) hx hb dX10_played_8 (by decide) ?_
  refine lv_isub hx hb dX10_played_9 ?_
  refine x_callSi (As := [.int a1, .int (0 : Int32), .int ((M 1 0) - (1 : Int32))]) (rest := []) C hm (c_X10_isIn l E b M Lm a1 (0 : Int32) ((M 1 0) - (1 : Int32)) rfl) tc_X10_isIn tm_RX10_59 tz_X10_isIn tn_RX10 td_X10_isIn rfl rfl ⟨Nat.le_of_ble_eq_true rfl, Nat.le_of_ble_eq_true rfl⟩ rfl hl.1 rfl (Nat.le_of_ble_eq_true rfl) ⟨Nat.zero_le _, Nat.zero_le _⟩ dX10_played_10 (fun H locs hP1 hm => ?_)
  refine lv_if_ne (tgt := 19) hx hb dX10_played_13 (by decide) (fun hc2 => ?_) (fun hc2 => ?_)
  rotate_left
  · have hf := xif_t hc2 hf
    refine lv_bipush (v := (-2 : Int32)) hx hb dX10_played_16 (by decide) ?_
    cases hf
    exact x_iret C hm trivial dX10_played_18
  have hf := xif_f hc2 hf
  refine lv_iconst (v := (0 : Int32)) hx hb dX10_played_19 (by decide) ?_
  refine lv_istore_n (lv' := [(2, .int (0 : Int32)), (0, .ref (b + 0)), (1, .int a1)]) hx hb dX10_played_20 rfl hl (by decide) rfl (fun ls hl => ?_)
  rcases xs2_e hf with ⟨q16, hq, hf⟩ | ⟨q16, hq, hf⟩
  · refine j_X10_played_21 C a1 (r := Sum.inl q16) (fun q2 hr H locs ls hm hl => ?_) (fun q2 hr => by cases hr) xfuel M Lm (0 : Int32) H locs ls hq hm (lv_sub hl [1, 2, 0] rfl)
    cases hr
    refine lv_iload_n hx hb dX10_played_53 rfl (lv_at hl 0 rfl) ?_
    cases hf
    exact x_iret C hm trivial dX10_played_54
  · refine j_X10_played_21 C a1 (r := Sum.inr q16) (fun q2 hr => by cases hr) (fun q2 hr H locs ls hm hl => ?_) xfuel M Lm (0 : Int32) H locs ls hq hm (lv_sub hl [1, 2, 0] rfl)
    cases hr
    refine lv_iconst (v := (-1 : Int32)) hx hb dX10_played_61 (by decide) ?_
    cases hf
    exact x_iret C hm trivial dX10_played_62
/-! ColouredHeapModel.poorest()I -/
theorem dX10_poorest_0 : decode cX10_poorest 0 = .ok (.iconst (-1), 1) := by decide +kernel
theorem dX10_poorest_1 : decode cX10_poorest 1 = .ok (.istore_n 1, 1) := by decide +kernel
theorem dX10_poorest_2 : decode cX10_poorest 2 = .ok (.iconst 0, 1) := by decide +kernel
theorem dX10_poorest_3 : decode cX10_poorest 3 = .ok (.istore_n 2, 1) := by decide +kernel
theorem dX10_poorest_4 : decode cX10_poorest 4 = .ok (.iload_n 2, 1) := by decide +kernel
theorem dX10_poorest_5 : decode cX10_poorest 5 = .ok (.bipush 8, 2) := by decide +kernel
theorem dX10_poorest_7 : decode cX10_poorest 7 = .ok (.if_icmp .ge 42, 3) := by decide +kernel
theorem dX10_poorest_10 : decode cX10_poorest 10 = .ok (.aload_n 0, 1) := by decide +kernel
theorem dX10_poorest_11 : decode cX10_poorest 11 = .ok (.getfield 7, 3) := by decide +kernel
theorem dX10_poorest_14 : decode cX10_poorest 14 = .ok (.bipush 13, 2) := by decide +kernel
theorem dX10_poorest_16 : decode cX10_poorest 16 = .ok (.iload_n 2, 1) := by decide +kernel
theorem dX10_poorest_17 : decode cX10_poorest 17 = .ok (.iadd, 1) := by decide +kernel
theorem dX10_poorest_18 : decode cX10_poorest 18 = .ok (.iaload, 1) := by decide +kernel
theorem dX10_poorest_19 : decode cX10_poorest 19 = .ok (.iconst 1, 1) := by decide +kernel
theorem dX10_poorest_20 : decode cX10_poorest 20 = .ok (.if_icmp .ne 23, 3) := by decide +kernel
theorem dX10_poorest_23 : decode cX10_poorest 23 = .ok (.iload_n 1, 1) := by decide +kernel
theorem dX10_poorest_24 : decode cX10_poorest 24 = .ok (.iconst (-1), 1) := by decide +kernel
theorem dX10_poorest_25 : decode cX10_poorest 25 = .ok (.if_icmp .eq 16, 3) := by decide +kernel
theorem dX10_poorest_28 : decode cX10_poorest 28 = .ok (.aload_n 0, 1) := by decide +kernel
theorem dX10_poorest_29 : decode cX10_poorest 29 = .ok (.iload_n 2, 1) := by decide +kernel
theorem dX10_poorest_30 : decode cX10_poorest 30 = .ok (.invokevirtual 266, 3) := by decide +kernel
theorem dX10_poorest_33 : decode cX10_poorest 33 = .ok (.aload_n 0, 1) := by decide +kernel
theorem dX10_poorest_34 : decode cX10_poorest 34 = .ok (.iload_n 1, 1) := by decide +kernel
theorem dX10_poorest_35 : decode cX10_poorest 35 = .ok (.invokevirtual 266, 3) := by decide +kernel
theorem dX10_poorest_38 : decode cX10_poorest 38 = .ok (.if_icmp .ge 5, 3) := by decide +kernel
theorem dX10_poorest_41 : decode cX10_poorest 41 = .ok (.iload_n 2, 1) := by decide +kernel
theorem dX10_poorest_42 : decode cX10_poorest 42 = .ok (.istore_n 1, 1) := by decide +kernel
theorem dX10_poorest_43 : decode cX10_poorest 43 = .ok (.iinc 2 1, 3) := by decide +kernel
theorem dX10_poorest_46 : decode cX10_poorest 46 = .ok (.goto (-42), 3) := by decide +kernel
theorem dX10_poorest_49 : decode cX10_poorest 49 = .ok (.iload_n 1, 1) := by decide +kernel
theorem dX10_poorest_50 : decode cX10_poorest 50 = .ok (.ireturn, 1) := by decide +kernel
def g_X10_poorest_4 (M : xm) : Nat → Int32 → Int32 → Option ((Int32))
  | 0, _, _ => none
  | n + 1, x1, x2 => (if (8 : Int32) ≤ x2 then some (x1) else if xin ((13 : Int32) + x2) 9878 = true then (if (M 1 (Int32.toNatClampNeg ((13 : Int32) + x2))) = (1 : Int32) then (if x1 = (-1 : Int32) then xlet (x2 + (1 : Int32)) (fun v9 => g_X10_poorest_4 M n x2 v9) else xb1 (f_X10_liveOf M x2) (fun v11 => xb1 (f_X10_liveOf M x1) (fun v14 => (if v14 ≤ v11 then xlet (x2 + (1 : Int32)) (fun v17 => g_X10_poorest_4 M n x1 v17) else xlet (x2 + (1 : Int32)) (fun v18 => g_X10_poorest_4 M n x2 v18))))) else xlet (x2 + (1 : Int32)) (fun v7 => g_X10_poorest_4 M n x1 v7)) else none)
def f_X10_poorest (M : xm) : Option (Int32) := xb1 (g_X10_poorest_4 M xfuel (-1 : Int32) (0 : Int32)) (fun v19 => some v19)
set_option maxHeartbeats 4000000 in
set_option maxRecDepth 20000 in
theorem j_X10_poorest_4 {p : Program} {l : Launch} {e : Env} {s : State} {m : MethodId} {args : Array Value} {below : List Frame} {meth : Method} {c : Code} {Q : State → Prop} {E : xE} {b : Nat} (C : xC p s m args meth c cX10_poorest 3 RX10 (some .int) E b) (M : xm) {Lm : xn} {y3 : Int32}
    (kx0 : ∀ (H : Heap) (locs : List Loc) (ls : Array Slot), xM E b NY (cY E b M Lm) s.heap H locs → lv_has ls 3 [(1, .int y3)] → W p l e (xR 5) s m args below meth c H locs 0 0 Q (F0 m 49 ls [])) :
    ∀ (n : Nat) (x1 : Int32) (x2 : Int32) (H : Heap) (locs : List Loc) (ls : Array Slot), g_X10_poorest_4 M n x1 x2 = some y3 → xM E b NY (cY E b M Lm) s.heap H locs → lv_has ls 3 [(0, .ref (b + 0)), (1, .int x1), (2, .int x2)] → W p l e (xR 5) s m args below meth c H locs 0 0 Q (F0 m 4 ls []) := by
  have hx := C.1.1
  have hb := C.1.2.1
  intro n
  induction n with
  | zero =>
    intro x1 x2 H locs ls hf hm hl
    rw [g_X10_poorest_4] at hf
    cases hf
  | succ n ih =>
    intro x1 x2 H locs ls hf hm hl
    rw [g_X10_poorest_4] at hf
    refine lv_iload_n hx hb dX10_poorest_4 rfl (lv_at hl 2 rfl) ?_
    refine lv_bipush (v := (8 : Int32)) hx hb dX10_poorest_5 (by decide) ?_
    refine lv_icmp_ge (tgt := 49) hx hb dX10_poorest_7 (by decide) (fun hc4 => ?_) (fun hc4 => ?_)
    · have hf := xif_t hc4 hf
      cases hf
      exact kx0 H locs ls hm (lv_sub hl [1] rfl)
    have hf := xif_f hc4 hf
    refine lv_aload_n hx hb dX10_poorest_10 rfl (lv_at hl 0 rfl) ?_
    refine x_get C hm inX10 rfl 0 (by decide) tf_RX10_7 cy_0 rfl dX10_poorest_11 ?_
    refine lv_bipush (v := (13 : Int32)) hx hb dX10_poorest_14 (by decide) ?_
    refine lv_iload_n hx hb dX10_poorest_16 rfl (lv_at hl 2 rfl) ?_
    refine lv_iadd hx hb dX10_poorest_17 ?_
    obtain ⟨hi5, hf⟩ := xif_s hf
    refine x_iald (j := (Int32.toNatClampNeg ((13 : Int32) + x2))) C hm cy_1 hi5 dX10_poorest_18 rfl ?_
    refine lv_iconst (v := (1 : Int32)) hx hb dX10_poorest_19 (by decide) ?_
    refine lv_icmp_ne (tgt := 43) hx hb dX10_poorest_20 (by decide) (fun hc6 => ?_) (fun hc6 => ?_)
    · have hf := xif_f hc6 hf
      obtain ⟨v7, ev7, hf⟩ := xlet_x hf
      refine lv_iinc (v := v7) (lv' := [(2, .int v7), (0, .ref (b + 0)), (1, .int x1)]) hx hb dX10_poorest_43 hl (k := 2) rfl (by rw [ev7]; rfl) (by decide) rfl (fun ls hl => ?_)
      refine lv_goto (tgt := 4) hx hb dX10_poorest_46 (by decide) ?_
      exact ih x1 v7 H locs ls hf hm (lv_sub hl [1, 2, 0] rfl)
    have hf := xif_t hc6 hf
    refine lv_iload_n hx hb dX10_poorest_23 rfl (lv_at hl 1 rfl) ?_
    refine lv_iconst (v := (-1 : Int32)) hx hb dX10_poorest_24 (by decide) ?_
    refine lv_icmp_eq (tgt := 41) hx hb dX10_poorest_25 (by decide) (fun hc8 => ?_) (fun hc8 => ?_)
    · have hf := xif_t hc8 hf
      refine lv_iload_n hx hb dX10_poorest_41 rfl (lv_at hl 2 rfl) ?_
      refine lv_istore_n (lv' := [(1, .int x2), (0, .ref (b + 0)), (2, .int x2)]) hx hb dX10_poorest_42 rfl hl (by decide) rfl (fun ls hl => ?_)
      obtain ⟨v9, ev9, hf⟩ := xlet_x hf
      refine lv_iinc (v := v9) (lv' := [(2, .int v9), (1, .int x2), (0, .ref (b + 0))]) hx hb dX10_poorest_43 hl (k := 2) rfl (by rw [ev9]; rfl) (by decide) rfl (fun ls hl => ?_)
      refine lv_goto (tgt := 4) hx hb dX10_poorest_46 (by decide) ?_
      exact ih x2 v9 H locs ls hf hm (lv_sub hl [2, 1, 0] rfl)
    have hf := xif_f hc8 hf
    refine lv_aload_n hx hb dX10_poorest_28 rfl (lv_at hl 0 rfl) ?_
    refine lv_iload_n hx hb dX10_poorest_29 rfl (lv_at hl 2 rfl) ?_
    obtain ⟨v11, hq10, hf⟩ := xb1_e hf
    refine x_callVi (As := [.int x2]) (rest := []) C hm (c_X10_liveOf l E b M Lm x2 hq10) rfl cy_0 tc_X10_liveOf tm_RX10_266 ti_X10_liveOf ts_X10_liveOf tn_RX10 td_X10_liveOf rfl rfl ⟨Nat.le_of_ble_eq_true rfl, Nat.le_of_ble_eq_true rfl⟩ rfl hl.1 rfl (Nat.le_of_ble_eq_true rfl) ⟨Nat.zero_le _, Nat.zero_le _⟩ dX10_poorest_30 (fun H locs hP12 hm => ?_)
    refine lv_aload_n hx hb dX10_poorest_33 rfl (lv_at hl 0 rfl) ?_
    refine lv_iload_n hx hb dX10_poorest_34 rfl (lv_at hl 1 rfl) ?_
    obtain ⟨v14, hq13, hf⟩ := xb1_e hf
    refine x_callVi (As := [.int x1]) (rest := [.int v11]) C hm (c_X10_liveOf l E b M Lm x1 hq13) rfl cy_0 tc_X10_liveOf tm_RX10_266 ti_X10_liveOf ts_X10_liveOf tn_RX10 td_X10_liveOf rfl rfl ⟨Nat.le_of_ble_eq_true rfl, Nat.le_of_ble_eq_true rfl⟩ rfl hl.1 rfl (Nat.le_of_ble_eq_true rfl) ⟨Nat.zero_le _, Nat.zero_le _⟩ dX10_poorest_35 (fun H locs hP15 hm => ?_)
    refine lv_icmp_ge (tgt := 43) hx hb dX10_poorest_38 (by decide) (fun hc16 => ?_) (fun hc16 => ?_)
    · have hf := xif_t hc16 hf
      obtain ⟨v17, ev17, hf⟩ := xlet_x hf
      refine lv_iinc (v := v17) (lv' := [(2, .int v17), (0, .ref (b + 0)), (1, .int x1)]) hx hb dX10_poorest_43 hl (k := 2) rfl (by rw [ev17]; rfl) (by decide) rfl (fun ls hl => ?_)
      refine lv_goto (tgt := 4) hx hb dX10_poorest_46 (by decide) ?_
      exact ih x1 v17 H locs ls hf hm (lv_sub hl [1, 2, 0] rfl)
    have hf := xif_f hc16 hf
    refine lv_iload_n hx hb dX10_poorest_41 rfl (lv_at hl 2 rfl) ?_
    refine lv_istore_n (lv' := [(1, .int x2), (0, .ref (b + 0)), (2, .int x2)]) hx hb dX10_poorest_42 rfl hl (by decide) rfl (fun ls hl => ?_)
    obtain ⟨v18, ev18, hf⟩ := xlet_x hf
    refine lv_iinc (v := v18) (lv' := [(2, .int v18), (1, .int x2), (0, .ref (b + 0))]) hx hb dX10_poorest_43 hl (k := 2) rfl (by rw [ev18]; rfl) (by decide) rfl (fun ls hl => ?_)
    refine lv_goto (tgt := 4) hx hb dX10_poorest_46 (by decide) ?_
    exact ih x2 v18 H locs ls hf hm (lv_sub hl [2, 1, 0] rfl)
set_option maxHeartbeats 4000000 in
set_option maxRecDepth 20000 in
theorem c_X10_poorest (l : Launch) (E : xE) (b : Nat) (M : xm) (Lm : xn) {r : Int32} (hf : f_X10_poorest M = some r) :
    xMet l E b NY yX10_poorest cX10_poorest 3 (some .int) (xR 5) [.ref (b + 0)] (cY E b M Lm) (some (.int r)) True (cY E b M Lm) := by
  refine xMet.ofW (own := RX10) (by decide) rfl (Nat.le_of_ble_eq_true rfl) ?_
  intro p e s m below meth c H locs ls C hm hl
  have hx := C.1.1
  have hb := C.1.2.1
  have hl : lv_has ls 3 [(0, .ref (b + 0))] := hl
  unfold f_X10_poorest at hf
  refine lv_iconst (v := (-1 : Int32)) hx hb dX10_poorest_0 (by decide) ?_
  refine lv_istore_n (lv' := [(1, .int (-1 : Int32)), (0, .ref (b + 0))]) hx hb dX10_poorest_1 rfl hl (by decide) rfl (fun ls hl => ?_)
  refine lv_iconst (v := (0 : Int32)) hx hb dX10_poorest_2 (by decide) ?_
  refine lv_istore_n (lv' := [(2, .int (0 : Int32)), (1, .int (-1 : Int32)), (0, .ref (b + 0))]) hx hb dX10_poorest_3 rfl hl (by decide) rfl (fun ls hl => ?_)
  obtain ⟨v19, hq, hf⟩ := xb1_e hf
  refine j_X10_poorest_4 C M (fun H locs ls hm hl => ?_) xfuel (-1 : Int32) (0 : Int32) H locs ls hq hm (lv_sub hl [2, 1, 0] rfl)
  refine lv_iload_n hx hb dX10_poorest_49 rfl (lv_at hl 0 rfl) ?_
  cases hf
  exact x_iret C hm trivial dX10_poorest_50
/-! ColouredHeapModel.reachedWords(I)I -/
theorem dX10_reachedWords_0 : decode cX10_reachedWords 0 = .ok (.aload_n 0, 1) := by decide +kernel
theorem dX10_reachedWords_1 : decode cX10_reachedWords 1 = .ok (.iload_n 1, 1) := by decide +kernel
theorem dX10_reachedWords_2 : decode cX10_reachedWords 2 = .ok (.invokevirtual 461, 3) := by decide +kernel
theorem dX10_reachedWords_5 : decode cX10_reachedWords 5 = .ok (.iconst 0, 1) := by decide +kernel
theorem dX10_reachedWords_6 : decode cX10_reachedWords 6 = .ok (.istore_n 2, 1) := by decide +kernel
theorem dX10_reachedWords_7 : decode cX10_reachedWords 7 = .ok (.iconst 0, 1) := by decide +kernel
theorem dX10_reachedWords_8 : decode cX10_reachedWords 8 = .ok (.istore_n 3, 1) := by decide +kernel
theorem dX10_reachedWords_9 : decode cX10_reachedWords 9 = .ok (.iload_n 3, 1) := by decide +kernel
theorem dX10_reachedWords_10 : decode cX10_reachedWords 10 = .ok (.bipush 64, 2) := by decide +kernel
theorem dX10_reachedWords_12 : decode cX10_reachedWords 12 = .ok (.if_icmp .ge 31, 3) := by decide +kernel
theorem dX10_reachedWords_15 : decode cX10_reachedWords 15 = .ok (.iload_n 2, 1) := by decide +kernel
theorem dX10_reachedWords_16 : decode cX10_reachedWords 16 = .ok (.aload_n 0, 1) := by decide +kernel
theorem dX10_reachedWords_17 : decode cX10_reachedWords 17 = .ok (.getfield 46, 3) := by decide +kernel
theorem dX10_reachedWords_20 : decode cX10_reachedWords 20 = .ok (.iload_n 3, 1) := by decide +kernel
theorem dX10_reachedWords_21 : decode cX10_reachedWords 21 = .ok (.iaload, 1) := by decide +kernel
theorem dX10_reachedWords_22 : decode cX10_reachedWords 22 = .ok (.iconst (-1), 1) := by decide +kernel
theorem dX10_reachedWords_23 : decode cX10_reachedWords 23 = .ok (.if_icmp .eq 11, 3) := by decide +kernel
theorem dX10_reachedWords_26 : decode cX10_reachedWords 26 = .ok (.aload_n 0, 1) := by decide +kernel
theorem dX10_reachedWords_27 : decode cX10_reachedWords 27 = .ok (.iload_n 3, 1) := by decide +kernel
theorem dX10_reachedWords_28 : decode cX10_reachedWords 28 = .ok (.invokevirtual 80, 3) := by decide +kernel
theorem dX10_reachedWords_31 : decode cX10_reachedWords 31 = .ok (.goto 4, 3) := by decide +kernel
theorem dX10_reachedWords_34 : decode cX10_reachedWords 34 = .ok (.iconst 0, 1) := by decide +kernel
theorem dX10_reachedWords_35 : decode cX10_reachedWords 35 = .ok (.iadd, 1) := by decide +kernel
theorem dX10_reachedWords_36 : decode cX10_reachedWords 36 = .ok (.istore_n 2, 1) := by decide +kernel
theorem dX10_reachedWords_37 : decode cX10_reachedWords 37 = .ok (.iinc 3 1, 3) := by decide +kernel
theorem dX10_reachedWords_40 : decode cX10_reachedWords 40 = .ok (.goto (-31), 3) := by decide +kernel
theorem dX10_reachedWords_43 : decode cX10_reachedWords 43 = .ok (.iload_n 2, 1) := by decide +kernel
theorem dX10_reachedWords_44 : decode cX10_reachedWords 44 = .ok (.ireturn, 1) := by decide +kernel
def g_X10_reachedWords_9 (M : xm) : Nat → Int32 → Int32 → Option ((Int32))
  | 0, _, _ => none
  | n + 1, x4, x5 => (if (64 : Int32) ≤ x5 then some (x4) else if xin x5 64 = true then (if (M 10 (Int32.toNatClampNeg x5)) = (-1 : Int32) then xlet (x4 + (0 : Int32)) (fun v10 => xlet (x5 + (1 : Int32)) (fun v11 => g_X10_reachedWords_9 M n v10 v11)) else xb1 (f_X10_sizeOf M x5) (fun v13 => xlet (x4 + v13) (fun v15 => xlet (x5 + (1 : Int32)) (fun v16 => g_X10_reachedWords_9 M n v15 v16)))) else none)
def f_X10_reachedWords (M : xm) (a1 : Int32) : Option (Int32 × xm) := xb1 (f_X10_layLoads M a1) (fun M2 => xb1 (g_X10_reachedWords_9 M2 xfuel (0 : Int32) (0 : Int32)) (fun v17 => some (v17, M2)))
set_option maxHeartbeats 4000000 in
set_option maxRecDepth 20000 in
theorem j_X10_reachedWords_9 {p : Program} {l : Launch} {e : Env} {s : State} {m : MethodId} {args : Array Value} {below : List Frame} {meth : Method} {c : Code} {Q : State → Prop} {E : xE} {b : Nat} (C : xC p s m args meth c cX10_reachedWords 4 RX10 (some .int) E b) (M : xm) {Lm : xn} {y6 : Int32}
    (kx0 : ∀ (H : Heap) (locs : List Loc) (ls : Array Slot), xM E b NY (cY E b M Lm) s.heap H locs → lv_has ls 4 [(2, .int y6)] → W p l e (xR 6) s m args below meth c H locs 0 0 Q (F0 m 43 ls [])) :
    ∀ (n : Nat) (x4 : Int32) (x5 : Int32) (H : Heap) (locs : List Loc) (ls : Array Slot), g_X10_reachedWords_9 M n x4 x5 = some y6 → xM E b NY (cY E b M Lm) s.heap H locs → lv_has ls 4 [(0, .ref (b + 0)), (2, .int x4), (3, .int x5)] → W p l e (xR 6) s m args below meth c H locs 0 0 Q (F0 m 9 ls []) := by
  have hx := C.1.1
  have hb := C.1.2.1
  intro n
  induction n with
  | zero =>
    intro x4 x5 H locs ls hf hm hl
    rw [g_X10_reachedWords_9] at hf
    cases hf
  | succ n ih =>
    intro x4 x5 H locs ls hf hm hl
    rw [g_X10_reachedWords_9] at hf
    refine lv_iload_n hx hb dX10_reachedWords_9 rfl (lv_at hl 2 rfl) ?_
    refine lv_bipush (v := (64 : Int32)) hx hb dX10_reachedWords_10 (by decide) ?_
    refine lv_icmp_ge (tgt := 43) hx hb dX10_reachedWords_12 (by decide) (fun hc7 => ?_) (fun hc7 => ?_)
    · have hf := xif_t hc7 hf
      cases hf
      exact kx0 H locs ls hm (lv_sub hl [1] rfl)
    have hf := xif_f hc7 hf
    refine lv_iload_n hx hb dX10_reachedWords_15 rfl (lv_at hl 1 rfl) ?_
    refine lv_aload_n hx hb dX10_reachedWords_16 rfl (lv_at hl 0 rfl) ?_
    refine x_get C hm inX10 rfl 24 (by decide) tf_RX10_46 cy_0 rfl dX10_reachedWords_17 ?_
    refine lv_iload_n hx hb dX10_reachedWords_20 rfl (lv_at hl 2 rfl) ?_
    obtain ⟨hi8, hf⟩ := xif_s hf
    refine x_iald (j := (Int32.toNatClampNeg x5)) C hm cy_10 hi8 dX10_reachedWords_21 rfl ?_
    refine lv_iconst (v := (-1 : Int32)) hx hb dX10_reachedWords_22 (by decide) ?_
    refine lv_icmp_eq (tgt := 34) hx hb dX10_reachedWords_23 (by decide) (fun hc9 => ?_) (fun hc9 => ?_)
    · have hf := xif_t hc9 hf
      refine lv_iconst (v := (0 : Int32)) hx hb dX10_reachedWords_34 (by decide) ?_
      refine lv_iadd hx hb dX10_reachedWords_35 ?_
      refine lv_topi (fun v10 ev10 => ?_)
      have hf := xlet_e ev10 hf
      refine lv_istore_n (lv' := [(2, .int v10), (0, .ref (b + 0)), (3, .int x5)]) hx hb dX10_reachedWords_36 rfl hl (by decide) rfl (fun ls hl => ?_)
      obtain ⟨v11, ev11, hf⟩ := xlet_x hf
      refine lv_iinc (v := v11) (lv' := [(3, .int v11), (2, .int v10), (0, .ref (b + 0))]) hx hb dX10_reachedWords_37 hl (k := 2) rfl (by rw [ev11]; rfl) (by decide) rfl (fun ls hl => ?_)
      refine lv_goto (tgt := 9) hx hb dX10_reachedWords_40 (by decide) ?_
      exact ih v10 v11 H locs ls hf hm (lv_sub hl [2, 1, 0] rfl)
    have hf := xif_f hc9 hf
    refine lv_aload_n hx hb dX10_reachedWords_26 rfl (lv_at hl 0 rfl) ?_
    refine lv_iload_n hx hb dX10_reachedWords_27 rfl (lv_at hl 2 rfl) ?_
    obtain ⟨v13, hq12, hf⟩ := xb1_e hf
    refine x_callVi (As := [.int x5]) (rest := [.int x4]) C hm (c_X10_sizeOf l E b M Lm x5 hq12) rfl cy_0 tc_X10_sizeOf tm_RX10_80 ti_X10_sizeOf ts_X10_sizeOf tn_RX10 td_X10_sizeOf rfl rfl ⟨Nat.le_of_ble_eq_true rfl, Nat.le_of_ble_eq_true rfl⟩ rfl hl.1 rfl (Nat.le_of_ble_eq_true rfl) ⟨Nat.zero_le _, Nat.zero_le _⟩ dX10_reachedWords_28 (fun H locs hP14 hm => ?_)
    refine lv_goto (tgt := 35) hx hb dX10_reachedWords_31 (by decide) ?_
    refine lv_iadd hx hb dX10_reachedWords_35 ?_
    refine lv_topi (fun v15 ev15 => ?_)
    have hf := xlet_e ev15 hf
    refine lv_istore_n (lv' := [(2, .int v15), (0, .ref (b + 0)), (3, .int x5)]) hx hb dX10_reachedWords_36 rfl hl (by decide) rfl (fun ls hl => ?_)
    obtain ⟨v16, ev16, hf⟩ := xlet_x hf
    refine lv_iinc (v := v16) (lv' := [(3, .int v16), (2, .int v15), (0, .ref (b + 0))]) hx hb dX10_reachedWords_37 hl (k := 2) rfl (by rw [ev16]; rfl) (by decide) rfl (fun ls hl => ?_)
    refine lv_goto (tgt := 9) hx hb dX10_reachedWords_40 (by decide) ?_
    exact ih v15 v16 H locs ls hf hm (lv_sub hl [2, 1, 0] rfl)
set_option maxHeartbeats 4000000 in
set_option maxRecDepth 20000 in
theorem c_X10_reachedWords (l : Launch) (E : xE) (b : Nat) (M : xm) (Lm : xn) (a1 : Int32) {r : Int32} {M' : xm} (hf : f_X10_reachedWords M a1 = some (r, M')) :
    xMet l E b NY yX10_reachedWords cX10_reachedWords 4 (some .int) (xR 6) [.ref (b + 0), .int a1] (cY E b M Lm) (some (.int r)) True (cY E b M' Lm) := by
  refine xMet.ofW (own := RX10) (by decide) rfl (Nat.le_of_ble_eq_true rfl) ?_
  intro p e s m below meth c H locs ls C hm hl
  have hx := C.1.1
  have hb := C.1.2.1
  have hl : lv_has ls 4 [(0, .ref (b + 0)), (1, .int a1)] := hl
  unfold f_X10_reachedWords at hf
  refine lv_aload_n hx hb dX10_reachedWords_0 rfl (lv_at hl 0 rfl) ?_
  refine lv_iload_n hx hb dX10_reachedWords_1 rfl (lv_at hl 1 rfl) ?_
  obtain ⟨M2, hq1, hf⟩ := xb1_e hf
  refine x_callVv (As := [.int a1]) (rest := []) C hm (c_X10_layLoads l E b M Lm a1 hq1) rfl cy_0 tc_X10_layLoads tm_RX10_461 ti_X10_layLoads ts_X10_layLoads tn_RX10 td_X10_layLoads rfl rfl ⟨Nat.le_of_ble_eq_true rfl, Nat.le_of_ble_eq_true rfl⟩ rfl hl.1 rfl (Nat.le_of_ble_eq_true rfl) ⟨Nat.zero_le _, Nat.zero_le _⟩ dX10_reachedWords_2 (fun H locs hP3 hm => ?_)
  refine lv_iconst (v := (0 : Int32)) hx hb dX10_reachedWords_5 (by decide) ?_
  refine lv_istore_n (lv' := [(2, .int (0 : Int32)), (0, .ref (b + 0)), (1, .int a1)]) hx hb dX10_reachedWords_6 rfl hl (by decide) rfl (fun ls hl => ?_)
  refine lv_iconst (v := (0 : Int32)) hx hb dX10_reachedWords_7 (by decide) ?_
  refine lv_istore_n (lv' := [(3, .int (0 : Int32)), (2, .int (0 : Int32)), (0, .ref (b + 0)), (1, .int a1)]) hx hb dX10_reachedWords_8 rfl hl (by decide) rfl (fun ls hl => ?_)
  obtain ⟨v17, hq, hf⟩ := xb1_e hf
  refine j_X10_reachedWords_9 C M2 (fun H locs ls hm hl => ?_) xfuel (0 : Int32) (0 : Int32) H locs ls hq hm (lv_sub hl [2, 1, 0] rfl)
  refine lv_iload_n hx hb dX10_reachedWords_43 rfl (lv_at hl 0 rfl) ?_
  cases hf
  exact x_iret C hm trivial dX10_reachedWords_44
/-! ColouredHeapModel.reach(Z)I -/
theorem dX10_reach_0 : decode cX10_reach 0 = .ok (.aload_n 0, 1) := by decide +kernel
theorem dX10_reach_1 : decode cX10_reach 1 = .ok (.iconst (-1), 1) := by decide +kernel
theorem dX10_reach_2 : decode cX10_reach 2 = .ok (.invokevirtual 467, 3) := by decide +kernel
theorem dX10_reach_5 : decode cX10_reach 5 = .ok (.istore_n 2, 1) := by decide +kernel
theorem dX10_reach_6 : decode cX10_reach 6 = .ok (.iconst 0, 1) := by decide +kernel
theorem dX10_reach_7 : decode cX10_reach 7 = .ok (.istore_n 3, 1) := by decide +kernel
theorem dX10_reach_8 : decode cX10_reach 8 = .ok (.iconst 0, 1) := by decide +kernel
theorem dX10_reach_9 : decode cX10_reach 9 = .ok (.istore 4, 2) := by decide +kernel
theorem dX10_reach_11 : decode cX10_reach 11 = .ok (.iload 4, 2) := by decide +kernel
theorem dX10_reach_13 : decode cX10_reach 13 = .ok (.bipush 64, 2) := by decide +kernel
theorem dX10_reach_15 : decode cX10_reach 15 = .ok (.if_icmp .ge 28, 3) := by decide +kernel
theorem dX10_reach_18 : decode cX10_reach 18 = .ok (.iload_n 3, 1) := by decide +kernel
theorem dX10_reach_19 : decode cX10_reach 19 = .ok (.aload_n 0, 1) := by decide +kernel
theorem dX10_reach_20 : decode cX10_reach 20 = .ok (.getfield 46, 3) := by decide +kernel
theorem dX10_reach_23 : decode cX10_reach 23 = .ok (.iload 4, 2) := by decide +kernel
theorem dX10_reach_25 : decode cX10_reach 25 = .ok (.iaload, 1) := by decide +kernel
theorem dX10_reach_26 : decode cX10_reach 26 = .ok (.iconst (-1), 1) := by decide +kernel
theorem dX10_reach_27 : decode cX10_reach 27 = .ok (.if_icmp .eq 7, 3) := by decide +kernel
theorem dX10_reach_30 : decode cX10_reach 30 = .ok (.iconst 1, 1) := by decide +kernel
theorem dX10_reach_31 : decode cX10_reach 31 = .ok (.goto 4, 3) := by decide +kernel
theorem dX10_reach_34 : decode cX10_reach 34 = .ok (.iconst 0, 1) := by decide +kernel
theorem dX10_reach_35 : decode cX10_reach 35 = .ok (.iadd, 1) := by decide +kernel
theorem dX10_reach_36 : decode cX10_reach 36 = .ok (.istore_n 3, 1) := by decide +kernel
theorem dX10_reach_37 : decode cX10_reach 37 = .ok (.iinc 4 1, 3) := by decide +kernel
theorem dX10_reach_40 : decode cX10_reach 40 = .ok (.goto (-29), 3) := by decide +kernel
theorem dX10_reach_43 : decode cX10_reach 43 = .ok (.iload_n 1, 1) := by decide +kernel
theorem dX10_reach_44 : decode cX10_reach 44 = .ok (.ifCond .eq 7, 3) := by decide +kernel
theorem dX10_reach_47 : decode cX10_reach 47 = .ok (.iload_n 2, 1) := by decide +kernel
theorem dX10_reach_48 : decode cX10_reach 48 = .ok (.goto 4, 3) := by decide +kernel
theorem dX10_reach_51 : decode cX10_reach 51 = .ok (.iload_n 3, 1) := by decide +kernel
theorem dX10_reach_52 : decode cX10_reach 52 = .ok (.ireturn, 1) := by decide +kernel
def g_X10_reach_11 (M : xm) (x5 : Int32) (x6 : Int32) : Nat → Int32 → Int32 → Option ((Int32))
  | 0, _, _ => none
  | n + 1, x7, x8 => (if (64 : Int32) ≤ x8 then some (x7) else if xin x8 64 = true then (if (M 10 (Int32.toNatClampNeg x8)) = (-1 : Int32) then xlet (x7 + (0 : Int32)) (fun v13 => xlet (x8 + (1 : Int32)) (fun v14 => g_X10_reach_11 M x5 x6 n v13 v14)) else xlet (x7 + (1 : Int32)) (fun v15 => xlet (x8 + (1 : Int32)) (fun v16 => g_X10_reach_11 M x5 x6 n v15 v16))) else none)
def f_X10_reach (M : xm) (a1 : Int32) : Option (Int32 × xm) := xb2 (f_X10_reachedWords M (-1 : Int32)) (fun v2 M3 => xb1 (g_X10_reach_11 M3 a1 v2 xfuel (0 : Int32) (0 : Int32)) (fun v17 => (if a1 = 0 then some (v17, M3) else some (v2, M3))))
set_option maxHeartbeats 4000000 in
set_option maxRecDepth 20000 in
theorem j_X10_reach_11 {p : Program} {l : Launch} {e : Env} {s : State} {m : MethodId} {args : Array Value} {below : List Frame} {meth : Method} {c : Code} {Q : State → Prop} {E : xE} {b : Nat} (C : xC p s m args meth c cX10_reach 5 RX10 (some .int) E b) (M : xm) {Lm : xn} (x5 : Int32) (x6 : Int32) {y9 : Int32}
    (kx0 : ∀ (H : Heap) (locs : List Loc) (ls : Array Slot), xM E b NY (cY E b M Lm) s.heap H locs → lv_has ls 5 [(1, .int x5), (2, .int x6), (3, .int y9)] → W p l e (xR 7) s m args below meth c H locs 0 0 Q (F0 m 43 ls [])) :
    ∀ (n : Nat) (x7 : Int32) (x8 : Int32) (H : Heap) (locs : List Loc) (ls : Array Slot), g_X10_reach_11 M x5 x6 n x7 x8 = some y9 → xM E b NY (cY E b M Lm) s.heap H locs → lv_has ls 5 [(0, .ref (b + 0)), (1, .int x5), (2, .int x6), (3, .int x7), (4, .int x8)] → W p l e (xR 7) s m args below meth c H locs 0 0 Q (F0 m 11 ls []) := by
  have hx := C.1.1
  have hb := C.1.2.1
  intro n
  induction n with
  | zero =>
    intro x7 x8 H locs ls hf hm hl
    rw [g_X10_reach_11] at hf
    cases hf
  | succ n ih =>
    intro x7 x8 H locs ls hf hm hl
    rw [g_X10_reach_11] at hf
    refine lv_iload hx hb dX10_reach_11 (lv_at hl 4 rfl) ?_
    refine lv_bipush (v := (64 : Int32)) hx hb dX10_reach_13 (by decide) ?_
    refine lv_icmp_ge (tgt := 43) hx hb dX10_reach_15 (by decide) (fun hc10 => ?_) (fun hc10 => ?_)
    · have hf := xif_t hc10 hf
      cases hf
      exact kx0 H locs ls hm (lv_sub hl [1, 2, 3] rfl)
    have hf := xif_f hc10 hf
    refine lv_iload_n hx hb dX10_reach_18 rfl (lv_at hl 3 rfl) ?_
    refine lv_aload_n hx hb dX10_reach_19 rfl (lv_at hl 0 rfl) ?_
    refine x_get C hm inX10 rfl 24 (by decide) tf_RX10_46 cy_0 rfl dX10_reach_20 ?_
    refine lv_iload hx hb dX10_reach_23 (lv_at hl 4 rfl) ?_
    obtain ⟨hi11, hf⟩ := xif_s hf
    refine x_iald (j := (Int32.toNatClampNeg x8)) C hm cy_10 hi11 dX10_reach_25 rfl ?_
    refine lv_iconst (v := (-1 : Int32)) hx hb dX10_reach_26 (by decide) ?_
    refine lv_icmp_eq (tgt := 34) hx hb dX10_reach_27 (by decide) (fun hc12 => ?_) (fun hc12 => ?_)
    · have hf := xif_t hc12 hf
      refine lv_iconst (v := (0 : Int32)) hx hb dX10_reach_34 (by decide) ?_
      refine lv_iadd hx hb dX10_reach_35 ?_
      refine lv_topi (fun v13 ev13 => ?_)
      have hf := xlet_e ev13 hf
      refine lv_istore_n (lv' := [(3, .int v13), (0, .ref (b + 0)), (1, .int x5), (2, .int x6), (4, .int x8)]) hx hb dX10_reach_36 rfl hl (by decide) rfl (fun ls hl => ?_)
      obtain ⟨v14, ev14, hf⟩ := xlet_x hf
      refine lv_iinc (v := v14) (lv' := [(4, .int v14), (3, .int v13), (0, .ref (b + 0)), (1, .int x5), (2, .int x6)]) hx hb dX10_reach_37 hl (k := 4) rfl (by rw [ev14]; rfl) (by decide) rfl (fun ls hl => ?_)
      refine lv_goto (tgt := 11) hx hb dX10_reach_40 (by decide) ?_
      exact ih v13 v14 H locs ls hf hm (lv_sub hl [2, 3, 4, 1, 0] rfl)
    have hf := xif_f hc12 hf
    refine lv_iconst (v := (1 : Int32)) hx hb dX10_reach_30 (by decide) ?_
    refine lv_goto (tgt := 35) hx hb dX10_reach_31 (by decide) ?_
    refine lv_iadd hx hb dX10_reach_35 ?_
    refine lv_topi (fun v15 ev15 => ?_)
    have hf := xlet_e ev15 hf
    refine lv_istore_n (lv' := [(3, .int v15), (0, .ref (b + 0)), (1, .int x5), (2, .int x6), (4, .int x8)]) hx hb dX10_reach_36 rfl hl (by decide) rfl (fun ls hl => ?_)
    obtain ⟨v16, ev16, hf⟩ := xlet_x hf
    refine lv_iinc (v := v16) (lv' := [(4, .int v16), (3, .int v15), (0, .ref (b + 0)), (1, .int x5), (2, .int x6)]) hx hb dX10_reach_37 hl (k := 4) rfl (by rw [ev16]; rfl) (by decide) rfl (fun ls hl => ?_)
    refine lv_goto (tgt := 11) hx hb dX10_reach_40 (by decide) ?_
    exact ih v15 v16 H locs ls hf hm (lv_sub hl [2, 3, 4, 1, 0] rfl)
set_option maxHeartbeats 4000000 in
set_option maxRecDepth 20000 in
theorem c_X10_reach (l : Launch) (E : xE) (b : Nat) (M : xm) (Lm : xn) (a1 : Int32) {r : Int32} {M' : xm} (hf : f_X10_reach M a1 = some (r, M')) :
    xMet l E b NY yX10_reach cX10_reach 5 (some .int) (xR 7) [.ref (b + 0), .int a1] (cY E b M Lm) (some (.int r)) True (cY E b M' Lm) := by
  refine xMet.ofW (own := RX10) (by decide) rfl (Nat.le_of_ble_eq_true rfl) ?_
  intro p e s m below meth c H locs ls C hm hl
  have hx := C.1.1
  have hb := C.1.2.1
  have hl : lv_has ls 5 [(0, .ref (b + 0)), (1, .int a1)] := hl
  unfold f_X10_reach at hf
  refine lv_aload_n hx hb dX10_reach_0 rfl (lv_at hl 0 rfl) ?_
  refine lv_iconst (v := (-1 : Int32)) hx hb dX10_reach_1 (by decide) ?_
  obtain ⟨v2, M3, hq1, hf⟩ := xb2_e hf
  refine x_callVi (As := [.int (-1 : Int32)]) (rest := []) C hm (c_X10_reachedWords l E b M Lm (-1 : Int32) hq1) rfl cy_0 tc_X10_reachedWords tm_RX10_467 ti_X10_reachedWords ts_X10_reachedWords tn_RX10 td_X10_reachedWords rfl rfl ⟨Nat.le_of_ble_eq_true rfl, Nat.le_of_ble_eq_true rfl⟩ rfl hl.1 rfl (Nat.le_of_ble_eq_true rfl) ⟨Nat.zero_le _, Nat.zero_le _⟩ dX10_reach_2 (fun H locs hP4 hm => ?_)
  refine lv_istore_n (lv' := [(2, .int v2), (0, .ref (b + 0)), (1, .int a1)]) hx hb dX10_reach_5 rfl hl (by decide) rfl (fun ls hl => ?_)
  refine lv_iconst (v := (0 : Int32)) hx hb dX10_reach_6 (by decide) ?_
  refine lv_istore_n (lv' := [(3, .int (0 : Int32)), (2, .int v2), (0, .ref (b + 0)), (1, .int a1)]) hx hb dX10_reach_7 rfl hl (by decide) rfl (fun ls hl => ?_)
  refine lv_iconst (v := (0 : Int32)) hx hb dX10_reach_8 (by decide) ?_
  refine lv_istore (lv' := [(4, .int (0 : Int32)), (3, .int (0 : Int32)), (2, .int v2), (0, .ref (b + 0)), (1, .int a1)]) hx hb dX10_reach_9 hl (by decide) rfl (fun ls hl => ?_)
  obtain ⟨v17, hq, hf⟩ := xb1_e hf
  refine j_X10_reach_11 C M3 a1 v2 (fun H locs ls hm hl => ?_) xfuel (0 : Int32) (0 : Int32) H locs ls hq hm (lv_sub hl [3, 4, 2, 1, 0] rfl)
  refine lv_iload_n hx hb dX10_reach_43 rfl (lv_at hl 0 rfl) ?_
  refine lv_if_eq (tgt := 51) hx hb dX10_reach_44 (by decide) (fun hc18 => ?_) (fun hc18 => ?_)
  · have hf := xif_t hc18 hf
    refine lv_iload_n hx hb dX10_reach_51 rfl (lv_at hl 2 rfl) ?_
    cases hf
    exact x_iret C hm trivial dX10_reach_52
  have hf := xif_f hc18 hf
  refine lv_iload_n hx hb dX10_reach_47 rfl (lv_at hl 1 rfl) ?_
  refine lv_goto (tgt := 52) hx hb dX10_reach_48 (by decide) ?_
  cases hf
  exact x_iret C hm trivial dX10_reach_52
/-! ColouredHeapModel.reached(I)Z -/
theorem dX10_reached_0 : decode cX10_reached 0 = .ok (.aload_n 0, 1) := by decide +kernel
theorem dX10_reached_1 : decode cX10_reached 1 = .ok (.iload_n 1, 1) := by decide +kernel
theorem dX10_reached_2 : decode cX10_reached 2 = .ok (.invokevirtual 464, 3) := by decide +kernel
theorem dX10_reached_5 : decode cX10_reached 5 = .ok (.ireturn, 1) := by decide +kernel
def f_X10_reached (M : xm) (a1 : Int32) : Option (Int32 × xm) := xb2 (f_X10_isReached M a1) (fun v2 M3 => some (v2, M3))
set_option maxHeartbeats 4000000 in
set_option maxRecDepth 20000 in
theorem c_X10_reached (l : Launch) (E : xE) (b : Nat) (M : xm) (Lm : xn) (a1 : Int32) {r : Int32} {M' : xm} (hf : f_X10_reached M a1 = some (r, M')) :
    xMet l E b NY yX10_reached cX10_reached 2 (some .boolean) (xR 7) [.ref (b + 0), .int a1] (cY E b M Lm) (some (.int r)) (xbo r = true) (cY E b M' Lm) := by
  refine xMet.ofW (own := RX10) (by decide) rfl (Nat.le_of_ble_eq_true rfl) ?_
  intro p e s m below meth c H locs ls C hm hl
  have hx := C.1.1
  have hb := C.1.2.1
  have hl : lv_has ls 2 [(0, .ref (b + 0)), (1, .int a1)] := hl
  unfold f_X10_reached at hf
  refine lv_aload_n hx hb dX10_reached_0 rfl (lv_at hl 0 rfl) ?_
  refine lv_iload_n hx hb dX10_reached_1 rfl (lv_at hl 1 rfl) ?_
  obtain ⟨v2, M3, hq1, hf⟩ := xb2_e hf
  refine x_callVi (As := [.int a1]) (rest := []) C hm (c_X10_isReached l E b M Lm a1 hq1) rfl cy_0 tc_X10_isReached tm_RX10_464 ti_X10_isReached ts_X10_isReached tn_RX10 td_X10_isReached rfl rfl ⟨Nat.le_of_ble_eq_true rfl, Nat.le_of_ble_eq_true rfl⟩ rfl hl.1 rfl (Nat.le_of_ble_eq_true rfl) ⟨Nat.zero_le _, Nat.zero_le _⟩ dX10_reached_2 (fun H locs hP4 hm => ?_)
  cases hf
  exact x_zret C hm hP4 hP4 dX10_reached_5
/-! ColouredHeapModel.readText()I -/
theorem dX10_readText_0 : decode cX10_readText 0 = .ok (.aload_n 0, 1) := by decide +kernel
theorem dX10_readText_1 : decode cX10_readText 1 = .ok (.sipush 705, 3) := by decide +kernel
theorem dX10_readText_4 : decode cX10_readText 4 = .ok (.aload_n 0, 1) := by decide +kernel
theorem dX10_readText_5 : decode cX10_readText 5 = .ok (.getfield 7, 3) := by decide +kernel
theorem dX10_readText_8 : decode cX10_readText 8 = .ok (.iconst 0, 1) := by decide +kernel
theorem dX10_readText_9 : decode cX10_readText 9 = .ok (.iaload, 1) := by decide +kernel
theorem dX10_readText_10 : decode cX10_readText 10 = .ok (.imul, 1) := by decide +kernel
theorem dX10_readText_11 : decode cX10_readText 11 = .ok (.putfield 137, 3) := by decide +kernel
theorem dX10_readText_14 : decode cX10_readText 14 = .ok (.aload_n 0, 1) := by decide +kernel
theorem dX10_readText_15 : decode cX10_readText 15 = .ok (.getfield 16, 3) := by decide +kernel
theorem dX10_readText_18 : decode cX10_readText 18 = .ok (.aload_n 0, 1) := by decide +kernel
theorem dX10_readText_19 : decode cX10_readText 19 = .ok (.getfield 137, 3) := by decide +kernel
theorem dX10_readText_22 : decode cX10_readText 22 = .ok (.iconst 0, 1) := by decide +kernel
theorem dX10_readText_23 : decode cX10_readText 23 = .ok (.iastore, 1) := by decide +kernel
theorem dX10_readText_24 : decode cX10_readText 24 = .ok (.aload_n 0, 1) := by decide +kernel
theorem dX10_readText_25 : decode cX10_readText 25 = .ok (.iconst 0, 1) := by decide +kernel
theorem dX10_readText_26 : decode cX10_readText 26 = .ok (.putfield 140, 3) := by decide +kernel
theorem dX10_readText_29 : decode cX10_readText 29 = .ok (.aload_n 0, 1) := by decide +kernel
theorem dX10_readText_30 : decode cX10_readText 30 = .ok (.iconst 0, 1) := by decide +kernel
theorem dX10_readText_31 : decode cX10_readText 31 = .ok (.putfield 239, 3) := by decide +kernel
theorem dX10_readText_34 : decode cX10_readText 34 = .ok (.aload_n 0, 1) := by decide +kernel
theorem dX10_readText_35 : decode cX10_readText 35 = .ok (.iconst 0, 1) := by decide +kernel
theorem dX10_readText_36 : decode cX10_readText 36 = .ok (.putfield 90, 3) := by decide +kernel
theorem dX10_readText_39 : decode cX10_readText 39 = .ok (.aload_n 0, 1) := by decide +kernel
theorem dX10_readText_40 : decode cX10_readText 40 = .ok (.invokevirtual 170, 3) := by decide +kernel
theorem dX10_readText_43 : decode cX10_readText 43 = .ok (.aload_n 0, 1) := by decide +kernel
theorem dX10_readText_44 : decode cX10_readText 44 = .ok (.getfield 99, 3) := by decide +kernel
theorem dX10_readText_47 : decode cX10_readText 47 = .ok (.ifCond .eq 17, 3) := by decide +kernel
theorem dX10_readText_50 : decode cX10_readText 50 = .ok (.aload_n 0, 1) := by decide +kernel
theorem dX10_readText_51 : decode cX10_readText 51 = .ok (.invokevirtual 250, 3) := by decide +kernel
theorem dX10_readText_54 : decode cX10_readText 54 = .ok (.istore_n 1, 1) := by decide +kernel
theorem dX10_readText_55 : decode cX10_readText 55 = .ok (.iload_n 1, 1) := by decide +kernel
theorem dX10_readText_56 : decode cX10_readText 56 = .ok (.ifCond .eq 5, 3) := by decide +kernel
theorem dX10_readText_59 : decode cX10_readText 59 = .ok (.iload_n 1, 1) := by decide +kernel
theorem dX10_readText_60 : decode cX10_readText 60 = .ok (.ireturn, 1) := by decide +kernel
theorem dX10_readText_61 : decode cX10_readText 61 = .ok (.goto (-18), 3) := by decide +kernel
theorem dX10_readText_64 : decode cX10_readText 64 = .ok (.iconst 0, 1) := by decide +kernel
theorem dX10_readText_65 : decode cX10_readText 65 = .ok (.ireturn, 1) := by decide +kernel
def g_X10_readText_43  : Nat → xm → xn → Option ((Int32 × xm × xn) ⊕ (xm × xn))
  | 0, _, _ => none
  | n + 1, M11, L12 => (if (M11 0 9) = 0 then some (Sum.inr (M11, L12)) else xb3 (f_X10_clause M11 L12) (fun v15 M16 L17 => (if v15 = 0 then g_X10_readText_43 n M16 L17 else some (Sum.inl (v15, M16, L17)))))
def f_X10_readText (M : xm) (Lm : xn) : Option (Int32 × xm × xn) := xlet (up2 M 0 12 ((705 : Int32) * (M 1 0))) (fun M1 => if xin (M1 0 12) 2820 = true then xlet (up2 M1 3 (Int32.toNatClampNeg (M1 0 12)) (0 : Int32)) (fun M3 => xlet (up2 M3 0 13 (0 : Int32)) (fun M4 => xlet (up2 M4 0 19 (0 : Int32)) (fun M5 => xlet (up2 M5 0 7 (0 : Int32)) (fun M6 => xb2 (f_X10_nextToken M6 Lm) (fun M8 L9 => xs2 (g_X10_readText_43 xfuel M8 L9) (fun q20 => some (q20.1, (q20.2.1), q20.2.2)) (fun q20 => some ((0 : Int32), (q20.1), q20.2))))))) else none)
set_option maxHeartbeats 4000000 in
set_option maxRecDepth 20000 in
theorem j_X10_readText_43 {p : Program} {l : Launch} {e : Env} {s : State} {m : MethodId} {args : Array Value} {below : List Frame} {meth : Method} {c : Code} {Q : State → Prop} {E : xE} {b : Nat} (C : xC p s m args meth c cX10_readText 2 RX10 (some .int) E b)  {r : (Int32 × xm × xn) ⊕ (xm × xn)}
    (kx0 : ∀ q : Int32 × xm × xn, r = Sum.inl q → ∀ (H : Heap) (locs : List Loc) (ls : Array Slot), xM E b NY (cY E b q.2.1 q.2.2) s.heap H locs → lv_has ls 2 [(1, .int q.1)] → W p l e (xR 12) s m args below meth c H locs 0 0 Q (F0 m 59 ls []))
    (kx1 : ∀ q : xm × xn, r = Sum.inr q → ∀ (H : Heap) (locs : List Loc) (ls : Array Slot), xM E b NY (cY E b q.1 q.2) s.heap H locs → lv_has ls 2 [] → W p l e (xR 12) s m args below meth c H locs 0 0 Q (F0 m 64 ls [])) :
    ∀ (n : Nat) (M11 : xm) (L12 : xn) (H : Heap) (locs : List Loc) (ls : Array Slot), g_X10_readText_43 n M11 L12 = some r → xM E b NY (cY E b M11 L12) s.heap H locs → lv_has ls 2 [(0, .ref (b + 0))] → W p l e (xR 12) s m args below meth c H locs 0 0 Q (F0 m 43 ls []) := by
  have hx := C.1.1
  have hb := C.1.2.1
  intro n
  induction n with
  | zero =>
    intro M11 L12 H locs ls hf hm hl
    rw [g_X10_readText_43] at hf
    cases hf
  | succ n ih =>
    intro M11 L12 H locs ls hf hm hl
    rw [g_X10_readText_43] at hf
    refine lv_aload_n hx hb dX10_readText_43 rfl (lv_at hl 0 rfl) ?_
    refine x_get C hm inX10 rfl 9 (by decide) tf_RX10_99 cy_0 rfl dX10_readText_44 ?_
    refine lv_if_eq (tgt := 64) hx hb dX10_readText_47 (by decide) (fun hc13 => ?_) (fun hc13 => ?_)
    · have hf := xif_t hc13 hf
      cases hf
      exact kx1 (M11, L12) rfl H locs ls hm (lv_sub hl [] rfl)
    have hf := xif_f hc13 hf
    refine lv_aload_n hx hb dX10_readText_50 rfl (lv_at hl 0 rfl) ?_
    obtain ⟨v15, M16, L17, hq14, hf⟩ := xb3_e hf
    refine x_callVi (As := []) (rest := []) C hm (c_X10_clause l E b M11 L12 hq14) rfl cy_0 tc_X10_clause tm_RX10_250 ti_X10_clause ts_X10_clause tn_RX10 td_X10_clause rfl rfl ⟨Nat.le_of_ble_eq_true rfl, Nat.le_of_ble_eq_true rfl⟩ rfl hl.1 rfl (Nat.le_of_ble_eq_true rfl) ⟨Nat.zero_le _, Nat.zero_le _⟩ dX10_readText_51 (fun H locs hP18 hm => ?_)
    refine lv_istore_n (lv' := [(1, .int v15), (0, .ref (b + 0))]) hx hb dX10_readText_54 rfl hl (by decide) rfl (fun ls hl => ?_)
    refine lv_iload_n hx hb dX10_readText_55 rfl (lv_at hl 0 rfl) ?_
    refine lv_if_eq (tgt := 61) hx hb dX10_readText_56 (by decide) (fun hc19 => ?_) (fun hc19 => ?_)
    · have hf := xif_t hc19 hf
      refine lv_goto (tgt := 43) hx hb dX10_readText_61 (by decide) ?_
      exact ih M16 L17 H locs ls hf hm (lv_sub hl [1] rfl)
    have hf := xif_f hc19 hf
    cases hf
    exact kx0 (v15, M16, L17) rfl H locs ls hm (lv_sub hl [0] rfl)
set_option maxHeartbeats 4000000 in
set_option maxRecDepth 20000 in
theorem c_X10_readText (l : Launch) (E : xE) (b : Nat) (M : xm) (Lm : xn) {r : Int32} {M' : xm} {L' : xn} (hf : f_X10_readText M Lm = some (r, M', L')) :
    xMet l E b NY yX10_readText cX10_readText 2 (some .int) (xR 12) [.ref (b + 0)] (cY E b M Lm) (some (.int r)) True (cY E b M' L') := by
  refine xMet.ofW (own := RX10) (by decide) rfl (Nat.le_of_ble_eq_true rfl) ?_
  intro p e s m below meth c H locs ls C hm hl
  have hx := C.1.1
  have hb := C.1.2.1
  have hl : lv_has ls 2 [(0, .ref (b + 0))] := hl
  unfold f_X10_readText at hf
  refine lv_aload_n hx hb dX10_readText_0 rfl (lv_at hl 0 rfl) ?_
  refine lv_sipush (v := (705 : Int32)) hx hb dX10_readText_1 (by decide) ?_
  refine lv_aload_n hx hb dX10_readText_4 rfl (lv_at hl 0 rfl) ?_
  refine x_get C hm inX10 rfl 0 (by decide) tf_RX10_7 cy_0 rfl dX10_readText_5 ?_
  refine lv_iconst (v := (0 : Int32)) hx hb dX10_readText_8 (by decide) ?_
  refine x_iald (j := 0) C hm cy_1 (by decide) dX10_readText_9 (by decide) ?_
  refine lv_imul hx hb dX10_readText_10 ?_
  obtain ⟨M1, eM1, hf⟩ := xlet_x hf
  refine x_put (cf' := cY E b M1 Lm) C hm inX10 tyX10 tyX10_ok nmX10 rfl 12 (by decide) tf_RX10_137 rfl rfl rfl cy_0 (Nat.le_of_ble_eq_true rfl) (by rw [eM1]; exact cyf_12) (by rw [eM1]; exact cY_o) dX10_readText_11 (fun H locs hm => ?_)
  refine lv_aload_n hx hb dX10_readText_14 rfl (lv_at hl 0 rfl) ?_
  refine x_get C hm inX10 rfl 2 (by decide) tf_RX10_16 cy_0 rfl dX10_readText_15 ?_
  refine lv_aload_n hx hb dX10_readText_18 rfl (lv_at hl 0 rfl) ?_
  refine x_get C hm inX10 rfl 12 (by decide) tf_RX10_137 cy_0 rfl dX10_readText_19 ?_
  refine lv_iconst (v := (0 : Int32)) hx hb dX10_readText_22 (by decide) ?_
  obtain ⟨hi2, hf⟩ := xif_s hf
  obtain ⟨M3, eM3, hf⟩ := xlet_x hf
  refine x_iast (j := (Int32.toNatClampNeg (M1 0 12))) (cf' := cY E b M3 Lm) C hm cy_3 hi2 dX10_readText_23 rfl (by rw [eM3]; exact cyu_3) (by rw [eM3]; exact cY_o) (fun H locs hm => ?_)
  refine lv_aload_n hx hb dX10_readText_24 rfl (lv_at hl 0 rfl) ?_
  refine lv_iconst (v := (0 : Int32)) hx hb dX10_readText_25 (by decide) ?_
  obtain ⟨M4, eM4, hf⟩ := xlet_x hf
  refine x_put (cf' := cY E b M4 Lm) C hm inX10 tyX10 tyX10_ok nmX10 rfl 13 (by decide) tf_RX10_140 rfl rfl rfl cy_0 (Nat.le_of_ble_eq_true rfl) (by rw [eM4]; exact cyf_13) (by rw [eM4]; exact cY_o) dX10_readText_26 (fun H locs hm => ?_)
  refine lv_aload_n hx hb dX10_readText_29 rfl (lv_at hl 0 rfl) ?_
  refine lv_iconst (v := (0 : Int32)) hx hb dX10_readText_30 (by decide) ?_
  obtain ⟨M5, eM5, hf⟩ := xlet_x hf
  refine x_put (cf' := cY E b M5 Lm) C hm inX10 tyX10 tyX10_ok nmX10 rfl 19 (by decide) tf_RX10_239 rfl rfl rfl cy_0 (Nat.le_of_ble_eq_true rfl) (by rw [eM5]; exact cyf_19) (by rw [eM5]; exact cY_o) dX10_readText_31 (fun H locs hm => ?_)
  refine lv_aload_n hx hb dX10_readText_34 rfl (lv_at hl 0 rfl) ?_
  refine lv_iconst (v := (0 : Int32)) hx hb dX10_readText_35 (by decide) ?_
  obtain ⟨M6, eM6, hf⟩ := xlet_x hf
  refine x_put (cf' := cY E b M6 Lm) C hm inX10 tyX10 tyX10_ok nmX10 rfl 7 (by decide) tf_RX10_90 rfl rfl rfl cy_0 (Nat.le_of_ble_eq_true rfl) (by rw [eM6]; exact cyf_7) (by rw [eM6]; exact cY_o) dX10_readText_36 (fun H locs hm => ?_)
  refine lv_aload_n hx hb dX10_readText_39 rfl (lv_at hl 0 rfl) ?_
  obtain ⟨M8, L9, hq7, hf⟩ := xb2_e hf
  refine x_callVv (As := []) (rest := []) C hm (c_X10_nextToken l E b M6 Lm hq7) rfl cy_0 tc_X10_nextToken tm_RX10_170 ti_X10_nextToken ts_X10_nextToken tn_RX10 td_X10_nextToken rfl rfl ⟨Nat.le_of_ble_eq_true rfl, Nat.le_of_ble_eq_true rfl⟩ rfl hl.1 rfl (Nat.le_of_ble_eq_true rfl) ⟨Nat.zero_le _, Nat.zero_le _⟩ dX10_readText_40 (fun H locs hP10 hm => ?_)
  rcases xs2_e hf with ⟨q20, hq, hf⟩ | ⟨q20, hq, hf⟩
  · refine j_X10_readText_43 C (r := Sum.inl q20) (fun q2 hr H locs ls hm hl => ?_) (fun q2 hr => by cases hr) xfuel M8 L9 H locs ls hq hm (lv_sub hl [0] rfl)
    cases hr
    refine lv_iload_n hx hb dX10_readText_59 rfl (lv_at hl 0 rfl) ?_
    cases hf
    exact x_iret C hm trivial dX10_readText_60
  · refine j_X10_readText_43 C (r := Sum.inr q20) (fun q2 hr => by cases hr) (fun q2 hr H locs ls hm hl => ?_) xfuel M8 L9 H locs ls hq hm (lv_sub hl [0] rfl)
    cases hr
    refine lv_iconst (v := (0 : Int32)) hx hb dX10_readText_64 (by decide) ?_
    cases hf
    exact x_iret C hm trivial dX10_readText_65
/-! ColouredHeapModel.retained(I)I -/
theorem dX10_retained_0 : decode cX10_retained 0 = .ok (.aload_n 0, 1) := by decide +kernel
theorem dX10_retained_1 : decode cX10_retained 1 = .ok (.iload_n 1, 1) := by decide +kernel
theorem dX10_retained_2 : decode cX10_retained 2 = .ok (.invokevirtual 464, 3) := by decide +kernel
theorem dX10_retained_5 : decode cX10_retained 5 = .ok (.ifCond .eq 17, 3) := by decide +kernel
theorem dX10_retained_8 : decode cX10_retained 8 = .ok (.aload_n 0, 1) := by decide +kernel
theorem dX10_retained_9 : decode cX10_retained 9 = .ok (.iconst (-1), 1) := by decide +kernel
theorem dX10_retained_10 : decode cX10_retained 10 = .ok (.invokevirtual 467, 3) := by decide +kernel
theorem dX10_retained_13 : decode cX10_retained 13 = .ok (.aload_n 0, 1) := by decide +kernel
theorem dX10_retained_14 : decode cX10_retained 14 = .ok (.iload_n 1, 1) := by decide +kernel
theorem dX10_retained_15 : decode cX10_retained 15 = .ok (.invokevirtual 467, 3) := by decide +kernel
theorem dX10_retained_18 : decode cX10_retained 18 = .ok (.isub, 1) := by decide +kernel
theorem dX10_retained_19 : decode cX10_retained 19 = .ok (.goto 4, 3) := by decide +kernel
theorem dX10_retained_22 : decode cX10_retained 22 = .ok (.iconst (-1), 1) := by decide +kernel
theorem dX10_retained_23 : decode cX10_retained 23 = .ok (.ireturn, 1) := by decide +kernel
def f_X10_retained (M : xm) (a1 : Int32) : Option (Int32 × xm) := xb2 (f_X10_isReached M a1) (fun v2 M3 => (if v2 = 0 then some ((-1 : Int32), M3) else xb2 (f_X10_reachedWords M3 (-1 : Int32)) (fun v7 M8 => xb2 (f_X10_reachedWords M8 a1) (fun v11 M12 => some ((v7 - v11), M12)))))
set_option maxHeartbeats 4000000 in
set_option maxRecDepth 20000 in
theorem c_X10_retained (l : Launch) (E : xE) (b : Nat) (M : xm) (Lm : xn) (a1 : Int32) {r : Int32} {M' : xm} (hf : f_X10_retained M a1 = some (r, M')) :
    xMet l E b NY yX10_retained cX10_retained 2 (some .int) (xR 7) [.ref (b + 0), .int a1] (cY E b M Lm) (some (.int r)) True (cY E b M' Lm) := by
  refine xMet.ofW (own := RX10) (by decide) rfl (Nat.le_of_ble_eq_true rfl) ?_
  intro p e s m below meth c H locs ls C hm hl
  have hx := C.1.1
  have hb := C.1.2.1
  have hl : lv_has ls 2 [(0, .ref (b + 0)), (1, .int a1)] := hl
  unfold f_X10_retained at hf
  refine lv_aload_n hx hb dX10_retained_0 rfl (lv_at hl 0 rfl) ?_
  refine lv_iload_n hx hb dX10_retained_1 rfl (lv_at hl 1 rfl) ?_
  obtain ⟨v2, M3, hq1, hf⟩ := xb2_e hf
  refine x_callVi (As := [.int a1]) (rest := []) C hm (c_X10_isReached l E b M Lm a1 hq1) rfl cy_0 tc_X10_isReached tm_RX10_464 ti_X10_isReached ts_X10_isReached tn_RX10 td_X10_isReached rfl rfl ⟨Nat.le_of_ble_eq_true rfl, Nat.le_of_ble_eq_true rfl⟩ rfl hl.1 rfl (Nat.le_of_ble_eq_true rfl) ⟨Nat.zero_le _, Nat.zero_le _⟩ dX10_retained_2 (fun H locs hP4 hm => ?_)
  refine lv_if_eq (tgt := 22) hx hb dX10_retained_5 (by decide) (fun hc5 => ?_) (fun hc5 => ?_)
  · have hf := xif_t hc5 hf
    refine lv_iconst (v := (-1 : Int32)) hx hb dX10_retained_22 (by decide) ?_
    cases hf
    exact x_iret C hm trivial dX10_retained_23
  have hf := xif_f hc5 hf
  refine lv_aload_n hx hb dX10_retained_8 rfl (lv_at hl 0 rfl) ?_
  refine lv_iconst (v := (-1 : Int32)) hx hb dX10_retained_9 (by decide) ?_
  obtain ⟨v7, M8, hq6, hf⟩ := xb2_e hf
  refine x_callVi (As := [.int (-1 : Int32)]) (rest := []) C hm (c_X10_reachedWords l E b M3 Lm (-1 : Int32) hq6) rfl cy_0 tc_X10_reachedWords tm_RX10_467 ti_X10_reachedWords ts_X10_reachedWords tn_RX10 td_X10_reachedWords rfl rfl ⟨Nat.le_of_ble_eq_true rfl, Nat.le_of_ble_eq_true rfl⟩ rfl hl.1 rfl (Nat.le_of_ble_eq_true rfl) ⟨Nat.zero_le _, Nat.zero_le _⟩ dX10_retained_10 (fun H locs hP9 hm => ?_)
  refine lv_aload_n hx hb dX10_retained_13 rfl (lv_at hl 0 rfl) ?_
  refine lv_iload_n hx hb dX10_retained_14 rfl (lv_at hl 1 rfl) ?_
  obtain ⟨v11, M12, hq10, hf⟩ := xb2_e hf
  refine x_callVi (As := [.int a1]) (rest := [.int v7]) C hm (c_X10_reachedWords l E b M8 Lm a1 hq10) rfl cy_0 tc_X10_reachedWords tm_RX10_467 ti_X10_reachedWords ts_X10_reachedWords tn_RX10 td_X10_reachedWords rfl rfl ⟨Nat.le_of_ble_eq_true rfl, Nat.le_of_ble_eq_true rfl⟩ rfl hl.1 rfl (Nat.le_of_ble_eq_true rfl) ⟨Nat.zero_le _, Nat.zero_le _⟩ dX10_retained_15 (fun H locs hP13 hm => ?_)
  refine lv_isub hx hb dX10_retained_18 ?_
  refine lv_goto (tgt := 23) hx hb dX10_retained_19 (by decide) ?_
  cases hf
  exact x_iret C hm trivial dX10_retained_23
/-! ColouredHeapModel.root(I)I -/
theorem dX10_root_0 : decode cX10_root 0 = .ok (.iload_n 1, 1) := by decide +kernel
theorem dX10_root_1 : decode cX10_root 1 = .ok (.invokestatic 349, 3) := by decide +kernel
theorem dX10_root_4 : decode cX10_root 4 = .ok (.ifCond .eq 15, 3) := by decide +kernel
theorem dX10_root_7 : decode cX10_root 7 = .ok (.aload_n 0, 1) := by decide +kernel
theorem dX10_root_8 : decode cX10_root 8 = .ok (.getfield 7, 3) := by decide +kernel
theorem dX10_root_11 : decode cX10_root 11 = .ok (.bipush 29, 2) := by decide +kernel
theorem dX10_root_13 : decode cX10_root 13 = .ok (.iload_n 1, 1) := by decide +kernel
theorem dX10_root_14 : decode cX10_root 14 = .ok (.iadd, 1) := by decide +kernel
theorem dX10_root_15 : decode cX10_root 15 = .ok (.iaload, 1) := by decide +kernel
theorem dX10_root_16 : decode cX10_root 16 = .ok (.goto 5, 3) := by decide +kernel
theorem dX10_root_19 : decode cX10_root 19 = .ok (.bipush (-2), 2) := by decide +kernel
theorem dX10_root_21 : decode cX10_root 21 = .ok (.ireturn, 1) := by decide +kernel
def f_X10_root (M : xm) (a1 : Int32) : Option (Int32) := (if (f_X10_isRoot a1) = 0 then some (-2 : Int32) else if xin ((29 : Int32) + a1) 9878 = true then some (M 1 (Int32.toNatClampNeg ((29 : Int32) + a1))) else none)
set_option maxHeartbeats 4000000 in
set_option maxRecDepth 20000 in
theorem c_X10_root (l : Launch) (E : xE) (b : Nat) (M : xm) (Lm : xn) (a1 : Int32) {r : Int32} (hf : f_X10_root M a1 = some r) :
    xMet l E b NY yX10_root cX10_root 2 (some .int) (xR 3) [.ref (b + 0), .int a1] (cY E b M Lm) (some (.int r)) True (cY E b M Lm) := by
  refine xMet.ofW (own := RX10) (by decide) rfl (Nat.le_of_ble_eq_true rfl) ?_
  intro p e s m below meth c H locs ls C hm hl
  have hx := C.1.1
  have hb := C.1.2.1
  have hl : lv_has ls 2 [(0, .ref (b + 0)), (1, .int a1)] := hl
  unfold f_X10_root at hf
  refine lv_iload_n hx hb dX10_root_0 rfl (lv_at hl 1 rfl) ?_
  refine x_callSi (As := [.int a1]) (rest := []) C hm (c_X10_isRoot l E b M Lm a1 rfl) tc_X10_isRoot tm_RX10_349 tz_X10_isRoot tn_RX10 td_X10_isRoot rfl rfl ⟨Nat.le_of_ble_eq_true rfl, Nat.le_of_ble_eq_true rfl⟩ rfl hl.1 rfl (Nat.le_of_ble_eq_true rfl) ⟨Nat.zero_le _, Nat.zero_le _⟩ dX10_root_1 (fun H locs hP1 hm => ?_)
  refine lv_if_eq (tgt := 19) hx hb dX10_root_4 (by decide) (fun hc2 => ?_) (fun hc2 => ?_)
  · have hf := xif_t hc2 hf
    refine lv_bipush (v := (-2 : Int32)) hx hb dX10_root_19 (by decide) ?_
    cases hf
    exact x_iret C hm trivial dX10_root_21
  have hf := xif_f hc2 hf
  refine lv_aload_n hx hb dX10_root_7 rfl (lv_at hl 0 rfl) ?_
  refine x_get C hm inX10 rfl 0 (by decide) tf_RX10_7 cy_0 rfl dX10_root_8 ?_
  refine lv_bipush (v := (29 : Int32)) hx hb dX10_root_11 (by decide) ?_
  refine lv_iload_n hx hb dX10_root_13 rfl (lv_at hl 1 rfl) ?_
  refine lv_iadd hx hb dX10_root_14 ?_
  obtain ⟨hi3, hf⟩ := xif_s hf
  refine x_iald (j := (Int32.toNatClampNeg ((29 : Int32) + a1))) C hm cy_1 hi3 dX10_root_15 rfl ?_
  refine lv_goto (tgt := 21) hx hb dX10_root_16 (by decide) ?_
  cases hf
  exact x_iret C hm trivial dX10_root_21
/-! ColouredHeapModel.safe()Z -/
theorem dX10_safe_0 : decode cX10_safe 0 = .ok (.aload_n 0, 1) := by decide +kernel
theorem dX10_safe_1 : decode cX10_safe 1 = .ok (.iconst (-1), 1) := by decide +kernel
theorem dX10_safe_2 : decode cX10_safe 2 = .ok (.invokevirtual 461, 3) := by decide +kernel
theorem dX10_safe_5 : decode cX10_safe 5 = .ok (.iconst 0, 1) := by decide +kernel
theorem dX10_safe_6 : decode cX10_safe 6 = .ok (.istore_n 1, 1) := by decide +kernel
theorem dX10_safe_7 : decode cX10_safe 7 = .ok (.iload_n 1, 1) := by decide +kernel
theorem dX10_safe_8 : decode cX10_safe 8 = .ok (.bipush 6, 2) := by decide +kernel
theorem dX10_safe_10 : decode cX10_safe 10 = .ok (.if_icmp .ge 27, 3) := by decide +kernel
theorem dX10_safe_13 : decode cX10_safe 13 = .ok (.aload_n 0, 1) := by decide +kernel
theorem dX10_safe_14 : decode cX10_safe 14 = .ok (.aload_n 0, 1) := by decide +kernel
theorem dX10_safe_15 : decode cX10_safe 15 = .ok (.getfield 7, 3) := by decide +kernel
theorem dX10_safe_18 : decode cX10_safe 18 = .ok (.bipush 29, 2) := by decide +kernel
theorem dX10_safe_20 : decode cX10_safe 20 = .ok (.iload_n 1, 1) := by decide +kernel
theorem dX10_safe_21 : decode cX10_safe 21 = .ok (.iadd, 1) := by decide +kernel
theorem dX10_safe_22 : decode cX10_safe 22 = .ok (.iaload, 1) := by decide +kernel
theorem dX10_safe_23 : decode cX10_safe 23 = .ok (.invokevirtual 473, 3) := by decide +kernel
theorem dX10_safe_26 : decode cX10_safe 26 = .ok (.ifCond .ne 5, 3) := by decide +kernel
theorem dX10_safe_29 : decode cX10_safe 29 = .ok (.iconst 0, 1) := by decide +kernel
theorem dX10_safe_30 : decode cX10_safe 30 = .ok (.ireturn, 1) := by decide +kernel
theorem dX10_safe_31 : decode cX10_safe 31 = .ok (.iinc 1 1, 3) := by decide +kernel
theorem dX10_safe_34 : decode cX10_safe 34 = .ok (.goto (-27), 3) := by decide +kernel
theorem dX10_safe_37 : decode cX10_safe 37 = .ok (.iconst 0, 1) := by decide +kernel
theorem dX10_safe_38 : decode cX10_safe 38 = .ok (.istore_n 1, 1) := by decide +kernel
theorem dX10_safe_39 : decode cX10_safe 39 = .ok (.iload_n 1, 1) := by decide +kernel
theorem dX10_safe_40 : decode cX10_safe 40 = .ok (.bipush 64, 2) := by decide +kernel
theorem dX10_safe_42 : decode cX10_safe 42 = .ok (.if_icmp .ge 56, 3) := by decide +kernel
theorem dX10_safe_45 : decode cX10_safe 45 = .ok (.iconst 1, 1) := by decide +kernel
theorem dX10_safe_46 : decode cX10_safe 46 = .ok (.istore_n 2, 1) := by decide +kernel
theorem dX10_safe_47 : decode cX10_safe 47 = .ok (.aload_n 0, 1) := by decide +kernel
theorem dX10_safe_48 : decode cX10_safe 48 = .ok (.getfield 46, 3) := by decide +kernel
theorem dX10_safe_51 : decode cX10_safe 51 = .ok (.iload_n 1, 1) := by decide +kernel
theorem dX10_safe_52 : decode cX10_safe 52 = .ok (.iaload, 1) := by decide +kernel
theorem dX10_safe_53 : decode cX10_safe 53 = .ok (.iconst (-1), 1) := by decide +kernel
theorem dX10_safe_54 : decode cX10_safe 54 = .ok (.if_icmp .eq 38, 3) := by decide +kernel
theorem dX10_safe_57 : decode cX10_safe 57 = .ok (.iload_n 2, 1) := by decide +kernel
theorem dX10_safe_58 : decode cX10_safe 58 = .ok (.aload_n 0, 1) := by decide +kernel
theorem dX10_safe_59 : decode cX10_safe 59 = .ok (.iload_n 1, 1) := by decide +kernel
theorem dX10_safe_60 : decode cX10_safe 60 = .ok (.invokevirtual 67, 3) := by decide +kernel
theorem dX10_safe_63 : decode cX10_safe 63 = .ok (.if_icmp .gt 29, 3) := by decide +kernel
theorem dX10_safe_66 : decode cX10_safe 66 = .ok (.aload_n 0, 1) := by decide +kernel
theorem dX10_safe_67 : decode cX10_safe 67 = .ok (.aload_n 0, 1) := by decide +kernel
theorem dX10_safe_68 : decode cX10_safe 68 = .ok (.getfield 7, 3) := by decide +kernel
theorem dX10_safe_71 : decode cX10_safe 71 = .ok (.bipush 41, 2) := by decide +kernel
theorem dX10_safe_73 : decode cX10_safe 73 = .ok (.iload_n 1, 1) := by decide +kernel
theorem dX10_safe_74 : decode cX10_safe 74 = .ok (.iadd, 1) := by decide +kernel
theorem dX10_safe_75 : decode cX10_safe 75 = .ok (.iload_n 2, 1) := by decide +kernel
theorem dX10_safe_76 : decode cX10_safe 76 = .ok (.iadd, 1) := by decide +kernel
theorem dX10_safe_77 : decode cX10_safe 77 = .ok (.iaload, 1) := by decide +kernel
theorem dX10_safe_78 : decode cX10_safe 78 = .ok (.invokevirtual 473, 3) := by decide +kernel
theorem dX10_safe_81 : decode cX10_safe 81 = .ok (.ifCond .ne 5, 3) := by decide +kernel
theorem dX10_safe_84 : decode cX10_safe 84 = .ok (.iconst 0, 1) := by decide +kernel
theorem dX10_safe_85 : decode cX10_safe 85 = .ok (.ireturn, 1) := by decide +kernel
theorem dX10_safe_86 : decode cX10_safe 86 = .ok (.iinc 2 1, 3) := by decide +kernel
theorem dX10_safe_89 : decode cX10_safe 89 = .ok (.goto (-42), 3) := by decide +kernel
theorem dX10_safe_92 : decode cX10_safe 92 = .ok (.iinc 1 1, 3) := by decide +kernel
theorem dX10_safe_95 : decode cX10_safe 95 = .ok (.goto (-56), 3) := by decide +kernel
theorem dX10_safe_98 : decode cX10_safe 98 = .ok (.iconst 1, 1) := by decide +kernel
theorem dX10_safe_99 : decode cX10_safe 99 = .ok (.ireturn, 1) := by decide +kernel
def g_X10_safe_7 (M : xm) : Nat → Int32 → Option ((Unit) ⊕ (Unit))
  | 0, _ => none
  | n + 1, x4 => (if (6 : Int32) ≤ x4 then some (Sum.inr ()) else if xin ((29 : Int32) + x4) 9878 = true then xb1 (f_X10_isSafe M (M 1 (Int32.toNatClampNeg ((29 : Int32) + x4)))) (fun v8 => (if v8 = 0 then some (Sum.inl ()) else xlet (x4 + (1 : Int32)) (fun v11 => g_X10_safe_7 M n v11))) else none)
def g_X10_safe_47 (M : xm) (x15 : Int32) : Nat → Int32 → Option ((Unit) ⊕ (Unit))
  | 0, _ => none
  | n + 1, x16 => if xin x15 64 = true then (if (M 10 (Int32.toNatClampNeg x15)) = (-1 : Int32) then some (Sum.inr ()) else xb1 (f_X10_fieldsOf M x15) (fun v20 => (if v20 < x16 then some (Sum.inr ()) else if xin (((41 : Int32) + x15) + x16) 9878 = true then xb1 (f_X10_isSafe M (M 1 (Int32.toNatClampNeg (((41 : Int32) + x15) + x16)))) (fun v25 => (if v25 = 0 then some (Sum.inl ()) else xlet (x16 + (1 : Int32)) (fun v28 => g_X10_safe_47 M x15 n v28))) else none))) else none
def g_X10_safe_39 (M : xm) : Nat → Int32 → Option ((Unit) ⊕ (Unit))
  | 0, _ => none
  | n + 1, x13 => (if (64 : Int32) ≤ x13 then some (Sum.inr ()) else xs2 (g_X10_safe_47 M x13 xfuel (1 : Int32)) (fun q29 => some (Sum.inl ())) (fun q29 => xlet (x13 + (1 : Int32)) (fun v30 => g_X10_safe_39 M n v30)))
def f_X10_safe (M : xm) : Option (Int32 × xm) := xb1 (f_X10_layLoads M (-1 : Int32)) (fun M2 => xs2 (g_X10_safe_7 M2 xfuel (0 : Int32)) (fun q12 => some ((0 : Int32), M2)) (fun q12 => xs2 (g_X10_safe_39 M2 xfuel (0 : Int32)) (fun q31 => some ((0 : Int32), M2)) (fun q31 => some ((1 : Int32), M2))))
set_option maxHeartbeats 4000000 in
set_option maxRecDepth 20000 in
theorem j_X10_safe_7 {p : Program} {l : Launch} {e : Env} {s : State} {m : MethodId} {args : Array Value} {below : List Frame} {meth : Method} {c : Code} {Q : State → Prop} {E : xE} {b : Nat} (C : xC p s m args meth c cX10_safe 3 RX10 (some .boolean) E b) (M : xm) {Lm : xn} {r : (Unit) ⊕ (Unit)}
    (kx0 : ∀ q : Unit, r = Sum.inl q → ∀ (H : Heap) (locs : List Loc) (ls : Array Slot), xM E b NY (cY E b M Lm) s.heap H locs → lv_has ls 3 [] → W p l e (xR 6) s m args below meth c H locs 0 0 Q (F0 m 29 ls []))
    (kx1 : ∀ q : Unit, r = Sum.inr q → ∀ (H : Heap) (locs : List Loc) (ls : Array Slot), xM E b NY (cY E b M Lm) s.heap H locs → lv_has ls 3 [(0, .ref (b + 0))] → W p l e (xR 6) s m args below meth c H locs 0 0 Q (F0 m 37 ls [])) :
    ∀ (n : Nat) (x4 : Int32) (H : Heap) (locs : List Loc) (ls : Array Slot), g_X10_safe_7 M n x4 = some r → xM E b NY (cY E b M Lm) s.heap H locs → lv_has ls 3 [(0, .ref (b + 0)), (1, .int x4)] → W p l e (xR 6) s m args below meth c H locs 0 0 Q (F0 m 7 ls []) := by
  have hx := C.1.1
  have hb := C.1.2.1
  intro n
  induction n with
  | zero =>
    intro x4 H locs ls hf hm hl
    rw [g_X10_safe_7] at hf
    cases hf
  | succ n ih =>
    intro x4 H locs ls hf hm hl
    rw [g_X10_safe_7] at hf
    refine lv_iload_n hx hb dX10_safe_7 rfl (lv_at hl 1 rfl) ?_
    refine lv_bipush (v := (6 : Int32)) hx hb dX10_safe_8 (by decide) ?_
    refine lv_icmp_ge (tgt := 37) hx hb dX10_safe_10 (by decide) (fun hc5 => ?_) (fun hc5 => ?_)
    · have hf := xif_t hc5 hf
      cases hf
      exact kx1 () rfl H locs ls hm (lv_sub hl [0] rfl)
    have hf := xif_f hc5 hf
    refine lv_aload_n hx hb dX10_safe_13 rfl (lv_at hl 0 rfl) ?_
    refine lv_aload_n hx hb dX10_safe_14 rfl (lv_at hl 0 rfl) ?_
    refine x_get C hm inX10 rfl 0 (by decide) tf_RX10_7 cy_0 rfl dX10_safe_15 ?_
    refine lv_bipush (v := (29 : Int32)) hx hb dX10_safe_18 (by decide) ?_
    refine lv_iload_n hx hb dX10_safe_20 rfl (lv_at hl 1 rfl) ?_
    refine lv_iadd hx hb dX10_safe_21 ?_
    obtain ⟨hi6, hf⟩ := xif_s hf
    refine x_iald (j := (Int32.toNatClampNeg ((29 : Int32) + x4))) C hm cy_1 hi6 dX10_safe_22 rfl ?_
    obtain ⟨v8, hq7, hf⟩ := xb1_e hf
    refine x_callVi (As := [.int (M 1 (Int32.toNatClampNeg ((29 : Int32) + x4)))]) (rest := []) C hm (c_X10_isSafe l E b M Lm (M 1 (Int32.toNatClampNeg ((29 : Int32) + x4))) hq7) rfl cy_0 tc_X10_isSafe tm_RX10_473 ti_X10_isSafe ts_X10_isSafe tn_RX10 td_X10_isSafe rfl rfl ⟨Nat.le_of_ble_eq_true rfl, Nat.le_of_ble_eq_true rfl⟩ rfl hl.1 rfl (Nat.le_of_ble_eq_true rfl) ⟨Nat.zero_le _, Nat.zero_le _⟩ dX10_safe_23 (fun H locs hP9 hm => ?_)
    refine lv_if_ne (tgt := 31) hx hb dX10_safe_26 (by decide) (fun hc10 => ?_) (fun hc10 => ?_)
    rotate_left
    · have hf := xif_t hc10 hf
      cases hf
      exact kx0 () rfl H locs ls hm (lv_sub hl [] rfl)
    have hf := xif_f hc10 hf
    obtain ⟨v11, ev11, hf⟩ := xlet_x hf
    refine lv_iinc (v := v11) (lv' := [(1, .int v11), (0, .ref (b + 0))]) hx hb dX10_safe_31 hl (k := 1) rfl (by rw [ev11]; rfl) (by decide) rfl (fun ls hl => ?_)
    refine lv_goto (tgt := 7) hx hb dX10_safe_34 (by decide) ?_
    exact ih v11 H locs ls hf hm (lv_sub hl [1, 0] rfl)
set_option maxHeartbeats 4000000 in
set_option maxRecDepth 20000 in
theorem j_X10_safe_47 {p : Program} {l : Launch} {e : Env} {s : State} {m : MethodId} {args : Array Value} {below : List Frame} {meth : Method} {c : Code} {Q : State → Prop} {E : xE} {b : Nat} (C : xC p s m args meth c cX10_safe 3 RX10 (some .boolean) E b) (M : xm) {Lm : xn} (x15 : Int32) {r : (Unit) ⊕ (Unit)}
    (kx0 : ∀ q : Unit, r = Sum.inl q → ∀ (H : Heap) (locs : List Loc) (ls : Array Slot), xM E b NY (cY E b M Lm) s.heap H locs → lv_has ls 3 [] → W p l e (xR 6) s m args below meth c H locs 0 0 Q (F0 m 84 ls []))
    (kx1 : ∀ q : Unit, r = Sum.inr q → ∀ (H : Heap) (locs : List Loc) (ls : Array Slot), xM E b NY (cY E b M Lm) s.heap H locs → lv_has ls 3 [(0, .ref (b + 0)), (1, .int x15)] → W p l e (xR 6) s m args below meth c H locs 0 0 Q (F0 m 92 ls [])) :
    ∀ (n : Nat) (x16 : Int32) (H : Heap) (locs : List Loc) (ls : Array Slot), g_X10_safe_47 M x15 n x16 = some r → xM E b NY (cY E b M Lm) s.heap H locs → lv_has ls 3 [(0, .ref (b + 0)), (1, .int x15), (2, .int x16)] → W p l e (xR 6) s m args below meth c H locs 0 0 Q (F0 m 47 ls []) := by
  have hx := C.1.1
  have hb := C.1.2.1
  intro n
  induction n with
  | zero =>
    intro x16 H locs ls hf hm hl
    rw [g_X10_safe_47] at hf
    cases hf
  | succ n ih =>
    intro x16 H locs ls hf hm hl
    rw [g_X10_safe_47] at hf
    refine lv_aload_n hx hb dX10_safe_47 rfl (lv_at hl 0 rfl) ?_
    refine x_get C hm inX10 rfl 24 (by decide) tf_RX10_46 cy_0 rfl dX10_safe_48 ?_
    refine lv_iload_n hx hb dX10_safe_51 rfl (lv_at hl 1 rfl) ?_
    obtain ⟨hi17, hf⟩ := xif_s hf
    refine x_iald (j := (Int32.toNatClampNeg x15)) C hm cy_10 hi17 dX10_safe_52 rfl ?_
    refine lv_iconst (v := (-1 : Int32)) hx hb dX10_safe_53 (by decide) ?_
    refine lv_icmp_eq (tgt := 92) hx hb dX10_safe_54 (by decide) (fun hc18 => ?_) (fun hc18 => ?_)
    · have hf := xif_t hc18 hf
      cases hf
      exact kx1 () rfl H locs ls hm (lv_sub hl [0, 1] rfl)
    have hf := xif_f hc18 hf
    refine lv_iload_n hx hb dX10_safe_57 rfl (lv_at hl 2 rfl) ?_
    refine lv_aload_n hx hb dX10_safe_58 rfl (lv_at hl 0 rfl) ?_
    refine lv_iload_n hx hb dX10_safe_59 rfl (lv_at hl 1 rfl) ?_
    obtain ⟨v20, hq19, hf⟩ := xb1_e hf
    refine x_callVi (As := [.int x15]) (rest := [.int x16]) C hm (c_X10_fieldsOf l E b M Lm x15 hq19) rfl cy_0 tc_X10_fieldsOf tm_RX10_67 ti_X10_fieldsOf ts_X10_fieldsOf tn_RX10 td_X10_fieldsOf rfl rfl ⟨Nat.le_of_ble_eq_true rfl, Nat.le_of_ble_eq_true rfl⟩ rfl hl.1 rfl (Nat.le_of_ble_eq_true rfl) ⟨Nat.zero_le _, Nat.zero_le _⟩ dX10_safe_60 (fun H locs hP21 hm => ?_)
    refine lv_icmp_gt (tgt := 92) hx hb dX10_safe_63 (by decide) (fun hc22 => ?_) (fun hc22 => ?_)
    · have hf := xif_t hc22 hf
      cases hf
      exact kx1 () rfl H locs ls hm (lv_sub hl [0, 1] rfl)
    have hf := xif_f hc22 hf
    refine lv_aload_n hx hb dX10_safe_66 rfl (lv_at hl 0 rfl) ?_
    refine lv_aload_n hx hb dX10_safe_67 rfl (lv_at hl 0 rfl) ?_
    refine x_get C hm inX10 rfl 0 (by decide) tf_RX10_7 cy_0 rfl dX10_safe_68 ?_
    refine lv_bipush (v := (41 : Int32)) hx hb dX10_safe_71 (by decide) ?_
    refine lv_iload_n hx hb dX10_safe_73 rfl (lv_at hl 1 rfl) ?_
    refine lv_iadd hx hb dX10_safe_74 ?_
    refine lv_iload_n hx hb dX10_safe_75 rfl (lv_at hl 2 rfl) ?_
    refine lv_iadd hx hb dX10_safe_76 ?_
    obtain ⟨hi23, hf⟩ := xif_s hf
    refine x_iald (j := (Int32.toNatClampNeg (((41 : Int32) + x15) + x16))) C hm cy_1 hi23 dX10_safe_77 rfl ?_
    obtain ⟨v25, hq24, hf⟩ := xb1_e hf
    refine x_callVi (As := [.int (M 1 (Int32.toNatClampNeg (((41 : Int32) + x15) + x16)))]) (rest := []) C hm (c_X10_isSafe l E b M Lm (M 1 (Int32.toNatClampNeg (((41 : Int32) + x15) + x16))) hq24) rfl cy_0 tc_X10_isSafe tm_RX10_473 ti_X10_isSafe ts_X10_isSafe tn_RX10 td_X10_isSafe rfl rfl ⟨Nat.le_of_ble_eq_true rfl, Nat.le_of_ble_eq_true rfl⟩ rfl hl.1 rfl (Nat.le_of_ble_eq_true rfl) ⟨Nat.zero_le _, Nat.zero_le _⟩ dX10_safe_78 (fun H locs hP26 hm => ?_)
    refine lv_if_ne (tgt := 86) hx hb dX10_safe_81 (by decide) (fun hc27 => ?_) (fun hc27 => ?_)
    rotate_left
    · have hf := xif_t hc27 hf
      cases hf
      exact kx0 () rfl H locs ls hm (lv_sub hl [] rfl)
    have hf := xif_f hc27 hf
    obtain ⟨v28, ev28, hf⟩ := xlet_x hf
    refine lv_iinc (v := v28) (lv' := [(2, .int v28), (0, .ref (b + 0)), (1, .int x15)]) hx hb dX10_safe_86 hl (k := 2) rfl (by rw [ev28]; rfl) (by decide) rfl (fun ls hl => ?_)
    refine lv_goto (tgt := 47) hx hb dX10_safe_89 (by decide) ?_
    exact ih v28 H locs ls hf hm (lv_sub hl [1, 2, 0] rfl)
set_option maxHeartbeats 4000000 in
set_option maxRecDepth 20000 in
theorem j_X10_safe_39 {p : Program} {l : Launch} {e : Env} {s : State} {m : MethodId} {args : Array Value} {below : List Frame} {meth : Method} {c : Code} {Q : State → Prop} {E : xE} {b : Nat} (C : xC p s m args meth c cX10_safe 3 RX10 (some .boolean) E b) (M : xm) {Lm : xn} {r : (Unit) ⊕ (Unit)}
    (kx0 : ∀ q : Unit, r = Sum.inl q → ∀ (H : Heap) (locs : List Loc) (ls : Array Slot), xM E b NY (cY E b M Lm) s.heap H locs → lv_has ls 3 [] → W p l e (xR 6) s m args below meth c H locs 0 0 Q (F0 m 84 ls []))
    (kx1 : ∀ q : Unit, r = Sum.inr q → ∀ (H : Heap) (locs : List Loc) (ls : Array Slot), xM E b NY (cY E b M Lm) s.heap H locs → lv_has ls 3 [] → W p l e (xR 6) s m args below meth c H locs 0 0 Q (F0 m 98 ls [])) :
    ∀ (n : Nat) (x13 : Int32) (H : Heap) (locs : List Loc) (ls : Array Slot), g_X10_safe_39 M n x13 = some r → xM E b NY (cY E b M Lm) s.heap H locs → lv_has ls 3 [(0, .ref (b + 0)), (1, .int x13)] → W p l e (xR 6) s m args below meth c H locs 0 0 Q (F0 m 39 ls []) := by
  have hx := C.1.1
  have hb := C.1.2.1
  intro n
  induction n with
  | zero =>
    intro x13 H locs ls hf hm hl
    rw [g_X10_safe_39] at hf
    cases hf
  | succ n ih =>
    intro x13 H locs ls hf hm hl
    rw [g_X10_safe_39] at hf
    refine lv_iload_n hx hb dX10_safe_39 rfl (lv_at hl 1 rfl) ?_
    refine lv_bipush (v := (64 : Int32)) hx hb dX10_safe_40 (by decide) ?_
    refine lv_icmp_ge (tgt := 98) hx hb dX10_safe_42 (by decide) (fun hc14 => ?_) (fun hc14 => ?_)
    · have hf := xif_t hc14 hf
      cases hf
      exact kx1 () rfl H locs ls hm (lv_sub hl [] rfl)
    have hf := xif_f hc14 hf
    refine lv_iconst (v := (1 : Int32)) hx hb dX10_safe_45 (by decide) ?_
    refine lv_istore_n (lv' := [(2, .int (1 : Int32)), (0, .ref (b + 0)), (1, .int x13)]) hx hb dX10_safe_46 rfl hl (by decide) rfl (fun ls hl => ?_)
    rcases xs2_e hf with ⟨q29, hq, hf⟩ | ⟨q29, hq, hf⟩
    · refine j_X10_safe_47 C M x13 (r := Sum.inl q29) (fun q2 hr H locs ls hm hl => ?_) (fun q2 hr => by cases hr) xfuel (1 : Int32) H locs ls hq hm (lv_sub hl [1, 2, 0] rfl)
      cases hr
      cases hf
      exact kx0 () rfl H locs ls hm (lv_sub hl [] rfl)
    · refine j_X10_safe_47 C M x13 (r := Sum.inr q29) (fun q2 hr => by cases hr) (fun q2 hr H locs ls hm hl => ?_) xfuel (1 : Int32) H locs ls hq hm (lv_sub hl [1, 2, 0] rfl)
      cases hr
      obtain ⟨v30, ev30, hf⟩ := xlet_x hf
      refine lv_iinc (v := v30) (lv' := [(1, .int v30), (0, .ref (b + 0))]) hx hb dX10_safe_92 hl (k := 1) rfl (by rw [ev30]; rfl) (by decide) rfl (fun ls hl => ?_)
      refine lv_goto (tgt := 39) hx hb dX10_safe_95 (by decide) ?_
      exact ih v30 H locs ls hf hm (lv_sub hl [1, 0] rfl)
set_option maxHeartbeats 4000000 in
set_option maxRecDepth 20000 in
theorem c_X10_safe (l : Launch) (E : xE) (b : Nat) (M : xm) (Lm : xn) {r : Int32} {M' : xm} (hf : f_X10_safe M = some (r, M')) :
    xMet l E b NY yX10_safe cX10_safe 3 (some .boolean) (xR 6) [.ref (b + 0)] (cY E b M Lm) (some (.int r)) (xbo r = true) (cY E b M' Lm) := by
  refine xMet.ofW (own := RX10) (by decide) rfl (Nat.le_of_ble_eq_true rfl) ?_
  intro p e s m below meth c H locs ls C hm hl
  have hx := C.1.1
  have hb := C.1.2.1
  have hl : lv_has ls 3 [(0, .ref (b + 0))] := hl
  unfold f_X10_safe at hf
  refine lv_aload_n hx hb dX10_safe_0 rfl (lv_at hl 0 rfl) ?_
  refine lv_iconst (v := (-1 : Int32)) hx hb dX10_safe_1 (by decide) ?_
  obtain ⟨M2, hq1, hf⟩ := xb1_e hf
  refine x_callVv (As := [.int (-1 : Int32)]) (rest := []) C hm (c_X10_layLoads l E b M Lm (-1 : Int32) hq1) rfl cy_0 tc_X10_layLoads tm_RX10_461 ti_X10_layLoads ts_X10_layLoads tn_RX10 td_X10_layLoads rfl rfl ⟨Nat.le_of_ble_eq_true rfl, Nat.le_of_ble_eq_true rfl⟩ rfl hl.1 rfl (Nat.le_of_ble_eq_true rfl) ⟨Nat.zero_le _, Nat.zero_le _⟩ dX10_safe_2 (fun H locs hP3 hm => ?_)
  refine lv_iconst (v := (0 : Int32)) hx hb dX10_safe_5 (by decide) ?_
  refine lv_istore_n (lv' := [(1, .int (0 : Int32)), (0, .ref (b + 0))]) hx hb dX10_safe_6 rfl hl (by decide) rfl (fun ls hl => ?_)
  rcases xs2_e hf with ⟨q12, hq, hf⟩ | ⟨q12, hq, hf⟩
  · refine j_X10_safe_7 C M2 (r := Sum.inl q12) (fun q2 hr H locs ls hm hl => ?_) (fun q2 hr => by cases hr) xfuel (0 : Int32) H locs ls hq hm (lv_sub hl [1, 0] rfl)
    cases hr
    refine lv_iconst (v := (0 : Int32)) hx hb dX10_safe_29 (by decide) ?_
    cases hf
    exact x_zret C hm (by decide) (by decide) dX10_safe_30
  · refine j_X10_safe_7 C M2 (r := Sum.inr q12) (fun q2 hr => by cases hr) (fun q2 hr H locs ls hm hl => ?_) xfuel (0 : Int32) H locs ls hq hm (lv_sub hl [1, 0] rfl)
    cases hr
    refine lv_iconst (v := (0 : Int32)) hx hb dX10_safe_37 (by decide) ?_
    refine lv_istore_n (lv' := [(1, .int (0 : Int32)), (0, .ref (b + 0))]) hx hb dX10_safe_38 rfl hl (by decide) rfl (fun ls hl => ?_)
    rcases xs2_e hf with ⟨q31, hq, hf⟩ | ⟨q31, hq, hf⟩
    · refine j_X10_safe_39 C M2 (r := Sum.inl q31) (fun q2 hr H locs ls hm hl => ?_) (fun q2 hr => by cases hr) xfuel (0 : Int32) H locs ls hq hm (lv_sub hl [1, 0] rfl)
      cases hr
      refine lv_iconst (v := (0 : Int32)) hx hb dX10_safe_84 (by decide) ?_
      cases hf
      exact x_zret C hm (by decide) (by decide) dX10_safe_85
    · refine j_X10_safe_39 C M2 (r := Sum.inr q31) (fun q2 hr => by cases hr) (fun q2 hr H locs ls hm hl => ?_) xfuel (0 : Int32) H locs ls hq hm (lv_sub hl [1, 0] rfl)
      cases hr
      refine lv_iconst (v := (1 : Int32)) hx hb dX10_safe_98 (by decide) ?_
      cases hf
      exact x_zret C hm (by decide) (by decide) dX10_safe_99
/-! ColouredHeapModel.said(II)I -/
theorem dX10_said_0 : decode cX10_said 0 = .ok (.iload_n 1, 1) := by decide +kernel
theorem dX10_said_1 : decode cX10_said 1 = .ok (.iconst (-1), 1) := by decide +kernel
theorem dX10_said_2 : decode cX10_said 2 = .ok (.if_icmp .ne 12, 3) := by decide +kernel
theorem dX10_said_5 : decode cX10_said 5 = .ok (.aload_n 0, 1) := by decide +kernel
theorem dX10_said_6 : decode cX10_said 6 = .ok (.getfield 7, 3) := by decide +kernel
theorem dX10_said_9 : decode cX10_said 9 = .ok (.iconst 3, 1) := by decide +kernel
theorem dX10_said_10 : decode cX10_said 10 = .ok (.iconst 0, 1) := by decide +kernel
theorem dX10_said_11 : decode cX10_said 11 = .ok (.iastore, 1) := by decide +kernel
theorem dX10_said_12 : decode cX10_said 12 = .ok (.iconst 0, 1) := by decide +kernel
theorem dX10_said_13 : decode cX10_said 13 = .ok (.ireturn, 1) := by decide +kernel
theorem dX10_said_14 : decode cX10_said 14 = .ok (.iload_n 1, 1) := by decide +kernel
theorem dX10_said_15 : decode cX10_said 15 = .ok (.invokestatic 445, 3) := by decide +kernel
theorem dX10_said_18 : decode cX10_said 18 = .ok (.ifCond .eq 23, 3) := by decide +kernel
theorem dX10_said_21 : decode cX10_said 21 = .ok (.iload_n 2, 1) := by decide +kernel
theorem dX10_said_22 : decode cX10_said 22 = .ok (.iconst 0, 1) := by decide +kernel
theorem dX10_said_23 : decode cX10_said 23 = .ok (.iconst 1, 1) := by decide +kernel
theorem dX10_said_24 : decode cX10_said 24 = .ok (.invokestatic 59, 3) := by decide +kernel
theorem dX10_said_27 : decode cX10_said 27 = .ok (.ifCond .eq 14, 3) := by decide +kernel
theorem dX10_said_30 : decode cX10_said 30 = .ok (.aload_n 0, 1) := by decide +kernel
theorem dX10_said_31 : decode cX10_said 31 = .ok (.getfield 7, 3) := by decide +kernel
theorem dX10_said_34 : decode cX10_said 34 = .ok (.iconst 3, 1) := by decide +kernel
theorem dX10_said_35 : decode cX10_said 35 = .ok (.iaload, 1) := by decide +kernel
theorem dX10_said_36 : decode cX10_said 36 = .ok (.bipush 8, 2) := by decide +kernel
theorem dX10_said_38 : decode cX10_said 38 = .ok (.if_icmp .ne 6, 3) := by decide +kernel
theorem dX10_said_41 : decode cX10_said 41 = .ok (.bipush (-2), 2) := by decide +kernel
theorem dX10_said_43 : decode cX10_said 43 = .ok (.ireturn, 1) := by decide +kernel
theorem dX10_said_44 : decode cX10_said 44 = .ok (.aload_n 0, 1) := by decide +kernel
theorem dX10_said_45 : decode cX10_said 45 = .ok (.getfield 7, 3) := by decide +kernel
theorem dX10_said_48 : decode cX10_said 48 = .ok (.sipush 322, 3) := by decide +kernel
theorem dX10_said_51 : decode cX10_said 51 = .ok (.iconst 2, 1) := by decide +kernel
theorem dX10_said_52 : decode cX10_said 52 = .ok (.aload_n 0, 1) := by decide +kernel
theorem dX10_said_53 : decode cX10_said 53 = .ok (.getfield 7, 3) := by decide +kernel
theorem dX10_said_56 : decode cX10_said 56 = .ok (.iconst 3, 1) := by decide +kernel
theorem dX10_said_57 : decode cX10_said 57 = .ok (.iaload, 1) := by decide +kernel
theorem dX10_said_58 : decode cX10_said 58 = .ok (.imul, 1) := by decide +kernel
theorem dX10_said_59 : decode cX10_said 59 = .ok (.iadd, 1) := by decide +kernel
theorem dX10_said_60 : decode cX10_said 60 = .ok (.iload_n 1, 1) := by decide +kernel
theorem dX10_said_61 : decode cX10_said 61 = .ok (.iastore, 1) := by decide +kernel
theorem dX10_said_62 : decode cX10_said 62 = .ok (.aload_n 0, 1) := by decide +kernel
theorem dX10_said_63 : decode cX10_said 63 = .ok (.getfield 7, 3) := by decide +kernel
theorem dX10_said_66 : decode cX10_said 66 = .ok (.sipush 322, 3) := by decide +kernel
theorem dX10_said_69 : decode cX10_said 69 = .ok (.iconst 2, 1) := by decide +kernel
theorem dX10_said_70 : decode cX10_said 70 = .ok (.aload_n 0, 1) := by decide +kernel
theorem dX10_said_71 : decode cX10_said 71 = .ok (.getfield 7, 3) := by decide +kernel
theorem dX10_said_74 : decode cX10_said 74 = .ok (.iconst 3, 1) := by decide +kernel
theorem dX10_said_75 : decode cX10_said 75 = .ok (.iaload, 1) := by decide +kernel
theorem dX10_said_76 : decode cX10_said 76 = .ok (.imul, 1) := by decide +kernel
theorem dX10_said_77 : decode cX10_said 77 = .ok (.iadd, 1) := by decide +kernel
theorem dX10_said_78 : decode cX10_said 78 = .ok (.iconst 1, 1) := by decide +kernel
theorem dX10_said_79 : decode cX10_said 79 = .ok (.iadd, 1) := by decide +kernel
theorem dX10_said_80 : decode cX10_said 80 = .ok (.iload_n 2, 1) := by decide +kernel
theorem dX10_said_81 : decode cX10_said 81 = .ok (.iastore, 1) := by decide +kernel
theorem dX10_said_82 : decode cX10_said 82 = .ok (.aload_n 0, 1) := by decide +kernel
theorem dX10_said_83 : decode cX10_said 83 = .ok (.getfield 7, 3) := by decide +kernel
theorem dX10_said_86 : decode cX10_said 86 = .ok (.iconst 3, 1) := by decide +kernel
theorem dX10_said_87 : decode cX10_said 87 = .ok (.dup2, 1) := by decide +kernel
theorem dX10_said_88 : decode cX10_said 88 = .ok (.iaload, 1) := by decide +kernel
theorem dX10_said_89 : decode cX10_said 89 = .ok (.iconst 1, 1) := by decide +kernel
theorem dX10_said_90 : decode cX10_said 90 = .ok (.iadd, 1) := by decide +kernel
theorem dX10_said_91 : decode cX10_said 91 = .ok (.iastore, 1) := by decide +kernel
theorem dX10_said_92 : decode cX10_said 92 = .ok (.aload_n 0, 1) := by decide +kernel
theorem dX10_said_93 : decode cX10_said 93 = .ok (.getfield 7, 3) := by decide +kernel
theorem dX10_said_96 : decode cX10_said 96 = .ok (.iconst 3, 1) := by decide +kernel
theorem dX10_said_97 : decode cX10_said 97 = .ok (.iaload, 1) := by decide +kernel
theorem dX10_said_98 : decode cX10_said 98 = .ok (.ireturn, 1) := by decide +kernel
def f_X10_said (M : xm) (a1 : Int32) (a2 : Int32) : Option (Int32 × xm) := (if a1 = (-1 : Int32) then xlet (up2 M 1 3 (0 : Int32)) (fun M12 => some ((0 : Int32), M12)) else (if (f_X10_isPage a1) = 0 then some ((-2 : Int32), M) else (if (f_X10_isIn a2 (0 : Int32) (1 : Int32)) = 0 then some ((-2 : Int32), M) else (if (M 1 3) = (8 : Int32) then some ((-2 : Int32), M) else if xin ((322 : Int32) + ((2 : Int32) * (M 1 3))) 9878 = true then xlet (up2 M 1 (Int32.toNatClampNeg ((322 : Int32) + ((2 : Int32) * (M 1 3)))) a1) (fun M8 => if xin (((322 : Int32) + ((2 : Int32) * (M8 1 3))) + (1 : Int32)) 9878 = true then xlet (up2 M8 1 (Int32.toNatClampNeg (((322 : Int32) + ((2 : Int32) * (M8 1 3))) + (1 : Int32))) a2) (fun M10 => xlet (up2 M10 1 3 ((M10 1 3) + (1 : Int32))) (fun M11 => some ((M11 1 3), M11))) else none) else none))))
set_option maxHeartbeats 4000000 in
set_option maxRecDepth 20000 in
theorem c_X10_said (l : Launch) (E : xE) (b : Nat) (M : xm) (Lm : xn) (a1 : Int32) (a2 : Int32) {r : Int32} {M' : xm} (hf : f_X10_said M a1 a2 = some (r, M')) :
    xMet l E b NY yX10_said cX10_said 3 (some .int) (xR 3) [.ref (b + 0), .int a1, .int a2] (cY E b M Lm) (some (.int r)) True (cY E b M' Lm) := by
  refine xMet.ofW (own := RX10) (by decide) rfl (Nat.le_of_ble_eq_true rfl) ?_
  intro p e s m below meth c H locs ls C hm hl
  have hx := C.1.1
  have hb := C.1.2.1
  have hl : lv_has ls 3 [(0, .ref (b + 0)), (1, .int a1), (2, .int a2)] := hl
  unfold f_X10_said at hf
  refine lv_iload_n hx hb dX10_said_0 rfl (lv_at hl 1 rfl) ?_
  refine lv_iconst (v := (-1 : Int32)) hx hb dX10_said_1 (by decide) ?_
  refine lv_icmp_ne (tgt := 14) hx hb dX10_said_2 (by decide) (fun hc1 => ?_) (fun hc1 => ?_)
  rotate_left
  · have hf := xif_t hc1 hf
    refine lv_aload_n hx hb dX10_said_5 rfl (lv_at hl 0 rfl) ?_
    refine x_get C hm inX10 rfl 0 (by decide) tf_RX10_7 cy_0 rfl dX10_said_6 ?_
    refine lv_iconst (v := (3 : Int32)) hx hb dX10_said_9 (by decide) ?_
    refine lv_iconst (v := (0 : Int32)) hx hb dX10_said_10 (by decide) ?_
    obtain ⟨M12, eM12, hf⟩ := xlet_x hf
    refine x_iast (j := 3) (cf' := cY E b M12 Lm) C hm cy_1 (by decide) dX10_said_11 (by decide) (by rw [eM12]; exact cyu_1) (by rw [eM12]; exact cY_o) (fun H locs hm => ?_)
    refine lv_iconst (v := (0 : Int32)) hx hb dX10_said_12 (by decide) ?_
    cases hf
    exact x_iret C hm trivial dX10_said_13
  have hf := xif_f hc1 hf
  refine lv_iload_n hx hb dX10_said_14 rfl (lv_at hl 1 rfl) ?_
  refine x_callSi (As := [.int a1]) (rest := []) C hm (c_X10_isPage l E b M Lm a1 rfl) tc_X10_isPage tm_RX10_445 tz_X10_isPage tn_RX10 td_X10_isPage rfl rfl ⟨Nat.le_of_ble_eq_true rfl, Nat.le_of_ble_eq_true rfl⟩ rfl hl.1 rfl (Nat.le_of_ble_eq_true rfl) ⟨Nat.zero_le _, Nat.zero_le _⟩ dX10_said_15 (fun H locs hP2 hm => ?_)
  refine lv_if_eq (tgt := 41) hx hb dX10_said_18 (by decide) (fun hc3 => ?_) (fun hc3 => ?_)
  · have hf := xif_t hc3 hf
    refine lv_bipush (v := (-2 : Int32)) hx hb dX10_said_41 (by decide) ?_
    cases hf
    exact x_iret C hm trivial dX10_said_43
  have hf := xif_f hc3 hf
  refine lv_iload_n hx hb dX10_said_21 rfl (lv_at hl 2 rfl) ?_
  refine lv_iconst (v := (0 : Int32)) hx hb dX10_said_22 (by decide) ?_
  refine lv_iconst (v := (1 : Int32)) hx hb dX10_said_23 (by decide) ?_
  refine x_callSi (As := [.int a2, .int (0 : Int32), .int (1 : Int32)]) (rest := []) C hm (c_X10_isIn l E b M Lm a2 (0 : Int32) (1 : Int32) rfl) tc_X10_isIn tm_RX10_59 tz_X10_isIn tn_RX10 td_X10_isIn rfl rfl ⟨Nat.le_of_ble_eq_true rfl, Nat.le_of_ble_eq_true rfl⟩ rfl hl.1 rfl (Nat.le_of_ble_eq_true rfl) ⟨Nat.zero_le _, Nat.zero_le _⟩ dX10_said_24 (fun H locs hP4 hm => ?_)
  refine lv_if_eq (tgt := 41) hx hb dX10_said_27 (by decide) (fun hc5 => ?_) (fun hc5 => ?_)
  · have hf := xif_t hc5 hf
    refine lv_bipush (v := (-2 : Int32)) hx hb dX10_said_41 (by decide) ?_
    cases hf
    exact x_iret C hm trivial dX10_said_43
  have hf := xif_f hc5 hf
  refine lv_aload_n hx hb dX10_said_30 rfl (lv_at hl 0 rfl) ?_
  refine x_get C hm inX10 rfl 0 (by decide) tf_RX10_7 cy_0 rfl dX10_said_31 ?_
  refine lv_iconst (v := (3 : Int32)) hx hb dX10_said_34 (by decide) ?_
  refine x_iald (j := 3) C hm cy_1 (by decide) dX10_said_35 (by decide) ?_
  refine lv_bipush (v := (8 : Int32)) hx hb dX10_said_36 (by decide) ?_
  refine lv_icmp_ne (tgt := 44) hx hb dX10_said_38 (by decide) (fun hc6 => ?_) (fun hc6 => ?_)
  rotate_left
  · have hf := xif_t hc6 hf
    refine lv_bipush (v := (-2 : Int32)) hx hb dX10_said_41 (by decide) ?_
    cases hf
    exact x_iret C hm trivial dX10_said_43
  have hf := xif_f hc6 hf
  refine lv_aload_n hx hb dX10_said_44 rfl (lv_at hl 0 rfl) ?_
  refine x_get C hm inX10 rfl 0 (by decide) tf_RX10_7 cy_0 rfl dX10_said_45 ?_
  refine lv_sipush (v := (322 : Int32)) hx hb dX10_said_48 (by decide) ?_
  refine lv_iconst (v := (2 : Int32)) hx hb dX10_said_51 (by decide) ?_
  refine lv_aload_n hx hb dX10_said_52 rfl (lv_at hl 0 rfl) ?_
  refine x_get C hm inX10 rfl 0 (by decide) tf_RX10_7 cy_0 rfl dX10_said_53 ?_
  refine lv_iconst (v := (3 : Int32)) hx hb dX10_said_56 (by decide) ?_
  refine x_iald (j := 3) C hm cy_1 (by decide) dX10_said_57 (by decide) ?_
  refine lv_imul hx hb dX10_said_58 ?_
  refine lv_iadd hx hb dX10_said_59 ?_
  refine lv_iload_n hx hb dX10_said_60 rfl (lv_at hl 1 rfl) ?_
  obtain ⟨hi7, hf⟩ := xif_s hf
  obtain ⟨M8, eM8, hf⟩ := xlet_x hf
  refine x_iast (j := (Int32.toNatClampNeg ((322 : Int32) + ((2 : Int32) * (M 1 3))))) (cf' := cY E b M8 Lm) C hm cy_1 hi7 dX10_said_61 rfl (by rw [eM8]; exact cyu_1) (by rw [eM8]; exact cY_o) (fun H locs hm => ?_)
  refine lv_aload_n hx hb dX10_said_62 rfl (lv_at hl 0 rfl) ?_
  refine x_get C hm inX10 rfl 0 (by decide) tf_RX10_7 cy_0 rfl dX10_said_63 ?_
  refine lv_sipush (v := (322 : Int32)) hx hb dX10_said_66 (by decide) ?_
  refine lv_iconst (v := (2 : Int32)) hx hb dX10_said_69 (by decide) ?_
  refine lv_aload_n hx hb dX10_said_70 rfl (lv_at hl 0 rfl) ?_
  refine x_get C hm inX10 rfl 0 (by decide) tf_RX10_7 cy_0 rfl dX10_said_71 ?_
  refine lv_iconst (v := (3 : Int32)) hx hb dX10_said_74 (by decide) ?_
  refine x_iald (j := 3) C hm cy_1 (by decide) dX10_said_75 (by decide) ?_
  refine lv_imul hx hb dX10_said_76 ?_
  refine lv_iadd hx hb dX10_said_77 ?_
  refine lv_iconst (v := (1 : Int32)) hx hb dX10_said_78 (by decide) ?_
  refine lv_iadd hx hb dX10_said_79 ?_
  refine lv_iload_n hx hb dX10_said_80 rfl (lv_at hl 2 rfl) ?_
  obtain ⟨hi9, hf⟩ := xif_s hf
  obtain ⟨M10, eM10, hf⟩ := xlet_x hf
  refine x_iast (j := (Int32.toNatClampNeg (((322 : Int32) + ((2 : Int32) * (M8 1 3))) + (1 : Int32)))) (cf' := cY E b M10 Lm) C hm cy_1 hi9 dX10_said_81 rfl (by rw [eM10]; exact cyu_1) (by rw [eM10]; exact cY_o) (fun H locs hm => ?_)
  refine lv_aload_n hx hb dX10_said_82 rfl (lv_at hl 0 rfl) ?_
  refine x_get C hm inX10 rfl 0 (by decide) tf_RX10_7 cy_0 rfl dX10_said_83 ?_
  refine lv_iconst (v := (3 : Int32)) hx hb dX10_said_86 (by decide) ?_
  refine lv_dup2_11 hx hb dX10_said_87 rfl rfl ?_
  refine x_iald (j := 3) C hm cy_1 (by decide) dX10_said_88 (by decide) ?_
  refine lv_iconst (v := (1 : Int32)) hx hb dX10_said_89 (by decide) ?_
  refine lv_iadd hx hb dX10_said_90 ?_
  obtain ⟨M11, eM11, hf⟩ := xlet_x hf
  refine x_iast (j := 3) (cf' := cY E b M11 Lm) C hm cy_1 (by decide) dX10_said_91 (by decide) (by rw [eM11]; exact cyu_1) (by rw [eM11]; exact cY_o) (fun H locs hm => ?_)
  refine lv_aload_n hx hb dX10_said_92 rfl (lv_at hl 0 rfl) ?_
  refine x_get C hm inX10 rfl 0 (by decide) tf_RX10_7 cy_0 rfl dX10_said_93 ?_
  refine lv_iconst (v := (3 : Int32)) hx hb dX10_said_96 (by decide) ?_
  refine x_iald (j := 3) C hm cy_1 (by decide) dX10_said_97 (by decide) ?_
  cases hf
  exact x_iret C hm trivial dX10_said_98
/-! ColouredHeapModel.same(II)Z -/
theorem dX10_same_0 : decode cX10_same 0 = .ok (.aload_n 0, 1) := by decide +kernel
theorem dX10_same_1 : decode cX10_same 1 = .ok (.iload_n 1, 1) := by decide +kernel
theorem dX10_same_2 : decode cX10_same 2 = .ok (.invokevirtual 464, 3) := by decide +kernel
theorem dX10_same_5 : decode cX10_same 5 = .ok (.ifCond .eq 24, 3) := by decide +kernel
theorem dX10_same_8 : decode cX10_same 8 = .ok (.aload_n 0, 1) := by decide +kernel
theorem dX10_same_9 : decode cX10_same 9 = .ok (.iload_n 2, 1) := by decide +kernel
theorem dX10_same_10 : decode cX10_same 10 = .ok (.invokevirtual 464, 3) := by decide +kernel
theorem dX10_same_13 : decode cX10_same 13 = .ok (.ifCond .eq 16, 3) := by decide +kernel
theorem dX10_same_16 : decode cX10_same 16 = .ok (.aload_n 0, 1) := by decide +kernel
theorem dX10_same_17 : decode cX10_same 17 = .ok (.iload_n 1, 1) := by decide +kernel
theorem dX10_same_18 : decode cX10_same 18 = .ok (.invokevirtual 67, 3) := by decide +kernel
theorem dX10_same_21 : decode cX10_same 21 = .ok (.aload_n 0, 1) := by decide +kernel
theorem dX10_same_22 : decode cX10_same 22 = .ok (.iload_n 2, 1) := by decide +kernel
theorem dX10_same_23 : decode cX10_same 23 = .ok (.invokevirtual 67, 3) := by decide +kernel
theorem dX10_same_26 : decode cX10_same 26 = .ok (.if_icmp .eq 5, 3) := by decide +kernel
theorem dX10_same_29 : decode cX10_same 29 = .ok (.iconst 0, 1) := by decide +kernel
theorem dX10_same_30 : decode cX10_same 30 = .ok (.ireturn, 1) := by decide +kernel
theorem dX10_same_31 : decode cX10_same 31 = .ok (.iconst 0, 1) := by decide +kernel
theorem dX10_same_32 : decode cX10_same 32 = .ok (.istore_n 3, 1) := by decide +kernel
theorem dX10_same_33 : decode cX10_same 33 = .ok (.iload_n 3, 1) := by decide +kernel
theorem dX10_same_34 : decode cX10_same 34 = .ok (.aload_n 0, 1) := by decide +kernel
theorem dX10_same_35 : decode cX10_same 35 = .ok (.iload_n 1, 1) := by decide +kernel
theorem dX10_same_36 : decode cX10_same 36 = .ok (.invokevirtual 67, 3) := by decide +kernel
theorem dX10_same_39 : decode cX10_same 39 = .ok (.if_icmp .ge 26, 3) := by decide +kernel
theorem dX10_same_42 : decode cX10_same 42 = .ok (.aload_n 0, 1) := by decide +kernel
theorem dX10_same_43 : decode cX10_same 43 = .ok (.iload_n 1, 1) := by decide +kernel
theorem dX10_same_44 : decode cX10_same 44 = .ok (.iload_n 3, 1) := by decide +kernel
theorem dX10_same_45 : decode cX10_same 45 = .ok (.invokevirtual 486, 3) := by decide +kernel
theorem dX10_same_48 : decode cX10_same 48 = .ok (.aload_n 0, 1) := by decide +kernel
theorem dX10_same_49 : decode cX10_same 49 = .ok (.iload_n 2, 1) := by decide +kernel
theorem dX10_same_50 : decode cX10_same 50 = .ok (.iload_n 3, 1) := by decide +kernel
theorem dX10_same_51 : decode cX10_same 51 = .ok (.invokevirtual 486, 3) := by decide +kernel
theorem dX10_same_54 : decode cX10_same 54 = .ok (.if_icmp .eq 5, 3) := by decide +kernel
theorem dX10_same_57 : decode cX10_same 57 = .ok (.iconst 0, 1) := by decide +kernel
theorem dX10_same_58 : decode cX10_same 58 = .ok (.ireturn, 1) := by decide +kernel
theorem dX10_same_59 : decode cX10_same 59 = .ok (.iinc 3 1, 3) := by decide +kernel
theorem dX10_same_62 : decode cX10_same 62 = .ok (.goto (-29), 3) := by decide +kernel
theorem dX10_same_65 : decode cX10_same 65 = .ok (.iconst 1, 1) := by decide +kernel
theorem dX10_same_66 : decode cX10_same 66 = .ok (.ireturn, 1) := by decide +kernel
def g_X10_same_33 (M : xm) (x18 : Int32) (x19 : Int32) : Nat → Int32 → Option ((Unit) ⊕ (Unit))
  | 0, _ => none
  | n + 1, x20 => xb1 (f_X10_fieldsOf M x18) (fun v22 => (if v22 ≤ x20 then some (Sum.inr ()) else xb1 (f_X10_leadsTo M x18 x20) (fun v26 => xb1 (f_X10_leadsTo M x19 x20) (fun v29 => (if v26 = v29 then xlet (x20 + (1 : Int32)) (fun v32 => g_X10_same_33 M x18 x19 n v32) else some (Sum.inl ()))))))
def f_X10_same (M : xm) (a1 : Int32) (a2 : Int32) : Option (Int32 × xm) := xb2 (f_X10_isReached M a1) (fun v2 M3 => (if v2 = 0 then some ((0 : Int32), M3) else xb2 (f_X10_isReached M3 a2) (fun v7 M8 => (if v7 = 0 then some ((0 : Int32), M8) else xb1 (f_X10_fieldsOf M8 a1) (fun v12 => xb1 (f_X10_fieldsOf M8 a2) (fun v15 => (if v12 = v15 then xs2 (g_X10_same_33 M8 a1 a2 xfuel (0 : Int32)) (fun q33 => some ((0 : Int32), M8)) (fun q33 => some ((1 : Int32), M8)) else some ((0 : Int32), M8))))))))
set_option maxHeartbeats 4000000 in
set_option maxRecDepth 20000 in
theorem j_X10_same_33 {p : Program} {l : Launch} {e : Env} {s : State} {m : MethodId} {args : Array Value} {below : List Frame} {meth : Method} {c : Code} {Q : State → Prop} {E : xE} {b : Nat} (C : xC p s m args meth c cX10_same 4 RX10 (some .boolean) E b) (M : xm) {Lm : xn} (x18 : Int32) (x19 : Int32) {r : (Unit) ⊕ (Unit)}
    (kx0 : ∀ q : Unit, r = Sum.inl q → ∀ (H : Heap) (locs : List Loc) (ls : Array Slot), xM E b NY (cY E b M Lm) s.heap H locs → lv_has ls 4 [] → W p l e (xR 7) s m args below meth c H locs 0 0 Q (F0 m 57 ls []))
    (kx1 : ∀ q : Unit, r = Sum.inr q → ∀ (H : Heap) (locs : List Loc) (ls : Array Slot), xM E b NY (cY E b M Lm) s.heap H locs → lv_has ls 4 [] → W p l e (xR 7) s m args below meth c H locs 0 0 Q (F0 m 65 ls [])) :
    ∀ (n : Nat) (x20 : Int32) (H : Heap) (locs : List Loc) (ls : Array Slot), g_X10_same_33 M x18 x19 n x20 = some r → xM E b NY (cY E b M Lm) s.heap H locs → lv_has ls 4 [(0, .ref (b + 0)), (1, .int x18), (2, .int x19), (3, .int x20)] → W p l e (xR 7) s m args below meth c H locs 0 0 Q (F0 m 33 ls []) := by
  have hx := C.1.1
  have hb := C.1.2.1
  intro n
  induction n with
  | zero =>
    intro x20 H locs ls hf hm hl
    rw [g_X10_same_33] at hf
    cases hf
  | succ n ih =>
    intro x20 H locs ls hf hm hl
    rw [g_X10_same_33] at hf
    refine lv_iload_n hx hb dX10_same_33 rfl (lv_at hl 3 rfl) ?_
    refine lv_aload_n hx hb dX10_same_34 rfl (lv_at hl 0 rfl) ?_
    refine lv_iload_n hx hb dX10_same_35 rfl (lv_at hl 1 rfl) ?_
    obtain ⟨v22, hq21, hf⟩ := xb1_e hf
    refine x_callVi (As := [.int x18]) (rest := [.int x20]) C hm (c_X10_fieldsOf l E b M Lm x18 hq21) rfl cy_0 tc_X10_fieldsOf tm_RX10_67 ti_X10_fieldsOf ts_X10_fieldsOf tn_RX10 td_X10_fieldsOf rfl rfl ⟨Nat.le_of_ble_eq_true rfl, Nat.le_of_ble_eq_true rfl⟩ rfl hl.1 rfl (Nat.le_of_ble_eq_true rfl) ⟨Nat.zero_le _, Nat.zero_le _⟩ dX10_same_36 (fun H locs hP23 hm => ?_)
    refine lv_icmp_ge (tgt := 65) hx hb dX10_same_39 (by decide) (fun hc24 => ?_) (fun hc24 => ?_)
    · have hf := xif_t hc24 hf
      cases hf
      exact kx1 () rfl H locs ls hm (lv_sub hl [] rfl)
    have hf := xif_f hc24 hf
    refine lv_aload_n hx hb dX10_same_42 rfl (lv_at hl 0 rfl) ?_
    refine lv_iload_n hx hb dX10_same_43 rfl (lv_at hl 1 rfl) ?_
    refine lv_iload_n hx hb dX10_same_44 rfl (lv_at hl 3 rfl) ?_
    obtain ⟨v26, hq25, hf⟩ := xb1_e hf
    refine x_callVi (As := [.int x18, .int x20]) (rest := []) C hm (c_X10_leadsTo l E b M Lm x18 x20 hq25) rfl cy_0 tc_X10_leadsTo tm_RX10_486 ti_X10_leadsTo ts_X10_leadsTo tn_RX10 td_X10_leadsTo rfl rfl ⟨Nat.le_of_ble_eq_true rfl, Nat.le_of_ble_eq_true rfl⟩ rfl hl.1 rfl (Nat.le_of_ble_eq_true rfl) ⟨Nat.zero_le _, Nat.zero_le _⟩ dX10_same_45 (fun H locs hP27 hm => ?_)
    refine lv_aload_n hx hb dX10_same_48 rfl (lv_at hl 0 rfl) ?_
    refine lv_iload_n hx hb dX10_same_49 rfl (lv_at hl 2 rfl) ?_
    refine lv_iload_n hx hb dX10_same_50 rfl (lv_at hl 3 rfl) ?_
    obtain ⟨v29, hq28, hf⟩ := xb1_e hf
    refine x_callVi (As := [.int x19, .int x20]) (rest := [.int v26]) C hm (c_X10_leadsTo l E b M Lm x19 x20 hq28) rfl cy_0 tc_X10_leadsTo tm_RX10_486 ti_X10_leadsTo ts_X10_leadsTo tn_RX10 td_X10_leadsTo rfl rfl ⟨Nat.le_of_ble_eq_true rfl, Nat.le_of_ble_eq_true rfl⟩ rfl hl.1 rfl (Nat.le_of_ble_eq_true rfl) ⟨Nat.zero_le _, Nat.zero_le _⟩ dX10_same_51 (fun H locs hP30 hm => ?_)
    refine lv_icmp_eq (tgt := 59) hx hb dX10_same_54 (by decide) (fun hc31 => ?_) (fun hc31 => ?_)
    rotate_left
    · have hf := xif_f hc31 hf
      cases hf
      exact kx0 () rfl H locs ls hm (lv_sub hl [] rfl)
    have hf := xif_t hc31 hf
    obtain ⟨v32, ev32, hf⟩ := xlet_x hf
    refine lv_iinc (v := v32) (lv' := [(3, .int v32), (0, .ref (b + 0)), (1, .int x18), (2, .int x19)]) hx hb dX10_same_59 hl (k := 3) rfl (by rw [ev32]; rfl) (by decide) rfl (fun ls hl => ?_)
    refine lv_goto (tgt := 33) hx hb dX10_same_62 (by decide) ?_
    exact ih v32 H locs ls hf hm (lv_sub hl [1, 2, 3, 0] rfl)
set_option maxHeartbeats 4000000 in
set_option maxRecDepth 20000 in
theorem c_X10_same (l : Launch) (E : xE) (b : Nat) (M : xm) (Lm : xn) (a1 : Int32) (a2 : Int32) {r : Int32} {M' : xm} (hf : f_X10_same M a1 a2 = some (r, M')) :
    xMet l E b NY yX10_same cX10_same 4 (some .boolean) (xR 7) [.ref (b + 0), .int a1, .int a2] (cY E b M Lm) (some (.int r)) (xbo r = true) (cY E b M' Lm) := by
  refine xMet.ofW (own := RX10) (by decide) rfl (Nat.le_of_ble_eq_true rfl) ?_
  intro p e s m below meth c H locs ls C hm hl
  have hx := C.1.1
  have hb := C.1.2.1
  have hl : lv_has ls 4 [(0, .ref (b + 0)), (1, .int a1), (2, .int a2)] := hl
  unfold f_X10_same at hf
  refine lv_aload_n hx hb dX10_same_0 rfl (lv_at hl 0 rfl) ?_
  refine lv_iload_n hx hb dX10_same_1 rfl (lv_at hl 1 rfl) ?_
  obtain ⟨v2, M3, hq1, hf⟩ := xb2_e hf
  refine x_callVi (As := [.int a1]) (rest := []) C hm (c_X10_isReached l E b M Lm a1 hq1) rfl cy_0 tc_X10_isReached tm_RX10_464 ti_X10_isReached ts_X10_isReached tn_RX10 td_X10_isReached rfl rfl ⟨Nat.le_of_ble_eq_true rfl, Nat.le_of_ble_eq_true rfl⟩ rfl hl.1 rfl (Nat.le_of_ble_eq_true rfl) ⟨Nat.zero_le _, Nat.zero_le _⟩ dX10_same_2 (fun H locs hP4 hm => ?_)
  refine lv_if_eq (tgt := 29) hx hb dX10_same_5 (by decide) (fun hc5 => ?_) (fun hc5 => ?_)
  · have hf := xif_t hc5 hf
    refine lv_iconst (v := (0 : Int32)) hx hb dX10_same_29 (by decide) ?_
    cases hf
    exact x_zret C hm (by decide) (by decide) dX10_same_30
  have hf := xif_f hc5 hf
  refine lv_aload_n hx hb dX10_same_8 rfl (lv_at hl 0 rfl) ?_
  refine lv_iload_n hx hb dX10_same_9 rfl (lv_at hl 2 rfl) ?_
  obtain ⟨v7, M8, hq6, hf⟩ := xb2_e hf
  refine x_callVi (As := [.int a2]) (rest := []) C hm (c_X10_isReached l E b M3 Lm a2 hq6) rfl cy_0 tc_X10_isReached tm_RX10_464 ti_X10_isReached ts_X10_isReached tn_RX10 td_X10_isReached rfl rfl ⟨Nat.le_of_ble_eq_true rfl, Nat.le_of_ble_eq_true rfl⟩ rfl hl.1 rfl (Nat.le_of_ble_eq_true rfl) ⟨Nat.zero_le _, Nat.zero_le _⟩ dX10_same_10 (fun H locs hP9 hm => ?_)
  refine lv_if_eq (tgt := 29) hx hb dX10_same_13 (by decide) (fun hc10 => ?_) (fun hc10 => ?_)
  · have hf := xif_t hc10 hf
    refine lv_iconst (v := (0 : Int32)) hx hb dX10_same_29 (by decide) ?_
    cases hf
    exact x_zret C hm (by decide) (by decide) dX10_same_30
  have hf := xif_f hc10 hf
  refine lv_aload_n hx hb dX10_same_16 rfl (lv_at hl 0 rfl) ?_
  refine lv_iload_n hx hb dX10_same_17 rfl (lv_at hl 1 rfl) ?_
  obtain ⟨v12, hq11, hf⟩ := xb1_e hf
  refine x_callVi (As := [.int a1]) (rest := []) C hm (c_X10_fieldsOf l E b M8 Lm a1 hq11) rfl cy_0 tc_X10_fieldsOf tm_RX10_67 ti_X10_fieldsOf ts_X10_fieldsOf tn_RX10 td_X10_fieldsOf rfl rfl ⟨Nat.le_of_ble_eq_true rfl, Nat.le_of_ble_eq_true rfl⟩ rfl hl.1 rfl (Nat.le_of_ble_eq_true rfl) ⟨Nat.zero_le _, Nat.zero_le _⟩ dX10_same_18 (fun H locs hP13 hm => ?_)
  refine lv_aload_n hx hb dX10_same_21 rfl (lv_at hl 0 rfl) ?_
  refine lv_iload_n hx hb dX10_same_22 rfl (lv_at hl 2 rfl) ?_
  obtain ⟨v15, hq14, hf⟩ := xb1_e hf
  refine x_callVi (As := [.int a2]) (rest := [.int v12]) C hm (c_X10_fieldsOf l E b M8 Lm a2 hq14) rfl cy_0 tc_X10_fieldsOf tm_RX10_67 ti_X10_fieldsOf ts_X10_fieldsOf tn_RX10 td_X10_fieldsOf rfl rfl ⟨Nat.le_of_ble_eq_true rfl, Nat.le_of_ble_eq_true rfl⟩ rfl hl.1 rfl (Nat.le_of_ble_eq_true rfl) ⟨Nat.zero_le _, Nat.zero_le _⟩ dX10_same_23 (fun H locs hP16 hm => ?_)
  refine lv_icmp_eq (tgt := 31) hx hb dX10_same_26 (by decide) (fun hc17 => ?_) (fun hc17 => ?_)
  rotate_left
  · have hf := xif_f hc17 hf
    refine lv_iconst (v := (0 : Int32)) hx hb dX10_same_29 (by decide) ?_
    cases hf
    exact x_zret C hm (by decide) (by decide) dX10_same_30
  have hf := xif_t hc17 hf
  refine lv_iconst (v := (0 : Int32)) hx hb dX10_same_31 (by decide) ?_
  refine lv_istore_n (lv' := [(3, .int (0 : Int32)), (0, .ref (b + 0)), (1, .int a1), (2, .int a2)]) hx hb dX10_same_32 rfl hl (by decide) rfl (fun ls hl => ?_)
  rcases xs2_e hf with ⟨q33, hq, hf⟩ | ⟨q33, hq, hf⟩
  · refine j_X10_same_33 C M8 a1 a2 (r := Sum.inl q33) (fun q2 hr H locs ls hm hl => ?_) (fun q2 hr => by cases hr) xfuel (0 : Int32) H locs ls hq hm (lv_sub hl [1, 2, 3, 0] rfl)
    cases hr
    refine lv_iconst (v := (0 : Int32)) hx hb dX10_same_57 (by decide) ?_
    cases hf
    exact x_zret C hm (by decide) (by decide) dX10_same_58
  · refine j_X10_same_33 C M8 a1 a2 (r := Sum.inr q33) (fun q2 hr => by cases hr) (fun q2 hr H locs ls hm hl => ?_) xfuel (0 : Int32) H locs ls hq hm (lv_sub hl [1, 2, 3, 0] rfl)
    cases hr
    refine lv_iconst (v := (1 : Int32)) hx hb dX10_same_65 (by decide) ?_
    cases hf
    exact x_zret C hm (by decide) (by decide) dX10_same_66
/-! ColouredHeapModel.shape(II)I -/
theorem dX10_shape_0 : decode cX10_shape 0 = .ok (.aload_n 0, 1) := by decide +kernel
theorem dX10_shape_1 : decode cX10_shape 1 = .ok (.iload_n 1, 1) := by decide +kernel
theorem dX10_shape_2 : decode cX10_shape 2 = .ok (.invokevirtual 464, 3) := by decide +kernel
theorem dX10_shape_5 : decode cX10_shape 5 = .ok (.ifCond .eq 27, 3) := by decide +kernel
theorem dX10_shape_8 : decode cX10_shape 8 = .ok (.iload_n 2, 1) := by decide +kernel
theorem dX10_shape_9 : decode cX10_shape 9 = .ok (.iconst 0, 1) := by decide +kernel
theorem dX10_shape_10 : decode cX10_shape 10 = .ok (.aload_n 0, 1) := by decide +kernel
theorem dX10_shape_11 : decode cX10_shape 11 = .ok (.iload_n 1, 1) := by decide +kernel
theorem dX10_shape_12 : decode cX10_shape 12 = .ok (.invokevirtual 67, 3) := by decide +kernel
theorem dX10_shape_15 : decode cX10_shape 15 = .ok (.iconst 1, 1) := by decide +kernel
theorem dX10_shape_16 : decode cX10_shape 16 = .ok (.isub, 1) := by decide +kernel
theorem dX10_shape_17 : decode cX10_shape 17 = .ok (.invokestatic 59, 3) := by decide +kernel
theorem dX10_shape_20 : decode cX10_shape 20 = .ok (.ifCond .eq 12, 3) := by decide +kernel
theorem dX10_shape_23 : decode cX10_shape 23 = .ok (.aload_n 0, 1) := by decide +kernel
theorem dX10_shape_24 : decode cX10_shape 24 = .ok (.iload_n 1, 1) := by decide +kernel
theorem dX10_shape_25 : decode cX10_shape 25 = .ok (.iload_n 2, 1) := by decide +kernel
theorem dX10_shape_26 : decode cX10_shape 26 = .ok (.invokevirtual 486, 3) := by decide +kernel
theorem dX10_shape_29 : decode cX10_shape 29 = .ok (.goto 4, 3) := by decide +kernel
theorem dX10_shape_32 : decode cX10_shape 32 = .ok (.iconst (-1), 1) := by decide +kernel
theorem dX10_shape_33 : decode cX10_shape 33 = .ok (.ireturn, 1) := by decide +kernel
def f_X10_shape (M : xm) (a1 : Int32) (a2 : Int32) : Option (Int32 × xm) := xb2 (f_X10_isReached M a1) (fun v2 M3 => (if v2 = 0 then some ((-1 : Int32), M3) else xb1 (f_X10_fieldsOf M3 a1) (fun v7 => (if (f_X10_isIn a2 (0 : Int32) (v7 - (1 : Int32))) = 0 then some ((-1 : Int32), M3) else xb1 (f_X10_leadsTo M3 a1 a2) (fun v12 => some (v12, M3))))))
set_option maxHeartbeats 4000000 in
set_option maxRecDepth 20000 in
theorem c_X10_shape (l : Launch) (E : xE) (b : Nat) (M : xm) (Lm : xn) (a1 : Int32) (a2 : Int32) {r : Int32} {M' : xm} (hf : f_X10_shape M a1 a2 = some (r, M')) :
    xMet l E b NY yX10_shape cX10_shape 3 (some .int) (xR 7) [.ref (b + 0), .int a1, .int a2] (cY E b M Lm) (some (.int r)) True (cY E b M' Lm) := by
  refine xMet.ofW (own := RX10) (by decide) rfl (Nat.le_of_ble_eq_true rfl) ?_
  intro p e s m below meth c H locs ls C hm hl
  have hx := C.1.1
  have hb := C.1.2.1
  have hl : lv_has ls 3 [(0, .ref (b + 0)), (1, .int a1), (2, .int a2)] := hl
  unfold f_X10_shape at hf
  refine lv_aload_n hx hb dX10_shape_0 rfl (lv_at hl 0 rfl) ?_
  refine lv_iload_n hx hb dX10_shape_1 rfl (lv_at hl 1 rfl) ?_
  obtain ⟨v2, M3, hq1, hf⟩ := xb2_e hf
  refine x_callVi (As := [.int a1]) (rest := []) C hm (c_X10_isReached l E b M Lm a1 hq1) rfl cy_0 tc_X10_isReached tm_RX10_464 ti_X10_isReached ts_X10_isReached tn_RX10 td_X10_isReached rfl rfl ⟨Nat.le_of_ble_eq_true rfl, Nat.le_of_ble_eq_true rfl⟩ rfl hl.1 rfl (Nat.le_of_ble_eq_true rfl) ⟨Nat.zero_le _, Nat.zero_le _⟩ dX10_shape_2 (fun H locs hP4 hm => ?_)
  refine lv_if_eq (tgt := 32) hx hb dX10_shape_5 (by decide) (fun hc5 => ?_) (fun hc5 => ?_)
  · have hf := xif_t hc5 hf
    refine lv_iconst (v := (-1 : Int32)) hx hb dX10_shape_32 (by decide) ?_
    cases hf
    exact x_iret C hm trivial dX10_shape_33
  have hf := xif_f hc5 hf
  refine lv_iload_n hx hb dX10_shape_8 rfl (lv_at hl 2 rfl) ?_
  refine lv_iconst (v := (0 : Int32)) hx hb dX10_shape_9 (by decide) ?_
  refine lv_aload_n hx hb dX10_shape_10 rfl (lv_at hl 0 rfl) ?_
  refine lv_iload_n hx hb dX10_shape_11 rfl (lv_at hl 1 rfl) ?_
  obtain ⟨v7, hq6, hf⟩ := xb1_e hf
  refine x_callVi (As := [.int a1]) (rest := [.int (0 : Int32), .int a2]) C hm (c_X10_fieldsOf l E b M3 Lm a1 hq6) rfl cy_0 tc_X10_fieldsOf tm_RX10_67 ti_X10_fieldsOf ts_X10_fieldsOf tn_RX10 td_X10_fieldsOf rfl rfl ⟨Nat.le_of_ble_eq_true rfl, Nat.le_of_ble_eq_true rfl⟩ rfl hl.1 rfl (Nat.le_of_ble_eq_true rfl) ⟨Nat.zero_le _, Nat.zero_le _⟩ dX10_shape_12 (fun H locs hP8 hm => ?_)
  refine lv_iconst (v := (1 : Int32)) hx hb dX10_shape_15 (by decide) ?_
  refine lv_isub hx hb dX10_shape_16 ?_
  refine x_callSi (As := [.int a2, .int (0 : Int32), .int (v7 - (1 : Int32))]) (rest := []) C hm (c_X10_isIn l E b M3 Lm a2 (0 : Int32) (v7 - (1 : Int32)) rfl) tc_X10_isIn tm_RX10_59 tz_X10_isIn tn_RX10 td_X10_isIn rfl rfl ⟨Nat.le_of_ble_eq_true rfl, Nat.le_of_ble_eq_true rfl⟩ rfl hl.1 rfl (Nat.le_of_ble_eq_true rfl) ⟨Nat.zero_le _, Nat.zero_le _⟩ dX10_shape_17 (fun H locs hP9 hm => ?_)
  refine lv_if_eq (tgt := 32) hx hb dX10_shape_20 (by decide) (fun hc10 => ?_) (fun hc10 => ?_)
  · have hf := xif_t hc10 hf
    refine lv_iconst (v := (-1 : Int32)) hx hb dX10_shape_32 (by decide) ?_
    cases hf
    exact x_iret C hm trivial dX10_shape_33
  have hf := xif_f hc10 hf
  refine lv_aload_n hx hb dX10_shape_23 rfl (lv_at hl 0 rfl) ?_
  refine lv_iload_n hx hb dX10_shape_24 rfl (lv_at hl 1 rfl) ?_
  refine lv_iload_n hx hb dX10_shape_25 rfl (lv_at hl 2 rfl) ?_
  obtain ⟨v12, hq11, hf⟩ := xb1_e hf
  refine x_callVi (As := [.int a1, .int a2]) (rest := []) C hm (c_X10_leadsTo l E b M3 Lm a1 a2 hq11) rfl cy_0 tc_X10_leadsTo tm_RX10_486 ti_X10_leadsTo ts_X10_leadsTo tn_RX10 td_X10_leadsTo rfl rfl ⟨Nat.le_of_ble_eq_true rfl, Nat.le_of_ble_eq_true rfl⟩ rfl hl.1 rfl (Nat.le_of_ble_eq_true rfl) ⟨Nat.zero_le _, Nat.zero_le _⟩ dX10_shape_26 (fun H locs hP13 hm => ?_)
  refine lv_goto (tgt := 33) hx hb dX10_shape_29 (by decide) ?_
  cases hf
  exact x_iret C hm trivial dX10_shape_33
/-! ColouredHeapModel.stale()I -/
theorem dX10_stale_0 : decode cX10_stale 0 = .ok (.aload_n 0, 1) := by decide +kernel
theorem dX10_stale_1 : decode cX10_stale 1 = .ok (.iconst (-1), 1) := by decide +kernel
theorem dX10_stale_2 : decode cX10_stale 2 = .ok (.invokevirtual 461, 3) := by decide +kernel
theorem dX10_stale_5 : decode cX10_stale 5 = .ok (.iconst 0, 1) := by decide +kernel
theorem dX10_stale_6 : decode cX10_stale 6 = .ok (.istore_n 1, 1) := by decide +kernel
theorem dX10_stale_7 : decode cX10_stale 7 = .ok (.iconst 0, 1) := by decide +kernel
theorem dX10_stale_8 : decode cX10_stale 8 = .ok (.istore_n 2, 1) := by decide +kernel
theorem dX10_stale_9 : decode cX10_stale 9 = .ok (.iload_n 2, 1) := by decide +kernel
theorem dX10_stale_10 : decode cX10_stale 10 = .ok (.bipush 6, 2) := by decide +kernel
theorem dX10_stale_12 : decode cX10_stale 12 = .ok (.if_icmp .ge 33, 3) := by decide +kernel
theorem dX10_stale_15 : decode cX10_stale 15 = .ok (.iload_n 1, 1) := by decide +kernel
theorem dX10_stale_16 : decode cX10_stale 16 = .ok (.aload_n 0, 1) := by decide +kernel
theorem dX10_stale_17 : decode cX10_stale 17 = .ok (.aload_n 0, 1) := by decide +kernel
theorem dX10_stale_18 : decode cX10_stale 18 = .ok (.getfield 7, 3) := by decide +kernel
theorem dX10_stale_21 : decode cX10_stale 21 = .ok (.bipush 29, 2) := by decide +kernel
theorem dX10_stale_23 : decode cX10_stale 23 = .ok (.iload_n 2, 1) := by decide +kernel
theorem dX10_stale_24 : decode cX10_stale 24 = .ok (.iadd, 1) := by decide +kernel
theorem dX10_stale_25 : decode cX10_stale 25 = .ok (.iaload, 1) := by decide +kernel
theorem dX10_stale_26 : decode cX10_stale 26 = .ok (.invokevirtual 328, 3) := by decide +kernel
theorem dX10_stale_29 : decode cX10_stale 29 = .ok (.ifCond .eq 7, 3) := by decide +kernel
theorem dX10_stale_32 : decode cX10_stale 32 = .ok (.iconst 0, 1) := by decide +kernel
theorem dX10_stale_33 : decode cX10_stale 33 = .ok (.goto 4, 3) := by decide +kernel
theorem dX10_stale_36 : decode cX10_stale 36 = .ok (.iconst 1, 1) := by decide +kernel
theorem dX10_stale_37 : decode cX10_stale 37 = .ok (.iadd, 1) := by decide +kernel
theorem dX10_stale_38 : decode cX10_stale 38 = .ok (.istore_n 1, 1) := by decide +kernel
theorem dX10_stale_39 : decode cX10_stale 39 = .ok (.iinc 2 1, 3) := by decide +kernel
theorem dX10_stale_42 : decode cX10_stale 42 = .ok (.goto (-33), 3) := by decide +kernel
theorem dX10_stale_45 : decode cX10_stale 45 = .ok (.iconst 0, 1) := by decide +kernel
theorem dX10_stale_46 : decode cX10_stale 46 = .ok (.istore_n 2, 1) := by decide +kernel
theorem dX10_stale_47 : decode cX10_stale 47 = .ok (.iload_n 2, 1) := by decide +kernel
theorem dX10_stale_48 : decode cX10_stale 48 = .ok (.bipush 64, 2) := by decide +kernel
theorem dX10_stale_50 : decode cX10_stale 50 = .ok (.if_icmp .ge 62, 3) := by decide +kernel
theorem dX10_stale_53 : decode cX10_stale 53 = .ok (.iconst 1, 1) := by decide +kernel
theorem dX10_stale_54 : decode cX10_stale 54 = .ok (.istore_n 3, 1) := by decide +kernel
theorem dX10_stale_55 : decode cX10_stale 55 = .ok (.aload_n 0, 1) := by decide +kernel
theorem dX10_stale_56 : decode cX10_stale 56 = .ok (.getfield 46, 3) := by decide +kernel
theorem dX10_stale_59 : decode cX10_stale 59 = .ok (.iload_n 2, 1) := by decide +kernel
theorem dX10_stale_60 : decode cX10_stale 60 = .ok (.iaload, 1) := by decide +kernel
theorem dX10_stale_61 : decode cX10_stale 61 = .ok (.iconst (-1), 1) := by decide +kernel
theorem dX10_stale_62 : decode cX10_stale 62 = .ok (.if_icmp .eq 44, 3) := by decide +kernel
theorem dX10_stale_65 : decode cX10_stale 65 = .ok (.iload_n 3, 1) := by decide +kernel
theorem dX10_stale_66 : decode cX10_stale 66 = .ok (.aload_n 0, 1) := by decide +kernel
theorem dX10_stale_67 : decode cX10_stale 67 = .ok (.iload_n 2, 1) := by decide +kernel
theorem dX10_stale_68 : decode cX10_stale 68 = .ok (.invokevirtual 67, 3) := by decide +kernel
theorem dX10_stale_71 : decode cX10_stale 71 = .ok (.if_icmp .gt 35, 3) := by decide +kernel
theorem dX10_stale_74 : decode cX10_stale 74 = .ok (.iload_n 1, 1) := by decide +kernel
theorem dX10_stale_75 : decode cX10_stale 75 = .ok (.aload_n 0, 1) := by decide +kernel
theorem dX10_stale_76 : decode cX10_stale 76 = .ok (.aload_n 0, 1) := by decide +kernel
theorem dX10_stale_77 : decode cX10_stale 77 = .ok (.getfield 7, 3) := by decide +kernel
theorem dX10_stale_80 : decode cX10_stale 80 = .ok (.bipush 41, 2) := by decide +kernel
theorem dX10_stale_82 : decode cX10_stale 82 = .ok (.iload_n 2, 1) := by decide +kernel
theorem dX10_stale_83 : decode cX10_stale 83 = .ok (.iadd, 1) := by decide +kernel
theorem dX10_stale_84 : decode cX10_stale 84 = .ok (.iload_n 3, 1) := by decide +kernel
theorem dX10_stale_85 : decode cX10_stale 85 = .ok (.iadd, 1) := by decide +kernel
theorem dX10_stale_86 : decode cX10_stale 86 = .ok (.iaload, 1) := by decide +kernel
theorem dX10_stale_87 : decode cX10_stale 87 = .ok (.invokevirtual 328, 3) := by decide +kernel
theorem dX10_stale_90 : decode cX10_stale 90 = .ok (.ifCond .eq 7, 3) := by decide +kernel
theorem dX10_stale_93 : decode cX10_stale 93 = .ok (.iconst 0, 1) := by decide +kernel
theorem dX10_stale_94 : decode cX10_stale 94 = .ok (.goto 4, 3) := by decide +kernel
theorem dX10_stale_97 : decode cX10_stale 97 = .ok (.iconst 1, 1) := by decide +kernel
theorem dX10_stale_98 : decode cX10_stale 98 = .ok (.iadd, 1) := by decide +kernel
theorem dX10_stale_99 : decode cX10_stale 99 = .ok (.istore_n 1, 1) := by decide +kernel
theorem dX10_stale_100 : decode cX10_stale 100 = .ok (.iinc 3 1, 3) := by decide +kernel
theorem dX10_stale_103 : decode cX10_stale 103 = .ok (.goto (-48), 3) := by decide +kernel
theorem dX10_stale_106 : decode cX10_stale 106 = .ok (.iinc 2 1, 3) := by decide +kernel
theorem dX10_stale_109 : decode cX10_stale 109 = .ok (.goto (-62), 3) := by decide +kernel
theorem dX10_stale_112 : decode cX10_stale 112 = .ok (.iload_n 1, 1) := by decide +kernel
theorem dX10_stale_113 : decode cX10_stale 113 = .ok (.ireturn, 1) := by decide +kernel
def g_X10_stale_9 (M : xm) : Nat → Int32 → Int32 → Option ((Int32))
  | 0, _, _ => none
  | n + 1, x4, x5 => (if (6 : Int32) ≤ x5 then some (x4) else if xin ((29 : Int32) + x5) 9878 = true then (if (f_X10_isGood M (M 1 (Int32.toNatClampNeg ((29 : Int32) + x5)))) = 0 then xlet (x4 + (1 : Int32)) (fun v11 => xlet (x5 + (1 : Int32)) (fun v12 => g_X10_stale_9 M n v11 v12)) else xlet (x4 + (0 : Int32)) (fun v13 => xlet (x5 + (1 : Int32)) (fun v14 => g_X10_stale_9 M n v13 v14))) else none)
def g_X10_stale_55 (M : xm) (x21 : Int32) : Nat → Int32 → Int32 → Option ((Int32))
  | 0, _, _ => none
  | n + 1, x20, x22 => if xin x21 64 = true then (if (M 10 (Int32.toNatClampNeg x21)) = (-1 : Int32) then some (x20) else xb1 (f_X10_fieldsOf M x21) (fun v27 => (if v27 < x22 then some (x20) else if xin (((41 : Int32) + x21) + x22) 9878 = true then (if (f_X10_isGood M (M 1 (Int32.toNatClampNeg (((41 : Int32) + x21) + x22)))) = 0 then xlet (x20 + (1 : Int32)) (fun v33 => xlet (x22 + (1 : Int32)) (fun v34 => g_X10_stale_55 M x21 n v33 v34)) else xlet (x20 + (0 : Int32)) (fun v35 => xlet (x22 + (1 : Int32)) (fun v36 => g_X10_stale_55 M x21 n v35 v36))) else none))) else none
def g_X10_stale_47 (M : xm) : Nat → Int32 → Int32 → Option ((Int32))
  | 0, _, _ => none
  | n + 1, x16, x17 => (if (64 : Int32) ≤ x17 then some (x16) else xb1 (g_X10_stale_55 M x17 xfuel x16 (1 : Int32)) (fun v37 => xlet (x17 + (1 : Int32)) (fun v38 => g_X10_stale_47 M n v37 v38)))
def f_X10_stale (M : xm) : Option (Int32 × xm) := xb1 (f_X10_layLoads M (-1 : Int32)) (fun M2 => xb1 (g_X10_stale_9 M2 xfuel (0 : Int32) (0 : Int32)) (fun v15 => xb1 (g_X10_stale_47 M2 xfuel v15 (0 : Int32)) (fun v39 => some (v39, M2))))
set_option maxHeartbeats 4000000 in
set_option maxRecDepth 20000 in
theorem j_X10_stale_9 {p : Program} {l : Launch} {e : Env} {s : State} {m : MethodId} {args : Array Value} {below : List Frame} {meth : Method} {c : Code} {Q : State → Prop} {E : xE} {b : Nat} (C : xC p s m args meth c cX10_stale 4 RX10 (some .int) E b) (M : xm) {Lm : xn} {y6 : Int32}
    (kx0 : ∀ (H : Heap) (locs : List Loc) (ls : Array Slot), xM E b NY (cY E b M Lm) s.heap H locs → lv_has ls 4 [(0, .ref (b + 0)), (1, .int y6)] → W p l e (xR 6) s m args below meth c H locs 0 0 Q (F0 m 45 ls [])) :
    ∀ (n : Nat) (x4 : Int32) (x5 : Int32) (H : Heap) (locs : List Loc) (ls : Array Slot), g_X10_stale_9 M n x4 x5 = some y6 → xM E b NY (cY E b M Lm) s.heap H locs → lv_has ls 4 [(0, .ref (b + 0)), (1, .int x4), (2, .int x5)] → W p l e (xR 6) s m args below meth c H locs 0 0 Q (F0 m 9 ls []) := by
  have hx := C.1.1
  have hb := C.1.2.1
  intro n
  induction n with
  | zero =>
    intro x4 x5 H locs ls hf hm hl
    rw [g_X10_stale_9] at hf
    cases hf
  | succ n ih =>
    intro x4 x5 H locs ls hf hm hl
    rw [g_X10_stale_9] at hf
    refine lv_iload_n hx hb dX10_stale_9 rfl (lv_at hl 2 rfl) ?_
    refine lv_bipush (v := (6 : Int32)) hx hb dX10_stale_10 (by decide) ?_
    refine lv_icmp_ge (tgt := 45) hx hb dX10_stale_12 (by decide) (fun hc7 => ?_) (fun hc7 => ?_)
    · have hf := xif_t hc7 hf
      cases hf
      exact kx0 H locs ls hm (lv_sub hl [0, 1] rfl)
    have hf := xif_f hc7 hf
    refine lv_iload_n hx hb dX10_stale_15 rfl (lv_at hl 1 rfl) ?_
    refine lv_aload_n hx hb dX10_stale_16 rfl (lv_at hl 0 rfl) ?_
    refine lv_aload_n hx hb dX10_stale_17 rfl (lv_at hl 0 rfl) ?_
    refine x_get C hm inX10 rfl 0 (by decide) tf_RX10_7 cy_0 rfl dX10_stale_18 ?_
    refine lv_bipush (v := (29 : Int32)) hx hb dX10_stale_21 (by decide) ?_
    refine lv_iload_n hx hb dX10_stale_23 rfl (lv_at hl 2 rfl) ?_
    refine lv_iadd hx hb dX10_stale_24 ?_
    obtain ⟨hi8, hf⟩ := xif_s hf
    refine x_iald (j := (Int32.toNatClampNeg ((29 : Int32) + x5))) C hm cy_1 hi8 dX10_stale_25 rfl ?_
    refine x_callVi (As := [.int (M 1 (Int32.toNatClampNeg ((29 : Int32) + x5)))]) (rest := [.int x4]) C hm (c_X10_isGood l E b M Lm (M 1 (Int32.toNatClampNeg ((29 : Int32) + x5))) rfl) rfl cy_0 tc_X10_isGood tm_RX10_328 ti_X10_isGood ts_X10_isGood tn_RX10 td_X10_isGood rfl rfl ⟨Nat.le_of_ble_eq_true rfl, Nat.le_of_ble_eq_true rfl⟩ rfl hl.1 rfl (Nat.le_of_ble_eq_true rfl) ⟨Nat.zero_le _, Nat.zero_le _⟩ dX10_stale_26 (fun H locs hP9 hm => ?_)
    refine lv_if_eq (tgt := 36) hx hb dX10_stale_29 (by decide) (fun hc10 => ?_) (fun hc10 => ?_)
    · have hf := xif_t hc10 hf
      refine lv_iconst (v := (1 : Int32)) hx hb dX10_stale_36 (by decide) ?_
      refine lv_iadd hx hb dX10_stale_37 ?_
      refine lv_topi (fun v11 ev11 => ?_)
      have hf := xlet_e ev11 hf
      refine lv_istore_n (lv' := [(1, .int v11), (0, .ref (b + 0)), (2, .int x5)]) hx hb dX10_stale_38 rfl hl (by decide) rfl (fun ls hl => ?_)
      obtain ⟨v12, ev12, hf⟩ := xlet_x hf
      refine lv_iinc (v := v12) (lv' := [(2, .int v12), (1, .int v11), (0, .ref (b + 0))]) hx hb dX10_stale_39 hl (k := 2) rfl (by rw [ev12]; rfl) (by decide) rfl (fun ls hl => ?_)
      refine lv_goto (tgt := 9) hx hb dX10_stale_42 (by decide) ?_
      exact ih v11 v12 H locs ls hf hm (lv_sub hl [2, 1, 0] rfl)
    have hf := xif_f hc10 hf
    refine lv_iconst (v := (0 : Int32)) hx hb dX10_stale_32 (by decide) ?_
    refine lv_goto (tgt := 37) hx hb dX10_stale_33 (by decide) ?_
    refine lv_iadd hx hb dX10_stale_37 ?_
    refine lv_topi (fun v13 ev13 => ?_)
    have hf := xlet_e ev13 hf
    refine lv_istore_n (lv' := [(1, .int v13), (0, .ref (b + 0)), (2, .int x5)]) hx hb dX10_stale_38 rfl hl (by decide) rfl (fun ls hl => ?_)
    obtain ⟨v14, ev14, hf⟩ := xlet_x hf
    refine lv_iinc (v := v14) (lv' := [(2, .int v14), (1, .int v13), (0, .ref (b + 0))]) hx hb dX10_stale_39 hl (k := 2) rfl (by rw [ev14]; rfl) (by decide) rfl (fun ls hl => ?_)
    refine lv_goto (tgt := 9) hx hb dX10_stale_42 (by decide) ?_
    exact ih v13 v14 H locs ls hf hm (lv_sub hl [2, 1, 0] rfl)
set_option maxHeartbeats 4000000 in
set_option maxRecDepth 20000 in
theorem j_X10_stale_55 {p : Program} {l : Launch} {e : Env} {s : State} {m : MethodId} {args : Array Value} {below : List Frame} {meth : Method} {c : Code} {Q : State → Prop} {E : xE} {b : Nat} (C : xC p s m args meth c cX10_stale 4 RX10 (some .int) E b) (M : xm) {Lm : xn} (x21 : Int32) {y23 : Int32}
    (kx0 : ∀ (H : Heap) (locs : List Loc) (ls : Array Slot), xM E b NY (cY E b M Lm) s.heap H locs → lv_has ls 4 [(0, .ref (b + 0)), (1, .int y23), (2, .int x21)] → W p l e (xR 6) s m args below meth c H locs 0 0 Q (F0 m 106 ls [])) :
    ∀ (n : Nat) (x20 : Int32) (x22 : Int32) (H : Heap) (locs : List Loc) (ls : Array Slot), g_X10_stale_55 M x21 n x20 x22 = some y23 → xM E b NY (cY E b M Lm) s.heap H locs → lv_has ls 4 [(0, .ref (b + 0)), (1, .int x20), (2, .int x21), (3, .int x22)] → W p l e (xR 6) s m args below meth c H locs 0 0 Q (F0 m 55 ls []) := by
  have hx := C.1.1
  have hb := C.1.2.1
  intro n
  induction n with
  | zero =>
    intro x20 x22 H locs ls hf hm hl
    rw [g_X10_stale_55] at hf
    cases hf
  | succ n ih =>
    intro x20 x22 H locs ls hf hm hl
    rw [g_X10_stale_55] at hf
    refine lv_aload_n hx hb dX10_stale_55 rfl (lv_at hl 0 rfl) ?_
    refine x_get C hm inX10 rfl 24 (by decide) tf_RX10_46 cy_0 rfl dX10_stale_56 ?_
    refine lv_iload_n hx hb dX10_stale_59 rfl (lv_at hl 2 rfl) ?_
    obtain ⟨hi24, hf⟩ := xif_s hf
    refine x_iald (j := (Int32.toNatClampNeg x21)) C hm cy_10 hi24 dX10_stale_60 rfl ?_
    refine lv_iconst (v := (-1 : Int32)) hx hb dX10_stale_61 (by decide) ?_
    refine lv_icmp_eq (tgt := 106) hx hb dX10_stale_62 (by decide) (fun hc25 => ?_) (fun hc25 => ?_)
    · have hf := xif_t hc25 hf
      cases hf
      exact kx0 H locs ls hm (lv_sub hl [0, 1, 2] rfl)
    have hf := xif_f hc25 hf
    refine lv_iload_n hx hb dX10_stale_65 rfl (lv_at hl 3 rfl) ?_
    refine lv_aload_n hx hb dX10_stale_66 rfl (lv_at hl 0 rfl) ?_
    refine lv_iload_n hx hb dX10_stale_67 rfl (lv_at hl 2 rfl) ?_
    obtain ⟨v27, hq26, hf⟩ := xb1_e hf
    refine x_callVi (As := [.int x21]) (rest := [.int x22]) C hm (c_X10_fieldsOf l E b M Lm x21 hq26) rfl cy_0 tc_X10_fieldsOf tm_RX10_67 ti_X10_fieldsOf ts_X10_fieldsOf tn_RX10 td_X10_fieldsOf rfl rfl ⟨Nat.le_of_ble_eq_true rfl, Nat.le_of_ble_eq_true rfl⟩ rfl hl.1 rfl (Nat.le_of_ble_eq_true rfl) ⟨Nat.zero_le _, Nat.zero_le _⟩ dX10_stale_68 (fun H locs hP28 hm => ?_)
    refine lv_icmp_gt (tgt := 106) hx hb dX10_stale_71 (by decide) (fun hc29 => ?_) (fun hc29 => ?_)
    · have hf := xif_t hc29 hf
      cases hf
      exact kx0 H locs ls hm (lv_sub hl [0, 1, 2] rfl)
    have hf := xif_f hc29 hf
    refine lv_iload_n hx hb dX10_stale_74 rfl (lv_at hl 1 rfl) ?_
    refine lv_aload_n hx hb dX10_stale_75 rfl (lv_at hl 0 rfl) ?_
    refine lv_aload_n hx hb dX10_stale_76 rfl (lv_at hl 0 rfl) ?_
    refine x_get C hm inX10 rfl 0 (by decide) tf_RX10_7 cy_0 rfl dX10_stale_77 ?_
    refine lv_bipush (v := (41 : Int32)) hx hb dX10_stale_80 (by decide) ?_
    refine lv_iload_n hx hb dX10_stale_82 rfl (lv_at hl 2 rfl) ?_
    refine lv_iadd hx hb dX10_stale_83 ?_
    refine lv_iload_n hx hb dX10_stale_84 rfl (lv_at hl 3 rfl) ?_
    refine lv_iadd hx hb dX10_stale_85 ?_
    obtain ⟨hi30, hf⟩ := xif_s hf
    refine x_iald (j := (Int32.toNatClampNeg (((41 : Int32) + x21) + x22))) C hm cy_1 hi30 dX10_stale_86 rfl ?_
    refine x_callVi (As := [.int (M 1 (Int32.toNatClampNeg (((41 : Int32) + x21) + x22)))]) (rest := [.int x20]) C hm (c_X10_isGood l E b M Lm (M 1 (Int32.toNatClampNeg (((41 : Int32) + x21) + x22))) rfl) rfl cy_0 tc_X10_isGood tm_RX10_328 ti_X10_isGood ts_X10_isGood tn_RX10 td_X10_isGood rfl rfl ⟨Nat.le_of_ble_eq_true rfl, Nat.le_of_ble_eq_true rfl⟩ rfl hl.1 rfl (Nat.le_of_ble_eq_true rfl) ⟨Nat.zero_le _, Nat.zero_le _⟩ dX10_stale_87 (fun H locs hP31 hm => ?_)
    refine lv_if_eq (tgt := 97) hx hb dX10_stale_90 (by decide) (fun hc32 => ?_) (fun hc32 => ?_)
    · have hf := xif_t hc32 hf
      refine lv_iconst (v := (1 : Int32)) hx hb dX10_stale_97 (by decide) ?_
      refine lv_iadd hx hb dX10_stale_98 ?_
      refine lv_topi (fun v33 ev33 => ?_)
      have hf := xlet_e ev33 hf
      refine lv_istore_n (lv' := [(1, .int v33), (0, .ref (b + 0)), (2, .int x21), (3, .int x22)]) hx hb dX10_stale_99 rfl hl (by decide) rfl (fun ls hl => ?_)
      obtain ⟨v34, ev34, hf⟩ := xlet_x hf
      refine lv_iinc (v := v34) (lv' := [(3, .int v34), (1, .int v33), (0, .ref (b + 0)), (2, .int x21)]) hx hb dX10_stale_100 hl (k := 3) rfl (by rw [ev34]; rfl) (by decide) rfl (fun ls hl => ?_)
      refine lv_goto (tgt := 55) hx hb dX10_stale_103 (by decide) ?_
      exact ih v33 v34 H locs ls hf hm (lv_sub hl [2, 1, 3, 0] rfl)
    have hf := xif_f hc32 hf
    refine lv_iconst (v := (0 : Int32)) hx hb dX10_stale_93 (by decide) ?_
    refine lv_goto (tgt := 98) hx hb dX10_stale_94 (by decide) ?_
    refine lv_iadd hx hb dX10_stale_98 ?_
    refine lv_topi (fun v35 ev35 => ?_)
    have hf := xlet_e ev35 hf
    refine lv_istore_n (lv' := [(1, .int v35), (0, .ref (b + 0)), (2, .int x21), (3, .int x22)]) hx hb dX10_stale_99 rfl hl (by decide) rfl (fun ls hl => ?_)
    obtain ⟨v36, ev36, hf⟩ := xlet_x hf
    refine lv_iinc (v := v36) (lv' := [(3, .int v36), (1, .int v35), (0, .ref (b + 0)), (2, .int x21)]) hx hb dX10_stale_100 hl (k := 3) rfl (by rw [ev36]; rfl) (by decide) rfl (fun ls hl => ?_)
    refine lv_goto (tgt := 55) hx hb dX10_stale_103 (by decide) ?_
    exact ih v35 v36 H locs ls hf hm (lv_sub hl [2, 1, 3, 0] rfl)
set_option maxHeartbeats 4000000 in
set_option maxRecDepth 20000 in
theorem j_X10_stale_47 {p : Program} {l : Launch} {e : Env} {s : State} {m : MethodId} {args : Array Value} {below : List Frame} {meth : Method} {c : Code} {Q : State → Prop} {E : xE} {b : Nat} (C : xC p s m args meth c cX10_stale 4 RX10 (some .int) E b) (M : xm) {Lm : xn} {y18 : Int32}
    (kx0 : ∀ (H : Heap) (locs : List Loc) (ls : Array Slot), xM E b NY (cY E b M Lm) s.heap H locs → lv_has ls 4 [(1, .int y18)] → W p l e (xR 6) s m args below meth c H locs 0 0 Q (F0 m 112 ls [])) :
    ∀ (n : Nat) (x16 : Int32) (x17 : Int32) (H : Heap) (locs : List Loc) (ls : Array Slot), g_X10_stale_47 M n x16 x17 = some y18 → xM E b NY (cY E b M Lm) s.heap H locs → lv_has ls 4 [(0, .ref (b + 0)), (1, .int x16), (2, .int x17)] → W p l e (xR 6) s m args below meth c H locs 0 0 Q (F0 m 47 ls []) := by
  have hx := C.1.1
  have hb := C.1.2.1
  intro n
  induction n with
  | zero =>
    intro x16 x17 H locs ls hf hm hl
    rw [g_X10_stale_47] at hf
    cases hf
  | succ n ih =>
    intro x16 x17 H locs ls hf hm hl
    rw [g_X10_stale_47] at hf
    refine lv_iload_n hx hb dX10_stale_47 rfl (lv_at hl 2 rfl) ?_
    refine lv_bipush (v := (64 : Int32)) hx hb dX10_stale_48 (by decide) ?_
    refine lv_icmp_ge (tgt := 112) hx hb dX10_stale_50 (by decide) (fun hc19 => ?_) (fun hc19 => ?_)
    · have hf := xif_t hc19 hf
      cases hf
      exact kx0 H locs ls hm (lv_sub hl [1] rfl)
    have hf := xif_f hc19 hf
    refine lv_iconst (v := (1 : Int32)) hx hb dX10_stale_53 (by decide) ?_
    refine lv_istore_n (lv' := [(3, .int (1 : Int32)), (0, .ref (b + 0)), (1, .int x16), (2, .int x17)]) hx hb dX10_stale_54 rfl hl (by decide) rfl (fun ls hl => ?_)
    obtain ⟨v37, hq, hf⟩ := xb1_e hf
    refine j_X10_stale_55 C M x17 (fun H locs ls hm hl => ?_) xfuel x16 (1 : Int32) H locs ls hq hm (lv_sub hl [1, 2, 3, 0] rfl)
    obtain ⟨v38, ev38, hf⟩ := xlet_x hf
    refine lv_iinc (v := v38) (lv' := [(2, .int v38), (0, .ref (b + 0)), (1, .int v37)]) hx hb dX10_stale_106 hl (k := 2) rfl (by rw [ev38]; rfl) (by decide) rfl (fun ls hl => ?_)
    refine lv_goto (tgt := 47) hx hb dX10_stale_109 (by decide) ?_
    exact ih v37 v38 H locs ls hf hm (lv_sub hl [1, 2, 0] rfl)
set_option maxHeartbeats 4000000 in
set_option maxRecDepth 20000 in
theorem c_X10_stale (l : Launch) (E : xE) (b : Nat) (M : xm) (Lm : xn) {r : Int32} {M' : xm} (hf : f_X10_stale M = some (r, M')) :
    xMet l E b NY yX10_stale cX10_stale 4 (some .int) (xR 6) [.ref (b + 0)] (cY E b M Lm) (some (.int r)) True (cY E b M' Lm) := by
  refine xMet.ofW (own := RX10) (by decide) rfl (Nat.le_of_ble_eq_true rfl) ?_
  intro p e s m below meth c H locs ls C hm hl
  have hx := C.1.1
  have hb := C.1.2.1
  have hl : lv_has ls 4 [(0, .ref (b + 0))] := hl
  unfold f_X10_stale at hf
  refine lv_aload_n hx hb dX10_stale_0 rfl (lv_at hl 0 rfl) ?_
  refine lv_iconst (v := (-1 : Int32)) hx hb dX10_stale_1 (by decide) ?_
  obtain ⟨M2, hq1, hf⟩ := xb1_e hf
  refine x_callVv (As := [.int (-1 : Int32)]) (rest := []) C hm (c_X10_layLoads l E b M Lm (-1 : Int32) hq1) rfl cy_0 tc_X10_layLoads tm_RX10_461 ti_X10_layLoads ts_X10_layLoads tn_RX10 td_X10_layLoads rfl rfl ⟨Nat.le_of_ble_eq_true rfl, Nat.le_of_ble_eq_true rfl⟩ rfl hl.1 rfl (Nat.le_of_ble_eq_true rfl) ⟨Nat.zero_le _, Nat.zero_le _⟩ dX10_stale_2 (fun H locs hP3 hm => ?_)
  refine lv_iconst (v := (0 : Int32)) hx hb dX10_stale_5 (by decide) ?_
  refine lv_istore_n (lv' := [(1, .int (0 : Int32)), (0, .ref (b + 0))]) hx hb dX10_stale_6 rfl hl (by decide) rfl (fun ls hl => ?_)
  refine lv_iconst (v := (0 : Int32)) hx hb dX10_stale_7 (by decide) ?_
  refine lv_istore_n (lv' := [(2, .int (0 : Int32)), (1, .int (0 : Int32)), (0, .ref (b + 0))]) hx hb dX10_stale_8 rfl hl (by decide) rfl (fun ls hl => ?_)
  obtain ⟨v15, hq, hf⟩ := xb1_e hf
  refine j_X10_stale_9 C M2 (fun H locs ls hm hl => ?_) xfuel (0 : Int32) (0 : Int32) H locs ls hq hm (lv_sub hl [2, 1, 0] rfl)
  refine lv_iconst (v := (0 : Int32)) hx hb dX10_stale_45 (by decide) ?_
  refine lv_istore_n (lv' := [(2, .int (0 : Int32)), (0, .ref (b + 0)), (1, .int v15)]) hx hb dX10_stale_46 rfl hl (by decide) rfl (fun ls hl => ?_)
  obtain ⟨v39, hq, hf⟩ := xb1_e hf
  refine j_X10_stale_47 C M2 (fun H locs ls hm hl => ?_) xfuel v15 (0 : Int32) H locs ls hq hm (lv_sub hl [1, 2, 0] rfl)
  refine lv_iload_n hx hb dX10_stale_112 rfl (lv_at hl 0 rfl) ?_
  cases hf
  exact x_iret C hm trivial dX10_stale_113
/-! ColouredHeapModel.start()Z -/
theorem dX10_start_0 : decode cX10_start 0 = .ok (.aload_n 0, 1) := by decide +kernel
theorem dX10_start_1 : decode cX10_start 1 = .ok (.invokevirtual 388, 3) := by decide +kernel
theorem dX10_start_4 : decode cX10_start 4 = .ok (.ifCond .ne 5, 3) := by decide +kernel
theorem dX10_start_7 : decode cX10_start 7 = .ok (.iconst 0, 1) := by decide +kernel
theorem dX10_start_8 : decode cX10_start 8 = .ok (.ireturn, 1) := by decide +kernel
theorem dX10_start_9 : decode cX10_start 9 = .ok (.aload_n 0, 1) := by decide +kernel
theorem dX10_start_10 : decode cX10_start 10 = .ok (.invokevirtual 397, 3) := by decide +kernel
theorem dX10_start_13 : decode cX10_start 13 = .ok (.aload_n 0, 1) := by decide +kernel
theorem dX10_start_14 : decode cX10_start 14 = .ok (.invokevirtual 391, 3) := by decide +kernel
theorem dX10_start_17 : decode cX10_start 17 = .ok (.iconst 1, 1) := by decide +kernel
theorem dX10_start_18 : decode cX10_start 18 = .ok (.ireturn, 1) := by decide +kernel
def f_X10_start (M : xm) : Option (Int32 × xm) := xb1 (f_X10_canStart M) (fun v2 => (if v2 = 0 then some ((0 : Int32), M) else xb1 (f_X10_keep M) (fun M6 => xb1 (f_X10_startNow M6) (fun M9 => some ((1 : Int32), M9)))))
set_option maxHeartbeats 4000000 in
set_option maxRecDepth 20000 in
theorem c_X10_start (l : Launch) (E : xE) (b : Nat) (M : xm) (Lm : xn) {r : Int32} {M' : xm} (hf : f_X10_start M = some (r, M')) :
    xMet l E b NY yX10_start cX10_start 1 (some .boolean) (xR 8) [.ref (b + 0)] (cY E b M Lm) (some (.int r)) (xbo r = true) (cY E b M' Lm) := by
  refine xMet.ofW (own := RX10) (by decide) rfl (Nat.le_of_ble_eq_true rfl) ?_
  intro p e s m below meth c H locs ls C hm hl
  have hx := C.1.1
  have hb := C.1.2.1
  have hl : lv_has ls 1 [(0, .ref (b + 0))] := hl
  unfold f_X10_start at hf
  refine lv_aload_n hx hb dX10_start_0 rfl (lv_at hl 0 rfl) ?_
  obtain ⟨v2, hq1, hf⟩ := xb1_e hf
  refine x_callVi (As := []) (rest := []) C hm (c_X10_canStart l E b M Lm hq1) rfl cy_0 tc_X10_canStart tm_RX10_388 ti_X10_canStart ts_X10_canStart tn_RX10 td_X10_canStart rfl rfl ⟨Nat.le_of_ble_eq_true rfl, Nat.le_of_ble_eq_true rfl⟩ rfl hl.1 rfl (Nat.le_of_ble_eq_true rfl) ⟨Nat.zero_le _, Nat.zero_le _⟩ dX10_start_1 (fun H locs hP3 hm => ?_)
  refine lv_if_ne (tgt := 9) hx hb dX10_start_4 (by decide) (fun hc4 => ?_) (fun hc4 => ?_)
  rotate_left
  · have hf := xif_t hc4 hf
    refine lv_iconst (v := (0 : Int32)) hx hb dX10_start_7 (by decide) ?_
    cases hf
    exact x_zret C hm (by decide) (by decide) dX10_start_8
  have hf := xif_f hc4 hf
  refine lv_aload_n hx hb dX10_start_9 rfl (lv_at hl 0 rfl) ?_
  obtain ⟨M6, hq5, hf⟩ := xb1_e hf
  refine x_callVv (As := []) (rest := []) C hm (c_X10_keep l E b M Lm hq5) rfl cy_0 tc_X10_keep tm_RX10_397 ti_X10_keep ts_X10_keep tn_RX10 td_X10_keep rfl rfl ⟨Nat.le_of_ble_eq_true rfl, Nat.le_of_ble_eq_true rfl⟩ rfl hl.1 rfl (Nat.le_of_ble_eq_true rfl) ⟨Nat.zero_le _, Nat.zero_le _⟩ dX10_start_10 (fun H locs hP7 hm => ?_)
  refine lv_aload_n hx hb dX10_start_13 rfl (lv_at hl 0 rfl) ?_
  obtain ⟨M9, hq8, hf⟩ := xb1_e hf
  refine x_callVv (As := []) (rest := []) C hm (c_X10_startNow l E b M6 Lm hq8) rfl cy_0 tc_X10_startNow tm_RX10_391 ti_X10_startNow ts_X10_startNow tn_RX10 td_X10_startNow rfl rfl ⟨Nat.le_of_ble_eq_true rfl, Nat.le_of_ble_eq_true rfl⟩ rfl hl.1 rfl (Nat.le_of_ble_eq_true rfl) ⟨Nat.zero_le _, Nat.zero_le _⟩ dX10_start_14 (fun H locs hP10 hm => ?_)
  refine lv_iconst (v := (1 : Int32)) hx hb dX10_start_17 (by decide) ?_
  cases hf
  exact x_zret C hm (by decide) (by decide) dX10_start_18
