theorem tm_RX9_1 : Cond.methodLink RX9 1 Lib.objectInit ∈ TB := tb_in 153 (by decide +kernel) rfl
theorem tq_RX9_7 : Cond.classLink RX9 7 RX1 ∈ TB := tb_in 156 (by decide +kernel) rfl
theorem tm_RX9_9 : Cond.methodLink RX9 9 yX1_init ∈ TB := tb_in 158 (by decide +kernel) rfl
theorem tq_RX9_16 : Cond.classLink RX9 16 RX5 ∈ TB := tb_in 265 (by decide +kernel) rfl
theorem tj_RX5 : Cond.instantiable RX5 3 ∈ TB := tb_in 266 (by decide +kernel) rfl
theorem tm_RX9_18 : Cond.methodLink RX9 18 yX5_init ∈ TB := tb_in 267 (by decide +kernel) rfl
theorem td_X5_init : yX5_init.cls ≠ "java/lang/invoke/MethodHandle" ∧ yX5_init.cls ≠ "java/lang/invoke/VarHandle" ∧ (parseMethodDescriptor yX5_init.desc).map (fun d => d.parameters.length) = some 0 := by decide +kernel
theorem tc_X5_init : Cond.code yX5_init cX5_init 2 none ∈ TB := tb_in 269 (by decide +kernel) rfl
theorem ti_X5_init : Cond.instanceMethod yX5_init ∈ TB := tb_in 268 (by decide +kernel) rfl
theorem tq_RX9_23 : Cond.classLink RX9 23 RX8 ∈ TB := tb_in 285 (by decide +kernel) rfl
theorem tj_RX8 : Cond.instantiable RX8 5 ∈ TB := tb_in 286 (by decide +kernel) rfl
theorem td_X8_init : yX8_init.cls ≠ "java/lang/invoke/MethodHandle" ∧ yX8_init.cls ≠ "java/lang/invoke/VarHandle" ∧ (parseMethodDescriptor yX8_init.desc).map (fun d => d.parameters.length) = some 0 := by decide +kernel
theorem tc_X8_init : Cond.code yX8_init cX8_init 1 none ∈ TB := tb_in 289 (by decide +kernel) rfl
theorem ti_X8_init : Cond.instanceMethod yX8_init ∈ TB := tb_in 288 (by decide +kernel) rfl
theorem tq_RX9_42 : Cond.classLink RX9 42 RX6 ∈ TB := tb_in 312 (by decide +kernel) rfl
theorem tj_RX6 : Cond.instantiable RX6 7 ∈ TB := tb_in 313 (by decide +kernel) rfl
theorem td_X6_init : yX6_init.cls ≠ "java/lang/invoke/MethodHandle" ∧ yX6_init.cls ≠ "java/lang/invoke/VarHandle" ∧ (parseMethodDescriptor yX6_init.desc).map (fun d => d.parameters.length) = some 0 := by decide +kernel
theorem tc_X6_init : Cond.code yX6_init cX6_init 1 none ∈ TB := tb_in 316 (by decide +kernel) rfl
theorem ti_X6_init : Cond.instanceMethod yX6_init ∈ TB := tb_in 315 (by decide +kernel) rfl
theorem tq_RX9_49 : Cond.classLink RX9 49 RX4 ∈ TB := tb_in 345 (by decide +kernel) rfl
theorem tj_RX4 : Cond.instantiable RX4 11 ∈ TB := tb_in 346 (by decide +kernel) rfl
theorem td_X4_init : yX4_init.cls ≠ "java/lang/invoke/MethodHandle" ∧ yX4_init.cls ≠ "java/lang/invoke/VarHandle" ∧ (parseMethodDescriptor yX4_init.desc).map (fun d => d.parameters.length) = some 0 := by decide +kernel
theorem tc_X4_init : Cond.code yX4_init cX4_init 1 none ∈ TB := tb_in 349 (by decide +kernel) rfl
theorem ti_X4_init : Cond.instanceMethod yX4_init ∈ TB := tb_in 348 (by decide +kernel) rfl
theorem tq_RX9_56 : Cond.classLink RX9 56 RX3 ∈ TB := tb_in 439 (by decide +kernel) rfl
theorem tj_RX3 : Cond.instantiable RX3 2 ∈ TB := tb_in 440 (by decide +kernel) rfl
theorem td_X3_init : yX3_init.cls ≠ "java/lang/invoke/MethodHandle" ∧ yX3_init.cls ≠ "java/lang/invoke/VarHandle" ∧ (parseMethodDescriptor yX3_init.desc).map (fun d => d.parameters.length) = some 0 := by decide +kernel
theorem tc_X3_init : Cond.code yX3_init cX3_init 1 none ∈ TB := tb_in 443 (by decide +kernel) rfl
theorem ti_X3_init : Cond.instanceMethod yX3_init ∈ TB := tb_in 442 (by decide +kernel) rfl
theorem tq_RX9_63 : Cond.classLink RX9 63 RX7 ∈ TB := tb_in 452 (by decide +kernel) rfl
theorem dX9_init_0 : decode cX9_init 0 = .ok (.aload_n 0, 1) := by decide +kernel
theorem dX9_init_1 : decode cX9_init 1 = .ok (.invokespecial 1, 3) := by decide +kernel
theorem dX9_init_4 : decode cX9_init 4 = .ok (.aload_n 0, 1) := by decide +kernel
theorem dX9_init_5 : decode cX9_init 5 = .ok (.new 7, 3) := by decide +kernel
theorem dX9_init_8 : decode cX9_init 8 = .ok (.dup, 1) := by decide +kernel
theorem dX9_init_9 : decode cX9_init 9 = .ok (.invokespecial 9, 3) := by decide +kernel
theorem dX9_init_12 : decode cX9_init 12 = .ok (.putfield 10, 3) := by decide +kernel
theorem dX9_init_15 : decode cX9_init 15 = .ok (.aload_n 0, 1) := by decide +kernel
theorem dX9_init_16 : decode cX9_init 16 = .ok (.new 16, 3) := by decide +kernel
theorem dX9_init_19 : decode cX9_init 19 = .ok (.dup, 1) := by decide +kernel
theorem dX9_init_20 : decode cX9_init 20 = .ok (.invokespecial 18, 3) := by decide +kernel
theorem dX9_init_23 : decode cX9_init 23 = .ok (.putfield 19, 3) := by decide +kernel
theorem dX9_init_26 : decode cX9_init 26 = .ok (.aload_n 0, 1) := by decide +kernel
theorem dX9_init_27 : decode cX9_init 27 = .ok (.new 23, 3) := by decide +kernel
theorem dX9_init_30 : decode cX9_init 30 = .ok (.dup, 1) := by decide +kernel
theorem dX9_init_31 : decode cX9_init 31 = .ok (.invokespecial 25, 3) := by decide +kernel
theorem dX9_init_34 : decode cX9_init 34 = .ok (.putfield 26, 3) := by decide +kernel
theorem dX9_init_37 : decode cX9_init 37 = .ok (.aload_n 0, 1) := by decide +kernel
theorem dX9_init_38 : decode cX9_init 38 = .ok (.new 7, 3) := by decide +kernel
theorem dX9_init_41 : decode cX9_init 41 = .ok (.dup, 1) := by decide +kernel
theorem dX9_init_42 : decode cX9_init 42 = .ok (.invokespecial 9, 3) := by decide +kernel
theorem dX9_init_45 : decode cX9_init 45 = .ok (.putfield 30, 3) := by decide +kernel
theorem dX9_init_48 : decode cX9_init 48 = .ok (.aload_n 0, 1) := by decide +kernel
theorem dX9_init_49 : decode cX9_init 49 = .ok (.new 16, 3) := by decide +kernel
theorem dX9_init_52 : decode cX9_init 52 = .ok (.dup, 1) := by decide +kernel
theorem dX9_init_53 : decode cX9_init 53 = .ok (.invokespecial 18, 3) := by decide +kernel
theorem dX9_init_56 : decode cX9_init 56 = .ok (.putfield 33, 3) := by decide +kernel
theorem dX9_init_59 : decode cX9_init 59 = .ok (.aload_n 0, 1) := by decide +kernel
theorem dX9_init_60 : decode cX9_init 60 = .ok (.new 23, 3) := by decide +kernel
theorem dX9_init_63 : decode cX9_init 63 = .ok (.dup, 1) := by decide +kernel
theorem dX9_init_64 : decode cX9_init 64 = .ok (.invokespecial 25, 3) := by decide +kernel
theorem dX9_init_67 : decode cX9_init 67 = .ok (.putfield 36, 3) := by decide +kernel
theorem dX9_init_70 : decode cX9_init 70 = .ok (.aload_n 0, 1) := by decide +kernel
theorem dX9_init_71 : decode cX9_init 71 = .ok (.new 7, 3) := by decide +kernel
theorem dX9_init_74 : decode cX9_init 74 = .ok (.dup, 1) := by decide +kernel
theorem dX9_init_75 : decode cX9_init 75 = .ok (.invokespecial 9, 3) := by decide +kernel
theorem dX9_init_78 : decode cX9_init 78 = .ok (.putfield 39, 3) := by decide +kernel
theorem dX9_init_81 : decode cX9_init 81 = .ok (.aload_n 0, 1) := by decide +kernel
theorem dX9_init_82 : decode cX9_init 82 = .ok (.new 42, 3) := by decide +kernel
theorem dX9_init_85 : decode cX9_init 85 = .ok (.dup, 1) := by decide +kernel
theorem dX9_init_86 : decode cX9_init 86 = .ok (.invokespecial 44, 3) := by decide +kernel
theorem dX9_init_89 : decode cX9_init 89 = .ok (.putfield 45, 3) := by decide +kernel
theorem dX9_init_92 : decode cX9_init 92 = .ok (.aload_n 0, 1) := by decide +kernel
theorem dX9_init_93 : decode cX9_init 93 = .ok (.new 49, 3) := by decide +kernel
theorem dX9_init_96 : decode cX9_init 96 = .ok (.dup, 1) := by decide +kernel
theorem dX9_init_97 : decode cX9_init 97 = .ok (.invokespecial 51, 3) := by decide +kernel
theorem dX9_init_100 : decode cX9_init 100 = .ok (.putfield 52, 3) := by decide +kernel
theorem dX9_init_103 : decode cX9_init 103 = .ok (.aload_n 0, 1) := by decide +kernel
theorem dX9_init_104 : decode cX9_init 104 = .ok (.new 56, 3) := by decide +kernel
theorem dX9_init_107 : decode cX9_init 107 = .ok (.dup, 1) := by decide +kernel
theorem dX9_init_108 : decode cX9_init 108 = .ok (.invokespecial 58, 3) := by decide +kernel
theorem dX9_init_111 : decode cX9_init 111 = .ok (.putfield 59, 3) := by decide +kernel
theorem dX9_init_114 : decode cX9_init 114 = .ok (.aload_n 0, 1) := by decide +kernel
theorem dX9_init_115 : decode cX9_init 115 = .ok (.iconst 4, 1) := by decide +kernel
theorem dX9_init_116 : decode cX9_init 116 = .ok (.anewarray 63, 3) := by decide +kernel
theorem dX9_init_119 : decode cX9_init 119 = .ok (.putfield 65, 3) := by decide +kernel
theorem dX9_init_122 : decode cX9_init 122 = .ok (.iconst 0, 1) := by decide +kernel
theorem dX9_init_123 : decode cX9_init 123 = .ok (.istore_n 1, 1) := by decide +kernel
theorem dX9_init_124 : decode cX9_init 124 = .ok (.iload_n 1, 1) := by decide +kernel
theorem dX9_init_125 : decode cX9_init 125 = .ok (.iconst 4, 1) := by decide +kernel
theorem dX9_init_126 : decode cX9_init 126 = .ok (.if_icmp .ge 22, 3) := by decide +kernel
theorem dX9_init_129 : decode cX9_init 129 = .ok (.aload_n 0, 1) := by decide +kernel
theorem dX9_init_130 : decode cX9_init 130 = .ok (.getfield 65, 3) := by decide +kernel
theorem dX9_init_133 : decode cX9_init 133 = .ok (.iload_n 1, 1) := by decide +kernel
theorem dX9_init_134 : decode cX9_init 134 = .ok (.new 63, 3) := by decide +kernel
theorem dX9_init_137 : decode cX9_init 137 = .ok (.dup, 1) := by decide +kernel
theorem dX9_init_138 : decode cX9_init 138 = .ok (.invokespecial 69, 3) := by decide +kernel
theorem dX9_init_141 : decode cX9_init 141 = .ok (.aastore, 1) := by decide +kernel
theorem dX9_init_142 : decode cX9_init 142 = .ok (.iinc 1 1, 3) := by decide +kernel
theorem dX9_init_145 : decode cX9_init 145 = .ok (.goto (-21), 3) := by decide +kernel
theorem dX9_init_148 : decode cX9_init 148 = .ok (.return_, 1) := by decide +kernel
theorem L_Told_len (E : xE) (a : Nat) : (L_Told E a).length = 3 := rfl
theorem L_Survey_len (E : xE) (a : Nat) : (L_Survey E a).length = 4 := rfl
theorem L_Reader_len (E : xE) (a : Nat) : (L_Reader E a).length = 14 := rfl
theorem L_Law_len (E : xE) (a : Nat) : (L_Law E a).length = 2 := rfl
theorem L_Text_len (E : xE) (a : Nat) : (L_Text E a).length = 9 := rfl
theorem mid_get {tp x : va_E} {R T : List va_E} {n : Nat} (h : R.length = n) : (tp :: (R ++ x :: T))[n + 1]? = some x := by
  rw [List.getElem?_cons_succ, List.getElem?_append_right (by omega), h, Nat.sub_self]
  rfl
theorem mid_set {tp x y : va_E} {R T : List va_E} {n : Nat} (h : R.length = n) : (tp :: (R ++ x :: T)).set (n + 1) y = tp :: (R ++ y :: T) := by
  rw [List.set_cons_succ, List.set_append_right _ _ (by omega), h, Nat.sub_self]
  rfl
theorem end_get {tp x y : va_E} {R T U : List va_E} {n k : Nat} (h : R.length = n) (ht : T.length = k) : (tp :: (R ++ x :: (T ++ y :: U)))[n + 2 + k]? = some y := by
  rw [show n + 2 + k = (n + 1 + k) + 1 by omega, List.getElem?_cons_succ, List.getElem?_append_right (by omega), h, show n + 1 + k - n = k + 1 by omega, List.getElem?_cons_succ, List.getElem?_append_right (by omega), ht, Nat.sub_self]
  rfl
def L_Top (E : xE) (a : Nat) : List va_E := ((.inr (8, [.ref (a + 1), .ref (a + 16), .ref (a + 483), .ref (a + 486), .ref (a + 501), .ref (a + 968), .ref (a + 971), .ref (a + 986), .ref (a + 990), .ref (a + 1004), .ref (a + 1006)]) : va_E) :: ((((((((((([] ++ L_Heap E (a + 1)) ++ L_Steps E (a + 16)) ++ L_Told E (a + 483)) ++ L_Heap E (a + 486)) ++ L_Steps E (a + 501)) ++ L_Told E (a + 968)) ++ L_Heap E (a + 971)) ++ L_Survey E (a + 986)) ++ L_Reader E (a + 990)) ++ L_Law E (a + 1004)) ++ ((.inl (E.2 4, 4, .inr (.inr (.inr (.inr (va_up (va_up (va_up (va_up (fun _ => none) 0 (some (a + 1007))) 1 (some (a + 1016))) 2 (some (a + 1025))) 3 (some (a + 1034))))))) : va_E)) :: (((([] ++ L_Text E (a + 1007)) ++ L_Text E (a + 1016)) ++ L_Text E (a + 1025)) ++ L_Text E (a + 1034))))
set_option maxHeartbeats 16000000 in
set_option maxRecDepth 20000 in
theorem c_X9_init (l : Launch) (E : xE) (a : Nat) : gMet l E a yX9_init cX9_init 2 (gR 6 1042 30794) (.inr (8, [.null, .null, .null, .null, .null, .null, .null, .null, .null, .null, .null])) (L_Top E a) 1042 30794 := by
  refine gMet.ofW (own := RX9) (by decide) rfl rfl (by decide) ?_
  intro p e s m below meth c H locs ls C hinit hsz hm hl
  have hx := C.1.1
  have hb := C.1.2.1
  refine lv_aload_n hx hb dX9_init_0 rfl (lv_at hl 0 rfl) ?_
  refine W.objInit hx hb C.1.2.2.2.1 (C.1.2.2.2.2 _ tm_RX9_1) (C.1.2.2.2.2 _ ti_Object) (C.1.2.2.2.2 _ tc_Object) rfl (hl.1.trans C.1.2.2.1.symm) rfl dX9_init_1 (Nat.le_of_ble_eq_true rfl) (Nat.le_of_ble_eq_true rfl) ?_
  show W p l e _ s m _ below meth c _ _ _ _ _ (F0 m 4 ls [])
  obtain ⟨R0, eR0⟩ : ∃ z : List va_E, z = [] := ⟨_, rfl⟩
  have hR0 : R0.length = 0 := by rw [eR0]; rfl
  have hm : xL E a ((.inr (8, [.null, .null, .null, .null, .null, .null, .null, .null, .null, .null, .null])) :: R0) s.heap H locs := by rw [eR0]; exact hm
  have hlen : ((.inr (8, [.null, .null, .null, .null, .null, .null, .null, .null, .null, .null, .null]) : va_E) :: R0).length = 1 := by rw [List.length_cons, hR0]
  refine lv_aload_n hx hb dX9_init_4 rfl (lv_at hl 0 rfl) ?_
  have hm0 := hm
  unfold xL at hm0
  rw [hlen] at hm0
  refine g_size (n := 0) hm0 (by omega) (fun hH => ?_)
  refine g_new (L := ((.inr (8, [.null, .null, .null, .null, .null, .null, .null, .null, .null, .null, .null]) : va_E) :: R0)) (ci := 1) (fs := [.null, .null, .null, .null, .null, .null, .null, .null, .null, .null, .null, .null, .null, .int 0, .int 0, .int 0, .int 0, .int 0, .int 0]) C hm (by rw [hH, hlen]) inX1 tyX1 tyX1_ok tq_RX9_7 tj_RX1 tn_RX1 rfl (fun j hj => by rcases (show j = 0 ∨ j = 1 ∨ j = 2 ∨ j = 3 ∨ j = 4 ∨ j = 5 ∨ j = 6 ∨ j = 7 ∨ j = 8 ∨ j = 9 ∨ j = 10 ∨ j = 11 ∨ j = 12 ∨ j = 13 ∨ j = 14 ∨ j = 15 ∨ j = 16 ∨ j = 17 ∨ j = 18 by omega) with rfl | rfl | rfl | rfl | rfl | rfl | rfl | rfl | rfl | rfl | rfl | rfl | rfl | rfl | rfl | rfl | rfl | rfl | rfl <;> rfl) (Nat.le_of_ble_eq_true rfl) (Nat.le_of_ble_eq_true rfl) dX9_init_5 (fun H hm => ?_)
  rw [hlen]
  refine lv_dup hx hb dX9_init_8 rfl ?_
  have hm0 := hm
  unfold xL at hm0
  rw [show (((.inr (8, [.null, .null, .null, .null, .null, .null, .null, .null, .null, .null, .null]) : va_E) :: R0) ++ ([.inr (1, [.null, .null, .null, .null, .null, .null, .null, .null, .null, .null, .null, .null, .null, .int 0, .int 0, .int 0, .int 0, .int 0, .int 0])] : List va_E)).length = 1 + 1 by rw [List.length_append, hlen]; rfl] at hm0
  refine g_size (n := 1) hm0 (by omega) (fun hH => ?_)
  refine g_callI (L0 := ((.inr (8, [.null, .null, .null, .null, .null, .null, .null, .null, .null, .null, .null]) : va_E) :: R0)) (L' := L_Heap E (a + 1)) (e0 := .inr (1, [.null, .null, .null, .null, .null, .null, .null, .null, .null, .null, .null, .null, .null, .int 0, .int 0, .int 0, .int 0, .int 0, .int 0])) (mc := 14) (ms := 372) (rest := [.ref (a + 1), .ref (a + 0)]) C hm (Nat.le_refl _) (by rw [hH, List.length_append, hlen]; rfl) (by rw [hlen]; exact c_X1_init l E (a + 1)) (by rw [L_Heap_len]; decide) tc_X1_init tm_RX9_9 ti_X1_init tn_RX1 rfl td_X1_init rfl rfl ⟨(Nat.le_of_ble_eq_true rfl), (Nat.le_of_ble_eq_true rfl)⟩ hl.1 (by rw [hlen]) (Nat.le_of_ble_eq_true rfl) ⟨(Nat.le_of_ble_eq_true rfl), (Nat.le_of_ble_eq_true rfl)⟩ dX9_init_9 (fun H locs hm => ?_)
  obtain ⟨R1, eR1⟩ : ∃ z, z = R0 ++ L_Heap E (a + 1) := ⟨_, rfl⟩
  have hR1 : R1.length = 15 := by rw [eR1, List.length_append, hR0, L_Heap_len]
  have hm : xL E a ((.inr (8, [.null, .null, .null, .null, .null, .null, .null, .null, .null, .null, .null])) :: R1) s.heap H locs := by rw [eR1]; exact hm
  refine x_putF (b := a) (k := 0) (v := .ref (a + 1)) (cf' := cfL ((.inr (8, [.ref (a + 1), .null, .null, .null, .null, .null, .null, .null, .null, .null, .null])) :: R1)) C hm hinit inX9 tyX9 tyX9_ok nmX9 rfl 0 (by decide) tf_RX9_10 rfl rfl rfl rfl (cfL_at (L := (.inr (8, [.null, .null, .null, .null, .null, .null, .null, .null, .null, .null, .null])) :: R1) rfl) (Nat.le_of_ble_eq_true rfl) rfl (cfL_seto (L := (.inr (8, [.null, .null, .null, .null, .null, .null, .null, .null, .null, .null, .null])) :: R1) (k := 0) (e := .inr (8, [.ref (a + 1), .null, .null, .null, .null, .null, .null, .null, .null, .null, .null]))) dX9_init_12 (fun H locs hm => ?_)
  have hm : xL E a ((.inr (8, [.ref (a + 1), .null, .null, .null, .null, .null, .null, .null, .null, .null, .null])) :: R1) s.heap H locs := hm
  have hlen : ((.inr (8, [.ref (a + 1), .null, .null, .null, .null, .null, .null, .null, .null, .null, .null]) : va_E) :: R1).length = 16 := by rw [List.length_cons, hR1]
  refine lv_aload_n hx hb dX9_init_15 rfl (lv_at hl 0 rfl) ?_
  have hm0 := hm
  unfold xL at hm0
  rw [hlen] at hm0
  refine g_size (n := 15) hm0 (by omega) (fun hH => ?_)
  refine g_new (L := ((.inr (8, [.ref (a + 1), .null, .null, .null, .null, .null, .null, .null, .null, .null, .null]) : va_E) :: R1)) (ci := 4) (fs := [.null, .int 0, .int 0]) C hm (by rw [hH, hlen]) inX5 tyX5 tyX5_ok tq_RX9_16 tj_RX5 tn_RX5 rfl (fun j hj => by rcases (show j = 0 ∨ j = 1 ∨ j = 2 by omega) with rfl | rfl | rfl <;> rfl) (Nat.le_of_ble_eq_true rfl) (Nat.le_of_ble_eq_true rfl) dX9_init_16 (fun H hm => ?_)
  rw [hlen]
  refine lv_dup hx hb dX9_init_19 rfl ?_
  have hm0 := hm
  unfold xL at hm0
  rw [show (((.inr (8, [.ref (a + 1), .null, .null, .null, .null, .null, .null, .null, .null, .null, .null]) : va_E) :: R1) ++ ([.inr (4, [.null, .int 0, .int 0])] : List va_E)).length = 16 + 1 by rw [List.length_append, hlen]; rfl] at hm0
  refine g_size (n := 16) hm0 (by omega) (fun hH => ?_)
  refine g_callI (L0 := ((.inr (8, [.ref (a + 1), .null, .null, .null, .null, .null, .null, .null, .null, .null, .null]) : va_E) :: R1)) (L' := L_Steps E (a + 16)) (e0 := .inr (4, [.null, .int 0, .int 0])) (mc := 466) (ms := 12152) (rest := [.ref (a + 16), .ref (a + 0)]) C hm (Nat.le_refl _) (by rw [hH, List.length_append, hlen]; rfl) (by rw [hlen]; exact c_X5_init l E (a + 16)) (by rw [L_Steps_len]; decide) tc_X5_init tm_RX9_18 ti_X5_init tn_RX5 rfl td_X5_init rfl rfl ⟨(Nat.le_of_ble_eq_true rfl), (Nat.le_of_ble_eq_true rfl)⟩ hl.1 (by rw [hlen]) (Nat.le_of_ble_eq_true rfl) ⟨(Nat.le_of_ble_eq_true rfl), (Nat.le_of_ble_eq_true rfl)⟩ dX9_init_20 (fun H locs hm => ?_)
  obtain ⟨R2, eR2⟩ : ∃ z, z = R1 ++ L_Steps E (a + 16) := ⟨_, rfl⟩
  have hR2 : R2.length = 482 := by rw [eR2, List.length_append, hR1, L_Steps_len]
  have hm : xL E a ((.inr (8, [.ref (a + 1), .null, .null, .null, .null, .null, .null, .null, .null, .null, .null])) :: R2) s.heap H locs := by rw [eR2]; exact hm
  refine x_putF (b := a) (k := 0) (v := .ref (a + 16)) (cf' := cfL ((.inr (8, [.ref (a + 1), .ref (a + 16), .null, .null, .null, .null, .null, .null, .null, .null, .null])) :: R2)) C hm hinit inX9 tyX9 tyX9_ok nmX9 rfl 1 (by decide) tf_RX9_19 rfl rfl rfl rfl (cfL_at (L := (.inr (8, [.ref (a + 1), .null, .null, .null, .null, .null, .null, .null, .null, .null, .null])) :: R2) rfl) (Nat.le_of_ble_eq_true rfl) rfl (cfL_seto (L := (.inr (8, [.ref (a + 1), .null, .null, .null, .null, .null, .null, .null, .null, .null, .null])) :: R2) (k := 0) (e := .inr (8, [.ref (a + 1), .ref (a + 16), .null, .null, .null, .null, .null, .null, .null, .null, .null]))) dX9_init_23 (fun H locs hm => ?_)
  have hm : xL E a ((.inr (8, [.ref (a + 1), .ref (a + 16), .null, .null, .null, .null, .null, .null, .null, .null, .null])) :: R2) s.heap H locs := hm
  have hlen : ((.inr (8, [.ref (a + 1), .ref (a + 16), .null, .null, .null, .null, .null, .null, .null, .null, .null]) : va_E) :: R2).length = 483 := by rw [List.length_cons, hR2]
  refine lv_aload_n hx hb dX9_init_26 rfl (lv_at hl 0 rfl) ?_
  have hm0 := hm
  unfold xL at hm0
  rw [hlen] at hm0
  refine g_size (n := 482) hm0 (by omega) (fun hH => ?_)
  refine g_new (L := ((.inr (8, [.ref (a + 1), .ref (a + 16), .null, .null, .null, .null, .null, .null, .null, .null, .null]) : va_E) :: R2)) (ci := 7) (fs := [.null, .null, .int 0, .int 0, .int 0]) C hm (by rw [hH, hlen]) inX8 tyX8 tyX8_ok tq_RX9_23 tj_RX8 tn_RX8 rfl (fun j hj => by rcases (show j = 0 ∨ j = 1 ∨ j = 2 ∨ j = 3 ∨ j = 4 by omega) with rfl | rfl | rfl | rfl | rfl <;> rfl) (Nat.le_of_ble_eq_true rfl) (Nat.le_of_ble_eq_true rfl) dX9_init_27 (fun H hm => ?_)
  rw [hlen]
  refine lv_dup hx hb dX9_init_30 rfl ?_
  have hm0 := hm
  unfold xL at hm0
  rw [show (((.inr (8, [.ref (a + 1), .ref (a + 16), .null, .null, .null, .null, .null, .null, .null, .null, .null]) : va_E) :: R2) ++ ([.inr (7, [.null, .null, .int 0, .int 0, .int 0])] : List va_E)).length = 483 + 1 by rw [List.length_append, hlen]; rfl] at hm0
  refine g_size (n := 483) hm0 (by omega) (fun hH => ?_)
  refine g_callIN (L0 := ((.inr (8, [.ref (a + 1), .ref (a + 16), .null, .null, .null, .null, .null, .null, .null, .null, .null]) : va_E) :: R2)) (L' := L_Told E (a + 483)) (e0 := .inr (7, [.null, .null, .int 0, .int 0, .int 0])) (mc := 2) (ms := 16) (rest := [.ref (a + 483), .ref (a + 0)]) C hm (Nat.le_refl _) (by rw [hH, List.length_append, hlen]; rfl) (by rw [hlen]; exact c_X8_init l E (a + 483)) (by rw [L_Told_len]; decide) tc_X8_init (by decide +kernel : (RX9, 25, yX8_init, "ColouredHeap") ∈ xNest) ti_X8_init tn_RX8 rfl td_X8_init rfl rfl ⟨(Nat.le_of_ble_eq_true rfl), (Nat.le_of_ble_eq_true rfl)⟩ hl.1 (by rw [hlen]) (Nat.le_of_ble_eq_true rfl) ⟨(Nat.le_of_ble_eq_true rfl), (Nat.le_of_ble_eq_true rfl)⟩ dX9_init_31 (fun H locs hm => ?_)
  obtain ⟨R3, eR3⟩ : ∃ z, z = R2 ++ L_Told E (a + 483) := ⟨_, rfl⟩
  have hR3 : R3.length = 485 := by rw [eR3, List.length_append, hR2, L_Told_len]
  have hm : xL E a ((.inr (8, [.ref (a + 1), .ref (a + 16), .null, .null, .null, .null, .null, .null, .null, .null, .null])) :: R3) s.heap H locs := by rw [eR3]; exact hm
  refine x_putF (b := a) (k := 0) (v := .ref (a + 483)) (cf' := cfL ((.inr (8, [.ref (a + 1), .ref (a + 16), .ref (a + 483), .null, .null, .null, .null, .null, .null, .null, .null])) :: R3)) C hm hinit inX9 tyX9 tyX9_ok nmX9 rfl 2 (by decide) tf_RX9_26 rfl rfl rfl rfl (cfL_at (L := (.inr (8, [.ref (a + 1), .ref (a + 16), .null, .null, .null, .null, .null, .null, .null, .null, .null])) :: R3) rfl) (Nat.le_of_ble_eq_true rfl) rfl (cfL_seto (L := (.inr (8, [.ref (a + 1), .ref (a + 16), .null, .null, .null, .null, .null, .null, .null, .null, .null])) :: R3) (k := 0) (e := .inr (8, [.ref (a + 1), .ref (a + 16), .ref (a + 483), .null, .null, .null, .null, .null, .null, .null, .null]))) dX9_init_34 (fun H locs hm => ?_)
  have hm : xL E a ((.inr (8, [.ref (a + 1), .ref (a + 16), .ref (a + 483), .null, .null, .null, .null, .null, .null, .null, .null])) :: R3) s.heap H locs := hm
  have hlen : ((.inr (8, [.ref (a + 1), .ref (a + 16), .ref (a + 483), .null, .null, .null, .null, .null, .null, .null, .null]) : va_E) :: R3).length = 486 := by rw [List.length_cons, hR3]
  refine lv_aload_n hx hb dX9_init_37 rfl (lv_at hl 0 rfl) ?_
  have hm0 := hm
  unfold xL at hm0
  rw [hlen] at hm0
  refine g_size (n := 485) hm0 (by omega) (fun hH => ?_)
  refine g_new (L := ((.inr (8, [.ref (a + 1), .ref (a + 16), .ref (a + 483), .null, .null, .null, .null, .null, .null, .null, .null]) : va_E) :: R3)) (ci := 1) (fs := [.null, .null, .null, .null, .null, .null, .null, .null, .null, .null, .null, .null, .null, .int 0, .int 0, .int 0, .int 0, .int 0, .int 0]) C hm (by rw [hH, hlen]) inX1 tyX1 tyX1_ok tq_RX9_7 tj_RX1 tn_RX1 rfl (fun j hj => by rcases (show j = 0 ∨ j = 1 ∨ j = 2 ∨ j = 3 ∨ j = 4 ∨ j = 5 ∨ j = 6 ∨ j = 7 ∨ j = 8 ∨ j = 9 ∨ j = 10 ∨ j = 11 ∨ j = 12 ∨ j = 13 ∨ j = 14 ∨ j = 15 ∨ j = 16 ∨ j = 17 ∨ j = 18 by omega) with rfl | rfl | rfl | rfl | rfl | rfl | rfl | rfl | rfl | rfl | rfl | rfl | rfl | rfl | rfl | rfl | rfl | rfl | rfl <;> rfl) (Nat.le_of_ble_eq_true rfl) (Nat.le_of_ble_eq_true rfl) dX9_init_38 (fun H hm => ?_)
  rw [hlen]
  refine lv_dup hx hb dX9_init_41 rfl ?_
  have hm0 := hm
  unfold xL at hm0
  rw [show (((.inr (8, [.ref (a + 1), .ref (a + 16), .ref (a + 483), .null, .null, .null, .null, .null, .null, .null, .null]) : va_E) :: R3) ++ ([.inr (1, [.null, .null, .null, .null, .null, .null, .null, .null, .null, .null, .null, .null, .null, .int 0, .int 0, .int 0, .int 0, .int 0, .int 0])] : List va_E)).length = 486 + 1 by rw [List.length_append, hlen]; rfl] at hm0
  refine g_size (n := 486) hm0 (by omega) (fun hH => ?_)
  refine g_callI (L0 := ((.inr (8, [.ref (a + 1), .ref (a + 16), .ref (a + 483), .null, .null, .null, .null, .null, .null, .null, .null]) : va_E) :: R3)) (L' := L_Heap E (a + 486)) (e0 := .inr (1, [.null, .null, .null, .null, .null, .null, .null, .null, .null, .null, .null, .null, .null, .int 0, .int 0, .int 0, .int 0, .int 0, .int 0])) (mc := 14) (ms := 372) (rest := [.ref (a + 486), .ref (a + 0)]) C hm (Nat.le_refl _) (by rw [hH, List.length_append, hlen]; rfl) (by rw [hlen]; exact c_X1_init l E (a + 486)) (by rw [L_Heap_len]; decide) tc_X1_init tm_RX9_9 ti_X1_init tn_RX1 rfl td_X1_init rfl rfl ⟨(Nat.le_of_ble_eq_true rfl), (Nat.le_of_ble_eq_true rfl)⟩ hl.1 (by rw [hlen]) (Nat.le_of_ble_eq_true rfl) ⟨(Nat.le_of_ble_eq_true rfl), (Nat.le_of_ble_eq_true rfl)⟩ dX9_init_42 (fun H locs hm => ?_)
  obtain ⟨R4, eR4⟩ : ∃ z, z = R3 ++ L_Heap E (a + 486) := ⟨_, rfl⟩
  have hR4 : R4.length = 500 := by rw [eR4, List.length_append, hR3, L_Heap_len]
  have hm : xL E a ((.inr (8, [.ref (a + 1), .ref (a + 16), .ref (a + 483), .null, .null, .null, .null, .null, .null, .null, .null])) :: R4) s.heap H locs := by rw [eR4]; exact hm
  refine x_putF (b := a) (k := 0) (v := .ref (a + 486)) (cf' := cfL ((.inr (8, [.ref (a + 1), .ref (a + 16), .ref (a + 483), .ref (a + 486), .null, .null, .null, .null, .null, .null, .null])) :: R4)) C hm hinit inX9 tyX9 tyX9_ok nmX9 rfl 3 (by decide) tf_RX9_30 rfl rfl rfl rfl (cfL_at (L := (.inr (8, [.ref (a + 1), .ref (a + 16), .ref (a + 483), .null, .null, .null, .null, .null, .null, .null, .null])) :: R4) rfl) (Nat.le_of_ble_eq_true rfl) rfl (cfL_seto (L := (.inr (8, [.ref (a + 1), .ref (a + 16), .ref (a + 483), .null, .null, .null, .null, .null, .null, .null, .null])) :: R4) (k := 0) (e := .inr (8, [.ref (a + 1), .ref (a + 16), .ref (a + 483), .ref (a + 486), .null, .null, .null, .null, .null, .null, .null]))) dX9_init_45 (fun H locs hm => ?_)
  have hm : xL E a ((.inr (8, [.ref (a + 1), .ref (a + 16), .ref (a + 483), .ref (a + 486), .null, .null, .null, .null, .null, .null, .null])) :: R4) s.heap H locs := hm
  have hlen : ((.inr (8, [.ref (a + 1), .ref (a + 16), .ref (a + 483), .ref (a + 486), .null, .null, .null, .null, .null, .null, .null]) : va_E) :: R4).length = 501 := by rw [List.length_cons, hR4]
  refine lv_aload_n hx hb dX9_init_48 rfl (lv_at hl 0 rfl) ?_
  have hm0 := hm
  unfold xL at hm0
  rw [hlen] at hm0
  refine g_size (n := 500) hm0 (by omega) (fun hH => ?_)
  refine g_new (L := ((.inr (8, [.ref (a + 1), .ref (a + 16), .ref (a + 483), .ref (a + 486), .null, .null, .null, .null, .null, .null, .null]) : va_E) :: R4)) (ci := 4) (fs := [.null, .int 0, .int 0]) C hm (by rw [hH, hlen]) inX5 tyX5 tyX5_ok tq_RX9_16 tj_RX5 tn_RX5 rfl (fun j hj => by rcases (show j = 0 ∨ j = 1 ∨ j = 2 by omega) with rfl | rfl | rfl <;> rfl) (Nat.le_of_ble_eq_true rfl) (Nat.le_of_ble_eq_true rfl) dX9_init_49 (fun H hm => ?_)
  rw [hlen]
  refine lv_dup hx hb dX9_init_52 rfl ?_
  have hm0 := hm
  unfold xL at hm0
  rw [show (((.inr (8, [.ref (a + 1), .ref (a + 16), .ref (a + 483), .ref (a + 486), .null, .null, .null, .null, .null, .null, .null]) : va_E) :: R4) ++ ([.inr (4, [.null, .int 0, .int 0])] : List va_E)).length = 501 + 1 by rw [List.length_append, hlen]; rfl] at hm0
  refine g_size (n := 501) hm0 (by omega) (fun hH => ?_)
  refine g_callI (L0 := ((.inr (8, [.ref (a + 1), .ref (a + 16), .ref (a + 483), .ref (a + 486), .null, .null, .null, .null, .null, .null, .null]) : va_E) :: R4)) (L' := L_Steps E (a + 501)) (e0 := .inr (4, [.null, .int 0, .int 0])) (mc := 466) (ms := 12152) (rest := [.ref (a + 501), .ref (a + 0)]) C hm (Nat.le_refl _) (by rw [hH, List.length_append, hlen]; rfl) (by rw [hlen]; exact c_X5_init l E (a + 501)) (by rw [L_Steps_len]; decide) tc_X5_init tm_RX9_18 ti_X5_init tn_RX5 rfl td_X5_init rfl rfl ⟨(Nat.le_of_ble_eq_true rfl), (Nat.le_of_ble_eq_true rfl)⟩ hl.1 (by rw [hlen]) (Nat.le_of_ble_eq_true rfl) ⟨(Nat.le_of_ble_eq_true rfl), (Nat.le_of_ble_eq_true rfl)⟩ dX9_init_53 (fun H locs hm => ?_)
  obtain ⟨R5, eR5⟩ : ∃ z, z = R4 ++ L_Steps E (a + 501) := ⟨_, rfl⟩
  have hR5 : R5.length = 967 := by rw [eR5, List.length_append, hR4, L_Steps_len]
  have hm : xL E a ((.inr (8, [.ref (a + 1), .ref (a + 16), .ref (a + 483), .ref (a + 486), .null, .null, .null, .null, .null, .null, .null])) :: R5) s.heap H locs := by rw [eR5]; exact hm
  refine x_putF (b := a) (k := 0) (v := .ref (a + 501)) (cf' := cfL ((.inr (8, [.ref (a + 1), .ref (a + 16), .ref (a + 483), .ref (a + 486), .ref (a + 501), .null, .null, .null, .null, .null, .null])) :: R5)) C hm hinit inX9 tyX9 tyX9_ok nmX9 rfl 4 (by decide) tf_RX9_33 rfl rfl rfl rfl (cfL_at (L := (.inr (8, [.ref (a + 1), .ref (a + 16), .ref (a + 483), .ref (a + 486), .null, .null, .null, .null, .null, .null, .null])) :: R5) rfl) (Nat.le_of_ble_eq_true rfl) rfl (cfL_seto (L := (.inr (8, [.ref (a + 1), .ref (a + 16), .ref (a + 483), .ref (a + 486), .null, .null, .null, .null, .null, .null, .null])) :: R5) (k := 0) (e := .inr (8, [.ref (a + 1), .ref (a + 16), .ref (a + 483), .ref (a + 486), .ref (a + 501), .null, .null, .null, .null, .null, .null]))) dX9_init_56 (fun H locs hm => ?_)
  have hm : xL E a ((.inr (8, [.ref (a + 1), .ref (a + 16), .ref (a + 483), .ref (a + 486), .ref (a + 501), .null, .null, .null, .null, .null, .null])) :: R5) s.heap H locs := hm
  have hlen : ((.inr (8, [.ref (a + 1), .ref (a + 16), .ref (a + 483), .ref (a + 486), .ref (a + 501), .null, .null, .null, .null, .null, .null]) : va_E) :: R5).length = 968 := by rw [List.length_cons, hR5]
  refine lv_aload_n hx hb dX9_init_59 rfl (lv_at hl 0 rfl) ?_
  have hm0 := hm
  unfold xL at hm0
  rw [hlen] at hm0
  refine g_size (n := 967) hm0 (by omega) (fun hH => ?_)
  refine g_new (L := ((.inr (8, [.ref (a + 1), .ref (a + 16), .ref (a + 483), .ref (a + 486), .ref (a + 501), .null, .null, .null, .null, .null, .null]) : va_E) :: R5)) (ci := 7) (fs := [.null, .null, .int 0, .int 0, .int 0]) C hm (by rw [hH, hlen]) inX8 tyX8 tyX8_ok tq_RX9_23 tj_RX8 tn_RX8 rfl (fun j hj => by rcases (show j = 0 ∨ j = 1 ∨ j = 2 ∨ j = 3 ∨ j = 4 by omega) with rfl | rfl | rfl | rfl | rfl <;> rfl) (Nat.le_of_ble_eq_true rfl) (Nat.le_of_ble_eq_true rfl) dX9_init_60 (fun H hm => ?_)
  rw [hlen]
  refine lv_dup hx hb dX9_init_63 rfl ?_
  have hm0 := hm
  unfold xL at hm0
  rw [show (((.inr (8, [.ref (a + 1), .ref (a + 16), .ref (a + 483), .ref (a + 486), .ref (a + 501), .null, .null, .null, .null, .null, .null]) : va_E) :: R5) ++ ([.inr (7, [.null, .null, .int 0, .int 0, .int 0])] : List va_E)).length = 968 + 1 by rw [List.length_append, hlen]; rfl] at hm0
  refine g_size (n := 968) hm0 (by omega) (fun hH => ?_)
  refine g_callIN (L0 := ((.inr (8, [.ref (a + 1), .ref (a + 16), .ref (a + 483), .ref (a + 486), .ref (a + 501), .null, .null, .null, .null, .null, .null]) : va_E) :: R5)) (L' := L_Told E (a + 968)) (e0 := .inr (7, [.null, .null, .int 0, .int 0, .int 0])) (mc := 2) (ms := 16) (rest := [.ref (a + 968), .ref (a + 0)]) C hm (Nat.le_refl _) (by rw [hH, List.length_append, hlen]; rfl) (by rw [hlen]; exact c_X8_init l E (a + 968)) (by rw [L_Told_len]; decide) tc_X8_init (by decide +kernel : (RX9, 25, yX8_init, "ColouredHeap") ∈ xNest) ti_X8_init tn_RX8 rfl td_X8_init rfl rfl ⟨(Nat.le_of_ble_eq_true rfl), (Nat.le_of_ble_eq_true rfl)⟩ hl.1 (by rw [hlen]) (Nat.le_of_ble_eq_true rfl) ⟨(Nat.le_of_ble_eq_true rfl), (Nat.le_of_ble_eq_true rfl)⟩ dX9_init_64 (fun H locs hm => ?_)
  obtain ⟨R6, eR6⟩ : ∃ z, z = R5 ++ L_Told E (a + 968) := ⟨_, rfl⟩
  have hR6 : R6.length = 970 := by rw [eR6, List.length_append, hR5, L_Told_len]
  have hm : xL E a ((.inr (8, [.ref (a + 1), .ref (a + 16), .ref (a + 483), .ref (a + 486), .ref (a + 501), .null, .null, .null, .null, .null, .null])) :: R6) s.heap H locs := by rw [eR6]; exact hm
  refine x_putF (b := a) (k := 0) (v := .ref (a + 968)) (cf' := cfL ((.inr (8, [.ref (a + 1), .ref (a + 16), .ref (a + 483), .ref (a + 486), .ref (a + 501), .ref (a + 968), .null, .null, .null, .null, .null])) :: R6)) C hm hinit inX9 tyX9 tyX9_ok nmX9 rfl 5 (by decide) tf_RX9_36 rfl rfl rfl rfl (cfL_at (L := (.inr (8, [.ref (a + 1), .ref (a + 16), .ref (a + 483), .ref (a + 486), .ref (a + 501), .null, .null, .null, .null, .null, .null])) :: R6) rfl) (Nat.le_of_ble_eq_true rfl) rfl (cfL_seto (L := (.inr (8, [.ref (a + 1), .ref (a + 16), .ref (a + 483), .ref (a + 486), .ref (a + 501), .null, .null, .null, .null, .null, .null])) :: R6) (k := 0) (e := .inr (8, [.ref (a + 1), .ref (a + 16), .ref (a + 483), .ref (a + 486), .ref (a + 501), .ref (a + 968), .null, .null, .null, .null, .null]))) dX9_init_67 (fun H locs hm => ?_)
  have hm : xL E a ((.inr (8, [.ref (a + 1), .ref (a + 16), .ref (a + 483), .ref (a + 486), .ref (a + 501), .ref (a + 968), .null, .null, .null, .null, .null])) :: R6) s.heap H locs := hm
  have hlen : ((.inr (8, [.ref (a + 1), .ref (a + 16), .ref (a + 483), .ref (a + 486), .ref (a + 501), .ref (a + 968), .null, .null, .null, .null, .null]) : va_E) :: R6).length = 971 := by rw [List.length_cons, hR6]
  refine lv_aload_n hx hb dX9_init_70 rfl (lv_at hl 0 rfl) ?_
  have hm0 := hm
  unfold xL at hm0
  rw [hlen] at hm0
  refine g_size (n := 970) hm0 (by omega) (fun hH => ?_)
  refine g_new (L := ((.inr (8, [.ref (a + 1), .ref (a + 16), .ref (a + 483), .ref (a + 486), .ref (a + 501), .ref (a + 968), .null, .null, .null, .null, .null]) : va_E) :: R6)) (ci := 1) (fs := [.null, .null, .null, .null, .null, .null, .null, .null, .null, .null, .null, .null, .null, .int 0, .int 0, .int 0, .int 0, .int 0, .int 0]) C hm (by rw [hH, hlen]) inX1 tyX1 tyX1_ok tq_RX9_7 tj_RX1 tn_RX1 rfl (fun j hj => by rcases (show j = 0 ∨ j = 1 ∨ j = 2 ∨ j = 3 ∨ j = 4 ∨ j = 5 ∨ j = 6 ∨ j = 7 ∨ j = 8 ∨ j = 9 ∨ j = 10 ∨ j = 11 ∨ j = 12 ∨ j = 13 ∨ j = 14 ∨ j = 15 ∨ j = 16 ∨ j = 17 ∨ j = 18 by omega) with rfl | rfl | rfl | rfl | rfl | rfl | rfl | rfl | rfl | rfl | rfl | rfl | rfl | rfl | rfl | rfl | rfl | rfl | rfl <;> rfl) (Nat.le_of_ble_eq_true rfl) (Nat.le_of_ble_eq_true rfl) dX9_init_71 (fun H hm => ?_)
  rw [hlen]
  refine lv_dup hx hb dX9_init_74 rfl ?_
  have hm0 := hm
  unfold xL at hm0
  rw [show (((.inr (8, [.ref (a + 1), .ref (a + 16), .ref (a + 483), .ref (a + 486), .ref (a + 501), .ref (a + 968), .null, .null, .null, .null, .null]) : va_E) :: R6) ++ ([.inr (1, [.null, .null, .null, .null, .null, .null, .null, .null, .null, .null, .null, .null, .null, .int 0, .int 0, .int 0, .int 0, .int 0, .int 0])] : List va_E)).length = 971 + 1 by rw [List.length_append, hlen]; rfl] at hm0
  refine g_size (n := 971) hm0 (by omega) (fun hH => ?_)
  refine g_callI (L0 := ((.inr (8, [.ref (a + 1), .ref (a + 16), .ref (a + 483), .ref (a + 486), .ref (a + 501), .ref (a + 968), .null, .null, .null, .null, .null]) : va_E) :: R6)) (L' := L_Heap E (a + 971)) (e0 := .inr (1, [.null, .null, .null, .null, .null, .null, .null, .null, .null, .null, .null, .null, .null, .int 0, .int 0, .int 0, .int 0, .int 0, .int 0])) (mc := 14) (ms := 372) (rest := [.ref (a + 971), .ref (a + 0)]) C hm (Nat.le_refl _) (by rw [hH, List.length_append, hlen]; rfl) (by rw [hlen]; exact c_X1_init l E (a + 971)) (by rw [L_Heap_len]; decide) tc_X1_init tm_RX9_9 ti_X1_init tn_RX1 rfl td_X1_init rfl rfl ⟨(Nat.le_of_ble_eq_true rfl), (Nat.le_of_ble_eq_true rfl)⟩ hl.1 (by rw [hlen]) (Nat.le_of_ble_eq_true rfl) ⟨(Nat.le_of_ble_eq_true rfl), (Nat.le_of_ble_eq_true rfl)⟩ dX9_init_75 (fun H locs hm => ?_)
  obtain ⟨R7, eR7⟩ : ∃ z, z = R6 ++ L_Heap E (a + 971) := ⟨_, rfl⟩
  have hR7 : R7.length = 985 := by rw [eR7, List.length_append, hR6, L_Heap_len]
  have hm : xL E a ((.inr (8, [.ref (a + 1), .ref (a + 16), .ref (a + 483), .ref (a + 486), .ref (a + 501), .ref (a + 968), .null, .null, .null, .null, .null])) :: R7) s.heap H locs := by rw [eR7]; exact hm
  refine x_putF (b := a) (k := 0) (v := .ref (a + 971)) (cf' := cfL ((.inr (8, [.ref (a + 1), .ref (a + 16), .ref (a + 483), .ref (a + 486), .ref (a + 501), .ref (a + 968), .ref (a + 971), .null, .null, .null, .null])) :: R7)) C hm hinit inX9 tyX9 tyX9_ok nmX9 rfl 6 (by decide) tf_RX9_39 rfl rfl rfl rfl (cfL_at (L := (.inr (8, [.ref (a + 1), .ref (a + 16), .ref (a + 483), .ref (a + 486), .ref (a + 501), .ref (a + 968), .null, .null, .null, .null, .null])) :: R7) rfl) (Nat.le_of_ble_eq_true rfl) rfl (cfL_seto (L := (.inr (8, [.ref (a + 1), .ref (a + 16), .ref (a + 483), .ref (a + 486), .ref (a + 501), .ref (a + 968), .null, .null, .null, .null, .null])) :: R7) (k := 0) (e := .inr (8, [.ref (a + 1), .ref (a + 16), .ref (a + 483), .ref (a + 486), .ref (a + 501), .ref (a + 968), .ref (a + 971), .null, .null, .null, .null]))) dX9_init_78 (fun H locs hm => ?_)
  have hm : xL E a ((.inr (8, [.ref (a + 1), .ref (a + 16), .ref (a + 483), .ref (a + 486), .ref (a + 501), .ref (a + 968), .ref (a + 971), .null, .null, .null, .null])) :: R7) s.heap H locs := hm
  have hlen : ((.inr (8, [.ref (a + 1), .ref (a + 16), .ref (a + 483), .ref (a + 486), .ref (a + 501), .ref (a + 968), .ref (a + 971), .null, .null, .null, .null]) : va_E) :: R7).length = 986 := by rw [List.length_cons, hR7]
  refine lv_aload_n hx hb dX9_init_81 rfl (lv_at hl 0 rfl) ?_
  have hm0 := hm
  unfold xL at hm0
  rw [hlen] at hm0
  refine g_size (n := 985) hm0 (by omega) (fun hH => ?_)
  refine g_new (L := ((.inr (8, [.ref (a + 1), .ref (a + 16), .ref (a + 483), .ref (a + 486), .ref (a + 501), .ref (a + 968), .ref (a + 971), .null, .null, .null, .null]) : va_E) :: R7)) (ci := 5) (fs := [.null, .null, .null, .int 0, .int 0, .int 0, .int 0]) C hm (by rw [hH, hlen]) inX6 tyX6 tyX6_ok tq_RX9_42 tj_RX6 tn_RX6 rfl (fun j hj => by rcases (show j = 0 ∨ j = 1 ∨ j = 2 ∨ j = 3 ∨ j = 4 ∨ j = 5 ∨ j = 6 by omega) with rfl | rfl | rfl | rfl | rfl | rfl | rfl <;> rfl) (Nat.le_of_ble_eq_true rfl) (Nat.le_of_ble_eq_true rfl) dX9_init_82 (fun H hm => ?_)
  rw [hlen]
  refine lv_dup hx hb dX9_init_85 rfl ?_
  have hm0 := hm
  unfold xL at hm0
  rw [show (((.inr (8, [.ref (a + 1), .ref (a + 16), .ref (a + 483), .ref (a + 486), .ref (a + 501), .ref (a + 968), .ref (a + 971), .null, .null, .null, .null]) : va_E) :: R7) ++ ([.inr (5, [.null, .null, .null, .int 0, .int 0, .int 0, .int 0])] : List va_E)).length = 986 + 1 by rw [List.length_append, hlen]; rfl] at hm0
  refine g_size (n := 986) hm0 (by omega) (fun hH => ?_)
  refine g_callIN (L0 := ((.inr (8, [.ref (a + 1), .ref (a + 16), .ref (a + 483), .ref (a + 486), .ref (a + 501), .ref (a + 968), .ref (a + 971), .null, .null, .null, .null]) : va_E) :: R7)) (L' := L_Survey E (a + 986)) (e0 := .inr (5, [.null, .null, .null, .int 0, .int 0, .int 0, .int 0])) (mc := 3) (ms := 192) (rest := [.ref (a + 986), .ref (a + 0)]) C hm (Nat.le_refl _) (by rw [hH, List.length_append, hlen]; rfl) (by rw [hlen]; exact c_X6_init l E (a + 986)) (by rw [L_Survey_len]; decide) tc_X6_init (by decide +kernel : (RX9, 44, yX6_init, "ColouredHeap") ∈ xNest) ti_X6_init tn_RX6 rfl td_X6_init rfl rfl ⟨(Nat.le_of_ble_eq_true rfl), (Nat.le_of_ble_eq_true rfl)⟩ hl.1 (by rw [hlen]) (Nat.le_of_ble_eq_true rfl) ⟨(Nat.le_of_ble_eq_true rfl), (Nat.le_of_ble_eq_true rfl)⟩ dX9_init_86 (fun H locs hm => ?_)
  obtain ⟨R8, eR8⟩ : ∃ z, z = R7 ++ L_Survey E (a + 986) := ⟨_, rfl⟩
  have hR8 : R8.length = 989 := by rw [eR8, List.length_append, hR7, L_Survey_len]
  have hm : xL E a ((.inr (8, [.ref (a + 1), .ref (a + 16), .ref (a + 483), .ref (a + 486), .ref (a + 501), .ref (a + 968), .ref (a + 971), .null, .null, .null, .null])) :: R8) s.heap H locs := by rw [eR8]; exact hm
  refine x_putF (b := a) (k := 0) (v := .ref (a + 986)) (cf' := cfL ((.inr (8, [.ref (a + 1), .ref (a + 16), .ref (a + 483), .ref (a + 486), .ref (a + 501), .ref (a + 968), .ref (a + 971), .ref (a + 986), .null, .null, .null])) :: R8)) C hm hinit inX9 tyX9 tyX9_ok nmX9 rfl 7 (by decide) tf_RX9_45 rfl rfl rfl rfl (cfL_at (L := (.inr (8, [.ref (a + 1), .ref (a + 16), .ref (a + 483), .ref (a + 486), .ref (a + 501), .ref (a + 968), .ref (a + 971), .null, .null, .null, .null])) :: R8) rfl) (Nat.le_of_ble_eq_true rfl) rfl (cfL_seto (L := (.inr (8, [.ref (a + 1), .ref (a + 16), .ref (a + 483), .ref (a + 486), .ref (a + 501), .ref (a + 968), .ref (a + 971), .null, .null, .null, .null])) :: R8) (k := 0) (e := .inr (8, [.ref (a + 1), .ref (a + 16), .ref (a + 483), .ref (a + 486), .ref (a + 501), .ref (a + 968), .ref (a + 971), .ref (a + 986), .null, .null, .null]))) dX9_init_89 (fun H locs hm => ?_)
  have hm : xL E a ((.inr (8, [.ref (a + 1), .ref (a + 16), .ref (a + 483), .ref (a + 486), .ref (a + 501), .ref (a + 968), .ref (a + 971), .ref (a + 986), .null, .null, .null])) :: R8) s.heap H locs := hm
  have hlen : ((.inr (8, [.ref (a + 1), .ref (a + 16), .ref (a + 483), .ref (a + 486), .ref (a + 501), .ref (a + 968), .ref (a + 971), .ref (a + 986), .null, .null, .null]) : va_E) :: R8).length = 990 := by rw [List.length_cons, hR8]
  refine lv_aload_n hx hb dX9_init_92 rfl (lv_at hl 0 rfl) ?_
  have hm0 := hm
  unfold xL at hm0
  rw [hlen] at hm0
  refine g_size (n := 989) hm0 (by omega) (fun hH => ?_)
  refine g_new (L := ((.inr (8, [.ref (a + 1), .ref (a + 16), .ref (a + 483), .ref (a + 486), .ref (a + 501), .ref (a + 968), .ref (a + 971), .ref (a + 986), .null, .null, .null]) : va_E) :: R8)) (ci := 3) (fs := [.null, .null, .null, .null, .null, .int 0, .int 0, .int 0, .int 0, .int 0, .int 0]) C hm (by rw [hH, hlen]) inX4 tyX4 tyX4_ok tq_RX9_49 tj_RX4 tn_RX4 rfl (fun j hj => by rcases (show j = 0 ∨ j = 1 ∨ j = 2 ∨ j = 3 ∨ j = 4 ∨ j = 5 ∨ j = 6 ∨ j = 7 ∨ j = 8 ∨ j = 9 ∨ j = 10 by omega) with rfl | rfl | rfl | rfl | rfl | rfl | rfl | rfl | rfl | rfl | rfl <;> rfl) (Nat.le_of_ble_eq_true rfl) (Nat.le_of_ble_eq_true rfl) dX9_init_93 (fun H hm => ?_)
  rw [hlen]
  refine lv_dup hx hb dX9_init_96 rfl ?_
  have hm0 := hm
  unfold xL at hm0
  rw [show (((.inr (8, [.ref (a + 1), .ref (a + 16), .ref (a + 483), .ref (a + 486), .ref (a + 501), .ref (a + 968), .ref (a + 971), .ref (a + 986), .null, .null, .null]) : va_E) :: R8) ++ ([.inr (3, [.null, .null, .null, .null, .null, .int 0, .int 0, .int 0, .int 0, .int 0, .int 0])] : List va_E)).length = 990 + 1 by rw [List.length_append, hlen]; rfl] at hm0
  refine g_size (n := 990) hm0 (by omega) (fun hH => ?_)
  refine g_callIN (L0 := ((.inr (8, [.ref (a + 1), .ref (a + 16), .ref (a + 483), .ref (a + 486), .ref (a + 501), .ref (a + 968), .ref (a + 971), .ref (a + 986), .null, .null, .null]) : va_E) :: R8)) (L' := L_Reader E (a + 990)) (e0 := .inr (3, [.null, .null, .null, .null, .null, .int 0, .int 0, .int 0, .int 0, .int 0, .int 0])) (mc := 13) (ms := 1913) (rest := [.ref (a + 990), .ref (a + 0)]) C hm (Nat.le_refl _) (by rw [hH, List.length_append, hlen]; rfl) (by rw [hlen]; exact c_X4_init l E (a + 990)) (by rw [L_Reader_len]; decide) tc_X4_init (by decide +kernel : (RX9, 51, yX4_init, "ColouredHeap") ∈ xNest) ti_X4_init tn_RX4 rfl td_X4_init rfl rfl ⟨(Nat.le_of_ble_eq_true rfl), (Nat.le_of_ble_eq_true rfl)⟩ hl.1 (by rw [hlen]) (Nat.le_of_ble_eq_true rfl) ⟨(Nat.le_of_ble_eq_true rfl), (Nat.le_of_ble_eq_true rfl)⟩ dX9_init_97 (fun H locs hm => ?_)
  obtain ⟨R9, eR9⟩ : ∃ z, z = R8 ++ L_Reader E (a + 990) := ⟨_, rfl⟩
  have hR9 : R9.length = 1003 := by rw [eR9, List.length_append, hR8, L_Reader_len]
  have hm : xL E a ((.inr (8, [.ref (a + 1), .ref (a + 16), .ref (a + 483), .ref (a + 486), .ref (a + 501), .ref (a + 968), .ref (a + 971), .ref (a + 986), .null, .null, .null])) :: R9) s.heap H locs := by rw [eR9]; exact hm
  refine x_putF (b := a) (k := 0) (v := .ref (a + 990)) (cf' := cfL ((.inr (8, [.ref (a + 1), .ref (a + 16), .ref (a + 483), .ref (a + 486), .ref (a + 501), .ref (a + 968), .ref (a + 971), .ref (a + 986), .ref (a + 990), .null, .null])) :: R9)) C hm hinit inX9 tyX9 tyX9_ok nmX9 rfl 8 (by decide) tf_RX9_52 rfl rfl rfl rfl (cfL_at (L := (.inr (8, [.ref (a + 1), .ref (a + 16), .ref (a + 483), .ref (a + 486), .ref (a + 501), .ref (a + 968), .ref (a + 971), .ref (a + 986), .null, .null, .null])) :: R9) rfl) (Nat.le_of_ble_eq_true rfl) rfl (cfL_seto (L := (.inr (8, [.ref (a + 1), .ref (a + 16), .ref (a + 483), .ref (a + 486), .ref (a + 501), .ref (a + 968), .ref (a + 971), .ref (a + 986), .null, .null, .null])) :: R9) (k := 0) (e := .inr (8, [.ref (a + 1), .ref (a + 16), .ref (a + 483), .ref (a + 486), .ref (a + 501), .ref (a + 968), .ref (a + 971), .ref (a + 986), .ref (a + 990), .null, .null]))) dX9_init_100 (fun H locs hm => ?_)
  have hm : xL E a ((.inr (8, [.ref (a + 1), .ref (a + 16), .ref (a + 483), .ref (a + 486), .ref (a + 501), .ref (a + 968), .ref (a + 971), .ref (a + 986), .ref (a + 990), .null, .null])) :: R9) s.heap H locs := hm
  have hlen : ((.inr (8, [.ref (a + 1), .ref (a + 16), .ref (a + 483), .ref (a + 486), .ref (a + 501), .ref (a + 968), .ref (a + 971), .ref (a + 986), .ref (a + 990), .null, .null]) : va_E) :: R9).length = 1004 := by rw [List.length_cons, hR9]
  refine lv_aload_n hx hb dX9_init_103 rfl (lv_at hl 0 rfl) ?_
  have hm0 := hm
  unfold xL at hm0
  rw [hlen] at hm0
  refine g_size (n := 1003) hm0 (by omega) (fun hH => ?_)
  refine g_new (L := ((.inr (8, [.ref (a + 1), .ref (a + 16), .ref (a + 483), .ref (a + 486), .ref (a + 501), .ref (a + 968), .ref (a + 971), .ref (a + 986), .ref (a + 990), .null, .null]) : va_E) :: R9)) (ci := 2) (fs := [.null, .int 0]) C hm (by rw [hH, hlen]) inX3 tyX3 tyX3_ok tq_RX9_56 tj_RX3 tn_RX3 rfl (fun j hj => by rcases (show j = 0 ∨ j = 1 by omega) with rfl | rfl <;> rfl) (Nat.le_of_ble_eq_true rfl) (Nat.le_of_ble_eq_true rfl) dX9_init_104 (fun H hm => ?_)
  rw [hlen]
  refine lv_dup hx hb dX9_init_107 rfl ?_
  have hm0 := hm
  unfold xL at hm0
  rw [show (((.inr (8, [.ref (a + 1), .ref (a + 16), .ref (a + 483), .ref (a + 486), .ref (a + 501), .ref (a + 968), .ref (a + 971), .ref (a + 986), .ref (a + 990), .null, .null]) : va_E) :: R9) ++ ([.inr (2, [.null, .int 0])] : List va_E)).length = 1004 + 1 by rw [List.length_append, hlen]; rfl] at hm0
  refine g_size (n := 1004) hm0 (by omega) (fun hH => ?_)
  refine g_callIN (L0 := ((.inr (8, [.ref (a + 1), .ref (a + 16), .ref (a + 483), .ref (a + 486), .ref (a + 501), .ref (a + 968), .ref (a + 971), .ref (a + 986), .ref (a + 990), .null, .null]) : va_E) :: R9)) (L' := L_Law E (a + 1004)) (e0 := .inr (2, [.null, .int 0])) (mc := 1) (ms := 300) (rest := [.ref (a + 1004), .ref (a + 0)]) C hm (Nat.le_refl _) (by rw [hH, List.length_append, hlen]; rfl) (by rw [hlen]; exact c_X3_init l E (a + 1004)) (by rw [L_Law_len]; decide) tc_X3_init (by decide +kernel : (RX9, 58, yX3_init, "ColouredHeap") ∈ xNest) ti_X3_init tn_RX3 rfl td_X3_init rfl rfl ⟨(Nat.le_of_ble_eq_true rfl), (Nat.le_of_ble_eq_true rfl)⟩ hl.1 (by rw [hlen]) (Nat.le_of_ble_eq_true rfl) ⟨(Nat.le_of_ble_eq_true rfl), (Nat.le_of_ble_eq_true rfl)⟩ dX9_init_108 (fun H locs hm => ?_)
  obtain ⟨R10, eR10⟩ : ∃ z, z = R9 ++ L_Law E (a + 1004) := ⟨_, rfl⟩
  have hR10 : R10.length = 1005 := by rw [eR10, List.length_append, hR9, L_Law_len]
  have hm : xL E a ((.inr (8, [.ref (a + 1), .ref (a + 16), .ref (a + 483), .ref (a + 486), .ref (a + 501), .ref (a + 968), .ref (a + 971), .ref (a + 986), .ref (a + 990), .null, .null])) :: R10) s.heap H locs := by rw [eR10]; exact hm
  refine x_putF (b := a) (k := 0) (v := .ref (a + 1004)) (cf' := cfL ((.inr (8, [.ref (a + 1), .ref (a + 16), .ref (a + 483), .ref (a + 486), .ref (a + 501), .ref (a + 968), .ref (a + 971), .ref (a + 986), .ref (a + 990), .ref (a + 1004), .null])) :: R10)) C hm hinit inX9 tyX9 tyX9_ok nmX9 rfl 9 (by decide) tf_RX9_59 rfl rfl rfl rfl (cfL_at (L := (.inr (8, [.ref (a + 1), .ref (a + 16), .ref (a + 483), .ref (a + 486), .ref (a + 501), .ref (a + 968), .ref (a + 971), .ref (a + 986), .ref (a + 990), .null, .null])) :: R10) rfl) (Nat.le_of_ble_eq_true rfl) rfl (cfL_seto (L := (.inr (8, [.ref (a + 1), .ref (a + 16), .ref (a + 483), .ref (a + 486), .ref (a + 501), .ref (a + 968), .ref (a + 971), .ref (a + 986), .ref (a + 990), .null, .null])) :: R10) (k := 0) (e := .inr (8, [.ref (a + 1), .ref (a + 16), .ref (a + 483), .ref (a + 486), .ref (a + 501), .ref (a + 968), .ref (a + 971), .ref (a + 986), .ref (a + 990), .ref (a + 1004), .null]))) dX9_init_111 (fun H locs hm => ?_)
  have hm : xL E a ((.inr (8, [.ref (a + 1), .ref (a + 16), .ref (a + 483), .ref (a + 486), .ref (a + 501), .ref (a + 968), .ref (a + 971), .ref (a + 986), .ref (a + 990), .ref (a + 1004), .null])) :: R10) s.heap H locs := hm
  have hlen : ((.inr (8, [.ref (a + 1), .ref (a + 16), .ref (a + 483), .ref (a + 486), .ref (a + 501), .ref (a + 968), .ref (a + 971), .ref (a + 986), .ref (a + 990), .ref (a + 1004), .null]) : va_E) :: R10).length = 1006 := by rw [List.length_cons, hR10]
  refine lv_aload_n hx hb dX9_init_114 rfl (lv_at hl 0 rfl) ?_
  refine lv_iconst (v := 4) hx hb dX9_init_115 (by decide) ?_
  have hm0 := hm
  unfold xL at hm0
  rw [hlen] at hm0
  refine g_size (n := 1005) hm0 (by omega) (fun hH => ?_)
  refine g_newq (L := (.inr (8, [.ref (a + 1), .ref (a + 16), .ref (a + 483), .ref (a + 486), .ref (a + 501), .ref (a + 968), .ref (a + 971), .ref (a + 986), .ref (a + 990), .ref (a + 1004), .null])) :: R10) C hm (by rw [hH, hlen]) 4 tq_RX9_63 C.2.2.2.2.1.2.2 rfl (N' := 4) (by decide) rfl (by decide) (Nat.le_of_ble_eq_true rfl) (Nat.le_of_ble_eq_true rfl) dX9_init_116 (fun H hm => ?_)
  rw [hlen]
  have hm : xL E a ((.inr (8, [.ref (a + 1), .ref (a + 16), .ref (a + 483), .ref (a + 486), .ref (a + 501), .ref (a + 968), .ref (a + 971), .ref (a + 986), .ref (a + 990), .ref (a + 1004), .null])) :: (R10 ++ ((.inl (E.2 4, 4, .inr (.inr (.inr (.inr (fun _ => none))))) : va_E)) :: [])) s.heap H locs := hm
  refine x_putF (b := a) (k := 0) (v := .ref (a + 1006)) (cf' := cfL ((.inr (8, [.ref (a + 1), .ref (a + 16), .ref (a + 483), .ref (a + 486), .ref (a + 501), .ref (a + 968), .ref (a + 971), .ref (a + 986), .ref (a + 990), .ref (a + 1004), .ref (a + 1006)])) :: (R10 ++ ((.inl (E.2 4, 4, .inr (.inr (.inr (.inr (fun _ => none))))) : va_E)) :: []))) C hm hinit inX9 tyX9 tyX9_ok nmX9 rfl 10 (by decide) tf_RX9_65 rfl rfl rfl rfl (cfL_at (L := (.inr (8, [.ref (a + 1), .ref (a + 16), .ref (a + 483), .ref (a + 486), .ref (a + 501), .ref (a + 968), .ref (a + 971), .ref (a + 986), .ref (a + 990), .ref (a + 1004), .null])) :: (R10 ++ ((.inl (E.2 4, 4, .inr (.inr (.inr (.inr (fun _ => none))))) : va_E)) :: [])) rfl) (Nat.le_of_ble_eq_true rfl) rfl (cfL_seto (L := (.inr (8, [.ref (a + 1), .ref (a + 16), .ref (a + 483), .ref (a + 486), .ref (a + 501), .ref (a + 968), .ref (a + 971), .ref (a + 986), .ref (a + 990), .ref (a + 1004), .null])) :: (R10 ++ ((.inl (E.2 4, 4, .inr (.inr (.inr (.inr (fun _ => none))))) : va_E)) :: [])) (k := 0) (e := .inr (8, [.ref (a + 1), .ref (a + 16), .ref (a + 483), .ref (a + 486), .ref (a + 501), .ref (a + 968), .ref (a + 971), .ref (a + 986), .ref (a + 990), .ref (a + 1004), .ref (a + 1006)]))) dX9_init_119 (fun H locs hm => ?_)
  have hm : xL E a ((.inr (8, [.ref (a + 1), .ref (a + 16), .ref (a + 483), .ref (a + 486), .ref (a + 501), .ref (a + 968), .ref (a + 971), .ref (a + 986), .ref (a + 990), .ref (a + 1004), .ref (a + 1006)])) :: (R10 ++ ((.inl (E.2 4, 4, .inr (.inr (.inr (.inr (fun _ => none))))) : va_E)) :: [])) s.heap H locs := hm
  refine lv_iconst (v := 0) hx hb dX9_init_122 (by decide) ?_
  refine lv_istore_n (lv' := [(1, .int 0), (0, .ref (a + 0))]) hx hb dX9_init_123 rfl hl (by decide) rfl (fun ls hl => ?_)
  have hlen : ((.inr (8, [.ref (a + 1), .ref (a + 16), .ref (a + 483), .ref (a + 486), .ref (a + 501), .ref (a + 968), .ref (a + 971), .ref (a + 986), .ref (a + 990), .ref (a + 1004), .ref (a + 1006)]) : va_E) :: (R10 ++ ((.inl (E.2 4, 4, .inr (.inr (.inr (.inr (fun _ => none))))) : va_E)) :: [])).length = 1007 := by rw [List.length_cons, List.length_append, hR10]; rfl
  refine lv_iload_n hx hb dX9_init_124 rfl (lv_at hl 0 rfl) ?_
  refine lv_iconst (v := 4) hx hb dX9_init_125 (by decide) ?_
  refine lv_icmp_ge (tgt := 148) hx hb dX9_init_126 (by decide) (fun h => absurd h (by decide)) (fun _ => ?_)
  refine lv_aload_n hx hb dX9_init_129 rfl (lv_at hl 1 rfl) ?_
  refine x_get (b := a) (k := 0) C hm inX9 rfl 10 (by decide) tf_RX9_65 (cfL_at (L := ((.inr (8, [.ref (a + 1), .ref (a + 16), .ref (a + 483), .ref (a + 486), .ref (a + 501), .ref (a + 968), .ref (a + 971), .ref (a + 986), .ref (a + 990), .ref (a + 1004), .ref (a + 1006)]) : va_E) :: (R10 ++ ((.inl (E.2 4, 4, .inr (.inr (.inr (.inr (fun _ => none))))) : va_E)) :: []))) rfl) rfl dX9_init_130 ?_
  refine lv_iload_n hx hb dX9_init_133 rfl (lv_at hl 0 rfl) ?_
  have hm0 := hm
  unfold xL at hm0
  rw [hlen] at hm0
  refine g_size (n := 1006) hm0 (by omega) (fun hH => ?_)
  refine g_new (L := ((.inr (8, [.ref (a + 1), .ref (a + 16), .ref (a + 483), .ref (a + 486), .ref (a + 501), .ref (a + 968), .ref (a + 971), .ref (a + 986), .ref (a + 990), .ref (a + 1004), .ref (a + 1006)]) : va_E) :: (R10 ++ ((.inl (E.2 4, 4, .inr (.inr (.inr (.inr (fun _ => none))))) : va_E)) :: []))) (ci := 6) (fs := [.null, .null, .null, .null, .null, .null, .null, .null, .int 0, .int 0]) C hm (by rw [hH, hlen]) inX7 tyX7 tyX7_ok tq_RX9_63 tj_RX7 tn_RX7 rfl (fun j hj => by rcases (show j = 0 ∨ j = 1 ∨ j = 2 ∨ j = 3 ∨ j = 4 ∨ j = 5 ∨ j = 6 ∨ j = 7 ∨ j = 8 ∨ j = 9 by omega) with rfl | rfl | rfl | rfl | rfl | rfl | rfl | rfl | rfl | rfl <;> rfl) (Nat.le_of_ble_eq_true rfl) (Nat.le_of_ble_eq_true rfl) dX9_init_134 (fun H hm => ?_)
  rw [hlen]
  refine lv_dup hx hb dX9_init_137 rfl ?_
  have hm0 := hm
  unfold xL at hm0
  rw [show (((.inr (8, [.ref (a + 1), .ref (a + 16), .ref (a + 483), .ref (a + 486), .ref (a + 501), .ref (a + 968), .ref (a + 971), .ref (a + 986), .ref (a + 990), .ref (a + 1004), .ref (a + 1006)]) : va_E) :: (R10 ++ ((.inl (E.2 4, 4, .inr (.inr (.inr (.inr (fun _ => none))))) : va_E)) :: [])) ++ ([.inr (6, [.null, .null, .null, .null, .null, .null, .null, .null, .int 0, .int 0])] : List va_E)).length = 1007 + 1 by rw [List.length_append, hlen]; rfl] at hm0
  refine g_size (n := 1007) hm0 (by omega) (fun hH => ?_)
  refine g_callIN (L0 := ((.inr (8, [.ref (a + 1), .ref (a + 16), .ref (a + 483), .ref (a + 486), .ref (a + 501), .ref (a + 968), .ref (a + 971), .ref (a + 986), .ref (a + 990), .ref (a + 1004), .ref (a + 1006)]) : va_E) :: (R10 ++ ((.inl (E.2 4, 4, .inr (.inr (.inr (.inr (fun _ => none))))) : va_E)) :: []))) (L' := L_Text E (a + 1007)) (e0 := .inr (6, [.null, .null, .null, .null, .null, .null, .null, .null, .int 0, .int 0])) (mc := 8) (ms := 700) (rest := [.ref (a + 1007), .int (0 : Int32), .ref (a + 1006)]) C hm (Nat.le_refl _) (by rw [hH, List.length_append, hlen]; rfl) (by rw [hlen]; exact c_X7_init l E (a + 1007)) (by rw [L_Text_len]; decide) tc_X7_init (by decide +kernel : (RX9, 69, yX7_init, "ColouredHeap") ∈ xNest) ti_X7_init tn_RX7 rfl td_X7_init rfl rfl ⟨(Nat.le_of_ble_eq_true rfl), (Nat.le_of_ble_eq_true rfl)⟩ hl.1 (by rw [hlen]) (Nat.le_of_ble_eq_true rfl) ⟨(Nat.le_of_ble_eq_true rfl), (Nat.le_of_ble_eq_true rfl)⟩ dX9_init_138 (fun H locs hm => ?_)
  have hm : xL E a ((.inr (8, [.ref (a + 1), .ref (a + 16), .ref (a + 483), .ref (a + 486), .ref (a + 501), .ref (a + 968), .ref (a + 971), .ref (a + 986), .ref (a + 990), .ref (a + 1004), .ref (a + 1006)])) :: (R10 ++ ((.inl (E.2 4, 4, .inr (.inr (.inr (.inr (fun _ => none))))) : va_E)) :: ([] ++ L_Text E (a + 1007)))) s.heap H locs := by
    have hm2 := hm
    rw [List.cons_append, List.append_assoc, List.cons_append] at hm2
    exact hm2
  have hset : ((.inr (8, [.ref (a + 1), .ref (a + 16), .ref (a + 483), .ref (a + 486), .ref (a + 501), .ref (a + 968), .ref (a + 971), .ref (a + 986), .ref (a + 990), .ref (a + 1004), .ref (a + 1006)]) : va_E) :: (R10 ++ ((.inl (E.2 4, 4, .inr (.inr (.inr (.inr (va_up (fun _ => none) 0 (some (a + 1007))))))) : va_E)) :: ([] ++ L_Text E (a + 1007)))) = ((.inr (8, [.ref (a + 1), .ref (a + 16), .ref (a + 483), .ref (a + 486), .ref (a + 501), .ref (a + 968), .ref (a + 971), .ref (a + 986), .ref (a + 990), .ref (a + 1004), .ref (a + 1006)]) : va_E) :: (R10 ++ ((.inl (E.2 4, 4, .inr (.inr (.inr (.inr (fun _ => none))))) : va_E)) :: ([] ++ L_Text E (a + 1007)))).set 1006 ((.inl (E.2 4, 4, .inr (.inr (.inr (.inr (va_up (fun _ => none) 0 (some (a + 1007))))))) : va_E)) := (mid_set hR10).symm
  refine x_aast (b := a) (k := 1006) (k2 := 1007) (t0 := 4) (ci := 6) (r := (RX7, TX7, 10)) (f := (fun _ => none)) (i := (0 : Int32)) (cf' := cfL ((.inr (8, [.ref (a + 1), .ref (a + 16), .ref (a + 483), .ref (a + 486), .ref (a + 501), .ref (a + 968), .ref (a + 971), .ref (a + 986), .ref (a + 990), .ref (a + 1004), .ref (a + 1006)]) : va_E) :: (R10 ++ ((.inl (E.2 4, 4, .inr (.inr (.inr (.inr (va_up (fun _ => none) 0 (some (a + 1007))))))) : va_E)) :: ([] ++ L_Text E (a + 1007))))) C hm (cfL_at (L := ((.inr (8, [.ref (a + 1), .ref (a + 16), .ref (a + 483), .ref (a + 486), .ref (a + 501), .ref (a + 968), .ref (a + 971), .ref (a + 986), .ref (a + 990), .ref (a + 1004), .ref (a + 1006)]) : va_E) :: (R10 ++ ((.inl (E.2 4, 4, .inr (.inr (.inr (.inr (fun _ => none))))) : va_E)) :: ([] ++ L_Text E (a + 1007))))) (mid_get hR10)) rfl (cfL_at (L := ((.inr (8, [.ref (a + 1), .ref (a + 16), .ref (a + 483), .ref (a + 486), .ref (a + 501), .ref (a + 968), .ref (a + 971), .ref (a + 986), .ref (a + 990), .ref (a + 1004), .ref (a + 1006)]) : va_E) :: (R10 ++ ((.inl (E.2 4, 4, .inr (.inr (.inr (.inr (fun _ => none))))) : va_E)) :: ([] ++ L_Text E (a + 1007))))) (end_get (k := 0) hR10 rfl)) rfl (by decide) dX9_init_141 ?_ (by rw [hset]; exact cfL_seto) (fun H locs hm => ?_)
  · rw [hset, cfL_set (by rw [List.length_cons, List.length_append, hR10]; exact Nat.le_of_ble_eq_true rfl)]
    rfl
  have hm : xL E a ((.inr (8, [.ref (a + 1), .ref (a + 16), .ref (a + 483), .ref (a + 486), .ref (a + 501), .ref (a + 968), .ref (a + 971), .ref (a + 986), .ref (a + 990), .ref (a + 1004), .ref (a + 1006)]) : va_E) :: (R10 ++ ((.inl (E.2 4, 4, .inr (.inr (.inr (.inr (va_up (fun _ => none) 0 (some (a + 1007))))))) : va_E)) :: ([] ++ L_Text E (a + 1007)))) s.heap H locs := by
    unfold xL
    rw [hset, List.length_set]
    rw [hset] at hm
    exact hm
  refine lv_iinc (v := (1 : Int32)) (lv' := [(1, .int (1 : Int32)), (0, .ref (a + 0))]) hx hb dX9_init_142 hl (k := 0) rfl rfl (by decide) rfl (fun ls hl => ?_)
  refine lv_goto (tgt := 124) hx hb dX9_init_145 (by decide) ?_
  have hlen : ((.inr (8, [.ref (a + 1), .ref (a + 16), .ref (a + 483), .ref (a + 486), .ref (a + 501), .ref (a + 968), .ref (a + 971), .ref (a + 986), .ref (a + 990), .ref (a + 1004), .ref (a + 1006)]) : va_E) :: (R10 ++ ((.inl (E.2 4, 4, .inr (.inr (.inr (.inr (va_up (fun _ => none) 0 (some (a + 1007))))))) : va_E)) :: ([] ++ L_Text E (a + 1007)))).length = 1016 := by rw [List.length_cons, List.length_append, hR10]; rfl
  refine lv_iload_n hx hb dX9_init_124 rfl (lv_at hl 0 rfl) ?_
  refine lv_iconst (v := 4) hx hb dX9_init_125 (by decide) ?_
  refine lv_icmp_ge (tgt := 148) hx hb dX9_init_126 (by decide) (fun h => absurd h (by decide)) (fun _ => ?_)
  refine lv_aload_n hx hb dX9_init_129 rfl (lv_at hl 1 rfl) ?_
  refine x_get (b := a) (k := 0) C hm inX9 rfl 10 (by decide) tf_RX9_65 (cfL_at (L := ((.inr (8, [.ref (a + 1), .ref (a + 16), .ref (a + 483), .ref (a + 486), .ref (a + 501), .ref (a + 968), .ref (a + 971), .ref (a + 986), .ref (a + 990), .ref (a + 1004), .ref (a + 1006)]) : va_E) :: (R10 ++ ((.inl (E.2 4, 4, .inr (.inr (.inr (.inr (va_up (fun _ => none) 0 (some (a + 1007))))))) : va_E)) :: ([] ++ L_Text E (a + 1007))))) rfl) rfl dX9_init_130 ?_
  refine lv_iload_n hx hb dX9_init_133 rfl (lv_at hl 0 rfl) ?_
  have hm0 := hm
  unfold xL at hm0
  rw [hlen] at hm0
  refine g_size (n := 1015) hm0 (by omega) (fun hH => ?_)
  refine g_new (L := ((.inr (8, [.ref (a + 1), .ref (a + 16), .ref (a + 483), .ref (a + 486), .ref (a + 501), .ref (a + 968), .ref (a + 971), .ref (a + 986), .ref (a + 990), .ref (a + 1004), .ref (a + 1006)]) : va_E) :: (R10 ++ ((.inl (E.2 4, 4, .inr (.inr (.inr (.inr (va_up (fun _ => none) 0 (some (a + 1007))))))) : va_E)) :: ([] ++ L_Text E (a + 1007))))) (ci := 6) (fs := [.null, .null, .null, .null, .null, .null, .null, .null, .int 0, .int 0]) C hm (by rw [hH, hlen]) inX7 tyX7 tyX7_ok tq_RX9_63 tj_RX7 tn_RX7 rfl (fun j hj => by rcases (show j = 0 ∨ j = 1 ∨ j = 2 ∨ j = 3 ∨ j = 4 ∨ j = 5 ∨ j = 6 ∨ j = 7 ∨ j = 8 ∨ j = 9 by omega) with rfl | rfl | rfl | rfl | rfl | rfl | rfl | rfl | rfl | rfl <;> rfl) (Nat.le_of_ble_eq_true rfl) (Nat.le_of_ble_eq_true rfl) dX9_init_134 (fun H hm => ?_)
  rw [hlen]
  refine lv_dup hx hb dX9_init_137 rfl ?_
  have hm0 := hm
  unfold xL at hm0
  rw [show (((.inr (8, [.ref (a + 1), .ref (a + 16), .ref (a + 483), .ref (a + 486), .ref (a + 501), .ref (a + 968), .ref (a + 971), .ref (a + 986), .ref (a + 990), .ref (a + 1004), .ref (a + 1006)]) : va_E) :: (R10 ++ ((.inl (E.2 4, 4, .inr (.inr (.inr (.inr (va_up (fun _ => none) 0 (some (a + 1007))))))) : va_E)) :: ([] ++ L_Text E (a + 1007)))) ++ ([.inr (6, [.null, .null, .null, .null, .null, .null, .null, .null, .int 0, .int 0])] : List va_E)).length = 1016 + 1 by rw [List.length_append, hlen]; rfl] at hm0
  refine g_size (n := 1016) hm0 (by omega) (fun hH => ?_)
  refine g_callIN (L0 := ((.inr (8, [.ref (a + 1), .ref (a + 16), .ref (a + 483), .ref (a + 486), .ref (a + 501), .ref (a + 968), .ref (a + 971), .ref (a + 986), .ref (a + 990), .ref (a + 1004), .ref (a + 1006)]) : va_E) :: (R10 ++ ((.inl (E.2 4, 4, .inr (.inr (.inr (.inr (va_up (fun _ => none) 0 (some (a + 1007))))))) : va_E)) :: ([] ++ L_Text E (a + 1007))))) (L' := L_Text E (a + 1016)) (e0 := .inr (6, [.null, .null, .null, .null, .null, .null, .null, .null, .int 0, .int 0])) (mc := 8) (ms := 700) (rest := [.ref (a + 1016), .int (1 : Int32), .ref (a + 1006)]) C hm (Nat.le_refl _) (by rw [hH, List.length_append, hlen]; rfl) (by rw [hlen]; exact c_X7_init l E (a + 1016)) (by rw [L_Text_len]; decide) tc_X7_init (by decide +kernel : (RX9, 69, yX7_init, "ColouredHeap") ∈ xNest) ti_X7_init tn_RX7 rfl td_X7_init rfl rfl ⟨(Nat.le_of_ble_eq_true rfl), (Nat.le_of_ble_eq_true rfl)⟩ hl.1 (by rw [hlen]) (Nat.le_of_ble_eq_true rfl) ⟨(Nat.le_of_ble_eq_true rfl), (Nat.le_of_ble_eq_true rfl)⟩ dX9_init_138 (fun H locs hm => ?_)
  have hm : xL E a ((.inr (8, [.ref (a + 1), .ref (a + 16), .ref (a + 483), .ref (a + 486), .ref (a + 501), .ref (a + 968), .ref (a + 971), .ref (a + 986), .ref (a + 990), .ref (a + 1004), .ref (a + 1006)])) :: (R10 ++ ((.inl (E.2 4, 4, .inr (.inr (.inr (.inr (va_up (fun _ => none) 0 (some (a + 1007))))))) : va_E)) :: (([] ++ L_Text E (a + 1007)) ++ L_Text E (a + 1016)))) s.heap H locs := by
    have hm2 := hm
    rw [List.cons_append, List.append_assoc, List.cons_append] at hm2
    exact hm2
  have hset : ((.inr (8, [.ref (a + 1), .ref (a + 16), .ref (a + 483), .ref (a + 486), .ref (a + 501), .ref (a + 968), .ref (a + 971), .ref (a + 986), .ref (a + 990), .ref (a + 1004), .ref (a + 1006)]) : va_E) :: (R10 ++ ((.inl (E.2 4, 4, .inr (.inr (.inr (.inr (va_up (va_up (fun _ => none) 0 (some (a + 1007))) 1 (some (a + 1016))))))) : va_E)) :: (([] ++ L_Text E (a + 1007)) ++ L_Text E (a + 1016)))) = ((.inr (8, [.ref (a + 1), .ref (a + 16), .ref (a + 483), .ref (a + 486), .ref (a + 501), .ref (a + 968), .ref (a + 971), .ref (a + 986), .ref (a + 990), .ref (a + 1004), .ref (a + 1006)]) : va_E) :: (R10 ++ ((.inl (E.2 4, 4, .inr (.inr (.inr (.inr (va_up (fun _ => none) 0 (some (a + 1007))))))) : va_E)) :: (([] ++ L_Text E (a + 1007)) ++ L_Text E (a + 1016)))).set 1006 ((.inl (E.2 4, 4, .inr (.inr (.inr (.inr (va_up (va_up (fun _ => none) 0 (some (a + 1007))) 1 (some (a + 1016))))))) : va_E)) := (mid_set hR10).symm
  refine x_aast (b := a) (k := 1006) (k2 := 1016) (t0 := 4) (ci := 6) (r := (RX7, TX7, 10)) (f := (va_up (fun _ => none) 0 (some (a + 1007)))) (i := (1 : Int32)) (cf' := cfL ((.inr (8, [.ref (a + 1), .ref (a + 16), .ref (a + 483), .ref (a + 486), .ref (a + 501), .ref (a + 968), .ref (a + 971), .ref (a + 986), .ref (a + 990), .ref (a + 1004), .ref (a + 1006)]) : va_E) :: (R10 ++ ((.inl (E.2 4, 4, .inr (.inr (.inr (.inr (va_up (va_up (fun _ => none) 0 (some (a + 1007))) 1 (some (a + 1016))))))) : va_E)) :: (([] ++ L_Text E (a + 1007)) ++ L_Text E (a + 1016))))) C hm (cfL_at (L := ((.inr (8, [.ref (a + 1), .ref (a + 16), .ref (a + 483), .ref (a + 486), .ref (a + 501), .ref (a + 968), .ref (a + 971), .ref (a + 986), .ref (a + 990), .ref (a + 1004), .ref (a + 1006)]) : va_E) :: (R10 ++ ((.inl (E.2 4, 4, .inr (.inr (.inr (.inr (va_up (fun _ => none) 0 (some (a + 1007))))))) : va_E)) :: (([] ++ L_Text E (a + 1007)) ++ L_Text E (a + 1016))))) (mid_get hR10)) rfl (cfL_at (L := ((.inr (8, [.ref (a + 1), .ref (a + 16), .ref (a + 483), .ref (a + 486), .ref (a + 501), .ref (a + 968), .ref (a + 971), .ref (a + 986), .ref (a + 990), .ref (a + 1004), .ref (a + 1006)]) : va_E) :: (R10 ++ ((.inl (E.2 4, 4, .inr (.inr (.inr (.inr (va_up (fun _ => none) 0 (some (a + 1007))))))) : va_E)) :: (([] ++ L_Text E (a + 1007)) ++ L_Text E (a + 1016))))) (end_get (k := 9) hR10 rfl)) rfl (by decide) dX9_init_141 ?_ (by rw [hset]; exact cfL_seto) (fun H locs hm => ?_)
  · rw [hset, cfL_set (by rw [List.length_cons, List.length_append, hR10]; exact Nat.le_of_ble_eq_true rfl)]
    rfl
  have hm : xL E a ((.inr (8, [.ref (a + 1), .ref (a + 16), .ref (a + 483), .ref (a + 486), .ref (a + 501), .ref (a + 968), .ref (a + 971), .ref (a + 986), .ref (a + 990), .ref (a + 1004), .ref (a + 1006)]) : va_E) :: (R10 ++ ((.inl (E.2 4, 4, .inr (.inr (.inr (.inr (va_up (va_up (fun _ => none) 0 (some (a + 1007))) 1 (some (a + 1016))))))) : va_E)) :: (([] ++ L_Text E (a + 1007)) ++ L_Text E (a + 1016)))) s.heap H locs := by
    unfold xL
    rw [hset, List.length_set]
    rw [hset] at hm
    exact hm
  refine lv_iinc (v := (2 : Int32)) (lv' := [(1, .int (2 : Int32)), (0, .ref (a + 0))]) hx hb dX9_init_142 hl (k := 0) rfl rfl (by decide) rfl (fun ls hl => ?_)
  refine lv_goto (tgt := 124) hx hb dX9_init_145 (by decide) ?_
  have hlen : ((.inr (8, [.ref (a + 1), .ref (a + 16), .ref (a + 483), .ref (a + 486), .ref (a + 501), .ref (a + 968), .ref (a + 971), .ref (a + 986), .ref (a + 990), .ref (a + 1004), .ref (a + 1006)]) : va_E) :: (R10 ++ ((.inl (E.2 4, 4, .inr (.inr (.inr (.inr (va_up (va_up (fun _ => none) 0 (some (a + 1007))) 1 (some (a + 1016))))))) : va_E)) :: (([] ++ L_Text E (a + 1007)) ++ L_Text E (a + 1016)))).length = 1025 := by rw [List.length_cons, List.length_append, hR10]; rfl
  refine lv_iload_n hx hb dX9_init_124 rfl (lv_at hl 0 rfl) ?_
  refine lv_iconst (v := 4) hx hb dX9_init_125 (by decide) ?_
  refine lv_icmp_ge (tgt := 148) hx hb dX9_init_126 (by decide) (fun h => absurd h (by decide)) (fun _ => ?_)
  refine lv_aload_n hx hb dX9_init_129 rfl (lv_at hl 1 rfl) ?_
  refine x_get (b := a) (k := 0) C hm inX9 rfl 10 (by decide) tf_RX9_65 (cfL_at (L := ((.inr (8, [.ref (a + 1), .ref (a + 16), .ref (a + 483), .ref (a + 486), .ref (a + 501), .ref (a + 968), .ref (a + 971), .ref (a + 986), .ref (a + 990), .ref (a + 1004), .ref (a + 1006)]) : va_E) :: (R10 ++ ((.inl (E.2 4, 4, .inr (.inr (.inr (.inr (va_up (va_up (fun _ => none) 0 (some (a + 1007))) 1 (some (a + 1016))))))) : va_E)) :: (([] ++ L_Text E (a + 1007)) ++ L_Text E (a + 1016))))) rfl) rfl dX9_init_130 ?_
  refine lv_iload_n hx hb dX9_init_133 rfl (lv_at hl 0 rfl) ?_
  have hm0 := hm
  unfold xL at hm0
  rw [hlen] at hm0
  refine g_size (n := 1024) hm0 (by omega) (fun hH => ?_)
  refine g_new (L := ((.inr (8, [.ref (a + 1), .ref (a + 16), .ref (a + 483), .ref (a + 486), .ref (a + 501), .ref (a + 968), .ref (a + 971), .ref (a + 986), .ref (a + 990), .ref (a + 1004), .ref (a + 1006)]) : va_E) :: (R10 ++ ((.inl (E.2 4, 4, .inr (.inr (.inr (.inr (va_up (va_up (fun _ => none) 0 (some (a + 1007))) 1 (some (a + 1016))))))) : va_E)) :: (([] ++ L_Text E (a + 1007)) ++ L_Text E (a + 1016))))) (ci := 6) (fs := [.null, .null, .null, .null, .null, .null, .null, .null, .int 0, .int 0]) C hm (by rw [hH, hlen]) inX7 tyX7 tyX7_ok tq_RX9_63 tj_RX7 tn_RX7 rfl (fun j hj => by rcases (show j = 0 ∨ j = 1 ∨ j = 2 ∨ j = 3 ∨ j = 4 ∨ j = 5 ∨ j = 6 ∨ j = 7 ∨ j = 8 ∨ j = 9 by omega) with rfl | rfl | rfl | rfl | rfl | rfl | rfl | rfl | rfl | rfl <;> rfl) (Nat.le_of_ble_eq_true rfl) (Nat.le_of_ble_eq_true rfl) dX9_init_134 (fun H hm => ?_)
  rw [hlen]
  refine lv_dup hx hb dX9_init_137 rfl ?_
  have hm0 := hm
  unfold xL at hm0
  rw [show (((.inr (8, [.ref (a + 1), .ref (a + 16), .ref (a + 483), .ref (a + 486), .ref (a + 501), .ref (a + 968), .ref (a + 971), .ref (a + 986), .ref (a + 990), .ref (a + 1004), .ref (a + 1006)]) : va_E) :: (R10 ++ ((.inl (E.2 4, 4, .inr (.inr (.inr (.inr (va_up (va_up (fun _ => none) 0 (some (a + 1007))) 1 (some (a + 1016))))))) : va_E)) :: (([] ++ L_Text E (a + 1007)) ++ L_Text E (a + 1016)))) ++ ([.inr (6, [.null, .null, .null, .null, .null, .null, .null, .null, .int 0, .int 0])] : List va_E)).length = 1025 + 1 by rw [List.length_append, hlen]; rfl] at hm0
  refine g_size (n := 1025) hm0 (by omega) (fun hH => ?_)
  refine g_callIN (L0 := ((.inr (8, [.ref (a + 1), .ref (a + 16), .ref (a + 483), .ref (a + 486), .ref (a + 501), .ref (a + 968), .ref (a + 971), .ref (a + 986), .ref (a + 990), .ref (a + 1004), .ref (a + 1006)]) : va_E) :: (R10 ++ ((.inl (E.2 4, 4, .inr (.inr (.inr (.inr (va_up (va_up (fun _ => none) 0 (some (a + 1007))) 1 (some (a + 1016))))))) : va_E)) :: (([] ++ L_Text E (a + 1007)) ++ L_Text E (a + 1016))))) (L' := L_Text E (a + 1025)) (e0 := .inr (6, [.null, .null, .null, .null, .null, .null, .null, .null, .int 0, .int 0])) (mc := 8) (ms := 700) (rest := [.ref (a + 1025), .int (2 : Int32), .ref (a + 1006)]) C hm (Nat.le_refl _) (by rw [hH, List.length_append, hlen]; rfl) (by rw [hlen]; exact c_X7_init l E (a + 1025)) (by rw [L_Text_len]; decide) tc_X7_init (by decide +kernel : (RX9, 69, yX7_init, "ColouredHeap") ∈ xNest) ti_X7_init tn_RX7 rfl td_X7_init rfl rfl ⟨(Nat.le_of_ble_eq_true rfl), (Nat.le_of_ble_eq_true rfl)⟩ hl.1 (by rw [hlen]) (Nat.le_of_ble_eq_true rfl) ⟨(Nat.le_of_ble_eq_true rfl), (Nat.le_of_ble_eq_true rfl)⟩ dX9_init_138 (fun H locs hm => ?_)
  have hm : xL E a ((.inr (8, [.ref (a + 1), .ref (a + 16), .ref (a + 483), .ref (a + 486), .ref (a + 501), .ref (a + 968), .ref (a + 971), .ref (a + 986), .ref (a + 990), .ref (a + 1004), .ref (a + 1006)])) :: (R10 ++ ((.inl (E.2 4, 4, .inr (.inr (.inr (.inr (va_up (va_up (fun _ => none) 0 (some (a + 1007))) 1 (some (a + 1016))))))) : va_E)) :: ((([] ++ L_Text E (a + 1007)) ++ L_Text E (a + 1016)) ++ L_Text E (a + 1025)))) s.heap H locs := by
    have hm2 := hm
    rw [List.cons_append, List.append_assoc, List.cons_append] at hm2
    exact hm2
  have hset : ((.inr (8, [.ref (a + 1), .ref (a + 16), .ref (a + 483), .ref (a + 486), .ref (a + 501), .ref (a + 968), .ref (a + 971), .ref (a + 986), .ref (a + 990), .ref (a + 1004), .ref (a + 1006)]) : va_E) :: (R10 ++ ((.inl (E.2 4, 4, .inr (.inr (.inr (.inr (va_up (va_up (va_up (fun _ => none) 0 (some (a + 1007))) 1 (some (a + 1016))) 2 (some (a + 1025))))))) : va_E)) :: ((([] ++ L_Text E (a + 1007)) ++ L_Text E (a + 1016)) ++ L_Text E (a + 1025)))) = ((.inr (8, [.ref (a + 1), .ref (a + 16), .ref (a + 483), .ref (a + 486), .ref (a + 501), .ref (a + 968), .ref (a + 971), .ref (a + 986), .ref (a + 990), .ref (a + 1004), .ref (a + 1006)]) : va_E) :: (R10 ++ ((.inl (E.2 4, 4, .inr (.inr (.inr (.inr (va_up (va_up (fun _ => none) 0 (some (a + 1007))) 1 (some (a + 1016))))))) : va_E)) :: ((([] ++ L_Text E (a + 1007)) ++ L_Text E (a + 1016)) ++ L_Text E (a + 1025)))).set 1006 ((.inl (E.2 4, 4, .inr (.inr (.inr (.inr (va_up (va_up (va_up (fun _ => none) 0 (some (a + 1007))) 1 (some (a + 1016))) 2 (some (a + 1025))))))) : va_E)) := (mid_set hR10).symm
  refine x_aast (b := a) (k := 1006) (k2 := 1025) (t0 := 4) (ci := 6) (r := (RX7, TX7, 10)) (f := (va_up (va_up (fun _ => none) 0 (some (a + 1007))) 1 (some (a + 1016)))) (i := (2 : Int32)) (cf' := cfL ((.inr (8, [.ref (a + 1), .ref (a + 16), .ref (a + 483), .ref (a + 486), .ref (a + 501), .ref (a + 968), .ref (a + 971), .ref (a + 986), .ref (a + 990), .ref (a + 1004), .ref (a + 1006)]) : va_E) :: (R10 ++ ((.inl (E.2 4, 4, .inr (.inr (.inr (.inr (va_up (va_up (va_up (fun _ => none) 0 (some (a + 1007))) 1 (some (a + 1016))) 2 (some (a + 1025))))))) : va_E)) :: ((([] ++ L_Text E (a + 1007)) ++ L_Text E (a + 1016)) ++ L_Text E (a + 1025))))) C hm (cfL_at (L := ((.inr (8, [.ref (a + 1), .ref (a + 16), .ref (a + 483), .ref (a + 486), .ref (a + 501), .ref (a + 968), .ref (a + 971), .ref (a + 986), .ref (a + 990), .ref (a + 1004), .ref (a + 1006)]) : va_E) :: (R10 ++ ((.inl (E.2 4, 4, .inr (.inr (.inr (.inr (va_up (va_up (fun _ => none) 0 (some (a + 1007))) 1 (some (a + 1016))))))) : va_E)) :: ((([] ++ L_Text E (a + 1007)) ++ L_Text E (a + 1016)) ++ L_Text E (a + 1025))))) (mid_get hR10)) rfl (cfL_at (L := ((.inr (8, [.ref (a + 1), .ref (a + 16), .ref (a + 483), .ref (a + 486), .ref (a + 501), .ref (a + 968), .ref (a + 971), .ref (a + 986), .ref (a + 990), .ref (a + 1004), .ref (a + 1006)]) : va_E) :: (R10 ++ ((.inl (E.2 4, 4, .inr (.inr (.inr (.inr (va_up (va_up (fun _ => none) 0 (some (a + 1007))) 1 (some (a + 1016))))))) : va_E)) :: ((([] ++ L_Text E (a + 1007)) ++ L_Text E (a + 1016)) ++ L_Text E (a + 1025))))) (end_get (k := 18) hR10 rfl)) rfl (by decide) dX9_init_141 ?_ (by rw [hset]; exact cfL_seto) (fun H locs hm => ?_)
  · rw [hset, cfL_set (by rw [List.length_cons, List.length_append, hR10]; exact Nat.le_of_ble_eq_true rfl)]
    rfl
  have hm : xL E a ((.inr (8, [.ref (a + 1), .ref (a + 16), .ref (a + 483), .ref (a + 486), .ref (a + 501), .ref (a + 968), .ref (a + 971), .ref (a + 986), .ref (a + 990), .ref (a + 1004), .ref (a + 1006)]) : va_E) :: (R10 ++ ((.inl (E.2 4, 4, .inr (.inr (.inr (.inr (va_up (va_up (va_up (fun _ => none) 0 (some (a + 1007))) 1 (some (a + 1016))) 2 (some (a + 1025))))))) : va_E)) :: ((([] ++ L_Text E (a + 1007)) ++ L_Text E (a + 1016)) ++ L_Text E (a + 1025)))) s.heap H locs := by
    unfold xL
    rw [hset, List.length_set]
    rw [hset] at hm
    exact hm
  refine lv_iinc (v := (3 : Int32)) (lv' := [(1, .int (3 : Int32)), (0, .ref (a + 0))]) hx hb dX9_init_142 hl (k := 0) rfl rfl (by decide) rfl (fun ls hl => ?_)
  refine lv_goto (tgt := 124) hx hb dX9_init_145 (by decide) ?_
  have hlen : ((.inr (8, [.ref (a + 1), .ref (a + 16), .ref (a + 483), .ref (a + 486), .ref (a + 501), .ref (a + 968), .ref (a + 971), .ref (a + 986), .ref (a + 990), .ref (a + 1004), .ref (a + 1006)]) : va_E) :: (R10 ++ ((.inl (E.2 4, 4, .inr (.inr (.inr (.inr (va_up (va_up (va_up (fun _ => none) 0 (some (a + 1007))) 1 (some (a + 1016))) 2 (some (a + 1025))))))) : va_E)) :: ((([] ++ L_Text E (a + 1007)) ++ L_Text E (a + 1016)) ++ L_Text E (a + 1025)))).length = 1034 := by rw [List.length_cons, List.length_append, hR10]; rfl
  refine lv_iload_n hx hb dX9_init_124 rfl (lv_at hl 0 rfl) ?_
  refine lv_iconst (v := 4) hx hb dX9_init_125 (by decide) ?_
  refine lv_icmp_ge (tgt := 148) hx hb dX9_init_126 (by decide) (fun h => absurd h (by decide)) (fun _ => ?_)
  refine lv_aload_n hx hb dX9_init_129 rfl (lv_at hl 1 rfl) ?_
  refine x_get (b := a) (k := 0) C hm inX9 rfl 10 (by decide) tf_RX9_65 (cfL_at (L := ((.inr (8, [.ref (a + 1), .ref (a + 16), .ref (a + 483), .ref (a + 486), .ref (a + 501), .ref (a + 968), .ref (a + 971), .ref (a + 986), .ref (a + 990), .ref (a + 1004), .ref (a + 1006)]) : va_E) :: (R10 ++ ((.inl (E.2 4, 4, .inr (.inr (.inr (.inr (va_up (va_up (va_up (fun _ => none) 0 (some (a + 1007))) 1 (some (a + 1016))) 2 (some (a + 1025))))))) : va_E)) :: ((([] ++ L_Text E (a + 1007)) ++ L_Text E (a + 1016)) ++ L_Text E (a + 1025))))) rfl) rfl dX9_init_130 ?_
  refine lv_iload_n hx hb dX9_init_133 rfl (lv_at hl 0 rfl) ?_
  have hm0 := hm
  unfold xL at hm0
  rw [hlen] at hm0
  refine g_size (n := 1033) hm0 (by omega) (fun hH => ?_)
  refine g_new (L := ((.inr (8, [.ref (a + 1), .ref (a + 16), .ref (a + 483), .ref (a + 486), .ref (a + 501), .ref (a + 968), .ref (a + 971), .ref (a + 986), .ref (a + 990), .ref (a + 1004), .ref (a + 1006)]) : va_E) :: (R10 ++ ((.inl (E.2 4, 4, .inr (.inr (.inr (.inr (va_up (va_up (va_up (fun _ => none) 0 (some (a + 1007))) 1 (some (a + 1016))) 2 (some (a + 1025))))))) : va_E)) :: ((([] ++ L_Text E (a + 1007)) ++ L_Text E (a + 1016)) ++ L_Text E (a + 1025))))) (ci := 6) (fs := [.null, .null, .null, .null, .null, .null, .null, .null, .int 0, .int 0]) C hm (by rw [hH, hlen]) inX7 tyX7 tyX7_ok tq_RX9_63 tj_RX7 tn_RX7 rfl (fun j hj => by rcases (show j = 0 ∨ j = 1 ∨ j = 2 ∨ j = 3 ∨ j = 4 ∨ j = 5 ∨ j = 6 ∨ j = 7 ∨ j = 8 ∨ j = 9 by omega) with rfl | rfl | rfl | rfl | rfl | rfl | rfl | rfl | rfl | rfl <;> rfl) (Nat.le_of_ble_eq_true rfl) (Nat.le_of_ble_eq_true rfl) dX9_init_134 (fun H hm => ?_)
  rw [hlen]
  refine lv_dup hx hb dX9_init_137 rfl ?_
  have hm0 := hm
  unfold xL at hm0
  rw [show (((.inr (8, [.ref (a + 1), .ref (a + 16), .ref (a + 483), .ref (a + 486), .ref (a + 501), .ref (a + 968), .ref (a + 971), .ref (a + 986), .ref (a + 990), .ref (a + 1004), .ref (a + 1006)]) : va_E) :: (R10 ++ ((.inl (E.2 4, 4, .inr (.inr (.inr (.inr (va_up (va_up (va_up (fun _ => none) 0 (some (a + 1007))) 1 (some (a + 1016))) 2 (some (a + 1025))))))) : va_E)) :: ((([] ++ L_Text E (a + 1007)) ++ L_Text E (a + 1016)) ++ L_Text E (a + 1025)))) ++ ([.inr (6, [.null, .null, .null, .null, .null, .null, .null, .null, .int 0, .int 0])] : List va_E)).length = 1034 + 1 by rw [List.length_append, hlen]; rfl] at hm0
  refine g_size (n := 1034) hm0 (by omega) (fun hH => ?_)
  refine g_callIN (L0 := ((.inr (8, [.ref (a + 1), .ref (a + 16), .ref (a + 483), .ref (a + 486), .ref (a + 501), .ref (a + 968), .ref (a + 971), .ref (a + 986), .ref (a + 990), .ref (a + 1004), .ref (a + 1006)]) : va_E) :: (R10 ++ ((.inl (E.2 4, 4, .inr (.inr (.inr (.inr (va_up (va_up (va_up (fun _ => none) 0 (some (a + 1007))) 1 (some (a + 1016))) 2 (some (a + 1025))))))) : va_E)) :: ((([] ++ L_Text E (a + 1007)) ++ L_Text E (a + 1016)) ++ L_Text E (a + 1025))))) (L' := L_Text E (a + 1034)) (e0 := .inr (6, [.null, .null, .null, .null, .null, .null, .null, .null, .int 0, .int 0])) (mc := 8) (ms := 700) (rest := [.ref (a + 1034), .int (3 : Int32), .ref (a + 1006)]) C hm (Nat.le_refl _) (by rw [hH, List.length_append, hlen]; rfl) (by rw [hlen]; exact c_X7_init l E (a + 1034)) (by rw [L_Text_len]; decide) tc_X7_init (by decide +kernel : (RX9, 69, yX7_init, "ColouredHeap") ∈ xNest) ti_X7_init tn_RX7 rfl td_X7_init rfl rfl ⟨(Nat.le_of_ble_eq_true rfl), (Nat.le_of_ble_eq_true rfl)⟩ hl.1 (by rw [hlen]) (Nat.le_of_ble_eq_true rfl) ⟨(Nat.le_of_ble_eq_true rfl), (Nat.le_of_ble_eq_true rfl)⟩ dX9_init_138 (fun H locs hm => ?_)
  have hm : xL E a ((.inr (8, [.ref (a + 1), .ref (a + 16), .ref (a + 483), .ref (a + 486), .ref (a + 501), .ref (a + 968), .ref (a + 971), .ref (a + 986), .ref (a + 990), .ref (a + 1004), .ref (a + 1006)])) :: (R10 ++ ((.inl (E.2 4, 4, .inr (.inr (.inr (.inr (va_up (va_up (va_up (fun _ => none) 0 (some (a + 1007))) 1 (some (a + 1016))) 2 (some (a + 1025))))))) : va_E)) :: (((([] ++ L_Text E (a + 1007)) ++ L_Text E (a + 1016)) ++ L_Text E (a + 1025)) ++ L_Text E (a + 1034)))) s.heap H locs := by
    have hm2 := hm
    rw [List.cons_append, List.append_assoc, List.cons_append] at hm2
    exact hm2
  have hset : ((.inr (8, [.ref (a + 1), .ref (a + 16), .ref (a + 483), .ref (a + 486), .ref (a + 501), .ref (a + 968), .ref (a + 971), .ref (a + 986), .ref (a + 990), .ref (a + 1004), .ref (a + 1006)]) : va_E) :: (R10 ++ ((.inl (E.2 4, 4, .inr (.inr (.inr (.inr (va_up (va_up (va_up (va_up (fun _ => none) 0 (some (a + 1007))) 1 (some (a + 1016))) 2 (some (a + 1025))) 3 (some (a + 1034))))))) : va_E)) :: (((([] ++ L_Text E (a + 1007)) ++ L_Text E (a + 1016)) ++ L_Text E (a + 1025)) ++ L_Text E (a + 1034)))) = ((.inr (8, [.ref (a + 1), .ref (a + 16), .ref (a + 483), .ref (a + 486), .ref (a + 501), .ref (a + 968), .ref (a + 971), .ref (a + 986), .ref (a + 990), .ref (a + 1004), .ref (a + 1006)]) : va_E) :: (R10 ++ ((.inl (E.2 4, 4, .inr (.inr (.inr (.inr (va_up (va_up (va_up (fun _ => none) 0 (some (a + 1007))) 1 (some (a + 1016))) 2 (some (a + 1025))))))) : va_E)) :: (((([] ++ L_Text E (a + 1007)) ++ L_Text E (a + 1016)) ++ L_Text E (a + 1025)) ++ L_Text E (a + 1034)))).set 1006 ((.inl (E.2 4, 4, .inr (.inr (.inr (.inr (va_up (va_up (va_up (va_up (fun _ => none) 0 (some (a + 1007))) 1 (some (a + 1016))) 2 (some (a + 1025))) 3 (some (a + 1034))))))) : va_E)) := (mid_set hR10).symm
  refine x_aast (b := a) (k := 1006) (k2 := 1034) (t0 := 4) (ci := 6) (r := (RX7, TX7, 10)) (f := (va_up (va_up (va_up (fun _ => none) 0 (some (a + 1007))) 1 (some (a + 1016))) 2 (some (a + 1025)))) (i := (3 : Int32)) (cf' := cfL ((.inr (8, [.ref (a + 1), .ref (a + 16), .ref (a + 483), .ref (a + 486), .ref (a + 501), .ref (a + 968), .ref (a + 971), .ref (a + 986), .ref (a + 990), .ref (a + 1004), .ref (a + 1006)]) : va_E) :: (R10 ++ ((.inl (E.2 4, 4, .inr (.inr (.inr (.inr (va_up (va_up (va_up (va_up (fun _ => none) 0 (some (a + 1007))) 1 (some (a + 1016))) 2 (some (a + 1025))) 3 (some (a + 1034))))))) : va_E)) :: (((([] ++ L_Text E (a + 1007)) ++ L_Text E (a + 1016)) ++ L_Text E (a + 1025)) ++ L_Text E (a + 1034))))) C hm (cfL_at (L := ((.inr (8, [.ref (a + 1), .ref (a + 16), .ref (a + 483), .ref (a + 486), .ref (a + 501), .ref (a + 968), .ref (a + 971), .ref (a + 986), .ref (a + 990), .ref (a + 1004), .ref (a + 1006)]) : va_E) :: (R10 ++ ((.inl (E.2 4, 4, .inr (.inr (.inr (.inr (va_up (va_up (va_up (fun _ => none) 0 (some (a + 1007))) 1 (some (a + 1016))) 2 (some (a + 1025))))))) : va_E)) :: (((([] ++ L_Text E (a + 1007)) ++ L_Text E (a + 1016)) ++ L_Text E (a + 1025)) ++ L_Text E (a + 1034))))) (mid_get hR10)) rfl (cfL_at (L := ((.inr (8, [.ref (a + 1), .ref (a + 16), .ref (a + 483), .ref (a + 486), .ref (a + 501), .ref (a + 968), .ref (a + 971), .ref (a + 986), .ref (a + 990), .ref (a + 1004), .ref (a + 1006)]) : va_E) :: (R10 ++ ((.inl (E.2 4, 4, .inr (.inr (.inr (.inr (va_up (va_up (va_up (fun _ => none) 0 (some (a + 1007))) 1 (some (a + 1016))) 2 (some (a + 1025))))))) : va_E)) :: (((([] ++ L_Text E (a + 1007)) ++ L_Text E (a + 1016)) ++ L_Text E (a + 1025)) ++ L_Text E (a + 1034))))) (end_get (k := 27) hR10 rfl)) rfl (by decide) dX9_init_141 ?_ (by rw [hset]; exact cfL_seto) (fun H locs hm => ?_)
  · rw [hset, cfL_set (by rw [List.length_cons, List.length_append, hR10]; exact Nat.le_of_ble_eq_true rfl)]
    rfl
  have hm : xL E a ((.inr (8, [.ref (a + 1), .ref (a + 16), .ref (a + 483), .ref (a + 486), .ref (a + 501), .ref (a + 968), .ref (a + 971), .ref (a + 986), .ref (a + 990), .ref (a + 1004), .ref (a + 1006)]) : va_E) :: (R10 ++ ((.inl (E.2 4, 4, .inr (.inr (.inr (.inr (va_up (va_up (va_up (va_up (fun _ => none) 0 (some (a + 1007))) 1 (some (a + 1016))) 2 (some (a + 1025))) 3 (some (a + 1034))))))) : va_E)) :: (((([] ++ L_Text E (a + 1007)) ++ L_Text E (a + 1016)) ++ L_Text E (a + 1025)) ++ L_Text E (a + 1034)))) s.heap H locs := by
    unfold xL
    rw [hset, List.length_set]
    rw [hset] at hm
    exact hm
  refine lv_iinc (v := (4 : Int32)) (lv' := [(1, .int (4 : Int32)), (0, .ref (a + 0))]) hx hb dX9_init_142 hl (k := 0) rfl rfl (by decide) rfl (fun ls hl => ?_)
  refine lv_goto (tgt := 124) hx hb dX9_init_145 (by decide) ?_
  refine lv_iload_n hx hb dX9_init_124 rfl (lv_at hl 0 rfl) ?_
  refine lv_iconst (v := 4) hx hb dX9_init_125 (by decide) ?_
  refine lv_icmp_ge (tgt := 148) hx hb dX9_init_126 (by decide) (fun _ => ?_) (fun h => absurd (by decide) h)
  have hall : R10 = (((((((((([] ++ L_Heap E (a + 1)) ++ L_Steps E (a + 16)) ++ L_Told E (a + 483)) ++ L_Heap E (a + 486)) ++ L_Steps E (a + 501)) ++ L_Told E (a + 968)) ++ L_Heap E (a + 971)) ++ L_Survey E (a + 986)) ++ L_Reader E (a + 990)) ++ L_Law E (a + 1004)) := by rw [eR10, eR9, eR8, eR7, eR6, eR5, eR4, eR3, eR2, eR1, eR0]
  rw [hall] at hm
  exact x_vret (b := a) C hm trivial dX9_init_148
