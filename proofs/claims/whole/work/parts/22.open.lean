theorem tq_RL_7 : Cond.classLink RL 7 RX9 ∈ TB := tb_in 148 (by decide +kernel) rfl
theorem tj_RX9 : Cond.instantiable RX9 11 ∈ TB := tb_in 149 (by decide +kernel) rfl
theorem tq_RL_10 : Cond.classLink RL 10 RX10 ∈ TB := tb_in 1273 (by decide +kernel) rfl
theorem tj_RX10 : Cond.instantiable RX10 27 ∈ TB := tb_in 1274 (by decide +kernel) rfl
theorem tc_X9_init : Cond.code yX9_init cX9_init 2 none ∈ TB := tb_in 152 (by decide +kernel) rfl
theorem ti_X9_init : Cond.instanceMethod yX9_init ∈ TB := tb_in 151 (by decide +kernel) rfl
theorem tm_RL_9 : Cond.methodLink RL 9 yX9_init ∈ TB := tb_in 150 (by decide +kernel) rfl
theorem tc_X10_init : Cond.code yX10_init cX10_init 2 none ∈ TB := tb_in 1277 (by decide +kernel) rfl
theorem ti_X10_init : Cond.instanceMethod yX10_init ∈ TB := tb_in 1276 (by decide +kernel) rfl
theorem tm_RL_12 : Cond.methodLink RL 12 yX10_init ∈ TB := tb_in 1275 (by decide +kernel) rfl
theorem td_X9_init : yX9_init.cls ≠ "java/lang/invoke/MethodHandle" ∧ yX9_init.cls ≠ "java/lang/invoke/VarHandle" ∧ (parseMethodDescriptor yX9_init.desc).map (fun d => d.parameters.length) = some 0 := by decide +kernel
theorem td_X10_init : yX10_init.cls ≠ "java/lang/invoke/MethodHandle" ∧ yX10_init.cls ≠ "java/lang/invoke/VarHandle" ∧ (parseMethodDescriptor yX10_init.desc).map (fun d => d.parameters.length) = some 0 := by decide +kernel
theorem xQ_congr {E : xE} {b N : Nat} {oc : Option Value} {P : Prop} {cf cf' : Nat → va_E} (h : ∀ j, j < N → cf j = cf' j) : xQ E b N oc P cf = xQ E b N oc P cf' := by
  unfold xQ xPK
  rw [xw_congr h]
def L_Y (E : xE) (a : Nat) (M : xm) : List va_E := [cY E a M Z0 0, cY E a M Z0 1, cY E a M Z0 2, cY E a M Z0 3, cY E a M Z0 4, cY E a M Z0 5, cY E a M Z0 6, cY E a M Z0 7, cY E a M Z0 8, cY E a M Z0 9, cY E a M Z0 10, cY E a M Z0 11, cY E a M Z0 12]
theorem L_Y_eq (E : xE) (a : Nat) (M : xm) : ∀ j, j < 13 → cfL (L_Y E a M) j = cY E a M Z0 j := by
  intro j hj
  rcases (show j = 0 ∨ j = 1 ∨ j = 2 ∨ j = 3 ∨ j = 4 ∨ j = 5 ∨ j = 6 ∨ j = 7 ∨ j = 8 ∨ j = 9 ∨ j = 10 ∨ j = 11 ∨ j = 12 by omega) with rfl | rfl | rfl | rfl | rfl | rfl | rfl | rfl | rfl | rfl | rfl | rfl | rfl <;> rfl
theorem c_X10_initL (l : Launch) (E : xE) (a : Nat) {M' : xm} (hf : f_X10_init Y0 = some M') : gMet l E a yX10_init cX10_init 2 (gR 2 12 24155) (.inr (9, [.null, .null, .null, .null, .int 0, .int 0, .int 0, .int 0, .int 0, .int 0, .int 0, .long 0, .int 0, .int 0, .int 0, .null, .int 0, .int 0, .int 0, .int 0, .null, .null, .null, .null, .null, .null, .null])) (L_Y E a M') 12 24155 := by
  have h := c_X10_init l E a hf
  unfold gMetW at h
  unfold gMet
  rw [show (L_Y E a M').length = NY from rfl, xQ_congr (L_Y_eq E a M')]
  exact h
set_option maxHeartbeats 8000000 in
set_option maxRecDepth 20000 in
theorem whole_open {Rel : xm → xm → xn → Prop} (hsim : lawSim Rel) {M1 : xm} (hf : f_X10_init Y0 = some M1) (hRel : Rel X0 M1 Z0) {p : Program} {e : Env} {s : State} {m : MethodId} {below : List Frame} {meth : Method} {c : Code} (l : Launch) {b L : Nat} {xs : Nat → Int32} (hL : L ≤ 3072) (C0 : lw_At p s m meth c b L xs) : W p l e room_1 s m #[Value.ref b] below meth c s.heap [] 0 0 (lw_Z below #[Value.ref b] s) (entryFrame m ([Value.ref b] : List Value).toArray 4) := by
  obtain ⟨hx, hb, hr, hml, hown, hts, hX, hbl, hlocks, hgv⟩ := id C0
  obtain ⟨E, hK, hN, hT⟩ := law_E hts hgv
  obtain ⟨a, ha⟩ : ∃ z, z = s.heap.size := ⟨_, rfl⟩
  rw [← ha] at hT
  have C : xC p s m #[Value.ref b] meth c cL_law 4 RL (some .boolean) E a := ⟨⟨hx, hb, hml, hown, fun w hw => hts w (List.mem_filter.mp hw).1⟩, hK, hr, hlocks, hN, hT⟩
  have hl := lv_entry ([.ref b]) (n := 4) (Nat.le_of_ble_eq_true rfl)
  rw [lg_entry_eq]
  generalize (lg_sl ([.ref b]) ++ List.replicate (4 - (lg_sl ([.ref b])).length) Slot.unset).toArray = ls at hl ⊢
  have hl : lv_has ls 4 [(0, .ref b)] := hl
  have hm : xL E a [] s.heap s.heap [] := ⟨fun k q h => by simp [xw] at h, va_S.rf⟩
  refine g_new (L := []) (ci := 8) (fs := [.null, .null, .null, .null, .null, .null, .null, .null, .null, .null, .null]) C hm (by rw [ha]; rfl) inX9 tyX9 tyX9_ok tq_RL_7 tj_RX9 tn_RX9 rfl (fun j hj => by rcases (show j = 0 ∨ j = 1 ∨ j = 2 ∨ j = 3 ∨ j = 4 ∨ j = 5 ∨ j = 6 ∨ j = 7 ∨ j = 8 ∨ j = 9 ∨ j = 10 by omega) with rfl | rfl | rfl | rfl | rfl | rfl | rfl | rfl | rfl | rfl | rfl <;> rfl) (Nat.le_of_ble_eq_true rfl) (Nat.le_of_ble_eq_true rfl) dL_law_0 (fun H hm => ?_)
  have hm : xL E a [.inr (8, [.null, .null, .null, .null, .null, .null, .null, .null, .null, .null, .null])] s.heap H [] := hm
  refine lv_dup hx hb dL_law_3 rfl ?_
  refine g_size (n := 0) hm (by rw [ha]) (fun hH => ?_)
  refine g_callI (L0 := []) (L' := L_Top E (a + 0)) (e0 := .inr (8, [.null, .null, .null, .null, .null, .null, .null, .null, .null, .null, .null])) (mc := 1042) (ms := 30794) (rest := [.ref (a + 0)]) C hm (Nat.le_refl _) hH (c_X9_init l E (a + 0)) (by rw [L_Top_len]; decide) tc_X9_init tm_RL_9 ti_X9_init tn_RX9 rfl td_X9_init rfl rfl ⟨(Nat.le_of_ble_eq_true rfl), (Nat.le_of_ble_eq_true rfl)⟩ hl.1 rfl (Nat.le_of_ble_eq_true rfl) ⟨(Nat.le_of_ble_eq_true rfl), (Nat.le_of_ble_eq_true rfl)⟩ dL_law_4 (fun H locs hm => ?_)
  rw [List.nil_append, Nat.add_zero] at hm
  refine lv_astore_n (lv' := [(1, .ref (a + 0)), (0, .ref b)]) hx hb dL_law_7 rfl hl (by decide) rfl (fun ls hl => ?_)
  have hlen := L_Top_len E a
  have hm0 := hm
  unfold xL at hm0
  rw [hlen] at hm0
  refine g_size (n := 1042) hm0 (by omega) (fun hH => ?_)
  refine g_new (L := L_Top E a) (ci := 9) (fs := [.null, .null, .null, .null, .int 0, .int 0, .int 0, .int 0, .int 0, .int 0, .int 0, .long 0, .int 0, .int 0, .int 0, .null, .int 0, .int 0, .int 0, .int 0, .null, .null, .null, .null, .null, .null, .null]) C hm (by rw [hH, hlen]) inX10 tyX10 tyX10_ok tq_RL_10 tj_RX10 tn_RX10 rfl (fun j hj => by rcases (show j = 0 ∨ j = 1 ∨ j = 2 ∨ j = 3 ∨ j = 4 ∨ j = 5 ∨ j = 6 ∨ j = 7 ∨ j = 8 ∨ j = 9 ∨ j = 10 ∨ j = 11 ∨ j = 12 ∨ j = 13 ∨ j = 14 ∨ j = 15 ∨ j = 16 ∨ j = 17 ∨ j = 18 ∨ j = 19 ∨ j = 20 ∨ j = 21 ∨ j = 22 ∨ j = 23 ∨ j = 24 ∨ j = 25 ∨ j = 26 by omega) with rfl | rfl | rfl | rfl | rfl | rfl | rfl | rfl | rfl | rfl | rfl | rfl | rfl | rfl | rfl | rfl | rfl | rfl | rfl | rfl | rfl | rfl | rfl | rfl | rfl | rfl | rfl <;> rfl) (Nat.le_of_ble_eq_true rfl) (Nat.le_of_ble_eq_true rfl) dL_law_8 (fun H hm => ?_)
  rw [hlen]
  refine lv_dup hx hb dL_law_11 rfl ?_
  have hm0 := hm
  unfold xL at hm0
  rw [show (L_Top E a ++ ([.inr (9, [.null, .null, .null, .null, .int 0, .int 0, .int 0, .int 0, .int 0, .int 0, .int 0, .long 0, .int 0, .int 0, .int 0, .null, .int 0, .int 0, .int 0, .int 0, .null, .null, .null, .null, .null, .null, .null])] : List va_E)).length = 1043 + 1 by rw [List.length_append, hlen]; rfl] at hm0
  refine g_size (n := 1043) hm0 (by omega) (fun hH => ?_)
  refine g_callI (L0 := L_Top E a) (L' := L_Y E (a + 1043) M1) (e0 := .inr (9, [.null, .null, .null, .null, .int 0, .int 0, .int 0, .int 0, .int 0, .int 0, .int 0, .long 0, .int 0, .int 0, .int 0, .null, .int 0, .int 0, .int 0, .int 0, .null, .null, .null, .null, .null, .null, .null])) (mc := 12) (ms := 24155) (rest := [.ref (a + 1043)]) C hm (Nat.le_refl _) (by rw [hH, List.length_append, hlen]; rfl) (by rw [hlen]; exact c_X10_initL l E (a + 1043) hf) (Nat.le_of_ble_eq_true rfl) tc_X10_init tm_RL_12 ti_X10_init tn_RX10 rfl td_X10_init rfl rfl ⟨(Nat.le_of_ble_eq_true rfl), (Nat.le_of_ble_eq_true rfl)⟩ hl.1 (by rw [hlen]) (Nat.le_of_ble_eq_true rfl) ⟨(Nat.le_of_ble_eq_true rfl), (Nat.le_of_ble_eq_true rfl)⟩ dL_law_12 (fun H locs hm => ?_)
  refine lv_astore_n (lv' := [(2, .ref (a + 1043 + 0)), (1, .ref (a + 0)), (0, .ref b)]) hx hb dL_law_15 rfl hl (by decide) rfl (fun ls hl => ?_)
  refine lv_iconst (v := nI (6 * 0)) hx hb dL_law_16 (by decide) ?_
  refine lv_istore_n (lv' := [(3, .int (nI (6 * 0))), (2, .ref (a + 1043 + 0)), (1, .ref (a + 0)), (0, .ref b)]) hx hb dL_law_17 rfl hl (by decide) rfl (fun ls hl => ?_)
  have hlM : lM E a NX (cX E a X0) (a + 1043) NY (cY E (a + 1043) M1 Z0) s.heap H locs := by
    have h := hm.1
    rw [xL_cat, hlen] at h
    refine ⟨?_, ?_, ⟨hm.2.1, fun q h1 h2 => hm.2.2.1 q h1 (fun z => h2 (by have := z.1; omega)), fun q h1 => by have := (hm.2.2.2 q h1).1; show s.heap.size ≤ _; omega⟩, by omega, by omega, fun q h1 h2 => by have h3 : q < a + 1043 := h1.2; have h4 : a + 1043 ≤ q := h2.1; omega⟩
    · refine top_P (fun k q hq => h k q ?_) hlen
      rw [hlen] at hq
      rw [List.getElem?_append_left (List.getElem?_eq_some_iff.mp hq).1]
      exact hq
    · rw [← xw_congr (L_Y_eq E (a + 1043) M1)]
      intro k q hq
      refine h ((xw a NX (cfL (L_Top E a))).length + k) q ?_
      rw [List.getElem?_append_right (Nat.le_add_right _ _), Nat.add_sub_cancel_left]
      exact hq
  exact law_loop hsim C (Nat.le_add_right _ _) hX hbl hL ⟨(Nat.le_of_ble_eq_true rfl), (Nat.le_of_ble_eq_true rfl)⟩ hr (L + 1) 0 (by omega) (by omega) X0 M1 Z0 H locs ls hRel hlM (lv_sub hl [3, 2, 1, 0] rfl)
