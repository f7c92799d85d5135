theorem tm_RX10_1 : Cond.methodLink RX10 1 Lib.objectInit ∈ TB := tb_in 1278 (by decide +kernel) rfl
theorem ta_long : Cond.arrayClass .long ∈ TB := tb_in 1364 (by decide +kernel) rfl
theorem ta_boolean : Cond.arrayClass .boolean ∈ TB := tb_in 1365 (by decide +kernel) rfl
theorem dX10_init_0 : decode cX10_init 0 = .ok (.aload_n 0, 1) := by decide +kernel
theorem dX10_init_1 : decode cX10_init 1 = .ok (.invokespecial 1, 3) := by decide +kernel
theorem dX10_init_4 : decode cX10_init 4 = .ok (.aload_n 0, 1) := by decide +kernel
theorem dX10_init_5 : decode cX10_init 5 = .ok (.sipush 9878, 3) := by decide +kernel
theorem dX10_init_8 : decode cX10_init 8 = .ok (.newarray .int, 2) := by decide +kernel
theorem dX10_init_10 : decode cX10_init 10 = .ok (.putfield 7, 3) := by decide +kernel
theorem dX10_init_13 : decode cX10_init 13 = .ok (.aload_n 0, 1) := by decide +kernel
theorem dX10_init_14 : decode cX10_init 14 = .ok (.sipush 9878, 3) := by decide +kernel
theorem dX10_init_17 : decode cX10_init 17 = .ok (.newarray .int, 2) := by decide +kernel
theorem dX10_init_19 : decode cX10_init 19 = .ok (.putfield 13, 3) := by decide +kernel
theorem dX10_init_22 : decode cX10_init 22 = .ok (.aload_n 0, 1) := by decide +kernel
theorem dX10_init_23 : decode cX10_init 23 = .ok (.sipush 2820, 3) := by decide +kernel
theorem dX10_init_26 : decode cX10_init 26 = .ok (.newarray .int, 2) := by decide +kernel
theorem dX10_init_28 : decode cX10_init 28 = .ok (.putfield 16, 3) := by decide +kernel
theorem dX10_init_31 : decode cX10_init 31 = .ok (.aload_n 0, 1) := by decide +kernel
theorem dX10_init_32 : decode cX10_init 32 = .ok (.sipush 300, 3) := by decide +kernel
theorem dX10_init_35 : decode cX10_init 35 = .ok (.newarray .int, 2) := by decide +kernel
theorem dX10_init_37 : decode cX10_init 37 = .ok (.putfield 19, 3) := by decide +kernel
theorem dX10_init_40 : decode cX10_init 40 = .ok (.aload_n 0, 1) := by decide +kernel
theorem dX10_init_41 : decode cX10_init 41 = .ok (.iconst (-1), 1) := by decide +kernel
theorem dX10_init_42 : decode cX10_init 42 = .ok (.putfield 22, 3) := by decide +kernel
theorem dX10_init_45 : decode cX10_init 45 = .ok (.aload_n 0, 1) := by decide +kernel
theorem dX10_init_46 : decode cX10_init 46 = .ok (.iconst (-1), 1) := by decide +kernel
theorem dX10_init_47 : decode cX10_init 47 = .ok (.putfield 26, 3) := by decide +kernel
theorem dX10_init_50 : decode cX10_init 50 = .ok (.aload_n 0, 1) := by decide +kernel
theorem dX10_init_51 : decode cX10_init 51 = .ok (.sipush 160, 3) := by decide +kernel
theorem dX10_init_54 : decode cX10_init 54 = .ok (.newarray .int, 2) := by decide +kernel
theorem dX10_init_56 : decode cX10_init 56 = .ok (.putfield 29, 3) := by decide +kernel
theorem dX10_init_59 : decode cX10_init 59 = .ok (.aload_n 0, 1) := by decide +kernel
theorem dX10_init_60 : decode cX10_init 60 = .ok (.bipush 8, 2) := by decide +kernel
theorem dX10_init_62 : decode cX10_init 62 = .ok (.newarray .int, 2) := by decide +kernel
theorem dX10_init_64 : decode cX10_init 64 = .ok (.putfield 32, 3) := by decide +kernel
theorem dX10_init_67 : decode cX10_init 67 = .ok (.aload_n 0, 1) := by decide +kernel
theorem dX10_init_68 : decode cX10_init 68 = .ok (.sipush 330, 3) := by decide +kernel
theorem dX10_init_71 : decode cX10_init 71 = .ok (.newarray .long, 2) := by decide +kernel
theorem dX10_init_73 : decode cX10_init 73 = .ok (.putfield 35, 3) := by decide +kernel
theorem dX10_init_76 : decode cX10_init 76 = .ok (.aload_n 0, 1) := by decide +kernel
theorem dX10_init_77 : decode cX10_init 77 = .ok (.sipush 330, 3) := by decide +kernel
theorem dX10_init_80 : decode cX10_init 80 = .ok (.newarray .boolean, 2) := by decide +kernel
theorem dX10_init_82 : decode cX10_init 82 = .ok (.putfield 39, 3) := by decide +kernel
theorem dX10_init_85 : decode cX10_init 85 = .ok (.aload_n 0, 1) := by decide +kernel
theorem dX10_init_86 : decode cX10_init 86 = .ok (.sipush 318, 3) := by decide +kernel
theorem dX10_init_89 : decode cX10_init 89 = .ok (.newarray .int, 2) := by decide +kernel
theorem dX10_init_91 : decode cX10_init 91 = .ok (.putfield 43, 3) := by decide +kernel
theorem dX10_init_94 : decode cX10_init 94 = .ok (.aload_n 0, 1) := by decide +kernel
theorem dX10_init_95 : decode cX10_init 95 = .ok (.bipush 64, 2) := by decide +kernel
theorem dX10_init_97 : decode cX10_init 97 = .ok (.newarray .int, 2) := by decide +kernel
theorem dX10_init_99 : decode cX10_init 99 = .ok (.putfield 46, 3) := by decide +kernel
theorem dX10_init_102 : decode cX10_init 102 = .ok (.aload_n 0, 1) := by decide +kernel
theorem dX10_init_103 : decode cX10_init 103 = .ok (.iconst 5, 1) := by decide +kernel
theorem dX10_init_104 : decode cX10_init 104 = .ok (.newarray .int, 2) := by decide +kernel
theorem dX10_init_106 : decode cX10_init 106 = .ok (.putfield 49, 3) := by decide +kernel
theorem dX10_init_109 : decode cX10_init 109 = .ok (.aload_n 0, 1) := by decide +kernel
theorem dX10_init_110 : decode cX10_init 110 = .ok (.bipush 64, 2) := by decide +kernel
theorem dX10_init_112 : decode cX10_init 112 = .ok (.newarray .boolean, 2) := by decide +kernel
theorem dX10_init_114 : decode cX10_init 114 = .ok (.putfield 52, 3) := by decide +kernel
theorem dX10_init_117 : decode cX10_init 117 = .ok (.aload_n 0, 1) := by decide +kernel
theorem dX10_init_118 : decode cX10_init 118 = .ok (.getfield 7, 3) := by decide +kernel
theorem dX10_init_121 : decode cX10_init 121 = .ok (.iconst 5, 1) := by decide +kernel
theorem dX10_init_122 : decode cX10_init 122 = .ok (.sipush 463, 3) := by decide +kernel
theorem dX10_init_125 : decode cX10_init 125 = .ok (.iastore, 1) := by decide +kernel
theorem dX10_init_126 : decode cX10_init 126 = .ok (.aload_n 0, 1) := by decide +kernel
theorem dX10_init_127 : decode cX10_init 127 = .ok (.getfield 7, 3) := by decide +kernel
theorem dX10_init_130 : decode cX10_init 130 = .ok (.iconst 1, 1) := by decide +kernel
theorem dX10_init_131 : decode cX10_init 131 = .ok (.iconst (-1), 1) := by decide +kernel
theorem dX10_init_132 : decode cX10_init 132 = .ok (.iastore, 1) := by decide +kernel
theorem dX10_init_133 : decode cX10_init 133 = .ok (.aload_n 0, 1) := by decide +kernel
theorem dX10_init_134 : decode cX10_init 134 = .ok (.getfield 7, 3) := by decide +kernel
theorem dX10_init_137 : decode cX10_init 137 = .ok (.bipush 7, 2) := by decide +kernel
theorem dX10_init_139 : decode cX10_init 139 = .ok (.iconst 2, 1) := by decide +kernel
theorem dX10_init_140 : decode cX10_init 140 = .ok (.iastore, 1) := by decide +kernel
theorem dX10_init_141 : decode cX10_init 141 = .ok (.aload_n 0, 1) := by decide +kernel
theorem dX10_init_142 : decode cX10_init 142 = .ok (.getfield 7, 3) := by decide +kernel
theorem dX10_init_145 : decode cX10_init 145 = .ok (.bipush 11, 2) := by decide +kernel
theorem dX10_init_147 : decode cX10_init 147 = .ok (.iconst 1, 1) := by decide +kernel
theorem dX10_init_148 : decode cX10_init 148 = .ok (.iastore, 1) := by decide +kernel
theorem dX10_init_149 : decode cX10_init 149 = .ok (.aload_n 0, 1) := by decide +kernel
theorem dX10_init_150 : decode cX10_init 150 = .ok (.getfield 7, 3) := by decide +kernel
theorem dX10_init_153 : decode cX10_init 153 = .ok (.bipush 9, 2) := by decide +kernel
theorem dX10_init_155 : decode cX10_init 155 = .ok (.iconst (-1), 1) := by decide +kernel
theorem dX10_init_156 : decode cX10_init 156 = .ok (.iastore, 1) := by decide +kernel
theorem dX10_init_157 : decode cX10_init 157 = .ok (.aload_n 0, 1) := by decide +kernel
theorem dX10_init_158 : decode cX10_init 158 = .ok (.getfield 7, 3) := by decide +kernel
theorem dX10_init_161 : decode cX10_init 161 = .ok (.bipush 10, 2) := by decide +kernel
theorem dX10_init_163 : decode cX10_init 163 = .ok (.iconst (-1), 1) := by decide +kernel
theorem dX10_init_164 : decode cX10_init 164 = .ok (.iastore, 1) := by decide +kernel
theorem dX10_init_165 : decode cX10_init 165 = .ok (.iconst 0, 1) := by decide +kernel
theorem dX10_init_166 : decode cX10_init 166 = .ok (.istore_n 1, 1) := by decide +kernel
theorem dX10_init_167 : decode cX10_init 167 = .ok (.iload_n 1, 1) := by decide +kernel
theorem dX10_init_168 : decode cX10_init 168 = .ok (.bipush 6, 2) := by decide +kernel
theorem dX10_init_170 : decode cX10_init 170 = .ok (.if_icmp .ge 19, 3) := by decide +kernel
theorem dX10_init_173 : decode cX10_init 173 = .ok (.aload_n 0, 1) := by decide +kernel
theorem dX10_init_174 : decode cX10_init 174 = .ok (.getfield 7, 3) := by decide +kernel
theorem dX10_init_177 : decode cX10_init 177 = .ok (.bipush 29, 2) := by decide +kernel
theorem dX10_init_179 : decode cX10_init 179 = .ok (.iload_n 1, 1) := by decide +kernel
theorem dX10_init_180 : decode cX10_init 180 = .ok (.iadd, 1) := by decide +kernel
theorem dX10_init_181 : decode cX10_init 181 = .ok (.iconst (-1), 1) := by decide +kernel
theorem dX10_init_182 : decode cX10_init 182 = .ok (.iastore, 1) := by decide +kernel
theorem dX10_init_183 : decode cX10_init 183 = .ok (.iinc 1 1, 3) := by decide +kernel
theorem dX10_init_186 : decode cX10_init 186 = .ok (.goto (-19), 3) := by decide +kernel
theorem dX10_init_189 : decode cX10_init 189 = .ok (.iconst 0, 1) := by decide +kernel
theorem dX10_init_190 : decode cX10_init 190 = .ok (.istore_n 1, 1) := by decide +kernel
theorem dX10_init_191 : decode cX10_init 191 = .ok (.iload_n 1, 1) := by decide +kernel
theorem dX10_init_192 : decode cX10_init 192 = .ok (.iconst 2, 1) := by decide +kernel
theorem dX10_init_193 : decode cX10_init 193 = .ok (.if_icmp .ge 19, 3) := by decide +kernel
theorem dX10_init_196 : decode cX10_init 196 = .ok (.aload_n 0, 1) := by decide +kernel
theorem dX10_init_197 : decode cX10_init 197 = .ok (.getfield 7, 3) := by decide +kernel
theorem dX10_init_200 : decode cX10_init 200 = .ok (.bipush 35, 2) := by decide +kernel
theorem dX10_init_202 : decode cX10_init 202 = .ok (.iload_n 1, 1) := by decide +kernel
theorem dX10_init_203 : decode cX10_init 203 = .ok (.iadd, 1) := by decide +kernel
theorem dX10_init_204 : decode cX10_init 204 = .ok (.iconst (-1), 1) := by decide +kernel
theorem dX10_init_205 : decode cX10_init 205 = .ok (.iastore, 1) := by decide +kernel
theorem dX10_init_206 : decode cX10_init 206 = .ok (.iinc 1 1, 3) := by decide +kernel
theorem dX10_init_209 : decode cX10_init 209 = .ok (.goto (-18), 3) := by decide +kernel
theorem dX10_init_212 : decode cX10_init 212 = .ok (.iconst 0, 1) := by decide +kernel
theorem dX10_init_213 : decode cX10_init 213 = .ok (.istore_n 1, 1) := by decide +kernel
theorem dX10_init_214 : decode cX10_init 214 = .ok (.iload_n 1, 1) := by decide +kernel
theorem dX10_init_215 : decode cX10_init 215 = .ok (.bipush 64, 2) := by decide +kernel
theorem dX10_init_217 : decode cX10_init 217 = .ok (.if_icmp .ge 30, 3) := by decide +kernel
theorem dX10_init_220 : decode cX10_init 220 = .ok (.aload_n 0, 1) := by decide +kernel
theorem dX10_init_221 : decode cX10_init 221 = .ok (.getfield 7, 3) := by decide +kernel
theorem dX10_init_224 : decode cX10_init 224 = .ok (.bipush 41, 2) := by decide +kernel
theorem dX10_init_226 : decode cX10_init 226 = .ok (.iload_n 1, 1) := by decide +kernel
theorem dX10_init_227 : decode cX10_init 227 = .ok (.iadd, 1) := by decide +kernel
theorem dX10_init_228 : decode cX10_init 228 = .ok (.bipush (-2), 2) := by decide +kernel
theorem dX10_init_230 : decode cX10_init 230 = .ok (.iastore, 1) := by decide +kernel
theorem dX10_init_231 : decode cX10_init 231 = .ok (.aload_n 0, 1) := by decide +kernel
theorem dX10_init_232 : decode cX10_init 232 = .ok (.getfield 7, 3) := by decide +kernel
theorem dX10_init_235 : decode cX10_init 235 = .ok (.bipush 105, 2) := by decide +kernel
theorem dX10_init_237 : decode cX10_init 237 = .ok (.iload_n 1, 1) := by decide +kernel
theorem dX10_init_238 : decode cX10_init 238 = .ok (.iadd, 1) := by decide +kernel
theorem dX10_init_239 : decode cX10_init 239 = .ok (.iconst (-1), 1) := by decide +kernel
theorem dX10_init_240 : decode cX10_init 240 = .ok (.iastore, 1) := by decide +kernel
theorem dX10_init_241 : decode cX10_init 241 = .ok (.iinc 1 1, 3) := by decide +kernel
theorem dX10_init_244 : decode cX10_init 244 = .ok (.goto (-30), 3) := by decide +kernel
theorem dX10_init_247 : decode cX10_init 247 = .ok (.aload_n 0, 1) := by decide +kernel
theorem dX10_init_248 : decode cX10_init 248 = .ok (.getfield 7, 3) := by decide +kernel
theorem dX10_init_251 : decode cX10_init 251 = .ok (.aload_n 0, 1) := by decide +kernel
theorem dX10_init_252 : decode cX10_init 252 = .ok (.getfield 13, 3) := by decide +kernel
theorem dX10_init_255 : decode cX10_init 255 = .ok (.invokestatic 55, 3) := by decide +kernel
theorem dX10_init_258 : decode cX10_init 258 = .ok (.return_, 1) := by decide +kernel
def g_X10_init_167  : Nat → xm → Int32 → Option ((xm))
  | 0, _, _ => none
  | n + 1, M8, x7 => (if (6 : Int32) ≤ x7 then some (M8) else if xin ((29 : Int32) + x7) 9878 = true then xlet (up2 M8 1 (Int32.toNatClampNeg ((29 : Int32) + x7)) (-1 : Int32)) (fun M12 => xlet (x7 + (1 : Int32)) (fun v13 => g_X10_init_167 n M12 v13)) else none)
def g_X10_init_191  : Nat → xm → Int32 → Option ((xm))
  | 0, _, _ => none
  | n + 1, M16, x15 => (if (2 : Int32) ≤ x15 then some (M16) else if xin ((35 : Int32) + x15) 9878 = true then xlet (up2 M16 1 (Int32.toNatClampNeg ((35 : Int32) + x15)) (-1 : Int32)) (fun M20 => xlet (x15 + (1 : Int32)) (fun v21 => g_X10_init_191 n M20 v21)) else none)
def g_X10_init_214  : Nat → xm → Int32 → Option ((xm))
  | 0, _, _ => none
  | n + 1, M24, x23 => (if (64 : Int32) ≤ x23 then some (M24) else if xin ((41 : Int32) + x23) 9878 = true then xlet (up2 M24 1 (Int32.toNatClampNeg ((41 : Int32) + x23)) (-2 : Int32)) (fun M28 => if xin ((105 : Int32) + x23) 9878 = true then xlet (up2 M28 1 (Int32.toNatClampNeg ((105 : Int32) + x23)) (-1 : Int32)) (fun M30 => xlet (x23 + (1 : Int32)) (fun v31 => g_X10_init_214 n M30 v31)) else none) else none)
def f_X10_init (M : xm) : Option xm := xlet (up2 M 1 5 (463 : Int32)) (fun M1 => xlet (up2 M1 1 1 (-1 : Int32)) (fun M2 => xlet (up2 M2 1 7 (2 : Int32)) (fun M3 => xlet (up2 M3 1 11 (1 : Int32)) (fun M4 => xlet (up2 M4 1 9 (-1 : Int32)) (fun M5 => xlet (up2 M5 1 10 (-1 : Int32)) (fun M6 => xb1 (g_X10_init_167 xfuel M6 (0 : Int32)) (fun M14 => xb1 (g_X10_init_191 xfuel M14 (0 : Int32)) (fun M22 => xb1 (g_X10_init_214 xfuel M22 (0 : Int32)) (fun M32 => xb1 (f_X10_layRow 1 2 M32) (fun M34 => some M34))))))))))
set_option maxHeartbeats 4000000 in
set_option maxRecDepth 20000 in
theorem j_X10_init_167 {p : Program} {l : Launch} {e : Env} {s : State} {m : MethodId} {args : Array Value} {below : List Frame} {meth : Method} {c : Code} {Q : State → Prop} {E : xE} {b : Nat} (C : xC p s m args meth c cX10_init 2 RX10 none E b) {Lm : xn} {y9 : xm}
    (kx0 : ∀ (H : Heap) (locs : List Loc) (ls : Array Slot), xM E b NY (cY E b y9 Lm) s.heap H locs → lv_has ls 2 [(0, .ref (b + 0))] → W p l e (gR 2 12 24155) s m args below meth c H locs 12 24155 Q (F0 m 189 ls [])) :
    ∀ (n : Nat) (M8 : xm) (x7 : Int32) (H : Heap) (locs : List Loc) (ls : Array Slot), g_X10_init_167 n M8 x7 = some y9 → xM E b NY (cY E b M8 Lm) s.heap H locs → lv_has ls 2 [(0, .ref (b + 0)), (1, .int x7)] → W p l e (gR 2 12 24155) s m args below meth c H locs 12 24155 Q (F0 m 167 ls []) := by
  have hx := C.1.1
  have hb := C.1.2.1
  intro n
  induction n with
  | zero =>
    intro M8 x7 H locs ls hf hm hl
    rw [g_X10_init_167] at hf
    cases hf
  | succ n ih =>
    intro M8 x7 H locs ls hf hm hl
    rw [g_X10_init_167] at hf
    refine lv_iload_n hx hb dX10_init_167 rfl (lv_at hl 1 rfl) ?_
    refine lv_bipush (v := (6 : Int32)) hx hb dX10_init_168 (by decide) ?_
    refine lv_icmp_ge (tgt := 189) hx hb dX10_init_170 (by decide) (fun hc10 => ?_) (fun hc10 => ?_)
    · have hf := xif_t hc10 hf
      cases hf
      exact kx0 H locs ls hm (lv_sub hl [0] rfl)
    have hf := xif_f hc10 hf
    refine lv_aload_n hx hb dX10_init_173 rfl (lv_at hl 0 rfl) ?_
    refine x_get C hm inX10 rfl 0 (by decide) tf_RX10_7 cy_0 rfl dX10_init_174 ?_
    refine lv_bipush (v := (29 : Int32)) hx hb dX10_init_177 (by decide) ?_
    refine lv_iload_n hx hb dX10_init_179 rfl (lv_at hl 1 rfl) ?_
    refine lv_iadd hx hb dX10_init_180 ?_
    refine lv_iconst (v := (-1 : Int32)) hx hb dX10_init_181 (by decide) ?_
    obtain ⟨hi11, hf⟩ := xif_s hf
    obtain ⟨M12, eM12, hf⟩ := xlet_x hf
    refine x_iast (j := (Int32.toNatClampNeg ((29 : Int32) + x7))) (cf' := cY E b M12 Lm) C hm cy_1 hi11 dX10_init_182 rfl (by rw [eM12]; exact cyu_1) (by rw [eM12]; exact cY_o) (fun H locs hm => ?_)
    obtain ⟨v13, ev13, hf⟩ := xlet_x hf
    refine lv_iinc (v := v13) (lv' := [(1, .int v13), (0, .ref (b + 0))]) hx hb dX10_init_183 hl (k := 1) rfl (by rw [ev13]; rfl) (by decide) rfl (fun ls hl => ?_)
    refine lv_goto (tgt := 167) hx hb dX10_init_186 (by decide) ?_
    exact ih M12 v13 H locs ls hf hm (lv_sub hl [1, 0] rfl)
set_option maxHeartbeats 4000000 in
set_option maxRecDepth 20000 in
theorem j_X10_init_191 {p : Program} {l : Launch} {e : Env} {s : State} {m : MethodId} {args : Array Value} {below : List Frame} {meth : Method} {c : Code} {Q : State → Prop} {E : xE} {b : Nat} (C : xC p s m args meth c cX10_init 2 RX10 none E b) {Lm : xn} {y17 : xm}
    (kx0 : ∀ (H : Heap) (locs : List Loc) (ls : Array Slot), xM E b NY (cY E b y17 Lm) s.heap H locs → lv_has ls 2 [(0, .ref (b + 0))] → W p l e (gR 2 12 24155) s m args below meth c H locs 12 24155 Q (F0 m 212 ls [])) :
    ∀ (n : Nat) (M16 : xm) (x15 : Int32) (H : Heap) (locs : List Loc) (ls : Array Slot), g_X10_init_191 n M16 x15 = some y17 → xM E b NY (cY E b M16 Lm) s.heap H locs → lv_has ls 2 [(0, .ref (b + 0)), (1, .int x15)] → W p l e (gR 2 12 24155) s m args below meth c H locs 12 24155 Q (F0 m 191 ls []) := by
  have hx := C.1.1
  have hb := C.1.2.1
  intro n
  induction n with
  | zero =>
    intro M16 x15 H locs ls hf hm hl
    rw [g_X10_init_191] at hf
    cases hf
  | succ n ih =>
    intro M16 x15 H locs ls hf hm hl
    rw [g_X10_init_191] at hf
    refine lv_iload_n hx hb dX10_init_191 rfl (lv_at hl 1 rfl) ?_
    refine lv_iconst (v := (2 : Int32)) hx hb dX10_init_192 (by decide) ?_
    refine lv_icmp_ge (tgt := 212) hx hb dX10_init_193 (by decide) (fun hc18 => ?_) (fun hc18 => ?_)
    · have hf := xif_t hc18 hf
      cases hf
      exact kx0 H locs ls hm (lv_sub hl [0] rfl)
    have hf := xif_f hc18 hf
    refine lv_aload_n hx hb dX10_init_196 rfl (lv_at hl 0 rfl) ?_
    refine x_get C hm inX10 rfl 0 (by decide) tf_RX10_7 cy_0 rfl dX10_init_197 ?_
    refine lv_bipush (v := (35 : Int32)) hx hb dX10_init_200 (by decide) ?_
    refine lv_iload_n hx hb dX10_init_202 rfl (lv_at hl 1 rfl) ?_
    refine lv_iadd hx hb dX10_init_203 ?_
    refine lv_iconst (v := (-1 : Int32)) hx hb dX10_init_204 (by decide) ?_
    obtain ⟨hi19, hf⟩ := xif_s hf
    obtain ⟨M20, eM20, hf⟩ := xlet_x hf
    refine x_iast (j := (Int32.toNatClampNeg ((35 : Int32) + x15))) (cf' := cY E b M20 Lm) C hm cy_1 hi19 dX10_init_205 rfl (by rw [eM20]; exact cyu_1) (by rw [eM20]; exact cY_o) (fun H locs hm => ?_)
    obtain ⟨v21, ev21, hf⟩ := xlet_x hf
    refine lv_iinc (v := v21) (lv' := [(1, .int v21), (0, .ref (b + 0))]) hx hb dX10_init_206 hl (k := 1) rfl (by rw [ev21]; rfl) (by decide) rfl (fun ls hl => ?_)
    refine lv_goto (tgt := 191) hx hb dX10_init_209 (by decide) ?_
    exact ih M20 v21 H locs ls hf hm (lv_sub hl [1, 0] rfl)
set_option maxHeartbeats 4000000 in
set_option maxRecDepth 20000 in
theorem j_X10_init_214 {p : Program} {l : Launch} {e : Env} {s : State} {m : MethodId} {args : Array Value} {below : List Frame} {meth : Method} {c : Code} {Q : State → Prop} {E : xE} {b : Nat} (C : xC p s m args meth c cX10_init 2 RX10 none E b) {Lm : xn} {y25 : xm}
    (kx0 : ∀ (H : Heap) (locs : List Loc) (ls : Array Slot), xM E b NY (cY E b y25 Lm) s.heap H locs → lv_has ls 2 [(0, .ref (b + 0))] → W p l e (gR 2 12 24155) s m args below meth c H locs 12 24155 Q (F0 m 247 ls [])) :
    ∀ (n : Nat) (M24 : xm) (x23 : Int32) (H : Heap) (locs : List Loc) (ls : Array Slot), g_X10_init_214 n M24 x23 = some y25 → xM E b NY (cY E b M24 Lm) s.heap H locs → lv_has ls 2 [(0, .ref (b + 0)), (1, .int x23)] → W p l e (gR 2 12 24155) s m args below meth c H locs 12 24155 Q (F0 m 214 ls []) := by
  have hx := C.1.1
  have hb := C.1.2.1
  intro n
  induction n with
  | zero =>
    intro M24 x23 H locs ls hf hm hl
    rw [g_X10_init_214] at hf
    cases hf
  | succ n ih =>
    intro M24 x23 H locs ls hf hm hl
    rw [g_X10_init_214] at hf
    refine lv_iload_n hx hb dX10_init_214 rfl (lv_at hl 1 rfl) ?_
    refine lv_bipush (v := (64 : Int32)) hx hb dX10_init_215 (by decide) ?_
    refine lv_icmp_ge (tgt := 247) hx hb dX10_init_217 (by decide) (fun hc26 => ?_) (fun hc26 => ?_)
    · have hf := xif_t hc26 hf
      cases hf
      exact kx0 H locs ls hm (lv_sub hl [0] rfl)
    have hf := xif_f hc26 hf
    refine lv_aload_n hx hb dX10_init_220 rfl (lv_at hl 0 rfl) ?_
    refine x_get C hm inX10 rfl 0 (by decide) tf_RX10_7 cy_0 rfl dX10_init_221 ?_
    refine lv_bipush (v := (41 : Int32)) hx hb dX10_init_224 (by decide) ?_
    refine lv_iload_n hx hb dX10_init_226 rfl (lv_at hl 1 rfl) ?_
    refine lv_iadd hx hb dX10_init_227 ?_
    refine lv_bipush (v := (-2 : Int32)) hx hb dX10_init_228 (by decide) ?_
    obtain ⟨hi27, hf⟩ := xif_s hf
    obtain ⟨M28, eM28, hf⟩ := xlet_x hf
    refine x_iast (j := (Int32.toNatClampNeg ((41 : Int32) + x23))) (cf' := cY E b M28 Lm) C hm cy_1 hi27 dX10_init_230 rfl (by rw [eM28]; exact cyu_1) (by rw [eM28]; exact cY_o) (fun H locs hm => ?_)
    refine lv_aload_n hx hb dX10_init_231 rfl (lv_at hl 0 rfl) ?_
    refine x_get C hm inX10 rfl 0 (by decide) tf_RX10_7 cy_0 rfl dX10_init_232 ?_
    refine lv_bipush (v := (105 : Int32)) hx hb dX10_init_235 (by decide) ?_
    refine lv_iload_n hx hb dX10_init_237 rfl (lv_at hl 1 rfl) ?_
    refine lv_iadd hx hb dX10_init_238 ?_
    refine lv_iconst (v := (-1 : Int32)) hx hb dX10_init_239 (by decide) ?_
    obtain ⟨hi29, hf⟩ := xif_s hf
    obtain ⟨M30, eM30, hf⟩ := xlet_x hf
    refine x_iast (j := (Int32.toNatClampNeg ((105 : Int32) + x23))) (cf' := cY E b M30 Lm) C hm cy_1 hi29 dX10_init_240 rfl (by rw [eM30]; exact cyu_1) (by rw [eM30]; exact cY_o) (fun H locs hm => ?_)
    obtain ⟨v31, ev31, hf⟩ := xlet_x hf
    refine lv_iinc (v := v31) (lv' := [(1, .int v31), (0, .ref (b + 0))]) hx hb dX10_init_241 hl (k := 1) rfl (by rw [ev31]; rfl) (by decide) rfl (fun ls hl => ?_)
    refine lv_goto (tgt := 214) hx hb dX10_init_244 (by decide) ?_
    exact ih M30 v31 H locs ls hf hm (lv_sub hl [1, 0] rfl)
set_option maxHeartbeats 4000000 in
set_option maxRecDepth 20000 in
theorem b_X10_init {p : Program} {l : Launch} {e : Env} {s : State} {m : MethodId} {args : Array Value} {below : List Frame} {meth : Method} {c : Code} {E : xE} {b : Nat} (C : xC p s m args meth c cX10_init 2 RX10 none E b) (M : xm) (Lm : xn) {M' : xm} {H : Heap} {locs : List Loc} {ls : Array Slot} (hf : f_X10_init M = some M') (hm : xM E b NY (cY E b M Lm) s.heap H locs) (hl : lv_has ls 2 [(0, .ref (b + 0))]) : W p l e (gR 2 12 24155) s m args below meth c H locs 12 24155 (MQ below (xQ E b NY none True (cY E b M' Lm)) args s 12 24155 (xA b NY)) (F0 m 117 ls []) := by
  have hx := C.1.1
  have hb := C.1.2.1
  unfold f_X10_init at hf
  refine lv_aload_n hx hb dX10_init_117 rfl (lv_at hl 0 rfl) ?_
  refine x_get C hm inX10 rfl 0 (by decide) tf_RX10_7 cy_0 rfl dX10_init_118 ?_
  refine lv_iconst (v := (5 : Int32)) hx hb dX10_init_121 (by decide) ?_
  refine lv_sipush (v := (463 : Int32)) hx hb dX10_init_122 (by decide) ?_
  obtain ⟨M1, eM1, hf⟩ := xlet_x hf
  refine x_iast (j := 5) (cf' := cY E b M1 Lm) C hm cy_1 (by decide) dX10_init_125 (by decide) (by rw [eM1]; exact cyu_1) (by rw [eM1]; exact cY_o) (fun H locs hm => ?_)
  refine lv_aload_n hx hb dX10_init_126 rfl (lv_at hl 0 rfl) ?_
  refine x_get C hm inX10 rfl 0 (by decide) tf_RX10_7 cy_0 rfl dX10_init_127 ?_
  refine lv_iconst (v := (1 : Int32)) hx hb dX10_init_130 (by decide) ?_
  refine lv_iconst (v := (-1 : Int32)) hx hb dX10_init_131 (by decide) ?_
  obtain ⟨M2, eM2, hf⟩ := xlet_x hf
  refine x_iast (j := 1) (cf' := cY E b M2 Lm) C hm cy_1 (by decide) dX10_init_132 (by decide) (by rw [eM2]; exact cyu_1) (by rw [eM2]; exact cY_o) (fun H locs hm => ?_)
  refine lv_aload_n hx hb dX10_init_133 rfl (lv_at hl 0 rfl) ?_
  refine x_get C hm inX10 rfl 0 (by decide) tf_RX10_7 cy_0 rfl dX10_init_134 ?_
  refine lv_bipush (v := (7 : Int32)) hx hb dX10_init_137 (by decide) ?_
  refine lv_iconst (v := (2 : Int32)) hx hb dX10_init_139 (by decide) ?_
  obtain ⟨M3, eM3, hf⟩ := xlet_x hf
  refine x_iast (j := 7) (cf' := cY E b M3 Lm) C hm cy_1 (by decide) dX10_init_140 (by decide) (by rw [eM3]; exact cyu_1) (by rw [eM3]; exact cY_o) (fun H locs hm => ?_)
  refine lv_aload_n hx hb dX10_init_141 rfl (lv_at hl 0 rfl) ?_
  refine x_get C hm inX10 rfl 0 (by decide) tf_RX10_7 cy_0 rfl dX10_init_142 ?_
  refine lv_bipush (v := (11 : Int32)) hx hb dX10_init_145 (by decide) ?_
  refine lv_iconst (v := (1 : Int32)) hx hb dX10_init_147 (by decide) ?_
  obtain ⟨M4, eM4, hf⟩ := xlet_x hf
  refine x_iast (j := 11) (cf' := cY E b M4 Lm) C hm cy_1 (by decide) dX10_init_148 (by decide) (by rw [eM4]; exact cyu_1) (by rw [eM4]; exact cY_o) (fun H locs hm => ?_)
  refine lv_aload_n hx hb dX10_init_149 rfl (lv_at hl 0 rfl) ?_
  refine x_get C hm inX10 rfl 0 (by decide) tf_RX10_7 cy_0 rfl dX10_init_150 ?_
  refine lv_bipush (v := (9 : Int32)) hx hb dX10_init_153 (by decide) ?_
  refine lv_iconst (v := (-1 : Int32)) hx hb dX10_init_155 (by decide) ?_
  obtain ⟨M5, eM5, hf⟩ := xlet_x hf
  refine x_iast (j := 9) (cf' := cY E b M5 Lm) C hm cy_1 (by decide) dX10_init_156 (by decide) (by rw [eM5]; exact cyu_1) (by rw [eM5]; exact cY_o) (fun H locs hm => ?_)
  refine lv_aload_n hx hb dX10_init_157 rfl (lv_at hl 0 rfl) ?_
  refine x_get C hm inX10 rfl 0 (by decide) tf_RX10_7 cy_0 rfl dX10_init_158 ?_
  refine lv_bipush (v := (10 : Int32)) hx hb dX10_init_161 (by decide) ?_
  refine lv_iconst (v := (-1 : Int32)) hx hb dX10_init_163 (by decide) ?_
  obtain ⟨M6, eM6, hf⟩ := xlet_x hf
  refine x_iast (j := 10) (cf' := cY E b M6 Lm) C hm cy_1 (by decide) dX10_init_164 (by decide) (by rw [eM6]; exact cyu_1) (by rw [eM6]; exact cY_o) (fun H locs hm => ?_)
  refine lv_iconst (v := (0 : Int32)) hx hb dX10_init_165 (by decide) ?_
  refine lv_istore_n (lv' := [(1, .int (0 : Int32)), (0, .ref (b + 0))]) hx hb dX10_init_166 rfl hl (by decide) rfl (fun ls hl => ?_)
  obtain ⟨M14, hq, hf⟩ := xb1_e hf
  refine j_X10_init_167 C (fun H locs ls hm hl => ?_) xfuel M6 (0 : Int32) H locs ls hq hm (lv_sub hl [1, 0] rfl)
  refine lv_iconst (v := (0 : Int32)) hx hb dX10_init_189 (by decide) ?_
  refine lv_istore_n (lv' := [(1, .int (0 : Int32)), (0, .ref (b + 0))]) hx hb dX10_init_190 rfl hl (by decide) rfl (fun ls hl => ?_)
  obtain ⟨M22, hq, hf⟩ := xb1_e hf
  refine j_X10_init_191 C (fun H locs ls hm hl => ?_) xfuel M14 (0 : Int32) H locs ls hq hm (lv_sub hl [1, 0] rfl)
  refine lv_iconst (v := (0 : Int32)) hx hb dX10_init_212 (by decide) ?_
  refine lv_istore_n (lv' := [(1, .int (0 : Int32)), (0, .ref (b + 0))]) hx hb dX10_init_213 rfl hl (by decide) rfl (fun ls hl => ?_)
  obtain ⟨M32, hq, hf⟩ := xb1_e hf
  refine j_X10_init_214 C (fun H locs ls hm hl => ?_) xfuel M22 (0 : Int32) H locs ls hq hm (lv_sub hl [1, 0] rfl)
  refine lv_aload_n hx hb dX10_init_247 rfl (lv_at hl 0 rfl) ?_
  refine x_get C hm inX10 rfl 0 (by decide) tf_RX10_7 cy_0 rfl dX10_init_248 ?_
  refine lv_aload_n hx hb dX10_init_251 rfl (lv_at hl 0 rfl) ?_
  refine x_get C hm inX10 rfl 1 (by decide) tf_RX10_13 cy_0 rfl dX10_init_252 ?_
  obtain ⟨M34, hq33, hf⟩ := xb1_e hf
  refine x_callSv (As := [.ref (b + 1), .ref (b + 2)]) (rest := []) C hm (c_X10_layRow l E b aY_1 aY_2 M32 Lm hq33) tc_X10_layRow tm_RX10_55 tz_X10_layRow tn_RX10 td_X10_layRow rfl rfl ⟨Nat.le_of_ble_eq_true rfl, Nat.le_of_ble_eq_true rfl⟩ rfl hl.1 rfl (Nat.le_of_ble_eq_true rfl) ⟨Nat.le_of_ble_eq_true rfl, Nat.le_of_ble_eq_true rfl⟩ dX10_init_255 (fun H locs hP35 hm => ?_)
  cases hf
  exact x_vret C hm trivial dX10_init_258
def Y0 : xm := fun q i => if q = 0 then (if i = 6 then (-1 : Int32) else if i = 5 then (-1 : Int32) else 0) else 0
def Z0 : xn := fun _ _ => 0
theorem L_Mod_eq (E : xE) (a : Nat) : ∀ j, j < 13 → cfL [.inr (9, [.ref (a + 1), .ref (a + 2), .ref (a + 3), .ref (a + 4), .int 0, .int (-1 : Int32), .int (-1 : Int32), .int 0, .int 0, .int 0, .int 0, .long 0, .int 0, .int 0, .int 0, .ref (a + 5), .int 0, .int 0, .int 0, .int 0, .ref (a + 6), .ref (a + 7), .ref (a + 8), .ref (a + 9), .ref (a + 10), .ref (a + 11), .ref (a + 12)]), .inl (E.2 0, 9878, .inl (fun _ => 0)), .inl (E.2 0, 9878, .inl (fun _ => 0)), .inl (E.2 0, 2820, .inl (fun _ => 0)), .inl (E.2 0, 300, .inl (fun _ => 0)), .inl (E.2 0, 160, .inl (fun _ => 0)), .inl (E.2 0, 8, .inl (fun _ => 0)), .inl (E.2 1, 330, .inr (.inl (fun _ => 0))), .inl (E.2 2, 330, .inl (fun _ => 0)), .inl (E.2 0, 318, .inl (fun _ => 0)), .inl (E.2 0, 64, .inl (fun _ => 0)), .inl (E.2 0, 5, .inl (fun _ => 0)), .inl (E.2 2, 64, .inl (fun _ => 0))] j = cY E a Y0 Z0 j := by
  intro j hj
  rcases (show j = 0 ∨ j = 1 ∨ j = 2 ∨ j = 3 ∨ j = 4 ∨ j = 5 ∨ j = 6 ∨ j = 7 ∨ j = 8 ∨ j = 9 ∨ j = 10 ∨ j = 11 ∨ j = 12 by omega) with rfl | rfl | rfl | rfl | rfl | rfl | rfl | rfl | rfl | rfl | rfl | rfl | rfl <;> rfl
def gMetW (l : Launch) (E : xE) (a : Nat) (y : MethodName) (cc : ByteArray) (nL : Nat) (rm : Room) (e0 : va_E) (N1 : Nat) (cf1 : Nat → va_E) (mc ms : Nat) : Prop :=
  Met l y (.code y cc nL none :: TB) rm (va_Pc [.ref (a + 0)] (fun U => xPK E a 1 (cfL [e0]) U ∧ U.heap.size = a + 1)) (xQ E a N1 none True cf1) mc ms (xA a N1)
theorem gMetW.ofW {l : Launch} {E : xE} {a : Nat} {y : MethodName} {cc : ByteArray} {nL : Nat} {rm : Room} {e0 : va_E} {N1 : Nat} {cf1 : Nat → va_E} {mc ms : Nat} {own : String} (hy : plainName y.cls = true) (ho : y.cls = own) (hni : y.name = "<init>") (hn : 1 ≤ nL)
    (body : ∀ (p : Program) (e : Env) (s : State) (m : MethodId) (below : List Frame) (meth : Method) (c : Code) (H : Heap) (locs : List Loc) (ls : Array Slot), xC p s m [Value.ref (a + 0)].toArray meth c cc nL own none E a → meth.name = "<init>" → s.heap.size = a + 1 → xL E a [e0] s.heap H locs → lv_has ls nL [(0, .ref (a + 0))] →
      W p l e rm s m [Value.ref (a + 0)].toArray below meth c H locs 0 0 (MQ below (xQ E a N1 none True cf1) [Value.ref (a + 0)].toArray s mc ms (xA a N1)) (F0 m 0 ls [])) : gMetW l E a y cc nL rm e0 N1 cf1 mc ms := by
  refine Met.ofW (cc := cc) (maxL := nL) (ret := none) hy rfl ?_
  intro p e s m args below meth c s₁ B hml hv
  obtain ⟨rfl, ⟨hP, hK, hNs, hTs⟩, hsz⟩ := hv
  have hts := atoms_spec (ws := .code y cc nL none :: TB) B.pre
  have hown : s.vm.findClass y.cls = some m.cls := findClass_of_methodNamed B.named
  rw [ho] at hown
  have hl := lv_entry [Value.ref (a + 0)] (n := nL) hn
  rw [lg_entry_eq]
  exact body p e s m below meth c _ _ _ ⟨⟨B.exec, B.bytes, hml, hown, fun w hw => hts w (List.mem_cons_of_mem _ hw)⟩, hK, B.returns, B.notSynchronized, hNs, hTs⟩ ((name_of_methodNamed B.named B.method).1.trans hni) hsz ⟨hP, va_S.rf⟩ hl
set_option maxHeartbeats 8000000 in
set_option maxRecDepth 20000 in
theorem c_X10_init (l : Launch) (E : xE) (a : Nat) {M' : xm} (hf : f_X10_init Y0 = some M') : gMetW l E a yX10_init cX10_init 2 (gR 2 12 24155) (.inr (9, [.null, .null, .null, .null, .int 0, .int 0, .int 0, .int 0, .int 0, .int 0, .int 0, .long 0, .int 0, .int 0, .int 0, .null, .int 0, .int 0, .int 0, .int 0, .null, .null, .null, .null, .null, .null, .null])) NY (cY E a M' Z0) 12 24155 := by
  refine gMetW.ofW (own := RX10) (by decide) rfl rfl (by decide) ?_
  intro p e s m below meth c H locs ls C hinit hsz hm hl
  have hx := C.1.1
  have hb := C.1.2.1
  refine lv_aload_n hx hb dX10_init_0 rfl (lv_at hl 0 rfl) ?_
  refine W.objInit hx hb C.1.2.2.2.1 (C.1.2.2.2.2 _ tm_RX10_1) (C.1.2.2.2.2 _ ti_Object) (C.1.2.2.2.2 _ tc_Object) rfl (hl.1.trans C.1.2.2.1.symm) rfl dX10_init_1 (Nat.le_of_ble_eq_true rfl) (Nat.le_of_ble_eq_true rfl) ?_
  show W p l e _ s m _ below meth c _ _ _ _ _ (F0 m 4 ls [])
  refine lv_aload_n hx hb dX10_init_4 rfl (lv_at hl 0 rfl) ?_
  refine lv_sipush (v := (9878 : Int32)) hx hb dX10_init_5 (by decide) ?_
  refine g_size (n := 0) hm (by rw [hsz]) (fun hH => ?_)
  refine g_newp (L := [.inr (9, [.null, .null, .null, .null, .int 0, .int 0, .int 0, .int 0, .int 0, .int 0, .int 0, .long 0, .int 0, .int 0, .int 0, .null, .int 0, .int 0, .int 0, .int 0, .null, .null, .null, .null, .null, .null, .null])]) (atype := .int) (ty := .int) (a0 := (9878, .inl (fun _ => 0))) C hm hH 0 rfl ta_int rfl (fun _ h => h) (fun _ => rfl) (by decide) rfl (by decide) (Nat.le_of_ble_eq_true rfl) (Nat.le_of_ble_eq_true rfl) dX10_init_8 (fun H hm => ?_)
  have hm : xL E a [.inr (9, [.null, .null, .null, .null, .int 0, .int 0, .int 0, .int 0, .int 0, .int 0, .int 0, .long 0, .int 0, .int 0, .int 0, .null, .int 0, .int 0, .int 0, .int 0, .null, .null, .null, .null, .null, .null, .null]), .inl (E.2 0, 9878, .inl (fun _ => 0))] s.heap H locs := hm
  refine x_putF (b := a) (k := 0) (v := .ref (a + 1)) (cf' := cfL [.inr (9, [.ref (a + 1), .null, .null, .null, .int 0, .int 0, .int 0, .int 0, .int 0, .int 0, .int 0, .long 0, .int 0, .int 0, .int 0, .null, .int 0, .int 0, .int 0, .int 0, .null, .null, .null, .null, .null, .null, .null]), .inl (E.2 0, 9878, .inl (fun _ => 0))]) C hm hinit inX10 tyX10 tyX10_ok nmX10 rfl 0 (by decide) tf_RX10_7 rfl rfl rfl rfl (cfL_at (L := [.inr (9, [.null, .null, .null, .null, .int 0, .int 0, .int 0, .int 0, .int 0, .int 0, .int 0, .long 0, .int 0, .int 0, .int 0, .null, .int 0, .int 0, .int 0, .int 0, .null, .null, .null, .null, .null, .null, .null]), .inl (E.2 0, 9878, .inl (fun _ => 0))]) rfl) (Nat.le_of_ble_eq_true rfl) rfl (cfL_seto (L := [.inr (9, [.null, .null, .null, .null, .int 0, .int 0, .int 0, .int 0, .int 0, .int 0, .int 0, .long 0, .int 0, .int 0, .int 0, .null, .int 0, .int 0, .int 0, .int 0, .null, .null, .null, .null, .null, .null, .null]), .inl (E.2 0, 9878, .inl (fun _ => 0))]) (k := 0) (e := .inr (9, [.ref (a + 1), .null, .null, .null, .int 0, .int 0, .int 0, .int 0, .int 0, .int 0, .int 0, .long 0, .int 0, .int 0, .int 0, .null, .int 0, .int 0, .int 0, .int 0, .null, .null, .null, .null, .null, .null, .null]))) dX10_init_10 (fun H locs hm => ?_)
  have hm : xL E a [.inr (9, [.ref (a + 1), .null, .null, .null, .int 0, .int 0, .int 0, .int 0, .int 0, .int 0, .int 0, .long 0, .int 0, .int 0, .int 0, .null, .int 0, .int 0, .int 0, .int 0, .null, .null, .null, .null, .null, .null, .null]), .inl (E.2 0, 9878, .inl (fun _ => 0))] s.heap H locs := hm
  refine lv_aload_n hx hb dX10_init_13 rfl (lv_at hl 0 rfl) ?_
  refine lv_sipush (v := (9878 : Int32)) hx hb dX10_init_14 (by decide) ?_
  refine g_size (n := 1) hm (by rw [hsz]) (fun hH => ?_)
  refine g_newp (L := [.inr (9, [.ref (a + 1), .null, .null, .null, .int 0, .int 0, .int 0, .int 0, .int 0, .int 0, .int 0, .long 0, .int 0, .int 0, .int 0, .null, .int 0, .int 0, .int 0, .int 0, .null, .null, .null, .null, .null, .null, .null]), .inl (E.2 0, 9878, .inl (fun _ => 0))]) (atype := .int) (ty := .int) (a0 := (9878, .inl (fun _ => 0))) C hm hH 0 rfl ta_int rfl (fun _ h => h) (fun _ => rfl) (by decide) rfl (by decide) (Nat.le_of_ble_eq_true rfl) (Nat.le_of_ble_eq_true rfl) dX10_init_17 (fun H hm => ?_)
  have hm : xL E a [.inr (9, [.ref (a + 1), .null, .null, .null, .int 0, .int 0, .int 0, .int 0, .int 0, .int 0, .int 0, .long 0, .int 0, .int 0, .int 0, .null, .int 0, .int 0, .int 0, .int 0, .null, .null, .null, .null, .null, .null, .null]), .inl (E.2 0, 9878, .inl (fun _ => 0)), .inl (E.2 0, 9878, .inl (fun _ => 0))] s.heap H locs := hm
  refine x_putF (b := a) (k := 0) (v := .ref (a + 2)) (cf' := cfL [.inr (9, [.ref (a + 1), .ref (a + 2), .null, .null, .int 0, .int 0, .int 0, .int 0, .int 0, .int 0, .int 0, .long 0, .int 0, .int 0, .int 0, .null, .int 0, .int 0, .int 0, .int 0, .null, .null, .null, .null, .null, .null, .null]), .inl (E.2 0, 9878, .inl (fun _ => 0)), .inl (E.2 0, 9878, .inl (fun _ => 0))]) C hm hinit inX10 tyX10 tyX10_ok nmX10 rfl 1 (by decide) tf_RX10_13 rfl rfl rfl rfl (cfL_at (L := [.inr (9, [.ref (a + 1), .null, .null, .null, .int 0, .int 0, .int 0, .int 0, .int 0, .int 0, .int 0, .long 0, .int 0, .int 0, .int 0, .null, .int 0, .int 0, .int 0, .int 0, .null, .null, .null, .null, .null, .null, .null]), .inl (E.2 0, 9878, .inl (fun _ => 0)), .inl (E.2 0, 9878, .inl (fun _ => 0))]) rfl) (Nat.le_of_ble_eq_true rfl) rfl (cfL_seto (L := [.inr (9, [.ref (a + 1), .null, .null, .null, .int 0, .int 0, .int 0, .int 0, .int 0, .int 0, .int 0, .long 0, .int 0, .int 0, .int 0, .null, .int 0, .int 0, .int 0, .int 0, .null, .null, .null, .null, .null, .null, .null]), .inl (E.2 0, 9878, .inl (fun _ => 0)), .inl (E.2 0, 9878, .inl (fun _ => 0))]) (k := 0) (e := .inr (9, [.ref (a + 1), .ref (a + 2), .null, .null, .int 0, .int 0, .int 0, .int 0, .int 0, .int 0, .int 0, .long 0, .int 0, .int 0, .int 0, .null, .int 0, .int 0, .int 0, .int 0, .null, .null, .null, .null, .null, .null, .null]))) dX10_init_19 (fun H locs hm => ?_)
  have hm : xL E a [.inr (9, [.ref (a + 1), .ref (a + 2), .null, .null, .int 0, .int 0, .int 0, .int 0, .int 0, .int 0, .int 0, .long 0, .int 0, .int 0, .int 0, .null, .int 0, .int 0, .int 0, .int 0, .null, .null, .null, .null, .null, .null, .null]), .inl (E.2 0, 9878, .inl (fun _ => 0)), .inl (E.2 0, 9878, .inl (fun _ => 0))] s.heap H locs := hm
  refine lv_aload_n hx hb dX10_init_22 rfl (lv_at hl 0 rfl) ?_
  refine lv_sipush (v := (2820 : Int32)) hx hb dX10_init_23 (by decide) ?_
  refine g_size (n := 2) hm (by rw [hsz]) (fun hH => ?_)
  refine g_newp (L := [.inr (9, [.ref (a + 1), .ref (a + 2), .null, .null, .int 0, .int 0, .int 0, .int 0, .int 0, .int 0, .int 0, .long 0, .int 0, .int 0, .int 0, .null, .int 0, .int 0, .int 0, .int 0, .null, .null, .null, .null, .null, .null, .null]), .inl (E.2 0, 9878, .inl (fun _ => 0)), .inl (E.2 0, 9878, .inl (fun _ => 0))]) (atype := .int) (ty := .int) (a0 := (2820, .inl (fun _ => 0))) C hm hH 0 rfl ta_int rfl (fun _ h => h) (fun _ => rfl) (by decide) rfl (by decide) (Nat.le_of_ble_eq_true rfl) (Nat.le_of_ble_eq_true rfl) dX10_init_26 (fun H hm => ?_)
  have hm : xL E a [.inr (9, [.ref (a + 1), .ref (a + 2), .null, .null, .int 0, .int 0, .int 0, .int 0, .int 0, .int 0, .int 0, .long 0, .int 0, .int 0, .int 0, .null, .int 0, .int 0, .int 0, .int 0, .null, .null, .null, .null, .null, .null, .null]), .inl (E.2 0, 9878, .inl (fun _ => 0)), .inl (E.2 0, 9878, .inl (fun _ => 0)), .inl (E.2 0, 2820, .inl (fun _ => 0))] s.heap H locs := hm
  refine x_putF (b := a) (k := 0) (v := .ref (a + 3)) (cf' := cfL [.inr (9, [.ref (a + 1), .ref (a + 2), .ref (a + 3), .null, .int 0, .int 0, .int 0, .int 0, .int 0, .int 0, .int 0, .long 0, .int 0, .int 0, .int 0, .null, .int 0, .int 0, .int 0, .int 0, .null, .null, .null, .null, .null, .null, .null]), .inl (E.2 0, 9878, .inl (fun _ => 0)), .inl (E.2 0, 9878, .inl (fun _ => 0)), .inl (E.2 0, 2820, .inl (fun _ => 0))]) C hm hinit inX10 tyX10 tyX10_ok nmX10 rfl 2 (by decide) tf_RX10_16 rfl rfl rfl rfl (cfL_at (L := [.inr (9, [.ref (a + 1), .ref (a + 2), .null, .null, .int 0, .int 0, .int 0, .int 0, .int 0, .int 0, .int 0, .long 0, .int 0, .int 0, .int 0, .null, .int 0, .int 0, .int 0, .int 0, .null, .null, .null, .null, .null, .null, .null]), .inl (E.2 0, 9878, .inl (fun _ => 0)), .inl (E.2 0, 9878, .inl (fun _ => 0)), .inl (E.2 0, 2820, .inl (fun _ => 0))]) rfl) (Nat.le_of_ble_eq_true rfl) rfl (cfL_seto (L := [.inr (9, [.ref (a + 1), .ref (a + 2), .null, .null, .int 0, .int 0, .int 0, .int 0, .int 0, .int 0, .int 0, .long 0, .int 0, .int 0, .int 0, .null, .int 0, .int 0, .int 0, .int 0, .null, .null, .null, .null, .null, .null, .null]), .inl (E.2 0, 9878, .inl (fun _ => 0)), .inl (E.2 0, 9878, .inl (fun _ => 0)), .inl (E.2 0, 2820, .inl (fun _ => 0))]) (k := 0) (e := .inr (9, [.ref (a + 1), .ref (a + 2), .ref (a + 3), .null, .int 0, .int 0, .int 0, .int 0, .int 0, .int 0, .int 0, .long 0, .int 0, .int 0, .int 0, .null, .int 0, .int 0, .int 0, .int 0, .null, .null, .null, .null, .null, .null, .null]))) dX10_init_28 (fun H locs hm => ?_)
  have hm : xL E a [.inr (9, [.ref (a + 1), .ref (a + 2), .ref (a + 3), .null, .int 0, .int 0, .int 0, .int 0, .int 0, .int 0, .int 0, .long 0, .int 0, .int 0, .int 0, .null, .int 0, .int 0, .int 0, .int 0, .null, .null, .null, .null, .null, .null, .null]), .inl (E.2 0, 9878, .inl (fun _ => 0)), .inl (E.2 0, 9878, .inl (fun _ => 0)), .inl (E.2 0, 2820, .inl (fun _ => 0))] s.heap H locs := hm
  refine lv_aload_n hx hb dX10_init_31 rfl (lv_at hl 0 rfl) ?_
  refine lv_sipush (v := (300 : Int32)) hx hb dX10_init_32 (by decide) ?_
  refine g_size (n := 3) hm (by rw [hsz]) (fun hH => ?_)
  refine g_newp (L := [.inr (9, [.ref (a + 1), .ref (a + 2), .ref (a + 3), .null, .int 0, .int 0, .int 0, .int 0, .int 0, .int 0, .int 0, .long 0, .int 0, .int 0, .int 0, .null, .int 0, .int 0, .int 0, .int 0, .null, .null, .null, .null, .null, .null, .null]), .inl (E.2 0, 9878, .inl (fun _ => 0)), .inl (E.2 0, 9878, .inl (fun _ => 0)), .inl (E.2 0, 2820, .inl (fun _ => 0))]) (atype := .int) (ty := .int) (a0 := (300, .inl (fun _ => 0))) C hm hH 0 rfl ta_int rfl (fun _ h => h) (fun _ => rfl) (by decide) rfl (by decide) (Nat.le_of_ble_eq_true rfl) (Nat.le_of_ble_eq_true rfl) dX10_init_35 (fun H hm => ?_)
  have hm : xL E a [.inr (9, [.ref (a + 1), .ref (a + 2), .ref (a + 3), .null, .int 0, .int 0, .int 0, .int 0, .int 0, .int 0, .int 0, .long 0, .int 0, .int 0, .int 0, .null, .int 0, .int 0, .int 0, .int 0, .null, .null, .null, .null, .null, .null, .null]), .inl (E.2 0, 9878, .inl (fun _ => 0)), .inl (E.2 0, 9878, .inl (fun _ => 0)), .inl (E.2 0, 2820, .inl (fun _ => 0)), .inl (E.2 0, 300, .inl (fun _ => 0))] s.heap H locs := hm
  refine x_putF (b := a) (k := 0) (v := .ref (a + 4)) (cf' := cfL [.inr (9, [.ref (a + 1), .ref (a + 2), .ref (a + 3), .ref (a + 4), .int 0, .int 0, .int 0, .int 0, .int 0, .int 0, .int 0, .long 0, .int 0, .int 0, .int 0, .null, .int 0, .int 0, .int 0, .int 0, .null, .null, .null, .null, .null, .null, .null]), .inl (E.2 0, 9878, .inl (fun _ => 0)), .inl (E.2 0, 9878, .inl (fun _ => 0)), .inl (E.2 0, 2820, .inl (fun _ => 0)), .inl (E.2 0, 300, .inl (fun _ => 0))]) C hm hinit inX10 tyX10 tyX10_ok nmX10 rfl 3 (by decide) tf_RX10_19 rfl rfl rfl rfl (cfL_at (L := [.inr (9, [.ref (a + 1), .ref (a + 2), .ref (a + 3), .null, .int 0, .int 0, .int 0, .int 0, .int 0, .int 0, .int 0, .long 0, .int 0, .int 0, .int 0, .null, .int 0, .int 0, .int 0, .int 0, .null, .null, .null, .null, .null, .null, .null]), .inl (E.2 0, 9878, .inl (fun _ => 0)), .inl (E.2 0, 9878, .inl (fun _ => 0)), .inl (E.2 0, 2820, .inl (fun _ => 0)), .inl (E.2 0, 300, .inl (fun _ => 0))]) rfl) (Nat.le_of_ble_eq_true rfl) rfl (cfL_seto (L := [.inr (9, [.ref (a + 1), .ref (a + 2), .ref (a + 3), .null, .int 0, .int 0, .int 0, .int 0, .int 0, .int 0, .int 0, .long 0, .int 0, .int 0, .int 0, .null, .int 0, .int 0, .int 0, .int 0, .null, .null, .null, .null, .null, .null, .null]), .inl (E.2 0, 9878, .inl (fun _ => 0)), .inl (E.2 0, 9878, .inl (fun _ => 0)), .inl (E.2 0, 2820, .inl (fun _ => 0)), .inl (E.2 0, 300, .inl (fun _ => 0))]) (k := 0) (e := .inr (9, [.ref (a + 1), .ref (a + 2), .ref (a + 3), .ref (a + 4), .int 0, .int 0, .int 0, .int 0, .int 0, .int 0, .int 0, .long 0, .int 0, .int 0, .int 0, .null, .int 0, .int 0, .int 0, .int 0, .null, .null, .null, .null, .null, .null, .null]))) dX10_init_37 (fun H locs hm => ?_)
  have hm : xL E a [.inr (9, [.ref (a + 1), .ref (a + 2), .ref (a + 3), .ref (a + 4), .int 0, .int 0, .int 0, .int 0, .int 0, .int 0, .int 0, .long 0, .int 0, .int 0, .int 0, .null, .int 0, .int 0, .int 0, .int 0, .null, .null, .null, .null, .null, .null, .null]), .inl (E.2 0, 9878, .inl (fun _ => 0)), .inl (E.2 0, 9878, .inl (fun _ => 0)), .inl (E.2 0, 2820, .inl (fun _ => 0)), .inl (E.2 0, 300, .inl (fun _ => 0))] s.heap H locs := hm
  refine lv_aload_n hx hb dX10_init_40 rfl (lv_at hl 0 rfl) ?_
  refine lv_iconst (v := (-1 : Int32)) hx hb dX10_init_41 (by decide) ?_
  refine x_put (b := a) (k := 0) (v := .int (-1 : Int32)) (cf' := cfL [.inr (9, [.ref (a + 1), .ref (a + 2), .ref (a + 3), .ref (a + 4), .int 0, .int (-1 : Int32), .int 0, .int 0, .int 0, .int 0, .int 0, .long 0, .int 0, .int 0, .int 0, .null, .int 0, .int 0, .int 0, .int 0, .null, .null, .null, .null, .null, .null, .null]), .inl (E.2 0, 9878, .inl (fun _ => 0)), .inl (E.2 0, 9878, .inl (fun _ => 0)), .inl (E.2 0, 2820, .inl (fun _ => 0)), .inl (E.2 0, 300, .inl (fun _ => 0))]) C hm inX10 tyX10 tyX10_ok nmX10 rfl 5 (by decide) tf_RX10_22 rfl rfl rfl (cfL_at (L := [.inr (9, [.ref (a + 1), .ref (a + 2), .ref (a + 3), .ref (a + 4), .int 0, .int 0, .int 0, .int 0, .int 0, .int 0, .int 0, .long 0, .int 0, .int 0, .int 0, .null, .int 0, .int 0, .int 0, .int 0, .null, .null, .null, .null, .null, .null, .null]), .inl (E.2 0, 9878, .inl (fun _ => 0)), .inl (E.2 0, 9878, .inl (fun _ => 0)), .inl (E.2 0, 2820, .inl (fun _ => 0)), .inl (E.2 0, 300, .inl (fun _ => 0))]) rfl) (Nat.le_of_ble_eq_true rfl) rfl (cfL_seto (L := [.inr (9, [.ref (a + 1), .ref (a + 2), .ref (a + 3), .ref (a + 4), .int 0, .int 0, .int 0, .int 0, .int 0, .int 0, .int 0, .long 0, .int 0, .int 0, .int 0, .null, .int 0, .int 0, .int 0, .int 0, .null, .null, .null, .null, .null, .null, .null]), .inl (E.2 0, 9878, .inl (fun _ => 0)), .inl (E.2 0, 9878, .inl (fun _ => 0)), .inl (E.2 0, 2820, .inl (fun _ => 0)), .inl (E.2 0, 300, .inl (fun _ => 0))]) (k := 0) (e := .inr (9, [.ref (a + 1), .ref (a + 2), .ref (a + 3), .ref (a + 4), .int 0, .int (-1 : Int32), .int 0, .int 0, .int 0, .int 0, .int 0, .long 0, .int 0, .int 0, .int 0, .null, .int 0, .int 0, .int 0, .int 0, .null, .null, .null, .null, .null, .null, .null]))) dX10_init_42 (fun H locs hm => ?_)
  have hm : xL E a [.inr (9, [.ref (a + 1), .ref (a + 2), .ref (a + 3), .ref (a + 4), .int 0, .int (-1 : Int32), .int 0, .int 0, .int 0, .int 0, .int 0, .long 0, .int 0, .int 0, .int 0, .null, .int 0, .int 0, .int 0, .int 0, .null, .null, .null, .null, .null, .null, .null]), .inl (E.2 0, 9878, .inl (fun _ => 0)), .inl (E.2 0, 9878, .inl (fun _ => 0)), .inl (E.2 0, 2820, .inl (fun _ => 0)), .inl (E.2 0, 300, .inl (fun _ => 0))] s.heap H locs := hm
  refine lv_aload_n hx hb dX10_init_45 rfl (lv_at hl 0 rfl) ?_
  refine lv_iconst (v := (-1 : Int32)) hx hb dX10_init_46 (by decide) ?_
  refine x_put (b := a) (k := 0) (v := .int (-1 : Int32)) (cf' := cfL [.inr (9, [.ref (a + 1), .ref (a + 2), .ref (a + 3), .ref (a + 4), .int 0, .int (-1 : Int32), .int (-1 : Int32), .int 0, .int 0, .int 0, .int 0, .long 0, .int 0, .int 0, .int 0, .null, .int 0, .int 0, .int 0, .int 0, .null, .null, .null, .null, .null, .null, .null]), .inl (E.2 0, 9878, .inl (fun _ => 0)), .inl (E.2 0, 9878, .inl (fun _ => 0)), .inl (E.2 0, 2820, .inl (fun _ => 0)), .inl (E.2 0, 300, .inl (fun _ => 0))]) C hm inX10 tyX10 tyX10_ok nmX10 rfl 6 (by decide) tf_RX10_26 rfl rfl rfl (cfL_at (L := [.inr (9, [.ref (a + 1), .ref (a + 2), .ref (a + 3), .ref (a + 4), .int 0, .int (-1 : Int32), .int 0, .int 0, .int 0, .int 0, .int 0, .long 0, .int 0, .int 0, .int 0, .null, .int 0, .int 0, .int 0, .int 0, .null, .null, .null, .null, .null, .null, .null]), .inl (E.2 0, 9878, .inl (fun _ => 0)), .inl (E.2 0, 9878, .inl (fun _ => 0)), .inl (E.2 0, 2820, .inl (fun _ => 0)), .inl (E.2 0, 300, .inl (fun _ => 0))]) rfl) (Nat.le_of_ble_eq_true rfl) rfl (cfL_seto (L := [.inr (9, [.ref (a + 1), .ref (a + 2), .ref (a + 3), .ref (a + 4), .int 0, .int (-1 : Int32), .int 0, .int 0, .int 0, .int 0, .int 0, .long 0, .int 0, .int 0, .int 0, .null, .int 0, .int 0, .int 0, .int 0, .null, .null, .null, .null, .null, .null, .null]), .inl (E.2 0, 9878, .inl (fun _ => 0)), .inl (E.2 0, 9878, .inl (fun _ => 0)), .inl (E.2 0, 2820, .inl (fun _ => 0)), .inl (E.2 0, 300, .inl (fun _ => 0))]) (k := 0) (e := .inr (9, [.ref (a + 1), .ref (a + 2), .ref (a + 3), .ref (a + 4), .int 0, .int (-1 : Int32), .int (-1 : Int32), .int 0, .int 0, .int 0, .int 0, .long 0, .int 0, .int 0, .int 0, .null, .int 0, .int 0, .int 0, .int 0, .null, .null, .null, .null, .null, .null, .null]))) dX10_init_47 (fun H locs hm => ?_)
  have hm : xL E a [.inr (9, [.ref (a + 1), .ref (a + 2), .ref (a + 3), .ref (a + 4), .int 0, .int (-1 : Int32), .int (-1 : Int32), .int 0, .int 0, .int 0, .int 0, .long 0, .int 0, .int 0, .int 0, .null, .int 0, .int 0, .int 0, .int 0, .null, .null, .null, .null, .null, .null, .null]), .inl (E.2 0, 9878, .inl (fun _ => 0)), .inl (E.2 0, 9878, .inl (fun _ => 0)), .inl (E.2 0, 2820, .inl (fun _ => 0)), .inl (E.2 0, 300, .inl (fun _ => 0))] s.heap H locs := hm
  refine lv_aload_n hx hb dX10_init_50 rfl (lv_at hl 0 rfl) ?_
  refine lv_sipush (v := (160 : Int32)) hx hb dX10_init_51 (by decide) ?_
  refine g_size (n := 4) hm (by rw [hsz]) (fun hH => ?_)
  refine g_newp (L := [.inr (9, [.ref (a + 1), .ref (a + 2), .ref (a + 3), .ref (a + 4), .int 0, .int (-1 : Int32), .int (-1 : Int32), .int 0, .int 0, .int 0, .int 0, .long 0, .int 0, .int 0, .int 0, .null, .int 0, .int 0, .int 0, .int 0, .null, .null, .null, .null, .null, .null, .null]), .inl (E.2 0, 9878, .inl (fun _ => 0)), .inl (E.2 0, 9878, .inl (fun _ => 0)), .inl (E.2 0, 2820, .inl (fun _ => 0)), .inl (E.2 0, 300, .inl (fun _ => 0))]) (atype := .int) (ty := .int) (a0 := (160, .inl (fun _ => 0))) C hm hH 0 rfl ta_int rfl (fun _ h => h) (fun _ => rfl) (by decide) rfl (by decide) (Nat.le_of_ble_eq_true rfl) (Nat.le_of_ble_eq_true rfl) dX10_init_54 (fun H hm => ?_)
  have hm : xL E a [.inr (9, [.ref (a + 1), .ref (a + 2), .ref (a + 3), .ref (a + 4), .int 0, .int (-1 : Int32), .int (-1 : Int32), .int 0, .int 0, .int 0, .int 0, .long 0, .int 0, .int 0, .int 0, .null, .int 0, .int 0, .int 0, .int 0, .null, .null, .null, .null, .null, .null, .null]), .inl (E.2 0, 9878, .inl (fun _ => 0)), .inl (E.2 0, 9878, .inl (fun _ => 0)), .inl (E.2 0, 2820, .inl (fun _ => 0)), .inl (E.2 0, 300, .inl (fun _ => 0)), .inl (E.2 0, 160, .inl (fun _ => 0))] s.heap H locs := hm
  refine x_putF (b := a) (k := 0) (v := .ref (a + 5)) (cf' := cfL [.inr (9, [.ref (a + 1), .ref (a + 2), .ref (a + 3), .ref (a + 4), .int 0, .int (-1 : Int32), .int (-1 : Int32), .int 0, .int 0, .int 0, .int 0, .long 0, .int 0, .int 0, .int 0, .ref (a + 5), .int 0, .int 0, .int 0, .int 0, .null, .null, .null, .null, .null, .null, .null]), .inl (E.2 0, 9878, .inl (fun _ => 0)), .inl (E.2 0, 9878, .inl (fun _ => 0)), .inl (E.2 0, 2820, .inl (fun _ => 0)), .inl (E.2 0, 300, .inl (fun _ => 0)), .inl (E.2 0, 160, .inl (fun _ => 0))]) C hm hinit inX10 tyX10 tyX10_ok nmX10 rfl 15 (by decide) tf_RX10_29 rfl rfl rfl rfl (cfL_at (L := [.inr (9, [.ref (a + 1), .ref (a + 2), .ref (a + 3), .ref (a + 4), .int 0, .int (-1 : Int32), .int (-1 : Int32), .int 0, .int 0, .int 0, .int 0, .long 0, .int 0, .int 0, .int 0, .null, .int 0, .int 0, .int 0, .int 0, .null, .null, .null, .null, .null, .null, .null]), .inl (E.2 0, 9878, .inl (fun _ => 0)), .inl (E.2 0, 9878, .inl (fun _ => 0)), .inl (E.2 0, 2820, .inl (fun _ => 0)), .inl (E.2 0, 300, .inl (fun _ => 0)), .inl (E.2 0, 160, .inl (fun _ => 0))]) rfl) (Nat.le_of_ble_eq_true rfl) rfl (cfL_seto (L := [.inr (9, [.ref (a + 1), .ref (a + 2), .ref (a + 3), .ref (a + 4), .int 0, .int (-1 : Int32), .int (-1 : Int32), .int 0, .int 0, .int 0, .int 0, .long 0, .int 0, .int 0, .int 0, .null, .int 0, .int 0, .int 0, .int 0, .null, .null, .null, .null, .null, .null, .null]), .inl (E.2 0, 9878, .inl (fun _ => 0)), .inl (E.2 0, 9878, .inl (fun _ => 0)), .inl (E.2 0, 2820, .inl (fun _ => 0)), .inl (E.2 0, 300, .inl (fun _ => 0)), .inl (E.2 0, 160, .inl (fun _ => 0))]) (k := 0) (e := .inr (9, [.ref (a + 1), .ref (a + 2), .ref (a + 3), .ref (a + 4), .int 0, .int (-1 : Int32), .int (-1 : Int32), .int 0, .int 0, .int 0, .int 0, .long 0, .int 0, .int 0, .int 0, .ref (a + 5), .int 0, .int 0, .int 0, .int 0, .null, .null, .null, .null, .null, .null, .null]))) dX10_init_56 (fun H locs hm => ?_)
  have hm : xL E a [.inr (9, [.ref (a + 1), .ref (a + 2), .ref (a + 3), .ref (a + 4), .int 0, .int (-1 : Int32), .int (-1 : Int32), .int 0, .int 0, .int 0, .int 0, .long 0, .int 0, .int 0, .int 0, .ref (a + 5), .int 0, .int 0, .int 0, .int 0, .null, .null, .null, .null, .null, .null, .null]), .inl (E.2 0, 9878, .inl (fun _ => 0)), .inl (E.2 0, 9878, .inl (fun _ => 0)), .inl (E.2 0, 2820, .inl (fun _ => 0)), .inl (E.2 0, 300, .inl (fun _ => 0)), .inl (E.2 0, 160, .inl (fun _ => 0))] s.heap H locs := hm
  refine lv_aload_n hx hb dX10_init_59 rfl (lv_at hl 0 rfl) ?_
  refine lv_bipush (v := (8 : Int32)) hx hb dX10_init_60 (by decide) ?_
  refine g_size (n := 5) hm (by rw [hsz]) (fun hH => ?_)
  refine g_newp (L := [.inr (9, [.ref (a + 1), .ref (a + 2), .ref (a + 3), .ref (a + 4), .int 0, .int (-1 : Int32), .int (-1 : Int32), .int 0, .int 0, .int 0, .int 0, .long 0, .int 0, .int 0, .int 0, .ref (a + 5), .int 0, .int 0, .int 0, .int 0, .null, .null, .null, .null, .null, .null, .null]), .inl (E.2 0, 9878, .inl (fun _ => 0)), .inl (E.2 0, 9878, .inl (fun _ => 0)), .inl (E.2 0, 2820, .inl (fun _ => 0)), .inl (E.2 0, 300, .inl (fun _ => 0)), .inl (E.2 0, 160, .inl (fun _ => 0))]) (atype := .int) (ty := .int) (a0 := (8, .inl (fun _ => 0))) C hm hH 0 rfl ta_int rfl (fun _ h => h) (fun _ => rfl) (by decide) rfl (by decide) (Nat.le_of_ble_eq_true rfl) (Nat.le_of_ble_eq_true rfl) dX10_init_62 (fun H hm => ?_)
  have hm : xL E a [.inr (9, [.ref (a + 1), .ref (a + 2), .ref (a + 3), .ref (a + 4), .int 0, .int (-1 : Int32), .int (-1 : Int32), .int 0, .int 0, .int 0, .int 0, .long 0, .int 0, .int 0, .int 0, .ref (a + 5), .int 0, .int 0, .int 0, .int 0, .null, .null, .null, .null, .null, .null, .null]), .inl (E.2 0, 9878, .inl (fun _ => 0)), .inl (E.2 0, 9878, .inl (fun _ => 0)), .inl (E.2 0, 2820, .inl (fun _ => 0)), .inl (E.2 0, 300, .inl (fun _ => 0)), .inl (E.2 0, 160, .inl (fun _ => 0)), .inl (E.2 0, 8, .inl (fun _ => 0))] s.heap H locs := hm
  refine x_putF (b := a) (k := 0) (v := .ref (a + 6)) (cf' := cfL [.inr (9, [.ref (a + 1), .ref (a + 2), .ref (a + 3), .ref (a + 4), .int 0, .int (-1 : Int32), .int (-1 : Int32), .int 0, .int 0, .int 0, .int 0, .long 0, .int 0, .int 0, .int 0, .ref (a + 5), .int 0, .int 0, .int 0, .int 0, .ref (a + 6), .null, .null, .null, .null, .null, .null]), .inl (E.2 0, 9878, .inl (fun _ => 0)), .inl (E.2 0, 9878, .inl (fun _ => 0)), .inl (E.2 0, 2820, .inl (fun _ => 0)), .inl (E.2 0, 300, .inl (fun _ => 0)), .inl (E.2 0, 160, .inl (fun _ => 0)), .inl (E.2 0, 8, .inl (fun _ => 0))]) C hm hinit inX10 tyX10 tyX10_ok nmX10 rfl 20 (by decide) tf_RX10_32 rfl rfl rfl rfl (cfL_at (L := [.inr (9, [.ref (a + 1), .ref (a + 2), .ref (a + 3), .ref (a + 4), .int 0, .int (-1 : Int32), .int (-1 : Int32), .int 0, .int 0, .int 0, .int 0, .long 0, .int 0, .int 0, .int 0, .ref (a + 5), .int 0, .int 0, .int 0, .int 0, .null, .null, .null, .null, .null, .null, .null]), .inl (E.2 0, 9878, .inl (fun _ => 0)), .inl (E.2 0, 9878, .inl (fun _ => 0)), .inl (E.2 0, 2820, .inl (fun _ => 0)), .inl (E.2 0, 300, .inl (fun _ => 0)), .inl (E.2 0, 160, .inl (fun _ => 0)), .inl (E.2 0, 8, .inl (fun _ => 0))]) rfl) (Nat.le_of_ble_eq_true rfl) rfl (cfL_seto (L := [.inr (9, [.ref (a + 1), .ref (a + 2), .ref (a + 3), .ref (a + 4), .int 0, .int (-1 : Int32), .int (-1 : Int32), .int 0, .int 0, .int 0, .int 0, .long 0, .int 0, .int 0, .int 0, .ref (a + 5), .int 0, .int 0, .int 0, .int 0, .null, .null, .null, .null, .null, .null, .null]), .inl (E.2 0, 9878, .inl (fun _ => 0)), .inl (E.2 0, 9878, .inl (fun _ => 0)), .inl (E.2 0, 2820, .inl (fun _ => 0)), .inl (E.2 0, 300, .inl (fun _ => 0)), .inl (E.2 0, 160, .inl (fun _ => 0)), .inl (E.2 0, 8, .inl (fun _ => 0))]) (k := 0) (e := .inr (9, [.ref (a + 1), .ref (a + 2), .ref (a + 3), .ref (a + 4), .int 0, .int (-1 : Int32), .int (-1 : Int32), .int 0, .int 0, .int 0, .int 0, .long 0, .int 0, .int 0, .int 0, .ref (a + 5), .int 0, .int 0, .int 0, .int 0, .ref (a + 6), .null, .null, .null, .null, .null, .null]))) dX10_init_64 (fun H locs hm => ?_)
  have hm : xL E a [.inr (9, [.ref (a + 1), .ref (a + 2), .ref (a + 3), .ref (a + 4), .int 0, .int (-1 : Int32), .int (-1 : Int32), .int 0, .int 0, .int 0, .int 0, .long 0, .int 0, .int 0, .int 0, .ref (a + 5), .int 0, .int 0, .int 0, .int 0, .ref (a + 6), .null, .null, .null, .null, .null, .null]), .inl (E.2 0, 9878, .inl (fun _ => 0)), .inl (E.2 0, 9878, .inl (fun _ => 0)), .inl (E.2 0, 2820, .inl (fun _ => 0)), .inl (E.2 0, 300, .inl (fun _ => 0)), .inl (E.2 0, 160, .inl (fun _ => 0)), .inl (E.2 0, 8, .inl (fun _ => 0))] s.heap H locs := hm
  refine lv_aload_n hx hb dX10_init_67 rfl (lv_at hl 0 rfl) ?_
  refine lv_sipush (v := (330 : Int32)) hx hb dX10_init_68 (by decide) ?_
  refine g_size (n := 6) hm (by rw [hsz]) (fun hH => ?_)
  refine g_newp (L := [.inr (9, [.ref (a + 1), .ref (a + 2), .ref (a + 3), .ref (a + 4), .int 0, .int (-1 : Int32), .int (-1 : Int32), .int 0, .int 0, .int 0, .int 0, .long 0, .int 0, .int 0, .int 0, .ref (a + 5), .int 0, .int 0, .int 0, .int 0, .ref (a + 6), .null, .null, .null, .null, .null, .null]), .inl (E.2 0, 9878, .inl (fun _ => 0)), .inl (E.2 0, 9878, .inl (fun _ => 0)), .inl (E.2 0, 2820, .inl (fun _ => 0)), .inl (E.2 0, 300, .inl (fun _ => 0)), .inl (E.2 0, 160, .inl (fun _ => 0)), .inl (E.2 0, 8, .inl (fun _ => 0))]) (atype := .long) (ty := .long) (a0 := (330, .inr (.inl (fun _ => 0)))) C hm hH 1 rfl ta_long rfl (fun _ h => h) (fun _ => rfl) (by decide) rfl (by decide) (Nat.le_of_ble_eq_true rfl) (Nat.le_of_ble_eq_true rfl) dX10_init_71 (fun H hm => ?_)
  have hm : xL E a [.inr (9, [.ref (a + 1), .ref (a + 2), .ref (a + 3), .ref (a + 4), .int 0, .int (-1 : Int32), .int (-1 : Int32), .int 0, .int 0, .int 0, .int 0, .long 0, .int 0, .int 0, .int 0, .ref (a + 5), .int 0, .int 0, .int 0, .int 0, .ref (a + 6), .null, .null, .null, .null, .null, .null]), .inl (E.2 0, 9878, .inl (fun _ => 0)), .inl (E.2 0, 9878, .inl (fun _ => 0)), .inl (E.2 0, 2820, .inl (fun _ => 0)), .inl (E.2 0, 300, .inl (fun _ => 0)), .inl (E.2 0, 160, .inl (fun _ => 0)), .inl (E.2 0, 8, .inl (fun _ => 0)), .inl (E.2 1, 330, .inr (.inl (fun _ => 0)))] s.heap H locs := hm
  refine x_putF (b := a) (k := 0) (v := .ref (a + 7)) (cf' := cfL [.inr (9, [.ref (a + 1), .ref (a + 2), .ref (a + 3), .ref (a + 4), .int 0, .int (-1 : Int32), .int (-1 : Int32), .int 0, .int 0, .int 0, .int 0, .long 0, .int 0, .int 0, .int 0, .ref (a + 5), .int 0, .int 0, .int 0, .int 0, .ref (a + 6), .ref (a + 7), .null, .null, .null, .null, .null]), .inl (E.2 0, 9878, .inl (fun _ => 0)), .inl (E.2 0, 9878, .inl (fun _ => 0)), .inl (E.2 0, 2820, .inl (fun _ => 0)), .inl (E.2 0, 300, .inl (fun _ => 0)), .inl (E.2 0, 160, .inl (fun _ => 0)), .inl (E.2 0, 8, .inl (fun _ => 0)), .inl (E.2 1, 330, .inr (.inl (fun _ => 0)))]) C hm hinit inX10 tyX10 tyX10_ok nmX10 rfl 21 (by decide) tf_RX10_35 rfl rfl rfl rfl (cfL_at (L := [.inr (9, [.ref (a + 1), .ref (a + 2), .ref (a + 3), .ref (a + 4), .int 0, .int (-1 : Int32), .int (-1 : Int32), .int 0, .int 0, .int 0, .int 0, .long 0, .int 0, .int 0, .int 0, .ref (a + 5), .int 0, .int 0, .int 0, .int 0, .ref (a + 6), .null, .null, .null, .null, .null, .null]), .inl (E.2 0, 9878, .inl (fun _ => 0)), .inl (E.2 0, 9878, .inl (fun _ => 0)), .inl (E.2 0, 2820, .inl (fun _ => 0)), .inl (E.2 0, 300, .inl (fun _ => 0)), .inl (E.2 0, 160, .inl (fun _ => 0)), .inl (E.2 0, 8, .inl (fun _ => 0)), .inl (E.2 1, 330, .inr (.inl (fun _ => 0)))]) rfl) (Nat.le_of_ble_eq_true rfl) rfl (cfL_seto (L := [.inr (9, [.ref (a + 1), .ref (a + 2), .ref (a + 3), .ref (a + 4), .int 0, .int (-1 : Int32), .int (-1 : Int32), .int 0, .int 0, .int 0, .int 0, .long 0, .int 0, .int 0, .int 0, .ref (a + 5), .int 0, .int 0, .int 0, .int 0, .ref (a + 6), .null, .null, .null, .null, .null, .null]), .inl (E.2 0, 9878, .inl (fun _ => 0)), .inl (E.2 0, 9878, .inl (fun _ => 0)), .inl (E.2 0, 2820, .inl (fun _ => 0)), .inl (E.2 0, 300, .inl (fun _ => 0)), .inl (E.2 0, 160, .inl (fun _ => 0)), .inl (E.2 0, 8, .inl (fun _ => 0)), .inl (E.2 1, 330, .inr (.inl (fun _ => 0)))]) (k := 0) (e := .inr (9, [.ref (a + 1), .ref (a + 2), .ref (a + 3), .ref (a + 4), .int 0, .int (-1 : Int32), .int (-1 : Int32), .int 0, .int 0, .int 0, .int 0, .long 0, .int 0, .int 0, .int 0, .ref (a + 5), .int 0, .int 0, .int 0, .int 0, .ref (a + 6), .ref (a + 7), .null, .null, .null, .null, .null]))) dX10_init_73 (fun H locs hm => ?_)
  have hm : xL E a [.inr (9, [.ref (a + 1), .ref (a + 2), .ref (a + 3), .ref (a + 4), .int 0, .int (-1 : Int32), .int (-1 : Int32), .int 0, .int 0, .int 0, .int 0, .long 0, .int 0, .int 0, .int 0, .ref (a + 5), .int 0, .int 0, .int 0, .int 0, .ref (a + 6), .ref (a + 7), .null, .null, .null, .null, .null]), .inl (E.2 0, 9878, .inl (fun _ => 0)), .inl (E.2 0, 9878, .inl (fun _ => 0)), .inl (E.2 0, 2820, .inl (fun _ => 0)), .inl (E.2 0, 300, .inl (fun _ => 0)), .inl (E.2 0, 160, .inl (fun _ => 0)), .inl (E.2 0, 8, .inl (fun _ => 0)), .inl (E.2 1, 330, .inr (.inl (fun _ => 0)))] s.heap H locs := hm
  refine lv_aload_n hx hb dX10_init_76 rfl (lv_at hl 0 rfl) ?_
  refine lv_sipush (v := (330 : Int32)) hx hb dX10_init_77 (by decide) ?_
  refine g_size (n := 7) hm (by rw [hsz]) (fun hH => ?_)
  refine g_newp (L := [.inr (9, [.ref (a + 1), .ref (a + 2), .ref (a + 3), .ref (a + 4), .int 0, .int (-1 : Int32), .int (-1 : Int32), .int 0, .int 0, .int 0, .int 0, .long 0, .int 0, .int 0, .int 0, .ref (a + 5), .int 0, .int 0, .int 0, .int 0, .ref (a + 6), .ref (a + 7), .null, .null, .null, .null, .null]), .inl (E.2 0, 9878, .inl (fun _ => 0)), .inl (E.2 0, 9878, .inl (fun _ => 0)), .inl (E.2 0, 2820, .inl (fun _ => 0)), .inl (E.2 0, 300, .inl (fun _ => 0)), .inl (E.2 0, 160, .inl (fun _ => 0)), .inl (E.2 0, 8, .inl (fun _ => 0)), .inl (E.2 1, 330, .inr (.inl (fun _ => 0)))]) (atype := .boolean) (ty := .boolean) (a0 := (330, .inl (fun _ => 0))) C hm hH 2 rfl ta_boolean rfl (fun _ h => h) (fun _ => rfl) (by decide) rfl (by decide) (Nat.le_of_ble_eq_true rfl) (Nat.le_of_ble_eq_true rfl) dX10_init_80 (fun H hm => ?_)
  have hm : xL E a [.inr (9, [.ref (a + 1), .ref (a + 2), .ref (a + 3), .ref (a + 4), .int 0, .int (-1 : Int32), .int (-1 : Int32), .int 0, .int 0, .int 0, .int 0, .long 0, .int 0, .int 0, .int 0, .ref (a + 5), .int 0, .int 0, .int 0, .int 0, .ref (a + 6), .ref (a + 7), .null, .null, .null, .null, .null]), .inl (E.2 0, 9878, .inl (fun _ => 0)), .inl (E.2 0, 9878, .inl (fun _ => 0)), .inl (E.2 0, 2820, .inl (fun _ => 0)), .inl (E.2 0, 300, .inl (fun _ => 0)), .inl (E.2 0, 160, .inl (fun _ => 0)), .inl (E.2 0, 8, .inl (fun _ => 0)), .inl (E.2 1, 330, .inr (.inl (fun _ => 0))), .inl (E.2 2, 330, .inl (fun _ => 0))] s.heap H locs := hm
  refine x_putF (b := a) (k := 0) (v := .ref (a + 8)) (cf' := cfL [.inr (9, [.ref (a + 1), .ref (a + 2), .ref (a + 3), .ref (a + 4), .int 0, .int (-1 : Int32), .int (-1 : Int32), .int 0, .int 0, .int 0, .int 0, .long 0, .int 0, .int 0, .int 0, .ref (a + 5), .int 0, .int 0, .int 0, .int 0, .ref (a + 6), .ref (a + 7), .ref (a + 8), .null, .null, .null, .null]), .inl (E.2 0, 9878, .inl (fun _ => 0)), .inl (E.2 0, 9878, .inl (fun _ => 0)), .inl (E.2 0, 2820, .inl (fun _ => 0)), .inl (E.2 0, 300, .inl (fun _ => 0)), .inl (E.2 0, 160, .inl (fun _ => 0)), .inl (E.2 0, 8, .inl (fun _ => 0)), .inl (E.2 1, 330, .inr (.inl (fun _ => 0))), .inl (E.2 2, 330, .inl (fun _ => 0))]) C hm hinit inX10 tyX10 tyX10_ok nmX10 rfl 22 (by decide) tf_RX10_39 rfl rfl rfl rfl (cfL_at (L := [.inr (9, [.ref (a + 1), .ref (a + 2), .ref (a + 3), .ref (a + 4), .int 0, .int (-1 : Int32), .int (-1 : Int32), .int 0, .int 0, .int 0, .int 0, .long 0, .int 0, .int 0, .int 0, .ref (a + 5), .int 0, .int 0, .int 0, .int 0, .ref (a + 6), .ref (a + 7), .null, .null, .null, .null, .null]), .inl (E.2 0, 9878, .inl (fun _ => 0)), .inl (E.2 0, 9878, .inl (fun _ => 0)), .inl (E.2 0, 2820, .inl (fun _ => 0)), .inl (E.2 0, 300, .inl (fun _ => 0)), .inl (E.2 0, 160, .inl (fun _ => 0)), .inl (E.2 0, 8, .inl (fun _ => 0)), .inl (E.2 1, 330, .inr (.inl (fun _ => 0))), .inl (E.2 2, 330, .inl (fun _ => 0))]) rfl) (Nat.le_of_ble_eq_true rfl) rfl (cfL_seto (L := [.inr (9, [.ref (a + 1), .ref (a + 2), .ref (a + 3), .ref (a + 4), .int 0, .int (-1 : Int32), .int (-1 : Int32), .int 0, .int 0, .int 0, .int 0, .long 0, .int 0, .int 0, .int 0, .ref (a + 5), .int 0, .int 0, .int 0, .int 0, .ref (a + 6), .ref (a + 7), .null, .null, .null, .null, .null]), .inl (E.2 0, 9878, .inl (fun _ => 0)), .inl (E.2 0, 9878, .inl (fun _ => 0)), .inl (E.2 0, 2820, .inl (fun _ => 0)), .inl (E.2 0, 300, .inl (fun _ => 0)), .inl (E.2 0, 160, .inl (fun _ => 0)), .inl (E.2 0, 8, .inl (fun _ => 0)), .inl (E.2 1, 330, .inr (.inl (fun _ => 0))), .inl (E.2 2, 330, .inl (fun _ => 0))]) (k := 0) (e := .inr (9, [.ref (a + 1), .ref (a + 2), .ref (a + 3), .ref (a + 4), .int 0, .int (-1 : Int32), .int (-1 : Int32), .int 0, .int 0, .int 0, .int 0, .long 0, .int 0, .int 0, .int 0, .ref (a + 5), .int 0, .int 0, .int 0, .int 0, .ref (a + 6), .ref (a + 7), .ref (a + 8), .null, .null, .null, .null]))) dX10_init_82 (fun H locs hm => ?_)
  have hm : xL E a [.inr (9, [.ref (a + 1), .ref (a + 2), .ref (a + 3), .ref (a + 4), .int 0, .int (-1 : Int32), .int (-1 : Int32), .int 0, .int 0, .int 0, .int 0, .long 0, .int 0, .int 0, .int 0, .ref (a + 5), .int 0, .int 0, .int 0, .int 0, .ref (a + 6), .ref (a + 7), .ref (a + 8), .null, .null, .null, .null]), .inl (E.2 0, 9878, .inl (fun _ => 0)), .inl (E.2 0, 9878, .inl (fun _ => 0)), .inl (E.2 0, 2820, .inl (fun _ => 0)), .inl (E.2 0, 300, .inl (fun _ => 0)), .inl (E.2 0, 160, .inl (fun _ => 0)), .inl (E.2 0, 8, .inl (fun _ => 0)), .inl (E.2 1, 330, .inr (.inl (fun _ => 0))), .inl (E.2 2, 330, .inl (fun _ => 0))] s.heap H locs := hm
  refine lv_aload_n hx hb dX10_init_85 rfl (lv_at hl 0 rfl) ?_
  refine lv_sipush (v := (318 : Int32)) hx hb dX10_init_86 (by decide) ?_
  refine g_size (n := 8) hm (by rw [hsz]) (fun hH => ?_)
  refine g_newp (L := [.inr (9, [.ref (a + 1), .ref (a + 2), .ref (a + 3), .ref (a + 4), .int 0, .int (-1 : Int32), .int (-1 : Int32), .int 0, .int 0, .int 0, .int 0, .long 0, .int 0, .int 0, .int 0, .ref (a + 5), .int 0, .int 0, .int 0, .int 0, .ref (a + 6), .ref (a + 7), .ref (a + 8), .null, .null, .null, .null]), .inl (E.2 0, 9878, .inl (fun _ => 0)), .inl (E.2 0, 9878, .inl (fun _ => 0)), .inl (E.2 0, 2820, .inl (fun _ => 0)), .inl (E.2 0, 300, .inl (fun _ => 0)), .inl (E.2 0, 160, .inl (fun _ => 0)), .inl (E.2 0, 8, .inl (fun _ => 0)), .inl (E.2 1, 330, .inr (.inl (fun _ => 0))), .inl (E.2 2, 330, .inl (fun _ => 0))]) (atype := .int) (ty := .int) (a0 := (318, .inl (fun _ => 0))) C hm hH 0 rfl ta_int rfl (fun _ h => h) (fun _ => rfl) (by decide) rfl (by decide) (Nat.le_of_ble_eq_true rfl) (Nat.le_of_ble_eq_true rfl) dX10_init_89 (fun H hm => ?_)
  have hm : xL E a [.inr (9, [.ref (a + 1), .ref (a + 2), .ref (a + 3), .ref (a + 4), .int 0, .int (-1 : Int32), .int (-1 : Int32), .int 0, .int 0, .int 0, .int 0, .long 0, .int 0, .int 0, .int 0, .ref (a + 5), .int 0, .int 0, .int 0, .int 0, .ref (a + 6), .ref (a + 7), .ref (a + 8), .null, .null, .null, .null]), .inl (E.2 0, 9878, .inl (fun _ => 0)), .inl (E.2 0, 9878, .inl (fun _ => 0)), .inl (E.2 0, 2820, .inl (fun _ => 0)), .inl (E.2 0, 300, .inl (fun _ => 0)), .inl (E.2 0, 160, .inl (fun _ => 0)), .inl (E.2 0, 8, .inl (fun _ => 0)), .inl (E.2 1, 330, .inr (.inl (fun _ => 0))), .inl (E.2 2, 330, .inl (fun _ => 0)), .inl (E.2 0, 318, .inl (fun _ => 0))] s.heap H locs := hm
  refine x_putF (b := a) (k := 0) (v := .ref (a + 9)) (cf' := cfL [.inr (9, [.ref (a + 1), .ref (a + 2), .ref (a + 3), .ref (a + 4), .int 0, .int (-1 : Int32), .int (-1 : Int32), .int 0, .int 0, .int 0, .int 0, .long 0, .int 0, .int 0, .int 0, .ref (a + 5), .int 0, .int 0, .int 0, .int 0, .ref (a + 6), .ref (a + 7), .ref (a + 8), .ref (a + 9), .null, .null, .null]), .inl (E.2 0, 9878, .inl (fun _ => 0)), .inl (E.2 0, 9878, .inl (fun _ => 0)), .inl (E.2 0, 2820, .inl (fun _ => 0)), .inl (E.2 0, 300, .inl (fun _ => 0)), .inl (E.2 0, 160, .inl (fun _ => 0)), .inl (E.2 0, 8, .inl (fun _ => 0)), .inl (E.2 1, 330, .inr (.inl (fun _ => 0))), .inl (E.2 2, 330, .inl (fun _ => 0)), .inl (E.2 0, 318, .inl (fun _ => 0))]) C hm hinit inX10 tyX10 tyX10_ok nmX10 rfl 23 (by decide) tf_RX10_43 rfl rfl rfl rfl (cfL_at (L := [.inr (9, [.ref (a + 1), .ref (a + 2), .ref (a + 3), .ref (a + 4), .int 0, .int (-1 : Int32), .int (-1 : Int32), .int 0, .int 0, .int 0, .int 0, .long 0, .int 0, .int 0, .int 0, .ref (a + 5), .int 0, .int 0, .int 0, .int 0, .ref (a + 6), .ref (a + 7), .ref (a + 8), .null, .null, .null, .null]), .inl (E.2 0, 9878, .inl (fun _ => 0)), .inl (E.2 0, 9878, .inl (fun _ => 0)), .inl (E.2 0, 2820, .inl (fun _ => 0)), .inl (E.2 0, 300, .inl (fun _ => 0)), .inl (E.2 0, 160, .inl (fun _ => 0)), .inl (E.2 0, 8, .inl (fun _ => 0)), .inl (E.2 1, 330, .inr (.inl (fun _ => 0))), .inl (E.2 2, 330, .inl (fun _ => 0)), .inl (E.2 0, 318, .inl (fun _ => 0))]) rfl) (Nat.le_of_ble_eq_true rfl) rfl (cfL_seto (L := [.inr (9, [.ref (a + 1), .ref (a + 2), .ref (a + 3), .ref (a + 4), .int 0, .int (-1 : Int32), .int (-1 : Int32), .int 0, .int 0, .int 0, .int 0, .long 0, .int 0, .int 0, .int 0, .ref (a + 5), .int 0, .int 0, .int 0, .int 0, .ref (a + 6), .ref (a + 7), .ref (a + 8), .null, .null, .null, .null]), .inl (E.2 0, 9878, .inl (fun _ => 0)), .inl (E.2 0, 9878, .inl (fun _ => 0)), .inl (E.2 0, 2820, .inl (fun _ => 0)), .inl (E.2 0, 300, .inl (fun _ => 0)), .inl (E.2 0, 160, .inl (fun _ => 0)), .inl (E.2 0, 8, .inl (fun _ => 0)), .inl (E.2 1, 330, .inr (.inl (fun _ => 0))), .inl (E.2 2, 330, .inl (fun _ => 0)), .inl (E.2 0, 318, .inl (fun _ => 0))]) (k := 0) (e := .inr (9, [.ref (a + 1), .ref (a + 2), .ref (a + 3), .ref (a + 4), .int 0, .int (-1 : Int32), .int (-1 : Int32), .int 0, .int 0, .int 0, .int 0, .long 0, .int 0, .int 0, .int 0, .ref (a + 5), .int 0, .int 0, .int 0, .int 0, .ref (a + 6), .ref (a + 7), .ref (a + 8), .ref (a + 9), .null, .null, .null]))) dX10_init_91 (fun H locs hm => ?_)
  have hm : xL E a [.inr (9, [.ref (a + 1), .ref (a + 2), .ref (a + 3), .ref (a + 4), .int 0, .int (-1 : Int32), .int (-1 : Int32), .int 0, .int 0, .int 0, .int 0, .long 0, .int 0, .int 0, .int 0, .ref (a + 5), .int 0, .int 0, .int 0, .int 0, .ref (a + 6), .ref (a + 7), .ref (a + 8), .ref (a + 9), .null, .null, .null]), .inl (E.2 0, 9878, .inl (fun _ => 0)), .inl (E.2 0, 9878, .inl (fun _ => 0)), .inl (E.2 0, 2820, .inl (fun _ => 0)), .inl (E.2 0, 300, .inl (fun _ => 0)), .inl (E.2 0, 160, .inl (fun _ => 0)), .inl (E.2 0, 8, .inl (fun _ => 0)), .inl (E.2 1, 330, .inr (.inl (fun _ => 0))), .inl (E.2 2, 330, .inl (fun _ => 0)), .inl (E.2 0, 318, .inl (fun _ => 0))] s.heap H locs := hm
  refine lv_aload_n hx hb dX10_init_94 rfl (lv_at hl 0 rfl) ?_
  refine lv_bipush (v := (64 : Int32)) hx hb dX10_init_95 (by decide) ?_
  refine g_size (n := 9) hm (by rw [hsz]) (fun hH => ?_)
  refine g_newp (L := [.inr (9, [.ref (a + 1), .ref (a + 2), .ref (a + 3), .ref (a + 4), .int 0, .int (-1 : Int32), .int (-1 : Int32), .int 0, .int 0, .int 0, .int 0, .long 0, .int 0, .int 0, .int 0, .ref (a + 5), .int 0, .int 0, .int 0, .int 0, .ref (a + 6), .ref (a + 7), .ref (a + 8), .ref (a + 9), .null, .null, .null]), .inl (E.2 0, 9878, .inl (fun _ => 0)), .inl (E.2 0, 9878, .inl (fun _ => 0)), .inl (E.2 0, 2820, .inl (fun _ => 0)), .inl (E.2 0, 300, .inl (fun _ => 0)), .inl (E.2 0, 160, .inl (fun _ => 0)), .inl (E.2 0, 8, .inl (fun _ => 0)), .inl (E.2 1, 330, .inr (.inl (fun _ => 0))), .inl (E.2 2, 330, .inl (fun _ => 0)), .inl (E.2 0, 318, .inl (fun _ => 0))]) (atype := .int) (ty := .int) (a0 := (64, .inl (fun _ => 0))) C hm hH 0 rfl ta_int rfl (fun _ h => h) (fun _ => rfl) (by decide) rfl (by decide) (Nat.le_of_ble_eq_true rfl) (Nat.le_of_ble_eq_true rfl) dX10_init_97 (fun H hm => ?_)
  have hm : xL E a [.inr (9, [.ref (a + 1), .ref (a + 2), .ref (a + 3), .ref (a + 4), .int 0, .int (-1 : Int32), .int (-1 : Int32), .int 0, .int 0, .int 0, .int 0, .long 0, .int 0, .int 0, .int 0, .ref (a + 5), .int 0, .int 0, .int 0, .int 0, .ref (a + 6), .ref (a + 7), .ref (a + 8), .ref (a + 9), .null, .null, .null]), .inl (E.2 0, 9878, .inl (fun _ => 0)), .inl (E.2 0, 9878, .inl (fun _ => 0)), .inl (E.2 0, 2820, .inl (fun _ => 0)), .inl (E.2 0, 300, .inl (fun _ => 0)), .inl (E.2 0, 160, .inl (fun _ => 0)), .inl (E.2 0, 8, .inl (fun _ => 0)), .inl (E.2 1, 330, .inr (.inl (fun _ => 0))), .inl (E.2 2, 330, .inl (fun _ => 0)), .inl (E.2 0, 318, .inl (fun _ => 0)), .inl (E.2 0, 64, .inl (fun _ => 0))] s.heap H locs := hm
  refine x_putF (b := a) (k := 0) (v := .ref (a + 10)) (cf' := cfL [.inr (9, [.ref (a + 1), .ref (a + 2), .ref (a + 3), .ref (a + 4), .int 0, .int (-1 : Int32), .int (-1 : Int32), .int 0, .int 0, .int 0, .int 0, .long 0, .int 0, .int 0, .int 0, .ref (a + 5), .int 0, .int 0, .int 0, .int 0, .ref (a + 6), .ref (a + 7), .ref (a + 8), .ref (a + 9), .ref (a + 10), .null, .null]), .inl (E.2 0, 9878, .inl (fun _ => 0)), .inl (E.2 0, 9878, .inl (fun _ => 0)), .inl (E.2 0, 2820, .inl (fun _ => 0)), .inl (E.2 0, 300, .inl (fun _ => 0)), .inl (E.2 0, 160, .inl (fun _ => 0)), .inl (E.2 0, 8, .inl (fun _ => 0)), .inl (E.2 1, 330, .inr (.inl (fun _ => 0))), .inl (E.2 2, 330, .inl (fun _ => 0)), .inl (E.2 0, 318, .inl (fun _ => 0)), .inl (E.2 0, 64, .inl (fun _ => 0))]) C hm hinit inX10 tyX10 tyX10_ok nmX10 rfl 24 (by decide) tf_RX10_46 rfl rfl rfl rfl (cfL_at (L := [.inr (9, [.ref (a + 1), .ref (a + 2), .ref (a + 3), .ref (a + 4), .int 0, .int (-1 : Int32), .int (-1 : Int32), .int 0, .int 0, .int 0, .int 0, .long 0, .int 0, .int 0, .int 0, .ref (a + 5), .int 0, .int 0, .int 0, .int 0, .ref (a + 6), .ref (a + 7), .ref (a + 8), .ref (a + 9), .null, .null, .null]), .inl (E.2 0, 9878, .inl (fun _ => 0)), .inl (E.2 0, 9878, .inl (fun _ => 0)), .inl (E.2 0, 2820, .inl (fun _ => 0)), .inl (E.2 0, 300, .inl (fun _ => 0)), .inl (E.2 0, 160, .inl (fun _ => 0)), .inl (E.2 0, 8, .inl (fun _ => 0)), .inl (E.2 1, 330, .inr (.inl (fun _ => 0))), .inl (E.2 2, 330, .inl (fun _ => 0)), .inl (E.2 0, 318, .inl (fun _ => 0)), .inl (E.2 0, 64, .inl (fun _ => 0))]) rfl) (Nat.le_of_ble_eq_true rfl) rfl (cfL_seto (L := [.inr (9, [.ref (a + 1), .ref (a + 2), .ref (a + 3), .ref (a + 4), .int 0, .int (-1 : Int32), .int (-1 : Int32), .int 0, .int 0, .int 0, .int 0, .long 0, .int 0, .int 0, .int 0, .ref (a + 5), .int 0, .int 0, .int 0, .int 0, .ref (a + 6), .ref (a + 7), .ref (a + 8), .ref (a + 9), .null, .null, .null]), .inl (E.2 0, 9878, .inl (fun _ => 0)), .inl (E.2 0, 9878, .inl (fun _ => 0)), .inl (E.2 0, 2820, .inl (fun _ => 0)), .inl (E.2 0, 300, .inl (fun _ => 0)), .inl (E.2 0, 160, .inl (fun _ => 0)), .inl (E.2 0, 8, .inl (fun _ => 0)), .inl (E.2 1, 330, .inr (.inl (fun _ => 0))), .inl (E.2 2, 330, .inl (fun _ => 0)), .inl (E.2 0, 318, .inl (fun _ => 0)), .inl (E.2 0, 64, .inl (fun _ => 0))]) (k := 0) (e := .inr (9, [.ref (a + 1), .ref (a + 2), .ref (a + 3), .ref (a + 4), .int 0, .int (-1 : Int32), .int (-1 : Int32), .int 0, .int 0, .int 0, .int 0, .long 0, .int 0, .int 0, .int 0, .ref (a + 5), .int 0, .int 0, .int 0, .int 0, .ref (a + 6), .ref (a + 7), .ref (a + 8), .ref (a + 9), .ref (a + 10), .null, .null]))) dX10_init_99 (fun H locs hm => ?_)
  have hm : xL E a [.inr (9, [.ref (a + 1), .ref (a + 2), .ref (a + 3), .ref (a + 4), .int 0, .int (-1 : Int32), .int (-1 : Int32), .int 0, .int 0, .int 0, .int 0, .long 0, .int 0, .int 0, .int 0, .ref (a + 5), .int 0, .int 0, .int 0, .int 0, .ref (a + 6), .ref (a + 7), .ref (a + 8), .ref (a + 9), .ref (a + 10), .null, .null]), .inl (E.2 0, 9878, .inl (fun _ => 0)), .inl (E.2 0, 9878, .inl (fun _ => 0)), .inl (E.2 0, 2820, .inl (fun _ => 0)), .inl (E.2 0, 300, .inl (fun _ => 0)), .inl (E.2 0, 160, .inl (fun _ => 0)), .inl (E.2 0, 8, .inl (fun _ => 0)), .inl (E.2 1, 330, .inr (.inl (fun _ => 0))), .inl (E.2 2, 330, .inl (fun _ => 0)), .inl (E.2 0, 318, .inl (fun _ => 0)), .inl (E.2 0, 64, .inl (fun _ => 0))] s.heap H locs := hm
  refine lv_aload_n hx hb dX10_init_102 rfl (lv_at hl 0 rfl) ?_
  refine lv_iconst (v := (5 : Int32)) hx hb dX10_init_103 (by decide) ?_
  refine g_size (n := 10) hm (by rw [hsz]) (fun hH => ?_)
  refine g_newp (L := [.inr (9, [.ref (a + 1), .ref (a + 2), .ref (a + 3), .ref (a + 4), .int 0, .int (-1 : Int32), .int (-1 : Int32), .int 0, .int 0, .int 0, .int 0, .long 0, .int 0, .int 0, .int 0, .ref (a + 5), .int 0, .int 0, .int 0, .int 0, .ref (a + 6), .ref (a + 7), .ref (a + 8), .ref (a + 9), .ref (a + 10), .null, .null]), .inl (E.2 0, 9878, .inl (fun _ => 0)), .inl (E.2 0, 9878, .inl (fun _ => 0)), .inl (E.2 0, 2820, .inl (fun _ => 0)), .inl (E.2 0, 300, .inl (fun _ => 0)), .inl (E.2 0, 160, .inl (fun _ => 0)), .inl (E.2 0, 8, .inl (fun _ => 0)), .inl (E.2 1, 330, .inr (.inl (fun _ => 0))), .inl (E.2 2, 330, .inl (fun _ => 0)), .inl (E.2 0, 318, .inl (fun _ => 0)), .inl (E.2 0, 64, .inl (fun _ => 0))]) (atype := .int) (ty := .int) (a0 := (5, .inl (fun _ => 0))) C hm hH 0 rfl ta_int rfl (fun _ h => h) (fun _ => rfl) (by decide) rfl (by decide) (Nat.le_of_ble_eq_true rfl) (Nat.le_of_ble_eq_true rfl) dX10_init_104 (fun H hm => ?_)
  have hm : xL E a [.inr (9, [.ref (a + 1), .ref (a + 2), .ref (a + 3), .ref (a + 4), .int 0, .int (-1 : Int32), .int (-1 : Int32), .int 0, .int 0, .int 0, .int 0, .long 0, .int 0, .int 0, .int 0, .ref (a + 5), .int 0, .int 0, .int 0, .int 0, .ref (a + 6), .ref (a + 7), .ref (a + 8), .ref (a + 9), .ref (a + 10), .null, .null]), .inl (E.2 0, 9878, .inl (fun _ => 0)), .inl (E.2 0, 9878, .inl (fun _ => 0)), .inl (E.2 0, 2820, .inl (fun _ => 0)), .inl (E.2 0, 300, .inl (fun _ => 0)), .inl (E.2 0, 160, .inl (fun _ => 0)), .inl (E.2 0, 8, .inl (fun _ => 0)), .inl (E.2 1, 330, .inr (.inl (fun _ => 0))), .inl (E.2 2, 330, .inl (fun _ => 0)), .inl (E.2 0, 318, .inl (fun _ => 0)), .inl (E.2 0, 64, .inl (fun _ => 0)), .inl (E.2 0, 5, .inl (fun _ => 0))] s.heap H locs := hm
  refine x_putF (b := a) (k := 0) (v := .ref (a + 11)) (cf' := cfL [.inr (9, [.ref (a + 1), .ref (a + 2), .ref (a + 3), .ref (a + 4), .int 0, .int (-1 : Int32), .int (-1 : Int32), .int 0, .int 0, .int 0, .int 0, .long 0, .int 0, .int 0, .int 0, .ref (a + 5), .int 0, .int 0, .int 0, .int 0, .ref (a + 6), .ref (a + 7), .ref (a + 8), .ref (a + 9), .ref (a + 10), .ref (a + 11), .null]), .inl (E.2 0, 9878, .inl (fun _ => 0)), .inl (E.2 0, 9878, .inl (fun _ => 0)), .inl (E.2 0, 2820, .inl (fun _ => 0)), .inl (E.2 0, 300, .inl (fun _ => 0)), .inl (E.2 0, 160, .inl (fun _ => 0)), .inl (E.2 0, 8, .inl (fun _ => 0)), .inl (E.2 1, 330, .inr (.inl (fun _ => 0))), .inl (E.2 2, 330, .inl (fun _ => 0)), .inl (E.2 0, 318, .inl (fun _ => 0)), .inl (E.2 0, 64, .inl (fun _ => 0)), .inl (E.2 0, 5, .inl (fun _ => 0))]) C hm hinit inX10 tyX10 tyX10_ok nmX10 rfl 25 (by decide) tf_RX10_49 rfl rfl rfl rfl (cfL_at (L := [.inr (9, [.ref (a + 1), .ref (a + 2), .ref (a + 3), .ref (a + 4), .int 0, .int (-1 : Int32), .int (-1 : Int32), .int 0, .int 0, .int 0, .int 0, .long 0, .int 0, .int 0, .int 0, .ref (a + 5), .int 0, .int 0, .int 0, .int 0, .ref (a + 6), .ref (a + 7), .ref (a + 8), .ref (a + 9), .ref (a + 10), .null, .null]), .inl (E.2 0, 9878, .inl (fun _ => 0)), .inl (E.2 0, 9878, .inl (fun _ => 0)), .inl (E.2 0, 2820, .inl (fun _ => 0)), .inl (E.2 0, 300, .inl (fun _ => 0)), .inl (E.2 0, 160, .inl (fun _ => 0)), .inl (E.2 0, 8, .inl (fun _ => 0)), .inl (E.2 1, 330, .inr (.inl (fun _ => 0))), .inl (E.2 2, 330, .inl (fun _ => 0)), .inl (E.2 0, 318, .inl (fun _ => 0)), .inl (E.2 0, 64, .inl (fun _ => 0)), .inl (E.2 0, 5, .inl (fun _ => 0))]) rfl) (Nat.le_of_ble_eq_true rfl) rfl (cfL_seto (L := [.inr (9, [.ref (a + 1), .ref (a + 2), .ref (a + 3), .ref (a + 4), .int 0, .int (-1 : Int32), .int (-1 : Int32), .int 0, .int 0, .int 0, .int 0, .long 0, .int 0, .int 0, .int 0, .ref (a + 5), .int 0, .int 0, .int 0, .int 0, .ref (a + 6), .ref (a + 7), .ref (a + 8), .ref (a + 9), .ref (a + 10), .null, .null]), .inl (E.2 0, 9878, .inl (fun _ => 0)), .inl (E.2 0, 9878, .inl (fun _ => 0)), .inl (E.2 0, 2820, .inl (fun _ => 0)), .inl (E.2 0, 300, .inl (fun _ => 0)), .inl (E.2 0, 160, .inl (fun _ => 0)), .inl (E.2 0, 8, .inl (fun _ => 0)), .inl (E.2 1, 330, .inr (.inl (fun _ => 0))), .inl (E.2 2, 330, .inl (fun _ => 0)), .inl (E.2 0, 318, .inl (fun _ => 0)), .inl (E.2 0, 64, .inl (fun _ => 0)), .inl (E.2 0, 5, .inl (fun _ => 0))]) (k := 0) (e := .inr (9, [.ref (a + 1), .ref (a + 2), .ref (a + 3), .ref (a + 4), .int 0, .int (-1 : Int32), .int (-1 : Int32), .int 0, .int 0, .int 0, .int 0, .long 0, .int 0, .int 0, .int 0, .ref (a + 5), .int 0, .int 0, .int 0, .int 0, .ref (a + 6), .ref (a + 7), .ref (a + 8), .ref (a + 9), .ref (a + 10), .ref (a + 11), .null]))) dX10_init_106 (fun H locs hm => ?_)
  have hm : xL E a [.inr (9, [.ref (a + 1), .ref (a + 2), .ref (a + 3), .ref (a + 4), .int 0, .int (-1 : Int32), .int (-1 : Int32), .int 0, .int 0, .int 0, .int 0, .long 0, .int 0, .int 0, .int 0, .ref (a + 5), .int 0, .int 0, .int 0, .int 0, .ref (a + 6), .ref (a + 7), .ref (a + 8), .ref (a + 9), .ref (a + 10), .ref (a + 11), .null]), .inl (E.2 0, 9878, .inl (fun _ => 0)), .inl (E.2 0, 9878, .inl (fun _ => 0)), .inl (E.2 0, 2820, .inl (fun _ => 0)), .inl (E.2 0, 300, .inl (fun _ => 0)), .inl (E.2 0, 160, .inl (fun _ => 0)), .inl (E.2 0, 8, .inl (fun _ => 0)), .inl (E.2 1, 330, .inr (.inl (fun _ => 0))), .inl (E.2 2, 330, .inl (fun _ => 0)), .inl (E.2 0, 318, .inl (fun _ => 0)), .inl (E.2 0, 64, .inl (fun _ => 0)), .inl (E.2 0, 5, .inl (fun _ => 0))] s.heap H locs := hm
  refine lv_aload_n hx hb dX10_init_109 rfl (lv_at hl 0 rfl) ?_
  refine lv_bipush (v := (64 : Int32)) hx hb dX10_init_110 (by decide) ?_
  refine g_size (n := 11) hm (by rw [hsz]) (fun hH => ?_)
  refine g_newp (L := [.inr (9, [.ref (a + 1), .ref (a + 2), .ref (a + 3), .ref (a + 4), .int 0, .int (-1 : Int32), .int (-1 : Int32), .int 0, .int 0, .int 0, .int 0, .long 0, .int 0, .int 0, .int 0, .ref (a + 5), .int 0, .int 0, .int 0, .int 0, .ref (a + 6), .ref (a + 7), .ref (a + 8), .ref (a + 9), .ref (a + 10), .ref (a + 11), .null]), .inl (E.2 0, 9878, .inl (fun _ => 0)), .inl (E.2 0, 9878, .inl (fun _ => 0)), .inl (E.2 0, 2820, .inl (fun _ => 0)), .inl (E.2 0, 300, .inl (fun _ => 0)), .inl (E.2 0, 160, .inl (fun _ => 0)), .inl (E.2 0, 8, .inl (fun _ => 0)), .inl (E.2 1, 330, .inr (.inl (fun _ => 0))), .inl (E.2 2, 330, .inl (fun _ => 0)), .inl (E.2 0, 318, .inl (fun _ => 0)), .inl (E.2 0, 64, .inl (fun _ => 0)), .inl (E.2 0, 5, .inl (fun _ => 0))]) (atype := .boolean) (ty := .boolean) (a0 := (64, .inl (fun _ => 0))) C hm hH 2 rfl ta_boolean rfl (fun _ h => h) (fun _ => rfl) (by decide) rfl (by decide) (Nat.le_of_ble_eq_true rfl) (Nat.le_of_ble_eq_true rfl) dX10_init_112 (fun H hm => ?_)
  have hm : xL E a [.inr (9, [.ref (a + 1), .ref (a + 2), .ref (a + 3), .ref (a + 4), .int 0, .int (-1 : Int32), .int (-1 : Int32), .int 0, .int 0, .int 0, .int 0, .long 0, .int 0, .int 0, .int 0, .ref (a + 5), .int 0, .int 0, .int 0, .int 0, .ref (a + 6), .ref (a + 7), .ref (a + 8), .ref (a + 9), .ref (a + 10), .ref (a + 11), .null]), .inl (E.2 0, 9878, .inl (fun _ => 0)), .inl (E.2 0, 9878, .inl (fun _ => 0)), .inl (E.2 0, 2820, .inl (fun _ => 0)), .inl (E.2 0, 300, .inl (fun _ => 0)), .inl (E.2 0, 160, .inl (fun _ => 0)), .inl (E.2 0, 8, .inl (fun _ => 0)), .inl (E.2 1, 330, .inr (.inl (fun _ => 0))), .inl (E.2 2, 330, .inl (fun _ => 0)), .inl (E.2 0, 318, .inl (fun _ => 0)), .inl (E.2 0, 64, .inl (fun _ => 0)), .inl (E.2 0, 5, .inl (fun _ => 0)), .inl (E.2 2, 64, .inl (fun _ => 0))] s.heap H locs := hm
  refine x_putF (b := a) (k := 0) (v := .ref (a + 12)) (cf' := cfL [.inr (9, [.ref (a + 1), .ref (a + 2), .ref (a + 3), .ref (a + 4), .int 0, .int (-1 : Int32), .int (-1 : Int32), .int 0, .int 0, .int 0, .int 0, .long 0, .int 0, .int 0, .int 0, .ref (a + 5), .int 0, .int 0, .int 0, .int 0, .ref (a + 6), .ref (a + 7), .ref (a + 8), .ref (a + 9), .ref (a + 10), .ref (a + 11), .ref (a + 12)]), .inl (E.2 0, 9878, .inl (fun _ => 0)), .inl (E.2 0, 9878, .inl (fun _ => 0)), .inl (E.2 0, 2820, .inl (fun _ => 0)), .inl (E.2 0, 300, .inl (fun _ => 0)), .inl (E.2 0, 160, .inl (fun _ => 0)), .inl (E.2 0, 8, .inl (fun _ => 0)), .inl (E.2 1, 330, .inr (.inl (fun _ => 0))), .inl (E.2 2, 330, .inl (fun _ => 0)), .inl (E.2 0, 318, .inl (fun _ => 0)), .inl (E.2 0, 64, .inl (fun _ => 0)), .inl (E.2 0, 5, .inl (fun _ => 0)), .inl (E.2 2, 64, .inl (fun _ => 0))]) C hm hinit inX10 tyX10 tyX10_ok nmX10 rfl 26 (by decide) tf_RX10_52 rfl rfl rfl rfl (cfL_at (L := [.inr (9, [.ref (a + 1), .ref (a + 2), .ref (a + 3), .ref (a + 4), .int 0, .int (-1 : Int32), .int (-1 : Int32), .int 0, .int 0, .int 0, .int 0, .long 0, .int 0, .int 0, .int 0, .ref (a + 5), .int 0, .int 0, .int 0, .int 0, .ref (a + 6), .ref (a + 7), .ref (a + 8), .ref (a + 9), .ref (a + 10), .ref (a + 11), .null]), .inl (E.2 0, 9878, .inl (fun _ => 0)), .inl (E.2 0, 9878, .inl (fun _ => 0)), .inl (E.2 0, 2820, .inl (fun _ => 0)), .inl (E.2 0, 300, .inl (fun _ => 0)), .inl (E.2 0, 160, .inl (fun _ => 0)), .inl (E.2 0, 8, .inl (fun _ => 0)), .inl (E.2 1, 330, .inr (.inl (fun _ => 0))), .inl (E.2 2, 330, .inl (fun _ => 0)), .inl (E.2 0, 318, .inl (fun _ => 0)), .inl (E.2 0, 64, .inl (fun _ => 0)), .inl (E.2 0, 5, .inl (fun _ => 0)), .inl (E.2 2, 64, .inl (fun _ => 0))]) rfl) (Nat.le_of_ble_eq_true rfl) rfl (cfL_seto (L := [.inr (9, [.ref (a + 1), .ref (a + 2), .ref (a + 3), .ref (a + 4), .int 0, .int (-1 : Int32), .int (-1 : Int32), .int 0, .int 0, .int 0, .int 0, .long 0, .int 0, .int 0, .int 0, .ref (a + 5), .int 0, .int 0, .int 0, .int 0, .ref (a + 6), .ref (a + 7), .ref (a + 8), .ref (a + 9), .ref (a + 10), .ref (a + 11), .null]), .inl (E.2 0, 9878, .inl (fun _ => 0)), .inl (E.2 0, 9878, .inl (fun _ => 0)), .inl (E.2 0, 2820, .inl (fun _ => 0)), .inl (E.2 0, 300, .inl (fun _ => 0)), .inl (E.2 0, 160, .inl (fun _ => 0)), .inl (E.2 0, 8, .inl (fun _ => 0)), .inl (E.2 1, 330, .inr (.inl (fun _ => 0))), .inl (E.2 2, 330, .inl (fun _ => 0)), .inl (E.2 0, 318, .inl (fun _ => 0)), .inl (E.2 0, 64, .inl (fun _ => 0)), .inl (E.2 0, 5, .inl (fun _ => 0)), .inl (E.2 2, 64, .inl (fun _ => 0))]) (k := 0) (e := .inr (9, [.ref (a + 1), .ref (a + 2), .ref (a + 3), .ref (a + 4), .int 0, .int (-1 : Int32), .int (-1 : Int32), .int 0, .int 0, .int 0, .int 0, .long 0, .int 0, .int 0, .int 0, .ref (a + 5), .int 0, .int 0, .int 0, .int 0, .ref (a + 6), .ref (a + 7), .ref (a + 8), .ref (a + 9), .ref (a + 10), .ref (a + 11), .ref (a + 12)]))) dX10_init_114 (fun H locs hm => ?_)
  have hm : xL E a [.inr (9, [.ref (a + 1), .ref (a + 2), .ref (a + 3), .ref (a + 4), .int 0, .int (-1 : Int32), .int (-1 : Int32), .int 0, .int 0, .int 0, .int 0, .long 0, .int 0, .int 0, .int 0, .ref (a + 5), .int 0, .int 0, .int 0, .int 0, .ref (a + 6), .ref (a + 7), .ref (a + 8), .ref (a + 9), .ref (a + 10), .ref (a + 11), .ref (a + 12)]), .inl (E.2 0, 9878, .inl (fun _ => 0)), .inl (E.2 0, 9878, .inl (fun _ => 0)), .inl (E.2 0, 2820, .inl (fun _ => 0)), .inl (E.2 0, 300, .inl (fun _ => 0)), .inl (E.2 0, 160, .inl (fun _ => 0)), .inl (E.2 0, 8, .inl (fun _ => 0)), .inl (E.2 1, 330, .inr (.inl (fun _ => 0))), .inl (E.2 2, 330, .inl (fun _ => 0)), .inl (E.2 0, 318, .inl (fun _ => 0)), .inl (E.2 0, 64, .inl (fun _ => 0)), .inl (E.2 0, 5, .inl (fun _ => 0)), .inl (E.2 2, 64, .inl (fun _ => 0))] s.heap H locs := hm
  have hm : xM E a NY (cY E a Y0 Z0) s.heap H locs := by
    refine ⟨?_, hm.2⟩
    rw [← xw_congr (L_Mod_eq E a)]
    exact hm.1
  exact b_X10_init C Y0 Z0 hf hm hl
