theorem d_Md_get_0 : decode c_Md_get 0 = .ok (.lload_n 2, 1) := by decide +kernel
theorem d_Md_get_1 : decode c_Md_get 1 = .ok (.invokestatic 308, 3) := by decide +kernel
theorem d_Md_get_4 : decode c_Md_get 4 = .ok (.iload_n 1, 1) := by decide +kernel
theorem d_Md_get_5 : decode c_Md_get 5 = .ok (.if_icmp .eq 46, 3) := by decide +kernel
theorem d_Md_get_8 : decode c_Md_get 8 = .ok (.lload_n 2, 1) := by decide +kernel
theorem d_Md_get_9 : decode c_Md_get 9 = .ok (.ldc2_w 311, 3) := by decide +kernel
theorem d_Md_get_12 : decode c_Md_get 12 = .ok (.ladd, 1) := by decide +kernel
theorem d_Md_get_13 : decode c_Md_get 13 = .ok (.lstore 4, 2) := by decide +kernel
theorem d_Md_get_15 : decode c_Md_get 15 = .ok (.lload 4, 2) := by decide +kernel
theorem d_Md_get_17 : decode c_Md_get 17 = .ok (.invokestatic 313, 3) := by decide +kernel
theorem d_Md_get_20 : decode c_Md_get 20 = .ok (.bipush 8, 2) := by decide +kernel
theorem d_Md_get_22 : decode c_Md_get 22 = .ok (.if_icmp .ne 16, 3) := by decide +kernel
theorem d_Md_get_25 : decode c_Md_get 25 = .ok (.aload_n 0, 1) := by decide +kernel
theorem d_Md_get_26 : decode c_Md_get 26 = .ok (.dup, 1) := by decide +kernel
theorem d_Md_get_27 : decode c_Md_get 27 = .ok (.getfield 219, 3) := by decide +kernel
theorem d_Md_get_30 : decode c_Md_get 30 = .ok (.iconst 1, 1) := by decide +kernel
theorem d_Md_get_31 : decode c_Md_get 31 = .ok (.iadd, 1) := by decide +kernel
theorem d_Md_get_32 : decode c_Md_get 32 = .ok (.putfield 219, 3) := by decide +kernel
theorem d_Md_get_35 : decode c_Md_get 35 = .ok (.goto 15, 3) := by decide +kernel
theorem d_Md_get_38 : decode c_Md_get 38 = .ok (.aload_n 0, 1) := by decide +kernel
theorem d_Md_get_39 : decode c_Md_get 39 = .ok (.iload_n 1, 1) := by decide +kernel
theorem d_Md_get_40 : decode c_Md_get 40 = .ok (.lload_n 2, 1) := by decide +kernel
theorem d_Md_get_41 : decode c_Md_get 41 = .ok (.invokestatic 308, 3) := by decide +kernel
theorem d_Md_get_44 : decode c_Md_get 44 = .ok (.lload 4, 2) := by decide +kernel
theorem d_Md_get_46 : decode c_Md_get 46 = .ok (.iconst (-1), 1) := by decide +kernel
theorem d_Md_get_47 : decode c_Md_get 47 = .ok (.invokevirtual 241, 3) := by decide +kernel
theorem d_Md_get_50 : decode c_Md_get 50 = .ok (.return_, 1) := by decide +kernel
theorem d_Md_get_51 : decode c_Md_get 51 = .ok (.lload_n 2, 1) := by decide +kernel
theorem d_Md_get_52 : decode c_Md_get 52 = .ok (.invokestatic 316, 3) := by decide +kernel
theorem d_Md_get_55 : decode c_Md_get 55 = .ok (.istore 4, 2) := by decide +kernel
theorem d_Md_get_57 : decode c_Md_get 57 = .ok (.lload_n 2, 1) := by decide +kernel
theorem d_Md_get_58 : decode c_Md_get 58 = .ok (.invokestatic 319, 3) := by decide +kernel
theorem d_Md_get_61 : decode c_Md_get 61 = .ok (.istore 5, 2) := by decide +kernel
theorem d_Md_get_63 : decode c_Md_get 63 = .ok (.aload_n 0, 1) := by decide +kernel
theorem d_Md_get_64 : decode c_Md_get 64 = .ok (.dup, 1) := by decide +kernel
theorem d_Md_get_65 : decode c_Md_get 65 = .ok (.getfield 322, 3) := by decide +kernel
theorem d_Md_get_68 : decode c_Md_get 68 = .ok (.iconst 1, 1) := by decide +kernel
theorem d_Md_get_69 : decode c_Md_get 69 = .ok (.iadd, 1) := by decide +kernel
theorem d_Md_get_70 : decode c_Md_get 70 = .ok (.putfield 322, 3) := by decide +kernel
theorem d_Md_get_73 : decode c_Md_get 73 = .ok (.aload_n 0, 1) := by decide +kernel
theorem d_Md_get_74 : decode c_Md_get 74 = .ok (.lload_n 2, 1) := by decide +kernel
theorem d_Md_get_75 : decode c_Md_get 75 = .ok (.invokestatic 325, 3) := by decide +kernel
theorem d_Md_get_78 : decode c_Md_get 78 = .ok (.putfield 328, 3) := by decide +kernel
theorem d_Md_get_81 : decode c_Md_get 81 = .ok (.lload_n 2, 1) := by decide +kernel
theorem d_Md_get_82 : decode c_Md_get 82 = .ok (.invokestatic 325, 3) := by decide +kernel
theorem d_Md_get_85 : decode c_Md_get 85 = .ok (.tableswitch 209 1 6 #[39, 55, 94, 119, 170, 170], 39) := by decide +kernel
theorem d_Md_get_124 : decode c_Md_get 124 = .ok (.aload_n 0, 1) := by decide +kernel
theorem d_Md_get_125 : decode c_Md_get 125 = .ok (.iload_n 1, 1) := by decide +kernel
theorem d_Md_get_126 : decode c_Md_get 126 = .ok (.iload 4, 2) := by decide +kernel
theorem d_Md_get_128 : decode c_Md_get 128 = .ok (.iload 5, 2) := by decide +kernel
theorem d_Md_get_130 : decode c_Md_get 130 = .ok (.lload_n 2, 1) := by decide +kernel
theorem d_Md_get_131 : decode c_Md_get 131 = .ok (.invokestatic 331, 3) := by decide +kernel
theorem d_Md_get_134 : decode c_Md_get 134 = .ok (.invokevirtual 334, 3) := by decide +kernel
theorem d_Md_get_137 : decode c_Md_get 137 = .ok (.goto 174, 3) := by decide +kernel
theorem d_Md_get_140 : decode c_Md_get 140 = .ok (.iload 5, 2) := by decide +kernel
theorem d_Md_get_142 : decode c_Md_get 142 = .ok (.iconst 4, 1) := by decide +kernel
theorem d_Md_get_143 : decode c_Md_get 143 = .ok (.ishr, 1) := by decide +kernel
theorem d_Md_get_144 : decode c_Md_get 144 = .ok (.aload_n 0, 1) := by decide +kernel
theorem d_Md_get_145 : decode c_Md_get 145 = .ok (.getfield 108, 3) := by decide +kernel
theorem d_Md_get_148 : decode c_Md_get 148 = .ok (.aload_n 0, 1) := by decide +kernel
theorem d_Md_get_149 : decode c_Md_get 149 = .ok (.iload 5, 2) := by decide +kernel
theorem d_Md_get_151 : decode c_Md_get 151 = .ok (.bipush 15, 2) := by decide +kernel
theorem d_Md_get_153 : decode c_Md_get 153 = .ok (.iand, 1) := by decide +kernel
theorem d_Md_get_154 : decode c_Md_get 154 = .ok (.iload_n 1, 1) := by decide +kernel
theorem d_Md_get_155 : decode c_Md_get 155 = .ok (.invokevirtual 216, 3) := by decide +kernel
theorem d_Md_get_158 : decode c_Md_get 158 = .ok (.iaload, 1) := by decide +kernel
theorem d_Md_get_159 : decode c_Md_get 159 = .ok (.if_icmp .ne 152, 3) := by decide +kernel
theorem d_Md_get_162 : decode c_Md_get 162 = .ok (.aload_n 0, 1) := by decide +kernel
theorem d_Md_get_163 : decode c_Md_get 163 = .ok (.iload_n 1, 1) := by decide +kernel
theorem d_Md_get_164 : decode c_Md_get 164 = .ok (.iload 5, 2) := by decide +kernel
theorem d_Md_get_166 : decode c_Md_get 166 = .ok (.bipush 15, 2) := by decide +kernel
theorem d_Md_get_168 : decode c_Md_get 168 = .ok (.iand, 1) := by decide +kernel
theorem d_Md_get_169 : decode c_Md_get 169 = .ok (.lload_n 2, 1) := by decide +kernel
theorem d_Md_get_170 : decode c_Md_get 170 = .ok (.invokestatic 331, 3) := by decide +kernel
theorem d_Md_get_173 : decode c_Md_get 173 = .ok (.invokevirtual 338, 3) := by decide +kernel
theorem d_Md_get_176 : decode c_Md_get 176 = .ok (.goto 135, 3) := by decide +kernel
theorem d_Md_get_179 : decode c_Md_get 179 = .ok (.aload_n 0, 1) := by decide +kernel
theorem d_Md_get_180 : decode c_Md_get 180 = .ok (.iload_n 1, 1) := by decide +kernel
theorem d_Md_get_181 : decode c_Md_get 181 = .ok (.iload 4, 2) := by decide +kernel
theorem d_Md_get_183 : decode c_Md_get 183 = .ok (.iconst 4, 1) := by decide +kernel
theorem d_Md_get_184 : decode c_Md_get 184 = .ok (.iload_n 1, 1) := by decide +kernel
theorem d_Md_get_185 : decode c_Md_get 185 = .ok (.iload 4, 2) := by decide +kernel
theorem d_Md_get_187 : decode c_Md_get 187 = .ok (.iload 5, 2) := by decide +kernel
theorem d_Md_get_189 : decode c_Md_get 189 = .ok (.iload 5, 2) := by decide +kernel
theorem d_Md_get_191 : decode c_Md_get 191 = .ok (.lload_n 2, 1) := by decide +kernel
theorem d_Md_get_192 : decode c_Md_get 192 = .ok (.invokestatic 331, 3) := by decide +kernel
theorem d_Md_get_195 : decode c_Md_get 195 = .ok (.invokestatic 248, 3) := by decide +kernel
theorem d_Md_get_198 : decode c_Md_get 198 = .ok (.invokevirtual 262, 3) := by decide +kernel
theorem d_Md_get_201 : decode c_Md_get 201 = .ok (.goto 110, 3) := by decide +kernel
theorem d_Md_get_204 : decode c_Md_get 204 = .ok (.aload_n 0, 1) := by decide +kernel
theorem d_Md_get_205 : decode c_Md_get 205 = .ok (.getfield 120, 3) := by decide +kernel
theorem d_Md_get_208 : decode c_Md_get 208 = .ok (.aload_n 0, 1) := by decide +kernel
theorem d_Md_get_209 : decode c_Md_get 209 = .ok (.iload_n 1, 1) := by decide +kernel
theorem d_Md_get_210 : decode c_Md_get 210 = .ok (.iload 4, 2) := by decide +kernel
theorem d_Md_get_212 : decode c_Md_get 212 = .ok (.iload 5, 2) := by decide +kernel
theorem d_Md_get_214 : decode c_Md_get 214 = .ok (.invokevirtual 212, 3) := by decide +kernel
theorem d_Md_get_217 : decode c_Md_get 217 = .ok (.iaload, 1) := by decide +kernel
theorem d_Md_get_218 : decode c_Md_get 218 = .ok (.iconst 2, 1) := by decide +kernel
theorem d_Md_get_219 : decode c_Md_get 219 = .ok (.if_icmp .ne 92, 3) := by decide +kernel
theorem d_Md_get_222 : decode c_Md_get 222 = .ok (.aload_n 0, 1) := by decide +kernel
theorem d_Md_get_223 : decode c_Md_get 223 = .ok (.getfield 129, 3) := by decide +kernel
theorem d_Md_get_226 : decode c_Md_get 226 = .ok (.aload_n 0, 1) := by decide +kernel
theorem d_Md_get_227 : decode c_Md_get 227 = .ok (.iload_n 1, 1) := by decide +kernel
theorem d_Md_get_228 : decode c_Md_get 228 = .ok (.iload 4, 2) := by decide +kernel
theorem d_Md_get_230 : decode c_Md_get 230 = .ok (.iload 5, 2) := by decide +kernel
theorem d_Md_get_232 : decode c_Md_get 232 = .ok (.invokevirtual 212, 3) := by decide +kernel
theorem d_Md_get_235 : decode c_Md_get 235 = .ok (.iaload, 1) := by decide +kernel
theorem d_Md_get_236 : decode c_Md_get 236 = .ok (.lload_n 2, 1) := by decide +kernel
theorem d_Md_get_237 : decode c_Md_get 237 = .ok (.invokestatic 331, 3) := by decide +kernel
theorem d_Md_get_240 : decode c_Md_get 240 = .ok (.if_icmp .ne 71, 3) := by decide +kernel
theorem d_Md_get_243 : decode c_Md_get 243 = .ok (.aload_n 0, 1) := by decide +kernel
theorem d_Md_get_244 : decode c_Md_get 244 = .ok (.iload_n 1, 1) := by decide +kernel
theorem d_Md_get_245 : decode c_Md_get 245 = .ok (.iload 4, 2) := by decide +kernel
theorem d_Md_get_247 : decode c_Md_get 247 = .ok (.iload 5, 2) := by decide +kernel
theorem d_Md_get_249 : decode c_Md_get 249 = .ok (.invokevirtual 342, 3) := by decide +kernel
theorem d_Md_get_252 : decode c_Md_get 252 = .ok (.goto 59, 3) := by decide +kernel
theorem d_Md_get_255 : decode c_Md_get 255 = .ok (.aload_n 0, 1) := by decide +kernel
theorem d_Md_get_256 : decode c_Md_get 256 = .ok (.getfield 138, 3) := by decide +kernel
theorem d_Md_get_259 : decode c_Md_get 259 = .ok (.bipush 36, 2) := by decide +kernel
theorem d_Md_get_261 : decode c_Md_get 261 = .ok (.iload_n 1, 1) := by decide +kernel
theorem d_Md_get_262 : decode c_Md_get 262 = .ok (.imul, 1) := by decide +kernel
theorem d_Md_get_263 : decode c_Md_get 263 = .ok (.bipush 6, 2) := by decide +kernel
theorem d_Md_get_265 : decode c_Md_get 265 = .ok (.iload 4, 2) := by decide +kernel
theorem d_Md_get_267 : decode c_Md_get 267 = .ok (.imul, 1) := by decide +kernel
theorem d_Md_get_268 : decode c_Md_get 268 = .ok (.iadd, 1) := by decide +kernel
theorem d_Md_get_269 : decode c_Md_get 269 = .ok (.iload 5, 2) := by decide +kernel
theorem d_Md_get_271 : decode c_Md_get 271 = .ok (.iadd, 1) := by decide +kernel
theorem d_Md_get_272 : decode c_Md_get 272 = .ok (.lload_n 2, 1) := by decide +kernel
theorem d_Md_get_273 : decode c_Md_get 273 = .ok (.invokestatic 325, 3) := by decide +kernel
theorem d_Md_get_276 : decode c_Md_get 276 = .ok (.iconst 5, 1) := by decide +kernel
theorem d_Md_get_277 : decode c_Md_get 277 = .ok (.if_icmp .ne 7, 3) := by decide +kernel
theorem d_Md_get_280 : decode c_Md_get 280 = .ok (.iconst 1, 1) := by decide +kernel
theorem d_Md_get_281 : decode c_Md_get 281 = .ok (.goto 4, 3) := by decide +kernel
theorem d_Md_get_284 : decode c_Md_get 284 = .ok (.iconst 0, 1) := by decide +kernel
theorem d_Md_get_285 : decode c_Md_get 285 = .ok (.bastore, 1) := by decide +kernel
theorem d_Md_get_286 : decode c_Md_get 286 = .ok (.aload_n 0, 1) := by decide +kernel
theorem d_Md_get_287 : decode c_Md_get 287 = .ok (.iload_n 1, 1) := by decide +kernel
theorem d_Md_get_288 : decode c_Md_get 288 = .ok (.invokevirtual 266, 3) := by decide +kernel
theorem d_Md_get_291 : decode c_Md_get 291 = .ok (.goto 20, 3) := by decide +kernel
theorem d_Md_get_294 : decode c_Md_get 294 = .ok (.aload_n 0, 1) := by decide +kernel
theorem d_Md_get_295 : decode c_Md_get 295 = .ok (.iload_n 1, 1) := by decide +kernel
theorem d_Md_get_296 : decode c_Md_get 296 = .ok (.iload 4, 2) := by decide +kernel
theorem d_Md_get_298 : decode c_Md_get 298 = .ok (.iload 5, 2) := by decide +kernel
theorem d_Md_get_300 : decode c_Md_get 300 = .ok (.lload_n 2, 1) := by decide +kernel
theorem d_Md_get_301 : decode c_Md_get 301 = .ok (.invokestatic 325, 3) := by decide +kernel
theorem d_Md_get_304 : decode c_Md_get 304 = .ok (.lload_n 2, 1) := by decide +kernel
theorem d_Md_get_305 : decode c_Md_get 305 = .ok (.invokestatic 331, 3) := by decide +kernel
theorem d_Md_get_308 : decode c_Md_get 308 = .ok (.invokevirtual 345, 3) := by decide +kernel
theorem d_Md_get_311 : decode c_Md_get 311 = .ok (.return_, 1) := by decide +kernel
def f_Md_get_50 (a : Nat) : sn_M := r_V
set_option maxHeartbeats 4000000 in
set_option maxRecDepth 100000 in
theorem mono_Md_get_50 (a : Nat) : sn_Mono (f_Md_get_50 a) := sn_Mono.rV
set_option maxHeartbeats 4000000 in
set_option maxRecDepth 100000 in
theorem s_Md_get_50 {X : sn_X} (C : sn_Cx X c_Md_get "SignalNetworkModel" none "get" 6 10 254) (a : Nat) : sn_S X 50 [(0, vA (some a))] [] (f_Md_get_50 a) := by
  unfold f_Md_get_50
  exact r_vret C d_Md_get_50 rfl
def f_Md_get_311 (a : Nat) : sn_M := r_V
set_option maxHeartbeats 4000000 in
set_option maxRecDepth 100000 in
theorem mono_Md_get_311 (a : Nat) : sn_Mono (f_Md_get_311 a) := sn_Mono.rV
set_option maxHeartbeats 4000000 in
set_option maxRecDepth 100000 in
theorem s_Md_get_311 {X : sn_X} (C : sn_Cx X c_Md_get "SignalNetworkModel" none "get" 6 10 254) (a : Nat) : sn_S X 311 [(0, vA (some a))] [] (f_Md_get_311 a) := by
  unfold f_Md_get_311
  exact r_vret C d_Md_get_311 rfl
def f_Md_get_285 (a : Nat) (x1 : Int32) (t0 : Option Nat) (t1 : Int32) (t2 : Int32) : sn_M := b_Z 33 t0 t1 t2 (n_n 12 (some a) fun a1 => c_V (f_Md_look a1 x1) (f_Md_get_311 a))
set_option maxHeartbeats 4000000 in
set_option maxRecDepth 100000 in
theorem mono_Md_get_285 (a : Nat) (x1 : Int32) (t0 : Option Nat) (t1 : Int32) (t2 : Int32) : sn_Mono (f_Md_get_285 a x1 t0 t1 t2) := sn_Mono.bZ (sn_Mono.nn (fun a1 => sn_Mono.cV (mono_Md_look a1 x1) (mono_Md_get_311 a)))
set_option maxHeartbeats 4000000 in
set_option maxRecDepth 100000 in
theorem s_Md_get_285 {X : sn_X} (C : sn_Cx X c_Md_get "SignalNetworkModel" none "get" 6 10 254) (a : Nat) (x1 : Int32) (t0 : Option Nat) (t1 : Int32) (t2 : Int32) : sn_S X 285 [(0, vA (some a)), (1, vI x1)] [vI t2, vI t1, vA t0] (f_Md_get_285 a x1 t0 t1 t2) := by
  unfold f_Md_get_285
  refine r_bZ (q := 286) C (Or.inr rfl) d_Md_get_285 rfl ?_
  refine r_aload_n (q := 287) (i := 0) (pl := 0) C d_Md_get_286 rfl rfl rfl ?_
  refine r_iload_n (q := 288) (i := 1) (pl := 1) C d_Md_get_287 rfl rfl rfl ?_
  refine r_cvV (q := 291) (As := [vI x1]) (st := []) (cy := 11) C d_Md_get_288 rfl Y_Md_look L_Md_266 I_Md_look Se_Md_look rfl (by decide) rfl (Nat.le_of_ble_eq_true rfl) (Nat.le_of_ble_eq_true rfl) (Nat.le_of_ble_eq_true rfl) rfl (fun a1 => con_Md_look a1 x1) ?_
  refine r_goto (tgt := 311) C d_Md_get_291 (by decide) ?_
  refine r_sub (lv' := [(0, vA (some a))]) [0] rfl ?_
  exact s_Md_get_311 C a
def f_Md_get_255 (a : Nat) (x1 : Int32) (l2 : Int64) (x4 : Int32) (x5 : Int32) : sn_M := g_R 12 48 (some a) fun v3 => c_I (f_Md_kindOf l2) fun v4 => (if ¬ v4 = (5 : Int32) then f_Md_get_285 a x1 v3 ((((36 : Int32) * x1) + ((6 : Int32) * x4)) + x5) (0 : Int32) else f_Md_get_285 a x1 v3 ((((36 : Int32) * x1) + ((6 : Int32) * x4)) + x5) (1 : Int32))
set_option maxHeartbeats 4000000 in
set_option maxRecDepth 100000 in
theorem mono_Md_get_255 (a : Nat) (x1 : Int32) (l2 : Int64) (x4 : Int32) (x5 : Int32) : sn_Mono (f_Md_get_255 a x1 l2 x4 x5) := sn_Mono.gR (fun v3 => sn_Mono.cI (mono_Md_kindOf l2) (fun v4 => sn_Mono.ite (mono_Md_get_285 a x1 v3 ((((36 : Int32) * x1) + ((6 : Int32) * x4)) + x5) (0 : Int32)) (mono_Md_get_285 a x1 v3 ((((36 : Int32) * x1) + ((6 : Int32) * x4)) + x5) (1 : Int32))))
set_option maxHeartbeats 4000000 in
set_option maxRecDepth 100000 in
theorem s_Md_get_255 {X : sn_X} (C : sn_Cx X c_Md_get "SignalNetworkModel" none "get" 6 10 254) (a : Nat) (x1 : Int32) (l2 : Int64) (x4 : Int32) (x5 : Int32) : sn_S X 255 [(0, vA (some a)), (1, vI x1), (2, vJ l2), (4, vI x4), (5, vI x5)] [] (f_Md_get_255 a x1 l2 x4 x5) := by
  unfold f_Md_get_255
  refine r_aload_n (q := 256) (i := 0) (pl := 0) C d_Md_get_255 rfl rfl rfl ?_
  refine r_gR (q := 259) C d_Md_get_256 rfl F_Md_138 rfl (fun v3 => ?_)
  refine r_bipush (q := 261) (v := 36) C d_Md_get_259 rfl (by decide) ?_
  refine r_iload_n (q := 262) (i := 1) (pl := 1) C d_Md_get_261 rfl rfl rfl ?_
  refine r_imul (q := 263) C d_Md_get_262 rfl ?_
  refine r_bipush (q := 265) (v := 6) C d_Md_get_263 rfl (by decide) ?_
  refine r_iload (q := 267) (i := 4) (pl := 3) C d_Md_get_265 rfl rfl ?_
  refine r_imul (q := 268) C d_Md_get_267 rfl ?_
  refine r_iadd (q := 269) C d_Md_get_268 rfl ?_
  refine r_iload (q := 271) (i := 5) (pl := 4) C d_Md_get_269 rfl rfl ?_
  refine r_iadd (q := 272) C d_Md_get_271 rfl ?_
  refine r_lload_n (q := 273) (i := 2) (pl := 2) C d_Md_get_272 rfl rfl rfl ?_
  refine r_csI (q := 276) (As := [vJ l2]) (st := [vI ((((36 : Int32) * x1) + ((6 : Int32) * x4)) + x5), vA v3]) C d_Md_get_273 rfl Y_Md_kindOf L_Md_325 St_Md_kindOf rfl (Nat.le_of_ble_eq_true rfl) (Nat.le_of_ble_eq_true rfl) (Nat.le_of_ble_eq_true rfl) rfl (con_Md_kindOf l2) (fun v4 => ?_)
  refine r_iconst (q := 277) (v := 5) C d_Md_get_276 rfl (by decide) ?_
  refine r_icmp_ne (tgt := 284) (q := 280) C d_Md_get_277 (by decide) rfl ?_ ?_
  · refine r_iconst (q := 285) (v := 0) C d_Md_get_284 rfl (by decide) ?_
    refine r_sub (lv' := [(0, vA (some a)), (1, vI x1)]) [0, 1] rfl ?_
    exact s_Md_get_285 C a x1 v3 ((((36 : Int32) * x1) + ((6 : Int32) * x4)) + x5) (0 : Int32)
  · refine r_iconst (q := 281) (v := 1) C d_Md_get_280 rfl (by decide) ?_
    refine r_goto (tgt := 285) C d_Md_get_281 (by decide) ?_
    refine r_sub (lv' := [(0, vA (some a)), (1, vI x1)]) [0, 1] rfl ?_
    exact s_Md_get_285 C a x1 v3 ((((36 : Int32) * x1) + ((6 : Int32) * x4)) + x5) (1 : Int32)
def f_Md_get (a : Nat) (x1 : Int32) (l2 : Int64) : sn_M := c_I (f_Md_toOf l2) fun v5 => (if v5 = x1 then c_I (f_Md_fromOf l2) fun v6 => c_I (f_Md_oneOf l2) fun v7 => g_I 12 8 (some a) fun v8 => p_I 12 8 (some a) (v8 + (1 : Int32)) (c_I (f_Md_kindOf l2) fun v9 => p_I 12 9 (some a) v9 (c_I (f_Md_kindOf l2) fun v10 => (sn_sw v10 [1, 2, 3, 4, 5, 6] [(c_I (f_Md_twoOf l2) fun v11 => n_n 12 (some a) fun a12 => c_V (f_Md_over a12 x1 v6 v7 v11) (f_Md_get_311 a)), (g_R 12 38 (some a) fun v14 => n_n 12 (some a) fun a15 => c_I (f_Md_endAt a15 (v7 &&& (15 : Int32)) x1) fun v16 => a_I 31 v14 v16 fun v17 => (if ¬ (v7 >>> ((4 : Int32) &&& 31)) = v17 then f_Md_get_311 a else c_I (f_Md_twoOf l2) fun v18 => n_n 12 (some a) fun a19 => c_V (f_Md_overEnds a19 x1 (v7 &&& (15 : Int32)) v18) (f_Md_get_311 a))), (c_I (f_Md_twoOf l2) fun v21 => c_J (f_Md_message (4 : Int32) x1 v6 v7 v7 v21) fun v22 => n_n 12 (some a) fun a23 => c_V (f_Md_otherWay a23 x1 v6 v22) (f_Md_get_311 a)), (g_R 12 42 (some a) fun v25 => n_n 12 (some a) fun a26 => c_I (f_Md_flowAt a26 x1 v6 v7) fun v27 => a_I 31 v25 v27 fun v28 => (if ¬ v28 = (2 : Int32) then f_Md_get_311 a else g_R 12 45 (some a) fun v29 => n_n 12 (some a) fun a30 => c_I (f_Md_flowAt a30 x1 v6 v7) fun v31 => a_I 31 v29 v31 fun v32 => c_I (f_Md_twoOf l2) fun v33 => (if ¬ v32 = v33 then f_Md_get_311 a else n_n 12 (some a) fun a34 => c_V (f_Md_backEnds a34 x1 v6 v7) (f_Md_get_311 a)))), (f_Md_get_255 a x1 l2 v6 v7), (f_Md_get_255 a x1 l2 v6 v7)] (c_I (f_Md_kindOf l2) fun v36 => c_I (f_Md_twoOf l2) fun v37 => n_n 12 (some a) fun a38 => c_V (f_Md_circuitGets a38 x1 v6 v7 v36 v37) (f_Md_get_311 a))))) else n_J ((l2 + (1099511627776 : Int64))) fun n40 => c_I (f_Md_hopsOf n40) fun v41 => (if ¬ v41 = (8 : Int32) then c_I (f_Md_toOf l2) fun v42 => n_n 12 (some a) fun a43 => c_V (f_Md_route a43 x1 v42 n40 (-1 : Int32)) (f_Md_get_50 a) else g_I 12 7 (some a) fun v45 => p_I 12 7 (some a) (v45 + (1 : Int32)) (f_Md_get_50 a)))
set_option maxHeartbeats 4000000 in
set_option maxRecDepth 100000 in
theorem mono_Md_get (a : Nat) (x1 : Int32) (l2 : Int64) : sn_Mono (f_Md_get a x1 l2) := sn_Mono.cI (mono_Md_toOf l2) (fun v5 => sn_Mono.ite (sn_Mono.cI (mono_Md_fromOf l2) (fun v6 => sn_Mono.cI (mono_Md_oneOf l2) (fun v7 => sn_Mono.gI (fun v8 => sn_Mono.pI (sn_Mono.cI (mono_Md_kindOf l2) (fun v9 => sn_Mono.pI (sn_Mono.cI (mono_Md_kindOf l2) (fun v10 => sn_sw_mono (sn_Mono.cI (mono_Md_kindOf l2) (fun v36 => sn_Mono.cI (mono_Md_twoOf l2) (fun v37 => sn_Mono.nn (fun a38 => sn_Mono.cV (mono_Md_circuitGets a38 x1 v6 v7 v36 v37) (mono_Md_get_311 a))))) _ _ (List.forall_mem_cons.mpr ⟨sn_Mono.cI (mono_Md_twoOf l2) (fun v11 => sn_Mono.nn (fun a12 => sn_Mono.cV (mono_Md_over a12 x1 v6 v7 v11) (mono_Md_get_311 a))), (List.forall_mem_cons.mpr ⟨sn_Mono.gR (fun v14 => sn_Mono.nn (fun a15 => sn_Mono.cI (mono_Md_endAt a15 (v7 &&& (15 : Int32)) x1) (fun v16 => sn_Mono.aI (fun v17 => sn_Mono.ite (mono_Md_get_311 a) (sn_Mono.cI (mono_Md_twoOf l2) (fun v18 => sn_Mono.nn (fun a19 => sn_Mono.cV (mono_Md_overEnds a19 x1 (v7 &&& (15 : Int32)) v18) (mono_Md_get_311 a)))))))), (List.forall_mem_cons.mpr ⟨sn_Mono.cI (mono_Md_twoOf l2) (fun v21 => sn_Mono.cJ (mono_Md_message (4 : Int32) x1 v6 v7 v7 v21) (fun v22 => sn_Mono.nn (fun a23 => sn_Mono.cV (mono_Md_otherWay a23 x1 v6 v22) (mono_Md_get_311 a)))), (List.forall_mem_cons.mpr ⟨sn_Mono.gR (fun v25 => sn_Mono.nn (fun a26 => sn_Mono.cI (mono_Md_flowAt a26 x1 v6 v7) (fun v27 => sn_Mono.aI (fun v28 => sn_Mono.ite (mono_Md_get_311 a) (sn_Mono.gR (fun v29 => sn_Mono.nn (fun a30 => sn_Mono.cI (mono_Md_flowAt a30 x1 v6 v7) (fun v31 => sn_Mono.aI (fun v32 => sn_Mono.cI (mono_Md_twoOf l2) (fun v33 => sn_Mono.ite (mono_Md_get_311 a) (sn_Mono.nn (fun a34 => sn_Mono.cV (mono_Md_backEnds a34 x1 v6 v7) (mono_Md_get_311 a))))))))))))), (List.forall_mem_cons.mpr ⟨mono_Md_get_255 a x1 l2 v6 v7, (List.forall_mem_cons.mpr ⟨mono_Md_get_255 a x1 l2 v6 v7, (fun _ h => absurd h List.not_mem_nil)⟩)⟩)⟩)⟩)⟩)⟩))))))))) (sn_Mono.nJ (fun n40 => sn_Mono.cI (mono_Md_hopsOf n40) (fun v41 => sn_Mono.ite (sn_Mono.cI (mono_Md_toOf l2) (fun v42 => sn_Mono.nn (fun a43 => sn_Mono.cV (mono_Md_route a43 x1 v42 n40 (-1 : Int32)) (mono_Md_get_50 a)))) (sn_Mono.gI (fun v45 => sn_Mono.pI (mono_Md_get_50 a)))))))
set_option maxHeartbeats 4000000 in
set_option maxRecDepth 100000 in
theorem con_Md_get (a : Nat) (x1 : Int32) (l2 : Int64) : sn_Con y_Md_get c_Md_get 6 none 10 254 [vA (some a), vI x1, vJ l2] (f_Md_get a x1 l2) := by
  refine sn_Con.of (by decide +kernel) (by show _ ≤ _; exact Nat.le_of_ble_eq_true rfl) (mono_Md_get a x1 l2) (fun X C => ?_)
  show sn_S X 0 [(0, vA (some a)), (1, vI x1), (2, vJ l2)] [] _
  replace C : sn_Cx X c_Md_get "SignalNetworkModel" none "get" 6 10 254 := C
  unfold f_Md_get
  refine r_lload_n (q := 1) (i := 2) (pl := 2) C d_Md_get_0 rfl rfl rfl ?_
  refine r_csI (q := 4) (As := [vJ l2]) (st := []) C d_Md_get_1 rfl Y_Md_toOf L_Md_308 St_Md_toOf rfl (Nat.le_of_ble_eq_true rfl) (Nat.le_of_ble_eq_true rfl) (Nat.le_of_ble_eq_true rfl) rfl (con_Md_toOf l2) (fun v5 => ?_)
  refine r_iload_n (q := 5) (i := 1) (pl := 1) C d_Md_get_4 rfl rfl rfl ?_
  refine r_icmp_eq (tgt := 51) (q := 8) C d_Md_get_5 (by decide) rfl ?_ ?_
  · refine r_lload_n (q := 52) (i := 2) (pl := 2) C d_Md_get_51 rfl rfl rfl ?_
    refine r_csI (q := 55) (As := [vJ l2]) (st := []) C d_Md_get_52 rfl Y_Md_fromOf L_Md_316 St_Md_fromOf rfl (Nat.le_of_ble_eq_true rfl) (Nat.le_of_ble_eq_true rfl) (Nat.le_of_ble_eq_true rfl) rfl (con_Md_fromOf l2) (fun v6 => ?_)
    refine r_istore (q := 57) (i := 4) (lv' := [(4, vI v6), (0, vA (some a)), (1, vI x1), (2, vJ l2)]) C d_Md_get_55 rfl (by decide) rfl ?_
    refine r_lload_n (q := 58) (i := 2) (pl := 3) C d_Md_get_57 rfl rfl rfl ?_
    refine r_csI (q := 61) (As := [vJ l2]) (st := []) C d_Md_get_58 rfl Y_Md_oneOf L_Md_319 St_Md_oneOf rfl (Nat.le_of_ble_eq_true rfl) (Nat.le_of_ble_eq_true rfl) (Nat.le_of_ble_eq_true rfl) rfl (con_Md_oneOf l2) (fun v7 => ?_)
    refine r_istore (q := 63) (i := 5) (lv' := [(5, vI v7), (4, vI v6), (0, vA (some a)), (1, vI x1), (2, vJ l2)]) C d_Md_get_61 rfl (by decide) rfl ?_
    refine r_aload_n (q := 64) (i := 0) (pl := 2) C d_Md_get_63 rfl rfl rfl ?_
    refine r_dup (q := 65) C d_Md_get_64 rfl rfl ?_
    refine r_gI (q := 68) C d_Md_get_65 rfl F_Md_322 rfl (fun v8 => ?_)
    refine r_iconst (q := 69) (v := 1) C d_Md_get_68 rfl (by decide) ?_
    refine r_iadd (q := 70) C d_Md_get_69 rfl ?_
    refine r_pI (q := 73) C d_Md_get_70 rfl F_Md_322 rfl rfl (Or.inl rfl) ?_
    refine r_aload_n (q := 74) (i := 0) (pl := 2) C d_Md_get_73 rfl rfl rfl ?_
    refine r_lload_n (q := 75) (i := 2) (pl := 4) C d_Md_get_74 rfl rfl rfl ?_
    refine r_csI (q := 78) (As := [vJ l2]) (st := [vA (some a)]) C d_Md_get_75 rfl Y_Md_kindOf L_Md_325 St_Md_kindOf rfl (Nat.le_of_ble_eq_true rfl) (Nat.le_of_ble_eq_true rfl) (Nat.le_of_ble_eq_true rfl) rfl (con_Md_kindOf l2) (fun v9 => ?_)
    refine r_pI (q := 81) C d_Md_get_78 rfl F_Md_328 rfl rfl (Or.inl rfl) ?_
    refine r_lload_n (q := 82) (i := 2) (pl := 4) C d_Md_get_81 rfl rfl rfl ?_
    refine r_csI (q := 85) (As := [vJ l2]) (st := []) C d_Md_get_82 rfl Y_Md_kindOf L_Md_325 St_Md_kindOf rfl (Nat.le_of_ble_eq_true rfl) (Nat.le_of_ble_eq_true rfl) (Nat.le_of_ble_eq_true rfl) rfl (con_Md_kindOf l2) (fun v10 => ?_)
    refine r_table (tD := 294) (ks := [1, 2, 3, 4, 5, 6]) (ts := [124, 140, 179, 204, 255, 255]) C d_Md_get_85 (by decide) (by decide) rfl ?_ ⟨?_, ?_, ?_, ?_, ?_, ?_, trivial⟩
    · refine r_aload_n (q := 295) (i := 0) (pl := 2) C d_Md_get_294 rfl rfl rfl ?_
      refine r_iload_n (q := 296) (i := 1) (pl := 3) C d_Md_get_295 rfl rfl rfl ?_
      refine r_iload (q := 298) (i := 4) (pl := 1) C d_Md_get_296 rfl rfl ?_
      refine r_iload (q := 300) (i := 5) (pl := 0) C d_Md_get_298 rfl rfl ?_
      refine r_lload_n (q := 301) (i := 2) (pl := 4) C d_Md_get_300 rfl rfl rfl ?_
      refine r_csI (q := 304) (As := [vJ l2]) (st := [vI v7, vI v6, vI x1, vA (some a)]) C d_Md_get_301 rfl Y_Md_kindOf L_Md_325 St_Md_kindOf rfl (Nat.le_of_ble_eq_true rfl) (Nat.le_of_ble_eq_true rfl) (Nat.le_of_ble_eq_true rfl) rfl (con_Md_kindOf l2) (fun v36 => ?_)
      refine r_lload_n (q := 305) (i := 2) (pl := 4) C d_Md_get_304 rfl rfl rfl ?_
      refine r_csI (q := 308) (As := [vJ l2]) (st := [vI v36, vI v7, vI v6, vI x1, vA (some a)]) C d_Md_get_305 rfl Y_Md_twoOf L_Md_331 St_Md_twoOf rfl (Nat.le_of_ble_eq_true rfl) (Nat.le_of_ble_eq_true rfl) (Nat.le_of_ble_eq_true rfl) rfl (con_Md_twoOf l2) (fun v37 => ?_)
      refine r_cvV (q := 311) (As := [vI x1, vI v6, vI v7, vI v36, vI v37]) (st := []) (cy := 11) C d_Md_get_308 rfl Y_Md_circuitGets L_Md_345 I_Md_circuitGets Se_Md_circuitGets rfl (by decide) rfl (Nat.le_of_ble_eq_true rfl) (Nat.le_of_ble_eq_true rfl) (Nat.le_of_ble_eq_true rfl) rfl (fun a38 => con_Md_circuitGets a38 x1 v6 v7 v36 v37) ?_
      refine r_sub (lv' := [(0, vA (some a))]) [2] rfl ?_
      exact s_Md_get_311 C a
    · refine r_aload_n (q := 125) (i := 0) (pl := 2) C d_Md_get_124 rfl rfl rfl ?_
      refine r_iload_n (q := 126) (i := 1) (pl := 3) C d_Md_get_125 rfl rfl rfl ?_
      refine r_iload (q := 128) (i := 4) (pl := 1) C d_Md_get_126 rfl rfl ?_
      refine r_iload (q := 130) (i := 5) (pl := 0) C d_Md_get_128 rfl rfl ?_
      refine r_lload_n (q := 131) (i := 2) (pl := 4) C d_Md_get_130 rfl rfl rfl ?_
      refine r_csI (q := 134) (As := [vJ l2]) (st := [vI v7, vI v6, vI x1, vA (some a)]) C d_Md_get_131 rfl Y_Md_twoOf L_Md_331 St_Md_twoOf rfl (Nat.le_of_ble_eq_true rfl) (Nat.le_of_ble_eq_true rfl) (Nat.le_of_ble_eq_true rfl) rfl (con_Md_twoOf l2) (fun v11 => ?_)
      refine r_cvV (q := 137) (As := [vI x1, vI v6, vI v7, vI v11]) (st := []) (cy := 11) C d_Md_get_134 rfl Y_Md_over L_Md_334 I_Md_over Se_Md_over rfl (by decide) rfl (Nat.le_of_ble_eq_true rfl) (Nat.le_of_ble_eq_true rfl) (Nat.le_of_ble_eq_true rfl) rfl (fun a12 => con_Md_over a12 x1 v6 v7 v11) ?_
      refine r_goto (tgt := 311) C d_Md_get_137 (by decide) ?_
      refine r_sub (lv' := [(0, vA (some a))]) [2] rfl ?_
      exact s_Md_get_311 C a
    · refine r_iload (q := 142) (i := 5) (pl := 0) C d_Md_get_140 rfl rfl ?_
      refine r_iconst (q := 143) (v := 4) C d_Md_get_142 rfl (by decide) ?_
      refine r_ishr (q := 144) C d_Md_get_143 rfl ?_
      refine r_aload_n (q := 145) (i := 0) (pl := 2) C d_Md_get_144 rfl rfl rfl ?_
      refine r_gR (q := 148) C d_Md_get_145 rfl F_Md_108 rfl (fun v14 => ?_)
      refine r_aload_n (q := 149) (i := 0) (pl := 2) C d_Md_get_148 rfl rfl rfl ?_
      refine r_iload (q := 151) (i := 5) (pl := 0) C d_Md_get_149 rfl rfl ?_
      refine r_bipush (q := 153) (v := 15) C d_Md_get_151 rfl (by decide) ?_
      refine r_iand (q := 154) C d_Md_get_153 rfl ?_
      refine r_iload_n (q := 155) (i := 1) (pl := 3) C d_Md_get_154 rfl rfl rfl ?_
      refine r_cvI (q := 158) (As := [vI (v7 &&& (15 : Int32)), vI x1]) (st := [vA v14, vI (v7 >>> ((4 : Int32) &&& 31))]) (cy := 11) C d_Md_get_155 rfl Y_Md_endAt L_Md_216 I_Md_endAt Se_Md_endAt rfl (by decide) rfl (Nat.le_of_ble_eq_true rfl) (Nat.le_of_ble_eq_true rfl) (Nat.le_of_ble_eq_true rfl) rfl (fun a15 => con_Md_endAt a15 (v7 &&& (15 : Int32)) x1) (fun v16 => ?_)
      refine r_aI (q := 159) C (Or.inr rfl) d_Md_get_158 rfl (fun v17 => ?_)
      refine r_icmp_ne (tgt := 311) (q := 162) C d_Md_get_159 (by decide) rfl ?_ ?_
      · refine r_sub (lv' := [(0, vA (some a))]) [2] rfl ?_
        exact s_Md_get_311 C a
      · refine r_aload_n (q := 163) (i := 0) (pl := 2) C d_Md_get_162 rfl rfl rfl ?_
        refine r_iload_n (q := 164) (i := 1) (pl := 3) C d_Md_get_163 rfl rfl rfl ?_
        refine r_iload (q := 166) (i := 5) (pl := 0) C d_Md_get_164 rfl rfl ?_
        refine r_bipush (q := 168) (v := 15) C d_Md_get_166 rfl (by decide) ?_
        refine r_iand (q := 169) C d_Md_get_168 rfl ?_
        refine r_lload_n (q := 170) (i := 2) (pl := 4) C d_Md_get_169 rfl rfl rfl ?_
        refine r_csI (q := 173) (As := [vJ l2]) (st := [vI (v7 &&& (15 : Int32)), vI x1, vA (some a)]) C d_Md_get_170 rfl Y_Md_twoOf L_Md_331 St_Md_twoOf rfl (Nat.le_of_ble_eq_true rfl) (Nat.le_of_ble_eq_true rfl) (Nat.le_of_ble_eq_true rfl) rfl (con_Md_twoOf l2) (fun v18 => ?_)
        refine r_cvV (q := 176) (As := [vI x1, vI (v7 &&& (15 : Int32)), vI v18]) (st := []) (cy := 11) C d_Md_get_173 rfl Y_Md_overEnds L_Md_338 I_Md_overEnds Se_Md_overEnds rfl (by decide) rfl (Nat.le_of_ble_eq_true rfl) (Nat.le_of_ble_eq_true rfl) (Nat.le_of_ble_eq_true rfl) rfl (fun a19 => con_Md_overEnds a19 x1 (v7 &&& (15 : Int32)) v18) ?_
        refine r_goto (tgt := 311) C d_Md_get_176 (by decide) ?_
        refine r_sub (lv' := [(0, vA (some a))]) [2] rfl ?_
        exact s_Md_get_311 C a
    · refine r_aload_n (q := 180) (i := 0) (pl := 2) C d_Md_get_179 rfl rfl rfl ?_
      refine r_iload_n (q := 181) (i := 1) (pl := 3) C d_Md_get_180 rfl rfl rfl ?_
      refine r_iload (q := 183) (i := 4) (pl := 1) C d_Md_get_181 rfl rfl ?_
      refine r_iconst (q := 184) (v := 4) C d_Md_get_183 rfl (by decide) ?_
      refine r_iload_n (q := 185) (i := 1) (pl := 3) C d_Md_get_184 rfl rfl rfl ?_
      refine r_iload (q := 187) (i := 4) (pl := 1) C d_Md_get_185 rfl rfl ?_
      refine r_iload (q := 189) (i := 5) (pl := 0) C d_Md_get_187 rfl rfl ?_
      refine r_iload (q := 191) (i := 5) (pl := 0) C d_Md_get_189 rfl rfl ?_
      refine r_lload_n (q := 192) (i := 2) (pl := 4) C d_Md_get_191 rfl rfl rfl ?_
      refine r_csI (q := 195) (As := [vJ l2]) (st := [vI v7, vI v7, vI v6, vI x1, vI (4 : Int32), vI v6, vI x1, vA (some a)]) C d_Md_get_192 rfl Y_Md_twoOf L_Md_331 St_Md_twoOf rfl (Nat.le_of_ble_eq_true rfl) (Nat.le_of_ble_eq_true rfl) (Nat.le_of_ble_eq_true rfl) rfl (con_Md_twoOf l2) (fun v21 => ?_)
      refine r_csJ (q := 198) (As := [vI (4 : Int32), vI x1, vI v6, vI v7, vI v7, vI v21]) (st := [vI v6, vI x1, vA (some a)]) C d_Md_get_195 rfl Y_Md_message L_Md_248 St_Md_message rfl (Nat.le_of_ble_eq_true rfl) (Nat.le_of_ble_eq_true rfl) (Nat.le_of_ble_eq_true rfl) rfl (con_Md_message (4 : Int32) x1 v6 v7 v7 v21) (fun v22 => ?_)
      refine r_cvV (q := 201) (As := [vI x1, vI v6, vJ v22]) (st := []) (cy := 11) C d_Md_get_198 rfl Y_Md_otherWay L_Md_262 I_Md_otherWay Se_Md_otherWay rfl (by decide) rfl (Nat.le_of_ble_eq_true rfl) (Nat.le_of_ble_eq_true rfl) (Nat.le_of_ble_eq_true rfl) rfl (fun a23 => con_Md_otherWay a23 x1 v6 v22) ?_
      refine r_goto (tgt := 311) C d_Md_get_201 (by decide) ?_
      refine r_sub (lv' := [(0, vA (some a))]) [2] rfl ?_
      exact s_Md_get_311 C a
    · refine r_aload_n (q := 205) (i := 0) (pl := 2) C d_Md_get_204 rfl rfl rfl ?_
      refine r_gR (q := 208) C d_Md_get_205 rfl F_Md_120 rfl (fun v25 => ?_)
      refine r_aload_n (q := 209) (i := 0) (pl := 2) C d_Md_get_208 rfl rfl rfl ?_
      refine r_iload_n (q := 210) (i := 1) (pl := 3) C d_Md_get_209 rfl rfl rfl ?_
      refine r_iload (q := 212) (i := 4) (pl := 1) C d_Md_get_210 rfl rfl ?_
      refine r_iload (q := 214) (i := 5) (pl := 0) C d_Md_get_212 rfl rfl ?_
      refine r_cvI (q := 217) (As := [vI x1, vI v6, vI v7]) (st := [vA v25]) (cy := 11) C d_Md_get_214 rfl Y_Md_flowAt L_Md_212 I_Md_flowAt Se_Md_flowAt rfl (by decide) rfl (Nat.le_of_ble_eq_true rfl) (Nat.le_of_ble_eq_true rfl) (Nat.le_of_ble_eq_true rfl) rfl (fun a26 => con_Md_flowAt a26 x1 v6 v7) (fun v27 => ?_)
      refine r_aI (q := 218) C (Or.inr rfl) d_Md_get_217 rfl (fun v28 => ?_)
      refine r_iconst (q := 219) (v := 2) C d_Md_get_218 rfl (by decide) ?_
      refine r_icmp_ne (tgt := 311) (q := 222) C d_Md_get_219 (by decide) rfl ?_ ?_
      · refine r_sub (lv' := [(0, vA (some a))]) [2] rfl ?_
        exact s_Md_get_311 C a
      · refine r_aload_n (q := 223) (i := 0) (pl := 2) C d_Md_get_222 rfl rfl rfl ?_
        refine r_gR (q := 226) C d_Md_get_223 rfl F_Md_129 rfl (fun v29 => ?_)
        refine r_aload_n (q := 227) (i := 0) (pl := 2) C d_Md_get_226 rfl rfl rfl ?_
        refine r_iload_n (q := 228) (i := 1) (pl := 3) C d_Md_get_227 rfl rfl rfl ?_
        refine r_iload (q := 230) (i := 4) (pl := 1) C d_Md_get_228 rfl rfl ?_
        refine r_iload (q := 232) (i := 5) (pl := 0) C d_Md_get_230 rfl rfl ?_
        refine r_cvI (q := 235) (As := [vI x1, vI v6, vI v7]) (st := [vA v29]) (cy := 11) C d_Md_get_232 rfl Y_Md_flowAt L_Md_212 I_Md_flowAt Se_Md_flowAt rfl (by decide) rfl (Nat.le_of_ble_eq_true rfl) (Nat.le_of_ble_eq_true rfl) (Nat.le_of_ble_eq_true rfl) rfl (fun a30 => con_Md_flowAt a30 x1 v6 v7) (fun v31 => ?_)
        refine r_aI (q := 236) C (Or.inr rfl) d_Md_get_235 rfl (fun v32 => ?_)
        refine r_lload_n (q := 237) (i := 2) (pl := 4) C d_Md_get_236 rfl rfl rfl ?_
        refine r_csI (q := 240) (As := [vJ l2]) (st := [vI v32]) C d_Md_get_237 rfl Y_Md_twoOf L_Md_331 St_Md_twoOf rfl (Nat.le_of_ble_eq_true rfl) (Nat.le_of_ble_eq_true rfl) (Nat.le_of_ble_eq_true rfl) rfl (con_Md_twoOf l2) (fun v33 => ?_)
        refine r_icmp_ne (tgt := 311) (q := 243) C d_Md_get_240 (by decide) rfl ?_ ?_
        · refine r_sub (lv' := [(0, vA (some a))]) [2] rfl ?_
          exact s_Md_get_311 C a
        · refine r_aload_n (q := 244) (i := 0) (pl := 2) C d_Md_get_243 rfl rfl rfl ?_
          refine r_iload_n (q := 245) (i := 1) (pl := 3) C d_Md_get_244 rfl rfl rfl ?_
          refine r_iload (q := 247) (i := 4) (pl := 1) C d_Md_get_245 rfl rfl ?_
          refine r_iload (q := 249) (i := 5) (pl := 0) C d_Md_get_247 rfl rfl ?_
          refine r_cvV (q := 252) (As := [vI x1, vI v6, vI v7]) (st := []) (cy := 11) C d_Md_get_249 rfl Y_Md_backEnds L_Md_342 I_Md_backEnds Se_Md_backEnds rfl (by decide) rfl (Nat.le_of_ble_eq_true rfl) (Nat.le_of_ble_eq_true rfl) (Nat.le_of_ble_eq_true rfl) rfl (fun a34 => con_Md_backEnds a34 x1 v6 v7) ?_
          refine r_goto (tgt := 311) C d_Md_get_252 (by decide) ?_
          refine r_sub (lv' := [(0, vA (some a))]) [2] rfl ?_
          exact s_Md_get_311 C a
    · refine r_sub (lv' := [(0, vA (some a)), (1, vI x1), (2, vJ l2), (4, vI v6), (5, vI v7)]) [2, 3, 4, 1, 0] rfl ?_
      exact s_Md_get_255 C a x1 l2 v6 v7
    · refine r_sub (lv' := [(0, vA (some a)), (1, vI x1), (2, vJ l2), (4, vI v6), (5, vI v7)]) [2, 3, 4, 1, 0] rfl ?_
      exact s_Md_get_255 C a x1 l2 v6 v7
  · refine r_lload_n (q := 9) (i := 2) (pl := 2) C d_Md_get_8 rfl rfl rfl ?_
    refine r_ldc2_w (q := 12) C d_Md_get_9 rfl KL_Md_311 ?_
    refine r_ladd (q := 13) C d_Md_get_12 rfl ?_
    refine r_nJ (fun n40 => ?_)
    refine r_lstore (q := 15) (i := 4) (lv' := [(4, vJ n40), (0, vA (some a)), (1, vI x1), (2, vJ l2)]) C d_Md_get_13 rfl (by decide) rfl ?_
    refine r_lload (q := 17) (i := 4) (pl := 0) C d_Md_get_15 rfl rfl ?_
    refine r_csI (q := 20) (As := [vJ n40]) (st := []) C d_Md_get_17 rfl Y_Md_hopsOf L_Md_313 St_Md_hopsOf rfl (Nat.le_of_ble_eq_true rfl) (Nat.le_of_ble_eq_true rfl) (Nat.le_of_ble_eq_true rfl) rfl (con_Md_hopsOf n40) (fun v41 => ?_)
    refine r_bipush (q := 22) (v := 8) C d_Md_get_20 rfl (by decide) ?_
    refine r_icmp_ne (tgt := 38) (q := 25) C d_Md_get_22 (by decide) rfl ?_ ?_
    · refine r_aload_n (q := 39) (i := 0) (pl := 1) C d_Md_get_38 rfl rfl rfl ?_
      refine r_iload_n (q := 40) (i := 1) (pl := 2) C d_Md_get_39 rfl rfl rfl ?_
      refine r_lload_n (q := 41) (i := 2) (pl := 3) C d_Md_get_40 rfl rfl rfl ?_
      refine r_csI (q := 44) (As := [vJ l2]) (st := [vI x1, vA (some a)]) C d_Md_get_41 rfl Y_Md_toOf L_Md_308 St_Md_toOf rfl (Nat.le_of_ble_eq_true rfl) (Nat.le_of_ble_eq_true rfl) (Nat.le_of_ble_eq_true rfl) rfl (con_Md_toOf l2) (fun v42 => ?_)
      refine r_lload (q := 46) (i := 4) (pl := 0) C d_Md_get_44 rfl rfl ?_
      refine r_iconst (q := 47) (v := -1) C d_Md_get_46 rfl (by decide) ?_
      refine r_cvV (q := 50) (As := [vI x1, vI v42, vJ n40, vI (-1 : Int32)]) (st := []) (cy := 11) C d_Md_get_47 rfl Y_Md_route L_Md_241 I_Md_route Se_Md_route rfl (by decide) rfl (Nat.le_of_ble_eq_true rfl) (Nat.le_of_ble_eq_true rfl) (Nat.le_of_ble_eq_true rfl) rfl (fun a43 => con_Md_route a43 x1 v42 n40 (-1 : Int32)) ?_
      refine r_sub (lv' := [(0, vA (some a))]) [1] rfl ?_
      exact s_Md_get_50 C a
    · refine r_aload_n (q := 26) (i := 0) (pl := 1) C d_Md_get_25 rfl rfl rfl ?_
      refine r_dup (q := 27) C d_Md_get_26 rfl rfl ?_
      refine r_gI (q := 30) C d_Md_get_27 rfl F_Md_219 rfl (fun v45 => ?_)
      refine r_iconst (q := 31) (v := 1) C d_Md_get_30 rfl (by decide) ?_
      refine r_iadd (q := 32) C d_Md_get_31 rfl ?_
      refine r_pI (q := 35) C d_Md_get_32 rfl F_Md_219 rfl rfl (Or.inl rfl) ?_
      refine r_goto (tgt := 50) C d_Md_get_35 (by decide) ?_
      refine r_sub (lv' := [(0, vA (some a))]) [1] rfl ?_
      exact s_Md_get_50 C a
theorem d_Md_treat_0 : decode c_Md_treat 0 = .ok (.iload_n 1, 1) := by decide +kernel
theorem d_Md_treat_1 : decode c_Md_treat 1 = .ok (.iconst 1, 1) := by decide +kernel
theorem d_Md_treat_2 : decode c_Md_treat 2 = .ok (.ixor, 1) := by decide +kernel
theorem d_Md_treat_3 : decode c_Md_treat 3 = .ok (.istore_n 2, 1) := by decide +kernel
theorem d_Md_treat_4 : decode c_Md_treat 4 = .ok (.aload_n 0, 1) := by decide +kernel
theorem d_Md_treat_5 : decode c_Md_treat 5 = .ok (.iload_n 1, 1) := by decide +kernel
theorem d_Md_treat_6 : decode c_Md_treat 6 = .ok (.aload_n 0, 1) := by decide +kernel
theorem d_Md_treat_7 : decode c_Md_treat 7 = .ok (.getfield 93, 3) := by decide +kernel
theorem d_Md_treat_10 : decode c_Md_treat 10 = .ok (.iload_n 2, 1) := by decide +kernel
theorem d_Md_treat_11 : decode c_Md_treat 11 = .ok (.iaload, 1) := by decide +kernel
theorem d_Md_treat_12 : decode c_Md_treat 12 = .ok (.invokevirtual 295, 3) := by decide +kernel
theorem d_Md_treat_15 : decode c_Md_treat 15 = .ok (.istore_n 3, 1) := by decide +kernel
theorem d_Md_treat_16 : decode c_Md_treat 16 = .ok (.iload_n 3, 1) := by decide +kernel
theorem d_Md_treat_17 : decode c_Md_treat 17 = .ok (.iconst (-1), 1) := by decide +kernel
theorem d_Md_treat_18 : decode c_Md_treat 18 = .ok (.if_icmp .eq 37, 3) := by decide +kernel
theorem d_Md_treat_21 : decode c_Md_treat 21 = .ok (.aload_n 0, 1) := by decide +kernel
theorem d_Md_treat_22 : decode c_Md_treat 22 = .ok (.iload_n 1, 1) := by decide +kernel
theorem d_Md_treat_23 : decode c_Md_treat 23 = .ok (.iload_n 3, 1) := by decide +kernel
theorem d_Md_treat_24 : decode c_Md_treat 24 = .ok (.iconst 1, 1) := by decide +kernel
theorem d_Md_treat_25 : decode c_Md_treat 25 = .ok (.iadd, 1) := by decide +kernel
theorem d_Md_treat_26 : decode c_Md_treat 26 = .ok (.invokevirtual 298, 3) := by decide +kernel
theorem d_Md_treat_29 : decode c_Md_treat 29 = .ok (.aload_n 0, 1) := by decide +kernel
theorem d_Md_treat_30 : decode c_Md_treat 30 = .ok (.getfield 53, 3) := by decide +kernel
theorem d_Md_treat_33 : decode c_Md_treat 33 = .ok (.iload_n 1, 1) := by decide +kernel
theorem d_Md_treat_34 : decode c_Md_treat 34 = .ok (.aload_n 0, 1) := by decide +kernel
theorem d_Md_treat_35 : decode c_Md_treat 35 = .ok (.getfield 75, 3) := by decide +kernel
theorem d_Md_treat_38 : decode c_Md_treat 38 = .ok (.iload_n 1, 1) := by decide +kernel
theorem d_Md_treat_39 : decode c_Md_treat 39 = .ok (.iaload, 1) := by decide +kernel
theorem d_Md_treat_40 : decode c_Md_treat 40 = .ok (.ifCond .le 13, 3) := by decide +kernel
theorem d_Md_treat_43 : decode c_Md_treat 43 = .ok (.aload_n 0, 1) := by decide +kernel
theorem d_Md_treat_44 : decode c_Md_treat 44 = .ok (.getfield 256, 3) := by decide +kernel
theorem d_Md_treat_47 : decode c_Md_treat 47 = .ok (.bipush 20, 2) := by decide +kernel
theorem d_Md_treat_49 : decode c_Md_treat 49 = .ok (.iadd, 1) := by decide +kernel
theorem d_Md_treat_50 : decode c_Md_treat 50 = .ok (.goto 4, 3) := by decide +kernel
theorem d_Md_treat_53 : decode c_Md_treat 53 = .ok (.iconst 0, 1) := by decide +kernel
theorem d_Md_treat_54 : decode c_Md_treat 54 = .ok (.iastore, 1) := by decide +kernel
theorem d_Md_treat_55 : decode c_Md_treat 55 = .ok (.aload_n 0, 1) := by decide +kernel
theorem d_Md_treat_56 : decode c_Md_treat 56 = .ok (.getfield 96, 3) := by decide +kernel
theorem d_Md_treat_59 : decode c_Md_treat 59 = .ok (.iload_n 2, 1) := by decide +kernel
theorem d_Md_treat_60 : decode c_Md_treat 60 = .ok (.iaload, 1) := by decide +kernel
theorem d_Md_treat_61 : decode c_Md_treat 61 = .ok (.aload_n 0, 1) := by decide +kernel
theorem d_Md_treat_62 : decode c_Md_treat 62 = .ok (.getfield 35, 3) := by decide +kernel
theorem d_Md_treat_65 : decode c_Md_treat 65 = .ok (.iload_n 1, 1) := by decide +kernel
theorem d_Md_treat_66 : decode c_Md_treat 66 = .ok (.iaload, 1) := by decide +kernel
theorem d_Md_treat_67 : decode c_Md_treat 67 = .ok (.if_icmp .eq 35, 3) := by decide +kernel
theorem d_Md_treat_70 : decode c_Md_treat 70 = .ok (.aload_n 0, 1) := by decide +kernel
theorem d_Md_treat_71 : decode c_Md_treat 71 = .ok (.getfield 35, 3) := by decide +kernel
theorem d_Md_treat_74 : decode c_Md_treat 74 = .ok (.iload_n 1, 1) := by decide +kernel
theorem d_Md_treat_75 : decode c_Md_treat 75 = .ok (.aload_n 0, 1) := by decide +kernel
theorem d_Md_treat_76 : decode c_Md_treat 76 = .ok (.getfield 96, 3) := by decide +kernel
theorem d_Md_treat_79 : decode c_Md_treat 79 = .ok (.iload_n 2, 1) := by decide +kernel
theorem d_Md_treat_80 : decode c_Md_treat 80 = .ok (.iaload, 1) := by decide +kernel
theorem d_Md_treat_81 : decode c_Md_treat 81 = .ok (.iastore, 1) := by decide +kernel
theorem d_Md_treat_82 : decode c_Md_treat 82 = .ok (.aload_n 0, 1) := by decide +kernel
theorem d_Md_treat_83 : decode c_Md_treat 83 = .ok (.getfield 56, 3) := by decide +kernel
theorem d_Md_treat_86 : decode c_Md_treat 86 = .ok (.iload_n 1, 1) := by decide +kernel
theorem d_Md_treat_87 : decode c_Md_treat 87 = .ok (.aload_n 0, 1) := by decide +kernel
theorem d_Md_treat_88 : decode c_Md_treat 88 = .ok (.getfield 75, 3) := by decide +kernel
theorem d_Md_treat_91 : decode c_Md_treat 91 = .ok (.iload_n 1, 1) := by decide +kernel
theorem d_Md_treat_92 : decode c_Md_treat 92 = .ok (.iaload, 1) := by decide +kernel
theorem d_Md_treat_93 : decode c_Md_treat 93 = .ok (.ifCond .le 7, 3) := by decide +kernel
theorem d_Md_treat_96 : decode c_Md_treat 96 = .ok (.iconst 0, 1) := by decide +kernel
theorem d_Md_treat_97 : decode c_Md_treat 97 = .ok (.goto 4, 3) := by decide +kernel
theorem d_Md_treat_100 : decode c_Md_treat 100 = .ok (.iconst (-1), 1) := by decide +kernel
theorem d_Md_treat_101 : decode c_Md_treat 101 = .ok (.iastore, 1) := by decide +kernel
theorem d_Md_treat_102 : decode c_Md_treat 102 = .ok (.aload_n 0, 1) := by decide +kernel
theorem d_Md_treat_103 : decode c_Md_treat 103 = .ok (.getfield 90, 3) := by decide +kernel
theorem d_Md_treat_106 : decode c_Md_treat 106 = .ok (.iload_n 2, 1) := by decide +kernel
theorem d_Md_treat_107 : decode c_Md_treat 107 = .ok (.iaload, 1) := by decide +kernel
theorem d_Md_treat_108 : decode c_Md_treat 108 = .ok (.aload_n 0, 1) := by decide +kernel
theorem d_Md_treat_109 : decode c_Md_treat 109 = .ok (.getfield 38, 3) := by decide +kernel
theorem d_Md_treat_112 : decode c_Md_treat 112 = .ok (.iload_n 1, 1) := by decide +kernel
theorem d_Md_treat_113 : decode c_Md_treat 113 = .ok (.iaload, 1) := by decide +kernel
theorem d_Md_treat_114 : decode c_Md_treat 114 = .ok (.if_icmp .eq 4, 3) := by decide +kernel
theorem d_Md_treat_117 : decode c_Md_treat 117 = .ok (.return_, 1) := by decide +kernel
theorem d_Md_treat_118 : decode c_Md_treat 118 = .ok (.aload_n 0, 1) := by decide +kernel
theorem d_Md_treat_119 : decode c_Md_treat 119 = .ok (.getfield 84, 3) := by decide +kernel
theorem d_Md_treat_122 : decode c_Md_treat 122 = .ok (.iload_n 2, 1) := by decide +kernel
theorem d_Md_treat_123 : decode c_Md_treat 123 = .ok (.iaload, 1) := by decide +kernel
theorem d_Md_treat_124 : decode c_Md_treat 124 = .ok (.iconst 5, 1) := by decide +kernel
theorem d_Md_treat_125 : decode c_Md_treat 125 = .ok (.if_icmp .ne 53, 3) := by decide +kernel
theorem d_Md_treat_128 : decode c_Md_treat 128 = .ok (.aload_n 0, 1) := by decide +kernel
theorem d_Md_treat_129 : decode c_Md_treat 129 = .ok (.getfield 87, 3) := by decide +kernel
theorem d_Md_treat_132 : decode c_Md_treat 132 = .ok (.iload_n 2, 1) := by decide +kernel
theorem d_Md_treat_133 : decode c_Md_treat 133 = .ok (.iaload, 1) := by decide +kernel
theorem d_Md_treat_134 : decode c_Md_treat 134 = .ok (.aload_n 0, 1) := by decide +kernel
theorem d_Md_treat_135 : decode c_Md_treat 135 = .ok (.getfield 32, 3) := by decide +kernel
theorem d_Md_treat_138 : decode c_Md_treat 138 = .ok (.iload_n 1, 1) := by decide +kernel
theorem d_Md_treat_139 : decode c_Md_treat 139 = .ok (.iaload, 1) := by decide +kernel
theorem d_Md_treat_140 : decode c_Md_treat 140 = .ok (.iconst 1, 1) := by decide +kernel
theorem d_Md_treat_141 : decode c_Md_treat 141 = .ok (.iadd, 1) := by decide +kernel
theorem d_Md_treat_142 : decode c_Md_treat 142 = .ok (.bipush 127, 2) := by decide +kernel
theorem d_Md_treat_144 : decode c_Md_treat 144 = .ok (.iand, 1) := by decide +kernel
theorem d_Md_treat_145 : decode c_Md_treat 145 = .ok (.if_icmp .ne 33, 3) := by decide +kernel
theorem d_Md_treat_148 : decode c_Md_treat 148 = .ok (.aload_n 0, 1) := by decide +kernel
theorem d_Md_treat_149 : decode c_Md_treat 149 = .ok (.getfield 32, 3) := by decide +kernel
theorem d_Md_treat_152 : decode c_Md_treat 152 = .ok (.iload_n 1, 1) := by decide +kernel
theorem d_Md_treat_153 : decode c_Md_treat 153 = .ok (.aload_n 0, 1) := by decide +kernel
theorem d_Md_treat_154 : decode c_Md_treat 154 = .ok (.getfield 87, 3) := by decide +kernel
theorem d_Md_treat_157 : decode c_Md_treat 157 = .ok (.iload_n 2, 1) := by decide +kernel
theorem d_Md_treat_158 : decode c_Md_treat 158 = .ok (.iaload, 1) := by decide +kernel
theorem d_Md_treat_159 : decode c_Md_treat 159 = .ok (.iastore, 1) := by decide +kernel
theorem d_Md_treat_160 : decode c_Md_treat 160 = .ok (.aload_n 0, 1) := by decide +kernel
theorem d_Md_treat_161 : decode c_Md_treat 161 = .ok (.aload_n 0, 1) := by decide +kernel
theorem d_Md_treat_162 : decode c_Md_treat 162 = .ok (.iload_n 1, 1) := by decide +kernel
theorem d_Md_treat_163 : decode c_Md_treat 163 = .ok (.invokevirtual 252, 3) := by decide +kernel
theorem d_Md_treat_166 : decode c_Md_treat 166 = .ok (.aload_n 0, 1) := by decide +kernel
theorem d_Md_treat_167 : decode c_Md_treat 167 = .ok (.getfield 99, 3) := by decide +kernel
theorem d_Md_treat_170 : decode c_Md_treat 170 = .ok (.iload_n 2, 1) := by decide +kernel
theorem d_Md_treat_171 : decode c_Md_treat 171 = .ok (.laload, 1) := by decide +kernel
theorem d_Md_treat_172 : decode c_Md_treat 172 = .ok (.invokevirtual 302, 3) := by decide +kernel
theorem d_Md_treat_175 : decode c_Md_treat 175 = .ok (.goto 32, 3) := by decide +kernel
theorem d_Md_treat_178 : decode c_Md_treat 178 = .ok (.aload_n 0, 1) := by decide +kernel
theorem d_Md_treat_179 : decode c_Md_treat 179 = .ok (.getfield 87, 3) := by decide +kernel
theorem d_Md_treat_182 : decode c_Md_treat 182 = .ok (.iload_n 2, 1) := by decide +kernel
theorem d_Md_treat_183 : decode c_Md_treat 183 = .ok (.iaload, 1) := by decide +kernel
theorem d_Md_treat_184 : decode c_Md_treat 184 = .ok (.aload_n 0, 1) := by decide +kernel
theorem d_Md_treat_185 : decode c_Md_treat 185 = .ok (.getfield 32, 3) := by decide +kernel
theorem d_Md_treat_188 : decode c_Md_treat 188 = .ok (.iload_n 1, 1) := by decide +kernel
theorem d_Md_treat_189 : decode c_Md_treat 189 = .ok (.iaload, 1) := by decide +kernel
theorem d_Md_treat_190 : decode c_Md_treat 190 = .ok (.if_icmp .eq 17, 3) := by decide +kernel
theorem d_Md_treat_193 : decode c_Md_treat 193 = .ok (.aload_n 0, 1) := by decide +kernel
theorem d_Md_treat_194 : decode c_Md_treat 194 = .ok (.getfield 38, 3) := by decide +kernel
theorem d_Md_treat_197 : decode c_Md_treat 197 = .ok (.iload_n 1, 1) := by decide +kernel
theorem d_Md_treat_198 : decode c_Md_treat 198 = .ok (.iconst 1, 1) := by decide +kernel
theorem d_Md_treat_199 : decode c_Md_treat 199 = .ok (.aload_n 0, 1) := by decide +kernel
theorem d_Md_treat_200 : decode c_Md_treat 200 = .ok (.getfield 38, 3) := by decide +kernel
theorem d_Md_treat_203 : decode c_Md_treat 203 = .ok (.iload_n 1, 1) := by decide +kernel
theorem d_Md_treat_204 : decode c_Md_treat 204 = .ok (.iaload, 1) := by decide +kernel
theorem d_Md_treat_205 : decode c_Md_treat 205 = .ok (.isub, 1) := by decide +kernel
theorem d_Md_treat_206 : decode c_Md_treat 206 = .ok (.iastore, 1) := by decide +kernel
theorem d_Md_treat_207 : decode c_Md_treat 207 = .ok (.return_, 1) := by decide +kernel
def f_Md_treat_207 (a : Nat) : sn_M := r_V
set_option maxHeartbeats 4000000 in
set_option maxRecDepth 100000 in
theorem mono_Md_treat_207 (a : Nat) : sn_Mono (f_Md_treat_207 a) := sn_Mono.rV
set_option maxHeartbeats 4000000 in
set_option maxRecDepth 100000 in
theorem s_Md_treat_207 {X : sn_X} (C : sn_Cx X c_Md_treat "SignalNetworkModel" none "treat" 4 11 279) (a : Nat) : sn_S X 207 [(0, vA (some a))] [] (f_Md_treat_207 a) := by
  unfold f_Md_treat_207
  exact r_vret C d_Md_treat_207 rfl
def f_Md_treat_178 (a : Nat) (x1 : Int32) (x2 : Int32) : sn_M := g_R 12 31 (some a) fun v1 => a_I 31 v1 x2 fun v2 => g_R 12 13 (some a) fun v3 => a_I 31 v3 x1 fun v4 => (if v2 = v4 then f_Md_treat_207 a else g_R 12 15 (some a) fun v5 => g_R 12 15 (some a) fun v6 => a_I 31 v6 x1 fun v7 => b_I 31 v5 x1 ((1 : Int32) - v7) (f_Md_treat_207 a))
set_option maxHeartbeats 4000000 in
set_option maxRecDepth 100000 in
theorem mono_Md_treat_178 (a : Nat) (x1 : Int32) (x2 : Int32) : sn_Mono (f_Md_treat_178 a x1 x2) := sn_Mono.gR (fun v1 => sn_Mono.aI (fun v2 => sn_Mono.gR (fun v3 => sn_Mono.aI (fun v4 => sn_Mono.ite (mono_Md_treat_207 a) (sn_Mono.gR (fun v5 => sn_Mono.gR (fun v6 => sn_Mono.aI (fun v7 => sn_Mono.bI (mono_Md_treat_207 a)))))))))
set_option maxHeartbeats 4000000 in
set_option maxRecDepth 100000 in
theorem s_Md_treat_178 {X : sn_X} (C : sn_Cx X c_Md_treat "SignalNetworkModel" none "treat" 4 11 279) (a : Nat) (x1 : Int32) (x2 : Int32) : sn_S X 178 [(0, vA (some a)), (1, vI x1), (2, vI x2)] [] (f_Md_treat_178 a x1 x2) := by
  unfold f_Md_treat_178
  refine r_aload_n (q := 179) (i := 0) (pl := 0) C d_Md_treat_178 rfl rfl rfl ?_
  refine r_gR (q := 182) C d_Md_treat_179 rfl F_Md_87 rfl (fun v1 => ?_)
  refine r_iload_n (q := 183) (i := 2) (pl := 2) C d_Md_treat_182 rfl rfl rfl ?_
  refine r_aI (q := 184) C (Or.inr rfl) d_Md_treat_183 rfl (fun v2 => ?_)
  refine r_aload_n (q := 185) (i := 0) (pl := 0) C d_Md_treat_184 rfl rfl rfl ?_
  refine r_gR (q := 188) C d_Md_treat_185 rfl F_Md_32 rfl (fun v3 => ?_)
  refine r_iload_n (q := 189) (i := 1) (pl := 1) C d_Md_treat_188 rfl rfl rfl ?_
  refine r_aI (q := 190) C (Or.inr rfl) d_Md_treat_189 rfl (fun v4 => ?_)
  refine r_icmp_eq (tgt := 207) (q := 193) C d_Md_treat_190 (by decide) rfl ?_ ?_
  · refine r_sub (lv' := [(0, vA (some a))]) [0] rfl ?_
    exact s_Md_treat_207 C a
  · refine r_aload_n (q := 194) (i := 0) (pl := 0) C d_Md_treat_193 rfl rfl rfl ?_
    refine r_gR (q := 197) C d_Md_treat_194 rfl F_Md_38 rfl (fun v5 => ?_)
    refine r_iload_n (q := 198) (i := 1) (pl := 1) C d_Md_treat_197 rfl rfl rfl ?_
    refine r_iconst (q := 199) (v := 1) C d_Md_treat_198 rfl (by decide) ?_
    refine r_aload_n (q := 200) (i := 0) (pl := 0) C d_Md_treat_199 rfl rfl rfl ?_
    refine r_gR (q := 203) C d_Md_treat_200 rfl F_Md_38 rfl (fun v6 => ?_)
    refine r_iload_n (q := 204) (i := 1) (pl := 1) C d_Md_treat_203 rfl rfl rfl ?_
    refine r_aI (q := 205) C (Or.inr rfl) d_Md_treat_204 rfl (fun v7 => ?_)
    refine r_isub (q := 206) C d_Md_treat_205 rfl ?_
    refine r_bI (q := 207) C (Or.inr rfl) d_Md_treat_206 rfl ?_
    refine r_sub (lv' := [(0, vA (some a))]) [0] rfl ?_
    exact s_Md_treat_207 C a
def f_Md_treat_102 (a : Nat) (x1 : Int32) (x2 : Int32) : sn_M := g_R 12 32 (some a) fun v8 => a_I 31 v8 x2 fun v9 => g_R 12 15 (some a) fun v10 => a_I 31 v10 x1 fun v11 => (if v9 = v11 then g_R 12 30 (some a) fun v12 => a_I 31 v12 x2 fun v13 => (if ¬ v13 = (5 : Int32) then f_Md_treat_178 a x1 x2 else g_R 12 31 (some a) fun v14 => a_I 31 v14 x2 fun v15 => g_R 12 13 (some a) fun v16 => a_I 31 v16 x1 fun v17 => (if ¬ v15 = ((v17 + (1 : Int32)) &&& (127 : Int32)) then f_Md_treat_178 a x1 x2 else g_R 12 13 (some a) fun v18 => g_R 12 31 (some a) fun v19 => a_I 31 v19 x2 fun v20 => b_I 31 v18 x1 v20 (n_n 12 (some a) fun a21 => c_I (f_Md_exchangeOf a21 x1) fun v22 => g_R 12 35 (some a) fun v23 => a_J 32 v23 x2 fun v24 => n_n 12 (some a) fun a25 => c_V (f_Md_get a25 v22 v24) (f_Md_treat_207 a)))) else r_V)
set_option maxHeartbeats 4000000 in
set_option maxRecDepth 100000 in
theorem mono_Md_treat_102 (a : Nat) (x1 : Int32) (x2 : Int32) : sn_Mono (f_Md_treat_102 a x1 x2) := sn_Mono.gR (fun v8 => sn_Mono.aI (fun v9 => sn_Mono.gR (fun v10 => sn_Mono.aI (fun v11 => sn_Mono.ite (sn_Mono.gR (fun v12 => sn_Mono.aI (fun v13 => sn_Mono.ite (mono_Md_treat_178 a x1 x2) (sn_Mono.gR (fun v14 => sn_Mono.aI (fun v15 => sn_Mono.gR (fun v16 => sn_Mono.aI (fun v17 => sn_Mono.ite (mono_Md_treat_178 a x1 x2) (sn_Mono.gR (fun v18 => sn_Mono.gR (fun v19 => sn_Mono.aI (fun v20 => sn_Mono.bI (sn_Mono.nn (fun a21 => sn_Mono.cI (mono_Md_exchangeOf a21 x1) (fun v22 => sn_Mono.gR (fun v23 => sn_Mono.aJ (fun v24 => sn_Mono.nn (fun a25 => sn_Mono.cV (mono_Md_get a25 v22 v24) (mono_Md_treat_207 a))))))))))))))))))) (sn_Mono.rV)))))
set_option maxHeartbeats 4000000 in
set_option maxRecDepth 100000 in
theorem s_Md_treat_102 {X : sn_X} (C : sn_Cx X c_Md_treat "SignalNetworkModel" none "treat" 4 11 279) (a : Nat) (x1 : Int32) (x2 : Int32) : sn_S X 102 [(0, vA (some a)), (1, vI x1), (2, vI x2)] [] (f_Md_treat_102 a x1 x2) := by
  unfold f_Md_treat_102
  refine r_aload_n (q := 103) (i := 0) (pl := 0) C d_Md_treat_102 rfl rfl rfl ?_
  refine r_gR (q := 106) C d_Md_treat_103 rfl F_Md_90 rfl (fun v8 => ?_)
  refine r_iload_n (q := 107) (i := 2) (pl := 2) C d_Md_treat_106 rfl rfl rfl ?_
  refine r_aI (q := 108) C (Or.inr rfl) d_Md_treat_107 rfl (fun v9 => ?_)
  refine r_aload_n (q := 109) (i := 0) (pl := 0) C d_Md_treat_108 rfl rfl rfl ?_
  refine r_gR (q := 112) C d_Md_treat_109 rfl F_Md_38 rfl (fun v10 => ?_)
  refine r_iload_n (q := 113) (i := 1) (pl := 1) C d_Md_treat_112 rfl rfl rfl ?_
  refine r_aI (q := 114) C (Or.inr rfl) d_Md_treat_113 rfl (fun v11 => ?_)
  refine r_icmp_eq (tgt := 118) (q := 117) C d_Md_treat_114 (by decide) rfl ?_ ?_
  · refine r_aload_n (q := 119) (i := 0) (pl := 0) C d_Md_treat_118 rfl rfl rfl ?_
    refine r_gR (q := 122) C d_Md_treat_119 rfl F_Md_84 rfl (fun v12 => ?_)
    refine r_iload_n (q := 123) (i := 2) (pl := 2) C d_Md_treat_122 rfl rfl rfl ?_
    refine r_aI (q := 124) C (Or.inr rfl) d_Md_treat_123 rfl (fun v13 => ?_)
    refine r_iconst (q := 125) (v := 5) C d_Md_treat_124 rfl (by decide) ?_
    refine r_icmp_ne (tgt := 178) (q := 128) C d_Md_treat_125 (by decide) rfl ?_ ?_
    · exact s_Md_treat_178 C a x1 x2
    · refine r_aload_n (q := 129) (i := 0) (pl := 0) C d_Md_treat_128 rfl rfl rfl ?_
      refine r_gR (q := 132) C d_Md_treat_129 rfl F_Md_87 rfl (fun v14 => ?_)
      refine r_iload_n (q := 133) (i := 2) (pl := 2) C d_Md_treat_132 rfl rfl rfl ?_
      refine r_aI (q := 134) C (Or.inr rfl) d_Md_treat_133 rfl (fun v15 => ?_)
      refine r_aload_n (q := 135) (i := 0) (pl := 0) C d_Md_treat_134 rfl rfl rfl ?_
      refine r_gR (q := 138) C d_Md_treat_135 rfl F_Md_32 rfl (fun v16 => ?_)
      refine r_iload_n (q := 139) (i := 1) (pl := 1) C d_Md_treat_138 rfl rfl rfl ?_
      refine r_aI (q := 140) C (Or.inr rfl) d_Md_treat_139 rfl (fun v17 => ?_)
      refine r_iconst (q := 141) (v := 1) C d_Md_treat_140 rfl (by decide) ?_
      refine r_iadd (q := 142) C d_Md_treat_141 rfl ?_
      refine r_bipush (q := 144) (v := 127) C d_Md_treat_142 rfl (by decide) ?_
      refine r_iand (q := 145) C d_Md_treat_144 rfl ?_
      refine r_icmp_ne (tgt := 178) (q := 148) C d_Md_treat_145 (by decide) rfl ?_ ?_
      · exact s_Md_treat_178 C a x1 x2
      · refine r_aload_n (q := 149) (i := 0) (pl := 0) C d_Md_treat_148 rfl rfl rfl ?_
        refine r_gR (q := 152) C d_Md_treat_149 rfl F_Md_32 rfl (fun v18 => ?_)
        refine r_iload_n (q := 153) (i := 1) (pl := 1) C d_Md_treat_152 rfl rfl rfl ?_
        refine r_aload_n (q := 154) (i := 0) (pl := 0) C d_Md_treat_153 rfl rfl rfl ?_
        refine r_gR (q := 157) C d_Md_treat_154 rfl F_Md_87 rfl (fun v19 => ?_)
        refine r_iload_n (q := 158) (i := 2) (pl := 2) C d_Md_treat_157 rfl rfl rfl ?_
        refine r_aI (q := 159) C (Or.inr rfl) d_Md_treat_158 rfl (fun v20 => ?_)
        refine r_bI (q := 160) C (Or.inr rfl) d_Md_treat_159 rfl ?_
        refine r_aload_n (q := 161) (i := 0) (pl := 0) C d_Md_treat_160 rfl rfl rfl ?_
        refine r_aload_n (q := 162) (i := 0) (pl := 0) C d_Md_treat_161 rfl rfl rfl ?_
        refine r_iload_n (q := 163) (i := 1) (pl := 1) C d_Md_treat_162 rfl rfl rfl ?_
        refine r_cvI (q := 166) (As := [vI x1]) (st := [vA (some a)]) (cy := 11) C d_Md_treat_163 rfl Y_Md_exchangeOf L_Md_252 I_Md_exchangeOf Se_Md_exchangeOf rfl (by decide) rfl (Nat.le_of_ble_eq_true rfl) (Nat.le_of_ble_eq_true rfl) (Nat.le_of_ble_eq_true rfl) rfl (fun a21 => con_Md_exchangeOf a21 x1) (fun v22 => ?_)
        refine r_aload_n (q := 167) (i := 0) (pl := 0) C d_Md_treat_166 rfl rfl rfl ?_
        refine r_gR (q := 170) C d_Md_treat_167 rfl F_Md_99 rfl (fun v23 => ?_)
        refine r_iload_n (q := 171) (i := 2) (pl := 2) C d_Md_treat_170 rfl rfl rfl ?_
        refine r_aJ (q := 172) C (Or.inr rfl) d_Md_treat_171 rfl (fun v24 => ?_)
        refine r_cvV (q := 175) (As := [vI v22, vJ v24]) (st := []) (cy := 11) C d_Md_treat_172 rfl Y_Md_get L_Md_302 I_Md_get Se_Md_get rfl (by decide) rfl (Nat.le_of_ble_eq_true rfl) (Nat.le_of_ble_eq_true rfl) (Nat.le_of_ble_eq_true rfl) rfl (fun a25 => con_Md_get a25 v22 v24) ?_
        refine r_goto (tgt := 207) C d_Md_treat_175 (by decide) ?_
        refine r_sub (lv' := [(0, vA (some a))]) [0] rfl ?_
        exact s_Md_treat_207 C a
  · exact r_vret C d_Md_treat_117 rfl
def f_Md_treat_101 (a : Nat) (x1 : Int32) (x2 : Int32) (t0 : Option Nat) (t1 : Int32) (t2 : Int32) : sn_M := b_I 31 t0 t1 t2 (f_Md_treat_102 a x1 x2)
set_option maxHeartbeats 4000000 in
set_option maxRecDepth 100000 in
theorem mono_Md_treat_101 (a : Nat) (x1 : Int32) (x2 : Int32) (t0 : Option Nat) (t1 : Int32) (t2 : Int32) : sn_Mono (f_Md_treat_101 a x1 x2 t0 t1 t2) := sn_Mono.bI (mono_Md_treat_102 a x1 x2)
set_option maxHeartbeats 4000000 in
set_option maxRecDepth 100000 in
theorem s_Md_treat_101 {X : sn_X} (C : sn_Cx X c_Md_treat "SignalNetworkModel" none "treat" 4 11 279) (a : Nat) (x1 : Int32) (x2 : Int32) (t0 : Option Nat) (t1 : Int32) (t2 : Int32) : sn_S X 101 [(0, vA (some a)), (1, vI x1), (2, vI x2)] [vI t2, vI t1, vA t0] (f_Md_treat_101 a x1 x2 t0 t1 t2) := by
  unfold f_Md_treat_101
  refine r_bI (q := 102) C (Or.inr rfl) d_Md_treat_101 rfl ?_
  exact s_Md_treat_102 C a x1 x2
def f_Md_treat_55 (a : Nat) (x1 : Int32) (x2 : Int32) : sn_M := g_R 12 34 (some a) fun v27 => a_I 31 v27 x2 fun v28 => g_R 12 14 (some a) fun v29 => a_I 31 v29 x1 fun v30 => (if v28 = v30 then f_Md_treat_102 a x1 x2 else g_R 12 14 (some a) fun v31 => g_R 12 34 (some a) fun v32 => a_I 31 v32 x2 fun v33 => b_I 31 v31 x1 v33 (g_R 12 21 (some a) fun v34 => g_R 12 27 (some a) fun v35 => a_I 31 v35 x1 fun v36 => (if v36 ≤ 0 then f_Md_treat_101 a x1 x2 v34 x1 (-1 : Int32) else f_Md_treat_101 a x1 x2 v34 x1 (0 : Int32))))
set_option maxHeartbeats 4000000 in
set_option maxRecDepth 100000 in
theorem mono_Md_treat_55 (a : Nat) (x1 : Int32) (x2 : Int32) : sn_Mono (f_Md_treat_55 a x1 x2) := sn_Mono.gR (fun v27 => sn_Mono.aI (fun v28 => sn_Mono.gR (fun v29 => sn_Mono.aI (fun v30 => sn_Mono.ite (mono_Md_treat_102 a x1 x2) (sn_Mono.gR (fun v31 => sn_Mono.gR (fun v32 => sn_Mono.aI (fun v33 => sn_Mono.bI (sn_Mono.gR (fun v34 => sn_Mono.gR (fun v35 => sn_Mono.aI (fun v36 => sn_Mono.ite (mono_Md_treat_101 a x1 x2 v34 x1 (-1 : Int32)) (mono_Md_treat_101 a x1 x2 v34 x1 (0 : Int32))))))))))))))
set_option maxHeartbeats 4000000 in
set_option maxRecDepth 100000 in
theorem s_Md_treat_55 {X : sn_X} (C : sn_Cx X c_Md_treat "SignalNetworkModel" none "treat" 4 11 279) (a : Nat) (x1 : Int32) (x2 : Int32) : sn_S X 55 [(0, vA (some a)), (1, vI x1), (2, vI x2)] [] (f_Md_treat_55 a x1 x2) := by
  unfold f_Md_treat_55
  refine r_aload_n (q := 56) (i := 0) (pl := 0) C d_Md_treat_55 rfl rfl rfl ?_
  refine r_gR (q := 59) C d_Md_treat_56 rfl F_Md_96 rfl (fun v27 => ?_)
  refine r_iload_n (q := 60) (i := 2) (pl := 2) C d_Md_treat_59 rfl rfl rfl ?_
  refine r_aI (q := 61) C (Or.inr rfl) d_Md_treat_60 rfl (fun v28 => ?_)
  refine r_aload_n (q := 62) (i := 0) (pl := 0) C d_Md_treat_61 rfl rfl rfl ?_
  refine r_gR (q := 65) C d_Md_treat_62 rfl F_Md_35 rfl (fun v29 => ?_)
  refine r_iload_n (q := 66) (i := 1) (pl := 1) C d_Md_treat_65 rfl rfl rfl ?_
  refine r_aI (q := 67) C (Or.inr rfl) d_Md_treat_66 rfl (fun v30 => ?_)
  refine r_icmp_eq (tgt := 102) (q := 70) C d_Md_treat_67 (by decide) rfl ?_ ?_
  · exact s_Md_treat_102 C a x1 x2
  · refine r_aload_n (q := 71) (i := 0) (pl := 0) C d_Md_treat_70 rfl rfl rfl ?_
    refine r_gR (q := 74) C d_Md_treat_71 rfl F_Md_35 rfl (fun v31 => ?_)
    refine r_iload_n (q := 75) (i := 1) (pl := 1) C d_Md_treat_74 rfl rfl rfl ?_
    refine r_aload_n (q := 76) (i := 0) (pl := 0) C d_Md_treat_75 rfl rfl rfl ?_
    refine r_gR (q := 79) C d_Md_treat_76 rfl F_Md_96 rfl (fun v32 => ?_)
    refine r_iload_n (q := 80) (i := 2) (pl := 2) C d_Md_treat_79 rfl rfl rfl ?_
    refine r_aI (q := 81) C (Or.inr rfl) d_Md_treat_80 rfl (fun v33 => ?_)
    refine r_bI (q := 82) C (Or.inr rfl) d_Md_treat_81 rfl ?_
    refine r_aload_n (q := 83) (i := 0) (pl := 0) C d_Md_treat_82 rfl rfl rfl ?_
    refine r_gR (q := 86) C d_Md_treat_83 rfl F_Md_56 rfl (fun v34 => ?_)
    refine r_iload_n (q := 87) (i := 1) (pl := 1) C d_Md_treat_86 rfl rfl rfl ?_
    refine r_aload_n (q := 88) (i := 0) (pl := 0) C d_Md_treat_87 rfl rfl rfl ?_
    refine r_gR (q := 91) C d_Md_treat_88 rfl F_Md_75 rfl (fun v35 => ?_)
    refine r_iload_n (q := 92) (i := 1) (pl := 1) C d_Md_treat_91 rfl rfl rfl ?_
    refine r_aI (q := 93) C (Or.inr rfl) d_Md_treat_92 rfl (fun v36 => ?_)
    refine r_if_le (tgt := 100) (q := 96) C d_Md_treat_93 (by decide) rfl ?_ ?_
    · refine r_iconst (q := 101) (v := -1) C d_Md_treat_100 rfl (by decide) ?_
      exact s_Md_treat_101 C a x1 x2 v34 x1 (-1 : Int32)
    · refine r_iconst (q := 97) (v := 0) C d_Md_treat_96 rfl (by decide) ?_
      refine r_goto (tgt := 101) C d_Md_treat_97 (by decide) ?_
      exact s_Md_treat_101 C a x1 x2 v34 x1 (0 : Int32)
def f_Md_treat_54 (a : Nat) (x1 : Int32) (x2 : Int32) (t0 : Option Nat) (t1 : Int32) (t2 : Int32) : sn_M := b_I 31 t0 t1 t2 (f_Md_treat_55 a x1 x2)
set_option maxHeartbeats 4000000 in
set_option maxRecDepth 100000 in
theorem mono_Md_treat_54 (a : Nat) (x1 : Int32) (x2 : Int32) (t0 : Option Nat) (t1 : Int32) (t2 : Int32) : sn_Mono (f_Md_treat_54 a x1 x2 t0 t1 t2) := sn_Mono.bI (mono_Md_treat_55 a x1 x2)
set_option maxHeartbeats 4000000 in
set_option maxRecDepth 100000 in
theorem s_Md_treat_54 {X : sn_X} (C : sn_Cx X c_Md_treat "SignalNetworkModel" none "treat" 4 11 279) (a : Nat) (x1 : Int32) (x2 : Int32) (t0 : Option Nat) (t1 : Int32) (t2 : Int32) : sn_S X 54 [(0, vA (some a)), (1, vI x1), (2, vI x2)] [vI t2, vI t1, vA t0] (f_Md_treat_54 a x1 x2 t0 t1 t2) := by
  unfold f_Md_treat_54
  refine r_bI (q := 55) C (Or.inr rfl) d_Md_treat_54 rfl ?_
  exact s_Md_treat_55 C a x1 x2
def f_Md_treat (a : Nat) (x1 : Int32) : sn_M := n_I ((x1 ^^^ (1 : Int32))) fun n37 => g_R 12 33 (some a) fun v38 => a_I 31 v38 n37 fun v39 => n_n 12 (some a) fun a40 => c_I (f_Md_openAt a40 x1 v39) fun v41 => (if v41 = (-1 : Int32) then f_Md_treat_55 a x1 n37 else n_n 12 (some a) fun a42 => c_V (f_Md_acknowledge a42 x1 (v41 + (1 : Int32))) (g_R 12 20 (some a) fun v44 => g_R 12 27 (some a) fun v45 => a_I 31 v45 x1 fun v46 => (if v46 ≤ 0 then f_Md_treat_54 a x1 n37 v44 x1 (0 : Int32) else g_I 12 6 (some a) fun v47 => f_Md_treat_54 a x1 n37 v44 x1 (v47 + (20 : Int32)))))
set_option maxHeartbeats 4000000 in
set_option maxRecDepth 100000 in
theorem mono_Md_treat (a : Nat) (x1 : Int32) : sn_Mono (f_Md_treat a x1) := sn_Mono.nI (fun n37 => sn_Mono.gR (fun v38 => sn_Mono.aI (fun v39 => sn_Mono.nn (fun a40 => sn_Mono.cI (mono_Md_openAt a40 x1 v39) (fun v41 => sn_Mono.ite (mono_Md_treat_55 a x1 n37) (sn_Mono.nn (fun a42 => sn_Mono.cV (mono_Md_acknowledge a42 x1 (v41 + (1 : Int32))) (sn_Mono.gR (fun v44 => sn_Mono.gR (fun v45 => sn_Mono.aI (fun v46 => sn_Mono.ite (mono_Md_treat_54 a x1 n37 v44 x1 (0 : Int32)) (sn_Mono.gI (fun v47 => mono_Md_treat_54 a x1 n37 v44 x1 (v47 + (20 : Int32)))))))))))))))
set_option maxHeartbeats 4000000 in
set_option maxRecDepth 100000 in
theorem con_Md_treat (a : Nat) (x1 : Int32) : sn_Con y_Md_treat c_Md_treat 4 none 11 279 [vA (some a), vI x1] (f_Md_treat a x1) := by
  refine sn_Con.of (by decide +kernel) (by show _ ≤ _; exact Nat.le_of_ble_eq_true rfl) (mono_Md_treat a x1) (fun X C => ?_)
  show sn_S X 0 [(0, vA (some a)), (1, vI x1)] [] _
  replace C : sn_Cx X c_Md_treat "SignalNetworkModel" none "treat" 4 11 279 := C
  unfold f_Md_treat
  refine r_iload_n (q := 1) (i := 1) (pl := 1) C d_Md_treat_0 rfl rfl rfl ?_
  refine r_iconst (q := 2) (v := 1) C d_Md_treat_1 rfl (by decide) ?_
  refine r_ixor (q := 3) C d_Md_treat_2 rfl ?_
  refine r_nI (fun n37 => ?_)
  refine r_istore_n (q := 4) (i := 2) (lv' := [(2, vI n37), (0, vA (some a)), (1, vI x1)]) C d_Md_treat_3 rfl rfl (by decide) rfl ?_
  refine r_aload_n (q := 5) (i := 0) (pl := 1) C d_Md_treat_4 rfl rfl rfl ?_
  refine r_iload_n (q := 6) (i := 1) (pl := 2) C d_Md_treat_5 rfl rfl rfl ?_
  refine r_aload_n (q := 7) (i := 0) (pl := 1) C d_Md_treat_6 rfl rfl rfl ?_
  refine r_gR (q := 10) C d_Md_treat_7 rfl F_Md_93 rfl (fun v38 => ?_)
  refine r_iload_n (q := 11) (i := 2) (pl := 0) C d_Md_treat_10 rfl rfl rfl ?_
  refine r_aI (q := 12) C (Or.inr rfl) d_Md_treat_11 rfl (fun v39 => ?_)
  refine r_cvI (q := 15) (As := [vI x1, vI v39]) (st := []) (cy := 11) C d_Md_treat_12 rfl Y_Md_openAt L_Md_295 I_Md_openAt Se_Md_openAt rfl (by decide) rfl (Nat.le_of_ble_eq_true rfl) (Nat.le_of_ble_eq_true rfl) (Nat.le_of_ble_eq_true rfl) rfl (fun a40 => con_Md_openAt a40 x1 v39) (fun v41 => ?_)
  refine r_istore_n (q := 16) (i := 3) (lv' := [(3, vI v41), (2, vI n37), (0, vA (some a)), (1, vI x1)]) C d_Md_treat_15 rfl rfl (by decide) rfl ?_
  refine r_iload_n (q := 17) (i := 3) (pl := 0) C d_Md_treat_16 rfl rfl rfl ?_
  refine r_iconst (q := 18) (v := -1) C d_Md_treat_17 rfl (by decide) ?_
  refine r_icmp_eq (tgt := 55) (q := 21) C d_Md_treat_18 (by decide) rfl ?_ ?_
  · refine r_sub (lv' := [(0, vA (some a)), (1, vI x1), (2, vI n37)]) [2, 3, 1] rfl ?_
    exact s_Md_treat_55 C a x1 n37
  · refine r_aload_n (q := 22) (i := 0) (pl := 2) C d_Md_treat_21 rfl rfl rfl ?_
    refine r_iload_n (q := 23) (i := 1) (pl := 3) C d_Md_treat_22 rfl rfl rfl ?_
    refine r_iload_n (q := 24) (i := 3) (pl := 0) C d_Md_treat_23 rfl rfl rfl ?_
    refine r_iconst (q := 25) (v := 1) C d_Md_treat_24 rfl (by decide) ?_
    refine r_iadd (q := 26) C d_Md_treat_25 rfl ?_
    refine r_cvV (q := 29) (As := [vI x1, vI (v41 + (1 : Int32))]) (st := []) (cy := 11) C d_Md_treat_26 rfl Y_Md_acknowledge L_Md_298 I_Md_acknowledge Se_Md_acknowledge rfl (by decide) rfl (Nat.le_of_ble_eq_true rfl) (Nat.le_of_ble_eq_true rfl) (Nat.le_of_ble_eq_true rfl) rfl (fun a42 => con_Md_acknowledge a42 x1 (v41 + (1 : Int32))) ?_
    refine r_aload_n (q := 30) (i := 0) (pl := 2) C d_Md_treat_29 rfl rfl rfl ?_
    refine r_gR (q := 33) C d_Md_treat_30 rfl F_Md_53 rfl (fun v44 => ?_)
    refine r_iload_n (q := 34) (i := 1) (pl := 3) C d_Md_treat_33 rfl rfl rfl ?_
    refine r_aload_n (q := 35) (i := 0) (pl := 2) C d_Md_treat_34 rfl rfl rfl ?_
    refine r_gR (q := 38) C d_Md_treat_35 rfl F_Md_75 rfl (fun v45 => ?_)
    refine r_iload_n (q := 39) (i := 1) (pl := 3) C d_Md_treat_38 rfl rfl rfl ?_
    refine r_aI (q := 40) C (Or.inr rfl) d_Md_treat_39 rfl (fun v46 => ?_)
    refine r_if_le (tgt := 53) (q := 43) C d_Md_treat_40 (by decide) rfl ?_ ?_
    · refine r_iconst (q := 54) (v := 0) C d_Md_treat_53 rfl (by decide) ?_
      refine r_sub (lv' := [(0, vA (some a)), (1, vI x1), (2, vI n37)]) [2, 3, 1] rfl ?_
      exact s_Md_treat_54 C a x1 n37 v44 x1 (0 : Int32)
    · refine r_aload_n (q := 44) (i := 0) (pl := 2) C d_Md_treat_43 rfl rfl rfl ?_
      refine r_gI (q := 47) C d_Md_treat_44 rfl F_Md_256 rfl (fun v47 => ?_)
      refine r_bipush (q := 49) (v := 20) C d_Md_treat_47 rfl (by decide) ?_
      refine r_iadd (q := 50) C d_Md_treat_49 rfl ?_
      refine r_goto (tgt := 54) C d_Md_treat_50 (by decide) ?_
      refine r_sub (lv' := [(0, vA (some a)), (1, vI x1), (2, vI n37)]) [2, 3, 1] rfl ?_
      exact s_Md_treat_54 C a x1 n37 v44 x1 (v47 + (20 : Int32))
theorem d_Md_serving_0 : decode c_Md_serving 0 = .ok (.aload_n 0, 1) := by decide +kernel
theorem d_Md_serving_1 : decode c_Md_serving 1 = .ok (.getfield 50, 3) := by decide +kernel
theorem d_Md_serving_4 : decode c_Md_serving 4 = .ok (.iload_n 1, 1) := by decide +kernel
theorem d_Md_serving_5 : decode c_Md_serving 5 = .ok (.dup2, 1) := by decide +kernel
theorem d_Md_serving_6 : decode c_Md_serving 6 = .ok (.iaload, 1) := by decide +kernel
theorem d_Md_serving_7 : decode c_Md_serving 7 = .ok (.iconst 1, 1) := by decide +kernel
theorem d_Md_serving_8 : decode c_Md_serving 8 = .ok (.iadd, 1) := by decide +kernel
theorem d_Md_serving_9 : decode c_Md_serving 9 = .ok (.iastore, 1) := by decide +kernel
theorem d_Md_serving_10 : decode c_Md_serving 10 = .ok (.aload_n 0, 1) := by decide +kernel
theorem d_Md_serving_11 : decode c_Md_serving 11 = .ok (.getfield 50, 3) := by decide +kernel
theorem d_Md_serving_14 : decode c_Md_serving 14 = .ok (.iload_n 1, 1) := by decide +kernel
theorem d_Md_serving_15 : decode c_Md_serving 15 = .ok (.iaload, 1) := by decide +kernel
theorem d_Md_serving_16 : decode c_Md_serving 16 = .ok (.bipush 16, 2) := by decide +kernel
theorem d_Md_serving_18 : decode c_Md_serving 18 = .ok (.irem, 1) := by decide +kernel
theorem d_Md_serving_19 : decode c_Md_serving 19 = .ok (.ifCond .ne 22, 3) := by decide +kernel
theorem d_Md_serving_22 : decode c_Md_serving 22 = .ok (.aload_n 0, 1) := by decide +kernel
theorem d_Md_serving_23 : decode c_Md_serving 23 = .ok (.getfield 41, 3) := by decide +kernel
theorem d_Md_serving_26 : decode c_Md_serving 26 = .ok (.iload_n 1, 1) := by decide +kernel
theorem d_Md_serving_27 : decode c_Md_serving 27 = .ok (.iaload, 1) := by decide +kernel
theorem d_Md_serving_28 : decode c_Md_serving 28 = .ok (.ifCond .le 13, 3) := by decide +kernel
theorem d_Md_serving_31 : decode c_Md_serving 31 = .ok (.aload_n 0, 1) := by decide +kernel
theorem d_Md_serving_32 : decode c_Md_serving 32 = .ok (.getfield 41, 3) := by decide +kernel
theorem d_Md_serving_35 : decode c_Md_serving 35 = .ok (.iload_n 1, 1) := by decide +kernel
theorem d_Md_serving_36 : decode c_Md_serving 36 = .ok (.dup2, 1) := by decide +kernel
theorem d_Md_serving_37 : decode c_Md_serving 37 = .ok (.iaload, 1) := by decide +kernel
theorem d_Md_serving_38 : decode c_Md_serving 38 = .ok (.iconst 1, 1) := by decide +kernel
theorem d_Md_serving_39 : decode c_Md_serving 39 = .ok (.isub, 1) := by decide +kernel
theorem d_Md_serving_40 : decode c_Md_serving 40 = .ok (.iastore, 1) := by decide +kernel
theorem d_Md_serving_41 : decode c_Md_serving 41 = .ok (.iload_n 2, 1) := by decide +kernel
theorem d_Md_serving_42 : decode c_Md_serving 42 = .ok (.ifCond .eq 31, 3) := by decide +kernel
theorem d_Md_serving_45 : decode c_Md_serving 45 = .ok (.aload_n 0, 1) := by decide +kernel
theorem d_Md_serving_46 : decode c_Md_serving 46 = .ok (.getfield 41, 3) := by decide +kernel
theorem d_Md_serving_49 : decode c_Md_serving 49 = .ok (.iload_n 1, 1) := by decide +kernel
theorem d_Md_serving_50 : decode c_Md_serving 50 = .ok (.dup2, 1) := by decide +kernel
theorem d_Md_serving_51 : decode c_Md_serving 51 = .ok (.iaload, 1) := by decide +kernel
theorem d_Md_serving_52 : decode c_Md_serving 52 = .ok (.iconst 1, 1) := by decide +kernel
theorem d_Md_serving_53 : decode c_Md_serving 53 = .ok (.iadd, 1) := by decide +kernel
theorem d_Md_serving_54 : decode c_Md_serving 54 = .ok (.iastore, 1) := by decide +kernel
theorem d_Md_serving_55 : decode c_Md_serving 55 = .ok (.aload_n 0, 1) := by decide +kernel
theorem d_Md_serving_56 : decode c_Md_serving 56 = .ok (.getfield 41, 3) := by decide +kernel
theorem d_Md_serving_59 : decode c_Md_serving 59 = .ok (.iload_n 1, 1) := by decide +kernel
theorem d_Md_serving_60 : decode c_Md_serving 60 = .ok (.iaload, 1) := by decide +kernel
theorem d_Md_serving_61 : decode c_Md_serving 61 = .ok (.bipush 6, 2) := by decide +kernel
theorem d_Md_serving_63 : decode c_Md_serving 63 = .ok (.if_icmp .ne 9, 3) := by decide +kernel
theorem d_Md_serving_66 : decode c_Md_serving 66 = .ok (.aload_n 0, 1) := by decide +kernel
theorem d_Md_serving_67 : decode c_Md_serving 67 = .ok (.iload_n 1, 1) := by decide +kernel
theorem d_Md_serving_68 : decode c_Md_serving 68 = .ok (.iconst 0, 1) := by decide +kernel
theorem d_Md_serving_69 : decode c_Md_serving 69 = .ok (.invokevirtual 275, 3) := by decide +kernel
theorem d_Md_serving_72 : decode c_Md_serving 72 = .ok (.return_, 1) := by decide +kernel
theorem d_Md_serving_73 : decode c_Md_serving 73 = .ok (.iload_n 3, 1) := by decide +kernel
theorem d_Md_serving_74 : decode c_Md_serving 74 = .ok (.iconst 4, 1) := by decide +kernel
theorem d_Md_serving_75 : decode c_Md_serving 75 = .ok (.if_icmp .ge 25, 3) := by decide +kernel
theorem d_Md_serving_78 : decode c_Md_serving 78 = .ok (.aload_n 0, 1) := by decide +kernel
theorem d_Md_serving_79 : decode c_Md_serving 79 = .ok (.getfield 23, 3) := by decide +kernel
theorem d_Md_serving_82 : decode c_Md_serving 82 = .ok (.iload_n 1, 1) := by decide +kernel
theorem d_Md_serving_83 : decode c_Md_serving 83 = .ok (.iaload, 1) := by decide +kernel
theorem d_Md_serving_84 : decode c_Md_serving 84 = .ok (.iconst 5, 1) := by decide +kernel
theorem d_Md_serving_85 : decode c_Md_serving 85 = .ok (.if_icmp .eq 8, 3) := by decide +kernel
theorem d_Md_serving_88 : decode c_Md_serving 88 = .ok (.iload_n 3, 1) := by decide +kernel
theorem d_Md_serving_89 : decode c_Md_serving 89 = .ok (.iconst 2, 1) := by decide +kernel
theorem d_Md_serving_90 : decode c_Md_serving 90 = .ok (.if_icmp .ge 9, 3) := by decide +kernel
theorem d_Md_serving_93 : decode c_Md_serving 93 = .ok (.aload_n 0, 1) := by decide +kernel
theorem d_Md_serving_94 : decode c_Md_serving 94 = .ok (.iload_n 1, 1) := by decide +kernel
theorem d_Md_serving_95 : decode c_Md_serving 95 = .ok (.iconst 0, 1) := by decide +kernel
theorem d_Md_serving_96 : decode c_Md_serving 96 = .ok (.invokevirtual 275, 3) := by decide +kernel
theorem d_Md_serving_99 : decode c_Md_serving 99 = .ok (.return_, 1) := by decide +kernel
theorem d_Md_serving_100 : decode c_Md_serving 100 = .ok (.aload_n 0, 1) := by decide +kernel
theorem d_Md_serving_101 : decode c_Md_serving 101 = .ok (.getfield 23, 3) := by decide +kernel
theorem d_Md_serving_104 : decode c_Md_serving 104 = .ok (.iload_n 1, 1) := by decide +kernel
theorem d_Md_serving_105 : decode c_Md_serving 105 = .ok (.iaload, 1) := by decide +kernel
theorem d_Md_serving_106 : decode c_Md_serving 106 = .ok (.iconst 4, 1) := by decide +kernel
theorem d_Md_serving_107 : decode c_Md_serving 107 = .ok (.if_icmp .ne 22, 3) := by decide +kernel
theorem d_Md_serving_110 : decode c_Md_serving 110 = .ok (.aload_n 0, 1) := by decide +kernel
theorem d_Md_serving_111 : decode c_Md_serving 111 = .ok (.getfield 23, 3) := by decide +kernel
theorem d_Md_serving_114 : decode c_Md_serving 114 = .ok (.iload_n 1, 1) := by decide +kernel
theorem d_Md_serving_115 : decode c_Md_serving 115 = .ok (.iconst 5, 1) := by decide +kernel
theorem d_Md_serving_116 : decode c_Md_serving 116 = .ok (.iastore, 1) := by decide +kernel
theorem d_Md_serving_117 : decode c_Md_serving 117 = .ok (.aload_n 0, 1) := by decide +kernel
theorem d_Md_serving_118 : decode c_Md_serving 118 = .ok (.getfield 26, 3) := by decide +kernel
theorem d_Md_serving_121 : decode c_Md_serving 121 = .ok (.iload_n 1, 1) := by decide +kernel
theorem d_Md_serving_122 : decode c_Md_serving 122 = .ok (.iconst 0, 1) := by decide +kernel
theorem d_Md_serving_123 : decode c_Md_serving 123 = .ok (.iastore, 1) := by decide +kernel
theorem d_Md_serving_124 : decode c_Md_serving 124 = .ok (.aload_n 0, 1) := by decide +kernel
theorem d_Md_serving_125 : decode c_Md_serving 125 = .ok (.iload_n 1, 1) := by decide +kernel
theorem d_Md_serving_126 : decode c_Md_serving 126 = .ok (.invokevirtual 289, 3) := by decide +kernel
theorem d_Md_serving_129 : decode c_Md_serving 129 = .ok (.aload_n 0, 1) := by decide +kernel
theorem d_Md_serving_130 : decode c_Md_serving 130 = .ok (.iload_n 1, 1) := by decide +kernel
theorem d_Md_serving_131 : decode c_Md_serving 131 = .ok (.invokevirtual 292, 3) := by decide +kernel
theorem d_Md_serving_134 : decode c_Md_serving 134 = .ok (.return_, 1) := by decide +kernel
def f_Md_serving_72 (a : Nat) : sn_M := r_V
set_option maxHeartbeats 4000000 in
set_option maxRecDepth 100000 in
theorem mono_Md_serving_72 (a : Nat) : sn_Mono (f_Md_serving_72 a) := sn_Mono.rV
set_option maxHeartbeats 4000000 in
set_option maxRecDepth 100000 in
theorem s_Md_serving_72 {X : sn_X} (C : sn_Cx X c_Md_serving "SignalNetworkModel" none "serving" 4 12 302) (a : Nat) : sn_S X 72 [(0, vA (some a))] [] (f_Md_serving_72 a) := by
  unfold f_Md_serving_72
  exact r_vret C d_Md_serving_72 rfl
def f_Md_serving_99 (a : Nat) : sn_M := r_V
set_option maxHeartbeats 4000000 in
set_option maxRecDepth 100000 in
theorem mono_Md_serving_99 (a : Nat) : sn_Mono (f_Md_serving_99 a) := sn_Mono.rV
set_option maxHeartbeats 4000000 in
set_option maxRecDepth 100000 in
theorem s_Md_serving_99 {X : sn_X} (C : sn_Cx X c_Md_serving "SignalNetworkModel" none "serving" 4 12 302) (a : Nat) : sn_S X 99 [(0, vA (some a))] [] (f_Md_serving_99 a) := by
  unfold f_Md_serving_99
  exact r_vret C d_Md_serving_99 rfl
def f_Md_serving_93 (a : Nat) (x1 : Int32) : sn_M := n_n 12 (some a) fun a1 => c_V (f_Md_fail a1 x1 (0 : Int32)) (f_Md_serving_99 a)
set_option maxHeartbeats 4000000 in
set_option maxRecDepth 100000 in
theorem mono_Md_serving_93 (a : Nat) (x1 : Int32) : sn_Mono (f_Md_serving_93 a x1) := sn_Mono.nn (fun a1 => sn_Mono.cV (mono_Md_fail a1 x1 (0 : Int32)) (mono_Md_serving_99 a))
set_option maxHeartbeats 4000000 in
set_option maxRecDepth 100000 in
theorem s_Md_serving_93 {X : sn_X} (C : sn_Cx X c_Md_serving "SignalNetworkModel" none "serving" 4 12 302) (a : Nat) (x1 : Int32) : sn_S X 93 [(0, vA (some a)), (1, vI x1)] [] (f_Md_serving_93 a x1) := by
  unfold f_Md_serving_93
  refine r_aload_n (q := 94) (i := 0) (pl := 0) C d_Md_serving_93 rfl rfl rfl ?_
  refine r_iload_n (q := 95) (i := 1) (pl := 1) C d_Md_serving_94 rfl rfl rfl ?_
  refine r_iconst (q := 96) (v := 0) C d_Md_serving_95 rfl (by decide) ?_
  refine r_cvV (q := 99) (As := [vI x1, vI (0 : Int32)]) (st := []) (cy := 11) C d_Md_serving_96 rfl Y_Md_fail L_Md_275 I_Md_fail Se_Md_fail rfl (by decide) rfl (Nat.le_of_ble_eq_true rfl) (Nat.le_of_ble_eq_true rfl) (Nat.le_of_ble_eq_true rfl) rfl (fun a1 => con_Md_fail a1 x1 (0 : Int32)) ?_
  refine r_sub (lv' := [(0, vA (some a))]) [0] rfl ?_
  exact s_Md_serving_99 C a
def f_Md_serving_129 (a : Nat) (x1 : Int32) : sn_M := n_n 12 (some a) fun a3 => c_V (f_Md_treat a3 x1) (r_V)
set_option maxHeartbeats 4000000 in
set_option maxRecDepth 100000 in
theorem mono_Md_serving_129 (a : Nat) (x1 : Int32) : sn_Mono (f_Md_serving_129 a x1) := sn_Mono.nn (fun a3 => sn_Mono.cV (mono_Md_treat a3 x1) (sn_Mono.rV))
set_option maxHeartbeats 4000000 in
set_option maxRecDepth 100000 in
theorem s_Md_serving_129 {X : sn_X} (C : sn_Cx X c_Md_serving "SignalNetworkModel" none "serving" 4 12 302) (a : Nat) (x1 : Int32) : sn_S X 129 [(0, vA (some a)), (1, vI x1)] [] (f_Md_serving_129 a x1) := by
  unfold f_Md_serving_129
  refine r_aload_n (q := 130) (i := 0) (pl := 0) C d_Md_serving_129 rfl rfl rfl ?_
  refine r_iload_n (q := 131) (i := 1) (pl := 1) C d_Md_serving_130 rfl rfl rfl ?_
  refine r_cvV (q := 134) (As := [vI x1]) (st := []) (cy := 11) C d_Md_serving_131 rfl Y_Md_treat L_Md_292 I_Md_treat Se_Md_treat rfl (by decide) rfl (Nat.le_of_ble_eq_true rfl) (Nat.le_of_ble_eq_true rfl) (Nat.le_of_ble_eq_true rfl) rfl (fun a3 => con_Md_treat a3 x1) ?_
  exact r_vret C d_Md_serving_134 rfl
def f_Md_serving_41 (a : Nat) (x1 : Int32) (x2 : Int32) (x3 : Int32) : sn_M := (if x2 = 0 then (if (4 : Int32) ≤ x3 then g_R 12 10 (some a) fun v5 => a_I 31 v5 x1 fun v6 => (if ¬ v6 = (4 : Int32) then f_Md_serving_129 a x1 else g_R 12 10 (some a) fun v7 => b_I 31 v7 x1 (5 : Int32) (g_R 12 11 (some a) fun v8 => b_I 31 v8 x1 (0 : Int32) (n_n 12 (some a) fun a9 => c_V (f_Md_up a9 x1) (f_Md_serving_129 a x1)))) else g_R 12 10 (some a) fun v11 => a_I 31 v11 x1 fun v12 => (if v12 = (5 : Int32) then f_Md_serving_93 a x1 else (if (2 : Int32) ≤ x3 then f_Md_serving_99 a else f_Md_serving_93 a x1))) else g_R 12 16 (some a) fun v13 => a_I 31 v13 x1 fun v14 => b_I 31 v13 x1 (v14 + (1 : Int32)) (g_R 12 16 (some a) fun v15 => a_I 31 v15 x1 fun v16 => (if ¬ v16 = (6 : Int32) then f_Md_serving_72 a else n_n 12 (some a) fun a17 => c_V (f_Md_fail a17 x1 (0 : Int32)) (f_Md_serving_72 a))))
set_option maxHeartbeats 4000000 in
set_option maxRecDepth 100000 in
theorem mono_Md_serving_41 (a : Nat) (x1 : Int32) (x2 : Int32) (x3 : Int32) : sn_Mono (f_Md_serving_41 a x1 x2 x3) := sn_Mono.ite (sn_Mono.ite (sn_Mono.gR (fun v5 => sn_Mono.aI (fun v6 => sn_Mono.ite (mono_Md_serving_129 a x1) (sn_Mono.gR (fun v7 => sn_Mono.bI (sn_Mono.gR (fun v8 => sn_Mono.bI (sn_Mono.nn (fun a9 => sn_Mono.cV (mono_Md_up a9 x1) (mono_Md_serving_129 a x1)))))))))) (sn_Mono.gR (fun v11 => sn_Mono.aI (fun v12 => sn_Mono.ite (mono_Md_serving_93 a x1) (sn_Mono.ite (mono_Md_serving_99 a) (mono_Md_serving_93 a x1)))))) (sn_Mono.gR (fun v13 => sn_Mono.aI (fun v14 => sn_Mono.bI (sn_Mono.gR (fun v15 => sn_Mono.aI (fun v16 => sn_Mono.ite (mono_Md_serving_72 a) (sn_Mono.nn (fun a17 => sn_Mono.cV (mono_Md_fail a17 x1 (0 : Int32)) (mono_Md_serving_72 a)))))))))
set_option maxHeartbeats 4000000 in
set_option maxRecDepth 100000 in
theorem s_Md_serving_41 {X : sn_X} (C : sn_Cx X c_Md_serving "SignalNetworkModel" none "serving" 4 12 302) (a : Nat) (x1 : Int32) (x2 : Int32) (x3 : Int32) : sn_S X 41 [(0, vA (some a)), (1, vI x1), (2, vI x2), (3, vI x3)] [] (f_Md_serving_41 a x1 x2 x3) := by
  unfold f_Md_serving_41
  refine r_iload_n (q := 42) (i := 2) (pl := 2) C d_Md_serving_41 rfl rfl rfl ?_
  refine r_if_eq (tgt := 73) (q := 45) C d_Md_serving_42 (by decide) rfl ?_ ?_
  · refine r_iload_n (q := 74) (i := 3) (pl := 3) C d_Md_serving_73 rfl rfl rfl ?_
    refine r_iconst (q := 75) (v := 4) C d_Md_serving_74 rfl (by decide) ?_
    refine r_icmp_ge (tgt := 100) (q := 78) C d_Md_serving_75 (by decide) rfl ?_ ?_
    · refine r_aload_n (q := 101) (i := 0) (pl := 0) C d_Md_serving_100 rfl rfl rfl ?_
      refine r_gR (q := 104) C d_Md_serving_101 rfl F_Md_23 rfl (fun v5 => ?_)
      refine r_iload_n (q := 105) (i := 1) (pl := 1) C d_Md_serving_104 rfl rfl rfl ?_
      refine r_aI (q := 106) C (Or.inr rfl) d_Md_serving_105 rfl (fun v6 => ?_)
      refine r_iconst (q := 107) (v := 4) C d_Md_serving_106 rfl (by decide) ?_
      refine r_icmp_ne (tgt := 129) (q := 110) C d_Md_serving_107 (by decide) rfl ?_ ?_
      · refine r_sub (lv' := [(0, vA (some a)), (1, vI x1)]) [0, 1] rfl ?_
        exact s_Md_serving_129 C a x1
      · refine r_aload_n (q := 111) (i := 0) (pl := 0) C d_Md_serving_110 rfl rfl rfl ?_
        refine r_gR (q := 114) C d_Md_serving_111 rfl F_Md_23 rfl (fun v7 => ?_)
        refine r_iload_n (q := 115) (i := 1) (pl := 1) C d_Md_serving_114 rfl rfl rfl ?_
        refine r_iconst (q := 116) (v := 5) C d_Md_serving_115 rfl (by decide) ?_
        refine r_bI (q := 117) C (Or.inr rfl) d_Md_serving_116 rfl ?_
        refine r_aload_n (q := 118) (i := 0) (pl := 0) C d_Md_serving_117 rfl rfl rfl ?_
        refine r_gR (q := 121) C d_Md_serving_118 rfl F_Md_26 rfl (fun v8 => ?_)
        refine r_iload_n (q := 122) (i := 1) (pl := 1) C d_Md_serving_121 rfl rfl rfl ?_
        refine r_iconst (q := 123) (v := 0) C d_Md_serving_122 rfl (by decide) ?_
        refine r_bI (q := 124) C (Or.inr rfl) d_Md_serving_123 rfl ?_
        refine r_aload_n (q := 125) (i := 0) (pl := 0) C d_Md_serving_124 rfl rfl rfl ?_
        refine r_iload_n (q := 126) (i := 1) (pl := 1) C d_Md_serving_125 rfl rfl rfl ?_
        refine r_cvV (q := 129) (As := [vI x1]) (st := []) (cy := 11) C d_Md_serving_126 rfl Y_Md_up L_Md_289 I_Md_up Se_Md_up rfl (by decide) rfl (Nat.le_of_ble_eq_true rfl) (Nat.le_of_ble_eq_true rfl) (Nat.le_of_ble_eq_true rfl) rfl (fun a9 => con_Md_up a9 x1) ?_
        refine r_sub (lv' := [(0, vA (some a)), (1, vI x1)]) [0, 1] rfl ?_
        exact s_Md_serving_129 C a x1
    · refine r_aload_n (q := 79) (i := 0) (pl := 0) C d_Md_serving_78 rfl rfl rfl ?_
      refine r_gR (q := 82) C d_Md_serving_79 rfl F_Md_23 rfl (fun v11 => ?_)
      refine r_iload_n (q := 83) (i := 1) (pl := 1) C d_Md_serving_82 rfl rfl rfl ?_
      refine r_aI (q := 84) C (Or.inr rfl) d_Md_serving_83 rfl (fun v12 => ?_)
      refine r_iconst (q := 85) (v := 5) C d_Md_serving_84 rfl (by decide) ?_
      refine r_icmp_eq (tgt := 93) (q := 88) C d_Md_serving_85 (by decide) rfl ?_ ?_
      · refine r_sub (lv' := [(0, vA (some a)), (1, vI x1)]) [0, 1] rfl ?_
        exact s_Md_serving_93 C a x1
      · refine r_iload_n (q := 89) (i := 3) (pl := 3) C d_Md_serving_88 rfl rfl rfl ?_
        refine r_iconst (q := 90) (v := 2) C d_Md_serving_89 rfl (by decide) ?_
        refine r_icmp_ge (tgt := 99) (q := 93) C d_Md_serving_90 (by decide) rfl ?_ ?_
        · refine r_sub (lv' := [(0, vA (some a))]) [0] rfl ?_
          exact s_Md_serving_99 C a
        · refine r_sub (lv' := [(0, vA (some a)), (1, vI x1)]) [0, 1] rfl ?_
          exact s_Md_serving_93 C a x1
  · refine r_aload_n (q := 46) (i := 0) (pl := 0) C d_Md_serving_45 rfl rfl rfl ?_
    refine r_gR (q := 49) C d_Md_serving_46 rfl F_Md_41 rfl (fun v13 => ?_)
    refine r_iload_n (q := 50) (i := 1) (pl := 1) C d_Md_serving_49 rfl rfl rfl ?_
    refine r_dup2 (q := 51) C d_Md_serving_50 rfl rfl rfl ?_
    refine r_aI (q := 52) C (Or.inr rfl) d_Md_serving_51 rfl (fun v14 => ?_)
    refine r_iconst (q := 53) (v := 1) C d_Md_serving_52 rfl (by decide) ?_
    refine r_iadd (q := 54) C d_Md_serving_53 rfl ?_
    refine r_bI (q := 55) C (Or.inr rfl) d_Md_serving_54 rfl ?_
    refine r_aload_n (q := 56) (i := 0) (pl := 0) C d_Md_serving_55 rfl rfl rfl ?_
    refine r_gR (q := 59) C d_Md_serving_56 rfl F_Md_41 rfl (fun v15 => ?_)
    refine r_iload_n (q := 60) (i := 1) (pl := 1) C d_Md_serving_59 rfl rfl rfl ?_
    refine r_aI (q := 61) C (Or.inr rfl) d_Md_serving_60 rfl (fun v16 => ?_)
    refine r_bipush (q := 63) (v := 6) C d_Md_serving_61 rfl (by decide) ?_
    refine r_icmp_ne (tgt := 72) (q := 66) C d_Md_serving_63 (by decide) rfl ?_ ?_
    · refine r_sub (lv' := [(0, vA (some a))]) [0] rfl ?_
      exact s_Md_serving_72 C a
    · refine r_aload_n (q := 67) (i := 0) (pl := 0) C d_Md_serving_66 rfl rfl rfl ?_
      refine r_iload_n (q := 68) (i := 1) (pl := 1) C d_Md_serving_67 rfl rfl rfl ?_
      refine r_iconst (q := 69) (v := 0) C d_Md_serving_68 rfl (by decide) ?_
      refine r_cvV (q := 72) (As := [vI x1, vI (0 : Int32)]) (st := []) (cy := 11) C d_Md_serving_69 rfl Y_Md_fail L_Md_275 I_Md_fail Se_Md_fail rfl (by decide) rfl (Nat.le_of_ble_eq_true rfl) (Nat.le_of_ble_eq_true rfl) (Nat.le_of_ble_eq_true rfl) rfl (fun a17 => con_Md_fail a17 x1 (0 : Int32)) ?_
      refine r_sub (lv' := [(0, vA (some a))]) [0] rfl ?_
      exact s_Md_serving_72 C a
def f_Md_serving (a : Nat) (x1 : Int32) (x2 : Int32) (x3 : Int32) : sn_M := g_R 12 19 (some a) fun v19 => a_I 31 v19 x1 fun v20 => b_I 31 v19 x1 (v20 + (1 : Int32)) (g_R 12 19 (some a) fun v21 => a_I 31 v21 x1 fun v22 => (if ¬ (v22 % (16 : Int32)) = 0 then f_Md_serving_41 a x1 x2 x3 else g_R 12 16 (some a) fun v23 => a_I 31 v23 x1 fun v24 => (if v24 ≤ 0 then f_Md_serving_41 a x1 x2 x3 else g_R 12 16 (some a) fun v25 => a_I 31 v25 x1 fun v26 => b_I 31 v25 x1 (v26 - (1 : Int32)) (f_Md_serving_41 a x1 x2 x3))))
set_option maxHeartbeats 4000000 in
set_option maxRecDepth 100000 in
theorem mono_Md_serving (a : Nat) (x1 : Int32) (x2 : Int32) (x3 : Int32) : sn_Mono (f_Md_serving a x1 x2 x3) := sn_Mono.gR (fun v19 => sn_Mono.aI (fun v20 => sn_Mono.bI (sn_Mono.gR (fun v21 => sn_Mono.aI (fun v22 => sn_Mono.ite (mono_Md_serving_41 a x1 x2 x3) (sn_Mono.gR (fun v23 => sn_Mono.aI (fun v24 => sn_Mono.ite (mono_Md_serving_41 a x1 x2 x3) (sn_Mono.gR (fun v25 => sn_Mono.aI (fun v26 => sn_Mono.bI (mono_Md_serving_41 a x1 x2 x3))))))))))))
set_option maxHeartbeats 4000000 in
set_option maxRecDepth 100000 in
theorem con_Md_serving (a : Nat) (x1 : Int32) (x2 : Int32) (x3 : Int32) : sn_Con y_Md_serving c_Md_serving 4 none 12 302 [vA (some a), vI x1, vI x2, vI x3] (f_Md_serving a x1 x2 x3) := by
  refine sn_Con.of (by decide +kernel) (by show _ ≤ _; exact Nat.le_of_ble_eq_true rfl) (mono_Md_serving a x1 x2 x3) (fun X C => ?_)
  show sn_S X 0 [(0, vA (some a)), (1, vI x1), (2, vI x2), (3, vI x3)] [] _
  replace C : sn_Cx X c_Md_serving "SignalNetworkModel" none "serving" 4 12 302 := C
  unfold f_Md_serving
  refine r_aload_n (q := 1) (i := 0) (pl := 0) C d_Md_serving_0 rfl rfl rfl ?_
  refine r_gR (q := 4) C d_Md_serving_1 rfl F_Md_50 rfl (fun v19 => ?_)
  refine r_iload_n (q := 5) (i := 1) (pl := 1) C d_Md_serving_4 rfl rfl rfl ?_
  refine r_dup2 (q := 6) C d_Md_serving_5 rfl rfl rfl ?_
  refine r_aI (q := 7) C (Or.inr rfl) d_Md_serving_6 rfl (fun v20 => ?_)
  refine r_iconst (q := 8) (v := 1) C d_Md_serving_7 rfl (by decide) ?_
  refine r_iadd (q := 9) C d_Md_serving_8 rfl ?_
  refine r_bI (q := 10) C (Or.inr rfl) d_Md_serving_9 rfl ?_
  refine r_aload_n (q := 11) (i := 0) (pl := 0) C d_Md_serving_10 rfl rfl rfl ?_
  refine r_gR (q := 14) C d_Md_serving_11 rfl F_Md_50 rfl (fun v21 => ?_)
  refine r_iload_n (q := 15) (i := 1) (pl := 1) C d_Md_serving_14 rfl rfl rfl ?_
  refine r_aI (q := 16) C (Or.inr rfl) d_Md_serving_15 rfl (fun v22 => ?_)
  refine r_bipush (q := 18) (v := 16) C d_Md_serving_16 rfl (by decide) ?_
  refine r_iremc (q := 19) C d_Md_serving_18 rfl (by decide) ?_
  refine r_if_ne (tgt := 41) (q := 22) C d_Md_serving_19 (by decide) rfl ?_ ?_
  · exact s_Md_serving_41 C a x1 x2 x3
  · refine r_aload_n (q := 23) (i := 0) (pl := 0) C d_Md_serving_22 rfl rfl rfl ?_
    refine r_gR (q := 26) C d_Md_serving_23 rfl F_Md_41 rfl (fun v23 => ?_)
    refine r_iload_n (q := 27) (i := 1) (pl := 1) C d_Md_serving_26 rfl rfl rfl ?_
    refine r_aI (q := 28) C (Or.inr rfl) d_Md_serving_27 rfl (fun v24 => ?_)
    refine r_if_le (tgt := 41) (q := 31) C d_Md_serving_28 (by decide) rfl ?_ ?_
    · exact s_Md_serving_41 C a x1 x2 x3
    · refine r_aload_n (q := 32) (i := 0) (pl := 0) C d_Md_serving_31 rfl rfl rfl ?_
      refine r_gR (q := 35) C d_Md_serving_32 rfl F_Md_41 rfl (fun v25 => ?_)
      refine r_iload_n (q := 36) (i := 1) (pl := 1) C d_Md_serving_35 rfl rfl rfl ?_
      refine r_dup2 (q := 37) C d_Md_serving_36 rfl rfl rfl ?_
      refine r_aI (q := 38) C (Or.inr rfl) d_Md_serving_37 rfl (fun v26 => ?_)
      refine r_iconst (q := 39) (v := 1) C d_Md_serving_38 rfl (by decide) ?_
      refine r_isub (q := 40) C d_Md_serving_39 rfl ?_
      refine r_bI (q := 41) C (Or.inr rfl) d_Md_serving_40 rfl ?_
      exact s_Md_serving_41 C a x1 x2 x3
theorem d_Md_arrive_0 : decode c_Md_arrive 0 = .ok (.aload_n 0, 1) := by decide +kernel
theorem d_Md_arrive_1 : decode c_Md_arrive 1 = .ok (.getfield 20, 3) := by decide +kernel
theorem d_Md_arrive_4 : decode c_Md_arrive 4 = .ok (.iload_n 1, 1) := by decide +kernel
theorem d_Md_arrive_5 : decode c_Md_arrive 5 = .ok (.iconst 1, 1) := by decide +kernel
theorem d_Md_arrive_6 : decode c_Md_arrive 6 = .ok (.ishr, 1) := by decide +kernel
theorem d_Md_arrive_7 : decode c_Md_arrive 7 = .ok (.baload, 1) := by decide +kernel
theorem d_Md_arrive_8 : decode c_Md_arrive 8 = .ok (.istore_n 2, 1) := by decide +kernel
theorem d_Md_arrive_9 : decode c_Md_arrive 9 = .ok (.aload_n 0, 1) := by decide +kernel
theorem d_Md_arrive_10 : decode c_Md_arrive 10 = .ok (.getfield 84, 3) := by decide +kernel
theorem d_Md_arrive_13 : decode c_Md_arrive 13 = .ok (.iload_n 1, 1) := by decide +kernel
theorem d_Md_arrive_14 : decode c_Md_arrive 14 = .ok (.iconst 1, 1) := by decide +kernel
theorem d_Md_arrive_15 : decode c_Md_arrive 15 = .ok (.ixor, 1) := by decide +kernel
theorem d_Md_arrive_16 : decode c_Md_arrive 16 = .ok (.iaload, 1) := by decide +kernel
theorem d_Md_arrive_17 : decode c_Md_arrive 17 = .ok (.istore_n 3, 1) := by decide +kernel
theorem d_Md_arrive_18 : decode c_Md_arrive 18 = .ok (.aload_n 0, 1) := by decide +kernel
theorem d_Md_arrive_19 : decode c_Md_arrive 19 = .ok (.getfield 59, 3) := by decide +kernel
theorem d_Md_arrive_22 : decode c_Md_arrive 22 = .ok (.iload_n 1, 1) := by decide +kernel
theorem d_Md_arrive_23 : decode c_Md_arrive 23 = .ok (.iaload, 1) := by decide +kernel
theorem d_Md_arrive_24 : decode c_Md_arrive 24 = .ok (.ifCond .le 15, 3) := by decide +kernel
theorem d_Md_arrive_27 : decode c_Md_arrive 27 = .ok (.aload_n 0, 1) := by decide +kernel
theorem d_Md_arrive_28 : decode c_Md_arrive 28 = .ok (.getfield 59, 3) := by decide +kernel
theorem d_Md_arrive_31 : decode c_Md_arrive 31 = .ok (.iload_n 1, 1) := by decide +kernel
theorem d_Md_arrive_32 : decode c_Md_arrive 32 = .ok (.dup2, 1) := by decide +kernel
theorem d_Md_arrive_33 : decode c_Md_arrive 33 = .ok (.iaload, 1) := by decide +kernel
theorem d_Md_arrive_34 : decode c_Md_arrive 34 = .ok (.iconst 1, 1) := by decide +kernel
theorem d_Md_arrive_35 : decode c_Md_arrive 35 = .ok (.isub, 1) := by decide +kernel
theorem d_Md_arrive_36 : decode c_Md_arrive 36 = .ok (.iastore, 1) := by decide +kernel
theorem d_Md_arrive_37 : decode c_Md_arrive 37 = .ok (.iconst 1, 1) := by decide +kernel
theorem d_Md_arrive_38 : decode c_Md_arrive 38 = .ok (.istore_n 2, 1) := by decide +kernel
theorem d_Md_arrive_39 : decode c_Md_arrive 39 = .ok (.iload_n 2, 1) := by decide +kernel
theorem d_Md_arrive_40 : decode c_Md_arrive 40 = .ok (.ifCond .ne 36, 3) := by decide +kernel
theorem d_Md_arrive_43 : decode c_Md_arrive 43 = .ok (.aload_n 0, 1) := by decide +kernel
theorem d_Md_arrive_44 : decode c_Md_arrive 44 = .ok (.getfield 23, 3) := by decide +kernel
theorem d_Md_arrive_47 : decode c_Md_arrive 47 = .ok (.iload_n 1, 1) := by decide +kernel
theorem d_Md_arrive_48 : decode c_Md_arrive 48 = .ok (.iaload, 1) := by decide +kernel
theorem d_Md_arrive_49 : decode c_Md_arrive 49 = .ok (.ifCond .eq 27, 3) := by decide +kernel
theorem d_Md_arrive_52 : decode c_Md_arrive 52 = .ok (.iload_n 3, 1) := by decide +kernel
theorem d_Md_arrive_53 : decode c_Md_arrive 53 = .ok (.iconst 2, 1) := by decide +kernel
theorem d_Md_arrive_54 : decode c_Md_arrive 54 = .ok (.if_icmp .eq 8, 3) := by decide +kernel
theorem d_Md_arrive_57 : decode c_Md_arrive 57 = .ok (.iload_n 3, 1) := by decide +kernel
theorem d_Md_arrive_58 : decode c_Md_arrive 58 = .ok (.iconst 3, 1) := by decide +kernel
theorem d_Md_arrive_59 : decode c_Md_arrive 59 = .ok (.if_icmp .ne 17, 3) := by decide +kernel
theorem d_Md_arrive_62 : decode c_Md_arrive 62 = .ok (.aload_n 0, 1) := by decide +kernel
theorem d_Md_arrive_63 : decode c_Md_arrive 63 = .ok (.getfield 108, 3) := by decide +kernel
theorem d_Md_arrive_66 : decode c_Md_arrive 66 = .ok (.iload_n 1, 1) := by decide +kernel
theorem d_Md_arrive_67 : decode c_Md_arrive 67 = .ok (.aload_n 0, 1) := by decide +kernel
theorem d_Md_arrive_68 : decode c_Md_arrive 68 = .ok (.getfield 111, 3) := by decide +kernel
theorem d_Md_arrive_71 : decode c_Md_arrive 71 = .ok (.iload_n 1, 1) := by decide +kernel
theorem d_Md_arrive_72 : decode c_Md_arrive 72 = .ok (.iconst 1, 1) := by decide +kernel
theorem d_Md_arrive_73 : decode c_Md_arrive 73 = .ok (.ixor, 1) := by decide +kernel
theorem d_Md_arrive_74 : decode c_Md_arrive 74 = .ok (.iaload, 1) := by decide +kernel
theorem d_Md_arrive_75 : decode c_Md_arrive 75 = .ok (.iastore, 1) := by decide +kernel
theorem d_Md_arrive_76 : decode c_Md_arrive 76 = .ok (.aload_n 0, 1) := by decide +kernel
theorem d_Md_arrive_77 : decode c_Md_arrive 77 = .ok (.getfield 23, 3) := by decide +kernel
theorem d_Md_arrive_80 : decode c_Md_arrive 80 = .ok (.iload_n 1, 1) := by decide +kernel
theorem d_Md_arrive_81 : decode c_Md_arrive 81 = .ok (.iaload, 1) := by decide +kernel
theorem d_Md_arrive_82 : decode c_Md_arrive 82 = .ok (.iconst 1, 1) := by decide +kernel
theorem d_Md_arrive_83 : decode c_Md_arrive 83 = .ok (.if_icmp .ne 25, 3) := by decide +kernel
theorem d_Md_arrive_86 : decode c_Md_arrive 86 = .ok (.iload_n 2, 1) := by decide +kernel
theorem d_Md_arrive_87 : decode c_Md_arrive 87 = .ok (.ifCond .ne 137, 3) := by decide +kernel
theorem d_Md_arrive_90 : decode c_Md_arrive 90 = .ok (.iload_n 3, 1) := by decide +kernel
theorem d_Md_arrive_91 : decode c_Md_arrive 91 = .ok (.iconst 1, 1) := by decide +kernel
theorem d_Md_arrive_92 : decode c_Md_arrive 92 = .ok (.if_icmp .lt 132, 3) := by decide +kernel
theorem d_Md_arrive_95 : decode c_Md_arrive 95 = .ok (.iload_n 3, 1) := by decide +kernel
theorem d_Md_arrive_96 : decode c_Md_arrive 96 = .ok (.iconst 3, 1) := by decide +kernel
theorem d_Md_arrive_97 : decode c_Md_arrive 97 = .ok (.if_icmp .gt 127, 3) := by decide +kernel
theorem d_Md_arrive_100 : decode c_Md_arrive 100 = .ok (.aload_n 0, 1) := by decide +kernel
theorem d_Md_arrive_101 : decode c_Md_arrive 101 = .ok (.iload_n 1, 1) := by decide +kernel
theorem d_Md_arrive_102 : decode c_Md_arrive 102 = .ok (.invokevirtual 272, 3) := by decide +kernel
theorem d_Md_arrive_105 : decode c_Md_arrive 105 = .ok (.goto 119, 3) := by decide +kernel
theorem d_Md_arrive_108 : decode c_Md_arrive 108 = .ok (.aload_n 0, 1) := by decide +kernel
theorem d_Md_arrive_109 : decode c_Md_arrive 109 = .ok (.getfield 23, 3) := by decide +kernel
theorem d_Md_arrive_112 : decode c_Md_arrive 112 = .ok (.iload_n 1, 1) := by decide +kernel
theorem d_Md_arrive_113 : decode c_Md_arrive 113 = .ok (.iaload, 1) := by decide +kernel
theorem d_Md_arrive_114 : decode c_Md_arrive 114 = .ok (.iconst 2, 1) := by decide +kernel
theorem d_Md_arrive_115 : decode c_Md_arrive 115 = .ok (.if_icmp .ne 72, 3) := by decide +kernel
theorem d_Md_arrive_118 : decode c_Md_arrive 118 = .ok (.iload_n 2, 1) := by decide +kernel
theorem d_Md_arrive_119 : decode c_Md_arrive 119 = .ok (.ifCond .ne 13, 3) := by decide +kernel
theorem d_Md_arrive_122 : decode c_Md_arrive 122 = .ok (.iload_n 3, 1) := by decide +kernel
theorem d_Md_arrive_123 : decode c_Md_arrive 123 = .ok (.ifCond .ne 9, 3) := by decide +kernel
theorem d_Md_arrive_126 : decode c_Md_arrive 126 = .ok (.aload_n 0, 1) := by decide +kernel
theorem d_Md_arrive_127 : decode c_Md_arrive 127 = .ok (.iload_n 1, 1) := by decide +kernel
theorem d_Md_arrive_128 : decode c_Md_arrive 128 = .ok (.iconst 0, 1) := by decide +kernel
theorem d_Md_arrive_129 : decode c_Md_arrive 129 = .ok (.invokevirtual 275, 3) := by decide +kernel
theorem d_Md_arrive_132 : decode c_Md_arrive 132 = .ok (.iload_n 2, 1) := by decide +kernel
theorem d_Md_arrive_133 : decode c_Md_arrive 133 = .ok (.ifCond .ne 91, 3) := by decide +kernel
theorem d_Md_arrive_136 : decode c_Md_arrive 136 = .ok (.iload_n 3, 1) := by decide +kernel
theorem d_Md_arrive_137 : decode c_Md_arrive 137 = .ok (.iconst 2, 1) := by decide +kernel
theorem d_Md_arrive_138 : decode c_Md_arrive 138 = .ok (.if_icmp .eq 8, 3) := by decide +kernel
theorem d_Md_arrive_141 : decode c_Md_arrive 141 = .ok (.iload_n 3, 1) := by decide +kernel
theorem d_Md_arrive_142 : decode c_Md_arrive 142 = .ok (.iconst 3, 1) := by decide +kernel
theorem d_Md_arrive_143 : decode c_Md_arrive 143 = .ok (.if_icmp .ne 81, 3) := by decide +kernel
theorem d_Md_arrive_146 : decode c_Md_arrive 146 = .ok (.aload_n 0, 1) := by decide +kernel
theorem d_Md_arrive_147 : decode c_Md_arrive 147 = .ok (.getfield 23, 3) := by decide +kernel
theorem d_Md_arrive_150 : decode c_Md_arrive 150 = .ok (.iload_n 1, 1) := by decide +kernel
theorem d_Md_arrive_151 : decode c_Md_arrive 151 = .ok (.iconst 3, 1) := by decide +kernel
theorem d_Md_arrive_152 : decode c_Md_arrive 152 = .ok (.iastore, 1) := by decide +kernel
theorem d_Md_arrive_153 : decode c_Md_arrive 153 = .ok (.aload_n 0, 1) := by decide +kernel
theorem d_Md_arrive_154 : decode c_Md_arrive 154 = .ok (.getfield 44, 3) := by decide +kernel
theorem d_Md_arrive_157 : decode c_Md_arrive 157 = .ok (.iload_n 1, 1) := by decide +kernel
theorem d_Md_arrive_158 : decode c_Md_arrive 158 = .ok (.iconst 1, 1) := by decide +kernel
theorem d_Md_arrive_159 : decode c_Md_arrive 159 = .ok (.iastore, 1) := by decide +kernel
theorem d_Md_arrive_160 : decode c_Md_arrive 160 = .ok (.aload_n 0, 1) := by decide +kernel
theorem d_Md_arrive_161 : decode c_Md_arrive 161 = .ok (.iload_n 1, 1) := by decide +kernel
theorem d_Md_arrive_162 : decode c_Md_arrive 162 = .ok (.aload_n 0, 1) := by decide +kernel
theorem d_Md_arrive_163 : decode c_Md_arrive 163 = .ok (.getfield 62, 3) := by decide +kernel
theorem d_Md_arrive_166 : decode c_Md_arrive 166 = .ok (.iload_n 1, 1) := by decide +kernel
theorem d_Md_arrive_167 : decode c_Md_arrive 167 = .ok (.baload, 1) := by decide +kernel
theorem d_Md_arrive_168 : decode c_Md_arrive 168 = .ok (.ifCond .ne 8, 3) := by decide +kernel
theorem d_Md_arrive_171 : decode c_Md_arrive 171 = .ok (.iload_n 3, 1) := by decide +kernel
theorem d_Md_arrive_172 : decode c_Md_arrive 172 = .ok (.iconst 3, 1) := by decide +kernel
theorem d_Md_arrive_173 : decode c_Md_arrive 173 = .ok (.if_icmp .ne 7, 3) := by decide +kernel
theorem d_Md_arrive_176 : decode c_Md_arrive 176 = .ok (.iconst 1, 1) := by decide +kernel
theorem d_Md_arrive_177 : decode c_Md_arrive 177 = .ok (.goto 4, 3) := by decide +kernel
theorem d_Md_arrive_180 : decode c_Md_arrive 180 = .ok (.iconst 0, 1) := by decide +kernel
theorem d_Md_arrive_181 : decode c_Md_arrive 181 = .ok (.invokevirtual 279, 3) := by decide +kernel
theorem d_Md_arrive_184 : decode c_Md_arrive 184 = .ok (.goto 40, 3) := by decide +kernel
theorem d_Md_arrive_187 : decode c_Md_arrive 187 = .ok (.aload_n 0, 1) := by decide +kernel
theorem d_Md_arrive_188 : decode c_Md_arrive 188 = .ok (.getfield 23, 3) := by decide +kernel
theorem d_Md_arrive_191 : decode c_Md_arrive 191 = .ok (.iload_n 1, 1) := by decide +kernel
theorem d_Md_arrive_192 : decode c_Md_arrive 192 = .ok (.iaload, 1) := by decide +kernel
theorem d_Md_arrive_193 : decode c_Md_arrive 193 = .ok (.iconst 3, 1) := by decide +kernel
theorem d_Md_arrive_194 : decode c_Md_arrive 194 = .ok (.if_icmp .ne 13, 3) := by decide +kernel
theorem d_Md_arrive_197 : decode c_Md_arrive 197 = .ok (.aload_n 0, 1) := by decide +kernel
theorem d_Md_arrive_198 : decode c_Md_arrive 198 = .ok (.iload_n 1, 1) := by decide +kernel
theorem d_Md_arrive_199 : decode c_Md_arrive 199 = .ok (.iload_n 2, 1) := by decide +kernel
theorem d_Md_arrive_200 : decode c_Md_arrive 200 = .ok (.iload_n 3, 1) := by decide +kernel
theorem d_Md_arrive_201 : decode c_Md_arrive 201 = .ok (.invokevirtual 282, 3) := by decide +kernel
theorem d_Md_arrive_204 : decode c_Md_arrive 204 = .ok (.goto 20, 3) := by decide +kernel
theorem d_Md_arrive_207 : decode c_Md_arrive 207 = .ok (.aload_n 0, 1) := by decide +kernel
theorem d_Md_arrive_208 : decode c_Md_arrive 208 = .ok (.getfield 23, 3) := by decide +kernel
theorem d_Md_arrive_211 : decode c_Md_arrive 211 = .ok (.iload_n 1, 1) := by decide +kernel
theorem d_Md_arrive_212 : decode c_Md_arrive 212 = .ok (.iaload, 1) := by decide +kernel
theorem d_Md_arrive_213 : decode c_Md_arrive 213 = .ok (.iconst 4, 1) := by decide +kernel
theorem d_Md_arrive_214 : decode c_Md_arrive 214 = .ok (.if_icmp .lt 10, 3) := by decide +kernel
theorem d_Md_arrive_217 : decode c_Md_arrive 217 = .ok (.aload_n 0, 1) := by decide +kernel
theorem d_Md_arrive_218 : decode c_Md_arrive 218 = .ok (.iload_n 1, 1) := by decide +kernel
theorem d_Md_arrive_219 : decode c_Md_arrive 219 = .ok (.iload_n 2, 1) := by decide +kernel
theorem d_Md_arrive_220 : decode c_Md_arrive 220 = .ok (.iload_n 3, 1) := by decide +kernel
theorem d_Md_arrive_221 : decode c_Md_arrive 221 = .ok (.invokevirtual 286, 3) := by decide +kernel
theorem d_Md_arrive_224 : decode c_Md_arrive 224 = .ok (.return_, 1) := by decide +kernel
def f_Md_arrive_224 (a : Nat) : sn_M := r_V
set_option maxHeartbeats 4000000 in
set_option maxRecDepth 100000 in
theorem mono_Md_arrive_224 (a : Nat) : sn_Mono (f_Md_arrive_224 a) := sn_Mono.rV
set_option maxHeartbeats 4000000 in
set_option maxRecDepth 100000 in
theorem s_Md_arrive_224 {X : sn_X} (C : sn_Cx X c_Md_arrive "SignalNetworkModel" none "arrive" 4 13 325) (a : Nat) : sn_S X 224 [(0, vA (some a))] [] (f_Md_arrive_224 a) := by
  unfold f_Md_arrive_224
  exact r_vret C d_Md_arrive_224 rfl
def f_Md_arrive_181 (a : Nat) (t0 : Option Nat) (t1 : Int32) (t2 : Int32) : sn_M := n_n 12 t0 fun a1 => c_V (f_Md_prove a1 t1 t2) (f_Md_arrive_224 a)
set_option maxHeartbeats 4000000 in
set_option maxRecDepth 100000 in
theorem mono_Md_arrive_181 (a : Nat) (t0 : Option Nat) (t1 : Int32) (t2 : Int32) : sn_Mono (f_Md_arrive_181 a t0 t1 t2) := sn_Mono.nn (fun a1 => sn_Mono.cV (mono_Md_prove a1 t1 t2) (mono_Md_arrive_224 a))
set_option maxHeartbeats 4000000 in
set_option maxRecDepth 100000 in
theorem s_Md_arrive_181 {X : sn_X} (C : sn_Cx X c_Md_arrive "SignalNetworkModel" none "arrive" 4 13 325) (a : Nat) (t0 : Option Nat) (t1 : Int32) (t2 : Int32) : sn_S X 181 [(0, vA (some a))] [vI t2, vI t1, vA t0] (f_Md_arrive_181 a t0 t1 t2) := by
  unfold f_Md_arrive_181
  refine r_cvV (q := 184) (As := [vI t1, vI t2]) (st := []) (cy := 11) C d_Md_arrive_181 rfl Y_Md_prove L_Md_279 I_Md_prove Se_Md_prove rfl (by decide) rfl (Nat.le_of_ble_eq_true rfl) (Nat.le_of_ble_eq_true rfl) (Nat.le_of_ble_eq_true rfl) rfl (fun a1 => con_Md_prove a1 t1 t2) ?_
  refine r_goto (tgt := 224) C d_Md_arrive_184 (by decide) ?_
  exact s_Md_arrive_224 C a
def f_Md_arrive_176 (a : Nat) (t0 : Option Nat) (t1 : Int32) : sn_M := f_Md_arrive_181 a t0 t1 (1 : Int32)
set_option maxHeartbeats 4000000 in
set_option maxRecDepth 100000 in
theorem mono_Md_arrive_176 (a : Nat) (t0 : Option Nat) (t1 : Int32) : sn_Mono (f_Md_arrive_176 a t0 t1) := mono_Md_arrive_181 a t0 t1 (1 : Int32)
set_option maxHeartbeats 4000000 in
set_option maxRecDepth 100000 in
theorem s_Md_arrive_176 {X : sn_X} (C : sn_Cx X c_Md_arrive "SignalNetworkModel" none "arrive" 4 13 325) (a : Nat) (t0 : Option Nat) (t1 : Int32) : sn_S X 176 [(0, vA (some a))] [vI t1, vA t0] (f_Md_arrive_176 a t0 t1) := by
  unfold f_Md_arrive_176
  refine r_iconst (q := 177) (v := 1) C d_Md_arrive_176 rfl (by decide) ?_
  refine r_goto (tgt := 181) C d_Md_arrive_177 (by decide) ?_
  exact s_Md_arrive_181 C a t0 t1 (1 : Int32)
def f_Md_arrive_146 (a : Nat) (x1 : Int32) (x3 : Int32) : sn_M := g_R 12 10 (some a) fun v3 => b_I 31 v3 x1 (3 : Int32) (g_R 12 17 (some a) fun v4 => b_I 31 v4 x1 (1 : Int32) (g_R 12 23 (some a) fun v5 => a_I 33 v5 x1 fun v6 => (if ¬ v6 = 0 then f_Md_arrive_176 a (some a) x1 else (if ¬ x3 = (3 : Int32) then f_Md_arrive_181 a (some a) x1 (0 : Int32) else f_Md_arrive_176 a (some a) x1))))
set_option maxHeartbeats 4000000 in
set_option maxRecDepth 100000 in
theorem mono_Md_arrive_146 (a : Nat) (x1 : Int32) (x3 : Int32) : sn_Mono (f_Md_arrive_146 a x1 x3) := sn_Mono.gR (fun v3 => sn_Mono.bI (sn_Mono.gR (fun v4 => sn_Mono.bI (sn_Mono.gR (fun v5 => sn_Mono.aI (fun v6 => sn_Mono.ite (mono_Md_arrive_176 a (some a) x1) (sn_Mono.ite (mono_Md_arrive_181 a (some a) x1 (0 : Int32)) (mono_Md_arrive_176 a (some a) x1))))))))
set_option maxHeartbeats 4000000 in
set_option maxRecDepth 100000 in
theorem s_Md_arrive_146 {X : sn_X} (C : sn_Cx X c_Md_arrive "SignalNetworkModel" none "arrive" 4 13 325) (a : Nat) (x1 : Int32) (x3 : Int32) : sn_S X 146 [(0, vA (some a)), (1, vI x1), (3, vI x3)] [] (f_Md_arrive_146 a x1 x3) := by
  unfold f_Md_arrive_146
  refine r_aload_n (q := 147) (i := 0) (pl := 0) C d_Md_arrive_146 rfl rfl rfl ?_
  refine r_gR (q := 150) C d_Md_arrive_147 rfl F_Md_23 rfl (fun v3 => ?_)
  refine r_iload_n (q := 151) (i := 1) (pl := 1) C d_Md_arrive_150 rfl rfl rfl ?_
  refine r_iconst (q := 152) (v := 3) C d_Md_arrive_151 rfl (by decide) ?_
  refine r_bI (q := 153) C (Or.inr rfl) d_Md_arrive_152 rfl ?_
  refine r_aload_n (q := 154) (i := 0) (pl := 0) C d_Md_arrive_153 rfl rfl rfl ?_
  refine r_gR (q := 157) C d_Md_arrive_154 rfl F_Md_44 rfl (fun v4 => ?_)
  refine r_iload_n (q := 158) (i := 1) (pl := 1) C d_Md_arrive_157 rfl rfl rfl ?_
  refine r_iconst (q := 159) (v := 1) C d_Md_arrive_158 rfl (by decide) ?_
  refine r_bI (q := 160) C (Or.inr rfl) d_Md_arrive_159 rfl ?_
  refine r_aload_n (q := 161) (i := 0) (pl := 0) C d_Md_arrive_160 rfl rfl rfl ?_
  refine r_iload_n (q := 162) (i := 1) (pl := 1) C d_Md_arrive_161 rfl rfl rfl ?_
  refine r_aload_n (q := 163) (i := 0) (pl := 0) C d_Md_arrive_162 rfl rfl rfl ?_
  refine r_gR (q := 166) C d_Md_arrive_163 rfl F_Md_62 rfl (fun v5 => ?_)
  refine r_iload_n (q := 167) (i := 1) (pl := 1) C d_Md_arrive_166 rfl rfl rfl ?_
  refine r_aZ (q := 168) C (Or.inr rfl) d_Md_arrive_167 rfl (fun v6 => ?_)
  refine r_if_ne (tgt := 176) (q := 171) C d_Md_arrive_168 (by decide) rfl ?_ ?_
  · refine r_sub (lv' := [(0, vA (some a))]) [0] rfl ?_
    exact s_Md_arrive_176 C a (some a) x1
  · refine r_iload_n (q := 172) (i := 3) (pl := 2) C d_Md_arrive_171 rfl rfl rfl ?_
    refine r_iconst (q := 173) (v := 3) C d_Md_arrive_172 rfl (by decide) ?_
    refine r_icmp_ne (tgt := 180) (q := 176) C d_Md_arrive_173 (by decide) rfl ?_ ?_
    · refine r_iconst (q := 181) (v := 0) C d_Md_arrive_180 rfl (by decide) ?_
      refine r_sub (lv' := [(0, vA (some a))]) [0] rfl ?_
      exact s_Md_arrive_181 C a (some a) x1 (0 : Int32)
    · refine r_sub (lv' := [(0, vA (some a))]) [0] rfl ?_
      exact s_Md_arrive_176 C a (some a) x1
def f_Md_arrive_132 (a : Nat) (x1 : Int32) (x2 : Int32) (x3 : Int32) : sn_M := (if ¬ x2 = 0 then f_Md_arrive_224 a else (if x3 = (2 : Int32) then f_Md_arrive_146 a x1 x3 else (if ¬ x3 = (3 : Int32) then f_Md_arrive_224 a else f_Md_arrive_146 a x1 x3)))
set_option maxHeartbeats 4000000 in
set_option maxRecDepth 100000 in
theorem mono_Md_arrive_132 (a : Nat) (x1 : Int32) (x2 : Int32) (x3 : Int32) : sn_Mono (f_Md_arrive_132 a x1 x2 x3) := sn_Mono.ite (mono_Md_arrive_224 a) (sn_Mono.ite (mono_Md_arrive_146 a x1 x3) (sn_Mono.ite (mono_Md_arrive_224 a) (mono_Md_arrive_146 a x1 x3)))
set_option maxHeartbeats 4000000 in
set_option maxRecDepth 100000 in
theorem s_Md_arrive_132 {X : sn_X} (C : sn_Cx X c_Md_arrive "SignalNetworkModel" none "arrive" 4 13 325) (a : Nat) (x1 : Int32) (x2 : Int32) (x3 : Int32) : sn_S X 132 [(0, vA (some a)), (1, vI x1), (2, vI x2), (3, vI x3)] [] (f_Md_arrive_132 a x1 x2 x3) := by
  unfold f_Md_arrive_132
  refine r_iload_n (q := 133) (i := 2) (pl := 2) C d_Md_arrive_132 rfl rfl rfl ?_
  refine r_if_ne (tgt := 224) (q := 136) C d_Md_arrive_133 (by decide) rfl ?_ ?_
  · refine r_sub (lv' := [(0, vA (some a))]) [0] rfl ?_
    exact s_Md_arrive_224 C a
  · refine r_iload_n (q := 137) (i := 3) (pl := 3) C d_Md_arrive_136 rfl rfl rfl ?_
    refine r_iconst (q := 138) (v := 2) C d_Md_arrive_137 rfl (by decide) ?_
    refine r_icmp_eq (tgt := 146) (q := 141) C d_Md_arrive_138 (by decide) rfl ?_ ?_
    · refine r_sub (lv' := [(0, vA (some a)), (1, vI x1), (3, vI x3)]) [0, 1, 3] rfl ?_
      exact s_Md_arrive_146 C a x1 x3
    · refine r_iload_n (q := 142) (i := 3) (pl := 3) C d_Md_arrive_141 rfl rfl rfl ?_
      refine r_iconst (q := 143) (v := 3) C d_Md_arrive_142 rfl (by decide) ?_
      refine r_icmp_ne (tgt := 224) (q := 146) C d_Md_arrive_143 (by decide) rfl ?_ ?_
      · refine r_sub (lv' := [(0, vA (some a))]) [0] rfl ?_
        exact s_Md_arrive_224 C a
      · refine r_sub (lv' := [(0, vA (some a)), (1, vI x1), (3, vI x3)]) [0, 1, 3] rfl ?_
        exact s_Md_arrive_146 C a x1 x3
def f_Md_arrive_76 (a : Nat) (x1 : Int32) (x2 : Int32) (x3 : Int32) : sn_M := g_R 12 10 (some a) fun v7 => a_I 31 v7 x1 fun v8 => (if ¬ v8 = (1 : Int32) then g_R 12 10 (some a) fun v9 => a_I 31 v9 x1 fun v10 => (if ¬ v10 = (2 : Int32) then g_R 12 10 (some a) fun v11 => a_I 31 v11 x1 fun v12 => (if ¬ v12 = (3 : Int32) then g_R 12 10 (some a) fun v13 => a_I 31 v13 x1 fun v14 => (if v14 < (4 : Int32) then f_Md_arrive_224 a else n_n 12 (some a) fun a15 => c_V (f_Md_serving a15 x1 x2 x3) (f_Md_arrive_224 a)) else n_n 12 (some a) fun a17 => c_V (f_Md_proving a17 x1 x2 x3) (f_Md_arrive_224 a)) else (if ¬ x2 = 0 then f_Md_arrive_132 a x1 x2 x3 else (if ¬ x3 = 0 then f_Md_arrive_132 a x1 x2 x3 else n_n 12 (some a) fun a19 => c_V (f_Md_fail a19 x1 (0 : Int32)) (f_Md_arrive_132 a x1 x2 x3)))) else (if ¬ x2 = 0 then f_Md_arrive_224 a else (if x3 < (1 : Int32) then f_Md_arrive_224 a else (if (3 : Int32) < x3 then f_Md_arrive_224 a else n_n 12 (some a) fun a21 => c_V (f_Md_align a21 x1) (f_Md_arrive_224 a)))))
set_option maxHeartbeats 4000000 in
set_option maxRecDepth 100000 in
theorem mono_Md_arrive_76 (a : Nat) (x1 : Int32) (x2 : Int32) (x3 : Int32) : sn_Mono (f_Md_arrive_76 a x1 x2 x3) := sn_Mono.gR (fun v7 => sn_Mono.aI (fun v8 => sn_Mono.ite (sn_Mono.gR (fun v9 => sn_Mono.aI (fun v10 => sn_Mono.ite (sn_Mono.gR (fun v11 => sn_Mono.aI (fun v12 => sn_Mono.ite (sn_Mono.gR (fun v13 => sn_Mono.aI (fun v14 => sn_Mono.ite (mono_Md_arrive_224 a) (sn_Mono.nn (fun a15 => sn_Mono.cV (mono_Md_serving a15 x1 x2 x3) (mono_Md_arrive_224 a)))))) (sn_Mono.nn (fun a17 => sn_Mono.cV (mono_Md_proving a17 x1 x2 x3) (mono_Md_arrive_224 a)))))) (sn_Mono.ite (mono_Md_arrive_132 a x1 x2 x3) (sn_Mono.ite (mono_Md_arrive_132 a x1 x2 x3) (sn_Mono.nn (fun a19 => sn_Mono.cV (mono_Md_fail a19 x1 (0 : Int32)) (mono_Md_arrive_132 a x1 x2 x3)))))))) (sn_Mono.ite (mono_Md_arrive_224 a) (sn_Mono.ite (mono_Md_arrive_224 a) (sn_Mono.ite (mono_Md_arrive_224 a) (sn_Mono.nn (fun a21 => sn_Mono.cV (mono_Md_align a21 x1) (mono_Md_arrive_224 a))))))))
set_option maxHeartbeats 4000000 in
set_option maxRecDepth 100000 in
theorem s_Md_arrive_76 {X : sn_X} (C : sn_Cx X c_Md_arrive "SignalNetworkModel" none "arrive" 4 13 325) (a : Nat) (x1 : Int32) (x2 : Int32) (x3 : Int32) : sn_S X 76 [(0, vA (some a)), (1, vI x1), (2, vI x2), (3, vI x3)] [] (f_Md_arrive_76 a x1 x2 x3) := by
  unfold f_Md_arrive_76
  refine r_aload_n (q := 77) (i := 0) (pl := 0) C d_Md_arrive_76 rfl rfl rfl ?_
  refine r_gR (q := 80) C d_Md_arrive_77 rfl F_Md_23 rfl (fun v7 => ?_)
  refine r_iload_n (q := 81) (i := 1) (pl := 1) C d_Md_arrive_80 rfl rfl rfl ?_
  refine r_aI (q := 82) C (Or.inr rfl) d_Md_arrive_81 rfl (fun v8 => ?_)
  refine r_iconst (q := 83) (v := 1) C d_Md_arrive_82 rfl (by decide) ?_
  refine r_icmp_ne (tgt := 108) (q := 86) C d_Md_arrive_83 (by decide) rfl ?_ ?_
  · refine r_aload_n (q := 109) (i := 0) (pl := 0) C d_Md_arrive_108 rfl rfl rfl ?_
    refine r_gR (q := 112) C d_Md_arrive_109 rfl F_Md_23 rfl (fun v9 => ?_)
    refine r_iload_n (q := 113) (i := 1) (pl := 1) C d_Md_arrive_112 rfl rfl rfl ?_
    refine r_aI (q := 114) C (Or.inr rfl) d_Md_arrive_113 rfl (fun v10 => ?_)
    refine r_iconst (q := 115) (v := 2) C d_Md_arrive_114 rfl (by decide) ?_
    refine r_icmp_ne (tgt := 187) (q := 118) C d_Md_arrive_115 (by decide) rfl ?_ ?_
    · refine r_aload_n (q := 188) (i := 0) (pl := 0) C d_Md_arrive_187 rfl rfl rfl ?_
      refine r_gR (q := 191) C d_Md_arrive_188 rfl F_Md_23 rfl (fun v11 => ?_)
      refine r_iload_n (q := 192) (i := 1) (pl := 1) C d_Md_arrive_191 rfl rfl rfl ?_
      refine r_aI (q := 193) C (Or.inr rfl) d_Md_arrive_192 rfl (fun v12 => ?_)
      refine r_iconst (q := 194) (v := 3) C d_Md_arrive_193 rfl (by decide) ?_
      refine r_icmp_ne (tgt := 207) (q := 197) C d_Md_arrive_194 (by decide) rfl ?_ ?_
      · refine r_aload_n (q := 208) (i := 0) (pl := 0) C d_Md_arrive_207 rfl rfl rfl ?_
        refine r_gR (q := 211) C d_Md_arrive_208 rfl F_Md_23 rfl (fun v13 => ?_)
        refine r_iload_n (q := 212) (i := 1) (pl := 1) C d_Md_arrive_211 rfl rfl rfl ?_
        refine r_aI (q := 213) C (Or.inr rfl) d_Md_arrive_212 rfl (fun v14 => ?_)
        refine r_iconst (q := 214) (v := 4) C d_Md_arrive_213 rfl (by decide) ?_
        refine r_icmp_lt (tgt := 224) (q := 217) C d_Md_arrive_214 (by decide) rfl ?_ ?_
        · refine r_sub (lv' := [(0, vA (some a))]) [0] rfl ?_
          exact s_Md_arrive_224 C a
        · refine r_aload_n (q := 218) (i := 0) (pl := 0) C d_Md_arrive_217 rfl rfl rfl ?_
          refine r_iload_n (q := 219) (i := 1) (pl := 1) C d_Md_arrive_218 rfl rfl rfl ?_
          refine r_iload_n (q := 220) (i := 2) (pl := 2) C d_Md_arrive_219 rfl rfl rfl ?_
          refine r_iload_n (q := 221) (i := 3) (pl := 3) C d_Md_arrive_220 rfl rfl rfl ?_
          refine r_cvV (q := 224) (As := [vI x1, vI x2, vI x3]) (st := []) (cy := 11) C d_Md_arrive_221 rfl Y_Md_serving L_Md_286 I_Md_serving Se_Md_serving rfl (by decide) rfl (Nat.le_of_ble_eq_true rfl) (Nat.le_of_ble_eq_true rfl) (Nat.le_of_ble_eq_true rfl) rfl (fun a15 => con_Md_serving a15 x1 x2 x3) ?_
          refine r_sub (lv' := [(0, vA (some a))]) [0] rfl ?_
          exact s_Md_arrive_224 C a
      · refine r_aload_n (q := 198) (i := 0) (pl := 0) C d_Md_arrive_197 rfl rfl rfl ?_
        refine r_iload_n (q := 199) (i := 1) (pl := 1) C d_Md_arrive_198 rfl rfl rfl ?_
        refine r_iload_n (q := 200) (i := 2) (pl := 2) C d_Md_arrive_199 rfl rfl rfl ?_
        refine r_iload_n (q := 201) (i := 3) (pl := 3) C d_Md_arrive_200 rfl rfl rfl ?_
        refine r_cvV (q := 204) (As := [vI x1, vI x2, vI x3]) (st := []) (cy := 11) C d_Md_arrive_201 rfl Y_Md_proving L_Md_282 I_Md_proving Se_Md_proving rfl (by decide) rfl (Nat.le_of_ble_eq_true rfl) (Nat.le_of_ble_eq_true rfl) (Nat.le_of_ble_eq_true rfl) rfl (fun a17 => con_Md_proving a17 x1 x2 x3) ?_
        refine r_goto (tgt := 224) C d_Md_arrive_204 (by decide) ?_
        refine r_sub (lv' := [(0, vA (some a))]) [0] rfl ?_
        exact s_Md_arrive_224 C a
    · refine r_iload_n (q := 119) (i := 2) (pl := 2) C d_Md_arrive_118 rfl rfl rfl ?_
      refine r_if_ne (tgt := 132) (q := 122) C d_Md_arrive_119 (by decide) rfl ?_ ?_
      · exact s_Md_arrive_132 C a x1 x2 x3
      · refine r_iload_n (q := 123) (i := 3) (pl := 3) C d_Md_arrive_122 rfl rfl rfl ?_
        refine r_if_ne (tgt := 132) (q := 126) C d_Md_arrive_123 (by decide) rfl ?_ ?_
        · exact s_Md_arrive_132 C a x1 x2 x3
        · refine r_aload_n (q := 127) (i := 0) (pl := 0) C d_Md_arrive_126 rfl rfl rfl ?_
          refine r_iload_n (q := 128) (i := 1) (pl := 1) C d_Md_arrive_127 rfl rfl rfl ?_
          refine r_iconst (q := 129) (v := 0) C d_Md_arrive_128 rfl (by decide) ?_
          refine r_cvV (q := 132) (As := [vI x1, vI (0 : Int32)]) (st := []) (cy := 11) C d_Md_arrive_129 rfl Y_Md_fail L_Md_275 I_Md_fail Se_Md_fail rfl (by decide) rfl (Nat.le_of_ble_eq_true rfl) (Nat.le_of_ble_eq_true rfl) (Nat.le_of_ble_eq_true rfl) rfl (fun a19 => con_Md_fail a19 x1 (0 : Int32)) ?_
          exact s_Md_arrive_132 C a x1 x2 x3
  · refine r_iload_n (q := 87) (i := 2) (pl := 2) C d_Md_arrive_86 rfl rfl rfl ?_
    refine r_if_ne (tgt := 224) (q := 90) C d_Md_arrive_87 (by decide) rfl ?_ ?_
    · refine r_sub (lv' := [(0, vA (some a))]) [0] rfl ?_
      exact s_Md_arrive_224 C a
    · refine r_iload_n (q := 91) (i := 3) (pl := 3) C d_Md_arrive_90 rfl rfl rfl ?_
      refine r_iconst (q := 92) (v := 1) C d_Md_arrive_91 rfl (by decide) ?_
      refine r_icmp_lt (tgt := 224) (q := 95) C d_Md_arrive_92 (by decide) rfl ?_ ?_
      · refine r_sub (lv' := [(0, vA (some a))]) [0] rfl ?_
        exact s_Md_arrive_224 C a
      · refine r_iload_n (q := 96) (i := 3) (pl := 3) C d_Md_arrive_95 rfl rfl rfl ?_
        refine r_iconst (q := 97) (v := 3) C d_Md_arrive_96 rfl (by decide) ?_
        refine r_icmp_gt (tgt := 224) (q := 100) C d_Md_arrive_97 (by decide) rfl ?_ ?_
        · refine r_sub (lv' := [(0, vA (some a))]) [0] rfl ?_
          exact s_Md_arrive_224 C a
        · refine r_aload_n (q := 101) (i := 0) (pl := 0) C d_Md_arrive_100 rfl rfl rfl ?_
          refine r_iload_n (q := 102) (i := 1) (pl := 1) C d_Md_arrive_101 rfl rfl rfl ?_
          refine r_cvV (q := 105) (As := [vI x1]) (st := []) (cy := 11) C d_Md_arrive_102 rfl Y_Md_align L_Md_272 I_Md_align Se_Md_align rfl (by decide) rfl (Nat.le_of_ble_eq_true rfl) (Nat.le_of_ble_eq_true rfl) (Nat.le_of_ble_eq_true rfl) rfl (fun a21 => con_Md_align a21 x1) ?_
          refine r_goto (tgt := 224) C d_Md_arrive_105 (by decide) ?_
          refine r_sub (lv' := [(0, vA (some a))]) [0] rfl ?_
          exact s_Md_arrive_224 C a
def f_Md_arrive_62 (a : Nat) (x1 : Int32) (x2 : Int32) (x3 : Int32) : sn_M := g_R 12 38 (some a) fun v23 => g_R 12 39 (some a) fun v24 => a_I 31 v24 (x1 ^^^ (1 : Int32)) fun v25 => b_I 31 v23 x1 v25 (f_Md_arrive_76 a x1 x2 x3)
set_option maxHeartbeats 4000000 in
set_option maxRecDepth 100000 in
theorem mono_Md_arrive_62 (a : Nat) (x1 : Int32) (x2 : Int32) (x3 : Int32) : sn_Mono (f_Md_arrive_62 a x1 x2 x3) := sn_Mono.gR (fun v23 => sn_Mono.gR (fun v24 => sn_Mono.aI (fun v25 => sn_Mono.bI (mono_Md_arrive_76 a x1 x2 x3))))
set_option maxHeartbeats 4000000 in
set_option maxRecDepth 100000 in
theorem s_Md_arrive_62 {X : sn_X} (C : sn_Cx X c_Md_arrive "SignalNetworkModel" none "arrive" 4 13 325) (a : Nat) (x1 : Int32) (x2 : Int32) (x3 : Int32) : sn_S X 62 [(0, vA (some a)), (1, vI x1), (2, vI x2), (3, vI x3)] [] (f_Md_arrive_62 a x1 x2 x3) := by
  unfold f_Md_arrive_62
  refine r_aload_n (q := 63) (i := 0) (pl := 0) C d_Md_arrive_62 rfl rfl rfl ?_
  refine r_gR (q := 66) C d_Md_arrive_63 rfl F_Md_108 rfl (fun v23 => ?_)
  refine r_iload_n (q := 67) (i := 1) (pl := 1) C d_Md_arrive_66 rfl rfl rfl ?_
  refine r_aload_n (q := 68) (i := 0) (pl := 0) C d_Md_arrive_67 rfl rfl rfl ?_
  refine r_gR (q := 71) C d_Md_arrive_68 rfl F_Md_111 rfl (fun v24 => ?_)
  refine r_iload_n (q := 72) (i := 1) (pl := 1) C d_Md_arrive_71 rfl rfl rfl ?_
  refine r_iconst (q := 73) (v := 1) C d_Md_arrive_72 rfl (by decide) ?_
  refine r_ixor (q := 74) C d_Md_arrive_73 rfl ?_
  refine r_aI (q := 75) C (Or.inr rfl) d_Md_arrive_74 rfl (fun v25 => ?_)
  refine r_bI (q := 76) C (Or.inr rfl) d_Md_arrive_75 rfl ?_
  exact s_Md_arrive_76 C a x1 x2 x3
def f_Md_arrive_39 (a : Nat) (x1 : Int32) (x2 : Int32) (x3 : Int32) : sn_M := (if ¬ x2 = 0 then f_Md_arrive_76 a x1 x2 x3 else g_R 12 10 (some a) fun v26 => a_I 31 v26 x1 fun v27 => (if v27 = 0 then f_Md_arrive_76 a x1 x2 x3 else (if x3 = (2 : Int32) then f_Md_arrive_62 a x1 x2 x3 else (if ¬ x3 = (3 : Int32) then f_Md_arrive_76 a x1 x2 x3 else f_Md_arrive_62 a x1 x2 x3))))
set_option maxHeartbeats 4000000 in
set_option maxRecDepth 100000 in
theorem mono_Md_arrive_39 (a : Nat) (x1 : Int32) (x2 : Int32) (x3 : Int32) : sn_Mono (f_Md_arrive_39 a x1 x2 x3) := sn_Mono.ite (mono_Md_arrive_76 a x1 x2 x3) (sn_Mono.gR (fun v26 => sn_Mono.aI (fun v27 => sn_Mono.ite (mono_Md_arrive_76 a x1 x2 x3) (sn_Mono.ite (mono_Md_arrive_62 a x1 x2 x3) (sn_Mono.ite (mono_Md_arrive_76 a x1 x2 x3) (mono_Md_arrive_62 a x1 x2 x3))))))
set_option maxHeartbeats 4000000 in
set_option maxRecDepth 100000 in
theorem s_Md_arrive_39 {X : sn_X} (C : sn_Cx X c_Md_arrive "SignalNetworkModel" none "arrive" 4 13 325) (a : Nat) (x1 : Int32) (x2 : Int32) (x3 : Int32) : sn_S X 39 [(0, vA (some a)), (1, vI x1), (2, vI x2), (3, vI x3)] [] (f_Md_arrive_39 a x1 x2 x3) := by
  unfold f_Md_arrive_39
  refine r_iload_n (q := 40) (i := 2) (pl := 2) C d_Md_arrive_39 rfl rfl rfl ?_
  refine r_if_ne (tgt := 76) (q := 43) C d_Md_arrive_40 (by decide) rfl ?_ ?_
  · exact s_Md_arrive_76 C a x1 x2 x3
  · refine r_aload_n (q := 44) (i := 0) (pl := 0) C d_Md_arrive_43 rfl rfl rfl ?_
    refine r_gR (q := 47) C d_Md_arrive_44 rfl F_Md_23 rfl (fun v26 => ?_)
    refine r_iload_n (q := 48) (i := 1) (pl := 1) C d_Md_arrive_47 rfl rfl rfl ?_
    refine r_aI (q := 49) C (Or.inr rfl) d_Md_arrive_48 rfl (fun v27 => ?_)
    refine r_if_eq (tgt := 76) (q := 52) C d_Md_arrive_49 (by decide) rfl ?_ ?_
    · exact s_Md_arrive_76 C a x1 x2 x3
    · refine r_iload_n (q := 53) (i := 3) (pl := 3) C d_Md_arrive_52 rfl rfl rfl ?_
      refine r_iconst (q := 54) (v := 2) C d_Md_arrive_53 rfl (by decide) ?_
      refine r_icmp_eq (tgt := 62) (q := 57) C d_Md_arrive_54 (by decide) rfl ?_ ?_
      · exact s_Md_arrive_62 C a x1 x2 x3
      · refine r_iload_n (q := 58) (i := 3) (pl := 3) C d_Md_arrive_57 rfl rfl rfl ?_
        refine r_iconst (q := 59) (v := 3) C d_Md_arrive_58 rfl (by decide) ?_
        refine r_icmp_ne (tgt := 76) (q := 62) C d_Md_arrive_59 (by decide) rfl ?_ ?_
        · exact s_Md_arrive_76 C a x1 x2 x3
        · exact s_Md_arrive_62 C a x1 x2 x3
def f_Md_arrive (a : Nat) (x1 : Int32) : sn_M := g_R 12 3 (some a) fun v28 => a_I 33 v28 (x1 >>> ((1 : Int32) &&& 31)) fun v29 => g_R 12 30 (some a) fun v30 => a_I 31 v30 (x1 ^^^ (1 : Int32)) fun v31 => g_R 12 22 (some a) fun v32 => a_I 31 v32 x1 fun v33 => (if v33 ≤ 0 then f_Md_arrive_39 a x1 v29 v31 else g_R 12 22 (some a) fun v34 => a_I 31 v34 x1 fun v35 => b_I 31 v34 x1 (v35 - (1 : Int32)) (f_Md_arrive_39 a x1 (1 : Int32) v31))
set_option maxHeartbeats 4000000 in
set_option maxRecDepth 100000 in
theorem mono_Md_arrive (a : Nat) (x1 : Int32) : sn_Mono (f_Md_arrive a x1) := sn_Mono.gR (fun v28 => sn_Mono.aI (fun v29 => sn_Mono.gR (fun v30 => sn_Mono.aI (fun v31 => sn_Mono.gR (fun v32 => sn_Mono.aI (fun v33 => sn_Mono.ite (mono_Md_arrive_39 a x1 v29 v31) (sn_Mono.gR (fun v34 => sn_Mono.aI (fun v35 => sn_Mono.bI (mono_Md_arrive_39 a x1 (1 : Int32) v31))))))))))
set_option maxHeartbeats 4000000 in
set_option maxRecDepth 100000 in
theorem con_Md_arrive (a : Nat) (x1 : Int32) : sn_Con y_Md_arrive c_Md_arrive 4 none 13 325 [vA (some a), vI x1] (f_Md_arrive a x1) := by
  refine sn_Con.of (by decide +kernel) (by show _ ≤ _; exact Nat.le_of_ble_eq_true rfl) (mono_Md_arrive a x1) (fun X C => ?_)
  show sn_S X 0 [(0, vA (some a)), (1, vI x1)] [] _
  replace C : sn_Cx X c_Md_arrive "SignalNetworkModel" none "arrive" 4 13 325 := C
  unfold f_Md_arrive
  refine r_aload_n (q := 1) (i := 0) (pl := 0) C d_Md_arrive_0 rfl rfl rfl ?_
  refine r_gR (q := 4) C d_Md_arrive_1 rfl F_Md_20 rfl (fun v28 => ?_)
  refine r_iload_n (q := 5) (i := 1) (pl := 1) C d_Md_arrive_4 rfl rfl rfl ?_
  refine r_iconst (q := 6) (v := 1) C d_Md_arrive_5 rfl (by decide) ?_
  refine r_ishr (q := 7) C d_Md_arrive_6 rfl ?_
  refine r_aZ (q := 8) C (Or.inr rfl) d_Md_arrive_7 rfl (fun v29 => ?_)
  refine r_istore_n (q := 9) (i := 2) (lv' := [(2, vI v29), (0, vA (some a)), (1, vI x1)]) C d_Md_arrive_8 rfl rfl (by decide) rfl ?_
  refine r_aload_n (q := 10) (i := 0) (pl := 1) C d_Md_arrive_9 rfl rfl rfl ?_
  refine r_gR (q := 13) C d_Md_arrive_10 rfl F_Md_84 rfl (fun v30 => ?_)
  refine r_iload_n (q := 14) (i := 1) (pl := 2) C d_Md_arrive_13 rfl rfl rfl ?_
  refine r_iconst (q := 15) (v := 1) C d_Md_arrive_14 rfl (by decide) ?_
  refine r_ixor (q := 16) C d_Md_arrive_15 rfl ?_
  refine r_aI (q := 17) C (Or.inr rfl) d_Md_arrive_16 rfl (fun v31 => ?_)
  refine r_istore_n (q := 18) (i := 3) (lv' := [(3, vI v31), (2, vI v29), (0, vA (some a)), (1, vI x1)]) C d_Md_arrive_17 rfl rfl (by decide) rfl ?_
  refine r_aload_n (q := 19) (i := 0) (pl := 2) C d_Md_arrive_18 rfl rfl rfl ?_
  refine r_gR (q := 22) C d_Md_arrive_19 rfl F_Md_59 rfl (fun v32 => ?_)
  refine r_iload_n (q := 23) (i := 1) (pl := 3) C d_Md_arrive_22 rfl rfl rfl ?_
  refine r_aI (q := 24) C (Or.inr rfl) d_Md_arrive_23 rfl (fun v33 => ?_)
  refine r_if_le (tgt := 39) (q := 27) C d_Md_arrive_24 (by decide) rfl ?_ ?_
  · refine r_sub (lv' := [(0, vA (some a)), (1, vI x1), (2, vI v29), (3, vI v31)]) [2, 3, 1, 0] rfl ?_
    exact s_Md_arrive_39 C a x1 v29 v31
  · refine r_aload_n (q := 28) (i := 0) (pl := 2) C d_Md_arrive_27 rfl rfl rfl ?_
    refine r_gR (q := 31) C d_Md_arrive_28 rfl F_Md_59 rfl (fun v34 => ?_)
    refine r_iload_n (q := 32) (i := 1) (pl := 3) C d_Md_arrive_31 rfl rfl rfl ?_
    refine r_dup2 (q := 33) C d_Md_arrive_32 rfl rfl rfl ?_
    refine r_aI (q := 34) C (Or.inr rfl) d_Md_arrive_33 rfl (fun v35 => ?_)
    refine r_iconst (q := 35) (v := 1) C d_Md_arrive_34 rfl (by decide) ?_
    refine r_isub (q := 36) C d_Md_arrive_35 rfl ?_
    refine r_bI (q := 37) C (Or.inr rfl) d_Md_arrive_36 rfl ?_
    refine r_iconst (q := 38) (v := 1) C d_Md_arrive_37 rfl (by decide) ?_
    refine r_istore_n (q := 39) (i := 2) (lv' := [(2, vI (1 : Int32)), (3, vI v31), (0, vA (some a)), (1, vI x1)]) C d_Md_arrive_38 rfl rfl (by decide) rfl ?_
    refine r_sub (lv' := [(0, vA (some a)), (1, vI x1), (2, vI (1 : Int32)), (3, vI v31)]) [2, 3, 0, 1] rfl ?_
    exact s_Md_arrive_39 C a x1 (1 : Int32) v31
theorem d_Md_timer_0 : decode c_Md_timer 0 = .ok (.aload_n 0, 1) := by decide +kernel
theorem d_Md_timer_1 : decode c_Md_timer 1 = .ok (.getfield 26, 3) := by decide +kernel
theorem d_Md_timer_4 : decode c_Md_timer 4 = .ok (.iload_n 1, 1) := by decide +kernel
theorem d_Md_timer_5 : decode c_Md_timer 5 = .ok (.iaload, 1) := by decide +kernel
theorem d_Md_timer_6 : decode c_Md_timer 6 = .ok (.ifCond .le 95, 3) := by decide +kernel
theorem d_Md_timer_9 : decode c_Md_timer 9 = .ok (.aload_n 0, 1) := by decide +kernel
theorem d_Md_timer_10 : decode c_Md_timer 10 = .ok (.getfield 26, 3) := by decide +kernel
theorem d_Md_timer_13 : decode c_Md_timer 13 = .ok (.iload_n 1, 1) := by decide +kernel
theorem d_Md_timer_14 : decode c_Md_timer 14 = .ok (.iaload, 1) := by decide +kernel
theorem d_Md_timer_15 : decode c_Md_timer 15 = .ok (.aload_n 0, 1) := by decide +kernel
theorem d_Md_timer_16 : decode c_Md_timer 16 = .ok (.getfield 256, 3) := by decide +kernel
theorem d_Md_timer_19 : decode c_Md_timer 19 = .ok (.if_icmp .ne 82, 3) := by decide +kernel
theorem d_Md_timer_22 : decode c_Md_timer 22 = .ok (.aload_n 0, 1) := by decide +kernel
theorem d_Md_timer_23 : decode c_Md_timer 23 = .ok (.getfield 26, 3) := by decide +kernel
theorem d_Md_timer_26 : decode c_Md_timer 26 = .ok (.iload_n 1, 1) := by decide +kernel
theorem d_Md_timer_27 : decode c_Md_timer 27 = .ok (.iconst 0, 1) := by decide +kernel
theorem d_Md_timer_28 : decode c_Md_timer 28 = .ok (.iastore, 1) := by decide +kernel
theorem d_Md_timer_29 : decode c_Md_timer 29 = .ok (.aload_n 0, 1) := by decide +kernel
theorem d_Md_timer_30 : decode c_Md_timer 30 = .ok (.getfield 23, 3) := by decide +kernel
theorem d_Md_timer_33 : decode c_Md_timer 33 = .ok (.iload_n 1, 1) := by decide +kernel
theorem d_Md_timer_34 : decode c_Md_timer 34 = .ok (.iaload, 1) := by decide +kernel
theorem d_Md_timer_35 : decode c_Md_timer 35 = .ok (.ifCond .ne 22, 3) := by decide +kernel
theorem d_Md_timer_38 : decode c_Md_timer 38 = .ok (.aload_n 0, 1) := by decide +kernel
theorem d_Md_timer_39 : decode c_Md_timer 39 = .ok (.getfield 16, 3) := by decide +kernel
theorem d_Md_timer_42 : decode c_Md_timer 42 = .ok (.iload_n 1, 1) := by decide +kernel
theorem d_Md_timer_43 : decode c_Md_timer 43 = .ok (.iconst 1, 1) := by decide +kernel
theorem d_Md_timer_44 : decode c_Md_timer 44 = .ok (.ishr, 1) := by decide +kernel
theorem d_Md_timer_45 : decode c_Md_timer 45 = .ok (.baload, 1) := by decide +kernel
theorem d_Md_timer_46 : decode c_Md_timer 46 = .ok (.ifCond .eq 55, 3) := by decide +kernel
theorem d_Md_timer_49 : decode c_Md_timer 49 = .ok (.aload_n 0, 1) := by decide +kernel
theorem d_Md_timer_50 : decode c_Md_timer 50 = .ok (.iload_n 1, 1) := by decide +kernel
theorem d_Md_timer_51 : decode c_Md_timer 51 = .ok (.invokevirtual 305, 3) := by decide +kernel
theorem d_Md_timer_54 : decode c_Md_timer 54 = .ok (.goto 47, 3) := by decide +kernel
theorem d_Md_timer_57 : decode c_Md_timer 57 = .ok (.aload_n 0, 1) := by decide +kernel
theorem d_Md_timer_58 : decode c_Md_timer 58 = .ok (.getfield 23, 3) := by decide +kernel
theorem d_Md_timer_61 : decode c_Md_timer 61 = .ok (.iload_n 1, 1) := by decide +kernel
theorem d_Md_timer_62 : decode c_Md_timer 62 = .ok (.iaload, 1) := by decide +kernel
theorem d_Md_timer_63 : decode c_Md_timer 63 = .ok (.iconst 3, 1) := by decide +kernel
theorem d_Md_timer_64 : decode c_Md_timer 64 = .ok (.if_icmp .ne 31, 3) := by decide +kernel
theorem d_Md_timer_67 : decode c_Md_timer 67 = .ok (.aload_n 0, 1) := by decide +kernel
theorem d_Md_timer_68 : decode c_Md_timer 68 = .ok (.getfield 23, 3) := by decide +kernel
theorem d_Md_timer_71 : decode c_Md_timer 71 = .ok (.iload_n 1, 1) := by decide +kernel
theorem d_Md_timer_72 : decode c_Md_timer 72 = .ok (.iconst 4, 1) := by decide +kernel
theorem d_Md_timer_73 : decode c_Md_timer 73 = .ok (.iastore, 1) := by decide +kernel
theorem d_Md_timer_74 : decode c_Md_timer 74 = .ok (.aload_n 0, 1) := by decide +kernel
theorem d_Md_timer_75 : decode c_Md_timer 75 = .ok (.getfield 26, 3) := by decide +kernel
theorem d_Md_timer_78 : decode c_Md_timer 78 = .ok (.iload_n 1, 1) := by decide +kernel
theorem d_Md_timer_79 : decode c_Md_timer 79 = .ok (.aload_n 0, 1) := by decide +kernel
theorem d_Md_timer_80 : decode c_Md_timer 80 = .ok (.getfield 256, 3) := by decide +kernel
theorem d_Md_timer_83 : decode c_Md_timer 83 = .ok (.bipush 15, 2) := by decide +kernel
theorem d_Md_timer_85 : decode c_Md_timer 85 = .ok (.iadd, 1) := by decide +kernel
theorem d_Md_timer_86 : decode c_Md_timer 86 = .ok (.iastore, 1) := by decide +kernel
theorem d_Md_timer_87 : decode c_Md_timer 87 = .ok (.aload_n 0, 1) := by decide +kernel
theorem d_Md_timer_88 : decode c_Md_timer 88 = .ok (.iload_n 1, 1) := by decide +kernel
theorem d_Md_timer_89 : decode c_Md_timer 89 = .ok (.invokevirtual 186, 3) := by decide +kernel
theorem d_Md_timer_92 : decode c_Md_timer 92 = .ok (.goto 9, 3) := by decide +kernel
theorem d_Md_timer_95 : decode c_Md_timer 95 = .ok (.aload_n 0, 1) := by decide +kernel
theorem d_Md_timer_96 : decode c_Md_timer 96 = .ok (.iload_n 1, 1) := by decide +kernel
theorem d_Md_timer_97 : decode c_Md_timer 97 = .ok (.iconst 0, 1) := by decide +kernel
theorem d_Md_timer_98 : decode c_Md_timer 98 = .ok (.invokevirtual 275, 3) := by decide +kernel
theorem d_Md_timer_101 : decode c_Md_timer 101 = .ok (.aload_n 0, 1) := by decide +kernel
theorem d_Md_timer_102 : decode c_Md_timer 102 = .ok (.getfield 53, 3) := by decide +kernel
theorem d_Md_timer_105 : decode c_Md_timer 105 = .ok (.iload_n 1, 1) := by decide +kernel
theorem d_Md_timer_106 : decode c_Md_timer 106 = .ok (.iaload, 1) := by decide +kernel
theorem d_Md_timer_107 : decode c_Md_timer 107 = .ok (.ifCond .le 22, 3) := by decide +kernel
theorem d_Md_timer_110 : decode c_Md_timer 110 = .ok (.aload_n 0, 1) := by decide +kernel
theorem d_Md_timer_111 : decode c_Md_timer 111 = .ok (.getfield 53, 3) := by decide +kernel
theorem d_Md_timer_114 : decode c_Md_timer 114 = .ok (.iload_n 1, 1) := by decide +kernel
theorem d_Md_timer_115 : decode c_Md_timer 115 = .ok (.iaload, 1) := by decide +kernel
theorem d_Md_timer_116 : decode c_Md_timer 116 = .ok (.aload_n 0, 1) := by decide +kernel
theorem d_Md_timer_117 : decode c_Md_timer 117 = .ok (.getfield 256, 3) := by decide +kernel
theorem d_Md_timer_120 : decode c_Md_timer 120 = .ok (.if_icmp .ne 9, 3) := by decide +kernel
theorem d_Md_timer_123 : decode c_Md_timer 123 = .ok (.aload_n 0, 1) := by decide +kernel
theorem d_Md_timer_124 : decode c_Md_timer 124 = .ok (.iload_n 1, 1) := by decide +kernel
theorem d_Md_timer_125 : decode c_Md_timer 125 = .ok (.iconst 0, 1) := by decide +kernel
theorem d_Md_timer_126 : decode c_Md_timer 126 = .ok (.invokevirtual 275, 3) := by decide +kernel
theorem d_Md_timer_129 : decode c_Md_timer 129 = .ok (.return_, 1) := by decide +kernel
def f_Md_timer_129 (a : Nat) : sn_M := r_V
set_option maxHeartbeats 4000000 in
set_option maxRecDepth 100000 in
theorem mono_Md_timer_129 (a : Nat) : sn_Mono (f_Md_timer_129 a) := sn_Mono.rV
set_option maxHeartbeats 4000000 in
set_option maxRecDepth 100000 in
theorem s_Md_timer_129 {X : sn_X} (C : sn_Cx X c_Md_timer "SignalNetworkModel" none "timer" 2 6 148) (a : Nat) : sn_S X 129 [(0, vA (some a))] [] (f_Md_timer_129 a) := by
  unfold f_Md_timer_129
  exact r_vret C d_Md_timer_129 rfl
def f_Md_timer_101 (a : Nat) (x1 : Int32) : sn_M := g_R 12 20 (some a) fun v1 => a_I 31 v1 x1 fun v2 => (if v2 ≤ 0 then f_Md_timer_129 a else g_R 12 20 (some a) fun v3 => a_I 31 v3 x1 fun v4 => g_I 12 6 (some a) fun v5 => (if ¬ v4 = v5 then f_Md_timer_129 a else n_n 12 (some a) fun a6 => c_V (f_Md_fail a6 x1 (0 : Int32)) (f_Md_timer_129 a)))
set_option maxHeartbeats 4000000 in
set_option maxRecDepth 100000 in
theorem mono_Md_timer_101 (a : Nat) (x1 : Int32) : sn_Mono (f_Md_timer_101 a x1) := sn_Mono.gR (fun v1 => sn_Mono.aI (fun v2 => sn_Mono.ite (mono_Md_timer_129 a) (sn_Mono.gR (fun v3 => sn_Mono.aI (fun v4 => sn_Mono.gI (fun v5 => sn_Mono.ite (mono_Md_timer_129 a) (sn_Mono.nn (fun a6 => sn_Mono.cV (mono_Md_fail a6 x1 (0 : Int32)) (mono_Md_timer_129 a)))))))))
set_option maxHeartbeats 4000000 in
set_option maxRecDepth 100000 in
theorem s_Md_timer_101 {X : sn_X} (C : sn_Cx X c_Md_timer "SignalNetworkModel" none "timer" 2 6 148) (a : Nat) (x1 : Int32) : sn_S X 101 [(0, vA (some a)), (1, vI x1)] [] (f_Md_timer_101 a x1) := by
  unfold f_Md_timer_101
  refine r_aload_n (q := 102) (i := 0) (pl := 0) C d_Md_timer_101 rfl rfl rfl ?_
  refine r_gR (q := 105) C d_Md_timer_102 rfl F_Md_53 rfl (fun v1 => ?_)
  refine r_iload_n (q := 106) (i := 1) (pl := 1) C d_Md_timer_105 rfl rfl rfl ?_
  refine r_aI (q := 107) C (Or.inr rfl) d_Md_timer_106 rfl (fun v2 => ?_)
  refine r_if_le (tgt := 129) (q := 110) C d_Md_timer_107 (by decide) rfl ?_ ?_
  · refine r_sub (lv' := [(0, vA (some a))]) [0] rfl ?_
    exact s_Md_timer_129 C a
  · refine r_aload_n (q := 111) (i := 0) (pl := 0) C d_Md_timer_110 rfl rfl rfl ?_
    refine r_gR (q := 114) C d_Md_timer_111 rfl F_Md_53 rfl (fun v3 => ?_)
    refine r_iload_n (q := 115) (i := 1) (pl := 1) C d_Md_timer_114 rfl rfl rfl ?_
    refine r_aI (q := 116) C (Or.inr rfl) d_Md_timer_115 rfl (fun v4 => ?_)
    refine r_aload_n (q := 117) (i := 0) (pl := 0) C d_Md_timer_116 rfl rfl rfl ?_
    refine r_gI (q := 120) C d_Md_timer_117 rfl F_Md_256 rfl (fun v5 => ?_)
    refine r_icmp_ne (tgt := 129) (q := 123) C d_Md_timer_120 (by decide) rfl ?_ ?_
    · refine r_sub (lv' := [(0, vA (some a))]) [0] rfl ?_
      exact s_Md_timer_129 C a
    · refine r_aload_n (q := 124) (i := 0) (pl := 0) C d_Md_timer_123 rfl rfl rfl ?_
      refine r_iload_n (q := 125) (i := 1) (pl := 1) C d_Md_timer_124 rfl rfl rfl ?_
      refine r_iconst (q := 126) (v := 0) C d_Md_timer_125 rfl (by decide) ?_
      refine r_cvV (q := 129) (As := [vI x1, vI (0 : Int32)]) (st := []) (cy := 11) C d_Md_timer_126 rfl Y_Md_fail L_Md_275 I_Md_fail Se_Md_fail rfl (by decide) rfl (Nat.le_of_ble_eq_true rfl) (Nat.le_of_ble_eq_true rfl) (Nat.le_of_ble_eq_true rfl) rfl (fun a6 => con_Md_fail a6 x1 (0 : Int32)) ?_
      refine r_sub (lv' := [(0, vA (some a))]) [0] rfl ?_
      exact s_Md_timer_129 C a
def f_Md_timer (a : Nat) (x1 : Int32) : sn_M := g_R 12 11 (some a) fun v8 => a_I 31 v8 x1 fun v9 => (if v9 ≤ 0 then f_Md_timer_101 a x1 else g_R 12 11 (some a) fun v10 => a_I 31 v10 x1 fun v11 => g_I 12 6 (some a) fun v12 => (if ¬ v11 = v12 then f_Md_timer_101 a x1 else g_R 12 11 (some a) fun v13 => b_I 31 v13 x1 (0 : Int32) (g_R 12 10 (some a) fun v14 => a_I 31 v14 x1 fun v15 => (if ¬ v15 = 0 then g_R 12 10 (some a) fun v16 => a_I 31 v16 x1 fun v17 => (if ¬ v17 = (3 : Int32) then n_n 12 (some a) fun a18 => c_V (f_Md_fail a18 x1 (0 : Int32)) (f_Md_timer_101 a x1) else g_R 12 10 (some a) fun v20 => b_I 31 v20 x1 (4 : Int32) (g_R 12 11 (some a) fun v21 => g_I 12 6 (some a) fun v22 => b_I 31 v21 x1 (v22 + (15 : Int32)) (n_n 12 (some a) fun a23 => c_V (f_Md_fresh a23 x1) (f_Md_timer_101 a x1)))) else g_R 12 2 (some a) fun v25 => a_I 33 v25 (x1 >>> ((1 : Int32) &&& 31)) fun v26 => (if v26 = 0 then f_Md_timer_101 a x1 else n_n 12 (some a) fun a27 => c_V (f_Md_start a27 x1) (f_Md_timer_101 a x1))))))
set_option maxHeartbeats 4000000 in
set_option maxRecDepth 100000 in
theorem mono_Md_timer (a : Nat) (x1 : Int32) : sn_Mono (f_Md_timer a x1) := sn_Mono.gR (fun v8 => sn_Mono.aI (fun v9 => sn_Mono.ite (mono_Md_timer_101 a x1) (sn_Mono.gR (fun v10 => sn_Mono.aI (fun v11 => sn_Mono.gI (fun v12 => sn_Mono.ite (mono_Md_timer_101 a x1) (sn_Mono.gR (fun v13 => sn_Mono.bI (sn_Mono.gR (fun v14 => sn_Mono.aI (fun v15 => sn_Mono.ite (sn_Mono.gR (fun v16 => sn_Mono.aI (fun v17 => sn_Mono.ite (sn_Mono.nn (fun a18 => sn_Mono.cV (mono_Md_fail a18 x1 (0 : Int32)) (mono_Md_timer_101 a x1))) (sn_Mono.gR (fun v20 => sn_Mono.bI (sn_Mono.gR (fun v21 => sn_Mono.gI (fun v22 => sn_Mono.bI (sn_Mono.nn (fun a23 => sn_Mono.cV (mono_Md_fresh a23 x1) (mono_Md_timer_101 a x1))))))))))) (sn_Mono.gR (fun v25 => sn_Mono.aI (fun v26 => sn_Mono.ite (mono_Md_timer_101 a x1) (sn_Mono.nn (fun a27 => sn_Mono.cV (mono_Md_start a27 x1) (mono_Md_timer_101 a x1)))))))))))))))))
set_option maxHeartbeats 4000000 in
set_option maxRecDepth 100000 in
theorem con_Md_timer (a : Nat) (x1 : Int32) : sn_Con y_Md_timer c_Md_timer 2 none 6 148 [vA (some a), vI x1] (f_Md_timer a x1) := by
  refine sn_Con.of (by decide +kernel) (by show _ ≤ _; exact Nat.le_of_ble_eq_true rfl) (mono_Md_timer a x1) (fun X C => ?_)
  show sn_S X 0 [(0, vA (some a)), (1, vI x1)] [] _
  replace C : sn_Cx X c_Md_timer "SignalNetworkModel" none "timer" 2 6 148 := C
  unfold f_Md_timer
  refine r_aload_n (q := 1) (i := 0) (pl := 0) C d_Md_timer_0 rfl rfl rfl ?_
  refine r_gR (q := 4) C d_Md_timer_1 rfl F_Md_26 rfl (fun v8 => ?_)
  refine r_iload_n (q := 5) (i := 1) (pl := 1) C d_Md_timer_4 rfl rfl rfl ?_
  refine r_aI (q := 6) C (Or.inr rfl) d_Md_timer_5 rfl (fun v9 => ?_)
  refine r_if_le (tgt := 101) (q := 9) C d_Md_timer_6 (by decide) rfl ?_ ?_
  · exact s_Md_timer_101 C a x1
  · refine r_aload_n (q := 10) (i := 0) (pl := 0) C d_Md_timer_9 rfl rfl rfl ?_
    refine r_gR (q := 13) C d_Md_timer_10 rfl F_Md_26 rfl (fun v10 => ?_)
    refine r_iload_n (q := 14) (i := 1) (pl := 1) C d_Md_timer_13 rfl rfl rfl ?_
    refine r_aI (q := 15) C (Or.inr rfl) d_Md_timer_14 rfl (fun v11 => ?_)
    refine r_aload_n (q := 16) (i := 0) (pl := 0) C d_Md_timer_15 rfl rfl rfl ?_
    refine r_gI (q := 19) C d_Md_timer_16 rfl F_Md_256 rfl (fun v12 => ?_)
    refine r_icmp_ne (tgt := 101) (q := 22) C d_Md_timer_19 (by decide) rfl ?_ ?_
    · exact s_Md_timer_101 C a x1
    · refine r_aload_n (q := 23) (i := 0) (pl := 0) C d_Md_timer_22 rfl rfl rfl ?_
      refine r_gR (q := 26) C d_Md_timer_23 rfl F_Md_26 rfl (fun v13 => ?_)
      refine r_iload_n (q := 27) (i := 1) (pl := 1) C d_Md_timer_26 rfl rfl rfl ?_
      refine r_iconst (q := 28) (v := 0) C d_Md_timer_27 rfl (by decide) ?_
      refine r_bI (q := 29) C (Or.inr rfl) d_Md_timer_28 rfl ?_
      refine r_aload_n (q := 30) (i := 0) (pl := 0) C d_Md_timer_29 rfl rfl rfl ?_
      refine r_gR (q := 33) C d_Md_timer_30 rfl F_Md_23 rfl (fun v14 => ?_)
      refine r_iload_n (q := 34) (i := 1) (pl := 1) C d_Md_timer_33 rfl rfl rfl ?_
      refine r_aI (q := 35) C (Or.inr rfl) d_Md_timer_34 rfl (fun v15 => ?_)
      refine r_if_ne (tgt := 57) (q := 38) C d_Md_timer_35 (by decide) rfl ?_ ?_
      · refine r_aload_n (q := 58) (i := 0) (pl := 0) C d_Md_timer_57 rfl rfl rfl ?_
        refine r_gR (q := 61) C d_Md_timer_58 rfl F_Md_23 rfl (fun v16 => ?_)
        refine r_iload_n (q := 62) (i := 1) (pl := 1) C d_Md_timer_61 rfl rfl rfl ?_
        refine r_aI (q := 63) C (Or.inr rfl) d_Md_timer_62 rfl (fun v17 => ?_)
        refine r_iconst (q := 64) (v := 3) C d_Md_timer_63 rfl (by decide) ?_
        refine r_icmp_ne (tgt := 95) (q := 67) C d_Md_timer_64 (by decide) rfl ?_ ?_
        · refine r_aload_n (q := 96) (i := 0) (pl := 0) C d_Md_timer_95 rfl rfl rfl ?_
          refine r_iload_n (q := 97) (i := 1) (pl := 1) C d_Md_timer_96 rfl rfl rfl ?_
          refine r_iconst (q := 98) (v := 0) C d_Md_timer_97 rfl (by decide) ?_
          refine r_cvV (q := 101) (As := [vI x1, vI (0 : Int32)]) (st := []) (cy := 11) C d_Md_timer_98 rfl Y_Md_fail L_Md_275 I_Md_fail Se_Md_fail rfl (by decide) rfl (Nat.le_of_ble_eq_true rfl) (Nat.le_of_ble_eq_true rfl) (Nat.le_of_ble_eq_true rfl) rfl (fun a18 => con_Md_fail a18 x1 (0 : Int32)) ?_
          exact s_Md_timer_101 C a x1
        · refine r_aload_n (q := 68) (i := 0) (pl := 0) C d_Md_timer_67 rfl rfl rfl ?_
          refine r_gR (q := 71) C d_Md_timer_68 rfl F_Md_23 rfl (fun v20 => ?_)
          refine r_iload_n (q := 72) (i := 1) (pl := 1) C d_Md_timer_71 rfl rfl rfl ?_
          refine r_iconst (q := 73) (v := 4) C d_Md_timer_72 rfl (by decide) ?_
          refine r_bI (q := 74) C (Or.inr rfl) d_Md_timer_73 rfl ?_
          refine r_aload_n (q := 75) (i := 0) (pl := 0) C d_Md_timer_74 rfl rfl rfl ?_
          refine r_gR (q := 78) C d_Md_timer_75 rfl F_Md_26 rfl (fun v21 => ?_)
          refine r_iload_n (q := 79) (i := 1) (pl := 1) C d_Md_timer_78 rfl rfl rfl ?_
          refine r_aload_n (q := 80) (i := 0) (pl := 0) C d_Md_timer_79 rfl rfl rfl ?_
          refine r_gI (q := 83) C d_Md_timer_80 rfl F_Md_256 rfl (fun v22 => ?_)
          refine r_bipush (q := 85) (v := 15) C d_Md_timer_83 rfl (by decide) ?_
          refine r_iadd (q := 86) C d_Md_timer_85 rfl ?_
          refine r_bI (q := 87) C (Or.inr rfl) d_Md_timer_86 rfl ?_
          refine r_aload_n (q := 88) (i := 0) (pl := 0) C d_Md_timer_87 rfl rfl rfl ?_
          refine r_iload_n (q := 89) (i := 1) (pl := 1) C d_Md_timer_88 rfl rfl rfl ?_
          refine r_cvV (q := 92) (As := [vI x1]) (st := []) (cy := 11) C d_Md_timer_89 rfl Y_Md_fresh L_Md_186 I_Md_fresh Se_Md_fresh rfl (by decide) rfl (Nat.le_of_ble_eq_true rfl) (Nat.le_of_ble_eq_true rfl) (Nat.le_of_ble_eq_true rfl) rfl (fun a23 => con_Md_fresh a23 x1) ?_
          refine r_goto (tgt := 101) C d_Md_timer_92 (by decide) ?_
          exact s_Md_timer_101 C a x1
      · refine r_aload_n (q := 39) (i := 0) (pl := 0) C d_Md_timer_38 rfl rfl rfl ?_
        refine r_gR (q := 42) C d_Md_timer_39 rfl F_Md_16 rfl (fun v25 => ?_)
        refine r_iload_n (q := 43) (i := 1) (pl := 1) C d_Md_timer_42 rfl rfl rfl ?_
        refine r_iconst (q := 44) (v := 1) C d_Md_timer_43 rfl (by decide) ?_
        refine r_ishr (q := 45) C d_Md_timer_44 rfl ?_
        refine r_aZ (q := 46) C (Or.inr rfl) d_Md_timer_45 rfl (fun v26 => ?_)
        refine r_if_eq (tgt := 101) (q := 49) C d_Md_timer_46 (by decide) rfl ?_ ?_
        · exact s_Md_timer_101 C a x1
        · refine r_aload_n (q := 50) (i := 0) (pl := 0) C d_Md_timer_49 rfl rfl rfl ?_
          refine r_iload_n (q := 51) (i := 1) (pl := 1) C d_Md_timer_50 rfl rfl rfl ?_
          refine r_cvV (q := 54) (As := [vI x1]) (st := []) (cy := 11) C d_Md_timer_51 rfl Y_Md_start L_Md_305 I_Md_start Se_Md_start rfl (by decide) rfl (Nat.le_of_ble_eq_true rfl) (Nat.le_of_ble_eq_true rfl) (Nat.le_of_ble_eq_true rfl) rfl (fun a27 => con_Md_start a27 x1) ?_
          refine r_goto (tgt := 101) C d_Md_timer_54 (by decide) ?_
          exact s_Md_timer_101 C a x1
theorem d_Md_send_0 : decode c_Md_send 0 = .ok (.aload_n 0, 1) := by decide +kernel
theorem d_Md_send_1 : decode c_Md_send 1 = .ok (.getfield 23, 3) := by decide +kernel
theorem d_Md_send_4 : decode c_Md_send 4 = .ok (.iload_n 1, 1) := by decide +kernel
theorem d_Md_send_5 : decode c_Md_send 5 = .ok (.iaload, 1) := by decide +kernel
theorem d_Md_send_6 : decode c_Md_send 6 = .ok (.istore_n 2, 1) := by decide +kernel
theorem d_Md_send_7 : decode c_Md_send 7 = .ok (.aload_n 0, 1) := by decide +kernel
theorem d_Md_send_8 : decode c_Md_send 8 = .ok (.getfield 102, 3) := by decide +kernel
theorem d_Md_send_11 : decode c_Md_send 11 = .ok (.iload_n 1, 1) := by decide +kernel
theorem d_Md_send_12 : decode c_Md_send 12 = .ok (.iconst 1, 1) := by decide +kernel
theorem d_Md_send_13 : decode c_Md_send 13 = .ok (.bastore, 1) := by decide +kernel
theorem d_Md_send_14 : decode c_Md_send 14 = .ok (.aload_n 0, 1) := by decide +kernel
theorem d_Md_send_15 : decode c_Md_send 15 = .ok (.getfield 111, 3) := by decide +kernel
theorem d_Md_send_18 : decode c_Md_send 18 = .ok (.iload_n 1, 1) := by decide +kernel
theorem d_Md_send_19 : decode c_Md_send 19 = .ok (.aload_n 0, 1) := by decide +kernel
theorem d_Md_send_20 : decode c_Md_send 20 = .ok (.getfield 105, 3) := by decide +kernel
theorem d_Md_send_23 : decode c_Md_send 23 = .ok (.iload_n 1, 1) := by decide +kernel
theorem d_Md_send_24 : decode c_Md_send 24 = .ok (.iaload, 1) := by decide +kernel
theorem d_Md_send_25 : decode c_Md_send 25 = .ok (.iastore, 1) := by decide +kernel
theorem d_Md_send_26 : decode c_Md_send 26 = .ok (.aload_n 0, 1) := by decide +kernel
theorem d_Md_send_27 : decode c_Md_send 27 = .ok (.getfield 87, 3) := by decide +kernel
theorem d_Md_send_30 : decode c_Md_send 30 = .ok (.iload_n 1, 1) := by decide +kernel
theorem d_Md_send_31 : decode c_Md_send 31 = .ok (.aload_n 0, 1) := by decide +kernel
theorem d_Md_send_32 : decode c_Md_send 32 = .ok (.getfield 29, 3) := by decide +kernel
theorem d_Md_send_35 : decode c_Md_send 35 = .ok (.iload_n 1, 1) := by decide +kernel
theorem d_Md_send_36 : decode c_Md_send 36 = .ok (.iaload, 1) := by decide +kernel
theorem d_Md_send_37 : decode c_Md_send 37 = .ok (.iastore, 1) := by decide +kernel
theorem d_Md_send_38 : decode c_Md_send 38 = .ok (.aload_n 0, 1) := by decide +kernel
theorem d_Md_send_39 : decode c_Md_send 39 = .ok (.getfield 90, 3) := by decide +kernel
theorem d_Md_send_42 : decode c_Md_send 42 = .ok (.iload_n 1, 1) := by decide +kernel
theorem d_Md_send_43 : decode c_Md_send 43 = .ok (.aload_n 0, 1) := by decide +kernel
theorem d_Md_send_44 : decode c_Md_send 44 = .ok (.getfield 35, 3) := by decide +kernel
theorem d_Md_send_47 : decode c_Md_send 47 = .ok (.iload_n 1, 1) := by decide +kernel
theorem d_Md_send_48 : decode c_Md_send 48 = .ok (.iaload, 1) := by decide +kernel
theorem d_Md_send_49 : decode c_Md_send 49 = .ok (.iastore, 1) := by decide +kernel
theorem d_Md_send_50 : decode c_Md_send 50 = .ok (.aload_n 0, 1) := by decide +kernel
theorem d_Md_send_51 : decode c_Md_send 51 = .ok (.getfield 93, 3) := by decide +kernel
theorem d_Md_send_54 : decode c_Md_send 54 = .ok (.iload_n 1, 1) := by decide +kernel
theorem d_Md_send_55 : decode c_Md_send 55 = .ok (.aload_n 0, 1) := by decide +kernel
theorem d_Md_send_56 : decode c_Md_send 56 = .ok (.getfield 32, 3) := by decide +kernel
theorem d_Md_send_59 : decode c_Md_send 59 = .ok (.iload_n 1, 1) := by decide +kernel
theorem d_Md_send_60 : decode c_Md_send 60 = .ok (.iaload, 1) := by decide +kernel
theorem d_Md_send_61 : decode c_Md_send 61 = .ok (.iastore, 1) := by decide +kernel
theorem d_Md_send_62 : decode c_Md_send 62 = .ok (.aload_n 0, 1) := by decide +kernel
theorem d_Md_send_63 : decode c_Md_send 63 = .ok (.getfield 96, 3) := by decide +kernel
theorem d_Md_send_66 : decode c_Md_send 66 = .ok (.iload_n 1, 1) := by decide +kernel
theorem d_Md_send_67 : decode c_Md_send 67 = .ok (.aload_n 0, 1) := by decide +kernel
theorem d_Md_send_68 : decode c_Md_send 68 = .ok (.getfield 38, 3) := by decide +kernel
theorem d_Md_send_71 : decode c_Md_send 71 = .ok (.iload_n 1, 1) := by decide +kernel
theorem d_Md_send_72 : decode c_Md_send 72 = .ok (.iaload, 1) := by decide +kernel
theorem d_Md_send_73 : decode c_Md_send 73 = .ok (.iastore, 1) := by decide +kernel
theorem d_Md_send_74 : decode c_Md_send 74 = .ok (.aload_n 0, 1) := by decide +kernel
theorem d_Md_send_75 : decode c_Md_send 75 = .ok (.getfield 84, 3) := by decide +kernel
theorem d_Md_send_78 : decode c_Md_send 78 = .ok (.iload_n 1, 1) := by decide +kernel
theorem d_Md_send_79 : decode c_Md_send 79 = .ok (.iload_n 2, 1) := by decide +kernel
theorem d_Md_send_80 : decode c_Md_send 80 = .ok (.ifCond .ne 7, 3) := by decide +kernel
theorem d_Md_send_83 : decode c_Md_send 83 = .ok (.iconst 0, 1) := by decide +kernel
theorem d_Md_send_84 : decode c_Md_send 84 = .ok (.goto 35, 3) := by decide +kernel
theorem d_Md_send_87 : decode c_Md_send 87 = .ok (.iload_n 2, 1) := by decide +kernel
theorem d_Md_send_88 : decode c_Md_send 88 = .ok (.iconst 1, 1) := by decide +kernel
theorem d_Md_send_89 : decode c_Md_send 89 = .ok (.if_icmp .ne 7, 3) := by decide +kernel
theorem d_Md_send_92 : decode c_Md_send 92 = .ok (.iconst 1, 1) := by decide +kernel
theorem d_Md_send_93 : decode c_Md_send 93 = .ok (.goto 26, 3) := by decide +kernel
theorem d_Md_send_96 : decode c_Md_send 96 = .ok (.iload_n 2, 1) := by decide +kernel
theorem d_Md_send_97 : decode c_Md_send 97 = .ok (.iconst 4, 1) := by decide +kernel
theorem d_Md_send_98 : decode c_Md_send 98 = .ok (.if_icmp .ge 20, 3) := by decide +kernel
theorem d_Md_send_101 : decode c_Md_send 101 = .ok (.aload_n 0, 1) := by decide +kernel
theorem d_Md_send_102 : decode c_Md_send 102 = .ok (.getfield 62, 3) := by decide +kernel
theorem d_Md_send_105 : decode c_Md_send 105 = .ok (.iload_n 1, 1) := by decide +kernel
theorem d_Md_send_106 : decode c_Md_send 106 = .ok (.baload, 1) := by decide +kernel
theorem d_Md_send_107 : decode c_Md_send 107 = .ok (.ifCond .eq 7, 3) := by decide +kernel
theorem d_Md_send_110 : decode c_Md_send 110 = .ok (.iconst 3, 1) := by decide +kernel
theorem d_Md_send_111 : decode c_Md_send 111 = .ok (.goto 8, 3) := by decide +kernel
theorem d_Md_send_114 : decode c_Md_send 114 = .ok (.iconst 2, 1) := by decide +kernel
theorem d_Md_send_115 : decode c_Md_send 115 = .ok (.goto 4, 3) := by decide +kernel
theorem d_Md_send_118 : decode c_Md_send 118 = .ok (.iconst 4, 1) := by decide +kernel
theorem d_Md_send_119 : decode c_Md_send 119 = .ok (.iastore, 1) := by decide +kernel
theorem d_Md_send_120 : decode c_Md_send 120 = .ok (.iload_n 2, 1) := by decide +kernel
theorem d_Md_send_121 : decode c_Md_send 121 = .ok (.iconst 5, 1) := by decide +kernel
theorem d_Md_send_122 : decode c_Md_send 122 = .ok (.if_icmp .eq 4, 3) := by decide +kernel
theorem d_Md_send_125 : decode c_Md_send 125 = .ok (.return_, 1) := by decide +kernel
theorem d_Md_send_126 : decode c_Md_send 126 = .ok (.aload_n 0, 1) := by decide +kernel
theorem d_Md_send_127 : decode c_Md_send 127 = .ok (.getfield 56, 3) := by decide +kernel
theorem d_Md_send_130 : decode c_Md_send 130 = .ok (.iload_n 1, 1) := by decide +kernel
theorem d_Md_send_131 : decode c_Md_send 131 = .ok (.iaload, 1) := by decide +kernel
theorem d_Md_send_132 : decode c_Md_send 132 = .ok (.iconst (-1), 1) := by decide +kernel
theorem d_Md_send_133 : decode c_Md_send 133 = .ok (.if_icmp .eq 89, 3) := by decide +kernel
theorem d_Md_send_136 : decode c_Md_send 136 = .ok (.aload_n 0, 1) := by decide +kernel
theorem d_Md_send_137 : decode c_Md_send 137 = .ok (.getfield 84, 3) := by decide +kernel
theorem d_Md_send_140 : decode c_Md_send 140 = .ok (.iload_n 1, 1) := by decide +kernel
theorem d_Md_send_141 : decode c_Md_send 141 = .ok (.iconst 5, 1) := by decide +kernel
theorem d_Md_send_142 : decode c_Md_send 142 = .ok (.iastore, 1) := by decide +kernel
theorem d_Md_send_143 : decode c_Md_send 143 = .ok (.aload_n 0, 1) := by decide +kernel
theorem d_Md_send_144 : decode c_Md_send 144 = .ok (.getfield 87, 3) := by decide +kernel
theorem d_Md_send_147 : decode c_Md_send 147 = .ok (.iload_n 1, 1) := by decide +kernel
theorem d_Md_send_148 : decode c_Md_send 148 = .ok (.aload_n 0, 1) := by decide +kernel
theorem d_Md_send_149 : decode c_Md_send 149 = .ok (.getfield 72, 3) := by decide +kernel
theorem d_Md_send_152 : decode c_Md_send 152 = .ok (.bipush 32, 2) := by decide +kernel
theorem d_Md_send_154 : decode c_Md_send 154 = .ok (.iload_n 1, 1) := by decide +kernel
theorem d_Md_send_155 : decode c_Md_send 155 = .ok (.imul, 1) := by decide +kernel
theorem d_Md_send_156 : decode c_Md_send 156 = .ok (.aload_n 0, 1) := by decide +kernel
theorem d_Md_send_157 : decode c_Md_send 157 = .ok (.getfield 56, 3) := by decide +kernel
theorem d_Md_send_160 : decode c_Md_send 160 = .ok (.iload_n 1, 1) := by decide +kernel
theorem d_Md_send_161 : decode c_Md_send 161 = .ok (.iaload, 1) := by decide +kernel
theorem d_Md_send_162 : decode c_Md_send 162 = .ok (.iadd, 1) := by decide +kernel
theorem d_Md_send_163 : decode c_Md_send 163 = .ok (.iaload, 1) := by decide +kernel
theorem d_Md_send_164 : decode c_Md_send 164 = .ok (.iastore, 1) := by decide +kernel
theorem d_Md_send_165 : decode c_Md_send 165 = .ok (.aload_n 0, 1) := by decide +kernel
theorem d_Md_send_166 : decode c_Md_send 166 = .ok (.getfield 99, 3) := by decide +kernel
theorem d_Md_send_169 : decode c_Md_send 169 = .ok (.iload_n 1, 1) := by decide +kernel
theorem d_Md_send_170 : decode c_Md_send 170 = .ok (.aload_n 0, 1) := by decide +kernel
theorem d_Md_send_171 : decode c_Md_send 171 = .ok (.getfield 68, 3) := by decide +kernel
theorem d_Md_send_174 : decode c_Md_send 174 = .ok (.bipush 32, 2) := by decide +kernel
theorem d_Md_send_176 : decode c_Md_send 176 = .ok (.iload_n 1, 1) := by decide +kernel
theorem d_Md_send_177 : decode c_Md_send 177 = .ok (.imul, 1) := by decide +kernel
theorem d_Md_send_178 : decode c_Md_send 178 = .ok (.aload_n 0, 1) := by decide +kernel
theorem d_Md_send_179 : decode c_Md_send 179 = .ok (.getfield 56, 3) := by decide +kernel
theorem d_Md_send_182 : decode c_Md_send 182 = .ok (.iload_n 1, 1) := by decide +kernel
theorem d_Md_send_183 : decode c_Md_send 183 = .ok (.iaload, 1) := by decide +kernel
theorem d_Md_send_184 : decode c_Md_send 184 = .ok (.iadd, 1) := by decide +kernel
theorem d_Md_send_185 : decode c_Md_send 185 = .ok (.laload, 1) := by decide +kernel
theorem d_Md_send_186 : decode c_Md_send 186 = .ok (.lastore, 1) := by decide +kernel
theorem d_Md_send_187 : decode c_Md_send 187 = .ok (.aload_n 0, 1) := by decide +kernel
theorem d_Md_send_188 : decode c_Md_send 188 = .ok (.getfield 56, 3) := by decide +kernel
theorem d_Md_send_191 : decode c_Md_send 191 = .ok (.iload_n 1, 1) := by decide +kernel
theorem d_Md_send_192 : decode c_Md_send 192 = .ok (.dup2, 1) := by decide +kernel
theorem d_Md_send_193 : decode c_Md_send 193 = .ok (.iaload, 1) := by decide +kernel
theorem d_Md_send_194 : decode c_Md_send 194 = .ok (.iconst 1, 1) := by decide +kernel
theorem d_Md_send_195 : decode c_Md_send 195 = .ok (.iadd, 1) := by decide +kernel
theorem d_Md_send_196 : decode c_Md_send 196 = .ok (.iastore, 1) := by decide +kernel
theorem d_Md_send_197 : decode c_Md_send 197 = .ok (.aload_n 0, 1) := by decide +kernel
theorem d_Md_send_198 : decode c_Md_send 198 = .ok (.getfield 56, 3) := by decide +kernel
theorem d_Md_send_201 : decode c_Md_send 201 = .ok (.iload_n 1, 1) := by decide +kernel
theorem d_Md_send_202 : decode c_Md_send 202 = .ok (.iaload, 1) := by decide +kernel
theorem d_Md_send_203 : decode c_Md_send 203 = .ok (.aload_n 0, 1) := by decide +kernel
theorem d_Md_send_204 : decode c_Md_send 204 = .ok (.getfield 75, 3) := by decide +kernel
theorem d_Md_send_207 : decode c_Md_send 207 = .ok (.iload_n 1, 1) := by decide +kernel
theorem d_Md_send_208 : decode c_Md_send 208 = .ok (.iaload, 1) := by decide +kernel
theorem d_Md_send_209 : decode c_Md_send 209 = .ok (.if_icmp .ne 215, 3) := by decide +kernel
theorem d_Md_send_212 : decode c_Md_send 212 = .ok (.aload_n 0, 1) := by decide +kernel
theorem d_Md_send_213 : decode c_Md_send 213 = .ok (.getfield 56, 3) := by decide +kernel
theorem d_Md_send_216 : decode c_Md_send 216 = .ok (.iload_n 1, 1) := by decide +kernel
theorem d_Md_send_217 : decode c_Md_send 217 = .ok (.iconst (-1), 1) := by decide +kernel
theorem d_Md_send_218 : decode c_Md_send 218 = .ok (.iastore, 1) := by decide +kernel
theorem d_Md_send_219 : decode c_Md_send 219 = .ok (.goto 205, 3) := by decide +kernel
theorem d_Md_send_222 : decode c_Md_send 222 = .ok (.aload_n 0, 1) := by decide +kernel
theorem d_Md_send_223 : decode c_Md_send 223 = .ok (.getfield 81, 3) := by decide +kernel
theorem d_Md_send_226 : decode c_Md_send 226 = .ok (.iload_n 1, 1) := by decide +kernel
theorem d_Md_send_227 : decode c_Md_send 227 = .ok (.iaload, 1) := by decide +kernel
theorem d_Md_send_228 : decode c_Md_send 228 = .ok (.ifCond .le 196, 3) := by decide +kernel
theorem d_Md_send_231 : decode c_Md_send 231 = .ok (.aload_n 0, 1) := by decide +kernel
theorem d_Md_send_232 : decode c_Md_send 232 = .ok (.getfield 75, 3) := by decide +kernel
theorem d_Md_send_235 : decode c_Md_send 235 = .ok (.iload_n 1, 1) := by decide +kernel
theorem d_Md_send_236 : decode c_Md_send 236 = .ok (.iaload, 1) := by decide +kernel
theorem d_Md_send_237 : decode c_Md_send 237 = .ok (.bipush 32, 2) := by decide +kernel
theorem d_Md_send_239 : decode c_Md_send 239 = .ok (.if_icmp .ge 185, 3) := by decide +kernel
theorem d_Md_send_242 : decode c_Md_send 242 = .ok (.aload_n 0, 1) := by decide +kernel
theorem d_Md_send_243 : decode c_Md_send 243 = .ok (.getfield 29, 3) := by decide +kernel
theorem d_Md_send_246 : decode c_Md_send 246 = .ok (.iload_n 1, 1) := by decide +kernel
theorem d_Md_send_247 : decode c_Md_send 247 = .ok (.aload_n 0, 1) := by decide +kernel
theorem d_Md_send_248 : decode c_Md_send 248 = .ok (.getfield 29, 3) := by decide +kernel
theorem d_Md_send_251 : decode c_Md_send 251 = .ok (.iload_n 1, 1) := by decide +kernel
theorem d_Md_send_252 : decode c_Md_send 252 = .ok (.iaload, 1) := by decide +kernel
theorem d_Md_send_253 : decode c_Md_send 253 = .ok (.iconst 1, 1) := by decide +kernel
theorem d_Md_send_254 : decode c_Md_send 254 = .ok (.iadd, 1) := by decide +kernel
theorem d_Md_send_255 : decode c_Md_send 255 = .ok (.bipush 127, 2) := by decide +kernel
theorem d_Md_send_257 : decode c_Md_send 257 = .ok (.iand, 1) := by decide +kernel
theorem d_Md_send_258 : decode c_Md_send 258 = .ok (.iastore, 1) := by decide +kernel
theorem d_Md_send_259 : decode c_Md_send 259 = .ok (.aload_n 0, 1) := by decide +kernel
theorem d_Md_send_260 : decode c_Md_send 260 = .ok (.getfield 84, 3) := by decide +kernel
theorem d_Md_send_263 : decode c_Md_send 263 = .ok (.iload_n 1, 1) := by decide +kernel
theorem d_Md_send_264 : decode c_Md_send 264 = .ok (.iconst 5, 1) := by decide +kernel
theorem d_Md_send_265 : decode c_Md_send 265 = .ok (.iastore, 1) := by decide +kernel
theorem d_Md_send_266 : decode c_Md_send 266 = .ok (.aload_n 0, 1) := by decide +kernel
theorem d_Md_send_267 : decode c_Md_send 267 = .ok (.getfield 87, 3) := by decide +kernel
theorem d_Md_send_270 : decode c_Md_send 270 = .ok (.iload_n 1, 1) := by decide +kernel
theorem d_Md_send_271 : decode c_Md_send 271 = .ok (.aload_n 0, 1) := by decide +kernel
theorem d_Md_send_272 : decode c_Md_send 272 = .ok (.getfield 29, 3) := by decide +kernel
theorem d_Md_send_275 : decode c_Md_send 275 = .ok (.iload_n 1, 1) := by decide +kernel
theorem d_Md_send_276 : decode c_Md_send 276 = .ok (.iaload, 1) := by decide +kernel
theorem d_Md_send_277 : decode c_Md_send 277 = .ok (.iastore, 1) := by decide +kernel
theorem d_Md_send_278 : decode c_Md_send 278 = .ok (.aload_n 0, 1) := by decide +kernel
theorem d_Md_send_279 : decode c_Md_send 279 = .ok (.getfield 99, 3) := by decide +kernel
theorem d_Md_send_282 : decode c_Md_send 282 = .ok (.iload_n 1, 1) := by decide +kernel
theorem d_Md_send_283 : decode c_Md_send 283 = .ok (.aload_n 0, 1) := by decide +kernel
theorem d_Md_send_284 : decode c_Md_send 284 = .ok (.getfield 78, 3) := by decide +kernel
theorem d_Md_send_287 : decode c_Md_send 287 = .ok (.bipush 64, 2) := by decide +kernel
theorem d_Md_send_289 : decode c_Md_send 289 = .ok (.iload_n 1, 1) := by decide +kernel
theorem d_Md_send_290 : decode c_Md_send 290 = .ok (.imul, 1) := by decide +kernel
theorem d_Md_send_291 : decode c_Md_send 291 = .ok (.laload, 1) := by decide +kernel
theorem d_Md_send_292 : decode c_Md_send 292 = .ok (.lastore, 1) := by decide +kernel
theorem d_Md_send_293 : decode c_Md_send 293 = .ok (.aload_n 0, 1) := by decide +kernel
theorem d_Md_send_294 : decode c_Md_send 294 = .ok (.getfield 75, 3) := by decide +kernel
theorem d_Md_send_297 : decode c_Md_send 297 = .ok (.iload_n 1, 1) := by decide +kernel
theorem d_Md_send_298 : decode c_Md_send 298 = .ok (.iaload, 1) := by decide +kernel
theorem d_Md_send_299 : decode c_Md_send 299 = .ok (.ifCond .ne 16, 3) := by decide +kernel
theorem d_Md_send_302 : decode c_Md_send 302 = .ok (.aload_n 0, 1) := by decide +kernel
theorem d_Md_send_303 : decode c_Md_send 303 = .ok (.getfield 53, 3) := by decide +kernel
theorem d_Md_send_306 : decode c_Md_send 306 = .ok (.iload_n 1, 1) := by decide +kernel
theorem d_Md_send_307 : decode c_Md_send 307 = .ok (.aload_n 0, 1) := by decide +kernel
theorem d_Md_send_308 : decode c_Md_send 308 = .ok (.getfield 256, 3) := by decide +kernel
theorem d_Md_send_311 : decode c_Md_send 311 = .ok (.bipush 20, 2) := by decide +kernel
theorem d_Md_send_313 : decode c_Md_send 313 = .ok (.iadd, 1) := by decide +kernel
theorem d_Md_send_314 : decode c_Md_send 314 = .ok (.iastore, 1) := by decide +kernel
theorem d_Md_send_315 : decode c_Md_send 315 = .ok (.aload_n 0, 1) := by decide +kernel
theorem d_Md_send_316 : decode c_Md_send 316 = .ok (.getfield 68, 3) := by decide +kernel
theorem d_Md_send_319 : decode c_Md_send 319 = .ok (.bipush 32, 2) := by decide +kernel
theorem d_Md_send_321 : decode c_Md_send 321 = .ok (.iload_n 1, 1) := by decide +kernel
theorem d_Md_send_322 : decode c_Md_send 322 = .ok (.imul, 1) := by decide +kernel
theorem d_Md_send_323 : decode c_Md_send 323 = .ok (.aload_n 0, 1) := by decide +kernel
theorem d_Md_send_324 : decode c_Md_send 324 = .ok (.getfield 75, 3) := by decide +kernel
theorem d_Md_send_327 : decode c_Md_send 327 = .ok (.iload_n 1, 1) := by decide +kernel
theorem d_Md_send_328 : decode c_Md_send 328 = .ok (.iaload, 1) := by decide +kernel
theorem d_Md_send_329 : decode c_Md_send 329 = .ok (.iadd, 1) := by decide +kernel
theorem d_Md_send_330 : decode c_Md_send 330 = .ok (.aload_n 0, 1) := by decide +kernel
theorem d_Md_send_331 : decode c_Md_send 331 = .ok (.getfield 78, 3) := by decide +kernel
theorem d_Md_send_334 : decode c_Md_send 334 = .ok (.bipush 64, 2) := by decide +kernel
theorem d_Md_send_336 : decode c_Md_send 336 = .ok (.iload_n 1, 1) := by decide +kernel
theorem d_Md_send_337 : decode c_Md_send 337 = .ok (.imul, 1) := by decide +kernel
theorem d_Md_send_338 : decode c_Md_send 338 = .ok (.laload, 1) := by decide +kernel
theorem d_Md_send_339 : decode c_Md_send 339 = .ok (.lastore, 1) := by decide +kernel
theorem d_Md_send_340 : decode c_Md_send 340 = .ok (.aload_n 0, 1) := by decide +kernel
theorem d_Md_send_341 : decode c_Md_send 341 = .ok (.getfield 72, 3) := by decide +kernel
theorem d_Md_send_344 : decode c_Md_send 344 = .ok (.bipush 32, 2) := by decide +kernel
theorem d_Md_send_346 : decode c_Md_send 346 = .ok (.iload_n 1, 1) := by decide +kernel
theorem d_Md_send_347 : decode c_Md_send 347 = .ok (.imul, 1) := by decide +kernel
theorem d_Md_send_348 : decode c_Md_send 348 = .ok (.aload_n 0, 1) := by decide +kernel
theorem d_Md_send_349 : decode c_Md_send 349 = .ok (.getfield 75, 3) := by decide +kernel
theorem d_Md_send_352 : decode c_Md_send 352 = .ok (.iload_n 1, 1) := by decide +kernel
theorem d_Md_send_353 : decode c_Md_send 353 = .ok (.iaload, 1) := by decide +kernel
theorem d_Md_send_354 : decode c_Md_send 354 = .ok (.iadd, 1) := by decide +kernel
theorem d_Md_send_355 : decode c_Md_send 355 = .ok (.aload_n 0, 1) := by decide +kernel
theorem d_Md_send_356 : decode c_Md_send 356 = .ok (.getfield 29, 3) := by decide +kernel
theorem d_Md_send_359 : decode c_Md_send 359 = .ok (.iload_n 1, 1) := by decide +kernel
theorem d_Md_send_360 : decode c_Md_send 360 = .ok (.iaload, 1) := by decide +kernel
theorem d_Md_send_361 : decode c_Md_send 361 = .ok (.iastore, 1) := by decide +kernel
theorem d_Md_send_362 : decode c_Md_send 362 = .ok (.aload_n 0, 1) := by decide +kernel
theorem d_Md_send_363 : decode c_Md_send 363 = .ok (.getfield 75, 3) := by decide +kernel
theorem d_Md_send_366 : decode c_Md_send 366 = .ok (.iload_n 1, 1) := by decide +kernel
theorem d_Md_send_367 : decode c_Md_send 367 = .ok (.dup2, 1) := by decide +kernel
theorem d_Md_send_368 : decode c_Md_send 368 = .ok (.iaload, 1) := by decide +kernel
theorem d_Md_send_369 : decode c_Md_send 369 = .ok (.iconst 1, 1) := by decide +kernel
theorem d_Md_send_370 : decode c_Md_send 370 = .ok (.iadd, 1) := by decide +kernel
theorem d_Md_send_371 : decode c_Md_send 371 = .ok (.iastore, 1) := by decide +kernel
theorem d_Md_send_372 : decode c_Md_send 372 = .ok (.iconst 1, 1) := by decide +kernel
theorem d_Md_send_373 : decode c_Md_send 373 = .ok (.istore_n 3, 1) := by decide +kernel
theorem d_Md_send_374 : decode c_Md_send 374 = .ok (.iload_n 3, 1) := by decide +kernel
theorem d_Md_send_375 : decode c_Md_send 375 = .ok (.aload_n 0, 1) := by decide +kernel
theorem d_Md_send_376 : decode c_Md_send 376 = .ok (.getfield 81, 3) := by decide +kernel
theorem d_Md_send_379 : decode c_Md_send 379 = .ok (.iload_n 1, 1) := by decide +kernel
theorem d_Md_send_380 : decode c_Md_send 380 = .ok (.iaload, 1) := by decide +kernel
theorem d_Md_send_381 : decode c_Md_send 381 = .ok (.if_icmp .ge 33, 3) := by decide +kernel
theorem d_Md_send_384 : decode c_Md_send 384 = .ok (.aload_n 0, 1) := by decide +kernel
theorem d_Md_send_385 : decode c_Md_send 385 = .ok (.getfield 78, 3) := by decide +kernel
theorem d_Md_send_388 : decode c_Md_send 388 = .ok (.bipush 64, 2) := by decide +kernel
theorem d_Md_send_390 : decode c_Md_send 390 = .ok (.iload_n 1, 1) := by decide +kernel
theorem d_Md_send_391 : decode c_Md_send 391 = .ok (.imul, 1) := by decide +kernel
theorem d_Md_send_392 : decode c_Md_send 392 = .ok (.iload_n 3, 1) := by decide +kernel
theorem d_Md_send_393 : decode c_Md_send 393 = .ok (.iadd, 1) := by decide +kernel
theorem d_Md_send_394 : decode c_Md_send 394 = .ok (.iconst 1, 1) := by decide +kernel
theorem d_Md_send_395 : decode c_Md_send 395 = .ok (.isub, 1) := by decide +kernel
theorem d_Md_send_396 : decode c_Md_send 396 = .ok (.aload_n 0, 1) := by decide +kernel
theorem d_Md_send_397 : decode c_Md_send 397 = .ok (.getfield 78, 3) := by decide +kernel
theorem d_Md_send_400 : decode c_Md_send 400 = .ok (.bipush 64, 2) := by decide +kernel
theorem d_Md_send_402 : decode c_Md_send 402 = .ok (.iload_n 1, 1) := by decide +kernel
theorem d_Md_send_403 : decode c_Md_send 403 = .ok (.imul, 1) := by decide +kernel
theorem d_Md_send_404 : decode c_Md_send 404 = .ok (.iload_n 3, 1) := by decide +kernel
theorem d_Md_send_405 : decode c_Md_send 405 = .ok (.iadd, 1) := by decide +kernel
theorem d_Md_send_406 : decode c_Md_send 406 = .ok (.laload, 1) := by decide +kernel
theorem d_Md_send_407 : decode c_Md_send 407 = .ok (.lastore, 1) := by decide +kernel
theorem d_Md_send_408 : decode c_Md_send 408 = .ok (.iinc 3 1, 3) := by decide +kernel
theorem d_Md_send_411 : decode c_Md_send 411 = .ok (.goto (-37), 3) := by decide +kernel
theorem d_Md_send_414 : decode c_Md_send 414 = .ok (.aload_n 0, 1) := by decide +kernel
theorem d_Md_send_415 : decode c_Md_send 415 = .ok (.getfield 81, 3) := by decide +kernel
theorem d_Md_send_418 : decode c_Md_send 418 = .ok (.iload_n 1, 1) := by decide +kernel
theorem d_Md_send_419 : decode c_Md_send 419 = .ok (.dup2, 1) := by decide +kernel
theorem d_Md_send_420 : decode c_Md_send 420 = .ok (.iaload, 1) := by decide +kernel
theorem d_Md_send_421 : decode c_Md_send 421 = .ok (.iconst 1, 1) := by decide +kernel
theorem d_Md_send_422 : decode c_Md_send 422 = .ok (.isub, 1) := by decide +kernel
theorem d_Md_send_423 : decode c_Md_send 423 = .ok (.iastore, 1) := by decide +kernel
theorem d_Md_send_424 : decode c_Md_send 424 = .ok (.return_, 1) := by decide +kernel
def f_Md_send_424 (a : Nat) : sn_M := r_V
set_option maxHeartbeats 4000000 in
set_option maxRecDepth 100000 in
theorem mono_Md_send_424 (a : Nat) : sn_Mono (f_Md_send_424 a) := sn_Mono.rV
set_option maxHeartbeats 4000000 in
set_option maxRecDepth 100000 in
theorem s_Md_send_424 {X : sn_X} (C : sn_Cx X c_Md_send "SignalNetworkModel" none "send" 4 0 0) (a : Nat) : sn_S X 424 [(0, vA (some a))] [] (f_Md_send_424 a) := by
  unfold f_Md_send_424
  exact r_vret C d_Md_send_424 rfl
def f_Md_send_374 (a : Nat) : Nat → Int32 → Int32 → sn_M
  | 0, _, _ => r_0
  | n + 1, x1, x3 => g_R 12 29 (some a) fun v1 => a_I 31 v1 x1 fun v2 => (if v2 ≤ x3 then g_R 12 29 (some a) fun v3 => a_I 31 v3 x1 fun v4 => b_I 31 v3 x1 (v4 - (1 : Int32)) (f_Md_send_424 a) else g_R 12 28 (some a) fun v5 => g_R 12 28 (some a) fun v6 => a_J 32 v6 (((64 : Int32) * x1) + x3) fun v7 => b_J 32 v5 ((((64 : Int32) * x1) + x3) - (1 : Int32)) v7 (f_Md_send_374 a n x1 (x3 + (1 : Int32))))
set_option maxHeartbeats 4000000 in
set_option maxRecDepth 100000 in
theorem mono_Md_send_374 (a : Nat) : ∀ (n : Nat) (x1 : Int32) (x3 : Int32), sn_Mono (f_Md_send_374 a n x1 x3)
  | 0, _, _ => sn_Mono.r0
  | n + 1, x1, x3 => sn_Mono.gR (fun v1 => sn_Mono.aI (fun v2 => sn_Mono.ite (sn_Mono.gR (fun v3 => sn_Mono.aI (fun v4 => sn_Mono.bI (mono_Md_send_424 a)))) (sn_Mono.gR (fun v5 => sn_Mono.gR (fun v6 => sn_Mono.aJ (fun v7 => sn_Mono.bJ (mono_Md_send_374 a n x1 (x3 + (1 : Int32)))))))))
set_option maxHeartbeats 4000000 in
set_option maxRecDepth 100000 in
theorem s_Md_send_374 {X : sn_X} (C : sn_Cx X c_Md_send "SignalNetworkModel" none "send" 4 0 0) (a : Nat) (n : Nat) : ∀ (x1 : Int32) (x3 : Int32), sn_S X 374 [(0, vA (some a)), (1, vI x1), (3, vI x3)] [] (f_Md_send_374 a n x1 x3) := by
  induction n with
  | zero => intro x1 x3; exact sn_S.zero
  | succ n ih =>
    intro x1 x3
    unfold f_Md_send_374
    refine r_iload_n (q := 375) (i := 3) (pl := 2) C d_Md_send_374 rfl rfl rfl ?_
    refine r_aload_n (q := 376) (i := 0) (pl := 0) C d_Md_send_375 rfl rfl rfl ?_
    refine r_gR (q := 379) C d_Md_send_376 rfl F_Md_81 rfl (fun v1 => ?_)
    refine r_iload_n (q := 380) (i := 1) (pl := 1) C d_Md_send_379 rfl rfl rfl ?_
    refine r_aI (q := 381) C (Or.inr rfl) d_Md_send_380 rfl (fun v2 => ?_)
    refine r_icmp_ge (tgt := 414) (q := 384) C d_Md_send_381 (by decide) rfl ?_ ?_
    · refine r_aload_n (q := 415) (i := 0) (pl := 0) C d_Md_send_414 rfl rfl rfl ?_
      refine r_gR (q := 418) C d_Md_send_415 rfl F_Md_81 rfl (fun v3 => ?_)
      refine r_iload_n (q := 419) (i := 1) (pl := 1) C d_Md_send_418 rfl rfl rfl ?_
      refine r_dup2 (q := 420) C d_Md_send_419 rfl rfl rfl ?_
      refine r_aI (q := 421) C (Or.inr rfl) d_Md_send_420 rfl (fun v4 => ?_)
      refine r_iconst (q := 422) (v := 1) C d_Md_send_421 rfl (by decide) ?_
      refine r_isub (q := 423) C d_Md_send_422 rfl ?_
      refine r_bI (q := 424) C (Or.inr rfl) d_Md_send_423 rfl ?_
      refine r_sub (lv' := [(0, vA (some a))]) [0] rfl ?_
      exact s_Md_send_424 C a
    · refine r_aload_n (q := 385) (i := 0) (pl := 0) C d_Md_send_384 rfl rfl rfl ?_
      refine r_gR (q := 388) C d_Md_send_385 rfl F_Md_78 rfl (fun v5 => ?_)
      refine r_bipush (q := 390) (v := 64) C d_Md_send_388 rfl (by decide) ?_
      refine r_iload_n (q := 391) (i := 1) (pl := 1) C d_Md_send_390 rfl rfl rfl ?_
      refine r_imul (q := 392) C d_Md_send_391 rfl ?_
      refine r_iload_n (q := 393) (i := 3) (pl := 2) C d_Md_send_392 rfl rfl rfl ?_
      refine r_iadd (q := 394) C d_Md_send_393 rfl ?_
      refine r_iconst (q := 395) (v := 1) C d_Md_send_394 rfl (by decide) ?_
      refine r_isub (q := 396) C d_Md_send_395 rfl ?_
      refine r_aload_n (q := 397) (i := 0) (pl := 0) C d_Md_send_396 rfl rfl rfl ?_
      refine r_gR (q := 400) C d_Md_send_397 rfl F_Md_78 rfl (fun v6 => ?_)
      refine r_bipush (q := 402) (v := 64) C d_Md_send_400 rfl (by decide) ?_
      refine r_iload_n (q := 403) (i := 1) (pl := 1) C d_Md_send_402 rfl rfl rfl ?_
      refine r_imul (q := 404) C d_Md_send_403 rfl ?_
      refine r_iload_n (q := 405) (i := 3) (pl := 2) C d_Md_send_404 rfl rfl rfl ?_
      refine r_iadd (q := 406) C d_Md_send_405 rfl ?_
      refine r_aJ (q := 407) C (Or.inr rfl) d_Md_send_406 rfl (fun v7 => ?_)
      refine r_bJ (q := 408) C (Or.inr rfl) d_Md_send_407 rfl ?_
      refine r_iinc (q := 411) (pl := 2) (v := x3 + (1 : Int32)) (lv' := [(3, vI (x3 + (1 : Int32))), (0, vA (some a)), (1, vI x1)]) C d_Md_send_408 rfl rfl rfl (by decide) rfl ?_
      refine r_goto (tgt := 374) C d_Md_send_411 (by decide) ?_
      refine r_sub (lv' := [(0, vA (some a)), (1, vI x1), (3, vI (x3 + (1 : Int32)))]) [1, 2, 0] rfl ?_
      exact ih x1 (x3 + (1 : Int32))
def f_Md_send_315 (a : Nat) (x1 : Int32) : sn_M := g_R 12 25 (some a) fun v8 => g_R 12 27 (some a) fun v9 => a_I 31 v9 x1 fun v10 => g_R 12 28 (some a) fun v11 => a_J 32 v11 ((64 : Int32) * x1) fun v12 => b_J 32 v8 (((32 : Int32) * x1) + v10) v12 (g_R 12 26 (some a) fun v13 => g_R 12 27 (some a) fun v14 => a_I 31 v14 x1 fun v15 => g_R 12 12 (some a) fun v16 => a_I 31 v16 x1 fun v17 => b_I 31 v13 (((32 : Int32) * x1) + v15) v17 (g_R 12 27 (some a) fun v18 => a_I 31 v18 x1 fun v19 => b_I 31 v18 x1 (v19 + (1 : Int32)) (f_Md_send_374 a sn_fuel x1 (1 : Int32))))
set_option maxHeartbeats 4000000 in
set_option maxRecDepth 100000 in
theorem mono_Md_send_315 (a : Nat) (x1 : Int32) : sn_Mono (f_Md_send_315 a x1) := sn_Mono.gR (fun v8 => sn_Mono.gR (fun v9 => sn_Mono.aI (fun v10 => sn_Mono.gR (fun v11 => sn_Mono.aJ (fun v12 => sn_Mono.bJ (sn_Mono.gR (fun v13 => sn_Mono.gR (fun v14 => sn_Mono.aI (fun v15 => sn_Mono.gR (fun v16 => sn_Mono.aI (fun v17 => sn_Mono.bI (sn_Mono.gR (fun v18 => sn_Mono.aI (fun v19 => sn_Mono.bI (mono_Md_send_374 a sn_fuel x1 (1 : Int32))))))))))))))))
set_option maxHeartbeats 4000000 in
set_option maxRecDepth 100000 in
theorem s_Md_send_315 {X : sn_X} (C : sn_Cx X c_Md_send "SignalNetworkModel" none "send" 4 0 0) (a : Nat) (x1 : Int32) : sn_S X 315 [(0, vA (some a)), (1, vI x1)] [] (f_Md_send_315 a x1) := by
  unfold f_Md_send_315
  refine r_aload_n (q := 316) (i := 0) (pl := 0) C d_Md_send_315 rfl rfl rfl ?_
  refine r_gR (q := 319) C d_Md_send_316 rfl F_Md_68 rfl (fun v8 => ?_)
  refine r_bipush (q := 321) (v := 32) C d_Md_send_319 rfl (by decide) ?_
  refine r_iload_n (q := 322) (i := 1) (pl := 1) C d_Md_send_321 rfl rfl rfl ?_
  refine r_imul (q := 323) C d_Md_send_322 rfl ?_
  refine r_aload_n (q := 324) (i := 0) (pl := 0) C d_Md_send_323 rfl rfl rfl ?_
  refine r_gR (q := 327) C d_Md_send_324 rfl F_Md_75 rfl (fun v9 => ?_)
  refine r_iload_n (q := 328) (i := 1) (pl := 1) C d_Md_send_327 rfl rfl rfl ?_
  refine r_aI (q := 329) C (Or.inr rfl) d_Md_send_328 rfl (fun v10 => ?_)
  refine r_iadd (q := 330) C d_Md_send_329 rfl ?_
  refine r_aload_n (q := 331) (i := 0) (pl := 0) C d_Md_send_330 rfl rfl rfl ?_
  refine r_gR (q := 334) C d_Md_send_331 rfl F_Md_78 rfl (fun v11 => ?_)
  refine r_bipush (q := 336) (v := 64) C d_Md_send_334 rfl (by decide) ?_
  refine r_iload_n (q := 337) (i := 1) (pl := 1) C d_Md_send_336 rfl rfl rfl ?_
  refine r_imul (q := 338) C d_Md_send_337 rfl ?_
  refine r_aJ (q := 339) C (Or.inr rfl) d_Md_send_338 rfl (fun v12 => ?_)
  refine r_bJ (q := 340) C (Or.inr rfl) d_Md_send_339 rfl ?_
  refine r_aload_n (q := 341) (i := 0) (pl := 0) C d_Md_send_340 rfl rfl rfl ?_
  refine r_gR (q := 344) C d_Md_send_341 rfl F_Md_72 rfl (fun v13 => ?_)
  refine r_bipush (q := 346) (v := 32) C d_Md_send_344 rfl (by decide) ?_
  refine r_iload_n (q := 347) (i := 1) (pl := 1) C d_Md_send_346 rfl rfl rfl ?_
  refine r_imul (q := 348) C d_Md_send_347 rfl ?_
  refine r_aload_n (q := 349) (i := 0) (pl := 0) C d_Md_send_348 rfl rfl rfl ?_
  refine r_gR (q := 352) C d_Md_send_349 rfl F_Md_75 rfl (fun v14 => ?_)
  refine r_iload_n (q := 353) (i := 1) (pl := 1) C d_Md_send_352 rfl rfl rfl ?_
  refine r_aI (q := 354) C (Or.inr rfl) d_Md_send_353 rfl (fun v15 => ?_)
  refine r_iadd (q := 355) C d_Md_send_354 rfl ?_
  refine r_aload_n (q := 356) (i := 0) (pl := 0) C d_Md_send_355 rfl rfl rfl ?_
  refine r_gR (q := 359) C d_Md_send_356 rfl F_Md_29 rfl (fun v16 => ?_)
  refine r_iload_n (q := 360) (i := 1) (pl := 1) C d_Md_send_359 rfl rfl rfl ?_
  refine r_aI (q := 361) C (Or.inr rfl) d_Md_send_360 rfl (fun v17 => ?_)
  refine r_bI (q := 362) C (Or.inr rfl) d_Md_send_361 rfl ?_
  refine r_aload_n (q := 363) (i := 0) (pl := 0) C d_Md_send_362 rfl rfl rfl ?_
  refine r_gR (q := 366) C d_Md_send_363 rfl F_Md_75 rfl (fun v18 => ?_)
  refine r_iload_n (q := 367) (i := 1) (pl := 1) C d_Md_send_366 rfl rfl rfl ?_
  refine r_dup2 (q := 368) C d_Md_send_367 rfl rfl rfl ?_
  refine r_aI (q := 369) C (Or.inr rfl) d_Md_send_368 rfl (fun v19 => ?_)
  refine r_iconst (q := 370) (v := 1) C d_Md_send_369 rfl (by decide) ?_
  refine r_iadd (q := 371) C d_Md_send_370 rfl ?_
  refine r_bI (q := 372) C (Or.inr rfl) d_Md_send_371 rfl ?_
  refine r_iconst (q := 373) (v := 1) C d_Md_send_372 rfl (by decide) ?_
  refine r_istore_n (q := 374) (i := 3) (lv' := [(3, vI (1 : Int32)), (0, vA (some a)), (1, vI x1)]) C d_Md_send_373 rfl rfl (by decide) rfl ?_
  refine r_sub (lv' := [(0, vA (some a)), (1, vI x1), (3, vI (1 : Int32))]) [1, 2, 0] rfl ?_
  exact s_Md_send_374 C a sn_fuel x1 (1 : Int32)
def f_Md_send_119 (a : Nat) (x1 : Int32) (x2 : Int32) (t0 : Option Nat) (t1 : Int32) (t2 : Int32) : sn_M := b_I 31 t0 t1 t2 ((if x2 = (5 : Int32) then g_R 12 21 (some a) fun v20 => a_I 31 v20 x1 fun v21 => (if v21 = (-1 : Int32) then g_R 12 29 (some a) fun v22 => a_I 31 v22 x1 fun v23 => (if v23 ≤ 0 then f_Md_send_424 a else g_R 12 27 (some a) fun v24 => a_I 31 v24 x1 fun v25 => (if (32 : Int32) ≤ v25 then f_Md_send_424 a else g_R 12 12 (some a) fun v26 => g_R 12 12 (some a) fun v27 => a_I 31 v27 x1 fun v28 => b_I 31 v26 x1 ((v28 + (1 : Int32)) &&& (127 : Int32)) (g_R 12 30 (some a) fun v29 => b_I 31 v29 x1 (5 : Int32) (g_R 12 31 (some a) fun v30 => g_R 12 12 (some a) fun v31 => a_I 31 v31 x1 fun v32 => b_I 31 v30 x1 v32 (g_R 12 35 (some a) fun v33 => g_R 12 28 (some a) fun v34 => a_J 32 v34 ((64 : Int32) * x1) fun v35 => b_J 32 v33 x1 v35 (g_R 12 27 (some a) fun v36 => a_I 31 v36 x1 fun v37 => (if ¬ v37 = 0 then f_Md_send_315 a x1 else g_R 12 20 (some a) fun v38 => g_I 12 6 (some a) fun v39 => b_I 31 v38 x1 (v39 + (20 : Int32)) (f_Md_send_315 a x1)))))))) else g_R 12 30 (some a) fun v40 => b_I 31 v40 x1 (5 : Int32) (g_R 12 31 (some a) fun v41 => g_R 12 26 (some a) fun v42 => g_R 12 21 (some a) fun v43 => a_I 31 v43 x1 fun v44 => a_I 31 v42 (((32 : Int32) * x1) + v44) fun v45 => b_I 31 v41 x1 v45 (g_R 12 35 (some a) fun v46 => g_R 12 25 (some a) fun v47 => g_R 12 21 (some a) fun v48 => a_I 31 v48 x1 fun v49 => a_J 32 v47 (((32 : Int32) * x1) + v49) fun v50 => b_J 32 v46 x1 v50 (g_R 12 21 (some a) fun v51 => a_I 31 v51 x1 fun v52 => b_I 31 v51 x1 (v52 + (1 : Int32)) (g_R 12 21 (some a) fun v53 => a_I 31 v53 x1 fun v54 => g_R 12 27 (some a) fun v55 => a_I 31 v55 x1 fun v56 => (if ¬ v54 = v56 then f_Md_send_424 a else g_R 12 21 (some a) fun v57 => b_I 31 v57 x1 (-1 : Int32) (f_Md_send_424 a))))))) else r_V))
set_option maxHeartbeats 4000000 in
set_option maxRecDepth 100000 in
theorem mono_Md_send_119 (a : Nat) (x1 : Int32) (x2 : Int32) (t0 : Option Nat) (t1 : Int32) (t2 : Int32) : sn_Mono (f_Md_send_119 a x1 x2 t0 t1 t2) := sn_Mono.bI (sn_Mono.ite (sn_Mono.gR (fun v20 => sn_Mono.aI (fun v21 => sn_Mono.ite (sn_Mono.gR (fun v22 => sn_Mono.aI (fun v23 => sn_Mono.ite (mono_Md_send_424 a) (sn_Mono.gR (fun v24 => sn_Mono.aI (fun v25 => sn_Mono.ite (mono_Md_send_424 a) (sn_Mono.gR (fun v26 => sn_Mono.gR (fun v27 => sn_Mono.aI (fun v28 => sn_Mono.bI (sn_Mono.gR (fun v29 => sn_Mono.bI (sn_Mono.gR (fun v30 => sn_Mono.gR (fun v31 => sn_Mono.aI (fun v32 => sn_Mono.bI (sn_Mono.gR (fun v33 => sn_Mono.gR (fun v34 => sn_Mono.aJ (fun v35 => sn_Mono.bJ (sn_Mono.gR (fun v36 => sn_Mono.aI (fun v37 => sn_Mono.ite (mono_Md_send_315 a x1) (sn_Mono.gR (fun v38 => sn_Mono.gI (fun v39 => sn_Mono.bI (mono_Md_send_315 a x1))))))))))))))))))))))))))) (sn_Mono.gR (fun v40 => sn_Mono.bI (sn_Mono.gR (fun v41 => sn_Mono.gR (fun v42 => sn_Mono.gR (fun v43 => sn_Mono.aI (fun v44 => sn_Mono.aI (fun v45 => sn_Mono.bI (sn_Mono.gR (fun v46 => sn_Mono.gR (fun v47 => sn_Mono.gR (fun v48 => sn_Mono.aI (fun v49 => sn_Mono.aJ (fun v50 => sn_Mono.bJ (sn_Mono.gR (fun v51 => sn_Mono.aI (fun v52 => sn_Mono.bI (sn_Mono.gR (fun v53 => sn_Mono.aI (fun v54 => sn_Mono.gR (fun v55 => sn_Mono.aI (fun v56 => sn_Mono.ite (mono_Md_send_424 a) (sn_Mono.gR (fun v57 => sn_Mono.bI (mono_Md_send_424 a)))))))))))))))))))))))))))) (sn_Mono.rV))
set_option maxHeartbeats 4000000 in
set_option maxRecDepth 100000 in
theorem s_Md_send_119 {X : sn_X} (C : sn_Cx X c_Md_send "SignalNetworkModel" none "send" 4 0 0) (a : Nat) (x1 : Int32) (x2 : Int32) (t0 : Option Nat) (t1 : Int32) (t2 : Int32) : sn_S X 119 [(0, vA (some a)), (1, vI x1), (2, vI x2)] [vI t2, vI t1, vA t0] (f_Md_send_119 a x1 x2 t0 t1 t2) := by
  unfold f_Md_send_119
  refine r_bI (q := 120) C (Or.inr rfl) d_Md_send_119 rfl ?_
  refine r_iload_n (q := 121) (i := 2) (pl := 2) C d_Md_send_120 rfl rfl rfl ?_
  refine r_iconst (q := 122) (v := 5) C d_Md_send_121 rfl (by decide) ?_
  refine r_icmp_eq (tgt := 126) (q := 125) C d_Md_send_122 (by decide) rfl ?_ ?_
  · refine r_aload_n (q := 127) (i := 0) (pl := 0) C d_Md_send_126 rfl rfl rfl ?_
    refine r_gR (q := 130) C d_Md_send_127 rfl F_Md_56 rfl (fun v20 => ?_)
    refine r_iload_n (q := 131) (i := 1) (pl := 1) C d_Md_send_130 rfl rfl rfl ?_
    refine r_aI (q := 132) C (Or.inr rfl) d_Md_send_131 rfl (fun v21 => ?_)
    refine r_iconst (q := 133) (v := -1) C d_Md_send_132 rfl (by decide) ?_
    refine r_icmp_eq (tgt := 222) (q := 136) C d_Md_send_133 (by decide) rfl ?_ ?_
    · refine r_aload_n (q := 223) (i := 0) (pl := 0) C d_Md_send_222 rfl rfl rfl ?_
      refine r_gR (q := 226) C d_Md_send_223 rfl F_Md_81 rfl (fun v22 => ?_)
      refine r_iload_n (q := 227) (i := 1) (pl := 1) C d_Md_send_226 rfl rfl rfl ?_
      refine r_aI (q := 228) C (Or.inr rfl) d_Md_send_227 rfl (fun v23 => ?_)
      refine r_if_le (tgt := 424) (q := 231) C d_Md_send_228 (by decide) rfl ?_ ?_
      · refine r_sub (lv' := [(0, vA (some a))]) [0] rfl ?_
        exact s_Md_send_424 C a
      · refine r_aload_n (q := 232) (i := 0) (pl := 0) C d_Md_send_231 rfl rfl rfl ?_
        refine r_gR (q := 235) C d_Md_send_232 rfl F_Md_75 rfl (fun v24 => ?_)
        refine r_iload_n (q := 236) (i := 1) (pl := 1) C d_Md_send_235 rfl rfl rfl ?_
        refine r_aI (q := 237) C (Or.inr rfl) d_Md_send_236 rfl (fun v25 => ?_)
        refine r_bipush (q := 239) (v := 32) C d_Md_send_237 rfl (by decide) ?_
        refine r_icmp_ge (tgt := 424) (q := 242) C d_Md_send_239 (by decide) rfl ?_ ?_
        · refine r_sub (lv' := [(0, vA (some a))]) [0] rfl ?_
          exact s_Md_send_424 C a
        · refine r_aload_n (q := 243) (i := 0) (pl := 0) C d_Md_send_242 rfl rfl rfl ?_
          refine r_gR (q := 246) C d_Md_send_243 rfl F_Md_29 rfl (fun v26 => ?_)
          refine r_iload_n (q := 247) (i := 1) (pl := 1) C d_Md_send_246 rfl rfl rfl ?_
          refine r_aload_n (q := 248) (i := 0) (pl := 0) C d_Md_send_247 rfl rfl rfl ?_
          refine r_gR (q := 251) C d_Md_send_248 rfl F_Md_29 rfl (fun v27 => ?_)
          refine r_iload_n (q := 252) (i := 1) (pl := 1) C d_Md_send_251 rfl rfl rfl ?_
          refine r_aI (q := 253) C (Or.inr rfl) d_Md_send_252 rfl (fun v28 => ?_)
          refine r_iconst (q := 254) (v := 1) C d_Md_send_253 rfl (by decide) ?_
          refine r_iadd (q := 255) C d_Md_send_254 rfl ?_
          refine r_bipush (q := 257) (v := 127) C d_Md_send_255 rfl (by decide) ?_
          refine r_iand (q := 258) C d_Md_send_257 rfl ?_
          refine r_bI (q := 259) C (Or.inr rfl) d_Md_send_258 rfl ?_
          refine r_aload_n (q := 260) (i := 0) (pl := 0) C d_Md_send_259 rfl rfl rfl ?_
          refine r_gR (q := 263) C d_Md_send_260 rfl F_Md_84 rfl (fun v29 => ?_)
          refine r_iload_n (q := 264) (i := 1) (pl := 1) C d_Md_send_263 rfl rfl rfl ?_
          refine r_iconst (q := 265) (v := 5) C d_Md_send_264 rfl (by decide) ?_
          refine r_bI (q := 266) C (Or.inr rfl) d_Md_send_265 rfl ?_
          refine r_aload_n (q := 267) (i := 0) (pl := 0) C d_Md_send_266 rfl rfl rfl ?_
          refine r_gR (q := 270) C d_Md_send_267 rfl F_Md_87 rfl (fun v30 => ?_)
          refine r_iload_n (q := 271) (i := 1) (pl := 1) C d_Md_send_270 rfl rfl rfl ?_
          refine r_aload_n (q := 272) (i := 0) (pl := 0) C d_Md_send_271 rfl rfl rfl ?_
          refine r_gR (q := 275) C d_Md_send_272 rfl F_Md_29 rfl (fun v31 => ?_)
          refine r_iload_n (q := 276) (i := 1) (pl := 1) C d_Md_send_275 rfl rfl rfl ?_
          refine r_aI (q := 277) C (Or.inr rfl) d_Md_send_276 rfl (fun v32 => ?_)
          refine r_bI (q := 278) C (Or.inr rfl) d_Md_send_277 rfl ?_
          refine r_aload_n (q := 279) (i := 0) (pl := 0) C d_Md_send_278 rfl rfl rfl ?_
          refine r_gR (q := 282) C d_Md_send_279 rfl F_Md_99 rfl (fun v33 => ?_)
          refine r_iload_n (q := 283) (i := 1) (pl := 1) C d_Md_send_282 rfl rfl rfl ?_
          refine r_aload_n (q := 284) (i := 0) (pl := 0) C d_Md_send_283 rfl rfl rfl ?_
          refine r_gR (q := 287) C d_Md_send_284 rfl F_Md_78 rfl (fun v34 => ?_)
          refine r_bipush (q := 289) (v := 64) C d_Md_send_287 rfl (by decide) ?_
          refine r_iload_n (q := 290) (i := 1) (pl := 1) C d_Md_send_289 rfl rfl rfl ?_
          refine r_imul (q := 291) C d_Md_send_290 rfl ?_
          refine r_aJ (q := 292) C (Or.inr rfl) d_Md_send_291 rfl (fun v35 => ?_)
          refine r_bJ (q := 293) C (Or.inr rfl) d_Md_send_292 rfl ?_
          refine r_aload_n (q := 294) (i := 0) (pl := 0) C d_Md_send_293 rfl rfl rfl ?_
          refine r_gR (q := 297) C d_Md_send_294 rfl F_Md_75 rfl (fun v36 => ?_)
          refine r_iload_n (q := 298) (i := 1) (pl := 1) C d_Md_send_297 rfl rfl rfl ?_
          refine r_aI (q := 299) C (Or.inr rfl) d_Md_send_298 rfl (fun v37 => ?_)
          refine r_if_ne (tgt := 315) (q := 302) C d_Md_send_299 (by decide) rfl ?_ ?_
          · refine r_sub (lv' := [(0, vA (some a)), (1, vI x1)]) [0, 1] rfl ?_
            exact s_Md_send_315 C a x1
          · refine r_aload_n (q := 303) (i := 0) (pl := 0) C d_Md_send_302 rfl rfl rfl ?_
            refine r_gR (q := 306) C d_Md_send_303 rfl F_Md_53 rfl (fun v38 => ?_)
            refine r_iload_n (q := 307) (i := 1) (pl := 1) C d_Md_send_306 rfl rfl rfl ?_
            refine r_aload_n (q := 308) (i := 0) (pl := 0) C d_Md_send_307 rfl rfl rfl ?_
            refine r_gI (q := 311) C d_Md_send_308 rfl F_Md_256 rfl (fun v39 => ?_)
            refine r_bipush (q := 313) (v := 20) C d_Md_send_311 rfl (by decide) ?_
            refine r_iadd (q := 314) C d_Md_send_313 rfl ?_
            refine r_bI (q := 315) C (Or.inr rfl) d_Md_send_314 rfl ?_
            refine r_sub (lv' := [(0, vA (some a)), (1, vI x1)]) [0, 1] rfl ?_
            exact s_Md_send_315 C a x1
    · refine r_aload_n (q := 137) (i := 0) (pl := 0) C d_Md_send_136 rfl rfl rfl ?_
      refine r_gR (q := 140) C d_Md_send_137 rfl F_Md_84 rfl (fun v40 => ?_)
      refine r_iload_n (q := 141) (i := 1) (pl := 1) C d_Md_send_140 rfl rfl rfl ?_
      refine r_iconst (q := 142) (v := 5) C d_Md_send_141 rfl (by decide) ?_
      refine r_bI (q := 143) C (Or.inr rfl) d_Md_send_142 rfl ?_
      refine r_aload_n (q := 144) (i := 0) (pl := 0) C d_Md_send_143 rfl rfl rfl ?_
      refine r_gR (q := 147) C d_Md_send_144 rfl F_Md_87 rfl (fun v41 => ?_)
      refine r_iload_n (q := 148) (i := 1) (pl := 1) C d_Md_send_147 rfl rfl rfl ?_
      refine r_aload_n (q := 149) (i := 0) (pl := 0) C d_Md_send_148 rfl rfl rfl ?_
      refine r_gR (q := 152) C d_Md_send_149 rfl F_Md_72 rfl (fun v42 => ?_)
      refine r_bipush (q := 154) (v := 32) C d_Md_send_152 rfl (by decide) ?_
      refine r_iload_n (q := 155) (i := 1) (pl := 1) C d_Md_send_154 rfl rfl rfl ?_
      refine r_imul (q := 156) C d_Md_send_155 rfl ?_
      refine r_aload_n (q := 157) (i := 0) (pl := 0) C d_Md_send_156 rfl rfl rfl ?_
      refine r_gR (q := 160) C d_Md_send_157 rfl F_Md_56 rfl (fun v43 => ?_)
      refine r_iload_n (q := 161) (i := 1) (pl := 1) C d_Md_send_160 rfl rfl rfl ?_
      refine r_aI (q := 162) C (Or.inr rfl) d_Md_send_161 rfl (fun v44 => ?_)
      refine r_iadd (q := 163) C d_Md_send_162 rfl ?_
      refine r_aI (q := 164) C (Or.inr rfl) d_Md_send_163 rfl (fun v45 => ?_)
      refine r_bI (q := 165) C (Or.inr rfl) d_Md_send_164 rfl ?_
      refine r_aload_n (q := 166) (i := 0) (pl := 0) C d_Md_send_165 rfl rfl rfl ?_
      refine r_gR (q := 169) C d_Md_send_166 rfl F_Md_99 rfl (fun v46 => ?_)
      refine r_iload_n (q := 170) (i := 1) (pl := 1) C d_Md_send_169 rfl rfl rfl ?_
      refine r_aload_n (q := 171) (i := 0) (pl := 0) C d_Md_send_170 rfl rfl rfl ?_
      refine r_gR (q := 174) C d_Md_send_171 rfl F_Md_68 rfl (fun v47 => ?_)
      refine r_bipush (q := 176) (v := 32) C d_Md_send_174 rfl (by decide) ?_
      refine r_iload_n (q := 177) (i := 1) (pl := 1) C d_Md_send_176 rfl rfl rfl ?_
      refine r_imul (q := 178) C d_Md_send_177 rfl ?_
      refine r_aload_n (q := 179) (i := 0) (pl := 0) C d_Md_send_178 rfl rfl rfl ?_
      refine r_gR (q := 182) C d_Md_send_179 rfl F_Md_56 rfl (fun v48 => ?_)
      refine r_iload_n (q := 183) (i := 1) (pl := 1) C d_Md_send_182 rfl rfl rfl ?_
      refine r_aI (q := 184) C (Or.inr rfl) d_Md_send_183 rfl (fun v49 => ?_)
      refine r_iadd (q := 185) C d_Md_send_184 rfl ?_
      refine r_aJ (q := 186) C (Or.inr rfl) d_Md_send_185 rfl (fun v50 => ?_)
      refine r_bJ (q := 187) C (Or.inr rfl) d_Md_send_186 rfl ?_
      refine r_aload_n (q := 188) (i := 0) (pl := 0) C d_Md_send_187 rfl rfl rfl ?_
      refine r_gR (q := 191) C d_Md_send_188 rfl F_Md_56 rfl (fun v51 => ?_)
      refine r_iload_n (q := 192) (i := 1) (pl := 1) C d_Md_send_191 rfl rfl rfl ?_
      refine r_dup2 (q := 193) C d_Md_send_192 rfl rfl rfl ?_
      refine r_aI (q := 194) C (Or.inr rfl) d_Md_send_193 rfl (fun v52 => ?_)
      refine r_iconst (q := 195) (v := 1) C d_Md_send_194 rfl (by decide) ?_
      refine r_iadd (q := 196) C d_Md_send_195 rfl ?_
      refine r_bI (q := 197) C (Or.inr rfl) d_Md_send_196 rfl ?_
      refine r_aload_n (q := 198) (i := 0) (pl := 0) C d_Md_send_197 rfl rfl rfl ?_
      refine r_gR (q := 201) C d_Md_send_198 rfl F_Md_56 rfl (fun v53 => ?_)
      refine r_iload_n (q := 202) (i := 1) (pl := 1) C d_Md_send_201 rfl rfl rfl ?_
      refine r_aI (q := 203) C (Or.inr rfl) d_Md_send_202 rfl (fun v54 => ?_)
      refine r_aload_n (q := 204) (i := 0) (pl := 0) C d_Md_send_203 rfl rfl rfl ?_
      refine r_gR (q := 207) C d_Md_send_204 rfl F_Md_75 rfl (fun v55 => ?_)
      refine r_iload_n (q := 208) (i := 1) (pl := 1) C d_Md_send_207 rfl rfl rfl ?_
      refine r_aI (q := 209) C (Or.inr rfl) d_Md_send_208 rfl (fun v56 => ?_)
      refine r_icmp_ne (tgt := 424) (q := 212) C d_Md_send_209 (by decide) rfl ?_ ?_
      · refine r_sub (lv' := [(0, vA (some a))]) [0] rfl ?_
        exact s_Md_send_424 C a
      · refine r_aload_n (q := 213) (i := 0) (pl := 0) C d_Md_send_212 rfl rfl rfl ?_
        refine r_gR (q := 216) C d_Md_send_213 rfl F_Md_56 rfl (fun v57 => ?_)
        refine r_iload_n (q := 217) (i := 1) (pl := 1) C d_Md_send_216 rfl rfl rfl ?_
        refine r_iconst (q := 218) (v := -1) C d_Md_send_217 rfl (by decide) ?_
        refine r_bI (q := 219) C (Or.inr rfl) d_Md_send_218 rfl ?_
        refine r_goto (tgt := 424) C d_Md_send_219 (by decide) ?_
        refine r_sub (lv' := [(0, vA (some a))]) [0] rfl ?_
        exact s_Md_send_424 C a
  · exact r_vret C d_Md_send_125 rfl
def f_Md_send (a : Nat) (x1 : Int32) : sn_M := g_R 12 10 (some a) fun v58 => a_I 31 v58 x1 fun v59 => g_R 12 36 (some a) fun v60 => b_Z 33 v60 x1 (1 : Int32) (g_R 12 39 (some a) fun v61 => g_R 12 37 (some a) fun v62 => a_I 31 v62 x1 fun v63 => b_I 31 v61 x1 v63 (g_R 12 31 (some a) fun v64 => g_R 12 12 (some a) fun v65 => a_I 31 v65 x1 fun v66 => b_I 31 v64 x1 v66 (g_R 12 32 (some a) fun v67 => g_R 12 14 (some a) fun v68 => a_I 31 v68 x1 fun v69 => b_I 31 v67 x1 v69 (g_R 12 33 (some a) fun v70 => g_R 12 13 (some a) fun v71 => a_I 31 v71 x1 fun v72 => b_I 31 v70 x1 v72 (g_R 12 34 (some a) fun v73 => g_R 12 15 (some a) fun v74 => a_I 31 v74 x1 fun v75 => b_I 31 v73 x1 v75 (g_R 12 30 (some a) fun v76 => (if ¬ v59 = 0 then (if ¬ v59 = (1 : Int32) then (if (4 : Int32) ≤ v59 then f_Md_send_119 a x1 v59 v76 x1 (4 : Int32) else g_R 12 23 (some a) fun v77 => a_I 33 v77 x1 fun v78 => (if v78 = 0 then f_Md_send_119 a x1 v59 v76 x1 (2 : Int32) else f_Md_send_119 a x1 v59 v76 x1 (3 : Int32))) else f_Md_send_119 a x1 v59 v76 x1 (1 : Int32)) else f_Md_send_119 a x1 v59 v76 x1 (0 : Int32))))))))
set_option maxHeartbeats 4000000 in
set_option maxRecDepth 100000 in
theorem mono_Md_send (a : Nat) (x1 : Int32) : sn_Mono (f_Md_send a x1) := sn_Mono.gR (fun v58 => sn_Mono.aI (fun v59 => sn_Mono.gR (fun v60 => sn_Mono.bZ (sn_Mono.gR (fun v61 => sn_Mono.gR (fun v62 => sn_Mono.aI (fun v63 => sn_Mono.bI (sn_Mono.gR (fun v64 => sn_Mono.gR (fun v65 => sn_Mono.aI (fun v66 => sn_Mono.bI (sn_Mono.gR (fun v67 => sn_Mono.gR (fun v68 => sn_Mono.aI (fun v69 => sn_Mono.bI (sn_Mono.gR (fun v70 => sn_Mono.gR (fun v71 => sn_Mono.aI (fun v72 => sn_Mono.bI (sn_Mono.gR (fun v73 => sn_Mono.gR (fun v74 => sn_Mono.aI (fun v75 => sn_Mono.bI (sn_Mono.gR (fun v76 => sn_Mono.ite (sn_Mono.ite (sn_Mono.ite (mono_Md_send_119 a x1 v59 v76 x1 (4 : Int32)) (sn_Mono.gR (fun v77 => sn_Mono.aI (fun v78 => sn_Mono.ite (mono_Md_send_119 a x1 v59 v76 x1 (2 : Int32)) (mono_Md_send_119 a x1 v59 v76 x1 (3 : Int32)))))) (mono_Md_send_119 a x1 v59 v76 x1 (1 : Int32))) (mono_Md_send_119 a x1 v59 v76 x1 (0 : Int32)))))))))))))))))))))))))))
set_option maxHeartbeats 4000000 in
set_option maxRecDepth 100000 in
theorem con_Md_send (a : Nat) (x1 : Int32) : sn_Con y_Md_send c_Md_send 4 none 0 0 [vA (some a), vI x1] (f_Md_send a x1) := by
  refine sn_Con.of (by decide +kernel) (by show _ ≤ _; exact Nat.le_of_ble_eq_true rfl) (mono_Md_send a x1) (fun X C => ?_)
  show sn_S X 0 [(0, vA (some a)), (1, vI x1)] [] _
  replace C : sn_Cx X c_Md_send "SignalNetworkModel" none "send" 4 0 0 := C
  unfold f_Md_send
  refine r_aload_n (q := 1) (i := 0) (pl := 0) C d_Md_send_0 rfl rfl rfl ?_
  refine r_gR (q := 4) C d_Md_send_1 rfl F_Md_23 rfl (fun v58 => ?_)
  refine r_iload_n (q := 5) (i := 1) (pl := 1) C d_Md_send_4 rfl rfl rfl ?_
  refine r_aI (q := 6) C (Or.inr rfl) d_Md_send_5 rfl (fun v59 => ?_)
  refine r_istore_n (q := 7) (i := 2) (lv' := [(2, vI v59), (0, vA (some a)), (1, vI x1)]) C d_Md_send_6 rfl rfl (by decide) rfl ?_
  refine r_aload_n (q := 8) (i := 0) (pl := 1) C d_Md_send_7 rfl rfl rfl ?_
  refine r_gR (q := 11) C d_Md_send_8 rfl F_Md_102 rfl (fun v60 => ?_)
  refine r_iload_n (q := 12) (i := 1) (pl := 2) C d_Md_send_11 rfl rfl rfl ?_
  refine r_iconst (q := 13) (v := 1) C d_Md_send_12 rfl (by decide) ?_
  refine r_bZ (q := 14) C (Or.inr rfl) d_Md_send_13 rfl ?_
  refine r_aload_n (q := 15) (i := 0) (pl := 1) C d_Md_send_14 rfl rfl rfl ?_
  refine r_gR (q := 18) C d_Md_send_15 rfl F_Md_111 rfl (fun v61 => ?_)
  refine r_iload_n (q := 19) (i := 1) (pl := 2) C d_Md_send_18 rfl rfl rfl ?_
  refine r_aload_n (q := 20) (i := 0) (pl := 1) C d_Md_send_19 rfl rfl rfl ?_
  refine r_gR (q := 23) C d_Md_send_20 rfl F_Md_105 rfl (fun v62 => ?_)
  refine r_iload_n (q := 24) (i := 1) (pl := 2) C d_Md_send_23 rfl rfl rfl ?_
  refine r_aI (q := 25) C (Or.inr rfl) d_Md_send_24 rfl (fun v63 => ?_)
  refine r_bI (q := 26) C (Or.inr rfl) d_Md_send_25 rfl ?_
  refine r_aload_n (q := 27) (i := 0) (pl := 1) C d_Md_send_26 rfl rfl rfl ?_
  refine r_gR (q := 30) C d_Md_send_27 rfl F_Md_87 rfl (fun v64 => ?_)
  refine r_iload_n (q := 31) (i := 1) (pl := 2) C d_Md_send_30 rfl rfl rfl ?_
  refine r_aload_n (q := 32) (i := 0) (pl := 1) C d_Md_send_31 rfl rfl rfl ?_
  refine r_gR (q := 35) C d_Md_send_32 rfl F_Md_29 rfl (fun v65 => ?_)
  refine r_iload_n (q := 36) (i := 1) (pl := 2) C d_Md_send_35 rfl rfl rfl ?_
  refine r_aI (q := 37) C (Or.inr rfl) d_Md_send_36 rfl (fun v66 => ?_)
  refine r_bI (q := 38) C (Or.inr rfl) d_Md_send_37 rfl ?_
  refine r_aload_n (q := 39) (i := 0) (pl := 1) C d_Md_send_38 rfl rfl rfl ?_
  refine r_gR (q := 42) C d_Md_send_39 rfl F_Md_90 rfl (fun v67 => ?_)
  refine r_iload_n (q := 43) (i := 1) (pl := 2) C d_Md_send_42 rfl rfl rfl ?_
  refine r_aload_n (q := 44) (i := 0) (pl := 1) C d_Md_send_43 rfl rfl rfl ?_
  refine r_gR (q := 47) C d_Md_send_44 rfl F_Md_35 rfl (fun v68 => ?_)
  refine r_iload_n (q := 48) (i := 1) (pl := 2) C d_Md_send_47 rfl rfl rfl ?_
  refine r_aI (q := 49) C (Or.inr rfl) d_Md_send_48 rfl (fun v69 => ?_)
  refine r_bI (q := 50) C (Or.inr rfl) d_Md_send_49 rfl ?_
  refine r_aload_n (q := 51) (i := 0) (pl := 1) C d_Md_send_50 rfl rfl rfl ?_
  refine r_gR (q := 54) C d_Md_send_51 rfl F_Md_93 rfl (fun v70 => ?_)
  refine r_iload_n (q := 55) (i := 1) (pl := 2) C d_Md_send_54 rfl rfl rfl ?_
  refine r_aload_n (q := 56) (i := 0) (pl := 1) C d_Md_send_55 rfl rfl rfl ?_
  refine r_gR (q := 59) C d_Md_send_56 rfl F_Md_32 rfl (fun v71 => ?_)
  refine r_iload_n (q := 60) (i := 1) (pl := 2) C d_Md_send_59 rfl rfl rfl ?_
  refine r_aI (q := 61) C (Or.inr rfl) d_Md_send_60 rfl (fun v72 => ?_)
  refine r_bI (q := 62) C (Or.inr rfl) d_Md_send_61 rfl ?_
  refine r_aload_n (q := 63) (i := 0) (pl := 1) C d_Md_send_62 rfl rfl rfl ?_
  refine r_gR (q := 66) C d_Md_send_63 rfl F_Md_96 rfl (fun v73 => ?_)
  refine r_iload_n (q := 67) (i := 1) (pl := 2) C d_Md_send_66 rfl rfl rfl ?_
  refine r_aload_n (q := 68) (i := 0) (pl := 1) C d_Md_send_67 rfl rfl rfl ?_
  refine r_gR (q := 71) C d_Md_send_68 rfl F_Md_38 rfl (fun v74 => ?_)
  refine r_iload_n (q := 72) (i := 1) (pl := 2) C d_Md_send_71 rfl rfl rfl ?_
  refine r_aI (q := 73) C (Or.inr rfl) d_Md_send_72 rfl (fun v75 => ?_)
  refine r_bI (q := 74) C (Or.inr rfl) d_Md_send_73 rfl ?_
  refine r_aload_n (q := 75) (i := 0) (pl := 1) C d_Md_send_74 rfl rfl rfl ?_
  refine r_gR (q := 78) C d_Md_send_75 rfl F_Md_84 rfl (fun v76 => ?_)
  refine r_iload_n (q := 79) (i := 1) (pl := 2) C d_Md_send_78 rfl rfl rfl ?_
  refine r_iload_n (q := 80) (i := 2) (pl := 0) C d_Md_send_79 rfl rfl rfl ?_
  refine r_if_ne (tgt := 87) (q := 83) C d_Md_send_80 (by decide) rfl ?_ ?_
  · refine r_iload_n (q := 88) (i := 2) (pl := 0) C d_Md_send_87 rfl rfl rfl ?_
    refine r_iconst (q := 89) (v := 1) C d_Md_send_88 rfl (by decide) ?_
    refine r_icmp_ne (tgt := 96) (q := 92) C d_Md_send_89 (by decide) rfl ?_ ?_
    · refine r_iload_n (q := 97) (i := 2) (pl := 0) C d_Md_send_96 rfl rfl rfl ?_
      refine r_iconst (q := 98) (v := 4) C d_Md_send_97 rfl (by decide) ?_
      refine r_icmp_ge (tgt := 118) (q := 101) C d_Md_send_98 (by decide) rfl ?_ ?_
      · refine r_iconst (q := 119) (v := 4) C d_Md_send_118 rfl (by decide) ?_
        refine r_sub (lv' := [(0, vA (some a)), (1, vI x1), (2, vI v59)]) [1, 2, 0] rfl ?_
        exact s_Md_send_119 C a x1 v59 v76 x1 (4 : Int32)
      · refine r_aload_n (q := 102) (i := 0) (pl := 1) C d_Md_send_101 rfl rfl rfl ?_
        refine r_gR (q := 105) C d_Md_send_102 rfl F_Md_62 rfl (fun v77 => ?_)
        refine r_iload_n (q := 106) (i := 1) (pl := 2) C d_Md_send_105 rfl rfl rfl ?_
        refine r_aZ (q := 107) C (Or.inr rfl) d_Md_send_106 rfl (fun v78 => ?_)
        refine r_if_eq (tgt := 114) (q := 110) C d_Md_send_107 (by decide) rfl ?_ ?_
        · refine r_iconst (q := 115) (v := 2) C d_Md_send_114 rfl (by decide) ?_
          refine r_goto (tgt := 119) C d_Md_send_115 (by decide) ?_
          refine r_sub (lv' := [(0, vA (some a)), (1, vI x1), (2, vI v59)]) [1, 2, 0] rfl ?_
          exact s_Md_send_119 C a x1 v59 v76 x1 (2 : Int32)
        · refine r_iconst (q := 111) (v := 3) C d_Md_send_110 rfl (by decide) ?_
          refine r_goto (tgt := 119) C d_Md_send_111 (by decide) ?_
          refine r_sub (lv' := [(0, vA (some a)), (1, vI x1), (2, vI v59)]) [1, 2, 0] rfl ?_
          exact s_Md_send_119 C a x1 v59 v76 x1 (3 : Int32)
    · refine r_iconst (q := 93) (v := 1) C d_Md_send_92 rfl (by decide) ?_
      refine r_goto (tgt := 119) C d_Md_send_93 (by decide) ?_
      refine r_sub (lv' := [(0, vA (some a)), (1, vI x1), (2, vI v59)]) [1, 2, 0] rfl ?_
      exact s_Md_send_119 C a x1 v59 v76 x1 (1 : Int32)
  · refine r_iconst (q := 84) (v := 0) C d_Md_send_83 rfl (by decide) ?_
    refine r_goto (tgt := 119) C d_Md_send_84 (by decide) ?_
    refine r_sub (lv' := [(0, vA (some a)), (1, vI x1), (2, vI v59)]) [1, 2, 0] rfl ?_
    exact s_Md_send_119 C a x1 v59 v76 x1 (0 : Int32)
theorem d_Md_lineTimer_0 : decode c_Md_lineTimer 0 = .ok (.aload_n 0, 1) := by decide +kernel
theorem d_Md_lineTimer_1 : decode c_Md_lineTimer 1 = .ok (.getfield 153, 3) := by decide +kernel
theorem d_Md_lineTimer_4 : decode c_Md_lineTimer 4 = .ok (.iload_n 1, 1) := by decide +kernel
theorem d_Md_lineTimer_5 : decode c_Md_lineTimer 5 = .ok (.iaload, 1) := by decide +kernel
theorem d_Md_lineTimer_6 : decode c_Md_lineTimer 6 = .ok (.ifCond .le 133, 3) := by decide +kernel
theorem d_Md_lineTimer_9 : decode c_Md_lineTimer 9 = .ok (.aload_n 0, 1) := by decide +kernel
theorem d_Md_lineTimer_10 : decode c_Md_lineTimer 10 = .ok (.getfield 153, 3) := by decide +kernel
theorem d_Md_lineTimer_13 : decode c_Md_lineTimer 13 = .ok (.iload_n 1, 1) := by decide +kernel
theorem d_Md_lineTimer_14 : decode c_Md_lineTimer 14 = .ok (.iaload, 1) := by decide +kernel
theorem d_Md_lineTimer_15 : decode c_Md_lineTimer 15 = .ok (.aload_n 0, 1) := by decide +kernel
theorem d_Md_lineTimer_16 : decode c_Md_lineTimer 16 = .ok (.getfield 256, 3) := by decide +kernel
theorem d_Md_lineTimer_19 : decode c_Md_lineTimer 19 = .ok (.if_icmp .ne 120, 3) := by decide +kernel
theorem d_Md_lineTimer_22 : decode c_Md_lineTimer 22 = .ok (.aload_n 0, 1) := by decide +kernel
theorem d_Md_lineTimer_23 : decode c_Md_lineTimer 23 = .ok (.getfield 153, 3) := by decide +kernel
theorem d_Md_lineTimer_26 : decode c_Md_lineTimer 26 = .ok (.iload_n 1, 1) := by decide +kernel
theorem d_Md_lineTimer_27 : decode c_Md_lineTimer 27 = .ok (.iconst 0, 1) := by decide +kernel
theorem d_Md_lineTimer_28 : decode c_Md_lineTimer 28 = .ok (.iastore, 1) := by decide +kernel
theorem d_Md_lineTimer_29 : decode c_Md_lineTimer 29 = .ok (.aload_n 0, 1) := by decide +kernel
theorem d_Md_lineTimer_30 : decode c_Md_lineTimer 30 = .ok (.getfield 150, 3) := by decide +kernel
theorem d_Md_lineTimer_33 : decode c_Md_lineTimer 33 = .ok (.iload_n 1, 1) := by decide +kernel
theorem d_Md_lineTimer_34 : decode c_Md_lineTimer 34 = .ok (.iaload, 1) := by decide +kernel
theorem d_Md_lineTimer_35 : decode c_Md_lineTimer 35 = .ok (.iconst 1, 1) := by decide +kernel
theorem d_Md_lineTimer_36 : decode c_Md_lineTimer 36 = .ok (.if_icmp .eq 13, 3) := by decide +kernel
theorem d_Md_lineTimer_39 : decode c_Md_lineTimer 39 = .ok (.aload_n 0, 1) := by decide +kernel
theorem d_Md_lineTimer_40 : decode c_Md_lineTimer 40 = .ok (.getfield 150, 3) := by decide +kernel
theorem d_Md_lineTimer_43 : decode c_Md_lineTimer 43 = .ok (.iload_n 1, 1) := by decide +kernel
theorem d_Md_lineTimer_44 : decode c_Md_lineTimer 44 = .ok (.iaload, 1) := by decide +kernel
theorem d_Md_lineTimer_45 : decode c_Md_lineTimer 45 = .ok (.iconst 2, 1) := by decide +kernel
theorem d_Md_lineTimer_46 : decode c_Md_lineTimer 46 = .ok (.if_icmp .ne 26, 3) := by decide +kernel
theorem d_Md_lineTimer_49 : decode c_Md_lineTimer 49 = .ok (.aload_n 0, 1) := by decide +kernel
theorem d_Md_lineTimer_50 : decode c_Md_lineTimer 50 = .ok (.getfield 165, 3) := by decide +kernel
theorem d_Md_lineTimer_53 : decode c_Md_lineTimer 53 = .ok (.iload_n 1, 1) := by decide +kernel
theorem d_Md_lineTimer_54 : decode c_Md_lineTimer 54 = .ok (.iaload, 1) := by decide +kernel
theorem d_Md_lineTimer_55 : decode c_Md_lineTimer 55 = .ok (.istore_n 2, 1) := by decide +kernel
theorem d_Md_lineTimer_56 : decode c_Md_lineTimer 56 = .ok (.aload_n 0, 1) := by decide +kernel
theorem d_Md_lineTimer_57 : decode c_Md_lineTimer 57 = .ok (.bipush 100, 2) := by decide +kernel
theorem d_Md_lineTimer_59 : decode c_Md_lineTimer 59 = .ok (.iload_n 1, 1) := by decide +kernel
theorem d_Md_lineTimer_60 : decode c_Md_lineTimer 60 = .ok (.iadd, 1) := by decide +kernel
theorem d_Md_lineTimer_61 : decode c_Md_lineTimer 61 = .ok (.invokevirtual 367, 3) := by decide +kernel
theorem d_Md_lineTimer_64 : decode c_Md_lineTimer 64 = .ok (.aload_n 0, 1) := by decide +kernel
theorem d_Md_lineTimer_65 : decode c_Md_lineTimer 65 = .ok (.iload_n 2, 1) := by decide +kernel
theorem d_Md_lineTimer_66 : decode c_Md_lineTimer 66 = .ok (.invokevirtual 367, 3) := by decide +kernel
theorem d_Md_lineTimer_69 : decode c_Md_lineTimer 69 = .ok (.goto 70, 3) := by decide +kernel
theorem d_Md_lineTimer_72 : decode c_Md_lineTimer 72 = .ok (.aload_n 0, 1) := by decide +kernel
theorem d_Md_lineTimer_73 : decode c_Md_lineTimer 73 = .ok (.getfield 150, 3) := by decide +kernel
theorem d_Md_lineTimer_76 : decode c_Md_lineTimer 76 = .ok (.iload_n 1, 1) := by decide +kernel
theorem d_Md_lineTimer_77 : decode c_Md_lineTimer 77 = .ok (.iaload, 1) := by decide +kernel
theorem d_Md_lineTimer_78 : decode c_Md_lineTimer 78 = .ok (.bipush 7, 2) := by decide +kernel
theorem d_Md_lineTimer_80 : decode c_Md_lineTimer 80 = .ok (.if_icmp .ne 27, 3) := by decide +kernel
theorem d_Md_lineTimer_83 : decode c_Md_lineTimer 83 = .ok (.aload_n 0, 1) := by decide +kernel
theorem d_Md_lineTimer_84 : decode c_Md_lineTimer 84 = .ok (.iload_n 1, 1) := by decide +kernel
theorem d_Md_lineTimer_85 : decode c_Md_lineTimer 85 = .ok (.bipush 10, 2) := by decide +kernel
theorem d_Md_lineTimer_87 : decode c_Md_lineTimer 87 = .ok (.iconst 0, 1) := by decide +kernel
theorem d_Md_lineTimer_88 : decode c_Md_lineTimer 88 = .ok (.invokevirtual 361, 3) := by decide +kernel
theorem d_Md_lineTimer_91 : decode c_Md_lineTimer 91 = .ok (.aload_n 0, 1) := by decide +kernel
theorem d_Md_lineTimer_92 : decode c_Md_lineTimer 92 = .ok (.getfield 153, 3) := by decide +kernel
theorem d_Md_lineTimer_95 : decode c_Md_lineTimer 95 = .ok (.iload_n 1, 1) := by decide +kernel
theorem d_Md_lineTimer_96 : decode c_Md_lineTimer 96 = .ok (.aload_n 0, 1) := by decide +kernel
theorem d_Md_lineTimer_97 : decode c_Md_lineTimer 97 = .ok (.getfield 256, 3) := by decide +kernel
theorem d_Md_lineTimer_100 : decode c_Md_lineTimer 100 = .ok (.bipush 6, 2) := by decide +kernel
theorem d_Md_lineTimer_102 : decode c_Md_lineTimer 102 = .ok (.iadd, 1) := by decide +kernel
theorem d_Md_lineTimer_103 : decode c_Md_lineTimer 103 = .ok (.iastore, 1) := by decide +kernel
theorem d_Md_lineTimer_104 : decode c_Md_lineTimer 104 = .ok (.goto 35, 3) := by decide +kernel
theorem d_Md_lineTimer_107 : decode c_Md_lineTimer 107 = .ok (.aload_n 0, 1) := by decide +kernel
theorem d_Md_lineTimer_108 : decode c_Md_lineTimer 108 = .ok (.getfield 150, 3) := by decide +kernel
theorem d_Md_lineTimer_111 : decode c_Md_lineTimer 111 = .ok (.iload_n 1, 1) := by decide +kernel
theorem d_Md_lineTimer_112 : decode c_Md_lineTimer 112 = .ok (.iaload, 1) := by decide +kernel
theorem d_Md_lineTimer_113 : decode c_Md_lineTimer 113 = .ok (.bipush 8, 2) := by decide +kernel
theorem d_Md_lineTimer_115 : decode c_Md_lineTimer 115 = .ok (.if_icmp .ne 24, 3) := by decide +kernel
theorem d_Md_lineTimer_118 : decode c_Md_lineTimer 118 = .ok (.aload_n 0, 1) := by decide +kernel
theorem d_Md_lineTimer_119 : decode c_Md_lineTimer 119 = .ok (.iload_n 1, 1) := by decide +kernel
theorem d_Md_lineTimer_120 : decode c_Md_lineTimer 120 = .ok (.bipush 12, 2) := by decide +kernel
theorem d_Md_lineTimer_122 : decode c_Md_lineTimer 122 = .ok (.iconst 0, 1) := by decide +kernel
theorem d_Md_lineTimer_123 : decode c_Md_lineTimer 123 = .ok (.invokevirtual 361, 3) := by decide +kernel
theorem d_Md_lineTimer_126 : decode c_Md_lineTimer 126 = .ok (.aload_n 0, 1) := by decide +kernel
theorem d_Md_lineTimer_127 : decode c_Md_lineTimer 127 = .ok (.getfield 153, 3) := by decide +kernel
theorem d_Md_lineTimer_130 : decode c_Md_lineTimer 130 = .ok (.iload_n 1, 1) := by decide +kernel
theorem d_Md_lineTimer_131 : decode c_Md_lineTimer 131 = .ok (.aload_n 0, 1) := by decide +kernel
theorem d_Md_lineTimer_132 : decode c_Md_lineTimer 132 = .ok (.getfield 256, 3) := by decide +kernel
theorem d_Md_lineTimer_135 : decode c_Md_lineTimer 135 = .ok (.bipush 30, 2) := by decide +kernel
theorem d_Md_lineTimer_137 : decode c_Md_lineTimer 137 = .ok (.iadd, 1) := by decide +kernel
theorem d_Md_lineTimer_138 : decode c_Md_lineTimer 138 = .ok (.iastore, 1) := by decide +kernel
theorem d_Md_lineTimer_139 : decode c_Md_lineTimer 139 = .ok (.aload_n 0, 1) := by decide +kernel
theorem d_Md_lineTimer_140 : decode c_Md_lineTimer 140 = .ok (.getfield 150, 3) := by decide +kernel
theorem d_Md_lineTimer_143 : decode c_Md_lineTimer 143 = .ok (.iload_n 1, 1) := by decide +kernel
theorem d_Md_lineTimer_144 : decode c_Md_lineTimer 144 = .ok (.iaload, 1) := by decide +kernel
theorem d_Md_lineTimer_145 : decode c_Md_lineTimer 145 = .ok (.bipush 7, 2) := by decide +kernel
theorem d_Md_lineTimer_147 : decode c_Md_lineTimer 147 = .ok (.if_icmp .ne 43, 3) := by decide +kernel
theorem d_Md_lineTimer_150 : decode c_Md_lineTimer 150 = .ok (.aload_n 0, 1) := by decide +kernel
theorem d_Md_lineTimer_151 : decode c_Md_lineTimer 151 = .ok (.getfield 156, 3) := by decide +kernel
theorem d_Md_lineTimer_154 : decode c_Md_lineTimer 154 = .ok (.iload_n 1, 1) := by decide +kernel
theorem d_Md_lineTimer_155 : decode c_Md_lineTimer 155 = .ok (.iaload, 1) := by decide +kernel
theorem d_Md_lineTimer_156 : decode c_Md_lineTimer 156 = .ok (.ifCond .le 34, 3) := by decide +kernel
theorem d_Md_lineTimer_159 : decode c_Md_lineTimer 159 = .ok (.aload_n 0, 1) := by decide +kernel
theorem d_Md_lineTimer_160 : decode c_Md_lineTimer 160 = .ok (.getfield 156, 3) := by decide +kernel
theorem d_Md_lineTimer_163 : decode c_Md_lineTimer 163 = .ok (.iload_n 1, 1) := by decide +kernel
theorem d_Md_lineTimer_164 : decode c_Md_lineTimer 164 = .ok (.iaload, 1) := by decide +kernel
theorem d_Md_lineTimer_165 : decode c_Md_lineTimer 165 = .ok (.aload_n 0, 1) := by decide +kernel
theorem d_Md_lineTimer_166 : decode c_Md_lineTimer 166 = .ok (.getfield 256, 3) := by decide +kernel
theorem d_Md_lineTimer_169 : decode c_Md_lineTimer 169 = .ok (.if_icmp .ne 21, 3) := by decide +kernel
theorem d_Md_lineTimer_172 : decode c_Md_lineTimer 172 = .ok (.aload_n 0, 1) := by decide +kernel
theorem d_Md_lineTimer_173 : decode c_Md_lineTimer 173 = .ok (.iload_n 1, 1) := by decide +kernel
theorem d_Md_lineTimer_174 : decode c_Md_lineTimer 174 = .ok (.bipush 12, 2) := by decide +kernel
theorem d_Md_lineTimer_176 : decode c_Md_lineTimer 176 = .ok (.iconst 0, 1) := by decide +kernel
theorem d_Md_lineTimer_177 : decode c_Md_lineTimer 177 = .ok (.invokevirtual 361, 3) := by decide +kernel
theorem d_Md_lineTimer_180 : decode c_Md_lineTimer 180 = .ok (.aload_n 0, 1) := by decide +kernel
theorem d_Md_lineTimer_181 : decode c_Md_lineTimer 181 = .ok (.iload_n 1, 1) := by decide +kernel
theorem d_Md_lineTimer_182 : decode c_Md_lineTimer 182 = .ok (.bipush 8, 2) := by decide +kernel
theorem d_Md_lineTimer_184 : decode c_Md_lineTimer 184 = .ok (.bipush 30, 2) := by decide +kernel
theorem d_Md_lineTimer_186 : decode c_Md_lineTimer 186 = .ok (.iconst 0, 1) := by decide +kernel
theorem d_Md_lineTimer_187 : decode c_Md_lineTimer 187 = .ok (.invokevirtual 364, 3) := by decide +kernel
theorem d_Md_lineTimer_190 : decode c_Md_lineTimer 190 = .ok (.return_, 1) := by decide +kernel
def f_Md_lineTimer_190 (a : Nat) : sn_M := r_V
set_option maxHeartbeats 4000000 in
set_option maxRecDepth 100000 in
theorem mono_Md_lineTimer_190 (a : Nat) : sn_Mono (f_Md_lineTimer_190 a) := sn_Mono.rV
set_option maxHeartbeats 4000000 in
set_option maxRecDepth 100000 in
theorem s_Md_lineTimer_190 {X : sn_X} (C : sn_Cx X c_Md_lineTimer "SignalNetworkModel" none "lineTimer" 3 7 166) (a : Nat) : sn_S X 190 [(0, vA (some a))] [] (f_Md_lineTimer_190 a) := by
  unfold f_Md_lineTimer_190
  exact r_vret C d_Md_lineTimer_190 rfl
def f_Md_lineTimer_139 (a : Nat) (x1 : Int32) : sn_M := g_R 12 52 (some a) fun v1 => a_I 31 v1 x1 fun v2 => (if ¬ v2 = (7 : Int32) then f_Md_lineTimer_190 a else g_R 12 54 (some a) fun v3 => a_I 31 v3 x1 fun v4 => (if v4 ≤ 0 then f_Md_lineTimer_190 a else g_R 12 54 (some a) fun v5 => a_I 31 v5 x1 fun v6 => g_I 12 6 (some a) fun v7 => (if ¬ v6 = v7 then f_Md_lineTimer_190 a else n_n 12 (some a) fun a8 => c_V (f_Md_say a8 x1 (12 : Int32) (0 : Int32)) (n_n 12 (some a) fun a10 => c_V (f_Md_becomes a10 x1 (8 : Int32) (30 : Int32) (0 : Int32)) (f_Md_lineTimer_190 a)))))
set_option maxHeartbeats 4000000 in
set_option maxRecDepth 100000 in
theorem mono_Md_lineTimer_139 (a : Nat) (x1 : Int32) : sn_Mono (f_Md_lineTimer_139 a x1) := sn_Mono.gR (fun v1 => sn_Mono.aI (fun v2 => sn_Mono.ite (mono_Md_lineTimer_190 a) (sn_Mono.gR (fun v3 => sn_Mono.aI (fun v4 => sn_Mono.ite (mono_Md_lineTimer_190 a) (sn_Mono.gR (fun v5 => sn_Mono.aI (fun v6 => sn_Mono.gI (fun v7 => sn_Mono.ite (mono_Md_lineTimer_190 a) (sn_Mono.nn (fun a8 => sn_Mono.cV (mono_Md_say a8 x1 (12 : Int32) (0 : Int32)) (sn_Mono.nn (fun a10 => sn_Mono.cV (mono_Md_becomes a10 x1 (8 : Int32) (30 : Int32) (0 : Int32)) (mono_Md_lineTimer_190 a))))))))))))))
set_option maxHeartbeats 4000000 in
set_option maxRecDepth 100000 in
theorem s_Md_lineTimer_139 {X : sn_X} (C : sn_Cx X c_Md_lineTimer "SignalNetworkModel" none "lineTimer" 3 7 166) (a : Nat) (x1 : Int32) : sn_S X 139 [(0, vA (some a)), (1, vI x1)] [] (f_Md_lineTimer_139 a x1) := by
  unfold f_Md_lineTimer_139
  refine r_aload_n (q := 140) (i := 0) (pl := 0) C d_Md_lineTimer_139 rfl rfl rfl ?_
  refine r_gR (q := 143) C d_Md_lineTimer_140 rfl F_Md_150 rfl (fun v1 => ?_)
  refine r_iload_n (q := 144) (i := 1) (pl := 1) C d_Md_lineTimer_143 rfl rfl rfl ?_
  refine r_aI (q := 145) C (Or.inr rfl) d_Md_lineTimer_144 rfl (fun v2 => ?_)
  refine r_bipush (q := 147) (v := 7) C d_Md_lineTimer_145 rfl (by decide) ?_
  refine r_icmp_ne (tgt := 190) (q := 150) C d_Md_lineTimer_147 (by decide) rfl ?_ ?_
  · refine r_sub (lv' := [(0, vA (some a))]) [0] rfl ?_
    exact s_Md_lineTimer_190 C a
  · refine r_aload_n (q := 151) (i := 0) (pl := 0) C d_Md_lineTimer_150 rfl rfl rfl ?_
    refine r_gR (q := 154) C d_Md_lineTimer_151 rfl F_Md_156 rfl (fun v3 => ?_)
    refine r_iload_n (q := 155) (i := 1) (pl := 1) C d_Md_lineTimer_154 rfl rfl rfl ?_
    refine r_aI (q := 156) C (Or.inr rfl) d_Md_lineTimer_155 rfl (fun v4 => ?_)
    refine r_if_le (tgt := 190) (q := 159) C d_Md_lineTimer_156 (by decide) rfl ?_ ?_
    · refine r_sub (lv' := [(0, vA (some a))]) [0] rfl ?_
      exact s_Md_lineTimer_190 C a
    · refine r_aload_n (q := 160) (i := 0) (pl := 0) C d_Md_lineTimer_159 rfl rfl rfl ?_
      refine r_gR (q := 163) C d_Md_lineTimer_160 rfl F_Md_156 rfl (fun v5 => ?_)
      refine r_iload_n (q := 164) (i := 1) (pl := 1) C d_Md_lineTimer_163 rfl rfl rfl ?_
      refine r_aI (q := 165) C (Or.inr rfl) d_Md_lineTimer_164 rfl (fun v6 => ?_)
      refine r_aload_n (q := 166) (i := 0) (pl := 0) C d_Md_lineTimer_165 rfl rfl rfl ?_
      refine r_gI (q := 169) C d_Md_lineTimer_166 rfl F_Md_256 rfl (fun v7 => ?_)
      refine r_icmp_ne (tgt := 190) (q := 172) C d_Md_lineTimer_169 (by decide) rfl ?_ ?_
      · refine r_sub (lv' := [(0, vA (some a))]) [0] rfl ?_
        exact s_Md_lineTimer_190 C a
      · refine r_aload_n (q := 173) (i := 0) (pl := 0) C d_Md_lineTimer_172 rfl rfl rfl ?_
        refine r_iload_n (q := 174) (i := 1) (pl := 1) C d_Md_lineTimer_173 rfl rfl rfl ?_
        refine r_bipush (q := 176) (v := 12) C d_Md_lineTimer_174 rfl (by decide) ?_
        refine r_iconst (q := 177) (v := 0) C d_Md_lineTimer_176 rfl (by decide) ?_
        refine r_cvV (q := 180) (As := [vI x1, vI (12 : Int32), vI (0 : Int32)]) (st := []) (cy := 11) C d_Md_lineTimer_177 rfl Y_Md_say L_Md_361 I_Md_say Se_Md_say rfl (by decide) rfl (Nat.le_of_ble_eq_true rfl) (Nat.le_of_ble_eq_true rfl) (Nat.le_of_ble_eq_true rfl) rfl (fun a8 => con_Md_say a8 x1 (12 : Int32) (0 : Int32)) ?_
        refine r_aload_n (q := 181) (i := 0) (pl := 0) C d_Md_lineTimer_180 rfl rfl rfl ?_
        refine r_iload_n (q := 182) (i := 1) (pl := 1) C d_Md_lineTimer_181 rfl rfl rfl ?_
        refine r_bipush (q := 184) (v := 8) C d_Md_lineTimer_182 rfl (by decide) ?_
        refine r_bipush (q := 186) (v := 30) C d_Md_lineTimer_184 rfl (by decide) ?_
        refine r_iconst (q := 187) (v := 0) C d_Md_lineTimer_186 rfl (by decide) ?_
        refine r_cvV (q := 190) (As := [vI x1, vI (8 : Int32), vI (30 : Int32), vI (0 : Int32)]) (st := []) (cy := 11) C d_Md_lineTimer_187 rfl Y_Md_becomes L_Md_364 I_Md_becomes Se_Md_becomes rfl (by decide) rfl (Nat.le_of_ble_eq_true rfl) (Nat.le_of_ble_eq_true rfl) (Nat.le_of_ble_eq_true rfl) rfl (fun a10 => con_Md_becomes a10 x1 (8 : Int32) (30 : Int32) (0 : Int32)) ?_
        refine r_sub (lv' := [(0, vA (some a))]) [0] rfl ?_
        exact s_Md_lineTimer_190 C a
def f_Md_lineTimer_49 (a : Nat) (x1 : Int32) : sn_M := g_R 12 57 (some a) fun v12 => a_I 31 v12 x1 fun v13 => n_n 12 (some a) fun a14 => c_V (f_Md_letGo a14 ((100 : Int32) + x1)) (n_n 12 (some a) fun a16 => c_V (f_Md_letGo a16 v13) (f_Md_lineTimer_139 a x1))
set_option maxHeartbeats 4000000 in
set_option maxRecDepth 100000 in
theorem mono_Md_lineTimer_49 (a : Nat) (x1 : Int32) : sn_Mono (f_Md_lineTimer_49 a x1) := sn_Mono.gR (fun v12 => sn_Mono.aI (fun v13 => sn_Mono.nn (fun a14 => sn_Mono.cV (mono_Md_letGo a14 ((100 : Int32) + x1)) (sn_Mono.nn (fun a16 => sn_Mono.cV (mono_Md_letGo a16 v13) (mono_Md_lineTimer_139 a x1))))))
set_option maxHeartbeats 4000000 in
set_option maxRecDepth 100000 in
theorem s_Md_lineTimer_49 {X : sn_X} (C : sn_Cx X c_Md_lineTimer "SignalNetworkModel" none "lineTimer" 3 7 166) (a : Nat) (x1 : Int32) : sn_S X 49 [(0, vA (some a)), (1, vI x1)] [] (f_Md_lineTimer_49 a x1) := by
  unfold f_Md_lineTimer_49
  refine r_aload_n (q := 50) (i := 0) (pl := 0) C d_Md_lineTimer_49 rfl rfl rfl ?_
  refine r_gR (q := 53) C d_Md_lineTimer_50 rfl F_Md_165 rfl (fun v12 => ?_)
  refine r_iload_n (q := 54) (i := 1) (pl := 1) C d_Md_lineTimer_53 rfl rfl rfl ?_
  refine r_aI (q := 55) C (Or.inr rfl) d_Md_lineTimer_54 rfl (fun v13 => ?_)
  refine r_istore_n (q := 56) (i := 2) (lv' := [(2, vI v13), (0, vA (some a)), (1, vI x1)]) C d_Md_lineTimer_55 rfl rfl (by decide) rfl ?_
  refine r_aload_n (q := 57) (i := 0) (pl := 1) C d_Md_lineTimer_56 rfl rfl rfl ?_
  refine r_bipush (q := 59) (v := 100) C d_Md_lineTimer_57 rfl (by decide) ?_
  refine r_iload_n (q := 60) (i := 1) (pl := 2) C d_Md_lineTimer_59 rfl rfl rfl ?_
  refine r_iadd (q := 61) C d_Md_lineTimer_60 rfl ?_
  refine r_cvV (q := 64) (As := [vI ((100 : Int32) + x1)]) (st := []) (cy := 11) C d_Md_lineTimer_61 rfl Y_Md_letGo L_Md_367 I_Md_letGo Se_Md_letGo rfl (by decide) rfl (Nat.le_of_ble_eq_true rfl) (Nat.le_of_ble_eq_true rfl) (Nat.le_of_ble_eq_true rfl) rfl (fun a14 => con_Md_letGo a14 ((100 : Int32) + x1)) ?_
  refine r_aload_n (q := 65) (i := 0) (pl := 1) C d_Md_lineTimer_64 rfl rfl rfl ?_
  refine r_iload_n (q := 66) (i := 2) (pl := 0) C d_Md_lineTimer_65 rfl rfl rfl ?_
  refine r_cvV (q := 69) (As := [vI v13]) (st := []) (cy := 11) C d_Md_lineTimer_66 rfl Y_Md_letGo L_Md_367 I_Md_letGo Se_Md_letGo rfl (by decide) rfl (Nat.le_of_ble_eq_true rfl) (Nat.le_of_ble_eq_true rfl) (Nat.le_of_ble_eq_true rfl) rfl (fun a16 => con_Md_letGo a16 v13) ?_
  refine r_goto (tgt := 139) C d_Md_lineTimer_69 (by decide) ?_
  refine r_sub (lv' := [(0, vA (some a)), (1, vI x1)]) [1, 2] rfl ?_
  exact s_Md_lineTimer_139 C a x1
def f_Md_lineTimer (a : Nat) (x1 : Int32) : sn_M := g_R 12 53 (some a) fun v18 => a_I 31 v18 x1 fun v19 => (if v19 ≤ 0 then f_Md_lineTimer_139 a x1 else g_R 12 53 (some a) fun v20 => a_I 31 v20 x1 fun v21 => g_I 12 6 (some a) fun v22 => (if ¬ v21 = v22 then f_Md_lineTimer_139 a x1 else g_R 12 53 (some a) fun v23 => b_I 31 v23 x1 (0 : Int32) (g_R 12 52 (some a) fun v24 => a_I 31 v24 x1 fun v25 => (if v25 = (1 : Int32) then f_Md_lineTimer_49 a x1 else g_R 12 52 (some a) fun v26 => a_I 31 v26 x1 fun v27 => (if ¬ v27 = (2 : Int32) then g_R 12 52 (some a) fun v28 => a_I 31 v28 x1 fun v29 => (if ¬ v29 = (7 : Int32) then g_R 12 52 (some a) fun v30 => a_I 31 v30 x1 fun v31 => (if ¬ v31 = (8 : Int32) then f_Md_lineTimer_139 a x1 else n_n 12 (some a) fun a32 => c_V (f_Md_say a32 x1 (12 : Int32) (0 : Int32)) (g_R 12 53 (some a) fun v34 => g_I 12 6 (some a) fun v35 => b_I 31 v34 x1 (v35 + (30 : Int32)) (f_Md_lineTimer_139 a x1))) else n_n 12 (some a) fun a36 => c_V (f_Md_say a36 x1 (10 : Int32) (0 : Int32)) (g_R 12 53 (some a) fun v38 => g_I 12 6 (some a) fun v39 => b_I 31 v38 x1 (v39 + (6 : Int32)) (f_Md_lineTimer_139 a x1))) else f_Md_lineTimer_49 a x1)))))
set_option maxHeartbeats 4000000 in
set_option maxRecDepth 100000 in
theorem mono_Md_lineTimer (a : Nat) (x1 : Int32) : sn_Mono (f_Md_lineTimer a x1) := sn_Mono.gR (fun v18 => sn_Mono.aI (fun v19 => sn_Mono.ite (mono_Md_lineTimer_139 a x1) (sn_Mono.gR (fun v20 => sn_Mono.aI (fun v21 => sn_Mono.gI (fun v22 => sn_Mono.ite (mono_Md_lineTimer_139 a x1) (sn_Mono.gR (fun v23 => sn_Mono.bI (sn_Mono.gR (fun v24 => sn_Mono.aI (fun v25 => sn_Mono.ite (mono_Md_lineTimer_49 a x1) (sn_Mono.gR (fun v26 => sn_Mono.aI (fun v27 => sn_Mono.ite (sn_Mono.gR (fun v28 => sn_Mono.aI (fun v29 => sn_Mono.ite (sn_Mono.gR (fun v30 => sn_Mono.aI (fun v31 => sn_Mono.ite (mono_Md_lineTimer_139 a x1) (sn_Mono.nn (fun a32 => sn_Mono.cV (mono_Md_say a32 x1 (12 : Int32) (0 : Int32)) (sn_Mono.gR (fun v34 => sn_Mono.gI (fun v35 => sn_Mono.bI (mono_Md_lineTimer_139 a x1))))))))) (sn_Mono.nn (fun a36 => sn_Mono.cV (mono_Md_say a36 x1 (10 : Int32) (0 : Int32)) (sn_Mono.gR (fun v38 => sn_Mono.gI (fun v39 => sn_Mono.bI (mono_Md_lineTimer_139 a x1))))))))) (mono_Md_lineTimer_49 a x1)))))))))))))))
set_option maxHeartbeats 4000000 in
set_option maxRecDepth 100000 in
theorem con_Md_lineTimer (a : Nat) (x1 : Int32) : sn_Con y_Md_lineTimer c_Md_lineTimer 3 none 7 166 [vA (some a), vI x1] (f_Md_lineTimer a x1) := by
  refine sn_Con.of (by decide +kernel) (by show _ ≤ _; exact Nat.le_of_ble_eq_true rfl) (mono_Md_lineTimer a x1) (fun X C => ?_)
  show sn_S X 0 [(0, vA (some a)), (1, vI x1)] [] _
  replace C : sn_Cx X c_Md_lineTimer "SignalNetworkModel" none "lineTimer" 3 7 166 := C
  unfold f_Md_lineTimer
  refine r_aload_n (q := 1) (i := 0) (pl := 0) C d_Md_lineTimer_0 rfl rfl rfl ?_
  refine r_gR (q := 4) C d_Md_lineTimer_1 rfl F_Md_153 rfl (fun v18 => ?_)
  refine r_iload_n (q := 5) (i := 1) (pl := 1) C d_Md_lineTimer_4 rfl rfl rfl ?_
  refine r_aI (q := 6) C (Or.inr rfl) d_Md_lineTimer_5 rfl (fun v19 => ?_)
  refine r_if_le (tgt := 139) (q := 9) C d_Md_lineTimer_6 (by decide) rfl ?_ ?_
  · exact s_Md_lineTimer_139 C a x1
  · refine r_aload_n (q := 10) (i := 0) (pl := 0) C d_Md_lineTimer_9 rfl rfl rfl ?_
    refine r_gR (q := 13) C d_Md_lineTimer_10 rfl F_Md_153 rfl (fun v20 => ?_)
    refine r_iload_n (q := 14) (i := 1) (pl := 1) C d_Md_lineTimer_13 rfl rfl rfl ?_
    refine r_aI (q := 15) C (Or.inr rfl) d_Md_lineTimer_14 rfl (fun v21 => ?_)
    refine r_aload_n (q := 16) (i := 0) (pl := 0) C d_Md_lineTimer_15 rfl rfl rfl ?_
    refine r_gI (q := 19) C d_Md_lineTimer_16 rfl F_Md_256 rfl (fun v22 => ?_)
    refine r_icmp_ne (tgt := 139) (q := 22) C d_Md_lineTimer_19 (by decide) rfl ?_ ?_
    · exact s_Md_lineTimer_139 C a x1
    · refine r_aload_n (q := 23) (i := 0) (pl := 0) C d_Md_lineTimer_22 rfl rfl rfl ?_
      refine r_gR (q := 26) C d_Md_lineTimer_23 rfl F_Md_153 rfl (fun v23 => ?_)
      refine r_iload_n (q := 27) (i := 1) (pl := 1) C d_Md_lineTimer_26 rfl rfl rfl ?_
      refine r_iconst (q := 28) (v := 0) C d_Md_lineTimer_27 rfl (by decide) ?_
      refine r_bI (q := 29) C (Or.inr rfl) d_Md_lineTimer_28 rfl ?_
      refine r_aload_n (q := 30) (i := 0) (pl := 0) C d_Md_lineTimer_29 rfl rfl rfl ?_
      refine r_gR (q := 33) C d_Md_lineTimer_30 rfl F_Md_150 rfl (fun v24 => ?_)
      refine r_iload_n (q := 34) (i := 1) (pl := 1) C d_Md_lineTimer_33 rfl rfl rfl ?_
      refine r_aI (q := 35) C (Or.inr rfl) d_Md_lineTimer_34 rfl (fun v25 => ?_)
      refine r_iconst (q := 36) (v := 1) C d_Md_lineTimer_35 rfl (by decide) ?_
      refine r_icmp_eq (tgt := 49) (q := 39) C d_Md_lineTimer_36 (by decide) rfl ?_ ?_
      · exact s_Md_lineTimer_49 C a x1
      · refine r_aload_n (q := 40) (i := 0) (pl := 0) C d_Md_lineTimer_39 rfl rfl rfl ?_
        refine r_gR (q := 43) C d_Md_lineTimer_40 rfl F_Md_150 rfl (fun v26 => ?_)
        refine r_iload_n (q := 44) (i := 1) (pl := 1) C d_Md_lineTimer_43 rfl rfl rfl ?_
        refine r_aI (q := 45) C (Or.inr rfl) d_Md_lineTimer_44 rfl (fun v27 => ?_)
        refine r_iconst (q := 46) (v := 2) C d_Md_lineTimer_45 rfl (by decide) ?_
        refine r_icmp_ne (tgt := 72) (q := 49) C d_Md_lineTimer_46 (by decide) rfl ?_ ?_
        · refine r_aload_n (q := 73) (i := 0) (pl := 0) C d_Md_lineTimer_72 rfl rfl rfl ?_
          refine r_gR (q := 76) C d_Md_lineTimer_73 rfl F_Md_150 rfl (fun v28 => ?_)
          refine r_iload_n (q := 77) (i := 1) (pl := 1) C d_Md_lineTimer_76 rfl rfl rfl ?_
          refine r_aI (q := 78) C (Or.inr rfl) d_Md_lineTimer_77 rfl (fun v29 => ?_)
          refine r_bipush (q := 80) (v := 7) C d_Md_lineTimer_78 rfl (by decide) ?_
          refine r_icmp_ne (tgt := 107) (q := 83) C d_Md_lineTimer_80 (by decide) rfl ?_ ?_
          · refine r_aload_n (q := 108) (i := 0) (pl := 0) C d_Md_lineTimer_107 rfl rfl rfl ?_
            refine r_gR (q := 111) C d_Md_lineTimer_108 rfl F_Md_150 rfl (fun v30 => ?_)
            refine r_iload_n (q := 112) (i := 1) (pl := 1) C d_Md_lineTimer_111 rfl rfl rfl ?_
            refine r_aI (q := 113) C (Or.inr rfl) d_Md_lineTimer_112 rfl (fun v31 => ?_)
            refine r_bipush (q := 115) (v := 8) C d_Md_lineTimer_113 rfl (by decide) ?_
            refine r_icmp_ne (tgt := 139) (q := 118) C d_Md_lineTimer_115 (by decide) rfl ?_ ?_
            · exact s_Md_lineTimer_139 C a x1
            · refine r_aload_n (q := 119) (i := 0) (pl := 0) C d_Md_lineTimer_118 rfl rfl rfl ?_
              refine r_iload_n (q := 120) (i := 1) (pl := 1) C d_Md_lineTimer_119 rfl rfl rfl ?_
              refine r_bipush (q := 122) (v := 12) C d_Md_lineTimer_120 rfl (by decide) ?_
              refine r_iconst (q := 123) (v := 0) C d_Md_lineTimer_122 rfl (by decide) ?_
              refine r_cvV (q := 126) (As := [vI x1, vI (12 : Int32), vI (0 : Int32)]) (st := []) (cy := 11) C d_Md_lineTimer_123 rfl Y_Md_say L_Md_361 I_Md_say Se_Md_say rfl (by decide) rfl (Nat.le_of_ble_eq_true rfl) (Nat.le_of_ble_eq_true rfl) (Nat.le_of_ble_eq_true rfl) rfl (fun a32 => con_Md_say a32 x1 (12 : Int32) (0 : Int32)) ?_
              refine r_aload_n (q := 127) (i := 0) (pl := 0) C d_Md_lineTimer_126 rfl rfl rfl ?_
              refine r_gR (q := 130) C d_Md_lineTimer_127 rfl F_Md_153 rfl (fun v34 => ?_)
              refine r_iload_n (q := 131) (i := 1) (pl := 1) C d_Md_lineTimer_130 rfl rfl rfl ?_
              refine r_aload_n (q := 132) (i := 0) (pl := 0) C d_Md_lineTimer_131 rfl rfl rfl ?_
              refine r_gI (q := 135) C d_Md_lineTimer_132 rfl F_Md_256 rfl (fun v35 => ?_)
              refine r_bipush (q := 137) (v := 30) C d_Md_lineTimer_135 rfl (by decide) ?_
              refine r_iadd (q := 138) C d_Md_lineTimer_137 rfl ?_
              refine r_bI (q := 139) C (Or.inr rfl) d_Md_lineTimer_138 rfl ?_
              exact s_Md_lineTimer_139 C a x1
          · refine r_aload_n (q := 84) (i := 0) (pl := 0) C d_Md_lineTimer_83 rfl rfl rfl ?_
            refine r_iload_n (q := 85) (i := 1) (pl := 1) C d_Md_lineTimer_84 rfl rfl rfl ?_
            refine r_bipush (q := 87) (v := 10) C d_Md_lineTimer_85 rfl (by decide) ?_
            refine r_iconst (q := 88) (v := 0) C d_Md_lineTimer_87 rfl (by decide) ?_
            refine r_cvV (q := 91) (As := [vI x1, vI (10 : Int32), vI (0 : Int32)]) (st := []) (cy := 11) C d_Md_lineTimer_88 rfl Y_Md_say L_Md_361 I_Md_say Se_Md_say rfl (by decide) rfl (Nat.le_of_ble_eq_true rfl) (Nat.le_of_ble_eq_true rfl) (Nat.le_of_ble_eq_true rfl) rfl (fun a36 => con_Md_say a36 x1 (10 : Int32) (0 : Int32)) ?_
            refine r_aload_n (q := 92) (i := 0) (pl := 0) C d_Md_lineTimer_91 rfl rfl rfl ?_
            refine r_gR (q := 95) C d_Md_lineTimer_92 rfl F_Md_153 rfl (fun v38 => ?_)
            refine r_iload_n (q := 96) (i := 1) (pl := 1) C d_Md_lineTimer_95 rfl rfl rfl ?_
            refine r_aload_n (q := 97) (i := 0) (pl := 0) C d_Md_lineTimer_96 rfl rfl rfl ?_
            refine r_gI (q := 100) C d_Md_lineTimer_97 rfl F_Md_256 rfl (fun v39 => ?_)
            refine r_bipush (q := 102) (v := 6) C d_Md_lineTimer_100 rfl (by decide) ?_
            refine r_iadd (q := 103) C d_Md_lineTimer_102 rfl ?_
            refine r_bI (q := 104) C (Or.inr rfl) d_Md_lineTimer_103 rfl ?_
            refine r_goto (tgt := 139) C d_Md_lineTimer_104 (by decide) ?_
            exact s_Md_lineTimer_139 C a x1
        · exact s_Md_lineTimer_49 C a x1
