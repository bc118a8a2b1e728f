theorem d_Md_one_0 : decode c_Md_one 0 = .ok (.iconst 0, 1) := by decide +kernel
theorem d_Md_one_1 : decode c_Md_one 1 = .ok (.istore_n 1, 1) := by decide +kernel
theorem d_Md_one_2 : decode c_Md_one 2 = .ok (.iload_n 1, 1) := by decide +kernel
theorem d_Md_one_3 : decode c_Md_one 3 = .ok (.iconst 2, 1) := by decide +kernel
theorem d_Md_one_4 : decode c_Md_one 4 = .ok (.aload_n 0, 1) := by decide +kernel
theorem d_Md_one_5 : decode c_Md_one 5 = .ok (.getfield 196, 3) := by decide +kernel
theorem d_Md_one_8 : decode c_Md_one 8 = .ok (.imul, 1) := by decide +kernel
theorem d_Md_one_9 : decode c_Md_one 9 = .ok (.if_icmp .ge 14, 3) := by decide +kernel
theorem d_Md_one_12 : decode c_Md_one 12 = .ok (.aload_n 0, 1) := by decide +kernel
theorem d_Md_one_13 : decode c_Md_one 13 = .ok (.iload_n 1, 1) := by decide +kernel
theorem d_Md_one_14 : decode c_Md_one 14 = .ok (.invokevirtual 385, 3) := by decide +kernel
theorem d_Md_one_17 : decode c_Md_one 17 = .ok (.iinc 1 1, 3) := by decide +kernel
theorem d_Md_one_20 : decode c_Md_one 20 = .ok (.goto (-18), 3) := by decide +kernel
theorem d_Md_one_23 : decode c_Md_one 23 = .ok (.aload_n 0, 1) := by decide +kernel
theorem d_Md_one_24 : decode c_Md_one 24 = .ok (.dup, 1) := by decide +kernel
theorem d_Md_one_25 : decode c_Md_one 25 = .ok (.getfield 256, 3) := by decide +kernel
theorem d_Md_one_28 : decode c_Md_one 28 = .ok (.iconst 1, 1) := by decide +kernel
theorem d_Md_one_29 : decode c_Md_one 29 = .ok (.iadd, 1) := by decide +kernel
theorem d_Md_one_30 : decode c_Md_one 30 = .ok (.putfield 256, 3) := by decide +kernel
theorem d_Md_one_33 : decode c_Md_one 33 = .ok (.iconst 0, 1) := by decide +kernel
theorem d_Md_one_34 : decode c_Md_one 34 = .ok (.istore_n 1, 1) := by decide +kernel
theorem d_Md_one_35 : decode c_Md_one 35 = .ok (.iload_n 1, 1) := by decide +kernel
theorem d_Md_one_36 : decode c_Md_one 36 = .ok (.iconst 2, 1) := by decide +kernel
theorem d_Md_one_37 : decode c_Md_one 37 = .ok (.aload_n 0, 1) := by decide +kernel
theorem d_Md_one_38 : decode c_Md_one 38 = .ok (.getfield 196, 3) := by decide +kernel
theorem d_Md_one_41 : decode c_Md_one 41 = .ok (.imul, 1) := by decide +kernel
theorem d_Md_one_42 : decode c_Md_one 42 = .ok (.if_icmp .ge 14, 3) := by decide +kernel
theorem d_Md_one_45 : decode c_Md_one 45 = .ok (.aload_n 0, 1) := by decide +kernel
theorem d_Md_one_46 : decode c_Md_one 46 = .ok (.iload_n 1, 1) := by decide +kernel
theorem d_Md_one_47 : decode c_Md_one 47 = .ok (.invokevirtual 388, 3) := by decide +kernel
theorem d_Md_one_50 : decode c_Md_one 50 = .ok (.iinc 1 1, 3) := by decide +kernel
theorem d_Md_one_53 : decode c_Md_one 53 = .ok (.goto (-18), 3) := by decide +kernel
theorem d_Md_one_56 : decode c_Md_one 56 = .ok (.iconst 0, 1) := by decide +kernel
theorem d_Md_one_57 : decode c_Md_one 57 = .ok (.istore_n 1, 1) := by decide +kernel
theorem d_Md_one_58 : decode c_Md_one 58 = .ok (.iload_n 1, 1) := by decide +kernel
theorem d_Md_one_59 : decode c_Md_one 59 = .ok (.bipush 6, 2) := by decide +kernel
theorem d_Md_one_61 : decode c_Md_one 61 = .ok (.if_icmp .ge 195, 3) := by decide +kernel
theorem d_Md_one_64 : decode c_Md_one 64 = .ok (.iconst 0, 1) := by decide +kernel
theorem d_Md_one_65 : decode c_Md_one 65 = .ok (.istore_n 2, 1) := by decide +kernel
theorem d_Md_one_66 : decode c_Md_one 66 = .ok (.iload_n 2, 1) := by decide +kernel
theorem d_Md_one_67 : decode c_Md_one 67 = .ok (.aload_n 0, 1) := by decide +kernel
theorem d_Md_one_68 : decode c_Md_one 68 = .ok (.getfield 196, 3) := by decide +kernel
theorem d_Md_one_71 : decode c_Md_one 71 = .ok (.if_icmp .ge 71, 3) := by decide +kernel
theorem d_Md_one_74 : decode c_Md_one 74 = .ok (.aload_n 0, 1) := by decide +kernel
theorem d_Md_one_75 : decode c_Md_one 75 = .ok (.getfield 7, 3) := by decide +kernel
theorem d_Md_one_78 : decode c_Md_one 78 = .ok (.iload_n 2, 1) := by decide +kernel
theorem d_Md_one_79 : decode c_Md_one 79 = .ok (.iaload, 1) := by decide +kernel
theorem d_Md_one_80 : decode c_Md_one 80 = .ok (.iload_n 1, 1) := by decide +kernel
theorem d_Md_one_81 : decode c_Md_one 81 = .ok (.if_icmp .eq 16, 3) := by decide +kernel
theorem d_Md_one_84 : decode c_Md_one 84 = .ok (.aload_n 0, 1) := by decide +kernel
theorem d_Md_one_85 : decode c_Md_one 85 = .ok (.getfield 13, 3) := by decide +kernel
theorem d_Md_one_88 : decode c_Md_one 88 = .ok (.iload_n 2, 1) := by decide +kernel
theorem d_Md_one_89 : decode c_Md_one 89 = .ok (.iaload, 1) := by decide +kernel
theorem d_Md_one_90 : decode c_Md_one 90 = .ok (.iload_n 1, 1) := by decide +kernel
theorem d_Md_one_91 : decode c_Md_one 91 = .ok (.if_icmp .eq 6, 3) := by decide +kernel
theorem d_Md_one_94 : decode c_Md_one 94 = .ok (.goto 42, 3) := by decide +kernel
theorem d_Md_one_97 : decode c_Md_one 97 = .ok (.aload_n 0, 1) := by decide +kernel
theorem d_Md_one_98 : decode c_Md_one 98 = .ok (.getfield 114, 3) := by decide +kernel
theorem d_Md_one_101 : decode c_Md_one 101 = .ok (.aload_n 0, 1) := by decide +kernel
theorem d_Md_one_102 : decode c_Md_one 102 = .ok (.iload_n 2, 1) := by decide +kernel
theorem d_Md_one_103 : decode c_Md_one 103 = .ok (.iload_n 1, 1) := by decide +kernel
theorem d_Md_one_104 : decode c_Md_one 104 = .ok (.invokevirtual 216, 3) := by decide +kernel
theorem d_Md_one_107 : decode c_Md_one 107 = .ok (.iaload, 1) := by decide +kernel
theorem d_Md_one_108 : decode c_Md_one 108 = .ok (.ifCond .le 28, 3) := by decide +kernel
theorem d_Md_one_111 : decode c_Md_one 111 = .ok (.aload_n 0, 1) := by decide +kernel
theorem d_Md_one_112 : decode c_Md_one 112 = .ok (.getfield 114, 3) := by decide +kernel
theorem d_Md_one_115 : decode c_Md_one 115 = .ok (.aload_n 0, 1) := by decide +kernel
theorem d_Md_one_116 : decode c_Md_one 116 = .ok (.iload_n 2, 1) := by decide +kernel
theorem d_Md_one_117 : decode c_Md_one 117 = .ok (.iload_n 1, 1) := by decide +kernel
theorem d_Md_one_118 : decode c_Md_one 118 = .ok (.invokevirtual 216, 3) := by decide +kernel
theorem d_Md_one_121 : decode c_Md_one 121 = .ok (.iaload, 1) := by decide +kernel
theorem d_Md_one_122 : decode c_Md_one 122 = .ok (.aload_n 0, 1) := by decide +kernel
theorem d_Md_one_123 : decode c_Md_one 123 = .ok (.getfield 256, 3) := by decide +kernel
theorem d_Md_one_126 : decode c_Md_one 126 = .ok (.if_icmp .ne 10, 3) := by decide +kernel
theorem d_Md_one_129 : decode c_Md_one 129 = .ok (.aload_n 0, 1) := by decide +kernel
theorem d_Md_one_130 : decode c_Md_one 130 = .ok (.iload_n 1, 1) := by decide +kernel
theorem d_Md_one_131 : decode c_Md_one 131 = .ok (.iload_n 2, 1) := by decide +kernel
theorem d_Md_one_132 : decode c_Md_one 132 = .ok (.iconst (-1), 1) := by decide +kernel
theorem d_Md_one_133 : decode c_Md_one 133 = .ok (.invokevirtual 338, 3) := by decide +kernel
theorem d_Md_one_136 : decode c_Md_one 136 = .ok (.iinc 2 1, 3) := by decide +kernel
theorem d_Md_one_139 : decode c_Md_one 139 = .ok (.goto (-73), 3) := by decide +kernel
theorem d_Md_one_142 : decode c_Md_one 142 = .ok (.iconst 0, 1) := by decide +kernel
theorem d_Md_one_143 : decode c_Md_one 143 = .ok (.istore_n 2, 1) := by decide +kernel
theorem d_Md_one_144 : decode c_Md_one 144 = .ok (.iload_n 2, 1) := by decide +kernel
theorem d_Md_one_145 : decode c_Md_one 145 = .ok (.bipush 6, 2) := by decide +kernel
theorem d_Md_one_147 : decode c_Md_one 147 = .ok (.if_icmp .ge 103, 3) := by decide +kernel
theorem d_Md_one_150 : decode c_Md_one 150 = .ok (.iconst 0, 1) := by decide +kernel
theorem d_Md_one_151 : decode c_Md_one 151 = .ok (.istore_n 3, 1) := by decide +kernel
theorem d_Md_one_152 : decode c_Md_one 152 = .ok (.iload_n 3, 1) := by decide +kernel
theorem d_Md_one_153 : decode c_Md_one 153 = .ok (.iconst 4, 1) := by decide +kernel
theorem d_Md_one_154 : decode c_Md_one 154 = .ok (.if_icmp .ge 90, 3) := by decide +kernel
theorem d_Md_one_157 : decode c_Md_one 157 = .ok (.aload_n 0, 1) := by decide +kernel
theorem d_Md_one_158 : decode c_Md_one 158 = .ok (.iload_n 1, 1) := by decide +kernel
theorem d_Md_one_159 : decode c_Md_one 159 = .ok (.iload_n 2, 1) := by decide +kernel
theorem d_Md_one_160 : decode c_Md_one 160 = .ok (.iload_n 3, 1) := by decide +kernel
theorem d_Md_one_161 : decode c_Md_one 161 = .ok (.invokevirtual 212, 3) := by decide +kernel
theorem d_Md_one_164 : decode c_Md_one 164 = .ok (.istore 4, 2) := by decide +kernel
theorem d_Md_one_166 : decode c_Md_one 166 = .ok (.aload_n 0, 1) := by decide +kernel
theorem d_Md_one_167 : decode c_Md_one 167 = .ok (.getfield 126, 3) := by decide +kernel
theorem d_Md_one_170 : decode c_Md_one 170 = .ok (.iload 4, 2) := by decide +kernel
theorem d_Md_one_172 : decode c_Md_one 172 = .ok (.iaload, 1) := by decide +kernel
theorem d_Md_one_173 : decode c_Md_one 173 = .ok (.ifCond .eq 65, 3) := by decide +kernel
theorem d_Md_one_176 : decode c_Md_one 176 = .ok (.aload_n 0, 1) := by decide +kernel
theorem d_Md_one_177 : decode c_Md_one 177 = .ok (.getfield 126, 3) := by decide +kernel
theorem d_Md_one_180 : decode c_Md_one 180 = .ok (.iload 4, 2) := by decide +kernel
theorem d_Md_one_182 : decode c_Md_one 182 = .ok (.iaload, 1) := by decide +kernel
theorem d_Md_one_183 : decode c_Md_one 183 = .ok (.aload_n 0, 1) := by decide +kernel
theorem d_Md_one_184 : decode c_Md_one 184 = .ok (.getfield 256, 3) := by decide +kernel
theorem d_Md_one_187 : decode c_Md_one 187 = .ok (.if_icmp .eq 6, 3) := by decide +kernel
theorem d_Md_one_190 : decode c_Md_one 190 = .ok (.goto 48, 3) := by decide +kernel
theorem d_Md_one_193 : decode c_Md_one 193 = .ok (.aload_n 0, 1) := by decide +kernel
theorem d_Md_one_194 : decode c_Md_one 194 = .ok (.aload_n 0, 1) := by decide +kernel
theorem d_Md_one_195 : decode c_Md_one 195 = .ok (.aload_n 0, 1) := by decide +kernel
theorem d_Md_one_196 : decode c_Md_one 196 = .ok (.getfield 117, 3) := by decide +kernel
theorem d_Md_one_199 : decode c_Md_one 199 = .ok (.iload 4, 2) := by decide +kernel
theorem d_Md_one_201 : decode c_Md_one 201 = .ok (.iaload, 1) := by decide +kernel
theorem d_Md_one_202 : decode c_Md_one 202 = .ok (.iload_n 1, 1) := by decide +kernel
theorem d_Md_one_203 : decode c_Md_one 203 = .ok (.invokevirtual 216, 3) := by decide +kernel
theorem d_Md_one_206 : decode c_Md_one 206 = .ok (.iconst 3, 1) := by decide +kernel
theorem d_Md_one_207 : decode c_Md_one 207 = .ok (.iload_n 1, 1) := by decide +kernel
theorem d_Md_one_208 : decode c_Md_one 208 = .ok (.iload_n 2, 1) := by decide +kernel
theorem d_Md_one_209 : decode c_Md_one 209 = .ok (.iload_n 3, 1) := by decide +kernel
theorem d_Md_one_210 : decode c_Md_one 210 = .ok (.iload_n 3, 1) := by decide +kernel
theorem d_Md_one_211 : decode c_Md_one 211 = .ok (.aload_n 0, 1) := by decide +kernel
theorem d_Md_one_212 : decode c_Md_one 212 = .ok (.getfield 129, 3) := by decide +kernel
theorem d_Md_one_215 : decode c_Md_one 215 = .ok (.iload 4, 2) := by decide +kernel
theorem d_Md_one_217 : decode c_Md_one 217 = .ok (.iaload, 1) := by decide +kernel
theorem d_Md_one_218 : decode c_Md_one 218 = .ok (.invokestatic 248, 3) := by decide +kernel
theorem d_Md_one_221 : decode c_Md_one 221 = .ok (.invokevirtual 222, 3) := by decide +kernel
theorem d_Md_one_224 : decode c_Md_one 224 = .ok (.aload_n 0, 1) := by decide +kernel
theorem d_Md_one_225 : decode c_Md_one 225 = .ok (.getfield 126, 3) := by decide +kernel
theorem d_Md_one_228 : decode c_Md_one 228 = .ok (.iload 4, 2) := by decide +kernel
theorem d_Md_one_230 : decode c_Md_one 230 = .ok (.aload_n 0, 1) := by decide +kernel
theorem d_Md_one_231 : decode c_Md_one 231 = .ok (.getfield 256, 3) := by decide +kernel
theorem d_Md_one_234 : decode c_Md_one 234 = .ok (.bipush 20, 2) := by decide +kernel
theorem d_Md_one_236 : decode c_Md_one 236 = .ok (.iadd, 1) := by decide +kernel
theorem d_Md_one_237 : decode c_Md_one 237 = .ok (.iastore, 1) := by decide +kernel
theorem d_Md_one_238 : decode c_Md_one 238 = .ok (.iinc 3 1, 3) := by decide +kernel
theorem d_Md_one_241 : decode c_Md_one 241 = .ok (.goto (-89), 3) := by decide +kernel
theorem d_Md_one_244 : decode c_Md_one 244 = .ok (.iinc 2 1, 3) := by decide +kernel
theorem d_Md_one_247 : decode c_Md_one 247 = .ok (.goto (-103), 3) := by decide +kernel
theorem d_Md_one_250 : decode c_Md_one 250 = .ok (.iinc 1 1, 3) := by decide +kernel
theorem d_Md_one_253 : decode c_Md_one 253 = .ok (.goto (-195), 3) := by decide +kernel
theorem d_Md_one_256 : decode c_Md_one 256 = .ok (.iconst 0, 1) := by decide +kernel
theorem d_Md_one_257 : decode c_Md_one 257 = .ok (.istore_n 1, 1) := by decide +kernel
theorem d_Md_one_258 : decode c_Md_one 258 = .ok (.iload_n 1, 1) := by decide +kernel
theorem d_Md_one_259 : decode c_Md_one 259 = .ok (.sipush 144, 3) := by decide +kernel
theorem d_Md_one_262 : decode c_Md_one 262 = .ok (.if_icmp .ge 14, 3) := by decide +kernel
theorem d_Md_one_265 : decode c_Md_one 265 = .ok (.aload_n 0, 1) := by decide +kernel
theorem d_Md_one_266 : decode c_Md_one 266 = .ok (.iload_n 1, 1) := by decide +kernel
theorem d_Md_one_267 : decode c_Md_one 267 = .ok (.invokevirtual 391, 3) := by decide +kernel
theorem d_Md_one_270 : decode c_Md_one 270 = .ok (.iinc 1 1, 3) := by decide +kernel
theorem d_Md_one_273 : decode c_Md_one 273 = .ok (.goto (-15), 3) := by decide +kernel
theorem d_Md_one_276 : decode c_Md_one 276 = .ok (.iconst 0, 1) := by decide +kernel
theorem d_Md_one_277 : decode c_Md_one 277 = .ok (.istore_n 1, 1) := by decide +kernel
theorem d_Md_one_278 : decode c_Md_one 278 = .ok (.iload_n 1, 1) := by decide +kernel
theorem d_Md_one_279 : decode c_Md_one 279 = .ok (.iconst 2, 1) := by decide +kernel
theorem d_Md_one_280 : decode c_Md_one 280 = .ok (.aload_n 0, 1) := by decide +kernel
theorem d_Md_one_281 : decode c_Md_one 281 = .ok (.getfield 196, 3) := by decide +kernel
theorem d_Md_one_284 : decode c_Md_one 284 = .ok (.imul, 1) := by decide +kernel
theorem d_Md_one_285 : decode c_Md_one 285 = .ok (.if_icmp .ge 14, 3) := by decide +kernel
theorem d_Md_one_288 : decode c_Md_one 288 = .ok (.aload_n 0, 1) := by decide +kernel
theorem d_Md_one_289 : decode c_Md_one 289 = .ok (.iload_n 1, 1) := by decide +kernel
theorem d_Md_one_290 : decode c_Md_one 290 = .ok (.invokevirtual 394, 3) := by decide +kernel
theorem d_Md_one_293 : decode c_Md_one 293 = .ok (.iinc 1 1, 3) := by decide +kernel
theorem d_Md_one_296 : decode c_Md_one 296 = .ok (.goto (-18), 3) := by decide +kernel
theorem d_Md_one_299 : decode c_Md_one 299 = .ok (.aload_n 0, 1) := by decide +kernel
theorem d_Md_one_300 : decode c_Md_one 300 = .ok (.dup, 1) := by decide +kernel
theorem d_Md_one_301 : decode c_Md_one 301 = .ok (.getfield 397, 3) := by decide +kernel
theorem d_Md_one_304 : decode c_Md_one 304 = .ok (.iconst 1, 1) := by decide +kernel
theorem d_Md_one_305 : decode c_Md_one 305 = .ok (.iadd, 1) := by decide +kernel
theorem d_Md_one_306 : decode c_Md_one 306 = .ok (.putfield 397, 3) := by decide +kernel
theorem d_Md_one_309 : decode c_Md_one 309 = .ok (.return_, 1) := by decide +kernel
def f_Md_one_136 (k66 : Int32 → Int32 → sn_M) (a : Nat) (x1 : Int32) (x2 : Int32) : sn_M := k66 x1 (x2 + (1 : Int32))
set_option maxHeartbeats 4000000 in
set_option maxRecDepth 100000 in
theorem mono_Md_one_136 (k66 : Int32 → Int32 → sn_M) (mk66 : ∀ (x1 : Int32) (x2 : Int32), sn_Mono (k66 x1 x2)) (a : Nat) (x1 : Int32) (x2 : Int32) : sn_Mono (f_Md_one_136 k66 a x1 x2) := mk66 x1 (x2 + (1 : Int32))
set_option maxHeartbeats 4000000 in
set_option maxRecDepth 100000 in
theorem s_Md_one_136 {X : sn_X} (C : sn_Cx X c_Md_one "SignalNetworkModel" none "one" 5 14 348) (a : Nat) (k66 : Int32 → Int32 → sn_M) (hk66 : ∀ (x1 : Int32) (x2 : Int32), sn_S X 66 [(0, vA (some a)), (1, vI x1), (2, vI x2)] [] (k66 x1 x2)) (x1 : Int32) (x2 : Int32) : sn_S X 136 [(0, vA (some a)), (1, vI x1), (2, vI x2)] [] (f_Md_one_136 k66 a x1 x2) := by
  unfold f_Md_one_136
  refine r_iinc (q := 139) (pl := 2) (v := x2 + (1 : Int32)) (lv' := [(2, vI (x2 + (1 : Int32))), (0, vA (some a)), (1, vI x1)]) C d_Md_one_136 rfl rfl rfl (by decide) rfl ?_
  refine r_goto (tgt := 66) C d_Md_one_139 (by decide) ?_
  refine r_sub (lv' := [(0, vA (some a)), (1, vI x1), (2, vI (x2 + (1 : Int32)))]) [1, 2, 0] rfl ?_
  exact hk66 x1 (x2 + (1 : Int32))
def f_Md_one_97 (k66 : Int32 → Int32 → sn_M) (a : Nat) (x1 : Int32) (x2 : Int32) : sn_M := g_R 12 40 (some a) fun v1 => n_n 12 (some a) fun a2 => c_I (f_Md_endAt a2 x2 x1) fun v3 => a_I 31 v1 v3 fun v4 => (if v4 ≤ 0 then f_Md_one_136 k66 a x1 x2 else g_R 12 40 (some a) fun v5 => n_n 12 (some a) fun a6 => c_I (f_Md_endAt a6 x2 x1) fun v7 => a_I 31 v5 v7 fun v8 => g_I 12 6 (some a) fun v9 => (if ¬ v8 = v9 then f_Md_one_136 k66 a x1 x2 else n_n 12 (some a) fun a10 => c_V (f_Md_overEnds a10 x1 x2 (-1 : Int32)) (f_Md_one_136 k66 a x1 x2)))
set_option maxHeartbeats 4000000 in
set_option maxRecDepth 100000 in
theorem mono_Md_one_97 (k66 : Int32 → Int32 → sn_M) (mk66 : ∀ (x1 : Int32) (x2 : Int32), sn_Mono (k66 x1 x2)) (a : Nat) (x1 : Int32) (x2 : Int32) : sn_Mono (f_Md_one_97 k66 a x1 x2) := sn_Mono.gR (fun v1 => sn_Mono.nn (fun a2 => sn_Mono.cI (mono_Md_endAt a2 x2 x1) (fun v3 => sn_Mono.aI (fun v4 => sn_Mono.ite (mono_Md_one_136 k66 mk66 a x1 x2) (sn_Mono.gR (fun v5 => sn_Mono.nn (fun a6 => sn_Mono.cI (mono_Md_endAt a6 x2 x1) (fun v7 => sn_Mono.aI (fun v8 => sn_Mono.gI (fun v9 => sn_Mono.ite (mono_Md_one_136 k66 mk66 a x1 x2) (sn_Mono.nn (fun a10 => sn_Mono.cV (mono_Md_overEnds a10 x1 x2 (-1 : Int32)) (mono_Md_one_136 k66 mk66 a x1 x2)))))))))))))
set_option maxHeartbeats 4000000 in
set_option maxRecDepth 100000 in
theorem s_Md_one_97 {X : sn_X} (C : sn_Cx X c_Md_one "SignalNetworkModel" none "one" 5 14 348) (a : Nat) (k66 : Int32 → Int32 → sn_M) (hk66 : ∀ (x1 : Int32) (x2 : Int32), sn_S X 66 [(0, vA (some a)), (1, vI x1), (2, vI x2)] [] (k66 x1 x2)) (x1 : Int32) (x2 : Int32) : sn_S X 97 [(0, vA (some a)), (1, vI x1), (2, vI x2)] [] (f_Md_one_97 k66 a x1 x2) := by
  unfold f_Md_one_97
  refine r_aload_n (q := 98) (i := 0) (pl := 0) C d_Md_one_97 rfl rfl rfl ?_
  refine r_gR (q := 101) C d_Md_one_98 rfl F_Md_114 rfl (fun v1 => ?_)
  refine r_aload_n (q := 102) (i := 0) (pl := 0) C d_Md_one_101 rfl rfl rfl ?_
  refine r_iload_n (q := 103) (i := 2) (pl := 2) C d_Md_one_102 rfl rfl rfl ?_
  refine r_iload_n (q := 104) (i := 1) (pl := 1) C d_Md_one_103 rfl rfl rfl ?_
  refine r_cvI (q := 107) (As := [vI x2, vI x1]) (st := [vA v1]) (cy := 11) C d_Md_one_104 rfl Y_Md_endAt L_Md_216 I_Md_endAt Se_Md_endAt rfl (by decide) rfl (Nat.le_of_ble_eq_true rfl) (Nat.le_of_ble_eq_true rfl) (Nat.le_of_ble_eq_true rfl) rfl (fun a2 => con_Md_endAt a2 x2 x1) (fun v3 => ?_)
  refine r_aI (q := 108) C (Or.inr rfl) d_Md_one_107 rfl (fun v4 => ?_)
  refine r_if_le (tgt := 136) (q := 111) C d_Md_one_108 (by decide) rfl ?_ ?_
  · exact s_Md_one_136 C a k66 hk66 x1 x2
  · refine r_aload_n (q := 112) (i := 0) (pl := 0) C d_Md_one_111 rfl rfl rfl ?_
    refine r_gR (q := 115) C d_Md_one_112 rfl F_Md_114 rfl (fun v5 => ?_)
    refine r_aload_n (q := 116) (i := 0) (pl := 0) C d_Md_one_115 rfl rfl rfl ?_
    refine r_iload_n (q := 117) (i := 2) (pl := 2) C d_Md_one_116 rfl rfl rfl ?_
    refine r_iload_n (q := 118) (i := 1) (pl := 1) C d_Md_one_117 rfl rfl rfl ?_
    refine r_cvI (q := 121) (As := [vI x2, vI x1]) (st := [vA v5]) (cy := 11) C d_Md_one_118 rfl Y_Md_endAt L_Md_216 I_Md_endAt Se_Md_endAt rfl (by decide) rfl (Nat.le_of_ble_eq_true rfl) (Nat.le_of_ble_eq_true rfl) (Nat.le_of_ble_eq_true rfl) rfl (fun a6 => con_Md_endAt a6 x2 x1) (fun v7 => ?_)
    refine r_aI (q := 122) C (Or.inr rfl) d_Md_one_121 rfl (fun v8 => ?_)
    refine r_aload_n (q := 123) (i := 0) (pl := 0) C d_Md_one_122 rfl rfl rfl ?_
    refine r_gI (q := 126) C d_Md_one_123 rfl F_Md_256 rfl (fun v9 => ?_)
    refine r_icmp_ne (tgt := 136) (q := 129) C d_Md_one_126 (by decide) rfl ?_ ?_
    · exact s_Md_one_136 C a k66 hk66 x1 x2
    · refine r_aload_n (q := 130) (i := 0) (pl := 0) C d_Md_one_129 rfl rfl rfl ?_
      refine r_iload_n (q := 131) (i := 1) (pl := 1) C d_Md_one_130 rfl rfl rfl ?_
      refine r_iload_n (q := 132) (i := 2) (pl := 2) C d_Md_one_131 rfl rfl rfl ?_
      refine r_iconst (q := 133) (v := -1) C d_Md_one_132 rfl (by decide) ?_
      refine r_cvV (q := 136) (As := [vI x1, vI x2, vI (-1 : Int32)]) (st := []) (cy := 11) C d_Md_one_133 rfl Y_Md_overEnds L_Md_338 I_Md_overEnds Se_Md_overEnds rfl (by decide) rfl (Nat.le_of_ble_eq_true rfl) (Nat.le_of_ble_eq_true rfl) (Nat.le_of_ble_eq_true rfl) rfl (fun a10 => con_Md_overEnds a10 x1 x2 (-1 : Int32)) ?_
      exact s_Md_one_136 C a k66 hk66 x1 x2
def f_Md_one_238 (k152 : Int32 → Int32 → Int32 → sn_M) (a : Nat) (x1 : Int32) (x2 : Int32) (x3 : Int32) : sn_M := k152 x1 x2 (x3 + (1 : Int32))
set_option maxHeartbeats 4000000 in
set_option maxRecDepth 100000 in
theorem mono_Md_one_238 (k152 : Int32 → Int32 → Int32 → sn_M) (mk152 : ∀ (x1 : Int32) (x2 : Int32) (x3 : Int32), sn_Mono (k152 x1 x2 x3)) (a : Nat) (x1 : Int32) (x2 : Int32) (x3 : Int32) : sn_Mono (f_Md_one_238 k152 a x1 x2 x3) := mk152 x1 x2 (x3 + (1 : Int32))
set_option maxHeartbeats 4000000 in
set_option maxRecDepth 100000 in
theorem s_Md_one_238 {X : sn_X} (C : sn_Cx X c_Md_one "SignalNetworkModel" none "one" 5 14 348) (a : Nat) (k152 : Int32 → Int32 → Int32 → sn_M) (hk152 : ∀ (x1 : Int32) (x2 : Int32) (x3 : Int32), sn_S X 152 [(0, vA (some a)), (1, vI x1), (2, vI x2), (3, vI x3)] [] (k152 x1 x2 x3)) (x1 : Int32) (x2 : Int32) (x3 : Int32) : sn_S X 238 [(0, vA (some a)), (1, vI x1), (2, vI x2), (3, vI x3)] [] (f_Md_one_238 k152 a x1 x2 x3) := by
  unfold f_Md_one_238
  refine r_iinc (q := 241) (pl := 3) (v := x3 + (1 : Int32)) (lv' := [(3, vI (x3 + (1 : Int32))), (0, vA (some a)), (1, vI x1), (2, vI x2)]) C d_Md_one_238 rfl rfl rfl (by decide) rfl ?_
  refine r_goto (tgt := 152) C d_Md_one_241 (by decide) ?_
  refine r_sub (lv' := [(0, vA (some a)), (1, vI x1), (2, vI x2), (3, vI (x3 + (1 : Int32)))]) [1, 2, 3, 0] rfl ?_
  exact hk152 x1 x2 (x3 + (1 : Int32))
def f_Md_one_152 (k144 : Int32 → Int32 → sn_M) (a : Nat) : Nat → Int32 → Int32 → Int32 → sn_M
  | 0, _, _, _ => r_0
  | n + 1, x1, x2, x3 => (if (4 : Int32) ≤ x3 then k144 x1 (x2 + (1 : Int32)) else n_n 12 (some a) fun a12 => c_I (f_Md_flowAt a12 x1 x2 x3) fun v13 => g_R 12 44 (some a) fun v14 => a_I 31 v14 v13 fun v15 => (if v15 = 0 then f_Md_one_238 (f_Md_one_152 k144 a n) a x1 x2 x3 else g_R 12 44 (some a) fun v16 => a_I 31 v16 v13 fun v17 => g_I 12 6 (some a) fun v18 => (if v17 = v18 then g_R 12 41 (some a) fun v19 => a_I 31 v19 v13 fun v20 => n_n 12 (some a) fun a21 => c_I (f_Md_endAt a21 v20 x1) fun v22 => g_R 12 45 (some a) fun v23 => a_I 31 v23 v13 fun v24 => c_J (f_Md_message (3 : Int32) x1 x2 x3 x3 v24) fun v25 => n_n 12 (some a) fun a26 => c_V (f_Md_waitAt a26 v22 v25) (g_R 12 44 (some a) fun v28 => g_I 12 6 (some a) fun v29 => b_I 31 v28 v13 (v29 + (20 : Int32)) (f_Md_one_238 (f_Md_one_152 k144 a n) a x1 x2 x3)) else f_Md_one_238 (f_Md_one_152 k144 a n) a x1 x2 x3)))
set_option maxHeartbeats 4000000 in
set_option maxRecDepth 100000 in
theorem mono_Md_one_152 (k144 : Int32 → Int32 → sn_M) (mk144 : ∀ (x1 : Int32) (x2 : Int32), sn_Mono (k144 x1 x2)) (a : Nat) : ∀ (n : Nat) (x1 : Int32) (x2 : Int32) (x3 : Int32), sn_Mono (f_Md_one_152 k144 a n x1 x2 x3)
  | 0, _, _, _ => sn_Mono.r0
  | n + 1, x1, x2, x3 => sn_Mono.ite (mk144 x1 (x2 + (1 : Int32))) (sn_Mono.nn (fun a12 => sn_Mono.cI (mono_Md_flowAt a12 x1 x2 x3) (fun v13 => sn_Mono.gR (fun v14 => sn_Mono.aI (fun v15 => sn_Mono.ite (mono_Md_one_238 (f_Md_one_152 k144 a n) (mono_Md_one_152 k144 mk144 a n) a x1 x2 x3) (sn_Mono.gR (fun v16 => sn_Mono.aI (fun v17 => sn_Mono.gI (fun v18 => sn_Mono.ite (sn_Mono.gR (fun v19 => sn_Mono.aI (fun v20 => sn_Mono.nn (fun a21 => sn_Mono.cI (mono_Md_endAt a21 v20 x1) (fun v22 => sn_Mono.gR (fun v23 => sn_Mono.aI (fun v24 => sn_Mono.cJ (mono_Md_message (3 : Int32) x1 x2 x3 x3 v24) (fun v25 => sn_Mono.nn (fun a26 => sn_Mono.cV (mono_Md_waitAt a26 v22 v25) (sn_Mono.gR (fun v28 => sn_Mono.gI (fun v29 => sn_Mono.bI (mono_Md_one_238 (f_Md_one_152 k144 a n) (mono_Md_one_152 k144 mk144 a n) a x1 x2 x3))))))))))))) (mono_Md_one_238 (f_Md_one_152 k144 a n) (mono_Md_one_152 k144 mk144 a n) a x1 x2 x3))))))))))
set_option maxHeartbeats 4000000 in
set_option maxRecDepth 100000 in
theorem s_Md_one_152 {X : sn_X} (C : sn_Cx X c_Md_one "SignalNetworkModel" none "one" 5 14 348) (a : Nat) (k144 : Int32 → Int32 → sn_M) (hk144 : ∀ (x1 : Int32) (x2 : Int32), sn_S X 144 [(0, vA (some a)), (1, vI x1), (2, vI x2)] [] (k144 x1 x2)) (n : Nat) : ∀ (x1 : Int32) (x2 : Int32) (x3 : Int32), sn_S X 152 [(0, vA (some a)), (1, vI x1), (2, vI x2), (3, vI x3)] [] (f_Md_one_152 k144 a n x1 x2 x3) := by
  induction n with
  | zero => intro x1 x2 x3; exact sn_S.zero
  | succ n ih =>
    intro x1 x2 x3
    unfold f_Md_one_152
    refine r_iload_n (q := 153) (i := 3) (pl := 3) C d_Md_one_152 rfl rfl rfl ?_
    refine r_iconst (q := 154) (v := 4) C d_Md_one_153 rfl (by decide) ?_
    refine r_icmp_ge (tgt := 244) (q := 157) C d_Md_one_154 (by decide) rfl ?_ ?_
    · refine r_iinc (q := 247) (pl := 2) (v := x2 + (1 : Int32)) (lv' := [(2, vI (x2 + (1 : Int32))), (0, vA (some a)), (1, vI x1), (3, vI x3)]) C d_Md_one_244 rfl rfl rfl (by decide) rfl ?_
      refine r_goto (tgt := 144) C d_Md_one_247 (by decide) ?_
      refine r_sub (lv' := [(0, vA (some a)), (1, vI x1), (2, vI (x2 + (1 : Int32)))]) [1, 2, 0] rfl ?_
      exact hk144 x1 (x2 + (1 : Int32))
    · refine r_aload_n (q := 158) (i := 0) (pl := 0) C d_Md_one_157 rfl rfl rfl ?_
      refine r_iload_n (q := 159) (i := 1) (pl := 1) C d_Md_one_158 rfl rfl rfl ?_
      refine r_iload_n (q := 160) (i := 2) (pl := 2) C d_Md_one_159 rfl rfl rfl ?_
      refine r_iload_n (q := 161) (i := 3) (pl := 3) C d_Md_one_160 rfl rfl rfl ?_
      refine r_cvI (q := 164) (As := [vI x1, vI x2, vI x3]) (st := []) (cy := 11) C d_Md_one_161 rfl Y_Md_flowAt L_Md_212 I_Md_flowAt Se_Md_flowAt rfl (by decide) rfl (Nat.le_of_ble_eq_true rfl) (Nat.le_of_ble_eq_true rfl) (Nat.le_of_ble_eq_true rfl) rfl (fun a12 => con_Md_flowAt a12 x1 x2 x3) (fun v13 => ?_)
      refine r_istore (q := 166) (i := 4) (lv' := [(4, vI v13), (0, vA (some a)), (1, vI x1), (2, vI x2), (3, vI x3)]) C d_Md_one_164 rfl (by decide) rfl ?_
      refine r_aload_n (q := 167) (i := 0) (pl := 1) C d_Md_one_166 rfl rfl rfl ?_
      refine r_gR (q := 170) C d_Md_one_167 rfl F_Md_126 rfl (fun v14 => ?_)
      refine r_iload (q := 172) (i := 4) (pl := 0) C d_Md_one_170 rfl rfl ?_
      refine r_aI (q := 173) C (Or.inr rfl) d_Md_one_172 rfl (fun v15 => ?_)
      refine r_if_eq (tgt := 238) (q := 176) C d_Md_one_173 (by decide) rfl ?_ ?_
      · refine r_sub (lv' := [(0, vA (some a)), (1, vI x1), (2, vI x2), (3, vI x3)]) [1, 2, 3, 4] rfl ?_
        exact s_Md_one_238 C a (f_Md_one_152 k144 a n) ih x1 x2 x3
      · refine r_aload_n (q := 177) (i := 0) (pl := 1) C d_Md_one_176 rfl rfl rfl ?_
        refine r_gR (q := 180) C d_Md_one_177 rfl F_Md_126 rfl (fun v16 => ?_)
        refine r_iload (q := 182) (i := 4) (pl := 0) C d_Md_one_180 rfl rfl ?_
        refine r_aI (q := 183) C (Or.inr rfl) d_Md_one_182 rfl (fun v17 => ?_)
        refine r_aload_n (q := 184) (i := 0) (pl := 1) C d_Md_one_183 rfl rfl rfl ?_
        refine r_gI (q := 187) C d_Md_one_184 rfl F_Md_256 rfl (fun v18 => ?_)
        refine r_icmp_eq (tgt := 193) (q := 190) C d_Md_one_187 (by decide) rfl ?_ ?_
        · refine r_aload_n (q := 194) (i := 0) (pl := 1) C d_Md_one_193 rfl rfl rfl ?_
          refine r_aload_n (q := 195) (i := 0) (pl := 1) C d_Md_one_194 rfl rfl rfl ?_
          refine r_aload_n (q := 196) (i := 0) (pl := 1) C d_Md_one_195 rfl rfl rfl ?_
          refine r_gR (q := 199) C d_Md_one_196 rfl F_Md_117 rfl (fun v19 => ?_)
          refine r_iload (q := 201) (i := 4) (pl := 0) C d_Md_one_199 rfl rfl ?_
          refine r_aI (q := 202) C (Or.inr rfl) d_Md_one_201 rfl (fun v20 => ?_)
          refine r_iload_n (q := 203) (i := 1) (pl := 2) C d_Md_one_202 rfl rfl rfl ?_
          refine r_cvI (q := 206) (As := [vI v20, vI x1]) (st := [vA (some a)]) (cy := 11) C d_Md_one_203 rfl Y_Md_endAt L_Md_216 I_Md_endAt Se_Md_endAt rfl (by decide) rfl (Nat.le_of_ble_eq_true rfl) (Nat.le_of_ble_eq_true rfl) (Nat.le_of_ble_eq_true rfl) rfl (fun a21 => con_Md_endAt a21 v20 x1) (fun v22 => ?_)
          refine r_iconst (q := 207) (v := 3) C d_Md_one_206 rfl (by decide) ?_
          refine r_iload_n (q := 208) (i := 1) (pl := 2) C d_Md_one_207 rfl rfl rfl ?_
          refine r_iload_n (q := 209) (i := 2) (pl := 3) C d_Md_one_208 rfl rfl rfl ?_
          refine r_iload_n (q := 210) (i := 3) (pl := 4) C d_Md_one_209 rfl rfl rfl ?_
          refine r_iload_n (q := 211) (i := 3) (pl := 4) C d_Md_one_210 rfl rfl rfl ?_
          refine r_aload_n (q := 212) (i := 0) (pl := 1) C d_Md_one_211 rfl rfl rfl ?_
          refine r_gR (q := 215) C d_Md_one_212 rfl F_Md_129 rfl (fun v23 => ?_)
          refine r_iload (q := 217) (i := 4) (pl := 0) C d_Md_one_215 rfl rfl ?_
          refine r_aI (q := 218) C (Or.inr rfl) d_Md_one_217 rfl (fun v24 => ?_)
          refine r_csJ (q := 221) (As := [vI (3 : Int32), vI x1, vI x2, vI x3, vI x3, vI v24]) (st := [vI v22, vA (some a)]) C d_Md_one_218 rfl Y_Md_message L_Md_248 St_Md_message rfl (Nat.le_of_ble_eq_true rfl) (Nat.le_of_ble_eq_true rfl) (Nat.le_of_ble_eq_true rfl) rfl (con_Md_message (3 : Int32) x1 x2 x3 x3 v24) (fun v25 => ?_)
          refine r_cvV (q := 224) (As := [vI v22, vJ v25]) (st := []) (cy := 11) C d_Md_one_221 rfl Y_Md_waitAt L_Md_222 I_Md_waitAt Se_Md_waitAt rfl (by decide) rfl (Nat.le_of_ble_eq_true rfl) (Nat.le_of_ble_eq_true rfl) (Nat.le_of_ble_eq_true rfl) rfl (fun a26 => con_Md_waitAt a26 v22 v25) ?_
          refine r_aload_n (q := 225) (i := 0) (pl := 1) C d_Md_one_224 rfl rfl rfl ?_
          refine r_gR (q := 228) C d_Md_one_225 rfl F_Md_126 rfl (fun v28 => ?_)
          refine r_iload (q := 230) (i := 4) (pl := 0) C d_Md_one_228 rfl rfl ?_
          refine r_aload_n (q := 231) (i := 0) (pl := 1) C d_Md_one_230 rfl rfl rfl ?_
          refine r_gI (q := 234) C d_Md_one_231 rfl F_Md_256 rfl (fun v29 => ?_)
          refine r_bipush (q := 236) (v := 20) C d_Md_one_234 rfl (by decide) ?_
          refine r_iadd (q := 237) C d_Md_one_236 rfl ?_
          refine r_bI (q := 238) C (Or.inr rfl) d_Md_one_237 rfl ?_
          refine r_sub (lv' := [(0, vA (some a)), (1, vI x1), (2, vI x2), (3, vI x3)]) [1, 2, 3, 4] rfl ?_
          exact s_Md_one_238 C a (f_Md_one_152 k144 a n) ih x1 x2 x3
        · refine r_goto (tgt := 238) C d_Md_one_190 (by decide) ?_
          refine r_sub (lv' := [(0, vA (some a)), (1, vI x1), (2, vI x2), (3, vI x3)]) [1, 2, 3, 4] rfl ?_
          exact s_Md_one_238 C a (f_Md_one_152 k144 a n) ih x1 x2 x3
def f_Md_one_144 (k58 : Int32 → sn_M) (a : Nat) : Nat → Int32 → Int32 → sn_M
  | 0, _, _ => r_0
  | n + 1, x1, x2 => (if (6 : Int32) ≤ x2 then k58 (x1 + (1 : Int32)) else f_Md_one_152 (f_Md_one_144 k58 a n) a sn_fuel x1 x2 (0 : Int32))
set_option maxHeartbeats 4000000 in
set_option maxRecDepth 100000 in
theorem mono_Md_one_144 (k58 : Int32 → sn_M) (mk58 : ∀ (x1 : Int32), sn_Mono (k58 x1)) (a : Nat) : ∀ (n : Nat) (x1 : Int32) (x2 : Int32), sn_Mono (f_Md_one_144 k58 a n x1 x2)
  | 0, _, _ => sn_Mono.r0
  | n + 1, x1, x2 => sn_Mono.ite (mk58 (x1 + (1 : Int32))) (mono_Md_one_152 (f_Md_one_144 k58 a n) (mono_Md_one_144 k58 mk58 a n) a sn_fuel x1 x2 (0 : Int32))
set_option maxHeartbeats 4000000 in
set_option maxRecDepth 100000 in
theorem s_Md_one_144 {X : sn_X} (C : sn_Cx X c_Md_one "SignalNetworkModel" none "one" 5 14 348) (a : Nat) (k58 : Int32 → sn_M) (hk58 : ∀ (x1 : Int32), sn_S X 58 [(0, vA (some a)), (1, vI x1)] [] (k58 x1)) (n : Nat) : ∀ (x1 : Int32) (x2 : Int32), sn_S X 144 [(0, vA (some a)), (1, vI x1), (2, vI x2)] [] (f_Md_one_144 k58 a n x1 x2) := by
  induction n with
  | zero => intro x1 x2; exact sn_S.zero
  | succ n ih =>
    intro x1 x2
    unfold f_Md_one_144
    refine r_iload_n (q := 145) (i := 2) (pl := 2) C d_Md_one_144 rfl rfl rfl ?_
    refine r_bipush (q := 147) (v := 6) C d_Md_one_145 rfl (by decide) ?_
    refine r_icmp_ge (tgt := 250) (q := 150) C d_Md_one_147 (by decide) rfl ?_ ?_
    · refine r_iinc (q := 253) (pl := 1) (v := x1 + (1 : Int32)) (lv' := [(1, vI (x1 + (1 : Int32))), (0, vA (some a)), (2, vI x2)]) C d_Md_one_250 rfl rfl rfl (by decide) rfl ?_
      refine r_goto (tgt := 58) C d_Md_one_253 (by decide) ?_
      refine r_sub (lv' := [(0, vA (some a)), (1, vI (x1 + (1 : Int32)))]) [1, 0] rfl ?_
      exact hk58 (x1 + (1 : Int32))
    · refine r_iconst (q := 151) (v := 0) C d_Md_one_150 rfl (by decide) ?_
      refine r_istore_n (q := 152) (i := 3) (lv' := [(3, vI (0 : Int32)), (0, vA (some a)), (1, vI x1), (2, vI x2)]) C d_Md_one_151 rfl rfl (by decide) rfl ?_
      refine r_sub (lv' := [(0, vA (some a)), (1, vI x1), (2, vI x2), (3, vI (0 : Int32))]) [1, 2, 3, 0] rfl ?_
      exact s_Md_one_152 C a (f_Md_one_144 k58 a n) ih sn_fuel x1 x2 (0 : Int32)
def f_Md_one_66 (k58 : Int32 → sn_M) (a : Nat) : Nat → Int32 → Int32 → sn_M
  | 0, _, _ => r_0
  | n + 1, x1, x2 => g_I 12 4 (some a) fun v30 => (if v30 ≤ x2 then f_Md_one_144 k58 a sn_fuel x1 (0 : Int32) else g_R 12 0 (some a) fun v31 => a_I 31 v31 x2 fun v32 => (if v32 = x1 then f_Md_one_97 (f_Md_one_66 k58 a n) a x1 x2 else g_R 12 1 (some a) fun v33 => a_I 31 v33 x2 fun v34 => (if v34 = x1 then f_Md_one_97 (f_Md_one_66 k58 a n) a x1 x2 else f_Md_one_136 (f_Md_one_66 k58 a n) a x1 x2)))
set_option maxHeartbeats 4000000 in
set_option maxRecDepth 100000 in
theorem mono_Md_one_66 (k58 : Int32 → sn_M) (mk58 : ∀ (x1 : Int32), sn_Mono (k58 x1)) (a : Nat) : ∀ (n : Nat) (x1 : Int32) (x2 : Int32), sn_Mono (f_Md_one_66 k58 a n x1 x2)
  | 0, _, _ => sn_Mono.r0
  | n + 1, x1, x2 => sn_Mono.gI (fun v30 => sn_Mono.ite (mono_Md_one_144 k58 mk58 a sn_fuel x1 (0 : Int32)) (sn_Mono.gR (fun v31 => sn_Mono.aI (fun v32 => sn_Mono.ite (mono_Md_one_97 (f_Md_one_66 k58 a n) (mono_Md_one_66 k58 mk58 a n) a x1 x2) (sn_Mono.gR (fun v33 => sn_Mono.aI (fun v34 => sn_Mono.ite (mono_Md_one_97 (f_Md_one_66 k58 a n) (mono_Md_one_66 k58 mk58 a n) a x1 x2) (mono_Md_one_136 (f_Md_one_66 k58 a n) (mono_Md_one_66 k58 mk58 a n) a x1 x2))))))))
set_option maxHeartbeats 4000000 in
set_option maxRecDepth 100000 in
theorem s_Md_one_66 {X : sn_X} (C : sn_Cx X c_Md_one "SignalNetworkModel" none "one" 5 14 348) (a : Nat) (k58 : Int32 → sn_M) (hk58 : ∀ (x1 : Int32), sn_S X 58 [(0, vA (some a)), (1, vI x1)] [] (k58 x1)) (n : Nat) : ∀ (x1 : Int32) (x2 : Int32), sn_S X 66 [(0, vA (some a)), (1, vI x1), (2, vI x2)] [] (f_Md_one_66 k58 a n x1 x2) := by
  induction n with
  | zero => intro x1 x2; exact sn_S.zero
  | succ n ih =>
    intro x1 x2
    unfold f_Md_one_66
    refine r_iload_n (q := 67) (i := 2) (pl := 2) C d_Md_one_66 rfl rfl rfl ?_
    refine r_aload_n (q := 68) (i := 0) (pl := 0) C d_Md_one_67 rfl rfl rfl ?_
    refine r_gI (q := 71) C d_Md_one_68 rfl F_Md_196 rfl (fun v30 => ?_)
    refine r_icmp_ge (tgt := 142) (q := 74) C d_Md_one_71 (by decide) rfl ?_ ?_
    · refine r_iconst (q := 143) (v := 0) C d_Md_one_142 rfl (by decide) ?_
      refine r_istore_n (q := 144) (i := 2) (lv' := [(2, vI (0 : Int32)), (0, vA (some a)), (1, vI x1)]) C d_Md_one_143 rfl rfl (by decide) rfl ?_
      refine r_sub (lv' := [(0, vA (some a)), (1, vI x1), (2, vI (0 : Int32))]) [1, 2, 0] rfl ?_
      exact s_Md_one_144 C a k58 hk58 sn_fuel x1 (0 : Int32)
    · refine r_aload_n (q := 75) (i := 0) (pl := 0) C d_Md_one_74 rfl rfl rfl ?_
      refine r_gR (q := 78) C d_Md_one_75 rfl F_Md_7 rfl (fun v31 => ?_)
      refine r_iload_n (q := 79) (i := 2) (pl := 2) C d_Md_one_78 rfl rfl rfl ?_
      refine r_aI (q := 80) C (Or.inr rfl) d_Md_one_79 rfl (fun v32 => ?_)
      refine r_iload_n (q := 81) (i := 1) (pl := 1) C d_Md_one_80 rfl rfl rfl ?_
      refine r_icmp_eq (tgt := 97) (q := 84) C d_Md_one_81 (by decide) rfl ?_ ?_
      · exact s_Md_one_97 C a (f_Md_one_66 k58 a n) ih x1 x2
      · refine r_aload_n (q := 85) (i := 0) (pl := 0) C d_Md_one_84 rfl rfl rfl ?_
        refine r_gR (q := 88) C d_Md_one_85 rfl F_Md_13 rfl (fun v33 => ?_)
        refine r_iload_n (q := 89) (i := 2) (pl := 2) C d_Md_one_88 rfl rfl rfl ?_
        refine r_aI (q := 90) C (Or.inr rfl) d_Md_one_89 rfl (fun v34 => ?_)
        refine r_iload_n (q := 91) (i := 1) (pl := 1) C d_Md_one_90 rfl rfl rfl ?_
        refine r_icmp_eq (tgt := 97) (q := 94) C d_Md_one_91 (by decide) rfl ?_ ?_
        · exact s_Md_one_97 C a (f_Md_one_66 k58 a n) ih x1 x2
        · refine r_goto (tgt := 136) C d_Md_one_94 (by decide) ?_
          exact s_Md_one_136 C a (f_Md_one_66 k58 a n) ih x1 x2
def f_Md_one_278 (a : Nat) : Nat → Int32 → sn_M
  | 0, _ => r_0
  | n + 1, x1 => g_I 12 4 (some a) fun v35 => (if ((2 : Int32) * v35) ≤ x1 then g_I 12 5 (some a) fun v36 => p_I 12 5 (some a) (v36 + (1 : Int32)) (r_V) else n_n 12 (some a) fun a37 => c_V (f_Md_send a37 x1) (f_Md_one_278 a n (x1 + (1 : Int32))))
set_option maxHeartbeats 4000000 in
set_option maxRecDepth 100000 in
theorem mono_Md_one_278 (a : Nat) : ∀ (n : Nat) (x1 : Int32), sn_Mono (f_Md_one_278 a n x1)
  | 0, _ => sn_Mono.r0
  | n + 1, x1 => sn_Mono.gI (fun v35 => sn_Mono.ite (sn_Mono.gI (fun v36 => sn_Mono.pI (sn_Mono.rV))) (sn_Mono.nn (fun a37 => sn_Mono.cV (mono_Md_send a37 x1) (mono_Md_one_278 a n (x1 + (1 : Int32))))))
set_option maxHeartbeats 4000000 in
set_option maxRecDepth 100000 in
theorem s_Md_one_278 {X : sn_X} (C : sn_Cx X c_Md_one "SignalNetworkModel" none "one" 5 14 348) (a : Nat) (n : Nat) : ∀ (x1 : Int32), sn_S X 278 [(0, vA (some a)), (1, vI x1)] [] (f_Md_one_278 a n x1) := by
  induction n with
  | zero => intro x1; exact sn_S.zero
  | succ n ih =>
    intro x1
    unfold f_Md_one_278
    refine r_iload_n (q := 279) (i := 1) (pl := 1) C d_Md_one_278 rfl rfl rfl ?_
    refine r_iconst (q := 280) (v := 2) C d_Md_one_279 rfl (by decide) ?_
    refine r_aload_n (q := 281) (i := 0) (pl := 0) C d_Md_one_280 rfl rfl rfl ?_
    refine r_gI (q := 284) C d_Md_one_281 rfl F_Md_196 rfl (fun v35 => ?_)
    refine r_imul (q := 285) C d_Md_one_284 rfl ?_
    refine r_icmp_ge (tgt := 299) (q := 288) C d_Md_one_285 (by decide) rfl ?_ ?_
    · refine r_aload_n (q := 300) (i := 0) (pl := 0) C d_Md_one_299 rfl rfl rfl ?_
      refine r_dup (q := 301) C d_Md_one_300 rfl rfl ?_
      refine r_gI (q := 304) C d_Md_one_301 rfl F_Md_397 rfl (fun v36 => ?_)
      refine r_iconst (q := 305) (v := 1) C d_Md_one_304 rfl (by decide) ?_
      refine r_iadd (q := 306) C d_Md_one_305 rfl ?_
      refine r_pI (q := 309) C d_Md_one_306 rfl F_Md_397 rfl rfl (Or.inl rfl) ?_
      exact r_vret C d_Md_one_309 rfl
    · refine r_aload_n (q := 289) (i := 0) (pl := 0) C d_Md_one_288 rfl rfl rfl ?_
      refine r_iload_n (q := 290) (i := 1) (pl := 1) C d_Md_one_289 rfl rfl rfl ?_
      refine r_cvV (q := 293) (As := [vI x1]) (st := []) (cy := 11) C d_Md_one_290 rfl Y_Md_send L_Md_394 I_Md_send Se_Md_send rfl (by decide) rfl (Nat.le_of_ble_eq_true rfl) (Nat.le_of_ble_eq_true rfl) (Nat.le_of_ble_eq_true rfl) rfl (fun a37 => con_Md_send a37 x1) ?_
      refine r_iinc (q := 296) (pl := 1) (v := x1 + (1 : Int32)) (lv' := [(1, vI (x1 + (1 : Int32))), (0, vA (some a))]) C d_Md_one_293 rfl rfl rfl (by decide) rfl ?_
      refine r_goto (tgt := 278) C d_Md_one_296 (by decide) ?_
      refine r_sub (lv' := [(0, vA (some a)), (1, vI (x1 + (1 : Int32)))]) [1, 0] rfl ?_
      exact ih (x1 + (1 : Int32))
def f_Md_one_258 (a : Nat) : Nat → Int32 → sn_M
  | 0, _ => r_0
  | n + 1, x1 => (if (144 : Int32) ≤ x1 then f_Md_one_278 a sn_fuel (0 : Int32) else n_n 12 (some a) fun a39 => c_V (f_Md_lineTimer a39 x1) (f_Md_one_258 a n (x1 + (1 : Int32))))
set_option maxHeartbeats 4000000 in
set_option maxRecDepth 100000 in
theorem mono_Md_one_258 (a : Nat) : ∀ (n : Nat) (x1 : Int32), sn_Mono (f_Md_one_258 a n x1)
  | 0, _ => sn_Mono.r0
  | n + 1, x1 => sn_Mono.ite (mono_Md_one_278 a sn_fuel (0 : Int32)) (sn_Mono.nn (fun a39 => sn_Mono.cV (mono_Md_lineTimer a39 x1) (mono_Md_one_258 a n (x1 + (1 : Int32)))))
set_option maxHeartbeats 4000000 in
set_option maxRecDepth 100000 in
theorem s_Md_one_258 {X : sn_X} (C : sn_Cx X c_Md_one "SignalNetworkModel" none "one" 5 14 348) (a : Nat) (n : Nat) : ∀ (x1 : Int32), sn_S X 258 [(0, vA (some a)), (1, vI x1)] [] (f_Md_one_258 a n x1) := by
  induction n with
  | zero => intro x1; exact sn_S.zero
  | succ n ih =>
    intro x1
    unfold f_Md_one_258
    refine r_iload_n (q := 259) (i := 1) (pl := 1) C d_Md_one_258 rfl rfl rfl ?_
    refine r_sipush (q := 262) (v := 144) C d_Md_one_259 rfl (by decide) ?_
    refine r_icmp_ge (tgt := 276) (q := 265) C d_Md_one_262 (by decide) rfl ?_ ?_
    · refine r_iconst (q := 277) (v := 0) C d_Md_one_276 rfl (by decide) ?_
      refine r_istore_n (q := 278) (i := 1) (lv' := [(1, vI (0 : Int32)), (0, vA (some a))]) C d_Md_one_277 rfl rfl (by decide) rfl ?_
      refine r_sub (lv' := [(0, vA (some a)), (1, vI (0 : Int32))]) [1, 0] rfl ?_
      exact s_Md_one_278 C a sn_fuel (0 : Int32)
    · refine r_aload_n (q := 266) (i := 0) (pl := 0) C d_Md_one_265 rfl rfl rfl ?_
      refine r_iload_n (q := 267) (i := 1) (pl := 1) C d_Md_one_266 rfl rfl rfl ?_
      refine r_cvV (q := 270) (As := [vI x1]) (st := []) (cy := 11) C d_Md_one_267 rfl Y_Md_lineTimer L_Md_391 I_Md_lineTimer Se_Md_lineTimer rfl (by decide) rfl (Nat.le_of_ble_eq_true rfl) (Nat.le_of_ble_eq_true rfl) (Nat.le_of_ble_eq_true rfl) rfl (fun a39 => con_Md_lineTimer a39 x1) ?_
      refine r_iinc (q := 273) (pl := 1) (v := x1 + (1 : Int32)) (lv' := [(1, vI (x1 + (1 : Int32))), (0, vA (some a))]) C d_Md_one_270 rfl rfl rfl (by decide) rfl ?_
      refine r_goto (tgt := 258) C d_Md_one_273 (by decide) ?_
      refine r_sub (lv' := [(0, vA (some a)), (1, vI (x1 + (1 : Int32)))]) [1, 0] rfl ?_
      exact ih (x1 + (1 : Int32))
def f_Md_one_58 (a : Nat) : Nat → Int32 → sn_M
  | 0, _ => r_0
  | n + 1, x1 => (if (6 : Int32) ≤ x1 then f_Md_one_258 a sn_fuel (0 : Int32) else f_Md_one_66 (f_Md_one_58 a n) a sn_fuel x1 (0 : Int32))
set_option maxHeartbeats 4000000 in
set_option maxRecDepth 100000 in
theorem mono_Md_one_58 (a : Nat) : ∀ (n : Nat) (x1 : Int32), sn_Mono (f_Md_one_58 a n x1)
  | 0, _ => sn_Mono.r0
  | n + 1, x1 => sn_Mono.ite (mono_Md_one_258 a sn_fuel (0 : Int32)) (mono_Md_one_66 (f_Md_one_58 a n) (mono_Md_one_58 a n) a sn_fuel x1 (0 : Int32))
set_option maxHeartbeats 4000000 in
set_option maxRecDepth 100000 in
theorem s_Md_one_58 {X : sn_X} (C : sn_Cx X c_Md_one "SignalNetworkModel" none "one" 5 14 348) (a : Nat) (n : Nat) : ∀ (x1 : Int32), sn_S X 58 [(0, vA (some a)), (1, vI x1)] [] (f_Md_one_58 a n x1) := by
  induction n with
  | zero => intro x1; exact sn_S.zero
  | succ n ih =>
    intro x1
    unfold f_Md_one_58
    refine r_iload_n (q := 59) (i := 1) (pl := 1) C d_Md_one_58 rfl rfl rfl ?_
    refine r_bipush (q := 61) (v := 6) C d_Md_one_59 rfl (by decide) ?_
    refine r_icmp_ge (tgt := 256) (q := 64) C d_Md_one_61 (by decide) rfl ?_ ?_
    · refine r_iconst (q := 257) (v := 0) C d_Md_one_256 rfl (by decide) ?_
      refine r_istore_n (q := 258) (i := 1) (lv' := [(1, vI (0 : Int32)), (0, vA (some a))]) C d_Md_one_257 rfl rfl (by decide) rfl ?_
      refine r_sub (lv' := [(0, vA (some a)), (1, vI (0 : Int32))]) [1, 0] rfl ?_
      exact s_Md_one_258 C a sn_fuel (0 : Int32)
    · refine r_iconst (q := 65) (v := 0) C d_Md_one_64 rfl (by decide) ?_
      refine r_istore_n (q := 66) (i := 2) (lv' := [(2, vI (0 : Int32)), (0, vA (some a)), (1, vI x1)]) C d_Md_one_65 rfl rfl (by decide) rfl ?_
      refine r_sub (lv' := [(0, vA (some a)), (1, vI x1), (2, vI (0 : Int32))]) [1, 2, 0] rfl ?_
      exact s_Md_one_66 C a (f_Md_one_58 a n) ih sn_fuel x1 (0 : Int32)
def f_Md_one_35 (a : Nat) : Nat → Int32 → sn_M
  | 0, _ => r_0
  | n + 1, x1 => g_I 12 4 (some a) fun v41 => (if ((2 : Int32) * v41) ≤ x1 then f_Md_one_58 a sn_fuel (0 : Int32) else n_n 12 (some a) fun a42 => c_V (f_Md_timer a42 x1) (f_Md_one_35 a n (x1 + (1 : Int32))))
set_option maxHeartbeats 4000000 in
set_option maxRecDepth 100000 in
theorem mono_Md_one_35 (a : Nat) : ∀ (n : Nat) (x1 : Int32), sn_Mono (f_Md_one_35 a n x1)
  | 0, _ => sn_Mono.r0
  | n + 1, x1 => sn_Mono.gI (fun v41 => sn_Mono.ite (mono_Md_one_58 a sn_fuel (0 : Int32)) (sn_Mono.nn (fun a42 => sn_Mono.cV (mono_Md_timer a42 x1) (mono_Md_one_35 a n (x1 + (1 : Int32))))))
set_option maxHeartbeats 4000000 in
set_option maxRecDepth 100000 in
theorem s_Md_one_35 {X : sn_X} (C : sn_Cx X c_Md_one "SignalNetworkModel" none "one" 5 14 348) (a : Nat) (n : Nat) : ∀ (x1 : Int32), sn_S X 35 [(0, vA (some a)), (1, vI x1)] [] (f_Md_one_35 a n x1) := by
  induction n with
  | zero => intro x1; exact sn_S.zero
  | succ n ih =>
    intro x1
    unfold f_Md_one_35
    refine r_iload_n (q := 36) (i := 1) (pl := 1) C d_Md_one_35 rfl rfl rfl ?_
    refine r_iconst (q := 37) (v := 2) C d_Md_one_36 rfl (by decide) ?_
    refine r_aload_n (q := 38) (i := 0) (pl := 0) C d_Md_one_37 rfl rfl rfl ?_
    refine r_gI (q := 41) C d_Md_one_38 rfl F_Md_196 rfl (fun v41 => ?_)
    refine r_imul (q := 42) C d_Md_one_41 rfl ?_
    refine r_icmp_ge (tgt := 56) (q := 45) C d_Md_one_42 (by decide) rfl ?_ ?_
    · refine r_iconst (q := 57) (v := 0) C d_Md_one_56 rfl (by decide) ?_
      refine r_istore_n (q := 58) (i := 1) (lv' := [(1, vI (0 : Int32)), (0, vA (some a))]) C d_Md_one_57 rfl rfl (by decide) rfl ?_
      refine r_sub (lv' := [(0, vA (some a)), (1, vI (0 : Int32))]) [1, 0] rfl ?_
      exact s_Md_one_58 C a sn_fuel (0 : Int32)
    · refine r_aload_n (q := 46) (i := 0) (pl := 0) C d_Md_one_45 rfl rfl rfl ?_
      refine r_iload_n (q := 47) (i := 1) (pl := 1) C d_Md_one_46 rfl rfl rfl ?_
      refine r_cvV (q := 50) (As := [vI x1]) (st := []) (cy := 11) C d_Md_one_47 rfl Y_Md_timer L_Md_388 I_Md_timer Se_Md_timer rfl (by decide) rfl (Nat.le_of_ble_eq_true rfl) (Nat.le_of_ble_eq_true rfl) (Nat.le_of_ble_eq_true rfl) rfl (fun a42 => con_Md_timer a42 x1) ?_
      refine r_iinc (q := 53) (pl := 1) (v := x1 + (1 : Int32)) (lv' := [(1, vI (x1 + (1 : Int32))), (0, vA (some a))]) C d_Md_one_50 rfl rfl rfl (by decide) rfl ?_
      refine r_goto (tgt := 35) C d_Md_one_53 (by decide) ?_
      refine r_sub (lv' := [(0, vA (some a)), (1, vI (x1 + (1 : Int32)))]) [1, 0] rfl ?_
      exact ih (x1 + (1 : Int32))
def f_Md_one_2 (a : Nat) : Nat → Int32 → sn_M
  | 0, _ => r_0
  | n + 1, x1 => g_I 12 4 (some a) fun v44 => (if ((2 : Int32) * v44) ≤ x1 then g_I 12 6 (some a) fun v45 => p_I 12 6 (some a) (v45 + (1 : Int32)) (f_Md_one_35 a sn_fuel (0 : Int32)) else n_n 12 (some a) fun a46 => c_V (f_Md_arrive a46 x1) (f_Md_one_2 a n (x1 + (1 : Int32))))
set_option maxHeartbeats 4000000 in
set_option maxRecDepth 100000 in
theorem mono_Md_one_2 (a : Nat) : ∀ (n : Nat) (x1 : Int32), sn_Mono (f_Md_one_2 a n x1)
  | 0, _ => sn_Mono.r0
  | n + 1, x1 => sn_Mono.gI (fun v44 => sn_Mono.ite (sn_Mono.gI (fun v45 => sn_Mono.pI (mono_Md_one_35 a sn_fuel (0 : Int32)))) (sn_Mono.nn (fun a46 => sn_Mono.cV (mono_Md_arrive a46 x1) (mono_Md_one_2 a n (x1 + (1 : Int32))))))
set_option maxHeartbeats 4000000 in
set_option maxRecDepth 100000 in
theorem s_Md_one_2 {X : sn_X} (C : sn_Cx X c_Md_one "SignalNetworkModel" none "one" 5 14 348) (a : Nat) (n : Nat) : ∀ (x1 : Int32), sn_S X 2 [(0, vA (some a)), (1, vI x1)] [] (f_Md_one_2 a n x1) := by
  induction n with
  | zero => intro x1; exact sn_S.zero
  | succ n ih =>
    intro x1
    unfold f_Md_one_2
    refine r_iload_n (q := 3) (i := 1) (pl := 1) C d_Md_one_2 rfl rfl rfl ?_
    refine r_iconst (q := 4) (v := 2) C d_Md_one_3 rfl (by decide) ?_
    refine r_aload_n (q := 5) (i := 0) (pl := 0) C d_Md_one_4 rfl rfl rfl ?_
    refine r_gI (q := 8) C d_Md_one_5 rfl F_Md_196 rfl (fun v44 => ?_)
    refine r_imul (q := 9) C d_Md_one_8 rfl ?_
    refine r_icmp_ge (tgt := 23) (q := 12) C d_Md_one_9 (by decide) rfl ?_ ?_
    · refine r_aload_n (q := 24) (i := 0) (pl := 0) C d_Md_one_23 rfl rfl rfl ?_
      refine r_dup (q := 25) C d_Md_one_24 rfl rfl ?_
      refine r_gI (q := 28) C d_Md_one_25 rfl F_Md_256 rfl (fun v45 => ?_)
      refine r_iconst (q := 29) (v := 1) C d_Md_one_28 rfl (by decide) ?_
      refine r_iadd (q := 30) C d_Md_one_29 rfl ?_
      refine r_pI (q := 33) C d_Md_one_30 rfl F_Md_256 rfl rfl (Or.inl rfl) ?_
      refine r_iconst (q := 34) (v := 0) C d_Md_one_33 rfl (by decide) ?_
      refine r_istore_n (q := 35) (i := 1) (lv' := [(1, vI (0 : Int32)), (0, vA (some a))]) C d_Md_one_34 rfl rfl (by decide) rfl ?_
      refine r_sub (lv' := [(0, vA (some a)), (1, vI (0 : Int32))]) [1, 0] rfl ?_
      exact s_Md_one_35 C a sn_fuel (0 : Int32)
    · refine r_aload_n (q := 13) (i := 0) (pl := 0) C d_Md_one_12 rfl rfl rfl ?_
      refine r_iload_n (q := 14) (i := 1) (pl := 1) C d_Md_one_13 rfl rfl rfl ?_
      refine r_cvV (q := 17) (As := [vI x1]) (st := []) (cy := 11) C d_Md_one_14 rfl Y_Md_arrive L_Md_385 I_Md_arrive Se_Md_arrive rfl (by decide) rfl (Nat.le_of_ble_eq_true rfl) (Nat.le_of_ble_eq_true rfl) (Nat.le_of_ble_eq_true rfl) rfl (fun a46 => con_Md_arrive a46 x1) ?_
      refine r_iinc (q := 20) (pl := 1) (v := x1 + (1 : Int32)) (lv' := [(1, vI (x1 + (1 : Int32))), (0, vA (some a))]) C d_Md_one_17 rfl rfl rfl (by decide) rfl ?_
      refine r_goto (tgt := 2) C d_Md_one_20 (by decide) ?_
      refine r_sub (lv' := [(0, vA (some a)), (1, vI (x1 + (1 : Int32)))]) [1, 0] rfl ?_
      exact ih (x1 + (1 : Int32))
def f_Md_one (a : Nat) : sn_M := f_Md_one_2 a sn_fuel (0 : Int32)
set_option maxHeartbeats 4000000 in
set_option maxRecDepth 100000 in
theorem mono_Md_one (a : Nat) : sn_Mono (f_Md_one a) := mono_Md_one_2 a sn_fuel (0 : Int32)
set_option maxHeartbeats 4000000 in
set_option maxRecDepth 100000 in
theorem con_Md_one (a : Nat) : sn_Con y_Md_one c_Md_one 5 none 14 348 [vA (some a)] (f_Md_one a) := by
  refine sn_Con.of (by decide +kernel) (by show _ ≤ _; exact Nat.le_of_ble_eq_true rfl) (mono_Md_one a) (fun X C => ?_)
  show sn_S X 0 [(0, vA (some a))] [] _
  replace C : sn_Cx X c_Md_one "SignalNetworkModel" none "one" 5 14 348 := C
  unfold f_Md_one
  refine r_iconst (q := 1) (v := 0) C d_Md_one_0 rfl (by decide) ?_
  refine r_istore_n (q := 2) (i := 1) (lv' := [(1, vI (0 : Int32)), (0, vA (some a))]) C d_Md_one_1 rfl rfl (by decide) rfl ?_
  refine r_sub (lv' := [(0, vA (some a)), (1, vI (0 : Int32))]) [1, 0] rfl ?_
  exact s_Md_one_2 C a sn_fuel (0 : Int32)
theorem d_Md_link_0 : decode c_Md_link 0 = .ok (.iload_n 1, 1) := by decide +kernel
theorem d_Md_link_1 : decode c_Md_link 1 = .ok (.invokestatic 204, 3) := by decide +kernel
theorem d_Md_link_4 : decode c_Md_link 4 = .ok (.ifCond .eq 34, 3) := by decide +kernel
theorem d_Md_link_7 : decode c_Md_link 7 = .ok (.iload_n 2, 1) := by decide +kernel
theorem d_Md_link_8 : decode c_Md_link 8 = .ok (.invokestatic 204, 3) := by decide +kernel
theorem d_Md_link_11 : decode c_Md_link 11 = .ok (.ifCond .eq 27, 3) := by decide +kernel
theorem d_Md_link_14 : decode c_Md_link 14 = .ok (.iload_n 1, 1) := by decide +kernel
theorem d_Md_link_15 : decode c_Md_link 15 = .ok (.iload_n 2, 1) := by decide +kernel
theorem d_Md_link_16 : decode c_Md_link 16 = .ok (.if_icmp .eq 22, 3) := by decide +kernel
theorem d_Md_link_19 : decode c_Md_link 19 = .ok (.aload_n 0, 1) := by decide +kernel
theorem d_Md_link_20 : decode c_Md_link 20 = .ok (.getfield 196, 3) := by decide +kernel
theorem d_Md_link_23 : decode c_Md_link 23 = .ok (.bipush 10, 2) := by decide +kernel
theorem d_Md_link_25 : decode c_Md_link 25 = .ok (.if_icmp .eq 13, 3) := by decide +kernel
theorem d_Md_link_28 : decode c_Md_link 28 = .ok (.aload_n 0, 1) := by decide +kernel
theorem d_Md_link_29 : decode c_Md_link 29 = .ok (.iload_n 1, 1) := by decide +kernel
theorem d_Md_link_30 : decode c_Md_link 30 = .ok (.iload_n 2, 1) := by decide +kernel
theorem d_Md_link_31 : decode c_Md_link 31 = .ok (.invokevirtual 208, 3) := by decide +kernel
theorem d_Md_link_34 : decode c_Md_link 34 = .ok (.iconst 4, 1) := by decide +kernel
theorem d_Md_link_35 : decode c_Md_link 35 = .ok (.if_icmp .ne 5, 3) := by decide +kernel
theorem d_Md_link_38 : decode c_Md_link 38 = .ok (.iconst (-1), 1) := by decide +kernel
theorem d_Md_link_39 : decode c_Md_link 39 = .ok (.ireturn, 1) := by decide +kernel
theorem d_Md_link_40 : decode c_Md_link 40 = .ok (.aload_n 0, 1) := by decide +kernel
theorem d_Md_link_41 : decode c_Md_link 41 = .ok (.getfield 7, 3) := by decide +kernel
theorem d_Md_link_44 : decode c_Md_link 44 = .ok (.aload_n 0, 1) := by decide +kernel
theorem d_Md_link_45 : decode c_Md_link 45 = .ok (.getfield 196, 3) := by decide +kernel
theorem d_Md_link_48 : decode c_Md_link 48 = .ok (.iload_n 1, 1) := by decide +kernel
theorem d_Md_link_49 : decode c_Md_link 49 = .ok (.iload_n 2, 1) := by decide +kernel
theorem d_Md_link_50 : decode c_Md_link 50 = .ok (.if_icmp .ge 7, 3) := by decide +kernel
theorem d_Md_link_53 : decode c_Md_link 53 = .ok (.iload_n 1, 1) := by decide +kernel
theorem d_Md_link_54 : decode c_Md_link 54 = .ok (.goto 4, 3) := by decide +kernel
theorem d_Md_link_57 : decode c_Md_link 57 = .ok (.iload_n 2, 1) := by decide +kernel
theorem d_Md_link_58 : decode c_Md_link 58 = .ok (.iastore, 1) := by decide +kernel
theorem d_Md_link_59 : decode c_Md_link 59 = .ok (.aload_n 0, 1) := by decide +kernel
theorem d_Md_link_60 : decode c_Md_link 60 = .ok (.getfield 13, 3) := by decide +kernel
theorem d_Md_link_63 : decode c_Md_link 63 = .ok (.aload_n 0, 1) := by decide +kernel
theorem d_Md_link_64 : decode c_Md_link 64 = .ok (.getfield 196, 3) := by decide +kernel
theorem d_Md_link_67 : decode c_Md_link 67 = .ok (.iload_n 1, 1) := by decide +kernel
theorem d_Md_link_68 : decode c_Md_link 68 = .ok (.iload_n 2, 1) := by decide +kernel
theorem d_Md_link_69 : decode c_Md_link 69 = .ok (.if_icmp .ge 7, 3) := by decide +kernel
theorem d_Md_link_72 : decode c_Md_link 72 = .ok (.iload_n 2, 1) := by decide +kernel
theorem d_Md_link_73 : decode c_Md_link 73 = .ok (.goto 4, 3) := by decide +kernel
theorem d_Md_link_76 : decode c_Md_link 76 = .ok (.iload_n 1, 1) := by decide +kernel
theorem d_Md_link_77 : decode c_Md_link 77 = .ok (.iastore, 1) := by decide +kernel
theorem d_Md_link_78 : decode c_Md_link 78 = .ok (.aload_n 0, 1) := by decide +kernel
theorem d_Md_link_79 : decode c_Md_link 79 = .ok (.dup, 1) := by decide +kernel
theorem d_Md_link_80 : decode c_Md_link 80 = .ok (.getfield 196, 3) := by decide +kernel
theorem d_Md_link_83 : decode c_Md_link 83 = .ok (.iconst 1, 1) := by decide +kernel
theorem d_Md_link_84 : decode c_Md_link 84 = .ok (.iadd, 1) := by decide +kernel
theorem d_Md_link_85 : decode c_Md_link 85 = .ok (.putfield 196, 3) := by decide +kernel
theorem d_Md_link_88 : decode c_Md_link 88 = .ok (.aload_n 0, 1) := by decide +kernel
theorem d_Md_link_89 : decode c_Md_link 89 = .ok (.getfield 196, 3) := by decide +kernel
theorem d_Md_link_92 : decode c_Md_link 92 = .ok (.iconst 1, 1) := by decide +kernel
theorem d_Md_link_93 : decode c_Md_link 93 = .ok (.isub, 1) := by decide +kernel
theorem d_Md_link_94 : decode c_Md_link 94 = .ok (.ireturn, 1) := by decide +kernel
def f_Md_link_38 (a : Nat) : sn_M := r_I (-1 : Int32)
set_option maxHeartbeats 4000000 in
set_option maxRecDepth 100000 in
theorem mono_Md_link_38 (a : Nat) : sn_Mono (f_Md_link_38 a) := sn_Mono.rI
set_option maxHeartbeats 4000000 in
set_option maxRecDepth 100000 in
theorem s_Md_link_38 {X : sn_X} (C : sn_Cx X c_Md_link "SignalNetworkModel" (some .int) "link" 3 2 47) (a : Nat) : sn_S X 38 [(0, vA (some a))] [] (f_Md_link_38 a) := by
  unfold f_Md_link_38
  refine r_iconst (q := 39) (v := -1) C d_Md_link_38 rfl (by decide) ?_
  exact r_iret C d_Md_link_39 rfl
def f_Md_link_77 (a : Nat) (t0 : Option Nat) (t1 : Int32) (t2 : Int32) : sn_M := b_I 31 t0 t1 t2 (g_I 12 4 (some a) fun v1 => p_I 12 4 (some a) (v1 + (1 : Int32)) (g_I 12 4 (some a) fun v2 => r_I (v2 - (1 : Int32))))
set_option maxHeartbeats 4000000 in
set_option maxRecDepth 100000 in
theorem mono_Md_link_77 (a : Nat) (t0 : Option Nat) (t1 : Int32) (t2 : Int32) : sn_Mono (f_Md_link_77 a t0 t1 t2) := sn_Mono.bI (sn_Mono.gI (fun v1 => sn_Mono.pI (sn_Mono.gI (fun v2 => sn_Mono.rI))))
set_option maxHeartbeats 4000000 in
set_option maxRecDepth 100000 in
theorem s_Md_link_77 {X : sn_X} (C : sn_Cx X c_Md_link "SignalNetworkModel" (some .int) "link" 3 2 47) (a : Nat) (t0 : Option Nat) (t1 : Int32) (t2 : Int32) : sn_S X 77 [(0, vA (some a))] [vI t2, vI t1, vA t0] (f_Md_link_77 a t0 t1 t2) := by
  unfold f_Md_link_77
  refine r_bI (q := 78) C (Or.inr rfl) d_Md_link_77 rfl ?_
  refine r_aload_n (q := 79) (i := 0) (pl := 0) C d_Md_link_78 rfl rfl rfl ?_
  refine r_dup (q := 80) C d_Md_link_79 rfl rfl ?_
  refine r_gI (q := 83) C d_Md_link_80 rfl F_Md_196 rfl (fun v1 => ?_)
  refine r_iconst (q := 84) (v := 1) C d_Md_link_83 rfl (by decide) ?_
  refine r_iadd (q := 85) C d_Md_link_84 rfl ?_
  refine r_pI (q := 88) C d_Md_link_85 rfl F_Md_196 rfl rfl (Or.inl rfl) ?_
  refine r_aload_n (q := 89) (i := 0) (pl := 0) C d_Md_link_88 rfl rfl rfl ?_
  refine r_gI (q := 92) C d_Md_link_89 rfl F_Md_196 rfl (fun v2 => ?_)
  refine r_iconst (q := 93) (v := 1) C d_Md_link_92 rfl (by decide) ?_
  refine r_isub (q := 94) C d_Md_link_93 rfl ?_
  exact r_iret C d_Md_link_94 rfl
def f_Md_link_58 (a : Nat) (x1 : Int32) (x2 : Int32) (t0 : Option Nat) (t1 : Int32) (t2 : Int32) : sn_M := b_I 31 t0 t1 t2 (g_R 12 1 (some a) fun v3 => g_I 12 4 (some a) fun v4 => (if x2 ≤ x1 then f_Md_link_77 a v3 v4 x1 else f_Md_link_77 a v3 v4 x2))
set_option maxHeartbeats 4000000 in
set_option maxRecDepth 100000 in
theorem mono_Md_link_58 (a : Nat) (x1 : Int32) (x2 : Int32) (t0 : Option Nat) (t1 : Int32) (t2 : Int32) : sn_Mono (f_Md_link_58 a x1 x2 t0 t1 t2) := sn_Mono.bI (sn_Mono.gR (fun v3 => sn_Mono.gI (fun v4 => sn_Mono.ite (mono_Md_link_77 a v3 v4 x1) (mono_Md_link_77 a v3 v4 x2))))
set_option maxHeartbeats 4000000 in
set_option maxRecDepth 100000 in
theorem s_Md_link_58 {X : sn_X} (C : sn_Cx X c_Md_link "SignalNetworkModel" (some .int) "link" 3 2 47) (a : Nat) (x1 : Int32) (x2 : Int32) (t0 : Option Nat) (t1 : Int32) (t2 : Int32) : sn_S X 58 [(0, vA (some a)), (1, vI x1), (2, vI x2)] [vI t2, vI t1, vA t0] (f_Md_link_58 a x1 x2 t0 t1 t2) := by
  unfold f_Md_link_58
  refine r_bI (q := 59) C (Or.inr rfl) d_Md_link_58 rfl ?_
  refine r_aload_n (q := 60) (i := 0) (pl := 0) C d_Md_link_59 rfl rfl rfl ?_
  refine r_gR (q := 63) C d_Md_link_60 rfl F_Md_13 rfl (fun v3 => ?_)
  refine r_aload_n (q := 64) (i := 0) (pl := 0) C d_Md_link_63 rfl rfl rfl ?_
  refine r_gI (q := 67) C d_Md_link_64 rfl F_Md_196 rfl (fun v4 => ?_)
  refine r_iload_n (q := 68) (i := 1) (pl := 1) C d_Md_link_67 rfl rfl rfl ?_
  refine r_iload_n (q := 69) (i := 2) (pl := 2) C d_Md_link_68 rfl rfl rfl ?_
  refine r_icmp_ge (tgt := 76) (q := 72) C d_Md_link_69 (by decide) rfl ?_ ?_
  · refine r_iload_n (q := 77) (i := 1) (pl := 1) C d_Md_link_76 rfl rfl rfl ?_
    refine r_sub (lv' := [(0, vA (some a))]) [0] rfl ?_
    exact s_Md_link_77 C a v3 v4 x1
  · refine r_iload_n (q := 73) (i := 2) (pl := 2) C d_Md_link_72 rfl rfl rfl ?_
    refine r_goto (tgt := 77) C d_Md_link_73 (by decide) ?_
    refine r_sub (lv' := [(0, vA (some a))]) [0] rfl ?_
    exact s_Md_link_77 C a v3 v4 x2
def f_Md_link (a : Nat) (x1 : Int32) (x2 : Int32) : sn_M := c_I (f_Md_isExchange x1) fun v5 => (if v5 = 0 then f_Md_link_38 a else c_I (f_Md_isExchange x2) fun v6 => (if v6 = 0 then f_Md_link_38 a else (if x1 = x2 then f_Md_link_38 a else g_I 12 4 (some a) fun v7 => (if v7 = (10 : Int32) then f_Md_link_38 a else n_n 12 (some a) fun a8 => c_I (f_Md_setSize a8 x1 x2) fun v9 => (if ¬ v9 = (4 : Int32) then g_R 12 0 (some a) fun v10 => g_I 12 4 (some a) fun v11 => (if x2 ≤ x1 then f_Md_link_58 a x1 x2 v10 v11 x2 else f_Md_link_58 a x1 x2 v10 v11 x1) else f_Md_link_38 a)))))
set_option maxHeartbeats 4000000 in
set_option maxRecDepth 100000 in
theorem mono_Md_link (a : Nat) (x1 : Int32) (x2 : Int32) : sn_Mono (f_Md_link a x1 x2) := sn_Mono.cI (mono_Md_isExchange x1) (fun v5 => sn_Mono.ite (mono_Md_link_38 a) (sn_Mono.cI (mono_Md_isExchange x2) (fun v6 => sn_Mono.ite (mono_Md_link_38 a) (sn_Mono.ite (mono_Md_link_38 a) (sn_Mono.gI (fun v7 => sn_Mono.ite (mono_Md_link_38 a) (sn_Mono.nn (fun a8 => sn_Mono.cI (mono_Md_setSize a8 x1 x2) (fun v9 => sn_Mono.ite (sn_Mono.gR (fun v10 => sn_Mono.gI (fun v11 => sn_Mono.ite (mono_Md_link_58 a x1 x2 v10 v11 x2) (mono_Md_link_58 a x1 x2 v10 v11 x1)))) (mono_Md_link_38 a))))))))))
set_option maxHeartbeats 4000000 in
set_option maxRecDepth 100000 in
theorem con_Md_link (a : Nat) (x1 : Int32) (x2 : Int32) : sn_Con y_Md_link c_Md_link 3 (some .int) 2 47 [vA (some a), vI x1, vI x2] (f_Md_link a x1 x2) := by
  refine sn_Con.of (by decide +kernel) (by show _ ≤ _; exact Nat.le_of_ble_eq_true rfl) (mono_Md_link a x1 x2) (fun X C => ?_)
  show sn_S X 0 [(0, vA (some a)), (1, vI x1), (2, vI x2)] [] _
  replace C : sn_Cx X c_Md_link "SignalNetworkModel" (some .int) "link" 3 2 47 := C
  unfold f_Md_link
  refine r_iload_n (q := 1) (i := 1) (pl := 1) C d_Md_link_0 rfl rfl rfl ?_
  refine r_csI (q := 4) (As := [vI x1]) (st := []) C d_Md_link_1 rfl Y_Md_isExchange L_Md_204 St_Md_isExchange rfl (Nat.le_of_ble_eq_true rfl) (Nat.le_of_ble_eq_true rfl) (Nat.le_of_ble_eq_true rfl) rfl (con_Md_isExchange x1) (fun v5 => ?_)
  refine r_if_eq (tgt := 38) (q := 7) C d_Md_link_4 (by decide) rfl ?_ ?_
  · refine r_sub (lv' := [(0, vA (some a))]) [0] rfl ?_
    exact s_Md_link_38 C a
  · refine r_iload_n (q := 8) (i := 2) (pl := 2) C d_Md_link_7 rfl rfl rfl ?_
    refine r_csI (q := 11) (As := [vI x2]) (st := []) C d_Md_link_8 rfl Y_Md_isExchange L_Md_204 St_Md_isExchange rfl (Nat.le_of_ble_eq_true rfl) (Nat.le_of_ble_eq_true rfl) (Nat.le_of_ble_eq_true rfl) rfl (con_Md_isExchange x2) (fun v6 => ?_)
    refine r_if_eq (tgt := 38) (q := 14) C d_Md_link_11 (by decide) rfl ?_ ?_
    · refine r_sub (lv' := [(0, vA (some a))]) [0] rfl ?_
      exact s_Md_link_38 C a
    · refine r_iload_n (q := 15) (i := 1) (pl := 1) C d_Md_link_14 rfl rfl rfl ?_
      refine r_iload_n (q := 16) (i := 2) (pl := 2) C d_Md_link_15 rfl rfl rfl ?_
      refine r_icmp_eq (tgt := 38) (q := 19) C d_Md_link_16 (by decide) rfl ?_ ?_
      · refine r_sub (lv' := [(0, vA (some a))]) [0] rfl ?_
        exact s_Md_link_38 C a
      · refine r_aload_n (q := 20) (i := 0) (pl := 0) C d_Md_link_19 rfl rfl rfl ?_
        refine r_gI (q := 23) C d_Md_link_20 rfl F_Md_196 rfl (fun v7 => ?_)
        refine r_bipush (q := 25) (v := 10) C d_Md_link_23 rfl (by decide) ?_
        refine r_icmp_eq (tgt := 38) (q := 28) C d_Md_link_25 (by decide) rfl ?_ ?_
        · refine r_sub (lv' := [(0, vA (some a))]) [0] rfl ?_
          exact s_Md_link_38 C a
        · refine r_aload_n (q := 29) (i := 0) (pl := 0) C d_Md_link_28 rfl rfl rfl ?_
          refine r_iload_n (q := 30) (i := 1) (pl := 1) C d_Md_link_29 rfl rfl rfl ?_
          refine r_iload_n (q := 31) (i := 2) (pl := 2) C d_Md_link_30 rfl rfl rfl ?_
          refine r_cvI (q := 34) (As := [vI x1, vI x2]) (st := []) (cy := 11) C d_Md_link_31 rfl Y_Md_setSize L_Md_208 I_Md_setSize Se_Md_setSize rfl (by decide) rfl (Nat.le_of_ble_eq_true rfl) (Nat.le_of_ble_eq_true rfl) (Nat.le_of_ble_eq_true rfl) rfl (fun a8 => con_Md_setSize a8 x1 x2) (fun v9 => ?_)
          refine r_iconst (q := 35) (v := 4) C d_Md_link_34 rfl (by decide) ?_
          refine r_icmp_ne (tgt := 40) (q := 38) C d_Md_link_35 (by decide) rfl ?_ ?_
          · refine r_aload_n (q := 41) (i := 0) (pl := 0) C d_Md_link_40 rfl rfl rfl ?_
            refine r_gR (q := 44) C d_Md_link_41 rfl F_Md_7 rfl (fun v10 => ?_)
            refine r_aload_n (q := 45) (i := 0) (pl := 0) C d_Md_link_44 rfl rfl rfl ?_
            refine r_gI (q := 48) C d_Md_link_45 rfl F_Md_196 rfl (fun v11 => ?_)
            refine r_iload_n (q := 49) (i := 1) (pl := 1) C d_Md_link_48 rfl rfl rfl ?_
            refine r_iload_n (q := 50) (i := 2) (pl := 2) C d_Md_link_49 rfl rfl rfl ?_
            refine r_icmp_ge (tgt := 57) (q := 53) C d_Md_link_50 (by decide) rfl ?_ ?_
            · refine r_iload_n (q := 58) (i := 2) (pl := 2) C d_Md_link_57 rfl rfl rfl ?_
              exact s_Md_link_58 C a x1 x2 v10 v11 x2
            · refine r_iload_n (q := 54) (i := 1) (pl := 1) C d_Md_link_53 rfl rfl rfl ?_
              refine r_goto (tgt := 58) C d_Md_link_54 (by decide) ?_
              exact s_Md_link_58 C a x1 x2 v10 v11 x1
          · refine r_sub (lv' := [(0, vA (some a))]) [0] rfl ?_
            exact s_Md_link_38 C a
theorem d_Md_canBeTold_0 : decode c_Md_canBeTold 0 = .ok (.iload_n 1, 1) := by decide +kernel
theorem d_Md_canBeTold_1 : decode c_Md_canBeTold 1 = .ok (.iconst (-1), 1) := by decide +kernel
theorem d_Md_canBeTold_2 : decode c_Md_canBeTold 2 = .ok (.if_icmp .eq 15, 3) := by decide +kernel
theorem d_Md_canBeTold_5 : decode c_Md_canBeTold 5 = .ok (.iload_n 1, 1) := by decide +kernel
theorem d_Md_canBeTold_6 : decode c_Md_canBeTold 6 = .ok (.invokestatic 204, 3) := by decide +kernel
theorem d_Md_canBeTold_9 : decode c_Md_canBeTold 9 = .ok (.ifCond .eq 12, 3) := by decide +kernel
theorem d_Md_canBeTold_12 : decode c_Md_canBeTold 12 = .ok (.iload_n 1, 1) := by decide +kernel
theorem d_Md_canBeTold_13 : decode c_Md_canBeTold 13 = .ok (.iload_n 0, 1) := by decide +kernel
theorem d_Md_canBeTold_14 : decode c_Md_canBeTold 14 = .ok (.if_icmp .eq 7, 3) := by decide +kernel
theorem d_Md_canBeTold_17 : decode c_Md_canBeTold 17 = .ok (.iconst 1, 1) := by decide +kernel
theorem d_Md_canBeTold_18 : decode c_Md_canBeTold 18 = .ok (.goto 4, 3) := by decide +kernel
theorem d_Md_canBeTold_21 : decode c_Md_canBeTold 21 = .ok (.iconst 0, 1) := by decide +kernel
theorem d_Md_canBeTold_22 : decode c_Md_canBeTold 22 = .ok (.ireturn, 1) := by decide +kernel
def f_Md_canBeTold_22 (t0 : Int32) : sn_M := r_Z t0
set_option maxHeartbeats 4000000 in
set_option maxRecDepth 100000 in
theorem mono_Md_canBeTold_22 (t0 : Int32) : sn_Mono (f_Md_canBeTold_22 t0) := sn_Mono.rZ
set_option maxHeartbeats 4000000 in
set_option maxRecDepth 100000 in
theorem s_Md_canBeTold_22 {X : sn_X} (C : sn_Cx X c_Md_canBeTold "SignalNetworkModel" (some .boolean) "canBeTold" 2 1 20) (t0 : Int32) : sn_S X 22 [] [vI t0] (f_Md_canBeTold_22 t0) := by
  unfold f_Md_canBeTold_22
  exact r_zret C d_Md_canBeTold_22 rfl
def f_Md_canBeTold_17 : sn_M := f_Md_canBeTold_22 (1 : Int32)
set_option maxHeartbeats 4000000 in
set_option maxRecDepth 100000 in
theorem mono_Md_canBeTold_17 : sn_Mono (f_Md_canBeTold_17) := mono_Md_canBeTold_22 (1 : Int32)
set_option maxHeartbeats 4000000 in
set_option maxRecDepth 100000 in
theorem s_Md_canBeTold_17 {X : sn_X} (C : sn_Cx X c_Md_canBeTold "SignalNetworkModel" (some .boolean) "canBeTold" 2 1 20) : sn_S X 17 [] [] (f_Md_canBeTold_17) := by
  unfold f_Md_canBeTold_17
  refine r_iconst (q := 18) (v := 1) C d_Md_canBeTold_17 rfl (by decide) ?_
  refine r_goto (tgt := 22) C d_Md_canBeTold_18 (by decide) ?_
  exact s_Md_canBeTold_22 C (1 : Int32)
def f_Md_canBeTold_21 : sn_M := f_Md_canBeTold_22 (0 : Int32)
set_option maxHeartbeats 4000000 in
set_option maxRecDepth 100000 in
theorem mono_Md_canBeTold_21 : sn_Mono (f_Md_canBeTold_21) := mono_Md_canBeTold_22 (0 : Int32)
set_option maxHeartbeats 4000000 in
set_option maxRecDepth 100000 in
theorem s_Md_canBeTold_21 {X : sn_X} (C : sn_Cx X c_Md_canBeTold "SignalNetworkModel" (some .boolean) "canBeTold" 2 1 20) : sn_S X 21 [] [] (f_Md_canBeTold_21) := by
  unfold f_Md_canBeTold_21
  refine r_iconst (q := 22) (v := 0) C d_Md_canBeTold_21 rfl (by decide) ?_
  exact s_Md_canBeTold_22 C (0 : Int32)
def f_Md_canBeTold (x0 : Int32) (x1 : Int32) : sn_M := (if x1 = (-1 : Int32) then f_Md_canBeTold_17 else c_I (f_Md_isExchange x1) fun v1 => (if v1 = 0 then f_Md_canBeTold_21 else (if x1 = x0 then f_Md_canBeTold_21 else f_Md_canBeTold_17)))
set_option maxHeartbeats 4000000 in
set_option maxRecDepth 100000 in
theorem mono_Md_canBeTold (x0 : Int32) (x1 : Int32) : sn_Mono (f_Md_canBeTold x0 x1) := sn_Mono.ite (mono_Md_canBeTold_17) (sn_Mono.cI (mono_Md_isExchange x1) (fun v1 => sn_Mono.ite (mono_Md_canBeTold_21) (sn_Mono.ite (mono_Md_canBeTold_21) (mono_Md_canBeTold_17))))
set_option maxHeartbeats 4000000 in
set_option maxRecDepth 100000 in
theorem con_Md_canBeTold (x0 : Int32) (x1 : Int32) : sn_Con y_Md_canBeTold c_Md_canBeTold 2 (some .boolean) 1 20 [vI x0, vI x1] (f_Md_canBeTold x0 x1) := by
  refine sn_Con.of (by decide +kernel) (by show _ ≤ _; exact Nat.le_of_ble_eq_true rfl) (mono_Md_canBeTold x0 x1) (fun X C => ?_)
  show sn_S X 0 [(0, vI x0), (1, vI x1)] [] _
  replace C : sn_Cx X c_Md_canBeTold "SignalNetworkModel" (some .boolean) "canBeTold" 2 1 20 := C
  unfold f_Md_canBeTold
  refine r_iload_n (q := 1) (i := 1) (pl := 1) C d_Md_canBeTold_0 rfl rfl rfl ?_
  refine r_iconst (q := 2) (v := -1) C d_Md_canBeTold_1 rfl (by decide) ?_
  refine r_icmp_eq (tgt := 17) (q := 5) C d_Md_canBeTold_2 (by decide) rfl ?_ ?_
  · refine r_sub (lv' := []) [] rfl ?_
    exact s_Md_canBeTold_17 C
  · refine r_iload_n (q := 6) (i := 1) (pl := 1) C d_Md_canBeTold_5 rfl rfl rfl ?_
    refine r_csI (q := 9) (As := [vI x1]) (st := []) C d_Md_canBeTold_6 rfl Y_Md_isExchange L_Md_204 St_Md_isExchange rfl (Nat.le_of_ble_eq_true rfl) (Nat.le_of_ble_eq_true rfl) (Nat.le_of_ble_eq_true rfl) rfl (con_Md_isExchange x1) (fun v1 => ?_)
    refine r_if_eq (tgt := 21) (q := 12) C d_Md_canBeTold_9 (by decide) rfl ?_ ?_
    · refine r_sub (lv' := []) [] rfl ?_
      exact s_Md_canBeTold_21 C
    · refine r_iload_n (q := 13) (i := 1) (pl := 1) C d_Md_canBeTold_12 rfl rfl rfl ?_
      refine r_iload_n (q := 14) (i := 0) (pl := 0) C d_Md_canBeTold_13 rfl rfl rfl ?_
      refine r_icmp_eq (tgt := 21) (q := 17) C d_Md_canBeTold_14 (by decide) rfl ?_ ?_
      · refine r_sub (lv' := []) [] rfl ?_
        exact s_Md_canBeTold_21 C
      · refine r_sub (lv' := []) [] rfl ?_
        exact s_Md_canBeTold_17 C
theorem d_Md_route__0 : decode c_Md_route_ 0 = .ok (.iload_n 1, 1) := by decide +kernel
theorem d_Md_route__1 : decode c_Md_route_ 1 = .ok (.invokestatic 204, 3) := by decide +kernel
theorem d_Md_route__4 : decode c_Md_route_ 4 = .ok (.ifCond .eq 43, 3) := by decide +kernel
theorem d_Md_route__7 : decode c_Md_route_ 7 = .ok (.iload_n 2, 1) := by decide +kernel
theorem d_Md_route__8 : decode c_Md_route_ 8 = .ok (.invokestatic 204, 3) := by decide +kernel
theorem d_Md_route__11 : decode c_Md_route_ 11 = .ok (.ifCond .eq 36, 3) := by decide +kernel
theorem d_Md_route__14 : decode c_Md_route_ 14 = .ok (.iload_n 1, 1) := by decide +kernel
theorem d_Md_route__15 : decode c_Md_route_ 15 = .ok (.iload_n 2, 1) := by decide +kernel
theorem d_Md_route__16 : decode c_Md_route_ 16 = .ok (.if_icmp .eq 31, 3) := by decide +kernel
theorem d_Md_route__19 : decode c_Md_route_ 19 = .ok (.iload_n 1, 1) := by decide +kernel
theorem d_Md_route__20 : decode c_Md_route_ 20 = .ok (.iload_n 3, 1) := by decide +kernel
theorem d_Md_route__21 : decode c_Md_route_ 21 = .ok (.invokestatic 400, 3) := by decide +kernel
theorem d_Md_route__24 : decode c_Md_route_ 24 = .ok (.ifCond .eq 23, 3) := by decide +kernel
theorem d_Md_route__27 : decode c_Md_route_ 27 = .ok (.iload_n 1, 1) := by decide +kernel
theorem d_Md_route__28 : decode c_Md_route_ 28 = .ok (.iload 4, 2) := by decide +kernel
theorem d_Md_route__30 : decode c_Md_route_ 30 = .ok (.invokestatic 400, 3) := by decide +kernel
theorem d_Md_route__33 : decode c_Md_route_ 33 = .ok (.ifCond .eq 14, 3) := by decide +kernel
theorem d_Md_route__36 : decode c_Md_route_ 36 = .ok (.iload_n 3, 1) := by decide +kernel
theorem d_Md_route__37 : decode c_Md_route_ 37 = .ok (.iload 4, 2) := by decide +kernel
theorem d_Md_route__39 : decode c_Md_route_ 39 = .ok (.if_icmp .ne 10, 3) := by decide +kernel
theorem d_Md_route__42 : decode c_Md_route_ 42 = .ok (.iload_n 3, 1) := by decide +kernel
theorem d_Md_route__43 : decode c_Md_route_ 43 = .ok (.iconst (-1), 1) := by decide +kernel
theorem d_Md_route__44 : decode c_Md_route_ 44 = .ok (.if_icmp .eq 5, 3) := by decide +kernel
theorem d_Md_route__47 : decode c_Md_route_ 47 = .ok (.iconst 0, 1) := by decide +kernel
theorem d_Md_route__48 : decode c_Md_route_ 48 = .ok (.ireturn, 1) := by decide +kernel
theorem d_Md_route__49 : decode c_Md_route_ 49 = .ok (.aload_n 0, 1) := by decide +kernel
theorem d_Md_route__50 : decode c_Md_route_ 50 = .ok (.getfield 144, 3) := by decide +kernel
theorem d_Md_route__53 : decode c_Md_route_ 53 = .ok (.bipush 6, 2) := by decide +kernel
theorem d_Md_route__55 : decode c_Md_route_ 55 = .ok (.iload_n 1, 1) := by decide +kernel
theorem d_Md_route__56 : decode c_Md_route_ 56 = .ok (.imul, 1) := by decide +kernel
theorem d_Md_route__57 : decode c_Md_route_ 57 = .ok (.iload_n 2, 1) := by decide +kernel
theorem d_Md_route__58 : decode c_Md_route_ 58 = .ok (.iadd, 1) := by decide +kernel
theorem d_Md_route__59 : decode c_Md_route_ 59 = .ok (.iload_n 3, 1) := by decide +kernel
theorem d_Md_route__60 : decode c_Md_route_ 60 = .ok (.iastore, 1) := by decide +kernel
theorem d_Md_route__61 : decode c_Md_route_ 61 = .ok (.aload_n 0, 1) := by decide +kernel
theorem d_Md_route__62 : decode c_Md_route_ 62 = .ok (.getfield 147, 3) := by decide +kernel
theorem d_Md_route__65 : decode c_Md_route_ 65 = .ok (.bipush 6, 2) := by decide +kernel
theorem d_Md_route__67 : decode c_Md_route_ 67 = .ok (.iload_n 1, 1) := by decide +kernel
theorem d_Md_route__68 : decode c_Md_route_ 68 = .ok (.imul, 1) := by decide +kernel
theorem d_Md_route__69 : decode c_Md_route_ 69 = .ok (.iload_n 2, 1) := by decide +kernel
theorem d_Md_route__70 : decode c_Md_route_ 70 = .ok (.iadd, 1) := by decide +kernel
theorem d_Md_route__71 : decode c_Md_route_ 71 = .ok (.iload 4, 2) := by decide +kernel
theorem d_Md_route__73 : decode c_Md_route_ 73 = .ok (.iastore, 1) := by decide +kernel
theorem d_Md_route__74 : decode c_Md_route_ 74 = .ok (.aload_n 0, 1) := by decide +kernel
theorem d_Md_route__75 : decode c_Md_route_ 75 = .ok (.iload_n 1, 1) := by decide +kernel
theorem d_Md_route__76 : decode c_Md_route_ 76 = .ok (.invokevirtual 266, 3) := by decide +kernel
theorem d_Md_route__79 : decode c_Md_route_ 79 = .ok (.iconst 1, 1) := by decide +kernel
theorem d_Md_route__80 : decode c_Md_route_ 80 = .ok (.ireturn, 1) := by decide +kernel
def f_Md_route__47 (a : Nat) : sn_M := r_Z (0 : Int32)
set_option maxHeartbeats 4000000 in
set_option maxRecDepth 100000 in
theorem mono_Md_route__47 (a : Nat) : sn_Mono (f_Md_route__47 a) := sn_Mono.rZ
set_option maxHeartbeats 4000000 in
set_option maxRecDepth 100000 in
theorem s_Md_route__47 {X : sn_X} (C : sn_Cx X c_Md_route_ "SignalNetworkModel" (some .boolean) "route" 5 5 118) (a : Nat) : sn_S X 47 [(0, vA (some a))] [] (f_Md_route__47 a) := by
  unfold f_Md_route__47
  refine r_iconst (q := 48) (v := 0) C d_Md_route__47 rfl (by decide) ?_
  exact r_zret C d_Md_route__48 rfl
def f_Md_route__49 (a : Nat) (x1 : Int32) (x2 : Int32) (x3 : Int32) (x4 : Int32) : sn_M := g_R 12 50 (some a) fun v1 => b_I 31 v1 (((6 : Int32) * x1) + x2) x3 (g_R 12 51 (some a) fun v2 => b_I 31 v2 (((6 : Int32) * x1) + x2) x4 (n_n 12 (some a) fun a3 => c_V (f_Md_look a3 x1) (r_Z (1 : Int32))))
set_option maxHeartbeats 4000000 in
set_option maxRecDepth 100000 in
theorem mono_Md_route__49 (a : Nat) (x1 : Int32) (x2 : Int32) (x3 : Int32) (x4 : Int32) : sn_Mono (f_Md_route__49 a x1 x2 x3 x4) := sn_Mono.gR (fun v1 => sn_Mono.bI (sn_Mono.gR (fun v2 => sn_Mono.bI (sn_Mono.nn (fun a3 => sn_Mono.cV (mono_Md_look a3 x1) (sn_Mono.rZ))))))
set_option maxHeartbeats 4000000 in
set_option maxRecDepth 100000 in
theorem s_Md_route__49 {X : sn_X} (C : sn_Cx X c_Md_route_ "SignalNetworkModel" (some .boolean) "route" 5 5 118) (a : Nat) (x1 : Int32) (x2 : Int32) (x3 : Int32) (x4 : Int32) : sn_S X 49 [(0, vA (some a)), (1, vI x1), (2, vI x2), (3, vI x3), (4, vI x4)] [] (f_Md_route__49 a x1 x2 x3 x4) := by
  unfold f_Md_route__49
  refine r_aload_n (q := 50) (i := 0) (pl := 0) C d_Md_route__49 rfl rfl rfl ?_
  refine r_gR (q := 53) C d_Md_route__50 rfl F_Md_144 rfl (fun v1 => ?_)
  refine r_bipush (q := 55) (v := 6) C d_Md_route__53 rfl (by decide) ?_
  refine r_iload_n (q := 56) (i := 1) (pl := 1) C d_Md_route__55 rfl rfl rfl ?_
  refine r_imul (q := 57) C d_Md_route__56 rfl ?_
  refine r_iload_n (q := 58) (i := 2) (pl := 2) C d_Md_route__57 rfl rfl rfl ?_
  refine r_iadd (q := 59) C d_Md_route__58 rfl ?_
  refine r_iload_n (q := 60) (i := 3) (pl := 3) C d_Md_route__59 rfl rfl rfl ?_
  refine r_bI (q := 61) C (Or.inr rfl) d_Md_route__60 rfl ?_
  refine r_aload_n (q := 62) (i := 0) (pl := 0) C d_Md_route__61 rfl rfl rfl ?_
  refine r_gR (q := 65) C d_Md_route__62 rfl F_Md_147 rfl (fun v2 => ?_)
  refine r_bipush (q := 67) (v := 6) C d_Md_route__65 rfl (by decide) ?_
  refine r_iload_n (q := 68) (i := 1) (pl := 1) C d_Md_route__67 rfl rfl rfl ?_
  refine r_imul (q := 69) C d_Md_route__68 rfl ?_
  refine r_iload_n (q := 70) (i := 2) (pl := 2) C d_Md_route__69 rfl rfl rfl ?_
  refine r_iadd (q := 71) C d_Md_route__70 rfl ?_
  refine r_iload (q := 73) (i := 4) (pl := 4) C d_Md_route__71 rfl rfl ?_
  refine r_bI (q := 74) C (Or.inr rfl) d_Md_route__73 rfl ?_
  refine r_aload_n (q := 75) (i := 0) (pl := 0) C d_Md_route__74 rfl rfl rfl ?_
  refine r_iload_n (q := 76) (i := 1) (pl := 1) C d_Md_route__75 rfl rfl rfl ?_
  refine r_cvV (q := 79) (As := [vI x1]) (st := []) (cy := 11) C d_Md_route__76 rfl Y_Md_look L_Md_266 I_Md_look Se_Md_look rfl (by decide) rfl (Nat.le_of_ble_eq_true rfl) (Nat.le_of_ble_eq_true rfl) (Nat.le_of_ble_eq_true rfl) rfl (fun a3 => con_Md_look a3 x1) ?_
  refine r_iconst (q := 80) (v := 1) C d_Md_route__79 rfl (by decide) ?_
  exact r_zret C d_Md_route__80 rfl
def f_Md_route_ (a : Nat) (x1 : Int32) (x2 : Int32) (x3 : Int32) (x4 : Int32) : sn_M := c_I (f_Md_isExchange x1) fun v5 => (if v5 = 0 then f_Md_route__47 a else c_I (f_Md_isExchange x2) fun v6 => (if v6 = 0 then f_Md_route__47 a else (if x1 = x2 then f_Md_route__47 a else c_I (f_Md_canBeTold x1 x3) fun v7 => (if v7 = 0 then f_Md_route__47 a else c_I (f_Md_canBeTold x1 x4) fun v8 => (if v8 = 0 then f_Md_route__47 a else (if ¬ x3 = x4 then f_Md_route__49 a x1 x2 x3 x4 else (if x3 = (-1 : Int32) then f_Md_route__49 a x1 x2 x3 x4 else f_Md_route__47 a)))))))
set_option maxHeartbeats 4000000 in
set_option maxRecDepth 100000 in
theorem mono_Md_route_ (a : Nat) (x1 : Int32) (x2 : Int32) (x3 : Int32) (x4 : Int32) : sn_Mono (f_Md_route_ a x1 x2 x3 x4) := sn_Mono.cI (mono_Md_isExchange x1) (fun v5 => sn_Mono.ite (mono_Md_route__47 a) (sn_Mono.cI (mono_Md_isExchange x2) (fun v6 => sn_Mono.ite (mono_Md_route__47 a) (sn_Mono.ite (mono_Md_route__47 a) (sn_Mono.cI (mono_Md_canBeTold x1 x3) (fun v7 => sn_Mono.ite (mono_Md_route__47 a) (sn_Mono.cI (mono_Md_canBeTold x1 x4) (fun v8 => sn_Mono.ite (mono_Md_route__47 a) (sn_Mono.ite (mono_Md_route__49 a x1 x2 x3 x4) (sn_Mono.ite (mono_Md_route__49 a x1 x2 x3 x4) (mono_Md_route__47 a)))))))))))
set_option maxHeartbeats 4000000 in
set_option maxRecDepth 100000 in
theorem con_Md_route_ (a : Nat) (x1 : Int32) (x2 : Int32) (x3 : Int32) (x4 : Int32) : sn_Con y_Md_route_ c_Md_route_ 5 (some .boolean) 5 118 [vA (some a), vI x1, vI x2, vI x3, vI x4] (f_Md_route_ a x1 x2 x3 x4) := by
  refine sn_Con.of (by decide +kernel) (by show _ ≤ _; exact Nat.le_of_ble_eq_true rfl) (mono_Md_route_ a x1 x2 x3 x4) (fun X C => ?_)
  show sn_S X 0 [(0, vA (some a)), (1, vI x1), (2, vI x2), (3, vI x3), (4, vI x4)] [] _
  replace C : sn_Cx X c_Md_route_ "SignalNetworkModel" (some .boolean) "route" 5 5 118 := C
  unfold f_Md_route_
  refine r_iload_n (q := 1) (i := 1) (pl := 1) C d_Md_route__0 rfl rfl rfl ?_
  refine r_csI (q := 4) (As := [vI x1]) (st := []) C d_Md_route__1 rfl Y_Md_isExchange L_Md_204 St_Md_isExchange rfl (Nat.le_of_ble_eq_true rfl) (Nat.le_of_ble_eq_true rfl) (Nat.le_of_ble_eq_true rfl) rfl (con_Md_isExchange x1) (fun v5 => ?_)
  refine r_if_eq (tgt := 47) (q := 7) C d_Md_route__4 (by decide) rfl ?_ ?_
  · refine r_sub (lv' := [(0, vA (some a))]) [0] rfl ?_
    exact s_Md_route__47 C a
  · refine r_iload_n (q := 8) (i := 2) (pl := 2) C d_Md_route__7 rfl rfl rfl ?_
    refine r_csI (q := 11) (As := [vI x2]) (st := []) C d_Md_route__8 rfl Y_Md_isExchange L_Md_204 St_Md_isExchange rfl (Nat.le_of_ble_eq_true rfl) (Nat.le_of_ble_eq_true rfl) (Nat.le_of_ble_eq_true rfl) rfl (con_Md_isExchange x2) (fun v6 => ?_)
    refine r_if_eq (tgt := 47) (q := 14) C d_Md_route__11 (by decide) rfl ?_ ?_
    · refine r_sub (lv' := [(0, vA (some a))]) [0] rfl ?_
      exact s_Md_route__47 C a
    · refine r_iload_n (q := 15) (i := 1) (pl := 1) C d_Md_route__14 rfl rfl rfl ?_
      refine r_iload_n (q := 16) (i := 2) (pl := 2) C d_Md_route__15 rfl rfl rfl ?_
      refine r_icmp_eq (tgt := 47) (q := 19) C d_Md_route__16 (by decide) rfl ?_ ?_
      · refine r_sub (lv' := [(0, vA (some a))]) [0] rfl ?_
        exact s_Md_route__47 C a
      · refine r_iload_n (q := 20) (i := 1) (pl := 1) C d_Md_route__19 rfl rfl rfl ?_
        refine r_iload_n (q := 21) (i := 3) (pl := 3) C d_Md_route__20 rfl rfl rfl ?_
        refine r_csI (q := 24) (As := [vI x1, vI x3]) (st := []) C d_Md_route__21 rfl Y_Md_canBeTold L_Md_400 St_Md_canBeTold rfl (Nat.le_of_ble_eq_true rfl) (Nat.le_of_ble_eq_true rfl) (Nat.le_of_ble_eq_true rfl) rfl (con_Md_canBeTold x1 x3) (fun v7 => ?_)
        refine r_if_eq (tgt := 47) (q := 27) C d_Md_route__24 (by decide) rfl ?_ ?_
        · refine r_sub (lv' := [(0, vA (some a))]) [0] rfl ?_
          exact s_Md_route__47 C a
        · refine r_iload_n (q := 28) (i := 1) (pl := 1) C d_Md_route__27 rfl rfl rfl ?_
          refine r_iload (q := 30) (i := 4) (pl := 4) C d_Md_route__28 rfl rfl ?_
          refine r_csI (q := 33) (As := [vI x1, vI x4]) (st := []) C d_Md_route__30 rfl Y_Md_canBeTold L_Md_400 St_Md_canBeTold rfl (Nat.le_of_ble_eq_true rfl) (Nat.le_of_ble_eq_true rfl) (Nat.le_of_ble_eq_true rfl) rfl (con_Md_canBeTold x1 x4) (fun v8 => ?_)
          refine r_if_eq (tgt := 47) (q := 36) C d_Md_route__33 (by decide) rfl ?_ ?_
          · refine r_sub (lv' := [(0, vA (some a))]) [0] rfl ?_
            exact s_Md_route__47 C a
          · refine r_iload_n (q := 37) (i := 3) (pl := 3) C d_Md_route__36 rfl rfl rfl ?_
            refine r_iload (q := 39) (i := 4) (pl := 4) C d_Md_route__37 rfl rfl ?_
            refine r_icmp_ne (tgt := 49) (q := 42) C d_Md_route__39 (by decide) rfl ?_ ?_
            · exact s_Md_route__49 C a x1 x2 x3 x4
            · refine r_iload_n (q := 43) (i := 3) (pl := 3) C d_Md_route__42 rfl rfl rfl ?_
              refine r_iconst (q := 44) (v := -1) C d_Md_route__43 rfl (by decide) ?_
              refine r_icmp_eq (tgt := 49) (q := 47) C d_Md_route__44 (by decide) rfl ?_ ?_
              · exact s_Md_route__49 C a x1 x2 x3 x4
              · refine r_sub (lv' := [(0, vA (some a))]) [0] rfl ?_
                exact s_Md_route__47 C a
theorem d_Md_isLink_0 : decode c_Md_isLink 0 = .ok (.iload_n 1, 1) := by decide +kernel
theorem d_Md_isLink_1 : decode c_Md_isLink 1 = .ok (.ifCond .lt 15, 3) := by decide +kernel
theorem d_Md_isLink_4 : decode c_Md_isLink 4 = .ok (.iload_n 1, 1) := by decide +kernel
theorem d_Md_isLink_5 : decode c_Md_isLink 5 = .ok (.aload_n 0, 1) := by decide +kernel
theorem d_Md_isLink_6 : decode c_Md_isLink 6 = .ok (.getfield 196, 3) := by decide +kernel
theorem d_Md_isLink_9 : decode c_Md_isLink 9 = .ok (.if_icmp .ge 7, 3) := by decide +kernel
theorem d_Md_isLink_12 : decode c_Md_isLink 12 = .ok (.iconst 1, 1) := by decide +kernel
theorem d_Md_isLink_13 : decode c_Md_isLink 13 = .ok (.goto 4, 3) := by decide +kernel
theorem d_Md_isLink_16 : decode c_Md_isLink 16 = .ok (.iconst 0, 1) := by decide +kernel
theorem d_Md_isLink_17 : decode c_Md_isLink 17 = .ok (.ireturn, 1) := by decide +kernel
def f_Md_isLink_17 (a : Nat) (t0 : Int32) : sn_M := r_Z t0
set_option maxHeartbeats 4000000 in
set_option maxRecDepth 100000 in
theorem mono_Md_isLink_17 (a : Nat) (t0 : Int32) : sn_Mono (f_Md_isLink_17 a t0) := sn_Mono.rZ
set_option maxHeartbeats 4000000 in
set_option maxRecDepth 100000 in
theorem s_Md_isLink_17 {X : sn_X} (C : sn_Cx X c_Md_isLink "SignalNetworkModel" (some .boolean) "isLink" 2 0 0) (a : Nat) (t0 : Int32) : sn_S X 17 [(0, vA (some a))] [vI t0] (f_Md_isLink_17 a t0) := by
  unfold f_Md_isLink_17
  exact r_zret C d_Md_isLink_17 rfl
def f_Md_isLink_16 (a : Nat) : sn_M := f_Md_isLink_17 a (0 : Int32)
set_option maxHeartbeats 4000000 in
set_option maxRecDepth 100000 in
theorem mono_Md_isLink_16 (a : Nat) : sn_Mono (f_Md_isLink_16 a) := mono_Md_isLink_17 a (0 : Int32)
set_option maxHeartbeats 4000000 in
set_option maxRecDepth 100000 in
theorem s_Md_isLink_16 {X : sn_X} (C : sn_Cx X c_Md_isLink "SignalNetworkModel" (some .boolean) "isLink" 2 0 0) (a : Nat) : sn_S X 16 [(0, vA (some a))] [] (f_Md_isLink_16 a) := by
  unfold f_Md_isLink_16
  refine r_iconst (q := 17) (v := 0) C d_Md_isLink_16 rfl (by decide) ?_
  exact s_Md_isLink_17 C a (0 : Int32)
def f_Md_isLink (a : Nat) (x1 : Int32) : sn_M := (if x1 < 0 then f_Md_isLink_16 a else g_I 12 4 (some a) fun v1 => (if v1 ≤ x1 then f_Md_isLink_16 a else f_Md_isLink_17 a (1 : Int32)))
set_option maxHeartbeats 4000000 in
set_option maxRecDepth 100000 in
theorem mono_Md_isLink (a : Nat) (x1 : Int32) : sn_Mono (f_Md_isLink a x1) := sn_Mono.ite (mono_Md_isLink_16 a) (sn_Mono.gI (fun v1 => sn_Mono.ite (mono_Md_isLink_16 a) (mono_Md_isLink_17 a (1 : Int32))))
set_option maxHeartbeats 4000000 in
set_option maxRecDepth 100000 in
theorem con_Md_isLink (a : Nat) (x1 : Int32) : sn_Con y_Md_isLink c_Md_isLink 2 (some .boolean) 0 0 [vA (some a), vI x1] (f_Md_isLink a x1) := by
  refine sn_Con.of (by decide +kernel) (by show _ ≤ _; exact Nat.le_of_ble_eq_true rfl) (mono_Md_isLink a x1) (fun X C => ?_)
  show sn_S X 0 [(0, vA (some a)), (1, vI x1)] [] _
  replace C : sn_Cx X c_Md_isLink "SignalNetworkModel" (some .boolean) "isLink" 2 0 0 := C
  unfold f_Md_isLink
  refine r_iload_n (q := 1) (i := 1) (pl := 1) C d_Md_isLink_0 rfl rfl rfl ?_
  refine r_if_lt (tgt := 16) (q := 4) C d_Md_isLink_1 (by decide) rfl ?_ ?_
  · refine r_sub (lv' := [(0, vA (some a))]) [0] rfl ?_
    exact s_Md_isLink_16 C a
  · refine r_iload_n (q := 5) (i := 1) (pl := 1) C d_Md_isLink_4 rfl rfl rfl ?_
    refine r_aload_n (q := 6) (i := 0) (pl := 0) C d_Md_isLink_5 rfl rfl rfl ?_
    refine r_gI (q := 9) C d_Md_isLink_6 rfl F_Md_196 rfl (fun v1 => ?_)
    refine r_icmp_ge (tgt := 16) (q := 12) C d_Md_isLink_9 (by decide) rfl ?_ ?_
    · refine r_sub (lv' := [(0, vA (some a))]) [0] rfl ?_
      exact s_Md_isLink_16 C a
    · refine r_iconst (q := 13) (v := 1) C d_Md_isLink_12 rfl (by decide) ?_
      refine r_goto (tgt := 17) C d_Md_isLink_13 (by decide) ?_
      refine r_sub (lv' := [(0, vA (some a))]) [0] rfl ?_
      exact s_Md_isLink_17 C a (1 : Int32)
theorem d_Md_isEnd_0 : decode c_Md_isEnd 0 = .ok (.aload_n 0, 1) := by decide +kernel
theorem d_Md_isEnd_1 : decode c_Md_isEnd 1 = .ok (.iload_n 1, 1) := by decide +kernel
theorem d_Md_isEnd_2 : decode c_Md_isEnd 2 = .ok (.invokevirtual 403, 3) := by decide +kernel
theorem d_Md_isEnd_5 : decode c_Md_isEnd 5 = .ok (.ifCond .eq 16, 3) := by decide +kernel
theorem d_Md_isEnd_8 : decode c_Md_isEnd 8 = .ok (.iload_n 2, 1) := by decide +kernel
theorem d_Md_isEnd_9 : decode c_Md_isEnd 9 = .ok (.ifCond .eq 8, 3) := by decide +kernel
theorem d_Md_isEnd_12 : decode c_Md_isEnd 12 = .ok (.iload_n 2, 1) := by decide +kernel
theorem d_Md_isEnd_13 : decode c_Md_isEnd 13 = .ok (.iconst 1, 1) := by decide +kernel
theorem d_Md_isEnd_14 : decode c_Md_isEnd 14 = .ok (.if_icmp .ne 7, 3) := by decide +kernel
theorem d_Md_isEnd_17 : decode c_Md_isEnd 17 = .ok (.iconst 1, 1) := by decide +kernel
theorem d_Md_isEnd_18 : decode c_Md_isEnd 18 = .ok (.goto 4, 3) := by decide +kernel
theorem d_Md_isEnd_21 : decode c_Md_isEnd 21 = .ok (.iconst 0, 1) := by decide +kernel
theorem d_Md_isEnd_22 : decode c_Md_isEnd 22 = .ok (.ireturn, 1) := by decide +kernel
def f_Md_isEnd_22 (a : Nat) (t0 : Int32) : sn_M := r_Z t0
set_option maxHeartbeats 4000000 in
set_option maxRecDepth 100000 in
theorem mono_Md_isEnd_22 (a : Nat) (t0 : Int32) : sn_Mono (f_Md_isEnd_22 a t0) := sn_Mono.rZ
set_option maxHeartbeats 4000000 in
set_option maxRecDepth 100000 in
theorem s_Md_isEnd_22 {X : sn_X} (C : sn_Cx X c_Md_isEnd "SignalNetworkModel" (some .boolean) "isEnd" 3 1 21) (a : Nat) (t0 : Int32) : sn_S X 22 [(0, vA (some a))] [vI t0] (f_Md_isEnd_22 a t0) := by
  unfold f_Md_isEnd_22
  exact r_zret C d_Md_isEnd_22 rfl
def f_Md_isEnd_21 (a : Nat) : sn_M := f_Md_isEnd_22 a (0 : Int32)
set_option maxHeartbeats 4000000 in
set_option maxRecDepth 100000 in
theorem mono_Md_isEnd_21 (a : Nat) : sn_Mono (f_Md_isEnd_21 a) := mono_Md_isEnd_22 a (0 : Int32)
set_option maxHeartbeats 4000000 in
set_option maxRecDepth 100000 in
theorem s_Md_isEnd_21 {X : sn_X} (C : sn_Cx X c_Md_isEnd "SignalNetworkModel" (some .boolean) "isEnd" 3 1 21) (a : Nat) : sn_S X 21 [(0, vA (some a))] [] (f_Md_isEnd_21 a) := by
  unfold f_Md_isEnd_21
  refine r_iconst (q := 22) (v := 0) C d_Md_isEnd_21 rfl (by decide) ?_
  exact s_Md_isEnd_22 C a (0 : Int32)
def f_Md_isEnd_17 (a : Nat) : sn_M := f_Md_isEnd_22 a (1 : Int32)
set_option maxHeartbeats 4000000 in
set_option maxRecDepth 100000 in
theorem mono_Md_isEnd_17 (a : Nat) : sn_Mono (f_Md_isEnd_17 a) := mono_Md_isEnd_22 a (1 : Int32)
set_option maxHeartbeats 4000000 in
set_option maxRecDepth 100000 in
theorem s_Md_isEnd_17 {X : sn_X} (C : sn_Cx X c_Md_isEnd "SignalNetworkModel" (some .boolean) "isEnd" 3 1 21) (a : Nat) : sn_S X 17 [(0, vA (some a))] [] (f_Md_isEnd_17 a) := by
  unfold f_Md_isEnd_17
  refine r_iconst (q := 18) (v := 1) C d_Md_isEnd_17 rfl (by decide) ?_
  refine r_goto (tgt := 22) C d_Md_isEnd_18 (by decide) ?_
  exact s_Md_isEnd_22 C a (1 : Int32)
def f_Md_isEnd (a : Nat) (x1 : Int32) (x2 : Int32) : sn_M := n_n 12 (some a) fun a1 => c_I (f_Md_isLink a1 x1) fun v2 => (if v2 = 0 then f_Md_isEnd_21 a else (if x2 = 0 then f_Md_isEnd_17 a else (if ¬ x2 = (1 : Int32) then f_Md_isEnd_21 a else f_Md_isEnd_17 a)))
set_option maxHeartbeats 4000000 in
set_option maxRecDepth 100000 in
theorem mono_Md_isEnd (a : Nat) (x1 : Int32) (x2 : Int32) : sn_Mono (f_Md_isEnd a x1 x2) := sn_Mono.nn (fun a1 => sn_Mono.cI (mono_Md_isLink a1 x1) (fun v2 => sn_Mono.ite (mono_Md_isEnd_21 a) (sn_Mono.ite (mono_Md_isEnd_17 a) (sn_Mono.ite (mono_Md_isEnd_21 a) (mono_Md_isEnd_17 a)))))
set_option maxHeartbeats 4000000 in
set_option maxRecDepth 100000 in
theorem con_Md_isEnd (a : Nat) (x1 : Int32) (x2 : Int32) : sn_Con y_Md_isEnd c_Md_isEnd 3 (some .boolean) 1 21 [vA (some a), vI x1, vI x2] (f_Md_isEnd a x1 x2) := by
  refine sn_Con.of (by decide +kernel) (by show _ ≤ _; exact Nat.le_of_ble_eq_true rfl) (mono_Md_isEnd a x1 x2) (fun X C => ?_)
  show sn_S X 0 [(0, vA (some a)), (1, vI x1), (2, vI x2)] [] _
  replace C : sn_Cx X c_Md_isEnd "SignalNetworkModel" (some .boolean) "isEnd" 3 1 21 := C
  unfold f_Md_isEnd
  refine r_aload_n (q := 1) (i := 0) (pl := 0) C d_Md_isEnd_0 rfl rfl rfl ?_
  refine r_iload_n (q := 2) (i := 1) (pl := 1) C d_Md_isEnd_1 rfl rfl rfl ?_
  refine r_cvI (q := 5) (As := [vI x1]) (st := []) (cy := 11) C d_Md_isEnd_2 rfl Y_Md_isLink L_Md_403 I_Md_isLink Se_Md_isLink rfl (by decide) rfl (Nat.le_of_ble_eq_true rfl) (Nat.le_of_ble_eq_true rfl) (Nat.le_of_ble_eq_true rfl) rfl (fun a1 => con_Md_isLink a1 x1) (fun v2 => ?_)
  refine r_if_eq (tgt := 21) (q := 8) C d_Md_isEnd_5 (by decide) rfl ?_ ?_
  · refine r_sub (lv' := [(0, vA (some a))]) [0] rfl ?_
    exact s_Md_isEnd_21 C a
  · refine r_iload_n (q := 9) (i := 2) (pl := 2) C d_Md_isEnd_8 rfl rfl rfl ?_
    refine r_if_eq (tgt := 17) (q := 12) C d_Md_isEnd_9 (by decide) rfl ?_ ?_
    · refine r_sub (lv' := [(0, vA (some a))]) [0] rfl ?_
      exact s_Md_isEnd_17 C a
    · refine r_iload_n (q := 13) (i := 2) (pl := 2) C d_Md_isEnd_12 rfl rfl rfl ?_
      refine r_iconst (q := 14) (v := 1) C d_Md_isEnd_13 rfl (by decide) ?_
      refine r_icmp_ne (tgt := 21) (q := 17) C d_Md_isEnd_14 (by decide) rfl ?_ ?_
      · refine r_sub (lv' := [(0, vA (some a))]) [0] rfl ?_
        exact s_Md_isEnd_21 C a
      · refine r_sub (lv' := [(0, vA (some a))]) [0] rfl ?_
        exact s_Md_isEnd_17 C a
theorem d_Md_activate_0 : decode c_Md_activate 0 = .ok (.aload_n 0, 1) := by decide +kernel
theorem d_Md_activate_1 : decode c_Md_activate 1 = .ok (.iload_n 1, 1) := by decide +kernel
theorem d_Md_activate_2 : decode c_Md_activate 2 = .ok (.invokevirtual 403, 3) := by decide +kernel
theorem d_Md_activate_5 : decode c_Md_activate 5 = .ok (.ifCond .eq 13, 3) := by decide +kernel
theorem d_Md_activate_8 : decode c_Md_activate 8 = .ok (.aload_n 0, 1) := by decide +kernel
theorem d_Md_activate_9 : decode c_Md_activate 9 = .ok (.getfield 16, 3) := by decide +kernel
theorem d_Md_activate_12 : decode c_Md_activate 12 = .ok (.iload_n 1, 1) := by decide +kernel
theorem d_Md_activate_13 : decode c_Md_activate 13 = .ok (.baload, 1) := by decide +kernel
theorem d_Md_activate_14 : decode c_Md_activate 14 = .ok (.iload_n 2, 1) := by decide +kernel
theorem d_Md_activate_15 : decode c_Md_activate 15 = .ok (.if_icmp .ne 5, 3) := by decide +kernel
theorem d_Md_activate_18 : decode c_Md_activate 18 = .ok (.iconst 0, 1) := by decide +kernel
theorem d_Md_activate_19 : decode c_Md_activate 19 = .ok (.ireturn, 1) := by decide +kernel
theorem d_Md_activate_20 : decode c_Md_activate 20 = .ok (.aload_n 0, 1) := by decide +kernel
theorem d_Md_activate_21 : decode c_Md_activate 21 = .ok (.getfield 16, 3) := by decide +kernel
theorem d_Md_activate_24 : decode c_Md_activate 24 = .ok (.iload_n 1, 1) := by decide +kernel
theorem d_Md_activate_25 : decode c_Md_activate 25 = .ok (.iload_n 2, 1) := by decide +kernel
theorem d_Md_activate_26 : decode c_Md_activate 26 = .ok (.bastore, 1) := by decide +kernel
theorem d_Md_activate_27 : decode c_Md_activate 27 = .ok (.iconst 2, 1) := by decide +kernel
theorem d_Md_activate_28 : decode c_Md_activate 28 = .ok (.iload_n 1, 1) := by decide +kernel
theorem d_Md_activate_29 : decode c_Md_activate 29 = .ok (.imul, 1) := by decide +kernel
theorem d_Md_activate_30 : decode c_Md_activate 30 = .ok (.istore_n 3, 1) := by decide +kernel
theorem d_Md_activate_31 : decode c_Md_activate 31 = .ok (.iload_n 3, 1) := by decide +kernel
theorem d_Md_activate_32 : decode c_Md_activate 32 = .ok (.iconst 2, 1) := by decide +kernel
theorem d_Md_activate_33 : decode c_Md_activate 33 = .ok (.iload_n 1, 1) := by decide +kernel
theorem d_Md_activate_34 : decode c_Md_activate 34 = .ok (.imul, 1) := by decide +kernel
theorem d_Md_activate_35 : decode c_Md_activate 35 = .ok (.iconst 2, 1) := by decide +kernel
theorem d_Md_activate_36 : decode c_Md_activate 36 = .ok (.iadd, 1) := by decide +kernel
theorem d_Md_activate_37 : decode c_Md_activate 37 = .ok (.if_icmp .ge 55, 3) := by decide +kernel
theorem d_Md_activate_40 : decode c_Md_activate 40 = .ok (.iload_n 2, 1) := by decide +kernel
theorem d_Md_activate_41 : decode c_Md_activate 41 = .ok (.ifCond .eq 26, 3) := by decide +kernel
theorem d_Md_activate_44 : decode c_Md_activate 44 = .ok (.aload_n 0, 1) := by decide +kernel
theorem d_Md_activate_45 : decode c_Md_activate 45 = .ok (.getfield 23, 3) := by decide +kernel
theorem d_Md_activate_48 : decode c_Md_activate 48 = .ok (.iload_n 3, 1) := by decide +kernel
theorem d_Md_activate_49 : decode c_Md_activate 49 = .ok (.iaload, 1) := by decide +kernel
theorem d_Md_activate_50 : decode c_Md_activate 50 = .ok (.ifCond .ne 17, 3) := by decide +kernel
theorem d_Md_activate_53 : decode c_Md_activate 53 = .ok (.aload_n 0, 1) := by decide +kernel
theorem d_Md_activate_54 : decode c_Md_activate 54 = .ok (.getfield 26, 3) := by decide +kernel
theorem d_Md_activate_57 : decode c_Md_activate 57 = .ok (.iload_n 3, 1) := by decide +kernel
theorem d_Md_activate_58 : decode c_Md_activate 58 = .ok (.iaload, 1) := by decide +kernel
theorem d_Md_activate_59 : decode c_Md_activate 59 = .ok (.ifCond .ne 8, 3) := by decide +kernel
theorem d_Md_activate_62 : decode c_Md_activate 62 = .ok (.aload_n 0, 1) := by decide +kernel
theorem d_Md_activate_63 : decode c_Md_activate 63 = .ok (.iload_n 3, 1) := by decide +kernel
theorem d_Md_activate_64 : decode c_Md_activate 64 = .ok (.invokevirtual 305, 3) := by decide +kernel
theorem d_Md_activate_67 : decode c_Md_activate 67 = .ok (.iload_n 2, 1) := by decide +kernel
theorem d_Md_activate_68 : decode c_Md_activate 68 = .ok (.ifCond .ne 18, 3) := by decide +kernel
theorem d_Md_activate_71 : decode c_Md_activate 71 = .ok (.aload_n 0, 1) := by decide +kernel
theorem d_Md_activate_72 : decode c_Md_activate 72 = .ok (.getfield 23, 3) := by decide +kernel
theorem d_Md_activate_75 : decode c_Md_activate 75 = .ok (.iload_n 3, 1) := by decide +kernel
theorem d_Md_activate_76 : decode c_Md_activate 76 = .ok (.iaload, 1) := by decide +kernel
theorem d_Md_activate_77 : decode c_Md_activate 77 = .ok (.ifCond .eq 9, 3) := by decide +kernel
theorem d_Md_activate_80 : decode c_Md_activate 80 = .ok (.aload_n 0, 1) := by decide +kernel
theorem d_Md_activate_81 : decode c_Md_activate 81 = .ok (.iload_n 3, 1) := by decide +kernel
theorem d_Md_activate_82 : decode c_Md_activate 82 = .ok (.iconst 0, 1) := by decide +kernel
theorem d_Md_activate_83 : decode c_Md_activate 83 = .ok (.invokevirtual 275, 3) := by decide +kernel
theorem d_Md_activate_86 : decode c_Md_activate 86 = .ok (.iinc 3 1, 3) := by decide +kernel
theorem d_Md_activate_89 : decode c_Md_activate 89 = .ok (.goto (-58), 3) := by decide +kernel
theorem d_Md_activate_92 : decode c_Md_activate 92 = .ok (.iconst 1, 1) := by decide +kernel
theorem d_Md_activate_93 : decode c_Md_activate 93 = .ok (.ireturn, 1) := by decide +kernel
def f_Md_activate_18 (a : Nat) : sn_M := r_Z (0 : Int32)
set_option maxHeartbeats 4000000 in
set_option maxRecDepth 100000 in
theorem mono_Md_activate_18 (a : Nat) : sn_Mono (f_Md_activate_18 a) := sn_Mono.rZ
set_option maxHeartbeats 4000000 in
set_option maxRecDepth 100000 in
theorem s_Md_activate_18 {X : sn_X} (C : sn_Cx X c_Md_activate "SignalNetworkModel" (some .boolean) "activate" 4 6 148) (a : Nat) : sn_S X 18 [(0, vA (some a))] [] (f_Md_activate_18 a) := by
  unfold f_Md_activate_18
  refine r_iconst (q := 19) (v := 0) C d_Md_activate_18 rfl (by decide) ?_
  exact r_zret C d_Md_activate_19 rfl
def f_Md_activate_86 (k31 : Int32 → Int32 → Int32 → sn_M) (a : Nat) (x1 : Int32) (x2 : Int32) (x3 : Int32) : sn_M := k31 x1 x2 (x3 + (1 : Int32))
set_option maxHeartbeats 4000000 in
set_option maxRecDepth 100000 in
theorem mono_Md_activate_86 (k31 : Int32 → Int32 → Int32 → sn_M) (mk31 : ∀ (x1 : Int32) (x2 : Int32) (x3 : Int32), sn_Mono (k31 x1 x2 x3)) (a : Nat) (x1 : Int32) (x2 : Int32) (x3 : Int32) : sn_Mono (f_Md_activate_86 k31 a x1 x2 x3) := mk31 x1 x2 (x3 + (1 : Int32))
set_option maxHeartbeats 4000000 in
set_option maxRecDepth 100000 in
theorem s_Md_activate_86 {X : sn_X} (C : sn_Cx X c_Md_activate "SignalNetworkModel" (some .boolean) "activate" 4 6 148) (a : Nat) (k31 : Int32 → Int32 → Int32 → sn_M) (hk31 : ∀ (x1 : Int32) (x2 : Int32) (x3 : Int32), sn_S X 31 [(0, vA (some a)), (1, vI x1), (2, vI x2), (3, vI x3)] [] (k31 x1 x2 x3)) (x1 : Int32) (x2 : Int32) (x3 : Int32) : sn_S X 86 [(0, vA (some a)), (1, vI x1), (2, vI x2), (3, vI x3)] [] (f_Md_activate_86 k31 a x1 x2 x3) := by
  unfold f_Md_activate_86
  refine r_iinc (q := 89) (pl := 3) (v := x3 + (1 : Int32)) (lv' := [(3, vI (x3 + (1 : Int32))), (0, vA (some a)), (1, vI x1), (2, vI x2)]) C d_Md_activate_86 rfl rfl rfl (by decide) rfl ?_
  refine r_goto (tgt := 31) C d_Md_activate_89 (by decide) ?_
  refine r_sub (lv' := [(0, vA (some a)), (1, vI x1), (2, vI x2), (3, vI (x3 + (1 : Int32)))]) [1, 2, 3, 0] rfl ?_
  exact hk31 x1 x2 (x3 + (1 : Int32))
def f_Md_activate_67 (k31 : Int32 → Int32 → Int32 → sn_M) (a : Nat) (x1 : Int32) (x2 : Int32) (x3 : Int32) : sn_M := (if ¬ x2 = 0 then f_Md_activate_86 k31 a x1 x2 x3 else g_R 12 10 (some a) fun v1 => a_I 31 v1 x3 fun v2 => (if v2 = 0 then f_Md_activate_86 k31 a x1 x2 x3 else n_n 12 (some a) fun a3 => c_V (f_Md_fail a3 x3 (0 : Int32)) (f_Md_activate_86 k31 a x1 x2 x3)))
set_option maxHeartbeats 4000000 in
set_option maxRecDepth 100000 in
theorem mono_Md_activate_67 (k31 : Int32 → Int32 → Int32 → sn_M) (mk31 : ∀ (x1 : Int32) (x2 : Int32) (x3 : Int32), sn_Mono (k31 x1 x2 x3)) (a : Nat) (x1 : Int32) (x2 : Int32) (x3 : Int32) : sn_Mono (f_Md_activate_67 k31 a x1 x2 x3) := sn_Mono.ite (mono_Md_activate_86 k31 mk31 a x1 x2 x3) (sn_Mono.gR (fun v1 => sn_Mono.aI (fun v2 => sn_Mono.ite (mono_Md_activate_86 k31 mk31 a x1 x2 x3) (sn_Mono.nn (fun a3 => sn_Mono.cV (mono_Md_fail a3 x3 (0 : Int32)) (mono_Md_activate_86 k31 mk31 a x1 x2 x3))))))
set_option maxHeartbeats 4000000 in
set_option maxRecDepth 100000 in
theorem s_Md_activate_67 {X : sn_X} (C : sn_Cx X c_Md_activate "SignalNetworkModel" (some .boolean) "activate" 4 6 148) (a : Nat) (k31 : Int32 → Int32 → Int32 → sn_M) (hk31 : ∀ (x1 : Int32) (x2 : Int32) (x3 : Int32), sn_S X 31 [(0, vA (some a)), (1, vI x1), (2, vI x2), (3, vI x3)] [] (k31 x1 x2 x3)) (x1 : Int32) (x2 : Int32) (x3 : Int32) : sn_S X 67 [(0, vA (some a)), (1, vI x1), (2, vI x2), (3, vI x3)] [] (f_Md_activate_67 k31 a x1 x2 x3) := by
  unfold f_Md_activate_67
  refine r_iload_n (q := 68) (i := 2) (pl := 2) C d_Md_activate_67 rfl rfl rfl ?_
  refine r_if_ne (tgt := 86) (q := 71) C d_Md_activate_68 (by decide) rfl ?_ ?_
  · exact s_Md_activate_86 C a k31 hk31 x1 x2 x3
  · refine r_aload_n (q := 72) (i := 0) (pl := 0) C d_Md_activate_71 rfl rfl rfl ?_
    refine r_gR (q := 75) C d_Md_activate_72 rfl F_Md_23 rfl (fun v1 => ?_)
    refine r_iload_n (q := 76) (i := 3) (pl := 3) C d_Md_activate_75 rfl rfl rfl ?_
    refine r_aI (q := 77) C (Or.inr rfl) d_Md_activate_76 rfl (fun v2 => ?_)
    refine r_if_eq (tgt := 86) (q := 80) C d_Md_activate_77 (by decide) rfl ?_ ?_
    · exact s_Md_activate_86 C a k31 hk31 x1 x2 x3
    · refine r_aload_n (q := 81) (i := 0) (pl := 0) C d_Md_activate_80 rfl rfl rfl ?_
      refine r_iload_n (q := 82) (i := 3) (pl := 3) C d_Md_activate_81 rfl rfl rfl ?_
      refine r_iconst (q := 83) (v := 0) C d_Md_activate_82 rfl (by decide) ?_
      refine r_cvV (q := 86) (As := [vI x3, vI (0 : Int32)]) (st := []) (cy := 11) C d_Md_activate_83 rfl Y_Md_fail L_Md_275 I_Md_fail Se_Md_fail rfl (by decide) rfl (Nat.le_of_ble_eq_true rfl) (Nat.le_of_ble_eq_true rfl) (Nat.le_of_ble_eq_true rfl) rfl (fun a3 => con_Md_fail a3 x3 (0 : Int32)) ?_
      exact s_Md_activate_86 C a k31 hk31 x1 x2 x3
def f_Md_activate_31 (a : Nat) : Nat → Int32 → Int32 → Int32 → sn_M
  | 0, _, _, _ => r_0
  | n + 1, x1, x2, x3 => (if (((2 : Int32) * x1) + (2 : Int32)) ≤ x3 then r_Z (1 : Int32) else (if x2 = 0 then f_Md_activate_67 (f_Md_activate_31 a n) a x1 x2 x3 else g_R 12 10 (some a) fun v5 => a_I 31 v5 x3 fun v6 => (if ¬ v6 = 0 then f_Md_activate_67 (f_Md_activate_31 a n) a x1 x2 x3 else g_R 12 11 (some a) fun v7 => a_I 31 v7 x3 fun v8 => (if ¬ v8 = 0 then f_Md_activate_67 (f_Md_activate_31 a n) a x1 x2 x3 else n_n 12 (some a) fun a9 => c_V (f_Md_start a9 x3) (f_Md_activate_67 (f_Md_activate_31 a n) a x1 x2 x3)))))
set_option maxHeartbeats 4000000 in
set_option maxRecDepth 100000 in
theorem mono_Md_activate_31 (a : Nat) : ∀ (n : Nat) (x1 : Int32) (x2 : Int32) (x3 : Int32), sn_Mono (f_Md_activate_31 a n x1 x2 x3)
  | 0, _, _, _ => sn_Mono.r0
  | n + 1, x1, x2, x3 => sn_Mono.ite (sn_Mono.rZ) (sn_Mono.ite (mono_Md_activate_67 (f_Md_activate_31 a n) (mono_Md_activate_31 a n) a x1 x2 x3) (sn_Mono.gR (fun v5 => sn_Mono.aI (fun v6 => sn_Mono.ite (mono_Md_activate_67 (f_Md_activate_31 a n) (mono_Md_activate_31 a n) a x1 x2 x3) (sn_Mono.gR (fun v7 => sn_Mono.aI (fun v8 => sn_Mono.ite (mono_Md_activate_67 (f_Md_activate_31 a n) (mono_Md_activate_31 a n) a x1 x2 x3) (sn_Mono.nn (fun a9 => sn_Mono.cV (mono_Md_start a9 x3) (mono_Md_activate_67 (f_Md_activate_31 a n) (mono_Md_activate_31 a n) a x1 x2 x3))))))))))
set_option maxHeartbeats 4000000 in
set_option maxRecDepth 100000 in
theorem s_Md_activate_31 {X : sn_X} (C : sn_Cx X c_Md_activate "SignalNetworkModel" (some .boolean) "activate" 4 6 148) (a : Nat) (n : Nat) : ∀ (x1 : Int32) (x2 : Int32) (x3 : Int32), sn_S X 31 [(0, vA (some a)), (1, vI x1), (2, vI x2), (3, vI x3)] [] (f_Md_activate_31 a n x1 x2 x3) := by
  induction n with
  | zero => intro x1 x2 x3; exact sn_S.zero
  | succ n ih =>
    intro x1 x2 x3
    unfold f_Md_activate_31
    refine r_iload_n (q := 32) (i := 3) (pl := 3) C d_Md_activate_31 rfl rfl rfl ?_
    refine r_iconst (q := 33) (v := 2) C d_Md_activate_32 rfl (by decide) ?_
    refine r_iload_n (q := 34) (i := 1) (pl := 1) C d_Md_activate_33 rfl rfl rfl ?_
    refine r_imul (q := 35) C d_Md_activate_34 rfl ?_
    refine r_iconst (q := 36) (v := 2) C d_Md_activate_35 rfl (by decide) ?_
    refine r_iadd (q := 37) C d_Md_activate_36 rfl ?_
    refine r_icmp_ge (tgt := 92) (q := 40) C d_Md_activate_37 (by decide) rfl ?_ ?_
    · refine r_iconst (q := 93) (v := 1) C d_Md_activate_92 rfl (by decide) ?_
      exact r_zret C d_Md_activate_93 rfl
    · refine r_iload_n (q := 41) (i := 2) (pl := 2) C d_Md_activate_40 rfl rfl rfl ?_
      refine r_if_eq (tgt := 67) (q := 44) C d_Md_activate_41 (by decide) rfl ?_ ?_
      · exact s_Md_activate_67 C a (f_Md_activate_31 a n) ih x1 x2 x3
      · refine r_aload_n (q := 45) (i := 0) (pl := 0) C d_Md_activate_44 rfl rfl rfl ?_
        refine r_gR (q := 48) C d_Md_activate_45 rfl F_Md_23 rfl (fun v5 => ?_)
        refine r_iload_n (q := 49) (i := 3) (pl := 3) C d_Md_activate_48 rfl rfl rfl ?_
        refine r_aI (q := 50) C (Or.inr rfl) d_Md_activate_49 rfl (fun v6 => ?_)
        refine r_if_ne (tgt := 67) (q := 53) C d_Md_activate_50 (by decide) rfl ?_ ?_
        · exact s_Md_activate_67 C a (f_Md_activate_31 a n) ih x1 x2 x3
        · refine r_aload_n (q := 54) (i := 0) (pl := 0) C d_Md_activate_53 rfl rfl rfl ?_
          refine r_gR (q := 57) C d_Md_activate_54 rfl F_Md_26 rfl (fun v7 => ?_)
          refine r_iload_n (q := 58) (i := 3) (pl := 3) C d_Md_activate_57 rfl rfl rfl ?_
          refine r_aI (q := 59) C (Or.inr rfl) d_Md_activate_58 rfl (fun v8 => ?_)
          refine r_if_ne (tgt := 67) (q := 62) C d_Md_activate_59 (by decide) rfl ?_ ?_
          · exact s_Md_activate_67 C a (f_Md_activate_31 a n) ih x1 x2 x3
          · refine r_aload_n (q := 63) (i := 0) (pl := 0) C d_Md_activate_62 rfl rfl rfl ?_
            refine r_iload_n (q := 64) (i := 3) (pl := 3) C d_Md_activate_63 rfl rfl rfl ?_
            refine r_cvV (q := 67) (As := [vI x3]) (st := []) (cy := 11) C d_Md_activate_64 rfl Y_Md_start L_Md_305 I_Md_start Se_Md_start rfl (by decide) rfl (Nat.le_of_ble_eq_true rfl) (Nat.le_of_ble_eq_true rfl) (Nat.le_of_ble_eq_true rfl) rfl (fun a9 => con_Md_start a9 x3) ?_
            exact s_Md_activate_67 C a (f_Md_activate_31 a n) ih x1 x2 x3
def f_Md_activate (a : Nat) (x1 : Int32) (x2 : Int32) : sn_M := n_n 12 (some a) fun a11 => c_I (f_Md_isLink a11 x1) fun v12 => (if v12 = 0 then f_Md_activate_18 a else g_R 12 2 (some a) fun v13 => a_I 33 v13 x1 fun v14 => (if ¬ v14 = x2 then g_R 12 2 (some a) fun v15 => b_Z 33 v15 x1 x2 (n_I (((2 : Int32) * x1)) fun n16 => f_Md_activate_31 a sn_fuel x1 x2 n16) else f_Md_activate_18 a))
set_option maxHeartbeats 4000000 in
set_option maxRecDepth 100000 in
theorem mono_Md_activate (a : Nat) (x1 : Int32) (x2 : Int32) : sn_Mono (f_Md_activate a x1 x2) := sn_Mono.nn (fun a11 => sn_Mono.cI (mono_Md_isLink a11 x1) (fun v12 => sn_Mono.ite (mono_Md_activate_18 a) (sn_Mono.gR (fun v13 => sn_Mono.aI (fun v14 => sn_Mono.ite (sn_Mono.gR (fun v15 => sn_Mono.bZ (sn_Mono.nI (fun n16 => mono_Md_activate_31 a sn_fuel x1 x2 n16)))) (mono_Md_activate_18 a))))))
set_option maxHeartbeats 4000000 in
set_option maxRecDepth 100000 in
theorem con_Md_activate (a : Nat) (x1 : Int32) (x2 : Int32) : sn_Con y_Md_activate c_Md_activate 4 (some .boolean) 6 148 [vA (some a), vI x1, vI x2] (f_Md_activate a x1 x2) := by
  refine sn_Con.of (by decide +kernel) (by show _ ≤ _; exact Nat.le_of_ble_eq_true rfl) (mono_Md_activate a x1 x2) (fun X C => ?_)
  show sn_S X 0 [(0, vA (some a)), (1, vI x1), (2, vI x2)] [] _
  replace C : sn_Cx X c_Md_activate "SignalNetworkModel" (some .boolean) "activate" 4 6 148 := C
  unfold f_Md_activate
  refine r_aload_n (q := 1) (i := 0) (pl := 0) C d_Md_activate_0 rfl rfl rfl ?_
  refine r_iload_n (q := 2) (i := 1) (pl := 1) C d_Md_activate_1 rfl rfl rfl ?_
  refine r_cvI (q := 5) (As := [vI x1]) (st := []) (cy := 11) C d_Md_activate_2 rfl Y_Md_isLink L_Md_403 I_Md_isLink Se_Md_isLink rfl (by decide) rfl (Nat.le_of_ble_eq_true rfl) (Nat.le_of_ble_eq_true rfl) (Nat.le_of_ble_eq_true rfl) rfl (fun a11 => con_Md_isLink a11 x1) (fun v12 => ?_)
  refine r_if_eq (tgt := 18) (q := 8) C d_Md_activate_5 (by decide) rfl ?_ ?_
  · refine r_sub (lv' := [(0, vA (some a))]) [0] rfl ?_
    exact s_Md_activate_18 C a
  · refine r_aload_n (q := 9) (i := 0) (pl := 0) C d_Md_activate_8 rfl rfl rfl ?_
    refine r_gR (q := 12) C d_Md_activate_9 rfl F_Md_16 rfl (fun v13 => ?_)
    refine r_iload_n (q := 13) (i := 1) (pl := 1) C d_Md_activate_12 rfl rfl rfl ?_
    refine r_aZ (q := 14) C (Or.inr rfl) d_Md_activate_13 rfl (fun v14 => ?_)
    refine r_iload_n (q := 15) (i := 2) (pl := 2) C d_Md_activate_14 rfl rfl rfl ?_
    refine r_icmp_ne (tgt := 20) (q := 18) C d_Md_activate_15 (by decide) rfl ?_ ?_
    · refine r_aload_n (q := 21) (i := 0) (pl := 0) C d_Md_activate_20 rfl rfl rfl ?_
      refine r_gR (q := 24) C d_Md_activate_21 rfl F_Md_16 rfl (fun v15 => ?_)
      refine r_iload_n (q := 25) (i := 1) (pl := 1) C d_Md_activate_24 rfl rfl rfl ?_
      refine r_iload_n (q := 26) (i := 2) (pl := 2) C d_Md_activate_25 rfl rfl rfl ?_
      refine r_bZ (q := 27) C (Or.inr rfl) d_Md_activate_26 rfl ?_
      refine r_iconst (q := 28) (v := 2) C d_Md_activate_27 rfl (by decide) ?_
      refine r_iload_n (q := 29) (i := 1) (pl := 1) C d_Md_activate_28 rfl rfl rfl ?_
      refine r_imul (q := 30) C d_Md_activate_29 rfl ?_
      refine r_nI (fun n16 => ?_)
      refine r_istore_n (q := 31) (i := 3) (lv' := [(3, vI n16), (0, vA (some a)), (1, vI x1), (2, vI x2)]) C d_Md_activate_30 rfl rfl (by decide) rfl ?_
      refine r_sub (lv' := [(0, vA (some a)), (1, vI x1), (2, vI x2), (3, vI n16)]) [1, 2, 3, 0] rfl ?_
      exact s_Md_activate_31 C a sn_fuel x1 x2 n16
    · refine r_sub (lv' := [(0, vA (some a))]) [0] rfl ?_
      exact s_Md_activate_18 C a
theorem d_Md_cut_0 : decode c_Md_cut 0 = .ok (.aload_n 0, 1) := by decide +kernel
theorem d_Md_cut_1 : decode c_Md_cut 1 = .ok (.iload_n 1, 1) := by decide +kernel
theorem d_Md_cut_2 : decode c_Md_cut 2 = .ok (.invokevirtual 403, 3) := by decide +kernel
theorem d_Md_cut_5 : decode c_Md_cut 5 = .ok (.ifCond .ne 5, 3) := by decide +kernel
theorem d_Md_cut_8 : decode c_Md_cut 8 = .ok (.iconst 0, 1) := by decide +kernel
theorem d_Md_cut_9 : decode c_Md_cut 9 = .ok (.ireturn, 1) := by decide +kernel
theorem d_Md_cut_10 : decode c_Md_cut 10 = .ok (.aload_n 0, 1) := by decide +kernel
theorem d_Md_cut_11 : decode c_Md_cut 11 = .ok (.getfield 20, 3) := by decide +kernel
theorem d_Md_cut_14 : decode c_Md_cut 14 = .ok (.iload_n 1, 1) := by decide +kernel
theorem d_Md_cut_15 : decode c_Md_cut 15 = .ok (.iload_n 2, 1) := by decide +kernel
theorem d_Md_cut_16 : decode c_Md_cut 16 = .ok (.bastore, 1) := by decide +kernel
theorem d_Md_cut_17 : decode c_Md_cut 17 = .ok (.iconst 1, 1) := by decide +kernel
theorem d_Md_cut_18 : decode c_Md_cut 18 = .ok (.ireturn, 1) := by decide +kernel
def f_Md_cut (a : Nat) (x1 : Int32) (x2 : Int32) : sn_M := n_n 12 (some a) fun a1 => c_I (f_Md_isLink a1 x1) fun v2 => (if ¬ v2 = 0 then g_R 12 3 (some a) fun v3 => b_Z 33 v3 x1 x2 (r_Z (1 : Int32)) else r_Z (0 : Int32))
set_option maxHeartbeats 4000000 in
set_option maxRecDepth 100000 in
theorem mono_Md_cut (a : Nat) (x1 : Int32) (x2 : Int32) : sn_Mono (f_Md_cut a x1 x2) := sn_Mono.nn (fun a1 => sn_Mono.cI (mono_Md_isLink a1 x1) (fun v2 => sn_Mono.ite (sn_Mono.gR (fun v3 => sn_Mono.bZ (sn_Mono.rZ))) (sn_Mono.rZ)))
set_option maxHeartbeats 4000000 in
set_option maxRecDepth 100000 in
theorem con_Md_cut (a : Nat) (x1 : Int32) (x2 : Int32) : sn_Con y_Md_cut c_Md_cut 3 (some .boolean) 1 21 [vA (some a), vI x1, vI x2] (f_Md_cut a x1 x2) := by
  refine sn_Con.of (by decide +kernel) (by show _ ≤ _; exact Nat.le_of_ble_eq_true rfl) (mono_Md_cut a x1 x2) (fun X C => ?_)
  show sn_S X 0 [(0, vA (some a)), (1, vI x1), (2, vI x2)] [] _
  replace C : sn_Cx X c_Md_cut "SignalNetworkModel" (some .boolean) "cut" 3 1 21 := C
  unfold f_Md_cut
  refine r_aload_n (q := 1) (i := 0) (pl := 0) C d_Md_cut_0 rfl rfl rfl ?_
  refine r_iload_n (q := 2) (i := 1) (pl := 1) C d_Md_cut_1 rfl rfl rfl ?_
  refine r_cvI (q := 5) (As := [vI x1]) (st := []) (cy := 11) C d_Md_cut_2 rfl Y_Md_isLink L_Md_403 I_Md_isLink Se_Md_isLink rfl (by decide) rfl (Nat.le_of_ble_eq_true rfl) (Nat.le_of_ble_eq_true rfl) (Nat.le_of_ble_eq_true rfl) rfl (fun a1 => con_Md_isLink a1 x1) (fun v2 => ?_)
  refine r_if_ne (tgt := 10) (q := 8) C d_Md_cut_5 (by decide) rfl ?_ ?_
  · refine r_aload_n (q := 11) (i := 0) (pl := 0) C d_Md_cut_10 rfl rfl rfl ?_
    refine r_gR (q := 14) C d_Md_cut_11 rfl F_Md_20 rfl (fun v3 => ?_)
    refine r_iload_n (q := 15) (i := 1) (pl := 1) C d_Md_cut_14 rfl rfl rfl ?_
    refine r_iload_n (q := 16) (i := 2) (pl := 2) C d_Md_cut_15 rfl rfl rfl ?_
    refine r_bZ (q := 17) C (Or.inr rfl) d_Md_cut_16 rfl ?_
    refine r_iconst (q := 18) (v := 1) C d_Md_cut_17 rfl (by decide) ?_
    exact r_zret C d_Md_cut_18 rfl
  · refine r_iconst (q := 9) (v := 0) C d_Md_cut_8 rfl (by decide) ?_
    exact r_zret C d_Md_cut_9 rfl
theorem d_Md_damage_0 : decode c_Md_damage 0 = .ok (.aload_n 0, 1) := by decide +kernel
theorem d_Md_damage_1 : decode c_Md_damage 1 = .ok (.iload_n 1, 1) := by decide +kernel
theorem d_Md_damage_2 : decode c_Md_damage 2 = .ok (.iload_n 2, 1) := by decide +kernel
theorem d_Md_damage_3 : decode c_Md_damage 3 = .ok (.invokevirtual 406, 3) := by decide +kernel
theorem d_Md_damage_6 : decode c_Md_damage 6 = .ok (.ifCond .eq 13, 3) := by decide +kernel
theorem d_Md_damage_9 : decode c_Md_damage 9 = .ok (.iload_n 3, 1) := by decide +kernel
theorem d_Md_damage_10 : decode c_Md_damage 10 = .ok (.ifCond .lt 9, 3) := by decide +kernel
theorem d_Md_damage_13 : decode c_Md_damage 13 = .ok (.iload_n 3, 1) := by decide +kernel
theorem d_Md_damage_14 : decode c_Md_damage 14 = .ok (.bipush 100, 2) := by decide +kernel
theorem d_Md_damage_16 : decode c_Md_damage 16 = .ok (.if_icmp .le 5, 3) := by decide +kernel
theorem d_Md_damage_19 : decode c_Md_damage 19 = .ok (.iconst 0, 1) := by decide +kernel
theorem d_Md_damage_20 : decode c_Md_damage 20 = .ok (.ireturn, 1) := by decide +kernel
theorem d_Md_damage_21 : decode c_Md_damage 21 = .ok (.aload_n 0, 1) := by decide +kernel
theorem d_Md_damage_22 : decode c_Md_damage 22 = .ok (.getfield 59, 3) := by decide +kernel
theorem d_Md_damage_25 : decode c_Md_damage 25 = .ok (.iconst 2, 1) := by decide +kernel
theorem d_Md_damage_26 : decode c_Md_damage 26 = .ok (.iload_n 1, 1) := by decide +kernel
theorem d_Md_damage_27 : decode c_Md_damage 27 = .ok (.imul, 1) := by decide +kernel
theorem d_Md_damage_28 : decode c_Md_damage 28 = .ok (.iload_n 2, 1) := by decide +kernel
theorem d_Md_damage_29 : decode c_Md_damage 29 = .ok (.iadd, 1) := by decide +kernel
theorem d_Md_damage_30 : decode c_Md_damage 30 = .ok (.iload_n 3, 1) := by decide +kernel
theorem d_Md_damage_31 : decode c_Md_damage 31 = .ok (.iastore, 1) := by decide +kernel
theorem d_Md_damage_32 : decode c_Md_damage 32 = .ok (.iconst 1, 1) := by decide +kernel
theorem d_Md_damage_33 : decode c_Md_damage 33 = .ok (.ireturn, 1) := by decide +kernel
def f_Md_damage_19 (a : Nat) : sn_M := r_Z (0 : Int32)
set_option maxHeartbeats 4000000 in
set_option maxRecDepth 100000 in
theorem mono_Md_damage_19 (a : Nat) : sn_Mono (f_Md_damage_19 a) := sn_Mono.rZ
set_option maxHeartbeats 4000000 in
set_option maxRecDepth 100000 in
theorem s_Md_damage_19 {X : sn_X} (C : sn_Cx X c_Md_damage "SignalNetworkModel" (some .boolean) "damage" 4 2 43) (a : Nat) : sn_S X 19 [(0, vA (some a))] [] (f_Md_damage_19 a) := by
  unfold f_Md_damage_19
  refine r_iconst (q := 20) (v := 0) C d_Md_damage_19 rfl (by decide) ?_
  exact r_zret C d_Md_damage_20 rfl
def f_Md_damage (a : Nat) (x1 : Int32) (x2 : Int32) (x3 : Int32) : sn_M := n_n 12 (some a) fun a1 => c_I (f_Md_isEnd a1 x1 x2) fun v2 => (if v2 = 0 then f_Md_damage_19 a else (if x3 < 0 then f_Md_damage_19 a else (if x3 ≤ (100 : Int32) then g_R 12 22 (some a) fun v3 => b_I 31 v3 (((2 : Int32) * x1) + x2) x3 (r_Z (1 : Int32)) else f_Md_damage_19 a)))
set_option maxHeartbeats 4000000 in
set_option maxRecDepth 100000 in
theorem mono_Md_damage (a : Nat) (x1 : Int32) (x2 : Int32) (x3 : Int32) : sn_Mono (f_Md_damage a x1 x2 x3) := sn_Mono.nn (fun a1 => sn_Mono.cI (mono_Md_isEnd a1 x1 x2) (fun v2 => sn_Mono.ite (mono_Md_damage_19 a) (sn_Mono.ite (mono_Md_damage_19 a) (sn_Mono.ite (sn_Mono.gR (fun v3 => sn_Mono.bI (sn_Mono.rZ))) (mono_Md_damage_19 a)))))
set_option maxHeartbeats 4000000 in
set_option maxRecDepth 100000 in
theorem con_Md_damage (a : Nat) (x1 : Int32) (x2 : Int32) (x3 : Int32) : sn_Con y_Md_damage c_Md_damage 4 (some .boolean) 2 43 [vA (some a), vI x1, vI x2, vI x3] (f_Md_damage a x1 x2 x3) := by
  refine sn_Con.of (by decide +kernel) (by show _ ≤ _; exact Nat.le_of_ble_eq_true rfl) (mono_Md_damage a x1 x2 x3) (fun X C => ?_)
  show sn_S X 0 [(0, vA (some a)), (1, vI x1), (2, vI x2), (3, vI x3)] [] _
  replace C : sn_Cx X c_Md_damage "SignalNetworkModel" (some .boolean) "damage" 4 2 43 := C
  unfold f_Md_damage
  refine r_aload_n (q := 1) (i := 0) (pl := 0) C d_Md_damage_0 rfl rfl rfl ?_
  refine r_iload_n (q := 2) (i := 1) (pl := 1) C d_Md_damage_1 rfl rfl rfl ?_
  refine r_iload_n (q := 3) (i := 2) (pl := 2) C d_Md_damage_2 rfl rfl rfl ?_
  refine r_cvI (q := 6) (As := [vI x1, vI x2]) (st := []) (cy := 11) C d_Md_damage_3 rfl Y_Md_isEnd L_Md_406 I_Md_isEnd Se_Md_isEnd rfl (by decide) rfl (Nat.le_of_ble_eq_true rfl) (Nat.le_of_ble_eq_true rfl) (Nat.le_of_ble_eq_true rfl) rfl (fun a1 => con_Md_isEnd a1 x1 x2) (fun v2 => ?_)
  refine r_if_eq (tgt := 19) (q := 9) C d_Md_damage_6 (by decide) rfl ?_ ?_
  · refine r_sub (lv' := [(0, vA (some a))]) [0] rfl ?_
    exact s_Md_damage_19 C a
  · refine r_iload_n (q := 10) (i := 3) (pl := 3) C d_Md_damage_9 rfl rfl rfl ?_
    refine r_if_lt (tgt := 19) (q := 13) C d_Md_damage_10 (by decide) rfl ?_ ?_
    · refine r_sub (lv' := [(0, vA (some a))]) [0] rfl ?_
      exact s_Md_damage_19 C a
    · refine r_iload_n (q := 14) (i := 3) (pl := 3) C d_Md_damage_13 rfl rfl rfl ?_
      refine r_bipush (q := 16) (v := 100) C d_Md_damage_14 rfl (by decide) ?_
      refine r_icmp_le (tgt := 21) (q := 19) C d_Md_damage_16 (by decide) rfl ?_ ?_
      · refine r_aload_n (q := 22) (i := 0) (pl := 0) C d_Md_damage_21 rfl rfl rfl ?_
        refine r_gR (q := 25) C d_Md_damage_22 rfl F_Md_59 rfl (fun v3 => ?_)
        refine r_iconst (q := 26) (v := 2) C d_Md_damage_25 rfl (by decide) ?_
        refine r_iload_n (q := 27) (i := 1) (pl := 1) C d_Md_damage_26 rfl rfl rfl ?_
        refine r_imul (q := 28) C d_Md_damage_27 rfl ?_
        refine r_iload_n (q := 29) (i := 2) (pl := 2) C d_Md_damage_28 rfl rfl rfl ?_
        refine r_iadd (q := 30) C d_Md_damage_29 rfl ?_
        refine r_iload_n (q := 31) (i := 3) (pl := 3) C d_Md_damage_30 rfl rfl rfl ?_
        refine r_bI (q := 32) C (Or.inr rfl) d_Md_damage_31 rfl ?_
        refine r_iconst (q := 33) (v := 1) C d_Md_damage_32 rfl (by decide) ?_
        exact r_zret C d_Md_damage_33 rfl
      · refine r_sub (lv' := [(0, vA (some a))]) [0] rfl ?_
        exact s_Md_damage_19 C a
theorem d_Md_tick_0 : decode c_Md_tick 0 = .ok (.iload_n 1, 1) := by decide +kernel
theorem d_Md_tick_1 : decode c_Md_tick 1 = .ok (.ifCond .lt 10, 3) := by decide +kernel
theorem d_Md_tick_4 : decode c_Md_tick 4 = .ok (.iload_n 1, 1) := by decide +kernel
theorem d_Md_tick_5 : decode c_Md_tick 5 = .ok (.sipush 200, 3) := by decide +kernel
theorem d_Md_tick_8 : decode c_Md_tick 8 = .ok (.if_icmp .le 5, 3) := by decide +kernel
theorem d_Md_tick_11 : decode c_Md_tick 11 = .ok (.iconst (-1), 1) := by decide +kernel
theorem d_Md_tick_12 : decode c_Md_tick 12 = .ok (.ireturn, 1) := by decide +kernel
theorem d_Md_tick_13 : decode c_Md_tick 13 = .ok (.iconst 0, 1) := by decide +kernel
theorem d_Md_tick_14 : decode c_Md_tick 14 = .ok (.istore_n 2, 1) := by decide +kernel
theorem d_Md_tick_15 : decode c_Md_tick 15 = .ok (.iload_n 2, 1) := by decide +kernel
theorem d_Md_tick_16 : decode c_Md_tick 16 = .ok (.iload_n 1, 1) := by decide +kernel
theorem d_Md_tick_17 : decode c_Md_tick 17 = .ok (.if_icmp .ge 13, 3) := by decide +kernel
theorem d_Md_tick_20 : decode c_Md_tick 20 = .ok (.aload_n 0, 1) := by decide +kernel
theorem d_Md_tick_21 : decode c_Md_tick 21 = .ok (.invokevirtual 409, 3) := by decide +kernel
theorem d_Md_tick_24 : decode c_Md_tick 24 = .ok (.iinc 2 1, 3) := by decide +kernel
theorem d_Md_tick_27 : decode c_Md_tick 27 = .ok (.goto (-12), 3) := by decide +kernel
theorem d_Md_tick_30 : decode c_Md_tick 30 = .ok (.aload_n 0, 1) := by decide +kernel
theorem d_Md_tick_31 : decode c_Md_tick 31 = .ok (.getfield 397, 3) := by decide +kernel
theorem d_Md_tick_34 : decode c_Md_tick 34 = .ok (.ireturn, 1) := by decide +kernel
def f_Md_tick_11 (a : Nat) : sn_M := r_I (-1 : Int32)
set_option maxHeartbeats 4000000 in
set_option maxRecDepth 100000 in
theorem mono_Md_tick_11 (a : Nat) : sn_Mono (f_Md_tick_11 a) := sn_Mono.rI
set_option maxHeartbeats 4000000 in
set_option maxRecDepth 100000 in
theorem s_Md_tick_11 {X : sn_X} (C : sn_Cx X c_Md_tick "SignalNetworkModel" (some .int) "tick" 3 15 372) (a : Nat) : sn_S X 11 [(0, vA (some a))] [] (f_Md_tick_11 a) := by
  unfold f_Md_tick_11
  refine r_iconst (q := 12) (v := -1) C d_Md_tick_11 rfl (by decide) ?_
  exact r_iret C d_Md_tick_12 rfl
def f_Md_tick_15 (a : Nat) : Nat → Int32 → Int32 → sn_M
  | 0, _, _ => r_0
  | n + 1, x1, x2 => (if x1 ≤ x2 then g_I 12 5 (some a) fun v1 => r_I v1 else n_n 12 (some a) fun a2 => c_V (f_Md_one a2) (f_Md_tick_15 a n x1 (x2 + (1 : Int32))))
set_option maxHeartbeats 4000000 in
set_option maxRecDepth 100000 in
theorem mono_Md_tick_15 (a : Nat) : ∀ (n : Nat) (x1 : Int32) (x2 : Int32), sn_Mono (f_Md_tick_15 a n x1 x2)
  | 0, _, _ => sn_Mono.r0
  | n + 1, x1, x2 => sn_Mono.ite (sn_Mono.gI (fun v1 => sn_Mono.rI)) (sn_Mono.nn (fun a2 => sn_Mono.cV (mono_Md_one a2) (mono_Md_tick_15 a n x1 (x2 + (1 : Int32)))))
set_option maxHeartbeats 4000000 in
set_option maxRecDepth 100000 in
theorem s_Md_tick_15 {X : sn_X} (C : sn_Cx X c_Md_tick "SignalNetworkModel" (some .int) "tick" 3 15 372) (a : Nat) (n : Nat) : ∀ (x1 : Int32) (x2 : Int32), sn_S X 15 [(0, vA (some a)), (1, vI x1), (2, vI x2)] [] (f_Md_tick_15 a n x1 x2) := by
  induction n with
  | zero => intro x1 x2; exact sn_S.zero
  | succ n ih =>
    intro x1 x2
    unfold f_Md_tick_15
    refine r_iload_n (q := 16) (i := 2) (pl := 2) C d_Md_tick_15 rfl rfl rfl ?_
    refine r_iload_n (q := 17) (i := 1) (pl := 1) C d_Md_tick_16 rfl rfl rfl ?_
    refine r_icmp_ge (tgt := 30) (q := 20) C d_Md_tick_17 (by decide) rfl ?_ ?_
    · refine r_aload_n (q := 31) (i := 0) (pl := 0) C d_Md_tick_30 rfl rfl rfl ?_
      refine r_gI (q := 34) C d_Md_tick_31 rfl F_Md_397 rfl (fun v1 => ?_)
      exact r_iret C d_Md_tick_34 rfl
    · refine r_aload_n (q := 21) (i := 0) (pl := 0) C d_Md_tick_20 rfl rfl rfl ?_
      refine r_cvV (q := 24) (As := []) (st := []) (cy := 11) C d_Md_tick_21 rfl Y_Md_one L_Md_409 I_Md_one Se_Md_one rfl (by decide) rfl (Nat.le_of_ble_eq_true rfl) (Nat.le_of_ble_eq_true rfl) (Nat.le_of_ble_eq_true rfl) rfl (fun a2 => con_Md_one a2) ?_
      refine r_iinc (q := 27) (pl := 2) (v := x2 + (1 : Int32)) (lv' := [(2, vI (x2 + (1 : Int32))), (0, vA (some a)), (1, vI x1)]) C d_Md_tick_24 rfl rfl rfl (by decide) rfl ?_
      refine r_goto (tgt := 15) C d_Md_tick_27 (by decide) ?_
      refine r_sub (lv' := [(0, vA (some a)), (1, vI x1), (2, vI (x2 + (1 : Int32)))]) [1, 2, 0] rfl ?_
      exact ih x1 (x2 + (1 : Int32))
def f_Md_tick (a : Nat) (x1 : Int32) : sn_M := (if x1 < 0 then f_Md_tick_11 a else (if x1 ≤ (200 : Int32) then f_Md_tick_15 a sn_fuel x1 (0 : Int32) else f_Md_tick_11 a))
set_option maxHeartbeats 4000000 in
set_option maxRecDepth 100000 in
theorem mono_Md_tick (a : Nat) (x1 : Int32) : sn_Mono (f_Md_tick a x1) := sn_Mono.ite (mono_Md_tick_11 a) (sn_Mono.ite (mono_Md_tick_15 a sn_fuel x1 (0 : Int32)) (mono_Md_tick_11 a))
set_option maxHeartbeats 4000000 in
set_option maxRecDepth 100000 in
theorem con_Md_tick (a : Nat) (x1 : Int32) : sn_Con y_Md_tick c_Md_tick 3 (some .int) 15 372 [vA (some a), vI x1] (f_Md_tick a x1) := by
  refine sn_Con.of (by decide +kernel) (by show _ ≤ _; exact Nat.le_of_ble_eq_true rfl) (mono_Md_tick a x1) (fun X C => ?_)
  show sn_S X 0 [(0, vA (some a)), (1, vI x1)] [] _
  replace C : sn_Cx X c_Md_tick "SignalNetworkModel" (some .int) "tick" 3 15 372 := C
  unfold f_Md_tick
  refine r_iload_n (q := 1) (i := 1) (pl := 1) C d_Md_tick_0 rfl rfl rfl ?_
  refine r_if_lt (tgt := 11) (q := 4) C d_Md_tick_1 (by decide) rfl ?_ ?_
  · refine r_sub (lv' := [(0, vA (some a))]) [0] rfl ?_
    exact s_Md_tick_11 C a
  · refine r_iload_n (q := 5) (i := 1) (pl := 1) C d_Md_tick_4 rfl rfl rfl ?_
    refine r_sipush (q := 8) (v := 200) C d_Md_tick_5 rfl (by decide) ?_
    refine r_icmp_le (tgt := 13) (q := 11) C d_Md_tick_8 (by decide) rfl ?_ ?_
    · refine r_iconst (q := 14) (v := 0) C d_Md_tick_13 rfl (by decide) ?_
      refine r_istore_n (q := 15) (i := 2) (lv' := [(2, vI (0 : Int32)), (0, vA (some a)), (1, vI x1)]) C d_Md_tick_14 rfl rfl (by decide) rfl ?_
      refine r_sub (lv' := [(0, vA (some a)), (1, vI x1), (2, vI (0 : Int32))]) [1, 2, 0] rfl ?_
      exact s_Md_tick_15 C a sn_fuel x1 (0 : Int32)
    · refine r_sub (lv' := [(0, vA (some a))]) [0] rfl ?_
      exact s_Md_tick_11 C a
theorem d_Md_personAt_0 : decode c_Md_personAt 0 = .ok (.iload_n 0, 1) := by decide +kernel
theorem d_Md_personAt_1 : decode c_Md_personAt 1 = .ok (.ifCond .lt 31, 3) := by decide +kernel
theorem d_Md_personAt_4 : decode c_Md_personAt 4 = .ok (.iload_n 0, 1) := by decide +kernel
theorem d_Md_personAt_5 : decode c_Md_personAt 5 = .ok (.bipush 60, 2) := by decide +kernel
theorem d_Md_personAt_7 : decode c_Md_personAt 7 = .ok (.if_icmp .ge 25, 3) := by decide +kernel
theorem d_Md_personAt_10 : decode c_Md_personAt 10 = .ok (.iload_n 0, 1) := by decide +kernel
theorem d_Md_personAt_11 : decode c_Md_personAt 11 = .ok (.bipush 10, 2) := by decide +kernel
theorem d_Md_personAt_13 : decode c_Md_personAt 13 = .ok (.irem, 1) := by decide +kernel
theorem d_Md_personAt_14 : decode c_Md_personAt 14 = .ok (.iconst 4, 1) := by decide +kernel
theorem d_Md_personAt_15 : decode c_Md_personAt 15 = .ok (.if_icmp .ge 17, 3) := by decide +kernel
theorem d_Md_personAt_18 : decode c_Md_personAt 18 = .ok (.iconst 4, 1) := by decide +kernel
theorem d_Md_personAt_19 : decode c_Md_personAt 19 = .ok (.iload_n 0, 1) := by decide +kernel
theorem d_Md_personAt_20 : decode c_Md_personAt 20 = .ok (.bipush 10, 2) := by decide +kernel
theorem d_Md_personAt_22 : decode c_Md_personAt 22 = .ok (.idiv, 1) := by decide +kernel
theorem d_Md_personAt_23 : decode c_Md_personAt 23 = .ok (.imul, 1) := by decide +kernel
theorem d_Md_personAt_24 : decode c_Md_personAt 24 = .ok (.iload_n 0, 1) := by decide +kernel
theorem d_Md_personAt_25 : decode c_Md_personAt 25 = .ok (.bipush 10, 2) := by decide +kernel
theorem d_Md_personAt_27 : decode c_Md_personAt 27 = .ok (.irem, 1) := by decide +kernel
theorem d_Md_personAt_28 : decode c_Md_personAt 28 = .ok (.iadd, 1) := by decide +kernel
theorem d_Md_personAt_29 : decode c_Md_personAt 29 = .ok (.goto 4, 3) := by decide +kernel
theorem d_Md_personAt_32 : decode c_Md_personAt 32 = .ok (.iconst (-1), 1) := by decide +kernel
theorem d_Md_personAt_33 : decode c_Md_personAt 33 = .ok (.ireturn, 1) := by decide +kernel
def f_Md_personAt_33 (t0 : Int32) : sn_M := r_I t0
set_option maxHeartbeats 4000000 in
set_option maxRecDepth 100000 in
theorem mono_Md_personAt_33 (t0 : Int32) : sn_Mono (f_Md_personAt_33 t0) := sn_Mono.rI
set_option maxHeartbeats 4000000 in
set_option maxRecDepth 100000 in
theorem s_Md_personAt_33 {X : sn_X} (C : sn_Cx X c_Md_personAt "SignalNetworkModel" (some .int) "personAt" 1 0 0) (t0 : Int32) : sn_S X 33 [] [vI t0] (f_Md_personAt_33 t0) := by
  unfold f_Md_personAt_33
  exact r_iret C d_Md_personAt_33 rfl
def f_Md_personAt_32 : sn_M := f_Md_personAt_33 (-1 : Int32)
set_option maxHeartbeats 4000000 in
set_option maxRecDepth 100000 in
theorem mono_Md_personAt_32 : sn_Mono (f_Md_personAt_32) := mono_Md_personAt_33 (-1 : Int32)
set_option maxHeartbeats 4000000 in
set_option maxRecDepth 100000 in
theorem s_Md_personAt_32 {X : sn_X} (C : sn_Cx X c_Md_personAt "SignalNetworkModel" (some .int) "personAt" 1 0 0) : sn_S X 32 [] [] (f_Md_personAt_32) := by
  unfold f_Md_personAt_32
  refine r_iconst (q := 33) (v := -1) C d_Md_personAt_32 rfl (by decide) ?_
  exact s_Md_personAt_33 C (-1 : Int32)
def f_Md_personAt (x0 : Int32) : sn_M := (if x0 < 0 then f_Md_personAt_32 else (if (60 : Int32) ≤ x0 then f_Md_personAt_32 else (if (4 : Int32) ≤ (x0 % (10 : Int32)) then f_Md_personAt_32 else f_Md_personAt_33 (((4 : Int32) * (x0 / (10 : Int32))) + (x0 % (10 : Int32))))))
set_option maxHeartbeats 4000000 in
set_option maxRecDepth 100000 in
theorem mono_Md_personAt (x0 : Int32) : sn_Mono (f_Md_personAt x0) := sn_Mono.ite (mono_Md_personAt_32) (sn_Mono.ite (mono_Md_personAt_32) (sn_Mono.ite (mono_Md_personAt_32) (mono_Md_personAt_33 (((4 : Int32) * (x0 / (10 : Int32))) + (x0 % (10 : Int32))))))
set_option maxHeartbeats 4000000 in
set_option maxRecDepth 100000 in
theorem con_Md_personAt (x0 : Int32) : sn_Con y_Md_personAt c_Md_personAt 1 (some .int) 0 0 [vI x0] (f_Md_personAt x0) := by
  refine sn_Con.of (by decide +kernel) (by show _ ≤ _; exact Nat.le_of_ble_eq_true rfl) (mono_Md_personAt x0) (fun X C => ?_)
  show sn_S X 0 [(0, vI x0)] [] _
  replace C : sn_Cx X c_Md_personAt "SignalNetworkModel" (some .int) "personAt" 1 0 0 := C
  unfold f_Md_personAt
  refine r_iload_n (q := 1) (i := 0) (pl := 0) C d_Md_personAt_0 rfl rfl rfl ?_
  refine r_if_lt (tgt := 32) (q := 4) C d_Md_personAt_1 (by decide) rfl ?_ ?_
  · refine r_sub (lv' := []) [] rfl ?_
    exact s_Md_personAt_32 C
  · refine r_iload_n (q := 5) (i := 0) (pl := 0) C d_Md_personAt_4 rfl rfl rfl ?_
    refine r_bipush (q := 7) (v := 60) C d_Md_personAt_5 rfl (by decide) ?_
    refine r_icmp_ge (tgt := 32) (q := 10) C d_Md_personAt_7 (by decide) rfl ?_ ?_
    · refine r_sub (lv' := []) [] rfl ?_
      exact s_Md_personAt_32 C
    · refine r_iload_n (q := 11) (i := 0) (pl := 0) C d_Md_personAt_10 rfl rfl rfl ?_
      refine r_bipush (q := 13) (v := 10) C d_Md_personAt_11 rfl (by decide) ?_
      refine r_iremc (q := 14) C d_Md_personAt_13 rfl (by decide) ?_
      refine r_iconst (q := 15) (v := 4) C d_Md_personAt_14 rfl (by decide) ?_
      refine r_icmp_ge (tgt := 32) (q := 18) C d_Md_personAt_15 (by decide) rfl ?_ ?_
      · refine r_sub (lv' := []) [] rfl ?_
        exact s_Md_personAt_32 C
      · refine r_iconst (q := 19) (v := 4) C d_Md_personAt_18 rfl (by decide) ?_
        refine r_iload_n (q := 20) (i := 0) (pl := 0) C d_Md_personAt_19 rfl rfl rfl ?_
        refine r_bipush (q := 22) (v := 10) C d_Md_personAt_20 rfl (by decide) ?_
        refine r_idivc (q := 23) C d_Md_personAt_22 rfl (by decide) ?_
        refine r_imul (q := 24) C d_Md_personAt_23 rfl ?_
        refine r_iload_n (q := 25) (i := 0) (pl := 0) C d_Md_personAt_24 rfl rfl rfl ?_
        refine r_bipush (q := 27) (v := 10) C d_Md_personAt_25 rfl (by decide) ?_
        refine r_iremc (q := 28) C d_Md_personAt_27 rfl (by decide) ?_
        refine r_iadd (q := 29) C d_Md_personAt_28 rfl ?_
        refine r_goto (tgt := 33) C d_Md_personAt_29 (by decide) ?_
        refine r_sub (lv' := []) [] rfl ?_
        exact s_Md_personAt_33 C (((4 : Int32) * (x0 / (10 : Int32))) + (x0 % (10 : Int32)))
theorem d_Md_dial_0 : decode c_Md_dial 0 = .ok (.iload_n 1, 1) := by decide +kernel
theorem d_Md_dial_1 : decode c_Md_dial 1 = .ok (.invokestatic 412, 3) := by decide +kernel
theorem d_Md_dial_4 : decode c_Md_dial 4 = .ok (.istore_n 3, 1) := by decide +kernel
theorem d_Md_dial_5 : decode c_Md_dial 5 = .ok (.iload_n 3, 1) := by decide +kernel
theorem d_Md_dial_6 : decode c_Md_dial 6 = .ok (.iconst (-1), 1) := by decide +kernel
theorem d_Md_dial_7 : decode c_Md_dial 7 = .ok (.if_icmp .eq 25, 3) := by decide +kernel
theorem d_Md_dial_10 : decode c_Md_dial 10 = .ok (.aload_n 0, 1) := by decide +kernel
theorem d_Md_dial_11 : decode c_Md_dial 11 = .ok (.getfield 177, 3) := by decide +kernel
theorem d_Md_dial_14 : decode c_Md_dial 14 = .ok (.iload_n 3, 1) := by decide +kernel
theorem d_Md_dial_15 : decode c_Md_dial 15 = .ok (.iaload, 1) := by decide +kernel
theorem d_Md_dial_16 : decode c_Md_dial 16 = .ok (.ifCond .ne 16, 3) := by decide +kernel
theorem d_Md_dial_19 : decode c_Md_dial 19 = .ok (.iload_n 2, 1) := by decide +kernel
theorem d_Md_dial_20 : decode c_Md_dial 20 = .ok (.invokestatic 412, 3) := by decide +kernel
theorem d_Md_dial_23 : decode c_Md_dial 23 = .ok (.iconst (-1), 1) := by decide +kernel
theorem d_Md_dial_24 : decode c_Md_dial 24 = .ok (.if_icmp .eq 8, 3) := by decide +kernel
theorem d_Md_dial_27 : decode c_Md_dial 27 = .ok (.iload_n 1, 1) := by decide +kernel
theorem d_Md_dial_28 : decode c_Md_dial 28 = .ok (.iload_n 2, 1) := by decide +kernel
theorem d_Md_dial_29 : decode c_Md_dial 29 = .ok (.if_icmp .ne 5, 3) := by decide +kernel
theorem d_Md_dial_32 : decode c_Md_dial 32 = .ok (.iconst 0, 1) := by decide +kernel
theorem d_Md_dial_33 : decode c_Md_dial 33 = .ok (.ireturn, 1) := by decide +kernel
theorem d_Md_dial_34 : decode c_Md_dial 34 = .ok (.aload_n 0, 1) := by decide +kernel
theorem d_Md_dial_35 : decode c_Md_dial 35 = .ok (.getfield 177, 3) := by decide +kernel
theorem d_Md_dial_38 : decode c_Md_dial 38 = .ok (.iload_n 3, 1) := by decide +kernel
theorem d_Md_dial_39 : decode c_Md_dial 39 = .ok (.iconst 1, 1) := by decide +kernel
theorem d_Md_dial_40 : decode c_Md_dial 40 = .ok (.iastore, 1) := by decide +kernel
theorem d_Md_dial_41 : decode c_Md_dial 41 = .ok (.aload_n 0, 1) := by decide +kernel
theorem d_Md_dial_42 : decode c_Md_dial 42 = .ok (.iload_n 1, 1) := by decide +kernel
theorem d_Md_dial_43 : decode c_Md_dial 43 = .ok (.bipush 10, 2) := by decide +kernel
theorem d_Md_dial_45 : decode c_Md_dial 45 = .ok (.idiv, 1) := by decide +kernel
theorem d_Md_dial_46 : decode c_Md_dial 46 = .ok (.iload_n 3, 1) := by decide +kernel
theorem d_Md_dial_47 : decode c_Md_dial 47 = .ok (.iload_n 2, 1) := by decide +kernel
theorem d_Md_dial_48 : decode c_Md_dial 48 = .ok (.invokevirtual 376, 3) := by decide +kernel
theorem d_Md_dial_51 : decode c_Md_dial 51 = .ok (.iconst 1, 1) := by decide +kernel
theorem d_Md_dial_52 : decode c_Md_dial 52 = .ok (.ireturn, 1) := by decide +kernel
def f_Md_dial_32 (a : Nat) : sn_M := r_Z (0 : Int32)
set_option maxHeartbeats 4000000 in
set_option maxRecDepth 100000 in
theorem mono_Md_dial_32 (a : Nat) : sn_Mono (f_Md_dial_32 a) := sn_Mono.rZ
set_option maxHeartbeats 4000000 in
set_option maxRecDepth 100000 in
theorem s_Md_dial_32 {X : sn_X} (C : sn_Cx X c_Md_dial "SignalNetworkModel" (some .boolean) "dial" 4 8 197) (a : Nat) : sn_S X 32 [(0, vA (some a))] [] (f_Md_dial_32 a) := by
  unfold f_Md_dial_32
  refine r_iconst (q := 33) (v := 0) C d_Md_dial_32 rfl (by decide) ?_
  exact r_zret C d_Md_dial_33 rfl
def f_Md_dial (a : Nat) (x1 : Int32) (x2 : Int32) : sn_M := c_I (f_Md_personAt x1) fun v1 => (if v1 = (-1 : Int32) then f_Md_dial_32 a else g_R 12 61 (some a) fun v2 => a_I 31 v2 v1 fun v3 => (if ¬ v3 = 0 then f_Md_dial_32 a else c_I (f_Md_personAt x2) fun v4 => (if v4 = (-1 : Int32) then f_Md_dial_32 a else (if ¬ x1 = x2 then g_R 12 61 (some a) fun v5 => b_I 31 v5 v1 (1 : Int32) (n_n 12 (some a) fun a6 => c_V (f_Md_connect a6 (x1 / (10 : Int32)) v1 x2) (r_Z (1 : Int32))) else f_Md_dial_32 a))))
set_option maxHeartbeats 4000000 in
set_option maxRecDepth 100000 in
theorem mono_Md_dial (a : Nat) (x1 : Int32) (x2 : Int32) : sn_Mono (f_Md_dial a x1 x2) := sn_Mono.cI (mono_Md_personAt x1) (fun v1 => sn_Mono.ite (mono_Md_dial_32 a) (sn_Mono.gR (fun v2 => sn_Mono.aI (fun v3 => sn_Mono.ite (mono_Md_dial_32 a) (sn_Mono.cI (mono_Md_personAt x2) (fun v4 => sn_Mono.ite (mono_Md_dial_32 a) (sn_Mono.ite (sn_Mono.gR (fun v5 => sn_Mono.bI (sn_Mono.nn (fun a6 => sn_Mono.cV (mono_Md_connect a6 (x1 / (10 : Int32)) v1 x2) (sn_Mono.rZ))))) (mono_Md_dial_32 a))))))))
set_option maxHeartbeats 4000000 in
set_option maxRecDepth 100000 in
theorem con_Md_dial (a : Nat) (x1 : Int32) (x2 : Int32) : sn_Con y_Md_dial c_Md_dial 4 (some .boolean) 8 197 [vA (some a), vI x1, vI x2] (f_Md_dial a x1 x2) := by
  refine sn_Con.of (by decide +kernel) (by show _ ≤ _; exact Nat.le_of_ble_eq_true rfl) (mono_Md_dial a x1 x2) (fun X C => ?_)
  show sn_S X 0 [(0, vA (some a)), (1, vI x1), (2, vI x2)] [] _
  replace C : sn_Cx X c_Md_dial "SignalNetworkModel" (some .boolean) "dial" 4 8 197 := C
  unfold f_Md_dial
  refine r_iload_n (q := 1) (i := 1) (pl := 1) C d_Md_dial_0 rfl rfl rfl ?_
  refine r_csI (q := 4) (As := [vI x1]) (st := []) C d_Md_dial_1 rfl Y_Md_personAt L_Md_412 St_Md_personAt rfl (Nat.le_of_ble_eq_true rfl) (Nat.le_of_ble_eq_true rfl) (Nat.le_of_ble_eq_true rfl) rfl (con_Md_personAt x1) (fun v1 => ?_)
  refine r_istore_n (q := 5) (i := 3) (lv' := [(3, vI v1), (0, vA (some a)), (1, vI x1), (2, vI x2)]) C d_Md_dial_4 rfl rfl (by decide) rfl ?_
  refine r_iload_n (q := 6) (i := 3) (pl := 0) C d_Md_dial_5 rfl rfl rfl ?_
  refine r_iconst (q := 7) (v := -1) C d_Md_dial_6 rfl (by decide) ?_
  refine r_icmp_eq (tgt := 32) (q := 10) C d_Md_dial_7 (by decide) rfl ?_ ?_
  · refine r_sub (lv' := [(0, vA (some a))]) [1] rfl ?_
    exact s_Md_dial_32 C a
  · refine r_aload_n (q := 11) (i := 0) (pl := 1) C d_Md_dial_10 rfl rfl rfl ?_
    refine r_gR (q := 14) C d_Md_dial_11 rfl F_Md_177 rfl (fun v2 => ?_)
    refine r_iload_n (q := 15) (i := 3) (pl := 0) C d_Md_dial_14 rfl rfl rfl ?_
    refine r_aI (q := 16) C (Or.inr rfl) d_Md_dial_15 rfl (fun v3 => ?_)
    refine r_if_ne (tgt := 32) (q := 19) C d_Md_dial_16 (by decide) rfl ?_ ?_
    · refine r_sub (lv' := [(0, vA (some a))]) [1] rfl ?_
      exact s_Md_dial_32 C a
    · refine r_iload_n (q := 20) (i := 2) (pl := 3) C d_Md_dial_19 rfl rfl rfl ?_
      refine r_csI (q := 23) (As := [vI x2]) (st := []) C d_Md_dial_20 rfl Y_Md_personAt L_Md_412 St_Md_personAt rfl (Nat.le_of_ble_eq_true rfl) (Nat.le_of_ble_eq_true rfl) (Nat.le_of_ble_eq_true rfl) rfl (con_Md_personAt x2) (fun v4 => ?_)
      refine r_iconst (q := 24) (v := -1) C d_Md_dial_23 rfl (by decide) ?_
      refine r_icmp_eq (tgt := 32) (q := 27) C d_Md_dial_24 (by decide) rfl ?_ ?_
      · refine r_sub (lv' := [(0, vA (some a))]) [1] rfl ?_
        exact s_Md_dial_32 C a
      · refine r_iload_n (q := 28) (i := 1) (pl := 2) C d_Md_dial_27 rfl rfl rfl ?_
        refine r_iload_n (q := 29) (i := 2) (pl := 3) C d_Md_dial_28 rfl rfl rfl ?_
        refine r_icmp_ne (tgt := 34) (q := 32) C d_Md_dial_29 (by decide) rfl ?_ ?_
        · refine r_aload_n (q := 35) (i := 0) (pl := 1) C d_Md_dial_34 rfl rfl rfl ?_
          refine r_gR (q := 38) C d_Md_dial_35 rfl F_Md_177 rfl (fun v5 => ?_)
          refine r_iload_n (q := 39) (i := 3) (pl := 0) C d_Md_dial_38 rfl rfl rfl ?_
          refine r_iconst (q := 40) (v := 1) C d_Md_dial_39 rfl (by decide) ?_
          refine r_bI (q := 41) C (Or.inr rfl) d_Md_dial_40 rfl ?_
          refine r_aload_n (q := 42) (i := 0) (pl := 1) C d_Md_dial_41 rfl rfl rfl ?_
          refine r_iload_n (q := 43) (i := 1) (pl := 2) C d_Md_dial_42 rfl rfl rfl ?_
          refine r_bipush (q := 45) (v := 10) C d_Md_dial_43 rfl (by decide) ?_
          refine r_idivc (q := 46) C d_Md_dial_45 rfl (by decide) ?_
          refine r_iload_n (q := 47) (i := 3) (pl := 0) C d_Md_dial_46 rfl rfl rfl ?_
          refine r_iload_n (q := 48) (i := 2) (pl := 3) C d_Md_dial_47 rfl rfl rfl ?_
          refine r_cvV (q := 51) (As := [vI (x1 / (10 : Int32)), vI v1, vI x2]) (st := []) (cy := 11) C d_Md_dial_48 rfl Y_Md_connect L_Md_376 I_Md_connect Se_Md_connect rfl (by decide) rfl (Nat.le_of_ble_eq_true rfl) (Nat.le_of_ble_eq_true rfl) (Nat.le_of_ble_eq_true rfl) rfl (fun a6 => con_Md_connect a6 (x1 / (10 : Int32)) v1 x2) ?_
          refine r_iconst (q := 52) (v := 1) C d_Md_dial_51 rfl (by decide) ?_
          exact r_zret C d_Md_dial_52 rfl
        · refine r_sub (lv' := [(0, vA (some a))]) [1] rfl ?_
          exact s_Md_dial_32 C a
theorem d_Md_answer_0 : decode c_Md_answer 0 = .ok (.iload_n 1, 1) := by decide +kernel
theorem d_Md_answer_1 : decode c_Md_answer 1 = .ok (.invokestatic 412, 3) := by decide +kernel
theorem d_Md_answer_4 : decode c_Md_answer 4 = .ok (.istore_n 2, 1) := by decide +kernel
theorem d_Md_answer_5 : decode c_Md_answer 5 = .ok (.iload_n 2, 1) := by decide +kernel
theorem d_Md_answer_6 : decode c_Md_answer 6 = .ok (.iconst (-1), 1) := by decide +kernel
theorem d_Md_answer_7 : decode c_Md_answer 7 = .ok (.if_icmp .eq 13, 3) := by decide +kernel
theorem d_Md_answer_10 : decode c_Md_answer 10 = .ok (.aload_n 0, 1) := by decide +kernel
theorem d_Md_answer_11 : decode c_Md_answer 11 = .ok (.getfield 177, 3) := by decide +kernel
theorem d_Md_answer_14 : decode c_Md_answer 14 = .ok (.iload_n 2, 1) := by decide +kernel
theorem d_Md_answer_15 : decode c_Md_answer 15 = .ok (.iaload, 1) := by decide +kernel
theorem d_Md_answer_16 : decode c_Md_answer 16 = .ok (.iconst 3, 1) := by decide +kernel
theorem d_Md_answer_17 : decode c_Md_answer 17 = .ok (.if_icmp .eq 5, 3) := by decide +kernel
theorem d_Md_answer_20 : decode c_Md_answer 20 = .ok (.iconst 0, 1) := by decide +kernel
theorem d_Md_answer_21 : decode c_Md_answer 21 = .ok (.ireturn, 1) := by decide +kernel
theorem d_Md_answer_22 : decode c_Md_answer 22 = .ok (.aload_n 0, 1) := by decide +kernel
theorem d_Md_answer_23 : decode c_Md_answer 23 = .ok (.getfield 177, 3) := by decide +kernel
theorem d_Md_answer_26 : decode c_Md_answer 26 = .ok (.iload_n 2, 1) := by decide +kernel
theorem d_Md_answer_27 : decode c_Md_answer 27 = .ok (.iconst 4, 1) := by decide +kernel
theorem d_Md_answer_28 : decode c_Md_answer 28 = .ok (.iastore, 1) := by decide +kernel
theorem d_Md_answer_29 : decode c_Md_answer 29 = .ok (.aload_n 0, 1) := by decide +kernel
theorem d_Md_answer_30 : decode c_Md_answer 30 = .ok (.aload_n 0, 1) := by decide +kernel
theorem d_Md_answer_31 : decode c_Md_answer 31 = .ok (.getfield 180, 3) := by decide +kernel
theorem d_Md_answer_34 : decode c_Md_answer 34 = .ok (.iload_n 2, 1) := by decide +kernel
theorem d_Md_answer_35 : decode c_Md_answer 35 = .ok (.iaload, 1) := by decide +kernel
theorem d_Md_answer_36 : decode c_Md_answer 36 = .ok (.bipush 9, 2) := by decide +kernel
theorem d_Md_answer_38 : decode c_Md_answer 38 = .ok (.invokevirtual 373, 3) := by decide +kernel
theorem d_Md_answer_41 : decode c_Md_answer 41 = .ok (.iconst 1, 1) := by decide +kernel
theorem d_Md_answer_42 : decode c_Md_answer 42 = .ok (.ireturn, 1) := by decide +kernel
def f_Md_answer_20 (a : Nat) : sn_M := r_Z (0 : Int32)
set_option maxHeartbeats 4000000 in
set_option maxRecDepth 100000 in
theorem mono_Md_answer_20 (a : Nat) : sn_Mono (f_Md_answer_20 a) := sn_Mono.rZ
set_option maxHeartbeats 4000000 in
set_option maxRecDepth 100000 in
theorem s_Md_answer_20 {X : sn_X} (C : sn_Cx X c_Md_answer "SignalNetworkModel" (some .boolean) "answer" 3 7 168) (a : Nat) : sn_S X 20 [(0, vA (some a))] [] (f_Md_answer_20 a) := by
  unfold f_Md_answer_20
  refine r_iconst (q := 21) (v := 0) C d_Md_answer_20 rfl (by decide) ?_
  exact r_zret C d_Md_answer_21 rfl
def f_Md_answer (a : Nat) (x1 : Int32) : sn_M := c_I (f_Md_personAt x1) fun v1 => (if v1 = (-1 : Int32) then f_Md_answer_20 a else g_R 12 61 (some a) fun v2 => a_I 31 v2 v1 fun v3 => (if v3 = (3 : Int32) then g_R 12 61 (some a) fun v4 => b_I 31 v4 v1 (4 : Int32) (g_R 12 62 (some a) fun v5 => a_I 31 v5 v1 fun v6 => n_n 12 (some a) fun a7 => c_V (f_Md_back a7 v6 (9 : Int32)) (r_Z (1 : Int32))) else f_Md_answer_20 a))
set_option maxHeartbeats 4000000 in
set_option maxRecDepth 100000 in
theorem mono_Md_answer (a : Nat) (x1 : Int32) : sn_Mono (f_Md_answer a x1) := sn_Mono.cI (mono_Md_personAt x1) (fun v1 => sn_Mono.ite (mono_Md_answer_20 a) (sn_Mono.gR (fun v2 => sn_Mono.aI (fun v3 => sn_Mono.ite (sn_Mono.gR (fun v4 => sn_Mono.bI (sn_Mono.gR (fun v5 => sn_Mono.aI (fun v6 => sn_Mono.nn (fun a7 => sn_Mono.cV (mono_Md_back a7 v6 (9 : Int32)) (sn_Mono.rZ))))))) (mono_Md_answer_20 a)))))
set_option maxHeartbeats 4000000 in
set_option maxRecDepth 100000 in
theorem con_Md_answer (a : Nat) (x1 : Int32) : sn_Con y_Md_answer c_Md_answer 3 (some .boolean) 7 168 [vA (some a), vI x1] (f_Md_answer a x1) := by
  refine sn_Con.of (by decide +kernel) (by show _ ≤ _; exact Nat.le_of_ble_eq_true rfl) (mono_Md_answer a x1) (fun X C => ?_)
  show sn_S X 0 [(0, vA (some a)), (1, vI x1)] [] _
  replace C : sn_Cx X c_Md_answer "SignalNetworkModel" (some .boolean) "answer" 3 7 168 := C
  unfold f_Md_answer
  refine r_iload_n (q := 1) (i := 1) (pl := 1) C d_Md_answer_0 rfl rfl rfl ?_
  refine r_csI (q := 4) (As := [vI x1]) (st := []) C d_Md_answer_1 rfl Y_Md_personAt L_Md_412 St_Md_personAt rfl (Nat.le_of_ble_eq_true rfl) (Nat.le_of_ble_eq_true rfl) (Nat.le_of_ble_eq_true rfl) rfl (con_Md_personAt x1) (fun v1 => ?_)
  refine r_istore_n (q := 5) (i := 2) (lv' := [(2, vI v1), (0, vA (some a)), (1, vI x1)]) C d_Md_answer_4 rfl rfl (by decide) rfl ?_
  refine r_iload_n (q := 6) (i := 2) (pl := 0) C d_Md_answer_5 rfl rfl rfl ?_
  refine r_iconst (q := 7) (v := -1) C d_Md_answer_6 rfl (by decide) ?_
  refine r_icmp_eq (tgt := 20) (q := 10) C d_Md_answer_7 (by decide) rfl ?_ ?_
  · refine r_sub (lv' := [(0, vA (some a))]) [1] rfl ?_
    exact s_Md_answer_20 C a
  · refine r_aload_n (q := 11) (i := 0) (pl := 1) C d_Md_answer_10 rfl rfl rfl ?_
    refine r_gR (q := 14) C d_Md_answer_11 rfl F_Md_177 rfl (fun v2 => ?_)
    refine r_iload_n (q := 15) (i := 2) (pl := 0) C d_Md_answer_14 rfl rfl rfl ?_
    refine r_aI (q := 16) C (Or.inr rfl) d_Md_answer_15 rfl (fun v3 => ?_)
    refine r_iconst (q := 17) (v := 3) C d_Md_answer_16 rfl (by decide) ?_
    refine r_icmp_eq (tgt := 22) (q := 20) C d_Md_answer_17 (by decide) rfl ?_ ?_
    · refine r_aload_n (q := 23) (i := 0) (pl := 1) C d_Md_answer_22 rfl rfl rfl ?_
      refine r_gR (q := 26) C d_Md_answer_23 rfl F_Md_177 rfl (fun v4 => ?_)
      refine r_iload_n (q := 27) (i := 2) (pl := 0) C d_Md_answer_26 rfl rfl rfl ?_
      refine r_iconst (q := 28) (v := 4) C d_Md_answer_27 rfl (by decide) ?_
      refine r_bI (q := 29) C (Or.inr rfl) d_Md_answer_28 rfl ?_
      refine r_aload_n (q := 30) (i := 0) (pl := 1) C d_Md_answer_29 rfl rfl rfl ?_
      refine r_aload_n (q := 31) (i := 0) (pl := 1) C d_Md_answer_30 rfl rfl rfl ?_
      refine r_gR (q := 34) C d_Md_answer_31 rfl F_Md_180 rfl (fun v5 => ?_)
      refine r_iload_n (q := 35) (i := 2) (pl := 0) C d_Md_answer_34 rfl rfl rfl ?_
      refine r_aI (q := 36) C (Or.inr rfl) d_Md_answer_35 rfl (fun v6 => ?_)
      refine r_bipush (q := 38) (v := 9) C d_Md_answer_36 rfl (by decide) ?_
      refine r_cvV (q := 41) (As := [vI v6, vI (9 : Int32)]) (st := []) (cy := 11) C d_Md_answer_38 rfl Y_Md_back L_Md_373 I_Md_back Se_Md_back rfl (by decide) rfl (Nat.le_of_ble_eq_true rfl) (Nat.le_of_ble_eq_true rfl) (Nat.le_of_ble_eq_true rfl) rfl (fun a7 => con_Md_back a7 v6 (9 : Int32)) ?_
      refine r_iconst (q := 42) (v := 1) C d_Md_answer_41 rfl (by decide) ?_
      exact r_zret C d_Md_answer_42 rfl
    · refine r_sub (lv' := [(0, vA (some a))]) [1] rfl ?_
      exact s_Md_answer_20 C a
theorem d_Md_hang_0 : decode c_Md_hang 0 = .ok (.iload_n 1, 1) := by decide +kernel
theorem d_Md_hang_1 : decode c_Md_hang 1 = .ok (.invokestatic 412, 3) := by decide +kernel
theorem d_Md_hang_4 : decode c_Md_hang 4 = .ok (.istore_n 2, 1) := by decide +kernel
theorem d_Md_hang_5 : decode c_Md_hang 5 = .ok (.iload_n 2, 1) := by decide +kernel
theorem d_Md_hang_6 : decode c_Md_hang 6 = .ok (.iconst (-1), 1) := by decide +kernel
theorem d_Md_hang_7 : decode c_Md_hang 7 = .ok (.if_icmp .eq 22, 3) := by decide +kernel
theorem d_Md_hang_10 : decode c_Md_hang 10 = .ok (.aload_n 0, 1) := by decide +kernel
theorem d_Md_hang_11 : decode c_Md_hang 11 = .ok (.getfield 177, 3) := by decide +kernel
theorem d_Md_hang_14 : decode c_Md_hang 14 = .ok (.iload_n 2, 1) := by decide +kernel
theorem d_Md_hang_15 : decode c_Md_hang 15 = .ok (.iaload, 1) := by decide +kernel
theorem d_Md_hang_16 : decode c_Md_hang 16 = .ok (.ifCond .eq 13, 3) := by decide +kernel
theorem d_Md_hang_19 : decode c_Md_hang 19 = .ok (.aload_n 0, 1) := by decide +kernel
theorem d_Md_hang_20 : decode c_Md_hang 20 = .ok (.getfield 177, 3) := by decide +kernel
theorem d_Md_hang_23 : decode c_Md_hang 23 = .ok (.iload_n 2, 1) := by decide +kernel
theorem d_Md_hang_24 : decode c_Md_hang 24 = .ok (.iaload, 1) := by decide +kernel
theorem d_Md_hang_25 : decode c_Md_hang 25 = .ok (.iconst 3, 1) := by decide +kernel
theorem d_Md_hang_26 : decode c_Md_hang 26 = .ok (.if_icmp .ne 5, 3) := by decide +kernel
theorem d_Md_hang_29 : decode c_Md_hang 29 = .ok (.iconst 0, 1) := by decide +kernel
theorem d_Md_hang_30 : decode c_Md_hang 30 = .ok (.ireturn, 1) := by decide +kernel
theorem d_Md_hang_31 : decode c_Md_hang 31 = .ok (.aload_n 0, 1) := by decide +kernel
theorem d_Md_hang_32 : decode c_Md_hang 32 = .ok (.getfield 180, 3) := by decide +kernel
theorem d_Md_hang_35 : decode c_Md_hang 35 = .ok (.iload_n 2, 1) := by decide +kernel
theorem d_Md_hang_36 : decode c_Md_hang 36 = .ok (.iaload, 1) := by decide +kernel
theorem d_Md_hang_37 : decode c_Md_hang 37 = .ok (.istore_n 3, 1) := by decide +kernel
theorem d_Md_hang_38 : decode c_Md_hang 38 = .ok (.aload_n 0, 1) := by decide +kernel
theorem d_Md_hang_39 : decode c_Md_hang 39 = .ok (.getfield 177, 3) := by decide +kernel
theorem d_Md_hang_42 : decode c_Md_hang 42 = .ok (.iload_n 2, 1) := by decide +kernel
theorem d_Md_hang_43 : decode c_Md_hang 43 = .ok (.iaload, 1) := by decide +kernel
theorem d_Md_hang_44 : decode c_Md_hang 44 = .ok (.iconst 5, 1) := by decide +kernel
theorem d_Md_hang_45 : decode c_Md_hang 45 = .ok (.if_icmp .ne 7, 3) := by decide +kernel
theorem d_Md_hang_48 : decode c_Md_hang 48 = .ok (.iconst 1, 1) := by decide +kernel
theorem d_Md_hang_49 : decode c_Md_hang 49 = .ok (.goto 4, 3) := by decide +kernel
theorem d_Md_hang_52 : decode c_Md_hang 52 = .ok (.iconst 0, 1) := by decide +kernel
theorem d_Md_hang_53 : decode c_Md_hang 53 = .ok (.istore 4, 2) := by decide +kernel
theorem d_Md_hang_55 : decode c_Md_hang 55 = .ok (.aload_n 0, 1) := by decide +kernel
theorem d_Md_hang_56 : decode c_Md_hang 56 = .ok (.getfield 177, 3) := by decide +kernel
theorem d_Md_hang_59 : decode c_Md_hang 59 = .ok (.iload_n 2, 1) := by decide +kernel
theorem d_Md_hang_60 : decode c_Md_hang 60 = .ok (.iconst 0, 1) := by decide +kernel
theorem d_Md_hang_61 : decode c_Md_hang 61 = .ok (.iastore, 1) := by decide +kernel
theorem d_Md_hang_62 : decode c_Md_hang 62 = .ok (.iload 4, 2) := by decide +kernel
theorem d_Md_hang_64 : decode c_Md_hang 64 = .ok (.ifCond .ne 13, 3) := by decide +kernel
theorem d_Md_hang_67 : decode c_Md_hang 67 = .ok (.aload_n 0, 1) := by decide +kernel
theorem d_Md_hang_68 : decode c_Md_hang 68 = .ok (.iload_n 2, 1) := by decide +kernel
theorem d_Md_hang_69 : decode c_Md_hang 69 = .ok (.invokevirtual 358, 3) := by decide +kernel
theorem d_Md_hang_72 : decode c_Md_hang 72 = .ok (.aload_n 0, 1) := by decide +kernel
theorem d_Md_hang_73 : decode c_Md_hang 73 = .ok (.iload_n 3, 1) := by decide +kernel
theorem d_Md_hang_74 : decode c_Md_hang 74 = .ok (.invokevirtual 367, 3) := by decide +kernel
theorem d_Md_hang_77 : decode c_Md_hang 77 = .ok (.iconst 1, 1) := by decide +kernel
theorem d_Md_hang_78 : decode c_Md_hang 78 = .ok (.ireturn, 1) := by decide +kernel
def f_Md_hang_29 (a : Nat) : sn_M := r_Z (0 : Int32)
set_option maxHeartbeats 4000000 in
set_option maxRecDepth 100000 in
theorem mono_Md_hang_29 (a : Nat) : sn_Mono (f_Md_hang_29 a) := sn_Mono.rZ
set_option maxHeartbeats 4000000 in
set_option maxRecDepth 100000 in
theorem s_Md_hang_29 {X : sn_X} (C : sn_Cx X c_Md_hang "SignalNetworkModel" (some .boolean) "hang" 5 7 166) (a : Nat) : sn_S X 29 [(0, vA (some a))] [] (f_Md_hang_29 a) := by
  unfold f_Md_hang_29
  refine r_iconst (q := 30) (v := 0) C d_Md_hang_29 rfl (by decide) ?_
  exact r_zret C d_Md_hang_30 rfl
def f_Md_hang_77 (a : Nat) : sn_M := r_Z (1 : Int32)
set_option maxHeartbeats 4000000 in
set_option maxRecDepth 100000 in
theorem mono_Md_hang_77 (a : Nat) : sn_Mono (f_Md_hang_77 a) := sn_Mono.rZ
set_option maxHeartbeats 4000000 in
set_option maxRecDepth 100000 in
theorem s_Md_hang_77 {X : sn_X} (C : sn_Cx X c_Md_hang "SignalNetworkModel" (some .boolean) "hang" 5 7 166) (a : Nat) : sn_S X 77 [(0, vA (some a))] [] (f_Md_hang_77 a) := by
  unfold f_Md_hang_77
  refine r_iconst (q := 78) (v := 1) C d_Md_hang_77 rfl (by decide) ?_
  exact r_zret C d_Md_hang_78 rfl
def f_Md_hang_53 (a : Nat) (x2 : Int32) (x3 : Int32) (t0 : Int32) : sn_M := g_R 12 61 (some a) fun v1 => b_I 31 v1 x2 (0 : Int32) ((if ¬ t0 = 0 then f_Md_hang_77 a else n_n 12 (some a) fun a2 => c_V (f_Md_part a2 x2) (n_n 12 (some a) fun a4 => c_V (f_Md_letGo a4 x3) (f_Md_hang_77 a))))
set_option maxHeartbeats 4000000 in
set_option maxRecDepth 100000 in
theorem mono_Md_hang_53 (a : Nat) (x2 : Int32) (x3 : Int32) (t0 : Int32) : sn_Mono (f_Md_hang_53 a x2 x3 t0) := sn_Mono.gR (fun v1 => sn_Mono.bI (sn_Mono.ite (mono_Md_hang_77 a) (sn_Mono.nn (fun a2 => sn_Mono.cV (mono_Md_part a2 x2) (sn_Mono.nn (fun a4 => sn_Mono.cV (mono_Md_letGo a4 x3) (mono_Md_hang_77 a)))))))
set_option maxHeartbeats 4000000 in
set_option maxRecDepth 100000 in
theorem s_Md_hang_53 {X : sn_X} (C : sn_Cx X c_Md_hang "SignalNetworkModel" (some .boolean) "hang" 5 7 166) (a : Nat) (x2 : Int32) (x3 : Int32) (t0 : Int32) : sn_S X 53 [(0, vA (some a)), (2, vI x2), (3, vI x3)] [vI t0] (f_Md_hang_53 a x2 x3 t0) := by
  unfold f_Md_hang_53
  refine r_istore (q := 55) (i := 4) (lv' := [(4, vI t0), (0, vA (some a)), (2, vI x2), (3, vI x3)]) C d_Md_hang_53 rfl (by decide) rfl ?_
  refine r_aload_n (q := 56) (i := 0) (pl := 1) C d_Md_hang_55 rfl rfl rfl ?_
  refine r_gR (q := 59) C d_Md_hang_56 rfl F_Md_177 rfl (fun v1 => ?_)
  refine r_iload_n (q := 60) (i := 2) (pl := 2) C d_Md_hang_59 rfl rfl rfl ?_
  refine r_iconst (q := 61) (v := 0) C d_Md_hang_60 rfl (by decide) ?_
  refine r_bI (q := 62) C (Or.inr rfl) d_Md_hang_61 rfl ?_
  refine r_iload (q := 64) (i := 4) (pl := 0) C d_Md_hang_62 rfl rfl ?_
  refine r_if_ne (tgt := 77) (q := 67) C d_Md_hang_64 (by decide) rfl ?_ ?_
  · refine r_sub (lv' := [(0, vA (some a))]) [1] rfl ?_
    exact s_Md_hang_77 C a
  · refine r_aload_n (q := 68) (i := 0) (pl := 1) C d_Md_hang_67 rfl rfl rfl ?_
    refine r_iload_n (q := 69) (i := 2) (pl := 2) C d_Md_hang_68 rfl rfl rfl ?_
    refine r_cvV (q := 72) (As := [vI x2]) (st := []) (cy := 11) C d_Md_hang_69 rfl Y_Md_part L_Md_358 I_Md_part Se_Md_part rfl (by decide) rfl (Nat.le_of_ble_eq_true rfl) (Nat.le_of_ble_eq_true rfl) (Nat.le_of_ble_eq_true rfl) rfl (fun a2 => con_Md_part a2 x2) ?_
    refine r_aload_n (q := 73) (i := 0) (pl := 1) C d_Md_hang_72 rfl rfl rfl ?_
    refine r_iload_n (q := 74) (i := 3) (pl := 3) C d_Md_hang_73 rfl rfl rfl ?_
    refine r_cvV (q := 77) (As := [vI x3]) (st := []) (cy := 11) C d_Md_hang_74 rfl Y_Md_letGo L_Md_367 I_Md_letGo Se_Md_letGo rfl (by decide) rfl (Nat.le_of_ble_eq_true rfl) (Nat.le_of_ble_eq_true rfl) (Nat.le_of_ble_eq_true rfl) rfl (fun a4 => con_Md_letGo a4 x3) ?_
    refine r_sub (lv' := [(0, vA (some a))]) [1] rfl ?_
    exact s_Md_hang_77 C a
def f_Md_hang (a : Nat) (x1 : Int32) : sn_M := c_I (f_Md_personAt x1) fun v6 => (if v6 = (-1 : Int32) then f_Md_hang_29 a else g_R 12 61 (some a) fun v7 => a_I 31 v7 v6 fun v8 => (if v8 = 0 then f_Md_hang_29 a else g_R 12 61 (some a) fun v9 => a_I 31 v9 v6 fun v10 => (if ¬ v10 = (3 : Int32) then g_R 12 62 (some a) fun v11 => a_I 31 v11 v6 fun v12 => g_R 12 61 (some a) fun v13 => a_I 31 v13 v6 fun v14 => (if ¬ v14 = (5 : Int32) then f_Md_hang_53 a v6 v12 (0 : Int32) else f_Md_hang_53 a v6 v12 (1 : Int32)) else f_Md_hang_29 a)))
set_option maxHeartbeats 4000000 in
set_option maxRecDepth 100000 in
theorem mono_Md_hang (a : Nat) (x1 : Int32) : sn_Mono (f_Md_hang a x1) := sn_Mono.cI (mono_Md_personAt x1) (fun v6 => sn_Mono.ite (mono_Md_hang_29 a) (sn_Mono.gR (fun v7 => sn_Mono.aI (fun v8 => sn_Mono.ite (mono_Md_hang_29 a) (sn_Mono.gR (fun v9 => sn_Mono.aI (fun v10 => sn_Mono.ite (sn_Mono.gR (fun v11 => sn_Mono.aI (fun v12 => sn_Mono.gR (fun v13 => sn_Mono.aI (fun v14 => sn_Mono.ite (mono_Md_hang_53 a v6 v12 (0 : Int32)) (mono_Md_hang_53 a v6 v12 (1 : Int32))))))) (mono_Md_hang_29 a))))))))
set_option maxHeartbeats 4000000 in
set_option maxRecDepth 100000 in
theorem con_Md_hang (a : Nat) (x1 : Int32) : sn_Con y_Md_hang c_Md_hang 5 (some .boolean) 7 166 [vA (some a), vI x1] (f_Md_hang a x1) := by
  refine sn_Con.of (by decide +kernel) (by show _ ≤ _; exact Nat.le_of_ble_eq_true rfl) (mono_Md_hang a x1) (fun X C => ?_)
  show sn_S X 0 [(0, vA (some a)), (1, vI x1)] [] _
  replace C : sn_Cx X c_Md_hang "SignalNetworkModel" (some .boolean) "hang" 5 7 166 := C
  unfold f_Md_hang
  refine r_iload_n (q := 1) (i := 1) (pl := 1) C d_Md_hang_0 rfl rfl rfl ?_
  refine r_csI (q := 4) (As := [vI x1]) (st := []) C d_Md_hang_1 rfl Y_Md_personAt L_Md_412 St_Md_personAt rfl (Nat.le_of_ble_eq_true rfl) (Nat.le_of_ble_eq_true rfl) (Nat.le_of_ble_eq_true rfl) rfl (con_Md_personAt x1) (fun v6 => ?_)
  refine r_istore_n (q := 5) (i := 2) (lv' := [(2, vI v6), (0, vA (some a)), (1, vI x1)]) C d_Md_hang_4 rfl rfl (by decide) rfl ?_
  refine r_iload_n (q := 6) (i := 2) (pl := 0) C d_Md_hang_5 rfl rfl rfl ?_
  refine r_iconst (q := 7) (v := -1) C d_Md_hang_6 rfl (by decide) ?_
  refine r_icmp_eq (tgt := 29) (q := 10) C d_Md_hang_7 (by decide) rfl ?_ ?_
  · refine r_sub (lv' := [(0, vA (some a))]) [1] rfl ?_
    exact s_Md_hang_29 C a
  · refine r_aload_n (q := 11) (i := 0) (pl := 1) C d_Md_hang_10 rfl rfl rfl ?_
    refine r_gR (q := 14) C d_Md_hang_11 rfl F_Md_177 rfl (fun v7 => ?_)
    refine r_iload_n (q := 15) (i := 2) (pl := 0) C d_Md_hang_14 rfl rfl rfl ?_
    refine r_aI (q := 16) C (Or.inr rfl) d_Md_hang_15 rfl (fun v8 => ?_)
    refine r_if_eq (tgt := 29) (q := 19) C d_Md_hang_16 (by decide) rfl ?_ ?_
    · refine r_sub (lv' := [(0, vA (some a))]) [1] rfl ?_
      exact s_Md_hang_29 C a
    · refine r_aload_n (q := 20) (i := 0) (pl := 1) C d_Md_hang_19 rfl rfl rfl ?_
      refine r_gR (q := 23) C d_Md_hang_20 rfl F_Md_177 rfl (fun v9 => ?_)
      refine r_iload_n (q := 24) (i := 2) (pl := 0) C d_Md_hang_23 rfl rfl rfl ?_
      refine r_aI (q := 25) C (Or.inr rfl) d_Md_hang_24 rfl (fun v10 => ?_)
      refine r_iconst (q := 26) (v := 3) C d_Md_hang_25 rfl (by decide) ?_
      refine r_icmp_ne (tgt := 31) (q := 29) C d_Md_hang_26 (by decide) rfl ?_ ?_
      · refine r_aload_n (q := 32) (i := 0) (pl := 1) C d_Md_hang_31 rfl rfl rfl ?_
        refine r_gR (q := 35) C d_Md_hang_32 rfl F_Md_180 rfl (fun v11 => ?_)
        refine r_iload_n (q := 36) (i := 2) (pl := 0) C d_Md_hang_35 rfl rfl rfl ?_
        refine r_aI (q := 37) C (Or.inr rfl) d_Md_hang_36 rfl (fun v12 => ?_)
        refine r_istore_n (q := 38) (i := 3) (lv' := [(3, vI v12), (2, vI v6), (0, vA (some a)), (1, vI x1)]) C d_Md_hang_37 rfl rfl (by decide) rfl ?_
        refine r_aload_n (q := 39) (i := 0) (pl := 2) C d_Md_hang_38 rfl rfl rfl ?_
        refine r_gR (q := 42) C d_Md_hang_39 rfl F_Md_177 rfl (fun v13 => ?_)
        refine r_iload_n (q := 43) (i := 2) (pl := 1) C d_Md_hang_42 rfl rfl rfl ?_
        refine r_aI (q := 44) C (Or.inr rfl) d_Md_hang_43 rfl (fun v14 => ?_)
        refine r_iconst (q := 45) (v := 5) C d_Md_hang_44 rfl (by decide) ?_
        refine r_icmp_ne (tgt := 52) (q := 48) C d_Md_hang_45 (by decide) rfl ?_ ?_
        · refine r_iconst (q := 53) (v := 0) C d_Md_hang_52 rfl (by decide) ?_
          refine r_sub (lv' := [(0, vA (some a)), (2, vI v6), (3, vI v12)]) [2, 1, 0] rfl ?_
          exact s_Md_hang_53 C a v6 v12 (0 : Int32)
        · refine r_iconst (q := 49) (v := 1) C d_Md_hang_48 rfl (by decide) ?_
          refine r_goto (tgt := 53) C d_Md_hang_49 (by decide) ?_
          refine r_sub (lv' := [(0, vA (some a)), (2, vI v6), (3, vI v12)]) [2, 1, 0] rfl ?_
          exact s_Md_hang_53 C a v6 v12 (1 : Int32)
      · refine r_sub (lv' := [(0, vA (some a))]) [1] rfl ?_
        exact s_Md_hang_29 C a
theorem d_Md_isFlow_0 : decode c_Md_isFlow 0 = .ok (.aload_n 0, 1) := by decide +kernel
theorem d_Md_isFlow_1 : decode c_Md_isFlow 1 = .ok (.iload_n 1, 1) := by decide +kernel
theorem d_Md_isFlow_2 : decode c_Md_isFlow 2 = .ok (.iload_n 2, 1) := by decide +kernel
theorem d_Md_isFlow_3 : decode c_Md_isFlow 3 = .ok (.invokevirtual 226, 3) := by decide +kernel
theorem d_Md_isFlow_6 : decode c_Md_isFlow 6 = .ok (.ifCond .eq 16, 3) := by decide +kernel
theorem d_Md_isFlow_9 : decode c_Md_isFlow 9 = .ok (.iload_n 3, 1) := by decide +kernel
theorem d_Md_isFlow_10 : decode c_Md_isFlow 10 = .ok (.ifCond .lt 12, 3) := by decide +kernel
theorem d_Md_isFlow_13 : decode c_Md_isFlow 13 = .ok (.iload_n 3, 1) := by decide +kernel
theorem d_Md_isFlow_14 : decode c_Md_isFlow 14 = .ok (.iconst 4, 1) := by decide +kernel
theorem d_Md_isFlow_15 : decode c_Md_isFlow 15 = .ok (.if_icmp .ge 7, 3) := by decide +kernel
theorem d_Md_isFlow_18 : decode c_Md_isFlow 18 = .ok (.iconst 1, 1) := by decide +kernel
theorem d_Md_isFlow_19 : decode c_Md_isFlow 19 = .ok (.goto 4, 3) := by decide +kernel
theorem d_Md_isFlow_22 : decode c_Md_isFlow 22 = .ok (.iconst 0, 1) := by decide +kernel
theorem d_Md_isFlow_23 : decode c_Md_isFlow 23 = .ok (.ireturn, 1) := by decide +kernel
def f_Md_isFlow_23 (a : Nat) (t0 : Int32) : sn_M := r_Z t0
set_option maxHeartbeats 4000000 in
set_option maxRecDepth 100000 in
theorem mono_Md_isFlow_23 (a : Nat) (t0 : Int32) : sn_Mono (f_Md_isFlow_23 a t0) := sn_Mono.rZ
set_option maxHeartbeats 4000000 in
set_option maxRecDepth 100000 in
theorem s_Md_isFlow_23 {X : sn_X} (C : sn_Cx X c_Md_isFlow "SignalNetworkModel" (some .boolean) "isFlow" 4 3 69) (a : Nat) (t0 : Int32) : sn_S X 23 [(0, vA (some a))] [vI t0] (f_Md_isFlow_23 a t0) := by
  unfold f_Md_isFlow_23
  exact r_zret C d_Md_isFlow_23 rfl
def f_Md_isFlow_22 (a : Nat) : sn_M := f_Md_isFlow_23 a (0 : Int32)
set_option maxHeartbeats 4000000 in
set_option maxRecDepth 100000 in
theorem mono_Md_isFlow_22 (a : Nat) : sn_Mono (f_Md_isFlow_22 a) := mono_Md_isFlow_23 a (0 : Int32)
set_option maxHeartbeats 4000000 in
set_option maxRecDepth 100000 in
theorem s_Md_isFlow_22 {X : sn_X} (C : sn_Cx X c_Md_isFlow "SignalNetworkModel" (some .boolean) "isFlow" 4 3 69) (a : Nat) : sn_S X 22 [(0, vA (some a))] [] (f_Md_isFlow_22 a) := by
  unfold f_Md_isFlow_22
  refine r_iconst (q := 23) (v := 0) C d_Md_isFlow_22 rfl (by decide) ?_
  exact s_Md_isFlow_23 C a (0 : Int32)
def f_Md_isFlow (a : Nat) (x1 : Int32) (x2 : Int32) (x3 : Int32) : sn_M := n_n 12 (some a) fun a1 => c_I (f_Md_areNeighbours a1 x1 x2) fun v2 => (if v2 = 0 then f_Md_isFlow_22 a else (if x3 < 0 then f_Md_isFlow_22 a else (if (4 : Int32) ≤ x3 then f_Md_isFlow_22 a else f_Md_isFlow_23 a (1 : Int32))))
set_option maxHeartbeats 4000000 in
set_option maxRecDepth 100000 in
theorem mono_Md_isFlow (a : Nat) (x1 : Int32) (x2 : Int32) (x3 : Int32) : sn_Mono (f_Md_isFlow a x1 x2 x3) := sn_Mono.nn (fun a1 => sn_Mono.cI (mono_Md_areNeighbours a1 x1 x2) (fun v2 => sn_Mono.ite (mono_Md_isFlow_22 a) (sn_Mono.ite (mono_Md_isFlow_22 a) (sn_Mono.ite (mono_Md_isFlow_22 a) (mono_Md_isFlow_23 a (1 : Int32))))))
set_option maxHeartbeats 4000000 in
set_option maxRecDepth 100000 in
theorem con_Md_isFlow (a : Nat) (x1 : Int32) (x2 : Int32) (x3 : Int32) : sn_Con y_Md_isFlow c_Md_isFlow 4 (some .boolean) 3 69 [vA (some a), vI x1, vI x2, vI x3] (f_Md_isFlow a x1 x2 x3) := by
  refine sn_Con.of (by decide +kernel) (by show _ ≤ _; exact Nat.le_of_ble_eq_true rfl) (mono_Md_isFlow a x1 x2 x3) (fun X C => ?_)
  show sn_S X 0 [(0, vA (some a)), (1, vI x1), (2, vI x2), (3, vI x3)] [] _
  replace C : sn_Cx X c_Md_isFlow "SignalNetworkModel" (some .boolean) "isFlow" 4 3 69 := C
  unfold f_Md_isFlow
  refine r_aload_n (q := 1) (i := 0) (pl := 0) C d_Md_isFlow_0 rfl rfl rfl ?_
  refine r_iload_n (q := 2) (i := 1) (pl := 1) C d_Md_isFlow_1 rfl rfl rfl ?_
  refine r_iload_n (q := 3) (i := 2) (pl := 2) C d_Md_isFlow_2 rfl rfl rfl ?_
  refine r_cvI (q := 6) (As := [vI x1, vI x2]) (st := []) (cy := 11) C d_Md_isFlow_3 rfl Y_Md_areNeighbours L_Md_226 I_Md_areNeighbours Se_Md_areNeighbours rfl (by decide) rfl (Nat.le_of_ble_eq_true rfl) (Nat.le_of_ble_eq_true rfl) (Nat.le_of_ble_eq_true rfl) rfl (fun a1 => con_Md_areNeighbours a1 x1 x2) (fun v2 => ?_)
  refine r_if_eq (tgt := 22) (q := 9) C d_Md_isFlow_6 (by decide) rfl ?_ ?_
  · refine r_sub (lv' := [(0, vA (some a))]) [0] rfl ?_
    exact s_Md_isFlow_22 C a
  · refine r_iload_n (q := 10) (i := 3) (pl := 3) C d_Md_isFlow_9 rfl rfl rfl ?_
    refine r_if_lt (tgt := 22) (q := 13) C d_Md_isFlow_10 (by decide) rfl ?_ ?_
    · refine r_sub (lv' := [(0, vA (some a))]) [0] rfl ?_
      exact s_Md_isFlow_22 C a
    · refine r_iload_n (q := 14) (i := 3) (pl := 3) C d_Md_isFlow_13 rfl rfl rfl ?_
      refine r_iconst (q := 15) (v := 4) C d_Md_isFlow_14 rfl (by decide) ?_
      refine r_icmp_ge (tgt := 22) (q := 18) C d_Md_isFlow_15 (by decide) rfl ?_ ?_
      · refine r_sub (lv' := [(0, vA (some a))]) [0] rfl ?_
        exact s_Md_isFlow_22 C a
      · refine r_iconst (q := 19) (v := 1) C d_Md_isFlow_18 rfl (by decide) ?_
        refine r_goto (tgt := 23) C d_Md_isFlow_19 (by decide) ?_
        refine r_sub (lv' := [(0, vA (some a))]) [0] rfl ?_
        exact s_Md_isFlow_23 C a (1 : Int32)
theorem d_Md_block_0 : decode c_Md_block 0 = .ok (.aload_n 0, 1) := by decide +kernel
theorem d_Md_block_1 : decode c_Md_block 1 = .ok (.iload_n 1, 1) := by decide +kernel
theorem d_Md_block_2 : decode c_Md_block 2 = .ok (.iload_n 2, 1) := by decide +kernel
theorem d_Md_block_3 : decode c_Md_block 3 = .ok (.iload_n 3, 1) := by decide +kernel
theorem d_Md_block_4 : decode c_Md_block 4 = .ok (.invokevirtual 415, 3) := by decide +kernel
theorem d_Md_block_7 : decode c_Md_block 7 = .ok (.ifCond .eq 20, 3) := by decide +kernel
theorem d_Md_block_10 : decode c_Md_block 10 = .ok (.aload_n 0, 1) := by decide +kernel
theorem d_Md_block_11 : decode c_Md_block 11 = .ok (.getfield 159, 3) := by decide +kernel
theorem d_Md_block_14 : decode c_Md_block 14 = .ok (.aload_n 0, 1) := by decide +kernel
theorem d_Md_block_15 : decode c_Md_block 15 = .ok (.iload_n 1, 1) := by decide +kernel
theorem d_Md_block_16 : decode c_Md_block 16 = .ok (.iload_n 2, 1) := by decide +kernel
theorem d_Md_block_17 : decode c_Md_block 17 = .ok (.iload_n 3, 1) := by decide +kernel
theorem d_Md_block_18 : decode c_Md_block 18 = .ok (.invokevirtual 212, 3) := by decide +kernel
theorem d_Md_block_21 : decode c_Md_block 21 = .ok (.baload, 1) := by decide +kernel
theorem d_Md_block_22 : decode c_Md_block 22 = .ok (.iload 4, 2) := by decide +kernel
theorem d_Md_block_24 : decode c_Md_block 24 = .ok (.if_icmp .ne 5, 3) := by decide +kernel
theorem d_Md_block_27 : decode c_Md_block 27 = .ok (.iconst 0, 1) := by decide +kernel
theorem d_Md_block_28 : decode c_Md_block 28 = .ok (.ireturn, 1) := by decide +kernel
theorem d_Md_block_29 : decode c_Md_block 29 = .ok (.aload_n 0, 1) := by decide +kernel
theorem d_Md_block_30 : decode c_Md_block 30 = .ok (.getfield 159, 3) := by decide +kernel
theorem d_Md_block_33 : decode c_Md_block 33 = .ok (.aload_n 0, 1) := by decide +kernel
theorem d_Md_block_34 : decode c_Md_block 34 = .ok (.iload_n 1, 1) := by decide +kernel
theorem d_Md_block_35 : decode c_Md_block 35 = .ok (.iload_n 2, 1) := by decide +kernel
theorem d_Md_block_36 : decode c_Md_block 36 = .ok (.iload_n 3, 1) := by decide +kernel
theorem d_Md_block_37 : decode c_Md_block 37 = .ok (.invokevirtual 212, 3) := by decide +kernel
theorem d_Md_block_40 : decode c_Md_block 40 = .ok (.iload 4, 2) := by decide +kernel
theorem d_Md_block_42 : decode c_Md_block 42 = .ok (.bastore, 1) := by decide +kernel
theorem d_Md_block_43 : decode c_Md_block 43 = .ok (.aload_n 0, 1) := by decide +kernel
theorem d_Md_block_44 : decode c_Md_block 44 = .ok (.aload_n 0, 1) := by decide +kernel
theorem d_Md_block_45 : decode c_Md_block 45 = .ok (.iload_n 1, 1) := by decide +kernel
theorem d_Md_block_46 : decode c_Md_block 46 = .ok (.iload_n 2, 1) := by decide +kernel
theorem d_Md_block_47 : decode c_Md_block 47 = .ok (.iload_n 3, 1) := by decide +kernel
theorem d_Md_block_48 : decode c_Md_block 48 = .ok (.invokevirtual 212, 3) := by decide +kernel
theorem d_Md_block_51 : decode c_Md_block 51 = .ok (.iload 4, 2) := by decide +kernel
theorem d_Md_block_53 : decode c_Md_block 53 = .ok (.ifCond .eq 8, 3) := by decide +kernel
theorem d_Md_block_56 : decode c_Md_block 56 = .ok (.bipush 13, 2) := by decide +kernel
theorem d_Md_block_58 : decode c_Md_block 58 = .ok (.goto 5, 3) := by decide +kernel
theorem d_Md_block_61 : decode c_Md_block 61 = .ok (.bipush 14, 2) := by decide +kernel
theorem d_Md_block_63 : decode c_Md_block 63 = .ok (.iconst 0, 1) := by decide +kernel
theorem d_Md_block_64 : decode c_Md_block 64 = .ok (.invokevirtual 361, 3) := by decide +kernel
theorem d_Md_block_67 : decode c_Md_block 67 = .ok (.iconst 1, 1) := by decide +kernel
theorem d_Md_block_68 : decode c_Md_block 68 = .ok (.ireturn, 1) := by decide +kernel
def f_Md_block_27 (a : Nat) : sn_M := r_Z (0 : Int32)
set_option maxHeartbeats 4000000 in
set_option maxRecDepth 100000 in
theorem mono_Md_block_27 (a : Nat) : sn_Mono (f_Md_block_27 a) := sn_Mono.rZ
set_option maxHeartbeats 4000000 in
set_option maxRecDepth 100000 in
theorem s_Md_block_27 {X : sn_X} (C : sn_Cx X c_Md_block "SignalNetworkModel" (some .boolean) "block" 5 6 145) (a : Nat) : sn_S X 27 [(0, vA (some a))] [] (f_Md_block_27 a) := by
  unfold f_Md_block_27
  refine r_iconst (q := 28) (v := 0) C d_Md_block_27 rfl (by decide) ?_
  exact r_zret C d_Md_block_28 rfl
def f_Md_block_63 (a : Nat) (t0 : Option Nat) (t1 : Int32) (t2 : Int32) : sn_M := n_n 12 t0 fun a1 => c_V (f_Md_say a1 t1 t2 (0 : Int32)) (r_Z (1 : Int32))
set_option maxHeartbeats 4000000 in
set_option maxRecDepth 100000 in
theorem mono_Md_block_63 (a : Nat) (t0 : Option Nat) (t1 : Int32) (t2 : Int32) : sn_Mono (f_Md_block_63 a t0 t1 t2) := sn_Mono.nn (fun a1 => sn_Mono.cV (mono_Md_say a1 t1 t2 (0 : Int32)) (sn_Mono.rZ))
set_option maxHeartbeats 4000000 in
set_option maxRecDepth 100000 in
theorem s_Md_block_63 {X : sn_X} (C : sn_Cx X c_Md_block "SignalNetworkModel" (some .boolean) "block" 5 6 145) (a : Nat) (t0 : Option Nat) (t1 : Int32) (t2 : Int32) : sn_S X 63 [(0, vA (some a))] [vI t2, vI t1, vA t0] (f_Md_block_63 a t0 t1 t2) := by
  unfold f_Md_block_63
  refine r_iconst (q := 64) (v := 0) C d_Md_block_63 rfl (by decide) ?_
  refine r_cvV (q := 67) (As := [vI t1, vI t2, vI (0 : Int32)]) (st := []) (cy := 11) C d_Md_block_64 rfl Y_Md_say L_Md_361 I_Md_say Se_Md_say rfl (by decide) rfl (Nat.le_of_ble_eq_true rfl) (Nat.le_of_ble_eq_true rfl) (Nat.le_of_ble_eq_true rfl) rfl (fun a1 => con_Md_say a1 t1 t2 (0 : Int32)) ?_
  refine r_iconst (q := 68) (v := 1) C d_Md_block_67 rfl (by decide) ?_
  exact r_zret C d_Md_block_68 rfl
def f_Md_block (a : Nat) (x1 : Int32) (x2 : Int32) (x3 : Int32) (x4 : Int32) : sn_M := n_n 12 (some a) fun a3 => c_I (f_Md_isFlow a3 x1 x2 x3) fun v4 => (if v4 = 0 then f_Md_block_27 a else g_R 12 55 (some a) fun v5 => n_n 12 (some a) fun a6 => c_I (f_Md_flowAt a6 x1 x2 x3) fun v7 => a_I 33 v5 v7 fun v8 => (if ¬ v8 = x4 then g_R 12 55 (some a) fun v9 => n_n 12 (some a) fun a10 => c_I (f_Md_flowAt a10 x1 x2 x3) fun v11 => b_Z 33 v9 v11 x4 (n_n 12 (some a) fun a12 => c_I (f_Md_flowAt a12 x1 x2 x3) fun v13 => (if x4 = 0 then f_Md_block_63 a (some a) v13 (14 : Int32) else f_Md_block_63 a (some a) v13 (13 : Int32))) else f_Md_block_27 a))
set_option maxHeartbeats 4000000 in
set_option maxRecDepth 100000 in
theorem mono_Md_block (a : Nat) (x1 : Int32) (x2 : Int32) (x3 : Int32) (x4 : Int32) : sn_Mono (f_Md_block a x1 x2 x3 x4) := sn_Mono.nn (fun a3 => sn_Mono.cI (mono_Md_isFlow a3 x1 x2 x3) (fun v4 => sn_Mono.ite (mono_Md_block_27 a) (sn_Mono.gR (fun v5 => sn_Mono.nn (fun a6 => sn_Mono.cI (mono_Md_flowAt a6 x1 x2 x3) (fun v7 => sn_Mono.aI (fun v8 => sn_Mono.ite (sn_Mono.gR (fun v9 => sn_Mono.nn (fun a10 => sn_Mono.cI (mono_Md_flowAt a10 x1 x2 x3) (fun v11 => sn_Mono.bZ (sn_Mono.nn (fun a12 => sn_Mono.cI (mono_Md_flowAt a12 x1 x2 x3) (fun v13 => sn_Mono.ite (mono_Md_block_63 a (some a) v13 (14 : Int32)) (mono_Md_block_63 a (some a) v13 (13 : Int32))))))))) (mono_Md_block_27 a))))))))
set_option maxHeartbeats 4000000 in
set_option maxRecDepth 100000 in
theorem con_Md_block (a : Nat) (x1 : Int32) (x2 : Int32) (x3 : Int32) (x4 : Int32) : sn_Con y_Md_block c_Md_block 5 (some .boolean) 6 145 [vA (some a), vI x1, vI x2, vI x3, vI x4] (f_Md_block a x1 x2 x3 x4) := by
  refine sn_Con.of (by decide +kernel) (by show _ ≤ _; exact Nat.le_of_ble_eq_true rfl) (mono_Md_block a x1 x2 x3 x4) (fun X C => ?_)
  show sn_S X 0 [(0, vA (some a)), (1, vI x1), (2, vI x2), (3, vI x3), (4, vI x4)] [] _
  replace C : sn_Cx X c_Md_block "SignalNetworkModel" (some .boolean) "block" 5 6 145 := C
  unfold f_Md_block
  refine r_aload_n (q := 1) (i := 0) (pl := 0) C d_Md_block_0 rfl rfl rfl ?_
  refine r_iload_n (q := 2) (i := 1) (pl := 1) C d_Md_block_1 rfl rfl rfl ?_
  refine r_iload_n (q := 3) (i := 2) (pl := 2) C d_Md_block_2 rfl rfl rfl ?_
  refine r_iload_n (q := 4) (i := 3) (pl := 3) C d_Md_block_3 rfl rfl rfl ?_
  refine r_cvI (q := 7) (As := [vI x1, vI x2, vI x3]) (st := []) (cy := 11) C d_Md_block_4 rfl Y_Md_isFlow L_Md_415 I_Md_isFlow Se_Md_isFlow rfl (by decide) rfl (Nat.le_of_ble_eq_true rfl) (Nat.le_of_ble_eq_true rfl) (Nat.le_of_ble_eq_true rfl) rfl (fun a3 => con_Md_isFlow a3 x1 x2 x3) (fun v4 => ?_)
  refine r_if_eq (tgt := 27) (q := 10) C d_Md_block_7 (by decide) rfl ?_ ?_
  · refine r_sub (lv' := [(0, vA (some a))]) [0] rfl ?_
    exact s_Md_block_27 C a
  · refine r_aload_n (q := 11) (i := 0) (pl := 0) C d_Md_block_10 rfl rfl rfl ?_
    refine r_gR (q := 14) C d_Md_block_11 rfl F_Md_159 rfl (fun v5 => ?_)
    refine r_aload_n (q := 15) (i := 0) (pl := 0) C d_Md_block_14 rfl rfl rfl ?_
    refine r_iload_n (q := 16) (i := 1) (pl := 1) C d_Md_block_15 rfl rfl rfl ?_
    refine r_iload_n (q := 17) (i := 2) (pl := 2) C d_Md_block_16 rfl rfl rfl ?_
    refine r_iload_n (q := 18) (i := 3) (pl := 3) C d_Md_block_17 rfl rfl rfl ?_
    refine r_cvI (q := 21) (As := [vI x1, vI x2, vI x3]) (st := [vA v5]) (cy := 11) C d_Md_block_18 rfl Y_Md_flowAt L_Md_212 I_Md_flowAt Se_Md_flowAt rfl (by decide) rfl (Nat.le_of_ble_eq_true rfl) (Nat.le_of_ble_eq_true rfl) (Nat.le_of_ble_eq_true rfl) rfl (fun a6 => con_Md_flowAt a6 x1 x2 x3) (fun v7 => ?_)
    refine r_aZ (q := 22) C (Or.inr rfl) d_Md_block_21 rfl (fun v8 => ?_)
    refine r_iload (q := 24) (i := 4) (pl := 4) C d_Md_block_22 rfl rfl ?_
    refine r_icmp_ne (tgt := 29) (q := 27) C d_Md_block_24 (by decide) rfl ?_ ?_
    · refine r_aload_n (q := 30) (i := 0) (pl := 0) C d_Md_block_29 rfl rfl rfl ?_
      refine r_gR (q := 33) C d_Md_block_30 rfl F_Md_159 rfl (fun v9 => ?_)
      refine r_aload_n (q := 34) (i := 0) (pl := 0) C d_Md_block_33 rfl rfl rfl ?_
      refine r_iload_n (q := 35) (i := 1) (pl := 1) C d_Md_block_34 rfl rfl rfl ?_
      refine r_iload_n (q := 36) (i := 2) (pl := 2) C d_Md_block_35 rfl rfl rfl ?_
      refine r_iload_n (q := 37) (i := 3) (pl := 3) C d_Md_block_36 rfl rfl rfl ?_
      refine r_cvI (q := 40) (As := [vI x1, vI x2, vI x3]) (st := [vA v9]) (cy := 11) C d_Md_block_37 rfl Y_Md_flowAt L_Md_212 I_Md_flowAt Se_Md_flowAt rfl (by decide) rfl (Nat.le_of_ble_eq_true rfl) (Nat.le_of_ble_eq_true rfl) (Nat.le_of_ble_eq_true rfl) rfl (fun a10 => con_Md_flowAt a10 x1 x2 x3) (fun v11 => ?_)
      refine r_iload (q := 42) (i := 4) (pl := 4) C d_Md_block_40 rfl rfl ?_
      refine r_bZ (q := 43) C (Or.inr rfl) d_Md_block_42 rfl ?_
      refine r_aload_n (q := 44) (i := 0) (pl := 0) C d_Md_block_43 rfl rfl rfl ?_
      refine r_aload_n (q := 45) (i := 0) (pl := 0) C d_Md_block_44 rfl rfl rfl ?_
      refine r_iload_n (q := 46) (i := 1) (pl := 1) C d_Md_block_45 rfl rfl rfl ?_
      refine r_iload_n (q := 47) (i := 2) (pl := 2) C d_Md_block_46 rfl rfl rfl ?_
      refine r_iload_n (q := 48) (i := 3) (pl := 3) C d_Md_block_47 rfl rfl rfl ?_
      refine r_cvI (q := 51) (As := [vI x1, vI x2, vI x3]) (st := [vA (some a)]) (cy := 11) C d_Md_block_48 rfl Y_Md_flowAt L_Md_212 I_Md_flowAt Se_Md_flowAt rfl (by decide) rfl (Nat.le_of_ble_eq_true rfl) (Nat.le_of_ble_eq_true rfl) (Nat.le_of_ble_eq_true rfl) rfl (fun a12 => con_Md_flowAt a12 x1 x2 x3) (fun v13 => ?_)
      refine r_iload (q := 53) (i := 4) (pl := 4) C d_Md_block_51 rfl rfl ?_
      refine r_if_eq (tgt := 61) (q := 56) C d_Md_block_53 (by decide) rfl ?_ ?_
      · refine r_bipush (q := 63) (v := 14) C d_Md_block_61 rfl (by decide) ?_
        refine r_sub (lv' := [(0, vA (some a))]) [0] rfl ?_
        exact s_Md_block_63 C a (some a) v13 (14 : Int32)
      · refine r_bipush (q := 58) (v := 13) C d_Md_block_56 rfl (by decide) ?_
        refine r_goto (tgt := 63) C d_Md_block_58 (by decide) ?_
        refine r_sub (lv' := [(0, vA (some a))]) [0] rfl ?_
        exact s_Md_block_63 C a (some a) v13 (13 : Int32)
    · refine r_sub (lv' := [(0, vA (some a))]) [0] rfl ?_
      exact s_Md_block_27 C a
theorem d_Md_left_0 : decode c_Md_left 0 = .ok (.iload_n 1, 1) := by decide +kernel
theorem d_Md_left_1 : decode c_Md_left 1 = .ok (.ifCond .ne 7, 3) := by decide +kernel
theorem d_Md_left_4 : decode c_Md_left 4 = .ok (.iconst 0, 1) := by decide +kernel
theorem d_Md_left_5 : decode c_Md_left 5 = .ok (.goto 9, 3) := by decide +kernel
theorem d_Md_left_8 : decode c_Md_left 8 = .ok (.iload_n 1, 1) := by decide +kernel
theorem d_Md_left_9 : decode c_Md_left 9 = .ok (.aload_n 0, 1) := by decide +kernel
theorem d_Md_left_10 : decode c_Md_left 10 = .ok (.getfield 256, 3) := by decide +kernel
theorem d_Md_left_13 : decode c_Md_left 13 = .ok (.isub, 1) := by decide +kernel
theorem d_Md_left_14 : decode c_Md_left 14 = .ok (.ireturn, 1) := by decide +kernel
def f_Md_left_14 (a : Nat) (t0 : Int32) : sn_M := r_I t0
set_option maxHeartbeats 4000000 in
set_option maxRecDepth 100000 in
theorem mono_Md_left_14 (a : Nat) (t0 : Int32) : sn_Mono (f_Md_left_14 a t0) := sn_Mono.rI
set_option maxHeartbeats 4000000 in
set_option maxRecDepth 100000 in
theorem s_Md_left_14 {X : sn_X} (C : sn_Cx X c_Md_left "SignalNetworkModel" (some .int) "left" 2 0 0) (a : Nat) (t0 : Int32) : sn_S X 14 [(0, vA (some a))] [vI t0] (f_Md_left_14 a t0) := by
  unfold f_Md_left_14
  exact r_iret C d_Md_left_14 rfl
def f_Md_left (a : Nat) (x1 : Int32) : sn_M := (if ¬ x1 = 0 then g_I 12 6 (some a) fun v1 => f_Md_left_14 a (x1 - v1) else f_Md_left_14 a (0 : Int32))
set_option maxHeartbeats 4000000 in
set_option maxRecDepth 100000 in
theorem mono_Md_left (a : Nat) (x1 : Int32) : sn_Mono (f_Md_left a x1) := sn_Mono.ite (sn_Mono.gI (fun v1 => mono_Md_left_14 a (x1 - v1))) (mono_Md_left_14 a (0 : Int32))
set_option maxHeartbeats 4000000 in
set_option maxRecDepth 100000 in
theorem con_Md_left (a : Nat) (x1 : Int32) : sn_Con y_Md_left c_Md_left 2 (some .int) 0 0 [vA (some a), vI x1] (f_Md_left a x1) := by
  refine sn_Con.of (by decide +kernel) (by show _ ≤ _; exact Nat.le_of_ble_eq_true rfl) (mono_Md_left a x1) (fun X C => ?_)
  show sn_S X 0 [(0, vA (some a)), (1, vI x1)] [] _
  replace C : sn_Cx X c_Md_left "SignalNetworkModel" (some .int) "left" 2 0 0 := C
  unfold f_Md_left
  refine r_iload_n (q := 1) (i := 1) (pl := 1) C d_Md_left_0 rfl rfl rfl ?_
  refine r_if_ne (tgt := 8) (q := 4) C d_Md_left_1 (by decide) rfl ?_ ?_
  · refine r_iload_n (q := 9) (i := 1) (pl := 1) C d_Md_left_8 rfl rfl rfl ?_
    refine r_aload_n (q := 10) (i := 0) (pl := 0) C d_Md_left_9 rfl rfl rfl ?_
    refine r_gI (q := 13) C d_Md_left_10 rfl F_Md_256 rfl (fun v1 => ?_)
    refine r_isub (q := 14) C d_Md_left_13 rfl ?_
    refine r_sub (lv' := [(0, vA (some a))]) [0] rfl ?_
    exact s_Md_left_14 C a (x1 - v1)
  · refine r_iconst (q := 5) (v := 0) C d_Md_left_4 rfl (by decide) ?_
    refine r_goto (tgt := 14) C d_Md_left_5 (by decide) ?_
    refine r_sub (lv' := [(0, vA (some a))]) [0] rfl ?_
    exact s_Md_left_14 C a (0 : Int32)
theorem d_Md_end_0 : decode c_Md_end 0 = .ok (.aload_n 0, 1) := by decide +kernel
theorem d_Md_end_1 : decode c_Md_end 1 = .ok (.iload_n 1, 1) := by decide +kernel
theorem d_Md_end_2 : decode c_Md_end 2 = .ok (.iload_n 2, 1) := by decide +kernel
theorem d_Md_end_3 : decode c_Md_end 3 = .ok (.invokevirtual 406, 3) := by decide +kernel
theorem d_Md_end_6 : decode c_Md_end 6 = .ok (.ifCond .ne 5, 3) := by decide +kernel
theorem d_Md_end_9 : decode c_Md_end 9 = .ok (.iconst (-1), 1) := by decide +kernel
theorem d_Md_end_10 : decode c_Md_end 10 = .ok (.ireturn, 1) := by decide +kernel
theorem d_Md_end_11 : decode c_Md_end 11 = .ok (.iconst 2, 1) := by decide +kernel
theorem d_Md_end_12 : decode c_Md_end 12 = .ok (.iload_n 1, 1) := by decide +kernel
theorem d_Md_end_13 : decode c_Md_end 13 = .ok (.imul, 1) := by decide +kernel
theorem d_Md_end_14 : decode c_Md_end 14 = .ok (.iload_n 2, 1) := by decide +kernel
theorem d_Md_end_15 : decode c_Md_end 15 = .ok (.iadd, 1) := by decide +kernel
theorem d_Md_end_16 : decode c_Md_end 16 = .ok (.istore 4, 2) := by decide +kernel
theorem d_Md_end_18 : decode c_Md_end 18 = .ok (.iload_n 3, 1) := by decide +kernel
theorem d_Md_end_19 : decode c_Md_end 19 = .ok (.tableswitch 230 0 15 #[77, 85, 97, 105, 113, 121, 129, 137, 145, 153, 161, 177, 189, 206, 214, 222], 77) := by decide +kernel
theorem d_Md_end_96 : decode c_Md_end 96 = .ok (.aload_n 0, 1) := by decide +kernel
theorem d_Md_end_97 : decode c_Md_end 97 = .ok (.getfield 23, 3) := by decide +kernel
theorem d_Md_end_100 : decode c_Md_end 100 = .ok (.iload 4, 2) := by decide +kernel
theorem d_Md_end_102 : decode c_Md_end 102 = .ok (.iaload, 1) := by decide +kernel
theorem d_Md_end_103 : decode c_Md_end 103 = .ok (.ireturn, 1) := by decide +kernel
theorem d_Md_end_104 : decode c_Md_end 104 = .ok (.aload_n 0, 1) := by decide +kernel
theorem d_Md_end_105 : decode c_Md_end 105 = .ok (.aload_n 0, 1) := by decide +kernel
theorem d_Md_end_106 : decode c_Md_end 106 = .ok (.getfield 26, 3) := by decide +kernel
theorem d_Md_end_109 : decode c_Md_end 109 = .ok (.iload 4, 2) := by decide +kernel
theorem d_Md_end_111 : decode c_Md_end 111 = .ok (.iaload, 1) := by decide +kernel
theorem d_Md_end_112 : decode c_Md_end 112 = .ok (.invokevirtual 418, 3) := by decide +kernel
theorem d_Md_end_115 : decode c_Md_end 115 = .ok (.ireturn, 1) := by decide +kernel
theorem d_Md_end_116 : decode c_Md_end 116 = .ok (.aload_n 0, 1) := by decide +kernel
theorem d_Md_end_117 : decode c_Md_end 117 = .ok (.getfield 29, 3) := by decide +kernel
theorem d_Md_end_120 : decode c_Md_end 120 = .ok (.iload 4, 2) := by decide +kernel
theorem d_Md_end_122 : decode c_Md_end 122 = .ok (.iaload, 1) := by decide +kernel
theorem d_Md_end_123 : decode c_Md_end 123 = .ok (.ireturn, 1) := by decide +kernel
theorem d_Md_end_124 : decode c_Md_end 124 = .ok (.aload_n 0, 1) := by decide +kernel
theorem d_Md_end_125 : decode c_Md_end 125 = .ok (.getfield 32, 3) := by decide +kernel
theorem d_Md_end_128 : decode c_Md_end 128 = .ok (.iload 4, 2) := by decide +kernel
theorem d_Md_end_130 : decode c_Md_end 130 = .ok (.iaload, 1) := by decide +kernel
theorem d_Md_end_131 : decode c_Md_end 131 = .ok (.ireturn, 1) := by decide +kernel
theorem d_Md_end_132 : decode c_Md_end 132 = .ok (.aload_n 0, 1) := by decide +kernel
theorem d_Md_end_133 : decode c_Md_end 133 = .ok (.getfield 35, 3) := by decide +kernel
theorem d_Md_end_136 : decode c_Md_end 136 = .ok (.iload 4, 2) := by decide +kernel
theorem d_Md_end_138 : decode c_Md_end 138 = .ok (.iaload, 1) := by decide +kernel
theorem d_Md_end_139 : decode c_Md_end 139 = .ok (.ireturn, 1) := by decide +kernel
theorem d_Md_end_140 : decode c_Md_end 140 = .ok (.aload_n 0, 1) := by decide +kernel
theorem d_Md_end_141 : decode c_Md_end 141 = .ok (.getfield 38, 3) := by decide +kernel
theorem d_Md_end_144 : decode c_Md_end 144 = .ok (.iload 4, 2) := by decide +kernel
theorem d_Md_end_146 : decode c_Md_end 146 = .ok (.iaload, 1) := by decide +kernel
theorem d_Md_end_147 : decode c_Md_end 147 = .ok (.ireturn, 1) := by decide +kernel
theorem d_Md_end_148 : decode c_Md_end 148 = .ok (.aload_n 0, 1) := by decide +kernel
theorem d_Md_end_149 : decode c_Md_end 149 = .ok (.getfield 75, 3) := by decide +kernel
theorem d_Md_end_152 : decode c_Md_end 152 = .ok (.iload 4, 2) := by decide +kernel
theorem d_Md_end_154 : decode c_Md_end 154 = .ok (.iaload, 1) := by decide +kernel
theorem d_Md_end_155 : decode c_Md_end 155 = .ok (.ireturn, 1) := by decide +kernel
theorem d_Md_end_156 : decode c_Md_end 156 = .ok (.aload_n 0, 1) := by decide +kernel
theorem d_Md_end_157 : decode c_Md_end 157 = .ok (.getfield 81, 3) := by decide +kernel
theorem d_Md_end_160 : decode c_Md_end 160 = .ok (.iload 4, 2) := by decide +kernel
theorem d_Md_end_162 : decode c_Md_end 162 = .ok (.iaload, 1) := by decide +kernel
theorem d_Md_end_163 : decode c_Md_end 163 = .ok (.ireturn, 1) := by decide +kernel
theorem d_Md_end_164 : decode c_Md_end 164 = .ok (.aload_n 0, 1) := by decide +kernel
theorem d_Md_end_165 : decode c_Md_end 165 = .ok (.getfield 41, 3) := by decide +kernel
theorem d_Md_end_168 : decode c_Md_end 168 = .ok (.iload 4, 2) := by decide +kernel
theorem d_Md_end_170 : decode c_Md_end 170 = .ok (.iaload, 1) := by decide +kernel
theorem d_Md_end_171 : decode c_Md_end 171 = .ok (.ireturn, 1) := by decide +kernel
theorem d_Md_end_172 : decode c_Md_end 172 = .ok (.aload_n 0, 1) := by decide +kernel
theorem d_Md_end_173 : decode c_Md_end 173 = .ok (.getfield 44, 3) := by decide +kernel
theorem d_Md_end_176 : decode c_Md_end 176 = .ok (.iload 4, 2) := by decide +kernel
theorem d_Md_end_178 : decode c_Md_end 178 = .ok (.iaload, 1) := by decide +kernel
theorem d_Md_end_179 : decode c_Md_end 179 = .ok (.ireturn, 1) := by decide +kernel
theorem d_Md_end_180 : decode c_Md_end 180 = .ok (.aload_n 0, 1) := by decide +kernel
theorem d_Md_end_181 : decode c_Md_end 181 = .ok (.getfield 62, 3) := by decide +kernel
theorem d_Md_end_184 : decode c_Md_end 184 = .ok (.iload 4, 2) := by decide +kernel
theorem d_Md_end_186 : decode c_Md_end 186 = .ok (.baload, 1) := by decide +kernel
theorem d_Md_end_187 : decode c_Md_end 187 = .ok (.ifCond .eq 7, 3) := by decide +kernel
theorem d_Md_end_190 : decode c_Md_end 190 = .ok (.iconst 1, 1) := by decide +kernel
theorem d_Md_end_191 : decode c_Md_end 191 = .ok (.goto 4, 3) := by decide +kernel
theorem d_Md_end_194 : decode c_Md_end 194 = .ok (.iconst 0, 1) := by decide +kernel
theorem d_Md_end_195 : decode c_Md_end 195 = .ok (.ireturn, 1) := by decide +kernel
theorem d_Md_end_196 : decode c_Md_end 196 = .ok (.aload_n 0, 1) := by decide +kernel
theorem d_Md_end_197 : decode c_Md_end 197 = .ok (.aload_n 0, 1) := by decide +kernel
theorem d_Md_end_198 : decode c_Md_end 198 = .ok (.getfield 53, 3) := by decide +kernel
theorem d_Md_end_201 : decode c_Md_end 201 = .ok (.iload 4, 2) := by decide +kernel
theorem d_Md_end_203 : decode c_Md_end 203 = .ok (.iaload, 1) := by decide +kernel
theorem d_Md_end_204 : decode c_Md_end 204 = .ok (.invokevirtual 418, 3) := by decide +kernel
theorem d_Md_end_207 : decode c_Md_end 207 = .ok (.ireturn, 1) := by decide +kernel
theorem d_Md_end_208 : decode c_Md_end 208 = .ok (.aload_n 0, 1) := by decide +kernel
theorem d_Md_end_209 : decode c_Md_end 209 = .ok (.getfield 56, 3) := by decide +kernel
theorem d_Md_end_212 : decode c_Md_end 212 = .ok (.iload 4, 2) := by decide +kernel
theorem d_Md_end_214 : decode c_Md_end 214 = .ok (.iaload, 1) := by decide +kernel
theorem d_Md_end_215 : decode c_Md_end 215 = .ok (.iconst (-1), 1) := by decide +kernel
theorem d_Md_end_216 : decode c_Md_end 216 = .ok (.if_icmp .ne 7, 3) := by decide +kernel
theorem d_Md_end_219 : decode c_Md_end 219 = .ok (.iconst 0, 1) := by decide +kernel
theorem d_Md_end_220 : decode c_Md_end 220 = .ok (.goto 4, 3) := by decide +kernel
theorem d_Md_end_223 : decode c_Md_end 223 = .ok (.iconst 1, 1) := by decide +kernel
theorem d_Md_end_224 : decode c_Md_end 224 = .ok (.ireturn, 1) := by decide +kernel
theorem d_Md_end_225 : decode c_Md_end 225 = .ok (.aload_n 0, 1) := by decide +kernel
theorem d_Md_end_226 : decode c_Md_end 226 = .ok (.getfield 59, 3) := by decide +kernel
theorem d_Md_end_229 : decode c_Md_end 229 = .ok (.iload 4, 2) := by decide +kernel
theorem d_Md_end_231 : decode c_Md_end 231 = .ok (.iaload, 1) := by decide +kernel
theorem d_Md_end_232 : decode c_Md_end 232 = .ok (.ireturn, 1) := by decide +kernel
theorem d_Md_end_233 : decode c_Md_end 233 = .ok (.aload_n 0, 1) := by decide +kernel
theorem d_Md_end_234 : decode c_Md_end 234 = .ok (.getfield 105, 3) := by decide +kernel
theorem d_Md_end_237 : decode c_Md_end 237 = .ok (.iload 4, 2) := by decide +kernel
theorem d_Md_end_239 : decode c_Md_end 239 = .ok (.iaload, 1) := by decide +kernel
theorem d_Md_end_240 : decode c_Md_end 240 = .ok (.ireturn, 1) := by decide +kernel
theorem d_Md_end_241 : decode c_Md_end 241 = .ok (.aload_n 0, 1) := by decide +kernel
theorem d_Md_end_242 : decode c_Md_end 242 = .ok (.getfield 108, 3) := by decide +kernel
theorem d_Md_end_245 : decode c_Md_end 245 = .ok (.iload 4, 2) := by decide +kernel
theorem d_Md_end_247 : decode c_Md_end 247 = .ok (.iaload, 1) := by decide +kernel
theorem d_Md_end_248 : decode c_Md_end 248 = .ok (.ireturn, 1) := by decide +kernel
theorem d_Md_end_249 : decode c_Md_end 249 = .ok (.iconst (-1), 1) := by decide +kernel
theorem d_Md_end_250 : decode c_Md_end 250 = .ok (.ireturn, 1) := by decide +kernel
def f_Md_end_224 (a : Nat) (t0 : Int32) : sn_M := r_I t0
set_option maxHeartbeats 4000000 in
set_option maxRecDepth 100000 in
theorem mono_Md_end_224 (a : Nat) (t0 : Int32) : sn_Mono (f_Md_end_224 a t0) := sn_Mono.rI
set_option maxHeartbeats 4000000 in
set_option maxRecDepth 100000 in
theorem s_Md_end_224 {X : sn_X} (C : sn_Cx X c_Md_end "SignalNetworkModel" (some .int) "end" 5 2 43) (a : Nat) (t0 : Int32) : sn_S X 224 [(0, vA (some a))] [vI t0] (f_Md_end_224 a t0) := by
  unfold f_Md_end_224
  exact r_iret C d_Md_end_224 rfl
def f_Md_end_195 (a : Nat) (t0 : Int32) : sn_M := r_I t0
set_option maxHeartbeats 4000000 in
set_option maxRecDepth 100000 in
theorem mono_Md_end_195 (a : Nat) (t0 : Int32) : sn_Mono (f_Md_end_195 a t0) := sn_Mono.rI
set_option maxHeartbeats 4000000 in
set_option maxRecDepth 100000 in
theorem s_Md_end_195 {X : sn_X} (C : sn_Cx X c_Md_end "SignalNetworkModel" (some .int) "end" 5 2 43) (a : Nat) (t0 : Int32) : sn_S X 195 [(0, vA (some a))] [vI t0] (f_Md_end_195 a t0) := by
  unfold f_Md_end_195
  exact r_iret C d_Md_end_195 rfl
def f_Md_end (a : Nat) (x1 : Int32) (x2 : Int32) (x3 : Int32) : sn_M := n_n 12 (some a) fun a1 => c_I (f_Md_isEnd a1 x1 x2) fun v2 => (if ¬ v2 = 0 then n_I ((((2 : Int32) * x1) + x2)) fun n3 => (sn_sw x3 [0, 1, 2, 3, 4, 5, 6, 7, 8, 9, 10, 11, 12, 13, 14, 15] [(g_R 12 10 (some a) fun v4 => a_I 31 v4 n3 fun v5 => r_I v5), (g_R 12 11 (some a) fun v6 => a_I 31 v6 n3 fun v7 => n_n 12 (some a) fun a8 => c_I (f_Md_left a8 v7) fun v9 => r_I v9), (g_R 12 12 (some a) fun v10 => a_I 31 v10 n3 fun v11 => r_I v11), (g_R 12 13 (some a) fun v12 => a_I 31 v12 n3 fun v13 => r_I v13), (g_R 12 14 (some a) fun v14 => a_I 31 v14 n3 fun v15 => r_I v15), (g_R 12 15 (some a) fun v16 => a_I 31 v16 n3 fun v17 => r_I v17), (g_R 12 27 (some a) fun v18 => a_I 31 v18 n3 fun v19 => r_I v19), (g_R 12 29 (some a) fun v20 => a_I 31 v20 n3 fun v21 => r_I v21), (g_R 12 16 (some a) fun v22 => a_I 31 v22 n3 fun v23 => r_I v23), (g_R 12 17 (some a) fun v24 => a_I 31 v24 n3 fun v25 => r_I v25), (g_R 12 23 (some a) fun v26 => a_I 33 v26 n3 fun v27 => (if v27 = 0 then f_Md_end_195 a (0 : Int32) else f_Md_end_195 a (1 : Int32))), (g_R 12 20 (some a) fun v28 => a_I 31 v28 n3 fun v29 => n_n 12 (some a) fun a30 => c_I (f_Md_left a30 v29) fun v31 => r_I v31), (g_R 12 21 (some a) fun v32 => a_I 31 v32 n3 fun v33 => (if ¬ v33 = (-1 : Int32) then f_Md_end_224 a (1 : Int32) else f_Md_end_224 a (0 : Int32))), (g_R 12 22 (some a) fun v34 => a_I 31 v34 n3 fun v35 => r_I v35), (g_R 12 37 (some a) fun v36 => a_I 31 v36 n3 fun v37 => r_I v37), (g_R 12 38 (some a) fun v38 => a_I 31 v38 n3 fun v39 => r_I v39)] (r_I (-1 : Int32))) else r_I (-1 : Int32))
set_option maxHeartbeats 4000000 in
set_option maxRecDepth 100000 in
theorem mono_Md_end (a : Nat) (x1 : Int32) (x2 : Int32) (x3 : Int32) : sn_Mono (f_Md_end a x1 x2 x3) := sn_Mono.nn (fun a1 => sn_Mono.cI (mono_Md_isEnd a1 x1 x2) (fun v2 => sn_Mono.ite (sn_Mono.nI (fun n3 => sn_sw_mono (sn_Mono.rI) _ _ (List.forall_mem_cons.mpr ⟨sn_Mono.gR (fun v4 => sn_Mono.aI (fun v5 => sn_Mono.rI)), (List.forall_mem_cons.mpr ⟨sn_Mono.gR (fun v6 => sn_Mono.aI (fun v7 => sn_Mono.nn (fun a8 => sn_Mono.cI (mono_Md_left a8 v7) (fun v9 => sn_Mono.rI)))), (List.forall_mem_cons.mpr ⟨sn_Mono.gR (fun v10 => sn_Mono.aI (fun v11 => sn_Mono.rI)), (List.forall_mem_cons.mpr ⟨sn_Mono.gR (fun v12 => sn_Mono.aI (fun v13 => sn_Mono.rI)), (List.forall_mem_cons.mpr ⟨sn_Mono.gR (fun v14 => sn_Mono.aI (fun v15 => sn_Mono.rI)), (List.forall_mem_cons.mpr ⟨sn_Mono.gR (fun v16 => sn_Mono.aI (fun v17 => sn_Mono.rI)), (List.forall_mem_cons.mpr ⟨sn_Mono.gR (fun v18 => sn_Mono.aI (fun v19 => sn_Mono.rI)), (List.forall_mem_cons.mpr ⟨sn_Mono.gR (fun v20 => sn_Mono.aI (fun v21 => sn_Mono.rI)), (List.forall_mem_cons.mpr ⟨sn_Mono.gR (fun v22 => sn_Mono.aI (fun v23 => sn_Mono.rI)), (List.forall_mem_cons.mpr ⟨sn_Mono.gR (fun v24 => sn_Mono.aI (fun v25 => sn_Mono.rI)), (List.forall_mem_cons.mpr ⟨sn_Mono.gR (fun v26 => sn_Mono.aI (fun v27 => sn_Mono.ite (mono_Md_end_195 a (0 : Int32)) (mono_Md_end_195 a (1 : Int32)))), (List.forall_mem_cons.mpr ⟨sn_Mono.gR (fun v28 => sn_Mono.aI (fun v29 => sn_Mono.nn (fun a30 => sn_Mono.cI (mono_Md_left a30 v29) (fun v31 => sn_Mono.rI)))), (List.forall_mem_cons.mpr ⟨sn_Mono.gR (fun v32 => sn_Mono.aI (fun v33 => sn_Mono.ite (mono_Md_end_224 a (1 : Int32)) (mono_Md_end_224 a (0 : Int32)))), (List.forall_mem_cons.mpr ⟨sn_Mono.gR (fun v34 => sn_Mono.aI (fun v35 => sn_Mono.rI)), (List.forall_mem_cons.mpr ⟨sn_Mono.gR (fun v36 => sn_Mono.aI (fun v37 => sn_Mono.rI)), (List.forall_mem_cons.mpr ⟨sn_Mono.gR (fun v38 => sn_Mono.aI (fun v39 => sn_Mono.rI)), (fun _ h => absurd h List.not_mem_nil)⟩)⟩)⟩)⟩)⟩)⟩)⟩)⟩)⟩)⟩)⟩)⟩)⟩)⟩)⟩)⟩))) (sn_Mono.rI)))
set_option maxHeartbeats 4000000 in
set_option maxRecDepth 100000 in
theorem con_Md_end (a : Nat) (x1 : Int32) (x2 : Int32) (x3 : Int32) : sn_Con y_Md_end c_Md_end 5 (some .int) 2 43 [vA (some a), vI x1, vI x2, vI x3] (f_Md_end a x1 x2 x3) := by
  refine sn_Con.of (by decide +kernel) (by show _ ≤ _; exact Nat.le_of_ble_eq_true rfl) (mono_Md_end a x1 x2 x3) (fun X C => ?_)
  show sn_S X 0 [(0, vA (some a)), (1, vI x1), (2, vI x2), (3, vI x3)] [] _
  replace C : sn_Cx X c_Md_end "SignalNetworkModel" (some .int) "end" 5 2 43 := C
  unfold f_Md_end
  refine r_aload_n (q := 1) (i := 0) (pl := 0) C d_Md_end_0 rfl rfl rfl ?_
  refine r_iload_n (q := 2) (i := 1) (pl := 1) C d_Md_end_1 rfl rfl rfl ?_
  refine r_iload_n (q := 3) (i := 2) (pl := 2) C d_Md_end_2 rfl rfl rfl ?_
  refine r_cvI (q := 6) (As := [vI x1, vI x2]) (st := []) (cy := 11) C d_Md_end_3 rfl Y_Md_isEnd L_Md_406 I_Md_isEnd Se_Md_isEnd rfl (by decide) rfl (Nat.le_of_ble_eq_true rfl) (Nat.le_of_ble_eq_true rfl) (Nat.le_of_ble_eq_true rfl) rfl (fun a1 => con_Md_isEnd a1 x1 x2) (fun v2 => ?_)
  refine r_if_ne (tgt := 11) (q := 9) C d_Md_end_6 (by decide) rfl ?_ ?_
  · refine r_iconst (q := 12) (v := 2) C d_Md_end_11 rfl (by decide) ?_
    refine r_iload_n (q := 13) (i := 1) (pl := 1) C d_Md_end_12 rfl rfl rfl ?_
    refine r_imul (q := 14) C d_Md_end_13 rfl ?_
    refine r_iload_n (q := 15) (i := 2) (pl := 2) C d_Md_end_14 rfl rfl rfl ?_
    refine r_iadd (q := 16) C d_Md_end_15 rfl ?_
    refine r_nI (fun n3 => ?_)
    refine r_istore (q := 18) (i := 4) (lv' := [(4, vI n3), (0, vA (some a)), (1, vI x1), (2, vI x2), (3, vI x3)]) C d_Md_end_16 rfl (by decide) rfl ?_
    refine r_iload_n (q := 19) (i := 3) (pl := 4) C d_Md_end_18 rfl rfl rfl ?_
    refine r_table (tD := 249) (ks := [0, 1, 2, 3, 4, 5, 6, 7, 8, 9, 10, 11, 12, 13, 14, 15]) (ts := [96, 104, 116, 124, 132, 140, 148, 156, 164, 172, 180, 196, 208, 225, 233, 241]) C d_Md_end_19 (by decide) (by decide) rfl ?_ ⟨?_, ?_, ?_, ?_, ?_, ?_, ?_, ?_, ?_, ?_, ?_, ?_, ?_, ?_, ?_, ?_, trivial⟩
    · refine r_iconst (q := 250) (v := -1) C d_Md_end_249 rfl (by decide) ?_
      exact r_iret C d_Md_end_250 rfl
    · refine r_aload_n (q := 97) (i := 0) (pl := 1) C d_Md_end_96 rfl rfl rfl ?_
      refine r_gR (q := 100) C d_Md_end_97 rfl F_Md_23 rfl (fun v4 => ?_)
      refine r_iload (q := 102) (i := 4) (pl := 0) C d_Md_end_100 rfl rfl ?_
      refine r_aI (q := 103) C (Or.inr rfl) d_Md_end_102 rfl (fun v5 => ?_)
      exact r_iret C d_Md_end_103 rfl
    · refine r_aload_n (q := 105) (i := 0) (pl := 1) C d_Md_end_104 rfl rfl rfl ?_
      refine r_aload_n (q := 106) (i := 0) (pl := 1) C d_Md_end_105 rfl rfl rfl ?_
      refine r_gR (q := 109) C d_Md_end_106 rfl F_Md_26 rfl (fun v6 => ?_)
      refine r_iload (q := 111) (i := 4) (pl := 0) C d_Md_end_109 rfl rfl ?_
      refine r_aI (q := 112) C (Or.inr rfl) d_Md_end_111 rfl (fun v7 => ?_)
      refine r_cvI (q := 115) (As := [vI v7]) (st := []) (cy := 11) C d_Md_end_112 rfl Y_Md_left L_Md_418 I_Md_left Se_Md_left rfl (by decide) rfl (Nat.le_of_ble_eq_true rfl) (Nat.le_of_ble_eq_true rfl) (Nat.le_of_ble_eq_true rfl) rfl (fun a8 => con_Md_left a8 v7) (fun v9 => ?_)
      exact r_iret C d_Md_end_115 rfl
    · refine r_aload_n (q := 117) (i := 0) (pl := 1) C d_Md_end_116 rfl rfl rfl ?_
      refine r_gR (q := 120) C d_Md_end_117 rfl F_Md_29 rfl (fun v10 => ?_)
      refine r_iload (q := 122) (i := 4) (pl := 0) C d_Md_end_120 rfl rfl ?_
      refine r_aI (q := 123) C (Or.inr rfl) d_Md_end_122 rfl (fun v11 => ?_)
      exact r_iret C d_Md_end_123 rfl
    · refine r_aload_n (q := 125) (i := 0) (pl := 1) C d_Md_end_124 rfl rfl rfl ?_
      refine r_gR (q := 128) C d_Md_end_125 rfl F_Md_32 rfl (fun v12 => ?_)
      refine r_iload (q := 130) (i := 4) (pl := 0) C d_Md_end_128 rfl rfl ?_
      refine r_aI (q := 131) C (Or.inr rfl) d_Md_end_130 rfl (fun v13 => ?_)
      exact r_iret C d_Md_end_131 rfl
    · refine r_aload_n (q := 133) (i := 0) (pl := 1) C d_Md_end_132 rfl rfl rfl ?_
      refine r_gR (q := 136) C d_Md_end_133 rfl F_Md_35 rfl (fun v14 => ?_)
      refine r_iload (q := 138) (i := 4) (pl := 0) C d_Md_end_136 rfl rfl ?_
      refine r_aI (q := 139) C (Or.inr rfl) d_Md_end_138 rfl (fun v15 => ?_)
      exact r_iret C d_Md_end_139 rfl
    · refine r_aload_n (q := 141) (i := 0) (pl := 1) C d_Md_end_140 rfl rfl rfl ?_
      refine r_gR (q := 144) C d_Md_end_141 rfl F_Md_38 rfl (fun v16 => ?_)
      refine r_iload (q := 146) (i := 4) (pl := 0) C d_Md_end_144 rfl rfl ?_
      refine r_aI (q := 147) C (Or.inr rfl) d_Md_end_146 rfl (fun v17 => ?_)
      exact r_iret C d_Md_end_147 rfl
    · refine r_aload_n (q := 149) (i := 0) (pl := 1) C d_Md_end_148 rfl rfl rfl ?_
      refine r_gR (q := 152) C d_Md_end_149 rfl F_Md_75 rfl (fun v18 => ?_)
      refine r_iload (q := 154) (i := 4) (pl := 0) C d_Md_end_152 rfl rfl ?_
      refine r_aI (q := 155) C (Or.inr rfl) d_Md_end_154 rfl (fun v19 => ?_)
      exact r_iret C d_Md_end_155 rfl
    · refine r_aload_n (q := 157) (i := 0) (pl := 1) C d_Md_end_156 rfl rfl rfl ?_
      refine r_gR (q := 160) C d_Md_end_157 rfl F_Md_81 rfl (fun v20 => ?_)
      refine r_iload (q := 162) (i := 4) (pl := 0) C d_Md_end_160 rfl rfl ?_
      refine r_aI (q := 163) C (Or.inr rfl) d_Md_end_162 rfl (fun v21 => ?_)
      exact r_iret C d_Md_end_163 rfl
    · refine r_aload_n (q := 165) (i := 0) (pl := 1) C d_Md_end_164 rfl rfl rfl ?_
      refine r_gR (q := 168) C d_Md_end_165 rfl F_Md_41 rfl (fun v22 => ?_)
      refine r_iload (q := 170) (i := 4) (pl := 0) C d_Md_end_168 rfl rfl ?_
      refine r_aI (q := 171) C (Or.inr rfl) d_Md_end_170 rfl (fun v23 => ?_)
      exact r_iret C d_Md_end_171 rfl
    · refine r_aload_n (q := 173) (i := 0) (pl := 1) C d_Md_end_172 rfl rfl rfl ?_
      refine r_gR (q := 176) C d_Md_end_173 rfl F_Md_44 rfl (fun v24 => ?_)
      refine r_iload (q := 178) (i := 4) (pl := 0) C d_Md_end_176 rfl rfl ?_
      refine r_aI (q := 179) C (Or.inr rfl) d_Md_end_178 rfl (fun v25 => ?_)
      exact r_iret C d_Md_end_179 rfl
    · refine r_aload_n (q := 181) (i := 0) (pl := 1) C d_Md_end_180 rfl rfl rfl ?_
      refine r_gR (q := 184) C d_Md_end_181 rfl F_Md_62 rfl (fun v26 => ?_)
      refine r_iload (q := 186) (i := 4) (pl := 0) C d_Md_end_184 rfl rfl ?_
      refine r_aZ (q := 187) C (Or.inr rfl) d_Md_end_186 rfl (fun v27 => ?_)
      refine r_if_eq (tgt := 194) (q := 190) C d_Md_end_187 (by decide) rfl ?_ ?_
      · refine r_iconst (q := 195) (v := 0) C d_Md_end_194 rfl (by decide) ?_
        refine r_sub (lv' := [(0, vA (some a))]) [1] rfl ?_
        exact s_Md_end_195 C a (0 : Int32)
      · refine r_iconst (q := 191) (v := 1) C d_Md_end_190 rfl (by decide) ?_
        refine r_goto (tgt := 195) C d_Md_end_191 (by decide) ?_
        refine r_sub (lv' := [(0, vA (some a))]) [1] rfl ?_
        exact s_Md_end_195 C a (1 : Int32)
    · refine r_aload_n (q := 197) (i := 0) (pl := 1) C d_Md_end_196 rfl rfl rfl ?_
      refine r_aload_n (q := 198) (i := 0) (pl := 1) C d_Md_end_197 rfl rfl rfl ?_
      refine r_gR (q := 201) C d_Md_end_198 rfl F_Md_53 rfl (fun v28 => ?_)
      refine r_iload (q := 203) (i := 4) (pl := 0) C d_Md_end_201 rfl rfl ?_
      refine r_aI (q := 204) C (Or.inr rfl) d_Md_end_203 rfl (fun v29 => ?_)
      refine r_cvI (q := 207) (As := [vI v29]) (st := []) (cy := 11) C d_Md_end_204 rfl Y_Md_left L_Md_418 I_Md_left Se_Md_left rfl (by decide) rfl (Nat.le_of_ble_eq_true rfl) (Nat.le_of_ble_eq_true rfl) (Nat.le_of_ble_eq_true rfl) rfl (fun a30 => con_Md_left a30 v29) (fun v31 => ?_)
      exact r_iret C d_Md_end_207 rfl
    · refine r_aload_n (q := 209) (i := 0) (pl := 1) C d_Md_end_208 rfl rfl rfl ?_
      refine r_gR (q := 212) C d_Md_end_209 rfl F_Md_56 rfl (fun v32 => ?_)
      refine r_iload (q := 214) (i := 4) (pl := 0) C d_Md_end_212 rfl rfl ?_
      refine r_aI (q := 215) C (Or.inr rfl) d_Md_end_214 rfl (fun v33 => ?_)
      refine r_iconst (q := 216) (v := -1) C d_Md_end_215 rfl (by decide) ?_
      refine r_icmp_ne (tgt := 223) (q := 219) C d_Md_end_216 (by decide) rfl ?_ ?_
      · refine r_iconst (q := 224) (v := 1) C d_Md_end_223 rfl (by decide) ?_
        refine r_sub (lv' := [(0, vA (some a))]) [1] rfl ?_
        exact s_Md_end_224 C a (1 : Int32)
      · refine r_iconst (q := 220) (v := 0) C d_Md_end_219 rfl (by decide) ?_
        refine r_goto (tgt := 224) C d_Md_end_220 (by decide) ?_
        refine r_sub (lv' := [(0, vA (some a))]) [1] rfl ?_
        exact s_Md_end_224 C a (0 : Int32)
    · refine r_aload_n (q := 226) (i := 0) (pl := 1) C d_Md_end_225 rfl rfl rfl ?_
      refine r_gR (q := 229) C d_Md_end_226 rfl F_Md_59 rfl (fun v34 => ?_)
      refine r_iload (q := 231) (i := 4) (pl := 0) C d_Md_end_229 rfl rfl ?_
      refine r_aI (q := 232) C (Or.inr rfl) d_Md_end_231 rfl (fun v35 => ?_)
      exact r_iret C d_Md_end_232 rfl
    · refine r_aload_n (q := 234) (i := 0) (pl := 1) C d_Md_end_233 rfl rfl rfl ?_
      refine r_gR (q := 237) C d_Md_end_234 rfl F_Md_105 rfl (fun v36 => ?_)
      refine r_iload (q := 239) (i := 4) (pl := 0) C d_Md_end_237 rfl rfl ?_
      refine r_aI (q := 240) C (Or.inr rfl) d_Md_end_239 rfl (fun v37 => ?_)
      exact r_iret C d_Md_end_240 rfl
    · refine r_aload_n (q := 242) (i := 0) (pl := 1) C d_Md_end_241 rfl rfl rfl ?_
      refine r_gR (q := 245) C d_Md_end_242 rfl F_Md_108 rfl (fun v38 => ?_)
      refine r_iload (q := 247) (i := 4) (pl := 0) C d_Md_end_245 rfl rfl ?_
      refine r_aI (q := 248) C (Or.inr rfl) d_Md_end_247 rfl (fun v39 => ?_)
      exact r_iret C d_Md_end_248 rfl
  · refine r_iconst (q := 10) (v := -1) C d_Md_end_9 rfl (by decide) ?_
    exact r_iret C d_Md_end_10 rfl
theorem d_Md_octets_0 : decode c_Md_octets 0 = .ok (.aload_n 0, 1) := by decide +kernel
theorem d_Md_octets_1 : decode c_Md_octets 1 = .ok (.getfield 84, 3) := by decide +kernel
theorem d_Md_octets_4 : decode c_Md_octets 4 = .ok (.iload_n 1, 1) := by decide +kernel
theorem d_Md_octets_5 : decode c_Md_octets 5 = .ok (.iaload, 1) := by decide +kernel
theorem d_Md_octets_6 : decode c_Md_octets 6 = .ok (.iconst 5, 1) := by decide +kernel
theorem d_Md_octets_7 : decode c_Md_octets 7 = .ok (.if_icmp .ne 8, 3) := by decide +kernel
theorem d_Md_octets_10 : decode c_Md_octets 10 = .ok (.bipush 13, 2) := by decide +kernel
theorem d_Md_octets_12 : decode c_Md_octets 12 = .ok (.goto 19, 3) := by decide +kernel
theorem d_Md_octets_15 : decode c_Md_octets 15 = .ok (.aload_n 0, 1) := by decide +kernel
theorem d_Md_octets_16 : decode c_Md_octets 16 = .ok (.getfield 84, 3) := by decide +kernel
theorem d_Md_octets_19 : decode c_Md_octets 19 = .ok (.iload_n 1, 1) := by decide +kernel
theorem d_Md_octets_20 : decode c_Md_octets 20 = .ok (.iaload, 1) := by decide +kernel
theorem d_Md_octets_21 : decode c_Md_octets 21 = .ok (.iconst 4, 1) := by decide +kernel
theorem d_Md_octets_22 : decode c_Md_octets 22 = .ok (.if_icmp .ne 7, 3) := by decide +kernel
theorem d_Md_octets_25 : decode c_Md_octets 25 = .ok (.iconst 5, 1) := by decide +kernel
theorem d_Md_octets_26 : decode c_Md_octets 26 = .ok (.goto 5, 3) := by decide +kernel
theorem d_Md_octets_29 : decode c_Md_octets 29 = .ok (.bipush 6, 2) := by decide +kernel
theorem d_Md_octets_31 : decode c_Md_octets 31 = .ok (.ireturn, 1) := by decide +kernel
def f_Md_octets_31 (a : Nat) (t0 : Int32) : sn_M := r_I t0
set_option maxHeartbeats 4000000 in
set_option maxRecDepth 100000 in
theorem mono_Md_octets_31 (a : Nat) (t0 : Int32) : sn_Mono (f_Md_octets_31 a t0) := sn_Mono.rI
set_option maxHeartbeats 4000000 in
set_option maxRecDepth 100000 in
theorem s_Md_octets_31 {X : sn_X} (C : sn_Cx X c_Md_octets "SignalNetworkModel" (some .int) "octets" 2 0 0) (a : Nat) (t0 : Int32) : sn_S X 31 [(0, vA (some a))] [vI t0] (f_Md_octets_31 a t0) := by
  unfold f_Md_octets_31
  exact r_iret C d_Md_octets_31 rfl
def f_Md_octets (a : Nat) (x1 : Int32) : sn_M := g_R 12 30 (some a) fun v1 => a_I 31 v1 x1 fun v2 => (if ¬ v2 = (5 : Int32) then g_R 12 30 (some a) fun v3 => a_I 31 v3 x1 fun v4 => (if ¬ v4 = (4 : Int32) then f_Md_octets_31 a (6 : Int32) else f_Md_octets_31 a (5 : Int32)) else f_Md_octets_31 a (13 : Int32))
set_option maxHeartbeats 4000000 in
set_option maxRecDepth 100000 in
theorem mono_Md_octets (a : Nat) (x1 : Int32) : sn_Mono (f_Md_octets a x1) := sn_Mono.gR (fun v1 => sn_Mono.aI (fun v2 => sn_Mono.ite (sn_Mono.gR (fun v3 => sn_Mono.aI (fun v4 => sn_Mono.ite (mono_Md_octets_31 a (6 : Int32)) (mono_Md_octets_31 a (5 : Int32))))) (mono_Md_octets_31 a (13 : Int32))))
set_option maxHeartbeats 4000000 in
set_option maxRecDepth 100000 in
theorem con_Md_octets (a : Nat) (x1 : Int32) : sn_Con y_Md_octets c_Md_octets 2 (some .int) 0 0 [vA (some a), vI x1] (f_Md_octets a x1) := by
  refine sn_Con.of (by decide +kernel) (by show _ ≤ _; exact Nat.le_of_ble_eq_true rfl) (mono_Md_octets a x1) (fun X C => ?_)
  show sn_S X 0 [(0, vA (some a)), (1, vI x1)] [] _
  replace C : sn_Cx X c_Md_octets "SignalNetworkModel" (some .int) "octets" 2 0 0 := C
  unfold f_Md_octets
  refine r_aload_n (q := 1) (i := 0) (pl := 0) C d_Md_octets_0 rfl rfl rfl ?_
  refine r_gR (q := 4) C d_Md_octets_1 rfl F_Md_84 rfl (fun v1 => ?_)
  refine r_iload_n (q := 5) (i := 1) (pl := 1) C d_Md_octets_4 rfl rfl rfl ?_
  refine r_aI (q := 6) C (Or.inr rfl) d_Md_octets_5 rfl (fun v2 => ?_)
  refine r_iconst (q := 7) (v := 5) C d_Md_octets_6 rfl (by decide) ?_
  refine r_icmp_ne (tgt := 15) (q := 10) C d_Md_octets_7 (by decide) rfl ?_ ?_
  · refine r_aload_n (q := 16) (i := 0) (pl := 0) C d_Md_octets_15 rfl rfl rfl ?_
    refine r_gR (q := 19) C d_Md_octets_16 rfl F_Md_84 rfl (fun v3 => ?_)
    refine r_iload_n (q := 20) (i := 1) (pl := 1) C d_Md_octets_19 rfl rfl rfl ?_
    refine r_aI (q := 21) C (Or.inr rfl) d_Md_octets_20 rfl (fun v4 => ?_)
    refine r_iconst (q := 22) (v := 4) C d_Md_octets_21 rfl (by decide) ?_
    refine r_icmp_ne (tgt := 29) (q := 25) C d_Md_octets_22 (by decide) rfl ?_ ?_
    · refine r_bipush (q := 31) (v := 6) C d_Md_octets_29 rfl (by decide) ?_
      refine r_sub (lv' := [(0, vA (some a))]) [0] rfl ?_
      exact s_Md_octets_31 C a (6 : Int32)
    · refine r_iconst (q := 26) (v := 5) C d_Md_octets_25 rfl (by decide) ?_
      refine r_goto (tgt := 31) C d_Md_octets_26 (by decide) ?_
      refine r_sub (lv' := [(0, vA (some a))]) [0] rfl ?_
      exact s_Md_octets_31 C a (5 : Int32)
  · refine r_bipush (q := 12) (v := 13) C d_Md_octets_10 rfl (by decide) ?_
    refine r_goto (tgt := 31) C d_Md_octets_12 (by decide) ?_
    refine r_sub (lv' := [(0, vA (some a))]) [0] rfl ?_
    exact s_Md_octets_31 C a (13 : Int32)
theorem d_Md_plain_0 : decode c_Md_plain 0 = .ok (.aload_n 0, 1) := by decide +kernel
theorem d_Md_plain_1 : decode c_Md_plain 1 = .ok (.getfield 84, 3) := by decide +kernel
theorem d_Md_plain_4 : decode c_Md_plain 4 = .ok (.iload_n 1, 1) := by decide +kernel
theorem d_Md_plain_5 : decode c_Md_plain 5 = .ok (.iaload, 1) := by decide +kernel
theorem d_Md_plain_6 : decode c_Md_plain 6 = .ok (.istore_n 3, 1) := by decide +kernel
theorem d_Md_plain_7 : decode c_Md_plain 7 = .ok (.iload_n 3, 1) := by decide +kernel
theorem d_Md_plain_8 : decode c_Md_plain 8 = .ok (.iconst 4, 1) := by decide +kernel
theorem d_Md_plain_9 : decode c_Md_plain 9 = .ok (.if_icmp .ge 43, 3) := by decide +kernel
theorem d_Md_plain_12 : decode c_Md_plain 12 = .ok (.iload_n 2, 1) := by decide +kernel
theorem d_Md_plain_13 : decode c_Md_plain 13 = .ok (.iconst 2, 1) := by decide +kernel
theorem d_Md_plain_14 : decode c_Md_plain 14 = .ok (.if_icmp .ge 9, 3) := by decide +kernel
theorem d_Md_plain_17 : decode c_Md_plain 17 = .ok (.sipush 255, 3) := by decide +kernel
theorem d_Md_plain_20 : decode c_Md_plain 20 = .ok (.goto 31, 3) := by decide +kernel
theorem d_Md_plain_23 : decode c_Md_plain 23 = .ok (.iload_n 2, 1) := by decide +kernel
theorem d_Md_plain_24 : decode c_Md_plain 24 = .ok (.iconst 2, 1) := by decide +kernel
theorem d_Md_plain_25 : decode c_Md_plain 25 = .ok (.if_icmp .ne 7, 3) := by decide +kernel
theorem d_Md_plain_28 : decode c_Md_plain 28 = .ok (.iconst 1, 1) := by decide +kernel
theorem d_Md_plain_29 : decode c_Md_plain 29 = .ok (.goto 22, 3) := by decide +kernel
theorem d_Md_plain_32 : decode c_Md_plain 32 = .ok (.iload_n 3, 1) := by decide +kernel
theorem d_Md_plain_33 : decode c_Md_plain 33 = .ok (.iconst 2, 1) := by decide +kernel
theorem d_Md_plain_34 : decode c_Md_plain 34 = .ok (.if_icmp .ge 7, 3) := by decide +kernel
theorem d_Md_plain_37 : decode c_Md_plain 37 = .ok (.iload_n 3, 1) := by decide +kernel
theorem d_Md_plain_38 : decode c_Md_plain 38 = .ok (.goto 13, 3) := by decide +kernel
theorem d_Md_plain_41 : decode c_Md_plain 41 = .ok (.iload_n 3, 1) := by decide +kernel
theorem d_Md_plain_42 : decode c_Md_plain 42 = .ok (.iconst 4, 1) := by decide +kernel
theorem d_Md_plain_43 : decode c_Md_plain 43 = .ok (.aload_n 0, 1) := by decide +kernel
theorem d_Md_plain_44 : decode c_Md_plain 44 = .ok (.getfield 111, 3) := by decide +kernel
theorem d_Md_plain_47 : decode c_Md_plain 47 = .ok (.iload_n 1, 1) := by decide +kernel
theorem d_Md_plain_48 : decode c_Md_plain 48 = .ok (.iaload, 1) := by decide +kernel
theorem d_Md_plain_49 : decode c_Md_plain 49 = .ok (.imul, 1) := by decide +kernel
theorem d_Md_plain_50 : decode c_Md_plain 50 = .ok (.iadd, 1) := by decide +kernel
theorem d_Md_plain_51 : decode c_Md_plain 51 = .ok (.ireturn, 1) := by decide +kernel
theorem d_Md_plain_52 : decode c_Md_plain 52 = .ok (.iload_n 2, 1) := by decide +kernel
theorem d_Md_plain_53 : decode c_Md_plain 53 = .ok (.ifCond .ne 21, 3) := by decide +kernel
theorem d_Md_plain_56 : decode c_Md_plain 56 = .ok (.aload_n 0, 1) := by decide +kernel
theorem d_Md_plain_57 : decode c_Md_plain 57 = .ok (.getfield 93, 3) := by decide +kernel
theorem d_Md_plain_60 : decode c_Md_plain 60 = .ok (.iload_n 1, 1) := by decide +kernel
theorem d_Md_plain_61 : decode c_Md_plain 61 = .ok (.iaload, 1) := by decide +kernel
theorem d_Md_plain_62 : decode c_Md_plain 62 = .ok (.sipush 128, 3) := by decide +kernel
theorem d_Md_plain_65 : decode c_Md_plain 65 = .ok (.aload_n 0, 1) := by decide +kernel
theorem d_Md_plain_66 : decode c_Md_plain 66 = .ok (.getfield 96, 3) := by decide +kernel
theorem d_Md_plain_69 : decode c_Md_plain 69 = .ok (.iload_n 1, 1) := by decide +kernel
theorem d_Md_plain_70 : decode c_Md_plain 70 = .ok (.iaload, 1) := by decide +kernel
theorem d_Md_plain_71 : decode c_Md_plain 71 = .ok (.imul, 1) := by decide +kernel
theorem d_Md_plain_72 : decode c_Md_plain 72 = .ok (.iadd, 1) := by decide +kernel
theorem d_Md_plain_73 : decode c_Md_plain 73 = .ok (.ireturn, 1) := by decide +kernel
theorem d_Md_plain_74 : decode c_Md_plain 74 = .ok (.iload_n 2, 1) := by decide +kernel
theorem d_Md_plain_75 : decode c_Md_plain 75 = .ok (.iconst 1, 1) := by decide +kernel
theorem d_Md_plain_76 : decode c_Md_plain 76 = .ok (.if_icmp .ne 21, 3) := by decide +kernel
theorem d_Md_plain_79 : decode c_Md_plain 79 = .ok (.aload_n 0, 1) := by decide +kernel
theorem d_Md_plain_80 : decode c_Md_plain 80 = .ok (.getfield 87, 3) := by decide +kernel
theorem d_Md_plain_83 : decode c_Md_plain 83 = .ok (.iload_n 1, 1) := by decide +kernel
theorem d_Md_plain_84 : decode c_Md_plain 84 = .ok (.iaload, 1) := by decide +kernel
theorem d_Md_plain_85 : decode c_Md_plain 85 = .ok (.sipush 128, 3) := by decide +kernel
theorem d_Md_plain_88 : decode c_Md_plain 88 = .ok (.aload_n 0, 1) := by decide +kernel
theorem d_Md_plain_89 : decode c_Md_plain 89 = .ok (.getfield 90, 3) := by decide +kernel
theorem d_Md_plain_92 : decode c_Md_plain 92 = .ok (.iload_n 1, 1) := by decide +kernel
theorem d_Md_plain_93 : decode c_Md_plain 93 = .ok (.iaload, 1) := by decide +kernel
theorem d_Md_plain_94 : decode c_Md_plain 94 = .ok (.imul, 1) := by decide +kernel
theorem d_Md_plain_95 : decode c_Md_plain 95 = .ok (.iadd, 1) := by decide +kernel
theorem d_Md_plain_96 : decode c_Md_plain 96 = .ok (.ireturn, 1) := by decide +kernel
theorem d_Md_plain_97 : decode c_Md_plain 97 = .ok (.iload_n 2, 1) := by decide +kernel
theorem d_Md_plain_98 : decode c_Md_plain 98 = .ok (.iconst 2, 1) := by decide +kernel
theorem d_Md_plain_99 : decode c_Md_plain 99 = .ok (.if_icmp .ne 15, 3) := by decide +kernel
theorem d_Md_plain_102 : decode c_Md_plain 102 = .ok (.iload_n 3, 1) := by decide +kernel
theorem d_Md_plain_103 : decode c_Md_plain 103 = .ok (.iconst 4, 1) := by decide +kernel
theorem d_Md_plain_104 : decode c_Md_plain 104 = .ok (.if_icmp .ne 7, 3) := by decide +kernel
theorem d_Md_plain_107 : decode c_Md_plain 107 = .ok (.iconst 0, 1) := by decide +kernel
theorem d_Md_plain_108 : decode c_Md_plain 108 = .ok (.goto 5, 3) := by decide +kernel
theorem d_Md_plain_111 : decode c_Md_plain 111 = .ok (.bipush 8, 2) := by decide +kernel
theorem d_Md_plain_113 : decode c_Md_plain 113 = .ok (.ireturn, 1) := by decide +kernel
theorem d_Md_plain_114 : decode c_Md_plain 114 = .ok (.aload_n 0, 1) := by decide +kernel
theorem d_Md_plain_115 : decode c_Md_plain 115 = .ok (.getfield 99, 3) := by decide +kernel
theorem d_Md_plain_118 : decode c_Md_plain 118 = .ok (.iload_n 1, 1) := by decide +kernel
theorem d_Md_plain_119 : decode c_Md_plain 119 = .ok (.laload, 1) := by decide +kernel
theorem d_Md_plain_120 : decode c_Md_plain 120 = .ok (.lstore 4, 2) := by decide +kernel
theorem d_Md_plain_122 : decode c_Md_plain 122 = .ok (.iload_n 2, 1) := by decide +kernel
theorem d_Md_plain_123 : decode c_Md_plain 123 = .ok (.iconst 3, 1) := by decide +kernel
theorem d_Md_plain_124 : decode c_Md_plain 124 = .ok (.if_icmp .ne 9, 3) := by decide +kernel
theorem d_Md_plain_127 : decode c_Md_plain 127 = .ok (.lload 4, 2) := by decide +kernel
theorem d_Md_plain_129 : decode c_Md_plain 129 = .ok (.invokestatic 325, 3) := by decide +kernel
theorem d_Md_plain_132 : decode c_Md_plain 132 = .ok (.ireturn, 1) := by decide +kernel
theorem d_Md_plain_133 : decode c_Md_plain 133 = .ok (.iload_n 2, 1) := by decide +kernel
theorem d_Md_plain_134 : decode c_Md_plain 134 = .ok (.bipush 8, 2) := by decide +kernel
theorem d_Md_plain_136 : decode c_Md_plain 136 = .ok (.if_icmp .ge 38, 3) := by decide +kernel
theorem d_Md_plain_139 : decode c_Md_plain 139 = .ok (.lload 4, 2) := by decide +kernel
theorem d_Md_plain_141 : decode c_Md_plain 141 = .ok (.invokestatic 308, 3) := by decide +kernel
theorem d_Md_plain_144 : decode c_Md_plain 144 = .ok (.lload 4, 2) := by decide +kernel
theorem d_Md_plain_146 : decode c_Md_plain 146 = .ok (.invokestatic 316, 3) := by decide +kernel
theorem d_Md_plain_149 : decode c_Md_plain 149 = .ok (.bipush 14, 2) := by decide +kernel
theorem d_Md_plain_151 : decode c_Md_plain 151 = .ok (.ishl, 1) := by decide +kernel
theorem d_Md_plain_152 : decode c_Md_plain 152 = .ok (.iadd, 1) := by decide +kernel
theorem d_Md_plain_153 : decode c_Md_plain 153 = .ok (.lload 4, 2) := by decide +kernel
theorem d_Md_plain_155 : decode c_Md_plain 155 = .ok (.invokestatic 230, 3) := by decide +kernel
theorem d_Md_plain_158 : decode c_Md_plain 158 = .ok (.bipush 28, 2) := by decide +kernel
theorem d_Md_plain_160 : decode c_Md_plain 160 = .ok (.ishl, 1) := by decide +kernel
theorem d_Md_plain_161 : decode c_Md_plain 161 = .ok (.iadd, 1) := by decide +kernel
theorem d_Md_plain_162 : decode c_Md_plain 162 = .ok (.bipush 8, 2) := by decide +kernel
theorem d_Md_plain_164 : decode c_Md_plain 164 = .ok (.iload_n 2, 1) := by decide +kernel
theorem d_Md_plain_165 : decode c_Md_plain 165 = .ok (.iconst 4, 1) := by decide +kernel
theorem d_Md_plain_166 : decode c_Md_plain 166 = .ok (.isub, 1) := by decide +kernel
theorem d_Md_plain_167 : decode c_Md_plain 167 = .ok (.imul, 1) := by decide +kernel
theorem d_Md_plain_168 : decode c_Md_plain 168 = .ok (.iushr, 1) := by decide +kernel
theorem d_Md_plain_169 : decode c_Md_plain 169 = .ok (.sipush 255, 3) := by decide +kernel
theorem d_Md_plain_172 : decode c_Md_plain 172 = .ok (.iand, 1) := by decide +kernel
theorem d_Md_plain_173 : decode c_Md_plain 173 = .ok (.ireturn, 1) := by decide +kernel
theorem d_Md_plain_174 : decode c_Md_plain 174 = .ok (.iload_n 2, 1) := by decide +kernel
theorem d_Md_plain_175 : decode c_Md_plain 175 = .ok (.bipush 8, 2) := by decide +kernel
theorem d_Md_plain_177 : decode c_Md_plain 177 = .ok (.if_icmp .ne 11, 3) := by decide +kernel
theorem d_Md_plain_180 : decode c_Md_plain 180 = .ok (.lload 4, 2) := by decide +kernel
theorem d_Md_plain_182 : decode c_Md_plain 182 = .ok (.invokestatic 319, 3) := by decide +kernel
theorem d_Md_plain_185 : decode c_Md_plain 185 = .ok (.goto 26, 3) := by decide +kernel
theorem d_Md_plain_188 : decode c_Md_plain 188 = .ok (.iload_n 2, 1) := by decide +kernel
theorem d_Md_plain_189 : decode c_Md_plain 189 = .ok (.bipush 9, 2) := by decide +kernel
theorem d_Md_plain_191 : decode c_Md_plain 191 = .ok (.if_icmp .ne 15, 3) := by decide +kernel
theorem d_Md_plain_194 : decode c_Md_plain 194 = .ok (.lload 4, 2) := by decide +kernel
theorem d_Md_plain_196 : decode c_Md_plain 196 = .ok (.invokestatic 331, 3) := by decide +kernel
theorem d_Md_plain_199 : decode c_Md_plain 199 = .ok (.sipush 255, 3) := by decide +kernel
theorem d_Md_plain_202 : decode c_Md_plain 202 = .ok (.iand, 1) := by decide +kernel
theorem d_Md_plain_203 : decode c_Md_plain 203 = .ok (.goto 8, 3) := by decide +kernel
theorem d_Md_plain_206 : decode c_Md_plain 206 = .ok (.lload 4, 2) := by decide +kernel
theorem d_Md_plain_208 : decode c_Md_plain 208 = .ok (.invokestatic 313, 3) := by decide +kernel
theorem d_Md_plain_211 : decode c_Md_plain 211 = .ok (.ireturn, 1) := by decide +kernel
def f_Md_plain_51 (a : Nat) (t0 : Int32) : sn_M := r_I t0
set_option maxHeartbeats 4000000 in
set_option maxRecDepth 100000 in
theorem mono_Md_plain_51 (a : Nat) (t0 : Int32) : sn_Mono (f_Md_plain_51 a t0) := sn_Mono.rI
set_option maxHeartbeats 4000000 in
set_option maxRecDepth 100000 in
theorem s_Md_plain_51 {X : sn_X} (C : sn_Cx X c_Md_plain "SignalNetworkModel" (some .int) "plain" 6 1 21) (a : Nat) (t0 : Int32) : sn_S X 51 [(0, vA (some a))] [vI t0] (f_Md_plain_51 a t0) := by
  unfold f_Md_plain_51
  exact r_iret C d_Md_plain_51 rfl
def f_Md_plain_113 (a : Nat) (t0 : Int32) : sn_M := r_I t0
set_option maxHeartbeats 4000000 in
set_option maxRecDepth 100000 in
theorem mono_Md_plain_113 (a : Nat) (t0 : Int32) : sn_Mono (f_Md_plain_113 a t0) := sn_Mono.rI
set_option maxHeartbeats 4000000 in
set_option maxRecDepth 100000 in
theorem s_Md_plain_113 {X : sn_X} (C : sn_Cx X c_Md_plain "SignalNetworkModel" (some .int) "plain" 6 1 21) (a : Nat) (t0 : Int32) : sn_S X 113 [(0, vA (some a))] [vI t0] (f_Md_plain_113 a t0) := by
  unfold f_Md_plain_113
  exact r_iret C d_Md_plain_113 rfl
def f_Md_plain_211 (a : Nat) (t0 : Int32) : sn_M := r_I t0
set_option maxHeartbeats 4000000 in
set_option maxRecDepth 100000 in
theorem mono_Md_plain_211 (a : Nat) (t0 : Int32) : sn_Mono (f_Md_plain_211 a t0) := sn_Mono.rI
set_option maxHeartbeats 4000000 in
set_option maxRecDepth 100000 in
theorem s_Md_plain_211 {X : sn_X} (C : sn_Cx X c_Md_plain "SignalNetworkModel" (some .int) "plain" 6 1 21) (a : Nat) (t0 : Int32) : sn_S X 211 [(0, vA (some a))] [vI t0] (f_Md_plain_211 a t0) := by
  unfold f_Md_plain_211
  exact r_iret C d_Md_plain_211 rfl
def f_Md_plain (a : Nat) (x1 : Int32) (x2 : Int32) : sn_M := g_R 12 30 (some a) fun v1 => a_I 31 v1 x1 fun v2 => (if (4 : Int32) ≤ v2 then (if ¬ x2 = 0 then (if ¬ x2 = (1 : Int32) then (if ¬ x2 = (2 : Int32) then g_R 12 35 (some a) fun v3 => a_J 32 v3 x1 fun v4 => (if ¬ x2 = (3 : Int32) then (if (8 : Int32) ≤ x2 then (if ¬ x2 = (8 : Int32) then (if ¬ x2 = (9 : Int32) then c_I (f_Md_hopsOf v4) fun v5 => f_Md_plain_211 a v5 else c_I (f_Md_twoOf v4) fun v6 => f_Md_plain_211 a (v6 &&& (255 : Int32))) else c_I (f_Md_oneOf v4) fun v7 => f_Md_plain_211 a v7) else c_I (f_Md_toOf v4) fun v8 => c_I (f_Md_fromOf v4) fun v9 => c_I (f_Md_flowOf v4) fun v10 => r_I ((Int32.toUInt32 ((v8 + (v9 <<< ((14 : Int32) &&& 31))) + (v10 <<< ((28 : Int32) &&& 31))) >>> (Int32.toUInt32 ((8 : Int32) * (x2 - (4 : Int32))) &&& Int32.toUInt32 31)).toInt32 &&& (255 : Int32))) else c_I (f_Md_kindOf v4) fun v11 => r_I v11) else (if ¬ v2 = (4 : Int32) then f_Md_plain_113 a (8 : Int32) else f_Md_plain_113 a (0 : Int32))) else g_R 12 31 (some a) fun v12 => a_I 31 v12 x1 fun v13 => g_R 12 32 (some a) fun v14 => a_I 31 v14 x1 fun v15 => r_I (v13 + ((128 : Int32) * v15))) else g_R 12 33 (some a) fun v16 => a_I 31 v16 x1 fun v17 => g_R 12 34 (some a) fun v18 => a_I 31 v18 x1 fun v19 => r_I (v17 + ((128 : Int32) * v19))) else (if (2 : Int32) ≤ x2 then (if ¬ x2 = (2 : Int32) then (if (2 : Int32) ≤ v2 then g_R 12 39 (some a) fun v20 => a_I 31 v20 x1 fun v21 => f_Md_plain_51 a (v2 + ((4 : Int32) * v21)) else f_Md_plain_51 a v2) else f_Md_plain_51 a (1 : Int32)) else f_Md_plain_51 a (255 : Int32)))
set_option maxHeartbeats 4000000 in
set_option maxRecDepth 100000 in
theorem mono_Md_plain (a : Nat) (x1 : Int32) (x2 : Int32) : sn_Mono (f_Md_plain a x1 x2) := sn_Mono.gR (fun v1 => sn_Mono.aI (fun v2 => sn_Mono.ite (sn_Mono.ite (sn_Mono.ite (sn_Mono.ite (sn_Mono.gR (fun v3 => sn_Mono.aJ (fun v4 => sn_Mono.ite (sn_Mono.ite (sn_Mono.ite (sn_Mono.ite (sn_Mono.cI (mono_Md_hopsOf v4) (fun v5 => mono_Md_plain_211 a v5)) (sn_Mono.cI (mono_Md_twoOf v4) (fun v6 => mono_Md_plain_211 a (v6 &&& (255 : Int32))))) (sn_Mono.cI (mono_Md_oneOf v4) (fun v7 => mono_Md_plain_211 a v7))) (sn_Mono.cI (mono_Md_toOf v4) (fun v8 => sn_Mono.cI (mono_Md_fromOf v4) (fun v9 => sn_Mono.cI (mono_Md_flowOf v4) (fun v10 => sn_Mono.rI))))) (sn_Mono.cI (mono_Md_kindOf v4) (fun v11 => sn_Mono.rI))))) (sn_Mono.ite (mono_Md_plain_113 a (8 : Int32)) (mono_Md_plain_113 a (0 : Int32)))) (sn_Mono.gR (fun v12 => sn_Mono.aI (fun v13 => sn_Mono.gR (fun v14 => sn_Mono.aI (fun v15 => sn_Mono.rI)))))) (sn_Mono.gR (fun v16 => sn_Mono.aI (fun v17 => sn_Mono.gR (fun v18 => sn_Mono.aI (fun v19 => sn_Mono.rI)))))) (sn_Mono.ite (sn_Mono.ite (sn_Mono.ite (sn_Mono.gR (fun v20 => sn_Mono.aI (fun v21 => mono_Md_plain_51 a (v2 + ((4 : Int32) * v21))))) (mono_Md_plain_51 a v2)) (mono_Md_plain_51 a (1 : Int32))) (mono_Md_plain_51 a (255 : Int32)))))
set_option maxHeartbeats 4000000 in
set_option maxRecDepth 100000 in
theorem con_Md_plain (a : Nat) (x1 : Int32) (x2 : Int32) : sn_Con y_Md_plain c_Md_plain 6 (some .int) 1 21 [vA (some a), vI x1, vI x2] (f_Md_plain a x1 x2) := by
  refine sn_Con.of (by decide +kernel) (by show _ ≤ _; exact Nat.le_of_ble_eq_true rfl) (mono_Md_plain a x1 x2) (fun X C => ?_)
  show sn_S X 0 [(0, vA (some a)), (1, vI x1), (2, vI x2)] [] _
  replace C : sn_Cx X c_Md_plain "SignalNetworkModel" (some .int) "plain" 6 1 21 := C
  unfold f_Md_plain
  refine r_aload_n (q := 1) (i := 0) (pl := 0) C d_Md_plain_0 rfl rfl rfl ?_
  refine r_gR (q := 4) C d_Md_plain_1 rfl F_Md_84 rfl (fun v1 => ?_)
  refine r_iload_n (q := 5) (i := 1) (pl := 1) C d_Md_plain_4 rfl rfl rfl ?_
  refine r_aI (q := 6) C (Or.inr rfl) d_Md_plain_5 rfl (fun v2 => ?_)
  refine r_istore_n (q := 7) (i := 3) (lv' := [(3, vI v2), (0, vA (some a)), (1, vI x1), (2, vI x2)]) C d_Md_plain_6 rfl rfl (by decide) rfl ?_
  refine r_iload_n (q := 8) (i := 3) (pl := 0) C d_Md_plain_7 rfl rfl rfl ?_
  refine r_iconst (q := 9) (v := 4) C d_Md_plain_8 rfl (by decide) ?_
  refine r_icmp_ge (tgt := 52) (q := 12) C d_Md_plain_9 (by decide) rfl ?_ ?_
  · refine r_iload_n (q := 53) (i := 2) (pl := 3) C d_Md_plain_52 rfl rfl rfl ?_
    refine r_if_ne (tgt := 74) (q := 56) C d_Md_plain_53 (by decide) rfl ?_ ?_
    · refine r_iload_n (q := 75) (i := 2) (pl := 3) C d_Md_plain_74 rfl rfl rfl ?_
      refine r_iconst (q := 76) (v := 1) C d_Md_plain_75 rfl (by decide) ?_
      refine r_icmp_ne (tgt := 97) (q := 79) C d_Md_plain_76 (by decide) rfl ?_ ?_
      · refine r_iload_n (q := 98) (i := 2) (pl := 3) C d_Md_plain_97 rfl rfl rfl ?_
        refine r_iconst (q := 99) (v := 2) C d_Md_plain_98 rfl (by decide) ?_
        refine r_icmp_ne (tgt := 114) (q := 102) C d_Md_plain_99 (by decide) rfl ?_ ?_
        · refine r_aload_n (q := 115) (i := 0) (pl := 1) C d_Md_plain_114 rfl rfl rfl ?_
          refine r_gR (q := 118) C d_Md_plain_115 rfl F_Md_99 rfl (fun v3 => ?_)
          refine r_iload_n (q := 119) (i := 1) (pl := 2) C d_Md_plain_118 rfl rfl rfl ?_
          refine r_aJ (q := 120) C (Or.inr rfl) d_Md_plain_119 rfl (fun v4 => ?_)
          refine r_lstore (q := 122) (i := 4) (lv' := [(4, vJ v4), (3, vI v2), (0, vA (some a)), (1, vI x1), (2, vI x2)]) C d_Md_plain_120 rfl (by decide) rfl ?_
          refine r_iload_n (q := 123) (i := 2) (pl := 4) C d_Md_plain_122 rfl rfl rfl ?_
          refine r_iconst (q := 124) (v := 3) C d_Md_plain_123 rfl (by decide) ?_
          refine r_icmp_ne (tgt := 133) (q := 127) C d_Md_plain_124 (by decide) rfl ?_ ?_
          · refine r_iload_n (q := 134) (i := 2) (pl := 4) C d_Md_plain_133 rfl rfl rfl ?_
            refine r_bipush (q := 136) (v := 8) C d_Md_plain_134 rfl (by decide) ?_
            refine r_icmp_ge (tgt := 174) (q := 139) C d_Md_plain_136 (by decide) rfl ?_ ?_
            · refine r_iload_n (q := 175) (i := 2) (pl := 4) C d_Md_plain_174 rfl rfl rfl ?_
              refine r_bipush (q := 177) (v := 8) C d_Md_plain_175 rfl (by decide) ?_
              refine r_icmp_ne (tgt := 188) (q := 180) C d_Md_plain_177 (by decide) rfl ?_ ?_
              · refine r_iload_n (q := 189) (i := 2) (pl := 4) C d_Md_plain_188 rfl rfl rfl ?_
                refine r_bipush (q := 191) (v := 9) C d_Md_plain_189 rfl (by decide) ?_
                refine r_icmp_ne (tgt := 206) (q := 194) C d_Md_plain_191 (by decide) rfl ?_ ?_
                · refine r_lload (q := 208) (i := 4) (pl := 0) C d_Md_plain_206 rfl rfl ?_
                  refine r_csI (q := 211) (As := [vJ v4]) (st := []) C d_Md_plain_208 rfl Y_Md_hopsOf L_Md_313 St_Md_hopsOf rfl (Nat.le_of_ble_eq_true rfl) (Nat.le_of_ble_eq_true rfl) (Nat.le_of_ble_eq_true rfl) rfl (con_Md_hopsOf v4) (fun v5 => ?_)
                  refine r_sub (lv' := [(0, vA (some a))]) [2] rfl ?_
                  exact s_Md_plain_211 C a v5
                · refine r_lload (q := 196) (i := 4) (pl := 0) C d_Md_plain_194 rfl rfl ?_
                  refine r_csI (q := 199) (As := [vJ v4]) (st := []) C d_Md_plain_196 rfl Y_Md_twoOf L_Md_331 St_Md_twoOf rfl (Nat.le_of_ble_eq_true rfl) (Nat.le_of_ble_eq_true rfl) (Nat.le_of_ble_eq_true rfl) rfl (con_Md_twoOf v4) (fun v6 => ?_)
                  refine r_sipush (q := 202) (v := 255) C d_Md_plain_199 rfl (by decide) ?_
                  refine r_iand (q := 203) C d_Md_plain_202 rfl ?_
                  refine r_goto (tgt := 211) C d_Md_plain_203 (by decide) ?_
                  refine r_sub (lv' := [(0, vA (some a))]) [2] rfl ?_
                  exact s_Md_plain_211 C a (v6 &&& (255 : Int32))
              · refine r_lload (q := 182) (i := 4) (pl := 0) C d_Md_plain_180 rfl rfl ?_
                refine r_csI (q := 185) (As := [vJ v4]) (st := []) C d_Md_plain_182 rfl Y_Md_oneOf L_Md_319 St_Md_oneOf rfl (Nat.le_of_ble_eq_true rfl) (Nat.le_of_ble_eq_true rfl) (Nat.le_of_ble_eq_true rfl) rfl (con_Md_oneOf v4) (fun v7 => ?_)
                refine r_goto (tgt := 211) C d_Md_plain_185 (by decide) ?_
                refine r_sub (lv' := [(0, vA (some a))]) [2] rfl ?_
                exact s_Md_plain_211 C a v7
            · refine r_lload (q := 141) (i := 4) (pl := 0) C d_Md_plain_139 rfl rfl ?_
              refine r_csI (q := 144) (As := [vJ v4]) (st := []) C d_Md_plain_141 rfl Y_Md_toOf L_Md_308 St_Md_toOf rfl (Nat.le_of_ble_eq_true rfl) (Nat.le_of_ble_eq_true rfl) (Nat.le_of_ble_eq_true rfl) rfl (con_Md_toOf v4) (fun v8 => ?_)
              refine r_lload (q := 146) (i := 4) (pl := 0) C d_Md_plain_144 rfl rfl ?_
              refine r_csI (q := 149) (As := [vJ v4]) (st := [vI v8]) C d_Md_plain_146 rfl Y_Md_fromOf L_Md_316 St_Md_fromOf rfl (Nat.le_of_ble_eq_true rfl) (Nat.le_of_ble_eq_true rfl) (Nat.le_of_ble_eq_true rfl) rfl (con_Md_fromOf v4) (fun v9 => ?_)
              refine r_bipush (q := 151) (v := 14) C d_Md_plain_149 rfl (by decide) ?_
              refine r_ishl (q := 152) C d_Md_plain_151 rfl ?_
              refine r_iadd (q := 153) C d_Md_plain_152 rfl ?_
              refine r_lload (q := 155) (i := 4) (pl := 0) C d_Md_plain_153 rfl rfl ?_
              refine r_csI (q := 158) (As := [vJ v4]) (st := [vI (v8 + (v9 <<< ((14 : Int32) &&& 31)))]) C d_Md_plain_155 rfl Y_Md_flowOf L_Md_230 St_Md_flowOf rfl (Nat.le_of_ble_eq_true rfl) (Nat.le_of_ble_eq_true rfl) (Nat.le_of_ble_eq_true rfl) rfl (con_Md_flowOf v4) (fun v10 => ?_)
              refine r_bipush (q := 160) (v := 28) C d_Md_plain_158 rfl (by decide) ?_
              refine r_ishl (q := 161) C d_Md_plain_160 rfl ?_
              refine r_iadd (q := 162) C d_Md_plain_161 rfl ?_
              refine r_bipush (q := 164) (v := 8) C d_Md_plain_162 rfl (by decide) ?_
              refine r_iload_n (q := 165) (i := 2) (pl := 4) C d_Md_plain_164 rfl rfl rfl ?_
              refine r_iconst (q := 166) (v := 4) C d_Md_plain_165 rfl (by decide) ?_
              refine r_isub (q := 167) C d_Md_plain_166 rfl ?_
              refine r_imul (q := 168) C d_Md_plain_167 rfl ?_
              refine r_iushr (q := 169) C d_Md_plain_168 rfl ?_
              refine r_sipush (q := 172) (v := 255) C d_Md_plain_169 rfl (by decide) ?_
              refine r_iand (q := 173) C d_Md_plain_172 rfl ?_
              exact r_iret C d_Md_plain_173 rfl
          · refine r_lload (q := 129) (i := 4) (pl := 0) C d_Md_plain_127 rfl rfl ?_
            refine r_csI (q := 132) (As := [vJ v4]) (st := []) C d_Md_plain_129 rfl Y_Md_kindOf L_Md_325 St_Md_kindOf rfl (Nat.le_of_ble_eq_true rfl) (Nat.le_of_ble_eq_true rfl) (Nat.le_of_ble_eq_true rfl) rfl (con_Md_kindOf v4) (fun v11 => ?_)
            exact r_iret C d_Md_plain_132 rfl
        · refine r_iload_n (q := 103) (i := 3) (pl := 0) C d_Md_plain_102 rfl rfl rfl ?_
          refine r_iconst (q := 104) (v := 4) C d_Md_plain_103 rfl (by decide) ?_
          refine r_icmp_ne (tgt := 111) (q := 107) C d_Md_plain_104 (by decide) rfl ?_ ?_
          · refine r_bipush (q := 113) (v := 8) C d_Md_plain_111 rfl (by decide) ?_
            refine r_sub (lv' := [(0, vA (some a))]) [1] rfl ?_
            exact s_Md_plain_113 C a (8 : Int32)
          · refine r_iconst (q := 108) (v := 0) C d_Md_plain_107 rfl (by decide) ?_
            refine r_goto (tgt := 113) C d_Md_plain_108 (by decide) ?_
            refine r_sub (lv' := [(0, vA (some a))]) [1] rfl ?_
            exact s_Md_plain_113 C a (0 : Int32)
      · refine r_aload_n (q := 80) (i := 0) (pl := 1) C d_Md_plain_79 rfl rfl rfl ?_
        refine r_gR (q := 83) C d_Md_plain_80 rfl F_Md_87 rfl (fun v12 => ?_)
        refine r_iload_n (q := 84) (i := 1) (pl := 2) C d_Md_plain_83 rfl rfl rfl ?_
        refine r_aI (q := 85) C (Or.inr rfl) d_Md_plain_84 rfl (fun v13 => ?_)
        refine r_sipush (q := 88) (v := 128) C d_Md_plain_85 rfl (by decide) ?_
        refine r_aload_n (q := 89) (i := 0) (pl := 1) C d_Md_plain_88 rfl rfl rfl ?_
        refine r_gR (q := 92) C d_Md_plain_89 rfl F_Md_90 rfl (fun v14 => ?_)
        refine r_iload_n (q := 93) (i := 1) (pl := 2) C d_Md_plain_92 rfl rfl rfl ?_
        refine r_aI (q := 94) C (Or.inr rfl) d_Md_plain_93 rfl (fun v15 => ?_)
        refine r_imul (q := 95) C d_Md_plain_94 rfl ?_
        refine r_iadd (q := 96) C d_Md_plain_95 rfl ?_
        exact r_iret C d_Md_plain_96 rfl
    · refine r_aload_n (q := 57) (i := 0) (pl := 1) C d_Md_plain_56 rfl rfl rfl ?_
      refine r_gR (q := 60) C d_Md_plain_57 rfl F_Md_93 rfl (fun v16 => ?_)
      refine r_iload_n (q := 61) (i := 1) (pl := 2) C d_Md_plain_60 rfl rfl rfl ?_
      refine r_aI (q := 62) C (Or.inr rfl) d_Md_plain_61 rfl (fun v17 => ?_)
      refine r_sipush (q := 65) (v := 128) C d_Md_plain_62 rfl (by decide) ?_
      refine r_aload_n (q := 66) (i := 0) (pl := 1) C d_Md_plain_65 rfl rfl rfl ?_
      refine r_gR (q := 69) C d_Md_plain_66 rfl F_Md_96 rfl (fun v18 => ?_)
      refine r_iload_n (q := 70) (i := 1) (pl := 2) C d_Md_plain_69 rfl rfl rfl ?_
      refine r_aI (q := 71) C (Or.inr rfl) d_Md_plain_70 rfl (fun v19 => ?_)
      refine r_imul (q := 72) C d_Md_plain_71 rfl ?_
      refine r_iadd (q := 73) C d_Md_plain_72 rfl ?_
      exact r_iret C d_Md_plain_73 rfl
  · refine r_iload_n (q := 13) (i := 2) (pl := 3) C d_Md_plain_12 rfl rfl rfl ?_
    refine r_iconst (q := 14) (v := 2) C d_Md_plain_13 rfl (by decide) ?_
    refine r_icmp_ge (tgt := 23) (q := 17) C d_Md_plain_14 (by decide) rfl ?_ ?_
    · refine r_iload_n (q := 24) (i := 2) (pl := 3) C d_Md_plain_23 rfl rfl rfl ?_
      refine r_iconst (q := 25) (v := 2) C d_Md_plain_24 rfl (by decide) ?_
      refine r_icmp_ne (tgt := 32) (q := 28) C d_Md_plain_25 (by decide) rfl ?_ ?_
      · refine r_iload_n (q := 33) (i := 3) (pl := 0) C d_Md_plain_32 rfl rfl rfl ?_
        refine r_iconst (q := 34) (v := 2) C d_Md_plain_33 rfl (by decide) ?_
        refine r_icmp_ge (tgt := 41) (q := 37) C d_Md_plain_34 (by decide) rfl ?_ ?_
        · refine r_iload_n (q := 42) (i := 3) (pl := 0) C d_Md_plain_41 rfl rfl rfl ?_
          refine r_iconst (q := 43) (v := 4) C d_Md_plain_42 rfl (by decide) ?_
          refine r_aload_n (q := 44) (i := 0) (pl := 1) C d_Md_plain_43 rfl rfl rfl ?_
          refine r_gR (q := 47) C d_Md_plain_44 rfl F_Md_111 rfl (fun v20 => ?_)
          refine r_iload_n (q := 48) (i := 1) (pl := 2) C d_Md_plain_47 rfl rfl rfl ?_
          refine r_aI (q := 49) C (Or.inr rfl) d_Md_plain_48 rfl (fun v21 => ?_)
          refine r_imul (q := 50) C d_Md_plain_49 rfl ?_
          refine r_iadd (q := 51) C d_Md_plain_50 rfl ?_
          refine r_sub (lv' := [(0, vA (some a))]) [1] rfl ?_
          exact s_Md_plain_51 C a (v2 + ((4 : Int32) * v21))
        · refine r_iload_n (q := 38) (i := 3) (pl := 0) C d_Md_plain_37 rfl rfl rfl ?_
          refine r_goto (tgt := 51) C d_Md_plain_38 (by decide) ?_
          refine r_sub (lv' := [(0, vA (some a))]) [1] rfl ?_
          exact s_Md_plain_51 C a v2
      · refine r_iconst (q := 29) (v := 1) C d_Md_plain_28 rfl (by decide) ?_
        refine r_goto (tgt := 51) C d_Md_plain_29 (by decide) ?_
        refine r_sub (lv' := [(0, vA (some a))]) [1] rfl ?_
        exact s_Md_plain_51 C a (1 : Int32)
    · refine r_sipush (q := 20) (v := 255) C d_Md_plain_17 rfl (by decide) ?_
      refine r_goto (tgt := 51) C d_Md_plain_20 (by decide) ?_
      refine r_sub (lv' := [(0, vA (some a))]) [1] rfl ?_
      exact s_Md_plain_51 C a (255 : Int32)
theorem d_Md_octetOf_0 : decode c_Md_octetOf 0 = .ok (.aload_n 0, 1) := by decide +kernel
theorem d_Md_octetOf_1 : decode c_Md_octetOf 1 = .ok (.iload_n 1, 1) := by decide +kernel
theorem d_Md_octetOf_2 : decode c_Md_octetOf 2 = .ok (.invokevirtual 421, 3) := by decide +kernel
theorem d_Md_octetOf_5 : decode c_Md_octetOf 5 = .ok (.istore_n 3, 1) := by decide +kernel
theorem d_Md_octetOf_6 : decode c_Md_octetOf 6 = .ok (.iload_n 2, 1) := by decide +kernel
theorem d_Md_octetOf_7 : decode c_Md_octetOf 7 = .ok (.iload_n 3, 1) := by decide +kernel
theorem d_Md_octetOf_8 : decode c_Md_octetOf 8 = .ok (.iconst 2, 1) := by decide +kernel
theorem d_Md_octetOf_9 : decode c_Md_octetOf 9 = .ok (.isub, 1) := by decide +kernel
theorem d_Md_octetOf_10 : decode c_Md_octetOf 10 = .ok (.if_icmp .ge 10, 3) := by decide +kernel
theorem d_Md_octetOf_13 : decode c_Md_octetOf 13 = .ok (.aload_n 0, 1) := by decide +kernel
theorem d_Md_octetOf_14 : decode c_Md_octetOf 14 = .ok (.iload_n 1, 1) := by decide +kernel
theorem d_Md_octetOf_15 : decode c_Md_octetOf 15 = .ok (.iload_n 2, 1) := by decide +kernel
theorem d_Md_octetOf_16 : decode c_Md_octetOf 16 = .ok (.invokevirtual 424, 3) := by decide +kernel
theorem d_Md_octetOf_19 : decode c_Md_octetOf 19 = .ok (.ireturn, 1) := by decide +kernel
theorem d_Md_octetOf_20 : decode c_Md_octetOf 20 = .ok (.ldc_w 427, 3) := by decide +kernel
theorem d_Md_octetOf_23 : decode c_Md_octetOf 23 = .ok (.istore 4, 2) := by decide +kernel
theorem d_Md_octetOf_25 : decode c_Md_octetOf 25 = .ok (.iconst 0, 1) := by decide +kernel
theorem d_Md_octetOf_26 : decode c_Md_octetOf 26 = .ok (.istore 5, 2) := by decide +kernel
theorem d_Md_octetOf_28 : decode c_Md_octetOf 28 = .ok (.iload 5, 2) := by decide +kernel
theorem d_Md_octetOf_30 : decode c_Md_octetOf 30 = .ok (.iload_n 3, 1) := by decide +kernel
theorem d_Md_octetOf_31 : decode c_Md_octetOf 31 = .ok (.iconst 2, 1) := by decide +kernel
theorem d_Md_octetOf_32 : decode c_Md_octetOf 32 = .ok (.isub, 1) := by decide +kernel
theorem d_Md_octetOf_33 : decode c_Md_octetOf 33 = .ok (.if_icmp .ge 65, 3) := by decide +kernel
theorem d_Md_octetOf_36 : decode c_Md_octetOf 36 = .ok (.aload_n 0, 1) := by decide +kernel
theorem d_Md_octetOf_37 : decode c_Md_octetOf 37 = .ok (.iload_n 1, 1) := by decide +kernel
theorem d_Md_octetOf_38 : decode c_Md_octetOf 38 = .ok (.iload 5, 2) := by decide +kernel
theorem d_Md_octetOf_40 : decode c_Md_octetOf 40 = .ok (.invokevirtual 424, 3) := by decide +kernel
theorem d_Md_octetOf_43 : decode c_Md_octetOf 43 = .ok (.istore 6, 2) := by decide +kernel
theorem d_Md_octetOf_45 : decode c_Md_octetOf 45 = .ok (.iconst 0, 1) := by decide +kernel
theorem d_Md_octetOf_46 : decode c_Md_octetOf 46 = .ok (.istore 7, 2) := by decide +kernel
theorem d_Md_octetOf_48 : decode c_Md_octetOf 48 = .ok (.iload 7, 2) := by decide +kernel
theorem d_Md_octetOf_50 : decode c_Md_octetOf 50 = .ok (.bipush 8, 2) := by decide +kernel
theorem d_Md_octetOf_52 : decode c_Md_octetOf 52 = .ok (.if_icmp .ge 40, 3) := by decide +kernel
theorem d_Md_octetOf_55 : decode c_Md_octetOf 55 = .ok (.iload 6, 2) := by decide +kernel
theorem d_Md_octetOf_57 : decode c_Md_octetOf 57 = .ok (.iload 7, 2) := by decide +kernel
theorem d_Md_octetOf_59 : decode c_Md_octetOf 59 = .ok (.ishr, 1) := by decide +kernel
theorem d_Md_octetOf_60 : decode c_Md_octetOf 60 = .ok (.iload 4, 2) := by decide +kernel
theorem d_Md_octetOf_62 : decode c_Md_octetOf 62 = .ok (.ixor, 1) := by decide +kernel
theorem d_Md_octetOf_63 : decode c_Md_octetOf 63 = .ok (.iconst 1, 1) := by decide +kernel
theorem d_Md_octetOf_64 : decode c_Md_octetOf 64 = .ok (.iand, 1) := by decide +kernel
theorem d_Md_octetOf_65 : decode c_Md_octetOf 65 = .ok (.iconst 1, 1) := by decide +kernel
theorem d_Md_octetOf_66 : decode c_Md_octetOf 66 = .ok (.if_icmp .ne 14, 3) := by decide +kernel
theorem d_Md_octetOf_69 : decode c_Md_octetOf 69 = .ok (.iload 4, 2) := by decide +kernel
theorem d_Md_octetOf_71 : decode c_Md_octetOf 71 = .ok (.iconst 1, 1) := by decide +kernel
theorem d_Md_octetOf_72 : decode c_Md_octetOf 72 = .ok (.ishr, 1) := by decide +kernel
theorem d_Md_octetOf_73 : decode c_Md_octetOf 73 = .ok (.ldc_w 428, 3) := by decide +kernel
theorem d_Md_octetOf_76 : decode c_Md_octetOf 76 = .ok (.ixor, 1) := by decide +kernel
theorem d_Md_octetOf_77 : decode c_Md_octetOf 77 = .ok (.goto 7, 3) := by decide +kernel
theorem d_Md_octetOf_80 : decode c_Md_octetOf 80 = .ok (.iload 4, 2) := by decide +kernel
theorem d_Md_octetOf_82 : decode c_Md_octetOf 82 = .ok (.iconst 1, 1) := by decide +kernel
theorem d_Md_octetOf_83 : decode c_Md_octetOf 83 = .ok (.ishr, 1) := by decide +kernel
theorem d_Md_octetOf_84 : decode c_Md_octetOf 84 = .ok (.istore 4, 2) := by decide +kernel
theorem d_Md_octetOf_86 : decode c_Md_octetOf 86 = .ok (.iinc 7 1, 3) := by decide +kernel
theorem d_Md_octetOf_89 : decode c_Md_octetOf 89 = .ok (.goto (-41), 3) := by decide +kernel
theorem d_Md_octetOf_92 : decode c_Md_octetOf 92 = .ok (.iinc 5 1, 3) := by decide +kernel
theorem d_Md_octetOf_95 : decode c_Md_octetOf 95 = .ok (.goto (-67), 3) := by decide +kernel
theorem d_Md_octetOf_98 : decode c_Md_octetOf 98 = .ok (.iload 4, 2) := by decide +kernel
theorem d_Md_octetOf_100 : decode c_Md_octetOf 100 = .ok (.ldc_w 427, 3) := by decide +kernel
theorem d_Md_octetOf_103 : decode c_Md_octetOf 103 = .ok (.ixor, 1) := by decide +kernel
theorem d_Md_octetOf_104 : decode c_Md_octetOf 104 = .ok (.istore 4, 2) := by decide +kernel
theorem d_Md_octetOf_106 : decode c_Md_octetOf 106 = .ok (.iload_n 2, 1) := by decide +kernel
theorem d_Md_octetOf_107 : decode c_Md_octetOf 107 = .ok (.iload_n 3, 1) := by decide +kernel
theorem d_Md_octetOf_108 : decode c_Md_octetOf 108 = .ok (.iconst 2, 1) := by decide +kernel
theorem d_Md_octetOf_109 : decode c_Md_octetOf 109 = .ok (.isub, 1) := by decide +kernel
theorem d_Md_octetOf_110 : decode c_Md_octetOf 110 = .ok (.if_icmp .ne 12, 3) := by decide +kernel
theorem d_Md_octetOf_113 : decode c_Md_octetOf 113 = .ok (.iload 4, 2) := by decide +kernel
theorem d_Md_octetOf_115 : decode c_Md_octetOf 115 = .ok (.sipush 255, 3) := by decide +kernel
theorem d_Md_octetOf_118 : decode c_Md_octetOf 118 = .ok (.iand, 1) := by decide +kernel
theorem d_Md_octetOf_119 : decode c_Md_octetOf 119 = .ok (.goto 8, 3) := by decide +kernel
theorem d_Md_octetOf_122 : decode c_Md_octetOf 122 = .ok (.iload 4, 2) := by decide +kernel
theorem d_Md_octetOf_124 : decode c_Md_octetOf 124 = .ok (.bipush 8, 2) := by decide +kernel
theorem d_Md_octetOf_126 : decode c_Md_octetOf 126 = .ok (.ishr, 1) := by decide +kernel
theorem d_Md_octetOf_127 : decode c_Md_octetOf 127 = .ok (.ireturn, 1) := by decide +kernel
def f_Md_octetOf_84 (k48 : Int32 → Int32 → Int32 → Int32 → Int32 → Int32 → Int32 → sn_M) (a : Nat) (x1 : Int32) (x2 : Int32) (x3 : Int32) (x5 : Int32) (x6 : Int32) (x7 : Int32) (t0 : Int32) : sn_M := k48 x1 x2 x3 t0 x5 x6 (x7 + (1 : Int32))
set_option maxHeartbeats 4000000 in
set_option maxRecDepth 100000 in
theorem mono_Md_octetOf_84 (k48 : Int32 → Int32 → Int32 → Int32 → Int32 → Int32 → Int32 → sn_M) (mk48 : ∀ (x1 : Int32) (x2 : Int32) (x3 : Int32) (x4 : Int32) (x5 : Int32) (x6 : Int32) (x7 : Int32), sn_Mono (k48 x1 x2 x3 x4 x5 x6 x7)) (a : Nat) (x1 : Int32) (x2 : Int32) (x3 : Int32) (x5 : Int32) (x6 : Int32) (x7 : Int32) (t0 : Int32) : sn_Mono (f_Md_octetOf_84 k48 a x1 x2 x3 x5 x6 x7 t0) := mk48 x1 x2 x3 t0 x5 x6 (x7 + (1 : Int32))
set_option maxHeartbeats 4000000 in
set_option maxRecDepth 100000 in
theorem s_Md_octetOf_84 {X : sn_X} (C : sn_Cx X c_Md_octetOf "SignalNetworkModel" (some .int) "octetOf" 8 2 46) (a : Nat) (k48 : Int32 → Int32 → Int32 → Int32 → Int32 → Int32 → Int32 → sn_M) (hk48 : ∀ (x1 : Int32) (x2 : Int32) (x3 : Int32) (x4 : Int32) (x5 : Int32) (x6 : Int32) (x7 : Int32), sn_S X 48 [(0, vA (some a)), (1, vI x1), (2, vI x2), (3, vI x3), (4, vI x4), (5, vI x5), (6, vI x6), (7, vI x7)] [] (k48 x1 x2 x3 x4 x5 x6 x7)) (x1 : Int32) (x2 : Int32) (x3 : Int32) (x5 : Int32) (x6 : Int32) (x7 : Int32) (t0 : Int32) : sn_S X 84 [(0, vA (some a)), (1, vI x1), (2, vI x2), (3, vI x3), (5, vI x5), (6, vI x6), (7, vI x7)] [vI t0] (f_Md_octetOf_84 k48 a x1 x2 x3 x5 x6 x7 t0) := by
  unfold f_Md_octetOf_84
  refine r_istore (q := 86) (i := 4) (lv' := [(4, vI t0), (0, vA (some a)), (1, vI x1), (2, vI x2), (3, vI x3), (5, vI x5), (6, vI x6), (7, vI x7)]) C d_Md_octetOf_84 rfl (by decide) rfl ?_
  refine r_iinc (q := 89) (pl := 7) (v := x7 + (1 : Int32)) (lv' := [(7, vI (x7 + (1 : Int32))), (4, vI t0), (0, vA (some a)), (1, vI x1), (2, vI x2), (3, vI x3), (5, vI x5), (6, vI x6)]) C d_Md_octetOf_86 rfl rfl rfl (by decide) rfl ?_
  refine r_goto (tgt := 48) C d_Md_octetOf_89 (by decide) ?_
  refine r_sub (lv' := [(0, vA (some a)), (1, vI x1), (2, vI x2), (3, vI x3), (4, vI t0), (5, vI x5), (6, vI x6), (7, vI (x7 + (1 : Int32)))]) [2, 3, 4, 5, 1, 6, 7, 0] rfl ?_
  exact hk48 x1 x2 x3 t0 x5 x6 (x7 + (1 : Int32))
def f_Md_octetOf_48 (k28 : Int32 → Int32 → Int32 → Int32 → Int32 → sn_M) (a : Nat) : Nat → Int32 → Int32 → Int32 → Int32 → Int32 → Int32 → Int32 → sn_M
  | 0, _, _, _, _, _, _, _ => r_0
  | n + 1, x1, x2, x3, x4, x5, x6, x7 => (if (8 : Int32) ≤ x7 then k28 x1 x2 x3 x4 (x5 + (1 : Int32)) else (if ¬ (((x6 >>> (x7 &&& 31)) ^^^ x4) &&& (1 : Int32)) = (1 : Int32) then f_Md_octetOf_84 (f_Md_octetOf_48 k28 a n) a x1 x2 x3 x5 x6 x7 (x4 >>> ((1 : Int32) &&& 31)) else f_Md_octetOf_84 (f_Md_octetOf_48 k28 a n) a x1 x2 x3 x5 x6 x7 ((x4 >>> ((1 : Int32) &&& 31)) ^^^ (33800 : Int32))))
set_option maxHeartbeats 4000000 in
set_option maxRecDepth 100000 in
theorem mono_Md_octetOf_48 (k28 : Int32 → Int32 → Int32 → Int32 → Int32 → sn_M) (mk28 : ∀ (x1 : Int32) (x2 : Int32) (x3 : Int32) (x4 : Int32) (x5 : Int32), sn_Mono (k28 x1 x2 x3 x4 x5)) (a : Nat) : ∀ (n : Nat) (x1 : Int32) (x2 : Int32) (x3 : Int32) (x4 : Int32) (x5 : Int32) (x6 : Int32) (x7 : Int32), sn_Mono (f_Md_octetOf_48 k28 a n x1 x2 x3 x4 x5 x6 x7)
  | 0, _, _, _, _, _, _, _ => sn_Mono.r0
  | n + 1, x1, x2, x3, x4, x5, x6, x7 => sn_Mono.ite (mk28 x1 x2 x3 x4 (x5 + (1 : Int32))) (sn_Mono.ite (mono_Md_octetOf_84 (f_Md_octetOf_48 k28 a n) (mono_Md_octetOf_48 k28 mk28 a n) a x1 x2 x3 x5 x6 x7 (x4 >>> ((1 : Int32) &&& 31))) (mono_Md_octetOf_84 (f_Md_octetOf_48 k28 a n) (mono_Md_octetOf_48 k28 mk28 a n) a x1 x2 x3 x5 x6 x7 ((x4 >>> ((1 : Int32) &&& 31)) ^^^ (33800 : Int32))))
set_option maxHeartbeats 4000000 in
set_option maxRecDepth 100000 in
theorem s_Md_octetOf_48 {X : sn_X} (C : sn_Cx X c_Md_octetOf "SignalNetworkModel" (some .int) "octetOf" 8 2 46) (a : Nat) (k28 : Int32 → Int32 → Int32 → Int32 → Int32 → sn_M) (hk28 : ∀ (x1 : Int32) (x2 : Int32) (x3 : Int32) (x4 : Int32) (x5 : Int32), sn_S X 28 [(0, vA (some a)), (1, vI x1), (2, vI x2), (3, vI x3), (4, vI x4), (5, vI x5)] [] (k28 x1 x2 x3 x4 x5)) (n : Nat) : ∀ (x1 : Int32) (x2 : Int32) (x3 : Int32) (x4 : Int32) (x5 : Int32) (x6 : Int32) (x7 : Int32), sn_S X 48 [(0, vA (some a)), (1, vI x1), (2, vI x2), (3, vI x3), (4, vI x4), (5, vI x5), (6, vI x6), (7, vI x7)] [] (f_Md_octetOf_48 k28 a n x1 x2 x3 x4 x5 x6 x7) := by
  induction n with
  | zero => intro x1 x2 x3 x4 x5 x6 x7; exact sn_S.zero
  | succ n ih =>
    intro x1 x2 x3 x4 x5 x6 x7
    unfold f_Md_octetOf_48
    refine r_iload (q := 50) (i := 7) (pl := 7) C d_Md_octetOf_48 rfl rfl ?_
    refine r_bipush (q := 52) (v := 8) C d_Md_octetOf_50 rfl (by decide) ?_
    refine r_icmp_ge (tgt := 92) (q := 55) C d_Md_octetOf_52 (by decide) rfl ?_ ?_
    · refine r_iinc (q := 95) (pl := 5) (v := x5 + (1 : Int32)) (lv' := [(5, vI (x5 + (1 : Int32))), (0, vA (some a)), (1, vI x1), (2, vI x2), (3, vI x3), (4, vI x4), (6, vI x6), (7, vI x7)]) C d_Md_octetOf_92 rfl rfl rfl (by decide) rfl ?_
      refine r_goto (tgt := 28) C d_Md_octetOf_95 (by decide) ?_
      refine r_sub (lv' := [(0, vA (some a)), (1, vI x1), (2, vI x2), (3, vI x3), (4, vI x4), (5, vI (x5 + (1 : Int32)))]) [1, 2, 3, 4, 5, 0] rfl ?_
      exact hk28 x1 x2 x3 x4 (x5 + (1 : Int32))
    · refine r_iload (q := 57) (i := 6) (pl := 6) C d_Md_octetOf_55 rfl rfl ?_
      refine r_iload (q := 59) (i := 7) (pl := 7) C d_Md_octetOf_57 rfl rfl ?_
      refine r_ishr (q := 60) C d_Md_octetOf_59 rfl ?_
      refine r_iload (q := 62) (i := 4) (pl := 4) C d_Md_octetOf_60 rfl rfl ?_
      refine r_ixor (q := 63) C d_Md_octetOf_62 rfl ?_
      refine r_iconst (q := 64) (v := 1) C d_Md_octetOf_63 rfl (by decide) ?_
      refine r_iand (q := 65) C d_Md_octetOf_64 rfl ?_
      refine r_iconst (q := 66) (v := 1) C d_Md_octetOf_65 rfl (by decide) ?_
      refine r_icmp_ne (tgt := 80) (q := 69) C d_Md_octetOf_66 (by decide) rfl ?_ ?_
      · refine r_iload (q := 82) (i := 4) (pl := 4) C d_Md_octetOf_80 rfl rfl ?_
        refine r_iconst (q := 83) (v := 1) C d_Md_octetOf_82 rfl (by decide) ?_
        refine r_ishr (q := 84) C d_Md_octetOf_83 rfl ?_
        refine r_sub (lv' := [(0, vA (some a)), (1, vI x1), (2, vI x2), (3, vI x3), (5, vI x5), (6, vI x6), (7, vI x7)]) [0, 1, 2, 3, 5, 6, 7] rfl ?_
        exact s_Md_octetOf_84 C a (f_Md_octetOf_48 k28 a n) ih x1 x2 x3 x5 x6 x7 (x4 >>> ((1 : Int32) &&& 31))
      · refine r_iload (q := 71) (i := 4) (pl := 4) C d_Md_octetOf_69 rfl rfl ?_
        refine r_iconst (q := 72) (v := 1) C d_Md_octetOf_71 rfl (by decide) ?_
        refine r_ishr (q := 73) C d_Md_octetOf_72 rfl ?_
        refine r_ldc_w (q := 76) C d_Md_octetOf_73 rfl K_Md_428 ?_
        refine r_ixor (q := 77) C d_Md_octetOf_76 rfl ?_
        refine r_goto (tgt := 84) C d_Md_octetOf_77 (by decide) ?_
        refine r_sub (lv' := [(0, vA (some a)), (1, vI x1), (2, vI x2), (3, vI x3), (5, vI x5), (6, vI x6), (7, vI x7)]) [0, 1, 2, 3, 5, 6, 7] rfl ?_
        exact s_Md_octetOf_84 C a (f_Md_octetOf_48 k28 a n) ih x1 x2 x3 x5 x6 x7 ((x4 >>> ((1 : Int32) &&& 31)) ^^^ (33800 : Int32))
def f_Md_octetOf_127 (a : Nat) (t0 : Int32) : sn_M := r_I t0
set_option maxHeartbeats 4000000 in
set_option maxRecDepth 100000 in
theorem mono_Md_octetOf_127 (a : Nat) (t0 : Int32) : sn_Mono (f_Md_octetOf_127 a t0) := sn_Mono.rI
set_option maxHeartbeats 4000000 in
set_option maxRecDepth 100000 in
theorem s_Md_octetOf_127 {X : sn_X} (C : sn_Cx X c_Md_octetOf "SignalNetworkModel" (some .int) "octetOf" 8 2 46) (a : Nat) (t0 : Int32) : sn_S X 127 [(0, vA (some a))] [vI t0] (f_Md_octetOf_127 a t0) := by
  unfold f_Md_octetOf_127
  exact r_iret C d_Md_octetOf_127 rfl
def f_Md_octetOf_28 (a : Nat) : Nat → Int32 → Int32 → Int32 → Int32 → Int32 → sn_M
  | 0, _, _, _, _, _ => r_0
  | n + 1, x1, x2, x3, x4, x5 => (if (x3 - (2 : Int32)) ≤ x5 then n_I ((x4 ^^^ (65535 : Int32))) fun n1 => (if ¬ x2 = (x3 - (2 : Int32)) then f_Md_octetOf_127 a (n1 >>> ((8 : Int32) &&& 31)) else f_Md_octetOf_127 a (n1 &&& (255 : Int32))) else n_n 12 (some a) fun a2 => c_I (f_Md_plain a2 x1 x5) fun v3 => f_Md_octetOf_48 (f_Md_octetOf_28 a n) a sn_fuel x1 x2 x3 x4 x5 v3 (0 : Int32))
set_option maxHeartbeats 4000000 in
set_option maxRecDepth 100000 in
theorem mono_Md_octetOf_28 (a : Nat) : ∀ (n : Nat) (x1 : Int32) (x2 : Int32) (x3 : Int32) (x4 : Int32) (x5 : Int32), sn_Mono (f_Md_octetOf_28 a n x1 x2 x3 x4 x5)
  | 0, _, _, _, _, _ => sn_Mono.r0
  | n + 1, x1, x2, x3, x4, x5 => sn_Mono.ite (sn_Mono.nI (fun n1 => sn_Mono.ite (mono_Md_octetOf_127 a (n1 >>> ((8 : Int32) &&& 31))) (mono_Md_octetOf_127 a (n1 &&& (255 : Int32))))) (sn_Mono.nn (fun a2 => sn_Mono.cI (mono_Md_plain a2 x1 x5) (fun v3 => mono_Md_octetOf_48 (f_Md_octetOf_28 a n) (mono_Md_octetOf_28 a n) a sn_fuel x1 x2 x3 x4 x5 v3 (0 : Int32))))
set_option maxHeartbeats 4000000 in
set_option maxRecDepth 100000 in
theorem s_Md_octetOf_28 {X : sn_X} (C : sn_Cx X c_Md_octetOf "SignalNetworkModel" (some .int) "octetOf" 8 2 46) (a : Nat) (n : Nat) : ∀ (x1 : Int32) (x2 : Int32) (x3 : Int32) (x4 : Int32) (x5 : Int32), sn_S X 28 [(0, vA (some a)), (1, vI x1), (2, vI x2), (3, vI x3), (4, vI x4), (5, vI x5)] [] (f_Md_octetOf_28 a n x1 x2 x3 x4 x5) := by
  induction n with
  | zero => intro x1 x2 x3 x4 x5; exact sn_S.zero
  | succ n ih =>
    intro x1 x2 x3 x4 x5
    unfold f_Md_octetOf_28
    refine r_iload (q := 30) (i := 5) (pl := 5) C d_Md_octetOf_28 rfl rfl ?_
    refine r_iload_n (q := 31) (i := 3) (pl := 3) C d_Md_octetOf_30 rfl rfl rfl ?_
    refine r_iconst (q := 32) (v := 2) C d_Md_octetOf_31 rfl (by decide) ?_
    refine r_isub (q := 33) C d_Md_octetOf_32 rfl ?_
    refine r_icmp_ge (tgt := 98) (q := 36) C d_Md_octetOf_33 (by decide) rfl ?_ ?_
    · refine r_iload (q := 100) (i := 4) (pl := 4) C d_Md_octetOf_98 rfl rfl ?_
      refine r_ldc_w (q := 103) C d_Md_octetOf_100 rfl K_Md_427 ?_
      refine r_ixor (q := 104) C d_Md_octetOf_103 rfl ?_
      refine r_nI (fun n1 => ?_)
      refine r_istore (q := 106) (i := 4) (lv' := [(4, vI n1), (0, vA (some a)), (1, vI x1), (2, vI x2), (3, vI x3), (5, vI x5)]) C d_Md_octetOf_104 rfl (by decide) rfl ?_
      refine r_iload_n (q := 107) (i := 2) (pl := 3) C d_Md_octetOf_106 rfl rfl rfl ?_
      refine r_iload_n (q := 108) (i := 3) (pl := 4) C d_Md_octetOf_107 rfl rfl rfl ?_
      refine r_iconst (q := 109) (v := 2) C d_Md_octetOf_108 rfl (by decide) ?_
      refine r_isub (q := 110) C d_Md_octetOf_109 rfl ?_
      refine r_icmp_ne (tgt := 122) (q := 113) C d_Md_octetOf_110 (by decide) rfl ?_ ?_
      · refine r_iload (q := 124) (i := 4) (pl := 0) C d_Md_octetOf_122 rfl rfl ?_
        refine r_bipush (q := 126) (v := 8) C d_Md_octetOf_124 rfl (by decide) ?_
        refine r_ishr (q := 127) C d_Md_octetOf_126 rfl ?_
        refine r_sub (lv' := [(0, vA (some a))]) [1] rfl ?_
        exact s_Md_octetOf_127 C a (n1 >>> ((8 : Int32) &&& 31))
      · refine r_iload (q := 115) (i := 4) (pl := 0) C d_Md_octetOf_113 rfl rfl ?_
        refine r_sipush (q := 118) (v := 255) C d_Md_octetOf_115 rfl (by decide) ?_
        refine r_iand (q := 119) C d_Md_octetOf_118 rfl ?_
        refine r_goto (tgt := 127) C d_Md_octetOf_119 (by decide) ?_
        refine r_sub (lv' := [(0, vA (some a))]) [1] rfl ?_
        exact s_Md_octetOf_127 C a (n1 &&& (255 : Int32))
    · refine r_aload_n (q := 37) (i := 0) (pl := 0) C d_Md_octetOf_36 rfl rfl rfl ?_
      refine r_iload_n (q := 38) (i := 1) (pl := 1) C d_Md_octetOf_37 rfl rfl rfl ?_
      refine r_iload (q := 40) (i := 5) (pl := 5) C d_Md_octetOf_38 rfl rfl ?_
      refine r_cvI (q := 43) (As := [vI x1, vI x5]) (st := []) (cy := 11) C d_Md_octetOf_40 rfl Y_Md_plain L_Md_424 I_Md_plain Se_Md_plain rfl (by decide) rfl (Nat.le_of_ble_eq_true rfl) (Nat.le_of_ble_eq_true rfl) (Nat.le_of_ble_eq_true rfl) rfl (fun a2 => con_Md_plain a2 x1 x5) (fun v3 => ?_)
      refine r_istore (q := 45) (i := 6) (lv' := [(6, vI v3), (0, vA (some a)), (1, vI x1), (2, vI x2), (3, vI x3), (4, vI x4), (5, vI x5)]) C d_Md_octetOf_43 rfl (by decide) rfl ?_
      refine r_iconst (q := 46) (v := 0) C d_Md_octetOf_45 rfl (by decide) ?_
      refine r_istore (q := 48) (i := 7) (lv' := [(7, vI (0 : Int32)), (6, vI v3), (0, vA (some a)), (1, vI x1), (2, vI x2), (3, vI x3), (4, vI x4), (5, vI x5)]) C d_Md_octetOf_46 rfl (by decide) rfl ?_
      refine r_sub (lv' := [(0, vA (some a)), (1, vI x1), (2, vI x2), (3, vI x3), (4, vI x4), (5, vI x5), (6, vI v3), (7, vI (0 : Int32))]) [2, 3, 4, 5, 6, 7, 1, 0] rfl ?_
      exact s_Md_octetOf_48 C a (f_Md_octetOf_28 a n) ih sn_fuel x1 x2 x3 x4 x5 v3 (0 : Int32)
def f_Md_octetOf (a : Nat) (x1 : Int32) (x2 : Int32) : sn_M := n_n 12 (some a) fun a4 => c_I (f_Md_octets a4 x1) fun v5 => (if (v5 - (2 : Int32)) ≤ x2 then f_Md_octetOf_28 a sn_fuel x1 x2 v5 (65535 : Int32) (0 : Int32) else n_n 12 (some a) fun a6 => c_I (f_Md_plain a6 x1 x2) fun v7 => r_I v7)
set_option maxHeartbeats 4000000 in
set_option maxRecDepth 100000 in
theorem mono_Md_octetOf (a : Nat) (x1 : Int32) (x2 : Int32) : sn_Mono (f_Md_octetOf a x1 x2) := sn_Mono.nn (fun a4 => sn_Mono.cI (mono_Md_octets a4 x1) (fun v5 => sn_Mono.ite (mono_Md_octetOf_28 a sn_fuel x1 x2 v5 (65535 : Int32) (0 : Int32)) (sn_Mono.nn (fun a6 => sn_Mono.cI (mono_Md_plain a6 x1 x2) (fun v7 => sn_Mono.rI)))))
set_option maxHeartbeats 4000000 in
set_option maxRecDepth 100000 in
theorem con_Md_octetOf (a : Nat) (x1 : Int32) (x2 : Int32) : sn_Con y_Md_octetOf c_Md_octetOf 8 (some .int) 2 46 [vA (some a), vI x1, vI x2] (f_Md_octetOf a x1 x2) := by
  refine sn_Con.of (by decide +kernel) (by show _ ≤ _; exact Nat.le_of_ble_eq_true rfl) (mono_Md_octetOf a x1 x2) (fun X C => ?_)
  show sn_S X 0 [(0, vA (some a)), (1, vI x1), (2, vI x2)] [] _
  replace C : sn_Cx X c_Md_octetOf "SignalNetworkModel" (some .int) "octetOf" 8 2 46 := C
  unfold f_Md_octetOf
  refine r_aload_n (q := 1) (i := 0) (pl := 0) C d_Md_octetOf_0 rfl rfl rfl ?_
  refine r_iload_n (q := 2) (i := 1) (pl := 1) C d_Md_octetOf_1 rfl rfl rfl ?_
  refine r_cvI (q := 5) (As := [vI x1]) (st := []) (cy := 11) C d_Md_octetOf_2 rfl Y_Md_octets L_Md_421 I_Md_octets Se_Md_octets rfl (by decide) rfl (Nat.le_of_ble_eq_true rfl) (Nat.le_of_ble_eq_true rfl) (Nat.le_of_ble_eq_true rfl) rfl (fun a4 => con_Md_octets a4 x1) (fun v5 => ?_)
  refine r_istore_n (q := 6) (i := 3) (lv' := [(3, vI v5), (0, vA (some a)), (1, vI x1), (2, vI x2)]) C d_Md_octetOf_5 rfl rfl (by decide) rfl ?_
  refine r_iload_n (q := 7) (i := 2) (pl := 3) C d_Md_octetOf_6 rfl rfl rfl ?_
  refine r_iload_n (q := 8) (i := 3) (pl := 0) C d_Md_octetOf_7 rfl rfl rfl ?_
  refine r_iconst (q := 9) (v := 2) C d_Md_octetOf_8 rfl (by decide) ?_
  refine r_isub (q := 10) C d_Md_octetOf_9 rfl ?_
  refine r_icmp_ge (tgt := 20) (q := 13) C d_Md_octetOf_10 (by decide) rfl ?_ ?_
  · refine r_ldc_w (q := 23) C d_Md_octetOf_20 rfl K_Md_427 ?_
    refine r_istore (q := 25) (i := 4) (lv' := [(4, vI (65535 : Int32)), (3, vI v5), (0, vA (some a)), (1, vI x1), (2, vI x2)]) C d_Md_octetOf_23 rfl (by decide) rfl ?_
    refine r_iconst (q := 26) (v := 0) C d_Md_octetOf_25 rfl (by decide) ?_
    refine r_istore (q := 28) (i := 5) (lv' := [(5, vI (0 : Int32)), (4, vI (65535 : Int32)), (3, vI v5), (0, vA (some a)), (1, vI x1), (2, vI x2)]) C d_Md_octetOf_26 rfl (by decide) rfl ?_
    refine r_sub (lv' := [(0, vA (some a)), (1, vI x1), (2, vI x2), (3, vI v5), (4, vI (65535 : Int32)), (5, vI (0 : Int32))]) [3, 4, 5, 2, 1, 0] rfl ?_
    exact s_Md_octetOf_28 C a sn_fuel x1 x2 v5 (65535 : Int32) (0 : Int32)
  · refine r_aload_n (q := 14) (i := 0) (pl := 1) C d_Md_octetOf_13 rfl rfl rfl ?_
    refine r_iload_n (q := 15) (i := 1) (pl := 2) C d_Md_octetOf_14 rfl rfl rfl ?_
    refine r_iload_n (q := 16) (i := 2) (pl := 3) C d_Md_octetOf_15 rfl rfl rfl ?_
    refine r_cvI (q := 19) (As := [vI x1, vI x2]) (st := []) (cy := 11) C d_Md_octetOf_16 rfl Y_Md_plain L_Md_424 I_Md_plain Se_Md_plain rfl (by decide) rfl (Nat.le_of_ble_eq_true rfl) (Nat.le_of_ble_eq_true rfl) (Nat.le_of_ble_eq_true rfl) rfl (fun a6 => con_Md_plain a6 x1 x2) (fun v7 => ?_)
    exact r_iret C d_Md_octetOf_19 rfl
