theorem d_Md_fresh_0 : decode c_Md_fresh 0 = .ok (.aload_n 0, 1) := by decide +kernel
theorem d_Md_fresh_1 : decode c_Md_fresh 1 = .ok (.getfield 29, 3) := by decide +kernel
theorem d_Md_fresh_4 : decode c_Md_fresh 4 = .ok (.iload_n 1, 1) := by decide +kernel
theorem d_Md_fresh_5 : decode c_Md_fresh 5 = .ok (.bipush 127, 2) := by decide +kernel
theorem d_Md_fresh_7 : decode c_Md_fresh 7 = .ok (.iastore, 1) := by decide +kernel
theorem d_Md_fresh_8 : decode c_Md_fresh 8 = .ok (.aload_n 0, 1) := by decide +kernel
theorem d_Md_fresh_9 : decode c_Md_fresh 9 = .ok (.getfield 32, 3) := by decide +kernel
theorem d_Md_fresh_12 : decode c_Md_fresh 12 = .ok (.iload_n 1, 1) := by decide +kernel
theorem d_Md_fresh_13 : decode c_Md_fresh 13 = .ok (.bipush 127, 2) := by decide +kernel
theorem d_Md_fresh_15 : decode c_Md_fresh 15 = .ok (.iastore, 1) := by decide +kernel
theorem d_Md_fresh_16 : decode c_Md_fresh 16 = .ok (.aload_n 0, 1) := by decide +kernel
theorem d_Md_fresh_17 : decode c_Md_fresh 17 = .ok (.getfield 35, 3) := by decide +kernel
theorem d_Md_fresh_20 : decode c_Md_fresh 20 = .ok (.iload_n 1, 1) := by decide +kernel
theorem d_Md_fresh_21 : decode c_Md_fresh 21 = .ok (.iconst 1, 1) := by decide +kernel
theorem d_Md_fresh_22 : decode c_Md_fresh 22 = .ok (.iastore, 1) := by decide +kernel
theorem d_Md_fresh_23 : decode c_Md_fresh 23 = .ok (.aload_n 0, 1) := by decide +kernel
theorem d_Md_fresh_24 : decode c_Md_fresh 24 = .ok (.getfield 38, 3) := by decide +kernel
theorem d_Md_fresh_27 : decode c_Md_fresh 27 = .ok (.iload_n 1, 1) := by decide +kernel
theorem d_Md_fresh_28 : decode c_Md_fresh 28 = .ok (.iconst 1, 1) := by decide +kernel
theorem d_Md_fresh_29 : decode c_Md_fresh 29 = .ok (.iastore, 1) := by decide +kernel
theorem d_Md_fresh_30 : decode c_Md_fresh 30 = .ok (.aload_n 0, 1) := by decide +kernel
theorem d_Md_fresh_31 : decode c_Md_fresh 31 = .ok (.getfield 41, 3) := by decide +kernel
theorem d_Md_fresh_34 : decode c_Md_fresh 34 = .ok (.iload_n 1, 1) := by decide +kernel
theorem d_Md_fresh_35 : decode c_Md_fresh 35 = .ok (.iconst 0, 1) := by decide +kernel
theorem d_Md_fresh_36 : decode c_Md_fresh 36 = .ok (.iastore, 1) := by decide +kernel
theorem d_Md_fresh_37 : decode c_Md_fresh 37 = .ok (.aload_n 0, 1) := by decide +kernel
theorem d_Md_fresh_38 : decode c_Md_fresh 38 = .ok (.getfield 50, 3) := by decide +kernel
theorem d_Md_fresh_41 : decode c_Md_fresh 41 = .ok (.iload_n 1, 1) := by decide +kernel
theorem d_Md_fresh_42 : decode c_Md_fresh 42 = .ok (.iconst 0, 1) := by decide +kernel
theorem d_Md_fresh_43 : decode c_Md_fresh 43 = .ok (.iastore, 1) := by decide +kernel
theorem d_Md_fresh_44 : decode c_Md_fresh 44 = .ok (.aload_n 0, 1) := by decide +kernel
theorem d_Md_fresh_45 : decode c_Md_fresh 45 = .ok (.getfield 56, 3) := by decide +kernel
theorem d_Md_fresh_48 : decode c_Md_fresh 48 = .ok (.iload_n 1, 1) := by decide +kernel
theorem d_Md_fresh_49 : decode c_Md_fresh 49 = .ok (.iconst (-1), 1) := by decide +kernel
theorem d_Md_fresh_50 : decode c_Md_fresh 50 = .ok (.iastore, 1) := by decide +kernel
theorem d_Md_fresh_51 : decode c_Md_fresh 51 = .ok (.return_, 1) := by decide +kernel
def f_Md_fresh (a : Nat) (x1 : Int32) : sn_M := g_R 12 12 (some a) fun v1 => b_I 31 v1 x1 (127 : Int32) (g_R 12 13 (some a) fun v2 => b_I 31 v2 x1 (127 : Int32) (g_R 12 14 (some a) fun v3 => b_I 31 v3 x1 (1 : Int32) (g_R 12 15 (some a) fun v4 => b_I 31 v4 x1 (1 : Int32) (g_R 12 16 (some a) fun v5 => b_I 31 v5 x1 (0 : Int32) (g_R 12 19 (some a) fun v6 => b_I 31 v6 x1 (0 : Int32) (g_R 12 21 (some a) fun v7 => b_I 31 v7 x1 (-1 : Int32) (r_V)))))))
set_option maxHeartbeats 4000000 in
set_option maxRecDepth 100000 in
theorem mono_Md_fresh (a : Nat) (x1 : Int32) : sn_Mono (f_Md_fresh a x1) := sn_Mono.gR (fun v1 => sn_Mono.bI (sn_Mono.gR (fun v2 => sn_Mono.bI (sn_Mono.gR (fun v3 => sn_Mono.bI (sn_Mono.gR (fun v4 => sn_Mono.bI (sn_Mono.gR (fun v5 => sn_Mono.bI (sn_Mono.gR (fun v6 => sn_Mono.bI (sn_Mono.gR (fun v7 => sn_Mono.bI (sn_Mono.rV))))))))))))))
set_option maxHeartbeats 4000000 in
set_option maxRecDepth 100000 in
theorem con_Md_fresh (a : Nat) (x1 : Int32) : sn_Con y_Md_fresh c_Md_fresh 2 none 0 0 [vA (some a), vI x1] (f_Md_fresh a x1) := by
  refine sn_Con.of (by decide +kernel) (by show _ ≤ _; exact Nat.le_of_ble_eq_true rfl) (mono_Md_fresh a x1) (fun X C => ?_)
  show sn_S X 0 [(0, vA (some a)), (1, vI x1)] [] _
  replace C : sn_Cx X c_Md_fresh "SignalNetworkModel" none "fresh" 2 0 0 := C
  unfold f_Md_fresh
  refine r_aload_n (q := 1) (i := 0) (pl := 0) C d_Md_fresh_0 rfl rfl rfl ?_
  refine r_gR (q := 4) C d_Md_fresh_1 rfl F_Md_29 rfl (fun v1 => ?_)
  refine r_iload_n (q := 5) (i := 1) (pl := 1) C d_Md_fresh_4 rfl rfl rfl ?_
  refine r_bipush (q := 7) (v := 127) C d_Md_fresh_5 rfl (by decide) ?_
  refine r_bI (q := 8) C (Or.inr rfl) d_Md_fresh_7 rfl ?_
  refine r_aload_n (q := 9) (i := 0) (pl := 0) C d_Md_fresh_8 rfl rfl rfl ?_
  refine r_gR (q := 12) C d_Md_fresh_9 rfl F_Md_32 rfl (fun v2 => ?_)
  refine r_iload_n (q := 13) (i := 1) (pl := 1) C d_Md_fresh_12 rfl rfl rfl ?_
  refine r_bipush (q := 15) (v := 127) C d_Md_fresh_13 rfl (by decide) ?_
  refine r_bI (q := 16) C (Or.inr rfl) d_Md_fresh_15 rfl ?_
  refine r_aload_n (q := 17) (i := 0) (pl := 0) C d_Md_fresh_16 rfl rfl rfl ?_
  refine r_gR (q := 20) C d_Md_fresh_17 rfl F_Md_35 rfl (fun v3 => ?_)
  refine r_iload_n (q := 21) (i := 1) (pl := 1) C d_Md_fresh_20 rfl rfl rfl ?_
  refine r_iconst (q := 22) (v := 1) C d_Md_fresh_21 rfl (by decide) ?_
  refine r_bI (q := 23) C (Or.inr rfl) d_Md_fresh_22 rfl ?_
  refine r_aload_n (q := 24) (i := 0) (pl := 0) C d_Md_fresh_23 rfl rfl rfl ?_
  refine r_gR (q := 27) C d_Md_fresh_24 rfl F_Md_38 rfl (fun v4 => ?_)
  refine r_iload_n (q := 28) (i := 1) (pl := 1) C d_Md_fresh_27 rfl rfl rfl ?_
  refine r_iconst (q := 29) (v := 1) C d_Md_fresh_28 rfl (by decide) ?_
  refine r_bI (q := 30) C (Or.inr rfl) d_Md_fresh_29 rfl ?_
  refine r_aload_n (q := 31) (i := 0) (pl := 0) C d_Md_fresh_30 rfl rfl rfl ?_
  refine r_gR (q := 34) C d_Md_fresh_31 rfl F_Md_41 rfl (fun v5 => ?_)
  refine r_iload_n (q := 35) (i := 1) (pl := 1) C d_Md_fresh_34 rfl rfl rfl ?_
  refine r_iconst (q := 36) (v := 0) C d_Md_fresh_35 rfl (by decide) ?_
  refine r_bI (q := 37) C (Or.inr rfl) d_Md_fresh_36 rfl ?_
  refine r_aload_n (q := 38) (i := 0) (pl := 0) C d_Md_fresh_37 rfl rfl rfl ?_
  refine r_gR (q := 41) C d_Md_fresh_38 rfl F_Md_50 rfl (fun v6 => ?_)
  refine r_iload_n (q := 42) (i := 1) (pl := 1) C d_Md_fresh_41 rfl rfl rfl ?_
  refine r_iconst (q := 43) (v := 0) C d_Md_fresh_42 rfl (by decide) ?_
  refine r_bI (q := 44) C (Or.inr rfl) d_Md_fresh_43 rfl ?_
  refine r_aload_n (q := 45) (i := 0) (pl := 0) C d_Md_fresh_44 rfl rfl rfl ?_
  refine r_gR (q := 48) C d_Md_fresh_45 rfl F_Md_56 rfl (fun v7 => ?_)
  refine r_iload_n (q := 49) (i := 1) (pl := 1) C d_Md_fresh_48 rfl rfl rfl ?_
  refine r_iconst (q := 50) (v := -1) C d_Md_fresh_49 rfl (by decide) ?_
  refine r_bI (q := 51) C (Or.inr rfl) d_Md_fresh_50 rfl ?_
  exact r_vret C d_Md_fresh_51 rfl
theorem d_Md_init_0 : decode c_Md_init 0 = .ok (.aload_n 0, 1) := by decide +kernel
theorem d_Md_init_1 : decode c_Md_init 1 = .ok (.invokespecial 1, 3) := by decide +kernel
theorem d_Md_init_4 : decode c_Md_init 4 = .ok (.aload_n 0, 1) := by decide +kernel
theorem d_Md_init_5 : decode c_Md_init 5 = .ok (.bipush 10, 2) := by decide +kernel
theorem d_Md_init_7 : decode c_Md_init 7 = .ok (.newarray .int, 2) := by decide +kernel
theorem d_Md_init_9 : decode c_Md_init 9 = .ok (.putfield 7, 3) := by decide +kernel
theorem d_Md_init_12 : decode c_Md_init 12 = .ok (.aload_n 0, 1) := by decide +kernel
theorem d_Md_init_13 : decode c_Md_init 13 = .ok (.bipush 10, 2) := by decide +kernel
theorem d_Md_init_15 : decode c_Md_init 15 = .ok (.newarray .int, 2) := by decide +kernel
theorem d_Md_init_17 : decode c_Md_init 17 = .ok (.putfield 13, 3) := by decide +kernel
theorem d_Md_init_20 : decode c_Md_init 20 = .ok (.aload_n 0, 1) := by decide +kernel
theorem d_Md_init_21 : decode c_Md_init 21 = .ok (.bipush 10, 2) := by decide +kernel
theorem d_Md_init_23 : decode c_Md_init 23 = .ok (.newarray .boolean, 2) := by decide +kernel
theorem d_Md_init_25 : decode c_Md_init 25 = .ok (.putfield 16, 3) := by decide +kernel
theorem d_Md_init_28 : decode c_Md_init 28 = .ok (.aload_n 0, 1) := by decide +kernel
theorem d_Md_init_29 : decode c_Md_init 29 = .ok (.bipush 10, 2) := by decide +kernel
theorem d_Md_init_31 : decode c_Md_init 31 = .ok (.newarray .boolean, 2) := by decide +kernel
theorem d_Md_init_33 : decode c_Md_init 33 = .ok (.putfield 20, 3) := by decide +kernel
theorem d_Md_init_36 : decode c_Md_init 36 = .ok (.aload_n 0, 1) := by decide +kernel
theorem d_Md_init_37 : decode c_Md_init 37 = .ok (.bipush 20, 2) := by decide +kernel
theorem d_Md_init_39 : decode c_Md_init 39 = .ok (.newarray .int, 2) := by decide +kernel
theorem d_Md_init_41 : decode c_Md_init 41 = .ok (.putfield 23, 3) := by decide +kernel
theorem d_Md_init_44 : decode c_Md_init 44 = .ok (.aload_n 0, 1) := by decide +kernel
theorem d_Md_init_45 : decode c_Md_init 45 = .ok (.bipush 20, 2) := by decide +kernel
theorem d_Md_init_47 : decode c_Md_init 47 = .ok (.newarray .int, 2) := by decide +kernel
theorem d_Md_init_49 : decode c_Md_init 49 = .ok (.putfield 26, 3) := by decide +kernel
theorem d_Md_init_52 : decode c_Md_init 52 = .ok (.aload_n 0, 1) := by decide +kernel
theorem d_Md_init_53 : decode c_Md_init 53 = .ok (.bipush 20, 2) := by decide +kernel
theorem d_Md_init_55 : decode c_Md_init 55 = .ok (.newarray .int, 2) := by decide +kernel
theorem d_Md_init_57 : decode c_Md_init 57 = .ok (.putfield 29, 3) := by decide +kernel
theorem d_Md_init_60 : decode c_Md_init 60 = .ok (.aload_n 0, 1) := by decide +kernel
theorem d_Md_init_61 : decode c_Md_init 61 = .ok (.bipush 20, 2) := by decide +kernel
theorem d_Md_init_63 : decode c_Md_init 63 = .ok (.newarray .int, 2) := by decide +kernel
theorem d_Md_init_65 : decode c_Md_init 65 = .ok (.putfield 32, 3) := by decide +kernel
theorem d_Md_init_68 : decode c_Md_init 68 = .ok (.aload_n 0, 1) := by decide +kernel
theorem d_Md_init_69 : decode c_Md_init 69 = .ok (.bipush 20, 2) := by decide +kernel
theorem d_Md_init_71 : decode c_Md_init 71 = .ok (.newarray .int, 2) := by decide +kernel
theorem d_Md_init_73 : decode c_Md_init 73 = .ok (.putfield 35, 3) := by decide +kernel
theorem d_Md_init_76 : decode c_Md_init 76 = .ok (.aload_n 0, 1) := by decide +kernel
theorem d_Md_init_77 : decode c_Md_init 77 = .ok (.bipush 20, 2) := by decide +kernel
theorem d_Md_init_79 : decode c_Md_init 79 = .ok (.newarray .int, 2) := by decide +kernel
theorem d_Md_init_81 : decode c_Md_init 81 = .ok (.putfield 38, 3) := by decide +kernel
theorem d_Md_init_84 : decode c_Md_init 84 = .ok (.aload_n 0, 1) := by decide +kernel
theorem d_Md_init_85 : decode c_Md_init 85 = .ok (.bipush 20, 2) := by decide +kernel
theorem d_Md_init_87 : decode c_Md_init 87 = .ok (.newarray .int, 2) := by decide +kernel
theorem d_Md_init_89 : decode c_Md_init 89 = .ok (.putfield 41, 3) := by decide +kernel
theorem d_Md_init_92 : decode c_Md_init 92 = .ok (.aload_n 0, 1) := by decide +kernel
theorem d_Md_init_93 : decode c_Md_init 93 = .ok (.bipush 20, 2) := by decide +kernel
theorem d_Md_init_95 : decode c_Md_init 95 = .ok (.newarray .int, 2) := by decide +kernel
theorem d_Md_init_97 : decode c_Md_init 97 = .ok (.putfield 44, 3) := by decide +kernel
theorem d_Md_init_100 : decode c_Md_init 100 = .ok (.aload_n 0, 1) := by decide +kernel
theorem d_Md_init_101 : decode c_Md_init 101 = .ok (.bipush 20, 2) := by decide +kernel
theorem d_Md_init_103 : decode c_Md_init 103 = .ok (.newarray .int, 2) := by decide +kernel
theorem d_Md_init_105 : decode c_Md_init 105 = .ok (.putfield 47, 3) := by decide +kernel
theorem d_Md_init_108 : decode c_Md_init 108 = .ok (.aload_n 0, 1) := by decide +kernel
theorem d_Md_init_109 : decode c_Md_init 109 = .ok (.bipush 20, 2) := by decide +kernel
theorem d_Md_init_111 : decode c_Md_init 111 = .ok (.newarray .int, 2) := by decide +kernel
theorem d_Md_init_113 : decode c_Md_init 113 = .ok (.putfield 50, 3) := by decide +kernel
theorem d_Md_init_116 : decode c_Md_init 116 = .ok (.aload_n 0, 1) := by decide +kernel
theorem d_Md_init_117 : decode c_Md_init 117 = .ok (.bipush 20, 2) := by decide +kernel
theorem d_Md_init_119 : decode c_Md_init 119 = .ok (.newarray .int, 2) := by decide +kernel
theorem d_Md_init_121 : decode c_Md_init 121 = .ok (.putfield 53, 3) := by decide +kernel
theorem d_Md_init_124 : decode c_Md_init 124 = .ok (.aload_n 0, 1) := by decide +kernel
theorem d_Md_init_125 : decode c_Md_init 125 = .ok (.bipush 20, 2) := by decide +kernel
theorem d_Md_init_127 : decode c_Md_init 127 = .ok (.newarray .int, 2) := by decide +kernel
theorem d_Md_init_129 : decode c_Md_init 129 = .ok (.putfield 56, 3) := by decide +kernel
theorem d_Md_init_132 : decode c_Md_init 132 = .ok (.aload_n 0, 1) := by decide +kernel
theorem d_Md_init_133 : decode c_Md_init 133 = .ok (.bipush 20, 2) := by decide +kernel
theorem d_Md_init_135 : decode c_Md_init 135 = .ok (.newarray .int, 2) := by decide +kernel
theorem d_Md_init_137 : decode c_Md_init 137 = .ok (.putfield 59, 3) := by decide +kernel
theorem d_Md_init_140 : decode c_Md_init 140 = .ok (.aload_n 0, 1) := by decide +kernel
theorem d_Md_init_141 : decode c_Md_init 141 = .ok (.bipush 20, 2) := by decide +kernel
theorem d_Md_init_143 : decode c_Md_init 143 = .ok (.newarray .boolean, 2) := by decide +kernel
theorem d_Md_init_145 : decode c_Md_init 145 = .ok (.putfield 62, 3) := by decide +kernel
theorem d_Md_init_148 : decode c_Md_init 148 = .ok (.aload_n 0, 1) := by decide +kernel
theorem d_Md_init_149 : decode c_Md_init 149 = .ok (.bipush 20, 2) := by decide +kernel
theorem d_Md_init_151 : decode c_Md_init 151 = .ok (.newarray .boolean, 2) := by decide +kernel
theorem d_Md_init_153 : decode c_Md_init 153 = .ok (.putfield 65, 3) := by decide +kernel
theorem d_Md_init_156 : decode c_Md_init 156 = .ok (.aload_n 0, 1) := by decide +kernel
theorem d_Md_init_157 : decode c_Md_init 157 = .ok (.sipush 640, 3) := by decide +kernel
theorem d_Md_init_160 : decode c_Md_init 160 = .ok (.newarray .long, 2) := by decide +kernel
theorem d_Md_init_162 : decode c_Md_init 162 = .ok (.putfield 68, 3) := by decide +kernel
theorem d_Md_init_165 : decode c_Md_init 165 = .ok (.aload_n 0, 1) := by decide +kernel
theorem d_Md_init_166 : decode c_Md_init 166 = .ok (.sipush 640, 3) := by decide +kernel
theorem d_Md_init_169 : decode c_Md_init 169 = .ok (.newarray .int, 2) := by decide +kernel
theorem d_Md_init_171 : decode c_Md_init 171 = .ok (.putfield 72, 3) := by decide +kernel
theorem d_Md_init_174 : decode c_Md_init 174 = .ok (.aload_n 0, 1) := by decide +kernel
theorem d_Md_init_175 : decode c_Md_init 175 = .ok (.bipush 20, 2) := by decide +kernel
theorem d_Md_init_177 : decode c_Md_init 177 = .ok (.newarray .int, 2) := by decide +kernel
theorem d_Md_init_179 : decode c_Md_init 179 = .ok (.putfield 75, 3) := by decide +kernel
theorem d_Md_init_182 : decode c_Md_init 182 = .ok (.aload_n 0, 1) := by decide +kernel
theorem d_Md_init_183 : decode c_Md_init 183 = .ok (.sipush 1280, 3) := by decide +kernel
theorem d_Md_init_186 : decode c_Md_init 186 = .ok (.newarray .long, 2) := by decide +kernel
theorem d_Md_init_188 : decode c_Md_init 188 = .ok (.putfield 78, 3) := by decide +kernel
theorem d_Md_init_191 : decode c_Md_init 191 = .ok (.aload_n 0, 1) := by decide +kernel
theorem d_Md_init_192 : decode c_Md_init 192 = .ok (.bipush 20, 2) := by decide +kernel
theorem d_Md_init_194 : decode c_Md_init 194 = .ok (.newarray .int, 2) := by decide +kernel
theorem d_Md_init_196 : decode c_Md_init 196 = .ok (.putfield 81, 3) := by decide +kernel
theorem d_Md_init_199 : decode c_Md_init 199 = .ok (.aload_n 0, 1) := by decide +kernel
theorem d_Md_init_200 : decode c_Md_init 200 = .ok (.bipush 20, 2) := by decide +kernel
theorem d_Md_init_202 : decode c_Md_init 202 = .ok (.newarray .int, 2) := by decide +kernel
theorem d_Md_init_204 : decode c_Md_init 204 = .ok (.putfield 84, 3) := by decide +kernel
theorem d_Md_init_207 : decode c_Md_init 207 = .ok (.aload_n 0, 1) := by decide +kernel
theorem d_Md_init_208 : decode c_Md_init 208 = .ok (.bipush 20, 2) := by decide +kernel
theorem d_Md_init_210 : decode c_Md_init 210 = .ok (.newarray .int, 2) := by decide +kernel
theorem d_Md_init_212 : decode c_Md_init 212 = .ok (.putfield 87, 3) := by decide +kernel
theorem d_Md_init_215 : decode c_Md_init 215 = .ok (.aload_n 0, 1) := by decide +kernel
theorem d_Md_init_216 : decode c_Md_init 216 = .ok (.bipush 20, 2) := by decide +kernel
theorem d_Md_init_218 : decode c_Md_init 218 = .ok (.newarray .int, 2) := by decide +kernel
theorem d_Md_init_220 : decode c_Md_init 220 = .ok (.putfield 90, 3) := by decide +kernel
theorem d_Md_init_223 : decode c_Md_init 223 = .ok (.aload_n 0, 1) := by decide +kernel
theorem d_Md_init_224 : decode c_Md_init 224 = .ok (.bipush 20, 2) := by decide +kernel
theorem d_Md_init_226 : decode c_Md_init 226 = .ok (.newarray .int, 2) := by decide +kernel
theorem d_Md_init_228 : decode c_Md_init 228 = .ok (.putfield 93, 3) := by decide +kernel
theorem d_Md_init_231 : decode c_Md_init 231 = .ok (.aload_n 0, 1) := by decide +kernel
theorem d_Md_init_232 : decode c_Md_init 232 = .ok (.bipush 20, 2) := by decide +kernel
theorem d_Md_init_234 : decode c_Md_init 234 = .ok (.newarray .int, 2) := by decide +kernel
theorem d_Md_init_236 : decode c_Md_init 236 = .ok (.putfield 96, 3) := by decide +kernel
theorem d_Md_init_239 : decode c_Md_init 239 = .ok (.aload_n 0, 1) := by decide +kernel
theorem d_Md_init_240 : decode c_Md_init 240 = .ok (.bipush 20, 2) := by decide +kernel
theorem d_Md_init_242 : decode c_Md_init 242 = .ok (.newarray .long, 2) := by decide +kernel
theorem d_Md_init_244 : decode c_Md_init 244 = .ok (.putfield 99, 3) := by decide +kernel
theorem d_Md_init_247 : decode c_Md_init 247 = .ok (.aload_n 0, 1) := by decide +kernel
theorem d_Md_init_248 : decode c_Md_init 248 = .ok (.bipush 20, 2) := by decide +kernel
theorem d_Md_init_250 : decode c_Md_init 250 = .ok (.newarray .boolean, 2) := by decide +kernel
theorem d_Md_init_252 : decode c_Md_init 252 = .ok (.putfield 102, 3) := by decide +kernel
theorem d_Md_init_255 : decode c_Md_init 255 = .ok (.aload_n 0, 1) := by decide +kernel
theorem d_Md_init_256 : decode c_Md_init 256 = .ok (.bipush 20, 2) := by decide +kernel
theorem d_Md_init_258 : decode c_Md_init 258 = .ok (.newarray .int, 2) := by decide +kernel
theorem d_Md_init_260 : decode c_Md_init 260 = .ok (.putfield 105, 3) := by decide +kernel
theorem d_Md_init_263 : decode c_Md_init 263 = .ok (.aload_n 0, 1) := by decide +kernel
theorem d_Md_init_264 : decode c_Md_init 264 = .ok (.bipush 20, 2) := by decide +kernel
theorem d_Md_init_266 : decode c_Md_init 266 = .ok (.newarray .int, 2) := by decide +kernel
theorem d_Md_init_268 : decode c_Md_init 268 = .ok (.putfield 108, 3) := by decide +kernel
theorem d_Md_init_271 : decode c_Md_init 271 = .ok (.aload_n 0, 1) := by decide +kernel
theorem d_Md_init_272 : decode c_Md_init 272 = .ok (.bipush 20, 2) := by decide +kernel
theorem d_Md_init_274 : decode c_Md_init 274 = .ok (.newarray .int, 2) := by decide +kernel
theorem d_Md_init_276 : decode c_Md_init 276 = .ok (.putfield 111, 3) := by decide +kernel
theorem d_Md_init_279 : decode c_Md_init 279 = .ok (.aload_n 0, 1) := by decide +kernel
theorem d_Md_init_280 : decode c_Md_init 280 = .ok (.bipush 20, 2) := by decide +kernel
theorem d_Md_init_282 : decode c_Md_init 282 = .ok (.newarray .int, 2) := by decide +kernel
theorem d_Md_init_284 : decode c_Md_init 284 = .ok (.putfield 114, 3) := by decide +kernel
theorem d_Md_init_287 : decode c_Md_init 287 = .ok (.aload_n 0, 1) := by decide +kernel
theorem d_Md_init_288 : decode c_Md_init 288 = .ok (.sipush 144, 3) := by decide +kernel
theorem d_Md_init_291 : decode c_Md_init 291 = .ok (.newarray .int, 2) := by decide +kernel
theorem d_Md_init_293 : decode c_Md_init 293 = .ok (.putfield 117, 3) := by decide +kernel
theorem d_Md_init_296 : decode c_Md_init 296 = .ok (.aload_n 0, 1) := by decide +kernel
theorem d_Md_init_297 : decode c_Md_init 297 = .ok (.sipush 144, 3) := by decide +kernel
theorem d_Md_init_300 : decode c_Md_init 300 = .ok (.newarray .int, 2) := by decide +kernel
theorem d_Md_init_302 : decode c_Md_init 302 = .ok (.putfield 120, 3) := by decide +kernel
theorem d_Md_init_305 : decode c_Md_init 305 = .ok (.aload_n 0, 1) := by decide +kernel
theorem d_Md_init_306 : decode c_Md_init 306 = .ok (.sipush 144, 3) := by decide +kernel
theorem d_Md_init_309 : decode c_Md_init 309 = .ok (.newarray .int, 2) := by decide +kernel
theorem d_Md_init_311 : decode c_Md_init 311 = .ok (.putfield 123, 3) := by decide +kernel
theorem d_Md_init_314 : decode c_Md_init 314 = .ok (.aload_n 0, 1) := by decide +kernel
theorem d_Md_init_315 : decode c_Md_init 315 = .ok (.sipush 144, 3) := by decide +kernel
theorem d_Md_init_318 : decode c_Md_init 318 = .ok (.newarray .int, 2) := by decide +kernel
theorem d_Md_init_320 : decode c_Md_init 320 = .ok (.putfield 126, 3) := by decide +kernel
theorem d_Md_init_323 : decode c_Md_init 323 = .ok (.aload_n 0, 1) := by decide +kernel
theorem d_Md_init_324 : decode c_Md_init 324 = .ok (.sipush 144, 3) := by decide +kernel
theorem d_Md_init_327 : decode c_Md_init 327 = .ok (.newarray .int, 2) := by decide +kernel
theorem d_Md_init_329 : decode c_Md_init 329 = .ok (.putfield 129, 3) := by decide +kernel
theorem d_Md_init_332 : decode c_Md_init 332 = .ok (.aload_n 0, 1) := by decide +kernel
theorem d_Md_init_333 : decode c_Md_init 333 = .ok (.sipush 9216, 3) := by decide +kernel
theorem d_Md_init_336 : decode c_Md_init 336 = .ok (.newarray .long, 2) := by decide +kernel
theorem d_Md_init_338 : decode c_Md_init 338 = .ok (.putfield 132, 3) := by decide +kernel
theorem d_Md_init_341 : decode c_Md_init 341 = .ok (.aload_n 0, 1) := by decide +kernel
theorem d_Md_init_342 : decode c_Md_init 342 = .ok (.sipush 144, 3) := by decide +kernel
theorem d_Md_init_345 : decode c_Md_init 345 = .ok (.newarray .int, 2) := by decide +kernel
theorem d_Md_init_347 : decode c_Md_init 347 = .ok (.putfield 135, 3) := by decide +kernel
theorem d_Md_init_350 : decode c_Md_init 350 = .ok (.aload_n 0, 1) := by decide +kernel
theorem d_Md_init_351 : decode c_Md_init 351 = .ok (.sipush 216, 3) := by decide +kernel
theorem d_Md_init_354 : decode c_Md_init 354 = .ok (.newarray .boolean, 2) := by decide +kernel
theorem d_Md_init_356 : decode c_Md_init 356 = .ok (.putfield 138, 3) := by decide +kernel
theorem d_Md_init_359 : decode c_Md_init 359 = .ok (.aload_n 0, 1) := by decide +kernel
theorem d_Md_init_360 : decode c_Md_init 360 = .ok (.sipush 216, 3) := by decide +kernel
theorem d_Md_init_363 : decode c_Md_init 363 = .ok (.newarray .int, 2) := by decide +kernel
theorem d_Md_init_365 : decode c_Md_init 365 = .ok (.putfield 141, 3) := by decide +kernel
theorem d_Md_init_368 : decode c_Md_init 368 = .ok (.aload_n 0, 1) := by decide +kernel
theorem d_Md_init_369 : decode c_Md_init 369 = .ok (.bipush 36, 2) := by decide +kernel
theorem d_Md_init_371 : decode c_Md_init 371 = .ok (.newarray .int, 2) := by decide +kernel
theorem d_Md_init_373 : decode c_Md_init 373 = .ok (.putfield 144, 3) := by decide +kernel
theorem d_Md_init_376 : decode c_Md_init 376 = .ok (.aload_n 0, 1) := by decide +kernel
theorem d_Md_init_377 : decode c_Md_init 377 = .ok (.bipush 36, 2) := by decide +kernel
theorem d_Md_init_379 : decode c_Md_init 379 = .ok (.newarray .int, 2) := by decide +kernel
theorem d_Md_init_381 : decode c_Md_init 381 = .ok (.putfield 147, 3) := by decide +kernel
theorem d_Md_init_384 : decode c_Md_init 384 = .ok (.aload_n 0, 1) := by decide +kernel
theorem d_Md_init_385 : decode c_Md_init 385 = .ok (.sipush 144, 3) := by decide +kernel
theorem d_Md_init_388 : decode c_Md_init 388 = .ok (.newarray .int, 2) := by decide +kernel
theorem d_Md_init_390 : decode c_Md_init 390 = .ok (.putfield 150, 3) := by decide +kernel
theorem d_Md_init_393 : decode c_Md_init 393 = .ok (.aload_n 0, 1) := by decide +kernel
theorem d_Md_init_394 : decode c_Md_init 394 = .ok (.sipush 144, 3) := by decide +kernel
theorem d_Md_init_397 : decode c_Md_init 397 = .ok (.newarray .int, 2) := by decide +kernel
theorem d_Md_init_399 : decode c_Md_init 399 = .ok (.putfield 153, 3) := by decide +kernel
theorem d_Md_init_402 : decode c_Md_init 402 = .ok (.aload_n 0, 1) := by decide +kernel
theorem d_Md_init_403 : decode c_Md_init 403 = .ok (.sipush 144, 3) := by decide +kernel
theorem d_Md_init_406 : decode c_Md_init 406 = .ok (.newarray .int, 2) := by decide +kernel
theorem d_Md_init_408 : decode c_Md_init 408 = .ok (.putfield 156, 3) := by decide +kernel
theorem d_Md_init_411 : decode c_Md_init 411 = .ok (.aload_n 0, 1) := by decide +kernel
theorem d_Md_init_412 : decode c_Md_init 412 = .ok (.sipush 144, 3) := by decide +kernel
theorem d_Md_init_415 : decode c_Md_init 415 = .ok (.newarray .boolean, 2) := by decide +kernel
theorem d_Md_init_417 : decode c_Md_init 417 = .ok (.putfield 159, 3) := by decide +kernel
theorem d_Md_init_420 : decode c_Md_init 420 = .ok (.aload_n 0, 1) := by decide +kernel
theorem d_Md_init_421 : decode c_Md_init 421 = .ok (.sipush 144, 3) := by decide +kernel
theorem d_Md_init_424 : decode c_Md_init 424 = .ok (.newarray .boolean, 2) := by decide +kernel
theorem d_Md_init_426 : decode c_Md_init 426 = .ok (.putfield 162, 3) := by decide +kernel
theorem d_Md_init_429 : decode c_Md_init 429 = .ok (.aload_n 0, 1) := by decide +kernel
theorem d_Md_init_430 : decode c_Md_init 430 = .ok (.sipush 144, 3) := by decide +kernel
theorem d_Md_init_433 : decode c_Md_init 433 = .ok (.newarray .int, 2) := by decide +kernel
theorem d_Md_init_435 : decode c_Md_init 435 = .ok (.putfield 165, 3) := by decide +kernel
theorem d_Md_init_438 : decode c_Md_init 438 = .ok (.aload_n 0, 1) := by decide +kernel
theorem d_Md_init_439 : decode c_Md_init 439 = .ok (.sipush 144, 3) := by decide +kernel
theorem d_Md_init_442 : decode c_Md_init 442 = .ok (.newarray .int, 2) := by decide +kernel
theorem d_Md_init_444 : decode c_Md_init 444 = .ok (.putfield 168, 3) := by decide +kernel
theorem d_Md_init_447 : decode c_Md_init 447 = .ok (.aload_n 0, 1) := by decide +kernel
theorem d_Md_init_448 : decode c_Md_init 448 = .ok (.sipush 144, 3) := by decide +kernel
theorem d_Md_init_451 : decode c_Md_init 451 = .ok (.newarray .int, 2) := by decide +kernel
theorem d_Md_init_453 : decode c_Md_init 453 = .ok (.putfield 171, 3) := by decide +kernel
theorem d_Md_init_456 : decode c_Md_init 456 = .ok (.aload_n 0, 1) := by decide +kernel
theorem d_Md_init_457 : decode c_Md_init 457 = .ok (.sipush 144, 3) := by decide +kernel
theorem d_Md_init_460 : decode c_Md_init 460 = .ok (.newarray .int, 2) := by decide +kernel
theorem d_Md_init_462 : decode c_Md_init 462 = .ok (.putfield 174, 3) := by decide +kernel
theorem d_Md_init_465 : decode c_Md_init 465 = .ok (.aload_n 0, 1) := by decide +kernel
theorem d_Md_init_466 : decode c_Md_init 466 = .ok (.bipush 24, 2) := by decide +kernel
theorem d_Md_init_468 : decode c_Md_init 468 = .ok (.newarray .int, 2) := by decide +kernel
theorem d_Md_init_470 : decode c_Md_init 470 = .ok (.putfield 177, 3) := by decide +kernel
theorem d_Md_init_473 : decode c_Md_init 473 = .ok (.aload_n 0, 1) := by decide +kernel
theorem d_Md_init_474 : decode c_Md_init 474 = .ok (.bipush 24, 2) := by decide +kernel
theorem d_Md_init_476 : decode c_Md_init 476 = .ok (.newarray .int, 2) := by decide +kernel
theorem d_Md_init_478 : decode c_Md_init 478 = .ok (.putfield 180, 3) := by decide +kernel
theorem d_Md_init_481 : decode c_Md_init 481 = .ok (.aload_n 0, 1) := by decide +kernel
theorem d_Md_init_482 : decode c_Md_init 482 = .ok (.sipush 400, 3) := by decide +kernel
theorem d_Md_init_485 : decode c_Md_init 485 = .ok (.newarray .long, 2) := by decide +kernel
theorem d_Md_init_487 : decode c_Md_init 487 = .ok (.putfield 183, 3) := by decide +kernel
theorem d_Md_init_490 : decode c_Md_init 490 = .ok (.iconst 0, 1) := by decide +kernel
theorem d_Md_init_491 : decode c_Md_init 491 = .ok (.istore_n 1, 1) := by decide +kernel
theorem d_Md_init_492 : decode c_Md_init 492 = .ok (.iload_n 1, 1) := by decide +kernel
theorem d_Md_init_493 : decode c_Md_init 493 = .ok (.sipush 144, 3) := by decide +kernel
theorem d_Md_init_496 : decode c_Md_init 496 = .ok (.if_icmp .ge 37, 3) := by decide +kernel
theorem d_Md_init_499 : decode c_Md_init 499 = .ok (.aload_n 0, 1) := by decide +kernel
theorem d_Md_init_500 : decode c_Md_init 500 = .ok (.getfield 117, 3) := by decide +kernel
theorem d_Md_init_503 : decode c_Md_init 503 = .ok (.iload_n 1, 1) := by decide +kernel
theorem d_Md_init_504 : decode c_Md_init 504 = .ok (.iconst (-1), 1) := by decide +kernel
theorem d_Md_init_505 : decode c_Md_init 505 = .ok (.iastore, 1) := by decide +kernel
theorem d_Md_init_506 : decode c_Md_init 506 = .ok (.aload_n 0, 1) := by decide +kernel
theorem d_Md_init_507 : decode c_Md_init 507 = .ok (.getfield 123, 3) := by decide +kernel
theorem d_Md_init_510 : decode c_Md_init 510 = .ok (.iload_n 1, 1) := by decide +kernel
theorem d_Md_init_511 : decode c_Md_init 511 = .ok (.iconst (-1), 1) := by decide +kernel
theorem d_Md_init_512 : decode c_Md_init 512 = .ok (.iastore, 1) := by decide +kernel
theorem d_Md_init_513 : decode c_Md_init 513 = .ok (.aload_n 0, 1) := by decide +kernel
theorem d_Md_init_514 : decode c_Md_init 514 = .ok (.getfield 165, 3) := by decide +kernel
theorem d_Md_init_517 : decode c_Md_init 517 = .ok (.iload_n 1, 1) := by decide +kernel
theorem d_Md_init_518 : decode c_Md_init 518 = .ok (.iconst (-1), 1) := by decide +kernel
theorem d_Md_init_519 : decode c_Md_init 519 = .ok (.iastore, 1) := by decide +kernel
theorem d_Md_init_520 : decode c_Md_init 520 = .ok (.aload_n 0, 1) := by decide +kernel
theorem d_Md_init_521 : decode c_Md_init 521 = .ok (.getfield 168, 3) := by decide +kernel
theorem d_Md_init_524 : decode c_Md_init 524 = .ok (.iload_n 1, 1) := by decide +kernel
theorem d_Md_init_525 : decode c_Md_init 525 = .ok (.iconst (-1), 1) := by decide +kernel
theorem d_Md_init_526 : decode c_Md_init 526 = .ok (.iastore, 1) := by decide +kernel
theorem d_Md_init_527 : decode c_Md_init 527 = .ok (.iinc 1 1, 3) := by decide +kernel
theorem d_Md_init_530 : decode c_Md_init 530 = .ok (.goto (-38), 3) := by decide +kernel
theorem d_Md_init_533 : decode c_Md_init 533 = .ok (.iconst 0, 1) := by decide +kernel
theorem d_Md_init_534 : decode c_Md_init 534 = .ok (.istore_n 1, 1) := by decide +kernel
theorem d_Md_init_535 : decode c_Md_init 535 = .ok (.iload_n 1, 1) := by decide +kernel
theorem d_Md_init_536 : decode c_Md_init 536 = .ok (.bipush 36, 2) := by decide +kernel
theorem d_Md_init_538 : decode c_Md_init 538 = .ok (.if_icmp .ge 23, 3) := by decide +kernel
theorem d_Md_init_541 : decode c_Md_init 541 = .ok (.aload_n 0, 1) := by decide +kernel
theorem d_Md_init_542 : decode c_Md_init 542 = .ok (.getfield 144, 3) := by decide +kernel
theorem d_Md_init_545 : decode c_Md_init 545 = .ok (.iload_n 1, 1) := by decide +kernel
theorem d_Md_init_546 : decode c_Md_init 546 = .ok (.iconst (-1), 1) := by decide +kernel
theorem d_Md_init_547 : decode c_Md_init 547 = .ok (.iastore, 1) := by decide +kernel
theorem d_Md_init_548 : decode c_Md_init 548 = .ok (.aload_n 0, 1) := by decide +kernel
theorem d_Md_init_549 : decode c_Md_init 549 = .ok (.getfield 147, 3) := by decide +kernel
theorem d_Md_init_552 : decode c_Md_init 552 = .ok (.iload_n 1, 1) := by decide +kernel
theorem d_Md_init_553 : decode c_Md_init 553 = .ok (.iconst (-1), 1) := by decide +kernel
theorem d_Md_init_554 : decode c_Md_init 554 = .ok (.iastore, 1) := by decide +kernel
theorem d_Md_init_555 : decode c_Md_init 555 = .ok (.iinc 1 1, 3) := by decide +kernel
theorem d_Md_init_558 : decode c_Md_init 558 = .ok (.goto (-23), 3) := by decide +kernel
theorem d_Md_init_561 : decode c_Md_init 561 = .ok (.iconst 0, 1) := by decide +kernel
theorem d_Md_init_562 : decode c_Md_init 562 = .ok (.istore_n 1, 1) := by decide +kernel
theorem d_Md_init_563 : decode c_Md_init 563 = .ok (.iload_n 1, 1) := by decide +kernel
theorem d_Md_init_564 : decode c_Md_init 564 = .ok (.bipush 24, 2) := by decide +kernel
theorem d_Md_init_566 : decode c_Md_init 566 = .ok (.if_icmp .ge 16, 3) := by decide +kernel
theorem d_Md_init_569 : decode c_Md_init 569 = .ok (.aload_n 0, 1) := by decide +kernel
theorem d_Md_init_570 : decode c_Md_init 570 = .ok (.getfield 180, 3) := by decide +kernel
theorem d_Md_init_573 : decode c_Md_init 573 = .ok (.iload_n 1, 1) := by decide +kernel
theorem d_Md_init_574 : decode c_Md_init 574 = .ok (.iconst (-1), 1) := by decide +kernel
theorem d_Md_init_575 : decode c_Md_init 575 = .ok (.iastore, 1) := by decide +kernel
theorem d_Md_init_576 : decode c_Md_init 576 = .ok (.iinc 1 1, 3) := by decide +kernel
theorem d_Md_init_579 : decode c_Md_init 579 = .ok (.goto (-16), 3) := by decide +kernel
theorem d_Md_init_582 : decode c_Md_init 582 = .ok (.iconst 0, 1) := by decide +kernel
theorem d_Md_init_583 : decode c_Md_init 583 = .ok (.istore_n 1, 1) := by decide +kernel
theorem d_Md_init_584 : decode c_Md_init 584 = .ok (.iload_n 1, 1) := by decide +kernel
theorem d_Md_init_585 : decode c_Md_init 585 = .ok (.bipush 20, 2) := by decide +kernel
theorem d_Md_init_587 : decode c_Md_init 587 = .ok (.if_icmp .ge 14, 3) := by decide +kernel
theorem d_Md_init_590 : decode c_Md_init 590 = .ok (.aload_n 0, 1) := by decide +kernel
theorem d_Md_init_591 : decode c_Md_init 591 = .ok (.iload_n 1, 1) := by decide +kernel
theorem d_Md_init_592 : decode c_Md_init 592 = .ok (.invokevirtual 186, 3) := by decide +kernel
theorem d_Md_init_595 : decode c_Md_init 595 = .ok (.iinc 1 1, 3) := by decide +kernel
theorem d_Md_init_598 : decode c_Md_init 598 = .ok (.goto (-14), 3) := by decide +kernel
theorem d_Md_init_601 : decode c_Md_init 601 = .ok (.return_, 1) := by decide +kernel
def f_Md_init_584 (a : Nat) : Nat → Int32 → sn_M
  | 0, _ => r_0
  | n + 1, x1 => (if (20 : Int32) ≤ x1 then r_V else n_n 12 (some a) fun a1 => c_V (f_Md_fresh a1 x1) (f_Md_init_584 a n (x1 + (1 : Int32))))
set_option maxHeartbeats 4000000 in
set_option maxRecDepth 100000 in
theorem mono_Md_init_584 (a : Nat) : ∀ (n : Nat) (x1 : Int32), sn_Mono (f_Md_init_584 a n x1)
  | 0, _ => sn_Mono.r0
  | n + 1, x1 => sn_Mono.ite (sn_Mono.rV) (sn_Mono.nn (fun a1 => sn_Mono.cV (mono_Md_fresh a1 x1) (mono_Md_init_584 a n (x1 + (1 : Int32)))))
set_option maxHeartbeats 4000000 in
set_option maxRecDepth 100000 in
theorem s_Md_init_584 {X : sn_X} (C : sn_Cx X c_Md_init "SignalNetworkModel" none "<init>" 2 1 21) (a : Nat) (n : Nat) : ∀ (x1 : Int32), sn_S X 584 [(0, vA (some a)), (1, vI x1)] [] (f_Md_init_584 a n x1) := by
  induction n with
  | zero => intro x1; exact sn_S.zero
  | succ n ih =>
    intro x1
    unfold f_Md_init_584
    refine r_iload_n (q := 585) (i := 1) (pl := 1) C d_Md_init_584 rfl rfl rfl ?_
    refine r_bipush (q := 587) (v := 20) C d_Md_init_585 rfl (by decide) ?_
    refine r_icmp_ge (tgt := 601) (q := 590) C d_Md_init_587 (by decide) rfl ?_ ?_
    · exact r_vret C d_Md_init_601 rfl
    · refine r_aload_n (q := 591) (i := 0) (pl := 0) C d_Md_init_590 rfl rfl rfl ?_
      refine r_iload_n (q := 592) (i := 1) (pl := 1) C d_Md_init_591 rfl rfl rfl ?_
      refine r_cvV (q := 595) (As := [vI x1]) (st := []) (cy := 11) C d_Md_init_592 rfl Y_Md_fresh L_Md_186 I_Md_fresh Se_Md_fresh rfl (by decide) rfl (Nat.le_of_ble_eq_true rfl) (Nat.le_of_ble_eq_true rfl) (Nat.le_of_ble_eq_true rfl) rfl (fun a1 => con_Md_fresh a1 x1) ?_
      refine r_iinc (q := 598) (pl := 1) (v := x1 + (1 : Int32)) (lv' := [(1, vI (x1 + (1 : Int32))), (0, vA (some a))]) C d_Md_init_595 rfl rfl rfl (by decide) rfl ?_
      refine r_goto (tgt := 584) C d_Md_init_598 (by decide) ?_
      refine r_sub (lv' := [(0, vA (some a)), (1, vI (x1 + (1 : Int32)))]) [1, 0] rfl ?_
      exact ih (x1 + (1 : Int32))
def f_Md_init_563 (a : Nat) : Nat → Int32 → sn_M
  | 0, _ => r_0
  | n + 1, x1 => (if (24 : Int32) ≤ x1 then f_Md_init_584 a sn_fuel (0 : Int32) else g_R 12 62 (some a) fun v3 => b_I 31 v3 x1 (-1 : Int32) (f_Md_init_563 a n (x1 + (1 : Int32))))
set_option maxHeartbeats 4000000 in
set_option maxRecDepth 100000 in
theorem mono_Md_init_563 (a : Nat) : ∀ (n : Nat) (x1 : Int32), sn_Mono (f_Md_init_563 a n x1)
  | 0, _ => sn_Mono.r0
  | n + 1, x1 => sn_Mono.ite (mono_Md_init_584 a sn_fuel (0 : Int32)) (sn_Mono.gR (fun v3 => sn_Mono.bI (mono_Md_init_563 a n (x1 + (1 : Int32)))))
set_option maxHeartbeats 4000000 in
set_option maxRecDepth 100000 in
theorem s_Md_init_563 {X : sn_X} (C : sn_Cx X c_Md_init "SignalNetworkModel" none "<init>" 2 1 21) (a : Nat) (n : Nat) : ∀ (x1 : Int32), sn_S X 563 [(0, vA (some a)), (1, vI x1)] [] (f_Md_init_563 a n x1) := by
  induction n with
  | zero => intro x1; exact sn_S.zero
  | succ n ih =>
    intro x1
    unfold f_Md_init_563
    refine r_iload_n (q := 564) (i := 1) (pl := 1) C d_Md_init_563 rfl rfl rfl ?_
    refine r_bipush (q := 566) (v := 24) C d_Md_init_564 rfl (by decide) ?_
    refine r_icmp_ge (tgt := 582) (q := 569) C d_Md_init_566 (by decide) rfl ?_ ?_
    · refine r_iconst (q := 583) (v := 0) C d_Md_init_582 rfl (by decide) ?_
      refine r_istore_n (q := 584) (i := 1) (lv' := [(1, vI (0 : Int32)), (0, vA (some a))]) C d_Md_init_583 rfl rfl (by decide) rfl ?_
      refine r_sub (lv' := [(0, vA (some a)), (1, vI (0 : Int32))]) [1, 0] rfl ?_
      exact s_Md_init_584 C a sn_fuel (0 : Int32)
    · refine r_aload_n (q := 570) (i := 0) (pl := 0) C d_Md_init_569 rfl rfl rfl ?_
      refine r_gR (q := 573) C d_Md_init_570 rfl F_Md_180 rfl (fun v3 => ?_)
      refine r_iload_n (q := 574) (i := 1) (pl := 1) C d_Md_init_573 rfl rfl rfl ?_
      refine r_iconst (q := 575) (v := -1) C d_Md_init_574 rfl (by decide) ?_
      refine r_bI (q := 576) C (Or.inr rfl) d_Md_init_575 rfl ?_
      refine r_iinc (q := 579) (pl := 1) (v := x1 + (1 : Int32)) (lv' := [(1, vI (x1 + (1 : Int32))), (0, vA (some a))]) C d_Md_init_576 rfl rfl rfl (by decide) rfl ?_
      refine r_goto (tgt := 563) C d_Md_init_579 (by decide) ?_
      refine r_sub (lv' := [(0, vA (some a)), (1, vI (x1 + (1 : Int32)))]) [1, 0] rfl ?_
      exact ih (x1 + (1 : Int32))
def f_Md_init_535 (a : Nat) : Nat → Int32 → sn_M
  | 0, _ => r_0
  | n + 1, x1 => (if (36 : Int32) ≤ x1 then f_Md_init_563 a sn_fuel (0 : Int32) else g_R 12 50 (some a) fun v4 => b_I 31 v4 x1 (-1 : Int32) (g_R 12 51 (some a) fun v5 => b_I 31 v5 x1 (-1 : Int32) (f_Md_init_535 a n (x1 + (1 : Int32)))))
set_option maxHeartbeats 4000000 in
set_option maxRecDepth 100000 in
theorem mono_Md_init_535 (a : Nat) : ∀ (n : Nat) (x1 : Int32), sn_Mono (f_Md_init_535 a n x1)
  | 0, _ => sn_Mono.r0
  | n + 1, x1 => sn_Mono.ite (mono_Md_init_563 a sn_fuel (0 : Int32)) (sn_Mono.gR (fun v4 => sn_Mono.bI (sn_Mono.gR (fun v5 => sn_Mono.bI (mono_Md_init_535 a n (x1 + (1 : Int32)))))))
set_option maxHeartbeats 4000000 in
set_option maxRecDepth 100000 in
theorem s_Md_init_535 {X : sn_X} (C : sn_Cx X c_Md_init "SignalNetworkModel" none "<init>" 2 1 21) (a : Nat) (n : Nat) : ∀ (x1 : Int32), sn_S X 535 [(0, vA (some a)), (1, vI x1)] [] (f_Md_init_535 a n x1) := by
  induction n with
  | zero => intro x1; exact sn_S.zero
  | succ n ih =>
    intro x1
    unfold f_Md_init_535
    refine r_iload_n (q := 536) (i := 1) (pl := 1) C d_Md_init_535 rfl rfl rfl ?_
    refine r_bipush (q := 538) (v := 36) C d_Md_init_536 rfl (by decide) ?_
    refine r_icmp_ge (tgt := 561) (q := 541) C d_Md_init_538 (by decide) rfl ?_ ?_
    · refine r_iconst (q := 562) (v := 0) C d_Md_init_561 rfl (by decide) ?_
      refine r_istore_n (q := 563) (i := 1) (lv' := [(1, vI (0 : Int32)), (0, vA (some a))]) C d_Md_init_562 rfl rfl (by decide) rfl ?_
      refine r_sub (lv' := [(0, vA (some a)), (1, vI (0 : Int32))]) [1, 0] rfl ?_
      exact s_Md_init_563 C a sn_fuel (0 : Int32)
    · refine r_aload_n (q := 542) (i := 0) (pl := 0) C d_Md_init_541 rfl rfl rfl ?_
      refine r_gR (q := 545) C d_Md_init_542 rfl F_Md_144 rfl (fun v4 => ?_)
      refine r_iload_n (q := 546) (i := 1) (pl := 1) C d_Md_init_545 rfl rfl rfl ?_
      refine r_iconst (q := 547) (v := -1) C d_Md_init_546 rfl (by decide) ?_
      refine r_bI (q := 548) C (Or.inr rfl) d_Md_init_547 rfl ?_
      refine r_aload_n (q := 549) (i := 0) (pl := 0) C d_Md_init_548 rfl rfl rfl ?_
      refine r_gR (q := 552) C d_Md_init_549 rfl F_Md_147 rfl (fun v5 => ?_)
      refine r_iload_n (q := 553) (i := 1) (pl := 1) C d_Md_init_552 rfl rfl rfl ?_
      refine r_iconst (q := 554) (v := -1) C d_Md_init_553 rfl (by decide) ?_
      refine r_bI (q := 555) C (Or.inr rfl) d_Md_init_554 rfl ?_
      refine r_iinc (q := 558) (pl := 1) (v := x1 + (1 : Int32)) (lv' := [(1, vI (x1 + (1 : Int32))), (0, vA (some a))]) C d_Md_init_555 rfl rfl rfl (by decide) rfl ?_
      refine r_goto (tgt := 535) C d_Md_init_558 (by decide) ?_
      refine r_sub (lv' := [(0, vA (some a)), (1, vI (x1 + (1 : Int32)))]) [1, 0] rfl ?_
      exact ih (x1 + (1 : Int32))
def f_Md_init_492 (a : Nat) : Nat → Int32 → sn_M
  | 0, _ => r_0
  | n + 1, x1 => (if (144 : Int32) ≤ x1 then f_Md_init_535 a sn_fuel (0 : Int32) else g_R 12 41 (some a) fun v6 => b_I 31 v6 x1 (-1 : Int32) (g_R 12 43 (some a) fun v7 => b_I 31 v7 x1 (-1 : Int32) (g_R 12 57 (some a) fun v8 => b_I 31 v8 x1 (-1 : Int32) (g_R 12 58 (some a) fun v9 => b_I 31 v9 x1 (-1 : Int32) (f_Md_init_492 a n (x1 + (1 : Int32)))))))
set_option maxHeartbeats 4000000 in
set_option maxRecDepth 100000 in
theorem mono_Md_init_492 (a : Nat) : ∀ (n : Nat) (x1 : Int32), sn_Mono (f_Md_init_492 a n x1)
  | 0, _ => sn_Mono.r0
  | n + 1, x1 => sn_Mono.ite (mono_Md_init_535 a sn_fuel (0 : Int32)) (sn_Mono.gR (fun v6 => sn_Mono.bI (sn_Mono.gR (fun v7 => sn_Mono.bI (sn_Mono.gR (fun v8 => sn_Mono.bI (sn_Mono.gR (fun v9 => sn_Mono.bI (mono_Md_init_492 a n (x1 + (1 : Int32)))))))))))
set_option maxHeartbeats 4000000 in
set_option maxRecDepth 100000 in
theorem s_Md_init_492 {X : sn_X} (C : sn_Cx X c_Md_init "SignalNetworkModel" none "<init>" 2 1 21) (a : Nat) (n : Nat) : ∀ (x1 : Int32), sn_S X 492 [(0, vA (some a)), (1, vI x1)] [] (f_Md_init_492 a n x1) := by
  induction n with
  | zero => intro x1; exact sn_S.zero
  | succ n ih =>
    intro x1
    unfold f_Md_init_492
    refine r_iload_n (q := 493) (i := 1) (pl := 1) C d_Md_init_492 rfl rfl rfl ?_
    refine r_sipush (q := 496) (v := 144) C d_Md_init_493 rfl (by decide) ?_
    refine r_icmp_ge (tgt := 533) (q := 499) C d_Md_init_496 (by decide) rfl ?_ ?_
    · refine r_iconst (q := 534) (v := 0) C d_Md_init_533 rfl (by decide) ?_
      refine r_istore_n (q := 535) (i := 1) (lv' := [(1, vI (0 : Int32)), (0, vA (some a))]) C d_Md_init_534 rfl rfl (by decide) rfl ?_
      refine r_sub (lv' := [(0, vA (some a)), (1, vI (0 : Int32))]) [1, 0] rfl ?_
      exact s_Md_init_535 C a sn_fuel (0 : Int32)
    · refine r_aload_n (q := 500) (i := 0) (pl := 0) C d_Md_init_499 rfl rfl rfl ?_
      refine r_gR (q := 503) C d_Md_init_500 rfl F_Md_117 rfl (fun v6 => ?_)
      refine r_iload_n (q := 504) (i := 1) (pl := 1) C d_Md_init_503 rfl rfl rfl ?_
      refine r_iconst (q := 505) (v := -1) C d_Md_init_504 rfl (by decide) ?_
      refine r_bI (q := 506) C (Or.inr rfl) d_Md_init_505 rfl ?_
      refine r_aload_n (q := 507) (i := 0) (pl := 0) C d_Md_init_506 rfl rfl rfl ?_
      refine r_gR (q := 510) C d_Md_init_507 rfl F_Md_123 rfl (fun v7 => ?_)
      refine r_iload_n (q := 511) (i := 1) (pl := 1) C d_Md_init_510 rfl rfl rfl ?_
      refine r_iconst (q := 512) (v := -1) C d_Md_init_511 rfl (by decide) ?_
      refine r_bI (q := 513) C (Or.inr rfl) d_Md_init_512 rfl ?_
      refine r_aload_n (q := 514) (i := 0) (pl := 0) C d_Md_init_513 rfl rfl rfl ?_
      refine r_gR (q := 517) C d_Md_init_514 rfl F_Md_165 rfl (fun v8 => ?_)
      refine r_iload_n (q := 518) (i := 1) (pl := 1) C d_Md_init_517 rfl rfl rfl ?_
      refine r_iconst (q := 519) (v := -1) C d_Md_init_518 rfl (by decide) ?_
      refine r_bI (q := 520) C (Or.inr rfl) d_Md_init_519 rfl ?_
      refine r_aload_n (q := 521) (i := 0) (pl := 0) C d_Md_init_520 rfl rfl rfl ?_
      refine r_gR (q := 524) C d_Md_init_521 rfl F_Md_168 rfl (fun v9 => ?_)
      refine r_iload_n (q := 525) (i := 1) (pl := 1) C d_Md_init_524 rfl rfl rfl ?_
      refine r_iconst (q := 526) (v := -1) C d_Md_init_525 rfl (by decide) ?_
      refine r_bI (q := 527) C (Or.inr rfl) d_Md_init_526 rfl ?_
      refine r_iinc (q := 530) (pl := 1) (v := x1 + (1 : Int32)) (lv' := [(1, vI (x1 + (1 : Int32))), (0, vA (some a))]) C d_Md_init_527 rfl rfl rfl (by decide) rfl ?_
      refine r_goto (tgt := 492) C d_Md_init_530 (by decide) ?_
      refine r_sub (lv' := [(0, vA (some a)), (1, vI (x1 + (1 : Int32)))]) [1, 0] rfl ?_
      exact ih (x1 + (1 : Int32))
def f_Md_init (a : Nat) : sn_M := n_A 31 (10 : Int32) fun v10 => p_R 12 0 (some a) v10 (n_A 31 (10 : Int32) fun v11 => p_R 12 1 (some a) v11 (n_A 33 (10 : Int32) fun v12 => p_R 12 2 (some a) v12 (n_A 33 (10 : Int32) fun v13 => p_R 12 3 (some a) v13 (n_A 31 (20 : Int32) fun v14 => p_R 12 10 (some a) v14 (n_A 31 (20 : Int32) fun v15 => p_R 12 11 (some a) v15 (n_A 31 (20 : Int32) fun v16 => p_R 12 12 (some a) v16 (n_A 31 (20 : Int32) fun v17 => p_R 12 13 (some a) v17 (n_A 31 (20 : Int32) fun v18 => p_R 12 14 (some a) v18 (n_A 31 (20 : Int32) fun v19 => p_R 12 15 (some a) v19 (n_A 31 (20 : Int32) fun v20 => p_R 12 16 (some a) v20 (n_A 31 (20 : Int32) fun v21 => p_R 12 17 (some a) v21 (n_A 31 (20 : Int32) fun v22 => p_R 12 18 (some a) v22 (n_A 31 (20 : Int32) fun v23 => p_R 12 19 (some a) v23 (n_A 31 (20 : Int32) fun v24 => p_R 12 20 (some a) v24 (n_A 31 (20 : Int32) fun v25 => p_R 12 21 (some a) v25 (n_A 31 (20 : Int32) fun v26 => p_R 12 22 (some a) v26 (n_A 33 (20 : Int32) fun v27 => p_R 12 23 (some a) v27 (n_A 33 (20 : Int32) fun v28 => p_R 12 24 (some a) v28 (n_A 32 (640 : Int32) fun v29 => p_R 12 25 (some a) v29 (n_A 31 (640 : Int32) fun v30 => p_R 12 26 (some a) v30 (n_A 31 (20 : Int32) fun v31 => p_R 12 27 (some a) v31 (n_A 32 (1280 : Int32) fun v32 => p_R 12 28 (some a) v32 (n_A 31 (20 : Int32) fun v33 => p_R 12 29 (some a) v33 (n_A 31 (20 : Int32) fun v34 => p_R 12 30 (some a) v34 (n_A 31 (20 : Int32) fun v35 => p_R 12 31 (some a) v35 (n_A 31 (20 : Int32) fun v36 => p_R 12 32 (some a) v36 (n_A 31 (20 : Int32) fun v37 => p_R 12 33 (some a) v37 (n_A 31 (20 : Int32) fun v38 => p_R 12 34 (some a) v38 (n_A 32 (20 : Int32) fun v39 => p_R 12 35 (some a) v39 (n_A 33 (20 : Int32) fun v40 => p_R 12 36 (some a) v40 (n_A 31 (20 : Int32) fun v41 => p_R 12 37 (some a) v41 (n_A 31 (20 : Int32) fun v42 => p_R 12 38 (some a) v42 (n_A 31 (20 : Int32) fun v43 => p_R 12 39 (some a) v43 (n_A 31 (20 : Int32) fun v44 => p_R 12 40 (some a) v44 (n_A 31 (144 : Int32) fun v45 => p_R 12 41 (some a) v45 (n_A 31 (144 : Int32) fun v46 => p_R 12 42 (some a) v46 (n_A 31 (144 : Int32) fun v47 => p_R 12 43 (some a) v47 (n_A 31 (144 : Int32) fun v48 => p_R 12 44 (some a) v48 (n_A 31 (144 : Int32) fun v49 => p_R 12 45 (some a) v49 (n_A 32 (9216 : Int32) fun v50 => p_R 12 46 (some a) v50 (n_A 31 (144 : Int32) fun v51 => p_R 12 47 (some a) v51 (n_A 33 (216 : Int32) fun v52 => p_R 12 48 (some a) v52 (n_A 31 (216 : Int32) fun v53 => p_R 12 49 (some a) v53 (n_A 31 (36 : Int32) fun v54 => p_R 12 50 (some a) v54 (n_A 31 (36 : Int32) fun v55 => p_R 12 51 (some a) v55 (n_A 31 (144 : Int32) fun v56 => p_R 12 52 (some a) v56 (n_A 31 (144 : Int32) fun v57 => p_R 12 53 (some a) v57 (n_A 31 (144 : Int32) fun v58 => p_R 12 54 (some a) v58 (n_A 33 (144 : Int32) fun v59 => p_R 12 55 (some a) v59 (n_A 33 (144 : Int32) fun v60 => p_R 12 56 (some a) v60 (n_A 31 (144 : Int32) fun v61 => p_R 12 57 (some a) v61 (n_A 31 (144 : Int32) fun v62 => p_R 12 58 (some a) v62 (n_A 31 (144 : Int32) fun v63 => p_R 12 59 (some a) v63 (n_A 31 (144 : Int32) fun v64 => p_R 12 60 (some a) v64 (n_A 31 (24 : Int32) fun v65 => p_R 12 61 (some a) v65 (n_A 31 (24 : Int32) fun v66 => p_R 12 62 (some a) v66 (n_A 32 (400 : Int32) fun v67 => p_R 12 63 (some a) v67 (f_Md_init_492 a sn_fuel (0 : Int32)))))))))))))))))))))))))))))))))))))))))))))))))))))))))))
set_option maxHeartbeats 4000000 in
set_option maxRecDepth 100000 in
theorem mono_Md_init (a : Nat) : sn_Mono (f_Md_init a) := sn_Mono.nA (fun v10 => sn_Mono.pR (sn_Mono.nA (fun v11 => sn_Mono.pR (sn_Mono.nA (fun v12 => sn_Mono.pR (sn_Mono.nA (fun v13 => sn_Mono.pR (sn_Mono.nA (fun v14 => sn_Mono.pR (sn_Mono.nA (fun v15 => sn_Mono.pR (sn_Mono.nA (fun v16 => sn_Mono.pR (sn_Mono.nA (fun v17 => sn_Mono.pR (sn_Mono.nA (fun v18 => sn_Mono.pR (sn_Mono.nA (fun v19 => sn_Mono.pR (sn_Mono.nA (fun v20 => sn_Mono.pR (sn_Mono.nA (fun v21 => sn_Mono.pR (sn_Mono.nA (fun v22 => sn_Mono.pR (sn_Mono.nA (fun v23 => sn_Mono.pR (sn_Mono.nA (fun v24 => sn_Mono.pR (sn_Mono.nA (fun v25 => sn_Mono.pR (sn_Mono.nA (fun v26 => sn_Mono.pR (sn_Mono.nA (fun v27 => sn_Mono.pR (sn_Mono.nA (fun v28 => sn_Mono.pR (sn_Mono.nA (fun v29 => sn_Mono.pR (sn_Mono.nA (fun v30 => sn_Mono.pR (sn_Mono.nA (fun v31 => sn_Mono.pR (sn_Mono.nA (fun v32 => sn_Mono.pR (sn_Mono.nA (fun v33 => sn_Mono.pR (sn_Mono.nA (fun v34 => sn_Mono.pR (sn_Mono.nA (fun v35 => sn_Mono.pR (sn_Mono.nA (fun v36 => sn_Mono.pR (sn_Mono.nA (fun v37 => sn_Mono.pR (sn_Mono.nA (fun v38 => sn_Mono.pR (sn_Mono.nA (fun v39 => sn_Mono.pR (sn_Mono.nA (fun v40 => sn_Mono.pR (sn_Mono.nA (fun v41 => sn_Mono.pR (sn_Mono.nA (fun v42 => sn_Mono.pR (sn_Mono.nA (fun v43 => sn_Mono.pR (sn_Mono.nA (fun v44 => sn_Mono.pR (sn_Mono.nA (fun v45 => sn_Mono.pR (sn_Mono.nA (fun v46 => sn_Mono.pR (sn_Mono.nA (fun v47 => sn_Mono.pR (sn_Mono.nA (fun v48 => sn_Mono.pR (sn_Mono.nA (fun v49 => sn_Mono.pR (sn_Mono.nA (fun v50 => sn_Mono.pR (sn_Mono.nA (fun v51 => sn_Mono.pR (sn_Mono.nA (fun v52 => sn_Mono.pR (sn_Mono.nA (fun v53 => sn_Mono.pR (sn_Mono.nA (fun v54 => sn_Mono.pR (sn_Mono.nA (fun v55 => sn_Mono.pR (sn_Mono.nA (fun v56 => sn_Mono.pR (sn_Mono.nA (fun v57 => sn_Mono.pR (sn_Mono.nA (fun v58 => sn_Mono.pR (sn_Mono.nA (fun v59 => sn_Mono.pR (sn_Mono.nA (fun v60 => sn_Mono.pR (sn_Mono.nA (fun v61 => sn_Mono.pR (sn_Mono.nA (fun v62 => sn_Mono.pR (sn_Mono.nA (fun v63 => sn_Mono.pR (sn_Mono.nA (fun v64 => sn_Mono.pR (sn_Mono.nA (fun v65 => sn_Mono.pR (sn_Mono.nA (fun v66 => sn_Mono.pR (sn_Mono.nA (fun v67 => sn_Mono.pR (mono_Md_init_492 a sn_fuel (0 : Int32)))))))))))))))))))))))))))))))))))))))))))))))))))))))))))))))))))))))))))))))))))))))))))))))))))))))))))))))))))))
set_option maxHeartbeats 4000000 in
set_option maxRecDepth 100000 in
theorem con_Md_init (a : Nat) : sn_Con y_Md_init c_Md_init 2 none 1 21 [vA (some a)] (f_Md_init a) := by
  refine sn_Con.of (by decide +kernel) (by show _ ≤ _; exact Nat.le_of_ble_eq_true rfl) (mono_Md_init a) (fun X C => ?_)
  show sn_S X 0 [(0, vA (some a))] [] _
  replace C : sn_Cx X c_Md_init "SignalNetworkModel" none "<init>" 2 1 21 := C
  unfold f_Md_init
  refine r_aload_n (q := 1) (i := 0) (pl := 0) C d_Md_init_0 rfl rfl rfl ?_
  refine r_objInit (q := 4) C d_Md_init_1 rfl LO_Md_1 W_oi W_oc (by decide) (by decide) a rfl ?_
  refine r_aload_n (q := 5) (i := 0) (pl := 0) C d_Md_init_4 rfl rfl rfl ?_
  refine r_bipush (q := 7) (v := 10) C d_Md_init_5 rfl (by decide) ?_
  refine r_newa (q := 9) (aty := .int) (kd := 31) (tyi := 6) (ty := .int) C (by decide) rfl (fun _ => rfl) (Or.inl ⟨rfl, (Or.inr rfl)⟩) AC_21 d_Md_init_7 rfl (fun v10 => ?_)
  refine r_pR (q := 12) C d_Md_init_9 rfl F_Md_7 rfl (Or.inr ⟨_, rfl⟩) (Or.inr ⟨rfl, _, _, rfl⟩) ?_
  refine r_aload_n (q := 13) (i := 0) (pl := 0) C d_Md_init_12 rfl rfl rfl ?_
  refine r_bipush (q := 15) (v := 10) C d_Md_init_13 rfl (by decide) ?_
  refine r_newa (q := 17) (aty := .int) (kd := 31) (tyi := 6) (ty := .int) C (by decide) rfl (fun _ => rfl) (Or.inl ⟨rfl, (Or.inr rfl)⟩) AC_21 d_Md_init_15 rfl (fun v11 => ?_)
  refine r_pR (q := 20) C d_Md_init_17 rfl F_Md_13 rfl (Or.inr ⟨_, rfl⟩) (Or.inr ⟨rfl, _, _, rfl⟩) ?_
  refine r_aload_n (q := 21) (i := 0) (pl := 0) C d_Md_init_20 rfl rfl rfl ?_
  refine r_bipush (q := 23) (v := 10) C d_Md_init_21 rfl (by decide) ?_
  refine r_newa (q := 25) (aty := .boolean) (kd := 33) (tyi := 8) (ty := .boolean) C (by decide) rfl (fun _ => rfl) (Or.inr (Or.inr ⟨rfl, (Or.inr rfl)⟩)) AC_23 d_Md_init_23 rfl (fun v12 => ?_)
  refine r_pR (q := 28) C d_Md_init_25 rfl F_Md_16 rfl (Or.inr ⟨_, rfl⟩) (Or.inr ⟨rfl, _, _, rfl⟩) ?_
  refine r_aload_n (q := 29) (i := 0) (pl := 0) C d_Md_init_28 rfl rfl rfl ?_
  refine r_bipush (q := 31) (v := 10) C d_Md_init_29 rfl (by decide) ?_
  refine r_newa (q := 33) (aty := .boolean) (kd := 33) (tyi := 8) (ty := .boolean) C (by decide) rfl (fun _ => rfl) (Or.inr (Or.inr ⟨rfl, (Or.inr rfl)⟩)) AC_23 d_Md_init_31 rfl (fun v13 => ?_)
  refine r_pR (q := 36) C d_Md_init_33 rfl F_Md_20 rfl (Or.inr ⟨_, rfl⟩) (Or.inr ⟨rfl, _, _, rfl⟩) ?_
  refine r_aload_n (q := 37) (i := 0) (pl := 0) C d_Md_init_36 rfl rfl rfl ?_
  refine r_bipush (q := 39) (v := 20) C d_Md_init_37 rfl (by decide) ?_
  refine r_newa (q := 41) (aty := .int) (kd := 31) (tyi := 6) (ty := .int) C (by decide) rfl (fun _ => rfl) (Or.inl ⟨rfl, (Or.inr rfl)⟩) AC_21 d_Md_init_39 rfl (fun v14 => ?_)
  refine r_pR (q := 44) C d_Md_init_41 rfl F_Md_23 rfl (Or.inr ⟨_, rfl⟩) (Or.inr ⟨rfl, _, _, rfl⟩) ?_
  refine r_aload_n (q := 45) (i := 0) (pl := 0) C d_Md_init_44 rfl rfl rfl ?_
  refine r_bipush (q := 47) (v := 20) C d_Md_init_45 rfl (by decide) ?_
  refine r_newa (q := 49) (aty := .int) (kd := 31) (tyi := 6) (ty := .int) C (by decide) rfl (fun _ => rfl) (Or.inl ⟨rfl, (Or.inr rfl)⟩) AC_21 d_Md_init_47 rfl (fun v15 => ?_)
  refine r_pR (q := 52) C d_Md_init_49 rfl F_Md_26 rfl (Or.inr ⟨_, rfl⟩) (Or.inr ⟨rfl, _, _, rfl⟩) ?_
  refine r_aload_n (q := 53) (i := 0) (pl := 0) C d_Md_init_52 rfl rfl rfl ?_
  refine r_bipush (q := 55) (v := 20) C d_Md_init_53 rfl (by decide) ?_
  refine r_newa (q := 57) (aty := .int) (kd := 31) (tyi := 6) (ty := .int) C (by decide) rfl (fun _ => rfl) (Or.inl ⟨rfl, (Or.inr rfl)⟩) AC_21 d_Md_init_55 rfl (fun v16 => ?_)
  refine r_pR (q := 60) C d_Md_init_57 rfl F_Md_29 rfl (Or.inr ⟨_, rfl⟩) (Or.inr ⟨rfl, _, _, rfl⟩) ?_
  refine r_aload_n (q := 61) (i := 0) (pl := 0) C d_Md_init_60 rfl rfl rfl ?_
  refine r_bipush (q := 63) (v := 20) C d_Md_init_61 rfl (by decide) ?_
  refine r_newa (q := 65) (aty := .int) (kd := 31) (tyi := 6) (ty := .int) C (by decide) rfl (fun _ => rfl) (Or.inl ⟨rfl, (Or.inr rfl)⟩) AC_21 d_Md_init_63 rfl (fun v17 => ?_)
  refine r_pR (q := 68) C d_Md_init_65 rfl F_Md_32 rfl (Or.inr ⟨_, rfl⟩) (Or.inr ⟨rfl, _, _, rfl⟩) ?_
  refine r_aload_n (q := 69) (i := 0) (pl := 0) C d_Md_init_68 rfl rfl rfl ?_
  refine r_bipush (q := 71) (v := 20) C d_Md_init_69 rfl (by decide) ?_
  refine r_newa (q := 73) (aty := .int) (kd := 31) (tyi := 6) (ty := .int) C (by decide) rfl (fun _ => rfl) (Or.inl ⟨rfl, (Or.inr rfl)⟩) AC_21 d_Md_init_71 rfl (fun v18 => ?_)
  refine r_pR (q := 76) C d_Md_init_73 rfl F_Md_35 rfl (Or.inr ⟨_, rfl⟩) (Or.inr ⟨rfl, _, _, rfl⟩) ?_
  refine r_aload_n (q := 77) (i := 0) (pl := 0) C d_Md_init_76 rfl rfl rfl ?_
  refine r_bipush (q := 79) (v := 20) C d_Md_init_77 rfl (by decide) ?_
  refine r_newa (q := 81) (aty := .int) (kd := 31) (tyi := 6) (ty := .int) C (by decide) rfl (fun _ => rfl) (Or.inl ⟨rfl, (Or.inr rfl)⟩) AC_21 d_Md_init_79 rfl (fun v19 => ?_)
  refine r_pR (q := 84) C d_Md_init_81 rfl F_Md_38 rfl (Or.inr ⟨_, rfl⟩) (Or.inr ⟨rfl, _, _, rfl⟩) ?_
  refine r_aload_n (q := 85) (i := 0) (pl := 0) C d_Md_init_84 rfl rfl rfl ?_
  refine r_bipush (q := 87) (v := 20) C d_Md_init_85 rfl (by decide) ?_
  refine r_newa (q := 89) (aty := .int) (kd := 31) (tyi := 6) (ty := .int) C (by decide) rfl (fun _ => rfl) (Or.inl ⟨rfl, (Or.inr rfl)⟩) AC_21 d_Md_init_87 rfl (fun v20 => ?_)
  refine r_pR (q := 92) C d_Md_init_89 rfl F_Md_41 rfl (Or.inr ⟨_, rfl⟩) (Or.inr ⟨rfl, _, _, rfl⟩) ?_
  refine r_aload_n (q := 93) (i := 0) (pl := 0) C d_Md_init_92 rfl rfl rfl ?_
  refine r_bipush (q := 95) (v := 20) C d_Md_init_93 rfl (by decide) ?_
  refine r_newa (q := 97) (aty := .int) (kd := 31) (tyi := 6) (ty := .int) C (by decide) rfl (fun _ => rfl) (Or.inl ⟨rfl, (Or.inr rfl)⟩) AC_21 d_Md_init_95 rfl (fun v21 => ?_)
  refine r_pR (q := 100) C d_Md_init_97 rfl F_Md_44 rfl (Or.inr ⟨_, rfl⟩) (Or.inr ⟨rfl, _, _, rfl⟩) ?_
  refine r_aload_n (q := 101) (i := 0) (pl := 0) C d_Md_init_100 rfl rfl rfl ?_
  refine r_bipush (q := 103) (v := 20) C d_Md_init_101 rfl (by decide) ?_
  refine r_newa (q := 105) (aty := .int) (kd := 31) (tyi := 6) (ty := .int) C (by decide) rfl (fun _ => rfl) (Or.inl ⟨rfl, (Or.inr rfl)⟩) AC_21 d_Md_init_103 rfl (fun v22 => ?_)
  refine r_pR (q := 108) C d_Md_init_105 rfl F_Md_47 rfl (Or.inr ⟨_, rfl⟩) (Or.inr ⟨rfl, _, _, rfl⟩) ?_
  refine r_aload_n (q := 109) (i := 0) (pl := 0) C d_Md_init_108 rfl rfl rfl ?_
  refine r_bipush (q := 111) (v := 20) C d_Md_init_109 rfl (by decide) ?_
  refine r_newa (q := 113) (aty := .int) (kd := 31) (tyi := 6) (ty := .int) C (by decide) rfl (fun _ => rfl) (Or.inl ⟨rfl, (Or.inr rfl)⟩) AC_21 d_Md_init_111 rfl (fun v23 => ?_)
  refine r_pR (q := 116) C d_Md_init_113 rfl F_Md_50 rfl (Or.inr ⟨_, rfl⟩) (Or.inr ⟨rfl, _, _, rfl⟩) ?_
  refine r_aload_n (q := 117) (i := 0) (pl := 0) C d_Md_init_116 rfl rfl rfl ?_
  refine r_bipush (q := 119) (v := 20) C d_Md_init_117 rfl (by decide) ?_
  refine r_newa (q := 121) (aty := .int) (kd := 31) (tyi := 6) (ty := .int) C (by decide) rfl (fun _ => rfl) (Or.inl ⟨rfl, (Or.inr rfl)⟩) AC_21 d_Md_init_119 rfl (fun v24 => ?_)
  refine r_pR (q := 124) C d_Md_init_121 rfl F_Md_53 rfl (Or.inr ⟨_, rfl⟩) (Or.inr ⟨rfl, _, _, rfl⟩) ?_
  refine r_aload_n (q := 125) (i := 0) (pl := 0) C d_Md_init_124 rfl rfl rfl ?_
  refine r_bipush (q := 127) (v := 20) C d_Md_init_125 rfl (by decide) ?_
  refine r_newa (q := 129) (aty := .int) (kd := 31) (tyi := 6) (ty := .int) C (by decide) rfl (fun _ => rfl) (Or.inl ⟨rfl, (Or.inr rfl)⟩) AC_21 d_Md_init_127 rfl (fun v25 => ?_)
  refine r_pR (q := 132) C d_Md_init_129 rfl F_Md_56 rfl (Or.inr ⟨_, rfl⟩) (Or.inr ⟨rfl, _, _, rfl⟩) ?_
  refine r_aload_n (q := 133) (i := 0) (pl := 0) C d_Md_init_132 rfl rfl rfl ?_
  refine r_bipush (q := 135) (v := 20) C d_Md_init_133 rfl (by decide) ?_
  refine r_newa (q := 137) (aty := .int) (kd := 31) (tyi := 6) (ty := .int) C (by decide) rfl (fun _ => rfl) (Or.inl ⟨rfl, (Or.inr rfl)⟩) AC_21 d_Md_init_135 rfl (fun v26 => ?_)
  refine r_pR (q := 140) C d_Md_init_137 rfl F_Md_59 rfl (Or.inr ⟨_, rfl⟩) (Or.inr ⟨rfl, _, _, rfl⟩) ?_
  refine r_aload_n (q := 141) (i := 0) (pl := 0) C d_Md_init_140 rfl rfl rfl ?_
  refine r_bipush (q := 143) (v := 20) C d_Md_init_141 rfl (by decide) ?_
  refine r_newa (q := 145) (aty := .boolean) (kd := 33) (tyi := 8) (ty := .boolean) C (by decide) rfl (fun _ => rfl) (Or.inr (Or.inr ⟨rfl, (Or.inr rfl)⟩)) AC_23 d_Md_init_143 rfl (fun v27 => ?_)
  refine r_pR (q := 148) C d_Md_init_145 rfl F_Md_62 rfl (Or.inr ⟨_, rfl⟩) (Or.inr ⟨rfl, _, _, rfl⟩) ?_
  refine r_aload_n (q := 149) (i := 0) (pl := 0) C d_Md_init_148 rfl rfl rfl ?_
  refine r_bipush (q := 151) (v := 20) C d_Md_init_149 rfl (by decide) ?_
  refine r_newa (q := 153) (aty := .boolean) (kd := 33) (tyi := 8) (ty := .boolean) C (by decide) rfl (fun _ => rfl) (Or.inr (Or.inr ⟨rfl, (Or.inr rfl)⟩)) AC_23 d_Md_init_151 rfl (fun v28 => ?_)
  refine r_pR (q := 156) C d_Md_init_153 rfl F_Md_65 rfl (Or.inr ⟨_, rfl⟩) (Or.inr ⟨rfl, _, _, rfl⟩) ?_
  refine r_aload_n (q := 157) (i := 0) (pl := 0) C d_Md_init_156 rfl rfl rfl ?_
  refine r_sipush (q := 160) (v := 640) C d_Md_init_157 rfl (by decide) ?_
  refine r_newa (q := 162) (aty := .long) (kd := 32) (tyi := 7) (ty := .long) C (by decide) rfl (fun _ => rfl) (Or.inr (Or.inl ⟨rfl, (Or.inr rfl)⟩)) AC_22 d_Md_init_160 rfl (fun v29 => ?_)
  refine r_pR (q := 165) C d_Md_init_162 rfl F_Md_68 rfl (Or.inr ⟨_, rfl⟩) (Or.inr ⟨rfl, _, _, rfl⟩) ?_
  refine r_aload_n (q := 166) (i := 0) (pl := 0) C d_Md_init_165 rfl rfl rfl ?_
  refine r_sipush (q := 169) (v := 640) C d_Md_init_166 rfl (by decide) ?_
  refine r_newa (q := 171) (aty := .int) (kd := 31) (tyi := 6) (ty := .int) C (by decide) rfl (fun _ => rfl) (Or.inl ⟨rfl, (Or.inr rfl)⟩) AC_21 d_Md_init_169 rfl (fun v30 => ?_)
  refine r_pR (q := 174) C d_Md_init_171 rfl F_Md_72 rfl (Or.inr ⟨_, rfl⟩) (Or.inr ⟨rfl, _, _, rfl⟩) ?_
  refine r_aload_n (q := 175) (i := 0) (pl := 0) C d_Md_init_174 rfl rfl rfl ?_
  refine r_bipush (q := 177) (v := 20) C d_Md_init_175 rfl (by decide) ?_
  refine r_newa (q := 179) (aty := .int) (kd := 31) (tyi := 6) (ty := .int) C (by decide) rfl (fun _ => rfl) (Or.inl ⟨rfl, (Or.inr rfl)⟩) AC_21 d_Md_init_177 rfl (fun v31 => ?_)
  refine r_pR (q := 182) C d_Md_init_179 rfl F_Md_75 rfl (Or.inr ⟨_, rfl⟩) (Or.inr ⟨rfl, _, _, rfl⟩) ?_
  refine r_aload_n (q := 183) (i := 0) (pl := 0) C d_Md_init_182 rfl rfl rfl ?_
  refine r_sipush (q := 186) (v := 1280) C d_Md_init_183 rfl (by decide) ?_
  refine r_newa (q := 188) (aty := .long) (kd := 32) (tyi := 7) (ty := .long) C (by decide) rfl (fun _ => rfl) (Or.inr (Or.inl ⟨rfl, (Or.inr rfl)⟩)) AC_22 d_Md_init_186 rfl (fun v32 => ?_)
  refine r_pR (q := 191) C d_Md_init_188 rfl F_Md_78 rfl (Or.inr ⟨_, rfl⟩) (Or.inr ⟨rfl, _, _, rfl⟩) ?_
  refine r_aload_n (q := 192) (i := 0) (pl := 0) C d_Md_init_191 rfl rfl rfl ?_
  refine r_bipush (q := 194) (v := 20) C d_Md_init_192 rfl (by decide) ?_
  refine r_newa (q := 196) (aty := .int) (kd := 31) (tyi := 6) (ty := .int) C (by decide) rfl (fun _ => rfl) (Or.inl ⟨rfl, (Or.inr rfl)⟩) AC_21 d_Md_init_194 rfl (fun v33 => ?_)
  refine r_pR (q := 199) C d_Md_init_196 rfl F_Md_81 rfl (Or.inr ⟨_, rfl⟩) (Or.inr ⟨rfl, _, _, rfl⟩) ?_
  refine r_aload_n (q := 200) (i := 0) (pl := 0) C d_Md_init_199 rfl rfl rfl ?_
  refine r_bipush (q := 202) (v := 20) C d_Md_init_200 rfl (by decide) ?_
  refine r_newa (q := 204) (aty := .int) (kd := 31) (tyi := 6) (ty := .int) C (by decide) rfl (fun _ => rfl) (Or.inl ⟨rfl, (Or.inr rfl)⟩) AC_21 d_Md_init_202 rfl (fun v34 => ?_)
  refine r_pR (q := 207) C d_Md_init_204 rfl F_Md_84 rfl (Or.inr ⟨_, rfl⟩) (Or.inr ⟨rfl, _, _, rfl⟩) ?_
  refine r_aload_n (q := 208) (i := 0) (pl := 0) C d_Md_init_207 rfl rfl rfl ?_
  refine r_bipush (q := 210) (v := 20) C d_Md_init_208 rfl (by decide) ?_
  refine r_newa (q := 212) (aty := .int) (kd := 31) (tyi := 6) (ty := .int) C (by decide) rfl (fun _ => rfl) (Or.inl ⟨rfl, (Or.inr rfl)⟩) AC_21 d_Md_init_210 rfl (fun v35 => ?_)
  refine r_pR (q := 215) C d_Md_init_212 rfl F_Md_87 rfl (Or.inr ⟨_, rfl⟩) (Or.inr ⟨rfl, _, _, rfl⟩) ?_
  refine r_aload_n (q := 216) (i := 0) (pl := 0) C d_Md_init_215 rfl rfl rfl ?_
  refine r_bipush (q := 218) (v := 20) C d_Md_init_216 rfl (by decide) ?_
  refine r_newa (q := 220) (aty := .int) (kd := 31) (tyi := 6) (ty := .int) C (by decide) rfl (fun _ => rfl) (Or.inl ⟨rfl, (Or.inr rfl)⟩) AC_21 d_Md_init_218 rfl (fun v36 => ?_)
  refine r_pR (q := 223) C d_Md_init_220 rfl F_Md_90 rfl (Or.inr ⟨_, rfl⟩) (Or.inr ⟨rfl, _, _, rfl⟩) ?_
  refine r_aload_n (q := 224) (i := 0) (pl := 0) C d_Md_init_223 rfl rfl rfl ?_
  refine r_bipush (q := 226) (v := 20) C d_Md_init_224 rfl (by decide) ?_
  refine r_newa (q := 228) (aty := .int) (kd := 31) (tyi := 6) (ty := .int) C (by decide) rfl (fun _ => rfl) (Or.inl ⟨rfl, (Or.inr rfl)⟩) AC_21 d_Md_init_226 rfl (fun v37 => ?_)
  refine r_pR (q := 231) C d_Md_init_228 rfl F_Md_93 rfl (Or.inr ⟨_, rfl⟩) (Or.inr ⟨rfl, _, _, rfl⟩) ?_
  refine r_aload_n (q := 232) (i := 0) (pl := 0) C d_Md_init_231 rfl rfl rfl ?_
  refine r_bipush (q := 234) (v := 20) C d_Md_init_232 rfl (by decide) ?_
  refine r_newa (q := 236) (aty := .int) (kd := 31) (tyi := 6) (ty := .int) C (by decide) rfl (fun _ => rfl) (Or.inl ⟨rfl, (Or.inr rfl)⟩) AC_21 d_Md_init_234 rfl (fun v38 => ?_)
  refine r_pR (q := 239) C d_Md_init_236 rfl F_Md_96 rfl (Or.inr ⟨_, rfl⟩) (Or.inr ⟨rfl, _, _, rfl⟩) ?_
  refine r_aload_n (q := 240) (i := 0) (pl := 0) C d_Md_init_239 rfl rfl rfl ?_
  refine r_bipush (q := 242) (v := 20) C d_Md_init_240 rfl (by decide) ?_
  refine r_newa (q := 244) (aty := .long) (kd := 32) (tyi := 7) (ty := .long) C (by decide) rfl (fun _ => rfl) (Or.inr (Or.inl ⟨rfl, (Or.inr rfl)⟩)) AC_22 d_Md_init_242 rfl (fun v39 => ?_)
  refine r_pR (q := 247) C d_Md_init_244 rfl F_Md_99 rfl (Or.inr ⟨_, rfl⟩) (Or.inr ⟨rfl, _, _, rfl⟩) ?_
  refine r_aload_n (q := 248) (i := 0) (pl := 0) C d_Md_init_247 rfl rfl rfl ?_
  refine r_bipush (q := 250) (v := 20) C d_Md_init_248 rfl (by decide) ?_
  refine r_newa (q := 252) (aty := .boolean) (kd := 33) (tyi := 8) (ty := .boolean) C (by decide) rfl (fun _ => rfl) (Or.inr (Or.inr ⟨rfl, (Or.inr rfl)⟩)) AC_23 d_Md_init_250 rfl (fun v40 => ?_)
  refine r_pR (q := 255) C d_Md_init_252 rfl F_Md_102 rfl (Or.inr ⟨_, rfl⟩) (Or.inr ⟨rfl, _, _, rfl⟩) ?_
  refine r_aload_n (q := 256) (i := 0) (pl := 0) C d_Md_init_255 rfl rfl rfl ?_
  refine r_bipush (q := 258) (v := 20) C d_Md_init_256 rfl (by decide) ?_
  refine r_newa (q := 260) (aty := .int) (kd := 31) (tyi := 6) (ty := .int) C (by decide) rfl (fun _ => rfl) (Or.inl ⟨rfl, (Or.inr rfl)⟩) AC_21 d_Md_init_258 rfl (fun v41 => ?_)
  refine r_pR (q := 263) C d_Md_init_260 rfl F_Md_105 rfl (Or.inr ⟨_, rfl⟩) (Or.inr ⟨rfl, _, _, rfl⟩) ?_
  refine r_aload_n (q := 264) (i := 0) (pl := 0) C d_Md_init_263 rfl rfl rfl ?_
  refine r_bipush (q := 266) (v := 20) C d_Md_init_264 rfl (by decide) ?_
  refine r_newa (q := 268) (aty := .int) (kd := 31) (tyi := 6) (ty := .int) C (by decide) rfl (fun _ => rfl) (Or.inl ⟨rfl, (Or.inr rfl)⟩) AC_21 d_Md_init_266 rfl (fun v42 => ?_)
  refine r_pR (q := 271) C d_Md_init_268 rfl F_Md_108 rfl (Or.inr ⟨_, rfl⟩) (Or.inr ⟨rfl, _, _, rfl⟩) ?_
  refine r_aload_n (q := 272) (i := 0) (pl := 0) C d_Md_init_271 rfl rfl rfl ?_
  refine r_bipush (q := 274) (v := 20) C d_Md_init_272 rfl (by decide) ?_
  refine r_newa (q := 276) (aty := .int) (kd := 31) (tyi := 6) (ty := .int) C (by decide) rfl (fun _ => rfl) (Or.inl ⟨rfl, (Or.inr rfl)⟩) AC_21 d_Md_init_274 rfl (fun v43 => ?_)
  refine r_pR (q := 279) C d_Md_init_276 rfl F_Md_111 rfl (Or.inr ⟨_, rfl⟩) (Or.inr ⟨rfl, _, _, rfl⟩) ?_
  refine r_aload_n (q := 280) (i := 0) (pl := 0) C d_Md_init_279 rfl rfl rfl ?_
  refine r_bipush (q := 282) (v := 20) C d_Md_init_280 rfl (by decide) ?_
  refine r_newa (q := 284) (aty := .int) (kd := 31) (tyi := 6) (ty := .int) C (by decide) rfl (fun _ => rfl) (Or.inl ⟨rfl, (Or.inr rfl)⟩) AC_21 d_Md_init_282 rfl (fun v44 => ?_)
  refine r_pR (q := 287) C d_Md_init_284 rfl F_Md_114 rfl (Or.inr ⟨_, rfl⟩) (Or.inr ⟨rfl, _, _, rfl⟩) ?_
  refine r_aload_n (q := 288) (i := 0) (pl := 0) C d_Md_init_287 rfl rfl rfl ?_
  refine r_sipush (q := 291) (v := 144) C d_Md_init_288 rfl (by decide) ?_
  refine r_newa (q := 293) (aty := .int) (kd := 31) (tyi := 6) (ty := .int) C (by decide) rfl (fun _ => rfl) (Or.inl ⟨rfl, (Or.inr rfl)⟩) AC_21 d_Md_init_291 rfl (fun v45 => ?_)
  refine r_pR (q := 296) C d_Md_init_293 rfl F_Md_117 rfl (Or.inr ⟨_, rfl⟩) (Or.inr ⟨rfl, _, _, rfl⟩) ?_
  refine r_aload_n (q := 297) (i := 0) (pl := 0) C d_Md_init_296 rfl rfl rfl ?_
  refine r_sipush (q := 300) (v := 144) C d_Md_init_297 rfl (by decide) ?_
  refine r_newa (q := 302) (aty := .int) (kd := 31) (tyi := 6) (ty := .int) C (by decide) rfl (fun _ => rfl) (Or.inl ⟨rfl, (Or.inr rfl)⟩) AC_21 d_Md_init_300 rfl (fun v46 => ?_)
  refine r_pR (q := 305) C d_Md_init_302 rfl F_Md_120 rfl (Or.inr ⟨_, rfl⟩) (Or.inr ⟨rfl, _, _, rfl⟩) ?_
  refine r_aload_n (q := 306) (i := 0) (pl := 0) C d_Md_init_305 rfl rfl rfl ?_
  refine r_sipush (q := 309) (v := 144) C d_Md_init_306 rfl (by decide) ?_
  refine r_newa (q := 311) (aty := .int) (kd := 31) (tyi := 6) (ty := .int) C (by decide) rfl (fun _ => rfl) (Or.inl ⟨rfl, (Or.inr rfl)⟩) AC_21 d_Md_init_309 rfl (fun v47 => ?_)
  refine r_pR (q := 314) C d_Md_init_311 rfl F_Md_123 rfl (Or.inr ⟨_, rfl⟩) (Or.inr ⟨rfl, _, _, rfl⟩) ?_
  refine r_aload_n (q := 315) (i := 0) (pl := 0) C d_Md_init_314 rfl rfl rfl ?_
  refine r_sipush (q := 318) (v := 144) C d_Md_init_315 rfl (by decide) ?_
  refine r_newa (q := 320) (aty := .int) (kd := 31) (tyi := 6) (ty := .int) C (by decide) rfl (fun _ => rfl) (Or.inl ⟨rfl, (Or.inr rfl)⟩) AC_21 d_Md_init_318 rfl (fun v48 => ?_)
  refine r_pR (q := 323) C d_Md_init_320 rfl F_Md_126 rfl (Or.inr ⟨_, rfl⟩) (Or.inr ⟨rfl, _, _, rfl⟩) ?_
  refine r_aload_n (q := 324) (i := 0) (pl := 0) C d_Md_init_323 rfl rfl rfl ?_
  refine r_sipush (q := 327) (v := 144) C d_Md_init_324 rfl (by decide) ?_
  refine r_newa (q := 329) (aty := .int) (kd := 31) (tyi := 6) (ty := .int) C (by decide) rfl (fun _ => rfl) (Or.inl ⟨rfl, (Or.inr rfl)⟩) AC_21 d_Md_init_327 rfl (fun v49 => ?_)
  refine r_pR (q := 332) C d_Md_init_329 rfl F_Md_129 rfl (Or.inr ⟨_, rfl⟩) (Or.inr ⟨rfl, _, _, rfl⟩) ?_
  refine r_aload_n (q := 333) (i := 0) (pl := 0) C d_Md_init_332 rfl rfl rfl ?_
  refine r_sipush (q := 336) (v := 9216) C d_Md_init_333 rfl (by decide) ?_
  refine r_newa (q := 338) (aty := .long) (kd := 32) (tyi := 7) (ty := .long) C (by decide) rfl (fun _ => rfl) (Or.inr (Or.inl ⟨rfl, (Or.inr rfl)⟩)) AC_22 d_Md_init_336 rfl (fun v50 => ?_)
  refine r_pR (q := 341) C d_Md_init_338 rfl F_Md_132 rfl (Or.inr ⟨_, rfl⟩) (Or.inr ⟨rfl, _, _, rfl⟩) ?_
  refine r_aload_n (q := 342) (i := 0) (pl := 0) C d_Md_init_341 rfl rfl rfl ?_
  refine r_sipush (q := 345) (v := 144) C d_Md_init_342 rfl (by decide) ?_
  refine r_newa (q := 347) (aty := .int) (kd := 31) (tyi := 6) (ty := .int) C (by decide) rfl (fun _ => rfl) (Or.inl ⟨rfl, (Or.inr rfl)⟩) AC_21 d_Md_init_345 rfl (fun v51 => ?_)
  refine r_pR (q := 350) C d_Md_init_347 rfl F_Md_135 rfl (Or.inr ⟨_, rfl⟩) (Or.inr ⟨rfl, _, _, rfl⟩) ?_
  refine r_aload_n (q := 351) (i := 0) (pl := 0) C d_Md_init_350 rfl rfl rfl ?_
  refine r_sipush (q := 354) (v := 216) C d_Md_init_351 rfl (by decide) ?_
  refine r_newa (q := 356) (aty := .boolean) (kd := 33) (tyi := 8) (ty := .boolean) C (by decide) rfl (fun _ => rfl) (Or.inr (Or.inr ⟨rfl, (Or.inr rfl)⟩)) AC_23 d_Md_init_354 rfl (fun v52 => ?_)
  refine r_pR (q := 359) C d_Md_init_356 rfl F_Md_138 rfl (Or.inr ⟨_, rfl⟩) (Or.inr ⟨rfl, _, _, rfl⟩) ?_
  refine r_aload_n (q := 360) (i := 0) (pl := 0) C d_Md_init_359 rfl rfl rfl ?_
  refine r_sipush (q := 363) (v := 216) C d_Md_init_360 rfl (by decide) ?_
  refine r_newa (q := 365) (aty := .int) (kd := 31) (tyi := 6) (ty := .int) C (by decide) rfl (fun _ => rfl) (Or.inl ⟨rfl, (Or.inr rfl)⟩) AC_21 d_Md_init_363 rfl (fun v53 => ?_)
  refine r_pR (q := 368) C d_Md_init_365 rfl F_Md_141 rfl (Or.inr ⟨_, rfl⟩) (Or.inr ⟨rfl, _, _, rfl⟩) ?_
  refine r_aload_n (q := 369) (i := 0) (pl := 0) C d_Md_init_368 rfl rfl rfl ?_
  refine r_bipush (q := 371) (v := 36) C d_Md_init_369 rfl (by decide) ?_
  refine r_newa (q := 373) (aty := .int) (kd := 31) (tyi := 6) (ty := .int) C (by decide) rfl (fun _ => rfl) (Or.inl ⟨rfl, (Or.inr rfl)⟩) AC_21 d_Md_init_371 rfl (fun v54 => ?_)
  refine r_pR (q := 376) C d_Md_init_373 rfl F_Md_144 rfl (Or.inr ⟨_, rfl⟩) (Or.inr ⟨rfl, _, _, rfl⟩) ?_
  refine r_aload_n (q := 377) (i := 0) (pl := 0) C d_Md_init_376 rfl rfl rfl ?_
  refine r_bipush (q := 379) (v := 36) C d_Md_init_377 rfl (by decide) ?_
  refine r_newa (q := 381) (aty := .int) (kd := 31) (tyi := 6) (ty := .int) C (by decide) rfl (fun _ => rfl) (Or.inl ⟨rfl, (Or.inr rfl)⟩) AC_21 d_Md_init_379 rfl (fun v55 => ?_)
  refine r_pR (q := 384) C d_Md_init_381 rfl F_Md_147 rfl (Or.inr ⟨_, rfl⟩) (Or.inr ⟨rfl, _, _, rfl⟩) ?_
  refine r_aload_n (q := 385) (i := 0) (pl := 0) C d_Md_init_384 rfl rfl rfl ?_
  refine r_sipush (q := 388) (v := 144) C d_Md_init_385 rfl (by decide) ?_
  refine r_newa (q := 390) (aty := .int) (kd := 31) (tyi := 6) (ty := .int) C (by decide) rfl (fun _ => rfl) (Or.inl ⟨rfl, (Or.inr rfl)⟩) AC_21 d_Md_init_388 rfl (fun v56 => ?_)
  refine r_pR (q := 393) C d_Md_init_390 rfl F_Md_150 rfl (Or.inr ⟨_, rfl⟩) (Or.inr ⟨rfl, _, _, rfl⟩) ?_
  refine r_aload_n (q := 394) (i := 0) (pl := 0) C d_Md_init_393 rfl rfl rfl ?_
  refine r_sipush (q := 397) (v := 144) C d_Md_init_394 rfl (by decide) ?_
  refine r_newa (q := 399) (aty := .int) (kd := 31) (tyi := 6) (ty := .int) C (by decide) rfl (fun _ => rfl) (Or.inl ⟨rfl, (Or.inr rfl)⟩) AC_21 d_Md_init_397 rfl (fun v57 => ?_)
  refine r_pR (q := 402) C d_Md_init_399 rfl F_Md_153 rfl (Or.inr ⟨_, rfl⟩) (Or.inr ⟨rfl, _, _, rfl⟩) ?_
  refine r_aload_n (q := 403) (i := 0) (pl := 0) C d_Md_init_402 rfl rfl rfl ?_
  refine r_sipush (q := 406) (v := 144) C d_Md_init_403 rfl (by decide) ?_
  refine r_newa (q := 408) (aty := .int) (kd := 31) (tyi := 6) (ty := .int) C (by decide) rfl (fun _ => rfl) (Or.inl ⟨rfl, (Or.inr rfl)⟩) AC_21 d_Md_init_406 rfl (fun v58 => ?_)
  refine r_pR (q := 411) C d_Md_init_408 rfl F_Md_156 rfl (Or.inr ⟨_, rfl⟩) (Or.inr ⟨rfl, _, _, rfl⟩) ?_
  refine r_aload_n (q := 412) (i := 0) (pl := 0) C d_Md_init_411 rfl rfl rfl ?_
  refine r_sipush (q := 415) (v := 144) C d_Md_init_412 rfl (by decide) ?_
  refine r_newa (q := 417) (aty := .boolean) (kd := 33) (tyi := 8) (ty := .boolean) C (by decide) rfl (fun _ => rfl) (Or.inr (Or.inr ⟨rfl, (Or.inr rfl)⟩)) AC_23 d_Md_init_415 rfl (fun v59 => ?_)
  refine r_pR (q := 420) C d_Md_init_417 rfl F_Md_159 rfl (Or.inr ⟨_, rfl⟩) (Or.inr ⟨rfl, _, _, rfl⟩) ?_
  refine r_aload_n (q := 421) (i := 0) (pl := 0) C d_Md_init_420 rfl rfl rfl ?_
  refine r_sipush (q := 424) (v := 144) C d_Md_init_421 rfl (by decide) ?_
  refine r_newa (q := 426) (aty := .boolean) (kd := 33) (tyi := 8) (ty := .boolean) C (by decide) rfl (fun _ => rfl) (Or.inr (Or.inr ⟨rfl, (Or.inr rfl)⟩)) AC_23 d_Md_init_424 rfl (fun v60 => ?_)
  refine r_pR (q := 429) C d_Md_init_426 rfl F_Md_162 rfl (Or.inr ⟨_, rfl⟩) (Or.inr ⟨rfl, _, _, rfl⟩) ?_
  refine r_aload_n (q := 430) (i := 0) (pl := 0) C d_Md_init_429 rfl rfl rfl ?_
  refine r_sipush (q := 433) (v := 144) C d_Md_init_430 rfl (by decide) ?_
  refine r_newa (q := 435) (aty := .int) (kd := 31) (tyi := 6) (ty := .int) C (by decide) rfl (fun _ => rfl) (Or.inl ⟨rfl, (Or.inr rfl)⟩) AC_21 d_Md_init_433 rfl (fun v61 => ?_)
  refine r_pR (q := 438) C d_Md_init_435 rfl F_Md_165 rfl (Or.inr ⟨_, rfl⟩) (Or.inr ⟨rfl, _, _, rfl⟩) ?_
  refine r_aload_n (q := 439) (i := 0) (pl := 0) C d_Md_init_438 rfl rfl rfl ?_
  refine r_sipush (q := 442) (v := 144) C d_Md_init_439 rfl (by decide) ?_
  refine r_newa (q := 444) (aty := .int) (kd := 31) (tyi := 6) (ty := .int) C (by decide) rfl (fun _ => rfl) (Or.inl ⟨rfl, (Or.inr rfl)⟩) AC_21 d_Md_init_442 rfl (fun v62 => ?_)
  refine r_pR (q := 447) C d_Md_init_444 rfl F_Md_168 rfl (Or.inr ⟨_, rfl⟩) (Or.inr ⟨rfl, _, _, rfl⟩) ?_
  refine r_aload_n (q := 448) (i := 0) (pl := 0) C d_Md_init_447 rfl rfl rfl ?_
  refine r_sipush (q := 451) (v := 144) C d_Md_init_448 rfl (by decide) ?_
  refine r_newa (q := 453) (aty := .int) (kd := 31) (tyi := 6) (ty := .int) C (by decide) rfl (fun _ => rfl) (Or.inl ⟨rfl, (Or.inr rfl)⟩) AC_21 d_Md_init_451 rfl (fun v63 => ?_)
  refine r_pR (q := 456) C d_Md_init_453 rfl F_Md_171 rfl (Or.inr ⟨_, rfl⟩) (Or.inr ⟨rfl, _, _, rfl⟩) ?_
  refine r_aload_n (q := 457) (i := 0) (pl := 0) C d_Md_init_456 rfl rfl rfl ?_
  refine r_sipush (q := 460) (v := 144) C d_Md_init_457 rfl (by decide) ?_
  refine r_newa (q := 462) (aty := .int) (kd := 31) (tyi := 6) (ty := .int) C (by decide) rfl (fun _ => rfl) (Or.inl ⟨rfl, (Or.inr rfl)⟩) AC_21 d_Md_init_460 rfl (fun v64 => ?_)
  refine r_pR (q := 465) C d_Md_init_462 rfl F_Md_174 rfl (Or.inr ⟨_, rfl⟩) (Or.inr ⟨rfl, _, _, rfl⟩) ?_
  refine r_aload_n (q := 466) (i := 0) (pl := 0) C d_Md_init_465 rfl rfl rfl ?_
  refine r_bipush (q := 468) (v := 24) C d_Md_init_466 rfl (by decide) ?_
  refine r_newa (q := 470) (aty := .int) (kd := 31) (tyi := 6) (ty := .int) C (by decide) rfl (fun _ => rfl) (Or.inl ⟨rfl, (Or.inr rfl)⟩) AC_21 d_Md_init_468 rfl (fun v65 => ?_)
  refine r_pR (q := 473) C d_Md_init_470 rfl F_Md_177 rfl (Or.inr ⟨_, rfl⟩) (Or.inr ⟨rfl, _, _, rfl⟩) ?_
  refine r_aload_n (q := 474) (i := 0) (pl := 0) C d_Md_init_473 rfl rfl rfl ?_
  refine r_bipush (q := 476) (v := 24) C d_Md_init_474 rfl (by decide) ?_
  refine r_newa (q := 478) (aty := .int) (kd := 31) (tyi := 6) (ty := .int) C (by decide) rfl (fun _ => rfl) (Or.inl ⟨rfl, (Or.inr rfl)⟩) AC_21 d_Md_init_476 rfl (fun v66 => ?_)
  refine r_pR (q := 481) C d_Md_init_478 rfl F_Md_180 rfl (Or.inr ⟨_, rfl⟩) (Or.inr ⟨rfl, _, _, rfl⟩) ?_
  refine r_aload_n (q := 482) (i := 0) (pl := 0) C d_Md_init_481 rfl rfl rfl ?_
  refine r_sipush (q := 485) (v := 400) C d_Md_init_482 rfl (by decide) ?_
  refine r_newa (q := 487) (aty := .long) (kd := 32) (tyi := 7) (ty := .long) C (by decide) rfl (fun _ => rfl) (Or.inr (Or.inl ⟨rfl, (Or.inr rfl)⟩)) AC_22 d_Md_init_485 rfl (fun v67 => ?_)
  refine r_pR (q := 490) C d_Md_init_487 rfl F_Md_183 rfl (Or.inr ⟨_, rfl⟩) (Or.inr ⟨rfl, _, _, rfl⟩) ?_
  refine r_iconst (q := 491) (v := 0) C d_Md_init_490 rfl (by decide) ?_
  refine r_istore_n (q := 492) (i := 1) (lv' := [(1, vI (0 : Int32)), (0, vA (some a))]) C d_Md_init_491 rfl rfl (by decide) rfl ?_
  refine r_sub (lv' := [(0, vA (some a)), (1, vI (0 : Int32))]) [1, 0] rfl ?_
  exact s_Md_init_492 C a sn_fuel (0 : Int32)
theorem d_Md_message_0 : decode c_Md_message 0 = .ok (.iload_n 0, 1) := by decide +kernel
theorem d_Md_message_1 : decode c_Md_message 1 = .ok (.i2l, 1) := by decide +kernel
theorem d_Md_message_2 : decode c_Md_message 2 = .ok (.iload_n 1, 1) := by decide +kernel
theorem d_Md_message_3 : decode c_Md_message 3 = .ok (.i2l, 1) := by decide +kernel
theorem d_Md_message_4 : decode c_Md_message 4 = .ok (.iconst 4, 1) := by decide +kernel
theorem d_Md_message_5 : decode c_Md_message 5 = .ok (.lshl, 1) := by decide +kernel
theorem d_Md_message_6 : decode c_Md_message 6 = .ok (.lor, 1) := by decide +kernel
theorem d_Md_message_7 : decode c_Md_message 7 = .ok (.iload_n 2, 1) := by decide +kernel
theorem d_Md_message_8 : decode c_Md_message 8 = .ok (.i2l, 1) := by decide +kernel
theorem d_Md_message_9 : decode c_Md_message 9 = .ok (.bipush 8, 2) := by decide +kernel
theorem d_Md_message_11 : decode c_Md_message 11 = .ok (.lshl, 1) := by decide +kernel
theorem d_Md_message_12 : decode c_Md_message 12 = .ok (.lor, 1) := by decide +kernel
theorem d_Md_message_13 : decode c_Md_message 13 = .ok (.iload_n 3, 1) := by decide +kernel
theorem d_Md_message_14 : decode c_Md_message 14 = .ok (.i2l, 1) := by decide +kernel
theorem d_Md_message_15 : decode c_Md_message 15 = .ok (.bipush 12, 2) := by decide +kernel
theorem d_Md_message_17 : decode c_Md_message 17 = .ok (.lshl, 1) := by decide +kernel
theorem d_Md_message_18 : decode c_Md_message 18 = .ok (.lor, 1) := by decide +kernel
theorem d_Md_message_19 : decode c_Md_message 19 = .ok (.iload 4, 2) := by decide +kernel
theorem d_Md_message_21 : decode c_Md_message 21 = .ok (.i2l, 1) := by decide +kernel
theorem d_Md_message_22 : decode c_Md_message 22 = .ok (.bipush 16, 2) := by decide +kernel
theorem d_Md_message_24 : decode c_Md_message 24 = .ok (.lshl, 1) := by decide +kernel
theorem d_Md_message_25 : decode c_Md_message 25 = .ok (.lor, 1) := by decide +kernel
theorem d_Md_message_26 : decode c_Md_message 26 = .ok (.iload 5, 2) := by decide +kernel
theorem d_Md_message_28 : decode c_Md_message 28 = .ok (.i2l, 1) := by decide +kernel
theorem d_Md_message_29 : decode c_Md_message 29 = .ok (.bipush 24, 2) := by decide +kernel
theorem d_Md_message_31 : decode c_Md_message 31 = .ok (.lshl, 1) := by decide +kernel
theorem d_Md_message_32 : decode c_Md_message 32 = .ok (.lor, 1) := by decide +kernel
theorem d_Md_message_33 : decode c_Md_message 33 = .ok (.lreturn, 1) := by decide +kernel
def f_Md_message (x0 : Int32) (x1 : Int32) (x2 : Int32) (x3 : Int32) (x4 : Int32) (x5 : Int32) : sn_M := r_J ((((((Int32.toInt64 x0) ||| ((Int32.toInt64 x1) <<< (Int32.toInt64 (4 : Int32) &&& 63))) ||| ((Int32.toInt64 x2) <<< (Int32.toInt64 (8 : Int32) &&& 63))) ||| ((Int32.toInt64 x3) <<< (Int32.toInt64 (12 : Int32) &&& 63))) ||| ((Int32.toInt64 x4) <<< (Int32.toInt64 (16 : Int32) &&& 63))) ||| ((Int32.toInt64 x5) <<< (Int32.toInt64 (24 : Int32) &&& 63)))
set_option maxHeartbeats 4000000 in
set_option maxRecDepth 100000 in
theorem mono_Md_message (x0 : Int32) (x1 : Int32) (x2 : Int32) (x3 : Int32) (x4 : Int32) (x5 : Int32) : sn_Mono (f_Md_message x0 x1 x2 x3 x4 x5) := sn_Mono.rJ
set_option maxHeartbeats 4000000 in
set_option maxRecDepth 100000 in
theorem con_Md_message (x0 : Int32) (x1 : Int32) (x2 : Int32) (x3 : Int32) (x4 : Int32) (x5 : Int32) : sn_Con y_Md_message c_Md_message 6 (some .long) 0 0 [vI x0, vI x1, vI x2, vI x3, vI x4, vI x5] (f_Md_message x0 x1 x2 x3 x4 x5) := by
  refine sn_Con.of (by decide +kernel) (by show _ ≤ _; exact Nat.le_of_ble_eq_true rfl) (mono_Md_message x0 x1 x2 x3 x4 x5) (fun X C => ?_)
  show sn_S X 0 [(0, vI x0), (1, vI x1), (2, vI x2), (3, vI x3), (4, vI x4), (5, vI x5)] [] _
  replace C : sn_Cx X c_Md_message "SignalNetworkModel" (some .long) "message" 6 0 0 := C
  unfold f_Md_message
  refine r_iload_n (q := 1) (i := 0) (pl := 0) C d_Md_message_0 rfl rfl rfl ?_
  refine r_i2l (q := 2) C d_Md_message_1 rfl ?_
  refine r_iload_n (q := 3) (i := 1) (pl := 1) C d_Md_message_2 rfl rfl rfl ?_
  refine r_i2l (q := 4) C d_Md_message_3 rfl ?_
  refine r_iconst (q := 5) (v := 4) C d_Md_message_4 rfl (by decide) ?_
  refine r_lshl (q := 6) C d_Md_message_5 rfl ?_
  refine r_lor (q := 7) C d_Md_message_6 rfl ?_
  refine r_iload_n (q := 8) (i := 2) (pl := 2) C d_Md_message_7 rfl rfl rfl ?_
  refine r_i2l (q := 9) C d_Md_message_8 rfl ?_
  refine r_bipush (q := 11) (v := 8) C d_Md_message_9 rfl (by decide) ?_
  refine r_lshl (q := 12) C d_Md_message_11 rfl ?_
  refine r_lor (q := 13) C d_Md_message_12 rfl ?_
  refine r_iload_n (q := 14) (i := 3) (pl := 3) C d_Md_message_13 rfl rfl rfl ?_
  refine r_i2l (q := 15) C d_Md_message_14 rfl ?_
  refine r_bipush (q := 17) (v := 12) C d_Md_message_15 rfl (by decide) ?_
  refine r_lshl (q := 18) C d_Md_message_17 rfl ?_
  refine r_lor (q := 19) C d_Md_message_18 rfl ?_
  refine r_iload (q := 21) (i := 4) (pl := 4) C d_Md_message_19 rfl rfl ?_
  refine r_i2l (q := 22) C d_Md_message_21 rfl ?_
  refine r_bipush (q := 24) (v := 16) C d_Md_message_22 rfl (by decide) ?_
  refine r_lshl (q := 25) C d_Md_message_24 rfl ?_
  refine r_lor (q := 26) C d_Md_message_25 rfl ?_
  refine r_iload (q := 28) (i := 5) (pl := 5) C d_Md_message_26 rfl rfl ?_
  refine r_i2l (q := 29) C d_Md_message_28 rfl ?_
  refine r_bipush (q := 31) (v := 24) C d_Md_message_29 rfl (by decide) ?_
  refine r_lshl (q := 32) C d_Md_message_31 rfl ?_
  refine r_lor (q := 33) C d_Md_message_32 rfl ?_
  exact r_lret C d_Md_message_33 rfl
theorem d_Md_kindOf_0 : decode c_Md_kindOf 0 = .ok (.lload_n 0, 1) := by decide +kernel
theorem d_Md_kindOf_1 : decode c_Md_kindOf 1 = .ok (.ldc2_w 190, 3) := by decide +kernel
theorem d_Md_kindOf_4 : decode c_Md_kindOf 4 = .ok (.land, 1) := by decide +kernel
theorem d_Md_kindOf_5 : decode c_Md_kindOf 5 = .ok (.l2i, 1) := by decide +kernel
theorem d_Md_kindOf_6 : decode c_Md_kindOf 6 = .ok (.ireturn, 1) := by decide +kernel
def f_Md_kindOf (l0 : Int64) : sn_M := r_I (Int64.toInt32 (l0 &&& (15 : Int64)))
set_option maxHeartbeats 4000000 in
set_option maxRecDepth 100000 in
theorem mono_Md_kindOf (l0 : Int64) : sn_Mono (f_Md_kindOf l0) := sn_Mono.rI
set_option maxHeartbeats 4000000 in
set_option maxRecDepth 100000 in
theorem con_Md_kindOf (l0 : Int64) : sn_Con y_Md_kindOf c_Md_kindOf 2 (some .int) 0 0 [vJ l0] (f_Md_kindOf l0) := by
  refine sn_Con.of (by decide +kernel) (by show _ ≤ _; exact Nat.le_of_ble_eq_true rfl) (mono_Md_kindOf l0) (fun X C => ?_)
  show sn_S X 0 [(0, vJ l0)] [] _
  replace C : sn_Cx X c_Md_kindOf "SignalNetworkModel" (some .int) "kindOf" 2 0 0 := C
  unfold f_Md_kindOf
  refine r_lload_n (q := 1) (i := 0) (pl := 0) C d_Md_kindOf_0 rfl rfl rfl ?_
  refine r_ldc2_w (q := 4) C d_Md_kindOf_1 rfl KL_Md_190 ?_
  refine r_land (q := 5) C d_Md_kindOf_4 rfl ?_
  refine r_l2i (q := 6) C d_Md_kindOf_5 rfl ?_
  exact r_iret C d_Md_kindOf_6 rfl
theorem d_Md_fromOf_0 : decode c_Md_fromOf 0 = .ok (.lload_n 0, 1) := by decide +kernel
theorem d_Md_fromOf_1 : decode c_Md_fromOf 1 = .ok (.iconst 4, 1) := by decide +kernel
theorem d_Md_fromOf_2 : decode c_Md_fromOf 2 = .ok (.lshr, 1) := by decide +kernel
theorem d_Md_fromOf_3 : decode c_Md_fromOf 3 = .ok (.ldc2_w 190, 3) := by decide +kernel
theorem d_Md_fromOf_6 : decode c_Md_fromOf 6 = .ok (.land, 1) := by decide +kernel
theorem d_Md_fromOf_7 : decode c_Md_fromOf 7 = .ok (.l2i, 1) := by decide +kernel
theorem d_Md_fromOf_8 : decode c_Md_fromOf 8 = .ok (.ireturn, 1) := by decide +kernel
def f_Md_fromOf (l0 : Int64) : sn_M := r_I (Int64.toInt32 ((l0 >>> (Int32.toInt64 (4 : Int32) &&& 63)) &&& (15 : Int64)))
set_option maxHeartbeats 4000000 in
set_option maxRecDepth 100000 in
theorem mono_Md_fromOf (l0 : Int64) : sn_Mono (f_Md_fromOf l0) := sn_Mono.rI
set_option maxHeartbeats 4000000 in
set_option maxRecDepth 100000 in
theorem con_Md_fromOf (l0 : Int64) : sn_Con y_Md_fromOf c_Md_fromOf 2 (some .int) 0 0 [vJ l0] (f_Md_fromOf l0) := by
  refine sn_Con.of (by decide +kernel) (by show _ ≤ _; exact Nat.le_of_ble_eq_true rfl) (mono_Md_fromOf l0) (fun X C => ?_)
  show sn_S X 0 [(0, vJ l0)] [] _
  replace C : sn_Cx X c_Md_fromOf "SignalNetworkModel" (some .int) "fromOf" 2 0 0 := C
  unfold f_Md_fromOf
  refine r_lload_n (q := 1) (i := 0) (pl := 0) C d_Md_fromOf_0 rfl rfl rfl ?_
  refine r_iconst (q := 2) (v := 4) C d_Md_fromOf_1 rfl (by decide) ?_
  refine r_lshr (q := 3) C d_Md_fromOf_2 rfl ?_
  refine r_ldc2_w (q := 6) C d_Md_fromOf_3 rfl KL_Md_190 ?_
  refine r_land (q := 7) C d_Md_fromOf_6 rfl ?_
  refine r_l2i (q := 8) C d_Md_fromOf_7 rfl ?_
  exact r_iret C d_Md_fromOf_8 rfl
theorem d_Md_toOf_0 : decode c_Md_toOf 0 = .ok (.lload_n 0, 1) := by decide +kernel
theorem d_Md_toOf_1 : decode c_Md_toOf 1 = .ok (.bipush 8, 2) := by decide +kernel
theorem d_Md_toOf_3 : decode c_Md_toOf 3 = .ok (.lshr, 1) := by decide +kernel
theorem d_Md_toOf_4 : decode c_Md_toOf 4 = .ok (.ldc2_w 190, 3) := by decide +kernel
theorem d_Md_toOf_7 : decode c_Md_toOf 7 = .ok (.land, 1) := by decide +kernel
theorem d_Md_toOf_8 : decode c_Md_toOf 8 = .ok (.l2i, 1) := by decide +kernel
theorem d_Md_toOf_9 : decode c_Md_toOf 9 = .ok (.ireturn, 1) := by decide +kernel
def f_Md_toOf (l0 : Int64) : sn_M := r_I (Int64.toInt32 ((l0 >>> (Int32.toInt64 (8 : Int32) &&& 63)) &&& (15 : Int64)))
set_option maxHeartbeats 4000000 in
set_option maxRecDepth 100000 in
theorem mono_Md_toOf (l0 : Int64) : sn_Mono (f_Md_toOf l0) := sn_Mono.rI
set_option maxHeartbeats 4000000 in
set_option maxRecDepth 100000 in
theorem con_Md_toOf (l0 : Int64) : sn_Con y_Md_toOf c_Md_toOf 2 (some .int) 0 0 [vJ l0] (f_Md_toOf l0) := by
  refine sn_Con.of (by decide +kernel) (by show _ ≤ _; exact Nat.le_of_ble_eq_true rfl) (mono_Md_toOf l0) (fun X C => ?_)
  show sn_S X 0 [(0, vJ l0)] [] _
  replace C : sn_Cx X c_Md_toOf "SignalNetworkModel" (some .int) "toOf" 2 0 0 := C
  unfold f_Md_toOf
  refine r_lload_n (q := 1) (i := 0) (pl := 0) C d_Md_toOf_0 rfl rfl rfl ?_
  refine r_bipush (q := 3) (v := 8) C d_Md_toOf_1 rfl (by decide) ?_
  refine r_lshr (q := 4) C d_Md_toOf_3 rfl ?_
  refine r_ldc2_w (q := 7) C d_Md_toOf_4 rfl KL_Md_190 ?_
  refine r_land (q := 8) C d_Md_toOf_7 rfl ?_
  refine r_l2i (q := 9) C d_Md_toOf_8 rfl ?_
  exact r_iret C d_Md_toOf_9 rfl
theorem d_Md_flowOf_0 : decode c_Md_flowOf 0 = .ok (.lload_n 0, 1) := by decide +kernel
theorem d_Md_flowOf_1 : decode c_Md_flowOf 1 = .ok (.bipush 12, 2) := by decide +kernel
theorem d_Md_flowOf_3 : decode c_Md_flowOf 3 = .ok (.lshr, 1) := by decide +kernel
theorem d_Md_flowOf_4 : decode c_Md_flowOf 4 = .ok (.ldc2_w 190, 3) := by decide +kernel
theorem d_Md_flowOf_7 : decode c_Md_flowOf 7 = .ok (.land, 1) := by decide +kernel
theorem d_Md_flowOf_8 : decode c_Md_flowOf 8 = .ok (.l2i, 1) := by decide +kernel
theorem d_Md_flowOf_9 : decode c_Md_flowOf 9 = .ok (.ireturn, 1) := by decide +kernel
def f_Md_flowOf (l0 : Int64) : sn_M := r_I (Int64.toInt32 ((l0 >>> (Int32.toInt64 (12 : Int32) &&& 63)) &&& (15 : Int64)))
set_option maxHeartbeats 4000000 in
set_option maxRecDepth 100000 in
theorem mono_Md_flowOf (l0 : Int64) : sn_Mono (f_Md_flowOf l0) := sn_Mono.rI
set_option maxHeartbeats 4000000 in
set_option maxRecDepth 100000 in
theorem con_Md_flowOf (l0 : Int64) : sn_Con y_Md_flowOf c_Md_flowOf 2 (some .int) 0 0 [vJ l0] (f_Md_flowOf l0) := by
  refine sn_Con.of (by decide +kernel) (by show _ ≤ _; exact Nat.le_of_ble_eq_true rfl) (mono_Md_flowOf l0) (fun X C => ?_)
  show sn_S X 0 [(0, vJ l0)] [] _
  replace C : sn_Cx X c_Md_flowOf "SignalNetworkModel" (some .int) "flowOf" 2 0 0 := C
  unfold f_Md_flowOf
  refine r_lload_n (q := 1) (i := 0) (pl := 0) C d_Md_flowOf_0 rfl rfl rfl ?_
  refine r_bipush (q := 3) (v := 12) C d_Md_flowOf_1 rfl (by decide) ?_
  refine r_lshr (q := 4) C d_Md_flowOf_3 rfl ?_
  refine r_ldc2_w (q := 7) C d_Md_flowOf_4 rfl KL_Md_190 ?_
  refine r_land (q := 8) C d_Md_flowOf_7 rfl ?_
  refine r_l2i (q := 9) C d_Md_flowOf_8 rfl ?_
  exact r_iret C d_Md_flowOf_9 rfl
theorem d_Md_oneOf_0 : decode c_Md_oneOf 0 = .ok (.lload_n 0, 1) := by decide +kernel
theorem d_Md_oneOf_1 : decode c_Md_oneOf 1 = .ok (.bipush 16, 2) := by decide +kernel
theorem d_Md_oneOf_3 : decode c_Md_oneOf 3 = .ok (.lshr, 1) := by decide +kernel
theorem d_Md_oneOf_4 : decode c_Md_oneOf 4 = .ok (.ldc2_w 192, 3) := by decide +kernel
theorem d_Md_oneOf_7 : decode c_Md_oneOf 7 = .ok (.land, 1) := by decide +kernel
theorem d_Md_oneOf_8 : decode c_Md_oneOf 8 = .ok (.l2i, 1) := by decide +kernel
theorem d_Md_oneOf_9 : decode c_Md_oneOf 9 = .ok (.ireturn, 1) := by decide +kernel
def f_Md_oneOf (l0 : Int64) : sn_M := r_I (Int64.toInt32 ((l0 >>> (Int32.toInt64 (16 : Int32) &&& 63)) &&& (255 : Int64)))
set_option maxHeartbeats 4000000 in
set_option maxRecDepth 100000 in
theorem mono_Md_oneOf (l0 : Int64) : sn_Mono (f_Md_oneOf l0) := sn_Mono.rI
set_option maxHeartbeats 4000000 in
set_option maxRecDepth 100000 in
theorem con_Md_oneOf (l0 : Int64) : sn_Con y_Md_oneOf c_Md_oneOf 2 (some .int) 0 0 [vJ l0] (f_Md_oneOf l0) := by
  refine sn_Con.of (by decide +kernel) (by show _ ≤ _; exact Nat.le_of_ble_eq_true rfl) (mono_Md_oneOf l0) (fun X C => ?_)
  show sn_S X 0 [(0, vJ l0)] [] _
  replace C : sn_Cx X c_Md_oneOf "SignalNetworkModel" (some .int) "oneOf" 2 0 0 := C
  unfold f_Md_oneOf
  refine r_lload_n (q := 1) (i := 0) (pl := 0) C d_Md_oneOf_0 rfl rfl rfl ?_
  refine r_bipush (q := 3) (v := 16) C d_Md_oneOf_1 rfl (by decide) ?_
  refine r_lshr (q := 4) C d_Md_oneOf_3 rfl ?_
  refine r_ldc2_w (q := 7) C d_Md_oneOf_4 rfl KL_Md_192 ?_
  refine r_land (q := 8) C d_Md_oneOf_7 rfl ?_
  refine r_l2i (q := 9) C d_Md_oneOf_8 rfl ?_
  exact r_iret C d_Md_oneOf_9 rfl
theorem d_Md_twoOf_0 : decode c_Md_twoOf 0 = .ok (.lload_n 0, 1) := by decide +kernel
theorem d_Md_twoOf_1 : decode c_Md_twoOf 1 = .ok (.bipush 24, 2) := by decide +kernel
theorem d_Md_twoOf_3 : decode c_Md_twoOf 3 = .ok (.lshr, 1) := by decide +kernel
theorem d_Md_twoOf_4 : decode c_Md_twoOf 4 = .ok (.ldc2_w 194, 3) := by decide +kernel
theorem d_Md_twoOf_7 : decode c_Md_twoOf 7 = .ok (.land, 1) := by decide +kernel
theorem d_Md_twoOf_8 : decode c_Md_twoOf 8 = .ok (.l2i, 1) := by decide +kernel
theorem d_Md_twoOf_9 : decode c_Md_twoOf 9 = .ok (.ireturn, 1) := by decide +kernel
def f_Md_twoOf (l0 : Int64) : sn_M := r_I (Int64.toInt32 ((l0 >>> (Int32.toInt64 (24 : Int32) &&& 63)) &&& (65535 : Int64)))
set_option maxHeartbeats 4000000 in
set_option maxRecDepth 100000 in
theorem mono_Md_twoOf (l0 : Int64) : sn_Mono (f_Md_twoOf l0) := sn_Mono.rI
set_option maxHeartbeats 4000000 in
set_option maxRecDepth 100000 in
theorem con_Md_twoOf (l0 : Int64) : sn_Con y_Md_twoOf c_Md_twoOf 2 (some .int) 0 0 [vJ l0] (f_Md_twoOf l0) := by
  refine sn_Con.of (by decide +kernel) (by show _ ≤ _; exact Nat.le_of_ble_eq_true rfl) (mono_Md_twoOf l0) (fun X C => ?_)
  show sn_S X 0 [(0, vJ l0)] [] _
  replace C : sn_Cx X c_Md_twoOf "SignalNetworkModel" (some .int) "twoOf" 2 0 0 := C
  unfold f_Md_twoOf
  refine r_lload_n (q := 1) (i := 0) (pl := 0) C d_Md_twoOf_0 rfl rfl rfl ?_
  refine r_bipush (q := 3) (v := 24) C d_Md_twoOf_1 rfl (by decide) ?_
  refine r_lshr (q := 4) C d_Md_twoOf_3 rfl ?_
  refine r_ldc2_w (q := 7) C d_Md_twoOf_4 rfl KL_Md_194 ?_
  refine r_land (q := 8) C d_Md_twoOf_7 rfl ?_
  refine r_l2i (q := 9) C d_Md_twoOf_8 rfl ?_
  exact r_iret C d_Md_twoOf_9 rfl
theorem d_Md_hopsOf_0 : decode c_Md_hopsOf 0 = .ok (.lload_n 0, 1) := by decide +kernel
theorem d_Md_hopsOf_1 : decode c_Md_hopsOf 1 = .ok (.bipush 40, 2) := by decide +kernel
theorem d_Md_hopsOf_3 : decode c_Md_hopsOf 3 = .ok (.lshr, 1) := by decide +kernel
theorem d_Md_hopsOf_4 : decode c_Md_hopsOf 4 = .ok (.l2i, 1) := by decide +kernel
theorem d_Md_hopsOf_5 : decode c_Md_hopsOf 5 = .ok (.ireturn, 1) := by decide +kernel
def f_Md_hopsOf (l0 : Int64) : sn_M := r_I (Int64.toInt32 (l0 >>> (Int32.toInt64 (40 : Int32) &&& 63)))
set_option maxHeartbeats 4000000 in
set_option maxRecDepth 100000 in
theorem mono_Md_hopsOf (l0 : Int64) : sn_Mono (f_Md_hopsOf l0) := sn_Mono.rI
set_option maxHeartbeats 4000000 in
set_option maxRecDepth 100000 in
theorem con_Md_hopsOf (l0 : Int64) : sn_Con y_Md_hopsOf c_Md_hopsOf 2 (some .int) 0 0 [vJ l0] (f_Md_hopsOf l0) := by
  refine sn_Con.of (by decide +kernel) (by show _ ≤ _; exact Nat.le_of_ble_eq_true rfl) (mono_Md_hopsOf l0) (fun X C => ?_)
  show sn_S X 0 [(0, vJ l0)] [] _
  replace C : sn_Cx X c_Md_hopsOf "SignalNetworkModel" (some .int) "hopsOf" 2 0 0 := C
  unfold f_Md_hopsOf
  refine r_lload_n (q := 1) (i := 0) (pl := 0) C d_Md_hopsOf_0 rfl rfl rfl ?_
  refine r_bipush (q := 3) (v := 40) C d_Md_hopsOf_1 rfl (by decide) ?_
  refine r_lshr (q := 4) C d_Md_hopsOf_3 rfl ?_
  refine r_l2i (q := 5) C d_Md_hopsOf_4 rfl ?_
  exact r_iret C d_Md_hopsOf_5 rfl
theorem d_Md_isExchange_0 : decode c_Md_isExchange 0 = .ok (.iload_n 0, 1) := by decide +kernel
theorem d_Md_isExchange_1 : decode c_Md_isExchange 1 = .ok (.ifCond .lt 13, 3) := by decide +kernel
theorem d_Md_isExchange_4 : decode c_Md_isExchange 4 = .ok (.iload_n 0, 1) := by decide +kernel
theorem d_Md_isExchange_5 : decode c_Md_isExchange 5 = .ok (.bipush 6, 2) := by decide +kernel
theorem d_Md_isExchange_7 : decode c_Md_isExchange 7 = .ok (.if_icmp .ge 7, 3) := by decide +kernel
theorem d_Md_isExchange_10 : decode c_Md_isExchange 10 = .ok (.iconst 1, 1) := by decide +kernel
theorem d_Md_isExchange_11 : decode c_Md_isExchange 11 = .ok (.goto 4, 3) := by decide +kernel
theorem d_Md_isExchange_14 : decode c_Md_isExchange 14 = .ok (.iconst 0, 1) := by decide +kernel
theorem d_Md_isExchange_15 : decode c_Md_isExchange 15 = .ok (.ireturn, 1) := by decide +kernel
def f_Md_isExchange_15 (t0 : Int32) : sn_M := r_Z t0
set_option maxHeartbeats 4000000 in
set_option maxRecDepth 100000 in
theorem mono_Md_isExchange_15 (t0 : Int32) : sn_Mono (f_Md_isExchange_15 t0) := sn_Mono.rZ
set_option maxHeartbeats 4000000 in
set_option maxRecDepth 100000 in
theorem s_Md_isExchange_15 {X : sn_X} (C : sn_Cx X c_Md_isExchange "SignalNetworkModel" (some .boolean) "isExchange" 1 0 0) (t0 : Int32) : sn_S X 15 [] [vI t0] (f_Md_isExchange_15 t0) := by
  unfold f_Md_isExchange_15
  exact r_zret C d_Md_isExchange_15 rfl
def f_Md_isExchange_14 : sn_M := f_Md_isExchange_15 (0 : Int32)
set_option maxHeartbeats 4000000 in
set_option maxRecDepth 100000 in
theorem mono_Md_isExchange_14 : sn_Mono (f_Md_isExchange_14) := mono_Md_isExchange_15 (0 : Int32)
set_option maxHeartbeats 4000000 in
set_option maxRecDepth 100000 in
theorem s_Md_isExchange_14 {X : sn_X} (C : sn_Cx X c_Md_isExchange "SignalNetworkModel" (some .boolean) "isExchange" 1 0 0) : sn_S X 14 [] [] (f_Md_isExchange_14) := by
  unfold f_Md_isExchange_14
  refine r_iconst (q := 15) (v := 0) C d_Md_isExchange_14 rfl (by decide) ?_
  exact s_Md_isExchange_15 C (0 : Int32)
def f_Md_isExchange (x0 : Int32) : sn_M := (if x0 < 0 then f_Md_isExchange_14 else (if (6 : Int32) ≤ x0 then f_Md_isExchange_14 else f_Md_isExchange_15 (1 : Int32)))
set_option maxHeartbeats 4000000 in
set_option maxRecDepth 100000 in
theorem mono_Md_isExchange (x0 : Int32) : sn_Mono (f_Md_isExchange x0) := sn_Mono.ite (mono_Md_isExchange_14) (sn_Mono.ite (mono_Md_isExchange_14) (mono_Md_isExchange_15 (1 : Int32)))
set_option maxHeartbeats 4000000 in
set_option maxRecDepth 100000 in
theorem con_Md_isExchange (x0 : Int32) : sn_Con y_Md_isExchange c_Md_isExchange 1 (some .boolean) 0 0 [vI x0] (f_Md_isExchange x0) := by
  refine sn_Con.of (by decide +kernel) (by show _ ≤ _; exact Nat.le_of_ble_eq_true rfl) (mono_Md_isExchange x0) (fun X C => ?_)
  show sn_S X 0 [(0, vI x0)] [] _
  replace C : sn_Cx X c_Md_isExchange "SignalNetworkModel" (some .boolean) "isExchange" 1 0 0 := C
  unfold f_Md_isExchange
  refine r_iload_n (q := 1) (i := 0) (pl := 0) C d_Md_isExchange_0 rfl rfl rfl ?_
  refine r_if_lt (tgt := 14) (q := 4) C d_Md_isExchange_1 (by decide) rfl ?_ ?_
  · refine r_sub (lv' := []) [] rfl ?_
    exact s_Md_isExchange_14 C
  · refine r_iload_n (q := 5) (i := 0) (pl := 0) C d_Md_isExchange_4 rfl rfl rfl ?_
    refine r_bipush (q := 7) (v := 6) C d_Md_isExchange_5 rfl (by decide) ?_
    refine r_icmp_ge (tgt := 14) (q := 10) C d_Md_isExchange_7 (by decide) rfl ?_ ?_
    · refine r_sub (lv' := []) [] rfl ?_
      exact s_Md_isExchange_14 C
    · refine r_iconst (q := 11) (v := 1) C d_Md_isExchange_10 rfl (by decide) ?_
      refine r_goto (tgt := 15) C d_Md_isExchange_11 (by decide) ?_
      refine r_sub (lv' := []) [] rfl ?_
      exact s_Md_isExchange_15 C (1 : Int32)
theorem d_Md_isOf_0 : decode c_Md_isOf 0 = .ok (.aload_n 0, 1) := by decide +kernel
theorem d_Md_isOf_1 : decode c_Md_isOf 1 = .ok (.getfield 7, 3) := by decide +kernel
theorem d_Md_isOf_4 : decode c_Md_isOf 4 = .ok (.iload_n 1, 1) := by decide +kernel
theorem d_Md_isOf_5 : decode c_Md_isOf 5 = .ok (.iaload, 1) := by decide +kernel
theorem d_Md_isOf_6 : decode c_Md_isOf 6 = .ok (.iload_n 2, 1) := by decide +kernel
theorem d_Md_isOf_7 : decode c_Md_isOf 7 = .ok (.iload_n 3, 1) := by decide +kernel
theorem d_Md_isOf_8 : decode c_Md_isOf 8 = .ok (.if_icmp .ge 7, 3) := by decide +kernel
theorem d_Md_isOf_11 : decode c_Md_isOf 11 = .ok (.iload_n 2, 1) := by decide +kernel
theorem d_Md_isOf_12 : decode c_Md_isOf 12 = .ok (.goto 4, 3) := by decide +kernel
theorem d_Md_isOf_15 : decode c_Md_isOf 15 = .ok (.iload_n 3, 1) := by decide +kernel
theorem d_Md_isOf_16 : decode c_Md_isOf 16 = .ok (.if_icmp .ne 26, 3) := by decide +kernel
theorem d_Md_isOf_19 : decode c_Md_isOf 19 = .ok (.aload_n 0, 1) := by decide +kernel
theorem d_Md_isOf_20 : decode c_Md_isOf 20 = .ok (.getfield 13, 3) := by decide +kernel
theorem d_Md_isOf_23 : decode c_Md_isOf 23 = .ok (.iload_n 1, 1) := by decide +kernel
theorem d_Md_isOf_24 : decode c_Md_isOf 24 = .ok (.iaload, 1) := by decide +kernel
theorem d_Md_isOf_25 : decode c_Md_isOf 25 = .ok (.iload_n 2, 1) := by decide +kernel
theorem d_Md_isOf_26 : decode c_Md_isOf 26 = .ok (.iload_n 3, 1) := by decide +kernel
theorem d_Md_isOf_27 : decode c_Md_isOf 27 = .ok (.if_icmp .ge 7, 3) := by decide +kernel
theorem d_Md_isOf_30 : decode c_Md_isOf 30 = .ok (.iload_n 3, 1) := by decide +kernel
theorem d_Md_isOf_31 : decode c_Md_isOf 31 = .ok (.goto 4, 3) := by decide +kernel
theorem d_Md_isOf_34 : decode c_Md_isOf 34 = .ok (.iload_n 2, 1) := by decide +kernel
theorem d_Md_isOf_35 : decode c_Md_isOf 35 = .ok (.if_icmp .ne 7, 3) := by decide +kernel
theorem d_Md_isOf_38 : decode c_Md_isOf 38 = .ok (.iconst 1, 1) := by decide +kernel
theorem d_Md_isOf_39 : decode c_Md_isOf 39 = .ok (.goto 4, 3) := by decide +kernel
theorem d_Md_isOf_42 : decode c_Md_isOf 42 = .ok (.iconst 0, 1) := by decide +kernel
theorem d_Md_isOf_43 : decode c_Md_isOf 43 = .ok (.ireturn, 1) := by decide +kernel
def f_Md_isOf_43 (a : Nat) (t0 : Int32) : sn_M := r_Z t0
set_option maxHeartbeats 4000000 in
set_option maxRecDepth 100000 in
theorem mono_Md_isOf_43 (a : Nat) (t0 : Int32) : sn_Mono (f_Md_isOf_43 a t0) := sn_Mono.rZ
set_option maxHeartbeats 4000000 in
set_option maxRecDepth 100000 in
theorem s_Md_isOf_43 {X : sn_X} (C : sn_Cx X c_Md_isOf "SignalNetworkModel" (some .boolean) "isOf" 4 0 0) (a : Nat) (t0 : Int32) : sn_S X 43 [(0, vA (some a))] [vI t0] (f_Md_isOf_43 a t0) := by
  unfold f_Md_isOf_43
  exact r_zret C d_Md_isOf_43 rfl
def f_Md_isOf_42 (a : Nat) : sn_M := f_Md_isOf_43 a (0 : Int32)
set_option maxHeartbeats 4000000 in
set_option maxRecDepth 100000 in
theorem mono_Md_isOf_42 (a : Nat) : sn_Mono (f_Md_isOf_42 a) := mono_Md_isOf_43 a (0 : Int32)
set_option maxHeartbeats 4000000 in
set_option maxRecDepth 100000 in
theorem s_Md_isOf_42 {X : sn_X} (C : sn_Cx X c_Md_isOf "SignalNetworkModel" (some .boolean) "isOf" 4 0 0) (a : Nat) : sn_S X 42 [(0, vA (some a))] [] (f_Md_isOf_42 a) := by
  unfold f_Md_isOf_42
  refine r_iconst (q := 43) (v := 0) C d_Md_isOf_42 rfl (by decide) ?_
  exact s_Md_isOf_43 C a (0 : Int32)
def f_Md_isOf_35 (a : Nat) (t0 : Int32) (t1 : Int32) : sn_M := (if ¬ t0 = t1 then f_Md_isOf_42 a else f_Md_isOf_43 a (1 : Int32))
set_option maxHeartbeats 4000000 in
set_option maxRecDepth 100000 in
theorem mono_Md_isOf_35 (a : Nat) (t0 : Int32) (t1 : Int32) : sn_Mono (f_Md_isOf_35 a t0 t1) := sn_Mono.ite (mono_Md_isOf_42 a) (mono_Md_isOf_43 a (1 : Int32))
set_option maxHeartbeats 4000000 in
set_option maxRecDepth 100000 in
theorem s_Md_isOf_35 {X : sn_X} (C : sn_Cx X c_Md_isOf "SignalNetworkModel" (some .boolean) "isOf" 4 0 0) (a : Nat) (t0 : Int32) (t1 : Int32) : sn_S X 35 [(0, vA (some a))] [vI t1, vI t0] (f_Md_isOf_35 a t0 t1) := by
  unfold f_Md_isOf_35
  refine r_icmp_ne (tgt := 42) (q := 38) C d_Md_isOf_35 (by decide) rfl ?_ ?_
  · exact s_Md_isOf_42 C a
  · refine r_iconst (q := 39) (v := 1) C d_Md_isOf_38 rfl (by decide) ?_
    refine r_goto (tgt := 43) C d_Md_isOf_39 (by decide) ?_
    exact s_Md_isOf_43 C a (1 : Int32)
def f_Md_isOf_16 (a : Nat) (x1 : Int32) (x2 : Int32) (x3 : Int32) (t0 : Int32) (t1 : Int32) : sn_M := (if ¬ t0 = t1 then f_Md_isOf_42 a else g_R 12 1 (some a) fun v1 => a_I 31 v1 x1 fun v2 => (if x3 ≤ x2 then f_Md_isOf_35 a v2 x2 else f_Md_isOf_35 a v2 x3))
set_option maxHeartbeats 4000000 in
set_option maxRecDepth 100000 in
theorem mono_Md_isOf_16 (a : Nat) (x1 : Int32) (x2 : Int32) (x3 : Int32) (t0 : Int32) (t1 : Int32) : sn_Mono (f_Md_isOf_16 a x1 x2 x3 t0 t1) := sn_Mono.ite (mono_Md_isOf_42 a) (sn_Mono.gR (fun v1 => sn_Mono.aI (fun v2 => sn_Mono.ite (mono_Md_isOf_35 a v2 x2) (mono_Md_isOf_35 a v2 x3))))
set_option maxHeartbeats 4000000 in
set_option maxRecDepth 100000 in
theorem s_Md_isOf_16 {X : sn_X} (C : sn_Cx X c_Md_isOf "SignalNetworkModel" (some .boolean) "isOf" 4 0 0) (a : Nat) (x1 : Int32) (x2 : Int32) (x3 : Int32) (t0 : Int32) (t1 : Int32) : sn_S X 16 [(0, vA (some a)), (1, vI x1), (2, vI x2), (3, vI x3)] [vI t1, vI t0] (f_Md_isOf_16 a x1 x2 x3 t0 t1) := by
  unfold f_Md_isOf_16
  refine r_icmp_ne (tgt := 42) (q := 19) C d_Md_isOf_16 (by decide) rfl ?_ ?_
  · refine r_sub (lv' := [(0, vA (some a))]) [0] rfl ?_
    exact s_Md_isOf_42 C a
  · refine r_aload_n (q := 20) (i := 0) (pl := 0) C d_Md_isOf_19 rfl rfl rfl ?_
    refine r_gR (q := 23) C d_Md_isOf_20 rfl F_Md_13 rfl (fun v1 => ?_)
    refine r_iload_n (q := 24) (i := 1) (pl := 1) C d_Md_isOf_23 rfl rfl rfl ?_
    refine r_aI (q := 25) C (Or.inr rfl) d_Md_isOf_24 rfl (fun v2 => ?_)
    refine r_iload_n (q := 26) (i := 2) (pl := 2) C d_Md_isOf_25 rfl rfl rfl ?_
    refine r_iload_n (q := 27) (i := 3) (pl := 3) C d_Md_isOf_26 rfl rfl rfl ?_
    refine r_icmp_ge (tgt := 34) (q := 30) C d_Md_isOf_27 (by decide) rfl ?_ ?_
    · refine r_iload_n (q := 35) (i := 2) (pl := 2) C d_Md_isOf_34 rfl rfl rfl ?_
      refine r_sub (lv' := [(0, vA (some a))]) [0] rfl ?_
      exact s_Md_isOf_35 C a v2 x2
    · refine r_iload_n (q := 31) (i := 3) (pl := 3) C d_Md_isOf_30 rfl rfl rfl ?_
      refine r_goto (tgt := 35) C d_Md_isOf_31 (by decide) ?_
      refine r_sub (lv' := [(0, vA (some a))]) [0] rfl ?_
      exact s_Md_isOf_35 C a v2 x3
def f_Md_isOf (a : Nat) (x1 : Int32) (x2 : Int32) (x3 : Int32) : sn_M := g_R 12 0 (some a) fun v3 => a_I 31 v3 x1 fun v4 => (if x3 ≤ x2 then f_Md_isOf_16 a x1 x2 x3 v4 x3 else f_Md_isOf_16 a x1 x2 x3 v4 x2)
set_option maxHeartbeats 4000000 in
set_option maxRecDepth 100000 in
theorem mono_Md_isOf (a : Nat) (x1 : Int32) (x2 : Int32) (x3 : Int32) : sn_Mono (f_Md_isOf a x1 x2 x3) := sn_Mono.gR (fun v3 => sn_Mono.aI (fun v4 => sn_Mono.ite (mono_Md_isOf_16 a x1 x2 x3 v4 x3) (mono_Md_isOf_16 a x1 x2 x3 v4 x2)))
set_option maxHeartbeats 4000000 in
set_option maxRecDepth 100000 in
theorem con_Md_isOf (a : Nat) (x1 : Int32) (x2 : Int32) (x3 : Int32) : sn_Con y_Md_isOf c_Md_isOf 4 (some .boolean) 0 0 [vA (some a), vI x1, vI x2, vI x3] (f_Md_isOf a x1 x2 x3) := by
  refine sn_Con.of (by decide +kernel) (by show _ ≤ _; exact Nat.le_of_ble_eq_true rfl) (mono_Md_isOf a x1 x2 x3) (fun X C => ?_)
  show sn_S X 0 [(0, vA (some a)), (1, vI x1), (2, vI x2), (3, vI x3)] [] _
  replace C : sn_Cx X c_Md_isOf "SignalNetworkModel" (some .boolean) "isOf" 4 0 0 := C
  unfold f_Md_isOf
  refine r_aload_n (q := 1) (i := 0) (pl := 0) C d_Md_isOf_0 rfl rfl rfl ?_
  refine r_gR (q := 4) C d_Md_isOf_1 rfl F_Md_7 rfl (fun v3 => ?_)
  refine r_iload_n (q := 5) (i := 1) (pl := 1) C d_Md_isOf_4 rfl rfl rfl ?_
  refine r_aI (q := 6) C (Or.inr rfl) d_Md_isOf_5 rfl (fun v4 => ?_)
  refine r_iload_n (q := 7) (i := 2) (pl := 2) C d_Md_isOf_6 rfl rfl rfl ?_
  refine r_iload_n (q := 8) (i := 3) (pl := 3) C d_Md_isOf_7 rfl rfl rfl ?_
  refine r_icmp_ge (tgt := 15) (q := 11) C d_Md_isOf_8 (by decide) rfl ?_ ?_
  · refine r_iload_n (q := 16) (i := 3) (pl := 3) C d_Md_isOf_15 rfl rfl rfl ?_
    exact s_Md_isOf_16 C a x1 x2 x3 v4 x3
  · refine r_iload_n (q := 12) (i := 2) (pl := 2) C d_Md_isOf_11 rfl rfl rfl ?_
    refine r_goto (tgt := 16) C d_Md_isOf_12 (by decide) ?_
    exact s_Md_isOf_16 C a x1 x2 x3 v4 x2
theorem d_Md_setSize_0 : decode c_Md_setSize 0 = .ok (.iconst 0, 1) := by decide +kernel
theorem d_Md_setSize_1 : decode c_Md_setSize 1 = .ok (.istore_n 3, 1) := by decide +kernel
theorem d_Md_setSize_2 : decode c_Md_setSize 2 = .ok (.iconst 0, 1) := by decide +kernel
theorem d_Md_setSize_3 : decode c_Md_setSize 3 = .ok (.istore 4, 2) := by decide +kernel
theorem d_Md_setSize_5 : decode c_Md_setSize 5 = .ok (.iload 4, 2) := by decide +kernel
theorem d_Md_setSize_7 : decode c_Md_setSize 7 = .ok (.aload_n 0, 1) := by decide +kernel
theorem d_Md_setSize_8 : decode c_Md_setSize 8 = .ok (.getfield 196, 3) := by decide +kernel
theorem d_Md_setSize_11 : decode c_Md_setSize 11 = .ok (.if_icmp .ge 28, 3) := by decide +kernel
theorem d_Md_setSize_14 : decode c_Md_setSize 14 = .ok (.iload_n 3, 1) := by decide +kernel
theorem d_Md_setSize_15 : decode c_Md_setSize 15 = .ok (.aload_n 0, 1) := by decide +kernel
theorem d_Md_setSize_16 : decode c_Md_setSize 16 = .ok (.iload 4, 2) := by decide +kernel
theorem d_Md_setSize_18 : decode c_Md_setSize 18 = .ok (.iload_n 1, 1) := by decide +kernel
theorem d_Md_setSize_19 : decode c_Md_setSize 19 = .ok (.iload_n 2, 1) := by decide +kernel
theorem d_Md_setSize_20 : decode c_Md_setSize 20 = .ok (.invokevirtual 200, 3) := by decide +kernel
theorem d_Md_setSize_23 : decode c_Md_setSize 23 = .ok (.ifCond .eq 7, 3) := by decide +kernel
theorem d_Md_setSize_26 : decode c_Md_setSize 26 = .ok (.iconst 1, 1) := by decide +kernel
theorem d_Md_setSize_27 : decode c_Md_setSize 27 = .ok (.goto 4, 3) := by decide +kernel
theorem d_Md_setSize_30 : decode c_Md_setSize 30 = .ok (.iconst 0, 1) := by decide +kernel
theorem d_Md_setSize_31 : decode c_Md_setSize 31 = .ok (.iadd, 1) := by decide +kernel
theorem d_Md_setSize_32 : decode c_Md_setSize 32 = .ok (.istore_n 3, 1) := by decide +kernel
theorem d_Md_setSize_33 : decode c_Md_setSize 33 = .ok (.iinc 4 1, 3) := by decide +kernel
theorem d_Md_setSize_36 : decode c_Md_setSize 36 = .ok (.goto (-31), 3) := by decide +kernel
theorem d_Md_setSize_39 : decode c_Md_setSize 39 = .ok (.iload_n 3, 1) := by decide +kernel
theorem d_Md_setSize_40 : decode c_Md_setSize 40 = .ok (.ireturn, 1) := by decide +kernel
def f_Md_setSize_31 (k5 : Int32 → Int32 → Int32 → Int32 → sn_M) (a : Nat) (x1 : Int32) (x2 : Int32) (x4 : Int32) (t0 : Int32) (t1 : Int32) : sn_M := n_I ((t0 + t1)) fun n1 => k5 x1 x2 n1 (x4 + (1 : Int32))
set_option maxHeartbeats 4000000 in
set_option maxRecDepth 100000 in
theorem mono_Md_setSize_31 (k5 : Int32 → Int32 → Int32 → Int32 → sn_M) (mk5 : ∀ (x1 : Int32) (x2 : Int32) (x3 : Int32) (x4 : Int32), sn_Mono (k5 x1 x2 x3 x4)) (a : Nat) (x1 : Int32) (x2 : Int32) (x4 : Int32) (t0 : Int32) (t1 : Int32) : sn_Mono (f_Md_setSize_31 k5 a x1 x2 x4 t0 t1) := sn_Mono.nI (fun n1 => mk5 x1 x2 n1 (x4 + (1 : Int32)))
set_option maxHeartbeats 4000000 in
set_option maxRecDepth 100000 in
theorem s_Md_setSize_31 {X : sn_X} (C : sn_Cx X c_Md_setSize "SignalNetworkModel" (some .int) "setSize" 5 1 23) (a : Nat) (k5 : Int32 → Int32 → Int32 → Int32 → sn_M) (hk5 : ∀ (x1 : Int32) (x2 : Int32) (x3 : Int32) (x4 : Int32), sn_S X 5 [(0, vA (some a)), (1, vI x1), (2, vI x2), (3, vI x3), (4, vI x4)] [] (k5 x1 x2 x3 x4)) (x1 : Int32) (x2 : Int32) (x4 : Int32) (t0 : Int32) (t1 : Int32) : sn_S X 31 [(0, vA (some a)), (1, vI x1), (2, vI x2), (4, vI x4)] [vI t1, vI t0] (f_Md_setSize_31 k5 a x1 x2 x4 t0 t1) := by
  unfold f_Md_setSize_31
  refine r_iadd (q := 32) C d_Md_setSize_31 rfl ?_
  refine r_nI (fun n1 => ?_)
  refine r_istore_n (q := 33) (i := 3) (lv' := [(3, vI n1), (0, vA (some a)), (1, vI x1), (2, vI x2), (4, vI x4)]) C d_Md_setSize_32 rfl rfl (by decide) rfl ?_
  refine r_iinc (q := 36) (pl := 4) (v := x4 + (1 : Int32)) (lv' := [(4, vI (x4 + (1 : Int32))), (3, vI n1), (0, vA (some a)), (1, vI x1), (2, vI x2)]) C d_Md_setSize_33 rfl rfl rfl (by decide) rfl ?_
  refine r_goto (tgt := 5) C d_Md_setSize_36 (by decide) ?_
  refine r_sub (lv' := [(0, vA (some a)), (1, vI x1), (2, vI x2), (3, vI n1), (4, vI (x4 + (1 : Int32)))]) [2, 3, 4, 1, 0] rfl ?_
  exact hk5 x1 x2 n1 (x4 + (1 : Int32))
def f_Md_setSize_5 (a : Nat) : Nat → Int32 → Int32 → Int32 → Int32 → sn_M
  | 0, _, _, _, _ => r_0
  | n + 1, x1, x2, x3, x4 => g_I 12 4 (some a) fun v2 => (if v2 ≤ x4 then r_I x3 else n_n 12 (some a) fun a3 => c_I (f_Md_isOf a3 x4 x1 x2) fun v4 => (if v4 = 0 then f_Md_setSize_31 (f_Md_setSize_5 a n) a x1 x2 x4 x3 (0 : Int32) else f_Md_setSize_31 (f_Md_setSize_5 a n) a x1 x2 x4 x3 (1 : Int32)))
set_option maxHeartbeats 4000000 in
set_option maxRecDepth 100000 in
theorem mono_Md_setSize_5 (a : Nat) : ∀ (n : Nat) (x1 : Int32) (x2 : Int32) (x3 : Int32) (x4 : Int32), sn_Mono (f_Md_setSize_5 a n x1 x2 x3 x4)
  | 0, _, _, _, _ => sn_Mono.r0
  | n + 1, x1, x2, x3, x4 => sn_Mono.gI (fun v2 => sn_Mono.ite (sn_Mono.rI) (sn_Mono.nn (fun a3 => sn_Mono.cI (mono_Md_isOf a3 x4 x1 x2) (fun v4 => sn_Mono.ite (mono_Md_setSize_31 (f_Md_setSize_5 a n) (mono_Md_setSize_5 a n) a x1 x2 x4 x3 (0 : Int32)) (mono_Md_setSize_31 (f_Md_setSize_5 a n) (mono_Md_setSize_5 a n) a x1 x2 x4 x3 (1 : Int32))))))
set_option maxHeartbeats 4000000 in
set_option maxRecDepth 100000 in
theorem s_Md_setSize_5 {X : sn_X} (C : sn_Cx X c_Md_setSize "SignalNetworkModel" (some .int) "setSize" 5 1 23) (a : Nat) (n : Nat) : ∀ (x1 : Int32) (x2 : Int32) (x3 : Int32) (x4 : Int32), sn_S X 5 [(0, vA (some a)), (1, vI x1), (2, vI x2), (3, vI x3), (4, vI x4)] [] (f_Md_setSize_5 a n x1 x2 x3 x4) := by
  induction n with
  | zero => intro x1 x2 x3 x4; exact sn_S.zero
  | succ n ih =>
    intro x1 x2 x3 x4
    unfold f_Md_setSize_5
    refine r_iload (q := 7) (i := 4) (pl := 4) C d_Md_setSize_5 rfl rfl ?_
    refine r_aload_n (q := 8) (i := 0) (pl := 0) C d_Md_setSize_7 rfl rfl rfl ?_
    refine r_gI (q := 11) C d_Md_setSize_8 rfl F_Md_196 rfl (fun v2 => ?_)
    refine r_icmp_ge (tgt := 39) (q := 14) C d_Md_setSize_11 (by decide) rfl ?_ ?_
    · refine r_iload_n (q := 40) (i := 3) (pl := 3) C d_Md_setSize_39 rfl rfl rfl ?_
      exact r_iret C d_Md_setSize_40 rfl
    · refine r_iload_n (q := 15) (i := 3) (pl := 3) C d_Md_setSize_14 rfl rfl rfl ?_
      refine r_aload_n (q := 16) (i := 0) (pl := 0) C d_Md_setSize_15 rfl rfl rfl ?_
      refine r_iload (q := 18) (i := 4) (pl := 4) C d_Md_setSize_16 rfl rfl ?_
      refine r_iload_n (q := 19) (i := 1) (pl := 1) C d_Md_setSize_18 rfl rfl rfl ?_
      refine r_iload_n (q := 20) (i := 2) (pl := 2) C d_Md_setSize_19 rfl rfl rfl ?_
      refine r_cvI (q := 23) (As := [vI x4, vI x1, vI x2]) (st := [vI x3]) (cy := 11) C d_Md_setSize_20 rfl Y_Md_isOf L_Md_200 I_Md_isOf Se_Md_isOf rfl (by decide) rfl (Nat.le_of_ble_eq_true rfl) (Nat.le_of_ble_eq_true rfl) (Nat.le_of_ble_eq_true rfl) rfl (fun a3 => con_Md_isOf a3 x4 x1 x2) (fun v4 => ?_)
      refine r_if_eq (tgt := 30) (q := 26) C d_Md_setSize_23 (by decide) rfl ?_ ?_
      · refine r_iconst (q := 31) (v := 0) C d_Md_setSize_30 rfl (by decide) ?_
        refine r_sub (lv' := [(0, vA (some a)), (1, vI x1), (2, vI x2), (4, vI x4)]) [0, 1, 2, 4] rfl ?_
        exact s_Md_setSize_31 C a (f_Md_setSize_5 a n) ih x1 x2 x4 x3 (0 : Int32)
      · refine r_iconst (q := 27) (v := 1) C d_Md_setSize_26 rfl (by decide) ?_
        refine r_goto (tgt := 31) C d_Md_setSize_27 (by decide) ?_
        refine r_sub (lv' := [(0, vA (some a)), (1, vI x1), (2, vI x2), (4, vI x4)]) [0, 1, 2, 4] rfl ?_
        exact s_Md_setSize_31 C a (f_Md_setSize_5 a n) ih x1 x2 x4 x3 (1 : Int32)
def f_Md_setSize (a : Nat) (x1 : Int32) (x2 : Int32) : sn_M := f_Md_setSize_5 a sn_fuel x1 x2 (0 : Int32) (0 : Int32)
set_option maxHeartbeats 4000000 in
set_option maxRecDepth 100000 in
theorem mono_Md_setSize (a : Nat) (x1 : Int32) (x2 : Int32) : sn_Mono (f_Md_setSize a x1 x2) := mono_Md_setSize_5 a sn_fuel x1 x2 (0 : Int32) (0 : Int32)
set_option maxHeartbeats 4000000 in
set_option maxRecDepth 100000 in
theorem con_Md_setSize (a : Nat) (x1 : Int32) (x2 : Int32) : sn_Con y_Md_setSize c_Md_setSize 5 (some .int) 1 23 [vA (some a), vI x1, vI x2] (f_Md_setSize a x1 x2) := by
  refine sn_Con.of (by decide +kernel) (by show _ ≤ _; exact Nat.le_of_ble_eq_true rfl) (mono_Md_setSize a x1 x2) (fun X C => ?_)
  show sn_S X 0 [(0, vA (some a)), (1, vI x1), (2, vI x2)] [] _
  replace C : sn_Cx X c_Md_setSize "SignalNetworkModel" (some .int) "setSize" 5 1 23 := C
  unfold f_Md_setSize
  refine r_iconst (q := 1) (v := 0) C d_Md_setSize_0 rfl (by decide) ?_
  refine r_istore_n (q := 2) (i := 3) (lv' := [(3, vI (0 : Int32)), (0, vA (some a)), (1, vI x1), (2, vI x2)]) C d_Md_setSize_1 rfl rfl (by decide) rfl ?_
  refine r_iconst (q := 3) (v := 0) C d_Md_setSize_2 rfl (by decide) ?_
  refine r_istore (q := 5) (i := 4) (lv' := [(4, vI (0 : Int32)), (3, vI (0 : Int32)), (0, vA (some a)), (1, vI x1), (2, vI x2)]) C d_Md_setSize_3 rfl (by decide) rfl ?_
  refine r_sub (lv' := [(0, vA (some a)), (1, vI x1), (2, vI x2), (3, vI (0 : Int32)), (4, vI (0 : Int32))]) [2, 3, 4, 1, 0] rfl ?_
  exact s_Md_setSize_5 C a sn_fuel x1 x2 (0 : Int32) (0 : Int32)
theorem d_Md_areNeighbours_0 : decode c_Md_areNeighbours 0 = .ok (.iload_n 1, 1) := by decide +kernel
theorem d_Md_areNeighbours_1 : decode c_Md_areNeighbours 1 = .ok (.invokestatic 204, 3) := by decide +kernel
theorem d_Md_areNeighbours_4 : decode c_Md_areNeighbours 4 = .ok (.ifCond .eq 28, 3) := by decide +kernel
theorem d_Md_areNeighbours_7 : decode c_Md_areNeighbours 7 = .ok (.iload_n 2, 1) := by decide +kernel
theorem d_Md_areNeighbours_8 : decode c_Md_areNeighbours 8 = .ok (.invokestatic 204, 3) := by decide +kernel
theorem d_Md_areNeighbours_11 : decode c_Md_areNeighbours 11 = .ok (.ifCond .eq 21, 3) := by decide +kernel
theorem d_Md_areNeighbours_14 : decode c_Md_areNeighbours 14 = .ok (.iload_n 1, 1) := by decide +kernel
theorem d_Md_areNeighbours_15 : decode c_Md_areNeighbours 15 = .ok (.iload_n 2, 1) := by decide +kernel
theorem d_Md_areNeighbours_16 : decode c_Md_areNeighbours 16 = .ok (.if_icmp .eq 16, 3) := by decide +kernel
theorem d_Md_areNeighbours_19 : decode c_Md_areNeighbours 19 = .ok (.aload_n 0, 1) := by decide +kernel
theorem d_Md_areNeighbours_20 : decode c_Md_areNeighbours 20 = .ok (.iload_n 1, 1) := by decide +kernel
theorem d_Md_areNeighbours_21 : decode c_Md_areNeighbours 21 = .ok (.iload_n 2, 1) := by decide +kernel
theorem d_Md_areNeighbours_22 : decode c_Md_areNeighbours 22 = .ok (.invokevirtual 208, 3) := by decide +kernel
theorem d_Md_areNeighbours_25 : decode c_Md_areNeighbours 25 = .ok (.ifCond .le 7, 3) := by decide +kernel
theorem d_Md_areNeighbours_28 : decode c_Md_areNeighbours 28 = .ok (.iconst 1, 1) := by decide +kernel
theorem d_Md_areNeighbours_29 : decode c_Md_areNeighbours 29 = .ok (.goto 4, 3) := by decide +kernel
theorem d_Md_areNeighbours_32 : decode c_Md_areNeighbours 32 = .ok (.iconst 0, 1) := by decide +kernel
theorem d_Md_areNeighbours_33 : decode c_Md_areNeighbours 33 = .ok (.ireturn, 1) := by decide +kernel
def f_Md_areNeighbours_33 (a : Nat) (t0 : Int32) : sn_M := r_Z t0
set_option maxHeartbeats 4000000 in
set_option maxRecDepth 100000 in
theorem mono_Md_areNeighbours_33 (a : Nat) (t0 : Int32) : sn_Mono (f_Md_areNeighbours_33 a t0) := sn_Mono.rZ
set_option maxHeartbeats 4000000 in
set_option maxRecDepth 100000 in
theorem s_Md_areNeighbours_33 {X : sn_X} (C : sn_Cx X c_Md_areNeighbours "SignalNetworkModel" (some .boolean) "areNeighbours" 3 2 47) (a : Nat) (t0 : Int32) : sn_S X 33 [(0, vA (some a))] [vI t0] (f_Md_areNeighbours_33 a t0) := by
  unfold f_Md_areNeighbours_33
  exact r_zret C d_Md_areNeighbours_33 rfl
def f_Md_areNeighbours_32 (a : Nat) : sn_M := f_Md_areNeighbours_33 a (0 : Int32)
set_option maxHeartbeats 4000000 in
set_option maxRecDepth 100000 in
theorem mono_Md_areNeighbours_32 (a : Nat) : sn_Mono (f_Md_areNeighbours_32 a) := mono_Md_areNeighbours_33 a (0 : Int32)
set_option maxHeartbeats 4000000 in
set_option maxRecDepth 100000 in
theorem s_Md_areNeighbours_32 {X : sn_X} (C : sn_Cx X c_Md_areNeighbours "SignalNetworkModel" (some .boolean) "areNeighbours" 3 2 47) (a : Nat) : sn_S X 32 [(0, vA (some a))] [] (f_Md_areNeighbours_32 a) := by
  unfold f_Md_areNeighbours_32
  refine r_iconst (q := 33) (v := 0) C d_Md_areNeighbours_32 rfl (by decide) ?_
  exact s_Md_areNeighbours_33 C a (0 : Int32)
def f_Md_areNeighbours (a : Nat) (x1 : Int32) (x2 : Int32) : sn_M := c_I (f_Md_isExchange x1) fun v1 => (if v1 = 0 then f_Md_areNeighbours_32 a else c_I (f_Md_isExchange x2) fun v2 => (if v2 = 0 then f_Md_areNeighbours_32 a else (if x1 = x2 then f_Md_areNeighbours_32 a else n_n 12 (some a) fun a3 => c_I (f_Md_setSize a3 x1 x2) fun v4 => (if v4 ≤ 0 then f_Md_areNeighbours_32 a else f_Md_areNeighbours_33 a (1 : Int32)))))
set_option maxHeartbeats 4000000 in
set_option maxRecDepth 100000 in
theorem mono_Md_areNeighbours (a : Nat) (x1 : Int32) (x2 : Int32) : sn_Mono (f_Md_areNeighbours a x1 x2) := sn_Mono.cI (mono_Md_isExchange x1) (fun v1 => sn_Mono.ite (mono_Md_areNeighbours_32 a) (sn_Mono.cI (mono_Md_isExchange x2) (fun v2 => sn_Mono.ite (mono_Md_areNeighbours_32 a) (sn_Mono.ite (mono_Md_areNeighbours_32 a) (sn_Mono.nn (fun a3 => sn_Mono.cI (mono_Md_setSize a3 x1 x2) (fun v4 => sn_Mono.ite (mono_Md_areNeighbours_32 a) (mono_Md_areNeighbours_33 a (1 : Int32)))))))))
set_option maxHeartbeats 4000000 in
set_option maxRecDepth 100000 in
theorem con_Md_areNeighbours (a : Nat) (x1 : Int32) (x2 : Int32) : sn_Con y_Md_areNeighbours c_Md_areNeighbours 3 (some .boolean) 2 47 [vA (some a), vI x1, vI x2] (f_Md_areNeighbours a x1 x2) := by
  refine sn_Con.of (by decide +kernel) (by show _ ≤ _; exact Nat.le_of_ble_eq_true rfl) (mono_Md_areNeighbours a x1 x2) (fun X C => ?_)
  show sn_S X 0 [(0, vA (some a)), (1, vI x1), (2, vI x2)] [] _
  replace C : sn_Cx X c_Md_areNeighbours "SignalNetworkModel" (some .boolean) "areNeighbours" 3 2 47 := C
  unfold f_Md_areNeighbours
  refine r_iload_n (q := 1) (i := 1) (pl := 1) C d_Md_areNeighbours_0 rfl rfl rfl ?_
  refine r_csI (q := 4) (As := [vI x1]) (st := []) C d_Md_areNeighbours_1 rfl Y_Md_isExchange L_Md_204 St_Md_isExchange rfl (Nat.le_of_ble_eq_true rfl) (Nat.le_of_ble_eq_true rfl) (Nat.le_of_ble_eq_true rfl) rfl (con_Md_isExchange x1) (fun v1 => ?_)
  refine r_if_eq (tgt := 32) (q := 7) C d_Md_areNeighbours_4 (by decide) rfl ?_ ?_
  · refine r_sub (lv' := [(0, vA (some a))]) [0] rfl ?_
    exact s_Md_areNeighbours_32 C a
  · refine r_iload_n (q := 8) (i := 2) (pl := 2) C d_Md_areNeighbours_7 rfl rfl rfl ?_
    refine r_csI (q := 11) (As := [vI x2]) (st := []) C d_Md_areNeighbours_8 rfl Y_Md_isExchange L_Md_204 St_Md_isExchange rfl (Nat.le_of_ble_eq_true rfl) (Nat.le_of_ble_eq_true rfl) (Nat.le_of_ble_eq_true rfl) rfl (con_Md_isExchange x2) (fun v2 => ?_)
    refine r_if_eq (tgt := 32) (q := 14) C d_Md_areNeighbours_11 (by decide) rfl ?_ ?_
    · refine r_sub (lv' := [(0, vA (some a))]) [0] rfl ?_
      exact s_Md_areNeighbours_32 C a
    · refine r_iload_n (q := 15) (i := 1) (pl := 1) C d_Md_areNeighbours_14 rfl rfl rfl ?_
      refine r_iload_n (q := 16) (i := 2) (pl := 2) C d_Md_areNeighbours_15 rfl rfl rfl ?_
      refine r_icmp_eq (tgt := 32) (q := 19) C d_Md_areNeighbours_16 (by decide) rfl ?_ ?_
      · refine r_sub (lv' := [(0, vA (some a))]) [0] rfl ?_
        exact s_Md_areNeighbours_32 C a
      · refine r_aload_n (q := 20) (i := 0) (pl := 0) C d_Md_areNeighbours_19 rfl rfl rfl ?_
        refine r_iload_n (q := 21) (i := 1) (pl := 1) C d_Md_areNeighbours_20 rfl rfl rfl ?_
        refine r_iload_n (q := 22) (i := 2) (pl := 2) C d_Md_areNeighbours_21 rfl rfl rfl ?_
        refine r_cvI (q := 25) (As := [vI x1, vI x2]) (st := []) (cy := 11) C d_Md_areNeighbours_22 rfl Y_Md_setSize L_Md_208 I_Md_setSize Se_Md_setSize rfl (by decide) rfl (Nat.le_of_ble_eq_true rfl) (Nat.le_of_ble_eq_true rfl) (Nat.le_of_ble_eq_true rfl) rfl (fun a3 => con_Md_setSize a3 x1 x2) (fun v4 => ?_)
        refine r_if_le (tgt := 32) (q := 28) C d_Md_areNeighbours_25 (by decide) rfl ?_ ?_
        · refine r_sub (lv' := [(0, vA (some a))]) [0] rfl ?_
          exact s_Md_areNeighbours_32 C a
        · refine r_iconst (q := 29) (v := 1) C d_Md_areNeighbours_28 rfl (by decide) ?_
          refine r_goto (tgt := 33) C d_Md_areNeighbours_29 (by decide) ?_
          refine r_sub (lv' := [(0, vA (some a))]) [0] rfl ?_
          exact s_Md_areNeighbours_33 C a (1 : Int32)
theorem d_Md_endAt_0 : decode c_Md_endAt 0 = .ok (.iconst 2, 1) := by decide +kernel
theorem d_Md_endAt_1 : decode c_Md_endAt 1 = .ok (.iload_n 1, 1) := by decide +kernel
theorem d_Md_endAt_2 : decode c_Md_endAt 2 = .ok (.imul, 1) := by decide +kernel
theorem d_Md_endAt_3 : decode c_Md_endAt 3 = .ok (.aload_n 0, 1) := by decide +kernel
theorem d_Md_endAt_4 : decode c_Md_endAt 4 = .ok (.getfield 7, 3) := by decide +kernel
theorem d_Md_endAt_7 : decode c_Md_endAt 7 = .ok (.iload_n 1, 1) := by decide +kernel
theorem d_Md_endAt_8 : decode c_Md_endAt 8 = .ok (.iaload, 1) := by decide +kernel
theorem d_Md_endAt_9 : decode c_Md_endAt 9 = .ok (.iload_n 2, 1) := by decide +kernel
theorem d_Md_endAt_10 : decode c_Md_endAt 10 = .ok (.if_icmp .ne 7, 3) := by decide +kernel
theorem d_Md_endAt_13 : decode c_Md_endAt 13 = .ok (.iconst 0, 1) := by decide +kernel
theorem d_Md_endAt_14 : decode c_Md_endAt 14 = .ok (.goto 4, 3) := by decide +kernel
theorem d_Md_endAt_17 : decode c_Md_endAt 17 = .ok (.iconst 1, 1) := by decide +kernel
theorem d_Md_endAt_18 : decode c_Md_endAt 18 = .ok (.iadd, 1) := by decide +kernel
theorem d_Md_endAt_19 : decode c_Md_endAt 19 = .ok (.ireturn, 1) := by decide +kernel
def f_Md_endAt_18 (a : Nat) (t0 : Int32) (t1 : Int32) : sn_M := r_I (t0 + t1)
set_option maxHeartbeats 4000000 in
set_option maxRecDepth 100000 in
theorem mono_Md_endAt_18 (a : Nat) (t0 : Int32) (t1 : Int32) : sn_Mono (f_Md_endAt_18 a t0 t1) := sn_Mono.rI
set_option maxHeartbeats 4000000 in
set_option maxRecDepth 100000 in
theorem s_Md_endAt_18 {X : sn_X} (C : sn_Cx X c_Md_endAt "SignalNetworkModel" (some .int) "endAt" 3 0 0) (a : Nat) (t0 : Int32) (t1 : Int32) : sn_S X 18 [(0, vA (some a))] [vI t1, vI t0] (f_Md_endAt_18 a t0 t1) := by
  unfold f_Md_endAt_18
  refine r_iadd (q := 19) C d_Md_endAt_18 rfl ?_
  exact r_iret C d_Md_endAt_19 rfl
def f_Md_endAt (a : Nat) (x1 : Int32) (x2 : Int32) : sn_M := g_R 12 0 (some a) fun v1 => a_I 31 v1 x1 fun v2 => (if ¬ v2 = x2 then f_Md_endAt_18 a ((2 : Int32) * x1) (1 : Int32) else f_Md_endAt_18 a ((2 : Int32) * x1) (0 : Int32))
set_option maxHeartbeats 4000000 in
set_option maxRecDepth 100000 in
theorem mono_Md_endAt (a : Nat) (x1 : Int32) (x2 : Int32) : sn_Mono (f_Md_endAt a x1 x2) := sn_Mono.gR (fun v1 => sn_Mono.aI (fun v2 => sn_Mono.ite (mono_Md_endAt_18 a ((2 : Int32) * x1) (1 : Int32)) (mono_Md_endAt_18 a ((2 : Int32) * x1) (0 : Int32))))
set_option maxHeartbeats 4000000 in
set_option maxRecDepth 100000 in
theorem con_Md_endAt (a : Nat) (x1 : Int32) (x2 : Int32) : sn_Con y_Md_endAt c_Md_endAt 3 (some .int) 0 0 [vA (some a), vI x1, vI x2] (f_Md_endAt a x1 x2) := by
  refine sn_Con.of (by decide +kernel) (by show _ ≤ _; exact Nat.le_of_ble_eq_true rfl) (mono_Md_endAt a x1 x2) (fun X C => ?_)
  show sn_S X 0 [(0, vA (some a)), (1, vI x1), (2, vI x2)] [] _
  replace C : sn_Cx X c_Md_endAt "SignalNetworkModel" (some .int) "endAt" 3 0 0 := C
  unfold f_Md_endAt
  refine r_iconst (q := 1) (v := 2) C d_Md_endAt_0 rfl (by decide) ?_
  refine r_iload_n (q := 2) (i := 1) (pl := 1) C d_Md_endAt_1 rfl rfl rfl ?_
  refine r_imul (q := 3) C d_Md_endAt_2 rfl ?_
  refine r_aload_n (q := 4) (i := 0) (pl := 0) C d_Md_endAt_3 rfl rfl rfl ?_
  refine r_gR (q := 7) C d_Md_endAt_4 rfl F_Md_7 rfl (fun v1 => ?_)
  refine r_iload_n (q := 8) (i := 1) (pl := 1) C d_Md_endAt_7 rfl rfl rfl ?_
  refine r_aI (q := 9) C (Or.inr rfl) d_Md_endAt_8 rfl (fun v2 => ?_)
  refine r_iload_n (q := 10) (i := 2) (pl := 2) C d_Md_endAt_9 rfl rfl rfl ?_
  refine r_icmp_ne (tgt := 17) (q := 13) C d_Md_endAt_10 (by decide) rfl ?_ ?_
  · refine r_iconst (q := 18) (v := 1) C d_Md_endAt_17 rfl (by decide) ?_
    refine r_sub (lv' := [(0, vA (some a))]) [0] rfl ?_
    exact s_Md_endAt_18 C a ((2 : Int32) * x1) (1 : Int32)
  · refine r_iconst (q := 14) (v := 0) C d_Md_endAt_13 rfl (by decide) ?_
    refine r_goto (tgt := 18) C d_Md_endAt_14 (by decide) ?_
    refine r_sub (lv' := [(0, vA (some a))]) [0] rfl ?_
    exact s_Md_endAt_18 C a ((2 : Int32) * x1) (0 : Int32)
theorem d_Md_exchangeOf_0 : decode c_Md_exchangeOf 0 = .ok (.iload_n 1, 1) := by decide +kernel
theorem d_Md_exchangeOf_1 : decode c_Md_exchangeOf 1 = .ok (.iconst 1, 1) := by decide +kernel
theorem d_Md_exchangeOf_2 : decode c_Md_exchangeOf 2 = .ok (.iand, 1) := by decide +kernel
theorem d_Md_exchangeOf_3 : decode c_Md_exchangeOf 3 = .ok (.ifCond .ne 14, 3) := by decide +kernel
theorem d_Md_exchangeOf_6 : decode c_Md_exchangeOf 6 = .ok (.aload_n 0, 1) := by decide +kernel
theorem d_Md_exchangeOf_7 : decode c_Md_exchangeOf 7 = .ok (.getfield 7, 3) := by decide +kernel
theorem d_Md_exchangeOf_10 : decode c_Md_exchangeOf 10 = .ok (.iload_n 1, 1) := by decide +kernel
theorem d_Md_exchangeOf_11 : decode c_Md_exchangeOf 11 = .ok (.iconst 1, 1) := by decide +kernel
theorem d_Md_exchangeOf_12 : decode c_Md_exchangeOf 12 = .ok (.ishr, 1) := by decide +kernel
theorem d_Md_exchangeOf_13 : decode c_Md_exchangeOf 13 = .ok (.iaload, 1) := by decide +kernel
theorem d_Md_exchangeOf_14 : decode c_Md_exchangeOf 14 = .ok (.goto 11, 3) := by decide +kernel
theorem d_Md_exchangeOf_17 : decode c_Md_exchangeOf 17 = .ok (.aload_n 0, 1) := by decide +kernel
theorem d_Md_exchangeOf_18 : decode c_Md_exchangeOf 18 = .ok (.getfield 13, 3) := by decide +kernel
theorem d_Md_exchangeOf_21 : decode c_Md_exchangeOf 21 = .ok (.iload_n 1, 1) := by decide +kernel
theorem d_Md_exchangeOf_22 : decode c_Md_exchangeOf 22 = .ok (.iconst 1, 1) := by decide +kernel
theorem d_Md_exchangeOf_23 : decode c_Md_exchangeOf 23 = .ok (.ishr, 1) := by decide +kernel
theorem d_Md_exchangeOf_24 : decode c_Md_exchangeOf 24 = .ok (.iaload, 1) := by decide +kernel
theorem d_Md_exchangeOf_25 : decode c_Md_exchangeOf 25 = .ok (.ireturn, 1) := by decide +kernel
def f_Md_exchangeOf_25 (a : Nat) (t0 : Int32) : sn_M := r_I t0
set_option maxHeartbeats 4000000 in
set_option maxRecDepth 100000 in
theorem mono_Md_exchangeOf_25 (a : Nat) (t0 : Int32) : sn_Mono (f_Md_exchangeOf_25 a t0) := sn_Mono.rI
set_option maxHeartbeats 4000000 in
set_option maxRecDepth 100000 in
theorem s_Md_exchangeOf_25 {X : sn_X} (C : sn_Cx X c_Md_exchangeOf "SignalNetworkModel" (some .int) "exchangeOf" 2 0 0) (a : Nat) (t0 : Int32) : sn_S X 25 [(0, vA (some a))] [vI t0] (f_Md_exchangeOf_25 a t0) := by
  unfold f_Md_exchangeOf_25
  exact r_iret C d_Md_exchangeOf_25 rfl
def f_Md_exchangeOf (a : Nat) (x1 : Int32) : sn_M := (if ¬ (x1 &&& (1 : Int32)) = 0 then g_R 12 1 (some a) fun v1 => a_I 31 v1 (x1 >>> ((1 : Int32) &&& 31)) fun v2 => f_Md_exchangeOf_25 a v2 else g_R 12 0 (some a) fun v3 => a_I 31 v3 (x1 >>> ((1 : Int32) &&& 31)) fun v4 => f_Md_exchangeOf_25 a v4)
set_option maxHeartbeats 4000000 in
set_option maxRecDepth 100000 in
theorem mono_Md_exchangeOf (a : Nat) (x1 : Int32) : sn_Mono (f_Md_exchangeOf a x1) := sn_Mono.ite (sn_Mono.gR (fun v1 => sn_Mono.aI (fun v2 => mono_Md_exchangeOf_25 a v2))) (sn_Mono.gR (fun v3 => sn_Mono.aI (fun v4 => mono_Md_exchangeOf_25 a v4)))
set_option maxHeartbeats 4000000 in
set_option maxRecDepth 100000 in
theorem con_Md_exchangeOf (a : Nat) (x1 : Int32) : sn_Con y_Md_exchangeOf c_Md_exchangeOf 2 (some .int) 0 0 [vA (some a), vI x1] (f_Md_exchangeOf a x1) := by
  refine sn_Con.of (by decide +kernel) (by show _ ≤ _; exact Nat.le_of_ble_eq_true rfl) (mono_Md_exchangeOf a x1) (fun X C => ?_)
  show sn_S X 0 [(0, vA (some a)), (1, vI x1)] [] _
  replace C : sn_Cx X c_Md_exchangeOf "SignalNetworkModel" (some .int) "exchangeOf" 2 0 0 := C
  unfold f_Md_exchangeOf
  refine r_iload_n (q := 1) (i := 1) (pl := 1) C d_Md_exchangeOf_0 rfl rfl rfl ?_
  refine r_iconst (q := 2) (v := 1) C d_Md_exchangeOf_1 rfl (by decide) ?_
  refine r_iand (q := 3) C d_Md_exchangeOf_2 rfl ?_
  refine r_if_ne (tgt := 17) (q := 6) C d_Md_exchangeOf_3 (by decide) rfl ?_ ?_
  · refine r_aload_n (q := 18) (i := 0) (pl := 0) C d_Md_exchangeOf_17 rfl rfl rfl ?_
    refine r_gR (q := 21) C d_Md_exchangeOf_18 rfl F_Md_13 rfl (fun v1 => ?_)
    refine r_iload_n (q := 22) (i := 1) (pl := 1) C d_Md_exchangeOf_21 rfl rfl rfl ?_
    refine r_iconst (q := 23) (v := 1) C d_Md_exchangeOf_22 rfl (by decide) ?_
    refine r_ishr (q := 24) C d_Md_exchangeOf_23 rfl ?_
    refine r_aI (q := 25) C (Or.inr rfl) d_Md_exchangeOf_24 rfl (fun v2 => ?_)
    refine r_sub (lv' := [(0, vA (some a))]) [0] rfl ?_
    exact s_Md_exchangeOf_25 C a v2
  · refine r_aload_n (q := 7) (i := 0) (pl := 0) C d_Md_exchangeOf_6 rfl rfl rfl ?_
    refine r_gR (q := 10) C d_Md_exchangeOf_7 rfl F_Md_7 rfl (fun v3 => ?_)
    refine r_iload_n (q := 11) (i := 1) (pl := 1) C d_Md_exchangeOf_10 rfl rfl rfl ?_
    refine r_iconst (q := 12) (v := 1) C d_Md_exchangeOf_11 rfl (by decide) ?_
    refine r_ishr (q := 13) C d_Md_exchangeOf_12 rfl ?_
    refine r_aI (q := 14) C (Or.inr rfl) d_Md_exchangeOf_13 rfl (fun v4 => ?_)
    refine r_goto (tgt := 25) C d_Md_exchangeOf_14 (by decide) ?_
    refine r_sub (lv' := [(0, vA (some a))]) [0] rfl ?_
    exact s_Md_exchangeOf_25 C a v4
theorem d_Md_otherOf_0 : decode c_Md_otherOf 0 = .ok (.iload_n 1, 1) := by decide +kernel
theorem d_Md_otherOf_1 : decode c_Md_otherOf 1 = .ok (.iconst 1, 1) := by decide +kernel
theorem d_Md_otherOf_2 : decode c_Md_otherOf 2 = .ok (.iand, 1) := by decide +kernel
theorem d_Md_otherOf_3 : decode c_Md_otherOf 3 = .ok (.ifCond .ne 14, 3) := by decide +kernel
theorem d_Md_otherOf_6 : decode c_Md_otherOf 6 = .ok (.aload_n 0, 1) := by decide +kernel
theorem d_Md_otherOf_7 : decode c_Md_otherOf 7 = .ok (.getfield 13, 3) := by decide +kernel
theorem d_Md_otherOf_10 : decode c_Md_otherOf 10 = .ok (.iload_n 1, 1) := by decide +kernel
theorem d_Md_otherOf_11 : decode c_Md_otherOf 11 = .ok (.iconst 1, 1) := by decide +kernel
theorem d_Md_otherOf_12 : decode c_Md_otherOf 12 = .ok (.ishr, 1) := by decide +kernel
theorem d_Md_otherOf_13 : decode c_Md_otherOf 13 = .ok (.iaload, 1) := by decide +kernel
theorem d_Md_otherOf_14 : decode c_Md_otherOf 14 = .ok (.goto 11, 3) := by decide +kernel
theorem d_Md_otherOf_17 : decode c_Md_otherOf 17 = .ok (.aload_n 0, 1) := by decide +kernel
theorem d_Md_otherOf_18 : decode c_Md_otherOf 18 = .ok (.getfield 7, 3) := by decide +kernel
theorem d_Md_otherOf_21 : decode c_Md_otherOf 21 = .ok (.iload_n 1, 1) := by decide +kernel
theorem d_Md_otherOf_22 : decode c_Md_otherOf 22 = .ok (.iconst 1, 1) := by decide +kernel
theorem d_Md_otherOf_23 : decode c_Md_otherOf 23 = .ok (.ishr, 1) := by decide +kernel
theorem d_Md_otherOf_24 : decode c_Md_otherOf 24 = .ok (.iaload, 1) := by decide +kernel
theorem d_Md_otherOf_25 : decode c_Md_otherOf 25 = .ok (.ireturn, 1) := by decide +kernel
def f_Md_otherOf_25 (a : Nat) (t0 : Int32) : sn_M := r_I t0
set_option maxHeartbeats 4000000 in
set_option maxRecDepth 100000 in
theorem mono_Md_otherOf_25 (a : Nat) (t0 : Int32) : sn_Mono (f_Md_otherOf_25 a t0) := sn_Mono.rI
set_option maxHeartbeats 4000000 in
set_option maxRecDepth 100000 in
theorem s_Md_otherOf_25 {X : sn_X} (C : sn_Cx X c_Md_otherOf "SignalNetworkModel" (some .int) "otherOf" 2 0 0) (a : Nat) (t0 : Int32) : sn_S X 25 [(0, vA (some a))] [vI t0] (f_Md_otherOf_25 a t0) := by
  unfold f_Md_otherOf_25
  exact r_iret C d_Md_otherOf_25 rfl
def f_Md_otherOf (a : Nat) (x1 : Int32) : sn_M := (if ¬ (x1 &&& (1 : Int32)) = 0 then g_R 12 0 (some a) fun v1 => a_I 31 v1 (x1 >>> ((1 : Int32) &&& 31)) fun v2 => f_Md_otherOf_25 a v2 else g_R 12 1 (some a) fun v3 => a_I 31 v3 (x1 >>> ((1 : Int32) &&& 31)) fun v4 => f_Md_otherOf_25 a v4)
set_option maxHeartbeats 4000000 in
set_option maxRecDepth 100000 in
theorem mono_Md_otherOf (a : Nat) (x1 : Int32) : sn_Mono (f_Md_otherOf a x1) := sn_Mono.ite (sn_Mono.gR (fun v1 => sn_Mono.aI (fun v2 => mono_Md_otherOf_25 a v2))) (sn_Mono.gR (fun v3 => sn_Mono.aI (fun v4 => mono_Md_otherOf_25 a v4)))
set_option maxHeartbeats 4000000 in
set_option maxRecDepth 100000 in
theorem con_Md_otherOf (a : Nat) (x1 : Int32) : sn_Con y_Md_otherOf c_Md_otherOf 2 (some .int) 0 0 [vA (some a), vI x1] (f_Md_otherOf a x1) := by
  refine sn_Con.of (by decide +kernel) (by show _ ≤ _; exact Nat.le_of_ble_eq_true rfl) (mono_Md_otherOf a x1) (fun X C => ?_)
  show sn_S X 0 [(0, vA (some a)), (1, vI x1)] [] _
  replace C : sn_Cx X c_Md_otherOf "SignalNetworkModel" (some .int) "otherOf" 2 0 0 := C
  unfold f_Md_otherOf
  refine r_iload_n (q := 1) (i := 1) (pl := 1) C d_Md_otherOf_0 rfl rfl rfl ?_
  refine r_iconst (q := 2) (v := 1) C d_Md_otherOf_1 rfl (by decide) ?_
  refine r_iand (q := 3) C d_Md_otherOf_2 rfl ?_
  refine r_if_ne (tgt := 17) (q := 6) C d_Md_otherOf_3 (by decide) rfl ?_ ?_
  · refine r_aload_n (q := 18) (i := 0) (pl := 0) C d_Md_otherOf_17 rfl rfl rfl ?_
    refine r_gR (q := 21) C d_Md_otherOf_18 rfl F_Md_7 rfl (fun v1 => ?_)
    refine r_iload_n (q := 22) (i := 1) (pl := 1) C d_Md_otherOf_21 rfl rfl rfl ?_
    refine r_iconst (q := 23) (v := 1) C d_Md_otherOf_22 rfl (by decide) ?_
    refine r_ishr (q := 24) C d_Md_otherOf_23 rfl ?_
    refine r_aI (q := 25) C (Or.inr rfl) d_Md_otherOf_24 rfl (fun v2 => ?_)
    refine r_sub (lv' := [(0, vA (some a))]) [0] rfl ?_
    exact s_Md_otherOf_25 C a v2
  · refine r_aload_n (q := 7) (i := 0) (pl := 0) C d_Md_otherOf_6 rfl rfl rfl ?_
    refine r_gR (q := 10) C d_Md_otherOf_7 rfl F_Md_13 rfl (fun v3 => ?_)
    refine r_iload_n (q := 11) (i := 1) (pl := 1) C d_Md_otherOf_10 rfl rfl rfl ?_
    refine r_iconst (q := 12) (v := 1) C d_Md_otherOf_11 rfl (by decide) ?_
    refine r_ishr (q := 13) C d_Md_otherOf_12 rfl ?_
    refine r_aI (q := 14) C (Or.inr rfl) d_Md_otherOf_13 rfl (fun v4 => ?_)
    refine r_goto (tgt := 25) C d_Md_otherOf_14 (by decide) ?_
    refine r_sub (lv' := [(0, vA (some a))]) [0] rfl ?_
    exact s_Md_otherOf_25 C a v4
theorem d_Md_flowAt_0 : decode c_Md_flowAt 0 = .ok (.bipush 24, 2) := by decide +kernel
theorem d_Md_flowAt_2 : decode c_Md_flowAt 2 = .ok (.iload_n 1, 1) := by decide +kernel
theorem d_Md_flowAt_3 : decode c_Md_flowAt 3 = .ok (.imul, 1) := by decide +kernel
theorem d_Md_flowAt_4 : decode c_Md_flowAt 4 = .ok (.iconst 4, 1) := by decide +kernel
theorem d_Md_flowAt_5 : decode c_Md_flowAt 5 = .ok (.iload_n 2, 1) := by decide +kernel
theorem d_Md_flowAt_6 : decode c_Md_flowAt 6 = .ok (.imul, 1) := by decide +kernel
theorem d_Md_flowAt_7 : decode c_Md_flowAt 7 = .ok (.iadd, 1) := by decide +kernel
theorem d_Md_flowAt_8 : decode c_Md_flowAt 8 = .ok (.iload_n 3, 1) := by decide +kernel
theorem d_Md_flowAt_9 : decode c_Md_flowAt 9 = .ok (.iadd, 1) := by decide +kernel
theorem d_Md_flowAt_10 : decode c_Md_flowAt 10 = .ok (.ireturn, 1) := by decide +kernel
def f_Md_flowAt (a : Nat) (x1 : Int32) (x2 : Int32) (x3 : Int32) : sn_M := r_I ((((24 : Int32) * x1) + ((4 : Int32) * x2)) + x3)
set_option maxHeartbeats 4000000 in
set_option maxRecDepth 100000 in
theorem mono_Md_flowAt (a : Nat) (x1 : Int32) (x2 : Int32) (x3 : Int32) : sn_Mono (f_Md_flowAt a x1 x2 x3) := sn_Mono.rI
set_option maxHeartbeats 4000000 in
set_option maxRecDepth 100000 in
theorem con_Md_flowAt (a : Nat) (x1 : Int32) (x2 : Int32) (x3 : Int32) : sn_Con y_Md_flowAt c_Md_flowAt 4 (some .int) 0 0 [vA (some a), vI x1, vI x2, vI x3] (f_Md_flowAt a x1 x2 x3) := by
  refine sn_Con.of (by decide +kernel) (by show _ ≤ _; exact Nat.le_of_ble_eq_true rfl) (mono_Md_flowAt a x1 x2 x3) (fun X C => ?_)
  show sn_S X 0 [(0, vA (some a)), (1, vI x1), (2, vI x2), (3, vI x3)] [] _
  replace C : sn_Cx X c_Md_flowAt "SignalNetworkModel" (some .int) "flowAt" 4 0 0 := C
  unfold f_Md_flowAt
  refine r_bipush (q := 2) (v := 24) C d_Md_flowAt_0 rfl (by decide) ?_
  refine r_iload_n (q := 3) (i := 1) (pl := 1) C d_Md_flowAt_2 rfl rfl rfl ?_
  refine r_imul (q := 4) C d_Md_flowAt_3 rfl ?_
  refine r_iconst (q := 5) (v := 4) C d_Md_flowAt_4 rfl (by decide) ?_
  refine r_iload_n (q := 6) (i := 2) (pl := 2) C d_Md_flowAt_5 rfl rfl rfl ?_
  refine r_imul (q := 7) C d_Md_flowAt_6 rfl ?_
  refine r_iadd (q := 8) C d_Md_flowAt_7 rfl ?_
  refine r_iload_n (q := 9) (i := 3) (pl := 3) C d_Md_flowAt_8 rfl rfl rfl ?_
  refine r_iadd (q := 10) C d_Md_flowAt_9 rfl ?_
  exact r_iret C d_Md_flowAt_10 rfl
theorem d_Md_isOpen_0 : decode c_Md_isOpen 0 = .ok (.aload_n 0, 1) := by decide +kernel
theorem d_Md_isOpen_1 : decode c_Md_isOpen 1 = .ok (.getfield 117, 3) := by decide +kernel
theorem d_Md_isOpen_4 : decode c_Md_isOpen 4 = .ok (.aload_n 0, 1) := by decide +kernel
theorem d_Md_isOpen_5 : decode c_Md_isOpen 5 = .ok (.iload_n 1, 1) := by decide +kernel
theorem d_Md_isOpen_6 : decode c_Md_isOpen 6 = .ok (.iload_n 2, 1) := by decide +kernel
theorem d_Md_isOpen_7 : decode c_Md_isOpen 7 = .ok (.iload_n 3, 1) := by decide +kernel
theorem d_Md_isOpen_8 : decode c_Md_isOpen 8 = .ok (.invokevirtual 212, 3) := by decide +kernel
theorem d_Md_isOpen_11 : decode c_Md_isOpen 11 = .ok (.iaload, 1) := by decide +kernel
theorem d_Md_isOpen_12 : decode c_Md_isOpen 12 = .ok (.iconst (-1), 1) := by decide +kernel
theorem d_Md_isOpen_13 : decode c_Md_isOpen 13 = .ok (.if_icmp .ne 18, 3) := by decide +kernel
theorem d_Md_isOpen_16 : decode c_Md_isOpen 16 = .ok (.aload_n 0, 1) := by decide +kernel
theorem d_Md_isOpen_17 : decode c_Md_isOpen 17 = .ok (.getfield 120, 3) := by decide +kernel
theorem d_Md_isOpen_20 : decode c_Md_isOpen 20 = .ok (.aload_n 0, 1) := by decide +kernel
theorem d_Md_isOpen_21 : decode c_Md_isOpen 21 = .ok (.iload_n 1, 1) := by decide +kernel
theorem d_Md_isOpen_22 : decode c_Md_isOpen 22 = .ok (.iload_n 2, 1) := by decide +kernel
theorem d_Md_isOpen_23 : decode c_Md_isOpen 23 = .ok (.iload_n 3, 1) := by decide +kernel
theorem d_Md_isOpen_24 : decode c_Md_isOpen 24 = .ok (.invokevirtual 212, 3) := by decide +kernel
theorem d_Md_isOpen_27 : decode c_Md_isOpen 27 = .ok (.iaload, 1) := by decide +kernel
theorem d_Md_isOpen_28 : decode c_Md_isOpen 28 = .ok (.ifCond .eq 7, 3) := by decide +kernel
theorem d_Md_isOpen_31 : decode c_Md_isOpen 31 = .ok (.iconst 1, 1) := by decide +kernel
theorem d_Md_isOpen_32 : decode c_Md_isOpen 32 = .ok (.goto 4, 3) := by decide +kernel
theorem d_Md_isOpen_35 : decode c_Md_isOpen 35 = .ok (.iconst 0, 1) := by decide +kernel
theorem d_Md_isOpen_36 : decode c_Md_isOpen 36 = .ok (.ireturn, 1) := by decide +kernel
def f_Md_isOpen_36 (a : Nat) (t0 : Int32) : sn_M := r_Z t0
set_option maxHeartbeats 4000000 in
set_option maxRecDepth 100000 in
theorem mono_Md_isOpen_36 (a : Nat) (t0 : Int32) : sn_Mono (f_Md_isOpen_36 a t0) := sn_Mono.rZ
set_option maxHeartbeats 4000000 in
set_option maxRecDepth 100000 in
theorem s_Md_isOpen_36 {X : sn_X} (C : sn_Cx X c_Md_isOpen "SignalNetworkModel" (some .boolean) "isOpen" 4 1 23) (a : Nat) (t0 : Int32) : sn_S X 36 [(0, vA (some a))] [vI t0] (f_Md_isOpen_36 a t0) := by
  unfold f_Md_isOpen_36
  exact r_zret C d_Md_isOpen_36 rfl
def f_Md_isOpen_31 (a : Nat) : sn_M := f_Md_isOpen_36 a (1 : Int32)
set_option maxHeartbeats 4000000 in
set_option maxRecDepth 100000 in
theorem mono_Md_isOpen_31 (a : Nat) : sn_Mono (f_Md_isOpen_31 a) := mono_Md_isOpen_36 a (1 : Int32)
set_option maxHeartbeats 4000000 in
set_option maxRecDepth 100000 in
theorem s_Md_isOpen_31 {X : sn_X} (C : sn_Cx X c_Md_isOpen "SignalNetworkModel" (some .boolean) "isOpen" 4 1 23) (a : Nat) : sn_S X 31 [(0, vA (some a))] [] (f_Md_isOpen_31 a) := by
  unfold f_Md_isOpen_31
  refine r_iconst (q := 32) (v := 1) C d_Md_isOpen_31 rfl (by decide) ?_
  refine r_goto (tgt := 36) C d_Md_isOpen_32 (by decide) ?_
  exact s_Md_isOpen_36 C a (1 : Int32)
def f_Md_isOpen (a : Nat) (x1 : Int32) (x2 : Int32) (x3 : Int32) : sn_M := g_R 12 41 (some a) fun v1 => n_n 12 (some a) fun a2 => c_I (f_Md_flowAt a2 x1 x2 x3) fun v3 => a_I 31 v1 v3 fun v4 => (if ¬ v4 = (-1 : Int32) then f_Md_isOpen_31 a else g_R 12 42 (some a) fun v5 => n_n 12 (some a) fun a6 => c_I (f_Md_flowAt a6 x1 x2 x3) fun v7 => a_I 31 v5 v7 fun v8 => (if v8 = 0 then f_Md_isOpen_36 a (0 : Int32) else f_Md_isOpen_31 a))
set_option maxHeartbeats 4000000 in
set_option maxRecDepth 100000 in
theorem mono_Md_isOpen (a : Nat) (x1 : Int32) (x2 : Int32) (x3 : Int32) : sn_Mono (f_Md_isOpen a x1 x2 x3) := sn_Mono.gR (fun v1 => sn_Mono.nn (fun a2 => sn_Mono.cI (mono_Md_flowAt a2 x1 x2 x3) (fun v3 => sn_Mono.aI (fun v4 => sn_Mono.ite (mono_Md_isOpen_31 a) (sn_Mono.gR (fun v5 => sn_Mono.nn (fun a6 => sn_Mono.cI (mono_Md_flowAt a6 x1 x2 x3) (fun v7 => sn_Mono.aI (fun v8 => sn_Mono.ite (mono_Md_isOpen_36 a (0 : Int32)) (mono_Md_isOpen_31 a))))))))))
set_option maxHeartbeats 4000000 in
set_option maxRecDepth 100000 in
theorem con_Md_isOpen (a : Nat) (x1 : Int32) (x2 : Int32) (x3 : Int32) : sn_Con y_Md_isOpen c_Md_isOpen 4 (some .boolean) 1 23 [vA (some a), vI x1, vI x2, vI x3] (f_Md_isOpen a x1 x2 x3) := by
  refine sn_Con.of (by decide +kernel) (by show _ ≤ _; exact Nat.le_of_ble_eq_true rfl) (mono_Md_isOpen a x1 x2 x3) (fun X C => ?_)
  show sn_S X 0 [(0, vA (some a)), (1, vI x1), (2, vI x2), (3, vI x3)] [] _
  replace C : sn_Cx X c_Md_isOpen "SignalNetworkModel" (some .boolean) "isOpen" 4 1 23 := C
  unfold f_Md_isOpen
  refine r_aload_n (q := 1) (i := 0) (pl := 0) C d_Md_isOpen_0 rfl rfl rfl ?_
  refine r_gR (q := 4) C d_Md_isOpen_1 rfl F_Md_117 rfl (fun v1 => ?_)
  refine r_aload_n (q := 5) (i := 0) (pl := 0) C d_Md_isOpen_4 rfl rfl rfl ?_
  refine r_iload_n (q := 6) (i := 1) (pl := 1) C d_Md_isOpen_5 rfl rfl rfl ?_
  refine r_iload_n (q := 7) (i := 2) (pl := 2) C d_Md_isOpen_6 rfl rfl rfl ?_
  refine r_iload_n (q := 8) (i := 3) (pl := 3) C d_Md_isOpen_7 rfl rfl rfl ?_
  refine r_cvI (q := 11) (As := [vI x1, vI x2, vI x3]) (st := [vA v1]) (cy := 11) C d_Md_isOpen_8 rfl Y_Md_flowAt L_Md_212 I_Md_flowAt Se_Md_flowAt rfl (by decide) rfl (Nat.le_of_ble_eq_true rfl) (Nat.le_of_ble_eq_true rfl) (Nat.le_of_ble_eq_true rfl) rfl (fun a2 => con_Md_flowAt a2 x1 x2 x3) (fun v3 => ?_)
  refine r_aI (q := 12) C (Or.inr rfl) d_Md_isOpen_11 rfl (fun v4 => ?_)
  refine r_iconst (q := 13) (v := -1) C d_Md_isOpen_12 rfl (by decide) ?_
  refine r_icmp_ne (tgt := 31) (q := 16) C d_Md_isOpen_13 (by decide) rfl ?_ ?_
  · refine r_sub (lv' := [(0, vA (some a))]) [0] rfl ?_
    exact s_Md_isOpen_31 C a
  · refine r_aload_n (q := 17) (i := 0) (pl := 0) C d_Md_isOpen_16 rfl rfl rfl ?_
    refine r_gR (q := 20) C d_Md_isOpen_17 rfl F_Md_120 rfl (fun v5 => ?_)
    refine r_aload_n (q := 21) (i := 0) (pl := 0) C d_Md_isOpen_20 rfl rfl rfl ?_
    refine r_iload_n (q := 22) (i := 1) (pl := 1) C d_Md_isOpen_21 rfl rfl rfl ?_
    refine r_iload_n (q := 23) (i := 2) (pl := 2) C d_Md_isOpen_22 rfl rfl rfl ?_
    refine r_iload_n (q := 24) (i := 3) (pl := 3) C d_Md_isOpen_23 rfl rfl rfl ?_
    refine r_cvI (q := 27) (As := [vI x1, vI x2, vI x3]) (st := [vA v5]) (cy := 11) C d_Md_isOpen_24 rfl Y_Md_flowAt L_Md_212 I_Md_flowAt Se_Md_flowAt rfl (by decide) rfl (Nat.le_of_ble_eq_true rfl) (Nat.le_of_ble_eq_true rfl) (Nat.le_of_ble_eq_true rfl) rfl (fun a6 => con_Md_flowAt a6 x1 x2 x3) (fun v7 => ?_)
    refine r_aI (q := 28) C (Or.inr rfl) d_Md_isOpen_27 rfl (fun v8 => ?_)
    refine r_if_eq (tgt := 35) (q := 31) C d_Md_isOpen_28 (by decide) rfl ?_ ?_
    · refine r_iconst (q := 36) (v := 0) C d_Md_isOpen_35 rfl (by decide) ?_
      refine r_sub (lv' := [(0, vA (some a))]) [0] rfl ?_
      exact s_Md_isOpen_36 C a (0 : Int32)
    · refine r_sub (lv' := [(0, vA (some a))]) [0] rfl ?_
      exact s_Md_isOpen_31 C a
theorem d_Md_bestOf_0 : decode c_Md_bestOf 0 = .ok (.aload_n 0, 1) := by decide +kernel
theorem d_Md_bestOf_1 : decode c_Md_bestOf 1 = .ok (.iload_n 1, 1) := by decide +kernel
theorem d_Md_bestOf_2 : decode c_Md_bestOf 2 = .ok (.iload_n 2, 1) := by decide +kernel
theorem d_Md_bestOf_3 : decode c_Md_bestOf 3 = .ok (.invokevirtual 208, 3) := by decide +kernel
theorem d_Md_bestOf_6 : decode c_Md_bestOf 6 = .ok (.istore 4, 2) := by decide +kernel
theorem d_Md_bestOf_8 : decode c_Md_bestOf 8 = .ok (.iconst 0, 1) := by decide +kernel
theorem d_Md_bestOf_9 : decode c_Md_bestOf 9 = .ok (.istore 5, 2) := by decide +kernel
theorem d_Md_bestOf_11 : decode c_Md_bestOf 11 = .ok (.iload 5, 2) := by decide +kernel
theorem d_Md_bestOf_13 : decode c_Md_bestOf 13 = .ok (.iload 4, 2) := by decide +kernel
theorem d_Md_bestOf_15 : decode c_Md_bestOf 15 = .ok (.if_icmp .ge 77, 3) := by decide +kernel
theorem d_Md_bestOf_18 : decode c_Md_bestOf 18 = .ok (.iload_n 3, 1) := by decide +kernel
theorem d_Md_bestOf_19 : decode c_Md_bestOf 19 = .ok (.iload 5, 2) := by decide +kernel
theorem d_Md_bestOf_21 : decode c_Md_bestOf 21 = .ok (.iadd, 1) := by decide +kernel
theorem d_Md_bestOf_22 : decode c_Md_bestOf 22 = .ok (.iload 4, 2) := by decide +kernel
theorem d_Md_bestOf_24 : decode c_Md_bestOf 24 = .ok (.irem, 1) := by decide +kernel
theorem d_Md_bestOf_25 : decode c_Md_bestOf 25 = .ok (.istore 6, 2) := by decide +kernel
theorem d_Md_bestOf_27 : decode c_Md_bestOf 27 = .ok (.iconst 0, 1) := by decide +kernel
theorem d_Md_bestOf_28 : decode c_Md_bestOf 28 = .ok (.istore 7, 2) := by decide +kernel
theorem d_Md_bestOf_30 : decode c_Md_bestOf 30 = .ok (.iload 7, 2) := by decide +kernel
theorem d_Md_bestOf_32 : decode c_Md_bestOf 32 = .ok (.aload_n 0, 1) := by decide +kernel
theorem d_Md_bestOf_33 : decode c_Md_bestOf 33 = .ok (.getfield 196, 3) := by decide +kernel
theorem d_Md_bestOf_36 : decode c_Md_bestOf 36 = .ok (.if_icmp .ge 50, 3) := by decide +kernel
theorem d_Md_bestOf_39 : decode c_Md_bestOf 39 = .ok (.aload_n 0, 1) := by decide +kernel
theorem d_Md_bestOf_40 : decode c_Md_bestOf 40 = .ok (.iload 7, 2) := by decide +kernel
theorem d_Md_bestOf_42 : decode c_Md_bestOf 42 = .ok (.iload_n 1, 1) := by decide +kernel
theorem d_Md_bestOf_43 : decode c_Md_bestOf 43 = .ok (.iload_n 2, 1) := by decide +kernel
theorem d_Md_bestOf_44 : decode c_Md_bestOf 44 = .ok (.invokevirtual 200, 3) := by decide +kernel
theorem d_Md_bestOf_47 : decode c_Md_bestOf 47 = .ok (.ifCond .ne 6, 3) := by decide +kernel
theorem d_Md_bestOf_50 : decode c_Md_bestOf 50 = .ok (.goto 30, 3) := by decide +kernel
theorem d_Md_bestOf_53 : decode c_Md_bestOf 53 = .ok (.iload 6, 2) := by decide +kernel
theorem d_Md_bestOf_55 : decode c_Md_bestOf 55 = .ok (.ifCond .ne 22, 3) := by decide +kernel
theorem d_Md_bestOf_58 : decode c_Md_bestOf 58 = .ok (.aload_n 0, 1) := by decide +kernel
theorem d_Md_bestOf_59 : decode c_Md_bestOf 59 = .ok (.getfield 23, 3) := by decide +kernel
theorem d_Md_bestOf_62 : decode c_Md_bestOf 62 = .ok (.aload_n 0, 1) := by decide +kernel
theorem d_Md_bestOf_63 : decode c_Md_bestOf 63 = .ok (.iload 7, 2) := by decide +kernel
theorem d_Md_bestOf_65 : decode c_Md_bestOf 65 = .ok (.iload_n 1, 1) := by decide +kernel
theorem d_Md_bestOf_66 : decode c_Md_bestOf 66 = .ok (.invokevirtual 216, 3) := by decide +kernel
theorem d_Md_bestOf_69 : decode c_Md_bestOf 69 = .ok (.iaload, 1) := by decide +kernel
theorem d_Md_bestOf_70 : decode c_Md_bestOf 70 = .ok (.iconst 5, 1) := by decide +kernel
theorem d_Md_bestOf_71 : decode c_Md_bestOf 71 = .ok (.if_icmp .ne 6, 3) := by decide +kernel
theorem d_Md_bestOf_74 : decode c_Md_bestOf 74 = .ok (.iload 7, 2) := by decide +kernel
theorem d_Md_bestOf_76 : decode c_Md_bestOf 76 = .ok (.ireturn, 1) := by decide +kernel
theorem d_Md_bestOf_77 : decode c_Md_bestOf 77 = .ok (.iinc 6 (-1), 3) := by decide +kernel
theorem d_Md_bestOf_80 : decode c_Md_bestOf 80 = .ok (.iinc 7 1, 3) := by decide +kernel
theorem d_Md_bestOf_83 : decode c_Md_bestOf 83 = .ok (.goto (-53), 3) := by decide +kernel
theorem d_Md_bestOf_86 : decode c_Md_bestOf 86 = .ok (.iinc 5 1, 3) := by decide +kernel
theorem d_Md_bestOf_89 : decode c_Md_bestOf 89 = .ok (.goto (-78), 3) := by decide +kernel
theorem d_Md_bestOf_92 : decode c_Md_bestOf 92 = .ok (.iconst (-1), 1) := by decide +kernel
theorem d_Md_bestOf_93 : decode c_Md_bestOf 93 = .ok (.ireturn, 1) := by decide +kernel
def f_Md_bestOf_80 (k30 : Int32 → Int32 → Int32 → Int32 → Int32 → Int32 → Int32 → sn_M) (a : Nat) (x1 : Int32) (x2 : Int32) (x3 : Int32) (x4 : Int32) (x5 : Int32) (x6 : Int32) (x7 : Int32) : sn_M := k30 x1 x2 x3 x4 x5 x6 (x7 + (1 : Int32))
set_option maxHeartbeats 4000000 in
set_option maxRecDepth 100000 in
theorem mono_Md_bestOf_80 (k30 : Int32 → Int32 → Int32 → Int32 → Int32 → Int32 → Int32 → sn_M) (mk30 : ∀ (x1 : Int32) (x2 : Int32) (x3 : Int32) (x4 : Int32) (x5 : Int32) (x6 : Int32) (x7 : Int32), sn_Mono (k30 x1 x2 x3 x4 x5 x6 x7)) (a : Nat) (x1 : Int32) (x2 : Int32) (x3 : Int32) (x4 : Int32) (x5 : Int32) (x6 : Int32) (x7 : Int32) : sn_Mono (f_Md_bestOf_80 k30 a x1 x2 x3 x4 x5 x6 x7) := mk30 x1 x2 x3 x4 x5 x6 (x7 + (1 : Int32))
set_option maxHeartbeats 4000000 in
set_option maxRecDepth 100000 in
theorem s_Md_bestOf_80 {X : sn_X} (C : sn_Cx X c_Md_bestOf "SignalNetworkModel" (some .int) "bestOf" 8 2 47) (a : Nat) (k30 : Int32 → Int32 → Int32 → Int32 → Int32 → Int32 → Int32 → sn_M) (hk30 : ∀ (x1 : Int32) (x2 : Int32) (x3 : Int32) (x4 : Int32) (x5 : Int32) (x6 : Int32) (x7 : Int32), sn_S X 30 [(0, vA (some a)), (1, vI x1), (2, vI x2), (3, vI x3), (4, vI x4), (5, vI x5), (6, vI x6), (7, vI x7)] [] (k30 x1 x2 x3 x4 x5 x6 x7)) (x1 : Int32) (x2 : Int32) (x3 : Int32) (x4 : Int32) (x5 : Int32) (x6 : Int32) (x7 : Int32) : sn_S X 80 [(0, vA (some a)), (1, vI x1), (2, vI x2), (3, vI x3), (4, vI x4), (5, vI x5), (6, vI x6), (7, vI x7)] [] (f_Md_bestOf_80 k30 a x1 x2 x3 x4 x5 x6 x7) := by
  unfold f_Md_bestOf_80
  refine r_iinc (q := 83) (pl := 7) (v := x7 + (1 : Int32)) (lv' := [(7, vI (x7 + (1 : Int32))), (0, vA (some a)), (1, vI x1), (2, vI x2), (3, vI x3), (4, vI x4), (5, vI x5), (6, vI x6)]) C d_Md_bestOf_80 rfl rfl rfl (by decide) rfl ?_
  refine r_goto (tgt := 30) C d_Md_bestOf_83 (by decide) ?_
  refine r_sub (lv' := [(0, vA (some a)), (1, vI x1), (2, vI x2), (3, vI x3), (4, vI x4), (5, vI x5), (6, vI x6), (7, vI (x7 + (1 : Int32)))]) [1, 2, 3, 4, 5, 6, 7, 0] rfl ?_
  exact hk30 x1 x2 x3 x4 x5 x6 (x7 + (1 : Int32))
def f_Md_bestOf_77 (k30 : Int32 → Int32 → Int32 → Int32 → Int32 → Int32 → Int32 → sn_M) (a : Nat) (x1 : Int32) (x2 : Int32) (x3 : Int32) (x4 : Int32) (x5 : Int32) (x6 : Int32) (x7 : Int32) : sn_M := f_Md_bestOf_80 k30 a x1 x2 x3 x4 x5 (x6 + (-1 : Int32)) x7
set_option maxHeartbeats 4000000 in
set_option maxRecDepth 100000 in
theorem mono_Md_bestOf_77 (k30 : Int32 → Int32 → Int32 → Int32 → Int32 → Int32 → Int32 → sn_M) (mk30 : ∀ (x1 : Int32) (x2 : Int32) (x3 : Int32) (x4 : Int32) (x5 : Int32) (x6 : Int32) (x7 : Int32), sn_Mono (k30 x1 x2 x3 x4 x5 x6 x7)) (a : Nat) (x1 : Int32) (x2 : Int32) (x3 : Int32) (x4 : Int32) (x5 : Int32) (x6 : Int32) (x7 : Int32) : sn_Mono (f_Md_bestOf_77 k30 a x1 x2 x3 x4 x5 x6 x7) := mono_Md_bestOf_80 k30 mk30 a x1 x2 x3 x4 x5 (x6 + (-1 : Int32)) x7
set_option maxHeartbeats 4000000 in
set_option maxRecDepth 100000 in
theorem s_Md_bestOf_77 {X : sn_X} (C : sn_Cx X c_Md_bestOf "SignalNetworkModel" (some .int) "bestOf" 8 2 47) (a : Nat) (k30 : Int32 → Int32 → Int32 → Int32 → Int32 → Int32 → Int32 → sn_M) (hk30 : ∀ (x1 : Int32) (x2 : Int32) (x3 : Int32) (x4 : Int32) (x5 : Int32) (x6 : Int32) (x7 : Int32), sn_S X 30 [(0, vA (some a)), (1, vI x1), (2, vI x2), (3, vI x3), (4, vI x4), (5, vI x5), (6, vI x6), (7, vI x7)] [] (k30 x1 x2 x3 x4 x5 x6 x7)) (x1 : Int32) (x2 : Int32) (x3 : Int32) (x4 : Int32) (x5 : Int32) (x6 : Int32) (x7 : Int32) : sn_S X 77 [(0, vA (some a)), (1, vI x1), (2, vI x2), (3, vI x3), (4, vI x4), (5, vI x5), (6, vI x6), (7, vI x7)] [] (f_Md_bestOf_77 k30 a x1 x2 x3 x4 x5 x6 x7) := by
  unfold f_Md_bestOf_77
  refine r_iinc (q := 80) (pl := 6) (v := x6 + (-1 : Int32)) (lv' := [(6, vI (x6 + (-1 : Int32))), (0, vA (some a)), (1, vI x1), (2, vI x2), (3, vI x3), (4, vI x4), (5, vI x5), (7, vI x7)]) C d_Md_bestOf_77 rfl rfl rfl (by decide) rfl ?_
  refine r_sub (lv' := [(0, vA (some a)), (1, vI x1), (2, vI x2), (3, vI x3), (4, vI x4), (5, vI x5), (6, vI (x6 + (-1 : Int32))), (7, vI x7)]) [1, 2, 3, 4, 5, 6, 0, 7] rfl ?_
  exact s_Md_bestOf_80 C a k30 hk30 x1 x2 x3 x4 x5 (x6 + (-1 : Int32)) x7
def f_Md_bestOf_30 (k11 : Int32 → Int32 → Int32 → Int32 → Int32 → sn_M) (a : Nat) : Nat → Int32 → Int32 → Int32 → Int32 → Int32 → Int32 → Int32 → sn_M
  | 0, _, _, _, _, _, _, _ => r_0
  | n + 1, x1, x2, x3, x4, x5, x6, x7 => g_I 12 4 (some a) fun v1 => (if v1 ≤ x7 then k11 x1 x2 x3 x4 (x5 + (1 : Int32)) else n_n 12 (some a) fun a2 => c_I (f_Md_isOf a2 x7 x1 x2) fun v3 => (if ¬ v3 = 0 then (if ¬ x6 = 0 then f_Md_bestOf_77 (f_Md_bestOf_30 k11 a n) a x1 x2 x3 x4 x5 x6 x7 else g_R 12 10 (some a) fun v4 => n_n 12 (some a) fun a5 => c_I (f_Md_endAt a5 x7 x1) fun v6 => a_I 31 v4 v6 fun v7 => (if ¬ v7 = (5 : Int32) then f_Md_bestOf_77 (f_Md_bestOf_30 k11 a n) a x1 x2 x3 x4 x5 x6 x7 else r_I x7)) else f_Md_bestOf_80 (f_Md_bestOf_30 k11 a n) a x1 x2 x3 x4 x5 x6 x7))
set_option maxHeartbeats 4000000 in
set_option maxRecDepth 100000 in
theorem mono_Md_bestOf_30 (k11 : Int32 → Int32 → Int32 → Int32 → Int32 → sn_M) (mk11 : ∀ (x1 : Int32) (x2 : Int32) (x3 : Int32) (x4 : Int32) (x5 : Int32), sn_Mono (k11 x1 x2 x3 x4 x5)) (a : Nat) : ∀ (n : Nat) (x1 : Int32) (x2 : Int32) (x3 : Int32) (x4 : Int32) (x5 : Int32) (x6 : Int32) (x7 : Int32), sn_Mono (f_Md_bestOf_30 k11 a n x1 x2 x3 x4 x5 x6 x7)
  | 0, _, _, _, _, _, _, _ => sn_Mono.r0
  | n + 1, x1, x2, x3, x4, x5, x6, x7 => sn_Mono.gI (fun v1 => sn_Mono.ite (mk11 x1 x2 x3 x4 (x5 + (1 : Int32))) (sn_Mono.nn (fun a2 => sn_Mono.cI (mono_Md_isOf a2 x7 x1 x2) (fun v3 => sn_Mono.ite (sn_Mono.ite (mono_Md_bestOf_77 (f_Md_bestOf_30 k11 a n) (mono_Md_bestOf_30 k11 mk11 a n) a x1 x2 x3 x4 x5 x6 x7) (sn_Mono.gR (fun v4 => sn_Mono.nn (fun a5 => sn_Mono.cI (mono_Md_endAt a5 x7 x1) (fun v6 => sn_Mono.aI (fun v7 => sn_Mono.ite (mono_Md_bestOf_77 (f_Md_bestOf_30 k11 a n) (mono_Md_bestOf_30 k11 mk11 a n) a x1 x2 x3 x4 x5 x6 x7) (sn_Mono.rI))))))) (mono_Md_bestOf_80 (f_Md_bestOf_30 k11 a n) (mono_Md_bestOf_30 k11 mk11 a n) a x1 x2 x3 x4 x5 x6 x7)))))
set_option maxHeartbeats 4000000 in
set_option maxRecDepth 100000 in
theorem s_Md_bestOf_30 {X : sn_X} (C : sn_Cx X c_Md_bestOf "SignalNetworkModel" (some .int) "bestOf" 8 2 47) (a : Nat) (k11 : Int32 → Int32 → Int32 → Int32 → Int32 → sn_M) (hk11 : ∀ (x1 : Int32) (x2 : Int32) (x3 : Int32) (x4 : Int32) (x5 : Int32), sn_S X 11 [(0, vA (some a)), (1, vI x1), (2, vI x2), (3, vI x3), (4, vI x4), (5, vI x5)] [] (k11 x1 x2 x3 x4 x5)) (n : Nat) : ∀ (x1 : Int32) (x2 : Int32) (x3 : Int32) (x4 : Int32) (x5 : Int32) (x6 : Int32) (x7 : Int32), sn_S X 30 [(0, vA (some a)), (1, vI x1), (2, vI x2), (3, vI x3), (4, vI x4), (5, vI x5), (6, vI x6), (7, vI x7)] [] (f_Md_bestOf_30 k11 a n x1 x2 x3 x4 x5 x6 x7) := by
  induction n with
  | zero => intro x1 x2 x3 x4 x5 x6 x7; exact sn_S.zero
  | succ n ih =>
    intro x1 x2 x3 x4 x5 x6 x7
    unfold f_Md_bestOf_30
    refine r_iload (q := 32) (i := 7) (pl := 7) C d_Md_bestOf_30 rfl rfl ?_
    refine r_aload_n (q := 33) (i := 0) (pl := 0) C d_Md_bestOf_32 rfl rfl rfl ?_
    refine r_gI (q := 36) C d_Md_bestOf_33 rfl F_Md_196 rfl (fun v1 => ?_)
    refine r_icmp_ge (tgt := 86) (q := 39) C d_Md_bestOf_36 (by decide) rfl ?_ ?_
    · refine r_iinc (q := 89) (pl := 5) (v := x5 + (1 : Int32)) (lv' := [(5, vI (x5 + (1 : Int32))), (0, vA (some a)), (1, vI x1), (2, vI x2), (3, vI x3), (4, vI x4), (6, vI x6), (7, vI x7)]) C d_Md_bestOf_86 rfl rfl rfl (by decide) rfl ?_
      refine r_goto (tgt := 11) C d_Md_bestOf_89 (by decide) ?_
      refine r_sub (lv' := [(0, vA (some a)), (1, vI x1), (2, vI x2), (3, vI x3), (4, vI x4), (5, vI (x5 + (1 : Int32)))]) [1, 2, 3, 4, 5, 0] rfl ?_
      exact hk11 x1 x2 x3 x4 (x5 + (1 : Int32))
    · refine r_aload_n (q := 40) (i := 0) (pl := 0) C d_Md_bestOf_39 rfl rfl rfl ?_
      refine r_iload (q := 42) (i := 7) (pl := 7) C d_Md_bestOf_40 rfl rfl ?_
      refine r_iload_n (q := 43) (i := 1) (pl := 1) C d_Md_bestOf_42 rfl rfl rfl ?_
      refine r_iload_n (q := 44) (i := 2) (pl := 2) C d_Md_bestOf_43 rfl rfl rfl ?_
      refine r_cvI (q := 47) (As := [vI x7, vI x1, vI x2]) (st := []) (cy := 11) C d_Md_bestOf_44 rfl Y_Md_isOf L_Md_200 I_Md_isOf Se_Md_isOf rfl (by decide) rfl (Nat.le_of_ble_eq_true rfl) (Nat.le_of_ble_eq_true rfl) (Nat.le_of_ble_eq_true rfl) rfl (fun a2 => con_Md_isOf a2 x7 x1 x2) (fun v3 => ?_)
      refine r_if_ne (tgt := 53) (q := 50) C d_Md_bestOf_47 (by decide) rfl ?_ ?_
      · refine r_iload (q := 55) (i := 6) (pl := 6) C d_Md_bestOf_53 rfl rfl ?_
        refine r_if_ne (tgt := 77) (q := 58) C d_Md_bestOf_55 (by decide) rfl ?_ ?_
        · exact s_Md_bestOf_77 C a (f_Md_bestOf_30 k11 a n) ih x1 x2 x3 x4 x5 x6 x7
        · refine r_aload_n (q := 59) (i := 0) (pl := 0) C d_Md_bestOf_58 rfl rfl rfl ?_
          refine r_gR (q := 62) C d_Md_bestOf_59 rfl F_Md_23 rfl (fun v4 => ?_)
          refine r_aload_n (q := 63) (i := 0) (pl := 0) C d_Md_bestOf_62 rfl rfl rfl ?_
          refine r_iload (q := 65) (i := 7) (pl := 7) C d_Md_bestOf_63 rfl rfl ?_
          refine r_iload_n (q := 66) (i := 1) (pl := 1) C d_Md_bestOf_65 rfl rfl rfl ?_
          refine r_cvI (q := 69) (As := [vI x7, vI x1]) (st := [vA v4]) (cy := 11) C d_Md_bestOf_66 rfl Y_Md_endAt L_Md_216 I_Md_endAt Se_Md_endAt rfl (by decide) rfl (Nat.le_of_ble_eq_true rfl) (Nat.le_of_ble_eq_true rfl) (Nat.le_of_ble_eq_true rfl) rfl (fun a5 => con_Md_endAt a5 x7 x1) (fun v6 => ?_)
          refine r_aI (q := 70) C (Or.inr rfl) d_Md_bestOf_69 rfl (fun v7 => ?_)
          refine r_iconst (q := 71) (v := 5) C d_Md_bestOf_70 rfl (by decide) ?_
          refine r_icmp_ne (tgt := 77) (q := 74) C d_Md_bestOf_71 (by decide) rfl ?_ ?_
          · exact s_Md_bestOf_77 C a (f_Md_bestOf_30 k11 a n) ih x1 x2 x3 x4 x5 x6 x7
          · refine r_iload (q := 76) (i := 7) (pl := 7) C d_Md_bestOf_74 rfl rfl ?_
            exact r_iret C d_Md_bestOf_76 rfl
      · refine r_goto (tgt := 80) C d_Md_bestOf_50 (by decide) ?_
        exact s_Md_bestOf_80 C a (f_Md_bestOf_30 k11 a n) ih x1 x2 x3 x4 x5 x6 x7
def f_Md_bestOf_11 (a : Nat) : Nat → Int32 → Int32 → Int32 → Int32 → Int32 → sn_M
  | 0, _, _, _, _, _ => r_0
  | n + 1, x1, x2, x3, x4, x5 => (if x4 ≤ x5 then r_I (-1 : Int32) else n_D x4 (n_I (((x3 + x5) % x4)) fun n8 => f_Md_bestOf_30 (f_Md_bestOf_11 a n) a sn_fuel x1 x2 x3 x4 x5 n8 (0 : Int32)))
set_option maxHeartbeats 4000000 in
set_option maxRecDepth 100000 in
theorem mono_Md_bestOf_11 (a : Nat) : ∀ (n : Nat) (x1 : Int32) (x2 : Int32) (x3 : Int32) (x4 : Int32) (x5 : Int32), sn_Mono (f_Md_bestOf_11 a n x1 x2 x3 x4 x5)
  | 0, _, _, _, _, _ => sn_Mono.r0
  | n + 1, x1, x2, x3, x4, x5 => sn_Mono.ite (sn_Mono.rI) (sn_Mono.D (sn_Mono.nI (fun n8 => mono_Md_bestOf_30 (f_Md_bestOf_11 a n) (mono_Md_bestOf_11 a n) a sn_fuel x1 x2 x3 x4 x5 n8 (0 : Int32))))
set_option maxHeartbeats 4000000 in
set_option maxRecDepth 100000 in
theorem s_Md_bestOf_11 {X : sn_X} (C : sn_Cx X c_Md_bestOf "SignalNetworkModel" (some .int) "bestOf" 8 2 47) (a : Nat) (n : Nat) : ∀ (x1 : Int32) (x2 : Int32) (x3 : Int32) (x4 : Int32) (x5 : Int32), sn_S X 11 [(0, vA (some a)), (1, vI x1), (2, vI x2), (3, vI x3), (4, vI x4), (5, vI x5)] [] (f_Md_bestOf_11 a n x1 x2 x3 x4 x5) := by
  induction n with
  | zero => intro x1 x2 x3 x4 x5; exact sn_S.zero
  | succ n ih =>
    intro x1 x2 x3 x4 x5
    unfold f_Md_bestOf_11
    refine r_iload (q := 13) (i := 5) (pl := 5) C d_Md_bestOf_11 rfl rfl ?_
    refine r_iload (q := 15) (i := 4) (pl := 4) C d_Md_bestOf_13 rfl rfl ?_
    refine r_icmp_ge (tgt := 92) (q := 18) C d_Md_bestOf_15 (by decide) rfl ?_ ?_
    · refine r_iconst (q := 93) (v := -1) C d_Md_bestOf_92 rfl (by decide) ?_
      exact r_iret C d_Md_bestOf_93 rfl
    · refine r_iload_n (q := 19) (i := 3) (pl := 3) C d_Md_bestOf_18 rfl rfl rfl ?_
      refine r_iload (q := 21) (i := 5) (pl := 5) C d_Md_bestOf_19 rfl rfl ?_
      refine r_iadd (q := 22) C d_Md_bestOf_21 rfl ?_
      refine r_iload (q := 24) (i := 4) (pl := 4) C d_Md_bestOf_22 rfl rfl ?_
      refine r_irem (q := 25) C d_Md_bestOf_24 rfl ?_
      refine r_nI (fun n8 => ?_)
      refine r_istore (q := 27) (i := 6) (lv' := [(6, vI n8), (0, vA (some a)), (1, vI x1), (2, vI x2), (3, vI x3), (4, vI x4), (5, vI x5)]) C d_Md_bestOf_25 rfl (by decide) rfl ?_
      refine r_iconst (q := 28) (v := 0) C d_Md_bestOf_27 rfl (by decide) ?_
      refine r_istore (q := 30) (i := 7) (lv' := [(7, vI (0 : Int32)), (6, vI n8), (0, vA (some a)), (1, vI x1), (2, vI x2), (3, vI x3), (4, vI x4), (5, vI x5)]) C d_Md_bestOf_28 rfl (by decide) rfl ?_
      refine r_sub (lv' := [(0, vA (some a)), (1, vI x1), (2, vI x2), (3, vI x3), (4, vI x4), (5, vI x5), (6, vI n8), (7, vI (0 : Int32))]) [2, 3, 4, 5, 6, 7, 1, 0] rfl ?_
      exact s_Md_bestOf_30 C a (f_Md_bestOf_11 a n) ih sn_fuel x1 x2 x3 x4 x5 n8 (0 : Int32)
def f_Md_bestOf (a : Nat) (x1 : Int32) (x2 : Int32) (x3 : Int32) : sn_M := n_n 12 (some a) fun a9 => c_I (f_Md_setSize a9 x1 x2) fun v10 => f_Md_bestOf_11 a sn_fuel x1 x2 x3 v10 (0 : Int32)
set_option maxHeartbeats 4000000 in
set_option maxRecDepth 100000 in
theorem mono_Md_bestOf (a : Nat) (x1 : Int32) (x2 : Int32) (x3 : Int32) : sn_Mono (f_Md_bestOf a x1 x2 x3) := sn_Mono.nn (fun a9 => sn_Mono.cI (mono_Md_setSize a9 x1 x2) (fun v10 => mono_Md_bestOf_11 a sn_fuel x1 x2 x3 v10 (0 : Int32)))
set_option maxHeartbeats 4000000 in
set_option maxRecDepth 100000 in
theorem con_Md_bestOf (a : Nat) (x1 : Int32) (x2 : Int32) (x3 : Int32) : sn_Con y_Md_bestOf c_Md_bestOf 8 (some .int) 2 47 [vA (some a), vI x1, vI x2, vI x3] (f_Md_bestOf a x1 x2 x3) := by
  refine sn_Con.of (by decide +kernel) (by show _ ≤ _; exact Nat.le_of_ble_eq_true rfl) (mono_Md_bestOf a x1 x2 x3) (fun X C => ?_)
  show sn_S X 0 [(0, vA (some a)), (1, vI x1), (2, vI x2), (3, vI x3)] [] _
  replace C : sn_Cx X c_Md_bestOf "SignalNetworkModel" (some .int) "bestOf" 8 2 47 := C
  unfold f_Md_bestOf
  refine r_aload_n (q := 1) (i := 0) (pl := 0) C d_Md_bestOf_0 rfl rfl rfl ?_
  refine r_iload_n (q := 2) (i := 1) (pl := 1) C d_Md_bestOf_1 rfl rfl rfl ?_
  refine r_iload_n (q := 3) (i := 2) (pl := 2) C d_Md_bestOf_2 rfl rfl rfl ?_
  refine r_cvI (q := 6) (As := [vI x1, vI x2]) (st := []) (cy := 11) C d_Md_bestOf_3 rfl Y_Md_setSize L_Md_208 I_Md_setSize Se_Md_setSize rfl (by decide) rfl (Nat.le_of_ble_eq_true rfl) (Nat.le_of_ble_eq_true rfl) (Nat.le_of_ble_eq_true rfl) rfl (fun a9 => con_Md_setSize a9 x1 x2) (fun v10 => ?_)
  refine r_istore (q := 8) (i := 4) (lv' := [(4, vI v10), (0, vA (some a)), (1, vI x1), (2, vI x2), (3, vI x3)]) C d_Md_bestOf_6 rfl (by decide) rfl ?_
  refine r_iconst (q := 9) (v := 0) C d_Md_bestOf_8 rfl (by decide) ?_
  refine r_istore (q := 11) (i := 5) (lv' := [(5, vI (0 : Int32)), (4, vI v10), (0, vA (some a)), (1, vI x1), (2, vI x2), (3, vI x3)]) C d_Md_bestOf_9 rfl (by decide) rfl ?_
  refine r_sub (lv' := [(0, vA (some a)), (1, vI x1), (2, vI x2), (3, vI x3), (4, vI v10), (5, vI (0 : Int32))]) [2, 3, 4, 5, 1, 0] rfl ?_
  exact s_Md_bestOf_11 C a sn_fuel x1 x2 x3 v10 (0 : Int32)
theorem d_Md_waitAt_0 : decode c_Md_waitAt 0 = .ok (.aload_n 0, 1) := by decide +kernel
theorem d_Md_waitAt_1 : decode c_Md_waitAt 1 = .ok (.getfield 81, 3) := by decide +kernel
theorem d_Md_waitAt_4 : decode c_Md_waitAt 4 = .ok (.iload_n 1, 1) := by decide +kernel
theorem d_Md_waitAt_5 : decode c_Md_waitAt 5 = .ok (.iaload, 1) := by decide +kernel
theorem d_Md_waitAt_6 : decode c_Md_waitAt 6 = .ok (.bipush 64, 2) := by decide +kernel
theorem d_Md_waitAt_8 : decode c_Md_waitAt 8 = .ok (.if_icmp .ne 14, 3) := by decide +kernel
theorem d_Md_waitAt_11 : decode c_Md_waitAt 11 = .ok (.aload_n 0, 1) := by decide +kernel
theorem d_Md_waitAt_12 : decode c_Md_waitAt 12 = .ok (.dup, 1) := by decide +kernel
theorem d_Md_waitAt_13 : decode c_Md_waitAt 13 = .ok (.getfield 219, 3) := by decide +kernel
theorem d_Md_waitAt_16 : decode c_Md_waitAt 16 = .ok (.iconst 1, 1) := by decide +kernel
theorem d_Md_waitAt_17 : decode c_Md_waitAt 17 = .ok (.iadd, 1) := by decide +kernel
theorem d_Md_waitAt_18 : decode c_Md_waitAt 18 = .ok (.putfield 219, 3) := by decide +kernel
theorem d_Md_waitAt_21 : decode c_Md_waitAt 21 = .ok (.return_, 1) := by decide +kernel
theorem d_Md_waitAt_22 : decode c_Md_waitAt 22 = .ok (.aload_n 0, 1) := by decide +kernel
theorem d_Md_waitAt_23 : decode c_Md_waitAt 23 = .ok (.getfield 78, 3) := by decide +kernel
theorem d_Md_waitAt_26 : decode c_Md_waitAt 26 = .ok (.bipush 64, 2) := by decide +kernel
theorem d_Md_waitAt_28 : decode c_Md_waitAt 28 = .ok (.iload_n 1, 1) := by decide +kernel
theorem d_Md_waitAt_29 : decode c_Md_waitAt 29 = .ok (.imul, 1) := by decide +kernel
theorem d_Md_waitAt_30 : decode c_Md_waitAt 30 = .ok (.aload_n 0, 1) := by decide +kernel
theorem d_Md_waitAt_31 : decode c_Md_waitAt 31 = .ok (.getfield 81, 3) := by decide +kernel
theorem d_Md_waitAt_34 : decode c_Md_waitAt 34 = .ok (.iload_n 1, 1) := by decide +kernel
theorem d_Md_waitAt_35 : decode c_Md_waitAt 35 = .ok (.iaload, 1) := by decide +kernel
theorem d_Md_waitAt_36 : decode c_Md_waitAt 36 = .ok (.iadd, 1) := by decide +kernel
theorem d_Md_waitAt_37 : decode c_Md_waitAt 37 = .ok (.lload_n 2, 1) := by decide +kernel
theorem d_Md_waitAt_38 : decode c_Md_waitAt 38 = .ok (.lastore, 1) := by decide +kernel
theorem d_Md_waitAt_39 : decode c_Md_waitAt 39 = .ok (.aload_n 0, 1) := by decide +kernel
theorem d_Md_waitAt_40 : decode c_Md_waitAt 40 = .ok (.getfield 81, 3) := by decide +kernel
theorem d_Md_waitAt_43 : decode c_Md_waitAt 43 = .ok (.iload_n 1, 1) := by decide +kernel
theorem d_Md_waitAt_44 : decode c_Md_waitAt 44 = .ok (.dup2, 1) := by decide +kernel
theorem d_Md_waitAt_45 : decode c_Md_waitAt 45 = .ok (.iaload, 1) := by decide +kernel
theorem d_Md_waitAt_46 : decode c_Md_waitAt 46 = .ok (.iconst 1, 1) := by decide +kernel
theorem d_Md_waitAt_47 : decode c_Md_waitAt 47 = .ok (.iadd, 1) := by decide +kernel
theorem d_Md_waitAt_48 : decode c_Md_waitAt 48 = .ok (.iastore, 1) := by decide +kernel
theorem d_Md_waitAt_49 : decode c_Md_waitAt 49 = .ok (.return_, 1) := by decide +kernel
def f_Md_waitAt (a : Nat) (x1 : Int32) (l2 : Int64) : sn_M := g_R 12 29 (some a) fun v1 => a_I 31 v1 x1 fun v2 => (if ¬ v2 = (64 : Int32) then g_R 12 28 (some a) fun v3 => g_R 12 29 (some a) fun v4 => a_I 31 v4 x1 fun v5 => b_J 32 v3 (((64 : Int32) * x1) + v5) l2 (g_R 12 29 (some a) fun v6 => a_I 31 v6 x1 fun v7 => b_I 31 v6 x1 (v7 + (1 : Int32)) (r_V)) else g_I 12 7 (some a) fun v8 => p_I 12 7 (some a) (v8 + (1 : Int32)) (r_V))
set_option maxHeartbeats 4000000 in
set_option maxRecDepth 100000 in
theorem mono_Md_waitAt (a : Nat) (x1 : Int32) (l2 : Int64) : sn_Mono (f_Md_waitAt a x1 l2) := sn_Mono.gR (fun v1 => sn_Mono.aI (fun v2 => sn_Mono.ite (sn_Mono.gR (fun v3 => sn_Mono.gR (fun v4 => sn_Mono.aI (fun v5 => sn_Mono.bJ (sn_Mono.gR (fun v6 => sn_Mono.aI (fun v7 => sn_Mono.bI (sn_Mono.rV)))))))) (sn_Mono.gI (fun v8 => sn_Mono.pI (sn_Mono.rV)))))
set_option maxHeartbeats 4000000 in
set_option maxRecDepth 100000 in
theorem con_Md_waitAt (a : Nat) (x1 : Int32) (l2 : Int64) : sn_Con y_Md_waitAt c_Md_waitAt 4 none 0 0 [vA (some a), vI x1, vJ l2] (f_Md_waitAt a x1 l2) := by
  refine sn_Con.of (by decide +kernel) (by show _ ≤ _; exact Nat.le_of_ble_eq_true rfl) (mono_Md_waitAt a x1 l2) (fun X C => ?_)
  show sn_S X 0 [(0, vA (some a)), (1, vI x1), (2, vJ l2)] [] _
  replace C : sn_Cx X c_Md_waitAt "SignalNetworkModel" none "waitAt" 4 0 0 := C
  unfold f_Md_waitAt
  refine r_aload_n (q := 1) (i := 0) (pl := 0) C d_Md_waitAt_0 rfl rfl rfl ?_
  refine r_gR (q := 4) C d_Md_waitAt_1 rfl F_Md_81 rfl (fun v1 => ?_)
  refine r_iload_n (q := 5) (i := 1) (pl := 1) C d_Md_waitAt_4 rfl rfl rfl ?_
  refine r_aI (q := 6) C (Or.inr rfl) d_Md_waitAt_5 rfl (fun v2 => ?_)
  refine r_bipush (q := 8) (v := 64) C d_Md_waitAt_6 rfl (by decide) ?_
  refine r_icmp_ne (tgt := 22) (q := 11) C d_Md_waitAt_8 (by decide) rfl ?_ ?_
  · refine r_aload_n (q := 23) (i := 0) (pl := 0) C d_Md_waitAt_22 rfl rfl rfl ?_
    refine r_gR (q := 26) C d_Md_waitAt_23 rfl F_Md_78 rfl (fun v3 => ?_)
    refine r_bipush (q := 28) (v := 64) C d_Md_waitAt_26 rfl (by decide) ?_
    refine r_iload_n (q := 29) (i := 1) (pl := 1) C d_Md_waitAt_28 rfl rfl rfl ?_
    refine r_imul (q := 30) C d_Md_waitAt_29 rfl ?_
    refine r_aload_n (q := 31) (i := 0) (pl := 0) C d_Md_waitAt_30 rfl rfl rfl ?_
    refine r_gR (q := 34) C d_Md_waitAt_31 rfl F_Md_81 rfl (fun v4 => ?_)
    refine r_iload_n (q := 35) (i := 1) (pl := 1) C d_Md_waitAt_34 rfl rfl rfl ?_
    refine r_aI (q := 36) C (Or.inr rfl) d_Md_waitAt_35 rfl (fun v5 => ?_)
    refine r_iadd (q := 37) C d_Md_waitAt_36 rfl ?_
    refine r_lload_n (q := 38) (i := 2) (pl := 2) C d_Md_waitAt_37 rfl rfl rfl ?_
    refine r_bJ (q := 39) C (Or.inr rfl) d_Md_waitAt_38 rfl ?_
    refine r_aload_n (q := 40) (i := 0) (pl := 0) C d_Md_waitAt_39 rfl rfl rfl ?_
    refine r_gR (q := 43) C d_Md_waitAt_40 rfl F_Md_81 rfl (fun v6 => ?_)
    refine r_iload_n (q := 44) (i := 1) (pl := 1) C d_Md_waitAt_43 rfl rfl rfl ?_
    refine r_dup2 (q := 45) C d_Md_waitAt_44 rfl rfl rfl ?_
    refine r_aI (q := 46) C (Or.inr rfl) d_Md_waitAt_45 rfl (fun v7 => ?_)
    refine r_iconst (q := 47) (v := 1) C d_Md_waitAt_46 rfl (by decide) ?_
    refine r_iadd (q := 48) C d_Md_waitAt_47 rfl ?_
    refine r_bI (q := 49) C (Or.inr rfl) d_Md_waitAt_48 rfl ?_
    exact r_vret C d_Md_waitAt_49 rfl
  · refine r_aload_n (q := 12) (i := 0) (pl := 0) C d_Md_waitAt_11 rfl rfl rfl ?_
    refine r_dup (q := 13) C d_Md_waitAt_12 rfl rfl ?_
    refine r_gI (q := 16) C d_Md_waitAt_13 rfl F_Md_219 rfl (fun v8 => ?_)
    refine r_iconst (q := 17) (v := 1) C d_Md_waitAt_16 rfl (by decide) ?_
    refine r_iadd (q := 18) C d_Md_waitAt_17 rfl ?_
    refine r_pI (q := 21) C d_Md_waitAt_18 rfl F_Md_219 rfl rfl (Or.inl rfl) ?_
    exact r_vret C d_Md_waitAt_21 rfl
theorem d_Md_give_0 : decode c_Md_give 0 = .ok (.aload_n 0, 1) := by decide +kernel
theorem d_Md_give_1 : decode c_Md_give 1 = .ok (.iload_n 1, 1) := by decide +kernel
theorem d_Md_give_2 : decode c_Md_give 2 = .ok (.iload_n 2, 1) := by decide +kernel
theorem d_Md_give_3 : decode c_Md_give 3 = .ok (.iload_n 3, 1) := by decide +kernel
theorem d_Md_give_4 : decode c_Md_give 4 = .ok (.invokevirtual 212, 3) := by decide +kernel
theorem d_Md_give_7 : decode c_Md_give 7 = .ok (.istore 6, 2) := by decide +kernel
theorem d_Md_give_9 : decode c_Md_give 9 = .ok (.aload_n 0, 1) := by decide +kernel
theorem d_Md_give_10 : decode c_Md_give 10 = .ok (.getfield 120, 3) := by decide +kernel
theorem d_Md_give_13 : decode c_Md_give 13 = .ok (.iload 6, 2) := by decide +kernel
theorem d_Md_give_15 : decode c_Md_give 15 = .ok (.iaload, 1) := by decide +kernel
theorem d_Md_give_16 : decode c_Md_give 16 = .ok (.ifCond .ne 24, 3) := by decide +kernel
theorem d_Md_give_19 : decode c_Md_give 19 = .ok (.aload_n 0, 1) := by decide +kernel
theorem d_Md_give_20 : decode c_Md_give 20 = .ok (.aload_n 0, 1) := by decide +kernel
theorem d_Md_give_21 : decode c_Md_give 21 = .ok (.aload_n 0, 1) := by decide +kernel
theorem d_Md_give_22 : decode c_Md_give 22 = .ok (.getfield 117, 3) := by decide +kernel
theorem d_Md_give_25 : decode c_Md_give 25 = .ok (.iload 6, 2) := by decide +kernel
theorem d_Md_give_27 : decode c_Md_give 27 = .ok (.iaload, 1) := by decide +kernel
theorem d_Md_give_28 : decode c_Md_give 28 = .ok (.iload_n 1, 1) := by decide +kernel
theorem d_Md_give_29 : decode c_Md_give 29 = .ok (.invokevirtual 216, 3) := by decide +kernel
theorem d_Md_give_32 : decode c_Md_give 32 = .ok (.lload 4, 2) := by decide +kernel
theorem d_Md_give_34 : decode c_Md_give 34 = .ok (.invokevirtual 222, 3) := by decide +kernel
theorem d_Md_give_37 : decode c_Md_give 37 = .ok (.goto 59, 3) := by decide +kernel
theorem d_Md_give_40 : decode c_Md_give 40 = .ok (.aload_n 0, 1) := by decide +kernel
theorem d_Md_give_41 : decode c_Md_give 41 = .ok (.getfield 135, 3) := by decide +kernel
theorem d_Md_give_44 : decode c_Md_give 44 = .ok (.iload 6, 2) := by decide +kernel
theorem d_Md_give_46 : decode c_Md_give 46 = .ok (.iaload, 1) := by decide +kernel
theorem d_Md_give_47 : decode c_Md_give 47 = .ok (.bipush 64, 2) := by decide +kernel
theorem d_Md_give_49 : decode c_Md_give 49 = .ok (.if_icmp .ne 16, 3) := by decide +kernel
theorem d_Md_give_52 : decode c_Md_give 52 = .ok (.aload_n 0, 1) := by decide +kernel
theorem d_Md_give_53 : decode c_Md_give 53 = .ok (.dup, 1) := by decide +kernel
theorem d_Md_give_54 : decode c_Md_give 54 = .ok (.getfield 219, 3) := by decide +kernel
theorem d_Md_give_57 : decode c_Md_give 57 = .ok (.iconst 1, 1) := by decide +kernel
theorem d_Md_give_58 : decode c_Md_give 58 = .ok (.iadd, 1) := by decide +kernel
theorem d_Md_give_59 : decode c_Md_give 59 = .ok (.putfield 219, 3) := by decide +kernel
theorem d_Md_give_62 : decode c_Md_give 62 = .ok (.goto 34, 3) := by decide +kernel
theorem d_Md_give_65 : decode c_Md_give 65 = .ok (.aload_n 0, 1) := by decide +kernel
theorem d_Md_give_66 : decode c_Md_give 66 = .ok (.getfield 132, 3) := by decide +kernel
theorem d_Md_give_69 : decode c_Md_give 69 = .ok (.bipush 64, 2) := by decide +kernel
theorem d_Md_give_71 : decode c_Md_give 71 = .ok (.iload 6, 2) := by decide +kernel
theorem d_Md_give_73 : decode c_Md_give 73 = .ok (.imul, 1) := by decide +kernel
theorem d_Md_give_74 : decode c_Md_give 74 = .ok (.aload_n 0, 1) := by decide +kernel
theorem d_Md_give_75 : decode c_Md_give 75 = .ok (.getfield 135, 3) := by decide +kernel
theorem d_Md_give_78 : decode c_Md_give 78 = .ok (.iload 6, 2) := by decide +kernel
theorem d_Md_give_80 : decode c_Md_give 80 = .ok (.iaload, 1) := by decide +kernel
theorem d_Md_give_81 : decode c_Md_give 81 = .ok (.iadd, 1) := by decide +kernel
theorem d_Md_give_82 : decode c_Md_give 82 = .ok (.lload 4, 2) := by decide +kernel
theorem d_Md_give_84 : decode c_Md_give 84 = .ok (.lastore, 1) := by decide +kernel
theorem d_Md_give_85 : decode c_Md_give 85 = .ok (.aload_n 0, 1) := by decide +kernel
theorem d_Md_give_86 : decode c_Md_give 86 = .ok (.getfield 135, 3) := by decide +kernel
theorem d_Md_give_89 : decode c_Md_give 89 = .ok (.iload 6, 2) := by decide +kernel
theorem d_Md_give_91 : decode c_Md_give 91 = .ok (.dup2, 1) := by decide +kernel
theorem d_Md_give_92 : decode c_Md_give 92 = .ok (.iaload, 1) := by decide +kernel
theorem d_Md_give_93 : decode c_Md_give 93 = .ok (.iconst 1, 1) := by decide +kernel
theorem d_Md_give_94 : decode c_Md_give 94 = .ok (.iadd, 1) := by decide +kernel
theorem d_Md_give_95 : decode c_Md_give 95 = .ok (.iastore, 1) := by decide +kernel
theorem d_Md_give_96 : decode c_Md_give 96 = .ok (.return_, 1) := by decide +kernel
def f_Md_give_96 (a : Nat) : sn_M := r_V
set_option maxHeartbeats 4000000 in
set_option maxRecDepth 100000 in
theorem mono_Md_give_96 (a : Nat) : sn_Mono (f_Md_give_96 a) := sn_Mono.rV
set_option maxHeartbeats 4000000 in
set_option maxRecDepth 100000 in
theorem s_Md_give_96 {X : sn_X} (C : sn_Cx X c_Md_give "SignalNetworkModel" none "give" 7 1 23) (a : Nat) : sn_S X 96 [(0, vA (some a))] [] (f_Md_give_96 a) := by
  unfold f_Md_give_96
  exact r_vret C d_Md_give_96 rfl
def f_Md_give (a : Nat) (x1 : Int32) (x2 : Int32) (x3 : Int32) (l4 : Int64) : sn_M := n_n 12 (some a) fun a1 => c_I (f_Md_flowAt a1 x1 x2 x3) fun v2 => g_R 12 42 (some a) fun v3 => a_I 31 v3 v2 fun v4 => (if ¬ v4 = 0 then g_R 12 47 (some a) fun v5 => a_I 31 v5 v2 fun v6 => (if ¬ v6 = (64 : Int32) then g_R 12 46 (some a) fun v7 => g_R 12 47 (some a) fun v8 => a_I 31 v8 v2 fun v9 => b_J 32 v7 (((64 : Int32) * v2) + v9) l4 (g_R 12 47 (some a) fun v10 => a_I 31 v10 v2 fun v11 => b_I 31 v10 v2 (v11 + (1 : Int32)) (f_Md_give_96 a)) else g_I 12 7 (some a) fun v12 => p_I 12 7 (some a) (v12 + (1 : Int32)) (f_Md_give_96 a)) else g_R 12 41 (some a) fun v13 => a_I 31 v13 v2 fun v14 => n_n 12 (some a) fun a15 => c_I (f_Md_endAt a15 v14 x1) fun v16 => n_n 12 (some a) fun a17 => c_V (f_Md_waitAt a17 v16 l4) (f_Md_give_96 a))
set_option maxHeartbeats 4000000 in
set_option maxRecDepth 100000 in
theorem mono_Md_give (a : Nat) (x1 : Int32) (x2 : Int32) (x3 : Int32) (l4 : Int64) : sn_Mono (f_Md_give a x1 x2 x3 l4) := sn_Mono.nn (fun a1 => sn_Mono.cI (mono_Md_flowAt a1 x1 x2 x3) (fun v2 => sn_Mono.gR (fun v3 => sn_Mono.aI (fun v4 => sn_Mono.ite (sn_Mono.gR (fun v5 => sn_Mono.aI (fun v6 => sn_Mono.ite (sn_Mono.gR (fun v7 => sn_Mono.gR (fun v8 => sn_Mono.aI (fun v9 => sn_Mono.bJ (sn_Mono.gR (fun v10 => sn_Mono.aI (fun v11 => sn_Mono.bI (mono_Md_give_96 a)))))))) (sn_Mono.gI (fun v12 => sn_Mono.pI (mono_Md_give_96 a)))))) (sn_Mono.gR (fun v13 => sn_Mono.aI (fun v14 => sn_Mono.nn (fun a15 => sn_Mono.cI (mono_Md_endAt a15 v14 x1) (fun v16 => sn_Mono.nn (fun a17 => sn_Mono.cV (mono_Md_waitAt a17 v16 l4) (mono_Md_give_96 a)))))))))))
set_option maxHeartbeats 4000000 in
set_option maxRecDepth 100000 in
theorem con_Md_give (a : Nat) (x1 : Int32) (x2 : Int32) (x3 : Int32) (l4 : Int64) : sn_Con y_Md_give c_Md_give 7 none 1 23 [vA (some a), vI x1, vI x2, vI x3, vJ l4] (f_Md_give a x1 x2 x3 l4) := by
  refine sn_Con.of (by decide +kernel) (by show _ ≤ _; exact Nat.le_of_ble_eq_true rfl) (mono_Md_give a x1 x2 x3 l4) (fun X C => ?_)
  show sn_S X 0 [(0, vA (some a)), (1, vI x1), (2, vI x2), (3, vI x3), (4, vJ l4)] [] _
  replace C : sn_Cx X c_Md_give "SignalNetworkModel" none "give" 7 1 23 := C
  unfold f_Md_give
  refine r_aload_n (q := 1) (i := 0) (pl := 0) C d_Md_give_0 rfl rfl rfl ?_
  refine r_iload_n (q := 2) (i := 1) (pl := 1) C d_Md_give_1 rfl rfl rfl ?_
  refine r_iload_n (q := 3) (i := 2) (pl := 2) C d_Md_give_2 rfl rfl rfl ?_
  refine r_iload_n (q := 4) (i := 3) (pl := 3) C d_Md_give_3 rfl rfl rfl ?_
  refine r_cvI (q := 7) (As := [vI x1, vI x2, vI x3]) (st := []) (cy := 11) C d_Md_give_4 rfl Y_Md_flowAt L_Md_212 I_Md_flowAt Se_Md_flowAt rfl (by decide) rfl (Nat.le_of_ble_eq_true rfl) (Nat.le_of_ble_eq_true rfl) (Nat.le_of_ble_eq_true rfl) rfl (fun a1 => con_Md_flowAt a1 x1 x2 x3) (fun v2 => ?_)
  refine r_istore (q := 9) (i := 6) (lv' := [(6, vI v2), (0, vA (some a)), (1, vI x1), (2, vI x2), (3, vI x3), (4, vJ l4)]) C d_Md_give_7 rfl (by decide) rfl ?_
  refine r_aload_n (q := 10) (i := 0) (pl := 1) C d_Md_give_9 rfl rfl rfl ?_
  refine r_gR (q := 13) C d_Md_give_10 rfl F_Md_120 rfl (fun v3 => ?_)
  refine r_iload (q := 15) (i := 6) (pl := 0) C d_Md_give_13 rfl rfl ?_
  refine r_aI (q := 16) C (Or.inr rfl) d_Md_give_15 rfl (fun v4 => ?_)
  refine r_if_ne (tgt := 40) (q := 19) C d_Md_give_16 (by decide) rfl ?_ ?_
  · refine r_aload_n (q := 41) (i := 0) (pl := 1) C d_Md_give_40 rfl rfl rfl ?_
    refine r_gR (q := 44) C d_Md_give_41 rfl F_Md_135 rfl (fun v5 => ?_)
    refine r_iload (q := 46) (i := 6) (pl := 0) C d_Md_give_44 rfl rfl ?_
    refine r_aI (q := 47) C (Or.inr rfl) d_Md_give_46 rfl (fun v6 => ?_)
    refine r_bipush (q := 49) (v := 64) C d_Md_give_47 rfl (by decide) ?_
    refine r_icmp_ne (tgt := 65) (q := 52) C d_Md_give_49 (by decide) rfl ?_ ?_
    · refine r_aload_n (q := 66) (i := 0) (pl := 1) C d_Md_give_65 rfl rfl rfl ?_
      refine r_gR (q := 69) C d_Md_give_66 rfl F_Md_132 rfl (fun v7 => ?_)
      refine r_bipush (q := 71) (v := 64) C d_Md_give_69 rfl (by decide) ?_
      refine r_iload (q := 73) (i := 6) (pl := 0) C d_Md_give_71 rfl rfl ?_
      refine r_imul (q := 74) C d_Md_give_73 rfl ?_
      refine r_aload_n (q := 75) (i := 0) (pl := 1) C d_Md_give_74 rfl rfl rfl ?_
      refine r_gR (q := 78) C d_Md_give_75 rfl F_Md_135 rfl (fun v8 => ?_)
      refine r_iload (q := 80) (i := 6) (pl := 0) C d_Md_give_78 rfl rfl ?_
      refine r_aI (q := 81) C (Or.inr rfl) d_Md_give_80 rfl (fun v9 => ?_)
      refine r_iadd (q := 82) C d_Md_give_81 rfl ?_
      refine r_lload (q := 84) (i := 4) (pl := 5) C d_Md_give_82 rfl rfl ?_
      refine r_bJ (q := 85) C (Or.inr rfl) d_Md_give_84 rfl ?_
      refine r_aload_n (q := 86) (i := 0) (pl := 1) C d_Md_give_85 rfl rfl rfl ?_
      refine r_gR (q := 89) C d_Md_give_86 rfl F_Md_135 rfl (fun v10 => ?_)
      refine r_iload (q := 91) (i := 6) (pl := 0) C d_Md_give_89 rfl rfl ?_
      refine r_dup2 (q := 92) C d_Md_give_91 rfl rfl rfl ?_
      refine r_aI (q := 93) C (Or.inr rfl) d_Md_give_92 rfl (fun v11 => ?_)
      refine r_iconst (q := 94) (v := 1) C d_Md_give_93 rfl (by decide) ?_
      refine r_iadd (q := 95) C d_Md_give_94 rfl ?_
      refine r_bI (q := 96) C (Or.inr rfl) d_Md_give_95 rfl ?_
      refine r_sub (lv' := [(0, vA (some a))]) [1] rfl ?_
      exact s_Md_give_96 C a
    · refine r_aload_n (q := 53) (i := 0) (pl := 1) C d_Md_give_52 rfl rfl rfl ?_
      refine r_dup (q := 54) C d_Md_give_53 rfl rfl ?_
      refine r_gI (q := 57) C d_Md_give_54 rfl F_Md_219 rfl (fun v12 => ?_)
      refine r_iconst (q := 58) (v := 1) C d_Md_give_57 rfl (by decide) ?_
      refine r_iadd (q := 59) C d_Md_give_58 rfl ?_
      refine r_pI (q := 62) C d_Md_give_59 rfl F_Md_219 rfl rfl (Or.inl rfl) ?_
      refine r_goto (tgt := 96) C d_Md_give_62 (by decide) ?_
      refine r_sub (lv' := [(0, vA (some a))]) [1] rfl ?_
      exact s_Md_give_96 C a
  · refine r_aload_n (q := 20) (i := 0) (pl := 1) C d_Md_give_19 rfl rfl rfl ?_
    refine r_aload_n (q := 21) (i := 0) (pl := 1) C d_Md_give_20 rfl rfl rfl ?_
    refine r_aload_n (q := 22) (i := 0) (pl := 1) C d_Md_give_21 rfl rfl rfl ?_
    refine r_gR (q := 25) C d_Md_give_22 rfl F_Md_117 rfl (fun v13 => ?_)
    refine r_iload (q := 27) (i := 6) (pl := 0) C d_Md_give_25 rfl rfl ?_
    refine r_aI (q := 28) C (Or.inr rfl) d_Md_give_27 rfl (fun v14 => ?_)
    refine r_iload_n (q := 29) (i := 1) (pl := 2) C d_Md_give_28 rfl rfl rfl ?_
    refine r_cvI (q := 32) (As := [vI v14, vI x1]) (st := [vA (some a)]) (cy := 11) C d_Md_give_29 rfl Y_Md_endAt L_Md_216 I_Md_endAt Se_Md_endAt rfl (by decide) rfl (Nat.le_of_ble_eq_true rfl) (Nat.le_of_ble_eq_true rfl) (Nat.le_of_ble_eq_true rfl) rfl (fun a15 => con_Md_endAt a15 v14 x1) (fun v16 => ?_)
    refine r_lload (q := 34) (i := 4) (pl := 5) C d_Md_give_32 rfl rfl ?_
    refine r_cvV (q := 37) (As := [vI v16, vJ l4]) (st := []) (cy := 11) C d_Md_give_34 rfl Y_Md_waitAt L_Md_222 I_Md_waitAt Se_Md_waitAt rfl (by decide) rfl (Nat.le_of_ble_eq_true rfl) (Nat.le_of_ble_eq_true rfl) (Nat.le_of_ble_eq_true rfl) rfl (fun a17 => con_Md_waitAt a17 v16 l4) ?_
    refine r_goto (tgt := 96) C d_Md_give_37 (by decide) ?_
    refine r_sub (lv' := [(0, vA (some a))]) [1] rfl ?_
    exact s_Md_give_96 C a
theorem d_Md_route_0 : decode c_Md_route 0 = .ok (.iconst 0, 1) := by decide +kernel
theorem d_Md_route_1 : decode c_Md_route 1 = .ok (.istore 6, 2) := by decide +kernel
theorem d_Md_route_3 : decode c_Md_route 3 = .ok (.iload 6, 2) := by decide +kernel
theorem d_Md_route_5 : decode c_Md_route 5 = .ok (.iconst 2, 1) := by decide +kernel
theorem d_Md_route_6 : decode c_Md_route 6 = .ok (.if_icmp .ge 114, 3) := by decide +kernel
theorem d_Md_route_9 : decode c_Md_route 9 = .ok (.iload 6, 2) := by decide +kernel
theorem d_Md_route_11 : decode c_Md_route 11 = .ok (.ifCond .ne 17, 3) := by decide +kernel
theorem d_Md_route_14 : decode c_Md_route 14 = .ok (.aload_n 0, 1) := by decide +kernel
theorem d_Md_route_15 : decode c_Md_route 15 = .ok (.getfield 144, 3) := by decide +kernel
theorem d_Md_route_18 : decode c_Md_route 18 = .ok (.bipush 6, 2) := by decide +kernel
theorem d_Md_route_20 : decode c_Md_route 20 = .ok (.iload_n 1, 1) := by decide +kernel
theorem d_Md_route_21 : decode c_Md_route 21 = .ok (.imul, 1) := by decide +kernel
theorem d_Md_route_22 : decode c_Md_route 22 = .ok (.iload_n 2, 1) := by decide +kernel
theorem d_Md_route_23 : decode c_Md_route 23 = .ok (.iadd, 1) := by decide +kernel
theorem d_Md_route_24 : decode c_Md_route 24 = .ok (.iaload, 1) := by decide +kernel
theorem d_Md_route_25 : decode c_Md_route 25 = .ok (.goto 14, 3) := by decide +kernel
theorem d_Md_route_28 : decode c_Md_route 28 = .ok (.aload_n 0, 1) := by decide +kernel
theorem d_Md_route_29 : decode c_Md_route 29 = .ok (.getfield 147, 3) := by decide +kernel
theorem d_Md_route_32 : decode c_Md_route 32 = .ok (.bipush 6, 2) := by decide +kernel
theorem d_Md_route_34 : decode c_Md_route 34 = .ok (.iload_n 1, 1) := by decide +kernel
theorem d_Md_route_35 : decode c_Md_route 35 = .ok (.imul, 1) := by decide +kernel
theorem d_Md_route_36 : decode c_Md_route 36 = .ok (.iload_n 2, 1) := by decide +kernel
theorem d_Md_route_37 : decode c_Md_route 37 = .ok (.iadd, 1) := by decide +kernel
theorem d_Md_route_38 : decode c_Md_route 38 = .ok (.iaload, 1) := by decide +kernel
theorem d_Md_route_39 : decode c_Md_route 39 = .ok (.istore 7, 2) := by decide +kernel
theorem d_Md_route_41 : decode c_Md_route 41 = .ok (.iload 7, 2) := by decide +kernel
theorem d_Md_route_43 : decode c_Md_route 43 = .ok (.iconst (-1), 1) := by decide +kernel
theorem d_Md_route_44 : decode c_Md_route 44 = .ok (.if_icmp .eq 70, 3) := by decide +kernel
theorem d_Md_route_47 : decode c_Md_route 47 = .ok (.iload 7, 2) := by decide +kernel
theorem d_Md_route_49 : decode c_Md_route 49 = .ok (.iload 5, 2) := by decide +kernel
theorem d_Md_route_51 : decode c_Md_route 51 = .ok (.if_icmp .eq 63, 3) := by decide +kernel
theorem d_Md_route_54 : decode c_Md_route 54 = .ok (.aload_n 0, 1) := by decide +kernel
theorem d_Md_route_55 : decode c_Md_route 55 = .ok (.iload_n 1, 1) := by decide +kernel
theorem d_Md_route_56 : decode c_Md_route 56 = .ok (.iload 7, 2) := by decide +kernel
theorem d_Md_route_58 : decode c_Md_route 58 = .ok (.invokevirtual 226, 3) := by decide +kernel
theorem d_Md_route_61 : decode c_Md_route 61 = .ok (.ifCond .ne 6, 3) := by decide +kernel
theorem d_Md_route_64 : decode c_Md_route 64 = .ok (.goto 50, 3) := by decide +kernel
theorem d_Md_route_67 : decode c_Md_route 67 = .ok (.aload_n 0, 1) := by decide +kernel
theorem d_Md_route_68 : decode c_Md_route 68 = .ok (.getfield 138, 3) := by decide +kernel
theorem d_Md_route_71 : decode c_Md_route 71 = .ok (.bipush 36, 2) := by decide +kernel
theorem d_Md_route_73 : decode c_Md_route 73 = .ok (.iload_n 1, 1) := by decide +kernel
theorem d_Md_route_74 : decode c_Md_route 74 = .ok (.imul, 1) := by decide +kernel
theorem d_Md_route_75 : decode c_Md_route 75 = .ok (.bipush 6, 2) := by decide +kernel
theorem d_Md_route_77 : decode c_Md_route 77 = .ok (.iload 7, 2) := by decide +kernel
theorem d_Md_route_79 : decode c_Md_route 79 = .ok (.imul, 1) := by decide +kernel
theorem d_Md_route_80 : decode c_Md_route 80 = .ok (.iadd, 1) := by decide +kernel
theorem d_Md_route_81 : decode c_Md_route 81 = .ok (.iload_n 2, 1) := by decide +kernel
theorem d_Md_route_82 : decode c_Md_route 82 = .ok (.iadd, 1) := by decide +kernel
theorem d_Md_route_83 : decode c_Md_route 83 = .ok (.baload, 1) := by decide +kernel
theorem d_Md_route_84 : decode c_Md_route 84 = .ok (.ifCond .ne 30, 3) := by decide +kernel
theorem d_Md_route_87 : decode c_Md_route 87 = .ok (.aload_n 0, 1) := by decide +kernel
theorem d_Md_route_88 : decode c_Md_route 88 = .ok (.iload_n 1, 1) := by decide +kernel
theorem d_Md_route_89 : decode c_Md_route 89 = .ok (.iload 7, 2) := by decide +kernel
theorem d_Md_route_91 : decode c_Md_route 91 = .ok (.lload_n 3, 1) := by decide +kernel
theorem d_Md_route_92 : decode c_Md_route 92 = .ok (.invokestatic 230, 3) := by decide +kernel
theorem d_Md_route_95 : decode c_Md_route 95 = .ok (.invokevirtual 234, 3) := by decide +kernel
theorem d_Md_route_98 : decode c_Md_route 98 = .ok (.ifCond .eq 16, 3) := by decide +kernel
theorem d_Md_route_101 : decode c_Md_route 101 = .ok (.aload_n 0, 1) := by decide +kernel
theorem d_Md_route_102 : decode c_Md_route 102 = .ok (.iload_n 1, 1) := by decide +kernel
theorem d_Md_route_103 : decode c_Md_route 103 = .ok (.iload 7, 2) := by decide +kernel
theorem d_Md_route_105 : decode c_Md_route 105 = .ok (.lload_n 3, 1) := by decide +kernel
theorem d_Md_route_106 : decode c_Md_route 106 = .ok (.invokestatic 230, 3) := by decide +kernel
theorem d_Md_route_109 : decode c_Md_route 109 = .ok (.lload_n 3, 1) := by decide +kernel
theorem d_Md_route_110 : decode c_Md_route 110 = .ok (.invokevirtual 237, 3) := by decide +kernel
theorem d_Md_route_113 : decode c_Md_route 113 = .ok (.return_, 1) := by decide +kernel
theorem d_Md_route_114 : decode c_Md_route 114 = .ok (.iinc 6 1, 3) := by decide +kernel
theorem d_Md_route_117 : decode c_Md_route 117 = .ok (.goto (-114), 3) := by decide +kernel
theorem d_Md_route_120 : decode c_Md_route 120 = .ok (.aload_n 0, 1) := by decide +kernel
theorem d_Md_route_121 : decode c_Md_route 121 = .ok (.dup, 1) := by decide +kernel
theorem d_Md_route_122 : decode c_Md_route 122 = .ok (.getfield 219, 3) := by decide +kernel
theorem d_Md_route_125 : decode c_Md_route 125 = .ok (.iconst 1, 1) := by decide +kernel
theorem d_Md_route_126 : decode c_Md_route 126 = .ok (.iadd, 1) := by decide +kernel
theorem d_Md_route_127 : decode c_Md_route 127 = .ok (.putfield 219, 3) := by decide +kernel
theorem d_Md_route_130 : decode c_Md_route 130 = .ok (.return_, 1) := by decide +kernel
def f_Md_route_114 (k3 : Int32 → Int32 → Int64 → Int32 → Int32 → sn_M) (a : Nat) (x1 : Int32) (x2 : Int32) (l3 : Int64) (x5 : Int32) (x6 : Int32) : sn_M := k3 x1 x2 l3 x5 (x6 + (1 : Int32))
set_option maxHeartbeats 4000000 in
set_option maxRecDepth 100000 in
theorem mono_Md_route_114 (k3 : Int32 → Int32 → Int64 → Int32 → Int32 → sn_M) (mk3 : ∀ (x1 : Int32) (x2 : Int32) (l3 : Int64) (x5 : Int32) (x6 : Int32), sn_Mono (k3 x1 x2 l3 x5 x6)) (a : Nat) (x1 : Int32) (x2 : Int32) (l3 : Int64) (x5 : Int32) (x6 : Int32) : sn_Mono (f_Md_route_114 k3 a x1 x2 l3 x5 x6) := mk3 x1 x2 l3 x5 (x6 + (1 : Int32))
set_option maxHeartbeats 4000000 in
set_option maxRecDepth 100000 in
theorem s_Md_route_114 {X : sn_X} (C : sn_Cx X c_Md_route "SignalNetworkModel" none "route" 8 3 69) (a : Nat) (k3 : Int32 → Int32 → Int64 → Int32 → Int32 → sn_M) (hk3 : ∀ (x1 : Int32) (x2 : Int32) (l3 : Int64) (x5 : Int32) (x6 : Int32), sn_S X 3 [(0, vA (some a)), (1, vI x1), (2, vI x2), (3, vJ l3), (5, vI x5), (6, vI x6)] [] (k3 x1 x2 l3 x5 x6)) (x1 : Int32) (x2 : Int32) (l3 : Int64) (x5 : Int32) (x6 : Int32) : sn_S X 114 [(0, vA (some a)), (1, vI x1), (2, vI x2), (3, vJ l3), (5, vI x5), (6, vI x6)] [] (f_Md_route_114 k3 a x1 x2 l3 x5 x6) := by
  unfold f_Md_route_114
  refine r_iinc (q := 117) (pl := 5) (v := x6 + (1 : Int32)) (lv' := [(6, vI (x6 + (1 : Int32))), (0, vA (some a)), (1, vI x1), (2, vI x2), (3, vJ l3), (5, vI x5)]) C d_Md_route_114 rfl rfl rfl (by decide) rfl ?_
  refine r_goto (tgt := 3) C d_Md_route_117 (by decide) ?_
  refine r_sub (lv' := [(0, vA (some a)), (1, vI x1), (2, vI x2), (3, vJ l3), (5, vI x5), (6, vI (x6 + (1 : Int32)))]) [1, 2, 3, 4, 5, 0] rfl ?_
  exact hk3 x1 x2 l3 x5 (x6 + (1 : Int32))
def f_Md_route_39 (k3 : Int32 → Int32 → Int64 → Int32 → Int32 → sn_M) (a : Nat) (x1 : Int32) (x2 : Int32) (l3 : Int64) (x5 : Int32) (x6 : Int32) (t0 : Int32) : sn_M := (if t0 = (-1 : Int32) then f_Md_route_114 k3 a x1 x2 l3 x5 x6 else (if t0 = x5 then f_Md_route_114 k3 a x1 x2 l3 x5 x6 else n_n 12 (some a) fun a1 => c_I (f_Md_areNeighbours a1 x1 t0) fun v2 => (if ¬ v2 = 0 then g_R 12 48 (some a) fun v3 => a_I 33 v3 ((((36 : Int32) * x1) + ((6 : Int32) * t0)) + x2) fun v4 => (if ¬ v4 = 0 then f_Md_route_114 k3 a x1 x2 l3 x5 x6 else c_I (f_Md_flowOf l3) fun v5 => n_n 12 (some a) fun a6 => c_I (f_Md_isOpen a6 x1 t0 v5) fun v7 => (if v7 = 0 then f_Md_route_114 k3 a x1 x2 l3 x5 x6 else c_I (f_Md_flowOf l3) fun v8 => n_n 12 (some a) fun a9 => c_V (f_Md_give a9 x1 t0 v8 l3) (r_V))) else f_Md_route_114 k3 a x1 x2 l3 x5 x6)))
set_option maxHeartbeats 4000000 in
set_option maxRecDepth 100000 in
theorem mono_Md_route_39 (k3 : Int32 → Int32 → Int64 → Int32 → Int32 → sn_M) (mk3 : ∀ (x1 : Int32) (x2 : Int32) (l3 : Int64) (x5 : Int32) (x6 : Int32), sn_Mono (k3 x1 x2 l3 x5 x6)) (a : Nat) (x1 : Int32) (x2 : Int32) (l3 : Int64) (x5 : Int32) (x6 : Int32) (t0 : Int32) : sn_Mono (f_Md_route_39 k3 a x1 x2 l3 x5 x6 t0) := sn_Mono.ite (mono_Md_route_114 k3 mk3 a x1 x2 l3 x5 x6) (sn_Mono.ite (mono_Md_route_114 k3 mk3 a x1 x2 l3 x5 x6) (sn_Mono.nn (fun a1 => sn_Mono.cI (mono_Md_areNeighbours a1 x1 t0) (fun v2 => sn_Mono.ite (sn_Mono.gR (fun v3 => sn_Mono.aI (fun v4 => sn_Mono.ite (mono_Md_route_114 k3 mk3 a x1 x2 l3 x5 x6) (sn_Mono.cI (mono_Md_flowOf l3) (fun v5 => sn_Mono.nn (fun a6 => sn_Mono.cI (mono_Md_isOpen a6 x1 t0 v5) (fun v7 => sn_Mono.ite (mono_Md_route_114 k3 mk3 a x1 x2 l3 x5 x6) (sn_Mono.cI (mono_Md_flowOf l3) (fun v8 => sn_Mono.nn (fun a9 => sn_Mono.cV (mono_Md_give a9 x1 t0 v8 l3) (sn_Mono.rV))))))))))) (mono_Md_route_114 k3 mk3 a x1 x2 l3 x5 x6)))))
set_option maxHeartbeats 4000000 in
set_option maxRecDepth 100000 in
theorem s_Md_route_39 {X : sn_X} (C : sn_Cx X c_Md_route "SignalNetworkModel" none "route" 8 3 69) (a : Nat) (k3 : Int32 → Int32 → Int64 → Int32 → Int32 → sn_M) (hk3 : ∀ (x1 : Int32) (x2 : Int32) (l3 : Int64) (x5 : Int32) (x6 : Int32), sn_S X 3 [(0, vA (some a)), (1, vI x1), (2, vI x2), (3, vJ l3), (5, vI x5), (6, vI x6)] [] (k3 x1 x2 l3 x5 x6)) (x1 : Int32) (x2 : Int32) (l3 : Int64) (x5 : Int32) (x6 : Int32) (t0 : Int32) : sn_S X 39 [(0, vA (some a)), (1, vI x1), (2, vI x2), (3, vJ l3), (5, vI x5), (6, vI x6)] [vI t0] (f_Md_route_39 k3 a x1 x2 l3 x5 x6 t0) := by
  unfold f_Md_route_39
  refine r_istore (q := 41) (i := 7) (lv' := [(7, vI t0), (0, vA (some a)), (1, vI x1), (2, vI x2), (3, vJ l3), (5, vI x5), (6, vI x6)]) C d_Md_route_39 rfl (by decide) rfl ?_
  refine r_iload (q := 43) (i := 7) (pl := 0) C d_Md_route_41 rfl rfl ?_
  refine r_iconst (q := 44) (v := -1) C d_Md_route_43 rfl (by decide) ?_
  refine r_icmp_eq (tgt := 114) (q := 47) C d_Md_route_44 (by decide) rfl ?_ ?_
  · refine r_sub (lv' := [(0, vA (some a)), (1, vI x1), (2, vI x2), (3, vJ l3), (5, vI x5), (6, vI x6)]) [1, 2, 3, 4, 5, 6] rfl ?_
    exact s_Md_route_114 C a k3 hk3 x1 x2 l3 x5 x6
  · refine r_iload (q := 49) (i := 7) (pl := 0) C d_Md_route_47 rfl rfl ?_
    refine r_iload (q := 51) (i := 5) (pl := 5) C d_Md_route_49 rfl rfl ?_
    refine r_icmp_eq (tgt := 114) (q := 54) C d_Md_route_51 (by decide) rfl ?_ ?_
    · refine r_sub (lv' := [(0, vA (some a)), (1, vI x1), (2, vI x2), (3, vJ l3), (5, vI x5), (6, vI x6)]) [1, 2, 3, 4, 5, 6] rfl ?_
      exact s_Md_route_114 C a k3 hk3 x1 x2 l3 x5 x6
    · refine r_aload_n (q := 55) (i := 0) (pl := 1) C d_Md_route_54 rfl rfl rfl ?_
      refine r_iload_n (q := 56) (i := 1) (pl := 2) C d_Md_route_55 rfl rfl rfl ?_
      refine r_iload (q := 58) (i := 7) (pl := 0) C d_Md_route_56 rfl rfl ?_
      refine r_cvI (q := 61) (As := [vI x1, vI t0]) (st := []) (cy := 11) C d_Md_route_58 rfl Y_Md_areNeighbours L_Md_226 I_Md_areNeighbours Se_Md_areNeighbours rfl (by decide) rfl (Nat.le_of_ble_eq_true rfl) (Nat.le_of_ble_eq_true rfl) (Nat.le_of_ble_eq_true rfl) rfl (fun a1 => con_Md_areNeighbours a1 x1 t0) (fun v2 => ?_)
      refine r_if_ne (tgt := 67) (q := 64) C d_Md_route_61 (by decide) rfl ?_ ?_
      · refine r_aload_n (q := 68) (i := 0) (pl := 1) C d_Md_route_67 rfl rfl rfl ?_
        refine r_gR (q := 71) C d_Md_route_68 rfl F_Md_138 rfl (fun v3 => ?_)
        refine r_bipush (q := 73) (v := 36) C d_Md_route_71 rfl (by decide) ?_
        refine r_iload_n (q := 74) (i := 1) (pl := 2) C d_Md_route_73 rfl rfl rfl ?_
        refine r_imul (q := 75) C d_Md_route_74 rfl ?_
        refine r_bipush (q := 77) (v := 6) C d_Md_route_75 rfl (by decide) ?_
        refine r_iload (q := 79) (i := 7) (pl := 0) C d_Md_route_77 rfl rfl ?_
        refine r_imul (q := 80) C d_Md_route_79 rfl ?_
        refine r_iadd (q := 81) C d_Md_route_80 rfl ?_
        refine r_iload_n (q := 82) (i := 2) (pl := 3) C d_Md_route_81 rfl rfl rfl ?_
        refine r_iadd (q := 83) C d_Md_route_82 rfl ?_
        refine r_aZ (q := 84) C (Or.inr rfl) d_Md_route_83 rfl (fun v4 => ?_)
        refine r_if_ne (tgt := 114) (q := 87) C d_Md_route_84 (by decide) rfl ?_ ?_
        · refine r_sub (lv' := [(0, vA (some a)), (1, vI x1), (2, vI x2), (3, vJ l3), (5, vI x5), (6, vI x6)]) [1, 2, 3, 4, 5, 6] rfl ?_
          exact s_Md_route_114 C a k3 hk3 x1 x2 l3 x5 x6
        · refine r_aload_n (q := 88) (i := 0) (pl := 1) C d_Md_route_87 rfl rfl rfl ?_
          refine r_iload_n (q := 89) (i := 1) (pl := 2) C d_Md_route_88 rfl rfl rfl ?_
          refine r_iload (q := 91) (i := 7) (pl := 0) C d_Md_route_89 rfl rfl ?_
          refine r_lload_n (q := 92) (i := 3) (pl := 4) C d_Md_route_91 rfl rfl rfl ?_
          refine r_csI (q := 95) (As := [vJ l3]) (st := [vI t0, vI x1, vA (some a)]) C d_Md_route_92 rfl Y_Md_flowOf L_Md_230 St_Md_flowOf rfl (Nat.le_of_ble_eq_true rfl) (Nat.le_of_ble_eq_true rfl) (Nat.le_of_ble_eq_true rfl) rfl (con_Md_flowOf l3) (fun v5 => ?_)
          refine r_cvI (q := 98) (As := [vI x1, vI t0, vI v5]) (st := []) (cy := 11) C d_Md_route_95 rfl Y_Md_isOpen L_Md_234 I_Md_isOpen Se_Md_isOpen rfl (by decide) rfl (Nat.le_of_ble_eq_true rfl) (Nat.le_of_ble_eq_true rfl) (Nat.le_of_ble_eq_true rfl) rfl (fun a6 => con_Md_isOpen a6 x1 t0 v5) (fun v7 => ?_)
          refine r_if_eq (tgt := 114) (q := 101) C d_Md_route_98 (by decide) rfl ?_ ?_
          · refine r_sub (lv' := [(0, vA (some a)), (1, vI x1), (2, vI x2), (3, vJ l3), (5, vI x5), (6, vI x6)]) [1, 2, 3, 4, 5, 6] rfl ?_
            exact s_Md_route_114 C a k3 hk3 x1 x2 l3 x5 x6
          · refine r_aload_n (q := 102) (i := 0) (pl := 1) C d_Md_route_101 rfl rfl rfl ?_
            refine r_iload_n (q := 103) (i := 1) (pl := 2) C d_Md_route_102 rfl rfl rfl ?_
            refine r_iload (q := 105) (i := 7) (pl := 0) C d_Md_route_103 rfl rfl ?_
            refine r_lload_n (q := 106) (i := 3) (pl := 4) C d_Md_route_105 rfl rfl rfl ?_
            refine r_csI (q := 109) (As := [vJ l3]) (st := [vI t0, vI x1, vA (some a)]) C d_Md_route_106 rfl Y_Md_flowOf L_Md_230 St_Md_flowOf rfl (Nat.le_of_ble_eq_true rfl) (Nat.le_of_ble_eq_true rfl) (Nat.le_of_ble_eq_true rfl) rfl (con_Md_flowOf l3) (fun v8 => ?_)
            refine r_lload_n (q := 110) (i := 3) (pl := 4) C d_Md_route_109 rfl rfl rfl ?_
            refine r_cvV (q := 113) (As := [vI x1, vI t0, vI v8, vJ l3]) (st := []) (cy := 11) C d_Md_route_110 rfl Y_Md_give L_Md_237 I_Md_give Se_Md_give rfl (by decide) rfl (Nat.le_of_ble_eq_true rfl) (Nat.le_of_ble_eq_true rfl) (Nat.le_of_ble_eq_true rfl) rfl (fun a9 => con_Md_give a9 x1 t0 v8 l3) ?_
            exact r_vret C d_Md_route_113 rfl
      · refine r_goto (tgt := 114) C d_Md_route_64 (by decide) ?_
        refine r_sub (lv' := [(0, vA (some a)), (1, vI x1), (2, vI x2), (3, vJ l3), (5, vI x5), (6, vI x6)]) [1, 2, 3, 4, 5, 6] rfl ?_
        exact s_Md_route_114 C a k3 hk3 x1 x2 l3 x5 x6
def f_Md_route_3 (a : Nat) : Nat → Int32 → Int32 → Int64 → Int32 → Int32 → sn_M
  | 0, _, _, _, _, _ => r_0
  | n + 1, x1, x2, l3, x5, x6 => (if (2 : Int32) ≤ x6 then g_I 12 7 (some a) fun v11 => p_I 12 7 (some a) (v11 + (1 : Int32)) (r_V) else (if ¬ x6 = 0 then g_R 12 51 (some a) fun v12 => a_I 31 v12 (((6 : Int32) * x1) + x2) fun v13 => f_Md_route_39 (f_Md_route_3 a n) a x1 x2 l3 x5 x6 v13 else g_R 12 50 (some a) fun v14 => a_I 31 v14 (((6 : Int32) * x1) + x2) fun v15 => f_Md_route_39 (f_Md_route_3 a n) a x1 x2 l3 x5 x6 v15))
set_option maxHeartbeats 4000000 in
set_option maxRecDepth 100000 in
theorem mono_Md_route_3 (a : Nat) : ∀ (n : Nat) (x1 : Int32) (x2 : Int32) (l3 : Int64) (x5 : Int32) (x6 : Int32), sn_Mono (f_Md_route_3 a n x1 x2 l3 x5 x6)
  | 0, _, _, _, _, _ => sn_Mono.r0
  | n + 1, x1, x2, l3, x5, x6 => sn_Mono.ite (sn_Mono.gI (fun v11 => sn_Mono.pI (sn_Mono.rV))) (sn_Mono.ite (sn_Mono.gR (fun v12 => sn_Mono.aI (fun v13 => mono_Md_route_39 (f_Md_route_3 a n) (mono_Md_route_3 a n) a x1 x2 l3 x5 x6 v13))) (sn_Mono.gR (fun v14 => sn_Mono.aI (fun v15 => mono_Md_route_39 (f_Md_route_3 a n) (mono_Md_route_3 a n) a x1 x2 l3 x5 x6 v15))))
set_option maxHeartbeats 4000000 in
set_option maxRecDepth 100000 in
theorem s_Md_route_3 {X : sn_X} (C : sn_Cx X c_Md_route "SignalNetworkModel" none "route" 8 3 69) (a : Nat) (n : Nat) : ∀ (x1 : Int32) (x2 : Int32) (l3 : Int64) (x5 : Int32) (x6 : Int32), sn_S X 3 [(0, vA (some a)), (1, vI x1), (2, vI x2), (3, vJ l3), (5, vI x5), (6, vI x6)] [] (f_Md_route_3 a n x1 x2 l3 x5 x6) := by
  induction n with
  | zero => intro x1 x2 l3 x5 x6; exact sn_S.zero
  | succ n ih =>
    intro x1 x2 l3 x5 x6
    unfold f_Md_route_3
    refine r_iload (q := 5) (i := 6) (pl := 5) C d_Md_route_3 rfl rfl ?_
    refine r_iconst (q := 6) (v := 2) C d_Md_route_5 rfl (by decide) ?_
    refine r_icmp_ge (tgt := 120) (q := 9) C d_Md_route_6 (by decide) rfl ?_ ?_
    · refine r_aload_n (q := 121) (i := 0) (pl := 0) C d_Md_route_120 rfl rfl rfl ?_
      refine r_dup (q := 122) C d_Md_route_121 rfl rfl ?_
      refine r_gI (q := 125) C d_Md_route_122 rfl F_Md_219 rfl (fun v11 => ?_)
      refine r_iconst (q := 126) (v := 1) C d_Md_route_125 rfl (by decide) ?_
      refine r_iadd (q := 127) C d_Md_route_126 rfl ?_
      refine r_pI (q := 130) C d_Md_route_127 rfl F_Md_219 rfl rfl (Or.inl rfl) ?_
      exact r_vret C d_Md_route_130 rfl
    · refine r_iload (q := 11) (i := 6) (pl := 5) C d_Md_route_9 rfl rfl ?_
      refine r_if_ne (tgt := 28) (q := 14) C d_Md_route_11 (by decide) rfl ?_ ?_
      · refine r_aload_n (q := 29) (i := 0) (pl := 0) C d_Md_route_28 rfl rfl rfl ?_
        refine r_gR (q := 32) C d_Md_route_29 rfl F_Md_147 rfl (fun v12 => ?_)
        refine r_bipush (q := 34) (v := 6) C d_Md_route_32 rfl (by decide) ?_
        refine r_iload_n (q := 35) (i := 1) (pl := 1) C d_Md_route_34 rfl rfl rfl ?_
        refine r_imul (q := 36) C d_Md_route_35 rfl ?_
        refine r_iload_n (q := 37) (i := 2) (pl := 2) C d_Md_route_36 rfl rfl rfl ?_
        refine r_iadd (q := 38) C d_Md_route_37 rfl ?_
        refine r_aI (q := 39) C (Or.inr rfl) d_Md_route_38 rfl (fun v13 => ?_)
        exact s_Md_route_39 C a (f_Md_route_3 a n) ih x1 x2 l3 x5 x6 v13
      · refine r_aload_n (q := 15) (i := 0) (pl := 0) C d_Md_route_14 rfl rfl rfl ?_
        refine r_gR (q := 18) C d_Md_route_15 rfl F_Md_144 rfl (fun v14 => ?_)
        refine r_bipush (q := 20) (v := 6) C d_Md_route_18 rfl (by decide) ?_
        refine r_iload_n (q := 21) (i := 1) (pl := 1) C d_Md_route_20 rfl rfl rfl ?_
        refine r_imul (q := 22) C d_Md_route_21 rfl ?_
        refine r_iload_n (q := 23) (i := 2) (pl := 2) C d_Md_route_22 rfl rfl rfl ?_
        refine r_iadd (q := 24) C d_Md_route_23 rfl ?_
        refine r_aI (q := 25) C (Or.inr rfl) d_Md_route_24 rfl (fun v15 => ?_)
        refine r_goto (tgt := 39) C d_Md_route_25 (by decide) ?_
        exact s_Md_route_39 C a (f_Md_route_3 a n) ih x1 x2 l3 x5 x6 v15
def f_Md_route (a : Nat) (x1 : Int32) (x2 : Int32) (l3 : Int64) (x5 : Int32) : sn_M := f_Md_route_3 a sn_fuel x1 x2 l3 x5 (0 : Int32)
set_option maxHeartbeats 4000000 in
set_option maxRecDepth 100000 in
theorem mono_Md_route (a : Nat) (x1 : Int32) (x2 : Int32) (l3 : Int64) (x5 : Int32) : sn_Mono (f_Md_route a x1 x2 l3 x5) := mono_Md_route_3 a sn_fuel x1 x2 l3 x5 (0 : Int32)
set_option maxHeartbeats 4000000 in
set_option maxRecDepth 100000 in
theorem con_Md_route (a : Nat) (x1 : Int32) (x2 : Int32) (l3 : Int64) (x5 : Int32) : sn_Con y_Md_route c_Md_route 8 none 3 69 [vA (some a), vI x1, vI x2, vJ l3, vI x5] (f_Md_route a x1 x2 l3 x5) := by
  refine sn_Con.of (by decide +kernel) (by show _ ≤ _; exact Nat.le_of_ble_eq_true rfl) (mono_Md_route a x1 x2 l3 x5) (fun X C => ?_)
  show sn_S X 0 [(0, vA (some a)), (1, vI x1), (2, vI x2), (3, vJ l3), (5, vI x5)] [] _
  replace C : sn_Cx X c_Md_route "SignalNetworkModel" none "route" 8 3 69 := C
  unfold f_Md_route
  refine r_iconst (q := 1) (v := 0) C d_Md_route_0 rfl (by decide) ?_
  refine r_istore (q := 3) (i := 6) (lv' := [(6, vI (0 : Int32)), (0, vA (some a)), (1, vI x1), (2, vI x2), (3, vJ l3), (5, vI x5)]) C d_Md_route_1 rfl (by decide) rfl ?_
  refine r_sub (lv' := [(0, vA (some a)), (1, vI x1), (2, vI x2), (3, vJ l3), (5, vI x5), (6, vI (0 : Int32))]) [1, 2, 3, 4, 5, 0] rfl ?_
  exact s_Md_route_3 C a sn_fuel x1 x2 l3 x5 (0 : Int32)
theorem d_Md_otherWay_0 : decode c_Md_otherWay 0 = .ok (.iconst 0, 1) := by decide +kernel
theorem d_Md_otherWay_1 : decode c_Md_otherWay 1 = .ok (.istore 5, 2) := by decide +kernel
theorem d_Md_otherWay_3 : decode c_Md_otherWay 3 = .ok (.iload 5, 2) := by decide +kernel
theorem d_Md_otherWay_5 : decode c_Md_otherWay 5 = .ok (.aload_n 0, 1) := by decide +kernel
theorem d_Md_otherWay_6 : decode c_Md_otherWay 6 = .ok (.getfield 196, 3) := by decide +kernel
theorem d_Md_otherWay_9 : decode c_Md_otherWay 9 = .ok (.if_icmp .ge 49, 3) := by decide +kernel
theorem d_Md_otherWay_12 : decode c_Md_otherWay 12 = .ok (.aload_n 0, 1) := by decide +kernel
theorem d_Md_otherWay_13 : decode c_Md_otherWay 13 = .ok (.iload 5, 2) := by decide +kernel
theorem d_Md_otherWay_15 : decode c_Md_otherWay 15 = .ok (.iload_n 1, 1) := by decide +kernel
theorem d_Md_otherWay_16 : decode c_Md_otherWay 16 = .ok (.iload_n 2, 1) := by decide +kernel
theorem d_Md_otherWay_17 : decode c_Md_otherWay 17 = .ok (.invokevirtual 200, 3) := by decide +kernel
theorem d_Md_otherWay_20 : decode c_Md_otherWay 20 = .ok (.ifCond .eq 32, 3) := by decide +kernel
theorem d_Md_otherWay_23 : decode c_Md_otherWay 23 = .ok (.aload_n 0, 1) := by decide +kernel
theorem d_Md_otherWay_24 : decode c_Md_otherWay 24 = .ok (.getfield 23, 3) := by decide +kernel
theorem d_Md_otherWay_27 : decode c_Md_otherWay 27 = .ok (.aload_n 0, 1) := by decide +kernel
theorem d_Md_otherWay_28 : decode c_Md_otherWay 28 = .ok (.iload 5, 2) := by decide +kernel
theorem d_Md_otherWay_30 : decode c_Md_otherWay 30 = .ok (.iload_n 1, 1) := by decide +kernel
theorem d_Md_otherWay_31 : decode c_Md_otherWay 31 = .ok (.invokevirtual 216, 3) := by decide +kernel
theorem d_Md_otherWay_34 : decode c_Md_otherWay 34 = .ok (.iaload, 1) := by decide +kernel
theorem d_Md_otherWay_35 : decode c_Md_otherWay 35 = .ok (.iconst 5, 1) := by decide +kernel
theorem d_Md_otherWay_36 : decode c_Md_otherWay 36 = .ok (.if_icmp .ne 16, 3) := by decide +kernel
theorem d_Md_otherWay_39 : decode c_Md_otherWay 39 = .ok (.aload_n 0, 1) := by decide +kernel
theorem d_Md_otherWay_40 : decode c_Md_otherWay 40 = .ok (.aload_n 0, 1) := by decide +kernel
theorem d_Md_otherWay_41 : decode c_Md_otherWay 41 = .ok (.iload 5, 2) := by decide +kernel
theorem d_Md_otherWay_43 : decode c_Md_otherWay 43 = .ok (.iload_n 1, 1) := by decide +kernel
theorem d_Md_otherWay_44 : decode c_Md_otherWay 44 = .ok (.invokevirtual 216, 3) := by decide +kernel
theorem d_Md_otherWay_47 : decode c_Md_otherWay 47 = .ok (.lload_n 3, 1) := by decide +kernel
theorem d_Md_otherWay_48 : decode c_Md_otherWay 48 = .ok (.invokevirtual 222, 3) := by decide +kernel
theorem d_Md_otherWay_51 : decode c_Md_otherWay 51 = .ok (.return_, 1) := by decide +kernel
theorem d_Md_otherWay_52 : decode c_Md_otherWay 52 = .ok (.iinc 5 1, 3) := by decide +kernel
theorem d_Md_otherWay_55 : decode c_Md_otherWay 55 = .ok (.goto (-52), 3) := by decide +kernel
theorem d_Md_otherWay_58 : decode c_Md_otherWay 58 = .ok (.aload_n 0, 1) := by decide +kernel
theorem d_Md_otherWay_59 : decode c_Md_otherWay 59 = .ok (.iload_n 1, 1) := by decide +kernel
theorem d_Md_otherWay_60 : decode c_Md_otherWay 60 = .ok (.iload_n 2, 1) := by decide +kernel
theorem d_Md_otherWay_61 : decode c_Md_otherWay 61 = .ok (.lload_n 3, 1) := by decide +kernel
theorem d_Md_otherWay_62 : decode c_Md_otherWay 62 = .ok (.iload_n 2, 1) := by decide +kernel
theorem d_Md_otherWay_63 : decode c_Md_otherWay 63 = .ok (.invokevirtual 241, 3) := by decide +kernel
theorem d_Md_otherWay_66 : decode c_Md_otherWay 66 = .ok (.return_, 1) := by decide +kernel
def f_Md_otherWay_52 (k3 : Int32 → Int32 → Int64 → Int32 → sn_M) (a : Nat) (x1 : Int32) (x2 : Int32) (l3 : Int64) (x5 : Int32) : sn_M := k3 x1 x2 l3 (x5 + (1 : Int32))
set_option maxHeartbeats 4000000 in
set_option maxRecDepth 100000 in
theorem mono_Md_otherWay_52 (k3 : Int32 → Int32 → Int64 → Int32 → sn_M) (mk3 : ∀ (x1 : Int32) (x2 : Int32) (l3 : Int64) (x5 : Int32), sn_Mono (k3 x1 x2 l3 x5)) (a : Nat) (x1 : Int32) (x2 : Int32) (l3 : Int64) (x5 : Int32) : sn_Mono (f_Md_otherWay_52 k3 a x1 x2 l3 x5) := mk3 x1 x2 l3 (x5 + (1 : Int32))
set_option maxHeartbeats 4000000 in
set_option maxRecDepth 100000 in
theorem s_Md_otherWay_52 {X : sn_X} (C : sn_Cx X c_Md_otherWay "SignalNetworkModel" none "otherWay" 6 4 96) (a : Nat) (k3 : Int32 → Int32 → Int64 → Int32 → sn_M) (hk3 : ∀ (x1 : Int32) (x2 : Int32) (l3 : Int64) (x5 : Int32), sn_S X 3 [(0, vA (some a)), (1, vI x1), (2, vI x2), (3, vJ l3), (5, vI x5)] [] (k3 x1 x2 l3 x5)) (x1 : Int32) (x2 : Int32) (l3 : Int64) (x5 : Int32) : sn_S X 52 [(0, vA (some a)), (1, vI x1), (2, vI x2), (3, vJ l3), (5, vI x5)] [] (f_Md_otherWay_52 k3 a x1 x2 l3 x5) := by
  unfold f_Md_otherWay_52
  refine r_iinc (q := 55) (pl := 4) (v := x5 + (1 : Int32)) (lv' := [(5, vI (x5 + (1 : Int32))), (0, vA (some a)), (1, vI x1), (2, vI x2), (3, vJ l3)]) C d_Md_otherWay_52 rfl rfl rfl (by decide) rfl ?_
  refine r_goto (tgt := 3) C d_Md_otherWay_55 (by decide) ?_
  refine r_sub (lv' := [(0, vA (some a)), (1, vI x1), (2, vI x2), (3, vJ l3), (5, vI (x5 + (1 : Int32)))]) [1, 2, 3, 4, 0] rfl ?_
  exact hk3 x1 x2 l3 (x5 + (1 : Int32))
def f_Md_otherWay_3 (a : Nat) : Nat → Int32 → Int32 → Int64 → Int32 → sn_M
  | 0, _, _, _, _ => r_0
  | n + 1, x1, x2, l3, x5 => g_I 12 4 (some a) fun v1 => (if v1 ≤ x5 then n_n 12 (some a) fun a2 => c_V (f_Md_route a2 x1 x2 l3 x2) (r_V) else n_n 12 (some a) fun a4 => c_I (f_Md_isOf a4 x5 x1 x2) fun v5 => (if v5 = 0 then f_Md_otherWay_52 (f_Md_otherWay_3 a n) a x1 x2 l3 x5 else g_R 12 10 (some a) fun v6 => n_n 12 (some a) fun a7 => c_I (f_Md_endAt a7 x5 x1) fun v8 => a_I 31 v6 v8 fun v9 => (if ¬ v9 = (5 : Int32) then f_Md_otherWay_52 (f_Md_otherWay_3 a n) a x1 x2 l3 x5 else n_n 12 (some a) fun a10 => c_I (f_Md_endAt a10 x5 x1) fun v11 => n_n 12 (some a) fun a12 => c_V (f_Md_waitAt a12 v11 l3) (r_V))))
set_option maxHeartbeats 4000000 in
set_option maxRecDepth 100000 in
theorem mono_Md_otherWay_3 (a : Nat) : ∀ (n : Nat) (x1 : Int32) (x2 : Int32) (l3 : Int64) (x5 : Int32), sn_Mono (f_Md_otherWay_3 a n x1 x2 l3 x5)
  | 0, _, _, _, _ => sn_Mono.r0
  | n + 1, x1, x2, l3, x5 => sn_Mono.gI (fun v1 => sn_Mono.ite (sn_Mono.nn (fun a2 => sn_Mono.cV (mono_Md_route a2 x1 x2 l3 x2) (sn_Mono.rV))) (sn_Mono.nn (fun a4 => sn_Mono.cI (mono_Md_isOf a4 x5 x1 x2) (fun v5 => sn_Mono.ite (mono_Md_otherWay_52 (f_Md_otherWay_3 a n) (mono_Md_otherWay_3 a n) a x1 x2 l3 x5) (sn_Mono.gR (fun v6 => sn_Mono.nn (fun a7 => sn_Mono.cI (mono_Md_endAt a7 x5 x1) (fun v8 => sn_Mono.aI (fun v9 => sn_Mono.ite (mono_Md_otherWay_52 (f_Md_otherWay_3 a n) (mono_Md_otherWay_3 a n) a x1 x2 l3 x5) (sn_Mono.nn (fun a10 => sn_Mono.cI (mono_Md_endAt a10 x5 x1) (fun v11 => sn_Mono.nn (fun a12 => sn_Mono.cV (mono_Md_waitAt a12 v11 l3) (sn_Mono.rV))))))))))))))
set_option maxHeartbeats 4000000 in
set_option maxRecDepth 100000 in
theorem s_Md_otherWay_3 {X : sn_X} (C : sn_Cx X c_Md_otherWay "SignalNetworkModel" none "otherWay" 6 4 96) (a : Nat) (n : Nat) : ∀ (x1 : Int32) (x2 : Int32) (l3 : Int64) (x5 : Int32), sn_S X 3 [(0, vA (some a)), (1, vI x1), (2, vI x2), (3, vJ l3), (5, vI x5)] [] (f_Md_otherWay_3 a n x1 x2 l3 x5) := by
  induction n with
  | zero => intro x1 x2 l3 x5; exact sn_S.zero
  | succ n ih =>
    intro x1 x2 l3 x5
    unfold f_Md_otherWay_3
    refine r_iload (q := 5) (i := 5) (pl := 4) C d_Md_otherWay_3 rfl rfl ?_
    refine r_aload_n (q := 6) (i := 0) (pl := 0) C d_Md_otherWay_5 rfl rfl rfl ?_
    refine r_gI (q := 9) C d_Md_otherWay_6 rfl F_Md_196 rfl (fun v1 => ?_)
    refine r_icmp_ge (tgt := 58) (q := 12) C d_Md_otherWay_9 (by decide) rfl ?_ ?_
    · refine r_aload_n (q := 59) (i := 0) (pl := 0) C d_Md_otherWay_58 rfl rfl rfl ?_
      refine r_iload_n (q := 60) (i := 1) (pl := 1) C d_Md_otherWay_59 rfl rfl rfl ?_
      refine r_iload_n (q := 61) (i := 2) (pl := 2) C d_Md_otherWay_60 rfl rfl rfl ?_
      refine r_lload_n (q := 62) (i := 3) (pl := 3) C d_Md_otherWay_61 rfl rfl rfl ?_
      refine r_iload_n (q := 63) (i := 2) (pl := 2) C d_Md_otherWay_62 rfl rfl rfl ?_
      refine r_cvV (q := 66) (As := [vI x1, vI x2, vJ l3, vI x2]) (st := []) (cy := 11) C d_Md_otherWay_63 rfl Y_Md_route L_Md_241 I_Md_route Se_Md_route rfl (by decide) rfl (Nat.le_of_ble_eq_true rfl) (Nat.le_of_ble_eq_true rfl) (Nat.le_of_ble_eq_true rfl) rfl (fun a2 => con_Md_route a2 x1 x2 l3 x2) ?_
      exact r_vret C d_Md_otherWay_66 rfl
    · refine r_aload_n (q := 13) (i := 0) (pl := 0) C d_Md_otherWay_12 rfl rfl rfl ?_
      refine r_iload (q := 15) (i := 5) (pl := 4) C d_Md_otherWay_13 rfl rfl ?_
      refine r_iload_n (q := 16) (i := 1) (pl := 1) C d_Md_otherWay_15 rfl rfl rfl ?_
      refine r_iload_n (q := 17) (i := 2) (pl := 2) C d_Md_otherWay_16 rfl rfl rfl ?_
      refine r_cvI (q := 20) (As := [vI x5, vI x1, vI x2]) (st := []) (cy := 11) C d_Md_otherWay_17 rfl Y_Md_isOf L_Md_200 I_Md_isOf Se_Md_isOf rfl (by decide) rfl (Nat.le_of_ble_eq_true rfl) (Nat.le_of_ble_eq_true rfl) (Nat.le_of_ble_eq_true rfl) rfl (fun a4 => con_Md_isOf a4 x5 x1 x2) (fun v5 => ?_)
      refine r_if_eq (tgt := 52) (q := 23) C d_Md_otherWay_20 (by decide) rfl ?_ ?_
      · exact s_Md_otherWay_52 C a (f_Md_otherWay_3 a n) ih x1 x2 l3 x5
      · refine r_aload_n (q := 24) (i := 0) (pl := 0) C d_Md_otherWay_23 rfl rfl rfl ?_
        refine r_gR (q := 27) C d_Md_otherWay_24 rfl F_Md_23 rfl (fun v6 => ?_)
        refine r_aload_n (q := 28) (i := 0) (pl := 0) C d_Md_otherWay_27 rfl rfl rfl ?_
        refine r_iload (q := 30) (i := 5) (pl := 4) C d_Md_otherWay_28 rfl rfl ?_
        refine r_iload_n (q := 31) (i := 1) (pl := 1) C d_Md_otherWay_30 rfl rfl rfl ?_
        refine r_cvI (q := 34) (As := [vI x5, vI x1]) (st := [vA v6]) (cy := 11) C d_Md_otherWay_31 rfl Y_Md_endAt L_Md_216 I_Md_endAt Se_Md_endAt rfl (by decide) rfl (Nat.le_of_ble_eq_true rfl) (Nat.le_of_ble_eq_true rfl) (Nat.le_of_ble_eq_true rfl) rfl (fun a7 => con_Md_endAt a7 x5 x1) (fun v8 => ?_)
        refine r_aI (q := 35) C (Or.inr rfl) d_Md_otherWay_34 rfl (fun v9 => ?_)
        refine r_iconst (q := 36) (v := 5) C d_Md_otherWay_35 rfl (by decide) ?_
        refine r_icmp_ne (tgt := 52) (q := 39) C d_Md_otherWay_36 (by decide) rfl ?_ ?_
        · exact s_Md_otherWay_52 C a (f_Md_otherWay_3 a n) ih x1 x2 l3 x5
        · refine r_aload_n (q := 40) (i := 0) (pl := 0) C d_Md_otherWay_39 rfl rfl rfl ?_
          refine r_aload_n (q := 41) (i := 0) (pl := 0) C d_Md_otherWay_40 rfl rfl rfl ?_
          refine r_iload (q := 43) (i := 5) (pl := 4) C d_Md_otherWay_41 rfl rfl ?_
          refine r_iload_n (q := 44) (i := 1) (pl := 1) C d_Md_otherWay_43 rfl rfl rfl ?_
          refine r_cvI (q := 47) (As := [vI x5, vI x1]) (st := [vA (some a)]) (cy := 11) C d_Md_otherWay_44 rfl Y_Md_endAt L_Md_216 I_Md_endAt Se_Md_endAt rfl (by decide) rfl (Nat.le_of_ble_eq_true rfl) (Nat.le_of_ble_eq_true rfl) (Nat.le_of_ble_eq_true rfl) rfl (fun a10 => con_Md_endAt a10 x5 x1) (fun v11 => ?_)
          refine r_lload_n (q := 48) (i := 3) (pl := 3) C d_Md_otherWay_47 rfl rfl rfl ?_
          refine r_cvV (q := 51) (As := [vI v11, vJ l3]) (st := []) (cy := 11) C d_Md_otherWay_48 rfl Y_Md_waitAt L_Md_222 I_Md_waitAt Se_Md_waitAt rfl (by decide) rfl (Nat.le_of_ble_eq_true rfl) (Nat.le_of_ble_eq_true rfl) (Nat.le_of_ble_eq_true rfl) rfl (fun a12 => con_Md_waitAt a12 v11 l3) ?_
          exact r_vret C d_Md_otherWay_51 rfl
def f_Md_otherWay (a : Nat) (x1 : Int32) (x2 : Int32) (l3 : Int64) : sn_M := f_Md_otherWay_3 a sn_fuel x1 x2 l3 (0 : Int32)
set_option maxHeartbeats 4000000 in
set_option maxRecDepth 100000 in
theorem mono_Md_otherWay (a : Nat) (x1 : Int32) (x2 : Int32) (l3 : Int64) : sn_Mono (f_Md_otherWay a x1 x2 l3) := mono_Md_otherWay_3 a sn_fuel x1 x2 l3 (0 : Int32)
set_option maxHeartbeats 4000000 in
set_option maxRecDepth 100000 in
theorem con_Md_otherWay (a : Nat) (x1 : Int32) (x2 : Int32) (l3 : Int64) : sn_Con y_Md_otherWay c_Md_otherWay 6 none 4 96 [vA (some a), vI x1, vI x2, vJ l3] (f_Md_otherWay a x1 x2 l3) := by
  refine sn_Con.of (by decide +kernel) (by show _ ≤ _; exact Nat.le_of_ble_eq_true rfl) (mono_Md_otherWay a x1 x2 l3) (fun X C => ?_)
  show sn_S X 0 [(0, vA (some a)), (1, vI x1), (2, vI x2), (3, vJ l3)] [] _
  replace C : sn_Cx X c_Md_otherWay "SignalNetworkModel" none "otherWay" 6 4 96 := C
  unfold f_Md_otherWay
  refine r_iconst (q := 1) (v := 0) C d_Md_otherWay_0 rfl (by decide) ?_
  refine r_istore (q := 3) (i := 5) (lv' := [(5, vI (0 : Int32)), (0, vA (some a)), (1, vI x1), (2, vI x2), (3, vJ l3)]) C d_Md_otherWay_1 rfl (by decide) rfl ?_
  refine r_sub (lv' := [(0, vA (some a)), (1, vI x1), (2, vI x2), (3, vJ l3), (5, vI (0 : Int32))]) [1, 2, 3, 4, 0] rfl ?_
  exact s_Md_otherWay_3 C a sn_fuel x1 x2 l3 (0 : Int32)
theorem d_Md_nextOf_0 : decode c_Md_nextOf 0 = .ok (.iconst 0, 1) := by decide +kernel
theorem d_Md_nextOf_1 : decode c_Md_nextOf 1 = .ok (.istore_n 3, 1) := by decide +kernel
theorem d_Md_nextOf_2 : decode c_Md_nextOf 2 = .ok (.iload_n 3, 1) := by decide +kernel
theorem d_Md_nextOf_3 : decode c_Md_nextOf 3 = .ok (.iconst 2, 1) := by decide +kernel
theorem d_Md_nextOf_4 : decode c_Md_nextOf 4 = .ok (.if_icmp .ge 90, 3) := by decide +kernel
theorem d_Md_nextOf_7 : decode c_Md_nextOf 7 = .ok (.iload_n 3, 1) := by decide +kernel
theorem d_Md_nextOf_8 : decode c_Md_nextOf 8 = .ok (.ifCond .ne 17, 3) := by decide +kernel
theorem d_Md_nextOf_11 : decode c_Md_nextOf 11 = .ok (.aload_n 0, 1) := by decide +kernel
theorem d_Md_nextOf_12 : decode c_Md_nextOf 12 = .ok (.getfield 144, 3) := by decide +kernel
theorem d_Md_nextOf_15 : decode c_Md_nextOf 15 = .ok (.bipush 6, 2) := by decide +kernel
theorem d_Md_nextOf_17 : decode c_Md_nextOf 17 = .ok (.iload_n 1, 1) := by decide +kernel
theorem d_Md_nextOf_18 : decode c_Md_nextOf 18 = .ok (.imul, 1) := by decide +kernel
theorem d_Md_nextOf_19 : decode c_Md_nextOf 19 = .ok (.iload_n 2, 1) := by decide +kernel
theorem d_Md_nextOf_20 : decode c_Md_nextOf 20 = .ok (.iadd, 1) := by decide +kernel
theorem d_Md_nextOf_21 : decode c_Md_nextOf 21 = .ok (.iaload, 1) := by decide +kernel
theorem d_Md_nextOf_22 : decode c_Md_nextOf 22 = .ok (.goto 14, 3) := by decide +kernel
theorem d_Md_nextOf_25 : decode c_Md_nextOf 25 = .ok (.aload_n 0, 1) := by decide +kernel
theorem d_Md_nextOf_26 : decode c_Md_nextOf 26 = .ok (.getfield 147, 3) := by decide +kernel
theorem d_Md_nextOf_29 : decode c_Md_nextOf 29 = .ok (.bipush 6, 2) := by decide +kernel
theorem d_Md_nextOf_31 : decode c_Md_nextOf 31 = .ok (.iload_n 1, 1) := by decide +kernel
theorem d_Md_nextOf_32 : decode c_Md_nextOf 32 = .ok (.imul, 1) := by decide +kernel
theorem d_Md_nextOf_33 : decode c_Md_nextOf 33 = .ok (.iload_n 2, 1) := by decide +kernel
theorem d_Md_nextOf_34 : decode c_Md_nextOf 34 = .ok (.iadd, 1) := by decide +kernel
theorem d_Md_nextOf_35 : decode c_Md_nextOf 35 = .ok (.iaload, 1) := by decide +kernel
theorem d_Md_nextOf_36 : decode c_Md_nextOf 36 = .ok (.istore 4, 2) := by decide +kernel
theorem d_Md_nextOf_38 : decode c_Md_nextOf 38 = .ok (.iload 4, 2) := by decide +kernel
theorem d_Md_nextOf_40 : decode c_Md_nextOf 40 = .ok (.iconst (-1), 1) := by decide +kernel
theorem d_Md_nextOf_41 : decode c_Md_nextOf 41 = .ok (.if_icmp .eq 47, 3) := by decide +kernel
theorem d_Md_nextOf_44 : decode c_Md_nextOf 44 = .ok (.aload_n 0, 1) := by decide +kernel
theorem d_Md_nextOf_45 : decode c_Md_nextOf 45 = .ok (.iload_n 1, 1) := by decide +kernel
theorem d_Md_nextOf_46 : decode c_Md_nextOf 46 = .ok (.iload 4, 2) := by decide +kernel
theorem d_Md_nextOf_48 : decode c_Md_nextOf 48 = .ok (.invokevirtual 226, 3) := by decide +kernel
theorem d_Md_nextOf_51 : decode c_Md_nextOf 51 = .ok (.ifCond .eq 37, 3) := by decide +kernel
theorem d_Md_nextOf_54 : decode c_Md_nextOf 54 = .ok (.aload_n 0, 1) := by decide +kernel
theorem d_Md_nextOf_55 : decode c_Md_nextOf 55 = .ok (.getfield 138, 3) := by decide +kernel
theorem d_Md_nextOf_58 : decode c_Md_nextOf 58 = .ok (.bipush 36, 2) := by decide +kernel
theorem d_Md_nextOf_60 : decode c_Md_nextOf 60 = .ok (.iload_n 1, 1) := by decide +kernel
theorem d_Md_nextOf_61 : decode c_Md_nextOf 61 = .ok (.imul, 1) := by decide +kernel
theorem d_Md_nextOf_62 : decode c_Md_nextOf 62 = .ok (.bipush 6, 2) := by decide +kernel
theorem d_Md_nextOf_64 : decode c_Md_nextOf 64 = .ok (.iload 4, 2) := by decide +kernel
theorem d_Md_nextOf_66 : decode c_Md_nextOf 66 = .ok (.imul, 1) := by decide +kernel
theorem d_Md_nextOf_67 : decode c_Md_nextOf 67 = .ok (.iadd, 1) := by decide +kernel
theorem d_Md_nextOf_68 : decode c_Md_nextOf 68 = .ok (.iload_n 2, 1) := by decide +kernel
theorem d_Md_nextOf_69 : decode c_Md_nextOf 69 = .ok (.iadd, 1) := by decide +kernel
theorem d_Md_nextOf_70 : decode c_Md_nextOf 70 = .ok (.baload, 1) := by decide +kernel
theorem d_Md_nextOf_71 : decode c_Md_nextOf 71 = .ok (.ifCond .ne 17, 3) := by decide +kernel
theorem d_Md_nextOf_74 : decode c_Md_nextOf 74 = .ok (.aload_n 0, 1) := by decide +kernel
theorem d_Md_nextOf_75 : decode c_Md_nextOf 75 = .ok (.iload_n 1, 1) := by decide +kernel
theorem d_Md_nextOf_76 : decode c_Md_nextOf 76 = .ok (.iload 4, 2) := by decide +kernel
theorem d_Md_nextOf_78 : decode c_Md_nextOf 78 = .ok (.iconst 0, 1) := by decide +kernel
theorem d_Md_nextOf_79 : decode c_Md_nextOf 79 = .ok (.invokevirtual 234, 3) := by decide +kernel
theorem d_Md_nextOf_82 : decode c_Md_nextOf 82 = .ok (.ifCond .eq 6, 3) := by decide +kernel
theorem d_Md_nextOf_85 : decode c_Md_nextOf 85 = .ok (.iload 4, 2) := by decide +kernel
theorem d_Md_nextOf_87 : decode c_Md_nextOf 87 = .ok (.ireturn, 1) := by decide +kernel
theorem d_Md_nextOf_88 : decode c_Md_nextOf 88 = .ok (.iinc 3 1, 3) := by decide +kernel
theorem d_Md_nextOf_91 : decode c_Md_nextOf 91 = .ok (.goto (-89), 3) := by decide +kernel
theorem d_Md_nextOf_94 : decode c_Md_nextOf 94 = .ok (.iconst (-1), 1) := by decide +kernel
theorem d_Md_nextOf_95 : decode c_Md_nextOf 95 = .ok (.ireturn, 1) := by decide +kernel
def f_Md_nextOf_88 (k2 : Int32 → Int32 → Int32 → sn_M) (a : Nat) (x1 : Int32) (x2 : Int32) (x3 : Int32) : sn_M := k2 x1 x2 (x3 + (1 : Int32))
set_option maxHeartbeats 4000000 in
set_option maxRecDepth 100000 in
theorem mono_Md_nextOf_88 (k2 : Int32 → Int32 → Int32 → sn_M) (mk2 : ∀ (x1 : Int32) (x2 : Int32) (x3 : Int32), sn_Mono (k2 x1 x2 x3)) (a : Nat) (x1 : Int32) (x2 : Int32) (x3 : Int32) : sn_Mono (f_Md_nextOf_88 k2 a x1 x2 x3) := mk2 x1 x2 (x3 + (1 : Int32))
set_option maxHeartbeats 4000000 in
set_option maxRecDepth 100000 in
theorem s_Md_nextOf_88 {X : sn_X} (C : sn_Cx X c_Md_nextOf "SignalNetworkModel" (some .int) "nextOf" 5 3 69) (a : Nat) (k2 : Int32 → Int32 → Int32 → sn_M) (hk2 : ∀ (x1 : Int32) (x2 : Int32) (x3 : Int32), sn_S X 2 [(0, vA (some a)), (1, vI x1), (2, vI x2), (3, vI x3)] [] (k2 x1 x2 x3)) (x1 : Int32) (x2 : Int32) (x3 : Int32) : sn_S X 88 [(0, vA (some a)), (1, vI x1), (2, vI x2), (3, vI x3)] [] (f_Md_nextOf_88 k2 a x1 x2 x3) := by
  unfold f_Md_nextOf_88
  refine r_iinc (q := 91) (pl := 3) (v := x3 + (1 : Int32)) (lv' := [(3, vI (x3 + (1 : Int32))), (0, vA (some a)), (1, vI x1), (2, vI x2)]) C d_Md_nextOf_88 rfl rfl rfl (by decide) rfl ?_
  refine r_goto (tgt := 2) C d_Md_nextOf_91 (by decide) ?_
  refine r_sub (lv' := [(0, vA (some a)), (1, vI x1), (2, vI x2), (3, vI (x3 + (1 : Int32)))]) [1, 2, 3, 0] rfl ?_
  exact hk2 x1 x2 (x3 + (1 : Int32))
def f_Md_nextOf_36 (k2 : Int32 → Int32 → Int32 → sn_M) (a : Nat) (x1 : Int32) (x2 : Int32) (x3 : Int32) (t0 : Int32) : sn_M := (if t0 = (-1 : Int32) then f_Md_nextOf_88 k2 a x1 x2 x3 else n_n 12 (some a) fun a1 => c_I (f_Md_areNeighbours a1 x1 t0) fun v2 => (if v2 = 0 then f_Md_nextOf_88 k2 a x1 x2 x3 else g_R 12 48 (some a) fun v3 => a_I 33 v3 ((((36 : Int32) * x1) + ((6 : Int32) * t0)) + x2) fun v4 => (if ¬ v4 = 0 then f_Md_nextOf_88 k2 a x1 x2 x3 else n_n 12 (some a) fun a5 => c_I (f_Md_isOpen a5 x1 t0 (0 : Int32)) fun v6 => (if v6 = 0 then f_Md_nextOf_88 k2 a x1 x2 x3 else r_I t0))))
set_option maxHeartbeats 4000000 in
set_option maxRecDepth 100000 in
theorem mono_Md_nextOf_36 (k2 : Int32 → Int32 → Int32 → sn_M) (mk2 : ∀ (x1 : Int32) (x2 : Int32) (x3 : Int32), sn_Mono (k2 x1 x2 x3)) (a : Nat) (x1 : Int32) (x2 : Int32) (x3 : Int32) (t0 : Int32) : sn_Mono (f_Md_nextOf_36 k2 a x1 x2 x3 t0) := sn_Mono.ite (mono_Md_nextOf_88 k2 mk2 a x1 x2 x3) (sn_Mono.nn (fun a1 => sn_Mono.cI (mono_Md_areNeighbours a1 x1 t0) (fun v2 => sn_Mono.ite (mono_Md_nextOf_88 k2 mk2 a x1 x2 x3) (sn_Mono.gR (fun v3 => sn_Mono.aI (fun v4 => sn_Mono.ite (mono_Md_nextOf_88 k2 mk2 a x1 x2 x3) (sn_Mono.nn (fun a5 => sn_Mono.cI (mono_Md_isOpen a5 x1 t0 (0 : Int32)) (fun v6 => sn_Mono.ite (mono_Md_nextOf_88 k2 mk2 a x1 x2 x3) (sn_Mono.rI))))))))))
set_option maxHeartbeats 4000000 in
set_option maxRecDepth 100000 in
theorem s_Md_nextOf_36 {X : sn_X} (C : sn_Cx X c_Md_nextOf "SignalNetworkModel" (some .int) "nextOf" 5 3 69) (a : Nat) (k2 : Int32 → Int32 → Int32 → sn_M) (hk2 : ∀ (x1 : Int32) (x2 : Int32) (x3 : Int32), sn_S X 2 [(0, vA (some a)), (1, vI x1), (2, vI x2), (3, vI x3)] [] (k2 x1 x2 x3)) (x1 : Int32) (x2 : Int32) (x3 : Int32) (t0 : Int32) : sn_S X 36 [(0, vA (some a)), (1, vI x1), (2, vI x2), (3, vI x3)] [vI t0] (f_Md_nextOf_36 k2 a x1 x2 x3 t0) := by
  unfold f_Md_nextOf_36
  refine r_istore (q := 38) (i := 4) (lv' := [(4, vI t0), (0, vA (some a)), (1, vI x1), (2, vI x2), (3, vI x3)]) C d_Md_nextOf_36 rfl (by decide) rfl ?_
  refine r_iload (q := 40) (i := 4) (pl := 0) C d_Md_nextOf_38 rfl rfl ?_
  refine r_iconst (q := 41) (v := -1) C d_Md_nextOf_40 rfl (by decide) ?_
  refine r_icmp_eq (tgt := 88) (q := 44) C d_Md_nextOf_41 (by decide) rfl ?_ ?_
  · refine r_sub (lv' := [(0, vA (some a)), (1, vI x1), (2, vI x2), (3, vI x3)]) [1, 2, 3, 4] rfl ?_
    exact s_Md_nextOf_88 C a k2 hk2 x1 x2 x3
  · refine r_aload_n (q := 45) (i := 0) (pl := 1) C d_Md_nextOf_44 rfl rfl rfl ?_
    refine r_iload_n (q := 46) (i := 1) (pl := 2) C d_Md_nextOf_45 rfl rfl rfl ?_
    refine r_iload (q := 48) (i := 4) (pl := 0) C d_Md_nextOf_46 rfl rfl ?_
    refine r_cvI (q := 51) (As := [vI x1, vI t0]) (st := []) (cy := 11) C d_Md_nextOf_48 rfl Y_Md_areNeighbours L_Md_226 I_Md_areNeighbours Se_Md_areNeighbours rfl (by decide) rfl (Nat.le_of_ble_eq_true rfl) (Nat.le_of_ble_eq_true rfl) (Nat.le_of_ble_eq_true rfl) rfl (fun a1 => con_Md_areNeighbours a1 x1 t0) (fun v2 => ?_)
    refine r_if_eq (tgt := 88) (q := 54) C d_Md_nextOf_51 (by decide) rfl ?_ ?_
    · refine r_sub (lv' := [(0, vA (some a)), (1, vI x1), (2, vI x2), (3, vI x3)]) [1, 2, 3, 4] rfl ?_
      exact s_Md_nextOf_88 C a k2 hk2 x1 x2 x3
    · refine r_aload_n (q := 55) (i := 0) (pl := 1) C d_Md_nextOf_54 rfl rfl rfl ?_
      refine r_gR (q := 58) C d_Md_nextOf_55 rfl F_Md_138 rfl (fun v3 => ?_)
      refine r_bipush (q := 60) (v := 36) C d_Md_nextOf_58 rfl (by decide) ?_
      refine r_iload_n (q := 61) (i := 1) (pl := 2) C d_Md_nextOf_60 rfl rfl rfl ?_
      refine r_imul (q := 62) C d_Md_nextOf_61 rfl ?_
      refine r_bipush (q := 64) (v := 6) C d_Md_nextOf_62 rfl (by decide) ?_
      refine r_iload (q := 66) (i := 4) (pl := 0) C d_Md_nextOf_64 rfl rfl ?_
      refine r_imul (q := 67) C d_Md_nextOf_66 rfl ?_
      refine r_iadd (q := 68) C d_Md_nextOf_67 rfl ?_
      refine r_iload_n (q := 69) (i := 2) (pl := 3) C d_Md_nextOf_68 rfl rfl rfl ?_
      refine r_iadd (q := 70) C d_Md_nextOf_69 rfl ?_
      refine r_aZ (q := 71) C (Or.inr rfl) d_Md_nextOf_70 rfl (fun v4 => ?_)
      refine r_if_ne (tgt := 88) (q := 74) C d_Md_nextOf_71 (by decide) rfl ?_ ?_
      · refine r_sub (lv' := [(0, vA (some a)), (1, vI x1), (2, vI x2), (3, vI x3)]) [1, 2, 3, 4] rfl ?_
        exact s_Md_nextOf_88 C a k2 hk2 x1 x2 x3
      · refine r_aload_n (q := 75) (i := 0) (pl := 1) C d_Md_nextOf_74 rfl rfl rfl ?_
        refine r_iload_n (q := 76) (i := 1) (pl := 2) C d_Md_nextOf_75 rfl rfl rfl ?_
        refine r_iload (q := 78) (i := 4) (pl := 0) C d_Md_nextOf_76 rfl rfl ?_
        refine r_iconst (q := 79) (v := 0) C d_Md_nextOf_78 rfl (by decide) ?_
        refine r_cvI (q := 82) (As := [vI x1, vI t0, vI (0 : Int32)]) (st := []) (cy := 11) C d_Md_nextOf_79 rfl Y_Md_isOpen L_Md_234 I_Md_isOpen Se_Md_isOpen rfl (by decide) rfl (Nat.le_of_ble_eq_true rfl) (Nat.le_of_ble_eq_true rfl) (Nat.le_of_ble_eq_true rfl) rfl (fun a5 => con_Md_isOpen a5 x1 t0 (0 : Int32)) (fun v6 => ?_)
        refine r_if_eq (tgt := 88) (q := 85) C d_Md_nextOf_82 (by decide) rfl ?_ ?_
        · refine r_sub (lv' := [(0, vA (some a)), (1, vI x1), (2, vI x2), (3, vI x3)]) [1, 2, 3, 4] rfl ?_
          exact s_Md_nextOf_88 C a k2 hk2 x1 x2 x3
        · refine r_iload (q := 87) (i := 4) (pl := 0) C d_Md_nextOf_85 rfl rfl ?_
          exact r_iret C d_Md_nextOf_87 rfl
def f_Md_nextOf_2 (a : Nat) : Nat → Int32 → Int32 → Int32 → sn_M
  | 0, _, _, _ => r_0
  | n + 1, x1, x2, x3 => (if (2 : Int32) ≤ x3 then r_I (-1 : Int32) else (if ¬ x3 = 0 then g_R 12 51 (some a) fun v7 => a_I 31 v7 (((6 : Int32) * x1) + x2) fun v8 => f_Md_nextOf_36 (f_Md_nextOf_2 a n) a x1 x2 x3 v8 else g_R 12 50 (some a) fun v9 => a_I 31 v9 (((6 : Int32) * x1) + x2) fun v10 => f_Md_nextOf_36 (f_Md_nextOf_2 a n) a x1 x2 x3 v10))
set_option maxHeartbeats 4000000 in
set_option maxRecDepth 100000 in
theorem mono_Md_nextOf_2 (a : Nat) : ∀ (n : Nat) (x1 : Int32) (x2 : Int32) (x3 : Int32), sn_Mono (f_Md_nextOf_2 a n x1 x2 x3)
  | 0, _, _, _ => sn_Mono.r0
  | n + 1, x1, x2, x3 => sn_Mono.ite (sn_Mono.rI) (sn_Mono.ite (sn_Mono.gR (fun v7 => sn_Mono.aI (fun v8 => mono_Md_nextOf_36 (f_Md_nextOf_2 a n) (mono_Md_nextOf_2 a n) a x1 x2 x3 v8))) (sn_Mono.gR (fun v9 => sn_Mono.aI (fun v10 => mono_Md_nextOf_36 (f_Md_nextOf_2 a n) (mono_Md_nextOf_2 a n) a x1 x2 x3 v10))))
set_option maxHeartbeats 4000000 in
set_option maxRecDepth 100000 in
theorem s_Md_nextOf_2 {X : sn_X} (C : sn_Cx X c_Md_nextOf "SignalNetworkModel" (some .int) "nextOf" 5 3 69) (a : Nat) (n : Nat) : ∀ (x1 : Int32) (x2 : Int32) (x3 : Int32), sn_S X 2 [(0, vA (some a)), (1, vI x1), (2, vI x2), (3, vI x3)] [] (f_Md_nextOf_2 a n x1 x2 x3) := by
  induction n with
  | zero => intro x1 x2 x3; exact sn_S.zero
  | succ n ih =>
    intro x1 x2 x3
    unfold f_Md_nextOf_2
    refine r_iload_n (q := 3) (i := 3) (pl := 3) C d_Md_nextOf_2 rfl rfl rfl ?_
    refine r_iconst (q := 4) (v := 2) C d_Md_nextOf_3 rfl (by decide) ?_
    refine r_icmp_ge (tgt := 94) (q := 7) C d_Md_nextOf_4 (by decide) rfl ?_ ?_
    · refine r_iconst (q := 95) (v := -1) C d_Md_nextOf_94 rfl (by decide) ?_
      exact r_iret C d_Md_nextOf_95 rfl
    · refine r_iload_n (q := 8) (i := 3) (pl := 3) C d_Md_nextOf_7 rfl rfl rfl ?_
      refine r_if_ne (tgt := 25) (q := 11) C d_Md_nextOf_8 (by decide) rfl ?_ ?_
      · refine r_aload_n (q := 26) (i := 0) (pl := 0) C d_Md_nextOf_25 rfl rfl rfl ?_
        refine r_gR (q := 29) C d_Md_nextOf_26 rfl F_Md_147 rfl (fun v7 => ?_)
        refine r_bipush (q := 31) (v := 6) C d_Md_nextOf_29 rfl (by decide) ?_
        refine r_iload_n (q := 32) (i := 1) (pl := 1) C d_Md_nextOf_31 rfl rfl rfl ?_
        refine r_imul (q := 33) C d_Md_nextOf_32 rfl ?_
        refine r_iload_n (q := 34) (i := 2) (pl := 2) C d_Md_nextOf_33 rfl rfl rfl ?_
        refine r_iadd (q := 35) C d_Md_nextOf_34 rfl ?_
        refine r_aI (q := 36) C (Or.inr rfl) d_Md_nextOf_35 rfl (fun v8 => ?_)
        exact s_Md_nextOf_36 C a (f_Md_nextOf_2 a n) ih x1 x2 x3 v8
      · refine r_aload_n (q := 12) (i := 0) (pl := 0) C d_Md_nextOf_11 rfl rfl rfl ?_
        refine r_gR (q := 15) C d_Md_nextOf_12 rfl F_Md_144 rfl (fun v9 => ?_)
        refine r_bipush (q := 17) (v := 6) C d_Md_nextOf_15 rfl (by decide) ?_
        refine r_iload_n (q := 18) (i := 1) (pl := 1) C d_Md_nextOf_17 rfl rfl rfl ?_
        refine r_imul (q := 19) C d_Md_nextOf_18 rfl ?_
        refine r_iload_n (q := 20) (i := 2) (pl := 2) C d_Md_nextOf_19 rfl rfl rfl ?_
        refine r_iadd (q := 21) C d_Md_nextOf_20 rfl ?_
        refine r_aI (q := 22) C (Or.inr rfl) d_Md_nextOf_21 rfl (fun v10 => ?_)
        refine r_goto (tgt := 36) C d_Md_nextOf_22 (by decide) ?_
        exact s_Md_nextOf_36 C a (f_Md_nextOf_2 a n) ih x1 x2 x3 v10
def f_Md_nextOf (a : Nat) (x1 : Int32) (x2 : Int32) : sn_M := f_Md_nextOf_2 a sn_fuel x1 x2 (0 : Int32)
set_option maxHeartbeats 4000000 in
set_option maxRecDepth 100000 in
theorem mono_Md_nextOf (a : Nat) (x1 : Int32) (x2 : Int32) : sn_Mono (f_Md_nextOf a x1 x2) := mono_Md_nextOf_2 a sn_fuel x1 x2 (0 : Int32)
set_option maxHeartbeats 4000000 in
set_option maxRecDepth 100000 in
theorem con_Md_nextOf (a : Nat) (x1 : Int32) (x2 : Int32) : sn_Con y_Md_nextOf c_Md_nextOf 5 (some .int) 3 69 [vA (some a), vI x1, vI x2] (f_Md_nextOf a x1 x2) := by
  refine sn_Con.of (by decide +kernel) (by show _ ≤ _; exact Nat.le_of_ble_eq_true rfl) (mono_Md_nextOf a x1 x2) (fun X C => ?_)
  show sn_S X 0 [(0, vA (some a)), (1, vI x1), (2, vI x2)] [] _
  replace C : sn_Cx X c_Md_nextOf "SignalNetworkModel" (some .int) "nextOf" 5 3 69 := C
  unfold f_Md_nextOf
  refine r_iconst (q := 1) (v := 0) C d_Md_nextOf_0 rfl (by decide) ?_
  refine r_istore_n (q := 2) (i := 3) (lv' := [(3, vI (0 : Int32)), (0, vA (some a)), (1, vI x1), (2, vI x2)]) C d_Md_nextOf_1 rfl rfl (by decide) rfl ?_
  refine r_sub (lv' := [(0, vA (some a)), (1, vI x1), (2, vI x2), (3, vI (0 : Int32))]) [1, 2, 3, 0] rfl ?_
  exact s_Md_nextOf_2 C a sn_fuel x1 x2 (0 : Int32)
