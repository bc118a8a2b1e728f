theorem d_Md_look_0 : decode c_Md_look 0 = .ok (.iconst 0, 1) := by decide +kernel
theorem d_Md_look_1 : decode c_Md_look 1 = .ok (.istore_n 2, 1) := by decide +kernel
theorem d_Md_look_2 : decode c_Md_look 2 = .ok (.iload_n 2, 1) := by decide +kernel
theorem d_Md_look_3 : decode c_Md_look 3 = .ok (.bipush 6, 2) := by decide +kernel
theorem d_Md_look_5 : decode c_Md_look 5 = .ok (.if_icmp .ge 167, 3) := by decide +kernel
theorem d_Md_look_8 : decode c_Md_look 8 = .ok (.iload_n 2, 1) := by decide +kernel
theorem d_Md_look_9 : decode c_Md_look 9 = .ok (.iload_n 1, 1) := by decide +kernel
theorem d_Md_look_10 : decode c_Md_look 10 = .ok (.if_icmp .ne 6, 3) := by decide +kernel
theorem d_Md_look_13 : decode c_Md_look 13 = .ok (.goto 153, 3) := by decide +kernel
theorem d_Md_look_16 : decode c_Md_look 16 = .ok (.aload_n 0, 1) := by decide +kernel
theorem d_Md_look_17 : decode c_Md_look 17 = .ok (.iload_n 1, 1) := by decide +kernel
theorem d_Md_look_18 : decode c_Md_look 18 = .ok (.iload_n 2, 1) := by decide +kernel
theorem d_Md_look_19 : decode c_Md_look 19 = .ok (.invokevirtual 245, 3) := by decide +kernel
theorem d_Md_look_22 : decode c_Md_look 22 = .ok (.istore_n 3, 1) := by decide +kernel
theorem d_Md_look_23 : decode c_Md_look 23 = .ok (.iconst 0, 1) := by decide +kernel
theorem d_Md_look_24 : decode c_Md_look 24 = .ok (.istore 4, 2) := by decide +kernel
theorem d_Md_look_26 : decode c_Md_look 26 = .ok (.iload 4, 2) := by decide +kernel
theorem d_Md_look_28 : decode c_Md_look 28 = .ok (.bipush 6, 2) := by decide +kernel
theorem d_Md_look_30 : decode c_Md_look 30 = .ok (.if_icmp .ge 136, 3) := by decide +kernel
theorem d_Md_look_33 : decode c_Md_look 33 = .ok (.iload 4, 2) := by decide +kernel
theorem d_Md_look_35 : decode c_Md_look 35 = .ok (.iload_n 2, 1) := by decide +kernel
theorem d_Md_look_36 : decode c_Md_look 36 = .ok (.if_icmp .eq 124, 3) := by decide +kernel
theorem d_Md_look_39 : decode c_Md_look 39 = .ok (.iload 4, 2) := by decide +kernel
theorem d_Md_look_41 : decode c_Md_look 41 = .ok (.iload_n 1, 1) := by decide +kernel
theorem d_Md_look_42 : decode c_Md_look 42 = .ok (.if_icmp .eq 118, 3) := by decide +kernel
theorem d_Md_look_45 : decode c_Md_look 45 = .ok (.aload_n 0, 1) := by decide +kernel
theorem d_Md_look_46 : decode c_Md_look 46 = .ok (.iload_n 1, 1) := by decide +kernel
theorem d_Md_look_47 : decode c_Md_look 47 = .ok (.iload 4, 2) := by decide +kernel
theorem d_Md_look_49 : decode c_Md_look 49 = .ok (.invokevirtual 226, 3) := by decide +kernel
theorem d_Md_look_52 : decode c_Md_look 52 = .ok (.ifCond .eq 108, 3) := by decide +kernel
theorem d_Md_look_55 : decode c_Md_look 55 = .ok (.aload_n 0, 1) := by decide +kernel
theorem d_Md_look_56 : decode c_Md_look 56 = .ok (.iload_n 1, 1) := by decide +kernel
theorem d_Md_look_57 : decode c_Md_look 57 = .ok (.iload 4, 2) := by decide +kernel
theorem d_Md_look_59 : decode c_Md_look 59 = .ok (.iconst 0, 1) := by decide +kernel
theorem d_Md_look_60 : decode c_Md_look 60 = .ok (.invokevirtual 234, 3) := by decide +kernel
theorem d_Md_look_63 : decode c_Md_look 63 = .ok (.ifCond .ne 6, 3) := by decide +kernel
theorem d_Md_look_66 : decode c_Md_look 66 = .ok (.goto 94, 3) := by decide +kernel
theorem d_Md_look_69 : decode c_Md_look 69 = .ok (.iload_n 3, 1) := by decide +kernel
theorem d_Md_look_70 : decode c_Md_look 70 = .ok (.iconst (-1), 1) := by decide +kernel
theorem d_Md_look_71 : decode c_Md_look 71 = .ok (.if_icmp .eq 9, 3) := by decide +kernel
theorem d_Md_look_74 : decode c_Md_look 74 = .ok (.iload_n 3, 1) := by decide +kernel
theorem d_Md_look_75 : decode c_Md_look 75 = .ok (.iload 4, 2) := by decide +kernel
theorem d_Md_look_77 : decode c_Md_look 77 = .ok (.if_icmp .ne 7, 3) := by decide +kernel
theorem d_Md_look_80 : decode c_Md_look 80 = .ok (.iconst 1, 1) := by decide +kernel
theorem d_Md_look_81 : decode c_Md_look 81 = .ok (.goto 4, 3) := by decide +kernel
theorem d_Md_look_84 : decode c_Md_look 84 = .ok (.iconst 2, 1) := by decide +kernel
theorem d_Md_look_85 : decode c_Md_look 85 = .ok (.istore 5, 2) := by decide +kernel
theorem d_Md_look_87 : decode c_Md_look 87 = .ok (.aload_n 0, 1) := by decide +kernel
theorem d_Md_look_88 : decode c_Md_look 88 = .ok (.getfield 141, 3) := by decide +kernel
theorem d_Md_look_91 : decode c_Md_look 91 = .ok (.bipush 36, 2) := by decide +kernel
theorem d_Md_look_93 : decode c_Md_look 93 = .ok (.iload_n 1, 1) := by decide +kernel
theorem d_Md_look_94 : decode c_Md_look 94 = .ok (.imul, 1) := by decide +kernel
theorem d_Md_look_95 : decode c_Md_look 95 = .ok (.bipush 6, 2) := by decide +kernel
theorem d_Md_look_97 : decode c_Md_look 97 = .ok (.iload 4, 2) := by decide +kernel
theorem d_Md_look_99 : decode c_Md_look 99 = .ok (.imul, 1) := by decide +kernel
theorem d_Md_look_100 : decode c_Md_look 100 = .ok (.iadd, 1) := by decide +kernel
theorem d_Md_look_101 : decode c_Md_look 101 = .ok (.iload_n 2, 1) := by decide +kernel
theorem d_Md_look_102 : decode c_Md_look 102 = .ok (.iadd, 1) := by decide +kernel
theorem d_Md_look_103 : decode c_Md_look 103 = .ok (.iaload, 1) := by decide +kernel
theorem d_Md_look_104 : decode c_Md_look 104 = .ok (.iload 5, 2) := by decide +kernel
theorem d_Md_look_106 : decode c_Md_look 106 = .ok (.if_icmp .ne 6, 3) := by decide +kernel
theorem d_Md_look_109 : decode c_Md_look 109 = .ok (.goto 51, 3) := by decide +kernel
theorem d_Md_look_112 : decode c_Md_look 112 = .ok (.aload_n 0, 1) := by decide +kernel
theorem d_Md_look_113 : decode c_Md_look 113 = .ok (.getfield 141, 3) := by decide +kernel
theorem d_Md_look_116 : decode c_Md_look 116 = .ok (.bipush 36, 2) := by decide +kernel
theorem d_Md_look_118 : decode c_Md_look 118 = .ok (.iload_n 1, 1) := by decide +kernel
theorem d_Md_look_119 : decode c_Md_look 119 = .ok (.imul, 1) := by decide +kernel
theorem d_Md_look_120 : decode c_Md_look 120 = .ok (.bipush 6, 2) := by decide +kernel
theorem d_Md_look_122 : decode c_Md_look 122 = .ok (.iload 4, 2) := by decide +kernel
theorem d_Md_look_124 : decode c_Md_look 124 = .ok (.imul, 1) := by decide +kernel
theorem d_Md_look_125 : decode c_Md_look 125 = .ok (.iadd, 1) := by decide +kernel
theorem d_Md_look_126 : decode c_Md_look 126 = .ok (.iload_n 2, 1) := by decide +kernel
theorem d_Md_look_127 : decode c_Md_look 127 = .ok (.iadd, 1) := by decide +kernel
theorem d_Md_look_128 : decode c_Md_look 128 = .ok (.iload 5, 2) := by decide +kernel
theorem d_Md_look_130 : decode c_Md_look 130 = .ok (.iastore, 1) := by decide +kernel
theorem d_Md_look_131 : decode c_Md_look 131 = .ok (.aload_n 0, 1) := by decide +kernel
theorem d_Md_look_132 : decode c_Md_look 132 = .ok (.iload_n 1, 1) := by decide +kernel
theorem d_Md_look_133 : decode c_Md_look 133 = .ok (.iload 4, 2) := by decide +kernel
theorem d_Md_look_135 : decode c_Md_look 135 = .ok (.iconst 0, 1) := by decide +kernel
theorem d_Md_look_136 : decode c_Md_look 136 = .ok (.iload 5, 2) := by decide +kernel
theorem d_Md_look_138 : decode c_Md_look 138 = .ok (.iconst 1, 1) := by decide +kernel
theorem d_Md_look_139 : decode c_Md_look 139 = .ok (.if_icmp .ne 7, 3) := by decide +kernel
theorem d_Md_look_142 : decode c_Md_look 142 = .ok (.iconst 5, 1) := by decide +kernel
theorem d_Md_look_143 : decode c_Md_look 143 = .ok (.goto 5, 3) := by decide +kernel
theorem d_Md_look_146 : decode c_Md_look 146 = .ok (.bipush 6, 2) := by decide +kernel
theorem d_Md_look_148 : decode c_Md_look 148 = .ok (.iload_n 1, 1) := by decide +kernel
theorem d_Md_look_149 : decode c_Md_look 149 = .ok (.iload 4, 2) := by decide +kernel
theorem d_Md_look_151 : decode c_Md_look 151 = .ok (.iconst 0, 1) := by decide +kernel
theorem d_Md_look_152 : decode c_Md_look 152 = .ok (.iload_n 2, 1) := by decide +kernel
theorem d_Md_look_153 : decode c_Md_look 153 = .ok (.iconst 0, 1) := by decide +kernel
theorem d_Md_look_154 : decode c_Md_look 154 = .ok (.invokestatic 248, 3) := by decide +kernel
theorem d_Md_look_157 : decode c_Md_look 157 = .ok (.invokevirtual 237, 3) := by decide +kernel
theorem d_Md_look_160 : decode c_Md_look 160 = .ok (.iinc 4 1, 3) := by decide +kernel
theorem d_Md_look_163 : decode c_Md_look 163 = .ok (.goto (-137), 3) := by decide +kernel
theorem d_Md_look_166 : decode c_Md_look 166 = .ok (.iinc 2 1, 3) := by decide +kernel
theorem d_Md_look_169 : decode c_Md_look 169 = .ok (.goto (-167), 3) := by decide +kernel
theorem d_Md_look_172 : decode c_Md_look 172 = .ok (.return_, 1) := by decide +kernel
def f_Md_look_166 (k2 : Int32 → Int32 → sn_M) (a : Nat) (x1 : Int32) (x2 : Int32) : sn_M := k2 x1 (x2 + (1 : Int32))
set_option maxHeartbeats 4000000 in
set_option maxRecDepth 100000 in
theorem mono_Md_look_166 (k2 : Int32 → Int32 → sn_M) (mk2 : ∀ (x1 : Int32) (x2 : Int32), sn_Mono (k2 x1 x2)) (a : Nat) (x1 : Int32) (x2 : Int32) : sn_Mono (f_Md_look_166 k2 a x1 x2) := mk2 x1 (x2 + (1 : Int32))
set_option maxHeartbeats 4000000 in
set_option maxRecDepth 100000 in
theorem s_Md_look_166 {X : sn_X} (C : sn_Cx X c_Md_look "SignalNetworkModel" none "look" 6 4 93) (a : Nat) (k2 : Int32 → Int32 → sn_M) (hk2 : ∀ (x1 : Int32) (x2 : Int32), sn_S X 2 [(0, vA (some a)), (1, vI x1), (2, vI x2)] [] (k2 x1 x2)) (x1 : Int32) (x2 : Int32) : sn_S X 166 [(0, vA (some a)), (1, vI x1), (2, vI x2)] [] (f_Md_look_166 k2 a x1 x2) := by
  unfold f_Md_look_166
  refine r_iinc (q := 169) (pl := 2) (v := x2 + (1 : Int32)) (lv' := [(2, vI (x2 + (1 : Int32))), (0, vA (some a)), (1, vI x1)]) C d_Md_look_166 rfl rfl rfl (by decide) rfl ?_
  refine r_goto (tgt := 2) C d_Md_look_169 (by decide) ?_
  refine r_sub (lv' := [(0, vA (some a)), (1, vI x1), (2, vI (x2 + (1 : Int32)))]) [1, 2, 0] rfl ?_
  exact hk2 x1 (x2 + (1 : Int32))
def f_Md_look_160 (k26 : Int32 → Int32 → Int32 → Int32 → sn_M) (a : Nat) (x1 : Int32) (x2 : Int32) (x3 : Int32) (x4 : Int32) : sn_M := k26 x1 x2 x3 (x4 + (1 : Int32))
set_option maxHeartbeats 4000000 in
set_option maxRecDepth 100000 in
theorem mono_Md_look_160 (k26 : Int32 → Int32 → Int32 → Int32 → sn_M) (mk26 : ∀ (x1 : Int32) (x2 : Int32) (x3 : Int32) (x4 : Int32), sn_Mono (k26 x1 x2 x3 x4)) (a : Nat) (x1 : Int32) (x2 : Int32) (x3 : Int32) (x4 : Int32) : sn_Mono (f_Md_look_160 k26 a x1 x2 x3 x4) := mk26 x1 x2 x3 (x4 + (1 : Int32))
set_option maxHeartbeats 4000000 in
set_option maxRecDepth 100000 in
theorem s_Md_look_160 {X : sn_X} (C : sn_Cx X c_Md_look "SignalNetworkModel" none "look" 6 4 93) (a : Nat) (k26 : Int32 → Int32 → Int32 → Int32 → sn_M) (hk26 : ∀ (x1 : Int32) (x2 : Int32) (x3 : Int32) (x4 : Int32), sn_S X 26 [(0, vA (some a)), (1, vI x1), (2, vI x2), (3, vI x3), (4, vI x4)] [] (k26 x1 x2 x3 x4)) (x1 : Int32) (x2 : Int32) (x3 : Int32) (x4 : Int32) : sn_S X 160 [(0, vA (some a)), (1, vI x1), (2, vI x2), (3, vI x3), (4, vI x4)] [] (f_Md_look_160 k26 a x1 x2 x3 x4) := by
  unfold f_Md_look_160
  refine r_iinc (q := 163) (pl := 4) (v := x4 + (1 : Int32)) (lv' := [(4, vI (x4 + (1 : Int32))), (0, vA (some a)), (1, vI x1), (2, vI x2), (3, vI x3)]) C d_Md_look_160 rfl rfl rfl (by decide) rfl ?_
  refine r_goto (tgt := 26) C d_Md_look_163 (by decide) ?_
  refine r_sub (lv' := [(0, vA (some a)), (1, vI x1), (2, vI x2), (3, vI x3), (4, vI (x4 + (1 : Int32)))]) [1, 2, 3, 4, 0] rfl ?_
  exact hk26 x1 x2 x3 (x4 + (1 : Int32))
def f_Md_look_148 (k26 : Int32 → Int32 → Int32 → Int32 → sn_M) (a : Nat) (x1 : Int32) (x2 : Int32) (x3 : Int32) (x4 : Int32) (t0 : Option Nat) (t1 : Int32) (t2 : Int32) (t3 : Int32) (t4 : Int32) : sn_M := c_J (f_Md_message t4 x1 x4 (0 : Int32) x2 (0 : Int32)) fun v1 => n_n 12 t0 fun a2 => c_V (f_Md_give a2 t1 t2 t3 v1) (f_Md_look_160 k26 a x1 x2 x3 x4)
set_option maxHeartbeats 4000000 in
set_option maxRecDepth 100000 in
theorem mono_Md_look_148 (k26 : Int32 → Int32 → Int32 → Int32 → sn_M) (mk26 : ∀ (x1 : Int32) (x2 : Int32) (x3 : Int32) (x4 : Int32), sn_Mono (k26 x1 x2 x3 x4)) (a : Nat) (x1 : Int32) (x2 : Int32) (x3 : Int32) (x4 : Int32) (t0 : Option Nat) (t1 : Int32) (t2 : Int32) (t3 : Int32) (t4 : Int32) : sn_Mono (f_Md_look_148 k26 a x1 x2 x3 x4 t0 t1 t2 t3 t4) := sn_Mono.cJ (mono_Md_message t4 x1 x4 (0 : Int32) x2 (0 : Int32)) (fun v1 => sn_Mono.nn (fun a2 => sn_Mono.cV (mono_Md_give a2 t1 t2 t3 v1) (mono_Md_look_160 k26 mk26 a x1 x2 x3 x4)))
set_option maxHeartbeats 4000000 in
set_option maxRecDepth 100000 in
theorem s_Md_look_148 {X : sn_X} (C : sn_Cx X c_Md_look "SignalNetworkModel" none "look" 6 4 93) (a : Nat) (k26 : Int32 → Int32 → Int32 → Int32 → sn_M) (hk26 : ∀ (x1 : Int32) (x2 : Int32) (x3 : Int32) (x4 : Int32), sn_S X 26 [(0, vA (some a)), (1, vI x1), (2, vI x2), (3, vI x3), (4, vI x4)] [] (k26 x1 x2 x3 x4)) (x1 : Int32) (x2 : Int32) (x3 : Int32) (x4 : Int32) (t0 : Option Nat) (t1 : Int32) (t2 : Int32) (t3 : Int32) (t4 : Int32) : sn_S X 148 [(0, vA (some a)), (1, vI x1), (2, vI x2), (3, vI x3), (4, vI x4)] [vI t4, vI t3, vI t2, vI t1, vA t0] (f_Md_look_148 k26 a x1 x2 x3 x4 t0 t1 t2 t3 t4) := by
  unfold f_Md_look_148
  refine r_iload_n (q := 149) (i := 1) (pl := 1) C d_Md_look_148 rfl rfl rfl ?_
  refine r_iload (q := 151) (i := 4) (pl := 4) C d_Md_look_149 rfl rfl ?_
  refine r_iconst (q := 152) (v := 0) C d_Md_look_151 rfl (by decide) ?_
  refine r_iload_n (q := 153) (i := 2) (pl := 2) C d_Md_look_152 rfl rfl rfl ?_
  refine r_iconst (q := 154) (v := 0) C d_Md_look_153 rfl (by decide) ?_
  refine r_csJ (q := 157) (As := [vI t4, vI x1, vI x4, vI (0 : Int32), vI x2, vI (0 : Int32)]) (st := [vI t3, vI t2, vI t1, vA t0]) C d_Md_look_154 rfl Y_Md_message L_Md_248 St_Md_message rfl (Nat.le_of_ble_eq_true rfl) (Nat.le_of_ble_eq_true rfl) (Nat.le_of_ble_eq_true rfl) rfl (con_Md_message t4 x1 x4 (0 : Int32) x2 (0 : Int32)) (fun v1 => ?_)
  refine r_cvV (q := 160) (As := [vI t1, vI t2, vI t3, vJ v1]) (st := []) (cy := 11) C d_Md_look_157 rfl Y_Md_give L_Md_237 I_Md_give Se_Md_give rfl (by decide) rfl (Nat.le_of_ble_eq_true rfl) (Nat.le_of_ble_eq_true rfl) (Nat.le_of_ble_eq_true rfl) rfl (fun a2 => con_Md_give a2 t1 t2 t3 v1) ?_
  exact s_Md_look_160 C a k26 hk26 x1 x2 x3 x4
def f_Md_look_85 (k26 : Int32 → Int32 → Int32 → Int32 → sn_M) (a : Nat) (x1 : Int32) (x2 : Int32) (x3 : Int32) (x4 : Int32) (t0 : Int32) : sn_M := g_R 12 49 (some a) fun v4 => a_I 31 v4 ((((36 : Int32) * x1) + ((6 : Int32) * x4)) + x2) fun v5 => (if ¬ v5 = t0 then g_R 12 49 (some a) fun v6 => b_I 31 v6 ((((36 : Int32) * x1) + ((6 : Int32) * x4)) + x2) t0 ((if ¬ t0 = (1 : Int32) then f_Md_look_148 k26 a x1 x2 x3 x4 (some a) x1 x4 (0 : Int32) (6 : Int32) else f_Md_look_148 k26 a x1 x2 x3 x4 (some a) x1 x4 (0 : Int32) (5 : Int32))) else f_Md_look_160 k26 a x1 x2 x3 x4)
set_option maxHeartbeats 4000000 in
set_option maxRecDepth 100000 in
theorem mono_Md_look_85 (k26 : Int32 → Int32 → Int32 → Int32 → sn_M) (mk26 : ∀ (x1 : Int32) (x2 : Int32) (x3 : Int32) (x4 : Int32), sn_Mono (k26 x1 x2 x3 x4)) (a : Nat) (x1 : Int32) (x2 : Int32) (x3 : Int32) (x4 : Int32) (t0 : Int32) : sn_Mono (f_Md_look_85 k26 a x1 x2 x3 x4 t0) := sn_Mono.gR (fun v4 => sn_Mono.aI (fun v5 => sn_Mono.ite (sn_Mono.gR (fun v6 => sn_Mono.bI (sn_Mono.ite (mono_Md_look_148 k26 mk26 a x1 x2 x3 x4 (some a) x1 x4 (0 : Int32) (6 : Int32)) (mono_Md_look_148 k26 mk26 a x1 x2 x3 x4 (some a) x1 x4 (0 : Int32) (5 : Int32))))) (mono_Md_look_160 k26 mk26 a x1 x2 x3 x4)))
set_option maxHeartbeats 4000000 in
set_option maxRecDepth 100000 in
theorem s_Md_look_85 {X : sn_X} (C : sn_Cx X c_Md_look "SignalNetworkModel" none "look" 6 4 93) (a : Nat) (k26 : Int32 → Int32 → Int32 → Int32 → sn_M) (hk26 : ∀ (x1 : Int32) (x2 : Int32) (x3 : Int32) (x4 : Int32), sn_S X 26 [(0, vA (some a)), (1, vI x1), (2, vI x2), (3, vI x3), (4, vI x4)] [] (k26 x1 x2 x3 x4)) (x1 : Int32) (x2 : Int32) (x3 : Int32) (x4 : Int32) (t0 : Int32) : sn_S X 85 [(0, vA (some a)), (1, vI x1), (2, vI x2), (3, vI x3), (4, vI x4)] [vI t0] (f_Md_look_85 k26 a x1 x2 x3 x4 t0) := by
  unfold f_Md_look_85
  refine r_istore (q := 87) (i := 5) (lv' := [(5, vI t0), (0, vA (some a)), (1, vI x1), (2, vI x2), (3, vI x3), (4, vI x4)]) C d_Md_look_85 rfl (by decide) rfl ?_
  refine r_aload_n (q := 88) (i := 0) (pl := 1) C d_Md_look_87 rfl rfl rfl ?_
  refine r_gR (q := 91) C d_Md_look_88 rfl F_Md_141 rfl (fun v4 => ?_)
  refine r_bipush (q := 93) (v := 36) C d_Md_look_91 rfl (by decide) ?_
  refine r_iload_n (q := 94) (i := 1) (pl := 2) C d_Md_look_93 rfl rfl rfl ?_
  refine r_imul (q := 95) C d_Md_look_94 rfl ?_
  refine r_bipush (q := 97) (v := 6) C d_Md_look_95 rfl (by decide) ?_
  refine r_iload (q := 99) (i := 4) (pl := 5) C d_Md_look_97 rfl rfl ?_
  refine r_imul (q := 100) C d_Md_look_99 rfl ?_
  refine r_iadd (q := 101) C d_Md_look_100 rfl ?_
  refine r_iload_n (q := 102) (i := 2) (pl := 3) C d_Md_look_101 rfl rfl rfl ?_
  refine r_iadd (q := 103) C d_Md_look_102 rfl ?_
  refine r_aI (q := 104) C (Or.inr rfl) d_Md_look_103 rfl (fun v5 => ?_)
  refine r_iload (q := 106) (i := 5) (pl := 0) C d_Md_look_104 rfl rfl ?_
  refine r_icmp_ne (tgt := 112) (q := 109) C d_Md_look_106 (by decide) rfl ?_ ?_
  · refine r_aload_n (q := 113) (i := 0) (pl := 1) C d_Md_look_112 rfl rfl rfl ?_
    refine r_gR (q := 116) C d_Md_look_113 rfl F_Md_141 rfl (fun v6 => ?_)
    refine r_bipush (q := 118) (v := 36) C d_Md_look_116 rfl (by decide) ?_
    refine r_iload_n (q := 119) (i := 1) (pl := 2) C d_Md_look_118 rfl rfl rfl ?_
    refine r_imul (q := 120) C d_Md_look_119 rfl ?_
    refine r_bipush (q := 122) (v := 6) C d_Md_look_120 rfl (by decide) ?_
    refine r_iload (q := 124) (i := 4) (pl := 5) C d_Md_look_122 rfl rfl ?_
    refine r_imul (q := 125) C d_Md_look_124 rfl ?_
    refine r_iadd (q := 126) C d_Md_look_125 rfl ?_
    refine r_iload_n (q := 127) (i := 2) (pl := 3) C d_Md_look_126 rfl rfl rfl ?_
    refine r_iadd (q := 128) C d_Md_look_127 rfl ?_
    refine r_iload (q := 130) (i := 5) (pl := 0) C d_Md_look_128 rfl rfl ?_
    refine r_bI (q := 131) C (Or.inr rfl) d_Md_look_130 rfl ?_
    refine r_aload_n (q := 132) (i := 0) (pl := 1) C d_Md_look_131 rfl rfl rfl ?_
    refine r_iload_n (q := 133) (i := 1) (pl := 2) C d_Md_look_132 rfl rfl rfl ?_
    refine r_iload (q := 135) (i := 4) (pl := 5) C d_Md_look_133 rfl rfl ?_
    refine r_iconst (q := 136) (v := 0) C d_Md_look_135 rfl (by decide) ?_
    refine r_iload (q := 138) (i := 5) (pl := 0) C d_Md_look_136 rfl rfl ?_
    refine r_iconst (q := 139) (v := 1) C d_Md_look_138 rfl (by decide) ?_
    refine r_icmp_ne (tgt := 146) (q := 142) C d_Md_look_139 (by decide) rfl ?_ ?_
    · refine r_bipush (q := 148) (v := 6) C d_Md_look_146 rfl (by decide) ?_
      refine r_sub (lv' := [(0, vA (some a)), (1, vI x1), (2, vI x2), (3, vI x3), (4, vI x4)]) [1, 2, 3, 4, 5] rfl ?_
      exact s_Md_look_148 C a k26 hk26 x1 x2 x3 x4 (some a) x1 x4 (0 : Int32) (6 : Int32)
    · refine r_iconst (q := 143) (v := 5) C d_Md_look_142 rfl (by decide) ?_
      refine r_goto (tgt := 148) C d_Md_look_143 (by decide) ?_
      refine r_sub (lv' := [(0, vA (some a)), (1, vI x1), (2, vI x2), (3, vI x3), (4, vI x4)]) [1, 2, 3, 4, 5] rfl ?_
      exact s_Md_look_148 C a k26 hk26 x1 x2 x3 x4 (some a) x1 x4 (0 : Int32) (5 : Int32)
  · refine r_goto (tgt := 160) C d_Md_look_109 (by decide) ?_
    refine r_sub (lv' := [(0, vA (some a)), (1, vI x1), (2, vI x2), (3, vI x3), (4, vI x4)]) [1, 2, 3, 4, 5] rfl ?_
    exact s_Md_look_160 C a k26 hk26 x1 x2 x3 x4
def f_Md_look_80 (k26 : Int32 → Int32 → Int32 → Int32 → sn_M) (a : Nat) (x1 : Int32) (x2 : Int32) (x3 : Int32) (x4 : Int32) : sn_M := f_Md_look_85 k26 a x1 x2 x3 x4 (1 : Int32)
set_option maxHeartbeats 4000000 in
set_option maxRecDepth 100000 in
theorem mono_Md_look_80 (k26 : Int32 → Int32 → Int32 → Int32 → sn_M) (mk26 : ∀ (x1 : Int32) (x2 : Int32) (x3 : Int32) (x4 : Int32), sn_Mono (k26 x1 x2 x3 x4)) (a : Nat) (x1 : Int32) (x2 : Int32) (x3 : Int32) (x4 : Int32) : sn_Mono (f_Md_look_80 k26 a x1 x2 x3 x4) := mono_Md_look_85 k26 mk26 a x1 x2 x3 x4 (1 : Int32)
set_option maxHeartbeats 4000000 in
set_option maxRecDepth 100000 in
theorem s_Md_look_80 {X : sn_X} (C : sn_Cx X c_Md_look "SignalNetworkModel" none "look" 6 4 93) (a : Nat) (k26 : Int32 → Int32 → Int32 → Int32 → sn_M) (hk26 : ∀ (x1 : Int32) (x2 : Int32) (x3 : Int32) (x4 : Int32), sn_S X 26 [(0, vA (some a)), (1, vI x1), (2, vI x2), (3, vI x3), (4, vI x4)] [] (k26 x1 x2 x3 x4)) (x1 : Int32) (x2 : Int32) (x3 : Int32) (x4 : Int32) : sn_S X 80 [(0, vA (some a)), (1, vI x1), (2, vI x2), (3, vI x3), (4, vI x4)] [] (f_Md_look_80 k26 a x1 x2 x3 x4) := by
  unfold f_Md_look_80
  refine r_iconst (q := 81) (v := 1) C d_Md_look_80 rfl (by decide) ?_
  refine r_goto (tgt := 85) C d_Md_look_81 (by decide) ?_
  exact s_Md_look_85 C a k26 hk26 x1 x2 x3 x4 (1 : Int32)
def f_Md_look_26 (k2 : Int32 → Int32 → sn_M) (a : Nat) : Nat → Int32 → Int32 → Int32 → Int32 → sn_M
  | 0, _, _, _, _ => r_0
  | n + 1, x1, x2, x3, x4 => (if (6 : Int32) ≤ x4 then f_Md_look_166 k2 a x1 x2 else (if x4 = x2 then f_Md_look_160 (f_Md_look_26 k2 a n) a x1 x2 x3 x4 else (if x4 = x1 then f_Md_look_160 (f_Md_look_26 k2 a n) a x1 x2 x3 x4 else n_n 12 (some a) fun a7 => c_I (f_Md_areNeighbours a7 x1 x4) fun v8 => (if v8 = 0 then f_Md_look_160 (f_Md_look_26 k2 a n) a x1 x2 x3 x4 else n_n 12 (some a) fun a9 => c_I (f_Md_isOpen a9 x1 x4 (0 : Int32)) fun v10 => (if ¬ v10 = 0 then (if x3 = (-1 : Int32) then f_Md_look_80 (f_Md_look_26 k2 a n) a x1 x2 x3 x4 else (if ¬ x3 = x4 then f_Md_look_85 (f_Md_look_26 k2 a n) a x1 x2 x3 x4 (2 : Int32) else f_Md_look_80 (f_Md_look_26 k2 a n) a x1 x2 x3 x4)) else f_Md_look_160 (f_Md_look_26 k2 a n) a x1 x2 x3 x4)))))
set_option maxHeartbeats 4000000 in
set_option maxRecDepth 100000 in
theorem mono_Md_look_26 (k2 : Int32 → Int32 → sn_M) (mk2 : ∀ (x1 : Int32) (x2 : Int32), sn_Mono (k2 x1 x2)) (a : Nat) : ∀ (n : Nat) (x1 : Int32) (x2 : Int32) (x3 : Int32) (x4 : Int32), sn_Mono (f_Md_look_26 k2 a n x1 x2 x3 x4)
  | 0, _, _, _, _ => sn_Mono.r0
  | n + 1, x1, x2, x3, x4 => sn_Mono.ite (mono_Md_look_166 k2 mk2 a x1 x2) (sn_Mono.ite (mono_Md_look_160 (f_Md_look_26 k2 a n) (mono_Md_look_26 k2 mk2 a n) a x1 x2 x3 x4) (sn_Mono.ite (mono_Md_look_160 (f_Md_look_26 k2 a n) (mono_Md_look_26 k2 mk2 a n) a x1 x2 x3 x4) (sn_Mono.nn (fun a7 => sn_Mono.cI (mono_Md_areNeighbours a7 x1 x4) (fun v8 => sn_Mono.ite (mono_Md_look_160 (f_Md_look_26 k2 a n) (mono_Md_look_26 k2 mk2 a n) a x1 x2 x3 x4) (sn_Mono.nn (fun a9 => sn_Mono.cI (mono_Md_isOpen a9 x1 x4 (0 : Int32)) (fun v10 => sn_Mono.ite (sn_Mono.ite (mono_Md_look_80 (f_Md_look_26 k2 a n) (mono_Md_look_26 k2 mk2 a n) a x1 x2 x3 x4) (sn_Mono.ite (mono_Md_look_85 (f_Md_look_26 k2 a n) (mono_Md_look_26 k2 mk2 a n) a x1 x2 x3 x4 (2 : Int32)) (mono_Md_look_80 (f_Md_look_26 k2 a n) (mono_Md_look_26 k2 mk2 a n) a x1 x2 x3 x4))) (mono_Md_look_160 (f_Md_look_26 k2 a n) (mono_Md_look_26 k2 mk2 a n) a x1 x2 x3 x4)))))))))
set_option maxHeartbeats 4000000 in
set_option maxRecDepth 100000 in
theorem s_Md_look_26 {X : sn_X} (C : sn_Cx X c_Md_look "SignalNetworkModel" none "look" 6 4 93) (a : Nat) (k2 : Int32 → Int32 → sn_M) (hk2 : ∀ (x1 : Int32) (x2 : Int32), sn_S X 2 [(0, vA (some a)), (1, vI x1), (2, vI x2)] [] (k2 x1 x2)) (n : Nat) : ∀ (x1 : Int32) (x2 : Int32) (x3 : Int32) (x4 : Int32), sn_S X 26 [(0, vA (some a)), (1, vI x1), (2, vI x2), (3, vI x3), (4, vI x4)] [] (f_Md_look_26 k2 a n x1 x2 x3 x4) := by
  induction n with
  | zero => intro x1 x2 x3 x4; exact sn_S.zero
  | succ n ih =>
    intro x1 x2 x3 x4
    unfold f_Md_look_26
    refine r_iload (q := 28) (i := 4) (pl := 4) C d_Md_look_26 rfl rfl ?_
    refine r_bipush (q := 30) (v := 6) C d_Md_look_28 rfl (by decide) ?_
    refine r_icmp_ge (tgt := 166) (q := 33) C d_Md_look_30 (by decide) rfl ?_ ?_
    · refine r_sub (lv' := [(0, vA (some a)), (1, vI x1), (2, vI x2)]) [0, 1, 2] rfl ?_
      exact s_Md_look_166 C a k2 hk2 x1 x2
    · refine r_iload (q := 35) (i := 4) (pl := 4) C d_Md_look_33 rfl rfl ?_
      refine r_iload_n (q := 36) (i := 2) (pl := 2) C d_Md_look_35 rfl rfl rfl ?_
      refine r_icmp_eq (tgt := 160) (q := 39) C d_Md_look_36 (by decide) rfl ?_ ?_
      · exact s_Md_look_160 C a (f_Md_look_26 k2 a n) ih x1 x2 x3 x4
      · refine r_iload (q := 41) (i := 4) (pl := 4) C d_Md_look_39 rfl rfl ?_
        refine r_iload_n (q := 42) (i := 1) (pl := 1) C d_Md_look_41 rfl rfl rfl ?_
        refine r_icmp_eq (tgt := 160) (q := 45) C d_Md_look_42 (by decide) rfl ?_ ?_
        · exact s_Md_look_160 C a (f_Md_look_26 k2 a n) ih x1 x2 x3 x4
        · refine r_aload_n (q := 46) (i := 0) (pl := 0) C d_Md_look_45 rfl rfl rfl ?_
          refine r_iload_n (q := 47) (i := 1) (pl := 1) C d_Md_look_46 rfl rfl rfl ?_
          refine r_iload (q := 49) (i := 4) (pl := 4) C d_Md_look_47 rfl rfl ?_
          refine r_cvI (q := 52) (As := [vI x1, vI x4]) (st := []) (cy := 11) C d_Md_look_49 rfl Y_Md_areNeighbours L_Md_226 I_Md_areNeighbours Se_Md_areNeighbours rfl (by decide) rfl (Nat.le_of_ble_eq_true rfl) (Nat.le_of_ble_eq_true rfl) (Nat.le_of_ble_eq_true rfl) rfl (fun a7 => con_Md_areNeighbours a7 x1 x4) (fun v8 => ?_)
          refine r_if_eq (tgt := 160) (q := 55) C d_Md_look_52 (by decide) rfl ?_ ?_
          · exact s_Md_look_160 C a (f_Md_look_26 k2 a n) ih x1 x2 x3 x4
          · refine r_aload_n (q := 56) (i := 0) (pl := 0) C d_Md_look_55 rfl rfl rfl ?_
            refine r_iload_n (q := 57) (i := 1) (pl := 1) C d_Md_look_56 rfl rfl rfl ?_
            refine r_iload (q := 59) (i := 4) (pl := 4) C d_Md_look_57 rfl rfl ?_
            refine r_iconst (q := 60) (v := 0) C d_Md_look_59 rfl (by decide) ?_
            refine r_cvI (q := 63) (As := [vI x1, vI x4, vI (0 : Int32)]) (st := []) (cy := 11) C d_Md_look_60 rfl Y_Md_isOpen L_Md_234 I_Md_isOpen Se_Md_isOpen rfl (by decide) rfl (Nat.le_of_ble_eq_true rfl) (Nat.le_of_ble_eq_true rfl) (Nat.le_of_ble_eq_true rfl) rfl (fun a9 => con_Md_isOpen a9 x1 x4 (0 : Int32)) (fun v10 => ?_)
            refine r_if_ne (tgt := 69) (q := 66) C d_Md_look_63 (by decide) rfl ?_ ?_
            · refine r_iload_n (q := 70) (i := 3) (pl := 3) C d_Md_look_69 rfl rfl rfl ?_
              refine r_iconst (q := 71) (v := -1) C d_Md_look_70 rfl (by decide) ?_
              refine r_icmp_eq (tgt := 80) (q := 74) C d_Md_look_71 (by decide) rfl ?_ ?_
              · exact s_Md_look_80 C a (f_Md_look_26 k2 a n) ih x1 x2 x3 x4
              · refine r_iload_n (q := 75) (i := 3) (pl := 3) C d_Md_look_74 rfl rfl rfl ?_
                refine r_iload (q := 77) (i := 4) (pl := 4) C d_Md_look_75 rfl rfl ?_
                refine r_icmp_ne (tgt := 84) (q := 80) C d_Md_look_77 (by decide) rfl ?_ ?_
                · refine r_iconst (q := 85) (v := 2) C d_Md_look_84 rfl (by decide) ?_
                  exact s_Md_look_85 C a (f_Md_look_26 k2 a n) ih x1 x2 x3 x4 (2 : Int32)
                · exact s_Md_look_80 C a (f_Md_look_26 k2 a n) ih x1 x2 x3 x4
            · refine r_goto (tgt := 160) C d_Md_look_66 (by decide) ?_
              exact s_Md_look_160 C a (f_Md_look_26 k2 a n) ih x1 x2 x3 x4
def f_Md_look_2 (a : Nat) : Nat → Int32 → Int32 → sn_M
  | 0, _, _ => r_0
  | n + 1, x1, x2 => (if (6 : Int32) ≤ x2 then r_V else (if ¬ x2 = x1 then n_n 12 (some a) fun a11 => c_I (f_Md_nextOf a11 x1 x2) fun v12 => f_Md_look_26 (f_Md_look_2 a n) a sn_fuel x1 x2 v12 (0 : Int32) else f_Md_look_166 (f_Md_look_2 a n) a x1 x2))
set_option maxHeartbeats 4000000 in
set_option maxRecDepth 100000 in
theorem mono_Md_look_2 (a : Nat) : ∀ (n : Nat) (x1 : Int32) (x2 : Int32), sn_Mono (f_Md_look_2 a n x1 x2)
  | 0, _, _ => sn_Mono.r0
  | n + 1, x1, x2 => sn_Mono.ite (sn_Mono.rV) (sn_Mono.ite (sn_Mono.nn (fun a11 => sn_Mono.cI (mono_Md_nextOf a11 x1 x2) (fun v12 => mono_Md_look_26 (f_Md_look_2 a n) (mono_Md_look_2 a n) a sn_fuel x1 x2 v12 (0 : Int32)))) (mono_Md_look_166 (f_Md_look_2 a n) (mono_Md_look_2 a n) a x1 x2))
set_option maxHeartbeats 4000000 in
set_option maxRecDepth 100000 in
theorem s_Md_look_2 {X : sn_X} (C : sn_Cx X c_Md_look "SignalNetworkModel" none "look" 6 4 93) (a : Nat) (n : Nat) : ∀ (x1 : Int32) (x2 : Int32), sn_S X 2 [(0, vA (some a)), (1, vI x1), (2, vI x2)] [] (f_Md_look_2 a n x1 x2) := by
  induction n with
  | zero => intro x1 x2; exact sn_S.zero
  | succ n ih =>
    intro x1 x2
    unfold f_Md_look_2
    refine r_iload_n (q := 3) (i := 2) (pl := 2) C d_Md_look_2 rfl rfl rfl ?_
    refine r_bipush (q := 5) (v := 6) C d_Md_look_3 rfl (by decide) ?_
    refine r_icmp_ge (tgt := 172) (q := 8) C d_Md_look_5 (by decide) rfl ?_ ?_
    · exact r_vret C d_Md_look_172 rfl
    · refine r_iload_n (q := 9) (i := 2) (pl := 2) C d_Md_look_8 rfl rfl rfl ?_
      refine r_iload_n (q := 10) (i := 1) (pl := 1) C d_Md_look_9 rfl rfl rfl ?_
      refine r_icmp_ne (tgt := 16) (q := 13) C d_Md_look_10 (by decide) rfl ?_ ?_
      · refine r_aload_n (q := 17) (i := 0) (pl := 0) C d_Md_look_16 rfl rfl rfl ?_
        refine r_iload_n (q := 18) (i := 1) (pl := 1) C d_Md_look_17 rfl rfl rfl ?_
        refine r_iload_n (q := 19) (i := 2) (pl := 2) C d_Md_look_18 rfl rfl rfl ?_
        refine r_cvI (q := 22) (As := [vI x1, vI x2]) (st := []) (cy := 11) C d_Md_look_19 rfl Y_Md_nextOf L_Md_245 I_Md_nextOf Se_Md_nextOf rfl (by decide) rfl (Nat.le_of_ble_eq_true rfl) (Nat.le_of_ble_eq_true rfl) (Nat.le_of_ble_eq_true rfl) rfl (fun a11 => con_Md_nextOf a11 x1 x2) (fun v12 => ?_)
        refine r_istore_n (q := 23) (i := 3) (lv' := [(3, vI v12), (0, vA (some a)), (1, vI x1), (2, vI x2)]) C d_Md_look_22 rfl rfl (by decide) rfl ?_
        refine r_iconst (q := 24) (v := 0) C d_Md_look_23 rfl (by decide) ?_
        refine r_istore (q := 26) (i := 4) (lv' := [(4, vI (0 : Int32)), (3, vI v12), (0, vA (some a)), (1, vI x1), (2, vI x2)]) C d_Md_look_24 rfl (by decide) rfl ?_
        refine r_sub (lv' := [(0, vA (some a)), (1, vI x1), (2, vI x2), (3, vI v12), (4, vI (0 : Int32))]) [2, 3, 4, 1, 0] rfl ?_
        exact s_Md_look_26 C a (f_Md_look_2 a n) ih sn_fuel x1 x2 v12 (0 : Int32)
      · refine r_goto (tgt := 166) C d_Md_look_13 (by decide) ?_
        exact s_Md_look_166 C a (f_Md_look_2 a n) ih x1 x2
def f_Md_look (a : Nat) (x1 : Int32) : sn_M := f_Md_look_2 a sn_fuel x1 (0 : Int32)
set_option maxHeartbeats 4000000 in
set_option maxRecDepth 100000 in
theorem mono_Md_look (a : Nat) (x1 : Int32) : sn_Mono (f_Md_look a x1) := mono_Md_look_2 a sn_fuel x1 (0 : Int32)
set_option maxHeartbeats 4000000 in
set_option maxRecDepth 100000 in
theorem con_Md_look (a : Nat) (x1 : Int32) : sn_Con y_Md_look c_Md_look 6 none 4 93 [vA (some a), vI x1] (f_Md_look a x1) := by
  refine sn_Con.of (by decide +kernel) (by show _ ≤ _; exact Nat.le_of_ble_eq_true rfl) (mono_Md_look a x1) (fun X C => ?_)
  show sn_S X 0 [(0, vA (some a)), (1, vI x1)] [] _
  replace C : sn_Cx X c_Md_look "SignalNetworkModel" none "look" 6 4 93 := C
  unfold f_Md_look
  refine r_iconst (q := 1) (v := 0) C d_Md_look_0 rfl (by decide) ?_
  refine r_istore_n (q := 2) (i := 2) (lv' := [(2, vI (0 : Int32)), (0, vA (some a)), (1, vI x1)]) C d_Md_look_1 rfl rfl (by decide) rfl ?_
  refine r_sub (lv' := [(0, vA (some a)), (1, vI x1), (2, vI (0 : Int32))]) [1, 2, 0] rfl ?_
  exact s_Md_look_2 C a sn_fuel x1 (0 : Int32)
theorem d_Md_start_0 : decode c_Md_start 0 = .ok (.aload_n 0, 1) := by decide +kernel
theorem d_Md_start_1 : decode c_Md_start 1 = .ok (.iload_n 1, 1) := by decide +kernel
theorem d_Md_start_2 : decode c_Md_start 2 = .ok (.invokevirtual 252, 3) := by decide +kernel
theorem d_Md_start_5 : decode c_Md_start 5 = .ok (.istore_n 2, 1) := by decide +kernel
theorem d_Md_start_6 : decode c_Md_start 6 = .ok (.aload_n 0, 1) := by decide +kernel
theorem d_Md_start_7 : decode c_Md_start 7 = .ok (.getfield 23, 3) := by decide +kernel
theorem d_Md_start_10 : decode c_Md_start 10 = .ok (.iload_n 1, 1) := by decide +kernel
theorem d_Md_start_11 : decode c_Md_start 11 = .ok (.iconst 1, 1) := by decide +kernel
theorem d_Md_start_12 : decode c_Md_start 12 = .ok (.iastore, 1) := by decide +kernel
theorem d_Md_start_13 : decode c_Md_start 13 = .ok (.aload_n 0, 1) := by decide +kernel
theorem d_Md_start_14 : decode c_Md_start 14 = .ok (.getfield 26, 3) := by decide +kernel
theorem d_Md_start_17 : decode c_Md_start 17 = .ok (.iload_n 1, 1) := by decide +kernel
theorem d_Md_start_18 : decode c_Md_start 18 = .ok (.aload_n 0, 1) := by decide +kernel
theorem d_Md_start_19 : decode c_Md_start 19 = .ok (.getfield 256, 3) := by decide +kernel
theorem d_Md_start_22 : decode c_Md_start 22 = .ok (.bipush 30, 2) := by decide +kernel
theorem d_Md_start_24 : decode c_Md_start 24 = .ok (.iadd, 1) := by decide +kernel
theorem d_Md_start_25 : decode c_Md_start 25 = .ok (.iastore, 1) := by decide +kernel
theorem d_Md_start_26 : decode c_Md_start 26 = .ok (.aload_n 0, 1) := by decide +kernel
theorem d_Md_start_27 : decode c_Md_start 27 = .ok (.getfield 105, 3) := by decide +kernel
theorem d_Md_start_30 : decode c_Md_start 30 = .ok (.iload_n 1, 1) := by decide +kernel
theorem d_Md_start_31 : decode c_Md_start 31 = .ok (.aload_n 0, 1) := by decide +kernel
theorem d_Md_start_32 : decode c_Md_start 32 = .ok (.getfield 105, 3) := by decide +kernel
theorem d_Md_start_35 : decode c_Md_start 35 = .ok (.iload_n 1, 1) := by decide +kernel
theorem d_Md_start_36 : decode c_Md_start 36 = .ok (.iaload, 1) := by decide +kernel
theorem d_Md_start_37 : decode c_Md_start 37 = .ok (.iconst 1, 1) := by decide +kernel
theorem d_Md_start_38 : decode c_Md_start 38 = .ok (.iadd, 1) := by decide +kernel
theorem d_Md_start_39 : decode c_Md_start 39 = .ok (.bipush 15, 2) := by decide +kernel
theorem d_Md_start_41 : decode c_Md_start 41 = .ok (.iand, 1) := by decide +kernel
theorem d_Md_start_42 : decode c_Md_start 42 = .ok (.iastore, 1) := by decide +kernel
theorem d_Md_start_43 : decode c_Md_start 43 = .ok (.aload_n 0, 1) := by decide +kernel
theorem d_Md_start_44 : decode c_Md_start 44 = .ok (.getfield 62, 3) := by decide +kernel
theorem d_Md_start_47 : decode c_Md_start 47 = .ok (.iload_n 1, 1) := by decide +kernel
theorem d_Md_start_48 : decode c_Md_start 48 = .ok (.iconst 1, 1) := by decide +kernel
theorem d_Md_start_49 : decode c_Md_start 49 = .ok (.bastore, 1) := by decide +kernel
theorem d_Md_start_50 : decode c_Md_start 50 = .ok (.iconst 0, 1) := by decide +kernel
theorem d_Md_start_51 : decode c_Md_start 51 = .ok (.istore_n 3, 1) := by decide +kernel
theorem d_Md_start_52 : decode c_Md_start 52 = .ok (.iload_n 3, 1) := by decide +kernel
theorem d_Md_start_53 : decode c_Md_start 53 = .ok (.aload_n 0, 1) := by decide +kernel
theorem d_Md_start_54 : decode c_Md_start 54 = .ok (.getfield 196, 3) := by decide +kernel
theorem d_Md_start_57 : decode c_Md_start 57 = .ok (.if_icmp .ge 52, 3) := by decide +kernel
theorem d_Md_start_60 : decode c_Md_start 60 = .ok (.iload_n 3, 1) := by decide +kernel
theorem d_Md_start_61 : decode c_Md_start 61 = .ok (.iload_n 1, 1) := by decide +kernel
theorem d_Md_start_62 : decode c_Md_start 62 = .ok (.iconst 1, 1) := by decide +kernel
theorem d_Md_start_63 : decode c_Md_start 63 = .ok (.ishr, 1) := by decide +kernel
theorem d_Md_start_64 : decode c_Md_start 64 = .ok (.if_icmp .eq 39, 3) := by decide +kernel
theorem d_Md_start_67 : decode c_Md_start 67 = .ok (.aload_n 0, 1) := by decide +kernel
theorem d_Md_start_68 : decode c_Md_start 68 = .ok (.iload_n 3, 1) := by decide +kernel
theorem d_Md_start_69 : decode c_Md_start 69 = .ok (.iload_n 2, 1) := by decide +kernel
theorem d_Md_start_70 : decode c_Md_start 70 = .ok (.aload_n 0, 1) := by decide +kernel
theorem d_Md_start_71 : decode c_Md_start 71 = .ok (.iload_n 1, 1) := by decide +kernel
theorem d_Md_start_72 : decode c_Md_start 72 = .ok (.invokevirtual 259, 3) := by decide +kernel
theorem d_Md_start_75 : decode c_Md_start 75 = .ok (.invokevirtual 200, 3) := by decide +kernel
theorem d_Md_start_78 : decode c_Md_start 78 = .ok (.ifCond .eq 25, 3) := by decide +kernel
theorem d_Md_start_81 : decode c_Md_start 81 = .ok (.aload_n 0, 1) := by decide +kernel
theorem d_Md_start_82 : decode c_Md_start 82 = .ok (.getfield 23, 3) := by decide +kernel
theorem d_Md_start_85 : decode c_Md_start 85 = .ok (.aload_n 0, 1) := by decide +kernel
theorem d_Md_start_86 : decode c_Md_start 86 = .ok (.iload_n 3, 1) := by decide +kernel
theorem d_Md_start_87 : decode c_Md_start 87 = .ok (.iload_n 2, 1) := by decide +kernel
theorem d_Md_start_88 : decode c_Md_start 88 = .ok (.invokevirtual 216, 3) := by decide +kernel
theorem d_Md_start_91 : decode c_Md_start 91 = .ok (.iaload, 1) := by decide +kernel
theorem d_Md_start_92 : decode c_Md_start 92 = .ok (.iconst 5, 1) := by decide +kernel
theorem d_Md_start_93 : decode c_Md_start 93 = .ok (.if_icmp .ne 10, 3) := by decide +kernel
theorem d_Md_start_96 : decode c_Md_start 96 = .ok (.aload_n 0, 1) := by decide +kernel
theorem d_Md_start_97 : decode c_Md_start 97 = .ok (.getfield 62, 3) := by decide +kernel
theorem d_Md_start_100 : decode c_Md_start 100 = .ok (.iload_n 1, 1) := by decide +kernel
theorem d_Md_start_101 : decode c_Md_start 101 = .ok (.iconst 0, 1) := by decide +kernel
theorem d_Md_start_102 : decode c_Md_start 102 = .ok (.bastore, 1) := by decide +kernel
theorem d_Md_start_103 : decode c_Md_start 103 = .ok (.iinc 3 1, 3) := by decide +kernel
theorem d_Md_start_106 : decode c_Md_start 106 = .ok (.goto (-54), 3) := by decide +kernel
theorem d_Md_start_109 : decode c_Md_start 109 = .ok (.return_, 1) := by decide +kernel
def f_Md_start_103 (k52 : Int32 → Int32 → Int32 → sn_M) (a : Nat) (x1 : Int32) (x2 : Int32) (x3 : Int32) : sn_M := k52 x1 x2 (x3 + (1 : Int32))
set_option maxHeartbeats 4000000 in
set_option maxRecDepth 100000 in
theorem mono_Md_start_103 (k52 : Int32 → Int32 → Int32 → sn_M) (mk52 : ∀ (x1 : Int32) (x2 : Int32) (x3 : Int32), sn_Mono (k52 x1 x2 x3)) (a : Nat) (x1 : Int32) (x2 : Int32) (x3 : Int32) : sn_Mono (f_Md_start_103 k52 a x1 x2 x3) := mk52 x1 x2 (x3 + (1 : Int32))
set_option maxHeartbeats 4000000 in
set_option maxRecDepth 100000 in
theorem s_Md_start_103 {X : sn_X} (C : sn_Cx X c_Md_start "SignalNetworkModel" none "start" 4 1 23) (a : Nat) (k52 : Int32 → Int32 → Int32 → sn_M) (hk52 : ∀ (x1 : Int32) (x2 : Int32) (x3 : Int32), sn_S X 52 [(0, vA (some a)), (1, vI x1), (2, vI x2), (3, vI x3)] [] (k52 x1 x2 x3)) (x1 : Int32) (x2 : Int32) (x3 : Int32) : sn_S X 103 [(0, vA (some a)), (1, vI x1), (2, vI x2), (3, vI x3)] [] (f_Md_start_103 k52 a x1 x2 x3) := by
  unfold f_Md_start_103
  refine r_iinc (q := 106) (pl := 3) (v := x3 + (1 : Int32)) (lv' := [(3, vI (x3 + (1 : Int32))), (0, vA (some a)), (1, vI x1), (2, vI x2)]) C d_Md_start_103 rfl rfl rfl (by decide) rfl ?_
  refine r_goto (tgt := 52) C d_Md_start_106 (by decide) ?_
  refine r_sub (lv' := [(0, vA (some a)), (1, vI x1), (2, vI x2), (3, vI (x3 + (1 : Int32)))]) [1, 2, 3, 0] rfl ?_
  exact hk52 x1 x2 (x3 + (1 : Int32))
def f_Md_start_52 (a : Nat) : Nat → Int32 → Int32 → Int32 → sn_M
  | 0, _, _, _ => r_0
  | n + 1, x1, x2, x3 => g_I 12 4 (some a) fun v1 => (if v1 ≤ x3 then r_V else (if x3 = (x1 >>> ((1 : Int32) &&& 31)) then f_Md_start_103 (f_Md_start_52 a n) a x1 x2 x3 else n_n 12 (some a) fun a2 => c_I (f_Md_otherOf a2 x1) fun v3 => n_n 12 (some a) fun a4 => c_I (f_Md_isOf a4 x3 x2 v3) fun v5 => (if v5 = 0 then f_Md_start_103 (f_Md_start_52 a n) a x1 x2 x3 else g_R 12 10 (some a) fun v6 => n_n 12 (some a) fun a7 => c_I (f_Md_endAt a7 x3 x2) fun v8 => a_I 31 v6 v8 fun v9 => (if ¬ v9 = (5 : Int32) then f_Md_start_103 (f_Md_start_52 a n) a x1 x2 x3 else g_R 12 23 (some a) fun v10 => b_Z 33 v10 x1 (0 : Int32) (f_Md_start_103 (f_Md_start_52 a n) a x1 x2 x3)))))
set_option maxHeartbeats 4000000 in
set_option maxRecDepth 100000 in
theorem mono_Md_start_52 (a : Nat) : ∀ (n : Nat) (x1 : Int32) (x2 : Int32) (x3 : Int32), sn_Mono (f_Md_start_52 a n x1 x2 x3)
  | 0, _, _, _ => sn_Mono.r0
  | n + 1, x1, x2, x3 => sn_Mono.gI (fun v1 => sn_Mono.ite (sn_Mono.rV) (sn_Mono.ite (mono_Md_start_103 (f_Md_start_52 a n) (mono_Md_start_52 a n) a x1 x2 x3) (sn_Mono.nn (fun a2 => sn_Mono.cI (mono_Md_otherOf a2 x1) (fun v3 => sn_Mono.nn (fun a4 => sn_Mono.cI (mono_Md_isOf a4 x3 x2 v3) (fun v5 => sn_Mono.ite (mono_Md_start_103 (f_Md_start_52 a n) (mono_Md_start_52 a n) a x1 x2 x3) (sn_Mono.gR (fun v6 => sn_Mono.nn (fun a7 => sn_Mono.cI (mono_Md_endAt a7 x3 x2) (fun v8 => sn_Mono.aI (fun v9 => sn_Mono.ite (mono_Md_start_103 (f_Md_start_52 a n) (mono_Md_start_52 a n) a x1 x2 x3) (sn_Mono.gR (fun v10 => sn_Mono.bZ (mono_Md_start_103 (f_Md_start_52 a n) (mono_Md_start_52 a n) a x1 x2 x3)))))))))))))))
set_option maxHeartbeats 4000000 in
set_option maxRecDepth 100000 in
theorem s_Md_start_52 {X : sn_X} (C : sn_Cx X c_Md_start "SignalNetworkModel" none "start" 4 1 23) (a : Nat) (n : Nat) : ∀ (x1 : Int32) (x2 : Int32) (x3 : Int32), sn_S X 52 [(0, vA (some a)), (1, vI x1), (2, vI x2), (3, vI x3)] [] (f_Md_start_52 a n x1 x2 x3) := by
  induction n with
  | zero => intro x1 x2 x3; exact sn_S.zero
  | succ n ih =>
    intro x1 x2 x3
    unfold f_Md_start_52
    refine r_iload_n (q := 53) (i := 3) (pl := 3) C d_Md_start_52 rfl rfl rfl ?_
    refine r_aload_n (q := 54) (i := 0) (pl := 0) C d_Md_start_53 rfl rfl rfl ?_
    refine r_gI (q := 57) C d_Md_start_54 rfl F_Md_196 rfl (fun v1 => ?_)
    refine r_icmp_ge (tgt := 109) (q := 60) C d_Md_start_57 (by decide) rfl ?_ ?_
    · exact r_vret C d_Md_start_109 rfl
    · refine r_iload_n (q := 61) (i := 3) (pl := 3) C d_Md_start_60 rfl rfl rfl ?_
      refine r_iload_n (q := 62) (i := 1) (pl := 1) C d_Md_start_61 rfl rfl rfl ?_
      refine r_iconst (q := 63) (v := 1) C d_Md_start_62 rfl (by decide) ?_
      refine r_ishr (q := 64) C d_Md_start_63 rfl ?_
      refine r_icmp_eq (tgt := 103) (q := 67) C d_Md_start_64 (by decide) rfl ?_ ?_
      · exact s_Md_start_103 C a (f_Md_start_52 a n) ih x1 x2 x3
      · refine r_aload_n (q := 68) (i := 0) (pl := 0) C d_Md_start_67 rfl rfl rfl ?_
        refine r_iload_n (q := 69) (i := 3) (pl := 3) C d_Md_start_68 rfl rfl rfl ?_
        refine r_iload_n (q := 70) (i := 2) (pl := 2) C d_Md_start_69 rfl rfl rfl ?_
        refine r_aload_n (q := 71) (i := 0) (pl := 0) C d_Md_start_70 rfl rfl rfl ?_
        refine r_iload_n (q := 72) (i := 1) (pl := 1) C d_Md_start_71 rfl rfl rfl ?_
        refine r_cvI (q := 75) (As := [vI x1]) (st := [vI x2, vI x3, vA (some a)]) (cy := 11) C d_Md_start_72 rfl Y_Md_otherOf L_Md_259 I_Md_otherOf Se_Md_otherOf rfl (by decide) rfl (Nat.le_of_ble_eq_true rfl) (Nat.le_of_ble_eq_true rfl) (Nat.le_of_ble_eq_true rfl) rfl (fun a2 => con_Md_otherOf a2 x1) (fun v3 => ?_)
        refine r_cvI (q := 78) (As := [vI x3, vI x2, vI v3]) (st := []) (cy := 11) C d_Md_start_75 rfl Y_Md_isOf L_Md_200 I_Md_isOf Se_Md_isOf rfl (by decide) rfl (Nat.le_of_ble_eq_true rfl) (Nat.le_of_ble_eq_true rfl) (Nat.le_of_ble_eq_true rfl) rfl (fun a4 => con_Md_isOf a4 x3 x2 v3) (fun v5 => ?_)
        refine r_if_eq (tgt := 103) (q := 81) C d_Md_start_78 (by decide) rfl ?_ ?_
        · exact s_Md_start_103 C a (f_Md_start_52 a n) ih x1 x2 x3
        · refine r_aload_n (q := 82) (i := 0) (pl := 0) C d_Md_start_81 rfl rfl rfl ?_
          refine r_gR (q := 85) C d_Md_start_82 rfl F_Md_23 rfl (fun v6 => ?_)
          refine r_aload_n (q := 86) (i := 0) (pl := 0) C d_Md_start_85 rfl rfl rfl ?_
          refine r_iload_n (q := 87) (i := 3) (pl := 3) C d_Md_start_86 rfl rfl rfl ?_
          refine r_iload_n (q := 88) (i := 2) (pl := 2) C d_Md_start_87 rfl rfl rfl ?_
          refine r_cvI (q := 91) (As := [vI x3, vI x2]) (st := [vA v6]) (cy := 11) C d_Md_start_88 rfl Y_Md_endAt L_Md_216 I_Md_endAt Se_Md_endAt rfl (by decide) rfl (Nat.le_of_ble_eq_true rfl) (Nat.le_of_ble_eq_true rfl) (Nat.le_of_ble_eq_true rfl) rfl (fun a7 => con_Md_endAt a7 x3 x2) (fun v8 => ?_)
          refine r_aI (q := 92) C (Or.inr rfl) d_Md_start_91 rfl (fun v9 => ?_)
          refine r_iconst (q := 93) (v := 5) C d_Md_start_92 rfl (by decide) ?_
          refine r_icmp_ne (tgt := 103) (q := 96) C d_Md_start_93 (by decide) rfl ?_ ?_
          · exact s_Md_start_103 C a (f_Md_start_52 a n) ih x1 x2 x3
          · refine r_aload_n (q := 97) (i := 0) (pl := 0) C d_Md_start_96 rfl rfl rfl ?_
            refine r_gR (q := 100) C d_Md_start_97 rfl F_Md_62 rfl (fun v10 => ?_)
            refine r_iload_n (q := 101) (i := 1) (pl := 1) C d_Md_start_100 rfl rfl rfl ?_
            refine r_iconst (q := 102) (v := 0) C d_Md_start_101 rfl (by decide) ?_
            refine r_bZ (q := 103) C (Or.inr rfl) d_Md_start_102 rfl ?_
            exact s_Md_start_103 C a (f_Md_start_52 a n) ih x1 x2 x3
def f_Md_start (a : Nat) (x1 : Int32) : sn_M := n_n 12 (some a) fun a11 => c_I (f_Md_exchangeOf a11 x1) fun v12 => g_R 12 10 (some a) fun v13 => b_I 31 v13 x1 (1 : Int32) (g_R 12 11 (some a) fun v14 => g_I 12 6 (some a) fun v15 => b_I 31 v14 x1 (v15 + (30 : Int32)) (g_R 12 37 (some a) fun v16 => g_R 12 37 (some a) fun v17 => a_I 31 v17 x1 fun v18 => b_I 31 v16 x1 ((v18 + (1 : Int32)) &&& (15 : Int32)) (g_R 12 23 (some a) fun v19 => b_Z 33 v19 x1 (1 : Int32) (f_Md_start_52 a sn_fuel x1 v12 (0 : Int32)))))
set_option maxHeartbeats 4000000 in
set_option maxRecDepth 100000 in
theorem mono_Md_start (a : Nat) (x1 : Int32) : sn_Mono (f_Md_start a x1) := sn_Mono.nn (fun a11 => sn_Mono.cI (mono_Md_exchangeOf a11 x1) (fun v12 => sn_Mono.gR (fun v13 => sn_Mono.bI (sn_Mono.gR (fun v14 => sn_Mono.gI (fun v15 => sn_Mono.bI (sn_Mono.gR (fun v16 => sn_Mono.gR (fun v17 => sn_Mono.aI (fun v18 => sn_Mono.bI (sn_Mono.gR (fun v19 => sn_Mono.bZ (mono_Md_start_52 a sn_fuel x1 v12 (0 : Int32))))))))))))))
set_option maxHeartbeats 4000000 in
set_option maxRecDepth 100000 in
theorem con_Md_start (a : Nat) (x1 : Int32) : sn_Con y_Md_start c_Md_start 4 none 1 23 [vA (some a), vI x1] (f_Md_start a x1) := by
  refine sn_Con.of (by decide +kernel) (by show _ ≤ _; exact Nat.le_of_ble_eq_true rfl) (mono_Md_start a x1) (fun X C => ?_)
  show sn_S X 0 [(0, vA (some a)), (1, vI x1)] [] _
  replace C : sn_Cx X c_Md_start "SignalNetworkModel" none "start" 4 1 23 := C
  unfold f_Md_start
  refine r_aload_n (q := 1) (i := 0) (pl := 0) C d_Md_start_0 rfl rfl rfl ?_
  refine r_iload_n (q := 2) (i := 1) (pl := 1) C d_Md_start_1 rfl rfl rfl ?_
  refine r_cvI (q := 5) (As := [vI x1]) (st := []) (cy := 11) C d_Md_start_2 rfl Y_Md_exchangeOf L_Md_252 I_Md_exchangeOf Se_Md_exchangeOf rfl (by decide) rfl (Nat.le_of_ble_eq_true rfl) (Nat.le_of_ble_eq_true rfl) (Nat.le_of_ble_eq_true rfl) rfl (fun a11 => con_Md_exchangeOf a11 x1) (fun v12 => ?_)
  refine r_istore_n (q := 6) (i := 2) (lv' := [(2, vI v12), (0, vA (some a)), (1, vI x1)]) C d_Md_start_5 rfl rfl (by decide) rfl ?_
  refine r_aload_n (q := 7) (i := 0) (pl := 1) C d_Md_start_6 rfl rfl rfl ?_
  refine r_gR (q := 10) C d_Md_start_7 rfl F_Md_23 rfl (fun v13 => ?_)
  refine r_iload_n (q := 11) (i := 1) (pl := 2) C d_Md_start_10 rfl rfl rfl ?_
  refine r_iconst (q := 12) (v := 1) C d_Md_start_11 rfl (by decide) ?_
  refine r_bI (q := 13) C (Or.inr rfl) d_Md_start_12 rfl ?_
  refine r_aload_n (q := 14) (i := 0) (pl := 1) C d_Md_start_13 rfl rfl rfl ?_
  refine r_gR (q := 17) C d_Md_start_14 rfl F_Md_26 rfl (fun v14 => ?_)
  refine r_iload_n (q := 18) (i := 1) (pl := 2) C d_Md_start_17 rfl rfl rfl ?_
  refine r_aload_n (q := 19) (i := 0) (pl := 1) C d_Md_start_18 rfl rfl rfl ?_
  refine r_gI (q := 22) C d_Md_start_19 rfl F_Md_256 rfl (fun v15 => ?_)
  refine r_bipush (q := 24) (v := 30) C d_Md_start_22 rfl (by decide) ?_
  refine r_iadd (q := 25) C d_Md_start_24 rfl ?_
  refine r_bI (q := 26) C (Or.inr rfl) d_Md_start_25 rfl ?_
  refine r_aload_n (q := 27) (i := 0) (pl := 1) C d_Md_start_26 rfl rfl rfl ?_
  refine r_gR (q := 30) C d_Md_start_27 rfl F_Md_105 rfl (fun v16 => ?_)
  refine r_iload_n (q := 31) (i := 1) (pl := 2) C d_Md_start_30 rfl rfl rfl ?_
  refine r_aload_n (q := 32) (i := 0) (pl := 1) C d_Md_start_31 rfl rfl rfl ?_
  refine r_gR (q := 35) C d_Md_start_32 rfl F_Md_105 rfl (fun v17 => ?_)
  refine r_iload_n (q := 36) (i := 1) (pl := 2) C d_Md_start_35 rfl rfl rfl ?_
  refine r_aI (q := 37) C (Or.inr rfl) d_Md_start_36 rfl (fun v18 => ?_)
  refine r_iconst (q := 38) (v := 1) C d_Md_start_37 rfl (by decide) ?_
  refine r_iadd (q := 39) C d_Md_start_38 rfl ?_
  refine r_bipush (q := 41) (v := 15) C d_Md_start_39 rfl (by decide) ?_
  refine r_iand (q := 42) C d_Md_start_41 rfl ?_
  refine r_bI (q := 43) C (Or.inr rfl) d_Md_start_42 rfl ?_
  refine r_aload_n (q := 44) (i := 0) (pl := 1) C d_Md_start_43 rfl rfl rfl ?_
  refine r_gR (q := 47) C d_Md_start_44 rfl F_Md_62 rfl (fun v19 => ?_)
  refine r_iload_n (q := 48) (i := 1) (pl := 2) C d_Md_start_47 rfl rfl rfl ?_
  refine r_iconst (q := 49) (v := 1) C d_Md_start_48 rfl (by decide) ?_
  refine r_bZ (q := 50) C (Or.inr rfl) d_Md_start_49 rfl ?_
  refine r_iconst (q := 51) (v := 0) C d_Md_start_50 rfl (by decide) ?_
  refine r_istore_n (q := 52) (i := 3) (lv' := [(3, vI (0 : Int32)), (2, vI v12), (0, vA (some a)), (1, vI x1)]) C d_Md_start_51 rfl rfl (by decide) rfl ?_
  refine r_sub (lv' := [(0, vA (some a)), (1, vI x1), (2, vI v12), (3, vI (0 : Int32))]) [2, 3, 1, 0] rfl ?_
  exact s_Md_start_52 C a sn_fuel x1 v12 (0 : Int32)
theorem d_Md_fail_0 : decode c_Md_fail 0 = .ok (.aload_n 0, 1) := by decide +kernel
theorem d_Md_fail_1 : decode c_Md_fail 1 = .ok (.iload_n 1, 1) := by decide +kernel
theorem d_Md_fail_2 : decode c_Md_fail 2 = .ok (.invokevirtual 252, 3) := by decide +kernel
theorem d_Md_fail_5 : decode c_Md_fail 5 = .ok (.istore_n 3, 1) := by decide +kernel
theorem d_Md_fail_6 : decode c_Md_fail 6 = .ok (.aload_n 0, 1) := by decide +kernel
theorem d_Md_fail_7 : decode c_Md_fail 7 = .ok (.iload_n 1, 1) := by decide +kernel
theorem d_Md_fail_8 : decode c_Md_fail 8 = .ok (.invokevirtual 259, 3) := by decide +kernel
theorem d_Md_fail_11 : decode c_Md_fail 11 = .ok (.istore 4, 2) := by decide +kernel
theorem d_Md_fail_13 : decode c_Md_fail 13 = .ok (.aload_n 0, 1) := by decide +kernel
theorem d_Md_fail_14 : decode c_Md_fail 14 = .ok (.getfield 23, 3) := by decide +kernel
theorem d_Md_fail_17 : decode c_Md_fail 17 = .ok (.iload_n 1, 1) := by decide +kernel
theorem d_Md_fail_18 : decode c_Md_fail 18 = .ok (.iaload, 1) := by decide +kernel
theorem d_Md_fail_19 : decode c_Md_fail 19 = .ok (.iconst 5, 1) := by decide +kernel
theorem d_Md_fail_20 : decode c_Md_fail 20 = .ok (.if_icmp .ne 7, 3) := by decide +kernel
theorem d_Md_fail_23 : decode c_Md_fail 23 = .ok (.iconst 1, 1) := by decide +kernel
theorem d_Md_fail_24 : decode c_Md_fail 24 = .ok (.goto 4, 3) := by decide +kernel
theorem d_Md_fail_27 : decode c_Md_fail 27 = .ok (.iconst 0, 1) := by decide +kernel
theorem d_Md_fail_28 : decode c_Md_fail 28 = .ok (.istore 5, 2) := by decide +kernel
theorem d_Md_fail_30 : decode c_Md_fail 30 = .ok (.aload_n 0, 1) := by decide +kernel
theorem d_Md_fail_31 : decode c_Md_fail 31 = .ok (.getfield 23, 3) := by decide +kernel
theorem d_Md_fail_34 : decode c_Md_fail 34 = .ok (.iload_n 1, 1) := by decide +kernel
theorem d_Md_fail_35 : decode c_Md_fail 35 = .ok (.iconst 0, 1) := by decide +kernel
theorem d_Md_fail_36 : decode c_Md_fail 36 = .ok (.iastore, 1) := by decide +kernel
theorem d_Md_fail_37 : decode c_Md_fail 37 = .ok (.aload_n 0, 1) := by decide +kernel
theorem d_Md_fail_38 : decode c_Md_fail 38 = .ok (.getfield 26, 3) := by decide +kernel
theorem d_Md_fail_41 : decode c_Md_fail 41 = .ok (.iload_n 1, 1) := by decide +kernel
theorem d_Md_fail_42 : decode c_Md_fail 42 = .ok (.aload_n 0, 1) := by decide +kernel
theorem d_Md_fail_43 : decode c_Md_fail 43 = .ok (.getfield 256, 3) := by decide +kernel
theorem d_Md_fail_46 : decode c_Md_fail 46 = .ok (.bipush 12, 2) := by decide +kernel
theorem d_Md_fail_48 : decode c_Md_fail 48 = .ok (.iadd, 1) := by decide +kernel
theorem d_Md_fail_49 : decode c_Md_fail 49 = .ok (.iastore, 1) := by decide +kernel
theorem d_Md_fail_50 : decode c_Md_fail 50 = .ok (.aload_n 0, 1) := by decide +kernel
theorem d_Md_fail_51 : decode c_Md_fail 51 = .ok (.getfield 53, 3) := by decide +kernel
theorem d_Md_fail_54 : decode c_Md_fail 54 = .ok (.iload_n 1, 1) := by decide +kernel
theorem d_Md_fail_55 : decode c_Md_fail 55 = .ok (.iconst 0, 1) := by decide +kernel
theorem d_Md_fail_56 : decode c_Md_fail 56 = .ok (.iastore, 1) := by decide +kernel
theorem d_Md_fail_57 : decode c_Md_fail 57 = .ok (.aload_n 0, 1) := by decide +kernel
theorem d_Md_fail_58 : decode c_Md_fail 58 = .ok (.getfield 56, 3) := by decide +kernel
theorem d_Md_fail_61 : decode c_Md_fail 61 = .ok (.iload_n 1, 1) := by decide +kernel
theorem d_Md_fail_62 : decode c_Md_fail 62 = .ok (.iconst (-1), 1) := by decide +kernel
theorem d_Md_fail_63 : decode c_Md_fail 63 = .ok (.iastore, 1) := by decide +kernel
theorem d_Md_fail_64 : decode c_Md_fail 64 = .ok (.iload 5, 2) := by decide +kernel
theorem d_Md_fail_66 : decode c_Md_fail 66 = .ok (.ifCond .eq 130, 3) := by decide +kernel
theorem d_Md_fail_69 : decode c_Md_fail 69 = .ok (.aload_n 0, 1) := by decide +kernel
theorem d_Md_fail_70 : decode c_Md_fail 70 = .ok (.getfield 114, 3) := by decide +kernel
theorem d_Md_fail_73 : decode c_Md_fail 73 = .ok (.iload_n 1, 1) := by decide +kernel
theorem d_Md_fail_74 : decode c_Md_fail 74 = .ok (.aload_n 0, 1) := by decide +kernel
theorem d_Md_fail_75 : decode c_Md_fail 75 = .ok (.getfield 256, 3) := by decide +kernel
theorem d_Md_fail_78 : decode c_Md_fail 78 = .ok (.bipush 10, 2) := by decide +kernel
theorem d_Md_fail_80 : decode c_Md_fail 80 = .ok (.iadd, 1) := by decide +kernel
theorem d_Md_fail_81 : decode c_Md_fail 81 = .ok (.iastore, 1) := by decide +kernel
theorem d_Md_fail_82 : decode c_Md_fail 82 = .ok (.iconst 0, 1) := by decide +kernel
theorem d_Md_fail_83 : decode c_Md_fail 83 = .ok (.istore 6, 2) := by decide +kernel
theorem d_Md_fail_85 : decode c_Md_fail 85 = .ok (.iload 6, 2) := by decide +kernel
theorem d_Md_fail_87 : decode c_Md_fail 87 = .ok (.iconst 4, 1) := by decide +kernel
theorem d_Md_fail_88 : decode c_Md_fail 88 = .ok (.if_icmp .ge 70, 3) := by decide +kernel
theorem d_Md_fail_91 : decode c_Md_fail 91 = .ok (.aload_n 0, 1) := by decide +kernel
theorem d_Md_fail_92 : decode c_Md_fail 92 = .ok (.iload_n 3, 1) := by decide +kernel
theorem d_Md_fail_93 : decode c_Md_fail 93 = .ok (.iload 4, 2) := by decide +kernel
theorem d_Md_fail_95 : decode c_Md_fail 95 = .ok (.iload 6, 2) := by decide +kernel
theorem d_Md_fail_97 : decode c_Md_fail 97 = .ok (.invokevirtual 212, 3) := by decide +kernel
theorem d_Md_fail_100 : decode c_Md_fail 100 = .ok (.istore 7, 2) := by decide +kernel
theorem d_Md_fail_102 : decode c_Md_fail 102 = .ok (.aload_n 0, 1) := by decide +kernel
theorem d_Md_fail_103 : decode c_Md_fail 103 = .ok (.getfield 117, 3) := by decide +kernel
theorem d_Md_fail_106 : decode c_Md_fail 106 = .ok (.iload 7, 2) := by decide +kernel
theorem d_Md_fail_108 : decode c_Md_fail 108 = .ok (.iaload, 1) := by decide +kernel
theorem d_Md_fail_109 : decode c_Md_fail 109 = .ok (.iload_n 1, 1) := by decide +kernel
theorem d_Md_fail_110 : decode c_Md_fail 110 = .ok (.iconst 1, 1) := by decide +kernel
theorem d_Md_fail_111 : decode c_Md_fail 111 = .ok (.ishr, 1) := by decide +kernel
theorem d_Md_fail_112 : decode c_Md_fail 112 = .ok (.if_icmp .eq 6, 3) := by decide +kernel
theorem d_Md_fail_115 : decode c_Md_fail 115 = .ok (.goto 37, 3) := by decide +kernel
theorem d_Md_fail_118 : decode c_Md_fail 118 = .ok (.aload_n 0, 1) := by decide +kernel
theorem d_Md_fail_119 : decode c_Md_fail 119 = .ok (.getfield 117, 3) := by decide +kernel
theorem d_Md_fail_122 : decode c_Md_fail 122 = .ok (.iload 7, 2) := by decide +kernel
theorem d_Md_fail_124 : decode c_Md_fail 124 = .ok (.iconst (-1), 1) := by decide +kernel
theorem d_Md_fail_125 : decode c_Md_fail 125 = .ok (.iastore, 1) := by decide +kernel
theorem d_Md_fail_126 : decode c_Md_fail 126 = .ok (.aload_n 0, 1) := by decide +kernel
theorem d_Md_fail_127 : decode c_Md_fail 127 = .ok (.getfield 120, 3) := by decide +kernel
theorem d_Md_fail_130 : decode c_Md_fail 130 = .ok (.iload 7, 2) := by decide +kernel
theorem d_Md_fail_132 : decode c_Md_fail 132 = .ok (.iconst 1, 1) := by decide +kernel
theorem d_Md_fail_133 : decode c_Md_fail 133 = .ok (.iastore, 1) := by decide +kernel
theorem d_Md_fail_134 : decode c_Md_fail 134 = .ok (.aload_n 0, 1) := by decide +kernel
theorem d_Md_fail_135 : decode c_Md_fail 135 = .ok (.getfield 123, 3) := by decide +kernel
theorem d_Md_fail_138 : decode c_Md_fail 138 = .ok (.iload 7, 2) := by decide +kernel
theorem d_Md_fail_140 : decode c_Md_fail 140 = .ok (.iload_n 1, 1) := by decide +kernel
theorem d_Md_fail_141 : decode c_Md_fail 141 = .ok (.iconst 1, 1) := by decide +kernel
theorem d_Md_fail_142 : decode c_Md_fail 142 = .ok (.ishr, 1) := by decide +kernel
theorem d_Md_fail_143 : decode c_Md_fail 143 = .ok (.iastore, 1) := by decide +kernel
theorem d_Md_fail_144 : decode c_Md_fail 144 = .ok (.aload_n 0, 1) := by decide +kernel
theorem d_Md_fail_145 : decode c_Md_fail 145 = .ok (.getfield 126, 3) := by decide +kernel
theorem d_Md_fail_148 : decode c_Md_fail 148 = .ok (.iload 7, 2) := by decide +kernel
theorem d_Md_fail_150 : decode c_Md_fail 150 = .ok (.iconst 0, 1) := by decide +kernel
theorem d_Md_fail_151 : decode c_Md_fail 151 = .ok (.iastore, 1) := by decide +kernel
theorem d_Md_fail_152 : decode c_Md_fail 152 = .ok (.iinc 6 1, 3) := by decide +kernel
theorem d_Md_fail_155 : decode c_Md_fail 155 = .ok (.goto (-70), 3) := by decide +kernel
theorem d_Md_fail_158 : decode c_Md_fail 158 = .ok (.iload_n 2, 1) := by decide +kernel
theorem d_Md_fail_159 : decode c_Md_fail 159 = .ok (.ifCond .ne 37, 3) := by decide +kernel
theorem d_Md_fail_162 : decode c_Md_fail 162 = .ok (.aload_n 0, 1) := by decide +kernel
theorem d_Md_fail_163 : decode c_Md_fail 163 = .ok (.iload_n 3, 1) := by decide +kernel
theorem d_Md_fail_164 : decode c_Md_fail 164 = .ok (.iload 4, 2) := by decide +kernel
theorem d_Md_fail_166 : decode c_Md_fail 166 = .ok (.iconst 1, 1) := by decide +kernel
theorem d_Md_fail_167 : decode c_Md_fail 167 = .ok (.iload_n 3, 1) := by decide +kernel
theorem d_Md_fail_168 : decode c_Md_fail 168 = .ok (.iload 4, 2) := by decide +kernel
theorem d_Md_fail_170 : decode c_Md_fail 170 = .ok (.iconst 0, 1) := by decide +kernel
theorem d_Md_fail_171 : decode c_Md_fail 171 = .ok (.iload_n 1, 1) := by decide +kernel
theorem d_Md_fail_172 : decode c_Md_fail 172 = .ok (.iconst 1, 1) := by decide +kernel
theorem d_Md_fail_173 : decode c_Md_fail 173 = .ok (.ishr, 1) := by decide +kernel
theorem d_Md_fail_174 : decode c_Md_fail 174 = .ok (.bipush 16, 2) := by decide +kernel
theorem d_Md_fail_176 : decode c_Md_fail 176 = .ok (.aload_n 0, 1) := by decide +kernel
theorem d_Md_fail_177 : decode c_Md_fail 177 = .ok (.getfield 105, 3) := by decide +kernel
theorem d_Md_fail_180 : decode c_Md_fail 180 = .ok (.iload_n 1, 1) := by decide +kernel
theorem d_Md_fail_181 : decode c_Md_fail 181 = .ok (.iaload, 1) := by decide +kernel
theorem d_Md_fail_182 : decode c_Md_fail 182 = .ok (.imul, 1) := by decide +kernel
theorem d_Md_fail_183 : decode c_Md_fail 183 = .ok (.iadd, 1) := by decide +kernel
theorem d_Md_fail_184 : decode c_Md_fail 184 = .ok (.aload_n 0, 1) := by decide +kernel
theorem d_Md_fail_185 : decode c_Md_fail 185 = .ok (.getfield 32, 3) := by decide +kernel
theorem d_Md_fail_188 : decode c_Md_fail 188 = .ok (.iload_n 1, 1) := by decide +kernel
theorem d_Md_fail_189 : decode c_Md_fail 189 = .ok (.iaload, 1) := by decide +kernel
theorem d_Md_fail_190 : decode c_Md_fail 190 = .ok (.invokestatic 248, 3) := by decide +kernel
theorem d_Md_fail_193 : decode c_Md_fail 193 = .ok (.invokevirtual 262, 3) := by decide +kernel
theorem d_Md_fail_196 : decode c_Md_fail 196 = .ok (.aload_n 0, 1) := by decide +kernel
theorem d_Md_fail_197 : decode c_Md_fail 197 = .ok (.iload_n 3, 1) := by decide +kernel
theorem d_Md_fail_198 : decode c_Md_fail 198 = .ok (.invokevirtual 266, 3) := by decide +kernel
theorem d_Md_fail_201 : decode c_Md_fail 201 = .ok (.return_, 1) := by decide +kernel
def f_Md_fail_196 (a : Nat) (x3 : Int32) : sn_M := n_n 12 (some a) fun a1 => c_V (f_Md_look a1 x3) (r_V)
set_option maxHeartbeats 4000000 in
set_option maxRecDepth 100000 in
theorem mono_Md_fail_196 (a : Nat) (x3 : Int32) : sn_Mono (f_Md_fail_196 a x3) := sn_Mono.nn (fun a1 => sn_Mono.cV (mono_Md_look a1 x3) (sn_Mono.rV))
set_option maxHeartbeats 4000000 in
set_option maxRecDepth 100000 in
theorem s_Md_fail_196 {X : sn_X} (C : sn_Cx X c_Md_fail "SignalNetworkModel" none "fail" 8 5 121) (a : Nat) (x3 : Int32) : sn_S X 196 [(0, vA (some a)), (3, vI x3)] [] (f_Md_fail_196 a x3) := by
  unfold f_Md_fail_196
  refine r_aload_n (q := 197) (i := 0) (pl := 0) C d_Md_fail_196 rfl rfl rfl ?_
  refine r_iload_n (q := 198) (i := 3) (pl := 1) C d_Md_fail_197 rfl rfl rfl ?_
  refine r_cvV (q := 201) (As := [vI x3]) (st := []) (cy := 11) C d_Md_fail_198 rfl Y_Md_look L_Md_266 I_Md_look Se_Md_look rfl (by decide) rfl (Nat.le_of_ble_eq_true rfl) (Nat.le_of_ble_eq_true rfl) (Nat.le_of_ble_eq_true rfl) rfl (fun a1 => con_Md_look a1 x3) ?_
  exact r_vret C d_Md_fail_201 rfl
def f_Md_fail_152 (k85 : Int32 → Int32 → Int32 → Int32 → Int32 → sn_M) (a : Nat) (x1 : Int32) (x2 : Int32) (x3 : Int32) (x4 : Int32) (x6 : Int32) : sn_M := k85 x1 x2 x3 x4 (x6 + (1 : Int32))
set_option maxHeartbeats 4000000 in
set_option maxRecDepth 100000 in
theorem mono_Md_fail_152 (k85 : Int32 → Int32 → Int32 → Int32 → Int32 → sn_M) (mk85 : ∀ (x1 : Int32) (x2 : Int32) (x3 : Int32) (x4 : Int32) (x6 : Int32), sn_Mono (k85 x1 x2 x3 x4 x6)) (a : Nat) (x1 : Int32) (x2 : Int32) (x3 : Int32) (x4 : Int32) (x6 : Int32) : sn_Mono (f_Md_fail_152 k85 a x1 x2 x3 x4 x6) := mk85 x1 x2 x3 x4 (x6 + (1 : Int32))
set_option maxHeartbeats 4000000 in
set_option maxRecDepth 100000 in
theorem s_Md_fail_152 {X : sn_X} (C : sn_Cx X c_Md_fail "SignalNetworkModel" none "fail" 8 5 121) (a : Nat) (k85 : Int32 → Int32 → Int32 → Int32 → Int32 → sn_M) (hk85 : ∀ (x1 : Int32) (x2 : Int32) (x3 : Int32) (x4 : Int32) (x6 : Int32), sn_S X 85 [(0, vA (some a)), (1, vI x1), (2, vI x2), (3, vI x3), (4, vI x4), (6, vI x6)] [] (k85 x1 x2 x3 x4 x6)) (x1 : Int32) (x2 : Int32) (x3 : Int32) (x4 : Int32) (x6 : Int32) : sn_S X 152 [(0, vA (some a)), (1, vI x1), (2, vI x2), (3, vI x3), (4, vI x4), (6, vI x6)] [] (f_Md_fail_152 k85 a x1 x2 x3 x4 x6) := by
  unfold f_Md_fail_152
  refine r_iinc (q := 155) (pl := 5) (v := x6 + (1 : Int32)) (lv' := [(6, vI (x6 + (1 : Int32))), (0, vA (some a)), (1, vI x1), (2, vI x2), (3, vI x3), (4, vI x4)]) C d_Md_fail_152 rfl rfl rfl (by decide) rfl ?_
  refine r_goto (tgt := 85) C d_Md_fail_155 (by decide) ?_
  refine r_sub (lv' := [(0, vA (some a)), (1, vI x1), (2, vI x2), (3, vI x3), (4, vI x4), (6, vI (x6 + (1 : Int32)))]) [1, 2, 3, 4, 5, 0] rfl ?_
  exact hk85 x1 x2 x3 x4 (x6 + (1 : Int32))
def f_Md_fail_85 (a : Nat) : Nat → Int32 → Int32 → Int32 → Int32 → Int32 → sn_M
  | 0, _, _, _, _, _ => r_0
  | n + 1, x1, x2, x3, x4, x6 => (if (4 : Int32) ≤ x6 then (if ¬ x2 = 0 then f_Md_fail_196 a x3 else g_R 12 37 (some a) fun v3 => a_I 31 v3 x1 fun v4 => g_R 12 13 (some a) fun v5 => a_I 31 v5 x1 fun v6 => c_J (f_Md_message (1 : Int32) x3 x4 (0 : Int32) ((x1 >>> ((1 : Int32) &&& 31)) + ((16 : Int32) * v4)) v6) fun v7 => n_n 12 (some a) fun a8 => c_V (f_Md_otherWay a8 x3 x4 v7) (f_Md_fail_196 a x3)) else n_n 12 (some a) fun a10 => c_I (f_Md_flowAt a10 x3 x4 x6) fun v11 => g_R 12 41 (some a) fun v12 => a_I 31 v12 v11 fun v13 => (if v13 = (x1 >>> ((1 : Int32) &&& 31)) then g_R 12 41 (some a) fun v14 => b_I 31 v14 v11 (-1 : Int32) (g_R 12 42 (some a) fun v15 => b_I 31 v15 v11 (1 : Int32) (g_R 12 43 (some a) fun v16 => b_I 31 v16 v11 (x1 >>> ((1 : Int32) &&& 31)) (g_R 12 44 (some a) fun v17 => b_I 31 v17 v11 (0 : Int32) (f_Md_fail_152 (f_Md_fail_85 a n) a x1 x2 x3 x4 x6)))) else f_Md_fail_152 (f_Md_fail_85 a n) a x1 x2 x3 x4 x6))
set_option maxHeartbeats 4000000 in
set_option maxRecDepth 100000 in
theorem mono_Md_fail_85 (a : Nat) : ∀ (n : Nat) (x1 : Int32) (x2 : Int32) (x3 : Int32) (x4 : Int32) (x6 : Int32), sn_Mono (f_Md_fail_85 a n x1 x2 x3 x4 x6)
  | 0, _, _, _, _, _ => sn_Mono.r0
  | n + 1, x1, x2, x3, x4, x6 => sn_Mono.ite (sn_Mono.ite (mono_Md_fail_196 a x3) (sn_Mono.gR (fun v3 => sn_Mono.aI (fun v4 => sn_Mono.gR (fun v5 => sn_Mono.aI (fun v6 => sn_Mono.cJ (mono_Md_message (1 : Int32) x3 x4 (0 : Int32) ((x1 >>> ((1 : Int32) &&& 31)) + ((16 : Int32) * v4)) v6) (fun v7 => sn_Mono.nn (fun a8 => sn_Mono.cV (mono_Md_otherWay a8 x3 x4 v7) (mono_Md_fail_196 a x3))))))))) (sn_Mono.nn (fun a10 => sn_Mono.cI (mono_Md_flowAt a10 x3 x4 x6) (fun v11 => sn_Mono.gR (fun v12 => sn_Mono.aI (fun v13 => sn_Mono.ite (sn_Mono.gR (fun v14 => sn_Mono.bI (sn_Mono.gR (fun v15 => sn_Mono.bI (sn_Mono.gR (fun v16 => sn_Mono.bI (sn_Mono.gR (fun v17 => sn_Mono.bI (mono_Md_fail_152 (f_Md_fail_85 a n) (mono_Md_fail_85 a n) a x1 x2 x3 x4 x6))))))))) (mono_Md_fail_152 (f_Md_fail_85 a n) (mono_Md_fail_85 a n) a x1 x2 x3 x4 x6))))))
set_option maxHeartbeats 4000000 in
set_option maxRecDepth 100000 in
theorem s_Md_fail_85 {X : sn_X} (C : sn_Cx X c_Md_fail "SignalNetworkModel" none "fail" 8 5 121) (a : Nat) (n : Nat) : ∀ (x1 : Int32) (x2 : Int32) (x3 : Int32) (x4 : Int32) (x6 : Int32), sn_S X 85 [(0, vA (some a)), (1, vI x1), (2, vI x2), (3, vI x3), (4, vI x4), (6, vI x6)] [] (f_Md_fail_85 a n x1 x2 x3 x4 x6) := by
  induction n with
  | zero => intro x1 x2 x3 x4 x6; exact sn_S.zero
  | succ n ih =>
    intro x1 x2 x3 x4 x6
    unfold f_Md_fail_85
    refine r_iload (q := 87) (i := 6) (pl := 5) C d_Md_fail_85 rfl rfl ?_
    refine r_iconst (q := 88) (v := 4) C d_Md_fail_87 rfl (by decide) ?_
    refine r_icmp_ge (tgt := 158) (q := 91) C d_Md_fail_88 (by decide) rfl ?_ ?_
    · refine r_iload_n (q := 159) (i := 2) (pl := 2) C d_Md_fail_158 rfl rfl rfl ?_
      refine r_if_ne (tgt := 196) (q := 162) C d_Md_fail_159 (by decide) rfl ?_ ?_
      · refine r_sub (lv' := [(0, vA (some a)), (3, vI x3)]) [0, 3] rfl ?_
        exact s_Md_fail_196 C a x3
      · refine r_aload_n (q := 163) (i := 0) (pl := 0) C d_Md_fail_162 rfl rfl rfl ?_
        refine r_iload_n (q := 164) (i := 3) (pl := 3) C d_Md_fail_163 rfl rfl rfl ?_
        refine r_iload (q := 166) (i := 4) (pl := 4) C d_Md_fail_164 rfl rfl ?_
        refine r_iconst (q := 167) (v := 1) C d_Md_fail_166 rfl (by decide) ?_
        refine r_iload_n (q := 168) (i := 3) (pl := 3) C d_Md_fail_167 rfl rfl rfl ?_
        refine r_iload (q := 170) (i := 4) (pl := 4) C d_Md_fail_168 rfl rfl ?_
        refine r_iconst (q := 171) (v := 0) C d_Md_fail_170 rfl (by decide) ?_
        refine r_iload_n (q := 172) (i := 1) (pl := 1) C d_Md_fail_171 rfl rfl rfl ?_
        refine r_iconst (q := 173) (v := 1) C d_Md_fail_172 rfl (by decide) ?_
        refine r_ishr (q := 174) C d_Md_fail_173 rfl ?_
        refine r_bipush (q := 176) (v := 16) C d_Md_fail_174 rfl (by decide) ?_
        refine r_aload_n (q := 177) (i := 0) (pl := 0) C d_Md_fail_176 rfl rfl rfl ?_
        refine r_gR (q := 180) C d_Md_fail_177 rfl F_Md_105 rfl (fun v3 => ?_)
        refine r_iload_n (q := 181) (i := 1) (pl := 1) C d_Md_fail_180 rfl rfl rfl ?_
        refine r_aI (q := 182) C (Or.inr rfl) d_Md_fail_181 rfl (fun v4 => ?_)
        refine r_imul (q := 183) C d_Md_fail_182 rfl ?_
        refine r_iadd (q := 184) C d_Md_fail_183 rfl ?_
        refine r_aload_n (q := 185) (i := 0) (pl := 0) C d_Md_fail_184 rfl rfl rfl ?_
        refine r_gR (q := 188) C d_Md_fail_185 rfl F_Md_32 rfl (fun v5 => ?_)
        refine r_iload_n (q := 189) (i := 1) (pl := 1) C d_Md_fail_188 rfl rfl rfl ?_
        refine r_aI (q := 190) C (Or.inr rfl) d_Md_fail_189 rfl (fun v6 => ?_)
        refine r_csJ (q := 193) (As := [vI (1 : Int32), vI x3, vI x4, vI (0 : Int32), vI ((x1 >>> ((1 : Int32) &&& 31)) + ((16 : Int32) * v4)), vI v6]) (st := [vI x4, vI x3, vA (some a)]) C d_Md_fail_190 rfl Y_Md_message L_Md_248 St_Md_message rfl (Nat.le_of_ble_eq_true rfl) (Nat.le_of_ble_eq_true rfl) (Nat.le_of_ble_eq_true rfl) rfl (con_Md_message (1 : Int32) x3 x4 (0 : Int32) ((x1 >>> ((1 : Int32) &&& 31)) + ((16 : Int32) * v4)) v6) (fun v7 => ?_)
        refine r_cvV (q := 196) (As := [vI x3, vI x4, vJ v7]) (st := []) (cy := 11) C d_Md_fail_193 rfl Y_Md_otherWay L_Md_262 I_Md_otherWay Se_Md_otherWay rfl (by decide) rfl (Nat.le_of_ble_eq_true rfl) (Nat.le_of_ble_eq_true rfl) (Nat.le_of_ble_eq_true rfl) rfl (fun a8 => con_Md_otherWay a8 x3 x4 v7) ?_
        refine r_sub (lv' := [(0, vA (some a)), (3, vI x3)]) [0, 3] rfl ?_
        exact s_Md_fail_196 C a x3
    · refine r_aload_n (q := 92) (i := 0) (pl := 0) C d_Md_fail_91 rfl rfl rfl ?_
      refine r_iload_n (q := 93) (i := 3) (pl := 3) C d_Md_fail_92 rfl rfl rfl ?_
      refine r_iload (q := 95) (i := 4) (pl := 4) C d_Md_fail_93 rfl rfl ?_
      refine r_iload (q := 97) (i := 6) (pl := 5) C d_Md_fail_95 rfl rfl ?_
      refine r_cvI (q := 100) (As := [vI x3, vI x4, vI x6]) (st := []) (cy := 11) C d_Md_fail_97 rfl Y_Md_flowAt L_Md_212 I_Md_flowAt Se_Md_flowAt rfl (by decide) rfl (Nat.le_of_ble_eq_true rfl) (Nat.le_of_ble_eq_true rfl) (Nat.le_of_ble_eq_true rfl) rfl (fun a10 => con_Md_flowAt a10 x3 x4 x6) (fun v11 => ?_)
      refine r_istore (q := 102) (i := 7) (lv' := [(7, vI v11), (0, vA (some a)), (1, vI x1), (2, vI x2), (3, vI x3), (4, vI x4), (6, vI x6)]) C d_Md_fail_100 rfl (by decide) rfl ?_
      refine r_aload_n (q := 103) (i := 0) (pl := 1) C d_Md_fail_102 rfl rfl rfl ?_
      refine r_gR (q := 106) C d_Md_fail_103 rfl F_Md_117 rfl (fun v12 => ?_)
      refine r_iload (q := 108) (i := 7) (pl := 0) C d_Md_fail_106 rfl rfl ?_
      refine r_aI (q := 109) C (Or.inr rfl) d_Md_fail_108 rfl (fun v13 => ?_)
      refine r_iload_n (q := 110) (i := 1) (pl := 2) C d_Md_fail_109 rfl rfl rfl ?_
      refine r_iconst (q := 111) (v := 1) C d_Md_fail_110 rfl (by decide) ?_
      refine r_ishr (q := 112) C d_Md_fail_111 rfl ?_
      refine r_icmp_eq (tgt := 118) (q := 115) C d_Md_fail_112 (by decide) rfl ?_ ?_
      · refine r_aload_n (q := 119) (i := 0) (pl := 1) C d_Md_fail_118 rfl rfl rfl ?_
        refine r_gR (q := 122) C d_Md_fail_119 rfl F_Md_117 rfl (fun v14 => ?_)
        refine r_iload (q := 124) (i := 7) (pl := 0) C d_Md_fail_122 rfl rfl ?_
        refine r_iconst (q := 125) (v := -1) C d_Md_fail_124 rfl (by decide) ?_
        refine r_bI (q := 126) C (Or.inr rfl) d_Md_fail_125 rfl ?_
        refine r_aload_n (q := 127) (i := 0) (pl := 1) C d_Md_fail_126 rfl rfl rfl ?_
        refine r_gR (q := 130) C d_Md_fail_127 rfl F_Md_120 rfl (fun v15 => ?_)
        refine r_iload (q := 132) (i := 7) (pl := 0) C d_Md_fail_130 rfl rfl ?_
        refine r_iconst (q := 133) (v := 1) C d_Md_fail_132 rfl (by decide) ?_
        refine r_bI (q := 134) C (Or.inr rfl) d_Md_fail_133 rfl ?_
        refine r_aload_n (q := 135) (i := 0) (pl := 1) C d_Md_fail_134 rfl rfl rfl ?_
        refine r_gR (q := 138) C d_Md_fail_135 rfl F_Md_123 rfl (fun v16 => ?_)
        refine r_iload (q := 140) (i := 7) (pl := 0) C d_Md_fail_138 rfl rfl ?_
        refine r_iload_n (q := 141) (i := 1) (pl := 2) C d_Md_fail_140 rfl rfl rfl ?_
        refine r_iconst (q := 142) (v := 1) C d_Md_fail_141 rfl (by decide) ?_
        refine r_ishr (q := 143) C d_Md_fail_142 rfl ?_
        refine r_bI (q := 144) C (Or.inr rfl) d_Md_fail_143 rfl ?_
        refine r_aload_n (q := 145) (i := 0) (pl := 1) C d_Md_fail_144 rfl rfl rfl ?_
        refine r_gR (q := 148) C d_Md_fail_145 rfl F_Md_126 rfl (fun v17 => ?_)
        refine r_iload (q := 150) (i := 7) (pl := 0) C d_Md_fail_148 rfl rfl ?_
        refine r_iconst (q := 151) (v := 0) C d_Md_fail_150 rfl (by decide) ?_
        refine r_bI (q := 152) C (Or.inr rfl) d_Md_fail_151 rfl ?_
        refine r_sub (lv' := [(0, vA (some a)), (1, vI x1), (2, vI x2), (3, vI x3), (4, vI x4), (6, vI x6)]) [1, 2, 3, 4, 5, 6] rfl ?_
        exact s_Md_fail_152 C a (f_Md_fail_85 a n) ih x1 x2 x3 x4 x6
      · refine r_goto (tgt := 152) C d_Md_fail_115 (by decide) ?_
        refine r_sub (lv' := [(0, vA (some a)), (1, vI x1), (2, vI x2), (3, vI x3), (4, vI x4), (6, vI x6)]) [1, 2, 3, 4, 5, 6] rfl ?_
        exact s_Md_fail_152 C a (f_Md_fail_85 a n) ih x1 x2 x3 x4 x6
def f_Md_fail_28 (a : Nat) (x1 : Int32) (x2 : Int32) (x3 : Int32) (x4 : Int32) (t0 : Int32) : sn_M := g_R 12 10 (some a) fun v18 => b_I 31 v18 x1 (0 : Int32) (g_R 12 11 (some a) fun v19 => g_I 12 6 (some a) fun v20 => b_I 31 v19 x1 (v20 + (12 : Int32)) (g_R 12 20 (some a) fun v21 => b_I 31 v21 x1 (0 : Int32) (g_R 12 21 (some a) fun v22 => b_I 31 v22 x1 (-1 : Int32) ((if t0 = 0 then f_Md_fail_196 a x3 else g_R 12 40 (some a) fun v23 => g_I 12 6 (some a) fun v24 => b_I 31 v23 x1 (v24 + (10 : Int32)) (f_Md_fail_85 a sn_fuel x1 x2 x3 x4 (0 : Int32)))))))
set_option maxHeartbeats 4000000 in
set_option maxRecDepth 100000 in
theorem mono_Md_fail_28 (a : Nat) (x1 : Int32) (x2 : Int32) (x3 : Int32) (x4 : Int32) (t0 : Int32) : sn_Mono (f_Md_fail_28 a x1 x2 x3 x4 t0) := sn_Mono.gR (fun v18 => sn_Mono.bI (sn_Mono.gR (fun v19 => sn_Mono.gI (fun v20 => sn_Mono.bI (sn_Mono.gR (fun v21 => sn_Mono.bI (sn_Mono.gR (fun v22 => sn_Mono.bI (sn_Mono.ite (mono_Md_fail_196 a x3) (sn_Mono.gR (fun v23 => sn_Mono.gI (fun v24 => sn_Mono.bI (mono_Md_fail_85 a sn_fuel x1 x2 x3 x4 (0 : Int32))))))))))))))
set_option maxHeartbeats 4000000 in
set_option maxRecDepth 100000 in
theorem s_Md_fail_28 {X : sn_X} (C : sn_Cx X c_Md_fail "SignalNetworkModel" none "fail" 8 5 121) (a : Nat) (x1 : Int32) (x2 : Int32) (x3 : Int32) (x4 : Int32) (t0 : Int32) : sn_S X 28 [(0, vA (some a)), (1, vI x1), (2, vI x2), (3, vI x3), (4, vI x4)] [vI t0] (f_Md_fail_28 a x1 x2 x3 x4 t0) := by
  unfold f_Md_fail_28
  refine r_istore (q := 30) (i := 5) (lv' := [(5, vI t0), (0, vA (some a)), (1, vI x1), (2, vI x2), (3, vI x3), (4, vI x4)]) C d_Md_fail_28 rfl (by decide) rfl ?_
  refine r_aload_n (q := 31) (i := 0) (pl := 1) C d_Md_fail_30 rfl rfl rfl ?_
  refine r_gR (q := 34) C d_Md_fail_31 rfl F_Md_23 rfl (fun v18 => ?_)
  refine r_iload_n (q := 35) (i := 1) (pl := 2) C d_Md_fail_34 rfl rfl rfl ?_
  refine r_iconst (q := 36) (v := 0) C d_Md_fail_35 rfl (by decide) ?_
  refine r_bI (q := 37) C (Or.inr rfl) d_Md_fail_36 rfl ?_
  refine r_aload_n (q := 38) (i := 0) (pl := 1) C d_Md_fail_37 rfl rfl rfl ?_
  refine r_gR (q := 41) C d_Md_fail_38 rfl F_Md_26 rfl (fun v19 => ?_)
  refine r_iload_n (q := 42) (i := 1) (pl := 2) C d_Md_fail_41 rfl rfl rfl ?_
  refine r_aload_n (q := 43) (i := 0) (pl := 1) C d_Md_fail_42 rfl rfl rfl ?_
  refine r_gI (q := 46) C d_Md_fail_43 rfl F_Md_256 rfl (fun v20 => ?_)
  refine r_bipush (q := 48) (v := 12) C d_Md_fail_46 rfl (by decide) ?_
  refine r_iadd (q := 49) C d_Md_fail_48 rfl ?_
  refine r_bI (q := 50) C (Or.inr rfl) d_Md_fail_49 rfl ?_
  refine r_aload_n (q := 51) (i := 0) (pl := 1) C d_Md_fail_50 rfl rfl rfl ?_
  refine r_gR (q := 54) C d_Md_fail_51 rfl F_Md_53 rfl (fun v21 => ?_)
  refine r_iload_n (q := 55) (i := 1) (pl := 2) C d_Md_fail_54 rfl rfl rfl ?_
  refine r_iconst (q := 56) (v := 0) C d_Md_fail_55 rfl (by decide) ?_
  refine r_bI (q := 57) C (Or.inr rfl) d_Md_fail_56 rfl ?_
  refine r_aload_n (q := 58) (i := 0) (pl := 1) C d_Md_fail_57 rfl rfl rfl ?_
  refine r_gR (q := 61) C d_Md_fail_58 rfl F_Md_56 rfl (fun v22 => ?_)
  refine r_iload_n (q := 62) (i := 1) (pl := 2) C d_Md_fail_61 rfl rfl rfl ?_
  refine r_iconst (q := 63) (v := -1) C d_Md_fail_62 rfl (by decide) ?_
  refine r_bI (q := 64) C (Or.inr rfl) d_Md_fail_63 rfl ?_
  refine r_iload (q := 66) (i := 5) (pl := 0) C d_Md_fail_64 rfl rfl ?_
  refine r_if_eq (tgt := 196) (q := 69) C d_Md_fail_66 (by decide) rfl ?_ ?_
  · refine r_sub (lv' := [(0, vA (some a)), (3, vI x3)]) [1, 4] rfl ?_
    exact s_Md_fail_196 C a x3
  · refine r_aload_n (q := 70) (i := 0) (pl := 1) C d_Md_fail_69 rfl rfl rfl ?_
    refine r_gR (q := 73) C d_Md_fail_70 rfl F_Md_114 rfl (fun v23 => ?_)
    refine r_iload_n (q := 74) (i := 1) (pl := 2) C d_Md_fail_73 rfl rfl rfl ?_
    refine r_aload_n (q := 75) (i := 0) (pl := 1) C d_Md_fail_74 rfl rfl rfl ?_
    refine r_gI (q := 78) C d_Md_fail_75 rfl F_Md_256 rfl (fun v24 => ?_)
    refine r_bipush (q := 80) (v := 10) C d_Md_fail_78 rfl (by decide) ?_
    refine r_iadd (q := 81) C d_Md_fail_80 rfl ?_
    refine r_bI (q := 82) C (Or.inr rfl) d_Md_fail_81 rfl ?_
    refine r_iconst (q := 83) (v := 0) C d_Md_fail_82 rfl (by decide) ?_
    refine r_istore (q := 85) (i := 6) (lv' := [(6, vI (0 : Int32)), (5, vI t0), (0, vA (some a)), (1, vI x1), (2, vI x2), (3, vI x3), (4, vI x4)]) C d_Md_fail_83 rfl (by decide) rfl ?_
    refine r_sub (lv' := [(0, vA (some a)), (1, vI x1), (2, vI x2), (3, vI x3), (4, vI x4), (6, vI (0 : Int32))]) [2, 3, 4, 5, 6, 0] rfl ?_
    exact s_Md_fail_85 C a sn_fuel x1 x2 x3 x4 (0 : Int32)
def f_Md_fail (a : Nat) (x1 : Int32) (x2 : Int32) : sn_M := n_n 12 (some a) fun a25 => c_I (f_Md_exchangeOf a25 x1) fun v26 => n_n 12 (some a) fun a27 => c_I (f_Md_otherOf a27 x1) fun v28 => g_R 12 10 (some a) fun v29 => a_I 31 v29 x1 fun v30 => (if ¬ v30 = (5 : Int32) then f_Md_fail_28 a x1 x2 v26 v28 (0 : Int32) else f_Md_fail_28 a x1 x2 v26 v28 (1 : Int32))
set_option maxHeartbeats 4000000 in
set_option maxRecDepth 100000 in
theorem mono_Md_fail (a : Nat) (x1 : Int32) (x2 : Int32) : sn_Mono (f_Md_fail a x1 x2) := sn_Mono.nn (fun a25 => sn_Mono.cI (mono_Md_exchangeOf a25 x1) (fun v26 => sn_Mono.nn (fun a27 => sn_Mono.cI (mono_Md_otherOf a27 x1) (fun v28 => sn_Mono.gR (fun v29 => sn_Mono.aI (fun v30 => sn_Mono.ite (mono_Md_fail_28 a x1 x2 v26 v28 (0 : Int32)) (mono_Md_fail_28 a x1 x2 v26 v28 (1 : Int32))))))))
set_option maxHeartbeats 4000000 in
set_option maxRecDepth 100000 in
theorem con_Md_fail (a : Nat) (x1 : Int32) (x2 : Int32) : sn_Con y_Md_fail c_Md_fail 8 none 5 121 [vA (some a), vI x1, vI x2] (f_Md_fail a x1 x2) := by
  refine sn_Con.of (by decide +kernel) (by show _ ≤ _; exact Nat.le_of_ble_eq_true rfl) (mono_Md_fail a x1 x2) (fun X C => ?_)
  show sn_S X 0 [(0, vA (some a)), (1, vI x1), (2, vI x2)] [] _
  replace C : sn_Cx X c_Md_fail "SignalNetworkModel" none "fail" 8 5 121 := C
  unfold f_Md_fail
  refine r_aload_n (q := 1) (i := 0) (pl := 0) C d_Md_fail_0 rfl rfl rfl ?_
  refine r_iload_n (q := 2) (i := 1) (pl := 1) C d_Md_fail_1 rfl rfl rfl ?_
  refine r_cvI (q := 5) (As := [vI x1]) (st := []) (cy := 11) C d_Md_fail_2 rfl Y_Md_exchangeOf L_Md_252 I_Md_exchangeOf Se_Md_exchangeOf rfl (by decide) rfl (Nat.le_of_ble_eq_true rfl) (Nat.le_of_ble_eq_true rfl) (Nat.le_of_ble_eq_true rfl) rfl (fun a25 => con_Md_exchangeOf a25 x1) (fun v26 => ?_)
  refine r_istore_n (q := 6) (i := 3) (lv' := [(3, vI v26), (0, vA (some a)), (1, vI x1), (2, vI x2)]) C d_Md_fail_5 rfl rfl (by decide) rfl ?_
  refine r_aload_n (q := 7) (i := 0) (pl := 1) C d_Md_fail_6 rfl rfl rfl ?_
  refine r_iload_n (q := 8) (i := 1) (pl := 2) C d_Md_fail_7 rfl rfl rfl ?_
  refine r_cvI (q := 11) (As := [vI x1]) (st := []) (cy := 11) C d_Md_fail_8 rfl Y_Md_otherOf L_Md_259 I_Md_otherOf Se_Md_otherOf rfl (by decide) rfl (Nat.le_of_ble_eq_true rfl) (Nat.le_of_ble_eq_true rfl) (Nat.le_of_ble_eq_true rfl) rfl (fun a27 => con_Md_otherOf a27 x1) (fun v28 => ?_)
  refine r_istore (q := 13) (i := 4) (lv' := [(4, vI v28), (3, vI v26), (0, vA (some a)), (1, vI x1), (2, vI x2)]) C d_Md_fail_11 rfl (by decide) rfl ?_
  refine r_aload_n (q := 14) (i := 0) (pl := 2) C d_Md_fail_13 rfl rfl rfl ?_
  refine r_gR (q := 17) C d_Md_fail_14 rfl F_Md_23 rfl (fun v29 => ?_)
  refine r_iload_n (q := 18) (i := 1) (pl := 3) C d_Md_fail_17 rfl rfl rfl ?_
  refine r_aI (q := 19) C (Or.inr rfl) d_Md_fail_18 rfl (fun v30 => ?_)
  refine r_iconst (q := 20) (v := 5) C d_Md_fail_19 rfl (by decide) ?_
  refine r_icmp_ne (tgt := 27) (q := 23) C d_Md_fail_20 (by decide) rfl ?_ ?_
  · refine r_iconst (q := 28) (v := 0) C d_Md_fail_27 rfl (by decide) ?_
    refine r_sub (lv' := [(0, vA (some a)), (1, vI x1), (2, vI x2), (3, vI v26), (4, vI v28)]) [2, 3, 4, 1, 0] rfl ?_
    exact s_Md_fail_28 C a x1 x2 v26 v28 (0 : Int32)
  · refine r_iconst (q := 24) (v := 1) C d_Md_fail_23 rfl (by decide) ?_
    refine r_goto (tgt := 28) C d_Md_fail_24 (by decide) ?_
    refine r_sub (lv' := [(0, vA (some a)), (1, vI x1), (2, vI x2), (3, vI v26), (4, vI v28)]) [2, 3, 4, 1, 0] rfl ?_
    exact s_Md_fail_28 C a x1 x2 v26 v28 (1 : Int32)
theorem d_Md_up_0 : decode c_Md_up 0 = .ok (.aload_n 0, 1) := by decide +kernel
theorem d_Md_up_1 : decode c_Md_up 1 = .ok (.iload_n 1, 1) := by decide +kernel
theorem d_Md_up_2 : decode c_Md_up 2 = .ok (.invokevirtual 252, 3) := by decide +kernel
theorem d_Md_up_5 : decode c_Md_up 5 = .ok (.istore_n 2, 1) := by decide +kernel
theorem d_Md_up_6 : decode c_Md_up 6 = .ok (.aload_n 0, 1) := by decide +kernel
theorem d_Md_up_7 : decode c_Md_up 7 = .ok (.iload_n 1, 1) := by decide +kernel
theorem d_Md_up_8 : decode c_Md_up 8 = .ok (.invokevirtual 259, 3) := by decide +kernel
theorem d_Md_up_11 : decode c_Md_up 11 = .ok (.istore_n 3, 1) := by decide +kernel
theorem d_Md_up_12 : decode c_Md_up 12 = .ok (.iconst 0, 1) := by decide +kernel
theorem d_Md_up_13 : decode c_Md_up 13 = .ok (.istore 4, 2) := by decide +kernel
theorem d_Md_up_15 : decode c_Md_up 15 = .ok (.iconst 0, 1) := by decide +kernel
theorem d_Md_up_16 : decode c_Md_up 16 = .ok (.istore 5, 2) := by decide +kernel
theorem d_Md_up_18 : decode c_Md_up 18 = .ok (.iload 5, 2) := by decide +kernel
theorem d_Md_up_20 : decode c_Md_up 20 = .ok (.iconst 4, 1) := by decide +kernel
theorem d_Md_up_21 : decode c_Md_up 21 = .ok (.if_icmp .ge 32, 3) := by decide +kernel
theorem d_Md_up_24 : decode c_Md_up 24 = .ok (.iload 4, 2) := by decide +kernel
theorem d_Md_up_26 : decode c_Md_up 26 = .ok (.ifCond .ne 14, 3) := by decide +kernel
theorem d_Md_up_29 : decode c_Md_up 29 = .ok (.aload_n 0, 1) := by decide +kernel
theorem d_Md_up_30 : decode c_Md_up 30 = .ok (.iload_n 2, 1) := by decide +kernel
theorem d_Md_up_31 : decode c_Md_up 31 = .ok (.iload_n 3, 1) := by decide +kernel
theorem d_Md_up_32 : decode c_Md_up 32 = .ok (.iload 5, 2) := by decide +kernel
theorem d_Md_up_34 : decode c_Md_up 34 = .ok (.invokevirtual 234, 3) := by decide +kernel
theorem d_Md_up_37 : decode c_Md_up 37 = .ok (.ifCond .eq 7, 3) := by decide +kernel
theorem d_Md_up_40 : decode c_Md_up 40 = .ok (.iconst 1, 1) := by decide +kernel
theorem d_Md_up_41 : decode c_Md_up 41 = .ok (.goto 4, 3) := by decide +kernel
theorem d_Md_up_44 : decode c_Md_up 44 = .ok (.iconst 0, 1) := by decide +kernel
theorem d_Md_up_45 : decode c_Md_up 45 = .ok (.istore 4, 2) := by decide +kernel
theorem d_Md_up_47 : decode c_Md_up 47 = .ok (.iinc 5 1, 3) := by decide +kernel
theorem d_Md_up_50 : decode c_Md_up 50 = .ok (.goto (-32), 3) := by decide +kernel
theorem d_Md_up_53 : decode c_Md_up 53 = .ok (.iconst 0, 1) := by decide +kernel
theorem d_Md_up_54 : decode c_Md_up 54 = .ok (.istore 5, 2) := by decide +kernel
theorem d_Md_up_56 : decode c_Md_up 56 = .ok (.iload 5, 2) := by decide +kernel
theorem d_Md_up_58 : decode c_Md_up 58 = .ok (.iconst 4, 1) := by decide +kernel
theorem d_Md_up_59 : decode c_Md_up 59 = .ok (.if_icmp .ge 144, 3) := by decide +kernel
theorem d_Md_up_62 : decode c_Md_up 62 = .ok (.aload_n 0, 1) := by decide +kernel
theorem d_Md_up_63 : decode c_Md_up 63 = .ok (.iload_n 2, 1) := by decide +kernel
theorem d_Md_up_64 : decode c_Md_up 64 = .ok (.iload_n 3, 1) := by decide +kernel
theorem d_Md_up_65 : decode c_Md_up 65 = .ok (.iload 5, 2) := by decide +kernel
theorem d_Md_up_67 : decode c_Md_up 67 = .ok (.invokevirtual 212, 3) := by decide +kernel
theorem d_Md_up_70 : decode c_Md_up 70 = .ok (.istore 6, 2) := by decide +kernel
theorem d_Md_up_72 : decode c_Md_up 72 = .ok (.aload_n 0, 1) := by decide +kernel
theorem d_Md_up_73 : decode c_Md_up 73 = .ok (.getfield 120, 3) := by decide +kernel
theorem d_Md_up_76 : decode c_Md_up 76 = .ok (.iload 6, 2) := by decide +kernel
theorem d_Md_up_78 : decode c_Md_up 78 = .ok (.iaload, 1) := by decide +kernel
theorem d_Md_up_79 : decode c_Md_up 79 = .ok (.ifCond .eq 6, 3) := by decide +kernel
theorem d_Md_up_82 : decode c_Md_up 82 = .ok (.goto 115, 3) := by decide +kernel
theorem d_Md_up_85 : decode c_Md_up 85 = .ok (.aload_n 0, 1) := by decide +kernel
theorem d_Md_up_86 : decode c_Md_up 86 = .ok (.iload_n 2, 1) := by decide +kernel
theorem d_Md_up_87 : decode c_Md_up 87 = .ok (.iload_n 3, 1) := by decide +kernel
theorem d_Md_up_88 : decode c_Md_up 88 = .ok (.iload 5, 2) := by decide +kernel
theorem d_Md_up_90 : decode c_Md_up 90 = .ok (.invokevirtual 269, 3) := by decide +kernel
theorem d_Md_up_93 : decode c_Md_up 93 = .ok (.istore 7, 2) := by decide +kernel
theorem d_Md_up_95 : decode c_Md_up 95 = .ok (.aload_n 0, 1) := by decide +kernel
theorem d_Md_up_96 : decode c_Md_up 96 = .ok (.getfield 117, 3) := by decide +kernel
theorem d_Md_up_99 : decode c_Md_up 99 = .ok (.iload 6, 2) := by decide +kernel
theorem d_Md_up_101 : decode c_Md_up 101 = .ok (.iaload, 1) := by decide +kernel
theorem d_Md_up_102 : decode c_Md_up 102 = .ok (.iconst (-1), 1) := by decide +kernel
theorem d_Md_up_103 : decode c_Md_up 103 = .ok (.if_icmp .ne 15, 3) := by decide +kernel
theorem d_Md_up_106 : decode c_Md_up 106 = .ok (.aload_n 0, 1) := by decide +kernel
theorem d_Md_up_107 : decode c_Md_up 107 = .ok (.getfield 117, 3) := by decide +kernel
theorem d_Md_up_110 : decode c_Md_up 110 = .ok (.iload 6, 2) := by decide +kernel
theorem d_Md_up_112 : decode c_Md_up 112 = .ok (.iload 7, 2) := by decide +kernel
theorem d_Md_up_114 : decode c_Md_up 114 = .ok (.iastore, 1) := by decide +kernel
theorem d_Md_up_115 : decode c_Md_up 115 = .ok (.goto 82, 3) := by decide +kernel
theorem d_Md_up_118 : decode c_Md_up 118 = .ok (.iload 7, 2) := by decide +kernel
theorem d_Md_up_120 : decode c_Md_up 120 = .ok (.aload_n 0, 1) := by decide +kernel
theorem d_Md_up_121 : decode c_Md_up 121 = .ok (.getfield 117, 3) := by decide +kernel
theorem d_Md_up_124 : decode c_Md_up 124 = .ok (.iload 6, 2) := by decide +kernel
theorem d_Md_up_126 : decode c_Md_up 126 = .ok (.iaload, 1) := by decide +kernel
theorem d_Md_up_127 : decode c_Md_up 127 = .ok (.if_icmp .eq 70, 3) := by decide +kernel
theorem d_Md_up_130 : decode c_Md_up 130 = .ok (.aload_n 0, 1) := by decide +kernel
theorem d_Md_up_131 : decode c_Md_up 131 = .ok (.getfield 129, 3) := by decide +kernel
theorem d_Md_up_134 : decode c_Md_up 134 = .ok (.iload 6, 2) := by decide +kernel
theorem d_Md_up_136 : decode c_Md_up 136 = .ok (.aload_n 0, 1) := by decide +kernel
theorem d_Md_up_137 : decode c_Md_up 137 = .ok (.getfield 129, 3) := by decide +kernel
theorem d_Md_up_140 : decode c_Md_up 140 = .ok (.iload 6, 2) := by decide +kernel
theorem d_Md_up_142 : decode c_Md_up 142 = .ok (.iaload, 1) := by decide +kernel
theorem d_Md_up_143 : decode c_Md_up 143 = .ok (.iconst 1, 1) := by decide +kernel
theorem d_Md_up_144 : decode c_Md_up 144 = .ok (.iadd, 1) := by decide +kernel
theorem d_Md_up_145 : decode c_Md_up 145 = .ok (.sipush 255, 3) := by decide +kernel
theorem d_Md_up_148 : decode c_Md_up 148 = .ok (.iand, 1) := by decide +kernel
theorem d_Md_up_149 : decode c_Md_up 149 = .ok (.iastore, 1) := by decide +kernel
theorem d_Md_up_150 : decode c_Md_up 150 = .ok (.aload_n 0, 1) := by decide +kernel
theorem d_Md_up_151 : decode c_Md_up 151 = .ok (.iload_n 2, 1) := by decide +kernel
theorem d_Md_up_152 : decode c_Md_up 152 = .ok (.iload_n 3, 1) := by decide +kernel
theorem d_Md_up_153 : decode c_Md_up 153 = .ok (.iload 5, 2) := by decide +kernel
theorem d_Md_up_155 : decode c_Md_up 155 = .ok (.iconst 3, 1) := by decide +kernel
theorem d_Md_up_156 : decode c_Md_up 156 = .ok (.iload_n 2, 1) := by decide +kernel
theorem d_Md_up_157 : decode c_Md_up 157 = .ok (.iload_n 3, 1) := by decide +kernel
theorem d_Md_up_158 : decode c_Md_up 158 = .ok (.iload 5, 2) := by decide +kernel
theorem d_Md_up_160 : decode c_Md_up 160 = .ok (.iload 5, 2) := by decide +kernel
theorem d_Md_up_162 : decode c_Md_up 162 = .ok (.aload_n 0, 1) := by decide +kernel
theorem d_Md_up_163 : decode c_Md_up 163 = .ok (.getfield 129, 3) := by decide +kernel
theorem d_Md_up_166 : decode c_Md_up 166 = .ok (.iload 6, 2) := by decide +kernel
theorem d_Md_up_168 : decode c_Md_up 168 = .ok (.iaload, 1) := by decide +kernel
theorem d_Md_up_169 : decode c_Md_up 169 = .ok (.invokestatic 248, 3) := by decide +kernel
theorem d_Md_up_172 : decode c_Md_up 172 = .ok (.invokevirtual 237, 3) := by decide +kernel
theorem d_Md_up_175 : decode c_Md_up 175 = .ok (.aload_n 0, 1) := by decide +kernel
theorem d_Md_up_176 : decode c_Md_up 176 = .ok (.getfield 120, 3) := by decide +kernel
theorem d_Md_up_179 : decode c_Md_up 179 = .ok (.iload 6, 2) := by decide +kernel
theorem d_Md_up_181 : decode c_Md_up 181 = .ok (.iconst 2, 1) := by decide +kernel
theorem d_Md_up_182 : decode c_Md_up 182 = .ok (.iastore, 1) := by decide +kernel
theorem d_Md_up_183 : decode c_Md_up 183 = .ok (.aload_n 0, 1) := by decide +kernel
theorem d_Md_up_184 : decode c_Md_up 184 = .ok (.getfield 126, 3) := by decide +kernel
theorem d_Md_up_187 : decode c_Md_up 187 = .ok (.iload 6, 2) := by decide +kernel
theorem d_Md_up_189 : decode c_Md_up 189 = .ok (.aload_n 0, 1) := by decide +kernel
theorem d_Md_up_190 : decode c_Md_up 190 = .ok (.getfield 256, 3) := by decide +kernel
theorem d_Md_up_193 : decode c_Md_up 193 = .ok (.bipush 20, 2) := by decide +kernel
theorem d_Md_up_195 : decode c_Md_up 195 = .ok (.iadd, 1) := by decide +kernel
theorem d_Md_up_196 : decode c_Md_up 196 = .ok (.iastore, 1) := by decide +kernel
theorem d_Md_up_197 : decode c_Md_up 197 = .ok (.iinc 5 1, 3) := by decide +kernel
theorem d_Md_up_200 : decode c_Md_up 200 = .ok (.goto (-144), 3) := by decide +kernel
theorem d_Md_up_203 : decode c_Md_up 203 = .ok (.iconst 0, 1) := by decide +kernel
theorem d_Md_up_204 : decode c_Md_up 204 = .ok (.istore 5, 2) := by decide +kernel
theorem d_Md_up_206 : decode c_Md_up 206 = .ok (.iload 5, 2) := by decide +kernel
theorem d_Md_up_208 : decode c_Md_up 208 = .ok (.bipush 6, 2) := by decide +kernel
theorem d_Md_up_210 : decode c_Md_up 210 = .ok (.if_icmp .ge 32, 3) := by decide +kernel
theorem d_Md_up_213 : decode c_Md_up 213 = .ok (.iload 4, 2) := by decide +kernel
theorem d_Md_up_215 : decode c_Md_up 215 = .ok (.ifCond .ne 27, 3) := by decide +kernel
theorem d_Md_up_218 : decode c_Md_up 218 = .ok (.aload_n 0, 1) := by decide +kernel
theorem d_Md_up_219 : decode c_Md_up 219 = .ok (.getfield 141, 3) := by decide +kernel
theorem d_Md_up_222 : decode c_Md_up 222 = .ok (.bipush 36, 2) := by decide +kernel
theorem d_Md_up_224 : decode c_Md_up 224 = .ok (.iload_n 2, 1) := by decide +kernel
theorem d_Md_up_225 : decode c_Md_up 225 = .ok (.imul, 1) := by decide +kernel
theorem d_Md_up_226 : decode c_Md_up 226 = .ok (.bipush 6, 2) := by decide +kernel
theorem d_Md_up_228 : decode c_Md_up 228 = .ok (.iload_n 3, 1) := by decide +kernel
theorem d_Md_up_229 : decode c_Md_up 229 = .ok (.imul, 1) := by decide +kernel
theorem d_Md_up_230 : decode c_Md_up 230 = .ok (.iadd, 1) := by decide +kernel
theorem d_Md_up_231 : decode c_Md_up 231 = .ok (.iload 5, 2) := by decide +kernel
theorem d_Md_up_233 : decode c_Md_up 233 = .ok (.iadd, 1) := by decide +kernel
theorem d_Md_up_234 : decode c_Md_up 234 = .ok (.iconst 0, 1) := by decide +kernel
theorem d_Md_up_235 : decode c_Md_up 235 = .ok (.iastore, 1) := by decide +kernel
theorem d_Md_up_236 : decode c_Md_up 236 = .ok (.iinc 5 1, 3) := by decide +kernel
theorem d_Md_up_239 : decode c_Md_up 239 = .ok (.goto (-33), 3) := by decide +kernel
theorem d_Md_up_242 : decode c_Md_up 242 = .ok (.aload_n 0, 1) := by decide +kernel
theorem d_Md_up_243 : decode c_Md_up 243 = .ok (.iload_n 2, 1) := by decide +kernel
theorem d_Md_up_244 : decode c_Md_up 244 = .ok (.invokevirtual 266, 3) := by decide +kernel
theorem d_Md_up_247 : decode c_Md_up 247 = .ok (.return_, 1) := by decide +kernel
def f_Md_up_45 (k18 : Int32 → Int32 → Int32 → Int32 → sn_M) (a : Nat) (x2 : Int32) (x3 : Int32) (x5 : Int32) (t0 : Int32) : sn_M := k18 x2 x3 t0 (x5 + (1 : Int32))
set_option maxHeartbeats 4000000 in
set_option maxRecDepth 100000 in
theorem mono_Md_up_45 (k18 : Int32 → Int32 → Int32 → Int32 → sn_M) (mk18 : ∀ (x2 : Int32) (x3 : Int32) (x4 : Int32) (x5 : Int32), sn_Mono (k18 x2 x3 x4 x5)) (a : Nat) (x2 : Int32) (x3 : Int32) (x5 : Int32) (t0 : Int32) : sn_Mono (f_Md_up_45 k18 a x2 x3 x5 t0) := mk18 x2 x3 t0 (x5 + (1 : Int32))
set_option maxHeartbeats 4000000 in
set_option maxRecDepth 100000 in
theorem s_Md_up_45 {X : sn_X} (C : sn_Cx X c_Md_up "SignalNetworkModel" none "up" 8 5 118) (a : Nat) (k18 : Int32 → Int32 → Int32 → Int32 → sn_M) (hk18 : ∀ (x2 : Int32) (x3 : Int32) (x4 : Int32) (x5 : Int32), sn_S X 18 [(0, vA (some a)), (2, vI x2), (3, vI x3), (4, vI x4), (5, vI x5)] [] (k18 x2 x3 x4 x5)) (x2 : Int32) (x3 : Int32) (x5 : Int32) (t0 : Int32) : sn_S X 45 [(0, vA (some a)), (2, vI x2), (3, vI x3), (5, vI x5)] [vI t0] (f_Md_up_45 k18 a x2 x3 x5 t0) := by
  unfold f_Md_up_45
  refine r_istore (q := 47) (i := 4) (lv' := [(4, vI t0), (0, vA (some a)), (2, vI x2), (3, vI x3), (5, vI x5)]) C d_Md_up_45 rfl (by decide) rfl ?_
  refine r_iinc (q := 50) (pl := 4) (v := x5 + (1 : Int32)) (lv' := [(5, vI (x5 + (1 : Int32))), (4, vI t0), (0, vA (some a)), (2, vI x2), (3, vI x3)]) C d_Md_up_47 rfl rfl rfl (by decide) rfl ?_
  refine r_goto (tgt := 18) C d_Md_up_50 (by decide) ?_
  refine r_sub (lv' := [(0, vA (some a)), (2, vI x2), (3, vI x3), (4, vI t0), (5, vI (x5 + (1 : Int32)))]) [2, 3, 4, 1, 0] rfl ?_
  exact hk18 x2 x3 t0 (x5 + (1 : Int32))
def f_Md_up_40 (k18 : Int32 → Int32 → Int32 → Int32 → sn_M) (a : Nat) (x2 : Int32) (x3 : Int32) (x5 : Int32) : sn_M := f_Md_up_45 k18 a x2 x3 x5 (1 : Int32)
set_option maxHeartbeats 4000000 in
set_option maxRecDepth 100000 in
theorem mono_Md_up_40 (k18 : Int32 → Int32 → Int32 → Int32 → sn_M) (mk18 : ∀ (x2 : Int32) (x3 : Int32) (x4 : Int32) (x5 : Int32), sn_Mono (k18 x2 x3 x4 x5)) (a : Nat) (x2 : Int32) (x3 : Int32) (x5 : Int32) : sn_Mono (f_Md_up_40 k18 a x2 x3 x5) := mono_Md_up_45 k18 mk18 a x2 x3 x5 (1 : Int32)
set_option maxHeartbeats 4000000 in
set_option maxRecDepth 100000 in
theorem s_Md_up_40 {X : sn_X} (C : sn_Cx X c_Md_up "SignalNetworkModel" none "up" 8 5 118) (a : Nat) (k18 : Int32 → Int32 → Int32 → Int32 → sn_M) (hk18 : ∀ (x2 : Int32) (x3 : Int32) (x4 : Int32) (x5 : Int32), sn_S X 18 [(0, vA (some a)), (2, vI x2), (3, vI x3), (4, vI x4), (5, vI x5)] [] (k18 x2 x3 x4 x5)) (x2 : Int32) (x3 : Int32) (x5 : Int32) : sn_S X 40 [(0, vA (some a)), (2, vI x2), (3, vI x3), (5, vI x5)] [] (f_Md_up_40 k18 a x2 x3 x5) := by
  unfold f_Md_up_40
  refine r_iconst (q := 41) (v := 1) C d_Md_up_40 rfl (by decide) ?_
  refine r_goto (tgt := 45) C d_Md_up_41 (by decide) ?_
  exact s_Md_up_45 C a k18 hk18 x2 x3 x5 (1 : Int32)
def f_Md_up_197 (k56 : Int32 → Int32 → Int32 → Int32 → sn_M) (a : Nat) (x2 : Int32) (x3 : Int32) (x4 : Int32) (x5 : Int32) : sn_M := k56 x2 x3 x4 (x5 + (1 : Int32))
set_option maxHeartbeats 4000000 in
set_option maxRecDepth 100000 in
theorem mono_Md_up_197 (k56 : Int32 → Int32 → Int32 → Int32 → sn_M) (mk56 : ∀ (x2 : Int32) (x3 : Int32) (x4 : Int32) (x5 : Int32), sn_Mono (k56 x2 x3 x4 x5)) (a : Nat) (x2 : Int32) (x3 : Int32) (x4 : Int32) (x5 : Int32) : sn_Mono (f_Md_up_197 k56 a x2 x3 x4 x5) := mk56 x2 x3 x4 (x5 + (1 : Int32))
set_option maxHeartbeats 4000000 in
set_option maxRecDepth 100000 in
theorem s_Md_up_197 {X : sn_X} (C : sn_Cx X c_Md_up "SignalNetworkModel" none "up" 8 5 118) (a : Nat) (k56 : Int32 → Int32 → Int32 → Int32 → sn_M) (hk56 : ∀ (x2 : Int32) (x3 : Int32) (x4 : Int32) (x5 : Int32), sn_S X 56 [(0, vA (some a)), (2, vI x2), (3, vI x3), (4, vI x4), (5, vI x5)] [] (k56 x2 x3 x4 x5)) (x2 : Int32) (x3 : Int32) (x4 : Int32) (x5 : Int32) : sn_S X 197 [(0, vA (some a)), (2, vI x2), (3, vI x3), (4, vI x4), (5, vI x5)] [] (f_Md_up_197 k56 a x2 x3 x4 x5) := by
  unfold f_Md_up_197
  refine r_iinc (q := 200) (pl := 4) (v := x5 + (1 : Int32)) (lv' := [(5, vI (x5 + (1 : Int32))), (0, vA (some a)), (2, vI x2), (3, vI x3), (4, vI x4)]) C d_Md_up_197 rfl rfl rfl (by decide) rfl ?_
  refine r_goto (tgt := 56) C d_Md_up_200 (by decide) ?_
  refine r_sub (lv' := [(0, vA (some a)), (2, vI x2), (3, vI x3), (4, vI x4), (5, vI (x5 + (1 : Int32)))]) [1, 2, 3, 4, 0] rfl ?_
  exact hk56 x2 x3 x4 (x5 + (1 : Int32))
def f_Md_up_242 (a : Nat) (x2 : Int32) : sn_M := n_n 12 (some a) fun a1 => c_V (f_Md_look a1 x2) (r_V)
set_option maxHeartbeats 4000000 in
set_option maxRecDepth 100000 in
theorem mono_Md_up_242 (a : Nat) (x2 : Int32) : sn_Mono (f_Md_up_242 a x2) := sn_Mono.nn (fun a1 => sn_Mono.cV (mono_Md_look a1 x2) (sn_Mono.rV))
set_option maxHeartbeats 4000000 in
set_option maxRecDepth 100000 in
theorem s_Md_up_242 {X : sn_X} (C : sn_Cx X c_Md_up "SignalNetworkModel" none "up" 8 5 118) (a : Nat) (x2 : Int32) : sn_S X 242 [(0, vA (some a)), (2, vI x2)] [] (f_Md_up_242 a x2) := by
  unfold f_Md_up_242
  refine r_aload_n (q := 243) (i := 0) (pl := 0) C d_Md_up_242 rfl rfl rfl ?_
  refine r_iload_n (q := 244) (i := 2) (pl := 1) C d_Md_up_243 rfl rfl rfl ?_
  refine r_cvV (q := 247) (As := [vI x2]) (st := []) (cy := 11) C d_Md_up_244 rfl Y_Md_look L_Md_266 I_Md_look Se_Md_look rfl (by decide) rfl (Nat.le_of_ble_eq_true rfl) (Nat.le_of_ble_eq_true rfl) (Nat.le_of_ble_eq_true rfl) rfl (fun a1 => con_Md_look a1 x2) ?_
  exact r_vret C d_Md_up_247 rfl
def f_Md_up_206 (a : Nat) : Nat → Int32 → Int32 → Int32 → Int32 → sn_M
  | 0, _, _, _, _ => r_0
  | n + 1, x2, x3, x4, x5 => (if (6 : Int32) ≤ x5 then f_Md_up_242 a x2 else (if ¬ x4 = 0 then f_Md_up_242 a x2 else g_R 12 49 (some a) fun v3 => b_I 31 v3 ((((36 : Int32) * x2) + ((6 : Int32) * x3)) + x5) (0 : Int32) (f_Md_up_206 a n x2 x3 x4 (x5 + (1 : Int32)))))
set_option maxHeartbeats 4000000 in
set_option maxRecDepth 100000 in
theorem mono_Md_up_206 (a : Nat) : ∀ (n : Nat) (x2 : Int32) (x3 : Int32) (x4 : Int32) (x5 : Int32), sn_Mono (f_Md_up_206 a n x2 x3 x4 x5)
  | 0, _, _, _, _ => sn_Mono.r0
  | n + 1, x2, x3, x4, x5 => sn_Mono.ite (mono_Md_up_242 a x2) (sn_Mono.ite (mono_Md_up_242 a x2) (sn_Mono.gR (fun v3 => sn_Mono.bI (mono_Md_up_206 a n x2 x3 x4 (x5 + (1 : Int32))))))
set_option maxHeartbeats 4000000 in
set_option maxRecDepth 100000 in
theorem s_Md_up_206 {X : sn_X} (C : sn_Cx X c_Md_up "SignalNetworkModel" none "up" 8 5 118) (a : Nat) (n : Nat) : ∀ (x2 : Int32) (x3 : Int32) (x4 : Int32) (x5 : Int32), sn_S X 206 [(0, vA (some a)), (2, vI x2), (3, vI x3), (4, vI x4), (5, vI x5)] [] (f_Md_up_206 a n x2 x3 x4 x5) := by
  induction n with
  | zero => intro x2 x3 x4 x5; exact sn_S.zero
  | succ n ih =>
    intro x2 x3 x4 x5
    unfold f_Md_up_206
    refine r_iload (q := 208) (i := 5) (pl := 4) C d_Md_up_206 rfl rfl ?_
    refine r_bipush (q := 210) (v := 6) C d_Md_up_208 rfl (by decide) ?_
    refine r_icmp_ge (tgt := 242) (q := 213) C d_Md_up_210 (by decide) rfl ?_ ?_
    · refine r_sub (lv' := [(0, vA (some a)), (2, vI x2)]) [0, 1] rfl ?_
      exact s_Md_up_242 C a x2
    · refine r_iload (q := 215) (i := 4) (pl := 3) C d_Md_up_213 rfl rfl ?_
      refine r_if_ne (tgt := 242) (q := 218) C d_Md_up_215 (by decide) rfl ?_ ?_
      · refine r_sub (lv' := [(0, vA (some a)), (2, vI x2)]) [0, 1] rfl ?_
        exact s_Md_up_242 C a x2
      · refine r_aload_n (q := 219) (i := 0) (pl := 0) C d_Md_up_218 rfl rfl rfl ?_
        refine r_gR (q := 222) C d_Md_up_219 rfl F_Md_141 rfl (fun v3 => ?_)
        refine r_bipush (q := 224) (v := 36) C d_Md_up_222 rfl (by decide) ?_
        refine r_iload_n (q := 225) (i := 2) (pl := 1) C d_Md_up_224 rfl rfl rfl ?_
        refine r_imul (q := 226) C d_Md_up_225 rfl ?_
        refine r_bipush (q := 228) (v := 6) C d_Md_up_226 rfl (by decide) ?_
        refine r_iload_n (q := 229) (i := 3) (pl := 2) C d_Md_up_228 rfl rfl rfl ?_
        refine r_imul (q := 230) C d_Md_up_229 rfl ?_
        refine r_iadd (q := 231) C d_Md_up_230 rfl ?_
        refine r_iload (q := 233) (i := 5) (pl := 4) C d_Md_up_231 rfl rfl ?_
        refine r_iadd (q := 234) C d_Md_up_233 rfl ?_
        refine r_iconst (q := 235) (v := 0) C d_Md_up_234 rfl (by decide) ?_
        refine r_bI (q := 236) C (Or.inr rfl) d_Md_up_235 rfl ?_
        refine r_iinc (q := 239) (pl := 4) (v := x5 + (1 : Int32)) (lv' := [(5, vI (x5 + (1 : Int32))), (0, vA (some a)), (2, vI x2), (3, vI x3), (4, vI x4)]) C d_Md_up_236 rfl rfl rfl (by decide) rfl ?_
        refine r_goto (tgt := 206) C d_Md_up_239 (by decide) ?_
        refine r_sub (lv' := [(0, vA (some a)), (2, vI x2), (3, vI x3), (4, vI x4), (5, vI (x5 + (1 : Int32)))]) [1, 2, 3, 4, 0] rfl ?_
        exact ih x2 x3 x4 (x5 + (1 : Int32))
def f_Md_up_56 (a : Nat) : Nat → Int32 → Int32 → Int32 → Int32 → sn_M
  | 0, _, _, _, _ => r_0
  | n + 1, x2, x3, x4, x5 => (if (4 : Int32) ≤ x5 then f_Md_up_206 a sn_fuel x2 x3 x4 (0 : Int32) else n_n 12 (some a) fun a4 => c_I (f_Md_flowAt a4 x2 x3 x5) fun v5 => g_R 12 42 (some a) fun v6 => a_I 31 v6 v5 fun v7 => (if v7 = 0 then n_n 12 (some a) fun a8 => c_I (f_Md_bestOf a8 x2 x3 x5) fun v9 => g_R 12 41 (some a) fun v10 => a_I 31 v10 v5 fun v11 => (if ¬ v11 = (-1 : Int32) then g_R 12 41 (some a) fun v12 => a_I 31 v12 v5 fun v13 => (if v9 = v13 then f_Md_up_197 (f_Md_up_56 a n) a x2 x3 x4 x5 else g_R 12 45 (some a) fun v14 => g_R 12 45 (some a) fun v15 => a_I 31 v15 v5 fun v16 => b_I 31 v14 v5 ((v16 + (1 : Int32)) &&& (255 : Int32)) (g_R 12 45 (some a) fun v17 => a_I 31 v17 v5 fun v18 => c_J (f_Md_message (3 : Int32) x2 x3 x5 x5 v18) fun v19 => n_n 12 (some a) fun a20 => c_V (f_Md_give a20 x2 x3 x5 v19) (g_R 12 42 (some a) fun v22 => b_I 31 v22 v5 (2 : Int32) (g_R 12 44 (some a) fun v23 => g_I 12 6 (some a) fun v24 => b_I 31 v23 v5 (v24 + (20 : Int32)) (f_Md_up_197 (f_Md_up_56 a n) a x2 x3 x4 x5))))) else g_R 12 41 (some a) fun v25 => b_I 31 v25 v5 v9 (f_Md_up_197 (f_Md_up_56 a n) a x2 x3 x4 x5)) else f_Md_up_197 (f_Md_up_56 a n) a x2 x3 x4 x5))
set_option maxHeartbeats 4000000 in
set_option maxRecDepth 100000 in
theorem mono_Md_up_56 (a : Nat) : ∀ (n : Nat) (x2 : Int32) (x3 : Int32) (x4 : Int32) (x5 : Int32), sn_Mono (f_Md_up_56 a n x2 x3 x4 x5)
  | 0, _, _, _, _ => sn_Mono.r0
  | n + 1, x2, x3, x4, x5 => sn_Mono.ite (mono_Md_up_206 a sn_fuel x2 x3 x4 (0 : Int32)) (sn_Mono.nn (fun a4 => sn_Mono.cI (mono_Md_flowAt a4 x2 x3 x5) (fun v5 => sn_Mono.gR (fun v6 => sn_Mono.aI (fun v7 => sn_Mono.ite (sn_Mono.nn (fun a8 => sn_Mono.cI (mono_Md_bestOf a8 x2 x3 x5) (fun v9 => sn_Mono.gR (fun v10 => sn_Mono.aI (fun v11 => sn_Mono.ite (sn_Mono.gR (fun v12 => sn_Mono.aI (fun v13 => sn_Mono.ite (mono_Md_up_197 (f_Md_up_56 a n) (mono_Md_up_56 a n) a x2 x3 x4 x5) (sn_Mono.gR (fun v14 => sn_Mono.gR (fun v15 => sn_Mono.aI (fun v16 => sn_Mono.bI (sn_Mono.gR (fun v17 => sn_Mono.aI (fun v18 => sn_Mono.cJ (mono_Md_message (3 : Int32) x2 x3 x5 x5 v18) (fun v19 => sn_Mono.nn (fun a20 => sn_Mono.cV (mono_Md_give a20 x2 x3 x5 v19) (sn_Mono.gR (fun v22 => sn_Mono.bI (sn_Mono.gR (fun v23 => sn_Mono.gI (fun v24 => sn_Mono.bI (mono_Md_up_197 (f_Md_up_56 a n) (mono_Md_up_56 a n) a x2 x3 x4 x5)))))))))))))))))) (sn_Mono.gR (fun v25 => sn_Mono.bI (mono_Md_up_197 (f_Md_up_56 a n) (mono_Md_up_56 a n) a x2 x3 x4 x5)))))))) (mono_Md_up_197 (f_Md_up_56 a n) (mono_Md_up_56 a n) a x2 x3 x4 x5))))))
set_option maxHeartbeats 4000000 in
set_option maxRecDepth 100000 in
theorem s_Md_up_56 {X : sn_X} (C : sn_Cx X c_Md_up "SignalNetworkModel" none "up" 8 5 118) (a : Nat) (n : Nat) : ∀ (x2 : Int32) (x3 : Int32) (x4 : Int32) (x5 : Int32), sn_S X 56 [(0, vA (some a)), (2, vI x2), (3, vI x3), (4, vI x4), (5, vI x5)] [] (f_Md_up_56 a n x2 x3 x4 x5) := by
  induction n with
  | zero => intro x2 x3 x4 x5; exact sn_S.zero
  | succ n ih =>
    intro x2 x3 x4 x5
    unfold f_Md_up_56
    refine r_iload (q := 58) (i := 5) (pl := 4) C d_Md_up_56 rfl rfl ?_
    refine r_iconst (q := 59) (v := 4) C d_Md_up_58 rfl (by decide) ?_
    refine r_icmp_ge (tgt := 203) (q := 62) C d_Md_up_59 (by decide) rfl ?_ ?_
    · refine r_iconst (q := 204) (v := 0) C d_Md_up_203 rfl (by decide) ?_
      refine r_istore (q := 206) (i := 5) (lv' := [(5, vI (0 : Int32)), (0, vA (some a)), (2, vI x2), (3, vI x3), (4, vI x4)]) C d_Md_up_204 rfl (by decide) rfl ?_
      refine r_sub (lv' := [(0, vA (some a)), (2, vI x2), (3, vI x3), (4, vI x4), (5, vI (0 : Int32))]) [1, 2, 3, 4, 0] rfl ?_
      exact s_Md_up_206 C a sn_fuel x2 x3 x4 (0 : Int32)
    · refine r_aload_n (q := 63) (i := 0) (pl := 0) C d_Md_up_62 rfl rfl rfl ?_
      refine r_iload_n (q := 64) (i := 2) (pl := 1) C d_Md_up_63 rfl rfl rfl ?_
      refine r_iload_n (q := 65) (i := 3) (pl := 2) C d_Md_up_64 rfl rfl rfl ?_
      refine r_iload (q := 67) (i := 5) (pl := 4) C d_Md_up_65 rfl rfl ?_
      refine r_cvI (q := 70) (As := [vI x2, vI x3, vI x5]) (st := []) (cy := 11) C d_Md_up_67 rfl Y_Md_flowAt L_Md_212 I_Md_flowAt Se_Md_flowAt rfl (by decide) rfl (Nat.le_of_ble_eq_true rfl) (Nat.le_of_ble_eq_true rfl) (Nat.le_of_ble_eq_true rfl) rfl (fun a4 => con_Md_flowAt a4 x2 x3 x5) (fun v5 => ?_)
      refine r_istore (q := 72) (i := 6) (lv' := [(6, vI v5), (0, vA (some a)), (2, vI x2), (3, vI x3), (4, vI x4), (5, vI x5)]) C d_Md_up_70 rfl (by decide) rfl ?_
      refine r_aload_n (q := 73) (i := 0) (pl := 1) C d_Md_up_72 rfl rfl rfl ?_
      refine r_gR (q := 76) C d_Md_up_73 rfl F_Md_120 rfl (fun v6 => ?_)
      refine r_iload (q := 78) (i := 6) (pl := 0) C d_Md_up_76 rfl rfl ?_
      refine r_aI (q := 79) C (Or.inr rfl) d_Md_up_78 rfl (fun v7 => ?_)
      refine r_if_eq (tgt := 85) (q := 82) C d_Md_up_79 (by decide) rfl ?_ ?_
      · refine r_aload_n (q := 86) (i := 0) (pl := 1) C d_Md_up_85 rfl rfl rfl ?_
        refine r_iload_n (q := 87) (i := 2) (pl := 2) C d_Md_up_86 rfl rfl rfl ?_
        refine r_iload_n (q := 88) (i := 3) (pl := 3) C d_Md_up_87 rfl rfl rfl ?_
        refine r_iload (q := 90) (i := 5) (pl := 5) C d_Md_up_88 rfl rfl ?_
        refine r_cvI (q := 93) (As := [vI x2, vI x3, vI x5]) (st := []) (cy := 11) C d_Md_up_90 rfl Y_Md_bestOf L_Md_269 I_Md_bestOf Se_Md_bestOf rfl (by decide) rfl (Nat.le_of_ble_eq_true rfl) (Nat.le_of_ble_eq_true rfl) (Nat.le_of_ble_eq_true rfl) rfl (fun a8 => con_Md_bestOf a8 x2 x3 x5) (fun v9 => ?_)
        refine r_istore (q := 95) (i := 7) (lv' := [(7, vI v9), (6, vI v5), (0, vA (some a)), (2, vI x2), (3, vI x3), (4, vI x4), (5, vI x5)]) C d_Md_up_93 rfl (by decide) rfl ?_
        refine r_aload_n (q := 96) (i := 0) (pl := 2) C d_Md_up_95 rfl rfl rfl ?_
        refine r_gR (q := 99) C d_Md_up_96 rfl F_Md_117 rfl (fun v10 => ?_)
        refine r_iload (q := 101) (i := 6) (pl := 1) C d_Md_up_99 rfl rfl ?_
        refine r_aI (q := 102) C (Or.inr rfl) d_Md_up_101 rfl (fun v11 => ?_)
        refine r_iconst (q := 103) (v := -1) C d_Md_up_102 rfl (by decide) ?_
        refine r_icmp_ne (tgt := 118) (q := 106) C d_Md_up_103 (by decide) rfl ?_ ?_
        · refine r_iload (q := 120) (i := 7) (pl := 0) C d_Md_up_118 rfl rfl ?_
          refine r_aload_n (q := 121) (i := 0) (pl := 2) C d_Md_up_120 rfl rfl rfl ?_
          refine r_gR (q := 124) C d_Md_up_121 rfl F_Md_117 rfl (fun v12 => ?_)
          refine r_iload (q := 126) (i := 6) (pl := 1) C d_Md_up_124 rfl rfl ?_
          refine r_aI (q := 127) C (Or.inr rfl) d_Md_up_126 rfl (fun v13 => ?_)
          refine r_icmp_eq (tgt := 197) (q := 130) C d_Md_up_127 (by decide) rfl ?_ ?_
          · refine r_sub (lv' := [(0, vA (some a)), (2, vI x2), (3, vI x3), (4, vI x4), (5, vI x5)]) [2, 3, 4, 5, 6] rfl ?_
            exact s_Md_up_197 C a (f_Md_up_56 a n) ih x2 x3 x4 x5
          · refine r_aload_n (q := 131) (i := 0) (pl := 2) C d_Md_up_130 rfl rfl rfl ?_
            refine r_gR (q := 134) C d_Md_up_131 rfl F_Md_129 rfl (fun v14 => ?_)
            refine r_iload (q := 136) (i := 6) (pl := 1) C d_Md_up_134 rfl rfl ?_
            refine r_aload_n (q := 137) (i := 0) (pl := 2) C d_Md_up_136 rfl rfl rfl ?_
            refine r_gR (q := 140) C d_Md_up_137 rfl F_Md_129 rfl (fun v15 => ?_)
            refine r_iload (q := 142) (i := 6) (pl := 1) C d_Md_up_140 rfl rfl ?_
            refine r_aI (q := 143) C (Or.inr rfl) d_Md_up_142 rfl (fun v16 => ?_)
            refine r_iconst (q := 144) (v := 1) C d_Md_up_143 rfl (by decide) ?_
            refine r_iadd (q := 145) C d_Md_up_144 rfl ?_
            refine r_sipush (q := 148) (v := 255) C d_Md_up_145 rfl (by decide) ?_
            refine r_iand (q := 149) C d_Md_up_148 rfl ?_
            refine r_bI (q := 150) C (Or.inr rfl) d_Md_up_149 rfl ?_
            refine r_aload_n (q := 151) (i := 0) (pl := 2) C d_Md_up_150 rfl rfl rfl ?_
            refine r_iload_n (q := 152) (i := 2) (pl := 3) C d_Md_up_151 rfl rfl rfl ?_
            refine r_iload_n (q := 153) (i := 3) (pl := 4) C d_Md_up_152 rfl rfl rfl ?_
            refine r_iload (q := 155) (i := 5) (pl := 6) C d_Md_up_153 rfl rfl ?_
            refine r_iconst (q := 156) (v := 3) C d_Md_up_155 rfl (by decide) ?_
            refine r_iload_n (q := 157) (i := 2) (pl := 3) C d_Md_up_156 rfl rfl rfl ?_
            refine r_iload_n (q := 158) (i := 3) (pl := 4) C d_Md_up_157 rfl rfl rfl ?_
            refine r_iload (q := 160) (i := 5) (pl := 6) C d_Md_up_158 rfl rfl ?_
            refine r_iload (q := 162) (i := 5) (pl := 6) C d_Md_up_160 rfl rfl ?_
            refine r_aload_n (q := 163) (i := 0) (pl := 2) C d_Md_up_162 rfl rfl rfl ?_
            refine r_gR (q := 166) C d_Md_up_163 rfl F_Md_129 rfl (fun v17 => ?_)
            refine r_iload (q := 168) (i := 6) (pl := 1) C d_Md_up_166 rfl rfl ?_
            refine r_aI (q := 169) C (Or.inr rfl) d_Md_up_168 rfl (fun v18 => ?_)
            refine r_csJ (q := 172) (As := [vI (3 : Int32), vI x2, vI x3, vI x5, vI x5, vI v18]) (st := [vI x5, vI x3, vI x2, vA (some a)]) C d_Md_up_169 rfl Y_Md_message L_Md_248 St_Md_message rfl (Nat.le_of_ble_eq_true rfl) (Nat.le_of_ble_eq_true rfl) (Nat.le_of_ble_eq_true rfl) rfl (con_Md_message (3 : Int32) x2 x3 x5 x5 v18) (fun v19 => ?_)
            refine r_cvV (q := 175) (As := [vI x2, vI x3, vI x5, vJ v19]) (st := []) (cy := 11) C d_Md_up_172 rfl Y_Md_give L_Md_237 I_Md_give Se_Md_give rfl (by decide) rfl (Nat.le_of_ble_eq_true rfl) (Nat.le_of_ble_eq_true rfl) (Nat.le_of_ble_eq_true rfl) rfl (fun a20 => con_Md_give a20 x2 x3 x5 v19) ?_
            refine r_aload_n (q := 176) (i := 0) (pl := 2) C d_Md_up_175 rfl rfl rfl ?_
            refine r_gR (q := 179) C d_Md_up_176 rfl F_Md_120 rfl (fun v22 => ?_)
            refine r_iload (q := 181) (i := 6) (pl := 1) C d_Md_up_179 rfl rfl ?_
            refine r_iconst (q := 182) (v := 2) C d_Md_up_181 rfl (by decide) ?_
            refine r_bI (q := 183) C (Or.inr rfl) d_Md_up_182 rfl ?_
            refine r_aload_n (q := 184) (i := 0) (pl := 2) C d_Md_up_183 rfl rfl rfl ?_
            refine r_gR (q := 187) C d_Md_up_184 rfl F_Md_126 rfl (fun v23 => ?_)
            refine r_iload (q := 189) (i := 6) (pl := 1) C d_Md_up_187 rfl rfl ?_
            refine r_aload_n (q := 190) (i := 0) (pl := 2) C d_Md_up_189 rfl rfl rfl ?_
            refine r_gI (q := 193) C d_Md_up_190 rfl F_Md_256 rfl (fun v24 => ?_)
            refine r_bipush (q := 195) (v := 20) C d_Md_up_193 rfl (by decide) ?_
            refine r_iadd (q := 196) C d_Md_up_195 rfl ?_
            refine r_bI (q := 197) C (Or.inr rfl) d_Md_up_196 rfl ?_
            refine r_sub (lv' := [(0, vA (some a)), (2, vI x2), (3, vI x3), (4, vI x4), (5, vI x5)]) [2, 3, 4, 5, 6] rfl ?_
            exact s_Md_up_197 C a (f_Md_up_56 a n) ih x2 x3 x4 x5
        · refine r_aload_n (q := 107) (i := 0) (pl := 2) C d_Md_up_106 rfl rfl rfl ?_
          refine r_gR (q := 110) C d_Md_up_107 rfl F_Md_117 rfl (fun v25 => ?_)
          refine r_iload (q := 112) (i := 6) (pl := 1) C d_Md_up_110 rfl rfl ?_
          refine r_iload (q := 114) (i := 7) (pl := 0) C d_Md_up_112 rfl rfl ?_
          refine r_bI (q := 115) C (Or.inr rfl) d_Md_up_114 rfl ?_
          refine r_goto (tgt := 197) C d_Md_up_115 (by decide) ?_
          refine r_sub (lv' := [(0, vA (some a)), (2, vI x2), (3, vI x3), (4, vI x4), (5, vI x5)]) [2, 3, 4, 5, 6] rfl ?_
          exact s_Md_up_197 C a (f_Md_up_56 a n) ih x2 x3 x4 x5
      · refine r_goto (tgt := 197) C d_Md_up_82 (by decide) ?_
        refine r_sub (lv' := [(0, vA (some a)), (2, vI x2), (3, vI x3), (4, vI x4), (5, vI x5)]) [1, 2, 3, 4, 5] rfl ?_
        exact s_Md_up_197 C a (f_Md_up_56 a n) ih x2 x3 x4 x5
def f_Md_up_18 (a : Nat) : Nat → Int32 → Int32 → Int32 → Int32 → sn_M
  | 0, _, _, _, _ => r_0
  | n + 1, x2, x3, x4, x5 => (if (4 : Int32) ≤ x5 then f_Md_up_56 a sn_fuel x2 x3 x4 (0 : Int32) else (if ¬ x4 = 0 then f_Md_up_40 (f_Md_up_18 a n) a x2 x3 x5 else n_n 12 (some a) fun a26 => c_I (f_Md_isOpen a26 x2 x3 x5) fun v27 => (if v27 = 0 then f_Md_up_45 (f_Md_up_18 a n) a x2 x3 x5 (0 : Int32) else f_Md_up_40 (f_Md_up_18 a n) a x2 x3 x5)))
set_option maxHeartbeats 4000000 in
set_option maxRecDepth 100000 in
theorem mono_Md_up_18 (a : Nat) : ∀ (n : Nat) (x2 : Int32) (x3 : Int32) (x4 : Int32) (x5 : Int32), sn_Mono (f_Md_up_18 a n x2 x3 x4 x5)
  | 0, _, _, _, _ => sn_Mono.r0
  | n + 1, x2, x3, x4, x5 => sn_Mono.ite (mono_Md_up_56 a sn_fuel x2 x3 x4 (0 : Int32)) (sn_Mono.ite (mono_Md_up_40 (f_Md_up_18 a n) (mono_Md_up_18 a n) a x2 x3 x5) (sn_Mono.nn (fun a26 => sn_Mono.cI (mono_Md_isOpen a26 x2 x3 x5) (fun v27 => sn_Mono.ite (mono_Md_up_45 (f_Md_up_18 a n) (mono_Md_up_18 a n) a x2 x3 x5 (0 : Int32)) (mono_Md_up_40 (f_Md_up_18 a n) (mono_Md_up_18 a n) a x2 x3 x5)))))
set_option maxHeartbeats 4000000 in
set_option maxRecDepth 100000 in
theorem s_Md_up_18 {X : sn_X} (C : sn_Cx X c_Md_up "SignalNetworkModel" none "up" 8 5 118) (a : Nat) (n : Nat) : ∀ (x2 : Int32) (x3 : Int32) (x4 : Int32) (x5 : Int32), sn_S X 18 [(0, vA (some a)), (2, vI x2), (3, vI x3), (4, vI x4), (5, vI x5)] [] (f_Md_up_18 a n x2 x3 x4 x5) := by
  induction n with
  | zero => intro x2 x3 x4 x5; exact sn_S.zero
  | succ n ih =>
    intro x2 x3 x4 x5
    unfold f_Md_up_18
    refine r_iload (q := 20) (i := 5) (pl := 4) C d_Md_up_18 rfl rfl ?_
    refine r_iconst (q := 21) (v := 4) C d_Md_up_20 rfl (by decide) ?_
    refine r_icmp_ge (tgt := 53) (q := 24) C d_Md_up_21 (by decide) rfl ?_ ?_
    · refine r_iconst (q := 54) (v := 0) C d_Md_up_53 rfl (by decide) ?_
      refine r_istore (q := 56) (i := 5) (lv' := [(5, vI (0 : Int32)), (0, vA (some a)), (2, vI x2), (3, vI x3), (4, vI x4)]) C d_Md_up_54 rfl (by decide) rfl ?_
      refine r_sub (lv' := [(0, vA (some a)), (2, vI x2), (3, vI x3), (4, vI x4), (5, vI (0 : Int32))]) [1, 2, 3, 4, 0] rfl ?_
      exact s_Md_up_56 C a sn_fuel x2 x3 x4 (0 : Int32)
    · refine r_iload (q := 26) (i := 4) (pl := 3) C d_Md_up_24 rfl rfl ?_
      refine r_if_ne (tgt := 40) (q := 29) C d_Md_up_26 (by decide) rfl ?_ ?_
      · refine r_sub (lv' := [(0, vA (some a)), (2, vI x2), (3, vI x3), (5, vI x5)]) [0, 1, 2, 4] rfl ?_
        exact s_Md_up_40 C a (f_Md_up_18 a n) ih x2 x3 x5
      · refine r_aload_n (q := 30) (i := 0) (pl := 0) C d_Md_up_29 rfl rfl rfl ?_
        refine r_iload_n (q := 31) (i := 2) (pl := 1) C d_Md_up_30 rfl rfl rfl ?_
        refine r_iload_n (q := 32) (i := 3) (pl := 2) C d_Md_up_31 rfl rfl rfl ?_
        refine r_iload (q := 34) (i := 5) (pl := 4) C d_Md_up_32 rfl rfl ?_
        refine r_cvI (q := 37) (As := [vI x2, vI x3, vI x5]) (st := []) (cy := 11) C d_Md_up_34 rfl Y_Md_isOpen L_Md_234 I_Md_isOpen Se_Md_isOpen rfl (by decide) rfl (Nat.le_of_ble_eq_true rfl) (Nat.le_of_ble_eq_true rfl) (Nat.le_of_ble_eq_true rfl) rfl (fun a26 => con_Md_isOpen a26 x2 x3 x5) (fun v27 => ?_)
        refine r_if_eq (tgt := 44) (q := 40) C d_Md_up_37 (by decide) rfl ?_ ?_
        · refine r_iconst (q := 45) (v := 0) C d_Md_up_44 rfl (by decide) ?_
          refine r_sub (lv' := [(0, vA (some a)), (2, vI x2), (3, vI x3), (5, vI x5)]) [0, 1, 2, 4] rfl ?_
          exact s_Md_up_45 C a (f_Md_up_18 a n) ih x2 x3 x5 (0 : Int32)
        · refine r_sub (lv' := [(0, vA (some a)), (2, vI x2), (3, vI x3), (5, vI x5)]) [0, 1, 2, 4] rfl ?_
          exact s_Md_up_40 C a (f_Md_up_18 a n) ih x2 x3 x5
def f_Md_up (a : Nat) (x1 : Int32) : sn_M := n_n 12 (some a) fun a28 => c_I (f_Md_exchangeOf a28 x1) fun v29 => n_n 12 (some a) fun a30 => c_I (f_Md_otherOf a30 x1) fun v31 => f_Md_up_18 a sn_fuel v29 v31 (0 : Int32) (0 : Int32)
set_option maxHeartbeats 4000000 in
set_option maxRecDepth 100000 in
theorem mono_Md_up (a : Nat) (x1 : Int32) : sn_Mono (f_Md_up a x1) := sn_Mono.nn (fun a28 => sn_Mono.cI (mono_Md_exchangeOf a28 x1) (fun v29 => sn_Mono.nn (fun a30 => sn_Mono.cI (mono_Md_otherOf a30 x1) (fun v31 => mono_Md_up_18 a sn_fuel v29 v31 (0 : Int32) (0 : Int32)))))
set_option maxHeartbeats 4000000 in
set_option maxRecDepth 100000 in
theorem con_Md_up (a : Nat) (x1 : Int32) : sn_Con y_Md_up c_Md_up 8 none 5 118 [vA (some a), vI x1] (f_Md_up a x1) := by
  refine sn_Con.of (by decide +kernel) (by show _ ≤ _; exact Nat.le_of_ble_eq_true rfl) (mono_Md_up a x1) (fun X C => ?_)
  show sn_S X 0 [(0, vA (some a)), (1, vI x1)] [] _
  replace C : sn_Cx X c_Md_up "SignalNetworkModel" none "up" 8 5 118 := C
  unfold f_Md_up
  refine r_aload_n (q := 1) (i := 0) (pl := 0) C d_Md_up_0 rfl rfl rfl ?_
  refine r_iload_n (q := 2) (i := 1) (pl := 1) C d_Md_up_1 rfl rfl rfl ?_
  refine r_cvI (q := 5) (As := [vI x1]) (st := []) (cy := 11) C d_Md_up_2 rfl Y_Md_exchangeOf L_Md_252 I_Md_exchangeOf Se_Md_exchangeOf rfl (by decide) rfl (Nat.le_of_ble_eq_true rfl) (Nat.le_of_ble_eq_true rfl) (Nat.le_of_ble_eq_true rfl) rfl (fun a28 => con_Md_exchangeOf a28 x1) (fun v29 => ?_)
  refine r_istore_n (q := 6) (i := 2) (lv' := [(2, vI v29), (0, vA (some a)), (1, vI x1)]) C d_Md_up_5 rfl rfl (by decide) rfl ?_
  refine r_aload_n (q := 7) (i := 0) (pl := 1) C d_Md_up_6 rfl rfl rfl ?_
  refine r_iload_n (q := 8) (i := 1) (pl := 2) C d_Md_up_7 rfl rfl rfl ?_
  refine r_cvI (q := 11) (As := [vI x1]) (st := []) (cy := 11) C d_Md_up_8 rfl Y_Md_otherOf L_Md_259 I_Md_otherOf Se_Md_otherOf rfl (by decide) rfl (Nat.le_of_ble_eq_true rfl) (Nat.le_of_ble_eq_true rfl) (Nat.le_of_ble_eq_true rfl) rfl (fun a30 => con_Md_otherOf a30 x1) (fun v31 => ?_)
  refine r_istore_n (q := 12) (i := 3) (lv' := [(3, vI v31), (2, vI v29), (0, vA (some a)), (1, vI x1)]) C d_Md_up_11 rfl rfl (by decide) rfl ?_
  refine r_iconst (q := 13) (v := 0) C d_Md_up_12 rfl (by decide) ?_
  refine r_istore (q := 15) (i := 4) (lv' := [(4, vI (0 : Int32)), (3, vI v31), (2, vI v29), (0, vA (some a)), (1, vI x1)]) C d_Md_up_13 rfl (by decide) rfl ?_
  refine r_iconst (q := 16) (v := 0) C d_Md_up_15 rfl (by decide) ?_
  refine r_istore (q := 18) (i := 5) (lv' := [(5, vI (0 : Int32)), (4, vI (0 : Int32)), (3, vI v31), (2, vI v29), (0, vA (some a)), (1, vI x1)]) C d_Md_up_16 rfl (by decide) rfl ?_
  refine r_sub (lv' := [(0, vA (some a)), (2, vI v29), (3, vI v31), (4, vI (0 : Int32)), (5, vI (0 : Int32))]) [4, 3, 2, 1, 0] rfl ?_
  exact s_Md_up_18 C a sn_fuel v29 v31 (0 : Int32) (0 : Int32)
theorem d_Md_align_0 : decode c_Md_align 0 = .ok (.aload_n 0, 1) := by decide +kernel
theorem d_Md_align_1 : decode c_Md_align 1 = .ok (.getfield 23, 3) := by decide +kernel
theorem d_Md_align_4 : decode c_Md_align 4 = .ok (.iload_n 1, 1) := by decide +kernel
theorem d_Md_align_5 : decode c_Md_align 5 = .ok (.iconst 2, 1) := by decide +kernel
theorem d_Md_align_6 : decode c_Md_align 6 = .ok (.iastore, 1) := by decide +kernel
theorem d_Md_align_7 : decode c_Md_align 7 = .ok (.aload_n 0, 1) := by decide +kernel
theorem d_Md_align_8 : decode c_Md_align 8 = .ok (.getfield 26, 3) := by decide +kernel
theorem d_Md_align_11 : decode c_Md_align 11 = .ok (.iload_n 1, 1) := by decide +kernel
theorem d_Md_align_12 : decode c_Md_align 12 = .ok (.aload_n 0, 1) := by decide +kernel
theorem d_Md_align_13 : decode c_Md_align 13 = .ok (.getfield 256, 3) := by decide +kernel
theorem d_Md_align_16 : decode c_Md_align 16 = .ok (.bipush 15, 2) := by decide +kernel
theorem d_Md_align_18 : decode c_Md_align 18 = .ok (.iadd, 1) := by decide +kernel
theorem d_Md_align_19 : decode c_Md_align 19 = .ok (.iastore, 1) := by decide +kernel
theorem d_Md_align_20 : decode c_Md_align 20 = .ok (.return_, 1) := by decide +kernel
def f_Md_align (a : Nat) (x1 : Int32) : sn_M := g_R 12 10 (some a) fun v1 => b_I 31 v1 x1 (2 : Int32) (g_R 12 11 (some a) fun v2 => g_I 12 6 (some a) fun v3 => b_I 31 v2 x1 (v3 + (15 : Int32)) (r_V))
set_option maxHeartbeats 4000000 in
set_option maxRecDepth 100000 in
theorem mono_Md_align (a : Nat) (x1 : Int32) : sn_Mono (f_Md_align a x1) := sn_Mono.gR (fun v1 => sn_Mono.bI (sn_Mono.gR (fun v2 => sn_Mono.gI (fun v3 => sn_Mono.bI (sn_Mono.rV)))))
set_option maxHeartbeats 4000000 in
set_option maxRecDepth 100000 in
theorem con_Md_align (a : Nat) (x1 : Int32) : sn_Con y_Md_align c_Md_align 2 none 0 0 [vA (some a), vI x1] (f_Md_align a x1) := by
  refine sn_Con.of (by decide +kernel) (by show _ ≤ _; exact Nat.le_of_ble_eq_true rfl) (mono_Md_align a x1) (fun X C => ?_)
  show sn_S X 0 [(0, vA (some a)), (1, vI x1)] [] _
  replace C : sn_Cx X c_Md_align "SignalNetworkModel" none "align" 2 0 0 := C
  unfold f_Md_align
  refine r_aload_n (q := 1) (i := 0) (pl := 0) C d_Md_align_0 rfl rfl rfl ?_
  refine r_gR (q := 4) C d_Md_align_1 rfl F_Md_23 rfl (fun v1 => ?_)
  refine r_iload_n (q := 5) (i := 1) (pl := 1) C d_Md_align_4 rfl rfl rfl ?_
  refine r_iconst (q := 6) (v := 2) C d_Md_align_5 rfl (by decide) ?_
  refine r_bI (q := 7) C (Or.inr rfl) d_Md_align_6 rfl ?_
  refine r_aload_n (q := 8) (i := 0) (pl := 0) C d_Md_align_7 rfl rfl rfl ?_
  refine r_gR (q := 11) C d_Md_align_8 rfl F_Md_26 rfl (fun v2 => ?_)
  refine r_iload_n (q := 12) (i := 1) (pl := 1) C d_Md_align_11 rfl rfl rfl ?_
  refine r_aload_n (q := 13) (i := 0) (pl := 0) C d_Md_align_12 rfl rfl rfl ?_
  refine r_gI (q := 16) C d_Md_align_13 rfl F_Md_256 rfl (fun v3 => ?_)
  refine r_bipush (q := 18) (v := 15) C d_Md_align_16 rfl (by decide) ?_
  refine r_iadd (q := 19) C d_Md_align_18 rfl ?_
  refine r_bI (q := 20) C (Or.inr rfl) d_Md_align_19 rfl ?_
  exact r_vret C d_Md_align_20 rfl
theorem d_Md_prove_0 : decode c_Md_prove 0 = .ok (.aload_n 0, 1) := by decide +kernel
theorem d_Md_prove_1 : decode c_Md_prove 1 = .ok (.getfield 65, 3) := by decide +kernel
theorem d_Md_prove_4 : decode c_Md_prove 4 = .ok (.iload_n 1, 1) := by decide +kernel
theorem d_Md_prove_5 : decode c_Md_prove 5 = .ok (.iload_n 2, 1) := by decide +kernel
theorem d_Md_prove_6 : decode c_Md_prove 6 = .ok (.bastore, 1) := by decide +kernel
theorem d_Md_prove_7 : decode c_Md_prove 7 = .ok (.aload_n 0, 1) := by decide +kernel
theorem d_Md_prove_8 : decode c_Md_prove 8 = .ok (.getfield 47, 3) := by decide +kernel
theorem d_Md_prove_11 : decode c_Md_prove 11 = .ok (.iload_n 1, 1) := by decide +kernel
theorem d_Md_prove_12 : decode c_Md_prove 12 = .ok (.iconst 0, 1) := by decide +kernel
theorem d_Md_prove_13 : decode c_Md_prove 13 = .ok (.iastore, 1) := by decide +kernel
theorem d_Md_prove_14 : decode c_Md_prove 14 = .ok (.aload_n 0, 1) := by decide +kernel
theorem d_Md_prove_15 : decode c_Md_prove 15 = .ok (.getfield 26, 3) := by decide +kernel
theorem d_Md_prove_18 : decode c_Md_prove 18 = .ok (.iload_n 1, 1) := by decide +kernel
theorem d_Md_prove_19 : decode c_Md_prove 19 = .ok (.aload_n 0, 1) := by decide +kernel
theorem d_Md_prove_20 : decode c_Md_prove 20 = .ok (.getfield 256, 3) := by decide +kernel
theorem d_Md_prove_23 : decode c_Md_prove 23 = .ok (.iload_n 2, 1) := by decide +kernel
theorem d_Md_prove_24 : decode c_Md_prove 24 = .ok (.ifCond .eq 7, 3) := by decide +kernel
theorem d_Md_prove_27 : decode c_Md_prove 27 = .ok (.iconst 3, 1) := by decide +kernel
theorem d_Md_prove_28 : decode c_Md_prove 28 = .ok (.goto 5, 3) := by decide +kernel
theorem d_Md_prove_31 : decode c_Md_prove 31 = .ok (.bipush 8, 2) := by decide +kernel
theorem d_Md_prove_33 : decode c_Md_prove 33 = .ok (.iadd, 1) := by decide +kernel
theorem d_Md_prove_34 : decode c_Md_prove 34 = .ok (.iastore, 1) := by decide +kernel
theorem d_Md_prove_35 : decode c_Md_prove 35 = .ok (.return_, 1) := by decide +kernel
def f_Md_prove_33 (a : Nat) (t0 : Option Nat) (t1 : Int32) (t2 : Int32) (t3 : Int32) : sn_M := b_I 31 t0 t1 (t2 + t3) (r_V)
set_option maxHeartbeats 4000000 in
set_option maxRecDepth 100000 in
theorem mono_Md_prove_33 (a : Nat) (t0 : Option Nat) (t1 : Int32) (t2 : Int32) (t3 : Int32) : sn_Mono (f_Md_prove_33 a t0 t1 t2 t3) := sn_Mono.bI (sn_Mono.rV)
set_option maxHeartbeats 4000000 in
set_option maxRecDepth 100000 in
theorem s_Md_prove_33 {X : sn_X} (C : sn_Cx X c_Md_prove "SignalNetworkModel" none "prove" 3 0 0) (a : Nat) (t0 : Option Nat) (t1 : Int32) (t2 : Int32) (t3 : Int32) : sn_S X 33 [(0, vA (some a))] [vI t3, vI t2, vI t1, vA t0] (f_Md_prove_33 a t0 t1 t2 t3) := by
  unfold f_Md_prove_33
  refine r_iadd (q := 34) C d_Md_prove_33 rfl ?_
  refine r_bI (q := 35) C (Or.inr rfl) d_Md_prove_34 rfl ?_
  exact r_vret C d_Md_prove_35 rfl
def f_Md_prove (a : Nat) (x1 : Int32) (x2 : Int32) : sn_M := g_R 12 24 (some a) fun v1 => b_Z 33 v1 x1 x2 (g_R 12 18 (some a) fun v2 => b_I 31 v2 x1 (0 : Int32) (g_R 12 11 (some a) fun v3 => g_I 12 6 (some a) fun v4 => (if x2 = 0 then f_Md_prove_33 a v3 x1 v4 (8 : Int32) else f_Md_prove_33 a v3 x1 v4 (3 : Int32))))
set_option maxHeartbeats 4000000 in
set_option maxRecDepth 100000 in
theorem mono_Md_prove (a : Nat) (x1 : Int32) (x2 : Int32) : sn_Mono (f_Md_prove a x1 x2) := sn_Mono.gR (fun v1 => sn_Mono.bZ (sn_Mono.gR (fun v2 => sn_Mono.bI (sn_Mono.gR (fun v3 => sn_Mono.gI (fun v4 => sn_Mono.ite (mono_Md_prove_33 a v3 x1 v4 (8 : Int32)) (mono_Md_prove_33 a v3 x1 v4 (3 : Int32))))))))
set_option maxHeartbeats 4000000 in
set_option maxRecDepth 100000 in
theorem con_Md_prove (a : Nat) (x1 : Int32) (x2 : Int32) : sn_Con y_Md_prove c_Md_prove 3 none 0 0 [vA (some a), vI x1, vI x2] (f_Md_prove a x1 x2) := by
  refine sn_Con.of (by decide +kernel) (by show _ ≤ _; exact Nat.le_of_ble_eq_true rfl) (mono_Md_prove a x1 x2) (fun X C => ?_)
  show sn_S X 0 [(0, vA (some a)), (1, vI x1), (2, vI x2)] [] _
  replace C : sn_Cx X c_Md_prove "SignalNetworkModel" none "prove" 3 0 0 := C
  unfold f_Md_prove
  refine r_aload_n (q := 1) (i := 0) (pl := 0) C d_Md_prove_0 rfl rfl rfl ?_
  refine r_gR (q := 4) C d_Md_prove_1 rfl F_Md_65 rfl (fun v1 => ?_)
  refine r_iload_n (q := 5) (i := 1) (pl := 1) C d_Md_prove_4 rfl rfl rfl ?_
  refine r_iload_n (q := 6) (i := 2) (pl := 2) C d_Md_prove_5 rfl rfl rfl ?_
  refine r_bZ (q := 7) C (Or.inr rfl) d_Md_prove_6 rfl ?_
  refine r_aload_n (q := 8) (i := 0) (pl := 0) C d_Md_prove_7 rfl rfl rfl ?_
  refine r_gR (q := 11) C d_Md_prove_8 rfl F_Md_47 rfl (fun v2 => ?_)
  refine r_iload_n (q := 12) (i := 1) (pl := 1) C d_Md_prove_11 rfl rfl rfl ?_
  refine r_iconst (q := 13) (v := 0) C d_Md_prove_12 rfl (by decide) ?_
  refine r_bI (q := 14) C (Or.inr rfl) d_Md_prove_13 rfl ?_
  refine r_aload_n (q := 15) (i := 0) (pl := 0) C d_Md_prove_14 rfl rfl rfl ?_
  refine r_gR (q := 18) C d_Md_prove_15 rfl F_Md_26 rfl (fun v3 => ?_)
  refine r_iload_n (q := 19) (i := 1) (pl := 1) C d_Md_prove_18 rfl rfl rfl ?_
  refine r_aload_n (q := 20) (i := 0) (pl := 0) C d_Md_prove_19 rfl rfl rfl ?_
  refine r_gI (q := 23) C d_Md_prove_20 rfl F_Md_256 rfl (fun v4 => ?_)
  refine r_iload_n (q := 24) (i := 2) (pl := 2) C d_Md_prove_23 rfl rfl rfl ?_
  refine r_if_eq (tgt := 31) (q := 27) C d_Md_prove_24 (by decide) rfl ?_ ?_
  · refine r_bipush (q := 33) (v := 8) C d_Md_prove_31 rfl (by decide) ?_
    refine r_sub (lv' := [(0, vA (some a))]) [0] rfl ?_
    exact s_Md_prove_33 C a v3 x1 v4 (8 : Int32)
  · refine r_iconst (q := 28) (v := 3) C d_Md_prove_27 rfl (by decide) ?_
    refine r_goto (tgt := 33) C d_Md_prove_28 (by decide) ?_
    refine r_sub (lv' := [(0, vA (some a))]) [0] rfl ?_
    exact s_Md_prove_33 C a v3 x1 v4 (3 : Int32)
theorem d_Md_proving_0 : decode c_Md_proving 0 = .ok (.iload_n 2, 1) := by decide +kernel
theorem d_Md_proving_1 : decode c_Md_proving 1 = .ok (.ifCond .eq 80, 3) := by decide +kernel
theorem d_Md_proving_4 : decode c_Md_proving 4 = .ok (.aload_n 0, 1) := by decide +kernel
theorem d_Md_proving_5 : decode c_Md_proving 5 = .ok (.getfield 47, 3) := by decide +kernel
theorem d_Md_proving_8 : decode c_Md_proving 8 = .ok (.iload_n 1, 1) := by decide +kernel
theorem d_Md_proving_9 : decode c_Md_proving 9 = .ok (.dup2, 1) := by decide +kernel
theorem d_Md_proving_10 : decode c_Md_proving 10 = .ok (.iaload, 1) := by decide +kernel
theorem d_Md_proving_11 : decode c_Md_proving 11 = .ok (.iconst 1, 1) := by decide +kernel
theorem d_Md_proving_12 : decode c_Md_proving 12 = .ok (.iadd, 1) := by decide +kernel
theorem d_Md_proving_13 : decode c_Md_proving 13 = .ok (.iastore, 1) := by decide +kernel
theorem d_Md_proving_14 : decode c_Md_proving 14 = .ok (.aload_n 0, 1) := by decide +kernel
theorem d_Md_proving_15 : decode c_Md_proving 15 = .ok (.getfield 47, 3) := by decide +kernel
theorem d_Md_proving_18 : decode c_Md_proving 18 = .ok (.iload_n 1, 1) := by decide +kernel
theorem d_Md_proving_19 : decode c_Md_proving 19 = .ok (.iaload, 1) := by decide +kernel
theorem d_Md_proving_20 : decode c_Md_proving 20 = .ok (.aload_n 0, 1) := by decide +kernel
theorem d_Md_proving_21 : decode c_Md_proving 21 = .ok (.getfield 65, 3) := by decide +kernel
theorem d_Md_proving_24 : decode c_Md_proving 24 = .ok (.iload_n 1, 1) := by decide +kernel
theorem d_Md_proving_25 : decode c_Md_proving 25 = .ok (.baload, 1) := by decide +kernel
theorem d_Md_proving_26 : decode c_Md_proving 26 = .ok (.ifCond .eq 7, 3) := by decide +kernel
theorem d_Md_proving_29 : decode c_Md_proving 29 = .ok (.iconst 1, 1) := by decide +kernel
theorem d_Md_proving_30 : decode c_Md_proving 30 = .ok (.goto 4, 3) := by decide +kernel
theorem d_Md_proving_33 : decode c_Md_proving 33 = .ok (.iconst 2, 1) := by decide +kernel
theorem d_Md_proving_34 : decode c_Md_proving 34 = .ok (.if_icmp .ge 4, 3) := by decide +kernel
theorem d_Md_proving_37 : decode c_Md_proving 37 = .ok (.return_, 1) := by decide +kernel
theorem d_Md_proving_38 : decode c_Md_proving 38 = .ok (.aload_n 0, 1) := by decide +kernel
theorem d_Md_proving_39 : decode c_Md_proving 39 = .ok (.getfield 44, 3) := by decide +kernel
theorem d_Md_proving_42 : decode c_Md_proving 42 = .ok (.iload_n 1, 1) := by decide +kernel
theorem d_Md_proving_43 : decode c_Md_proving 43 = .ok (.dup2, 1) := by decide +kernel
theorem d_Md_proving_44 : decode c_Md_proving 44 = .ok (.iaload, 1) := by decide +kernel
theorem d_Md_proving_45 : decode c_Md_proving 45 = .ok (.iconst 1, 1) := by decide +kernel
theorem d_Md_proving_46 : decode c_Md_proving 46 = .ok (.iadd, 1) := by decide +kernel
theorem d_Md_proving_47 : decode c_Md_proving 47 = .ok (.iastore, 1) := by decide +kernel
theorem d_Md_proving_48 : decode c_Md_proving 48 = .ok (.aload_n 0, 1) := by decide +kernel
theorem d_Md_proving_49 : decode c_Md_proving 49 = .ok (.getfield 44, 3) := by decide +kernel
theorem d_Md_proving_52 : decode c_Md_proving 52 = .ok (.iload_n 1, 1) := by decide +kernel
theorem d_Md_proving_53 : decode c_Md_proving 53 = .ok (.iaload, 1) := by decide +kernel
theorem d_Md_proving_54 : decode c_Md_proving 54 = .ok (.iconst 5, 1) := by decide +kernel
theorem d_Md_proving_55 : decode c_Md_proving 55 = .ok (.if_icmp .ne 12, 3) := by decide +kernel
theorem d_Md_proving_58 : decode c_Md_proving 58 = .ok (.aload_n 0, 1) := by decide +kernel
theorem d_Md_proving_59 : decode c_Md_proving 59 = .ok (.iload_n 1, 1) := by decide +kernel
theorem d_Md_proving_60 : decode c_Md_proving 60 = .ok (.iconst 0, 1) := by decide +kernel
theorem d_Md_proving_61 : decode c_Md_proving 61 = .ok (.invokevirtual 275, 3) := by decide +kernel
theorem d_Md_proving_64 : decode c_Md_proving 64 = .ok (.goto 63, 3) := by decide +kernel
theorem d_Md_proving_67 : decode c_Md_proving 67 = .ok (.aload_n 0, 1) := by decide +kernel
theorem d_Md_proving_68 : decode c_Md_proving 68 = .ok (.iload_n 1, 1) := by decide +kernel
theorem d_Md_proving_69 : decode c_Md_proving 69 = .ok (.aload_n 0, 1) := by decide +kernel
theorem d_Md_proving_70 : decode c_Md_proving 70 = .ok (.getfield 65, 3) := by decide +kernel
theorem d_Md_proving_73 : decode c_Md_proving 73 = .ok (.iload_n 1, 1) := by decide +kernel
theorem d_Md_proving_74 : decode c_Md_proving 74 = .ok (.baload, 1) := by decide +kernel
theorem d_Md_proving_75 : decode c_Md_proving 75 = .ok (.invokevirtual 279, 3) := by decide +kernel
theorem d_Md_proving_78 : decode c_Md_proving 78 = .ok (.goto 49, 3) := by decide +kernel
theorem d_Md_proving_81 : decode c_Md_proving 81 = .ok (.iload_n 3, 1) := by decide +kernel
theorem d_Md_proving_82 : decode c_Md_proving 82 = .ok (.iconst 1, 1) := by decide +kernel
theorem d_Md_proving_83 : decode c_Md_proving 83 = .ok (.if_icmp .ne 11, 3) := by decide +kernel
theorem d_Md_proving_86 : decode c_Md_proving 86 = .ok (.aload_n 0, 1) := by decide +kernel
theorem d_Md_proving_87 : decode c_Md_proving 87 = .ok (.iload_n 1, 1) := by decide +kernel
theorem d_Md_proving_88 : decode c_Md_proving 88 = .ok (.invokevirtual 272, 3) := by decide +kernel
theorem d_Md_proving_91 : decode c_Md_proving 91 = .ok (.goto 36, 3) := by decide +kernel
theorem d_Md_proving_94 : decode c_Md_proving 94 = .ok (.iload_n 3, 1) := by decide +kernel
theorem d_Md_proving_95 : decode c_Md_proving 95 = .ok (.iconst 3, 1) := by decide +kernel
theorem d_Md_proving_96 : decode c_Md_proving 96 = .ok (.if_icmp .ne 21, 3) := by decide +kernel
theorem d_Md_proving_99 : decode c_Md_proving 99 = .ok (.aload_n 0, 1) := by decide +kernel
theorem d_Md_proving_100 : decode c_Md_proving 100 = .ok (.getfield 65, 3) := by decide +kernel
theorem d_Md_proving_103 : decode c_Md_proving 103 = .ok (.iload_n 1, 1) := by decide +kernel
theorem d_Md_proving_104 : decode c_Md_proving 104 = .ok (.baload, 1) := by decide +kernel
theorem d_Md_proving_105 : decode c_Md_proving 105 = .ok (.ifCond .ne 12, 3) := by decide +kernel
theorem d_Md_proving_108 : decode c_Md_proving 108 = .ok (.aload_n 0, 1) := by decide +kernel
theorem d_Md_proving_109 : decode c_Md_proving 109 = .ok (.iload_n 1, 1) := by decide +kernel
theorem d_Md_proving_110 : decode c_Md_proving 110 = .ok (.iconst 1, 1) := by decide +kernel
theorem d_Md_proving_111 : decode c_Md_proving 111 = .ok (.invokevirtual 279, 3) := by decide +kernel
theorem d_Md_proving_114 : decode c_Md_proving 114 = .ok (.goto 13, 3) := by decide +kernel
theorem d_Md_proving_117 : decode c_Md_proving 117 = .ok (.iload_n 3, 1) := by decide +kernel
theorem d_Md_proving_118 : decode c_Md_proving 118 = .ok (.ifCond .ne 9, 3) := by decide +kernel
theorem d_Md_proving_121 : decode c_Md_proving 121 = .ok (.aload_n 0, 1) := by decide +kernel
theorem d_Md_proving_122 : decode c_Md_proving 122 = .ok (.iload_n 1, 1) := by decide +kernel
theorem d_Md_proving_123 : decode c_Md_proving 123 = .ok (.iconst 0, 1) := by decide +kernel
theorem d_Md_proving_124 : decode c_Md_proving 124 = .ok (.invokevirtual 275, 3) := by decide +kernel
theorem d_Md_proving_127 : decode c_Md_proving 127 = .ok (.return_, 1) := by decide +kernel
def f_Md_proving_127 (a : Nat) : sn_M := r_V
set_option maxHeartbeats 4000000 in
set_option maxRecDepth 100000 in
theorem mono_Md_proving_127 (a : Nat) : sn_Mono (f_Md_proving_127 a) := sn_Mono.rV
set_option maxHeartbeats 4000000 in
set_option maxRecDepth 100000 in
theorem s_Md_proving_127 {X : sn_X} (C : sn_Cx X c_Md_proving "SignalNetworkModel" none "proving" 4 6 148) (a : Nat) : sn_S X 127 [(0, vA (some a))] [] (f_Md_proving_127 a) := by
  unfold f_Md_proving_127
  exact r_vret C d_Md_proving_127 rfl
def f_Md_proving_34 (a : Nat) (x1 : Int32) (t0 : Int32) (t1 : Int32) : sn_M := (if t1 ≤ t0 then g_R 12 17 (some a) fun v1 => a_I 31 v1 x1 fun v2 => b_I 31 v1 x1 (v2 + (1 : Int32)) (g_R 12 17 (some a) fun v3 => a_I 31 v3 x1 fun v4 => (if ¬ v4 = (5 : Int32) then g_R 12 24 (some a) fun v5 => a_I 33 v5 x1 fun v6 => n_n 12 (some a) fun a7 => c_V (f_Md_prove a7 x1 v6) (f_Md_proving_127 a) else n_n 12 (some a) fun a9 => c_V (f_Md_fail a9 x1 (0 : Int32)) (f_Md_proving_127 a))) else r_V)
set_option maxHeartbeats 4000000 in
set_option maxRecDepth 100000 in
theorem mono_Md_proving_34 (a : Nat) (x1 : Int32) (t0 : Int32) (t1 : Int32) : sn_Mono (f_Md_proving_34 a x1 t0 t1) := sn_Mono.ite (sn_Mono.gR (fun v1 => sn_Mono.aI (fun v2 => sn_Mono.bI (sn_Mono.gR (fun v3 => sn_Mono.aI (fun v4 => sn_Mono.ite (sn_Mono.gR (fun v5 => sn_Mono.aI (fun v6 => sn_Mono.nn (fun a7 => sn_Mono.cV (mono_Md_prove a7 x1 v6) (mono_Md_proving_127 a))))) (sn_Mono.nn (fun a9 => sn_Mono.cV (mono_Md_fail a9 x1 (0 : Int32)) (mono_Md_proving_127 a))))))))) (sn_Mono.rV)
set_option maxHeartbeats 4000000 in
set_option maxRecDepth 100000 in
theorem s_Md_proving_34 {X : sn_X} (C : sn_Cx X c_Md_proving "SignalNetworkModel" none "proving" 4 6 148) (a : Nat) (x1 : Int32) (t0 : Int32) (t1 : Int32) : sn_S X 34 [(0, vA (some a)), (1, vI x1)] [vI t1, vI t0] (f_Md_proving_34 a x1 t0 t1) := by
  unfold f_Md_proving_34
  refine r_icmp_ge (tgt := 38) (q := 37) C d_Md_proving_34 (by decide) rfl ?_ ?_
  · refine r_aload_n (q := 39) (i := 0) (pl := 0) C d_Md_proving_38 rfl rfl rfl ?_
    refine r_gR (q := 42) C d_Md_proving_39 rfl F_Md_44 rfl (fun v1 => ?_)
    refine r_iload_n (q := 43) (i := 1) (pl := 1) C d_Md_proving_42 rfl rfl rfl ?_
    refine r_dup2 (q := 44) C d_Md_proving_43 rfl rfl rfl ?_
    refine r_aI (q := 45) C (Or.inr rfl) d_Md_proving_44 rfl (fun v2 => ?_)
    refine r_iconst (q := 46) (v := 1) C d_Md_proving_45 rfl (by decide) ?_
    refine r_iadd (q := 47) C d_Md_proving_46 rfl ?_
    refine r_bI (q := 48) C (Or.inr rfl) d_Md_proving_47 rfl ?_
    refine r_aload_n (q := 49) (i := 0) (pl := 0) C d_Md_proving_48 rfl rfl rfl ?_
    refine r_gR (q := 52) C d_Md_proving_49 rfl F_Md_44 rfl (fun v3 => ?_)
    refine r_iload_n (q := 53) (i := 1) (pl := 1) C d_Md_proving_52 rfl rfl rfl ?_
    refine r_aI (q := 54) C (Or.inr rfl) d_Md_proving_53 rfl (fun v4 => ?_)
    refine r_iconst (q := 55) (v := 5) C d_Md_proving_54 rfl (by decide) ?_
    refine r_icmp_ne (tgt := 67) (q := 58) C d_Md_proving_55 (by decide) rfl ?_ ?_
    · refine r_aload_n (q := 68) (i := 0) (pl := 0) C d_Md_proving_67 rfl rfl rfl ?_
      refine r_iload_n (q := 69) (i := 1) (pl := 1) C d_Md_proving_68 rfl rfl rfl ?_
      refine r_aload_n (q := 70) (i := 0) (pl := 0) C d_Md_proving_69 rfl rfl rfl ?_
      refine r_gR (q := 73) C d_Md_proving_70 rfl F_Md_65 rfl (fun v5 => ?_)
      refine r_iload_n (q := 74) (i := 1) (pl := 1) C d_Md_proving_73 rfl rfl rfl ?_
      refine r_aZ (q := 75) C (Or.inr rfl) d_Md_proving_74 rfl (fun v6 => ?_)
      refine r_cvV (q := 78) (As := [vI x1, vI v6]) (st := []) (cy := 11) C d_Md_proving_75 rfl Y_Md_prove L_Md_279 I_Md_prove Se_Md_prove rfl (by decide) rfl (Nat.le_of_ble_eq_true rfl) (Nat.le_of_ble_eq_true rfl) (Nat.le_of_ble_eq_true rfl) rfl (fun a7 => con_Md_prove a7 x1 v6) ?_
      refine r_goto (tgt := 127) C d_Md_proving_78 (by decide) ?_
      refine r_sub (lv' := [(0, vA (some a))]) [0] rfl ?_
      exact s_Md_proving_127 C a
    · refine r_aload_n (q := 59) (i := 0) (pl := 0) C d_Md_proving_58 rfl rfl rfl ?_
      refine r_iload_n (q := 60) (i := 1) (pl := 1) C d_Md_proving_59 rfl rfl rfl ?_
      refine r_iconst (q := 61) (v := 0) C d_Md_proving_60 rfl (by decide) ?_
      refine r_cvV (q := 64) (As := [vI x1, vI (0 : Int32)]) (st := []) (cy := 11) C d_Md_proving_61 rfl Y_Md_fail L_Md_275 I_Md_fail Se_Md_fail rfl (by decide) rfl (Nat.le_of_ble_eq_true rfl) (Nat.le_of_ble_eq_true rfl) (Nat.le_of_ble_eq_true rfl) rfl (fun a9 => con_Md_fail a9 x1 (0 : Int32)) ?_
      refine r_goto (tgt := 127) C d_Md_proving_64 (by decide) ?_
      refine r_sub (lv' := [(0, vA (some a))]) [0] rfl ?_
      exact s_Md_proving_127 C a
  · exact r_vret C d_Md_proving_37 rfl
def f_Md_proving_117 (a : Nat) (x1 : Int32) (x3 : Int32) : sn_M := (if ¬ x3 = 0 then f_Md_proving_127 a else n_n 12 (some a) fun a11 => c_V (f_Md_fail a11 x1 (0 : Int32)) (f_Md_proving_127 a))
set_option maxHeartbeats 4000000 in
set_option maxRecDepth 100000 in
theorem mono_Md_proving_117 (a : Nat) (x1 : Int32) (x3 : Int32) : sn_Mono (f_Md_proving_117 a x1 x3) := sn_Mono.ite (mono_Md_proving_127 a) (sn_Mono.nn (fun a11 => sn_Mono.cV (mono_Md_fail a11 x1 (0 : Int32)) (mono_Md_proving_127 a)))
set_option maxHeartbeats 4000000 in
set_option maxRecDepth 100000 in
theorem s_Md_proving_117 {X : sn_X} (C : sn_Cx X c_Md_proving "SignalNetworkModel" none "proving" 4 6 148) (a : Nat) (x1 : Int32) (x3 : Int32) : sn_S X 117 [(0, vA (some a)), (1, vI x1), (3, vI x3)] [] (f_Md_proving_117 a x1 x3) := by
  unfold f_Md_proving_117
  refine r_iload_n (q := 118) (i := 3) (pl := 2) C d_Md_proving_117 rfl rfl rfl ?_
  refine r_if_ne (tgt := 127) (q := 121) C d_Md_proving_118 (by decide) rfl ?_ ?_
  · refine r_sub (lv' := [(0, vA (some a))]) [0] rfl ?_
    exact s_Md_proving_127 C a
  · refine r_aload_n (q := 122) (i := 0) (pl := 0) C d_Md_proving_121 rfl rfl rfl ?_
    refine r_iload_n (q := 123) (i := 1) (pl := 1) C d_Md_proving_122 rfl rfl rfl ?_
    refine r_iconst (q := 124) (v := 0) C d_Md_proving_123 rfl (by decide) ?_
    refine r_cvV (q := 127) (As := [vI x1, vI (0 : Int32)]) (st := []) (cy := 11) C d_Md_proving_124 rfl Y_Md_fail L_Md_275 I_Md_fail Se_Md_fail rfl (by decide) rfl (Nat.le_of_ble_eq_true rfl) (Nat.le_of_ble_eq_true rfl) (Nat.le_of_ble_eq_true rfl) rfl (fun a11 => con_Md_fail a11 x1 (0 : Int32)) ?_
    refine r_sub (lv' := [(0, vA (some a))]) [0] rfl ?_
    exact s_Md_proving_127 C a
def f_Md_proving (a : Nat) (x1 : Int32) (x2 : Int32) (x3 : Int32) : sn_M := (if x2 = 0 then (if ¬ x3 = (1 : Int32) then (if ¬ x3 = (3 : Int32) then f_Md_proving_117 a x1 x3 else g_R 12 24 (some a) fun v13 => a_I 33 v13 x1 fun v14 => (if ¬ v14 = 0 then f_Md_proving_117 a x1 x3 else n_n 12 (some a) fun a15 => c_V (f_Md_prove a15 x1 (1 : Int32)) (f_Md_proving_127 a))) else n_n 12 (some a) fun a17 => c_V (f_Md_align a17 x1) (f_Md_proving_127 a)) else g_R 12 18 (some a) fun v19 => a_I 31 v19 x1 fun v20 => b_I 31 v19 x1 (v20 + (1 : Int32)) (g_R 12 18 (some a) fun v21 => a_I 31 v21 x1 fun v22 => g_R 12 24 (some a) fun v23 => a_I 33 v23 x1 fun v24 => (if v24 = 0 then f_Md_proving_34 a x1 v22 (2 : Int32) else f_Md_proving_34 a x1 v22 (1 : Int32))))
set_option maxHeartbeats 4000000 in
set_option maxRecDepth 100000 in
theorem mono_Md_proving (a : Nat) (x1 : Int32) (x2 : Int32) (x3 : Int32) : sn_Mono (f_Md_proving a x1 x2 x3) := sn_Mono.ite (sn_Mono.ite (sn_Mono.ite (mono_Md_proving_117 a x1 x3) (sn_Mono.gR (fun v13 => sn_Mono.aI (fun v14 => sn_Mono.ite (mono_Md_proving_117 a x1 x3) (sn_Mono.nn (fun a15 => sn_Mono.cV (mono_Md_prove a15 x1 (1 : Int32)) (mono_Md_proving_127 a))))))) (sn_Mono.nn (fun a17 => sn_Mono.cV (mono_Md_align a17 x1) (mono_Md_proving_127 a)))) (sn_Mono.gR (fun v19 => sn_Mono.aI (fun v20 => sn_Mono.bI (sn_Mono.gR (fun v21 => sn_Mono.aI (fun v22 => sn_Mono.gR (fun v23 => sn_Mono.aI (fun v24 => sn_Mono.ite (mono_Md_proving_34 a x1 v22 (2 : Int32)) (mono_Md_proving_34 a x1 v22 (1 : Int32))))))))))
set_option maxHeartbeats 4000000 in
set_option maxRecDepth 100000 in
theorem con_Md_proving (a : Nat) (x1 : Int32) (x2 : Int32) (x3 : Int32) : sn_Con y_Md_proving c_Md_proving 4 none 6 148 [vA (some a), vI x1, vI x2, vI x3] (f_Md_proving a x1 x2 x3) := by
  refine sn_Con.of (by decide +kernel) (by show _ ≤ _; exact Nat.le_of_ble_eq_true rfl) (mono_Md_proving a x1 x2 x3) (fun X C => ?_)
  show sn_S X 0 [(0, vA (some a)), (1, vI x1), (2, vI x2), (3, vI x3)] [] _
  replace C : sn_Cx X c_Md_proving "SignalNetworkModel" none "proving" 4 6 148 := C
  unfold f_Md_proving
  refine r_iload_n (q := 1) (i := 2) (pl := 2) C d_Md_proving_0 rfl rfl rfl ?_
  refine r_if_eq (tgt := 81) (q := 4) C d_Md_proving_1 (by decide) rfl ?_ ?_
  · refine r_iload_n (q := 82) (i := 3) (pl := 3) C d_Md_proving_81 rfl rfl rfl ?_
    refine r_iconst (q := 83) (v := 1) C d_Md_proving_82 rfl (by decide) ?_
    refine r_icmp_ne (tgt := 94) (q := 86) C d_Md_proving_83 (by decide) rfl ?_ ?_
    · refine r_iload_n (q := 95) (i := 3) (pl := 3) C d_Md_proving_94 rfl rfl rfl ?_
      refine r_iconst (q := 96) (v := 3) C d_Md_proving_95 rfl (by decide) ?_
      refine r_icmp_ne (tgt := 117) (q := 99) C d_Md_proving_96 (by decide) rfl ?_ ?_
      · refine r_sub (lv' := [(0, vA (some a)), (1, vI x1), (3, vI x3)]) [0, 1, 3] rfl ?_
        exact s_Md_proving_117 C a x1 x3
      · refine r_aload_n (q := 100) (i := 0) (pl := 0) C d_Md_proving_99 rfl rfl rfl ?_
        refine r_gR (q := 103) C d_Md_proving_100 rfl F_Md_65 rfl (fun v13 => ?_)
        refine r_iload_n (q := 104) (i := 1) (pl := 1) C d_Md_proving_103 rfl rfl rfl ?_
        refine r_aZ (q := 105) C (Or.inr rfl) d_Md_proving_104 rfl (fun v14 => ?_)
        refine r_if_ne (tgt := 117) (q := 108) C d_Md_proving_105 (by decide) rfl ?_ ?_
        · refine r_sub (lv' := [(0, vA (some a)), (1, vI x1), (3, vI x3)]) [0, 1, 3] rfl ?_
          exact s_Md_proving_117 C a x1 x3
        · refine r_aload_n (q := 109) (i := 0) (pl := 0) C d_Md_proving_108 rfl rfl rfl ?_
          refine r_iload_n (q := 110) (i := 1) (pl := 1) C d_Md_proving_109 rfl rfl rfl ?_
          refine r_iconst (q := 111) (v := 1) C d_Md_proving_110 rfl (by decide) ?_
          refine r_cvV (q := 114) (As := [vI x1, vI (1 : Int32)]) (st := []) (cy := 11) C d_Md_proving_111 rfl Y_Md_prove L_Md_279 I_Md_prove Se_Md_prove rfl (by decide) rfl (Nat.le_of_ble_eq_true rfl) (Nat.le_of_ble_eq_true rfl) (Nat.le_of_ble_eq_true rfl) rfl (fun a15 => con_Md_prove a15 x1 (1 : Int32)) ?_
          refine r_goto (tgt := 127) C d_Md_proving_114 (by decide) ?_
          refine r_sub (lv' := [(0, vA (some a))]) [0] rfl ?_
          exact s_Md_proving_127 C a
    · refine r_aload_n (q := 87) (i := 0) (pl := 0) C d_Md_proving_86 rfl rfl rfl ?_
      refine r_iload_n (q := 88) (i := 1) (pl := 1) C d_Md_proving_87 rfl rfl rfl ?_
      refine r_cvV (q := 91) (As := [vI x1]) (st := []) (cy := 11) C d_Md_proving_88 rfl Y_Md_align L_Md_272 I_Md_align Se_Md_align rfl (by decide) rfl (Nat.le_of_ble_eq_true rfl) (Nat.le_of_ble_eq_true rfl) (Nat.le_of_ble_eq_true rfl) rfl (fun a17 => con_Md_align a17 x1) ?_
      refine r_goto (tgt := 127) C d_Md_proving_91 (by decide) ?_
      refine r_sub (lv' := [(0, vA (some a))]) [0] rfl ?_
      exact s_Md_proving_127 C a
  · refine r_aload_n (q := 5) (i := 0) (pl := 0) C d_Md_proving_4 rfl rfl rfl ?_
    refine r_gR (q := 8) C d_Md_proving_5 rfl F_Md_47 rfl (fun v19 => ?_)
    refine r_iload_n (q := 9) (i := 1) (pl := 1) C d_Md_proving_8 rfl rfl rfl ?_
    refine r_dup2 (q := 10) C d_Md_proving_9 rfl rfl rfl ?_
    refine r_aI (q := 11) C (Or.inr rfl) d_Md_proving_10 rfl (fun v20 => ?_)
    refine r_iconst (q := 12) (v := 1) C d_Md_proving_11 rfl (by decide) ?_
    refine r_iadd (q := 13) C d_Md_proving_12 rfl ?_
    refine r_bI (q := 14) C (Or.inr rfl) d_Md_proving_13 rfl ?_
    refine r_aload_n (q := 15) (i := 0) (pl := 0) C d_Md_proving_14 rfl rfl rfl ?_
    refine r_gR (q := 18) C d_Md_proving_15 rfl F_Md_47 rfl (fun v21 => ?_)
    refine r_iload_n (q := 19) (i := 1) (pl := 1) C d_Md_proving_18 rfl rfl rfl ?_
    refine r_aI (q := 20) C (Or.inr rfl) d_Md_proving_19 rfl (fun v22 => ?_)
    refine r_aload_n (q := 21) (i := 0) (pl := 0) C d_Md_proving_20 rfl rfl rfl ?_
    refine r_gR (q := 24) C d_Md_proving_21 rfl F_Md_65 rfl (fun v23 => ?_)
    refine r_iload_n (q := 25) (i := 1) (pl := 1) C d_Md_proving_24 rfl rfl rfl ?_
    refine r_aZ (q := 26) C (Or.inr rfl) d_Md_proving_25 rfl (fun v24 => ?_)
    refine r_if_eq (tgt := 33) (q := 29) C d_Md_proving_26 (by decide) rfl ?_ ?_
    · refine r_iconst (q := 34) (v := 2) C d_Md_proving_33 rfl (by decide) ?_
      refine r_sub (lv' := [(0, vA (some a)), (1, vI x1)]) [0, 1] rfl ?_
      exact s_Md_proving_34 C a x1 v22 (2 : Int32)
    · refine r_iconst (q := 30) (v := 1) C d_Md_proving_29 rfl (by decide) ?_
      refine r_goto (tgt := 34) C d_Md_proving_30 (by decide) ?_
      refine r_sub (lv' := [(0, vA (some a)), (1, vI x1)]) [0, 1] rfl ?_
      exact s_Md_proving_34 C a x1 v22 (1 : Int32)
theorem d_Md_acknowledge_0 : decode c_Md_acknowledge 0 = .ok (.iload_n 2, 1) := by decide +kernel
theorem d_Md_acknowledge_1 : decode c_Md_acknowledge 1 = .ok (.istore_n 3, 1) := by decide +kernel
theorem d_Md_acknowledge_2 : decode c_Md_acknowledge 2 = .ok (.iload_n 3, 1) := by decide +kernel
theorem d_Md_acknowledge_3 : decode c_Md_acknowledge 3 = .ok (.aload_n 0, 1) := by decide +kernel
theorem d_Md_acknowledge_4 : decode c_Md_acknowledge 4 = .ok (.getfield 75, 3) := by decide +kernel
theorem d_Md_acknowledge_7 : decode c_Md_acknowledge 7 = .ok (.iload_n 1, 1) := by decide +kernel
theorem d_Md_acknowledge_8 : decode c_Md_acknowledge 8 = .ok (.iaload, 1) := by decide +kernel
theorem d_Md_acknowledge_9 : decode c_Md_acknowledge 9 = .ok (.if_icmp .ge 57, 3) := by decide +kernel
theorem d_Md_acknowledge_12 : decode c_Md_acknowledge 12 = .ok (.aload_n 0, 1) := by decide +kernel
theorem d_Md_acknowledge_13 : decode c_Md_acknowledge 13 = .ok (.getfield 68, 3) := by decide +kernel
theorem d_Md_acknowledge_16 : decode c_Md_acknowledge 16 = .ok (.bipush 32, 2) := by decide +kernel
theorem d_Md_acknowledge_18 : decode c_Md_acknowledge 18 = .ok (.iload_n 1, 1) := by decide +kernel
theorem d_Md_acknowledge_19 : decode c_Md_acknowledge 19 = .ok (.imul, 1) := by decide +kernel
theorem d_Md_acknowledge_20 : decode c_Md_acknowledge 20 = .ok (.iload_n 3, 1) := by decide +kernel
theorem d_Md_acknowledge_21 : decode c_Md_acknowledge 21 = .ok (.iadd, 1) := by decide +kernel
theorem d_Md_acknowledge_22 : decode c_Md_acknowledge 22 = .ok (.iload_n 2, 1) := by decide +kernel
theorem d_Md_acknowledge_23 : decode c_Md_acknowledge 23 = .ok (.isub, 1) := by decide +kernel
theorem d_Md_acknowledge_24 : decode c_Md_acknowledge 24 = .ok (.aload_n 0, 1) := by decide +kernel
theorem d_Md_acknowledge_25 : decode c_Md_acknowledge 25 = .ok (.getfield 68, 3) := by decide +kernel
theorem d_Md_acknowledge_28 : decode c_Md_acknowledge 28 = .ok (.bipush 32, 2) := by decide +kernel
theorem d_Md_acknowledge_30 : decode c_Md_acknowledge 30 = .ok (.iload_n 1, 1) := by decide +kernel
theorem d_Md_acknowledge_31 : decode c_Md_acknowledge 31 = .ok (.imul, 1) := by decide +kernel
theorem d_Md_acknowledge_32 : decode c_Md_acknowledge 32 = .ok (.iload_n 3, 1) := by decide +kernel
theorem d_Md_acknowledge_33 : decode c_Md_acknowledge 33 = .ok (.iadd, 1) := by decide +kernel
theorem d_Md_acknowledge_34 : decode c_Md_acknowledge 34 = .ok (.laload, 1) := by decide +kernel
theorem d_Md_acknowledge_35 : decode c_Md_acknowledge 35 = .ok (.lastore, 1) := by decide +kernel
theorem d_Md_acknowledge_36 : decode c_Md_acknowledge 36 = .ok (.aload_n 0, 1) := by decide +kernel
theorem d_Md_acknowledge_37 : decode c_Md_acknowledge 37 = .ok (.getfield 72, 3) := by decide +kernel
theorem d_Md_acknowledge_40 : decode c_Md_acknowledge 40 = .ok (.bipush 32, 2) := by decide +kernel
theorem d_Md_acknowledge_42 : decode c_Md_acknowledge 42 = .ok (.iload_n 1, 1) := by decide +kernel
theorem d_Md_acknowledge_43 : decode c_Md_acknowledge 43 = .ok (.imul, 1) := by decide +kernel
theorem d_Md_acknowledge_44 : decode c_Md_acknowledge 44 = .ok (.iload_n 3, 1) := by decide +kernel
theorem d_Md_acknowledge_45 : decode c_Md_acknowledge 45 = .ok (.iadd, 1) := by decide +kernel
theorem d_Md_acknowledge_46 : decode c_Md_acknowledge 46 = .ok (.iload_n 2, 1) := by decide +kernel
theorem d_Md_acknowledge_47 : decode c_Md_acknowledge 47 = .ok (.isub, 1) := by decide +kernel
theorem d_Md_acknowledge_48 : decode c_Md_acknowledge 48 = .ok (.aload_n 0, 1) := by decide +kernel
theorem d_Md_acknowledge_49 : decode c_Md_acknowledge 49 = .ok (.getfield 72, 3) := by decide +kernel
theorem d_Md_acknowledge_52 : decode c_Md_acknowledge 52 = .ok (.bipush 32, 2) := by decide +kernel
theorem d_Md_acknowledge_54 : decode c_Md_acknowledge 54 = .ok (.iload_n 1, 1) := by decide +kernel
theorem d_Md_acknowledge_55 : decode c_Md_acknowledge 55 = .ok (.imul, 1) := by decide +kernel
theorem d_Md_acknowledge_56 : decode c_Md_acknowledge 56 = .ok (.iload_n 3, 1) := by decide +kernel
theorem d_Md_acknowledge_57 : decode c_Md_acknowledge 57 = .ok (.iadd, 1) := by decide +kernel
theorem d_Md_acknowledge_58 : decode c_Md_acknowledge 58 = .ok (.iaload, 1) := by decide +kernel
theorem d_Md_acknowledge_59 : decode c_Md_acknowledge 59 = .ok (.iastore, 1) := by decide +kernel
theorem d_Md_acknowledge_60 : decode c_Md_acknowledge 60 = .ok (.iinc 3 1, 3) := by decide +kernel
theorem d_Md_acknowledge_63 : decode c_Md_acknowledge 63 = .ok (.goto (-61), 3) := by decide +kernel
theorem d_Md_acknowledge_66 : decode c_Md_acknowledge 66 = .ok (.aload_n 0, 1) := by decide +kernel
theorem d_Md_acknowledge_67 : decode c_Md_acknowledge 67 = .ok (.getfield 75, 3) := by decide +kernel
theorem d_Md_acknowledge_70 : decode c_Md_acknowledge 70 = .ok (.iload_n 1, 1) := by decide +kernel
theorem d_Md_acknowledge_71 : decode c_Md_acknowledge 71 = .ok (.dup2, 1) := by decide +kernel
theorem d_Md_acknowledge_72 : decode c_Md_acknowledge 72 = .ok (.iaload, 1) := by decide +kernel
theorem d_Md_acknowledge_73 : decode c_Md_acknowledge 73 = .ok (.iload_n 2, 1) := by decide +kernel
theorem d_Md_acknowledge_74 : decode c_Md_acknowledge 74 = .ok (.isub, 1) := by decide +kernel
theorem d_Md_acknowledge_75 : decode c_Md_acknowledge 75 = .ok (.iastore, 1) := by decide +kernel
theorem d_Md_acknowledge_76 : decode c_Md_acknowledge 76 = .ok (.aload_n 0, 1) := by decide +kernel
theorem d_Md_acknowledge_77 : decode c_Md_acknowledge 77 = .ok (.getfield 56, 3) := by decide +kernel
theorem d_Md_acknowledge_80 : decode c_Md_acknowledge 80 = .ok (.iload_n 1, 1) := by decide +kernel
theorem d_Md_acknowledge_81 : decode c_Md_acknowledge 81 = .ok (.iaload, 1) := by decide +kernel
theorem d_Md_acknowledge_82 : decode c_Md_acknowledge 82 = .ok (.iconst (-1), 1) := by decide +kernel
theorem d_Md_acknowledge_83 : decode c_Md_acknowledge 83 = .ok (.if_icmp .eq 31, 3) := by decide +kernel
theorem d_Md_acknowledge_86 : decode c_Md_acknowledge 86 = .ok (.aload_n 0, 1) := by decide +kernel
theorem d_Md_acknowledge_87 : decode c_Md_acknowledge 87 = .ok (.getfield 56, 3) := by decide +kernel
theorem d_Md_acknowledge_90 : decode c_Md_acknowledge 90 = .ok (.iload_n 1, 1) := by decide +kernel
theorem d_Md_acknowledge_91 : decode c_Md_acknowledge 91 = .ok (.aload_n 0, 1) := by decide +kernel
theorem d_Md_acknowledge_92 : decode c_Md_acknowledge 92 = .ok (.getfield 56, 3) := by decide +kernel
theorem d_Md_acknowledge_95 : decode c_Md_acknowledge 95 = .ok (.iload_n 1, 1) := by decide +kernel
theorem d_Md_acknowledge_96 : decode c_Md_acknowledge 96 = .ok (.iaload, 1) := by decide +kernel
theorem d_Md_acknowledge_97 : decode c_Md_acknowledge 97 = .ok (.iload_n 2, 1) := by decide +kernel
theorem d_Md_acknowledge_98 : decode c_Md_acknowledge 98 = .ok (.if_icmp .le 14, 3) := by decide +kernel
theorem d_Md_acknowledge_101 : decode c_Md_acknowledge 101 = .ok (.aload_n 0, 1) := by decide +kernel
theorem d_Md_acknowledge_102 : decode c_Md_acknowledge 102 = .ok (.getfield 56, 3) := by decide +kernel
theorem d_Md_acknowledge_105 : decode c_Md_acknowledge 105 = .ok (.iload_n 1, 1) := by decide +kernel
theorem d_Md_acknowledge_106 : decode c_Md_acknowledge 106 = .ok (.iaload, 1) := by decide +kernel
theorem d_Md_acknowledge_107 : decode c_Md_acknowledge 107 = .ok (.iload_n 2, 1) := by decide +kernel
theorem d_Md_acknowledge_108 : decode c_Md_acknowledge 108 = .ok (.isub, 1) := by decide +kernel
theorem d_Md_acknowledge_109 : decode c_Md_acknowledge 109 = .ok (.goto 4, 3) := by decide +kernel
theorem d_Md_acknowledge_112 : decode c_Md_acknowledge 112 = .ok (.iconst 0, 1) := by decide +kernel
theorem d_Md_acknowledge_113 : decode c_Md_acknowledge 113 = .ok (.iastore, 1) := by decide +kernel
theorem d_Md_acknowledge_114 : decode c_Md_acknowledge 114 = .ok (.aload_n 0, 1) := by decide +kernel
theorem d_Md_acknowledge_115 : decode c_Md_acknowledge 115 = .ok (.getfield 56, 3) := by decide +kernel
theorem d_Md_acknowledge_118 : decode c_Md_acknowledge 118 = .ok (.iload_n 1, 1) := by decide +kernel
theorem d_Md_acknowledge_119 : decode c_Md_acknowledge 119 = .ok (.iaload, 1) := by decide +kernel
theorem d_Md_acknowledge_120 : decode c_Md_acknowledge 120 = .ok (.aload_n 0, 1) := by decide +kernel
theorem d_Md_acknowledge_121 : decode c_Md_acknowledge 121 = .ok (.getfield 75, 3) := by decide +kernel
theorem d_Md_acknowledge_124 : decode c_Md_acknowledge 124 = .ok (.iload_n 1, 1) := by decide +kernel
theorem d_Md_acknowledge_125 : decode c_Md_acknowledge 125 = .ok (.iaload, 1) := by decide +kernel
theorem d_Md_acknowledge_126 : decode c_Md_acknowledge 126 = .ok (.if_icmp .lt 10, 3) := by decide +kernel
theorem d_Md_acknowledge_129 : decode c_Md_acknowledge 129 = .ok (.aload_n 0, 1) := by decide +kernel
theorem d_Md_acknowledge_130 : decode c_Md_acknowledge 130 = .ok (.getfield 56, 3) := by decide +kernel
theorem d_Md_acknowledge_133 : decode c_Md_acknowledge 133 = .ok (.iload_n 1, 1) := by decide +kernel
theorem d_Md_acknowledge_134 : decode c_Md_acknowledge 134 = .ok (.iconst (-1), 1) := by decide +kernel
theorem d_Md_acknowledge_135 : decode c_Md_acknowledge 135 = .ok (.iastore, 1) := by decide +kernel
theorem d_Md_acknowledge_136 : decode c_Md_acknowledge 136 = .ok (.return_, 1) := by decide +kernel
def f_Md_acknowledge_136 (a : Nat) : sn_M := r_V
set_option maxHeartbeats 4000000 in
set_option maxRecDepth 100000 in
theorem mono_Md_acknowledge_136 (a : Nat) : sn_Mono (f_Md_acknowledge_136 a) := sn_Mono.rV
set_option maxHeartbeats 4000000 in
set_option maxRecDepth 100000 in
theorem s_Md_acknowledge_136 {X : sn_X} (C : sn_Cx X c_Md_acknowledge "SignalNetworkModel" none "acknowledge" 4 0 0) (a : Nat) : sn_S X 136 [(0, vA (some a))] [] (f_Md_acknowledge_136 a) := by
  unfold f_Md_acknowledge_136
  exact r_vret C d_Md_acknowledge_136 rfl
def f_Md_acknowledge_114 (a : Nat) (x1 : Int32) : sn_M := g_R 12 21 (some a) fun v1 => a_I 31 v1 x1 fun v2 => g_R 12 27 (some a) fun v3 => a_I 31 v3 x1 fun v4 => (if v2 < v4 then f_Md_acknowledge_136 a else g_R 12 21 (some a) fun v5 => b_I 31 v5 x1 (-1 : Int32) (f_Md_acknowledge_136 a))
set_option maxHeartbeats 4000000 in
set_option maxRecDepth 100000 in
theorem mono_Md_acknowledge_114 (a : Nat) (x1 : Int32) : sn_Mono (f_Md_acknowledge_114 a x1) := sn_Mono.gR (fun v1 => sn_Mono.aI (fun v2 => sn_Mono.gR (fun v3 => sn_Mono.aI (fun v4 => sn_Mono.ite (mono_Md_acknowledge_136 a) (sn_Mono.gR (fun v5 => sn_Mono.bI (mono_Md_acknowledge_136 a)))))))
set_option maxHeartbeats 4000000 in
set_option maxRecDepth 100000 in
theorem s_Md_acknowledge_114 {X : sn_X} (C : sn_Cx X c_Md_acknowledge "SignalNetworkModel" none "acknowledge" 4 0 0) (a : Nat) (x1 : Int32) : sn_S X 114 [(0, vA (some a)), (1, vI x1)] [] (f_Md_acknowledge_114 a x1) := by
  unfold f_Md_acknowledge_114
  refine r_aload_n (q := 115) (i := 0) (pl := 0) C d_Md_acknowledge_114 rfl rfl rfl ?_
  refine r_gR (q := 118) C d_Md_acknowledge_115 rfl F_Md_56 rfl (fun v1 => ?_)
  refine r_iload_n (q := 119) (i := 1) (pl := 1) C d_Md_acknowledge_118 rfl rfl rfl ?_
  refine r_aI (q := 120) C (Or.inr rfl) d_Md_acknowledge_119 rfl (fun v2 => ?_)
  refine r_aload_n (q := 121) (i := 0) (pl := 0) C d_Md_acknowledge_120 rfl rfl rfl ?_
  refine r_gR (q := 124) C d_Md_acknowledge_121 rfl F_Md_75 rfl (fun v3 => ?_)
  refine r_iload_n (q := 125) (i := 1) (pl := 1) C d_Md_acknowledge_124 rfl rfl rfl ?_
  refine r_aI (q := 126) C (Or.inr rfl) d_Md_acknowledge_125 rfl (fun v4 => ?_)
  refine r_icmp_lt (tgt := 136) (q := 129) C d_Md_acknowledge_126 (by decide) rfl ?_ ?_
  · refine r_sub (lv' := [(0, vA (some a))]) [0] rfl ?_
    exact s_Md_acknowledge_136 C a
  · refine r_aload_n (q := 130) (i := 0) (pl := 0) C d_Md_acknowledge_129 rfl rfl rfl ?_
    refine r_gR (q := 133) C d_Md_acknowledge_130 rfl F_Md_56 rfl (fun v5 => ?_)
    refine r_iload_n (q := 134) (i := 1) (pl := 1) C d_Md_acknowledge_133 rfl rfl rfl ?_
    refine r_iconst (q := 135) (v := -1) C d_Md_acknowledge_134 rfl (by decide) ?_
    refine r_bI (q := 136) C (Or.inr rfl) d_Md_acknowledge_135 rfl ?_
    refine r_sub (lv' := [(0, vA (some a))]) [0] rfl ?_
    exact s_Md_acknowledge_136 C a
def f_Md_acknowledge_113 (a : Nat) (x1 : Int32) (t0 : Option Nat) (t1 : Int32) (t2 : Int32) : sn_M := b_I 31 t0 t1 t2 (f_Md_acknowledge_114 a x1)
set_option maxHeartbeats 4000000 in
set_option maxRecDepth 100000 in
theorem mono_Md_acknowledge_113 (a : Nat) (x1 : Int32) (t0 : Option Nat) (t1 : Int32) (t2 : Int32) : sn_Mono (f_Md_acknowledge_113 a x1 t0 t1 t2) := sn_Mono.bI (mono_Md_acknowledge_114 a x1)
set_option maxHeartbeats 4000000 in
set_option maxRecDepth 100000 in
theorem s_Md_acknowledge_113 {X : sn_X} (C : sn_Cx X c_Md_acknowledge "SignalNetworkModel" none "acknowledge" 4 0 0) (a : Nat) (x1 : Int32) (t0 : Option Nat) (t1 : Int32) (t2 : Int32) : sn_S X 113 [(0, vA (some a)), (1, vI x1)] [vI t2, vI t1, vA t0] (f_Md_acknowledge_113 a x1 t0 t1 t2) := by
  unfold f_Md_acknowledge_113
  refine r_bI (q := 114) C (Or.inr rfl) d_Md_acknowledge_113 rfl ?_
  exact s_Md_acknowledge_114 C a x1
def f_Md_acknowledge_2 (a : Nat) : Nat → Int32 → Int32 → Int32 → sn_M
  | 0, _, _, _ => r_0
  | n + 1, x1, x2, x3 => g_R 12 27 (some a) fun v6 => a_I 31 v6 x1 fun v7 => (if v7 ≤ x3 then g_R 12 27 (some a) fun v8 => a_I 31 v8 x1 fun v9 => b_I 31 v8 x1 (v9 - x2) (g_R 12 21 (some a) fun v10 => a_I 31 v10 x1 fun v11 => (if v11 = (-1 : Int32) then f_Md_acknowledge_114 a x1 else g_R 12 21 (some a) fun v12 => g_R 12 21 (some a) fun v13 => a_I 31 v13 x1 fun v14 => (if v14 ≤ x2 then f_Md_acknowledge_113 a x1 v12 x1 (0 : Int32) else g_R 12 21 (some a) fun v15 => a_I 31 v15 x1 fun v16 => f_Md_acknowledge_113 a x1 v12 x1 (v16 - x2)))) else g_R 12 25 (some a) fun v17 => g_R 12 25 (some a) fun v18 => a_J 32 v18 (((32 : Int32) * x1) + x3) fun v19 => b_J 32 v17 ((((32 : Int32) * x1) + x3) - x2) v19 (g_R 12 26 (some a) fun v20 => g_R 12 26 (some a) fun v21 => a_I 31 v21 (((32 : Int32) * x1) + x3) fun v22 => b_I 31 v20 ((((32 : Int32) * x1) + x3) - x2) v22 (f_Md_acknowledge_2 a n x1 x2 (x3 + (1 : Int32)))))
set_option maxHeartbeats 4000000 in
set_option maxRecDepth 100000 in
theorem mono_Md_acknowledge_2 (a : Nat) : ∀ (n : Nat) (x1 : Int32) (x2 : Int32) (x3 : Int32), sn_Mono (f_Md_acknowledge_2 a n x1 x2 x3)
  | 0, _, _, _ => sn_Mono.r0
  | n + 1, x1, x2, x3 => sn_Mono.gR (fun v6 => sn_Mono.aI (fun v7 => sn_Mono.ite (sn_Mono.gR (fun v8 => sn_Mono.aI (fun v9 => sn_Mono.bI (sn_Mono.gR (fun v10 => sn_Mono.aI (fun v11 => sn_Mono.ite (mono_Md_acknowledge_114 a x1) (sn_Mono.gR (fun v12 => sn_Mono.gR (fun v13 => sn_Mono.aI (fun v14 => sn_Mono.ite (mono_Md_acknowledge_113 a x1 v12 x1 (0 : Int32)) (sn_Mono.gR (fun v15 => sn_Mono.aI (fun v16 => mono_Md_acknowledge_113 a x1 v12 x1 (v16 - x2)))))))))))))) (sn_Mono.gR (fun v17 => sn_Mono.gR (fun v18 => sn_Mono.aJ (fun v19 => sn_Mono.bJ (sn_Mono.gR (fun v20 => sn_Mono.gR (fun v21 => sn_Mono.aI (fun v22 => sn_Mono.bI (mono_Md_acknowledge_2 a n x1 x2 (x3 + (1 : Int32)))))))))))))
set_option maxHeartbeats 4000000 in
set_option maxRecDepth 100000 in
theorem s_Md_acknowledge_2 {X : sn_X} (C : sn_Cx X c_Md_acknowledge "SignalNetworkModel" none "acknowledge" 4 0 0) (a : Nat) (n : Nat) : ∀ (x1 : Int32) (x2 : Int32) (x3 : Int32), sn_S X 2 [(0, vA (some a)), (1, vI x1), (2, vI x2), (3, vI x3)] [] (f_Md_acknowledge_2 a n x1 x2 x3) := by
  induction n with
  | zero => intro x1 x2 x3; exact sn_S.zero
  | succ n ih =>
    intro x1 x2 x3
    unfold f_Md_acknowledge_2
    refine r_iload_n (q := 3) (i := 3) (pl := 3) C d_Md_acknowledge_2 rfl rfl rfl ?_
    refine r_aload_n (q := 4) (i := 0) (pl := 0) C d_Md_acknowledge_3 rfl rfl rfl ?_
    refine r_gR (q := 7) C d_Md_acknowledge_4 rfl F_Md_75 rfl (fun v6 => ?_)
    refine r_iload_n (q := 8) (i := 1) (pl := 1) C d_Md_acknowledge_7 rfl rfl rfl ?_
    refine r_aI (q := 9) C (Or.inr rfl) d_Md_acknowledge_8 rfl (fun v7 => ?_)
    refine r_icmp_ge (tgt := 66) (q := 12) C d_Md_acknowledge_9 (by decide) rfl ?_ ?_
    · refine r_aload_n (q := 67) (i := 0) (pl := 0) C d_Md_acknowledge_66 rfl rfl rfl ?_
      refine r_gR (q := 70) C d_Md_acknowledge_67 rfl F_Md_75 rfl (fun v8 => ?_)
      refine r_iload_n (q := 71) (i := 1) (pl := 1) C d_Md_acknowledge_70 rfl rfl rfl ?_
      refine r_dup2 (q := 72) C d_Md_acknowledge_71 rfl rfl rfl ?_
      refine r_aI (q := 73) C (Or.inr rfl) d_Md_acknowledge_72 rfl (fun v9 => ?_)
      refine r_iload_n (q := 74) (i := 2) (pl := 2) C d_Md_acknowledge_73 rfl rfl rfl ?_
      refine r_isub (q := 75) C d_Md_acknowledge_74 rfl ?_
      refine r_bI (q := 76) C (Or.inr rfl) d_Md_acknowledge_75 rfl ?_
      refine r_aload_n (q := 77) (i := 0) (pl := 0) C d_Md_acknowledge_76 rfl rfl rfl ?_
      refine r_gR (q := 80) C d_Md_acknowledge_77 rfl F_Md_56 rfl (fun v10 => ?_)
      refine r_iload_n (q := 81) (i := 1) (pl := 1) C d_Md_acknowledge_80 rfl rfl rfl ?_
      refine r_aI (q := 82) C (Or.inr rfl) d_Md_acknowledge_81 rfl (fun v11 => ?_)
      refine r_iconst (q := 83) (v := -1) C d_Md_acknowledge_82 rfl (by decide) ?_
      refine r_icmp_eq (tgt := 114) (q := 86) C d_Md_acknowledge_83 (by decide) rfl ?_ ?_
      · refine r_sub (lv' := [(0, vA (some a)), (1, vI x1)]) [0, 1] rfl ?_
        exact s_Md_acknowledge_114 C a x1
      · refine r_aload_n (q := 87) (i := 0) (pl := 0) C d_Md_acknowledge_86 rfl rfl rfl ?_
        refine r_gR (q := 90) C d_Md_acknowledge_87 rfl F_Md_56 rfl (fun v12 => ?_)
        refine r_iload_n (q := 91) (i := 1) (pl := 1) C d_Md_acknowledge_90 rfl rfl rfl ?_
        refine r_aload_n (q := 92) (i := 0) (pl := 0) C d_Md_acknowledge_91 rfl rfl rfl ?_
        refine r_gR (q := 95) C d_Md_acknowledge_92 rfl F_Md_56 rfl (fun v13 => ?_)
        refine r_iload_n (q := 96) (i := 1) (pl := 1) C d_Md_acknowledge_95 rfl rfl rfl ?_
        refine r_aI (q := 97) C (Or.inr rfl) d_Md_acknowledge_96 rfl (fun v14 => ?_)
        refine r_iload_n (q := 98) (i := 2) (pl := 2) C d_Md_acknowledge_97 rfl rfl rfl ?_
        refine r_icmp_le (tgt := 112) (q := 101) C d_Md_acknowledge_98 (by decide) rfl ?_ ?_
        · refine r_iconst (q := 113) (v := 0) C d_Md_acknowledge_112 rfl (by decide) ?_
          refine r_sub (lv' := [(0, vA (some a)), (1, vI x1)]) [0, 1] rfl ?_
          exact s_Md_acknowledge_113 C a x1 v12 x1 (0 : Int32)
        · refine r_aload_n (q := 102) (i := 0) (pl := 0) C d_Md_acknowledge_101 rfl rfl rfl ?_
          refine r_gR (q := 105) C d_Md_acknowledge_102 rfl F_Md_56 rfl (fun v15 => ?_)
          refine r_iload_n (q := 106) (i := 1) (pl := 1) C d_Md_acknowledge_105 rfl rfl rfl ?_
          refine r_aI (q := 107) C (Or.inr rfl) d_Md_acknowledge_106 rfl (fun v16 => ?_)
          refine r_iload_n (q := 108) (i := 2) (pl := 2) C d_Md_acknowledge_107 rfl rfl rfl ?_
          refine r_isub (q := 109) C d_Md_acknowledge_108 rfl ?_
          refine r_goto (tgt := 113) C d_Md_acknowledge_109 (by decide) ?_
          refine r_sub (lv' := [(0, vA (some a)), (1, vI x1)]) [0, 1] rfl ?_
          exact s_Md_acknowledge_113 C a x1 v12 x1 (v16 - x2)
    · refine r_aload_n (q := 13) (i := 0) (pl := 0) C d_Md_acknowledge_12 rfl rfl rfl ?_
      refine r_gR (q := 16) C d_Md_acknowledge_13 rfl F_Md_68 rfl (fun v17 => ?_)
      refine r_bipush (q := 18) (v := 32) C d_Md_acknowledge_16 rfl (by decide) ?_
      refine r_iload_n (q := 19) (i := 1) (pl := 1) C d_Md_acknowledge_18 rfl rfl rfl ?_
      refine r_imul (q := 20) C d_Md_acknowledge_19 rfl ?_
      refine r_iload_n (q := 21) (i := 3) (pl := 3) C d_Md_acknowledge_20 rfl rfl rfl ?_
      refine r_iadd (q := 22) C d_Md_acknowledge_21 rfl ?_
      refine r_iload_n (q := 23) (i := 2) (pl := 2) C d_Md_acknowledge_22 rfl rfl rfl ?_
      refine r_isub (q := 24) C d_Md_acknowledge_23 rfl ?_
      refine r_aload_n (q := 25) (i := 0) (pl := 0) C d_Md_acknowledge_24 rfl rfl rfl ?_
      refine r_gR (q := 28) C d_Md_acknowledge_25 rfl F_Md_68 rfl (fun v18 => ?_)
      refine r_bipush (q := 30) (v := 32) C d_Md_acknowledge_28 rfl (by decide) ?_
      refine r_iload_n (q := 31) (i := 1) (pl := 1) C d_Md_acknowledge_30 rfl rfl rfl ?_
      refine r_imul (q := 32) C d_Md_acknowledge_31 rfl ?_
      refine r_iload_n (q := 33) (i := 3) (pl := 3) C d_Md_acknowledge_32 rfl rfl rfl ?_
      refine r_iadd (q := 34) C d_Md_acknowledge_33 rfl ?_
      refine r_aJ (q := 35) C (Or.inr rfl) d_Md_acknowledge_34 rfl (fun v19 => ?_)
      refine r_bJ (q := 36) C (Or.inr rfl) d_Md_acknowledge_35 rfl ?_
      refine r_aload_n (q := 37) (i := 0) (pl := 0) C d_Md_acknowledge_36 rfl rfl rfl ?_
      refine r_gR (q := 40) C d_Md_acknowledge_37 rfl F_Md_72 rfl (fun v20 => ?_)
      refine r_bipush (q := 42) (v := 32) C d_Md_acknowledge_40 rfl (by decide) ?_
      refine r_iload_n (q := 43) (i := 1) (pl := 1) C d_Md_acknowledge_42 rfl rfl rfl ?_
      refine r_imul (q := 44) C d_Md_acknowledge_43 rfl ?_
      refine r_iload_n (q := 45) (i := 3) (pl := 3) C d_Md_acknowledge_44 rfl rfl rfl ?_
      refine r_iadd (q := 46) C d_Md_acknowledge_45 rfl ?_
      refine r_iload_n (q := 47) (i := 2) (pl := 2) C d_Md_acknowledge_46 rfl rfl rfl ?_
      refine r_isub (q := 48) C d_Md_acknowledge_47 rfl ?_
      refine r_aload_n (q := 49) (i := 0) (pl := 0) C d_Md_acknowledge_48 rfl rfl rfl ?_
      refine r_gR (q := 52) C d_Md_acknowledge_49 rfl F_Md_72 rfl (fun v21 => ?_)
      refine r_bipush (q := 54) (v := 32) C d_Md_acknowledge_52 rfl (by decide) ?_
      refine r_iload_n (q := 55) (i := 1) (pl := 1) C d_Md_acknowledge_54 rfl rfl rfl ?_
      refine r_imul (q := 56) C d_Md_acknowledge_55 rfl ?_
      refine r_iload_n (q := 57) (i := 3) (pl := 3) C d_Md_acknowledge_56 rfl rfl rfl ?_
      refine r_iadd (q := 58) C d_Md_acknowledge_57 rfl ?_
      refine r_aI (q := 59) C (Or.inr rfl) d_Md_acknowledge_58 rfl (fun v22 => ?_)
      refine r_bI (q := 60) C (Or.inr rfl) d_Md_acknowledge_59 rfl ?_
      refine r_iinc (q := 63) (pl := 3) (v := x3 + (1 : Int32)) (lv' := [(3, vI (x3 + (1 : Int32))), (0, vA (some a)), (1, vI x1), (2, vI x2)]) C d_Md_acknowledge_60 rfl rfl rfl (by decide) rfl ?_
      refine r_goto (tgt := 2) C d_Md_acknowledge_63 (by decide) ?_
      refine r_sub (lv' := [(0, vA (some a)), (1, vI x1), (2, vI x2), (3, vI (x3 + (1 : Int32)))]) [1, 2, 3, 0] rfl ?_
      exact ih x1 x2 (x3 + (1 : Int32))
def f_Md_acknowledge (a : Nat) (x1 : Int32) (x2 : Int32) : sn_M := f_Md_acknowledge_2 a sn_fuel x1 x2 x2
set_option maxHeartbeats 4000000 in
set_option maxRecDepth 100000 in
theorem mono_Md_acknowledge (a : Nat) (x1 : Int32) (x2 : Int32) : sn_Mono (f_Md_acknowledge a x1 x2) := mono_Md_acknowledge_2 a sn_fuel x1 x2 x2
set_option maxHeartbeats 4000000 in
set_option maxRecDepth 100000 in
theorem con_Md_acknowledge (a : Nat) (x1 : Int32) (x2 : Int32) : sn_Con y_Md_acknowledge c_Md_acknowledge 4 none 0 0 [vA (some a), vI x1, vI x2] (f_Md_acknowledge a x1 x2) := by
  refine sn_Con.of (by decide +kernel) (by show _ ≤ _; exact Nat.le_of_ble_eq_true rfl) (mono_Md_acknowledge a x1 x2) (fun X C => ?_)
  show sn_S X 0 [(0, vA (some a)), (1, vI x1), (2, vI x2)] [] _
  replace C : sn_Cx X c_Md_acknowledge "SignalNetworkModel" none "acknowledge" 4 0 0 := C
  unfold f_Md_acknowledge
  refine r_iload_n (q := 1) (i := 2) (pl := 2) C d_Md_acknowledge_0 rfl rfl rfl ?_
  refine r_istore_n (q := 2) (i := 3) (lv' := [(3, vI x2), (0, vA (some a)), (1, vI x1), (2, vI x2)]) C d_Md_acknowledge_1 rfl rfl (by decide) rfl ?_
  refine r_sub (lv' := [(0, vA (some a)), (1, vI x1), (2, vI x2), (3, vI x2)]) [1, 2, 3, 0] rfl ?_
  exact s_Md_acknowledge_2 C a sn_fuel x1 x2 x2
theorem d_Md_backEnds_0 : decode c_Md_backEnds 0 = .ok (.aload_n 0, 1) := by decide +kernel
theorem d_Md_backEnds_1 : decode c_Md_backEnds 1 = .ok (.iload_n 1, 1) := by decide +kernel
theorem d_Md_backEnds_2 : decode c_Md_backEnds 2 = .ok (.iload_n 2, 1) := by decide +kernel
theorem d_Md_backEnds_3 : decode c_Md_backEnds 3 = .ok (.iload_n 3, 1) := by decide +kernel
theorem d_Md_backEnds_4 : decode c_Md_backEnds 4 = .ok (.invokevirtual 212, 3) := by decide +kernel
theorem d_Md_backEnds_7 : decode c_Md_backEnds 7 = .ok (.istore 4, 2) := by decide +kernel
theorem d_Md_backEnds_9 : decode c_Md_backEnds 9 = .ok (.aload_n 0, 1) := by decide +kernel
theorem d_Md_backEnds_10 : decode c_Md_backEnds 10 = .ok (.getfield 135, 3) := by decide +kernel
theorem d_Md_backEnds_13 : decode c_Md_backEnds 13 = .ok (.iload 4, 2) := by decide +kernel
theorem d_Md_backEnds_15 : decode c_Md_backEnds 15 = .ok (.iaload, 1) := by decide +kernel
theorem d_Md_backEnds_16 : decode c_Md_backEnds 16 = .ok (.istore 5, 2) := by decide +kernel
theorem d_Md_backEnds_18 : decode c_Md_backEnds 18 = .ok (.aload_n 0, 1) := by decide +kernel
theorem d_Md_backEnds_19 : decode c_Md_backEnds 19 = .ok (.getfield 120, 3) := by decide +kernel
theorem d_Md_backEnds_22 : decode c_Md_backEnds 22 = .ok (.iload 4, 2) := by decide +kernel
theorem d_Md_backEnds_24 : decode c_Md_backEnds 24 = .ok (.iconst 0, 1) := by decide +kernel
theorem d_Md_backEnds_25 : decode c_Md_backEnds 25 = .ok (.iastore, 1) := by decide +kernel
theorem d_Md_backEnds_26 : decode c_Md_backEnds 26 = .ok (.aload_n 0, 1) := by decide +kernel
theorem d_Md_backEnds_27 : decode c_Md_backEnds 27 = .ok (.getfield 126, 3) := by decide +kernel
theorem d_Md_backEnds_30 : decode c_Md_backEnds 30 = .ok (.iload 4, 2) := by decide +kernel
theorem d_Md_backEnds_32 : decode c_Md_backEnds 32 = .ok (.iconst 0, 1) := by decide +kernel
theorem d_Md_backEnds_33 : decode c_Md_backEnds 33 = .ok (.iastore, 1) := by decide +kernel
theorem d_Md_backEnds_34 : decode c_Md_backEnds 34 = .ok (.aload_n 0, 1) := by decide +kernel
theorem d_Md_backEnds_35 : decode c_Md_backEnds 35 = .ok (.getfield 117, 3) := by decide +kernel
theorem d_Md_backEnds_38 : decode c_Md_backEnds 38 = .ok (.iload 4, 2) := by decide +kernel
theorem d_Md_backEnds_40 : decode c_Md_backEnds 40 = .ok (.aload_n 0, 1) := by decide +kernel
theorem d_Md_backEnds_41 : decode c_Md_backEnds 41 = .ok (.iload_n 1, 1) := by decide +kernel
theorem d_Md_backEnds_42 : decode c_Md_backEnds 42 = .ok (.iload_n 2, 1) := by decide +kernel
theorem d_Md_backEnds_43 : decode c_Md_backEnds 43 = .ok (.iload_n 3, 1) := by decide +kernel
theorem d_Md_backEnds_44 : decode c_Md_backEnds 44 = .ok (.invokevirtual 269, 3) := by decide +kernel
theorem d_Md_backEnds_47 : decode c_Md_backEnds 47 = .ok (.iastore, 1) := by decide +kernel
theorem d_Md_backEnds_48 : decode c_Md_backEnds 48 = .ok (.aload_n 0, 1) := by decide +kernel
theorem d_Md_backEnds_49 : decode c_Md_backEnds 49 = .ok (.getfield 135, 3) := by decide +kernel
theorem d_Md_backEnds_52 : decode c_Md_backEnds 52 = .ok (.iload 4, 2) := by decide +kernel
theorem d_Md_backEnds_54 : decode c_Md_backEnds 54 = .ok (.iconst 0, 1) := by decide +kernel
theorem d_Md_backEnds_55 : decode c_Md_backEnds 55 = .ok (.iastore, 1) := by decide +kernel
theorem d_Md_backEnds_56 : decode c_Md_backEnds 56 = .ok (.iconst 0, 1) := by decide +kernel
theorem d_Md_backEnds_57 : decode c_Md_backEnds 57 = .ok (.istore 6, 2) := by decide +kernel
theorem d_Md_backEnds_59 : decode c_Md_backEnds 59 = .ok (.iload 6, 2) := by decide +kernel
theorem d_Md_backEnds_61 : decode c_Md_backEnds 61 = .ok (.iload 5, 2) := by decide +kernel
theorem d_Md_backEnds_63 : decode c_Md_backEnds 63 = .ok (.if_icmp .ge 29, 3) := by decide +kernel
theorem d_Md_backEnds_66 : decode c_Md_backEnds 66 = .ok (.aload_n 0, 1) := by decide +kernel
theorem d_Md_backEnds_67 : decode c_Md_backEnds 67 = .ok (.getfield 183, 3) := by decide +kernel
theorem d_Md_backEnds_70 : decode c_Md_backEnds 70 = .ok (.iload 6, 2) := by decide +kernel
theorem d_Md_backEnds_72 : decode c_Md_backEnds 72 = .ok (.aload_n 0, 1) := by decide +kernel
theorem d_Md_backEnds_73 : decode c_Md_backEnds 73 = .ok (.getfield 132, 3) := by decide +kernel
theorem d_Md_backEnds_76 : decode c_Md_backEnds 76 = .ok (.bipush 64, 2) := by decide +kernel
theorem d_Md_backEnds_78 : decode c_Md_backEnds 78 = .ok (.iload 4, 2) := by decide +kernel
theorem d_Md_backEnds_80 : decode c_Md_backEnds 80 = .ok (.imul, 1) := by decide +kernel
theorem d_Md_backEnds_81 : decode c_Md_backEnds 81 = .ok (.iload 6, 2) := by decide +kernel
theorem d_Md_backEnds_83 : decode c_Md_backEnds 83 = .ok (.iadd, 1) := by decide +kernel
theorem d_Md_backEnds_84 : decode c_Md_backEnds 84 = .ok (.laload, 1) := by decide +kernel
theorem d_Md_backEnds_85 : decode c_Md_backEnds 85 = .ok (.lastore, 1) := by decide +kernel
theorem d_Md_backEnds_86 : decode c_Md_backEnds 86 = .ok (.iinc 6 1, 3) := by decide +kernel
theorem d_Md_backEnds_89 : decode c_Md_backEnds 89 = .ok (.goto (-30), 3) := by decide +kernel
theorem d_Md_backEnds_92 : decode c_Md_backEnds 92 = .ok (.iconst 0, 1) := by decide +kernel
theorem d_Md_backEnds_93 : decode c_Md_backEnds 93 = .ok (.istore 6, 2) := by decide +kernel
theorem d_Md_backEnds_95 : decode c_Md_backEnds 95 = .ok (.iload 6, 2) := by decide +kernel
theorem d_Md_backEnds_97 : decode c_Md_backEnds 97 = .ok (.iload 5, 2) := by decide +kernel
theorem d_Md_backEnds_99 : decode c_Md_backEnds 99 = .ok (.if_icmp .ge 47, 3) := by decide +kernel
theorem d_Md_backEnds_102 : decode c_Md_backEnds 102 = .ok (.aload_n 0, 1) := by decide +kernel
theorem d_Md_backEnds_103 : decode c_Md_backEnds 103 = .ok (.getfield 117, 3) := by decide +kernel
theorem d_Md_backEnds_106 : decode c_Md_backEnds 106 = .ok (.iload 4, 2) := by decide +kernel
theorem d_Md_backEnds_108 : decode c_Md_backEnds 108 = .ok (.iaload, 1) := by decide +kernel
theorem d_Md_backEnds_109 : decode c_Md_backEnds 109 = .ok (.iconst (-1), 1) := by decide +kernel
theorem d_Md_backEnds_110 : decode c_Md_backEnds 110 = .ok (.if_icmp .ne 16, 3) := by decide +kernel
theorem d_Md_backEnds_113 : decode c_Md_backEnds 113 = .ok (.aload_n 0, 1) := by decide +kernel
theorem d_Md_backEnds_114 : decode c_Md_backEnds 114 = .ok (.dup, 1) := by decide +kernel
theorem d_Md_backEnds_115 : decode c_Md_backEnds 115 = .ok (.getfield 219, 3) := by decide +kernel
theorem d_Md_backEnds_118 : decode c_Md_backEnds 118 = .ok (.iconst 1, 1) := by decide +kernel
theorem d_Md_backEnds_119 : decode c_Md_backEnds 119 = .ok (.iadd, 1) := by decide +kernel
theorem d_Md_backEnds_120 : decode c_Md_backEnds 120 = .ok (.putfield 219, 3) := by decide +kernel
theorem d_Md_backEnds_123 : decode c_Md_backEnds 123 = .ok (.goto 17, 3) := by decide +kernel
theorem d_Md_backEnds_126 : decode c_Md_backEnds 126 = .ok (.aload_n 0, 1) := by decide +kernel
theorem d_Md_backEnds_127 : decode c_Md_backEnds 127 = .ok (.iload_n 1, 1) := by decide +kernel
theorem d_Md_backEnds_128 : decode c_Md_backEnds 128 = .ok (.iload_n 2, 1) := by decide +kernel
theorem d_Md_backEnds_129 : decode c_Md_backEnds 129 = .ok (.iload_n 3, 1) := by decide +kernel
theorem d_Md_backEnds_130 : decode c_Md_backEnds 130 = .ok (.aload_n 0, 1) := by decide +kernel
theorem d_Md_backEnds_131 : decode c_Md_backEnds 131 = .ok (.getfield 183, 3) := by decide +kernel
theorem d_Md_backEnds_134 : decode c_Md_backEnds 134 = .ok (.iload 6, 2) := by decide +kernel
theorem d_Md_backEnds_136 : decode c_Md_backEnds 136 = .ok (.laload, 1) := by decide +kernel
theorem d_Md_backEnds_137 : decode c_Md_backEnds 137 = .ok (.invokevirtual 237, 3) := by decide +kernel
theorem d_Md_backEnds_140 : decode c_Md_backEnds 140 = .ok (.iinc 6 1, 3) := by decide +kernel
theorem d_Md_backEnds_143 : decode c_Md_backEnds 143 = .ok (.goto (-48), 3) := by decide +kernel
theorem d_Md_backEnds_146 : decode c_Md_backEnds 146 = .ok (.return_, 1) := by decide +kernel
def f_Md_backEnds_140 (k95 : Int32 → Int32 → Int32 → Int32 → Int32 → Int32 → sn_M) (a : Nat) (x1 : Int32) (x2 : Int32) (x3 : Int32) (x4 : Int32) (x5 : Int32) (x6 : Int32) : sn_M := k95 x1 x2 x3 x4 x5 (x6 + (1 : Int32))
set_option maxHeartbeats 4000000 in
set_option maxRecDepth 100000 in
theorem mono_Md_backEnds_140 (k95 : Int32 → Int32 → Int32 → Int32 → Int32 → Int32 → sn_M) (mk95 : ∀ (x1 : Int32) (x2 : Int32) (x3 : Int32) (x4 : Int32) (x5 : Int32) (x6 : Int32), sn_Mono (k95 x1 x2 x3 x4 x5 x6)) (a : Nat) (x1 : Int32) (x2 : Int32) (x3 : Int32) (x4 : Int32) (x5 : Int32) (x6 : Int32) : sn_Mono (f_Md_backEnds_140 k95 a x1 x2 x3 x4 x5 x6) := mk95 x1 x2 x3 x4 x5 (x6 + (1 : Int32))
set_option maxHeartbeats 4000000 in
set_option maxRecDepth 100000 in
theorem s_Md_backEnds_140 {X : sn_X} (C : sn_Cx X c_Md_backEnds "SignalNetworkModel" none "backEnds" 7 3 74) (a : Nat) (k95 : Int32 → Int32 → Int32 → Int32 → Int32 → Int32 → sn_M) (hk95 : ∀ (x1 : Int32) (x2 : Int32) (x3 : Int32) (x4 : Int32) (x5 : Int32) (x6 : Int32), sn_S X 95 [(0, vA (some a)), (1, vI x1), (2, vI x2), (3, vI x3), (4, vI x4), (5, vI x5), (6, vI x6)] [] (k95 x1 x2 x3 x4 x5 x6)) (x1 : Int32) (x2 : Int32) (x3 : Int32) (x4 : Int32) (x5 : Int32) (x6 : Int32) : sn_S X 140 [(0, vA (some a)), (1, vI x1), (2, vI x2), (3, vI x3), (4, vI x4), (5, vI x5), (6, vI x6)] [] (f_Md_backEnds_140 k95 a x1 x2 x3 x4 x5 x6) := by
  unfold f_Md_backEnds_140
  refine r_iinc (q := 143) (pl := 6) (v := x6 + (1 : Int32)) (lv' := [(6, vI (x6 + (1 : Int32))), (0, vA (some a)), (1, vI x1), (2, vI x2), (3, vI x3), (4, vI x4), (5, vI x5)]) C d_Md_backEnds_140 rfl rfl rfl (by decide) rfl ?_
  refine r_goto (tgt := 95) C d_Md_backEnds_143 (by decide) ?_
  refine r_sub (lv' := [(0, vA (some a)), (1, vI x1), (2, vI x2), (3, vI x3), (4, vI x4), (5, vI x5), (6, vI (x6 + (1 : Int32)))]) [1, 2, 3, 4, 5, 6, 0] rfl ?_
  exact hk95 x1 x2 x3 x4 x5 (x6 + (1 : Int32))
def f_Md_backEnds_95 (a : Nat) : Nat → Int32 → Int32 → Int32 → Int32 → Int32 → Int32 → sn_M
  | 0, _, _, _, _, _, _ => r_0
  | n + 1, x1, x2, x3, x4, x5, x6 => (if x5 ≤ x6 then r_V else g_R 12 41 (some a) fun v1 => a_I 31 v1 x4 fun v2 => (if ¬ v2 = (-1 : Int32) then g_R 12 63 (some a) fun v3 => a_J 32 v3 x6 fun v4 => n_n 12 (some a) fun a5 => c_V (f_Md_give a5 x1 x2 x3 v4) (f_Md_backEnds_140 (f_Md_backEnds_95 a n) a x1 x2 x3 x4 x5 x6) else g_I 12 7 (some a) fun v7 => p_I 12 7 (some a) (v7 + (1 : Int32)) (f_Md_backEnds_140 (f_Md_backEnds_95 a n) a x1 x2 x3 x4 x5 x6)))
set_option maxHeartbeats 4000000 in
set_option maxRecDepth 100000 in
theorem mono_Md_backEnds_95 (a : Nat) : ∀ (n : Nat) (x1 : Int32) (x2 : Int32) (x3 : Int32) (x4 : Int32) (x5 : Int32) (x6 : Int32), sn_Mono (f_Md_backEnds_95 a n x1 x2 x3 x4 x5 x6)
  | 0, _, _, _, _, _, _ => sn_Mono.r0
  | n + 1, x1, x2, x3, x4, x5, x6 => sn_Mono.ite (sn_Mono.rV) (sn_Mono.gR (fun v1 => sn_Mono.aI (fun v2 => sn_Mono.ite (sn_Mono.gR (fun v3 => sn_Mono.aJ (fun v4 => sn_Mono.nn (fun a5 => sn_Mono.cV (mono_Md_give a5 x1 x2 x3 v4) (mono_Md_backEnds_140 (f_Md_backEnds_95 a n) (mono_Md_backEnds_95 a n) a x1 x2 x3 x4 x5 x6))))) (sn_Mono.gI (fun v7 => sn_Mono.pI (mono_Md_backEnds_140 (f_Md_backEnds_95 a n) (mono_Md_backEnds_95 a n) a x1 x2 x3 x4 x5 x6))))))
set_option maxHeartbeats 4000000 in
set_option maxRecDepth 100000 in
theorem s_Md_backEnds_95 {X : sn_X} (C : sn_Cx X c_Md_backEnds "SignalNetworkModel" none "backEnds" 7 3 74) (a : Nat) (n : Nat) : ∀ (x1 : Int32) (x2 : Int32) (x3 : Int32) (x4 : Int32) (x5 : Int32) (x6 : Int32), sn_S X 95 [(0, vA (some a)), (1, vI x1), (2, vI x2), (3, vI x3), (4, vI x4), (5, vI x5), (6, vI x6)] [] (f_Md_backEnds_95 a n x1 x2 x3 x4 x5 x6) := by
  induction n with
  | zero => intro x1 x2 x3 x4 x5 x6; exact sn_S.zero
  | succ n ih =>
    intro x1 x2 x3 x4 x5 x6
    unfold f_Md_backEnds_95
    refine r_iload (q := 97) (i := 6) (pl := 6) C d_Md_backEnds_95 rfl rfl ?_
    refine r_iload (q := 99) (i := 5) (pl := 5) C d_Md_backEnds_97 rfl rfl ?_
    refine r_icmp_ge (tgt := 146) (q := 102) C d_Md_backEnds_99 (by decide) rfl ?_ ?_
    · exact r_vret C d_Md_backEnds_146 rfl
    · refine r_aload_n (q := 103) (i := 0) (pl := 0) C d_Md_backEnds_102 rfl rfl rfl ?_
      refine r_gR (q := 106) C d_Md_backEnds_103 rfl F_Md_117 rfl (fun v1 => ?_)
      refine r_iload (q := 108) (i := 4) (pl := 4) C d_Md_backEnds_106 rfl rfl ?_
      refine r_aI (q := 109) C (Or.inr rfl) d_Md_backEnds_108 rfl (fun v2 => ?_)
      refine r_iconst (q := 110) (v := -1) C d_Md_backEnds_109 rfl (by decide) ?_
      refine r_icmp_ne (tgt := 126) (q := 113) C d_Md_backEnds_110 (by decide) rfl ?_ ?_
      · refine r_aload_n (q := 127) (i := 0) (pl := 0) C d_Md_backEnds_126 rfl rfl rfl ?_
        refine r_iload_n (q := 128) (i := 1) (pl := 1) C d_Md_backEnds_127 rfl rfl rfl ?_
        refine r_iload_n (q := 129) (i := 2) (pl := 2) C d_Md_backEnds_128 rfl rfl rfl ?_
        refine r_iload_n (q := 130) (i := 3) (pl := 3) C d_Md_backEnds_129 rfl rfl rfl ?_
        refine r_aload_n (q := 131) (i := 0) (pl := 0) C d_Md_backEnds_130 rfl rfl rfl ?_
        refine r_gR (q := 134) C d_Md_backEnds_131 rfl F_Md_183 rfl (fun v3 => ?_)
        refine r_iload (q := 136) (i := 6) (pl := 6) C d_Md_backEnds_134 rfl rfl ?_
        refine r_aJ (q := 137) C (Or.inr rfl) d_Md_backEnds_136 rfl (fun v4 => ?_)
        refine r_cvV (q := 140) (As := [vI x1, vI x2, vI x3, vJ v4]) (st := []) (cy := 11) C d_Md_backEnds_137 rfl Y_Md_give L_Md_237 I_Md_give Se_Md_give rfl (by decide) rfl (Nat.le_of_ble_eq_true rfl) (Nat.le_of_ble_eq_true rfl) (Nat.le_of_ble_eq_true rfl) rfl (fun a5 => con_Md_give a5 x1 x2 x3 v4) ?_
        exact s_Md_backEnds_140 C a (f_Md_backEnds_95 a n) ih x1 x2 x3 x4 x5 x6
      · refine r_aload_n (q := 114) (i := 0) (pl := 0) C d_Md_backEnds_113 rfl rfl rfl ?_
        refine r_dup (q := 115) C d_Md_backEnds_114 rfl rfl ?_
        refine r_gI (q := 118) C d_Md_backEnds_115 rfl F_Md_219 rfl (fun v7 => ?_)
        refine r_iconst (q := 119) (v := 1) C d_Md_backEnds_118 rfl (by decide) ?_
        refine r_iadd (q := 120) C d_Md_backEnds_119 rfl ?_
        refine r_pI (q := 123) C d_Md_backEnds_120 rfl F_Md_219 rfl rfl (Or.inl rfl) ?_
        refine r_goto (tgt := 140) C d_Md_backEnds_123 (by decide) ?_
        exact s_Md_backEnds_140 C a (f_Md_backEnds_95 a n) ih x1 x2 x3 x4 x5 x6
def f_Md_backEnds_59 (a : Nat) : Nat → Int32 → Int32 → Int32 → Int32 → Int32 → Int32 → sn_M
  | 0, _, _, _, _, _, _ => r_0
  | n + 1, x1, x2, x3, x4, x5, x6 => (if x5 ≤ x6 then f_Md_backEnds_95 a sn_fuel x1 x2 x3 x4 x5 (0 : Int32) else g_R 12 63 (some a) fun v8 => g_R 12 46 (some a) fun v9 => a_J 32 v9 (((64 : Int32) * x4) + x6) fun v10 => b_J 32 v8 x6 v10 (f_Md_backEnds_59 a n x1 x2 x3 x4 x5 (x6 + (1 : Int32))))
set_option maxHeartbeats 4000000 in
set_option maxRecDepth 100000 in
theorem mono_Md_backEnds_59 (a : Nat) : ∀ (n : Nat) (x1 : Int32) (x2 : Int32) (x3 : Int32) (x4 : Int32) (x5 : Int32) (x6 : Int32), sn_Mono (f_Md_backEnds_59 a n x1 x2 x3 x4 x5 x6)
  | 0, _, _, _, _, _, _ => sn_Mono.r0
  | n + 1, x1, x2, x3, x4, x5, x6 => sn_Mono.ite (mono_Md_backEnds_95 a sn_fuel x1 x2 x3 x4 x5 (0 : Int32)) (sn_Mono.gR (fun v8 => sn_Mono.gR (fun v9 => sn_Mono.aJ (fun v10 => sn_Mono.bJ (mono_Md_backEnds_59 a n x1 x2 x3 x4 x5 (x6 + (1 : Int32)))))))
set_option maxHeartbeats 4000000 in
set_option maxRecDepth 100000 in
theorem s_Md_backEnds_59 {X : sn_X} (C : sn_Cx X c_Md_backEnds "SignalNetworkModel" none "backEnds" 7 3 74) (a : Nat) (n : Nat) : ∀ (x1 : Int32) (x2 : Int32) (x3 : Int32) (x4 : Int32) (x5 : Int32) (x6 : Int32), sn_S X 59 [(0, vA (some a)), (1, vI x1), (2, vI x2), (3, vI x3), (4, vI x4), (5, vI x5), (6, vI x6)] [] (f_Md_backEnds_59 a n x1 x2 x3 x4 x5 x6) := by
  induction n with
  | zero => intro x1 x2 x3 x4 x5 x6; exact sn_S.zero
  | succ n ih =>
    intro x1 x2 x3 x4 x5 x6
    unfold f_Md_backEnds_59
    refine r_iload (q := 61) (i := 6) (pl := 6) C d_Md_backEnds_59 rfl rfl ?_
    refine r_iload (q := 63) (i := 5) (pl := 5) C d_Md_backEnds_61 rfl rfl ?_
    refine r_icmp_ge (tgt := 92) (q := 66) C d_Md_backEnds_63 (by decide) rfl ?_ ?_
    · refine r_iconst (q := 93) (v := 0) C d_Md_backEnds_92 rfl (by decide) ?_
      refine r_istore (q := 95) (i := 6) (lv' := [(6, vI (0 : Int32)), (0, vA (some a)), (1, vI x1), (2, vI x2), (3, vI x3), (4, vI x4), (5, vI x5)]) C d_Md_backEnds_93 rfl (by decide) rfl ?_
      refine r_sub (lv' := [(0, vA (some a)), (1, vI x1), (2, vI x2), (3, vI x3), (4, vI x4), (5, vI x5), (6, vI (0 : Int32))]) [1, 2, 3, 4, 5, 6, 0] rfl ?_
      exact s_Md_backEnds_95 C a sn_fuel x1 x2 x3 x4 x5 (0 : Int32)
    · refine r_aload_n (q := 67) (i := 0) (pl := 0) C d_Md_backEnds_66 rfl rfl rfl ?_
      refine r_gR (q := 70) C d_Md_backEnds_67 rfl F_Md_183 rfl (fun v8 => ?_)
      refine r_iload (q := 72) (i := 6) (pl := 6) C d_Md_backEnds_70 rfl rfl ?_
      refine r_aload_n (q := 73) (i := 0) (pl := 0) C d_Md_backEnds_72 rfl rfl rfl ?_
      refine r_gR (q := 76) C d_Md_backEnds_73 rfl F_Md_132 rfl (fun v9 => ?_)
      refine r_bipush (q := 78) (v := 64) C d_Md_backEnds_76 rfl (by decide) ?_
      refine r_iload (q := 80) (i := 4) (pl := 4) C d_Md_backEnds_78 rfl rfl ?_
      refine r_imul (q := 81) C d_Md_backEnds_80 rfl ?_
      refine r_iload (q := 83) (i := 6) (pl := 6) C d_Md_backEnds_81 rfl rfl ?_
      refine r_iadd (q := 84) C d_Md_backEnds_83 rfl ?_
      refine r_aJ (q := 85) C (Or.inr rfl) d_Md_backEnds_84 rfl (fun v10 => ?_)
      refine r_bJ (q := 86) C (Or.inr rfl) d_Md_backEnds_85 rfl ?_
      refine r_iinc (q := 89) (pl := 6) (v := x6 + (1 : Int32)) (lv' := [(6, vI (x6 + (1 : Int32))), (0, vA (some a)), (1, vI x1), (2, vI x2), (3, vI x3), (4, vI x4), (5, vI x5)]) C d_Md_backEnds_86 rfl rfl rfl (by decide) rfl ?_
      refine r_goto (tgt := 59) C d_Md_backEnds_89 (by decide) ?_
      refine r_sub (lv' := [(0, vA (some a)), (1, vI x1), (2, vI x2), (3, vI x3), (4, vI x4), (5, vI x5), (6, vI (x6 + (1 : Int32)))]) [1, 2, 3, 4, 5, 6, 0] rfl ?_
      exact ih x1 x2 x3 x4 x5 (x6 + (1 : Int32))
def f_Md_backEnds (a : Nat) (x1 : Int32) (x2 : Int32) (x3 : Int32) : sn_M := n_n 12 (some a) fun a11 => c_I (f_Md_flowAt a11 x1 x2 x3) fun v12 => g_R 12 47 (some a) fun v13 => a_I 31 v13 v12 fun v14 => g_R 12 42 (some a) fun v15 => b_I 31 v15 v12 (0 : Int32) (g_R 12 44 (some a) fun v16 => b_I 31 v16 v12 (0 : Int32) (g_R 12 41 (some a) fun v17 => n_n 12 (some a) fun a18 => c_I (f_Md_bestOf a18 x1 x2 x3) fun v19 => b_I 31 v17 v12 v19 (g_R 12 47 (some a) fun v20 => b_I 31 v20 v12 (0 : Int32) (f_Md_backEnds_59 a sn_fuel x1 x2 x3 v12 v14 (0 : Int32)))))
set_option maxHeartbeats 4000000 in
set_option maxRecDepth 100000 in
theorem mono_Md_backEnds (a : Nat) (x1 : Int32) (x2 : Int32) (x3 : Int32) : sn_Mono (f_Md_backEnds a x1 x2 x3) := sn_Mono.nn (fun a11 => sn_Mono.cI (mono_Md_flowAt a11 x1 x2 x3) (fun v12 => sn_Mono.gR (fun v13 => sn_Mono.aI (fun v14 => sn_Mono.gR (fun v15 => sn_Mono.bI (sn_Mono.gR (fun v16 => sn_Mono.bI (sn_Mono.gR (fun v17 => sn_Mono.nn (fun a18 => sn_Mono.cI (mono_Md_bestOf a18 x1 x2 x3) (fun v19 => sn_Mono.bI (sn_Mono.gR (fun v20 => sn_Mono.bI (mono_Md_backEnds_59 a sn_fuel x1 x2 x3 v12 v14 (0 : Int32)))))))))))))))
set_option maxHeartbeats 4000000 in
set_option maxRecDepth 100000 in
theorem con_Md_backEnds (a : Nat) (x1 : Int32) (x2 : Int32) (x3 : Int32) : sn_Con y_Md_backEnds c_Md_backEnds 7 none 3 74 [vA (some a), vI x1, vI x2, vI x3] (f_Md_backEnds a x1 x2 x3) := by
  refine sn_Con.of (by decide +kernel) (by show _ ≤ _; exact Nat.le_of_ble_eq_true rfl) (mono_Md_backEnds a x1 x2 x3) (fun X C => ?_)
  show sn_S X 0 [(0, vA (some a)), (1, vI x1), (2, vI x2), (3, vI x3)] [] _
  replace C : sn_Cx X c_Md_backEnds "SignalNetworkModel" none "backEnds" 7 3 74 := C
  unfold f_Md_backEnds
  refine r_aload_n (q := 1) (i := 0) (pl := 0) C d_Md_backEnds_0 rfl rfl rfl ?_
  refine r_iload_n (q := 2) (i := 1) (pl := 1) C d_Md_backEnds_1 rfl rfl rfl ?_
  refine r_iload_n (q := 3) (i := 2) (pl := 2) C d_Md_backEnds_2 rfl rfl rfl ?_
  refine r_iload_n (q := 4) (i := 3) (pl := 3) C d_Md_backEnds_3 rfl rfl rfl ?_
  refine r_cvI (q := 7) (As := [vI x1, vI x2, vI x3]) (st := []) (cy := 11) C d_Md_backEnds_4 rfl Y_Md_flowAt L_Md_212 I_Md_flowAt Se_Md_flowAt rfl (by decide) rfl (Nat.le_of_ble_eq_true rfl) (Nat.le_of_ble_eq_true rfl) (Nat.le_of_ble_eq_true rfl) rfl (fun a11 => con_Md_flowAt a11 x1 x2 x3) (fun v12 => ?_)
  refine r_istore (q := 9) (i := 4) (lv' := [(4, vI v12), (0, vA (some a)), (1, vI x1), (2, vI x2), (3, vI x3)]) C d_Md_backEnds_7 rfl (by decide) rfl ?_
  refine r_aload_n (q := 10) (i := 0) (pl := 1) C d_Md_backEnds_9 rfl rfl rfl ?_
  refine r_gR (q := 13) C d_Md_backEnds_10 rfl F_Md_135 rfl (fun v13 => ?_)
  refine r_iload (q := 15) (i := 4) (pl := 0) C d_Md_backEnds_13 rfl rfl ?_
  refine r_aI (q := 16) C (Or.inr rfl) d_Md_backEnds_15 rfl (fun v14 => ?_)
  refine r_istore (q := 18) (i := 5) (lv' := [(5, vI v14), (4, vI v12), (0, vA (some a)), (1, vI x1), (2, vI x2), (3, vI x3)]) C d_Md_backEnds_16 rfl (by decide) rfl ?_
  refine r_aload_n (q := 19) (i := 0) (pl := 2) C d_Md_backEnds_18 rfl rfl rfl ?_
  refine r_gR (q := 22) C d_Md_backEnds_19 rfl F_Md_120 rfl (fun v15 => ?_)
  refine r_iload (q := 24) (i := 4) (pl := 1) C d_Md_backEnds_22 rfl rfl ?_
  refine r_iconst (q := 25) (v := 0) C d_Md_backEnds_24 rfl (by decide) ?_
  refine r_bI (q := 26) C (Or.inr rfl) d_Md_backEnds_25 rfl ?_
  refine r_aload_n (q := 27) (i := 0) (pl := 2) C d_Md_backEnds_26 rfl rfl rfl ?_
  refine r_gR (q := 30) C d_Md_backEnds_27 rfl F_Md_126 rfl (fun v16 => ?_)
  refine r_iload (q := 32) (i := 4) (pl := 1) C d_Md_backEnds_30 rfl rfl ?_
  refine r_iconst (q := 33) (v := 0) C d_Md_backEnds_32 rfl (by decide) ?_
  refine r_bI (q := 34) C (Or.inr rfl) d_Md_backEnds_33 rfl ?_
  refine r_aload_n (q := 35) (i := 0) (pl := 2) C d_Md_backEnds_34 rfl rfl rfl ?_
  refine r_gR (q := 38) C d_Md_backEnds_35 rfl F_Md_117 rfl (fun v17 => ?_)
  refine r_iload (q := 40) (i := 4) (pl := 1) C d_Md_backEnds_38 rfl rfl ?_
  refine r_aload_n (q := 41) (i := 0) (pl := 2) C d_Md_backEnds_40 rfl rfl rfl ?_
  refine r_iload_n (q := 42) (i := 1) (pl := 3) C d_Md_backEnds_41 rfl rfl rfl ?_
  refine r_iload_n (q := 43) (i := 2) (pl := 4) C d_Md_backEnds_42 rfl rfl rfl ?_
  refine r_iload_n (q := 44) (i := 3) (pl := 5) C d_Md_backEnds_43 rfl rfl rfl ?_
  refine r_cvI (q := 47) (As := [vI x1, vI x2, vI x3]) (st := [vI v12, vA v17]) (cy := 11) C d_Md_backEnds_44 rfl Y_Md_bestOf L_Md_269 I_Md_bestOf Se_Md_bestOf rfl (by decide) rfl (Nat.le_of_ble_eq_true rfl) (Nat.le_of_ble_eq_true rfl) (Nat.le_of_ble_eq_true rfl) rfl (fun a18 => con_Md_bestOf a18 x1 x2 x3) (fun v19 => ?_)
  refine r_bI (q := 48) C (Or.inr rfl) d_Md_backEnds_47 rfl ?_
  refine r_aload_n (q := 49) (i := 0) (pl := 2) C d_Md_backEnds_48 rfl rfl rfl ?_
  refine r_gR (q := 52) C d_Md_backEnds_49 rfl F_Md_135 rfl (fun v20 => ?_)
  refine r_iload (q := 54) (i := 4) (pl := 1) C d_Md_backEnds_52 rfl rfl ?_
  refine r_iconst (q := 55) (v := 0) C d_Md_backEnds_54 rfl (by decide) ?_
  refine r_bI (q := 56) C (Or.inr rfl) d_Md_backEnds_55 rfl ?_
  refine r_iconst (q := 57) (v := 0) C d_Md_backEnds_56 rfl (by decide) ?_
  refine r_istore (q := 59) (i := 6) (lv' := [(6, vI (0 : Int32)), (5, vI v14), (4, vI v12), (0, vA (some a)), (1, vI x1), (2, vI x2), (3, vI x3)]) C d_Md_backEnds_57 rfl (by decide) rfl ?_
  refine r_sub (lv' := [(0, vA (some a)), (1, vI x1), (2, vI x2), (3, vI x3), (4, vI v12), (5, vI v14), (6, vI (0 : Int32))]) [3, 4, 5, 6, 2, 1, 0] rfl ?_
  exact s_Md_backEnds_59 C a sn_fuel x1 x2 x3 v12 v14 (0 : Int32)
theorem d_Md_says_0 : decode c_Md_says 0 = .ok (.iload_n 1, 1) := by decide +kernel
theorem d_Md_says_1 : decode c_Md_says 1 = .ok (.bipush 24, 2) := by decide +kernel
theorem d_Md_says_3 : decode c_Md_says 3 = .ok (.idiv, 1) := by decide +kernel
theorem d_Md_says_4 : decode c_Md_says 4 = .ok (.istore 5, 2) := by decide +kernel
theorem d_Md_says_6 : decode c_Md_says 6 = .ok (.iload_n 1, 1) := by decide +kernel
theorem d_Md_says_7 : decode c_Md_says 7 = .ok (.bipush 24, 2) := by decide +kernel
theorem d_Md_says_9 : decode c_Md_says 9 = .ok (.irem, 1) := by decide +kernel
theorem d_Md_says_10 : decode c_Md_says 10 = .ok (.iconst 4, 1) := by decide +kernel
theorem d_Md_says_11 : decode c_Md_says 11 = .ok (.idiv, 1) := by decide +kernel
theorem d_Md_says_12 : decode c_Md_says 12 = .ok (.istore 6, 2) := by decide +kernel
theorem d_Md_says_14 : decode c_Md_says 14 = .ok (.aload_n 0, 1) := by decide +kernel
theorem d_Md_says_15 : decode c_Md_says 15 = .ok (.iload 5, 2) := by decide +kernel
theorem d_Md_says_17 : decode c_Md_says 17 = .ok (.iload 6, 2) := by decide +kernel
theorem d_Md_says_19 : decode c_Md_says 19 = .ok (.iload_n 2, 1) := by decide +kernel
theorem d_Md_says_20 : decode c_Md_says 20 = .ok (.iload 5, 2) := by decide +kernel
theorem d_Md_says_22 : decode c_Md_says 22 = .ok (.iload 6, 2) := by decide +kernel
theorem d_Md_says_24 : decode c_Md_says 24 = .ok (.iload_n 1, 1) := by decide +kernel
theorem d_Md_says_25 : decode c_Md_says 25 = .ok (.iconst 4, 1) := by decide +kernel
theorem d_Md_says_26 : decode c_Md_says 26 = .ok (.irem, 1) := by decide +kernel
theorem d_Md_says_27 : decode c_Md_says 27 = .ok (.iload_n 1, 1) := by decide +kernel
theorem d_Md_says_28 : decode c_Md_says 28 = .ok (.iconst 4, 1) := by decide +kernel
theorem d_Md_says_29 : decode c_Md_says 29 = .ok (.irem, 1) := by decide +kernel
theorem d_Md_says_30 : decode c_Md_says 30 = .ok (.iconst 4, 1) := by decide +kernel
theorem d_Md_says_31 : decode c_Md_says 31 = .ok (.iload_n 3, 1) := by decide +kernel
theorem d_Md_says_32 : decode c_Md_says 32 = .ok (.imul, 1) := by decide +kernel
theorem d_Md_says_33 : decode c_Md_says 33 = .ok (.iadd, 1) := by decide +kernel
theorem d_Md_says_34 : decode c_Md_says 34 = .ok (.iload 4, 2) := by decide +kernel
theorem d_Md_says_36 : decode c_Md_says 36 = .ok (.invokestatic 248, 3) := by decide +kernel
theorem d_Md_says_39 : decode c_Md_says 39 = .ok (.iconst (-1), 1) := by decide +kernel
theorem d_Md_says_40 : decode c_Md_says 40 = .ok (.invokevirtual 241, 3) := by decide +kernel
theorem d_Md_says_43 : decode c_Md_says 43 = .ok (.return_, 1) := by decide +kernel
def f_Md_says (a : Nat) (x1 : Int32) (x2 : Int32) (x3 : Int32) (x4 : Int32) : sn_M := n_I ((x1 / (24 : Int32))) fun n1 => n_I (((x1 % (24 : Int32)) / (4 : Int32))) fun n2 => c_J (f_Md_message x2 n1 n2 (x1 % (4 : Int32)) ((x1 % (4 : Int32)) + ((4 : Int32) * x3)) x4) fun v3 => n_n 12 (some a) fun a4 => c_V (f_Md_route a4 n1 n2 v3 (-1 : Int32)) (r_V)
set_option maxHeartbeats 4000000 in
set_option maxRecDepth 100000 in
theorem mono_Md_says (a : Nat) (x1 : Int32) (x2 : Int32) (x3 : Int32) (x4 : Int32) : sn_Mono (f_Md_says a x1 x2 x3 x4) := sn_Mono.nI (fun n1 => sn_Mono.nI (fun n2 => sn_Mono.cJ (mono_Md_message x2 n1 n2 (x1 % (4 : Int32)) ((x1 % (4 : Int32)) + ((4 : Int32) * x3)) x4) (fun v3 => sn_Mono.nn (fun a4 => sn_Mono.cV (mono_Md_route a4 n1 n2 v3 (-1 : Int32)) (sn_Mono.rV)))))
set_option maxHeartbeats 4000000 in
set_option maxRecDepth 100000 in
theorem con_Md_says (a : Nat) (x1 : Int32) (x2 : Int32) (x3 : Int32) (x4 : Int32) : sn_Con y_Md_says c_Md_says 7 none 4 96 [vA (some a), vI x1, vI x2, vI x3, vI x4] (f_Md_says a x1 x2 x3 x4) := by
  refine sn_Con.of (by decide +kernel) (by show _ ≤ _; exact Nat.le_of_ble_eq_true rfl) (mono_Md_says a x1 x2 x3 x4) (fun X C => ?_)
  show sn_S X 0 [(0, vA (some a)), (1, vI x1), (2, vI x2), (3, vI x3), (4, vI x4)] [] _
  replace C : sn_Cx X c_Md_says "SignalNetworkModel" none "says" 7 4 96 := C
  unfold f_Md_says
  refine r_iload_n (q := 1) (i := 1) (pl := 1) C d_Md_says_0 rfl rfl rfl ?_
  refine r_bipush (q := 3) (v := 24) C d_Md_says_1 rfl (by decide) ?_
  refine r_idivc (q := 4) C d_Md_says_3 rfl (by decide) ?_
  refine r_nI (fun n1 => ?_)
  refine r_istore (q := 6) (i := 5) (lv' := [(5, vI n1), (0, vA (some a)), (1, vI x1), (2, vI x2), (3, vI x3), (4, vI x4)]) C d_Md_says_4 rfl (by decide) rfl ?_
  refine r_iload_n (q := 7) (i := 1) (pl := 2) C d_Md_says_6 rfl rfl rfl ?_
  refine r_bipush (q := 9) (v := 24) C d_Md_says_7 rfl (by decide) ?_
  refine r_iremc (q := 10) C d_Md_says_9 rfl (by decide) ?_
  refine r_iconst (q := 11) (v := 4) C d_Md_says_10 rfl (by decide) ?_
  refine r_idivc (q := 12) C d_Md_says_11 rfl (by decide) ?_
  refine r_nI (fun n2 => ?_)
  refine r_istore (q := 14) (i := 6) (lv' := [(6, vI n2), (5, vI n1), (0, vA (some a)), (1, vI x1), (2, vI x2), (3, vI x3), (4, vI x4)]) C d_Md_says_12 rfl (by decide) rfl ?_
  refine r_aload_n (q := 15) (i := 0) (pl := 2) C d_Md_says_14 rfl rfl rfl ?_
  refine r_iload (q := 17) (i := 5) (pl := 1) C d_Md_says_15 rfl rfl ?_
  refine r_iload (q := 19) (i := 6) (pl := 0) C d_Md_says_17 rfl rfl ?_
  refine r_iload_n (q := 20) (i := 2) (pl := 4) C d_Md_says_19 rfl rfl rfl ?_
  refine r_iload (q := 22) (i := 5) (pl := 1) C d_Md_says_20 rfl rfl ?_
  refine r_iload (q := 24) (i := 6) (pl := 0) C d_Md_says_22 rfl rfl ?_
  refine r_iload_n (q := 25) (i := 1) (pl := 3) C d_Md_says_24 rfl rfl rfl ?_
  refine r_iconst (q := 26) (v := 4) C d_Md_says_25 rfl (by decide) ?_
  refine r_iremc (q := 27) C d_Md_says_26 rfl (by decide) ?_
  refine r_iload_n (q := 28) (i := 1) (pl := 3) C d_Md_says_27 rfl rfl rfl ?_
  refine r_iconst (q := 29) (v := 4) C d_Md_says_28 rfl (by decide) ?_
  refine r_iremc (q := 30) C d_Md_says_29 rfl (by decide) ?_
  refine r_iconst (q := 31) (v := 4) C d_Md_says_30 rfl (by decide) ?_
  refine r_iload_n (q := 32) (i := 3) (pl := 5) C d_Md_says_31 rfl rfl rfl ?_
  refine r_imul (q := 33) C d_Md_says_32 rfl ?_
  refine r_iadd (q := 34) C d_Md_says_33 rfl ?_
  refine r_iload (q := 36) (i := 4) (pl := 6) C d_Md_says_34 rfl rfl ?_
  refine r_csJ (q := 39) (As := [vI x2, vI n1, vI n2, vI (x1 % (4 : Int32)), vI ((x1 % (4 : Int32)) + ((4 : Int32) * x3)), vI x4]) (st := [vI n2, vI n1, vA (some a)]) C d_Md_says_36 rfl Y_Md_message L_Md_248 St_Md_message rfl (Nat.le_of_ble_eq_true rfl) (Nat.le_of_ble_eq_true rfl) (Nat.le_of_ble_eq_true rfl) rfl (con_Md_message x2 n1 n2 (x1 % (4 : Int32)) ((x1 % (4 : Int32)) + ((4 : Int32) * x3)) x4) (fun v3 => ?_)
  refine r_iconst (q := 40) (v := -1) C d_Md_says_39 rfl (by decide) ?_
  refine r_cvV (q := 43) (As := [vI n1, vI n2, vJ v3, vI (-1 : Int32)]) (st := []) (cy := 11) C d_Md_says_40 rfl Y_Md_route L_Md_241 I_Md_route Se_Md_route rfl (by decide) rfl (Nat.le_of_ble_eq_true rfl) (Nat.le_of_ble_eq_true rfl) (Nat.le_of_ble_eq_true rfl) rfl (fun a4 => con_Md_route a4 n1 n2 v3 (-1 : Int32)) ?_
  exact r_vret C d_Md_says_43 rfl
theorem d_Md_say_0 : decode c_Md_say 0 = .ok (.aload_n 0, 1) := by decide +kernel
theorem d_Md_say_1 : decode c_Md_say 1 = .ok (.iload_n 1, 1) := by decide +kernel
theorem d_Md_say_2 : decode c_Md_say 2 = .ok (.iload_n 2, 1) := by decide +kernel
theorem d_Md_say_3 : decode c_Md_say 3 = .ok (.aload_n 0, 1) := by decide +kernel
theorem d_Md_say_4 : decode c_Md_say 4 = .ok (.getfield 171, 3) := by decide +kernel
theorem d_Md_say_7 : decode c_Md_say 7 = .ok (.iload_n 1, 1) := by decide +kernel
theorem d_Md_say_8 : decode c_Md_say 8 = .ok (.iaload, 1) := by decide +kernel
theorem d_Md_say_9 : decode c_Md_say 9 = .ok (.iload_n 3, 1) := by decide +kernel
theorem d_Md_say_10 : decode c_Md_say 10 = .ok (.invokevirtual 349, 3) := by decide +kernel
theorem d_Md_say_13 : decode c_Md_say 13 = .ok (.return_, 1) := by decide +kernel
def f_Md_say (a : Nat) (x1 : Int32) (x2 : Int32) (x3 : Int32) : sn_M := g_R 12 59 (some a) fun v1 => a_I 31 v1 x1 fun v2 => n_n 12 (some a) fun a3 => c_V (f_Md_says a3 x1 x2 v2 x3) (r_V)
set_option maxHeartbeats 4000000 in
set_option maxRecDepth 100000 in
theorem mono_Md_say (a : Nat) (x1 : Int32) (x2 : Int32) (x3 : Int32) : sn_Mono (f_Md_say a x1 x2 x3) := sn_Mono.gR (fun v1 => sn_Mono.aI (fun v2 => sn_Mono.nn (fun a3 => sn_Mono.cV (mono_Md_says a3 x1 x2 v2 x3) (sn_Mono.rV))))
set_option maxHeartbeats 4000000 in
set_option maxRecDepth 100000 in
theorem con_Md_say (a : Nat) (x1 : Int32) (x2 : Int32) (x3 : Int32) : sn_Con y_Md_say c_Md_say 4 none 5 122 [vA (some a), vI x1, vI x2, vI x3] (f_Md_say a x1 x2 x3) := by
  refine sn_Con.of (by decide +kernel) (by show _ ≤ _; exact Nat.le_of_ble_eq_true rfl) (mono_Md_say a x1 x2 x3) (fun X C => ?_)
  show sn_S X 0 [(0, vA (some a)), (1, vI x1), (2, vI x2), (3, vI x3)] [] _
  replace C : sn_Cx X c_Md_say "SignalNetworkModel" none "say" 4 5 122 := C
  unfold f_Md_say
  refine r_aload_n (q := 1) (i := 0) (pl := 0) C d_Md_say_0 rfl rfl rfl ?_
  refine r_iload_n (q := 2) (i := 1) (pl := 1) C d_Md_say_1 rfl rfl rfl ?_
  refine r_iload_n (q := 3) (i := 2) (pl := 2) C d_Md_say_2 rfl rfl rfl ?_
  refine r_aload_n (q := 4) (i := 0) (pl := 0) C d_Md_say_3 rfl rfl rfl ?_
  refine r_gR (q := 7) C d_Md_say_4 rfl F_Md_171 rfl (fun v1 => ?_)
  refine r_iload_n (q := 8) (i := 1) (pl := 1) C d_Md_say_7 rfl rfl rfl ?_
  refine r_aI (q := 9) C (Or.inr rfl) d_Md_say_8 rfl (fun v2 => ?_)
  refine r_iload_n (q := 10) (i := 3) (pl := 3) C d_Md_say_9 rfl rfl rfl ?_
  refine r_cvV (q := 13) (As := [vI x1, vI x2, vI v2, vI x3]) (st := []) (cy := 11) C d_Md_say_10 rfl Y_Md_says L_Md_349 I_Md_says Se_Md_says rfl (by decide) rfl (Nat.le_of_ble_eq_true rfl) (Nat.le_of_ble_eq_true rfl) (Nat.le_of_ble_eq_true rfl) rfl (fun a3 => con_Md_says a3 x1 x2 v2 x3) ?_
  exact r_vret C d_Md_say_13 rfl
theorem d_Md_back_0 : decode c_Md_back 0 = .ok (.iload_n 1, 1) := by decide +kernel
theorem d_Md_back_1 : decode c_Md_back 1 = .ok (.iconst (-1), 1) := by decide +kernel
theorem d_Md_back_2 : decode c_Md_back 2 = .ok (.if_icmp .ne 4, 3) := by decide +kernel
theorem d_Md_back_5 : decode c_Md_back 5 = .ok (.return_, 1) := by decide +kernel
theorem d_Md_back_6 : decode c_Md_back 6 = .ok (.iload_n 1, 1) := by decide +kernel
theorem d_Md_back_7 : decode c_Md_back 7 = .ok (.bipush 100, 2) := by decide +kernel
theorem d_Md_back_9 : decode c_Md_back 9 = .ok (.if_icmp .ge 53, 3) := by decide +kernel
theorem d_Md_back_12 : decode c_Md_back 12 = .ok (.iload_n 2, 1) := by decide +kernel
theorem d_Md_back_13 : decode c_Md_back 13 = .ok (.bipush 8, 2) := by decide +kernel
theorem d_Md_back_15 : decode c_Md_back 15 = .ok (.if_icmp .ne 23, 3) := by decide +kernel
theorem d_Md_back_18 : decode c_Md_back 18 = .ok (.aload_n 0, 1) := by decide +kernel
theorem d_Md_back_19 : decode c_Md_back 19 = .ok (.getfield 177, 3) := by decide +kernel
theorem d_Md_back_22 : decode c_Md_back 22 = .ok (.iload_n 1, 1) := by decide +kernel
theorem d_Md_back_23 : decode c_Md_back 23 = .ok (.iaload, 1) := by decide +kernel
theorem d_Md_back_24 : decode c_Md_back 24 = .ok (.iconst 1, 1) := by decide +kernel
theorem d_Md_back_25 : decode c_Md_back 25 = .ok (.if_icmp .ne 13, 3) := by decide +kernel
theorem d_Md_back_28 : decode c_Md_back 28 = .ok (.aload_n 0, 1) := by decide +kernel
theorem d_Md_back_29 : decode c_Md_back 29 = .ok (.getfield 177, 3) := by decide +kernel
theorem d_Md_back_32 : decode c_Md_back 32 = .ok (.iload_n 1, 1) := by decide +kernel
theorem d_Md_back_33 : decode c_Md_back 33 = .ok (.iconst 2, 1) := by decide +kernel
theorem d_Md_back_34 : decode c_Md_back 34 = .ok (.iastore, 1) := by decide +kernel
theorem d_Md_back_35 : decode c_Md_back 35 = .ok (.goto 26, 3) := by decide +kernel
theorem d_Md_back_38 : decode c_Md_back 38 = .ok (.iload_n 2, 1) := by decide +kernel
theorem d_Md_back_39 : decode c_Md_back 39 = .ok (.bipush 9, 2) := by decide +kernel
theorem d_Md_back_41 : decode c_Md_back 41 = .ok (.if_icmp .ne 20, 3) := by decide +kernel
theorem d_Md_back_44 : decode c_Md_back 44 = .ok (.aload_n 0, 1) := by decide +kernel
theorem d_Md_back_45 : decode c_Md_back 45 = .ok (.getfield 177, 3) := by decide +kernel
theorem d_Md_back_48 : decode c_Md_back 48 = .ok (.iload_n 1, 1) := by decide +kernel
theorem d_Md_back_49 : decode c_Md_back 49 = .ok (.iaload, 1) := by decide +kernel
theorem d_Md_back_50 : decode c_Md_back 50 = .ok (.iconst 2, 1) := by decide +kernel
theorem d_Md_back_51 : decode c_Md_back 51 = .ok (.if_icmp .ne 10, 3) := by decide +kernel
theorem d_Md_back_54 : decode c_Md_back 54 = .ok (.aload_n 0, 1) := by decide +kernel
theorem d_Md_back_55 : decode c_Md_back 55 = .ok (.getfield 177, 3) := by decide +kernel
theorem d_Md_back_58 : decode c_Md_back 58 = .ok (.iload_n 1, 1) := by decide +kernel
theorem d_Md_back_59 : decode c_Md_back 59 = .ok (.iconst 4, 1) := by decide +kernel
theorem d_Md_back_60 : decode c_Md_back 60 = .ok (.iastore, 1) := by decide +kernel
theorem d_Md_back_61 : decode c_Md_back 61 = .ok (.return_, 1) := by decide +kernel
theorem d_Md_back_62 : decode c_Md_back 62 = .ok (.iload_n 1, 1) := by decide +kernel
theorem d_Md_back_63 : decode c_Md_back 63 = .ok (.bipush 100, 2) := by decide +kernel
theorem d_Md_back_65 : decode c_Md_back 65 = .ok (.isub, 1) := by decide +kernel
theorem d_Md_back_66 : decode c_Md_back 66 = .ok (.istore_n 3, 1) := by decide +kernel
theorem d_Md_back_67 : decode c_Md_back 67 = .ok (.iload_n 2, 1) := by decide +kernel
theorem d_Md_back_68 : decode c_Md_back 68 = .ok (.bipush 8, 2) := by decide +kernel
theorem d_Md_back_70 : decode c_Md_back 70 = .ok (.if_icmp .ne 13, 3) := by decide +kernel
theorem d_Md_back_73 : decode c_Md_back 73 = .ok (.aload_n 0, 1) := by decide +kernel
theorem d_Md_back_74 : decode c_Md_back 74 = .ok (.getfield 150, 3) := by decide +kernel
theorem d_Md_back_77 : decode c_Md_back 77 = .ok (.iload_n 3, 1) := by decide +kernel
theorem d_Md_back_78 : decode c_Md_back 78 = .ok (.iaload, 1) := by decide +kernel
theorem d_Md_back_79 : decode c_Md_back 79 = .ok (.iconst 4, 1) := by decide +kernel
theorem d_Md_back_80 : decode c_Md_back 80 = .ok (.if_icmp .eq 19, 3) := by decide +kernel
theorem d_Md_back_83 : decode c_Md_back 83 = .ok (.iload_n 2, 1) := by decide +kernel
theorem d_Md_back_84 : decode c_Md_back 84 = .ok (.bipush 9, 2) := by decide +kernel
theorem d_Md_back_86 : decode c_Md_back 86 = .ok (.if_icmp .ne 30, 3) := by decide +kernel
theorem d_Md_back_89 : decode c_Md_back 89 = .ok (.aload_n 0, 1) := by decide +kernel
theorem d_Md_back_90 : decode c_Md_back 90 = .ok (.getfield 150, 3) := by decide +kernel
theorem d_Md_back_93 : decode c_Md_back 93 = .ok (.iload_n 3, 1) := by decide +kernel
theorem d_Md_back_94 : decode c_Md_back 94 = .ok (.iaload, 1) := by decide +kernel
theorem d_Md_back_95 : decode c_Md_back 95 = .ok (.iconst 5, 1) := by decide +kernel
theorem d_Md_back_96 : decode c_Md_back 96 = .ok (.if_icmp .ne 20, 3) := by decide +kernel
theorem d_Md_back_99 : decode c_Md_back 99 = .ok (.aload_n 0, 1) := by decide +kernel
theorem d_Md_back_100 : decode c_Md_back 100 = .ok (.iload_n 3, 1) := by decide +kernel
theorem d_Md_back_101 : decode c_Md_back 101 = .ok (.iload_n 2, 1) := by decide +kernel
theorem d_Md_back_102 : decode c_Md_back 102 = .ok (.iconst 0, 1) := by decide +kernel
theorem d_Md_back_103 : decode c_Md_back 103 = .ok (.invokevirtual 361, 3) := by decide +kernel
theorem d_Md_back_106 : decode c_Md_back 106 = .ok (.aload_n 0, 1) := by decide +kernel
theorem d_Md_back_107 : decode c_Md_back 107 = .ok (.getfield 150, 3) := by decide +kernel
theorem d_Md_back_110 : decode c_Md_back 110 = .ok (.iload_n 3, 1) := by decide +kernel
theorem d_Md_back_111 : decode c_Md_back 111 = .ok (.dup2, 1) := by decide +kernel
theorem d_Md_back_112 : decode c_Md_back 112 = .ok (.iaload, 1) := by decide +kernel
theorem d_Md_back_113 : decode c_Md_back 113 = .ok (.iconst 1, 1) := by decide +kernel
theorem d_Md_back_114 : decode c_Md_back 114 = .ok (.iadd, 1) := by decide +kernel
theorem d_Md_back_115 : decode c_Md_back 115 = .ok (.iastore, 1) := by decide +kernel
theorem d_Md_back_116 : decode c_Md_back 116 = .ok (.return_, 1) := by decide +kernel
def f_Md_back_61 (a : Nat) : sn_M := r_V
set_option maxHeartbeats 4000000 in
set_option maxRecDepth 100000 in
theorem mono_Md_back_61 (a : Nat) : sn_Mono (f_Md_back_61 a) := sn_Mono.rV
set_option maxHeartbeats 4000000 in
set_option maxRecDepth 100000 in
theorem s_Md_back_61 {X : sn_X} (C : sn_Cx X c_Md_back "SignalNetworkModel" none "back" 4 6 145) (a : Nat) : sn_S X 61 [(0, vA (some a))] [] (f_Md_back_61 a) := by
  unfold f_Md_back_61
  exact r_vret C d_Md_back_61 rfl
def f_Md_back_38 (a : Nat) (x1 : Int32) (x2 : Int32) : sn_M := (if ¬ x2 = (9 : Int32) then f_Md_back_61 a else g_R 12 61 (some a) fun v1 => a_I 31 v1 x1 fun v2 => (if ¬ v2 = (2 : Int32) then f_Md_back_61 a else g_R 12 61 (some a) fun v3 => b_I 31 v3 x1 (4 : Int32) (f_Md_back_61 a)))
set_option maxHeartbeats 4000000 in
set_option maxRecDepth 100000 in
theorem mono_Md_back_38 (a : Nat) (x1 : Int32) (x2 : Int32) : sn_Mono (f_Md_back_38 a x1 x2) := sn_Mono.ite (mono_Md_back_61 a) (sn_Mono.gR (fun v1 => sn_Mono.aI (fun v2 => sn_Mono.ite (mono_Md_back_61 a) (sn_Mono.gR (fun v3 => sn_Mono.bI (mono_Md_back_61 a))))))
set_option maxHeartbeats 4000000 in
set_option maxRecDepth 100000 in
theorem s_Md_back_38 {X : sn_X} (C : sn_Cx X c_Md_back "SignalNetworkModel" none "back" 4 6 145) (a : Nat) (x1 : Int32) (x2 : Int32) : sn_S X 38 [(0, vA (some a)), (1, vI x1), (2, vI x2)] [] (f_Md_back_38 a x1 x2) := by
  unfold f_Md_back_38
  refine r_iload_n (q := 39) (i := 2) (pl := 2) C d_Md_back_38 rfl rfl rfl ?_
  refine r_bipush (q := 41) (v := 9) C d_Md_back_39 rfl (by decide) ?_
  refine r_icmp_ne (tgt := 61) (q := 44) C d_Md_back_41 (by decide) rfl ?_ ?_
  · refine r_sub (lv' := [(0, vA (some a))]) [0] rfl ?_
    exact s_Md_back_61 C a
  · refine r_aload_n (q := 45) (i := 0) (pl := 0) C d_Md_back_44 rfl rfl rfl ?_
    refine r_gR (q := 48) C d_Md_back_45 rfl F_Md_177 rfl (fun v1 => ?_)
    refine r_iload_n (q := 49) (i := 1) (pl := 1) C d_Md_back_48 rfl rfl rfl ?_
    refine r_aI (q := 50) C (Or.inr rfl) d_Md_back_49 rfl (fun v2 => ?_)
    refine r_iconst (q := 51) (v := 2) C d_Md_back_50 rfl (by decide) ?_
    refine r_icmp_ne (tgt := 61) (q := 54) C d_Md_back_51 (by decide) rfl ?_ ?_
    · refine r_sub (lv' := [(0, vA (some a))]) [0] rfl ?_
      exact s_Md_back_61 C a
    · refine r_aload_n (q := 55) (i := 0) (pl := 0) C d_Md_back_54 rfl rfl rfl ?_
      refine r_gR (q := 58) C d_Md_back_55 rfl F_Md_177 rfl (fun v3 => ?_)
      refine r_iload_n (q := 59) (i := 1) (pl := 1) C d_Md_back_58 rfl rfl rfl ?_
      refine r_iconst (q := 60) (v := 4) C d_Md_back_59 rfl (by decide) ?_
      refine r_bI (q := 61) C (Or.inr rfl) d_Md_back_60 rfl ?_
      refine r_sub (lv' := [(0, vA (some a))]) [0] rfl ?_
      exact s_Md_back_61 C a
def f_Md_back_116 (a : Nat) : sn_M := r_V
set_option maxHeartbeats 4000000 in
set_option maxRecDepth 100000 in
theorem mono_Md_back_116 (a : Nat) : sn_Mono (f_Md_back_116 a) := sn_Mono.rV
set_option maxHeartbeats 4000000 in
set_option maxRecDepth 100000 in
theorem s_Md_back_116 {X : sn_X} (C : sn_Cx X c_Md_back "SignalNetworkModel" none "back" 4 6 145) (a : Nat) : sn_S X 116 [(0, vA (some a))] [] (f_Md_back_116 a) := by
  unfold f_Md_back_116
  exact r_vret C d_Md_back_116 rfl
def f_Md_back_99 (a : Nat) (x2 : Int32) (x3 : Int32) : sn_M := n_n 12 (some a) fun a4 => c_V (f_Md_say a4 x3 x2 (0 : Int32)) (g_R 12 52 (some a) fun v6 => a_I 31 v6 x3 fun v7 => b_I 31 v6 x3 (v7 + (1 : Int32)) (f_Md_back_116 a))
set_option maxHeartbeats 4000000 in
set_option maxRecDepth 100000 in
theorem mono_Md_back_99 (a : Nat) (x2 : Int32) (x3 : Int32) : sn_Mono (f_Md_back_99 a x2 x3) := sn_Mono.nn (fun a4 => sn_Mono.cV (mono_Md_say a4 x3 x2 (0 : Int32)) (sn_Mono.gR (fun v6 => sn_Mono.aI (fun v7 => sn_Mono.bI (mono_Md_back_116 a)))))
set_option maxHeartbeats 4000000 in
set_option maxRecDepth 100000 in
theorem s_Md_back_99 {X : sn_X} (C : sn_Cx X c_Md_back "SignalNetworkModel" none "back" 4 6 145) (a : Nat) (x2 : Int32) (x3 : Int32) : sn_S X 99 [(0, vA (some a)), (2, vI x2), (3, vI x3)] [] (f_Md_back_99 a x2 x3) := by
  unfold f_Md_back_99
  refine r_aload_n (q := 100) (i := 0) (pl := 0) C d_Md_back_99 rfl rfl rfl ?_
  refine r_iload_n (q := 101) (i := 3) (pl := 2) C d_Md_back_100 rfl rfl rfl ?_
  refine r_iload_n (q := 102) (i := 2) (pl := 1) C d_Md_back_101 rfl rfl rfl ?_
  refine r_iconst (q := 103) (v := 0) C d_Md_back_102 rfl (by decide) ?_
  refine r_cvV (q := 106) (As := [vI x3, vI x2, vI (0 : Int32)]) (st := []) (cy := 11) C d_Md_back_103 rfl Y_Md_say L_Md_361 I_Md_say Se_Md_say rfl (by decide) rfl (Nat.le_of_ble_eq_true rfl) (Nat.le_of_ble_eq_true rfl) (Nat.le_of_ble_eq_true rfl) rfl (fun a4 => con_Md_say a4 x3 x2 (0 : Int32)) ?_
  refine r_aload_n (q := 107) (i := 0) (pl := 0) C d_Md_back_106 rfl rfl rfl ?_
  refine r_gR (q := 110) C d_Md_back_107 rfl F_Md_150 rfl (fun v6 => ?_)
  refine r_iload_n (q := 111) (i := 3) (pl := 2) C d_Md_back_110 rfl rfl rfl ?_
  refine r_dup2 (q := 112) C d_Md_back_111 rfl rfl rfl ?_
  refine r_aI (q := 113) C (Or.inr rfl) d_Md_back_112 rfl (fun v7 => ?_)
  refine r_iconst (q := 114) (v := 1) C d_Md_back_113 rfl (by decide) ?_
  refine r_iadd (q := 115) C d_Md_back_114 rfl ?_
  refine r_bI (q := 116) C (Or.inr rfl) d_Md_back_115 rfl ?_
  refine r_sub (lv' := [(0, vA (some a))]) [0] rfl ?_
  exact s_Md_back_116 C a
def f_Md_back_83 (a : Nat) (x2 : Int32) (x3 : Int32) : sn_M := (if ¬ x2 = (9 : Int32) then f_Md_back_116 a else g_R 12 52 (some a) fun v8 => a_I 31 v8 x3 fun v9 => (if ¬ v9 = (5 : Int32) then f_Md_back_116 a else f_Md_back_99 a x2 x3))
set_option maxHeartbeats 4000000 in
set_option maxRecDepth 100000 in
theorem mono_Md_back_83 (a : Nat) (x2 : Int32) (x3 : Int32) : sn_Mono (f_Md_back_83 a x2 x3) := sn_Mono.ite (mono_Md_back_116 a) (sn_Mono.gR (fun v8 => sn_Mono.aI (fun v9 => sn_Mono.ite (mono_Md_back_116 a) (mono_Md_back_99 a x2 x3))))
set_option maxHeartbeats 4000000 in
set_option maxRecDepth 100000 in
theorem s_Md_back_83 {X : sn_X} (C : sn_Cx X c_Md_back "SignalNetworkModel" none "back" 4 6 145) (a : Nat) (x2 : Int32) (x3 : Int32) : sn_S X 83 [(0, vA (some a)), (2, vI x2), (3, vI x3)] [] (f_Md_back_83 a x2 x3) := by
  unfold f_Md_back_83
  refine r_iload_n (q := 84) (i := 2) (pl := 1) C d_Md_back_83 rfl rfl rfl ?_
  refine r_bipush (q := 86) (v := 9) C d_Md_back_84 rfl (by decide) ?_
  refine r_icmp_ne (tgt := 116) (q := 89) C d_Md_back_86 (by decide) rfl ?_ ?_
  · refine r_sub (lv' := [(0, vA (some a))]) [0] rfl ?_
    exact s_Md_back_116 C a
  · refine r_aload_n (q := 90) (i := 0) (pl := 0) C d_Md_back_89 rfl rfl rfl ?_
    refine r_gR (q := 93) C d_Md_back_90 rfl F_Md_150 rfl (fun v8 => ?_)
    refine r_iload_n (q := 94) (i := 3) (pl := 2) C d_Md_back_93 rfl rfl rfl ?_
    refine r_aI (q := 95) C (Or.inr rfl) d_Md_back_94 rfl (fun v9 => ?_)
    refine r_iconst (q := 96) (v := 5) C d_Md_back_95 rfl (by decide) ?_
    refine r_icmp_ne (tgt := 116) (q := 99) C d_Md_back_96 (by decide) rfl ?_ ?_
    · refine r_sub (lv' := [(0, vA (some a))]) [0] rfl ?_
      exact s_Md_back_116 C a
    · exact s_Md_back_99 C a x2 x3
def f_Md_back (a : Nat) (x1 : Int32) (x2 : Int32) : sn_M := (if ¬ x1 = (-1 : Int32) then (if (100 : Int32) ≤ x1 then n_I ((x1 - (100 : Int32))) fun n10 => (if ¬ x2 = (8 : Int32) then f_Md_back_83 a x2 n10 else g_R 12 52 (some a) fun v11 => a_I 31 v11 n10 fun v12 => (if v12 = (4 : Int32) then f_Md_back_99 a x2 n10 else f_Md_back_83 a x2 n10)) else (if ¬ x2 = (8 : Int32) then f_Md_back_38 a x1 x2 else g_R 12 61 (some a) fun v13 => a_I 31 v13 x1 fun v14 => (if ¬ v14 = (1 : Int32) then f_Md_back_38 a x1 x2 else g_R 12 61 (some a) fun v15 => b_I 31 v15 x1 (2 : Int32) (f_Md_back_61 a)))) else r_V)
set_option maxHeartbeats 4000000 in
set_option maxRecDepth 100000 in
theorem mono_Md_back (a : Nat) (x1 : Int32) (x2 : Int32) : sn_Mono (f_Md_back a x1 x2) := sn_Mono.ite (sn_Mono.ite (sn_Mono.nI (fun n10 => sn_Mono.ite (mono_Md_back_83 a x2 n10) (sn_Mono.gR (fun v11 => sn_Mono.aI (fun v12 => sn_Mono.ite (mono_Md_back_99 a x2 n10) (mono_Md_back_83 a x2 n10)))))) (sn_Mono.ite (mono_Md_back_38 a x1 x2) (sn_Mono.gR (fun v13 => sn_Mono.aI (fun v14 => sn_Mono.ite (mono_Md_back_38 a x1 x2) (sn_Mono.gR (fun v15 => sn_Mono.bI (mono_Md_back_61 a)))))))) (sn_Mono.rV)
set_option maxHeartbeats 4000000 in
set_option maxRecDepth 100000 in
theorem con_Md_back (a : Nat) (x1 : Int32) (x2 : Int32) : sn_Con y_Md_back c_Md_back 4 none 6 145 [vA (some a), vI x1, vI x2] (f_Md_back a x1 x2) := by
  refine sn_Con.of (by decide +kernel) (by show _ ≤ _; exact Nat.le_of_ble_eq_true rfl) (mono_Md_back a x1 x2) (fun X C => ?_)
  show sn_S X 0 [(0, vA (some a)), (1, vI x1), (2, vI x2)] [] _
  replace C : sn_Cx X c_Md_back "SignalNetworkModel" none "back" 4 6 145 := C
  unfold f_Md_back
  refine r_iload_n (q := 1) (i := 1) (pl := 1) C d_Md_back_0 rfl rfl rfl ?_
  refine r_iconst (q := 2) (v := -1) C d_Md_back_1 rfl (by decide) ?_
  refine r_icmp_ne (tgt := 6) (q := 5) C d_Md_back_2 (by decide) rfl ?_ ?_
  · refine r_iload_n (q := 7) (i := 1) (pl := 1) C d_Md_back_6 rfl rfl rfl ?_
    refine r_bipush (q := 9) (v := 100) C d_Md_back_7 rfl (by decide) ?_
    refine r_icmp_ge (tgt := 62) (q := 12) C d_Md_back_9 (by decide) rfl ?_ ?_
    · refine r_iload_n (q := 63) (i := 1) (pl := 1) C d_Md_back_62 rfl rfl rfl ?_
      refine r_bipush (q := 65) (v := 100) C d_Md_back_63 rfl (by decide) ?_
      refine r_isub (q := 66) C d_Md_back_65 rfl ?_
      refine r_nI (fun n10 => ?_)
      refine r_istore_n (q := 67) (i := 3) (lv' := [(3, vI n10), (0, vA (some a)), (1, vI x1), (2, vI x2)]) C d_Md_back_66 rfl rfl (by decide) rfl ?_
      refine r_iload_n (q := 68) (i := 2) (pl := 3) C d_Md_back_67 rfl rfl rfl ?_
      refine r_bipush (q := 70) (v := 8) C d_Md_back_68 rfl (by decide) ?_
      refine r_icmp_ne (tgt := 83) (q := 73) C d_Md_back_70 (by decide) rfl ?_ ?_
      · refine r_sub (lv' := [(0, vA (some a)), (2, vI x2), (3, vI n10)]) [1, 3, 0] rfl ?_
        exact s_Md_back_83 C a x2 n10
      · refine r_aload_n (q := 74) (i := 0) (pl := 1) C d_Md_back_73 rfl rfl rfl ?_
        refine r_gR (q := 77) C d_Md_back_74 rfl F_Md_150 rfl (fun v11 => ?_)
        refine r_iload_n (q := 78) (i := 3) (pl := 0) C d_Md_back_77 rfl rfl rfl ?_
        refine r_aI (q := 79) C (Or.inr rfl) d_Md_back_78 rfl (fun v12 => ?_)
        refine r_iconst (q := 80) (v := 4) C d_Md_back_79 rfl (by decide) ?_
        refine r_icmp_eq (tgt := 99) (q := 83) C d_Md_back_80 (by decide) rfl ?_ ?_
        · refine r_sub (lv' := [(0, vA (some a)), (2, vI x2), (3, vI n10)]) [1, 3, 0] rfl ?_
          exact s_Md_back_99 C a x2 n10
        · refine r_sub (lv' := [(0, vA (some a)), (2, vI x2), (3, vI n10)]) [1, 3, 0] rfl ?_
          exact s_Md_back_83 C a x2 n10
    · refine r_iload_n (q := 13) (i := 2) (pl := 2) C d_Md_back_12 rfl rfl rfl ?_
      refine r_bipush (q := 15) (v := 8) C d_Md_back_13 rfl (by decide) ?_
      refine r_icmp_ne (tgt := 38) (q := 18) C d_Md_back_15 (by decide) rfl ?_ ?_
      · exact s_Md_back_38 C a x1 x2
      · refine r_aload_n (q := 19) (i := 0) (pl := 0) C d_Md_back_18 rfl rfl rfl ?_
        refine r_gR (q := 22) C d_Md_back_19 rfl F_Md_177 rfl (fun v13 => ?_)
        refine r_iload_n (q := 23) (i := 1) (pl := 1) C d_Md_back_22 rfl rfl rfl ?_
        refine r_aI (q := 24) C (Or.inr rfl) d_Md_back_23 rfl (fun v14 => ?_)
        refine r_iconst (q := 25) (v := 1) C d_Md_back_24 rfl (by decide) ?_
        refine r_icmp_ne (tgt := 38) (q := 28) C d_Md_back_25 (by decide) rfl ?_ ?_
        · exact s_Md_back_38 C a x1 x2
        · refine r_aload_n (q := 29) (i := 0) (pl := 0) C d_Md_back_28 rfl rfl rfl ?_
          refine r_gR (q := 32) C d_Md_back_29 rfl F_Md_177 rfl (fun v15 => ?_)
          refine r_iload_n (q := 33) (i := 1) (pl := 1) C d_Md_back_32 rfl rfl rfl ?_
          refine r_iconst (q := 34) (v := 2) C d_Md_back_33 rfl (by decide) ?_
          refine r_bI (q := 35) C (Or.inr rfl) d_Md_back_34 rfl ?_
          refine r_goto (tgt := 61) C d_Md_back_35 (by decide) ?_
          refine r_sub (lv' := [(0, vA (some a))]) [0] rfl ?_
          exact s_Md_back_61 C a
  · exact r_vret C d_Md_back_5 rfl
theorem d_Md_becomes_0 : decode c_Md_becomes 0 = .ok (.aload_n 0, 1) := by decide +kernel
theorem d_Md_becomes_1 : decode c_Md_becomes 1 = .ok (.getfield 150, 3) := by decide +kernel
theorem d_Md_becomes_4 : decode c_Md_becomes 4 = .ok (.iload_n 1, 1) := by decide +kernel
theorem d_Md_becomes_5 : decode c_Md_becomes 5 = .ok (.iload_n 2, 1) := by decide +kernel
theorem d_Md_becomes_6 : decode c_Md_becomes 6 = .ok (.iastore, 1) := by decide +kernel
theorem d_Md_becomes_7 : decode c_Md_becomes 7 = .ok (.aload_n 0, 1) := by decide +kernel
theorem d_Md_becomes_8 : decode c_Md_becomes 8 = .ok (.getfield 153, 3) := by decide +kernel
theorem d_Md_becomes_11 : decode c_Md_becomes 11 = .ok (.iload_n 1, 1) := by decide +kernel
theorem d_Md_becomes_12 : decode c_Md_becomes 12 = .ok (.iload_n 3, 1) := by decide +kernel
theorem d_Md_becomes_13 : decode c_Md_becomes 13 = .ok (.ifCond .ne 7, 3) := by decide +kernel
theorem d_Md_becomes_16 : decode c_Md_becomes 16 = .ok (.iconst 0, 1) := by decide +kernel
theorem d_Md_becomes_17 : decode c_Md_becomes 17 = .ok (.goto 9, 3) := by decide +kernel
theorem d_Md_becomes_20 : decode c_Md_becomes 20 = .ok (.aload_n 0, 1) := by decide +kernel
theorem d_Md_becomes_21 : decode c_Md_becomes 21 = .ok (.getfield 256, 3) := by decide +kernel
theorem d_Md_becomes_24 : decode c_Md_becomes 24 = .ok (.iload_n 3, 1) := by decide +kernel
theorem d_Md_becomes_25 : decode c_Md_becomes 25 = .ok (.iadd, 1) := by decide +kernel
theorem d_Md_becomes_26 : decode c_Md_becomes 26 = .ok (.iastore, 1) := by decide +kernel
theorem d_Md_becomes_27 : decode c_Md_becomes 27 = .ok (.aload_n 0, 1) := by decide +kernel
theorem d_Md_becomes_28 : decode c_Md_becomes 28 = .ok (.getfield 156, 3) := by decide +kernel
theorem d_Md_becomes_31 : decode c_Md_becomes 31 = .ok (.iload_n 1, 1) := by decide +kernel
theorem d_Md_becomes_32 : decode c_Md_becomes 32 = .ok (.iload 4, 2) := by decide +kernel
theorem d_Md_becomes_34 : decode c_Md_becomes 34 = .ok (.ifCond .ne 7, 3) := by decide +kernel
theorem d_Md_becomes_37 : decode c_Md_becomes 37 = .ok (.iconst 0, 1) := by decide +kernel
theorem d_Md_becomes_38 : decode c_Md_becomes 38 = .ok (.goto 10, 3) := by decide +kernel
theorem d_Md_becomes_41 : decode c_Md_becomes 41 = .ok (.aload_n 0, 1) := by decide +kernel
theorem d_Md_becomes_42 : decode c_Md_becomes 42 = .ok (.getfield 256, 3) := by decide +kernel
theorem d_Md_becomes_45 : decode c_Md_becomes 45 = .ok (.iload 4, 2) := by decide +kernel
theorem d_Md_becomes_47 : decode c_Md_becomes 47 = .ok (.iadd, 1) := by decide +kernel
theorem d_Md_becomes_48 : decode c_Md_becomes 48 = .ok (.iastore, 1) := by decide +kernel
theorem d_Md_becomes_49 : decode c_Md_becomes 49 = .ok (.iload_n 2, 1) := by decide +kernel
theorem d_Md_becomes_50 : decode c_Md_becomes 50 = .ok (.ifCond .eq 9, 3) := by decide +kernel
theorem d_Md_becomes_53 : decode c_Md_becomes 53 = .ok (.iload_n 2, 1) := by decide +kernel
theorem d_Md_becomes_54 : decode c_Md_becomes 54 = .ok (.bipush 7, 2) := by decide +kernel
theorem d_Md_becomes_56 : decode c_Md_becomes 56 = .ok (.if_icmp .lt 10, 3) := by decide +kernel
theorem d_Md_becomes_59 : decode c_Md_becomes 59 = .ok (.aload_n 0, 1) := by decide +kernel
theorem d_Md_becomes_60 : decode c_Md_becomes 60 = .ok (.getfield 168, 3) := by decide +kernel
theorem d_Md_becomes_63 : decode c_Md_becomes 63 = .ok (.iload_n 1, 1) := by decide +kernel
theorem d_Md_becomes_64 : decode c_Md_becomes 64 = .ok (.iconst (-1), 1) := by decide +kernel
theorem d_Md_becomes_65 : decode c_Md_becomes 65 = .ok (.iastore, 1) := by decide +kernel
theorem d_Md_becomes_66 : decode c_Md_becomes 66 = .ok (.iload_n 2, 1) := by decide +kernel
theorem d_Md_becomes_67 : decode c_Md_becomes 67 = .ok (.ifCond .eq 9, 3) := by decide +kernel
theorem d_Md_becomes_70 : decode c_Md_becomes 70 = .ok (.iload_n 2, 1) := by decide +kernel
theorem d_Md_becomes_71 : decode c_Md_becomes 71 = .ok (.bipush 7, 2) := by decide +kernel
theorem d_Md_becomes_73 : decode c_Md_becomes 73 = .ok (.if_icmp .lt 10, 3) := by decide +kernel
theorem d_Md_becomes_76 : decode c_Md_becomes 76 = .ok (.aload_n 0, 1) := by decide +kernel
theorem d_Md_becomes_77 : decode c_Md_becomes 77 = .ok (.getfield 174, 3) := by decide +kernel
theorem d_Md_becomes_80 : decode c_Md_becomes 80 = .ok (.iload_n 1, 1) := by decide +kernel
theorem d_Md_becomes_81 : decode c_Md_becomes 81 = .ok (.iconst 0, 1) := by decide +kernel
theorem d_Md_becomes_82 : decode c_Md_becomes 82 = .ok (.iastore, 1) := by decide +kernel
theorem d_Md_becomes_83 : decode c_Md_becomes 83 = .ok (.return_, 1) := by decide +kernel
def f_Md_becomes_83 (a : Nat) : sn_M := r_V
set_option maxHeartbeats 4000000 in
set_option maxRecDepth 100000 in
theorem mono_Md_becomes_83 (a : Nat) : sn_Mono (f_Md_becomes_83 a) := sn_Mono.rV
set_option maxHeartbeats 4000000 in
set_option maxRecDepth 100000 in
theorem s_Md_becomes_83 {X : sn_X} (C : sn_Cx X c_Md_becomes "SignalNetworkModel" none "becomes" 5 0 0) (a : Nat) : sn_S X 83 [(0, vA (some a))] [] (f_Md_becomes_83 a) := by
  unfold f_Md_becomes_83
  exact r_vret C d_Md_becomes_83 rfl
def f_Md_becomes_76 (a : Nat) (x1 : Int32) : sn_M := g_R 12 60 (some a) fun v1 => b_I 31 v1 x1 (0 : Int32) (f_Md_becomes_83 a)
set_option maxHeartbeats 4000000 in
set_option maxRecDepth 100000 in
theorem mono_Md_becomes_76 (a : Nat) (x1 : Int32) : sn_Mono (f_Md_becomes_76 a x1) := sn_Mono.gR (fun v1 => sn_Mono.bI (mono_Md_becomes_83 a))
set_option maxHeartbeats 4000000 in
set_option maxRecDepth 100000 in
theorem s_Md_becomes_76 {X : sn_X} (C : sn_Cx X c_Md_becomes "SignalNetworkModel" none "becomes" 5 0 0) (a : Nat) (x1 : Int32) : sn_S X 76 [(0, vA (some a)), (1, vI x1)] [] (f_Md_becomes_76 a x1) := by
  unfold f_Md_becomes_76
  refine r_aload_n (q := 77) (i := 0) (pl := 0) C d_Md_becomes_76 rfl rfl rfl ?_
  refine r_gR (q := 80) C d_Md_becomes_77 rfl F_Md_174 rfl (fun v1 => ?_)
  refine r_iload_n (q := 81) (i := 1) (pl := 1) C d_Md_becomes_80 rfl rfl rfl ?_
  refine r_iconst (q := 82) (v := 0) C d_Md_becomes_81 rfl (by decide) ?_
  refine r_bI (q := 83) C (Or.inr rfl) d_Md_becomes_82 rfl ?_
  refine r_sub (lv' := [(0, vA (some a))]) [0] rfl ?_
  exact s_Md_becomes_83 C a
def f_Md_becomes_66 (a : Nat) (x1 : Int32) (x2 : Int32) : sn_M := (if x2 = 0 then f_Md_becomes_76 a x1 else (if x2 < (7 : Int32) then f_Md_becomes_83 a else f_Md_becomes_76 a x1))
set_option maxHeartbeats 4000000 in
set_option maxRecDepth 100000 in
theorem mono_Md_becomes_66 (a : Nat) (x1 : Int32) (x2 : Int32) : sn_Mono (f_Md_becomes_66 a x1 x2) := sn_Mono.ite (mono_Md_becomes_76 a x1) (sn_Mono.ite (mono_Md_becomes_83 a) (mono_Md_becomes_76 a x1))
set_option maxHeartbeats 4000000 in
set_option maxRecDepth 100000 in
theorem s_Md_becomes_66 {X : sn_X} (C : sn_Cx X c_Md_becomes "SignalNetworkModel" none "becomes" 5 0 0) (a : Nat) (x1 : Int32) (x2 : Int32) : sn_S X 66 [(0, vA (some a)), (1, vI x1), (2, vI x2)] [] (f_Md_becomes_66 a x1 x2) := by
  unfold f_Md_becomes_66
  refine r_iload_n (q := 67) (i := 2) (pl := 2) C d_Md_becomes_66 rfl rfl rfl ?_
  refine r_if_eq (tgt := 76) (q := 70) C d_Md_becomes_67 (by decide) rfl ?_ ?_
  · refine r_sub (lv' := [(0, vA (some a)), (1, vI x1)]) [0, 1] rfl ?_
    exact s_Md_becomes_76 C a x1
  · refine r_iload_n (q := 71) (i := 2) (pl := 2) C d_Md_becomes_70 rfl rfl rfl ?_
    refine r_bipush (q := 73) (v := 7) C d_Md_becomes_71 rfl (by decide) ?_
    refine r_icmp_lt (tgt := 83) (q := 76) C d_Md_becomes_73 (by decide) rfl ?_ ?_
    · refine r_sub (lv' := [(0, vA (some a))]) [0] rfl ?_
      exact s_Md_becomes_83 C a
    · refine r_sub (lv' := [(0, vA (some a)), (1, vI x1)]) [0, 1] rfl ?_
      exact s_Md_becomes_76 C a x1
def f_Md_becomes_59 (a : Nat) (x1 : Int32) (x2 : Int32) : sn_M := g_R 12 58 (some a) fun v2 => b_I 31 v2 x1 (-1 : Int32) (f_Md_becomes_66 a x1 x2)
set_option maxHeartbeats 4000000 in
set_option maxRecDepth 100000 in
theorem mono_Md_becomes_59 (a : Nat) (x1 : Int32) (x2 : Int32) : sn_Mono (f_Md_becomes_59 a x1 x2) := sn_Mono.gR (fun v2 => sn_Mono.bI (mono_Md_becomes_66 a x1 x2))
set_option maxHeartbeats 4000000 in
set_option maxRecDepth 100000 in
theorem s_Md_becomes_59 {X : sn_X} (C : sn_Cx X c_Md_becomes "SignalNetworkModel" none "becomes" 5 0 0) (a : Nat) (x1 : Int32) (x2 : Int32) : sn_S X 59 [(0, vA (some a)), (1, vI x1), (2, vI x2)] [] (f_Md_becomes_59 a x1 x2) := by
  unfold f_Md_becomes_59
  refine r_aload_n (q := 60) (i := 0) (pl := 0) C d_Md_becomes_59 rfl rfl rfl ?_
  refine r_gR (q := 63) C d_Md_becomes_60 rfl F_Md_168 rfl (fun v2 => ?_)
  refine r_iload_n (q := 64) (i := 1) (pl := 1) C d_Md_becomes_63 rfl rfl rfl ?_
  refine r_iconst (q := 65) (v := -1) C d_Md_becomes_64 rfl (by decide) ?_
  refine r_bI (q := 66) C (Or.inr rfl) d_Md_becomes_65 rfl ?_
  exact s_Md_becomes_66 C a x1 x2
def f_Md_becomes_48 (a : Nat) (x1 : Int32) (x2 : Int32) (t0 : Option Nat) (t1 : Int32) (t2 : Int32) : sn_M := b_I 31 t0 t1 t2 ((if x2 = 0 then f_Md_becomes_59 a x1 x2 else (if x2 < (7 : Int32) then f_Md_becomes_66 a x1 x2 else f_Md_becomes_59 a x1 x2)))
set_option maxHeartbeats 4000000 in
set_option maxRecDepth 100000 in
theorem mono_Md_becomes_48 (a : Nat) (x1 : Int32) (x2 : Int32) (t0 : Option Nat) (t1 : Int32) (t2 : Int32) : sn_Mono (f_Md_becomes_48 a x1 x2 t0 t1 t2) := sn_Mono.bI (sn_Mono.ite (mono_Md_becomes_59 a x1 x2) (sn_Mono.ite (mono_Md_becomes_66 a x1 x2) (mono_Md_becomes_59 a x1 x2)))
set_option maxHeartbeats 4000000 in
set_option maxRecDepth 100000 in
theorem s_Md_becomes_48 {X : sn_X} (C : sn_Cx X c_Md_becomes "SignalNetworkModel" none "becomes" 5 0 0) (a : Nat) (x1 : Int32) (x2 : Int32) (t0 : Option Nat) (t1 : Int32) (t2 : Int32) : sn_S X 48 [(0, vA (some a)), (1, vI x1), (2, vI x2)] [vI t2, vI t1, vA t0] (f_Md_becomes_48 a x1 x2 t0 t1 t2) := by
  unfold f_Md_becomes_48
  refine r_bI (q := 49) C (Or.inr rfl) d_Md_becomes_48 rfl ?_
  refine r_iload_n (q := 50) (i := 2) (pl := 2) C d_Md_becomes_49 rfl rfl rfl ?_
  refine r_if_eq (tgt := 59) (q := 53) C d_Md_becomes_50 (by decide) rfl ?_ ?_
  · exact s_Md_becomes_59 C a x1 x2
  · refine r_iload_n (q := 54) (i := 2) (pl := 2) C d_Md_becomes_53 rfl rfl rfl ?_
    refine r_bipush (q := 56) (v := 7) C d_Md_becomes_54 rfl (by decide) ?_
    refine r_icmp_lt (tgt := 66) (q := 59) C d_Md_becomes_56 (by decide) rfl ?_ ?_
    · exact s_Md_becomes_66 C a x1 x2
    · exact s_Md_becomes_59 C a x1 x2
def f_Md_becomes_26 (a : Nat) (x1 : Int32) (x2 : Int32) (x4 : Int32) (t0 : Option Nat) (t1 : Int32) (t2 : Int32) : sn_M := b_I 31 t0 t1 t2 (g_R 12 54 (some a) fun v3 => (if ¬ x4 = 0 then g_I 12 6 (some a) fun v4 => f_Md_becomes_48 a x1 x2 v3 x1 (v4 + x4) else f_Md_becomes_48 a x1 x2 v3 x1 (0 : Int32)))
set_option maxHeartbeats 4000000 in
set_option maxRecDepth 100000 in
theorem mono_Md_becomes_26 (a : Nat) (x1 : Int32) (x2 : Int32) (x4 : Int32) (t0 : Option Nat) (t1 : Int32) (t2 : Int32) : sn_Mono (f_Md_becomes_26 a x1 x2 x4 t0 t1 t2) := sn_Mono.bI (sn_Mono.gR (fun v3 => sn_Mono.ite (sn_Mono.gI (fun v4 => mono_Md_becomes_48 a x1 x2 v3 x1 (v4 + x4))) (mono_Md_becomes_48 a x1 x2 v3 x1 (0 : Int32))))
set_option maxHeartbeats 4000000 in
set_option maxRecDepth 100000 in
theorem s_Md_becomes_26 {X : sn_X} (C : sn_Cx X c_Md_becomes "SignalNetworkModel" none "becomes" 5 0 0) (a : Nat) (x1 : Int32) (x2 : Int32) (x4 : Int32) (t0 : Option Nat) (t1 : Int32) (t2 : Int32) : sn_S X 26 [(0, vA (some a)), (1, vI x1), (2, vI x2), (4, vI x4)] [vI t2, vI t1, vA t0] (f_Md_becomes_26 a x1 x2 x4 t0 t1 t2) := by
  unfold f_Md_becomes_26
  refine r_bI (q := 27) C (Or.inr rfl) d_Md_becomes_26 rfl ?_
  refine r_aload_n (q := 28) (i := 0) (pl := 0) C d_Md_becomes_27 rfl rfl rfl ?_
  refine r_gR (q := 31) C d_Md_becomes_28 rfl F_Md_156 rfl (fun v3 => ?_)
  refine r_iload_n (q := 32) (i := 1) (pl := 1) C d_Md_becomes_31 rfl rfl rfl ?_
  refine r_iload (q := 34) (i := 4) (pl := 3) C d_Md_becomes_32 rfl rfl ?_
  refine r_if_ne (tgt := 41) (q := 37) C d_Md_becomes_34 (by decide) rfl ?_ ?_
  · refine r_aload_n (q := 42) (i := 0) (pl := 0) C d_Md_becomes_41 rfl rfl rfl ?_
    refine r_gI (q := 45) C d_Md_becomes_42 rfl F_Md_256 rfl (fun v4 => ?_)
    refine r_iload (q := 47) (i := 4) (pl := 3) C d_Md_becomes_45 rfl rfl ?_
    refine r_iadd (q := 48) C d_Md_becomes_47 rfl ?_
    refine r_sub (lv' := [(0, vA (some a)), (1, vI x1), (2, vI x2)]) [0, 1, 2] rfl ?_
    exact s_Md_becomes_48 C a x1 x2 v3 x1 (v4 + x4)
  · refine r_iconst (q := 38) (v := 0) C d_Md_becomes_37 rfl (by decide) ?_
    refine r_goto (tgt := 48) C d_Md_becomes_38 (by decide) ?_
    refine r_sub (lv' := [(0, vA (some a)), (1, vI x1), (2, vI x2)]) [0, 1, 2] rfl ?_
    exact s_Md_becomes_48 C a x1 x2 v3 x1 (0 : Int32)
def f_Md_becomes (a : Nat) (x1 : Int32) (x2 : Int32) (x3 : Int32) (x4 : Int32) : sn_M := g_R 12 52 (some a) fun v5 => b_I 31 v5 x1 x2 (g_R 12 53 (some a) fun v6 => (if ¬ x3 = 0 then g_I 12 6 (some a) fun v7 => f_Md_becomes_26 a x1 x2 x4 v6 x1 (v7 + x3) else f_Md_becomes_26 a x1 x2 x4 v6 x1 (0 : Int32)))
set_option maxHeartbeats 4000000 in
set_option maxRecDepth 100000 in
theorem mono_Md_becomes (a : Nat) (x1 : Int32) (x2 : Int32) (x3 : Int32) (x4 : Int32) : sn_Mono (f_Md_becomes a x1 x2 x3 x4) := sn_Mono.gR (fun v5 => sn_Mono.bI (sn_Mono.gR (fun v6 => sn_Mono.ite (sn_Mono.gI (fun v7 => mono_Md_becomes_26 a x1 x2 x4 v6 x1 (v7 + x3))) (mono_Md_becomes_26 a x1 x2 x4 v6 x1 (0 : Int32)))))
set_option maxHeartbeats 4000000 in
set_option maxRecDepth 100000 in
theorem con_Md_becomes (a : Nat) (x1 : Int32) (x2 : Int32) (x3 : Int32) (x4 : Int32) : sn_Con y_Md_becomes c_Md_becomes 5 none 0 0 [vA (some a), vI x1, vI x2, vI x3, vI x4] (f_Md_becomes a x1 x2 x3 x4) := by
  refine sn_Con.of (by decide +kernel) (by show _ ≤ _; exact Nat.le_of_ble_eq_true rfl) (mono_Md_becomes a x1 x2 x3 x4) (fun X C => ?_)
  show sn_S X 0 [(0, vA (some a)), (1, vI x1), (2, vI x2), (3, vI x3), (4, vI x4)] [] _
  replace C : sn_Cx X c_Md_becomes "SignalNetworkModel" none "becomes" 5 0 0 := C
  unfold f_Md_becomes
  refine r_aload_n (q := 1) (i := 0) (pl := 0) C d_Md_becomes_0 rfl rfl rfl ?_
  refine r_gR (q := 4) C d_Md_becomes_1 rfl F_Md_150 rfl (fun v5 => ?_)
  refine r_iload_n (q := 5) (i := 1) (pl := 1) C d_Md_becomes_4 rfl rfl rfl ?_
  refine r_iload_n (q := 6) (i := 2) (pl := 2) C d_Md_becomes_5 rfl rfl rfl ?_
  refine r_bI (q := 7) C (Or.inr rfl) d_Md_becomes_6 rfl ?_
  refine r_aload_n (q := 8) (i := 0) (pl := 0) C d_Md_becomes_7 rfl rfl rfl ?_
  refine r_gR (q := 11) C d_Md_becomes_8 rfl F_Md_153 rfl (fun v6 => ?_)
  refine r_iload_n (q := 12) (i := 1) (pl := 1) C d_Md_becomes_11 rfl rfl rfl ?_
  refine r_iload_n (q := 13) (i := 3) (pl := 3) C d_Md_becomes_12 rfl rfl rfl ?_
  refine r_if_ne (tgt := 20) (q := 16) C d_Md_becomes_13 (by decide) rfl ?_ ?_
  · refine r_aload_n (q := 21) (i := 0) (pl := 0) C d_Md_becomes_20 rfl rfl rfl ?_
    refine r_gI (q := 24) C d_Md_becomes_21 rfl F_Md_256 rfl (fun v7 => ?_)
    refine r_iload_n (q := 25) (i := 3) (pl := 3) C d_Md_becomes_24 rfl rfl rfl ?_
    refine r_iadd (q := 26) C d_Md_becomes_25 rfl ?_
    refine r_sub (lv' := [(0, vA (some a)), (1, vI x1), (2, vI x2), (4, vI x4)]) [0, 1, 2, 4] rfl ?_
    exact s_Md_becomes_26 C a x1 x2 x4 v6 x1 (v7 + x3)
  · refine r_iconst (q := 17) (v := 0) C d_Md_becomes_16 rfl (by decide) ?_
    refine r_goto (tgt := 26) C d_Md_becomes_17 (by decide) ?_
    refine r_sub (lv' := [(0, vA (some a)), (1, vI x1), (2, vI x2), (4, vI x4)]) [0, 1, 2, 4] rfl ?_
    exact s_Md_becomes_26 C a x1 x2 x4 v6 x1 (0 : Int32)
theorem d_Md_setLeg_0 : decode c_Md_setLeg 0 = .ok (.iload_n 1, 1) := by decide +kernel
theorem d_Md_setLeg_1 : decode c_Md_setLeg 1 = .ok (.bipush 100, 2) := by decide +kernel
theorem d_Md_setLeg_3 : decode c_Md_setLeg 3 = .ok (.if_icmp .lt 16, 3) := by decide +kernel
theorem d_Md_setLeg_6 : decode c_Md_setLeg 6 = .ok (.aload_n 0, 1) := by decide +kernel
theorem d_Md_setLeg_7 : decode c_Md_setLeg 7 = .ok (.getfield 165, 3) := by decide +kernel
theorem d_Md_setLeg_10 : decode c_Md_setLeg 10 = .ok (.iload_n 1, 1) := by decide +kernel
theorem d_Md_setLeg_11 : decode c_Md_setLeg 11 = .ok (.bipush 100, 2) := by decide +kernel
theorem d_Md_setLeg_13 : decode c_Md_setLeg 13 = .ok (.isub, 1) := by decide +kernel
theorem d_Md_setLeg_14 : decode c_Md_setLeg 14 = .ok (.iload_n 2, 1) := by decide +kernel
theorem d_Md_setLeg_15 : decode c_Md_setLeg 15 = .ok (.iastore, 1) := by decide +kernel
theorem d_Md_setLeg_16 : decode c_Md_setLeg 16 = .ok (.goto 10, 3) := by decide +kernel
theorem d_Md_setLeg_19 : decode c_Md_setLeg 19 = .ok (.aload_n 0, 1) := by decide +kernel
theorem d_Md_setLeg_20 : decode c_Md_setLeg 20 = .ok (.getfield 180, 3) := by decide +kernel
theorem d_Md_setLeg_23 : decode c_Md_setLeg 23 = .ok (.iload_n 1, 1) := by decide +kernel
theorem d_Md_setLeg_24 : decode c_Md_setLeg 24 = .ok (.iload_n 2, 1) := by decide +kernel
theorem d_Md_setLeg_25 : decode c_Md_setLeg 25 = .ok (.iastore, 1) := by decide +kernel
theorem d_Md_setLeg_26 : decode c_Md_setLeg 26 = .ok (.return_, 1) := by decide +kernel
def f_Md_setLeg_26 (a : Nat) : sn_M := r_V
set_option maxHeartbeats 4000000 in
set_option maxRecDepth 100000 in
theorem mono_Md_setLeg_26 (a : Nat) : sn_Mono (f_Md_setLeg_26 a) := sn_Mono.rV
set_option maxHeartbeats 4000000 in
set_option maxRecDepth 100000 in
theorem s_Md_setLeg_26 {X : sn_X} (C : sn_Cx X c_Md_setLeg "SignalNetworkModel" none "setLeg" 3 0 0) (a : Nat) : sn_S X 26 [(0, vA (some a))] [] (f_Md_setLeg_26 a) := by
  unfold f_Md_setLeg_26
  exact r_vret C d_Md_setLeg_26 rfl
def f_Md_setLeg (a : Nat) (x1 : Int32) (x2 : Int32) : sn_M := (if x1 < (100 : Int32) then g_R 12 62 (some a) fun v1 => b_I 31 v1 x1 x2 (f_Md_setLeg_26 a) else g_R 12 57 (some a) fun v2 => b_I 31 v2 (x1 - (100 : Int32)) x2 (f_Md_setLeg_26 a))
set_option maxHeartbeats 4000000 in
set_option maxRecDepth 100000 in
theorem mono_Md_setLeg (a : Nat) (x1 : Int32) (x2 : Int32) : sn_Mono (f_Md_setLeg a x1 x2) := sn_Mono.ite (sn_Mono.gR (fun v1 => sn_Mono.bI (mono_Md_setLeg_26 a))) (sn_Mono.gR (fun v2 => sn_Mono.bI (mono_Md_setLeg_26 a)))
set_option maxHeartbeats 4000000 in
set_option maxRecDepth 100000 in
theorem con_Md_setLeg (a : Nat) (x1 : Int32) (x2 : Int32) : sn_Con y_Md_setLeg c_Md_setLeg 3 none 0 0 [vA (some a), vI x1, vI x2] (f_Md_setLeg a x1 x2) := by
  refine sn_Con.of (by decide +kernel) (by show _ ≤ _; exact Nat.le_of_ble_eq_true rfl) (mono_Md_setLeg a x1 x2) (fun X C => ?_)
  show sn_S X 0 [(0, vA (some a)), (1, vI x1), (2, vI x2)] [] _
  replace C : sn_Cx X c_Md_setLeg "SignalNetworkModel" none "setLeg" 3 0 0 := C
  unfold f_Md_setLeg
  refine r_iload_n (q := 1) (i := 1) (pl := 1) C d_Md_setLeg_0 rfl rfl rfl ?_
  refine r_bipush (q := 3) (v := 100) C d_Md_setLeg_1 rfl (by decide) ?_
  refine r_icmp_lt (tgt := 19) (q := 6) C d_Md_setLeg_3 (by decide) rfl ?_ ?_
  · refine r_aload_n (q := 20) (i := 0) (pl := 0) C d_Md_setLeg_19 rfl rfl rfl ?_
    refine r_gR (q := 23) C d_Md_setLeg_20 rfl F_Md_180 rfl (fun v1 => ?_)
    refine r_iload_n (q := 24) (i := 1) (pl := 1) C d_Md_setLeg_23 rfl rfl rfl ?_
    refine r_iload_n (q := 25) (i := 2) (pl := 2) C d_Md_setLeg_24 rfl rfl rfl ?_
    refine r_bI (q := 26) C (Or.inr rfl) d_Md_setLeg_25 rfl ?_
    refine r_sub (lv' := [(0, vA (some a))]) [0] rfl ?_
    exact s_Md_setLeg_26 C a
  · refine r_aload_n (q := 7) (i := 0) (pl := 0) C d_Md_setLeg_6 rfl rfl rfl ?_
    refine r_gR (q := 10) C d_Md_setLeg_7 rfl F_Md_165 rfl (fun v2 => ?_)
    refine r_iload_n (q := 11) (i := 1) (pl := 1) C d_Md_setLeg_10 rfl rfl rfl ?_
    refine r_bipush (q := 13) (v := 100) C d_Md_setLeg_11 rfl (by decide) ?_
    refine r_isub (q := 14) C d_Md_setLeg_13 rfl ?_
    refine r_iload_n (q := 15) (i := 2) (pl := 2) C d_Md_setLeg_14 rfl rfl rfl ?_
    refine r_bI (q := 16) C (Or.inr rfl) d_Md_setLeg_15 rfl ?_
    refine r_goto (tgt := 26) C d_Md_setLeg_16 (by decide) ?_
    refine r_sub (lv' := [(0, vA (some a))]) [0] rfl ?_
    exact s_Md_setLeg_26 C a
theorem d_Md_join_0 : decode c_Md_join 0 = .ok (.aload_n 0, 1) := by decide +kernel
theorem d_Md_join_1 : decode c_Md_join 1 = .ok (.iload_n 1, 1) := by decide +kernel
theorem d_Md_join_2 : decode c_Md_join 2 = .ok (.iload_n 2, 1) := by decide +kernel
theorem d_Md_join_3 : decode c_Md_join 3 = .ok (.invokevirtual 352, 3) := by decide +kernel
theorem d_Md_join_6 : decode c_Md_join 6 = .ok (.aload_n 0, 1) := by decide +kernel
theorem d_Md_join_7 : decode c_Md_join 7 = .ok (.iload_n 2, 1) := by decide +kernel
theorem d_Md_join_8 : decode c_Md_join 8 = .ok (.iload_n 1, 1) := by decide +kernel
theorem d_Md_join_9 : decode c_Md_join 9 = .ok (.invokevirtual 352, 3) := by decide +kernel
theorem d_Md_join_12 : decode c_Md_join 12 = .ok (.return_, 1) := by decide +kernel
def f_Md_join (a : Nat) (x1 : Int32) (x2 : Int32) : sn_M := n_n 12 (some a) fun a1 => c_V (f_Md_setLeg a1 x1 x2) (n_n 12 (some a) fun a3 => c_V (f_Md_setLeg a3 x2 x1) (r_V))
set_option maxHeartbeats 4000000 in
set_option maxRecDepth 100000 in
theorem mono_Md_join (a : Nat) (x1 : Int32) (x2 : Int32) : sn_Mono (f_Md_join a x1 x2) := sn_Mono.nn (fun a1 => sn_Mono.cV (mono_Md_setLeg a1 x1 x2) (sn_Mono.nn (fun a3 => sn_Mono.cV (mono_Md_setLeg a3 x2 x1) (sn_Mono.rV))))
set_option maxHeartbeats 4000000 in
set_option maxRecDepth 100000 in
theorem con_Md_join (a : Nat) (x1 : Int32) (x2 : Int32) : sn_Con y_Md_join c_Md_join 3 none 1 22 [vA (some a), vI x1, vI x2] (f_Md_join a x1 x2) := by
  refine sn_Con.of (by decide +kernel) (by show _ ≤ _; exact Nat.le_of_ble_eq_true rfl) (mono_Md_join a x1 x2) (fun X C => ?_)
  show sn_S X 0 [(0, vA (some a)), (1, vI x1), (2, vI x2)] [] _
  replace C : sn_Cx X c_Md_join "SignalNetworkModel" none "join" 3 1 22 := C
  unfold f_Md_join
  refine r_aload_n (q := 1) (i := 0) (pl := 0) C d_Md_join_0 rfl rfl rfl ?_
  refine r_iload_n (q := 2) (i := 1) (pl := 1) C d_Md_join_1 rfl rfl rfl ?_
  refine r_iload_n (q := 3) (i := 2) (pl := 2) C d_Md_join_2 rfl rfl rfl ?_
  refine r_cvV (q := 6) (As := [vI x1, vI x2]) (st := []) (cy := 11) C d_Md_join_3 rfl Y_Md_setLeg L_Md_352 I_Md_setLeg Se_Md_setLeg rfl (by decide) rfl (Nat.le_of_ble_eq_true rfl) (Nat.le_of_ble_eq_true rfl) (Nat.le_of_ble_eq_true rfl) rfl (fun a1 => con_Md_setLeg a1 x1 x2) ?_
  refine r_aload_n (q := 7) (i := 0) (pl := 0) C d_Md_join_6 rfl rfl rfl ?_
  refine r_iload_n (q := 8) (i := 2) (pl := 2) C d_Md_join_7 rfl rfl rfl ?_
  refine r_iload_n (q := 9) (i := 1) (pl := 1) C d_Md_join_8 rfl rfl rfl ?_
  refine r_cvV (q := 12) (As := [vI x2, vI x1]) (st := []) (cy := 11) C d_Md_join_9 rfl Y_Md_setLeg L_Md_352 I_Md_setLeg Se_Md_setLeg rfl (by decide) rfl (Nat.le_of_ble_eq_true rfl) (Nat.le_of_ble_eq_true rfl) (Nat.le_of_ble_eq_true rfl) rfl (fun a3 => con_Md_setLeg a3 x2 x1) ?_
  exact r_vret C d_Md_join_12 rfl
theorem d_Md_legOf_0 : decode c_Md_legOf 0 = .ok (.iload_n 1, 1) := by decide +kernel
theorem d_Md_legOf_1 : decode c_Md_legOf 1 = .ok (.bipush 100, 2) := by decide +kernel
theorem d_Md_legOf_3 : decode c_Md_legOf 3 = .ok (.if_icmp .lt 15, 3) := by decide +kernel
theorem d_Md_legOf_6 : decode c_Md_legOf 6 = .ok (.aload_n 0, 1) := by decide +kernel
theorem d_Md_legOf_7 : decode c_Md_legOf 7 = .ok (.getfield 165, 3) := by decide +kernel
theorem d_Md_legOf_10 : decode c_Md_legOf 10 = .ok (.iload_n 1, 1) := by decide +kernel
theorem d_Md_legOf_11 : decode c_Md_legOf 11 = .ok (.bipush 100, 2) := by decide +kernel
theorem d_Md_legOf_13 : decode c_Md_legOf 13 = .ok (.isub, 1) := by decide +kernel
theorem d_Md_legOf_14 : decode c_Md_legOf 14 = .ok (.iaload, 1) := by decide +kernel
theorem d_Md_legOf_15 : decode c_Md_legOf 15 = .ok (.goto 9, 3) := by decide +kernel
theorem d_Md_legOf_18 : decode c_Md_legOf 18 = .ok (.aload_n 0, 1) := by decide +kernel
theorem d_Md_legOf_19 : decode c_Md_legOf 19 = .ok (.getfield 180, 3) := by decide +kernel
theorem d_Md_legOf_22 : decode c_Md_legOf 22 = .ok (.iload_n 1, 1) := by decide +kernel
theorem d_Md_legOf_23 : decode c_Md_legOf 23 = .ok (.iaload, 1) := by decide +kernel
theorem d_Md_legOf_24 : decode c_Md_legOf 24 = .ok (.ireturn, 1) := by decide +kernel
def f_Md_legOf_24 (a : Nat) (t0 : Int32) : sn_M := r_I t0
set_option maxHeartbeats 4000000 in
set_option maxRecDepth 100000 in
theorem mono_Md_legOf_24 (a : Nat) (t0 : Int32) : sn_Mono (f_Md_legOf_24 a t0) := sn_Mono.rI
set_option maxHeartbeats 4000000 in
set_option maxRecDepth 100000 in
theorem s_Md_legOf_24 {X : sn_X} (C : sn_Cx X c_Md_legOf "SignalNetworkModel" (some .int) "legOf" 2 0 0) (a : Nat) (t0 : Int32) : sn_S X 24 [(0, vA (some a))] [vI t0] (f_Md_legOf_24 a t0) := by
  unfold f_Md_legOf_24
  exact r_iret C d_Md_legOf_24 rfl
def f_Md_legOf (a : Nat) (x1 : Int32) : sn_M := (if x1 < (100 : Int32) then g_R 12 62 (some a) fun v1 => a_I 31 v1 x1 fun v2 => f_Md_legOf_24 a v2 else g_R 12 57 (some a) fun v3 => a_I 31 v3 (x1 - (100 : Int32)) fun v4 => f_Md_legOf_24 a v4)
set_option maxHeartbeats 4000000 in
set_option maxRecDepth 100000 in
theorem mono_Md_legOf (a : Nat) (x1 : Int32) : sn_Mono (f_Md_legOf a x1) := sn_Mono.ite (sn_Mono.gR (fun v1 => sn_Mono.aI (fun v2 => mono_Md_legOf_24 a v2))) (sn_Mono.gR (fun v3 => sn_Mono.aI (fun v4 => mono_Md_legOf_24 a v4)))
set_option maxHeartbeats 4000000 in
set_option maxRecDepth 100000 in
theorem con_Md_legOf (a : Nat) (x1 : Int32) : sn_Con y_Md_legOf c_Md_legOf 2 (some .int) 0 0 [vA (some a), vI x1] (f_Md_legOf a x1) := by
  refine sn_Con.of (by decide +kernel) (by show _ ≤ _; exact Nat.le_of_ble_eq_true rfl) (mono_Md_legOf a x1) (fun X C => ?_)
  show sn_S X 0 [(0, vA (some a)), (1, vI x1)] [] _
  replace C : sn_Cx X c_Md_legOf "SignalNetworkModel" (some .int) "legOf" 2 0 0 := C
  unfold f_Md_legOf
  refine r_iload_n (q := 1) (i := 1) (pl := 1) C d_Md_legOf_0 rfl rfl rfl ?_
  refine r_bipush (q := 3) (v := 100) C d_Md_legOf_1 rfl (by decide) ?_
  refine r_icmp_lt (tgt := 18) (q := 6) C d_Md_legOf_3 (by decide) rfl ?_ ?_
  · refine r_aload_n (q := 19) (i := 0) (pl := 0) C d_Md_legOf_18 rfl rfl rfl ?_
    refine r_gR (q := 22) C d_Md_legOf_19 rfl F_Md_180 rfl (fun v1 => ?_)
    refine r_iload_n (q := 23) (i := 1) (pl := 1) C d_Md_legOf_22 rfl rfl rfl ?_
    refine r_aI (q := 24) C (Or.inr rfl) d_Md_legOf_23 rfl (fun v2 => ?_)
    refine r_sub (lv' := [(0, vA (some a))]) [0] rfl ?_
    exact s_Md_legOf_24 C a v2
  · refine r_aload_n (q := 7) (i := 0) (pl := 0) C d_Md_legOf_6 rfl rfl rfl ?_
    refine r_gR (q := 10) C d_Md_legOf_7 rfl F_Md_165 rfl (fun v3 => ?_)
    refine r_iload_n (q := 11) (i := 1) (pl := 1) C d_Md_legOf_10 rfl rfl rfl ?_
    refine r_bipush (q := 13) (v := 100) C d_Md_legOf_11 rfl (by decide) ?_
    refine r_isub (q := 14) C d_Md_legOf_13 rfl ?_
    refine r_aI (q := 15) C (Or.inr rfl) d_Md_legOf_14 rfl (fun v4 => ?_)
    refine r_goto (tgt := 24) C d_Md_legOf_15 (by decide) ?_
    refine r_sub (lv' := [(0, vA (some a))]) [0] rfl ?_
    exact s_Md_legOf_24 C a v4
theorem d_Md_part_0 : decode c_Md_part 0 = .ok (.aload_n 0, 1) := by decide +kernel
theorem d_Md_part_1 : decode c_Md_part 1 = .ok (.iload_n 1, 1) := by decide +kernel
theorem d_Md_part_2 : decode c_Md_part 2 = .ok (.invokevirtual 355, 3) := by decide +kernel
theorem d_Md_part_5 : decode c_Md_part 5 = .ok (.istore_n 2, 1) := by decide +kernel
theorem d_Md_part_6 : decode c_Md_part 6 = .ok (.iload_n 2, 1) := by decide +kernel
theorem d_Md_part_7 : decode c_Md_part 7 = .ok (.iconst (-1), 1) := by decide +kernel
theorem d_Md_part_8 : decode c_Md_part 8 = .ok (.if_icmp .eq 9, 3) := by decide +kernel
theorem d_Md_part_11 : decode c_Md_part 11 = .ok (.aload_n 0, 1) := by decide +kernel
theorem d_Md_part_12 : decode c_Md_part 12 = .ok (.iload_n 2, 1) := by decide +kernel
theorem d_Md_part_13 : decode c_Md_part 13 = .ok (.iconst (-1), 1) := by decide +kernel
theorem d_Md_part_14 : decode c_Md_part 14 = .ok (.invokevirtual 352, 3) := by decide +kernel
theorem d_Md_part_17 : decode c_Md_part 17 = .ok (.aload_n 0, 1) := by decide +kernel
theorem d_Md_part_18 : decode c_Md_part 18 = .ok (.iload_n 1, 1) := by decide +kernel
theorem d_Md_part_19 : decode c_Md_part 19 = .ok (.iconst (-1), 1) := by decide +kernel
theorem d_Md_part_20 : decode c_Md_part 20 = .ok (.invokevirtual 352, 3) := by decide +kernel
theorem d_Md_part_23 : decode c_Md_part 23 = .ok (.return_, 1) := by decide +kernel
def f_Md_part_17 (a : Nat) (x1 : Int32) : sn_M := n_n 12 (some a) fun a1 => c_V (f_Md_setLeg a1 x1 (-1 : Int32)) (r_V)
set_option maxHeartbeats 4000000 in
set_option maxRecDepth 100000 in
theorem mono_Md_part_17 (a : Nat) (x1 : Int32) : sn_Mono (f_Md_part_17 a x1) := sn_Mono.nn (fun a1 => sn_Mono.cV (mono_Md_setLeg a1 x1 (-1 : Int32)) (sn_Mono.rV))
set_option maxHeartbeats 4000000 in
set_option maxRecDepth 100000 in
theorem s_Md_part_17 {X : sn_X} (C : sn_Cx X c_Md_part "SignalNetworkModel" none "part" 3 1 22) (a : Nat) (x1 : Int32) : sn_S X 17 [(0, vA (some a)), (1, vI x1)] [] (f_Md_part_17 a x1) := by
  unfold f_Md_part_17
  refine r_aload_n (q := 18) (i := 0) (pl := 0) C d_Md_part_17 rfl rfl rfl ?_
  refine r_iload_n (q := 19) (i := 1) (pl := 1) C d_Md_part_18 rfl rfl rfl ?_
  refine r_iconst (q := 20) (v := -1) C d_Md_part_19 rfl (by decide) ?_
  refine r_cvV (q := 23) (As := [vI x1, vI (-1 : Int32)]) (st := []) (cy := 11) C d_Md_part_20 rfl Y_Md_setLeg L_Md_352 I_Md_setLeg Se_Md_setLeg rfl (by decide) rfl (Nat.le_of_ble_eq_true rfl) (Nat.le_of_ble_eq_true rfl) (Nat.le_of_ble_eq_true rfl) rfl (fun a1 => con_Md_setLeg a1 x1 (-1 : Int32)) ?_
  exact r_vret C d_Md_part_23 rfl
def f_Md_part (a : Nat) (x1 : Int32) : sn_M := n_n 12 (some a) fun a3 => c_I (f_Md_legOf a3 x1) fun v4 => (if v4 = (-1 : Int32) then f_Md_part_17 a x1 else n_n 12 (some a) fun a5 => c_V (f_Md_setLeg a5 v4 (-1 : Int32)) (f_Md_part_17 a x1))
set_option maxHeartbeats 4000000 in
set_option maxRecDepth 100000 in
theorem mono_Md_part (a : Nat) (x1 : Int32) : sn_Mono (f_Md_part a x1) := sn_Mono.nn (fun a3 => sn_Mono.cI (mono_Md_legOf a3 x1) (fun v4 => sn_Mono.ite (mono_Md_part_17 a x1) (sn_Mono.nn (fun a5 => sn_Mono.cV (mono_Md_setLeg a5 v4 (-1 : Int32)) (mono_Md_part_17 a x1)))))
set_option maxHeartbeats 4000000 in
set_option maxRecDepth 100000 in
theorem con_Md_part (a : Nat) (x1 : Int32) : sn_Con y_Md_part c_Md_part 3 none 1 22 [vA (some a), vI x1] (f_Md_part a x1) := by
  refine sn_Con.of (by decide +kernel) (by show _ ≤ _; exact Nat.le_of_ble_eq_true rfl) (mono_Md_part a x1) (fun X C => ?_)
  show sn_S X 0 [(0, vA (some a)), (1, vI x1)] [] _
  replace C : sn_Cx X c_Md_part "SignalNetworkModel" none "part" 3 1 22 := C
  unfold f_Md_part
  refine r_aload_n (q := 1) (i := 0) (pl := 0) C d_Md_part_0 rfl rfl rfl ?_
  refine r_iload_n (q := 2) (i := 1) (pl := 1) C d_Md_part_1 rfl rfl rfl ?_
  refine r_cvI (q := 5) (As := [vI x1]) (st := []) (cy := 11) C d_Md_part_2 rfl Y_Md_legOf L_Md_355 I_Md_legOf Se_Md_legOf rfl (by decide) rfl (Nat.le_of_ble_eq_true rfl) (Nat.le_of_ble_eq_true rfl) (Nat.le_of_ble_eq_true rfl) rfl (fun a3 => con_Md_legOf a3 x1) (fun v4 => ?_)
  refine r_istore_n (q := 6) (i := 2) (lv' := [(2, vI v4), (0, vA (some a)), (1, vI x1)]) C d_Md_part_5 rfl rfl (by decide) rfl ?_
  refine r_iload_n (q := 7) (i := 2) (pl := 0) C d_Md_part_6 rfl rfl rfl ?_
  refine r_iconst (q := 8) (v := -1) C d_Md_part_7 rfl (by decide) ?_
  refine r_icmp_eq (tgt := 17) (q := 11) C d_Md_part_8 (by decide) rfl ?_ ?_
  · refine r_sub (lv' := [(0, vA (some a)), (1, vI x1)]) [1, 2] rfl ?_
    exact s_Md_part_17 C a x1
  · refine r_aload_n (q := 12) (i := 0) (pl := 1) C d_Md_part_11 rfl rfl rfl ?_
    refine r_iload_n (q := 13) (i := 2) (pl := 0) C d_Md_part_12 rfl rfl rfl ?_
    refine r_iconst (q := 14) (v := -1) C d_Md_part_13 rfl (by decide) ?_
    refine r_cvV (q := 17) (As := [vI v4, vI (-1 : Int32)]) (st := []) (cy := 11) C d_Md_part_14 rfl Y_Md_setLeg L_Md_352 I_Md_setLeg Se_Md_setLeg rfl (by decide) rfl (Nat.le_of_ble_eq_true rfl) (Nat.le_of_ble_eq_true rfl) (Nat.le_of_ble_eq_true rfl) rfl (fun a5 => con_Md_setLeg a5 v4 (-1 : Int32)) ?_
    refine r_sub (lv' := [(0, vA (some a)), (1, vI x1)]) [1, 2] rfl ?_
    exact s_Md_part_17 C a x1
