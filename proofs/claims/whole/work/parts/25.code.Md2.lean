theorem d_Md_letGo_0 : decode c_Md_letGo 0 = .ok (.iload_n 1, 1) := by decide +kernel
theorem d_Md_letGo_1 : decode c_Md_letGo 1 = .ok (.iconst (-1), 1) := by decide +kernel
theorem d_Md_letGo_2 : decode c_Md_letGo 2 = .ok (.if_icmp .ne 4, 3) := by decide +kernel
theorem d_Md_letGo_5 : decode c_Md_letGo 5 = .ok (.return_, 1) := by decide +kernel
theorem d_Md_letGo_6 : decode c_Md_letGo 6 = .ok (.aload_n 0, 1) := by decide +kernel
theorem d_Md_letGo_7 : decode c_Md_letGo 7 = .ok (.iload_n 1, 1) := by decide +kernel
theorem d_Md_letGo_8 : decode c_Md_letGo 8 = .ok (.invokevirtual 358, 3) := by decide +kernel
theorem d_Md_letGo_11 : decode c_Md_letGo 11 = .ok (.iload_n 1, 1) := by decide +kernel
theorem d_Md_letGo_12 : decode c_Md_letGo 12 = .ok (.bipush 100, 2) := by decide +kernel
theorem d_Md_letGo_14 : decode c_Md_letGo 14 = .ok (.if_icmp .ge 66, 3) := by decide +kernel
theorem d_Md_letGo_17 : decode c_Md_letGo 17 = .ok (.aload_n 0, 1) := by decide +kernel
theorem d_Md_letGo_18 : decode c_Md_letGo 18 = .ok (.getfield 177, 3) := by decide +kernel
theorem d_Md_letGo_21 : decode c_Md_letGo 21 = .ok (.iload_n 1, 1) := by decide +kernel
theorem d_Md_letGo_22 : decode c_Md_letGo 22 = .ok (.aload_n 0, 1) := by decide +kernel
theorem d_Md_letGo_23 : decode c_Md_letGo 23 = .ok (.getfield 177, 3) := by decide +kernel
theorem d_Md_letGo_26 : decode c_Md_letGo 26 = .ok (.iload_n 1, 1) := by decide +kernel
theorem d_Md_letGo_27 : decode c_Md_letGo 27 = .ok (.iaload, 1) := by decide +kernel
theorem d_Md_letGo_28 : decode c_Md_letGo 28 = .ok (.iconst 3, 1) := by decide +kernel
theorem d_Md_letGo_29 : decode c_Md_letGo 29 = .ok (.if_icmp .ne 7, 3) := by decide +kernel
theorem d_Md_letGo_32 : decode c_Md_letGo 32 = .ok (.iconst 0, 1) := by decide +kernel
theorem d_Md_letGo_33 : decode c_Md_letGo 33 = .ok (.goto 43, 3) := by decide +kernel
theorem d_Md_letGo_36 : decode c_Md_letGo 36 = .ok (.aload_n 0, 1) := by decide +kernel
theorem d_Md_letGo_37 : decode c_Md_letGo 37 = .ok (.getfield 177, 3) := by decide +kernel
theorem d_Md_letGo_40 : decode c_Md_letGo 40 = .ok (.iload_n 1, 1) := by decide +kernel
theorem d_Md_letGo_41 : decode c_Md_letGo 41 = .ok (.iaload, 1) := by decide +kernel
theorem d_Md_letGo_42 : decode c_Md_letGo 42 = .ok (.iconst 1, 1) := by decide +kernel
theorem d_Md_letGo_43 : decode c_Md_letGo 43 = .ok (.if_icmp .eq 23, 3) := by decide +kernel
theorem d_Md_letGo_46 : decode c_Md_letGo 46 = .ok (.aload_n 0, 1) := by decide +kernel
theorem d_Md_letGo_47 : decode c_Md_letGo 47 = .ok (.getfield 177, 3) := by decide +kernel
theorem d_Md_letGo_50 : decode c_Md_letGo 50 = .ok (.iload_n 1, 1) := by decide +kernel
theorem d_Md_letGo_51 : decode c_Md_letGo 51 = .ok (.iaload, 1) := by decide +kernel
theorem d_Md_letGo_52 : decode c_Md_letGo 52 = .ok (.iconst 2, 1) := by decide +kernel
theorem d_Md_letGo_53 : decode c_Md_letGo 53 = .ok (.if_icmp .eq 13, 3) := by decide +kernel
theorem d_Md_letGo_56 : decode c_Md_letGo 56 = .ok (.aload_n 0, 1) := by decide +kernel
theorem d_Md_letGo_57 : decode c_Md_letGo 57 = .ok (.getfield 177, 3) := by decide +kernel
theorem d_Md_letGo_60 : decode c_Md_letGo 60 = .ok (.iload_n 1, 1) := by decide +kernel
theorem d_Md_letGo_61 : decode c_Md_letGo 61 = .ok (.iaload, 1) := by decide +kernel
theorem d_Md_letGo_62 : decode c_Md_letGo 62 = .ok (.iconst 4, 1) := by decide +kernel
theorem d_Md_letGo_63 : decode c_Md_letGo 63 = .ok (.if_icmp .ne 7, 3) := by decide +kernel
theorem d_Md_letGo_66 : decode c_Md_letGo 66 = .ok (.iconst 5, 1) := by decide +kernel
theorem d_Md_letGo_67 : decode c_Md_letGo 67 = .ok (.goto 9, 3) := by decide +kernel
theorem d_Md_letGo_70 : decode c_Md_letGo 70 = .ok (.aload_n 0, 1) := by decide +kernel
theorem d_Md_letGo_71 : decode c_Md_letGo 71 = .ok (.getfield 177, 3) := by decide +kernel
theorem d_Md_letGo_74 : decode c_Md_letGo 74 = .ok (.iload_n 1, 1) := by decide +kernel
theorem d_Md_letGo_75 : decode c_Md_letGo 75 = .ok (.iaload, 1) := by decide +kernel
theorem d_Md_letGo_76 : decode c_Md_letGo 76 = .ok (.iastore, 1) := by decide +kernel
theorem d_Md_letGo_77 : decode c_Md_letGo 77 = .ok (.goto 55, 3) := by decide +kernel
theorem d_Md_letGo_80 : decode c_Md_letGo 80 = .ok (.aload_n 0, 1) := by decide +kernel
theorem d_Md_letGo_81 : decode c_Md_letGo 81 = .ok (.getfield 150, 3) := by decide +kernel
theorem d_Md_letGo_84 : decode c_Md_letGo 84 = .ok (.iload_n 1, 1) := by decide +kernel
theorem d_Md_letGo_85 : decode c_Md_letGo 85 = .ok (.bipush 100, 2) := by decide +kernel
theorem d_Md_letGo_87 : decode c_Md_letGo 87 = .ok (.isub, 1) := by decide +kernel
theorem d_Md_letGo_88 : decode c_Md_letGo 88 = .ok (.iaload, 1) := by decide +kernel
theorem d_Md_letGo_89 : decode c_Md_letGo 89 = .ok (.iconst 1, 1) := by decide +kernel
theorem d_Md_letGo_90 : decode c_Md_letGo 90 = .ok (.if_icmp .lt 42, 3) := by decide +kernel
theorem d_Md_letGo_93 : decode c_Md_letGo 93 = .ok (.aload_n 0, 1) := by decide +kernel
theorem d_Md_letGo_94 : decode c_Md_letGo 94 = .ok (.getfield 150, 3) := by decide +kernel
theorem d_Md_letGo_97 : decode c_Md_letGo 97 = .ok (.iload_n 1, 1) := by decide +kernel
theorem d_Md_letGo_98 : decode c_Md_letGo 98 = .ok (.bipush 100, 2) := by decide +kernel
theorem d_Md_letGo_100 : decode c_Md_letGo 100 = .ok (.isub, 1) := by decide +kernel
theorem d_Md_letGo_101 : decode c_Md_letGo 101 = .ok (.iaload, 1) := by decide +kernel
theorem d_Md_letGo_102 : decode c_Md_letGo 102 = .ok (.bipush 6, 2) := by decide +kernel
theorem d_Md_letGo_104 : decode c_Md_letGo 104 = .ok (.if_icmp .gt 28, 3) := by decide +kernel
theorem d_Md_letGo_107 : decode c_Md_letGo 107 = .ok (.aload_n 0, 1) := by decide +kernel
theorem d_Md_letGo_108 : decode c_Md_letGo 108 = .ok (.iload_n 1, 1) := by decide +kernel
theorem d_Md_letGo_109 : decode c_Md_letGo 109 = .ok (.bipush 100, 2) := by decide +kernel
theorem d_Md_letGo_111 : decode c_Md_letGo 111 = .ok (.isub, 1) := by decide +kernel
theorem d_Md_letGo_112 : decode c_Md_letGo 112 = .ok (.bipush 10, 2) := by decide +kernel
theorem d_Md_letGo_114 : decode c_Md_letGo 114 = .ok (.iconst 0, 1) := by decide +kernel
theorem d_Md_letGo_115 : decode c_Md_letGo 115 = .ok (.invokevirtual 361, 3) := by decide +kernel
theorem d_Md_letGo_118 : decode c_Md_letGo 118 = .ok (.aload_n 0, 1) := by decide +kernel
theorem d_Md_letGo_119 : decode c_Md_letGo 119 = .ok (.iload_n 1, 1) := by decide +kernel
theorem d_Md_letGo_120 : decode c_Md_letGo 120 = .ok (.bipush 100, 2) := by decide +kernel
theorem d_Md_letGo_122 : decode c_Md_letGo 122 = .ok (.isub, 1) := by decide +kernel
theorem d_Md_letGo_123 : decode c_Md_letGo 123 = .ok (.bipush 7, 2) := by decide +kernel
theorem d_Md_letGo_125 : decode c_Md_letGo 125 = .ok (.bipush 6, 2) := by decide +kernel
theorem d_Md_letGo_127 : decode c_Md_letGo 127 = .ok (.bipush 30, 2) := by decide +kernel
theorem d_Md_letGo_129 : decode c_Md_letGo 129 = .ok (.invokevirtual 364, 3) := by decide +kernel
theorem d_Md_letGo_132 : decode c_Md_letGo 132 = .ok (.return_, 1) := by decide +kernel
def f_Md_letGo_132 (a : Nat) : sn_M := r_V
set_option maxHeartbeats 4000000 in
set_option maxRecDepth 100000 in
theorem mono_Md_letGo_132 (a : Nat) : sn_Mono (f_Md_letGo_132 a) := sn_Mono.rV
set_option maxHeartbeats 4000000 in
set_option maxRecDepth 100000 in
theorem s_Md_letGo_132 {X : sn_X} (C : sn_Cx X c_Md_letGo "SignalNetworkModel" none "letGo" 2 6 145) (a : Nat) : sn_S X 132 [(0, vA (some a))] [] (f_Md_letGo_132 a) := by
  unfold f_Md_letGo_132
  exact r_vret C d_Md_letGo_132 rfl
def f_Md_letGo_76 (a : Nat) (t0 : Option Nat) (t1 : Int32) (t2 : Int32) : sn_M := b_I 31 t0 t1 t2 (f_Md_letGo_132 a)
set_option maxHeartbeats 4000000 in
set_option maxRecDepth 100000 in
theorem mono_Md_letGo_76 (a : Nat) (t0 : Option Nat) (t1 : Int32) (t2 : Int32) : sn_Mono (f_Md_letGo_76 a t0 t1 t2) := sn_Mono.bI (mono_Md_letGo_132 a)
set_option maxHeartbeats 4000000 in
set_option maxRecDepth 100000 in
theorem s_Md_letGo_76 {X : sn_X} (C : sn_Cx X c_Md_letGo "SignalNetworkModel" none "letGo" 2 6 145) (a : Nat) (t0 : Option Nat) (t1 : Int32) (t2 : Int32) : sn_S X 76 [(0, vA (some a))] [vI t2, vI t1, vA t0] (f_Md_letGo_76 a t0 t1 t2) := by
  unfold f_Md_letGo_76
  refine r_bI (q := 77) C (Or.inr rfl) d_Md_letGo_76 rfl ?_
  refine r_goto (tgt := 132) C d_Md_letGo_77 (by decide) ?_
  exact s_Md_letGo_132 C a
def f_Md_letGo_66 (a : Nat) (t0 : Option Nat) (t1 : Int32) : sn_M := f_Md_letGo_76 a t0 t1 (5 : Int32)
set_option maxHeartbeats 4000000 in
set_option maxRecDepth 100000 in
theorem mono_Md_letGo_66 (a : Nat) (t0 : Option Nat) (t1 : Int32) : sn_Mono (f_Md_letGo_66 a t0 t1) := mono_Md_letGo_76 a t0 t1 (5 : Int32)
set_option maxHeartbeats 4000000 in
set_option maxRecDepth 100000 in
theorem s_Md_letGo_66 {X : sn_X} (C : sn_Cx X c_Md_letGo "SignalNetworkModel" none "letGo" 2 6 145) (a : Nat) (t0 : Option Nat) (t1 : Int32) : sn_S X 66 [(0, vA (some a))] [vI t1, vA t0] (f_Md_letGo_66 a t0 t1) := by
  unfold f_Md_letGo_66
  refine r_iconst (q := 67) (v := 5) C d_Md_letGo_66 rfl (by decide) ?_
  refine r_goto (tgt := 76) C d_Md_letGo_67 (by decide) ?_
  exact s_Md_letGo_76 C a t0 t1 (5 : Int32)
def f_Md_letGo (a : Nat) (x1 : Int32) : sn_M := (if ¬ x1 = (-1 : Int32) then n_n 12 (some a) fun a1 => c_V (f_Md_part a1 x1) ((if (100 : Int32) ≤ x1 then g_R 12 52 (some a) fun v3 => a_I 31 v3 (x1 - (100 : Int32)) fun v4 => (if v4 < (1 : Int32) then f_Md_letGo_132 a else g_R 12 52 (some a) fun v5 => a_I 31 v5 (x1 - (100 : Int32)) fun v6 => (if (6 : Int32) < v6 then f_Md_letGo_132 a else n_n 12 (some a) fun a7 => c_V (f_Md_say a7 (x1 - (100 : Int32)) (10 : Int32) (0 : Int32)) (n_n 12 (some a) fun a9 => c_V (f_Md_becomes a9 (x1 - (100 : Int32)) (7 : Int32) (6 : Int32) (30 : Int32)) (f_Md_letGo_132 a)))) else g_R 12 61 (some a) fun v11 => g_R 12 61 (some a) fun v12 => a_I 31 v12 x1 fun v13 => (if ¬ v13 = (3 : Int32) then g_R 12 61 (some a) fun v14 => a_I 31 v14 x1 fun v15 => (if v15 = (1 : Int32) then f_Md_letGo_66 a v11 x1 else g_R 12 61 (some a) fun v16 => a_I 31 v16 x1 fun v17 => (if v17 = (2 : Int32) then f_Md_letGo_66 a v11 x1 else g_R 12 61 (some a) fun v18 => a_I 31 v18 x1 fun v19 => (if ¬ v19 = (4 : Int32) then g_R 12 61 (some a) fun v20 => a_I 31 v20 x1 fun v21 => f_Md_letGo_76 a v11 x1 v21 else f_Md_letGo_66 a v11 x1))) else f_Md_letGo_76 a v11 x1 (0 : Int32)))) else r_V)
set_option maxHeartbeats 4000000 in
set_option maxRecDepth 100000 in
theorem mono_Md_letGo (a : Nat) (x1 : Int32) : sn_Mono (f_Md_letGo a x1) := sn_Mono.ite (sn_Mono.nn (fun a1 => sn_Mono.cV (mono_Md_part a1 x1) (sn_Mono.ite (sn_Mono.gR (fun v3 => sn_Mono.aI (fun v4 => sn_Mono.ite (mono_Md_letGo_132 a) (sn_Mono.gR (fun v5 => sn_Mono.aI (fun v6 => sn_Mono.ite (mono_Md_letGo_132 a) (sn_Mono.nn (fun a7 => sn_Mono.cV (mono_Md_say a7 (x1 - (100 : Int32)) (10 : Int32) (0 : Int32)) (sn_Mono.nn (fun a9 => sn_Mono.cV (mono_Md_becomes a9 (x1 - (100 : Int32)) (7 : Int32) (6 : Int32) (30 : Int32)) (mono_Md_letGo_132 a))))))))))) (sn_Mono.gR (fun v11 => sn_Mono.gR (fun v12 => sn_Mono.aI (fun v13 => sn_Mono.ite (sn_Mono.gR (fun v14 => sn_Mono.aI (fun v15 => sn_Mono.ite (mono_Md_letGo_66 a v11 x1) (sn_Mono.gR (fun v16 => sn_Mono.aI (fun v17 => sn_Mono.ite (mono_Md_letGo_66 a v11 x1) (sn_Mono.gR (fun v18 => sn_Mono.aI (fun v19 => sn_Mono.ite (sn_Mono.gR (fun v20 => sn_Mono.aI (fun v21 => mono_Md_letGo_76 a v11 x1 v21))) (mono_Md_letGo_66 a v11 x1)))))))))) (mono_Md_letGo_76 a v11 x1 (0 : Int32))))))))) (sn_Mono.rV)
set_option maxHeartbeats 4000000 in
set_option maxRecDepth 100000 in
theorem con_Md_letGo (a : Nat) (x1 : Int32) : sn_Con y_Md_letGo c_Md_letGo 2 none 6 145 [vA (some a), vI x1] (f_Md_letGo a x1) := by
  refine sn_Con.of (by decide +kernel) (by show _ ≤ _; exact Nat.le_of_ble_eq_true rfl) (mono_Md_letGo a x1) (fun X C => ?_)
  show sn_S X 0 [(0, vA (some a)), (1, vI x1)] [] _
  replace C : sn_Cx X c_Md_letGo "SignalNetworkModel" none "letGo" 2 6 145 := C
  unfold f_Md_letGo
  refine r_iload_n (q := 1) (i := 1) (pl := 1) C d_Md_letGo_0 rfl rfl rfl ?_
  refine r_iconst (q := 2) (v := -1) C d_Md_letGo_1 rfl (by decide) ?_
  refine r_icmp_ne (tgt := 6) (q := 5) C d_Md_letGo_2 (by decide) rfl ?_ ?_
  · refine r_aload_n (q := 7) (i := 0) (pl := 0) C d_Md_letGo_6 rfl rfl rfl ?_
    refine r_iload_n (q := 8) (i := 1) (pl := 1) C d_Md_letGo_7 rfl rfl rfl ?_
    refine r_cvV (q := 11) (As := [vI x1]) (st := []) (cy := 11) C d_Md_letGo_8 rfl Y_Md_part L_Md_358 I_Md_part Se_Md_part rfl (by decide) rfl (Nat.le_of_ble_eq_true rfl) (Nat.le_of_ble_eq_true rfl) (Nat.le_of_ble_eq_true rfl) rfl (fun a1 => con_Md_part a1 x1) ?_
    refine r_iload_n (q := 12) (i := 1) (pl := 1) C d_Md_letGo_11 rfl rfl rfl ?_
    refine r_bipush (q := 14) (v := 100) C d_Md_letGo_12 rfl (by decide) ?_
    refine r_icmp_ge (tgt := 80) (q := 17) C d_Md_letGo_14 (by decide) rfl ?_ ?_
    · refine r_aload_n (q := 81) (i := 0) (pl := 0) C d_Md_letGo_80 rfl rfl rfl ?_
      refine r_gR (q := 84) C d_Md_letGo_81 rfl F_Md_150 rfl (fun v3 => ?_)
      refine r_iload_n (q := 85) (i := 1) (pl := 1) C d_Md_letGo_84 rfl rfl rfl ?_
      refine r_bipush (q := 87) (v := 100) C d_Md_letGo_85 rfl (by decide) ?_
      refine r_isub (q := 88) C d_Md_letGo_87 rfl ?_
      refine r_aI (q := 89) C (Or.inr rfl) d_Md_letGo_88 rfl (fun v4 => ?_)
      refine r_iconst (q := 90) (v := 1) C d_Md_letGo_89 rfl (by decide) ?_
      refine r_icmp_lt (tgt := 132) (q := 93) C d_Md_letGo_90 (by decide) rfl ?_ ?_
      · refine r_sub (lv' := [(0, vA (some a))]) [0] rfl ?_
        exact s_Md_letGo_132 C a
      · refine r_aload_n (q := 94) (i := 0) (pl := 0) C d_Md_letGo_93 rfl rfl rfl ?_
        refine r_gR (q := 97) C d_Md_letGo_94 rfl F_Md_150 rfl (fun v5 => ?_)
        refine r_iload_n (q := 98) (i := 1) (pl := 1) C d_Md_letGo_97 rfl rfl rfl ?_
        refine r_bipush (q := 100) (v := 100) C d_Md_letGo_98 rfl (by decide) ?_
        refine r_isub (q := 101) C d_Md_letGo_100 rfl ?_
        refine r_aI (q := 102) C (Or.inr rfl) d_Md_letGo_101 rfl (fun v6 => ?_)
        refine r_bipush (q := 104) (v := 6) C d_Md_letGo_102 rfl (by decide) ?_
        refine r_icmp_gt (tgt := 132) (q := 107) C d_Md_letGo_104 (by decide) rfl ?_ ?_
        · refine r_sub (lv' := [(0, vA (some a))]) [0] rfl ?_
          exact s_Md_letGo_132 C a
        · refine r_aload_n (q := 108) (i := 0) (pl := 0) C d_Md_letGo_107 rfl rfl rfl ?_
          refine r_iload_n (q := 109) (i := 1) (pl := 1) C d_Md_letGo_108 rfl rfl rfl ?_
          refine r_bipush (q := 111) (v := 100) C d_Md_letGo_109 rfl (by decide) ?_
          refine r_isub (q := 112) C d_Md_letGo_111 rfl ?_
          refine r_bipush (q := 114) (v := 10) C d_Md_letGo_112 rfl (by decide) ?_
          refine r_iconst (q := 115) (v := 0) C d_Md_letGo_114 rfl (by decide) ?_
          refine r_cvV (q := 118) (As := [vI (x1 - (100 : Int32)), vI (10 : Int32), vI (0 : Int32)]) (st := []) (cy := 11) C d_Md_letGo_115 rfl Y_Md_say L_Md_361 I_Md_say Se_Md_say rfl (by decide) rfl (Nat.le_of_ble_eq_true rfl) (Nat.le_of_ble_eq_true rfl) (Nat.le_of_ble_eq_true rfl) rfl (fun a7 => con_Md_say a7 (x1 - (100 : Int32)) (10 : Int32) (0 : Int32)) ?_
          refine r_aload_n (q := 119) (i := 0) (pl := 0) C d_Md_letGo_118 rfl rfl rfl ?_
          refine r_iload_n (q := 120) (i := 1) (pl := 1) C d_Md_letGo_119 rfl rfl rfl ?_
          refine r_bipush (q := 122) (v := 100) C d_Md_letGo_120 rfl (by decide) ?_
          refine r_isub (q := 123) C d_Md_letGo_122 rfl ?_
          refine r_bipush (q := 125) (v := 7) C d_Md_letGo_123 rfl (by decide) ?_
          refine r_bipush (q := 127) (v := 6) C d_Md_letGo_125 rfl (by decide) ?_
          refine r_bipush (q := 129) (v := 30) C d_Md_letGo_127 rfl (by decide) ?_
          refine r_cvV (q := 132) (As := [vI (x1 - (100 : Int32)), vI (7 : Int32), vI (6 : Int32), vI (30 : Int32)]) (st := []) (cy := 11) C d_Md_letGo_129 rfl Y_Md_becomes L_Md_364 I_Md_becomes Se_Md_becomes rfl (by decide) rfl (Nat.le_of_ble_eq_true rfl) (Nat.le_of_ble_eq_true rfl) (Nat.le_of_ble_eq_true rfl) rfl (fun a9 => con_Md_becomes a9 (x1 - (100 : Int32)) (7 : Int32) (6 : Int32) (30 : Int32)) ?_
          refine r_sub (lv' := [(0, vA (some a))]) [0] rfl ?_
          exact s_Md_letGo_132 C a
    · refine r_aload_n (q := 18) (i := 0) (pl := 0) C d_Md_letGo_17 rfl rfl rfl ?_
      refine r_gR (q := 21) C d_Md_letGo_18 rfl F_Md_177 rfl (fun v11 => ?_)
      refine r_iload_n (q := 22) (i := 1) (pl := 1) C d_Md_letGo_21 rfl rfl rfl ?_
      refine r_aload_n (q := 23) (i := 0) (pl := 0) C d_Md_letGo_22 rfl rfl rfl ?_
      refine r_gR (q := 26) C d_Md_letGo_23 rfl F_Md_177 rfl (fun v12 => ?_)
      refine r_iload_n (q := 27) (i := 1) (pl := 1) C d_Md_letGo_26 rfl rfl rfl ?_
      refine r_aI (q := 28) C (Or.inr rfl) d_Md_letGo_27 rfl (fun v13 => ?_)
      refine r_iconst (q := 29) (v := 3) C d_Md_letGo_28 rfl (by decide) ?_
      refine r_icmp_ne (tgt := 36) (q := 32) C d_Md_letGo_29 (by decide) rfl ?_ ?_
      · refine r_aload_n (q := 37) (i := 0) (pl := 0) C d_Md_letGo_36 rfl rfl rfl ?_
        refine r_gR (q := 40) C d_Md_letGo_37 rfl F_Md_177 rfl (fun v14 => ?_)
        refine r_iload_n (q := 41) (i := 1) (pl := 1) C d_Md_letGo_40 rfl rfl rfl ?_
        refine r_aI (q := 42) C (Or.inr rfl) d_Md_letGo_41 rfl (fun v15 => ?_)
        refine r_iconst (q := 43) (v := 1) C d_Md_letGo_42 rfl (by decide) ?_
        refine r_icmp_eq (tgt := 66) (q := 46) C d_Md_letGo_43 (by decide) rfl ?_ ?_
        · refine r_sub (lv' := [(0, vA (some a))]) [0] rfl ?_
          exact s_Md_letGo_66 C a v11 x1
        · refine r_aload_n (q := 47) (i := 0) (pl := 0) C d_Md_letGo_46 rfl rfl rfl ?_
          refine r_gR (q := 50) C d_Md_letGo_47 rfl F_Md_177 rfl (fun v16 => ?_)
          refine r_iload_n (q := 51) (i := 1) (pl := 1) C d_Md_letGo_50 rfl rfl rfl ?_
          refine r_aI (q := 52) C (Or.inr rfl) d_Md_letGo_51 rfl (fun v17 => ?_)
          refine r_iconst (q := 53) (v := 2) C d_Md_letGo_52 rfl (by decide) ?_
          refine r_icmp_eq (tgt := 66) (q := 56) C d_Md_letGo_53 (by decide) rfl ?_ ?_
          · refine r_sub (lv' := [(0, vA (some a))]) [0] rfl ?_
            exact s_Md_letGo_66 C a v11 x1
          · refine r_aload_n (q := 57) (i := 0) (pl := 0) C d_Md_letGo_56 rfl rfl rfl ?_
            refine r_gR (q := 60) C d_Md_letGo_57 rfl F_Md_177 rfl (fun v18 => ?_)
            refine r_iload_n (q := 61) (i := 1) (pl := 1) C d_Md_letGo_60 rfl rfl rfl ?_
            refine r_aI (q := 62) C (Or.inr rfl) d_Md_letGo_61 rfl (fun v19 => ?_)
            refine r_iconst (q := 63) (v := 4) C d_Md_letGo_62 rfl (by decide) ?_
            refine r_icmp_ne (tgt := 70) (q := 66) C d_Md_letGo_63 (by decide) rfl ?_ ?_
            · refine r_aload_n (q := 71) (i := 0) (pl := 0) C d_Md_letGo_70 rfl rfl rfl ?_
              refine r_gR (q := 74) C d_Md_letGo_71 rfl F_Md_177 rfl (fun v20 => ?_)
              refine r_iload_n (q := 75) (i := 1) (pl := 1) C d_Md_letGo_74 rfl rfl rfl ?_
              refine r_aI (q := 76) C (Or.inr rfl) d_Md_letGo_75 rfl (fun v21 => ?_)
              refine r_sub (lv' := [(0, vA (some a))]) [0] rfl ?_
              exact s_Md_letGo_76 C a v11 x1 v21
            · refine r_sub (lv' := [(0, vA (some a))]) [0] rfl ?_
              exact s_Md_letGo_66 C a v11 x1
      · refine r_iconst (q := 33) (v := 0) C d_Md_letGo_32 rfl (by decide) ?_
        refine r_goto (tgt := 76) C d_Md_letGo_33 (by decide) ?_
        refine r_sub (lv' := [(0, vA (some a))]) [0] rfl ?_
        exact s_Md_letGo_76 C a v11 x1 (0 : Int32)
  · exact r_vret C d_Md_letGo_5 rfl
theorem d_Md_connect_0 : decode c_Md_connect 0 = .ok (.iload_n 3, 1) := by decide +kernel
theorem d_Md_connect_1 : decode c_Md_connect 1 = .ok (.bipush 10, 2) := by decide +kernel
theorem d_Md_connect_3 : decode c_Md_connect 3 = .ok (.idiv, 1) := by decide +kernel
theorem d_Md_connect_4 : decode c_Md_connect 4 = .ok (.istore 4, 2) := by decide +kernel
theorem d_Md_connect_6 : decode c_Md_connect 6 = .ok (.iload 4, 2) := by decide +kernel
theorem d_Md_connect_8 : decode c_Md_connect 8 = .ok (.iload_n 1, 1) := by decide +kernel
theorem d_Md_connect_9 : decode c_Md_connect 9 = .ok (.if_icmp .ne 52, 3) := by decide +kernel
theorem d_Md_connect_12 : decode c_Md_connect 12 = .ok (.iconst 4, 1) := by decide +kernel
theorem d_Md_connect_13 : decode c_Md_connect 13 = .ok (.iload_n 1, 1) := by decide +kernel
theorem d_Md_connect_14 : decode c_Md_connect 14 = .ok (.imul, 1) := by decide +kernel
theorem d_Md_connect_15 : decode c_Md_connect 15 = .ok (.iload_n 3, 1) := by decide +kernel
theorem d_Md_connect_16 : decode c_Md_connect 16 = .ok (.bipush 10, 2) := by decide +kernel
theorem d_Md_connect_18 : decode c_Md_connect 18 = .ok (.irem, 1) := by decide +kernel
theorem d_Md_connect_19 : decode c_Md_connect 19 = .ok (.iadd, 1) := by decide +kernel
theorem d_Md_connect_20 : decode c_Md_connect 20 = .ok (.istore 5, 2) := by decide +kernel
theorem d_Md_connect_22 : decode c_Md_connect 22 = .ok (.aload_n 0, 1) := by decide +kernel
theorem d_Md_connect_23 : decode c_Md_connect 23 = .ok (.getfield 177, 3) := by decide +kernel
theorem d_Md_connect_26 : decode c_Md_connect 26 = .ok (.iload 5, 2) := by decide +kernel
theorem d_Md_connect_28 : decode c_Md_connect 28 = .ok (.iaload, 1) := by decide +kernel
theorem d_Md_connect_29 : decode c_Md_connect 29 = .ok (.ifCond .eq 9, 3) := by decide +kernel
theorem d_Md_connect_32 : decode c_Md_connect 32 = .ok (.aload_n 0, 1) := by decide +kernel
theorem d_Md_connect_33 : decode c_Md_connect 33 = .ok (.iload_n 2, 1) := by decide +kernel
theorem d_Md_connect_34 : decode c_Md_connect 34 = .ok (.invokevirtual 367, 3) := by decide +kernel
theorem d_Md_connect_37 : decode c_Md_connect 37 = .ok (.return_, 1) := by decide +kernel
theorem d_Md_connect_38 : decode c_Md_connect 38 = .ok (.aload_n 0, 1) := by decide +kernel
theorem d_Md_connect_39 : decode c_Md_connect 39 = .ok (.getfield 177, 3) := by decide +kernel
theorem d_Md_connect_42 : decode c_Md_connect 42 = .ok (.iload 5, 2) := by decide +kernel
theorem d_Md_connect_44 : decode c_Md_connect 44 = .ok (.iconst 3, 1) := by decide +kernel
theorem d_Md_connect_45 : decode c_Md_connect 45 = .ok (.iastore, 1) := by decide +kernel
theorem d_Md_connect_46 : decode c_Md_connect 46 = .ok (.aload_n 0, 1) := by decide +kernel
theorem d_Md_connect_47 : decode c_Md_connect 47 = .ok (.iload_n 2, 1) := by decide +kernel
theorem d_Md_connect_48 : decode c_Md_connect 48 = .ok (.iload 5, 2) := by decide +kernel
theorem d_Md_connect_50 : decode c_Md_connect 50 = .ok (.invokevirtual 370, 3) := by decide +kernel
theorem d_Md_connect_53 : decode c_Md_connect 53 = .ok (.aload_n 0, 1) := by decide +kernel
theorem d_Md_connect_54 : decode c_Md_connect 54 = .ok (.iload_n 2, 1) := by decide +kernel
theorem d_Md_connect_55 : decode c_Md_connect 55 = .ok (.bipush 8, 2) := by decide +kernel
theorem d_Md_connect_57 : decode c_Md_connect 57 = .ok (.invokevirtual 373, 3) := by decide +kernel
theorem d_Md_connect_60 : decode c_Md_connect 60 = .ok (.return_, 1) := by decide +kernel
theorem d_Md_connect_61 : decode c_Md_connect 61 = .ok (.iload_n 2, 1) := by decide +kernel
theorem d_Md_connect_62 : decode c_Md_connect 62 = .ok (.bipush 100, 2) := by decide +kernel
theorem d_Md_connect_64 : decode c_Md_connect 64 = .ok (.if_icmp .ge 7, 3) := by decide +kernel
theorem d_Md_connect_67 : decode c_Md_connect 67 = .ok (.iconst 1, 1) := by decide +kernel
theorem d_Md_connect_68 : decode c_Md_connect 68 = .ok (.goto 14, 3) := by decide +kernel
theorem d_Md_connect_71 : decode c_Md_connect 71 = .ok (.aload_n 0, 1) := by decide +kernel
theorem d_Md_connect_72 : decode c_Md_connect 72 = .ok (.getfield 174, 3) := by decide +kernel
theorem d_Md_connect_75 : decode c_Md_connect 75 = .ok (.iload_n 2, 1) := by decide +kernel
theorem d_Md_connect_76 : decode c_Md_connect 76 = .ok (.bipush 100, 2) := by decide +kernel
theorem d_Md_connect_78 : decode c_Md_connect 78 = .ok (.isub, 1) := by decide +kernel
theorem d_Md_connect_79 : decode c_Md_connect 79 = .ok (.iaload, 1) := by decide +kernel
theorem d_Md_connect_80 : decode c_Md_connect 80 = .ok (.iconst 1, 1) := by decide +kernel
theorem d_Md_connect_81 : decode c_Md_connect 81 = .ok (.iadd, 1) := by decide +kernel
theorem d_Md_connect_82 : decode c_Md_connect 82 = .ok (.istore 5, 2) := by decide +kernel
theorem d_Md_connect_84 : decode c_Md_connect 84 = .ok (.iconst 0, 1) := by decide +kernel
theorem d_Md_connect_85 : decode c_Md_connect 85 = .ok (.istore 6, 2) := by decide +kernel
theorem d_Md_connect_87 : decode c_Md_connect 87 = .ok (.iload 6, 2) := by decide +kernel
theorem d_Md_connect_89 : decode c_Md_connect 89 = .ok (.iconst 2, 1) := by decide +kernel
theorem d_Md_connect_90 : decode c_Md_connect 90 = .ok (.if_icmp .ge 220, 3) := by decide +kernel
theorem d_Md_connect_93 : decode c_Md_connect 93 = .ok (.iload 5, 2) := by decide +kernel
theorem d_Md_connect_95 : decode c_Md_connect 95 = .ok (.bipush 7, 2) := by decide +kernel
theorem d_Md_connect_97 : decode c_Md_connect 97 = .ok (.if_icmp .ge 213, 3) := by decide +kernel
theorem d_Md_connect_100 : decode c_Md_connect 100 = .ok (.iload 6, 2) := by decide +kernel
theorem d_Md_connect_102 : decode c_Md_connect 102 = .ok (.ifCond .ne 18, 3) := by decide +kernel
theorem d_Md_connect_105 : decode c_Md_connect 105 = .ok (.aload_n 0, 1) := by decide +kernel
theorem d_Md_connect_106 : decode c_Md_connect 106 = .ok (.getfield 144, 3) := by decide +kernel
theorem d_Md_connect_109 : decode c_Md_connect 109 = .ok (.bipush 6, 2) := by decide +kernel
theorem d_Md_connect_111 : decode c_Md_connect 111 = .ok (.iload_n 1, 1) := by decide +kernel
theorem d_Md_connect_112 : decode c_Md_connect 112 = .ok (.imul, 1) := by decide +kernel
theorem d_Md_connect_113 : decode c_Md_connect 113 = .ok (.iload 4, 2) := by decide +kernel
theorem d_Md_connect_115 : decode c_Md_connect 115 = .ok (.iadd, 1) := by decide +kernel
theorem d_Md_connect_116 : decode c_Md_connect 116 = .ok (.iaload, 1) := by decide +kernel
theorem d_Md_connect_117 : decode c_Md_connect 117 = .ok (.goto 15, 3) := by decide +kernel
theorem d_Md_connect_120 : decode c_Md_connect 120 = .ok (.aload_n 0, 1) := by decide +kernel
theorem d_Md_connect_121 : decode c_Md_connect 121 = .ok (.getfield 147, 3) := by decide +kernel
theorem d_Md_connect_124 : decode c_Md_connect 124 = .ok (.bipush 6, 2) := by decide +kernel
theorem d_Md_connect_126 : decode c_Md_connect 126 = .ok (.iload_n 1, 1) := by decide +kernel
theorem d_Md_connect_127 : decode c_Md_connect 127 = .ok (.imul, 1) := by decide +kernel
theorem d_Md_connect_128 : decode c_Md_connect 128 = .ok (.iload 4, 2) := by decide +kernel
theorem d_Md_connect_130 : decode c_Md_connect 130 = .ok (.iadd, 1) := by decide +kernel
theorem d_Md_connect_131 : decode c_Md_connect 131 = .ok (.iaload, 1) := by decide +kernel
theorem d_Md_connect_132 : decode c_Md_connect 132 = .ok (.istore 7, 2) := by decide +kernel
theorem d_Md_connect_134 : decode c_Md_connect 134 = .ok (.iload 7, 2) := by decide +kernel
theorem d_Md_connect_136 : decode c_Md_connect 136 = .ok (.iconst (-1), 1) := by decide +kernel
theorem d_Md_connect_137 : decode c_Md_connect 137 = .ok (.if_icmp .eq 167, 3) := by decide +kernel
theorem d_Md_connect_140 : decode c_Md_connect 140 = .ok (.aload_n 0, 1) := by decide +kernel
theorem d_Md_connect_141 : decode c_Md_connect 141 = .ok (.iload_n 1, 1) := by decide +kernel
theorem d_Md_connect_142 : decode c_Md_connect 142 = .ok (.iload 7, 2) := by decide +kernel
theorem d_Md_connect_144 : decode c_Md_connect 144 = .ok (.invokevirtual 226, 3) := by decide +kernel
theorem d_Md_connect_147 : decode c_Md_connect 147 = .ok (.ifCond .eq 157, 3) := by decide +kernel
theorem d_Md_connect_150 : decode c_Md_connect 150 = .ok (.iload_n 2, 1) := by decide +kernel
theorem d_Md_connect_151 : decode c_Md_connect 151 = .ok (.bipush 100, 2) := by decide +kernel
theorem d_Md_connect_153 : decode c_Md_connect 153 = .ok (.if_icmp .lt 20, 3) := by decide +kernel
theorem d_Md_connect_156 : decode c_Md_connect 156 = .ok (.iload_n 2, 1) := by decide +kernel
theorem d_Md_connect_157 : decode c_Md_connect 157 = .ok (.bipush 100, 2) := by decide +kernel
theorem d_Md_connect_159 : decode c_Md_connect 159 = .ok (.isub, 1) := by decide +kernel
theorem d_Md_connect_160 : decode c_Md_connect 160 = .ok (.bipush 24, 2) := by decide +kernel
theorem d_Md_connect_162 : decode c_Md_connect 162 = .ok (.irem, 1) := by decide +kernel
theorem d_Md_connect_163 : decode c_Md_connect 163 = .ok (.iconst 4, 1) := by decide +kernel
theorem d_Md_connect_164 : decode c_Md_connect 164 = .ok (.idiv, 1) := by decide +kernel
theorem d_Md_connect_165 : decode c_Md_connect 165 = .ok (.iload 7, 2) := by decide +kernel
theorem d_Md_connect_167 : decode c_Md_connect 167 = .ok (.if_icmp .ne 6, 3) := by decide +kernel
theorem d_Md_connect_170 : decode c_Md_connect 170 = .ok (.goto 134, 3) := by decide +kernel
theorem d_Md_connect_173 : decode c_Md_connect 173 = .ok (.iconst 0, 1) := by decide +kernel
theorem d_Md_connect_174 : decode c_Md_connect 174 = .ok (.istore 8, 2) := by decide +kernel
theorem d_Md_connect_176 : decode c_Md_connect 176 = .ok (.iload 8, 2) := by decide +kernel
theorem d_Md_connect_178 : decode c_Md_connect 178 = .ok (.iconst 4, 1) := by decide +kernel
theorem d_Md_connect_179 : decode c_Md_connect 179 = .ok (.if_icmp .ge 125, 3) := by decide +kernel
theorem d_Md_connect_182 : decode c_Md_connect 182 = .ok (.aload_n 0, 1) := by decide +kernel
theorem d_Md_connect_183 : decode c_Md_connect 183 = .ok (.iload_n 1, 1) := by decide +kernel
theorem d_Md_connect_184 : decode c_Md_connect 184 = .ok (.iload 7, 2) := by decide +kernel
theorem d_Md_connect_186 : decode c_Md_connect 186 = .ok (.iload 8, 2) := by decide +kernel
theorem d_Md_connect_188 : decode c_Md_connect 188 = .ok (.invokevirtual 212, 3) := by decide +kernel
theorem d_Md_connect_191 : decode c_Md_connect 191 = .ok (.istore 9, 2) := by decide +kernel
theorem d_Md_connect_193 : decode c_Md_connect 193 = .ok (.aload_n 0, 1) := by decide +kernel
theorem d_Md_connect_194 : decode c_Md_connect 194 = .ok (.getfield 150, 3) := by decide +kernel
theorem d_Md_connect_197 : decode c_Md_connect 197 = .ok (.iload 9, 2) := by decide +kernel
theorem d_Md_connect_199 : decode c_Md_connect 199 = .ok (.iaload, 1) := by decide +kernel
theorem d_Md_connect_200 : decode c_Md_connect 200 = .ok (.ifCond .ne 98, 3) := by decide +kernel
theorem d_Md_connect_203 : decode c_Md_connect 203 = .ok (.aload_n 0, 1) := by decide +kernel
theorem d_Md_connect_204 : decode c_Md_connect 204 = .ok (.getfield 159, 3) := by decide +kernel
theorem d_Md_connect_207 : decode c_Md_connect 207 = .ok (.iload 9, 2) := by decide +kernel
theorem d_Md_connect_209 : decode c_Md_connect 209 = .ok (.baload, 1) := by decide +kernel
theorem d_Md_connect_210 : decode c_Md_connect 210 = .ok (.ifCond .ne 88, 3) := by decide +kernel
theorem d_Md_connect_213 : decode c_Md_connect 213 = .ok (.aload_n 0, 1) := by decide +kernel
theorem d_Md_connect_214 : decode c_Md_connect 214 = .ok (.getfield 162, 3) := by decide +kernel
theorem d_Md_connect_217 : decode c_Md_connect 217 = .ok (.iload 9, 2) := by decide +kernel
theorem d_Md_connect_219 : decode c_Md_connect 219 = .ok (.baload, 1) := by decide +kernel
theorem d_Md_connect_220 : decode c_Md_connect 220 = .ok (.ifCond .eq 6, 3) := by decide +kernel
theorem d_Md_connect_223 : decode c_Md_connect 223 = .ok (.goto 75, 3) := by decide +kernel
theorem d_Md_connect_226 : decode c_Md_connect 226 = .ok (.aload_n 0, 1) := by decide +kernel
theorem d_Md_connect_227 : decode c_Md_connect 227 = .ok (.iload_n 2, 1) := by decide +kernel
theorem d_Md_connect_228 : decode c_Md_connect 228 = .ok (.bipush 100, 2) := by decide +kernel
theorem d_Md_connect_230 : decode c_Md_connect 230 = .ok (.iload 9, 2) := by decide +kernel
theorem d_Md_connect_232 : decode c_Md_connect 232 = .ok (.iadd, 1) := by decide +kernel
theorem d_Md_connect_233 : decode c_Md_connect 233 = .ok (.invokevirtual 370, 3) := by decide +kernel
theorem d_Md_connect_236 : decode c_Md_connect 236 = .ok (.aload_n 0, 1) := by decide +kernel
theorem d_Md_connect_237 : decode c_Md_connect 237 = .ok (.iload 9, 2) := by decide +kernel
theorem d_Md_connect_239 : decode c_Md_connect 239 = .ok (.iconst 1, 1) := by decide +kernel
theorem d_Md_connect_240 : decode c_Md_connect 240 = .ok (.bipush 20, 2) := by decide +kernel
theorem d_Md_connect_242 : decode c_Md_connect 242 = .ok (.iconst 0, 1) := by decide +kernel
theorem d_Md_connect_243 : decode c_Md_connect 243 = .ok (.invokevirtual 364, 3) := by decide +kernel
theorem d_Md_connect_246 : decode c_Md_connect 246 = .ok (.aload_n 0, 1) := by decide +kernel
theorem d_Md_connect_247 : decode c_Md_connect 247 = .ok (.getfield 168, 3) := by decide +kernel
theorem d_Md_connect_250 : decode c_Md_connect 250 = .ok (.iload 9, 2) := by decide +kernel
theorem d_Md_connect_252 : decode c_Md_connect 252 = .ok (.iload_n 3, 1) := by decide +kernel
theorem d_Md_connect_253 : decode c_Md_connect 253 = .ok (.iastore, 1) := by decide +kernel
theorem d_Md_connect_254 : decode c_Md_connect 254 = .ok (.aload_n 0, 1) := by decide +kernel
theorem d_Md_connect_255 : decode c_Md_connect 255 = .ok (.getfield 171, 3) := by decide +kernel
theorem d_Md_connect_258 : decode c_Md_connect 258 = .ok (.iload 9, 2) := by decide +kernel
theorem d_Md_connect_260 : decode c_Md_connect 260 = .ok (.aload_n 0, 1) := by decide +kernel
theorem d_Md_connect_261 : decode c_Md_connect 261 = .ok (.getfield 171, 3) := by decide +kernel
theorem d_Md_connect_264 : decode c_Md_connect 264 = .ok (.iload 9, 2) := by decide +kernel
theorem d_Md_connect_266 : decode c_Md_connect 266 = .ok (.iaload, 1) := by decide +kernel
theorem d_Md_connect_267 : decode c_Md_connect 267 = .ok (.iconst 1, 1) := by decide +kernel
theorem d_Md_connect_268 : decode c_Md_connect 268 = .ok (.iadd, 1) := by decide +kernel
theorem d_Md_connect_269 : decode c_Md_connect 269 = .ok (.bipush 63, 2) := by decide +kernel
theorem d_Md_connect_271 : decode c_Md_connect 271 = .ok (.iand, 1) := by decide +kernel
theorem d_Md_connect_272 : decode c_Md_connect 272 = .ok (.iastore, 1) := by decide +kernel
theorem d_Md_connect_273 : decode c_Md_connect 273 = .ok (.aload_n 0, 1) := by decide +kernel
theorem d_Md_connect_274 : decode c_Md_connect 274 = .ok (.getfield 174, 3) := by decide +kernel
theorem d_Md_connect_277 : decode c_Md_connect 277 = .ok (.iload 9, 2) := by decide +kernel
theorem d_Md_connect_279 : decode c_Md_connect 279 = .ok (.iload 5, 2) := by decide +kernel
theorem d_Md_connect_281 : decode c_Md_connect 281 = .ok (.iastore, 1) := by decide +kernel
theorem d_Md_connect_282 : decode c_Md_connect 282 = .ok (.aload_n 0, 1) := by decide +kernel
theorem d_Md_connect_283 : decode c_Md_connect 283 = .ok (.iload 9, 2) := by decide +kernel
theorem d_Md_connect_285 : decode c_Md_connect 285 = .ok (.bipush 7, 2) := by decide +kernel
theorem d_Md_connect_287 : decode c_Md_connect 287 = .ok (.iload_n 3, 1) := by decide +kernel
theorem d_Md_connect_288 : decode c_Md_connect 288 = .ok (.bipush 64, 2) := by decide +kernel
theorem d_Md_connect_290 : decode c_Md_connect 290 = .ok (.iload 5, 2) := by decide +kernel
theorem d_Md_connect_292 : decode c_Md_connect 292 = .ok (.imul, 1) := by decide +kernel
theorem d_Md_connect_293 : decode c_Md_connect 293 = .ok (.iadd, 1) := by decide +kernel
theorem d_Md_connect_294 : decode c_Md_connect 294 = .ok (.invokevirtual 361, 3) := by decide +kernel
theorem d_Md_connect_297 : decode c_Md_connect 297 = .ok (.return_, 1) := by decide +kernel
theorem d_Md_connect_298 : decode c_Md_connect 298 = .ok (.iinc 8 1, 3) := by decide +kernel
theorem d_Md_connect_301 : decode c_Md_connect 301 = .ok (.goto (-125), 3) := by decide +kernel
theorem d_Md_connect_304 : decode c_Md_connect 304 = .ok (.iinc 6 1, 3) := by decide +kernel
theorem d_Md_connect_307 : decode c_Md_connect 307 = .ok (.goto (-220), 3) := by decide +kernel
theorem d_Md_connect_310 : decode c_Md_connect 310 = .ok (.aload_n 0, 1) := by decide +kernel
theorem d_Md_connect_311 : decode c_Md_connect 311 = .ok (.iload_n 2, 1) := by decide +kernel
theorem d_Md_connect_312 : decode c_Md_connect 312 = .ok (.invokevirtual 367, 3) := by decide +kernel
theorem d_Md_connect_315 : decode c_Md_connect 315 = .ok (.return_, 1) := by decide +kernel
def f_Md_connect_310 (a : Nat) (x2 : Int32) : sn_M := n_n 12 (some a) fun a1 => c_V (f_Md_letGo a1 x2) (r_V)
set_option maxHeartbeats 4000000 in
set_option maxRecDepth 100000 in
theorem mono_Md_connect_310 (a : Nat) (x2 : Int32) : sn_Mono (f_Md_connect_310 a x2) := sn_Mono.nn (fun a1 => sn_Mono.cV (mono_Md_letGo a1 x2) (sn_Mono.rV))
set_option maxHeartbeats 4000000 in
set_option maxRecDepth 100000 in
theorem s_Md_connect_310 {X : sn_X} (C : sn_Cx X c_Md_connect "SignalNetworkModel" none "connect" 10 7 168) (a : Nat) (x2 : Int32) : sn_S X 310 [(0, vA (some a)), (2, vI x2)] [] (f_Md_connect_310 a x2) := by
  unfold f_Md_connect_310
  refine r_aload_n (q := 311) (i := 0) (pl := 0) C d_Md_connect_310 rfl rfl rfl ?_
  refine r_iload_n (q := 312) (i := 2) (pl := 1) C d_Md_connect_311 rfl rfl rfl ?_
  refine r_cvV (q := 315) (As := [vI x2]) (st := []) (cy := 11) C d_Md_connect_312 rfl Y_Md_letGo L_Md_367 I_Md_letGo Se_Md_letGo rfl (by decide) rfl (Nat.le_of_ble_eq_true rfl) (Nat.le_of_ble_eq_true rfl) (Nat.le_of_ble_eq_true rfl) rfl (fun a1 => con_Md_letGo a1 x2) ?_
  exact r_vret C d_Md_connect_315 rfl
def f_Md_connect_304 (k87 : Int32 → Int32 → Int32 → Int32 → Int32 → Int32 → sn_M) (a : Nat) (x1 : Int32) (x2 : Int32) (x3 : Int32) (x4 : Int32) (x5 : Int32) (x6 : Int32) : sn_M := k87 x1 x2 x3 x4 x5 (x6 + (1 : Int32))
set_option maxHeartbeats 4000000 in
set_option maxRecDepth 100000 in
theorem mono_Md_connect_304 (k87 : Int32 → Int32 → Int32 → Int32 → Int32 → Int32 → sn_M) (mk87 : ∀ (x1 : Int32) (x2 : Int32) (x3 : Int32) (x4 : Int32) (x5 : Int32) (x6 : Int32), sn_Mono (k87 x1 x2 x3 x4 x5 x6)) (a : Nat) (x1 : Int32) (x2 : Int32) (x3 : Int32) (x4 : Int32) (x5 : Int32) (x6 : Int32) : sn_Mono (f_Md_connect_304 k87 a x1 x2 x3 x4 x5 x6) := mk87 x1 x2 x3 x4 x5 (x6 + (1 : Int32))
set_option maxHeartbeats 4000000 in
set_option maxRecDepth 100000 in
theorem s_Md_connect_304 {X : sn_X} (C : sn_Cx X c_Md_connect "SignalNetworkModel" none "connect" 10 7 168) (a : Nat) (k87 : Int32 → Int32 → Int32 → Int32 → Int32 → Int32 → sn_M) (hk87 : ∀ (x1 : Int32) (x2 : Int32) (x3 : Int32) (x4 : Int32) (x5 : Int32) (x6 : Int32), sn_S X 87 [(0, vA (some a)), (1, vI x1), (2, vI x2), (3, vI x3), (4, vI x4), (5, vI x5), (6, vI x6)] [] (k87 x1 x2 x3 x4 x5 x6)) (x1 : Int32) (x2 : Int32) (x3 : Int32) (x4 : Int32) (x5 : Int32) (x6 : Int32) : sn_S X 304 [(0, vA (some a)), (1, vI x1), (2, vI x2), (3, vI x3), (4, vI x4), (5, vI x5), (6, vI x6)] [] (f_Md_connect_304 k87 a x1 x2 x3 x4 x5 x6) := by
  unfold f_Md_connect_304
  refine r_iinc (q := 307) (pl := 6) (v := x6 + (1 : Int32)) (lv' := [(6, vI (x6 + (1 : Int32))), (0, vA (some a)), (1, vI x1), (2, vI x2), (3, vI x3), (4, vI x4), (5, vI x5)]) C d_Md_connect_304 rfl rfl rfl (by decide) rfl ?_
  refine r_goto (tgt := 87) C d_Md_connect_307 (by decide) ?_
  refine r_sub (lv' := [(0, vA (some a)), (1, vI x1), (2, vI x2), (3, vI x3), (4, vI x4), (5, vI x5), (6, vI (x6 + (1 : Int32)))]) [1, 2, 3, 4, 5, 6, 0] rfl ?_
  exact hk87 x1 x2 x3 x4 x5 (x6 + (1 : Int32))
def f_Md_connect_298 (k176 : Int32 → Int32 → Int32 → Int32 → Int32 → Int32 → Int32 → Int32 → sn_M) (a : Nat) (x1 : Int32) (x2 : Int32) (x3 : Int32) (x4 : Int32) (x5 : Int32) (x6 : Int32) (x7 : Int32) (x8 : Int32) : sn_M := k176 x1 x2 x3 x4 x5 x6 x7 (x8 + (1 : Int32))
set_option maxHeartbeats 4000000 in
set_option maxRecDepth 100000 in
theorem mono_Md_connect_298 (k176 : Int32 → Int32 → Int32 → Int32 → Int32 → Int32 → Int32 → Int32 → sn_M) (mk176 : ∀ (x1 : Int32) (x2 : Int32) (x3 : Int32) (x4 : Int32) (x5 : Int32) (x6 : Int32) (x7 : Int32) (x8 : Int32), sn_Mono (k176 x1 x2 x3 x4 x5 x6 x7 x8)) (a : Nat) (x1 : Int32) (x2 : Int32) (x3 : Int32) (x4 : Int32) (x5 : Int32) (x6 : Int32) (x7 : Int32) (x8 : Int32) : sn_Mono (f_Md_connect_298 k176 a x1 x2 x3 x4 x5 x6 x7 x8) := mk176 x1 x2 x3 x4 x5 x6 x7 (x8 + (1 : Int32))
set_option maxHeartbeats 4000000 in
set_option maxRecDepth 100000 in
theorem s_Md_connect_298 {X : sn_X} (C : sn_Cx X c_Md_connect "SignalNetworkModel" none "connect" 10 7 168) (a : Nat) (k176 : Int32 → Int32 → Int32 → Int32 → Int32 → Int32 → Int32 → Int32 → sn_M) (hk176 : ∀ (x1 : Int32) (x2 : Int32) (x3 : Int32) (x4 : Int32) (x5 : Int32) (x6 : Int32) (x7 : Int32) (x8 : Int32), sn_S X 176 [(0, vA (some a)), (1, vI x1), (2, vI x2), (3, vI x3), (4, vI x4), (5, vI x5), (6, vI x6), (7, vI x7), (8, vI x8)] [] (k176 x1 x2 x3 x4 x5 x6 x7 x8)) (x1 : Int32) (x2 : Int32) (x3 : Int32) (x4 : Int32) (x5 : Int32) (x6 : Int32) (x7 : Int32) (x8 : Int32) : sn_S X 298 [(0, vA (some a)), (1, vI x1), (2, vI x2), (3, vI x3), (4, vI x4), (5, vI x5), (6, vI x6), (7, vI x7), (8, vI x8)] [] (f_Md_connect_298 k176 a x1 x2 x3 x4 x5 x6 x7 x8) := by
  unfold f_Md_connect_298
  refine r_iinc (q := 301) (pl := 8) (v := x8 + (1 : Int32)) (lv' := [(8, vI (x8 + (1 : Int32))), (0, vA (some a)), (1, vI x1), (2, vI x2), (3, vI x3), (4, vI x4), (5, vI x5), (6, vI x6), (7, vI x7)]) C d_Md_connect_298 rfl rfl rfl (by decide) rfl ?_
  refine r_goto (tgt := 176) C d_Md_connect_301 (by decide) ?_
  refine r_sub (lv' := [(0, vA (some a)), (1, vI x1), (2, vI x2), (3, vI x3), (4, vI x4), (5, vI x5), (6, vI x6), (7, vI x7), (8, vI (x8 + (1 : Int32)))]) [1, 2, 3, 4, 5, 6, 7, 8, 0] rfl ?_
  exact hk176 x1 x2 x3 x4 x5 x6 x7 (x8 + (1 : Int32))
def f_Md_connect_176 (k87 : Int32 → Int32 → Int32 → Int32 → Int32 → Int32 → sn_M) (a : Nat) : Nat → Int32 → Int32 → Int32 → Int32 → Int32 → Int32 → Int32 → Int32 → sn_M
  | 0, _, _, _, _, _, _, _, _ => r_0
  | n + 1, x1, x2, x3, x4, x5, x6, x7, x8 => (if (4 : Int32) ≤ x8 then f_Md_connect_304 k87 a x1 x2 x3 x4 x5 x6 else n_n 12 (some a) fun a3 => c_I (f_Md_flowAt a3 x1 x7 x8) fun v4 => g_R 12 52 (some a) fun v5 => a_I 31 v5 v4 fun v6 => (if ¬ v6 = 0 then f_Md_connect_298 (f_Md_connect_176 k87 a n) a x1 x2 x3 x4 x5 x6 x7 x8 else g_R 12 55 (some a) fun v7 => a_I 33 v7 v4 fun v8 => (if ¬ v8 = 0 then f_Md_connect_298 (f_Md_connect_176 k87 a n) a x1 x2 x3 x4 x5 x6 x7 x8 else g_R 12 56 (some a) fun v9 => a_I 33 v9 v4 fun v10 => (if v10 = 0 then n_n 12 (some a) fun a11 => c_V (f_Md_join a11 x2 ((100 : Int32) + v4)) (n_n 12 (some a) fun a13 => c_V (f_Md_becomes a13 v4 (1 : Int32) (20 : Int32) (0 : Int32)) (g_R 12 58 (some a) fun v15 => b_I 31 v15 v4 x3 (g_R 12 59 (some a) fun v16 => g_R 12 59 (some a) fun v17 => a_I 31 v17 v4 fun v18 => b_I 31 v16 v4 ((v18 + (1 : Int32)) &&& (63 : Int32)) (g_R 12 60 (some a) fun v19 => b_I 31 v19 v4 x5 (n_n 12 (some a) fun a20 => c_V (f_Md_say a20 v4 (7 : Int32) (x3 + ((64 : Int32) * x5))) (r_V)))))) else f_Md_connect_298 (f_Md_connect_176 k87 a n) a x1 x2 x3 x4 x5 x6 x7 x8))))
set_option maxHeartbeats 4000000 in
set_option maxRecDepth 100000 in
theorem mono_Md_connect_176 (k87 : Int32 → Int32 → Int32 → Int32 → Int32 → Int32 → sn_M) (mk87 : ∀ (x1 : Int32) (x2 : Int32) (x3 : Int32) (x4 : Int32) (x5 : Int32) (x6 : Int32), sn_Mono (k87 x1 x2 x3 x4 x5 x6)) (a : Nat) : ∀ (n : Nat) (x1 : Int32) (x2 : Int32) (x3 : Int32) (x4 : Int32) (x5 : Int32) (x6 : Int32) (x7 : Int32) (x8 : Int32), sn_Mono (f_Md_connect_176 k87 a n x1 x2 x3 x4 x5 x6 x7 x8)
  | 0, _, _, _, _, _, _, _, _ => sn_Mono.r0
  | n + 1, x1, x2, x3, x4, x5, x6, x7, x8 => sn_Mono.ite (mono_Md_connect_304 k87 mk87 a x1 x2 x3 x4 x5 x6) (sn_Mono.nn (fun a3 => sn_Mono.cI (mono_Md_flowAt a3 x1 x7 x8) (fun v4 => sn_Mono.gR (fun v5 => sn_Mono.aI (fun v6 => sn_Mono.ite (mono_Md_connect_298 (f_Md_connect_176 k87 a n) (mono_Md_connect_176 k87 mk87 a n) a x1 x2 x3 x4 x5 x6 x7 x8) (sn_Mono.gR (fun v7 => sn_Mono.aI (fun v8 => sn_Mono.ite (mono_Md_connect_298 (f_Md_connect_176 k87 a n) (mono_Md_connect_176 k87 mk87 a n) a x1 x2 x3 x4 x5 x6 x7 x8) (sn_Mono.gR (fun v9 => sn_Mono.aI (fun v10 => sn_Mono.ite (sn_Mono.nn (fun a11 => sn_Mono.cV (mono_Md_join a11 x2 ((100 : Int32) + v4)) (sn_Mono.nn (fun a13 => sn_Mono.cV (mono_Md_becomes a13 v4 (1 : Int32) (20 : Int32) (0 : Int32)) (sn_Mono.gR (fun v15 => sn_Mono.bI (sn_Mono.gR (fun v16 => sn_Mono.gR (fun v17 => sn_Mono.aI (fun v18 => sn_Mono.bI (sn_Mono.gR (fun v19 => sn_Mono.bI (sn_Mono.nn (fun a20 => sn_Mono.cV (mono_Md_say a20 v4 (7 : Int32) (x3 + ((64 : Int32) * x5))) (sn_Mono.rV))))))))))))))) (mono_Md_connect_298 (f_Md_connect_176 k87 a n) (mono_Md_connect_176 k87 mk87 a n) a x1 x2 x3 x4 x5 x6 x7 x8))))))))))))
set_option maxHeartbeats 4000000 in
set_option maxRecDepth 100000 in
theorem s_Md_connect_176 {X : sn_X} (C : sn_Cx X c_Md_connect "SignalNetworkModel" none "connect" 10 7 168) (a : Nat) (k87 : Int32 → Int32 → Int32 → Int32 → Int32 → Int32 → sn_M) (hk87 : ∀ (x1 : Int32) (x2 : Int32) (x3 : Int32) (x4 : Int32) (x5 : Int32) (x6 : Int32), sn_S X 87 [(0, vA (some a)), (1, vI x1), (2, vI x2), (3, vI x3), (4, vI x4), (5, vI x5), (6, vI x6)] [] (k87 x1 x2 x3 x4 x5 x6)) (n : Nat) : ∀ (x1 : Int32) (x2 : Int32) (x3 : Int32) (x4 : Int32) (x5 : Int32) (x6 : Int32) (x7 : Int32) (x8 : Int32), sn_S X 176 [(0, vA (some a)), (1, vI x1), (2, vI x2), (3, vI x3), (4, vI x4), (5, vI x5), (6, vI x6), (7, vI x7), (8, vI x8)] [] (f_Md_connect_176 k87 a n x1 x2 x3 x4 x5 x6 x7 x8) := by
  induction n with
  | zero => intro x1 x2 x3 x4 x5 x6 x7 x8; exact sn_S.zero
  | succ n ih =>
    intro x1 x2 x3 x4 x5 x6 x7 x8
    unfold f_Md_connect_176
    refine r_iload (q := 178) (i := 8) (pl := 8) C d_Md_connect_176 rfl rfl ?_
    refine r_iconst (q := 179) (v := 4) C d_Md_connect_178 rfl (by decide) ?_
    refine r_icmp_ge (tgt := 304) (q := 182) C d_Md_connect_179 (by decide) rfl ?_ ?_
    · refine r_sub (lv' := [(0, vA (some a)), (1, vI x1), (2, vI x2), (3, vI x3), (4, vI x4), (5, vI x5), (6, vI x6)]) [0, 1, 2, 3, 4, 5, 6] rfl ?_
      exact s_Md_connect_304 C a k87 hk87 x1 x2 x3 x4 x5 x6
    · refine r_aload_n (q := 183) (i := 0) (pl := 0) C d_Md_connect_182 rfl rfl rfl ?_
      refine r_iload_n (q := 184) (i := 1) (pl := 1) C d_Md_connect_183 rfl rfl rfl ?_
      refine r_iload (q := 186) (i := 7) (pl := 7) C d_Md_connect_184 rfl rfl ?_
      refine r_iload (q := 188) (i := 8) (pl := 8) C d_Md_connect_186 rfl rfl ?_
      refine r_cvI (q := 191) (As := [vI x1, vI x7, vI x8]) (st := []) (cy := 11) C d_Md_connect_188 rfl Y_Md_flowAt L_Md_212 I_Md_flowAt Se_Md_flowAt rfl (by decide) rfl (Nat.le_of_ble_eq_true rfl) (Nat.le_of_ble_eq_true rfl) (Nat.le_of_ble_eq_true rfl) rfl (fun a3 => con_Md_flowAt a3 x1 x7 x8) (fun v4 => ?_)
      refine r_istore (q := 193) (i := 9) (lv' := [(9, vI v4), (0, vA (some a)), (1, vI x1), (2, vI x2), (3, vI x3), (4, vI x4), (5, vI x5), (6, vI x6), (7, vI x7), (8, vI x8)]) C d_Md_connect_191 rfl (by decide) rfl ?_
      refine r_aload_n (q := 194) (i := 0) (pl := 1) C d_Md_connect_193 rfl rfl rfl ?_
      refine r_gR (q := 197) C d_Md_connect_194 rfl F_Md_150 rfl (fun v5 => ?_)
      refine r_iload (q := 199) (i := 9) (pl := 0) C d_Md_connect_197 rfl rfl ?_
      refine r_aI (q := 200) C (Or.inr rfl) d_Md_connect_199 rfl (fun v6 => ?_)
      refine r_if_ne (tgt := 298) (q := 203) C d_Md_connect_200 (by decide) rfl ?_ ?_
      · refine r_sub (lv' := [(0, vA (some a)), (1, vI x1), (2, vI x2), (3, vI x3), (4, vI x4), (5, vI x5), (6, vI x6), (7, vI x7), (8, vI x8)]) [1, 2, 3, 4, 5, 6, 7, 8, 9] rfl ?_
        exact s_Md_connect_298 C a (f_Md_connect_176 k87 a n) ih x1 x2 x3 x4 x5 x6 x7 x8
      · refine r_aload_n (q := 204) (i := 0) (pl := 1) C d_Md_connect_203 rfl rfl rfl ?_
        refine r_gR (q := 207) C d_Md_connect_204 rfl F_Md_159 rfl (fun v7 => ?_)
        refine r_iload (q := 209) (i := 9) (pl := 0) C d_Md_connect_207 rfl rfl ?_
        refine r_aZ (q := 210) C (Or.inr rfl) d_Md_connect_209 rfl (fun v8 => ?_)
        refine r_if_ne (tgt := 298) (q := 213) C d_Md_connect_210 (by decide) rfl ?_ ?_
        · refine r_sub (lv' := [(0, vA (some a)), (1, vI x1), (2, vI x2), (3, vI x3), (4, vI x4), (5, vI x5), (6, vI x6), (7, vI x7), (8, vI x8)]) [1, 2, 3, 4, 5, 6, 7, 8, 9] rfl ?_
          exact s_Md_connect_298 C a (f_Md_connect_176 k87 a n) ih x1 x2 x3 x4 x5 x6 x7 x8
        · refine r_aload_n (q := 214) (i := 0) (pl := 1) C d_Md_connect_213 rfl rfl rfl ?_
          refine r_gR (q := 217) C d_Md_connect_214 rfl F_Md_162 rfl (fun v9 => ?_)
          refine r_iload (q := 219) (i := 9) (pl := 0) C d_Md_connect_217 rfl rfl ?_
          refine r_aZ (q := 220) C (Or.inr rfl) d_Md_connect_219 rfl (fun v10 => ?_)
          refine r_if_eq (tgt := 226) (q := 223) C d_Md_connect_220 (by decide) rfl ?_ ?_
          · refine r_aload_n (q := 227) (i := 0) (pl := 1) C d_Md_connect_226 rfl rfl rfl ?_
            refine r_iload_n (q := 228) (i := 2) (pl := 3) C d_Md_connect_227 rfl rfl rfl ?_
            refine r_bipush (q := 230) (v := 100) C d_Md_connect_228 rfl (by decide) ?_
            refine r_iload (q := 232) (i := 9) (pl := 0) C d_Md_connect_230 rfl rfl ?_
            refine r_iadd (q := 233) C d_Md_connect_232 rfl ?_
            refine r_cvV (q := 236) (As := [vI x2, vI ((100 : Int32) + v4)]) (st := []) (cy := 11) C d_Md_connect_233 rfl Y_Md_join L_Md_370 I_Md_join Se_Md_join rfl (by decide) rfl (Nat.le_of_ble_eq_true rfl) (Nat.le_of_ble_eq_true rfl) (Nat.le_of_ble_eq_true rfl) rfl (fun a11 => con_Md_join a11 x2 ((100 : Int32) + v4)) ?_
            refine r_aload_n (q := 237) (i := 0) (pl := 1) C d_Md_connect_236 rfl rfl rfl ?_
            refine r_iload (q := 239) (i := 9) (pl := 0) C d_Md_connect_237 rfl rfl ?_
            refine r_iconst (q := 240) (v := 1) C d_Md_connect_239 rfl (by decide) ?_
            refine r_bipush (q := 242) (v := 20) C d_Md_connect_240 rfl (by decide) ?_
            refine r_iconst (q := 243) (v := 0) C d_Md_connect_242 rfl (by decide) ?_
            refine r_cvV (q := 246) (As := [vI v4, vI (1 : Int32), vI (20 : Int32), vI (0 : Int32)]) (st := []) (cy := 11) C d_Md_connect_243 rfl Y_Md_becomes L_Md_364 I_Md_becomes Se_Md_becomes rfl (by decide) rfl (Nat.le_of_ble_eq_true rfl) (Nat.le_of_ble_eq_true rfl) (Nat.le_of_ble_eq_true rfl) rfl (fun a13 => con_Md_becomes a13 v4 (1 : Int32) (20 : Int32) (0 : Int32)) ?_
            refine r_aload_n (q := 247) (i := 0) (pl := 1) C d_Md_connect_246 rfl rfl rfl ?_
            refine r_gR (q := 250) C d_Md_connect_247 rfl F_Md_168 rfl (fun v15 => ?_)
            refine r_iload (q := 252) (i := 9) (pl := 0) C d_Md_connect_250 rfl rfl ?_
            refine r_iload_n (q := 253) (i := 3) (pl := 4) C d_Md_connect_252 rfl rfl rfl ?_
            refine r_bI (q := 254) C (Or.inr rfl) d_Md_connect_253 rfl ?_
            refine r_aload_n (q := 255) (i := 0) (pl := 1) C d_Md_connect_254 rfl rfl rfl ?_
            refine r_gR (q := 258) C d_Md_connect_255 rfl F_Md_171 rfl (fun v16 => ?_)
            refine r_iload (q := 260) (i := 9) (pl := 0) C d_Md_connect_258 rfl rfl ?_
            refine r_aload_n (q := 261) (i := 0) (pl := 1) C d_Md_connect_260 rfl rfl rfl ?_
            refine r_gR (q := 264) C d_Md_connect_261 rfl F_Md_171 rfl (fun v17 => ?_)
            refine r_iload (q := 266) (i := 9) (pl := 0) C d_Md_connect_264 rfl rfl ?_
            refine r_aI (q := 267) C (Or.inr rfl) d_Md_connect_266 rfl (fun v18 => ?_)
            refine r_iconst (q := 268) (v := 1) C d_Md_connect_267 rfl (by decide) ?_
            refine r_iadd (q := 269) C d_Md_connect_268 rfl ?_
            refine r_bipush (q := 271) (v := 63) C d_Md_connect_269 rfl (by decide) ?_
            refine r_iand (q := 272) C d_Md_connect_271 rfl ?_
            refine r_bI (q := 273) C (Or.inr rfl) d_Md_connect_272 rfl ?_
            refine r_aload_n (q := 274) (i := 0) (pl := 1) C d_Md_connect_273 rfl rfl rfl ?_
            refine r_gR (q := 277) C d_Md_connect_274 rfl F_Md_174 rfl (fun v19 => ?_)
            refine r_iload (q := 279) (i := 9) (pl := 0) C d_Md_connect_277 rfl rfl ?_
            refine r_iload (q := 281) (i := 5) (pl := 6) C d_Md_connect_279 rfl rfl ?_
            refine r_bI (q := 282) C (Or.inr rfl) d_Md_connect_281 rfl ?_
            refine r_aload_n (q := 283) (i := 0) (pl := 1) C d_Md_connect_282 rfl rfl rfl ?_
            refine r_iload (q := 285) (i := 9) (pl := 0) C d_Md_connect_283 rfl rfl ?_
            refine r_bipush (q := 287) (v := 7) C d_Md_connect_285 rfl (by decide) ?_
            refine r_iload_n (q := 288) (i := 3) (pl := 4) C d_Md_connect_287 rfl rfl rfl ?_
            refine r_bipush (q := 290) (v := 64) C d_Md_connect_288 rfl (by decide) ?_
            refine r_iload (q := 292) (i := 5) (pl := 6) C d_Md_connect_290 rfl rfl ?_
            refine r_imul (q := 293) C d_Md_connect_292 rfl ?_
            refine r_iadd (q := 294) C d_Md_connect_293 rfl ?_
            refine r_cvV (q := 297) (As := [vI v4, vI (7 : Int32), vI (x3 + ((64 : Int32) * x5))]) (st := []) (cy := 11) C d_Md_connect_294 rfl Y_Md_say L_Md_361 I_Md_say Se_Md_say rfl (by decide) rfl (Nat.le_of_ble_eq_true rfl) (Nat.le_of_ble_eq_true rfl) (Nat.le_of_ble_eq_true rfl) rfl (fun a20 => con_Md_say a20 v4 (7 : Int32) (x3 + ((64 : Int32) * x5))) ?_
            exact r_vret C d_Md_connect_297 rfl
          · refine r_goto (tgt := 298) C d_Md_connect_223 (by decide) ?_
            refine r_sub (lv' := [(0, vA (some a)), (1, vI x1), (2, vI x2), (3, vI x3), (4, vI x4), (5, vI x5), (6, vI x6), (7, vI x7), (8, vI x8)]) [1, 2, 3, 4, 5, 6, 7, 8, 9] rfl ?_
            exact s_Md_connect_298 C a (f_Md_connect_176 k87 a n) ih x1 x2 x3 x4 x5 x6 x7 x8
def f_Md_connect_173 (k87 : Int32 → Int32 → Int32 → Int32 → Int32 → Int32 → sn_M) (a : Nat) (x1 : Int32) (x2 : Int32) (x3 : Int32) (x4 : Int32) (x5 : Int32) (x6 : Int32) (x7 : Int32) : sn_M := f_Md_connect_176 k87 a sn_fuel x1 x2 x3 x4 x5 x6 x7 (0 : Int32)
set_option maxHeartbeats 4000000 in
set_option maxRecDepth 100000 in
theorem mono_Md_connect_173 (k87 : Int32 → Int32 → Int32 → Int32 → Int32 → Int32 → sn_M) (mk87 : ∀ (x1 : Int32) (x2 : Int32) (x3 : Int32) (x4 : Int32) (x5 : Int32) (x6 : Int32), sn_Mono (k87 x1 x2 x3 x4 x5 x6)) (a : Nat) (x1 : Int32) (x2 : Int32) (x3 : Int32) (x4 : Int32) (x5 : Int32) (x6 : Int32) (x7 : Int32) : sn_Mono (f_Md_connect_173 k87 a x1 x2 x3 x4 x5 x6 x7) := mono_Md_connect_176 k87 mk87 a sn_fuel x1 x2 x3 x4 x5 x6 x7 (0 : Int32)
set_option maxHeartbeats 4000000 in
set_option maxRecDepth 100000 in
theorem s_Md_connect_173 {X : sn_X} (C : sn_Cx X c_Md_connect "SignalNetworkModel" none "connect" 10 7 168) (a : Nat) (k87 : Int32 → Int32 → Int32 → Int32 → Int32 → Int32 → sn_M) (hk87 : ∀ (x1 : Int32) (x2 : Int32) (x3 : Int32) (x4 : Int32) (x5 : Int32) (x6 : Int32), sn_S X 87 [(0, vA (some a)), (1, vI x1), (2, vI x2), (3, vI x3), (4, vI x4), (5, vI x5), (6, vI x6)] [] (k87 x1 x2 x3 x4 x5 x6)) (x1 : Int32) (x2 : Int32) (x3 : Int32) (x4 : Int32) (x5 : Int32) (x6 : Int32) (x7 : Int32) : sn_S X 173 [(0, vA (some a)), (1, vI x1), (2, vI x2), (3, vI x3), (4, vI x4), (5, vI x5), (6, vI x6), (7, vI x7)] [] (f_Md_connect_173 k87 a x1 x2 x3 x4 x5 x6 x7) := by
  unfold f_Md_connect_173
  refine r_iconst (q := 174) (v := 0) C d_Md_connect_173 rfl (by decide) ?_
  refine r_istore (q := 176) (i := 8) (lv' := [(8, vI (0 : Int32)), (0, vA (some a)), (1, vI x1), (2, vI x2), (3, vI x3), (4, vI x4), (5, vI x5), (6, vI x6), (7, vI x7)]) C d_Md_connect_174 rfl (by decide) rfl ?_
  refine r_sub (lv' := [(0, vA (some a)), (1, vI x1), (2, vI x2), (3, vI x3), (4, vI x4), (5, vI x5), (6, vI x6), (7, vI x7), (8, vI (0 : Int32))]) [1, 2, 3, 4, 5, 6, 7, 8, 0] rfl ?_
  exact s_Md_connect_176 C a k87 hk87 sn_fuel x1 x2 x3 x4 x5 x6 x7 (0 : Int32)
def f_Md_connect_132 (k87 : Int32 → Int32 → Int32 → Int32 → Int32 → Int32 → sn_M) (a : Nat) (x1 : Int32) (x2 : Int32) (x3 : Int32) (x4 : Int32) (x5 : Int32) (x6 : Int32) (t0 : Int32) : sn_M := (if t0 = (-1 : Int32) then f_Md_connect_304 k87 a x1 x2 x3 x4 x5 x6 else n_n 12 (some a) fun a22 => c_I (f_Md_areNeighbours a22 x1 t0) fun v23 => (if v23 = 0 then f_Md_connect_304 k87 a x1 x2 x3 x4 x5 x6 else (if x2 < (100 : Int32) then f_Md_connect_173 k87 a x1 x2 x3 x4 x5 x6 t0 else (if ¬ (((x2 - (100 : Int32)) % (24 : Int32)) / (4 : Int32)) = t0 then f_Md_connect_173 k87 a x1 x2 x3 x4 x5 x6 t0 else f_Md_connect_304 k87 a x1 x2 x3 x4 x5 x6))))
set_option maxHeartbeats 4000000 in
set_option maxRecDepth 100000 in
theorem mono_Md_connect_132 (k87 : Int32 → Int32 → Int32 → Int32 → Int32 → Int32 → sn_M) (mk87 : ∀ (x1 : Int32) (x2 : Int32) (x3 : Int32) (x4 : Int32) (x5 : Int32) (x6 : Int32), sn_Mono (k87 x1 x2 x3 x4 x5 x6)) (a : Nat) (x1 : Int32) (x2 : Int32) (x3 : Int32) (x4 : Int32) (x5 : Int32) (x6 : Int32) (t0 : Int32) : sn_Mono (f_Md_connect_132 k87 a x1 x2 x3 x4 x5 x6 t0) := sn_Mono.ite (mono_Md_connect_304 k87 mk87 a x1 x2 x3 x4 x5 x6) (sn_Mono.nn (fun a22 => sn_Mono.cI (mono_Md_areNeighbours a22 x1 t0) (fun v23 => sn_Mono.ite (mono_Md_connect_304 k87 mk87 a x1 x2 x3 x4 x5 x6) (sn_Mono.ite (mono_Md_connect_173 k87 mk87 a x1 x2 x3 x4 x5 x6 t0) (sn_Mono.ite (mono_Md_connect_173 k87 mk87 a x1 x2 x3 x4 x5 x6 t0) (mono_Md_connect_304 k87 mk87 a x1 x2 x3 x4 x5 x6))))))
set_option maxHeartbeats 4000000 in
set_option maxRecDepth 100000 in
theorem s_Md_connect_132 {X : sn_X} (C : sn_Cx X c_Md_connect "SignalNetworkModel" none "connect" 10 7 168) (a : Nat) (k87 : Int32 → Int32 → Int32 → Int32 → Int32 → Int32 → sn_M) (hk87 : ∀ (x1 : Int32) (x2 : Int32) (x3 : Int32) (x4 : Int32) (x5 : Int32) (x6 : Int32), sn_S X 87 [(0, vA (some a)), (1, vI x1), (2, vI x2), (3, vI x3), (4, vI x4), (5, vI x5), (6, vI x6)] [] (k87 x1 x2 x3 x4 x5 x6)) (x1 : Int32) (x2 : Int32) (x3 : Int32) (x4 : Int32) (x5 : Int32) (x6 : Int32) (t0 : Int32) : sn_S X 132 [(0, vA (some a)), (1, vI x1), (2, vI x2), (3, vI x3), (4, vI x4), (5, vI x5), (6, vI x6)] [vI t0] (f_Md_connect_132 k87 a x1 x2 x3 x4 x5 x6 t0) := by
  unfold f_Md_connect_132
  refine r_istore (q := 134) (i := 7) (lv' := [(7, vI t0), (0, vA (some a)), (1, vI x1), (2, vI x2), (3, vI x3), (4, vI x4), (5, vI x5), (6, vI x6)]) C d_Md_connect_132 rfl (by decide) rfl ?_
  refine r_iload (q := 136) (i := 7) (pl := 0) C d_Md_connect_134 rfl rfl ?_
  refine r_iconst (q := 137) (v := -1) C d_Md_connect_136 rfl (by decide) ?_
  refine r_icmp_eq (tgt := 304) (q := 140) C d_Md_connect_137 (by decide) rfl ?_ ?_
  · refine r_sub (lv' := [(0, vA (some a)), (1, vI x1), (2, vI x2), (3, vI x3), (4, vI x4), (5, vI x5), (6, vI x6)]) [1, 2, 3, 4, 5, 6, 7] rfl ?_
    exact s_Md_connect_304 C a k87 hk87 x1 x2 x3 x4 x5 x6
  · refine r_aload_n (q := 141) (i := 0) (pl := 1) C d_Md_connect_140 rfl rfl rfl ?_
    refine r_iload_n (q := 142) (i := 1) (pl := 2) C d_Md_connect_141 rfl rfl rfl ?_
    refine r_iload (q := 144) (i := 7) (pl := 0) C d_Md_connect_142 rfl rfl ?_
    refine r_cvI (q := 147) (As := [vI x1, vI t0]) (st := []) (cy := 11) C d_Md_connect_144 rfl Y_Md_areNeighbours L_Md_226 I_Md_areNeighbours Se_Md_areNeighbours rfl (by decide) rfl (Nat.le_of_ble_eq_true rfl) (Nat.le_of_ble_eq_true rfl) (Nat.le_of_ble_eq_true rfl) rfl (fun a22 => con_Md_areNeighbours a22 x1 t0) (fun v23 => ?_)
    refine r_if_eq (tgt := 304) (q := 150) C d_Md_connect_147 (by decide) rfl ?_ ?_
    · refine r_sub (lv' := [(0, vA (some a)), (1, vI x1), (2, vI x2), (3, vI x3), (4, vI x4), (5, vI x5), (6, vI x6)]) [1, 2, 3, 4, 5, 6, 7] rfl ?_
      exact s_Md_connect_304 C a k87 hk87 x1 x2 x3 x4 x5 x6
    · refine r_iload_n (q := 151) (i := 2) (pl := 3) C d_Md_connect_150 rfl rfl rfl ?_
      refine r_bipush (q := 153) (v := 100) C d_Md_connect_151 rfl (by decide) ?_
      refine r_icmp_lt (tgt := 173) (q := 156) C d_Md_connect_153 (by decide) rfl ?_ ?_
      · refine r_sub (lv' := [(0, vA (some a)), (1, vI x1), (2, vI x2), (3, vI x3), (4, vI x4), (5, vI x5), (6, vI x6), (7, vI t0)]) [1, 2, 3, 4, 5, 6, 7, 0] rfl ?_
        exact s_Md_connect_173 C a k87 hk87 x1 x2 x3 x4 x5 x6 t0
      · refine r_iload_n (q := 157) (i := 2) (pl := 3) C d_Md_connect_156 rfl rfl rfl ?_
        refine r_bipush (q := 159) (v := 100) C d_Md_connect_157 rfl (by decide) ?_
        refine r_isub (q := 160) C d_Md_connect_159 rfl ?_
        refine r_bipush (q := 162) (v := 24) C d_Md_connect_160 rfl (by decide) ?_
        refine r_iremc (q := 163) C d_Md_connect_162 rfl (by decide) ?_
        refine r_iconst (q := 164) (v := 4) C d_Md_connect_163 rfl (by decide) ?_
        refine r_idivc (q := 165) C d_Md_connect_164 rfl (by decide) ?_
        refine r_iload (q := 167) (i := 7) (pl := 0) C d_Md_connect_165 rfl rfl ?_
        refine r_icmp_ne (tgt := 173) (q := 170) C d_Md_connect_167 (by decide) rfl ?_ ?_
        · refine r_sub (lv' := [(0, vA (some a)), (1, vI x1), (2, vI x2), (3, vI x3), (4, vI x4), (5, vI x5), (6, vI x6), (7, vI t0)]) [1, 2, 3, 4, 5, 6, 7, 0] rfl ?_
          exact s_Md_connect_173 C a k87 hk87 x1 x2 x3 x4 x5 x6 t0
        · refine r_goto (tgt := 304) C d_Md_connect_170 (by decide) ?_
          refine r_sub (lv' := [(0, vA (some a)), (1, vI x1), (2, vI x2), (3, vI x3), (4, vI x4), (5, vI x5), (6, vI x6)]) [1, 2, 3, 4, 5, 6, 7] rfl ?_
          exact s_Md_connect_304 C a k87 hk87 x1 x2 x3 x4 x5 x6
def f_Md_connect_87 (a : Nat) : Nat → Int32 → Int32 → Int32 → Int32 → Int32 → Int32 → sn_M
  | 0, _, _, _, _, _, _ => r_0
  | n + 1, x1, x2, x3, x4, x5, x6 => (if (2 : Int32) ≤ x6 then f_Md_connect_310 a x2 else (if (7 : Int32) ≤ x5 then f_Md_connect_310 a x2 else (if ¬ x6 = 0 then g_R 12 51 (some a) fun v24 => a_I 31 v24 (((6 : Int32) * x1) + x4) fun v25 => f_Md_connect_132 (f_Md_connect_87 a n) a x1 x2 x3 x4 x5 x6 v25 else g_R 12 50 (some a) fun v26 => a_I 31 v26 (((6 : Int32) * x1) + x4) fun v27 => f_Md_connect_132 (f_Md_connect_87 a n) a x1 x2 x3 x4 x5 x6 v27)))
set_option maxHeartbeats 4000000 in
set_option maxRecDepth 100000 in
theorem mono_Md_connect_87 (a : Nat) : ∀ (n : Nat) (x1 : Int32) (x2 : Int32) (x3 : Int32) (x4 : Int32) (x5 : Int32) (x6 : Int32), sn_Mono (f_Md_connect_87 a n x1 x2 x3 x4 x5 x6)
  | 0, _, _, _, _, _, _ => sn_Mono.r0
  | n + 1, x1, x2, x3, x4, x5, x6 => sn_Mono.ite (mono_Md_connect_310 a x2) (sn_Mono.ite (mono_Md_connect_310 a x2) (sn_Mono.ite (sn_Mono.gR (fun v24 => sn_Mono.aI (fun v25 => mono_Md_connect_132 (f_Md_connect_87 a n) (mono_Md_connect_87 a n) a x1 x2 x3 x4 x5 x6 v25))) (sn_Mono.gR (fun v26 => sn_Mono.aI (fun v27 => mono_Md_connect_132 (f_Md_connect_87 a n) (mono_Md_connect_87 a n) a x1 x2 x3 x4 x5 x6 v27)))))
set_option maxHeartbeats 4000000 in
set_option maxRecDepth 100000 in
theorem s_Md_connect_87 {X : sn_X} (C : sn_Cx X c_Md_connect "SignalNetworkModel" none "connect" 10 7 168) (a : Nat) (n : Nat) : ∀ (x1 : Int32) (x2 : Int32) (x3 : Int32) (x4 : Int32) (x5 : Int32) (x6 : Int32), sn_S X 87 [(0, vA (some a)), (1, vI x1), (2, vI x2), (3, vI x3), (4, vI x4), (5, vI x5), (6, vI x6)] [] (f_Md_connect_87 a n x1 x2 x3 x4 x5 x6) := by
  induction n with
  | zero => intro x1 x2 x3 x4 x5 x6; exact sn_S.zero
  | succ n ih =>
    intro x1 x2 x3 x4 x5 x6
    unfold f_Md_connect_87
    refine r_iload (q := 89) (i := 6) (pl := 6) C d_Md_connect_87 rfl rfl ?_
    refine r_iconst (q := 90) (v := 2) C d_Md_connect_89 rfl (by decide) ?_
    refine r_icmp_ge (tgt := 310) (q := 93) C d_Md_connect_90 (by decide) rfl ?_ ?_
    · refine r_sub (lv' := [(0, vA (some a)), (2, vI x2)]) [0, 2] rfl ?_
      exact s_Md_connect_310 C a x2
    · refine r_iload (q := 95) (i := 5) (pl := 5) C d_Md_connect_93 rfl rfl ?_
      refine r_bipush (q := 97) (v := 7) C d_Md_connect_95 rfl (by decide) ?_
      refine r_icmp_ge (tgt := 310) (q := 100) C d_Md_connect_97 (by decide) rfl ?_ ?_
      · refine r_sub (lv' := [(0, vA (some a)), (2, vI x2)]) [0, 2] rfl ?_
        exact s_Md_connect_310 C a x2
      · refine r_iload (q := 102) (i := 6) (pl := 6) C d_Md_connect_100 rfl rfl ?_
        refine r_if_ne (tgt := 120) (q := 105) C d_Md_connect_102 (by decide) rfl ?_ ?_
        · refine r_aload_n (q := 121) (i := 0) (pl := 0) C d_Md_connect_120 rfl rfl rfl ?_
          refine r_gR (q := 124) C d_Md_connect_121 rfl F_Md_147 rfl (fun v24 => ?_)
          refine r_bipush (q := 126) (v := 6) C d_Md_connect_124 rfl (by decide) ?_
          refine r_iload_n (q := 127) (i := 1) (pl := 1) C d_Md_connect_126 rfl rfl rfl ?_
          refine r_imul (q := 128) C d_Md_connect_127 rfl ?_
          refine r_iload (q := 130) (i := 4) (pl := 4) C d_Md_connect_128 rfl rfl ?_
          refine r_iadd (q := 131) C d_Md_connect_130 rfl ?_
          refine r_aI (q := 132) C (Or.inr rfl) d_Md_connect_131 rfl (fun v25 => ?_)
          exact s_Md_connect_132 C a (f_Md_connect_87 a n) ih x1 x2 x3 x4 x5 x6 v25
        · refine r_aload_n (q := 106) (i := 0) (pl := 0) C d_Md_connect_105 rfl rfl rfl ?_
          refine r_gR (q := 109) C d_Md_connect_106 rfl F_Md_144 rfl (fun v26 => ?_)
          refine r_bipush (q := 111) (v := 6) C d_Md_connect_109 rfl (by decide) ?_
          refine r_iload_n (q := 112) (i := 1) (pl := 1) C d_Md_connect_111 rfl rfl rfl ?_
          refine r_imul (q := 113) C d_Md_connect_112 rfl ?_
          refine r_iload (q := 115) (i := 4) (pl := 4) C d_Md_connect_113 rfl rfl ?_
          refine r_iadd (q := 116) C d_Md_connect_115 rfl ?_
          refine r_aI (q := 117) C (Or.inr rfl) d_Md_connect_116 rfl (fun v27 => ?_)
          refine r_goto (tgt := 132) C d_Md_connect_117 (by decide) ?_
          exact s_Md_connect_132 C a (f_Md_connect_87 a n) ih x1 x2 x3 x4 x5 x6 v27
def f_Md_connect_82 (a : Nat) (x1 : Int32) (x2 : Int32) (x3 : Int32) (x4 : Int32) (t0 : Int32) : sn_M := f_Md_connect_87 a sn_fuel x1 x2 x3 x4 t0 (0 : Int32)
set_option maxHeartbeats 4000000 in
set_option maxRecDepth 100000 in
theorem mono_Md_connect_82 (a : Nat) (x1 : Int32) (x2 : Int32) (x3 : Int32) (x4 : Int32) (t0 : Int32) : sn_Mono (f_Md_connect_82 a x1 x2 x3 x4 t0) := mono_Md_connect_87 a sn_fuel x1 x2 x3 x4 t0 (0 : Int32)
set_option maxHeartbeats 4000000 in
set_option maxRecDepth 100000 in
theorem s_Md_connect_82 {X : sn_X} (C : sn_Cx X c_Md_connect "SignalNetworkModel" none "connect" 10 7 168) (a : Nat) (x1 : Int32) (x2 : Int32) (x3 : Int32) (x4 : Int32) (t0 : Int32) : sn_S X 82 [(0, vA (some a)), (1, vI x1), (2, vI x2), (3, vI x3), (4, vI x4)] [vI t0] (f_Md_connect_82 a x1 x2 x3 x4 t0) := by
  unfold f_Md_connect_82
  refine r_istore (q := 84) (i := 5) (lv' := [(5, vI t0), (0, vA (some a)), (1, vI x1), (2, vI x2), (3, vI x3), (4, vI x4)]) C d_Md_connect_82 rfl (by decide) rfl ?_
  refine r_iconst (q := 85) (v := 0) C d_Md_connect_84 rfl (by decide) ?_
  refine r_istore (q := 87) (i := 6) (lv' := [(6, vI (0 : Int32)), (5, vI t0), (0, vA (some a)), (1, vI x1), (2, vI x2), (3, vI x3), (4, vI x4)]) C d_Md_connect_85 rfl (by decide) rfl ?_
  refine r_sub (lv' := [(0, vA (some a)), (1, vI x1), (2, vI x2), (3, vI x3), (4, vI x4), (5, vI t0), (6, vI (0 : Int32))]) [2, 3, 4, 5, 6, 1, 0] rfl ?_
  exact s_Md_connect_87 C a sn_fuel x1 x2 x3 x4 t0 (0 : Int32)
def f_Md_connect (a : Nat) (x1 : Int32) (x2 : Int32) (x3 : Int32) : sn_M := n_I ((x3 / (10 : Int32))) fun n28 => (if ¬ n28 = x1 then (if (100 : Int32) ≤ x2 then g_R 12 60 (some a) fun v29 => a_I 31 v29 (x2 - (100 : Int32)) fun v30 => f_Md_connect_82 a x1 x2 x3 n28 (v30 + (1 : Int32)) else f_Md_connect_82 a x1 x2 x3 n28 (1 : Int32)) else n_I ((((4 : Int32) * x1) + (x3 % (10 : Int32)))) fun n31 => g_R 12 61 (some a) fun v32 => a_I 31 v32 n31 fun v33 => (if v33 = 0 then g_R 12 61 (some a) fun v34 => b_I 31 v34 n31 (3 : Int32) (n_n 12 (some a) fun a35 => c_V (f_Md_join a35 x2 n31) (n_n 12 (some a) fun a37 => c_V (f_Md_back a37 x2 (8 : Int32)) (r_V))) else n_n 12 (some a) fun a39 => c_V (f_Md_letGo a39 x2) (r_V)))
set_option maxHeartbeats 4000000 in
set_option maxRecDepth 100000 in
theorem mono_Md_connect (a : Nat) (x1 : Int32) (x2 : Int32) (x3 : Int32) : sn_Mono (f_Md_connect a x1 x2 x3) := sn_Mono.nI (fun n28 => sn_Mono.ite (sn_Mono.ite (sn_Mono.gR (fun v29 => sn_Mono.aI (fun v30 => mono_Md_connect_82 a x1 x2 x3 n28 (v30 + (1 : Int32))))) (mono_Md_connect_82 a x1 x2 x3 n28 (1 : Int32))) (sn_Mono.nI (fun n31 => sn_Mono.gR (fun v32 => sn_Mono.aI (fun v33 => sn_Mono.ite (sn_Mono.gR (fun v34 => sn_Mono.bI (sn_Mono.nn (fun a35 => sn_Mono.cV (mono_Md_join a35 x2 n31) (sn_Mono.nn (fun a37 => sn_Mono.cV (mono_Md_back a37 x2 (8 : Int32)) (sn_Mono.rV))))))) (sn_Mono.nn (fun a39 => sn_Mono.cV (mono_Md_letGo a39 x2) (sn_Mono.rV))))))))
set_option maxHeartbeats 4000000 in
set_option maxRecDepth 100000 in
theorem con_Md_connect (a : Nat) (x1 : Int32) (x2 : Int32) (x3 : Int32) : sn_Con y_Md_connect c_Md_connect 10 none 7 168 [vA (some a), vI x1, vI x2, vI x3] (f_Md_connect a x1 x2 x3) := by
  refine sn_Con.of (by decide +kernel) (by show _ ≤ _; exact Nat.le_of_ble_eq_true rfl) (mono_Md_connect a x1 x2 x3) (fun X C => ?_)
  show sn_S X 0 [(0, vA (some a)), (1, vI x1), (2, vI x2), (3, vI x3)] [] _
  replace C : sn_Cx X c_Md_connect "SignalNetworkModel" none "connect" 10 7 168 := C
  unfold f_Md_connect
  refine r_iload_n (q := 1) (i := 3) (pl := 3) C d_Md_connect_0 rfl rfl rfl ?_
  refine r_bipush (q := 3) (v := 10) C d_Md_connect_1 rfl (by decide) ?_
  refine r_idivc (q := 4) C d_Md_connect_3 rfl (by decide) ?_
  refine r_nI (fun n28 => ?_)
  refine r_istore (q := 6) (i := 4) (lv' := [(4, vI n28), (0, vA (some a)), (1, vI x1), (2, vI x2), (3, vI x3)]) C d_Md_connect_4 rfl (by decide) rfl ?_
  refine r_iload (q := 8) (i := 4) (pl := 0) C d_Md_connect_6 rfl rfl ?_
  refine r_iload_n (q := 9) (i := 1) (pl := 2) C d_Md_connect_8 rfl rfl rfl ?_
  refine r_icmp_ne (tgt := 61) (q := 12) C d_Md_connect_9 (by decide) rfl ?_ ?_
  · refine r_iload_n (q := 62) (i := 2) (pl := 3) C d_Md_connect_61 rfl rfl rfl ?_
    refine r_bipush (q := 64) (v := 100) C d_Md_connect_62 rfl (by decide) ?_
    refine r_icmp_ge (tgt := 71) (q := 67) C d_Md_connect_64 (by decide) rfl ?_ ?_
    · refine r_aload_n (q := 72) (i := 0) (pl := 1) C d_Md_connect_71 rfl rfl rfl ?_
      refine r_gR (q := 75) C d_Md_connect_72 rfl F_Md_174 rfl (fun v29 => ?_)
      refine r_iload_n (q := 76) (i := 2) (pl := 3) C d_Md_connect_75 rfl rfl rfl ?_
      refine r_bipush (q := 78) (v := 100) C d_Md_connect_76 rfl (by decide) ?_
      refine r_isub (q := 79) C d_Md_connect_78 rfl ?_
      refine r_aI (q := 80) C (Or.inr rfl) d_Md_connect_79 rfl (fun v30 => ?_)
      refine r_iconst (q := 81) (v := 1) C d_Md_connect_80 rfl (by decide) ?_
      refine r_iadd (q := 82) C d_Md_connect_81 rfl ?_
      refine r_sub (lv' := [(0, vA (some a)), (1, vI x1), (2, vI x2), (3, vI x3), (4, vI n28)]) [1, 2, 3, 4, 0] rfl ?_
      exact s_Md_connect_82 C a x1 x2 x3 n28 (v30 + (1 : Int32))
    · refine r_iconst (q := 68) (v := 1) C d_Md_connect_67 rfl (by decide) ?_
      refine r_goto (tgt := 82) C d_Md_connect_68 (by decide) ?_
      refine r_sub (lv' := [(0, vA (some a)), (1, vI x1), (2, vI x2), (3, vI x3), (4, vI n28)]) [1, 2, 3, 4, 0] rfl ?_
      exact s_Md_connect_82 C a x1 x2 x3 n28 (1 : Int32)
  · refine r_iconst (q := 13) (v := 4) C d_Md_connect_12 rfl (by decide) ?_
    refine r_iload_n (q := 14) (i := 1) (pl := 2) C d_Md_connect_13 rfl rfl rfl ?_
    refine r_imul (q := 15) C d_Md_connect_14 rfl ?_
    refine r_iload_n (q := 16) (i := 3) (pl := 4) C d_Md_connect_15 rfl rfl rfl ?_
    refine r_bipush (q := 18) (v := 10) C d_Md_connect_16 rfl (by decide) ?_
    refine r_iremc (q := 19) C d_Md_connect_18 rfl (by decide) ?_
    refine r_iadd (q := 20) C d_Md_connect_19 rfl ?_
    refine r_nI (fun n31 => ?_)
    refine r_istore (q := 22) (i := 5) (lv' := [(5, vI n31), (4, vI n28), (0, vA (some a)), (1, vI x1), (2, vI x2), (3, vI x3)]) C d_Md_connect_20 rfl (by decide) rfl ?_
    refine r_aload_n (q := 23) (i := 0) (pl := 2) C d_Md_connect_22 rfl rfl rfl ?_
    refine r_gR (q := 26) C d_Md_connect_23 rfl F_Md_177 rfl (fun v32 => ?_)
    refine r_iload (q := 28) (i := 5) (pl := 0) C d_Md_connect_26 rfl rfl ?_
    refine r_aI (q := 29) C (Or.inr rfl) d_Md_connect_28 rfl (fun v33 => ?_)
    refine r_if_eq (tgt := 38) (q := 32) C d_Md_connect_29 (by decide) rfl ?_ ?_
    · refine r_aload_n (q := 39) (i := 0) (pl := 2) C d_Md_connect_38 rfl rfl rfl ?_
      refine r_gR (q := 42) C d_Md_connect_39 rfl F_Md_177 rfl (fun v34 => ?_)
      refine r_iload (q := 44) (i := 5) (pl := 0) C d_Md_connect_42 rfl rfl ?_
      refine r_iconst (q := 45) (v := 3) C d_Md_connect_44 rfl (by decide) ?_
      refine r_bI (q := 46) C (Or.inr rfl) d_Md_connect_45 rfl ?_
      refine r_aload_n (q := 47) (i := 0) (pl := 2) C d_Md_connect_46 rfl rfl rfl ?_
      refine r_iload_n (q := 48) (i := 2) (pl := 4) C d_Md_connect_47 rfl rfl rfl ?_
      refine r_iload (q := 50) (i := 5) (pl := 0) C d_Md_connect_48 rfl rfl ?_
      refine r_cvV (q := 53) (As := [vI x2, vI n31]) (st := []) (cy := 11) C d_Md_connect_50 rfl Y_Md_join L_Md_370 I_Md_join Se_Md_join rfl (by decide) rfl (Nat.le_of_ble_eq_true rfl) (Nat.le_of_ble_eq_true rfl) (Nat.le_of_ble_eq_true rfl) rfl (fun a35 => con_Md_join a35 x2 n31) ?_
      refine r_aload_n (q := 54) (i := 0) (pl := 2) C d_Md_connect_53 rfl rfl rfl ?_
      refine r_iload_n (q := 55) (i := 2) (pl := 4) C d_Md_connect_54 rfl rfl rfl ?_
      refine r_bipush (q := 57) (v := 8) C d_Md_connect_55 rfl (by decide) ?_
      refine r_cvV (q := 60) (As := [vI x2, vI (8 : Int32)]) (st := []) (cy := 11) C d_Md_connect_57 rfl Y_Md_back L_Md_373 I_Md_back Se_Md_back rfl (by decide) rfl (Nat.le_of_ble_eq_true rfl) (Nat.le_of_ble_eq_true rfl) (Nat.le_of_ble_eq_true rfl) rfl (fun a37 => con_Md_back a37 x2 (8 : Int32)) ?_
      exact r_vret C d_Md_connect_60 rfl
    · refine r_aload_n (q := 33) (i := 0) (pl := 2) C d_Md_connect_32 rfl rfl rfl ?_
      refine r_iload_n (q := 34) (i := 2) (pl := 4) C d_Md_connect_33 rfl rfl rfl ?_
      refine r_cvV (q := 37) (As := [vI x2]) (st := []) (cy := 11) C d_Md_connect_34 rfl Y_Md_letGo L_Md_367 I_Md_letGo Se_Md_letGo rfl (by decide) rfl (Nat.le_of_ble_eq_true rfl) (Nat.le_of_ble_eq_true rfl) (Nat.le_of_ble_eq_true rfl) rfl (fun a39 => con_Md_letGo a39 x2) ?_
      exact r_vret C d_Md_connect_37 rfl
theorem d_Md_controls_0 : decode c_Md_controls 0 = .ok (.iload_n 3, 1) := by decide +kernel
theorem d_Md_controls_1 : decode c_Md_controls 1 = .ok (.iconst 1, 1) := by decide +kernel
theorem d_Md_controls_2 : decode c_Md_controls 2 = .ok (.iand, 1) := by decide +kernel
theorem d_Md_controls_3 : decode c_Md_controls 3 = .ok (.ifCond .ne 16, 3) := by decide +kernel
theorem d_Md_controls_6 : decode c_Md_controls 6 = .ok (.iload_n 1, 1) := by decide +kernel
theorem d_Md_controls_7 : decode c_Md_controls 7 = .ok (.iload_n 2, 1) := by decide +kernel
theorem d_Md_controls_8 : decode c_Md_controls 8 = .ok (.if_icmp .le 7, 3) := by decide +kernel
theorem d_Md_controls_11 : decode c_Md_controls 11 = .ok (.iconst 1, 1) := by decide +kernel
theorem d_Md_controls_12 : decode c_Md_controls 12 = .ok (.goto 17, 3) := by decide +kernel
theorem d_Md_controls_15 : decode c_Md_controls 15 = .ok (.iconst 0, 1) := by decide +kernel
theorem d_Md_controls_16 : decode c_Md_controls 16 = .ok (.goto 13, 3) := by decide +kernel
theorem d_Md_controls_19 : decode c_Md_controls 19 = .ok (.iload_n 1, 1) := by decide +kernel
theorem d_Md_controls_20 : decode c_Md_controls 20 = .ok (.iload_n 2, 1) := by decide +kernel
theorem d_Md_controls_21 : decode c_Md_controls 21 = .ok (.if_icmp .ge 7, 3) := by decide +kernel
theorem d_Md_controls_24 : decode c_Md_controls 24 = .ok (.iconst 1, 1) := by decide +kernel
theorem d_Md_controls_25 : decode c_Md_controls 25 = .ok (.goto 4, 3) := by decide +kernel
theorem d_Md_controls_28 : decode c_Md_controls 28 = .ok (.iconst 0, 1) := by decide +kernel
theorem d_Md_controls_29 : decode c_Md_controls 29 = .ok (.ireturn, 1) := by decide +kernel
def f_Md_controls_29 (a : Nat) (t0 : Int32) : sn_M := r_Z t0
set_option maxHeartbeats 4000000 in
set_option maxRecDepth 100000 in
theorem mono_Md_controls_29 (a : Nat) (t0 : Int32) : sn_Mono (f_Md_controls_29 a t0) := sn_Mono.rZ
set_option maxHeartbeats 4000000 in
set_option maxRecDepth 100000 in
theorem s_Md_controls_29 {X : sn_X} (C : sn_Cx X c_Md_controls "SignalNetworkModel" (some .boolean) "controls" 4 0 0) (a : Nat) (t0 : Int32) : sn_S X 29 [(0, vA (some a))] [vI t0] (f_Md_controls_29 a t0) := by
  unfold f_Md_controls_29
  exact r_zret C d_Md_controls_29 rfl
def f_Md_controls (a : Nat) (x1 : Int32) (x2 : Int32) (x3 : Int32) : sn_M := (if ¬ (x3 &&& (1 : Int32)) = 0 then (if x2 ≤ x1 then f_Md_controls_29 a (0 : Int32) else f_Md_controls_29 a (1 : Int32)) else (if x1 ≤ x2 then f_Md_controls_29 a (0 : Int32) else f_Md_controls_29 a (1 : Int32)))
set_option maxHeartbeats 4000000 in
set_option maxRecDepth 100000 in
theorem mono_Md_controls (a : Nat) (x1 : Int32) (x2 : Int32) (x3 : Int32) : sn_Mono (f_Md_controls a x1 x2 x3) := sn_Mono.ite (sn_Mono.ite (mono_Md_controls_29 a (0 : Int32)) (mono_Md_controls_29 a (1 : Int32))) (sn_Mono.ite (mono_Md_controls_29 a (0 : Int32)) (mono_Md_controls_29 a (1 : Int32)))
set_option maxHeartbeats 4000000 in
set_option maxRecDepth 100000 in
theorem con_Md_controls (a : Nat) (x1 : Int32) (x2 : Int32) (x3 : Int32) : sn_Con y_Md_controls c_Md_controls 4 (some .boolean) 0 0 [vA (some a), vI x1, vI x2, vI x3] (f_Md_controls a x1 x2 x3) := by
  refine sn_Con.of (by decide +kernel) (by show _ ≤ _; exact Nat.le_of_ble_eq_true rfl) (mono_Md_controls a x1 x2 x3) (fun X C => ?_)
  show sn_S X 0 [(0, vA (some a)), (1, vI x1), (2, vI x2), (3, vI x3)] [] _
  replace C : sn_Cx X c_Md_controls "SignalNetworkModel" (some .boolean) "controls" 4 0 0 := C
  unfold f_Md_controls
  refine r_iload_n (q := 1) (i := 3) (pl := 3) C d_Md_controls_0 rfl rfl rfl ?_
  refine r_iconst (q := 2) (v := 1) C d_Md_controls_1 rfl (by decide) ?_
  refine r_iand (q := 3) C d_Md_controls_2 rfl ?_
  refine r_if_ne (tgt := 19) (q := 6) C d_Md_controls_3 (by decide) rfl ?_ ?_
  · refine r_iload_n (q := 20) (i := 1) (pl := 1) C d_Md_controls_19 rfl rfl rfl ?_
    refine r_iload_n (q := 21) (i := 2) (pl := 2) C d_Md_controls_20 rfl rfl rfl ?_
    refine r_icmp_ge (tgt := 28) (q := 24) C d_Md_controls_21 (by decide) rfl ?_ ?_
    · refine r_iconst (q := 29) (v := 0) C d_Md_controls_28 rfl (by decide) ?_
      refine r_sub (lv' := [(0, vA (some a))]) [0] rfl ?_
      exact s_Md_controls_29 C a (0 : Int32)
    · refine r_iconst (q := 25) (v := 1) C d_Md_controls_24 rfl (by decide) ?_
      refine r_goto (tgt := 29) C d_Md_controls_25 (by decide) ?_
      refine r_sub (lv' := [(0, vA (some a))]) [0] rfl ?_
      exact s_Md_controls_29 C a (1 : Int32)
  · refine r_iload_n (q := 7) (i := 1) (pl := 1) C d_Md_controls_6 rfl rfl rfl ?_
    refine r_iload_n (q := 8) (i := 2) (pl := 2) C d_Md_controls_7 rfl rfl rfl ?_
    refine r_icmp_le (tgt := 15) (q := 11) C d_Md_controls_8 (by decide) rfl ?_ ?_
    · refine r_iconst (q := 16) (v := 0) C d_Md_controls_15 rfl (by decide) ?_
      refine r_goto (tgt := 29) C d_Md_controls_16 (by decide) ?_
      refine r_sub (lv' := [(0, vA (some a))]) [0] rfl ?_
      exact s_Md_controls_29 C a (0 : Int32)
    · refine r_iconst (q := 12) (v := 1) C d_Md_controls_11 rfl (by decide) ?_
      refine r_goto (tgt := 29) C d_Md_controls_12 (by decide) ?_
      refine r_sub (lv' := [(0, vA (some a))]) [0] rfl ?_
      exact s_Md_controls_29 C a (1 : Int32)
theorem d_Md_takeCall_0 : decode c_Md_takeCall 0 = .ok (.iload_n 2, 1) := by decide +kernel
theorem d_Md_takeCall_1 : decode c_Md_takeCall 1 = .ok (.bipush 63, 2) := by decide +kernel
theorem d_Md_takeCall_3 : decode c_Md_takeCall 3 = .ok (.iand, 1) := by decide +kernel
theorem d_Md_takeCall_4 : decode c_Md_takeCall 4 = .ok (.istore 4, 2) := by decide +kernel
theorem d_Md_takeCall_6 : decode c_Md_takeCall 6 = .ok (.aload_n 0, 1) := by decide +kernel
theorem d_Md_takeCall_7 : decode c_Md_takeCall 7 = .ok (.iload_n 1, 1) := by decide +kernel
theorem d_Md_takeCall_8 : decode c_Md_takeCall 8 = .ok (.iconst 4, 1) := by decide +kernel
theorem d_Md_takeCall_9 : decode c_Md_takeCall 9 = .ok (.iconst 0, 1) := by decide +kernel
theorem d_Md_takeCall_10 : decode c_Md_takeCall 10 = .ok (.iconst 0, 1) := by decide +kernel
theorem d_Md_takeCall_11 : decode c_Md_takeCall 11 = .ok (.invokevirtual 364, 3) := by decide +kernel
theorem d_Md_takeCall_14 : decode c_Md_takeCall 14 = .ok (.aload_n 0, 1) := by decide +kernel
theorem d_Md_takeCall_15 : decode c_Md_takeCall 15 = .ok (.getfield 174, 3) := by decide +kernel
theorem d_Md_takeCall_18 : decode c_Md_takeCall 18 = .ok (.iload_n 1, 1) := by decide +kernel
theorem d_Md_takeCall_19 : decode c_Md_takeCall 19 = .ok (.iload_n 2, 1) := by decide +kernel
theorem d_Md_takeCall_20 : decode c_Md_takeCall 20 = .ok (.bipush 6, 2) := by decide +kernel
theorem d_Md_takeCall_22 : decode c_Md_takeCall 22 = .ok (.ishr, 1) := by decide +kernel
theorem d_Md_takeCall_23 : decode c_Md_takeCall 23 = .ok (.iastore, 1) := by decide +kernel
theorem d_Md_takeCall_24 : decode c_Md_takeCall 24 = .ok (.aload_n 0, 1) := by decide +kernel
theorem d_Md_takeCall_25 : decode c_Md_takeCall 25 = .ok (.getfield 171, 3) := by decide +kernel
theorem d_Md_takeCall_28 : decode c_Md_takeCall 28 = .ok (.iload_n 1, 1) := by decide +kernel
theorem d_Md_takeCall_29 : decode c_Md_takeCall 29 = .ok (.iload_n 3, 1) := by decide +kernel
theorem d_Md_takeCall_30 : decode c_Md_takeCall 30 = .ok (.iastore, 1) := by decide +kernel
theorem d_Md_takeCall_31 : decode c_Md_takeCall 31 = .ok (.aload_n 0, 1) := by decide +kernel
theorem d_Md_takeCall_32 : decode c_Md_takeCall 32 = .ok (.getfield 168, 3) := by decide +kernel
theorem d_Md_takeCall_35 : decode c_Md_takeCall 35 = .ok (.iload_n 1, 1) := by decide +kernel
theorem d_Md_takeCall_36 : decode c_Md_takeCall 36 = .ok (.iload 4, 2) := by decide +kernel
theorem d_Md_takeCall_38 : decode c_Md_takeCall 38 = .ok (.iastore, 1) := by decide +kernel
theorem d_Md_takeCall_39 : decode c_Md_takeCall 39 = .ok (.aload_n 0, 1) := by decide +kernel
theorem d_Md_takeCall_40 : decode c_Md_takeCall 40 = .ok (.iload_n 1, 1) := by decide +kernel
theorem d_Md_takeCall_41 : decode c_Md_takeCall 41 = .ok (.bipush 24, 2) := by decide +kernel
theorem d_Md_takeCall_43 : decode c_Md_takeCall 43 = .ok (.idiv, 1) := by decide +kernel
theorem d_Md_takeCall_44 : decode c_Md_takeCall 44 = .ok (.bipush 100, 2) := by decide +kernel
theorem d_Md_takeCall_46 : decode c_Md_takeCall 46 = .ok (.iload_n 1, 1) := by decide +kernel
theorem d_Md_takeCall_47 : decode c_Md_takeCall 47 = .ok (.iadd, 1) := by decide +kernel
theorem d_Md_takeCall_48 : decode c_Md_takeCall 48 = .ok (.iload 4, 2) := by decide +kernel
theorem d_Md_takeCall_50 : decode c_Md_takeCall 50 = .ok (.invokevirtual 376, 3) := by decide +kernel
theorem d_Md_takeCall_53 : decode c_Md_takeCall 53 = .ok (.return_, 1) := by decide +kernel
def f_Md_takeCall (a : Nat) (x1 : Int32) (x2 : Int32) (x3 : Int32) : sn_M := n_I ((x2 &&& (63 : Int32))) fun n1 => n_n 12 (some a) fun a2 => c_V (f_Md_becomes a2 x1 (4 : Int32) (0 : Int32) (0 : Int32)) (g_R 12 60 (some a) fun v4 => b_I 31 v4 x1 (x2 >>> ((6 : Int32) &&& 31)) (g_R 12 59 (some a) fun v5 => b_I 31 v5 x1 x3 (g_R 12 58 (some a) fun v6 => b_I 31 v6 x1 n1 (n_n 12 (some a) fun a7 => c_V (f_Md_connect a7 (x1 / (24 : Int32)) ((100 : Int32) + x1) n1) (r_V)))))
set_option maxHeartbeats 4000000 in
set_option maxRecDepth 100000 in
theorem mono_Md_takeCall (a : Nat) (x1 : Int32) (x2 : Int32) (x3 : Int32) : sn_Mono (f_Md_takeCall a x1 x2 x3) := sn_Mono.nI (fun n1 => sn_Mono.nn (fun a2 => sn_Mono.cV (mono_Md_becomes a2 x1 (4 : Int32) (0 : Int32) (0 : Int32)) (sn_Mono.gR (fun v4 => sn_Mono.bI (sn_Mono.gR (fun v5 => sn_Mono.bI (sn_Mono.gR (fun v6 => sn_Mono.bI (sn_Mono.nn (fun a7 => sn_Mono.cV (mono_Md_connect a7 (x1 / (24 : Int32)) ((100 : Int32) + x1) n1) (sn_Mono.rV)))))))))))
set_option maxHeartbeats 4000000 in
set_option maxRecDepth 100000 in
theorem con_Md_takeCall (a : Nat) (x1 : Int32) (x2 : Int32) (x3 : Int32) : sn_Con y_Md_takeCall c_Md_takeCall 5 none 8 197 [vA (some a), vI x1, vI x2, vI x3] (f_Md_takeCall a x1 x2 x3) := by
  refine sn_Con.of (by decide +kernel) (by show _ ≤ _; exact Nat.le_of_ble_eq_true rfl) (mono_Md_takeCall a x1 x2 x3) (fun X C => ?_)
  show sn_S X 0 [(0, vA (some a)), (1, vI x1), (2, vI x2), (3, vI x3)] [] _
  replace C : sn_Cx X c_Md_takeCall "SignalNetworkModel" none "takeCall" 5 8 197 := C
  unfold f_Md_takeCall
  refine r_iload_n (q := 1) (i := 2) (pl := 2) C d_Md_takeCall_0 rfl rfl rfl ?_
  refine r_bipush (q := 3) (v := 63) C d_Md_takeCall_1 rfl (by decide) ?_
  refine r_iand (q := 4) C d_Md_takeCall_3 rfl ?_
  refine r_nI (fun n1 => ?_)
  refine r_istore (q := 6) (i := 4) (lv' := [(4, vI n1), (0, vA (some a)), (1, vI x1), (2, vI x2), (3, vI x3)]) C d_Md_takeCall_4 rfl (by decide) rfl ?_
  refine r_aload_n (q := 7) (i := 0) (pl := 1) C d_Md_takeCall_6 rfl rfl rfl ?_
  refine r_iload_n (q := 8) (i := 1) (pl := 2) C d_Md_takeCall_7 rfl rfl rfl ?_
  refine r_iconst (q := 9) (v := 4) C d_Md_takeCall_8 rfl (by decide) ?_
  refine r_iconst (q := 10) (v := 0) C d_Md_takeCall_9 rfl (by decide) ?_
  refine r_iconst (q := 11) (v := 0) C d_Md_takeCall_10 rfl (by decide) ?_
  refine r_cvV (q := 14) (As := [vI x1, vI (4 : Int32), vI (0 : Int32), vI (0 : Int32)]) (st := []) (cy := 11) C d_Md_takeCall_11 rfl Y_Md_becomes L_Md_364 I_Md_becomes Se_Md_becomes rfl (by decide) rfl (Nat.le_of_ble_eq_true rfl) (Nat.le_of_ble_eq_true rfl) (Nat.le_of_ble_eq_true rfl) rfl (fun a2 => con_Md_becomes a2 x1 (4 : Int32) (0 : Int32) (0 : Int32)) ?_
  refine r_aload_n (q := 15) (i := 0) (pl := 1) C d_Md_takeCall_14 rfl rfl rfl ?_
  refine r_gR (q := 18) C d_Md_takeCall_15 rfl F_Md_174 rfl (fun v4 => ?_)
  refine r_iload_n (q := 19) (i := 1) (pl := 2) C d_Md_takeCall_18 rfl rfl rfl ?_
  refine r_iload_n (q := 20) (i := 2) (pl := 3) C d_Md_takeCall_19 rfl rfl rfl ?_
  refine r_bipush (q := 22) (v := 6) C d_Md_takeCall_20 rfl (by decide) ?_
  refine r_ishr (q := 23) C d_Md_takeCall_22 rfl ?_
  refine r_bI (q := 24) C (Or.inr rfl) d_Md_takeCall_23 rfl ?_
  refine r_aload_n (q := 25) (i := 0) (pl := 1) C d_Md_takeCall_24 rfl rfl rfl ?_
  refine r_gR (q := 28) C d_Md_takeCall_25 rfl F_Md_171 rfl (fun v5 => ?_)
  refine r_iload_n (q := 29) (i := 1) (pl := 2) C d_Md_takeCall_28 rfl rfl rfl ?_
  refine r_iload_n (q := 30) (i := 3) (pl := 4) C d_Md_takeCall_29 rfl rfl rfl ?_
  refine r_bI (q := 31) C (Or.inr rfl) d_Md_takeCall_30 rfl ?_
  refine r_aload_n (q := 32) (i := 0) (pl := 1) C d_Md_takeCall_31 rfl rfl rfl ?_
  refine r_gR (q := 35) C d_Md_takeCall_32 rfl F_Md_168 rfl (fun v6 => ?_)
  refine r_iload_n (q := 36) (i := 1) (pl := 2) C d_Md_takeCall_35 rfl rfl rfl ?_
  refine r_iload (q := 38) (i := 4) (pl := 0) C d_Md_takeCall_36 rfl rfl ?_
  refine r_bI (q := 39) C (Or.inr rfl) d_Md_takeCall_38 rfl ?_
  refine r_aload_n (q := 40) (i := 0) (pl := 1) C d_Md_takeCall_39 rfl rfl rfl ?_
  refine r_iload_n (q := 41) (i := 1) (pl := 2) C d_Md_takeCall_40 rfl rfl rfl ?_
  refine r_bipush (q := 43) (v := 24) C d_Md_takeCall_41 rfl (by decide) ?_
  refine r_idivc (q := 44) C d_Md_takeCall_43 rfl (by decide) ?_
  refine r_bipush (q := 46) (v := 100) C d_Md_takeCall_44 rfl (by decide) ?_
  refine r_iload_n (q := 47) (i := 1) (pl := 2) C d_Md_takeCall_46 rfl rfl rfl ?_
  refine r_iadd (q := 48) C d_Md_takeCall_47 rfl ?_
  refine r_iload (q := 50) (i := 4) (pl := 0) C d_Md_takeCall_48 rfl rfl ?_
  refine r_cvV (q := 53) (As := [vI (x1 / (24 : Int32)), vI ((100 : Int32) + x1), vI n1]) (st := []) (cy := 11) C d_Md_takeCall_50 rfl Y_Md_connect L_Md_376 I_Md_connect Se_Md_connect rfl (by decide) rfl (Nat.le_of_ble_eq_true rfl) (Nat.le_of_ble_eq_true rfl) (Nat.le_of_ble_eq_true rfl) rfl (fun a7 => con_Md_connect a7 (x1 / (24 : Int32)) ((100 : Int32) + x1) n1) ?_
  exact r_vret C d_Md_takeCall_53 rfl
theorem d_Md_circuitGets_0 : decode c_Md_circuitGets 0 = .ok (.iload_n 3, 1) := by decide +kernel
theorem d_Md_circuitGets_1 : decode c_Md_circuitGets 1 = .ok (.iconst 3, 1) := by decide +kernel
theorem d_Md_circuitGets_2 : decode c_Md_circuitGets 2 = .ok (.iand, 1) := by decide +kernel
theorem d_Md_circuitGets_3 : decode c_Md_circuitGets 3 = .ok (.istore 6, 2) := by decide +kernel
theorem d_Md_circuitGets_5 : decode c_Md_circuitGets 5 = .ok (.iload_n 3, 1) := by decide +kernel
theorem d_Md_circuitGets_6 : decode c_Md_circuitGets 6 = .ok (.iconst 2, 1) := by decide +kernel
theorem d_Md_circuitGets_7 : decode c_Md_circuitGets 7 = .ok (.ishr, 1) := by decide +kernel
theorem d_Md_circuitGets_8 : decode c_Md_circuitGets 8 = .ok (.istore 7, 2) := by decide +kernel
theorem d_Md_circuitGets_10 : decode c_Md_circuitGets 10 = .ok (.aload_n 0, 1) := by decide +kernel
theorem d_Md_circuitGets_11 : decode c_Md_circuitGets 11 = .ok (.iload_n 1, 1) := by decide +kernel
theorem d_Md_circuitGets_12 : decode c_Md_circuitGets 12 = .ok (.iload_n 2, 1) := by decide +kernel
theorem d_Md_circuitGets_13 : decode c_Md_circuitGets 13 = .ok (.iload 6, 2) := by decide +kernel
theorem d_Md_circuitGets_15 : decode c_Md_circuitGets 15 = .ok (.invokevirtual 212, 3) := by decide +kernel
theorem d_Md_circuitGets_18 : decode c_Md_circuitGets 18 = .ok (.istore 8, 2) := by decide +kernel
theorem d_Md_circuitGets_20 : decode c_Md_circuitGets 20 = .ok (.iload 7, 2) := by decide +kernel
theorem d_Md_circuitGets_22 : decode c_Md_circuitGets 22 = .ok (.aload_n 0, 1) := by decide +kernel
theorem d_Md_circuitGets_23 : decode c_Md_circuitGets 23 = .ok (.getfield 171, 3) := by decide +kernel
theorem d_Md_circuitGets_26 : decode c_Md_circuitGets 26 = .ok (.iload 8, 2) := by decide +kernel
theorem d_Md_circuitGets_28 : decode c_Md_circuitGets 28 = .ok (.iaload, 1) := by decide +kernel
theorem d_Md_circuitGets_29 : decode c_Md_circuitGets 29 = .ok (.if_icmp .ne 7, 3) := by decide +kernel
theorem d_Md_circuitGets_32 : decode c_Md_circuitGets 32 = .ok (.iconst 1, 1) := by decide +kernel
theorem d_Md_circuitGets_33 : decode c_Md_circuitGets 33 = .ok (.goto 4, 3) := by decide +kernel
theorem d_Md_circuitGets_36 : decode c_Md_circuitGets 36 = .ok (.iconst 0, 1) := by decide +kernel
theorem d_Md_circuitGets_37 : decode c_Md_circuitGets 37 = .ok (.istore 9, 2) := by decide +kernel
theorem d_Md_circuitGets_39 : decode c_Md_circuitGets 39 = .ok (.aload_n 0, 1) := by decide +kernel
theorem d_Md_circuitGets_40 : decode c_Md_circuitGets 40 = .ok (.getfield 150, 3) := by decide +kernel
theorem d_Md_circuitGets_43 : decode c_Md_circuitGets 43 = .ok (.iload 8, 2) := by decide +kernel
theorem d_Md_circuitGets_45 : decode c_Md_circuitGets 45 = .ok (.iaload, 1) := by decide +kernel
theorem d_Md_circuitGets_46 : decode c_Md_circuitGets 46 = .ok (.istore 10, 2) := by decide +kernel
theorem d_Md_circuitGets_48 : decode c_Md_circuitGets 48 = .ok (.aload_n 0, 1) := by decide +kernel
theorem d_Md_circuitGets_49 : decode c_Md_circuitGets 49 = .ok (.getfield 165, 3) := by decide +kernel
theorem d_Md_circuitGets_52 : decode c_Md_circuitGets 52 = .ok (.iload 8, 2) := by decide +kernel
theorem d_Md_circuitGets_54 : decode c_Md_circuitGets 54 = .ok (.iaload, 1) := by decide +kernel
theorem d_Md_circuitGets_55 : decode c_Md_circuitGets 55 = .ok (.istore 11, 2) := by decide +kernel
theorem d_Md_circuitGets_57 : decode c_Md_circuitGets 57 = .ok (.iload 10, 2) := by decide +kernel
theorem d_Md_circuitGets_59 : decode c_Md_circuitGets 59 = .ok (.iconst 1, 1) := by decide +kernel
theorem d_Md_circuitGets_60 : decode c_Md_circuitGets 60 = .ok (.if_icmp .lt 14, 3) := by decide +kernel
theorem d_Md_circuitGets_63 : decode c_Md_circuitGets 63 = .ok (.iload 10, 2) := by decide +kernel
theorem d_Md_circuitGets_65 : decode c_Md_circuitGets 65 = .ok (.bipush 6, 2) := by decide +kernel
theorem d_Md_circuitGets_67 : decode c_Md_circuitGets 67 = .ok (.if_icmp .gt 7, 3) := by decide +kernel
theorem d_Md_circuitGets_70 : decode c_Md_circuitGets 70 = .ok (.iconst 1, 1) := by decide +kernel
theorem d_Md_circuitGets_71 : decode c_Md_circuitGets 71 = .ok (.goto 4, 3) := by decide +kernel
theorem d_Md_circuitGets_74 : decode c_Md_circuitGets 74 = .ok (.iconst 0, 1) := by decide +kernel
theorem d_Md_circuitGets_75 : decode c_Md_circuitGets 75 = .ok (.istore 12, 2) := by decide +kernel
theorem d_Md_circuitGets_77 : decode c_Md_circuitGets 77 = .ok (.iload 4, 2) := by decide +kernel
theorem d_Md_circuitGets_79 : decode c_Md_circuitGets 79 = .ok (.tableswitch 327 7 14 #[45, 126, 126, 213, 281, 213, 305, 305], 45) := by decide +kernel
theorem d_Md_circuitGets_124 : decode c_Md_circuitGets 124 = .ok (.iload 10, 2) := by decide +kernel
theorem d_Md_circuitGets_126 : decode c_Md_circuitGets 126 = .ok (.ifCond .ne 16, 3) := by decide +kernel
theorem d_Md_circuitGets_129 : decode c_Md_circuitGets 129 = .ok (.aload_n 0, 1) := by decide +kernel
theorem d_Md_circuitGets_130 : decode c_Md_circuitGets 130 = .ok (.iload 8, 2) := by decide +kernel
theorem d_Md_circuitGets_132 : decode c_Md_circuitGets 132 = .ok (.iload 5, 2) := by decide +kernel
theorem d_Md_circuitGets_134 : decode c_Md_circuitGets 134 = .ok (.iload 7, 2) := by decide +kernel
theorem d_Md_circuitGets_136 : decode c_Md_circuitGets 136 = .ok (.invokevirtual 379, 3) := by decide +kernel
theorem d_Md_circuitGets_139 : decode c_Md_circuitGets 139 = .ok (.goto 267, 3) := by decide +kernel
theorem d_Md_circuitGets_142 : decode c_Md_circuitGets 142 = .ok (.iload 10, 2) := by decide +kernel
theorem d_Md_circuitGets_144 : decode c_Md_circuitGets 144 = .ok (.iconst 1, 1) := by decide +kernel
theorem d_Md_circuitGets_145 : decode c_Md_circuitGets 145 = .ok (.if_icmp .ne 261, 3) := by decide +kernel
theorem d_Md_circuitGets_148 : decode c_Md_circuitGets 148 = .ok (.aload_n 0, 1) := by decide +kernel
theorem d_Md_circuitGets_149 : decode c_Md_circuitGets 149 = .ok (.iload_n 1, 1) := by decide +kernel
theorem d_Md_circuitGets_150 : decode c_Md_circuitGets 150 = .ok (.iload_n 2, 1) := by decide +kernel
theorem d_Md_circuitGets_151 : decode c_Md_circuitGets 151 = .ok (.iload 6, 2) := by decide +kernel
theorem d_Md_circuitGets_153 : decode c_Md_circuitGets 153 = .ok (.invokevirtual 382, 3) := by decide +kernel
theorem d_Md_circuitGets_156 : decode c_Md_circuitGets 156 = .ok (.ifCond .ne 250, 3) := by decide +kernel
theorem d_Md_circuitGets_159 : decode c_Md_circuitGets 159 = .ok (.aload_n 0, 1) := by decide +kernel
theorem d_Md_circuitGets_160 : decode c_Md_circuitGets 160 = .ok (.getfield 168, 3) := by decide +kernel
theorem d_Md_circuitGets_163 : decode c_Md_circuitGets 163 = .ok (.iload 8, 2) := by decide +kernel
theorem d_Md_circuitGets_165 : decode c_Md_circuitGets 165 = .ok (.iaload, 1) := by decide +kernel
theorem d_Md_circuitGets_166 : decode c_Md_circuitGets 166 = .ok (.istore 13, 2) := by decide +kernel
theorem d_Md_circuitGets_168 : decode c_Md_circuitGets 168 = .ok (.aload_n 0, 1) := by decide +kernel
theorem d_Md_circuitGets_169 : decode c_Md_circuitGets 169 = .ok (.bipush 100, 2) := by decide +kernel
theorem d_Md_circuitGets_171 : decode c_Md_circuitGets 171 = .ok (.iload 8, 2) := by decide +kernel
theorem d_Md_circuitGets_173 : decode c_Md_circuitGets 173 = .ok (.iadd, 1) := by decide +kernel
theorem d_Md_circuitGets_174 : decode c_Md_circuitGets 174 = .ok (.invokevirtual 358, 3) := by decide +kernel
theorem d_Md_circuitGets_177 : decode c_Md_circuitGets 177 = .ok (.aload_n 0, 1) := by decide +kernel
theorem d_Md_circuitGets_178 : decode c_Md_circuitGets 178 = .ok (.iload 8, 2) := by decide +kernel
theorem d_Md_circuitGets_180 : decode c_Md_circuitGets 180 = .ok (.iload 5, 2) := by decide +kernel
theorem d_Md_circuitGets_182 : decode c_Md_circuitGets 182 = .ok (.iload 7, 2) := by decide +kernel
theorem d_Md_circuitGets_184 : decode c_Md_circuitGets 184 = .ok (.invokevirtual 379, 3) := by decide +kernel
theorem d_Md_circuitGets_187 : decode c_Md_circuitGets 187 = .ok (.iload 11, 2) := by decide +kernel
theorem d_Md_circuitGets_189 : decode c_Md_circuitGets 189 = .ok (.iconst (-1), 1) := by decide +kernel
theorem d_Md_circuitGets_190 : decode c_Md_circuitGets 190 = .ok (.if_icmp .eq 12, 3) := by decide +kernel
theorem d_Md_circuitGets_193 : decode c_Md_circuitGets 193 = .ok (.aload_n 0, 1) := by decide +kernel
theorem d_Md_circuitGets_194 : decode c_Md_circuitGets 194 = .ok (.iload_n 1, 1) := by decide +kernel
theorem d_Md_circuitGets_195 : decode c_Md_circuitGets 195 = .ok (.iload 11, 2) := by decide +kernel
theorem d_Md_circuitGets_197 : decode c_Md_circuitGets 197 = .ok (.iload 13, 2) := by decide +kernel
theorem d_Md_circuitGets_199 : decode c_Md_circuitGets 199 = .ok (.invokevirtual 376, 3) := by decide +kernel
theorem d_Md_circuitGets_202 : decode c_Md_circuitGets 202 = .ok (.goto 204, 3) := by decide +kernel
theorem d_Md_circuitGets_205 : decode c_Md_circuitGets 205 = .ok (.iload 10, 2) := by decide +kernel
theorem d_Md_circuitGets_207 : decode c_Md_circuitGets 207 = .ok (.iload 4, 2) := by decide +kernel
theorem d_Md_circuitGets_209 : decode c_Md_circuitGets 209 = .ok (.bipush 7, 2) := by decide +kernel
theorem d_Md_circuitGets_211 : decode c_Md_circuitGets 211 = .ok (.isub, 1) := by decide +kernel
theorem d_Md_circuitGets_212 : decode c_Md_circuitGets 212 = .ok (.if_icmp .ne 43, 3) := by decide +kernel
theorem d_Md_circuitGets_215 : decode c_Md_circuitGets 215 = .ok (.iload 9, 2) := by decide +kernel
theorem d_Md_circuitGets_217 : decode c_Md_circuitGets 217 = .ok (.ifCond .eq 38, 3) := by decide +kernel
theorem d_Md_circuitGets_220 : decode c_Md_circuitGets 220 = .ok (.aload_n 0, 1) := by decide +kernel
theorem d_Md_circuitGets_221 : decode c_Md_circuitGets 221 = .ok (.iload 8, 2) := by decide +kernel
theorem d_Md_circuitGets_223 : decode c_Md_circuitGets 223 = .ok (.iload 10, 2) := by decide +kernel
theorem d_Md_circuitGets_225 : decode c_Md_circuitGets 225 = .ok (.iconst 1, 1) := by decide +kernel
theorem d_Md_circuitGets_226 : decode c_Md_circuitGets 226 = .ok (.iadd, 1) := by decide +kernel
theorem d_Md_circuitGets_227 : decode c_Md_circuitGets 227 = .ok (.iload 4, 2) := by decide +kernel
theorem d_Md_circuitGets_229 : decode c_Md_circuitGets 229 = .ok (.bipush 8, 2) := by decide +kernel
theorem d_Md_circuitGets_231 : decode c_Md_circuitGets 231 = .ok (.if_icmp .ne 8, 3) := by decide +kernel
theorem d_Md_circuitGets_234 : decode c_Md_circuitGets 234 = .ok (.bipush 60, 2) := by decide +kernel
theorem d_Md_circuitGets_236 : decode c_Md_circuitGets 236 = .ok (.goto 4, 3) := by decide +kernel
theorem d_Md_circuitGets_239 : decode c_Md_circuitGets 239 = .ok (.iconst 0, 1) := by decide +kernel
theorem d_Md_circuitGets_240 : decode c_Md_circuitGets 240 = .ok (.iconst 0, 1) := by decide +kernel
theorem d_Md_circuitGets_241 : decode c_Md_circuitGets 241 = .ok (.invokevirtual 364, 3) := by decide +kernel
theorem d_Md_circuitGets_244 : decode c_Md_circuitGets 244 = .ok (.aload_n 0, 1) := by decide +kernel
theorem d_Md_circuitGets_245 : decode c_Md_circuitGets 245 = .ok (.iload 11, 2) := by decide +kernel
theorem d_Md_circuitGets_247 : decode c_Md_circuitGets 247 = .ok (.iload 4, 2) := by decide +kernel
theorem d_Md_circuitGets_249 : decode c_Md_circuitGets 249 = .ok (.invokevirtual 373, 3) := by decide +kernel
theorem d_Md_circuitGets_252 : decode c_Md_circuitGets 252 = .ok (.goto 154, 3) := by decide +kernel
theorem d_Md_circuitGets_255 : decode c_Md_circuitGets 255 = .ok (.iload 10, 2) := by decide +kernel
theorem d_Md_circuitGets_257 : decode c_Md_circuitGets 257 = .ok (.ifCond .ne 149, 3) := by decide +kernel
theorem d_Md_circuitGets_260 : decode c_Md_circuitGets 260 = .ok (.aload_n 0, 1) := by decide +kernel
theorem d_Md_circuitGets_261 : decode c_Md_circuitGets 261 = .ok (.getfield 171, 3) := by decide +kernel
theorem d_Md_circuitGets_264 : decode c_Md_circuitGets 264 = .ok (.iload 8, 2) := by decide +kernel
theorem d_Md_circuitGets_266 : decode c_Md_circuitGets 266 = .ok (.iload 7, 2) := by decide +kernel
theorem d_Md_circuitGets_268 : decode c_Md_circuitGets 268 = .ok (.iastore, 1) := by decide +kernel
theorem d_Md_circuitGets_269 : decode c_Md_circuitGets 269 = .ok (.aload_n 0, 1) := by decide +kernel
theorem d_Md_circuitGets_270 : decode c_Md_circuitGets 270 = .ok (.iload 8, 2) := by decide +kernel
theorem d_Md_circuitGets_272 : decode c_Md_circuitGets 272 = .ok (.bipush 12, 2) := by decide +kernel
theorem d_Md_circuitGets_274 : decode c_Md_circuitGets 274 = .ok (.iconst 0, 1) := by decide +kernel
theorem d_Md_circuitGets_275 : decode c_Md_circuitGets 275 = .ok (.invokevirtual 361, 3) := by decide +kernel
theorem d_Md_circuitGets_278 : decode c_Md_circuitGets 278 = .ok (.aload_n 0, 1) := by decide +kernel
theorem d_Md_circuitGets_279 : decode c_Md_circuitGets 279 = .ok (.iload 8, 2) := by decide +kernel
theorem d_Md_circuitGets_281 : decode c_Md_circuitGets 281 = .ok (.bipush 8, 2) := by decide +kernel
theorem d_Md_circuitGets_283 : decode c_Md_circuitGets 283 = .ok (.bipush 30, 2) := by decide +kernel
theorem d_Md_circuitGets_285 : decode c_Md_circuitGets 285 = .ok (.iconst 0, 1) := by decide +kernel
theorem d_Md_circuitGets_286 : decode c_Md_circuitGets 286 = .ok (.invokevirtual 364, 3) := by decide +kernel
theorem d_Md_circuitGets_289 : decode c_Md_circuitGets 289 = .ok (.goto 117, 3) := by decide +kernel
theorem d_Md_circuitGets_292 : decode c_Md_circuitGets 292 = .ok (.aload_n 0, 1) := by decide +kernel
theorem d_Md_circuitGets_293 : decode c_Md_circuitGets 293 = .ok (.iload 8, 2) := by decide +kernel
theorem d_Md_circuitGets_295 : decode c_Md_circuitGets 295 = .ok (.bipush 11, 2) := by decide +kernel
theorem d_Md_circuitGets_297 : decode c_Md_circuitGets 297 = .ok (.iload 7, 2) := by decide +kernel
theorem d_Md_circuitGets_299 : decode c_Md_circuitGets 299 = .ok (.iconst 0, 1) := by decide +kernel
theorem d_Md_circuitGets_300 : decode c_Md_circuitGets 300 = .ok (.invokevirtual 349, 3) := by decide +kernel
theorem d_Md_circuitGets_303 : decode c_Md_circuitGets 303 = .ok (.iload 9, 2) := by decide +kernel
theorem d_Md_circuitGets_305 : decode c_Md_circuitGets 305 = .ok (.ifCond .ne 6, 3) := by decide +kernel
theorem d_Md_circuitGets_308 : decode c_Md_circuitGets 308 = .ok (.goto 98, 3) := by decide +kernel
theorem d_Md_circuitGets_311 : decode c_Md_circuitGets 311 = .ok (.iload 12, 2) := by decide +kernel
theorem d_Md_circuitGets_313 : decode c_Md_circuitGets 313 = .ok (.ifCond .eq 12, 3) := by decide +kernel
theorem d_Md_circuitGets_316 : decode c_Md_circuitGets 316 = .ok (.aload_n 0, 1) := by decide +kernel
theorem d_Md_circuitGets_317 : decode c_Md_circuitGets 317 = .ok (.bipush 100, 2) := by decide +kernel
theorem d_Md_circuitGets_319 : decode c_Md_circuitGets 319 = .ok (.iload 8, 2) := by decide +kernel
theorem d_Md_circuitGets_321 : decode c_Md_circuitGets 321 = .ok (.iadd, 1) := by decide +kernel
theorem d_Md_circuitGets_322 : decode c_Md_circuitGets 322 = .ok (.invokevirtual 358, 3) := by decide +kernel
theorem d_Md_circuitGets_325 : decode c_Md_circuitGets 325 = .ok (.iload 12, 2) := by decide +kernel
theorem d_Md_circuitGets_327 : decode c_Md_circuitGets 327 = .ok (.ifCond .ne 10, 3) := by decide +kernel
theorem d_Md_circuitGets_330 : decode c_Md_circuitGets 330 = .ok (.iload 4, 2) := by decide +kernel
theorem d_Md_circuitGets_332 : decode c_Md_circuitGets 332 = .ok (.bipush 12, 2) := by decide +kernel
theorem d_Md_circuitGets_334 : decode c_Md_circuitGets 334 = .ok (.if_icmp .ne 12, 3) := by decide +kernel
theorem d_Md_circuitGets_337 : decode c_Md_circuitGets 337 = .ok (.aload_n 0, 1) := by decide +kernel
theorem d_Md_circuitGets_338 : decode c_Md_circuitGets 338 = .ok (.iload 8, 2) := by decide +kernel
theorem d_Md_circuitGets_340 : decode c_Md_circuitGets 340 = .ok (.iconst 0, 1) := by decide +kernel
theorem d_Md_circuitGets_341 : decode c_Md_circuitGets 341 = .ok (.iconst 0, 1) := by decide +kernel
theorem d_Md_circuitGets_342 : decode c_Md_circuitGets 342 = .ok (.iconst 0, 1) := by decide +kernel
theorem d_Md_circuitGets_343 : decode c_Md_circuitGets 343 = .ok (.invokevirtual 364, 3) := by decide +kernel
theorem d_Md_circuitGets_346 : decode c_Md_circuitGets 346 = .ok (.iload 12, 2) := by decide +kernel
theorem d_Md_circuitGets_348 : decode c_Md_circuitGets 348 = .ok (.ifCond .eq 58, 3) := by decide +kernel
theorem d_Md_circuitGets_351 : decode c_Md_circuitGets 351 = .ok (.aload_n 0, 1) := by decide +kernel
theorem d_Md_circuitGets_352 : decode c_Md_circuitGets 352 = .ok (.iload 11, 2) := by decide +kernel
theorem d_Md_circuitGets_354 : decode c_Md_circuitGets 354 = .ok (.invokevirtual 367, 3) := by decide +kernel
theorem d_Md_circuitGets_357 : decode c_Md_circuitGets 357 = .ok (.goto 49, 3) := by decide +kernel
theorem d_Md_circuitGets_360 : decode c_Md_circuitGets 360 = .ok (.iload 10, 2) := by decide +kernel
theorem d_Md_circuitGets_362 : decode c_Md_circuitGets 362 = .ok (.bipush 7, 2) := by decide +kernel
theorem d_Md_circuitGets_364 : decode c_Md_circuitGets 364 = .ok (.if_icmp .lt 42, 3) := by decide +kernel
theorem d_Md_circuitGets_367 : decode c_Md_circuitGets 367 = .ok (.iload 9, 2) := by decide +kernel
theorem d_Md_circuitGets_369 : decode c_Md_circuitGets 369 = .ok (.ifCond .eq 37, 3) := by decide +kernel
theorem d_Md_circuitGets_372 : decode c_Md_circuitGets 372 = .ok (.aload_n 0, 1) := by decide +kernel
theorem d_Md_circuitGets_373 : decode c_Md_circuitGets 373 = .ok (.iload 8, 2) := by decide +kernel
theorem d_Md_circuitGets_375 : decode c_Md_circuitGets 375 = .ok (.iconst 0, 1) := by decide +kernel
theorem d_Md_circuitGets_376 : decode c_Md_circuitGets 376 = .ok (.iconst 0, 1) := by decide +kernel
theorem d_Md_circuitGets_377 : decode c_Md_circuitGets 377 = .ok (.iconst 0, 1) := by decide +kernel
theorem d_Md_circuitGets_378 : decode c_Md_circuitGets 378 = .ok (.invokevirtual 364, 3) := by decide +kernel
theorem d_Md_circuitGets_381 : decode c_Md_circuitGets 381 = .ok (.goto 25, 3) := by decide +kernel
theorem d_Md_circuitGets_384 : decode c_Md_circuitGets 384 = .ok (.aload_n 0, 1) := by decide +kernel
theorem d_Md_circuitGets_385 : decode c_Md_circuitGets 385 = .ok (.getfield 162, 3) := by decide +kernel
theorem d_Md_circuitGets_388 : decode c_Md_circuitGets 388 = .ok (.iload 8, 2) := by decide +kernel
theorem d_Md_circuitGets_390 : decode c_Md_circuitGets 390 = .ok (.iload 4, 2) := by decide +kernel
theorem d_Md_circuitGets_392 : decode c_Md_circuitGets 392 = .ok (.bipush 13, 2) := by decide +kernel
theorem d_Md_circuitGets_394 : decode c_Md_circuitGets 394 = .ok (.if_icmp .ne 7, 3) := by decide +kernel
theorem d_Md_circuitGets_397 : decode c_Md_circuitGets 397 = .ok (.iconst 1, 1) := by decide +kernel
theorem d_Md_circuitGets_398 : decode c_Md_circuitGets 398 = .ok (.goto 4, 3) := by decide +kernel
theorem d_Md_circuitGets_401 : decode c_Md_circuitGets 401 = .ok (.iconst 0, 1) := by decide +kernel
theorem d_Md_circuitGets_402 : decode c_Md_circuitGets 402 = .ok (.bastore, 1) := by decide +kernel
theorem d_Md_circuitGets_403 : decode c_Md_circuitGets 403 = .ok (.goto 3, 3) := by decide +kernel
theorem d_Md_circuitGets_406 : decode c_Md_circuitGets 406 = .ok (.return_, 1) := by decide +kernel
def f_Md_circuitGets_406 (a : Nat) : sn_M := r_V
set_option maxHeartbeats 4000000 in
set_option maxRecDepth 100000 in
theorem mono_Md_circuitGets_406 (a : Nat) : sn_Mono (f_Md_circuitGets_406 a) := sn_Mono.rV
set_option maxHeartbeats 4000000 in
set_option maxRecDepth 100000 in
theorem s_Md_circuitGets_406 {X : sn_X} (C : sn_Cx X c_Md_circuitGets "SignalNetworkModel" none "circuitGets" 14 9 221) (a : Nat) : sn_S X 406 [(0, vA (some a))] [] (f_Md_circuitGets_406 a) := by
  unfold f_Md_circuitGets_406
  exact r_vret C d_Md_circuitGets_406 rfl
def f_Md_circuitGets_255 (a : Nat) (x7 : Int32) (x8 : Int32) (x10 : Int32) : sn_M := (if ¬ x10 = 0 then f_Md_circuitGets_406 a else g_R 12 59 (some a) fun v1 => b_I 31 v1 x8 x7 (n_n 12 (some a) fun a2 => c_V (f_Md_say a2 x8 (12 : Int32) (0 : Int32)) (n_n 12 (some a) fun a4 => c_V (f_Md_becomes a4 x8 (8 : Int32) (30 : Int32) (0 : Int32)) (f_Md_circuitGets_406 a))))
set_option maxHeartbeats 4000000 in
set_option maxRecDepth 100000 in
theorem mono_Md_circuitGets_255 (a : Nat) (x7 : Int32) (x8 : Int32) (x10 : Int32) : sn_Mono (f_Md_circuitGets_255 a x7 x8 x10) := sn_Mono.ite (mono_Md_circuitGets_406 a) (sn_Mono.gR (fun v1 => sn_Mono.bI (sn_Mono.nn (fun a2 => sn_Mono.cV (mono_Md_say a2 x8 (12 : Int32) (0 : Int32)) (sn_Mono.nn (fun a4 => sn_Mono.cV (mono_Md_becomes a4 x8 (8 : Int32) (30 : Int32) (0 : Int32)) (mono_Md_circuitGets_406 a)))))))
set_option maxHeartbeats 4000000 in
set_option maxRecDepth 100000 in
theorem s_Md_circuitGets_255 {X : sn_X} (C : sn_Cx X c_Md_circuitGets "SignalNetworkModel" none "circuitGets" 14 9 221) (a : Nat) (x7 : Int32) (x8 : Int32) (x10 : Int32) : sn_S X 255 [(0, vA (some a)), (7, vI x7), (8, vI x8), (10, vI x10)] [] (f_Md_circuitGets_255 a x7 x8 x10) := by
  unfold f_Md_circuitGets_255
  refine r_iload (q := 257) (i := 10) (pl := 3) C d_Md_circuitGets_255 rfl rfl ?_
  refine r_if_ne (tgt := 406) (q := 260) C d_Md_circuitGets_257 (by decide) rfl ?_ ?_
  · refine r_sub (lv' := [(0, vA (some a))]) [0] rfl ?_
    exact s_Md_circuitGets_406 C a
  · refine r_aload_n (q := 261) (i := 0) (pl := 0) C d_Md_circuitGets_260 rfl rfl rfl ?_
    refine r_gR (q := 264) C d_Md_circuitGets_261 rfl F_Md_171 rfl (fun v1 => ?_)
    refine r_iload (q := 266) (i := 8) (pl := 2) C d_Md_circuitGets_264 rfl rfl ?_
    refine r_iload (q := 268) (i := 7) (pl := 1) C d_Md_circuitGets_266 rfl rfl ?_
    refine r_bI (q := 269) C (Or.inr rfl) d_Md_circuitGets_268 rfl ?_
    refine r_aload_n (q := 270) (i := 0) (pl := 0) C d_Md_circuitGets_269 rfl rfl rfl ?_
    refine r_iload (q := 272) (i := 8) (pl := 2) C d_Md_circuitGets_270 rfl rfl ?_
    refine r_bipush (q := 274) (v := 12) C d_Md_circuitGets_272 rfl (by decide) ?_
    refine r_iconst (q := 275) (v := 0) C d_Md_circuitGets_274 rfl (by decide) ?_
    refine r_cvV (q := 278) (As := [vI x8, vI (12 : Int32), vI (0 : Int32)]) (st := []) (cy := 11) C d_Md_circuitGets_275 rfl Y_Md_say L_Md_361 I_Md_say Se_Md_say rfl (by decide) rfl (Nat.le_of_ble_eq_true rfl) (Nat.le_of_ble_eq_true rfl) (Nat.le_of_ble_eq_true rfl) rfl (fun a2 => con_Md_say a2 x8 (12 : Int32) (0 : Int32)) ?_
    refine r_aload_n (q := 279) (i := 0) (pl := 0) C d_Md_circuitGets_278 rfl rfl rfl ?_
    refine r_iload (q := 281) (i := 8) (pl := 2) C d_Md_circuitGets_279 rfl rfl ?_
    refine r_bipush (q := 283) (v := 8) C d_Md_circuitGets_281 rfl (by decide) ?_
    refine r_bipush (q := 285) (v := 30) C d_Md_circuitGets_283 rfl (by decide) ?_
    refine r_iconst (q := 286) (v := 0) C d_Md_circuitGets_285 rfl (by decide) ?_
    refine r_cvV (q := 289) (As := [vI x8, vI (8 : Int32), vI (30 : Int32), vI (0 : Int32)]) (st := []) (cy := 11) C d_Md_circuitGets_286 rfl Y_Md_becomes L_Md_364 I_Md_becomes Se_Md_becomes rfl (by decide) rfl (Nat.le_of_ble_eq_true rfl) (Nat.le_of_ble_eq_true rfl) (Nat.le_of_ble_eq_true rfl) rfl (fun a4 => con_Md_becomes a4 x8 (8 : Int32) (30 : Int32) (0 : Int32)) ?_
    refine r_goto (tgt := 406) C d_Md_circuitGets_289 (by decide) ?_
    refine r_sub (lv' := [(0, vA (some a))]) [0] rfl ?_
    exact s_Md_circuitGets_406 C a
def f_Md_circuitGets_240 (a : Nat) (x4 : Int32) (x11 : Int32) (t0 : Option Nat) (t1 : Int32) (t2 : Int32) (t3 : Int32) : sn_M := n_n 12 t0 fun a6 => c_V (f_Md_becomes a6 t1 t2 t3 (0 : Int32)) (n_n 12 (some a) fun a8 => c_V (f_Md_back a8 x11 x4) (f_Md_circuitGets_406 a))
set_option maxHeartbeats 4000000 in
set_option maxRecDepth 100000 in
theorem mono_Md_circuitGets_240 (a : Nat) (x4 : Int32) (x11 : Int32) (t0 : Option Nat) (t1 : Int32) (t2 : Int32) (t3 : Int32) : sn_Mono (f_Md_circuitGets_240 a x4 x11 t0 t1 t2 t3) := sn_Mono.nn (fun a6 => sn_Mono.cV (mono_Md_becomes a6 t1 t2 t3 (0 : Int32)) (sn_Mono.nn (fun a8 => sn_Mono.cV (mono_Md_back a8 x11 x4) (mono_Md_circuitGets_406 a))))
set_option maxHeartbeats 4000000 in
set_option maxRecDepth 100000 in
theorem s_Md_circuitGets_240 {X : sn_X} (C : sn_Cx X c_Md_circuitGets "SignalNetworkModel" none "circuitGets" 14 9 221) (a : Nat) (x4 : Int32) (x11 : Int32) (t0 : Option Nat) (t1 : Int32) (t2 : Int32) (t3 : Int32) : sn_S X 240 [(0, vA (some a)), (4, vI x4), (11, vI x11)] [vI t3, vI t2, vI t1, vA t0] (f_Md_circuitGets_240 a x4 x11 t0 t1 t2 t3) := by
  unfold f_Md_circuitGets_240
  refine r_iconst (q := 241) (v := 0) C d_Md_circuitGets_240 rfl (by decide) ?_
  refine r_cvV (q := 244) (As := [vI t1, vI t2, vI t3, vI (0 : Int32)]) (st := []) (cy := 11) C d_Md_circuitGets_241 rfl Y_Md_becomes L_Md_364 I_Md_becomes Se_Md_becomes rfl (by decide) rfl (Nat.le_of_ble_eq_true rfl) (Nat.le_of_ble_eq_true rfl) (Nat.le_of_ble_eq_true rfl) rfl (fun a6 => con_Md_becomes a6 t1 t2 t3 (0 : Int32)) ?_
  refine r_aload_n (q := 245) (i := 0) (pl := 0) C d_Md_circuitGets_244 rfl rfl rfl ?_
  refine r_iload (q := 247) (i := 11) (pl := 2) C d_Md_circuitGets_245 rfl rfl ?_
  refine r_iload (q := 249) (i := 4) (pl := 1) C d_Md_circuitGets_247 rfl rfl ?_
  refine r_cvV (q := 252) (As := [vI x11, vI x4]) (st := []) (cy := 11) C d_Md_circuitGets_249 rfl Y_Md_back L_Md_373 I_Md_back Se_Md_back rfl (by decide) rfl (Nat.le_of_ble_eq_true rfl) (Nat.le_of_ble_eq_true rfl) (Nat.le_of_ble_eq_true rfl) rfl (fun a8 => con_Md_back a8 x11 x4) ?_
  refine r_goto (tgt := 406) C d_Md_circuitGets_252 (by decide) ?_
  refine r_sub (lv' := [(0, vA (some a))]) [0] rfl ?_
  exact s_Md_circuitGets_406 C a
def f_Md_circuitGets_205 (a : Nat) (x4 : Int32) (x7 : Int32) (x8 : Int32) (x9 : Int32) (x10 : Int32) (x11 : Int32) : sn_M := (if ¬ x10 = (x4 - (7 : Int32)) then f_Md_circuitGets_255 a x7 x8 x10 else (if x9 = 0 then f_Md_circuitGets_255 a x7 x8 x10 else (if ¬ x4 = (8 : Int32) then f_Md_circuitGets_240 a x4 x11 (some a) x8 (x10 + (1 : Int32)) (0 : Int32) else f_Md_circuitGets_240 a x4 x11 (some a) x8 (x10 + (1 : Int32)) (60 : Int32))))
set_option maxHeartbeats 4000000 in
set_option maxRecDepth 100000 in
theorem mono_Md_circuitGets_205 (a : Nat) (x4 : Int32) (x7 : Int32) (x8 : Int32) (x9 : Int32) (x10 : Int32) (x11 : Int32) : sn_Mono (f_Md_circuitGets_205 a x4 x7 x8 x9 x10 x11) := sn_Mono.ite (mono_Md_circuitGets_255 a x7 x8 x10) (sn_Mono.ite (mono_Md_circuitGets_255 a x7 x8 x10) (sn_Mono.ite (mono_Md_circuitGets_240 a x4 x11 (some a) x8 (x10 + (1 : Int32)) (0 : Int32)) (mono_Md_circuitGets_240 a x4 x11 (some a) x8 (x10 + (1 : Int32)) (60 : Int32))))
set_option maxHeartbeats 4000000 in
set_option maxRecDepth 100000 in
theorem s_Md_circuitGets_205 {X : sn_X} (C : sn_Cx X c_Md_circuitGets "SignalNetworkModel" none "circuitGets" 14 9 221) (a : Nat) (x4 : Int32) (x7 : Int32) (x8 : Int32) (x9 : Int32) (x10 : Int32) (x11 : Int32) : sn_S X 205 [(0, vA (some a)), (4, vI x4), (7, vI x7), (8, vI x8), (9, vI x9), (10, vI x10), (11, vI x11)] [] (f_Md_circuitGets_205 a x4 x7 x8 x9 x10 x11) := by
  unfold f_Md_circuitGets_205
  refine r_iload (q := 207) (i := 10) (pl := 5) C d_Md_circuitGets_205 rfl rfl ?_
  refine r_iload (q := 209) (i := 4) (pl := 1) C d_Md_circuitGets_207 rfl rfl ?_
  refine r_bipush (q := 211) (v := 7) C d_Md_circuitGets_209 rfl (by decide) ?_
  refine r_isub (q := 212) C d_Md_circuitGets_211 rfl ?_
  refine r_icmp_ne (tgt := 255) (q := 215) C d_Md_circuitGets_212 (by decide) rfl ?_ ?_
  · refine r_sub (lv' := [(0, vA (some a)), (7, vI x7), (8, vI x8), (10, vI x10)]) [0, 2, 3, 5] rfl ?_
    exact s_Md_circuitGets_255 C a x7 x8 x10
  · refine r_iload (q := 217) (i := 9) (pl := 4) C d_Md_circuitGets_215 rfl rfl ?_
    refine r_if_eq (tgt := 255) (q := 220) C d_Md_circuitGets_217 (by decide) rfl ?_ ?_
    · refine r_sub (lv' := [(0, vA (some a)), (7, vI x7), (8, vI x8), (10, vI x10)]) [0, 2, 3, 5] rfl ?_
      exact s_Md_circuitGets_255 C a x7 x8 x10
    · refine r_aload_n (q := 221) (i := 0) (pl := 0) C d_Md_circuitGets_220 rfl rfl rfl ?_
      refine r_iload (q := 223) (i := 8) (pl := 3) C d_Md_circuitGets_221 rfl rfl ?_
      refine r_iload (q := 225) (i := 10) (pl := 5) C d_Md_circuitGets_223 rfl rfl ?_
      refine r_iconst (q := 226) (v := 1) C d_Md_circuitGets_225 rfl (by decide) ?_
      refine r_iadd (q := 227) C d_Md_circuitGets_226 rfl ?_
      refine r_iload (q := 229) (i := 4) (pl := 1) C d_Md_circuitGets_227 rfl rfl ?_
      refine r_bipush (q := 231) (v := 8) C d_Md_circuitGets_229 rfl (by decide) ?_
      refine r_icmp_ne (tgt := 239) (q := 234) C d_Md_circuitGets_231 (by decide) rfl ?_ ?_
      · refine r_iconst (q := 240) (v := 0) C d_Md_circuitGets_239 rfl (by decide) ?_
        refine r_sub (lv' := [(0, vA (some a)), (4, vI x4), (11, vI x11)]) [0, 1, 6] rfl ?_
        exact s_Md_circuitGets_240 C a x4 x11 (some a) x8 (x10 + (1 : Int32)) (0 : Int32)
      · refine r_bipush (q := 236) (v := 60) C d_Md_circuitGets_234 rfl (by decide) ?_
        refine r_goto (tgt := 240) C d_Md_circuitGets_236 (by decide) ?_
        refine r_sub (lv' := [(0, vA (some a)), (4, vI x4), (11, vI x11)]) [0, 1, 6] rfl ?_
        exact s_Md_circuitGets_240 C a x4 x11 (some a) x8 (x10 + (1 : Int32)) (60 : Int32)
def f_Md_circuitGets_346 (a : Nat) (x11 : Int32) (x12 : Int32) : sn_M := (if x12 = 0 then f_Md_circuitGets_406 a else n_n 12 (some a) fun a10 => c_V (f_Md_letGo a10 x11) (f_Md_circuitGets_406 a))
set_option maxHeartbeats 4000000 in
set_option maxRecDepth 100000 in
theorem mono_Md_circuitGets_346 (a : Nat) (x11 : Int32) (x12 : Int32) : sn_Mono (f_Md_circuitGets_346 a x11 x12) := sn_Mono.ite (mono_Md_circuitGets_406 a) (sn_Mono.nn (fun a10 => sn_Mono.cV (mono_Md_letGo a10 x11) (mono_Md_circuitGets_406 a)))
set_option maxHeartbeats 4000000 in
set_option maxRecDepth 100000 in
theorem s_Md_circuitGets_346 {X : sn_X} (C : sn_Cx X c_Md_circuitGets "SignalNetworkModel" none "circuitGets" 14 9 221) (a : Nat) (x11 : Int32) (x12 : Int32) : sn_S X 346 [(0, vA (some a)), (11, vI x11), (12, vI x12)] [] (f_Md_circuitGets_346 a x11 x12) := by
  unfold f_Md_circuitGets_346
  refine r_iload (q := 348) (i := 12) (pl := 2) C d_Md_circuitGets_346 rfl rfl ?_
  refine r_if_eq (tgt := 406) (q := 351) C d_Md_circuitGets_348 (by decide) rfl ?_ ?_
  · refine r_sub (lv' := [(0, vA (some a))]) [0] rfl ?_
    exact s_Md_circuitGets_406 C a
  · refine r_aload_n (q := 352) (i := 0) (pl := 0) C d_Md_circuitGets_351 rfl rfl rfl ?_
    refine r_iload (q := 354) (i := 11) (pl := 1) C d_Md_circuitGets_352 rfl rfl ?_
    refine r_cvV (q := 357) (As := [vI x11]) (st := []) (cy := 11) C d_Md_circuitGets_354 rfl Y_Md_letGo L_Md_367 I_Md_letGo Se_Md_letGo rfl (by decide) rfl (Nat.le_of_ble_eq_true rfl) (Nat.le_of_ble_eq_true rfl) (Nat.le_of_ble_eq_true rfl) rfl (fun a10 => con_Md_letGo a10 x11) ?_
    refine r_goto (tgt := 406) C d_Md_circuitGets_357 (by decide) ?_
    refine r_sub (lv' := [(0, vA (some a))]) [0] rfl ?_
    exact s_Md_circuitGets_406 C a
def f_Md_circuitGets_337 (a : Nat) (x8 : Int32) (x11 : Int32) (x12 : Int32) : sn_M := n_n 12 (some a) fun a12 => c_V (f_Md_becomes a12 x8 (0 : Int32) (0 : Int32) (0 : Int32)) (f_Md_circuitGets_346 a x11 x12)
set_option maxHeartbeats 4000000 in
set_option maxRecDepth 100000 in
theorem mono_Md_circuitGets_337 (a : Nat) (x8 : Int32) (x11 : Int32) (x12 : Int32) : sn_Mono (f_Md_circuitGets_337 a x8 x11 x12) := sn_Mono.nn (fun a12 => sn_Mono.cV (mono_Md_becomes a12 x8 (0 : Int32) (0 : Int32) (0 : Int32)) (mono_Md_circuitGets_346 a x11 x12))
set_option maxHeartbeats 4000000 in
set_option maxRecDepth 100000 in
theorem s_Md_circuitGets_337 {X : sn_X} (C : sn_Cx X c_Md_circuitGets "SignalNetworkModel" none "circuitGets" 14 9 221) (a : Nat) (x8 : Int32) (x11 : Int32) (x12 : Int32) : sn_S X 337 [(0, vA (some a)), (8, vI x8), (11, vI x11), (12, vI x12)] [] (f_Md_circuitGets_337 a x8 x11 x12) := by
  unfold f_Md_circuitGets_337
  refine r_aload_n (q := 338) (i := 0) (pl := 0) C d_Md_circuitGets_337 rfl rfl rfl ?_
  refine r_iload (q := 340) (i := 8) (pl := 1) C d_Md_circuitGets_338 rfl rfl ?_
  refine r_iconst (q := 341) (v := 0) C d_Md_circuitGets_340 rfl (by decide) ?_
  refine r_iconst (q := 342) (v := 0) C d_Md_circuitGets_341 rfl (by decide) ?_
  refine r_iconst (q := 343) (v := 0) C d_Md_circuitGets_342 rfl (by decide) ?_
  refine r_cvV (q := 346) (As := [vI x8, vI (0 : Int32), vI (0 : Int32), vI (0 : Int32)]) (st := []) (cy := 11) C d_Md_circuitGets_343 rfl Y_Md_becomes L_Md_364 I_Md_becomes Se_Md_becomes rfl (by decide) rfl (Nat.le_of_ble_eq_true rfl) (Nat.le_of_ble_eq_true rfl) (Nat.le_of_ble_eq_true rfl) rfl (fun a12 => con_Md_becomes a12 x8 (0 : Int32) (0 : Int32) (0 : Int32)) ?_
  refine r_sub (lv' := [(0, vA (some a)), (11, vI x11), (12, vI x12)]) [0, 2, 3] rfl ?_
  exact s_Md_circuitGets_346 C a x11 x12
def f_Md_circuitGets_325 (a : Nat) (x4 : Int32) (x8 : Int32) (x11 : Int32) (x12 : Int32) : sn_M := (if ¬ x12 = 0 then f_Md_circuitGets_337 a x8 x11 x12 else (if ¬ x4 = (12 : Int32) then f_Md_circuitGets_346 a x11 x12 else f_Md_circuitGets_337 a x8 x11 x12))
set_option maxHeartbeats 4000000 in
set_option maxRecDepth 100000 in
theorem mono_Md_circuitGets_325 (a : Nat) (x4 : Int32) (x8 : Int32) (x11 : Int32) (x12 : Int32) : sn_Mono (f_Md_circuitGets_325 a x4 x8 x11 x12) := sn_Mono.ite (mono_Md_circuitGets_337 a x8 x11 x12) (sn_Mono.ite (mono_Md_circuitGets_346 a x11 x12) (mono_Md_circuitGets_337 a x8 x11 x12))
set_option maxHeartbeats 4000000 in
set_option maxRecDepth 100000 in
theorem s_Md_circuitGets_325 {X : sn_X} (C : sn_Cx X c_Md_circuitGets "SignalNetworkModel" none "circuitGets" 14 9 221) (a : Nat) (x4 : Int32) (x8 : Int32) (x11 : Int32) (x12 : Int32) : sn_S X 325 [(0, vA (some a)), (4, vI x4), (8, vI x8), (11, vI x11), (12, vI x12)] [] (f_Md_circuitGets_325 a x4 x8 x11 x12) := by
  unfold f_Md_circuitGets_325
  refine r_iload (q := 327) (i := 12) (pl := 4) C d_Md_circuitGets_325 rfl rfl ?_
  refine r_if_ne (tgt := 337) (q := 330) C d_Md_circuitGets_327 (by decide) rfl ?_ ?_
  · refine r_sub (lv' := [(0, vA (some a)), (8, vI x8), (11, vI x11), (12, vI x12)]) [0, 2, 3, 4] rfl ?_
    exact s_Md_circuitGets_337 C a x8 x11 x12
  · refine r_iload (q := 332) (i := 4) (pl := 1) C d_Md_circuitGets_330 rfl rfl ?_
    refine r_bipush (q := 334) (v := 12) C d_Md_circuitGets_332 rfl (by decide) ?_
    refine r_icmp_ne (tgt := 346) (q := 337) C d_Md_circuitGets_334 (by decide) rfl ?_ ?_
    · refine r_sub (lv' := [(0, vA (some a)), (11, vI x11), (12, vI x12)]) [0, 3, 4] rfl ?_
      exact s_Md_circuitGets_346 C a x11 x12
    · refine r_sub (lv' := [(0, vA (some a)), (8, vI x8), (11, vI x11), (12, vI x12)]) [0, 2, 3, 4] rfl ?_
      exact s_Md_circuitGets_337 C a x8 x11 x12
def f_Md_circuitGets_292 (a : Nat) (x4 : Int32) (x7 : Int32) (x8 : Int32) (x9 : Int32) (x11 : Int32) (x12 : Int32) : sn_M := n_n 12 (some a) fun a14 => c_V (f_Md_says a14 x8 (11 : Int32) x7 (0 : Int32)) ((if ¬ x9 = 0 then (if x12 = 0 then f_Md_circuitGets_325 a x4 x8 x11 x12 else n_n 12 (some a) fun a16 => c_V (f_Md_part a16 ((100 : Int32) + x8)) (f_Md_circuitGets_325 a x4 x8 x11 x12)) else f_Md_circuitGets_406 a))
set_option maxHeartbeats 4000000 in
set_option maxRecDepth 100000 in
theorem mono_Md_circuitGets_292 (a : Nat) (x4 : Int32) (x7 : Int32) (x8 : Int32) (x9 : Int32) (x11 : Int32) (x12 : Int32) : sn_Mono (f_Md_circuitGets_292 a x4 x7 x8 x9 x11 x12) := sn_Mono.nn (fun a14 => sn_Mono.cV (mono_Md_says a14 x8 (11 : Int32) x7 (0 : Int32)) (sn_Mono.ite (sn_Mono.ite (mono_Md_circuitGets_325 a x4 x8 x11 x12) (sn_Mono.nn (fun a16 => sn_Mono.cV (mono_Md_part a16 ((100 : Int32) + x8)) (mono_Md_circuitGets_325 a x4 x8 x11 x12)))) (mono_Md_circuitGets_406 a)))
set_option maxHeartbeats 4000000 in
set_option maxRecDepth 100000 in
theorem s_Md_circuitGets_292 {X : sn_X} (C : sn_Cx X c_Md_circuitGets "SignalNetworkModel" none "circuitGets" 14 9 221) (a : Nat) (x4 : Int32) (x7 : Int32) (x8 : Int32) (x9 : Int32) (x11 : Int32) (x12 : Int32) : sn_S X 292 [(0, vA (some a)), (4, vI x4), (7, vI x7), (8, vI x8), (9, vI x9), (11, vI x11), (12, vI x12)] [] (f_Md_circuitGets_292 a x4 x7 x8 x9 x11 x12) := by
  unfold f_Md_circuitGets_292
  refine r_aload_n (q := 293) (i := 0) (pl := 0) C d_Md_circuitGets_292 rfl rfl rfl ?_
  refine r_iload (q := 295) (i := 8) (pl := 3) C d_Md_circuitGets_293 rfl rfl ?_
  refine r_bipush (q := 297) (v := 11) C d_Md_circuitGets_295 rfl (by decide) ?_
  refine r_iload (q := 299) (i := 7) (pl := 2) C d_Md_circuitGets_297 rfl rfl ?_
  refine r_iconst (q := 300) (v := 0) C d_Md_circuitGets_299 rfl (by decide) ?_
  refine r_cvV (q := 303) (As := [vI x8, vI (11 : Int32), vI x7, vI (0 : Int32)]) (st := []) (cy := 11) C d_Md_circuitGets_300 rfl Y_Md_says L_Md_349 I_Md_says Se_Md_says rfl (by decide) rfl (Nat.le_of_ble_eq_true rfl) (Nat.le_of_ble_eq_true rfl) (Nat.le_of_ble_eq_true rfl) rfl (fun a14 => con_Md_says a14 x8 (11 : Int32) x7 (0 : Int32)) ?_
  refine r_iload (q := 305) (i := 9) (pl := 4) C d_Md_circuitGets_303 rfl rfl ?_
  refine r_if_ne (tgt := 311) (q := 308) C d_Md_circuitGets_305 (by decide) rfl ?_ ?_
  · refine r_iload (q := 313) (i := 12) (pl := 6) C d_Md_circuitGets_311 rfl rfl ?_
    refine r_if_eq (tgt := 325) (q := 316) C d_Md_circuitGets_313 (by decide) rfl ?_ ?_
    · refine r_sub (lv' := [(0, vA (some a)), (4, vI x4), (8, vI x8), (11, vI x11), (12, vI x12)]) [0, 1, 3, 5, 6] rfl ?_
      exact s_Md_circuitGets_325 C a x4 x8 x11 x12
    · refine r_aload_n (q := 317) (i := 0) (pl := 0) C d_Md_circuitGets_316 rfl rfl rfl ?_
      refine r_bipush (q := 319) (v := 100) C d_Md_circuitGets_317 rfl (by decide) ?_
      refine r_iload (q := 321) (i := 8) (pl := 3) C d_Md_circuitGets_319 rfl rfl ?_
      refine r_iadd (q := 322) C d_Md_circuitGets_321 rfl ?_
      refine r_cvV (q := 325) (As := [vI ((100 : Int32) + x8)]) (st := []) (cy := 11) C d_Md_circuitGets_322 rfl Y_Md_part L_Md_358 I_Md_part Se_Md_part rfl (by decide) rfl (Nat.le_of_ble_eq_true rfl) (Nat.le_of_ble_eq_true rfl) (Nat.le_of_ble_eq_true rfl) rfl (fun a16 => con_Md_part a16 ((100 : Int32) + x8)) ?_
      refine r_sub (lv' := [(0, vA (some a)), (4, vI x4), (8, vI x8), (11, vI x11), (12, vI x12)]) [0, 1, 3, 5, 6] rfl ?_
      exact s_Md_circuitGets_325 C a x4 x8 x11 x12
  · refine r_goto (tgt := 406) C d_Md_circuitGets_308 (by decide) ?_
    refine r_sub (lv' := [(0, vA (some a))]) [0] rfl ?_
    exact s_Md_circuitGets_406 C a
def f_Md_circuitGets_402 (a : Nat) (t0 : Option Nat) (t1 : Int32) (t2 : Int32) : sn_M := b_Z 33 t0 t1 t2 (f_Md_circuitGets_406 a)
set_option maxHeartbeats 4000000 in
set_option maxRecDepth 100000 in
theorem mono_Md_circuitGets_402 (a : Nat) (t0 : Option Nat) (t1 : Int32) (t2 : Int32) : sn_Mono (f_Md_circuitGets_402 a t0 t1 t2) := sn_Mono.bZ (mono_Md_circuitGets_406 a)
set_option maxHeartbeats 4000000 in
set_option maxRecDepth 100000 in
theorem s_Md_circuitGets_402 {X : sn_X} (C : sn_Cx X c_Md_circuitGets "SignalNetworkModel" none "circuitGets" 14 9 221) (a : Nat) (t0 : Option Nat) (t1 : Int32) (t2 : Int32) : sn_S X 402 [(0, vA (some a))] [vI t2, vI t1, vA t0] (f_Md_circuitGets_402 a t0 t1 t2) := by
  unfold f_Md_circuitGets_402
  refine r_bZ (q := 403) C (Or.inr rfl) d_Md_circuitGets_402 rfl ?_
  refine r_goto (tgt := 406) C d_Md_circuitGets_403 (by decide) ?_
  exact s_Md_circuitGets_406 C a
def f_Md_circuitGets_384 (a : Nat) (x4 : Int32) (x8 : Int32) : sn_M := g_R 12 56 (some a) fun v18 => (if ¬ x4 = (13 : Int32) then f_Md_circuitGets_402 a v18 x8 (0 : Int32) else f_Md_circuitGets_402 a v18 x8 (1 : Int32))
set_option maxHeartbeats 4000000 in
set_option maxRecDepth 100000 in
theorem mono_Md_circuitGets_384 (a : Nat) (x4 : Int32) (x8 : Int32) : sn_Mono (f_Md_circuitGets_384 a x4 x8) := sn_Mono.gR (fun v18 => sn_Mono.ite (mono_Md_circuitGets_402 a v18 x8 (0 : Int32)) (mono_Md_circuitGets_402 a v18 x8 (1 : Int32)))
set_option maxHeartbeats 4000000 in
set_option maxRecDepth 100000 in
theorem s_Md_circuitGets_384 {X : sn_X} (C : sn_Cx X c_Md_circuitGets "SignalNetworkModel" none "circuitGets" 14 9 221) (a : Nat) (x4 : Int32) (x8 : Int32) : sn_S X 384 [(0, vA (some a)), (4, vI x4), (8, vI x8)] [] (f_Md_circuitGets_384 a x4 x8) := by
  unfold f_Md_circuitGets_384
  refine r_aload_n (q := 385) (i := 0) (pl := 0) C d_Md_circuitGets_384 rfl rfl rfl ?_
  refine r_gR (q := 388) C d_Md_circuitGets_385 rfl F_Md_162 rfl (fun v18 => ?_)
  refine r_iload (q := 390) (i := 8) (pl := 2) C d_Md_circuitGets_388 rfl rfl ?_
  refine r_iload (q := 392) (i := 4) (pl := 1) C d_Md_circuitGets_390 rfl rfl ?_
  refine r_bipush (q := 394) (v := 13) C d_Md_circuitGets_392 rfl (by decide) ?_
  refine r_icmp_ne (tgt := 401) (q := 397) C d_Md_circuitGets_394 (by decide) rfl ?_ ?_
  · refine r_iconst (q := 402) (v := 0) C d_Md_circuitGets_401 rfl (by decide) ?_
    refine r_sub (lv' := [(0, vA (some a))]) [0] rfl ?_
    exact s_Md_circuitGets_402 C a v18 x8 (0 : Int32)
  · refine r_iconst (q := 398) (v := 1) C d_Md_circuitGets_397 rfl (by decide) ?_
    refine r_goto (tgt := 402) C d_Md_circuitGets_398 (by decide) ?_
    refine r_sub (lv' := [(0, vA (some a))]) [0] rfl ?_
    exact s_Md_circuitGets_402 C a v18 x8 (1 : Int32)
def f_Md_circuitGets_202 (a : Nat) : sn_M := f_Md_circuitGets_406 a
set_option maxHeartbeats 4000000 in
set_option maxRecDepth 100000 in
theorem mono_Md_circuitGets_202 (a : Nat) : sn_Mono (f_Md_circuitGets_202 a) := mono_Md_circuitGets_406 a
set_option maxHeartbeats 4000000 in
set_option maxRecDepth 100000 in
theorem s_Md_circuitGets_202 {X : sn_X} (C : sn_Cx X c_Md_circuitGets "SignalNetworkModel" none "circuitGets" 14 9 221) (a : Nat) : sn_S X 202 [(0, vA (some a))] [] (f_Md_circuitGets_202 a) := by
  unfold f_Md_circuitGets_202
  refine r_goto (tgt := 406) C d_Md_circuitGets_202 (by decide) ?_
  exact s_Md_circuitGets_406 C a
def f_Md_circuitGets_75 (a : Nat) (x1 : Int32) (x2 : Int32) (x4 : Int32) (x5 : Int32) (x6 : Int32) (x7 : Int32) (x8 : Int32) (x9 : Int32) (x10 : Int32) (x11 : Int32) (t0 : Int32) : sn_M := (sn_sw x4 [7, 8, 9, 10, 11, 12, 13, 14] [((if ¬ x10 = 0 then (if ¬ x10 = (1 : Int32) then f_Md_circuitGets_406 a else n_n 12 (some a) fun a19 => c_I (f_Md_controls a19 x1 x2 x6) fun v20 => (if ¬ v20 = 0 then f_Md_circuitGets_406 a else g_R 12 58 (some a) fun v21 => a_I 31 v21 x8 fun v22 => n_n 12 (some a) fun a23 => c_V (f_Md_part a23 ((100 : Int32) + x8)) (n_n 12 (some a) fun a25 => c_V (f_Md_takeCall a25 x8 x5 x7) ((if x11 = (-1 : Int32) then f_Md_circuitGets_202 a else n_n 12 (some a) fun a27 => c_V (f_Md_connect a27 x1 x11 v22) (f_Md_circuitGets_202 a)))))) else n_n 12 (some a) fun a29 => c_V (f_Md_takeCall a29 x8 x5 x7) (f_Md_circuitGets_406 a))), (f_Md_circuitGets_205 a x4 x7 x8 x9 x10 x11), (f_Md_circuitGets_205 a x4 x7 x8 x9 x10 x11), (f_Md_circuitGets_292 a x4 x7 x8 x9 x11 t0), ((if x10 < (7 : Int32) then f_Md_circuitGets_406 a else (if x9 = 0 then f_Md_circuitGets_406 a else n_n 12 (some a) fun a31 => c_V (f_Md_becomes a31 x8 (0 : Int32) (0 : Int32) (0 : Int32)) (f_Md_circuitGets_406 a)))), (f_Md_circuitGets_292 a x4 x7 x8 x9 x11 t0), (f_Md_circuitGets_384 a x4 x8), (f_Md_circuitGets_384 a x4 x8)] (f_Md_circuitGets_406 a))
set_option maxHeartbeats 4000000 in
set_option maxRecDepth 100000 in
theorem mono_Md_circuitGets_75 (a : Nat) (x1 : Int32) (x2 : Int32) (x4 : Int32) (x5 : Int32) (x6 : Int32) (x7 : Int32) (x8 : Int32) (x9 : Int32) (x10 : Int32) (x11 : Int32) (t0 : Int32) : sn_Mono (f_Md_circuitGets_75 a x1 x2 x4 x5 x6 x7 x8 x9 x10 x11 t0) := sn_sw_mono (mono_Md_circuitGets_406 a) _ _ (List.forall_mem_cons.mpr ⟨sn_Mono.ite (sn_Mono.ite (mono_Md_circuitGets_406 a) (sn_Mono.nn (fun a19 => sn_Mono.cI (mono_Md_controls a19 x1 x2 x6) (fun v20 => sn_Mono.ite (mono_Md_circuitGets_406 a) (sn_Mono.gR (fun v21 => sn_Mono.aI (fun v22 => sn_Mono.nn (fun a23 => sn_Mono.cV (mono_Md_part a23 ((100 : Int32) + x8)) (sn_Mono.nn (fun a25 => sn_Mono.cV (mono_Md_takeCall a25 x8 x5 x7) (sn_Mono.ite (mono_Md_circuitGets_202 a) (sn_Mono.nn (fun a27 => sn_Mono.cV (mono_Md_connect a27 x1 x11 v22) (mono_Md_circuitGets_202 a)))))))))))))) (sn_Mono.nn (fun a29 => sn_Mono.cV (mono_Md_takeCall a29 x8 x5 x7) (mono_Md_circuitGets_406 a))), (List.forall_mem_cons.mpr ⟨mono_Md_circuitGets_205 a x4 x7 x8 x9 x10 x11, (List.forall_mem_cons.mpr ⟨mono_Md_circuitGets_205 a x4 x7 x8 x9 x10 x11, (List.forall_mem_cons.mpr ⟨mono_Md_circuitGets_292 a x4 x7 x8 x9 x11 t0, (List.forall_mem_cons.mpr ⟨sn_Mono.ite (mono_Md_circuitGets_406 a) (sn_Mono.ite (mono_Md_circuitGets_406 a) (sn_Mono.nn (fun a31 => sn_Mono.cV (mono_Md_becomes a31 x8 (0 : Int32) (0 : Int32) (0 : Int32)) (mono_Md_circuitGets_406 a)))), (List.forall_mem_cons.mpr ⟨mono_Md_circuitGets_292 a x4 x7 x8 x9 x11 t0, (List.forall_mem_cons.mpr ⟨mono_Md_circuitGets_384 a x4 x8, (List.forall_mem_cons.mpr ⟨mono_Md_circuitGets_384 a x4 x8, (fun _ h => absurd h List.not_mem_nil)⟩)⟩)⟩)⟩)⟩)⟩)⟩)⟩)
set_option maxHeartbeats 4000000 in
set_option maxRecDepth 100000 in
theorem s_Md_circuitGets_75 {X : sn_X} (C : sn_Cx X c_Md_circuitGets "SignalNetworkModel" none "circuitGets" 14 9 221) (a : Nat) (x1 : Int32) (x2 : Int32) (x4 : Int32) (x5 : Int32) (x6 : Int32) (x7 : Int32) (x8 : Int32) (x9 : Int32) (x10 : Int32) (x11 : Int32) (t0 : Int32) : sn_S X 75 [(0, vA (some a)), (1, vI x1), (2, vI x2), (4, vI x4), (5, vI x5), (6, vI x6), (7, vI x7), (8, vI x8), (9, vI x9), (10, vI x10), (11, vI x11)] [vI t0] (f_Md_circuitGets_75 a x1 x2 x4 x5 x6 x7 x8 x9 x10 x11 t0) := by
  unfold f_Md_circuitGets_75
  refine r_istore (q := 77) (i := 12) (lv' := [(12, vI t0), (0, vA (some a)), (1, vI x1), (2, vI x2), (4, vI x4), (5, vI x5), (6, vI x6), (7, vI x7), (8, vI x8), (9, vI x9), (10, vI x10), (11, vI x11)]) C d_Md_circuitGets_75 rfl (by decide) rfl ?_
  refine r_iload (q := 79) (i := 4) (pl := 4) C d_Md_circuitGets_77 rfl rfl ?_
  refine r_table (tD := 406) (ks := [7, 8, 9, 10, 11, 12, 13, 14]) (ts := [124, 205, 205, 292, 360, 292, 384, 384]) C d_Md_circuitGets_79 (by decide) (by decide) rfl ?_ ⟨?_, ?_, ?_, ?_, ?_, ?_, ?_, ?_, trivial⟩
  · refine r_sub (lv' := [(0, vA (some a))]) [1] rfl ?_
    exact s_Md_circuitGets_406 C a
  · refine r_iload (q := 126) (i := 10) (pl := 10) C d_Md_circuitGets_124 rfl rfl ?_
    refine r_if_ne (tgt := 142) (q := 129) C d_Md_circuitGets_126 (by decide) rfl ?_ ?_
    · refine r_iload (q := 144) (i := 10) (pl := 10) C d_Md_circuitGets_142 rfl rfl ?_
      refine r_iconst (q := 145) (v := 1) C d_Md_circuitGets_144 rfl (by decide) ?_
      refine r_icmp_ne (tgt := 406) (q := 148) C d_Md_circuitGets_145 (by decide) rfl ?_ ?_
      · refine r_sub (lv' := [(0, vA (some a))]) [1] rfl ?_
        exact s_Md_circuitGets_406 C a
      · refine r_aload_n (q := 149) (i := 0) (pl := 1) C d_Md_circuitGets_148 rfl rfl rfl ?_
        refine r_iload_n (q := 150) (i := 1) (pl := 2) C d_Md_circuitGets_149 rfl rfl rfl ?_
        refine r_iload_n (q := 151) (i := 2) (pl := 3) C d_Md_circuitGets_150 rfl rfl rfl ?_
        refine r_iload (q := 153) (i := 6) (pl := 6) C d_Md_circuitGets_151 rfl rfl ?_
        refine r_cvI (q := 156) (As := [vI x1, vI x2, vI x6]) (st := []) (cy := 11) C d_Md_circuitGets_153 rfl Y_Md_controls L_Md_382 I_Md_controls Se_Md_controls rfl (by decide) rfl (Nat.le_of_ble_eq_true rfl) (Nat.le_of_ble_eq_true rfl) (Nat.le_of_ble_eq_true rfl) rfl (fun a19 => con_Md_controls a19 x1 x2 x6) (fun v20 => ?_)
        refine r_if_ne (tgt := 406) (q := 159) C d_Md_circuitGets_156 (by decide) rfl ?_ ?_
        · refine r_sub (lv' := [(0, vA (some a))]) [1] rfl ?_
          exact s_Md_circuitGets_406 C a
        · refine r_aload_n (q := 160) (i := 0) (pl := 1) C d_Md_circuitGets_159 rfl rfl rfl ?_
          refine r_gR (q := 163) C d_Md_circuitGets_160 rfl F_Md_168 rfl (fun v21 => ?_)
          refine r_iload (q := 165) (i := 8) (pl := 8) C d_Md_circuitGets_163 rfl rfl ?_
          refine r_aI (q := 166) C (Or.inr rfl) d_Md_circuitGets_165 rfl (fun v22 => ?_)
          refine r_istore (q := 168) (i := 13) (lv' := [(13, vI v22), (12, vI t0), (0, vA (some a)), (1, vI x1), (2, vI x2), (4, vI x4), (5, vI x5), (6, vI x6), (7, vI x7), (8, vI x8), (9, vI x9), (10, vI x10), (11, vI x11)]) C d_Md_circuitGets_166 rfl (by decide) rfl ?_
          refine r_aload_n (q := 169) (i := 0) (pl := 2) C d_Md_circuitGets_168 rfl rfl rfl ?_
          refine r_bipush (q := 171) (v := 100) C d_Md_circuitGets_169 rfl (by decide) ?_
          refine r_iload (q := 173) (i := 8) (pl := 9) C d_Md_circuitGets_171 rfl rfl ?_
          refine r_iadd (q := 174) C d_Md_circuitGets_173 rfl ?_
          refine r_cvV (q := 177) (As := [vI ((100 : Int32) + x8)]) (st := []) (cy := 11) C d_Md_circuitGets_174 rfl Y_Md_part L_Md_358 I_Md_part Se_Md_part rfl (by decide) rfl (Nat.le_of_ble_eq_true rfl) (Nat.le_of_ble_eq_true rfl) (Nat.le_of_ble_eq_true rfl) rfl (fun a23 => con_Md_part a23 ((100 : Int32) + x8)) ?_
          refine r_aload_n (q := 178) (i := 0) (pl := 2) C d_Md_circuitGets_177 rfl rfl rfl ?_
          refine r_iload (q := 180) (i := 8) (pl := 9) C d_Md_circuitGets_178 rfl rfl ?_
          refine r_iload (q := 182) (i := 5) (pl := 6) C d_Md_circuitGets_180 rfl rfl ?_
          refine r_iload (q := 184) (i := 7) (pl := 8) C d_Md_circuitGets_182 rfl rfl ?_
          refine r_cvV (q := 187) (As := [vI x8, vI x5, vI x7]) (st := []) (cy := 11) C d_Md_circuitGets_184 rfl Y_Md_takeCall L_Md_379 I_Md_takeCall Se_Md_takeCall rfl (by decide) rfl (Nat.le_of_ble_eq_true rfl) (Nat.le_of_ble_eq_true rfl) (Nat.le_of_ble_eq_true rfl) rfl (fun a25 => con_Md_takeCall a25 x8 x5 x7) ?_
          refine r_iload (q := 189) (i := 11) (pl := 12) C d_Md_circuitGets_187 rfl rfl ?_
          refine r_iconst (q := 190) (v := -1) C d_Md_circuitGets_189 rfl (by decide) ?_
          refine r_icmp_eq (tgt := 202) (q := 193) C d_Md_circuitGets_190 (by decide) rfl ?_ ?_
          · refine r_sub (lv' := [(0, vA (some a))]) [2] rfl ?_
            exact s_Md_circuitGets_202 C a
          · refine r_aload_n (q := 194) (i := 0) (pl := 2) C d_Md_circuitGets_193 rfl rfl rfl ?_
            refine r_iload_n (q := 195) (i := 1) (pl := 3) C d_Md_circuitGets_194 rfl rfl rfl ?_
            refine r_iload (q := 197) (i := 11) (pl := 12) C d_Md_circuitGets_195 rfl rfl ?_
            refine r_iload (q := 199) (i := 13) (pl := 0) C d_Md_circuitGets_197 rfl rfl ?_
            refine r_cvV (q := 202) (As := [vI x1, vI x11, vI v22]) (st := []) (cy := 11) C d_Md_circuitGets_199 rfl Y_Md_connect L_Md_376 I_Md_connect Se_Md_connect rfl (by decide) rfl (Nat.le_of_ble_eq_true rfl) (Nat.le_of_ble_eq_true rfl) (Nat.le_of_ble_eq_true rfl) rfl (fun a27 => con_Md_connect a27 x1 x11 v22) ?_
            refine r_sub (lv' := [(0, vA (some a))]) [2] rfl ?_
            exact s_Md_circuitGets_202 C a
    · refine r_aload_n (q := 130) (i := 0) (pl := 1) C d_Md_circuitGets_129 rfl rfl rfl ?_
      refine r_iload (q := 132) (i := 8) (pl := 8) C d_Md_circuitGets_130 rfl rfl ?_
      refine r_iload (q := 134) (i := 5) (pl := 5) C d_Md_circuitGets_132 rfl rfl ?_
      refine r_iload (q := 136) (i := 7) (pl := 7) C d_Md_circuitGets_134 rfl rfl ?_
      refine r_cvV (q := 139) (As := [vI x8, vI x5, vI x7]) (st := []) (cy := 11) C d_Md_circuitGets_136 rfl Y_Md_takeCall L_Md_379 I_Md_takeCall Se_Md_takeCall rfl (by decide) rfl (Nat.le_of_ble_eq_true rfl) (Nat.le_of_ble_eq_true rfl) (Nat.le_of_ble_eq_true rfl) rfl (fun a29 => con_Md_takeCall a29 x8 x5 x7) ?_
      refine r_goto (tgt := 406) C d_Md_circuitGets_139 (by decide) ?_
      refine r_sub (lv' := [(0, vA (some a))]) [1] rfl ?_
      exact s_Md_circuitGets_406 C a
  · refine r_sub (lv' := [(0, vA (some a)), (4, vI x4), (7, vI x7), (8, vI x8), (9, vI x9), (10, vI x10), (11, vI x11)]) [1, 4, 7, 8, 9, 10, 11] rfl ?_
    exact s_Md_circuitGets_205 C a x4 x7 x8 x9 x10 x11
  · refine r_sub (lv' := [(0, vA (some a)), (4, vI x4), (7, vI x7), (8, vI x8), (9, vI x9), (10, vI x10), (11, vI x11)]) [1, 4, 7, 8, 9, 10, 11] rfl ?_
    exact s_Md_circuitGets_205 C a x4 x7 x8 x9 x10 x11
  · refine r_sub (lv' := [(0, vA (some a)), (4, vI x4), (7, vI x7), (8, vI x8), (9, vI x9), (11, vI x11), (12, vI t0)]) [1, 4, 7, 8, 9, 11, 0] rfl ?_
    exact s_Md_circuitGets_292 C a x4 x7 x8 x9 x11 t0
  · refine r_iload (q := 362) (i := 10) (pl := 10) C d_Md_circuitGets_360 rfl rfl ?_
    refine r_bipush (q := 364) (v := 7) C d_Md_circuitGets_362 rfl (by decide) ?_
    refine r_icmp_lt (tgt := 406) (q := 367) C d_Md_circuitGets_364 (by decide) rfl ?_ ?_
    · refine r_sub (lv' := [(0, vA (some a))]) [1] rfl ?_
      exact s_Md_circuitGets_406 C a
    · refine r_iload (q := 369) (i := 9) (pl := 9) C d_Md_circuitGets_367 rfl rfl ?_
      refine r_if_eq (tgt := 406) (q := 372) C d_Md_circuitGets_369 (by decide) rfl ?_ ?_
      · refine r_sub (lv' := [(0, vA (some a))]) [1] rfl ?_
        exact s_Md_circuitGets_406 C a
      · refine r_aload_n (q := 373) (i := 0) (pl := 1) C d_Md_circuitGets_372 rfl rfl rfl ?_
        refine r_iload (q := 375) (i := 8) (pl := 8) C d_Md_circuitGets_373 rfl rfl ?_
        refine r_iconst (q := 376) (v := 0) C d_Md_circuitGets_375 rfl (by decide) ?_
        refine r_iconst (q := 377) (v := 0) C d_Md_circuitGets_376 rfl (by decide) ?_
        refine r_iconst (q := 378) (v := 0) C d_Md_circuitGets_377 rfl (by decide) ?_
        refine r_cvV (q := 381) (As := [vI x8, vI (0 : Int32), vI (0 : Int32), vI (0 : Int32)]) (st := []) (cy := 11) C d_Md_circuitGets_378 rfl Y_Md_becomes L_Md_364 I_Md_becomes Se_Md_becomes rfl (by decide) rfl (Nat.le_of_ble_eq_true rfl) (Nat.le_of_ble_eq_true rfl) (Nat.le_of_ble_eq_true rfl) rfl (fun a31 => con_Md_becomes a31 x8 (0 : Int32) (0 : Int32) (0 : Int32)) ?_
        refine r_goto (tgt := 406) C d_Md_circuitGets_381 (by decide) ?_
        refine r_sub (lv' := [(0, vA (some a))]) [1] rfl ?_
        exact s_Md_circuitGets_406 C a
  · refine r_sub (lv' := [(0, vA (some a)), (4, vI x4), (7, vI x7), (8, vI x8), (9, vI x9), (11, vI x11), (12, vI t0)]) [1, 4, 7, 8, 9, 11, 0] rfl ?_
    exact s_Md_circuitGets_292 C a x4 x7 x8 x9 x11 t0
  · refine r_sub (lv' := [(0, vA (some a)), (4, vI x4), (8, vI x8)]) [1, 4, 8] rfl ?_
    exact s_Md_circuitGets_384 C a x4 x8
  · refine r_sub (lv' := [(0, vA (some a)), (4, vI x4), (8, vI x8)]) [1, 4, 8] rfl ?_
    exact s_Md_circuitGets_384 C a x4 x8
def f_Md_circuitGets_74 (a : Nat) (x1 : Int32) (x2 : Int32) (x4 : Int32) (x5 : Int32) (x6 : Int32) (x7 : Int32) (x8 : Int32) (x9 : Int32) (x10 : Int32) (x11 : Int32) : sn_M := f_Md_circuitGets_75 a x1 x2 x4 x5 x6 x7 x8 x9 x10 x11 (0 : Int32)
set_option maxHeartbeats 4000000 in
set_option maxRecDepth 100000 in
theorem mono_Md_circuitGets_74 (a : Nat) (x1 : Int32) (x2 : Int32) (x4 : Int32) (x5 : Int32) (x6 : Int32) (x7 : Int32) (x8 : Int32) (x9 : Int32) (x10 : Int32) (x11 : Int32) : sn_Mono (f_Md_circuitGets_74 a x1 x2 x4 x5 x6 x7 x8 x9 x10 x11) := mono_Md_circuitGets_75 a x1 x2 x4 x5 x6 x7 x8 x9 x10 x11 (0 : Int32)
set_option maxHeartbeats 4000000 in
set_option maxRecDepth 100000 in
theorem s_Md_circuitGets_74 {X : sn_X} (C : sn_Cx X c_Md_circuitGets "SignalNetworkModel" none "circuitGets" 14 9 221) (a : Nat) (x1 : Int32) (x2 : Int32) (x4 : Int32) (x5 : Int32) (x6 : Int32) (x7 : Int32) (x8 : Int32) (x9 : Int32) (x10 : Int32) (x11 : Int32) : sn_S X 74 [(0, vA (some a)), (1, vI x1), (2, vI x2), (4, vI x4), (5, vI x5), (6, vI x6), (7, vI x7), (8, vI x8), (9, vI x9), (10, vI x10), (11, vI x11)] [] (f_Md_circuitGets_74 a x1 x2 x4 x5 x6 x7 x8 x9 x10 x11) := by
  unfold f_Md_circuitGets_74
  refine r_iconst (q := 75) (v := 0) C d_Md_circuitGets_74 rfl (by decide) ?_
  exact s_Md_circuitGets_75 C a x1 x2 x4 x5 x6 x7 x8 x9 x10 x11 (0 : Int32)
def f_Md_circuitGets_37 (a : Nat) (x1 : Int32) (x2 : Int32) (x4 : Int32) (x5 : Int32) (x6 : Int32) (x7 : Int32) (x8 : Int32) (t0 : Int32) : sn_M := g_R 12 52 (some a) fun v33 => a_I 31 v33 x8 fun v34 => g_R 12 57 (some a) fun v35 => a_I 31 v35 x8 fun v36 => (if v34 < (1 : Int32) then f_Md_circuitGets_74 a x1 x2 x4 x5 x6 x7 x8 t0 v34 v36 else (if (6 : Int32) < v34 then f_Md_circuitGets_74 a x1 x2 x4 x5 x6 x7 x8 t0 v34 v36 else f_Md_circuitGets_75 a x1 x2 x4 x5 x6 x7 x8 t0 v34 v36 (1 : Int32)))
set_option maxHeartbeats 4000000 in
set_option maxRecDepth 100000 in
theorem mono_Md_circuitGets_37 (a : Nat) (x1 : Int32) (x2 : Int32) (x4 : Int32) (x5 : Int32) (x6 : Int32) (x7 : Int32) (x8 : Int32) (t0 : Int32) : sn_Mono (f_Md_circuitGets_37 a x1 x2 x4 x5 x6 x7 x8 t0) := sn_Mono.gR (fun v33 => sn_Mono.aI (fun v34 => sn_Mono.gR (fun v35 => sn_Mono.aI (fun v36 => sn_Mono.ite (mono_Md_circuitGets_74 a x1 x2 x4 x5 x6 x7 x8 t0 v34 v36) (sn_Mono.ite (mono_Md_circuitGets_74 a x1 x2 x4 x5 x6 x7 x8 t0 v34 v36) (mono_Md_circuitGets_75 a x1 x2 x4 x5 x6 x7 x8 t0 v34 v36 (1 : Int32)))))))
set_option maxHeartbeats 4000000 in
set_option maxRecDepth 100000 in
theorem s_Md_circuitGets_37 {X : sn_X} (C : sn_Cx X c_Md_circuitGets "SignalNetworkModel" none "circuitGets" 14 9 221) (a : Nat) (x1 : Int32) (x2 : Int32) (x4 : Int32) (x5 : Int32) (x6 : Int32) (x7 : Int32) (x8 : Int32) (t0 : Int32) : sn_S X 37 [(0, vA (some a)), (1, vI x1), (2, vI x2), (4, vI x4), (5, vI x5), (6, vI x6), (7, vI x7), (8, vI x8)] [vI t0] (f_Md_circuitGets_37 a x1 x2 x4 x5 x6 x7 x8 t0) := by
  unfold f_Md_circuitGets_37
  refine r_istore (q := 39) (i := 9) (lv' := [(9, vI t0), (0, vA (some a)), (1, vI x1), (2, vI x2), (4, vI x4), (5, vI x5), (6, vI x6), (7, vI x7), (8, vI x8)]) C d_Md_circuitGets_37 rfl (by decide) rfl ?_
  refine r_aload_n (q := 40) (i := 0) (pl := 1) C d_Md_circuitGets_39 rfl rfl rfl ?_
  refine r_gR (q := 43) C d_Md_circuitGets_40 rfl F_Md_150 rfl (fun v33 => ?_)
  refine r_iload (q := 45) (i := 8) (pl := 8) C d_Md_circuitGets_43 rfl rfl ?_
  refine r_aI (q := 46) C (Or.inr rfl) d_Md_circuitGets_45 rfl (fun v34 => ?_)
  refine r_istore (q := 48) (i := 10) (lv' := [(10, vI v34), (9, vI t0), (0, vA (some a)), (1, vI x1), (2, vI x2), (4, vI x4), (5, vI x5), (6, vI x6), (7, vI x7), (8, vI x8)]) C d_Md_circuitGets_46 rfl (by decide) rfl ?_
  refine r_aload_n (q := 49) (i := 0) (pl := 2) C d_Md_circuitGets_48 rfl rfl rfl ?_
  refine r_gR (q := 52) C d_Md_circuitGets_49 rfl F_Md_165 rfl (fun v35 => ?_)
  refine r_iload (q := 54) (i := 8) (pl := 9) C d_Md_circuitGets_52 rfl rfl ?_
  refine r_aI (q := 55) C (Or.inr rfl) d_Md_circuitGets_54 rfl (fun v36 => ?_)
  refine r_istore (q := 57) (i := 11) (lv' := [(11, vI v36), (10, vI v34), (9, vI t0), (0, vA (some a)), (1, vI x1), (2, vI x2), (4, vI x4), (5, vI x5), (6, vI x6), (7, vI x7), (8, vI x8)]) C d_Md_circuitGets_55 rfl (by decide) rfl ?_
  refine r_iload (q := 59) (i := 10) (pl := 1) C d_Md_circuitGets_57 rfl rfl ?_
  refine r_iconst (q := 60) (v := 1) C d_Md_circuitGets_59 rfl (by decide) ?_
  refine r_icmp_lt (tgt := 74) (q := 63) C d_Md_circuitGets_60 (by decide) rfl ?_ ?_
  · refine r_sub (lv' := [(0, vA (some a)), (1, vI x1), (2, vI x2), (4, vI x4), (5, vI x5), (6, vI x6), (7, vI x7), (8, vI x8), (9, vI t0), (10, vI v34), (11, vI v36)]) [3, 4, 5, 6, 7, 8, 9, 10, 2, 1, 0] rfl ?_
    exact s_Md_circuitGets_74 C a x1 x2 x4 x5 x6 x7 x8 t0 v34 v36
  · refine r_iload (q := 65) (i := 10) (pl := 1) C d_Md_circuitGets_63 rfl rfl ?_
    refine r_bipush (q := 67) (v := 6) C d_Md_circuitGets_65 rfl (by decide) ?_
    refine r_icmp_gt (tgt := 74) (q := 70) C d_Md_circuitGets_67 (by decide) rfl ?_ ?_
    · refine r_sub (lv' := [(0, vA (some a)), (1, vI x1), (2, vI x2), (4, vI x4), (5, vI x5), (6, vI x6), (7, vI x7), (8, vI x8), (9, vI t0), (10, vI v34), (11, vI v36)]) [3, 4, 5, 6, 7, 8, 9, 10, 2, 1, 0] rfl ?_
      exact s_Md_circuitGets_74 C a x1 x2 x4 x5 x6 x7 x8 t0 v34 v36
    · refine r_iconst (q := 71) (v := 1) C d_Md_circuitGets_70 rfl (by decide) ?_
      refine r_goto (tgt := 75) C d_Md_circuitGets_71 (by decide) ?_
      refine r_sub (lv' := [(0, vA (some a)), (1, vI x1), (2, vI x2), (4, vI x4), (5, vI x5), (6, vI x6), (7, vI x7), (8, vI x8), (9, vI t0), (10, vI v34), (11, vI v36)]) [3, 4, 5, 6, 7, 8, 9, 10, 2, 1, 0] rfl ?_
      exact s_Md_circuitGets_75 C a x1 x2 x4 x5 x6 x7 x8 t0 v34 v36 (1 : Int32)
def f_Md_circuitGets (a : Nat) (x1 : Int32) (x2 : Int32) (x3 : Int32) (x4 : Int32) (x5 : Int32) : sn_M := n_I ((x3 &&& (3 : Int32))) fun n37 => n_I ((x3 >>> ((2 : Int32) &&& 31))) fun n38 => n_n 12 (some a) fun a39 => c_I (f_Md_flowAt a39 x1 x2 n37) fun v40 => g_R 12 59 (some a) fun v41 => a_I 31 v41 v40 fun v42 => (if ¬ n38 = v42 then f_Md_circuitGets_37 a x1 x2 x4 x5 n37 n38 v40 (0 : Int32) else f_Md_circuitGets_37 a x1 x2 x4 x5 n37 n38 v40 (1 : Int32))
set_option maxHeartbeats 4000000 in
set_option maxRecDepth 100000 in
theorem mono_Md_circuitGets (a : Nat) (x1 : Int32) (x2 : Int32) (x3 : Int32) (x4 : Int32) (x5 : Int32) : sn_Mono (f_Md_circuitGets a x1 x2 x3 x4 x5) := sn_Mono.nI (fun n37 => sn_Mono.nI (fun n38 => sn_Mono.nn (fun a39 => sn_Mono.cI (mono_Md_flowAt a39 x1 x2 n37) (fun v40 => sn_Mono.gR (fun v41 => sn_Mono.aI (fun v42 => sn_Mono.ite (mono_Md_circuitGets_37 a x1 x2 x4 x5 n37 n38 v40 (0 : Int32)) (mono_Md_circuitGets_37 a x1 x2 x4 x5 n37 n38 v40 (1 : Int32))))))))
set_option maxHeartbeats 4000000 in
set_option maxRecDepth 100000 in
theorem con_Md_circuitGets (a : Nat) (x1 : Int32) (x2 : Int32) (x3 : Int32) (x4 : Int32) (x5 : Int32) : sn_Con y_Md_circuitGets c_Md_circuitGets 14 none 9 221 [vA (some a), vI x1, vI x2, vI x3, vI x4, vI x5] (f_Md_circuitGets a x1 x2 x3 x4 x5) := by
  refine sn_Con.of (by decide +kernel) (by show _ ≤ _; exact Nat.le_of_ble_eq_true rfl) (mono_Md_circuitGets a x1 x2 x3 x4 x5) (fun X C => ?_)
  show sn_S X 0 [(0, vA (some a)), (1, vI x1), (2, vI x2), (3, vI x3), (4, vI x4), (5, vI x5)] [] _
  replace C : sn_Cx X c_Md_circuitGets "SignalNetworkModel" none "circuitGets" 14 9 221 := C
  unfold f_Md_circuitGets
  refine r_iload_n (q := 1) (i := 3) (pl := 3) C d_Md_circuitGets_0 rfl rfl rfl ?_
  refine r_iconst (q := 2) (v := 3) C d_Md_circuitGets_1 rfl (by decide) ?_
  refine r_iand (q := 3) C d_Md_circuitGets_2 rfl ?_
  refine r_nI (fun n37 => ?_)
  refine r_istore (q := 5) (i := 6) (lv' := [(6, vI n37), (0, vA (some a)), (1, vI x1), (2, vI x2), (3, vI x3), (4, vI x4), (5, vI x5)]) C d_Md_circuitGets_3 rfl (by decide) rfl ?_
  refine r_iload_n (q := 6) (i := 3) (pl := 4) C d_Md_circuitGets_5 rfl rfl rfl ?_
  refine r_iconst (q := 7) (v := 2) C d_Md_circuitGets_6 rfl (by decide) ?_
  refine r_ishr (q := 8) C d_Md_circuitGets_7 rfl ?_
  refine r_nI (fun n38 => ?_)
  refine r_istore (q := 10) (i := 7) (lv' := [(7, vI n38), (6, vI n37), (0, vA (some a)), (1, vI x1), (2, vI x2), (3, vI x3), (4, vI x4), (5, vI x5)]) C d_Md_circuitGets_8 rfl (by decide) rfl ?_
  refine r_aload_n (q := 11) (i := 0) (pl := 2) C d_Md_circuitGets_10 rfl rfl rfl ?_
  refine r_iload_n (q := 12) (i := 1) (pl := 3) C d_Md_circuitGets_11 rfl rfl rfl ?_
  refine r_iload_n (q := 13) (i := 2) (pl := 4) C d_Md_circuitGets_12 rfl rfl rfl ?_
  refine r_iload (q := 15) (i := 6) (pl := 1) C d_Md_circuitGets_13 rfl rfl ?_
  refine r_cvI (q := 18) (As := [vI x1, vI x2, vI n37]) (st := []) (cy := 11) C d_Md_circuitGets_15 rfl Y_Md_flowAt L_Md_212 I_Md_flowAt Se_Md_flowAt rfl (by decide) rfl (Nat.le_of_ble_eq_true rfl) (Nat.le_of_ble_eq_true rfl) (Nat.le_of_ble_eq_true rfl) rfl (fun a39 => con_Md_flowAt a39 x1 x2 n37) (fun v40 => ?_)
  refine r_istore (q := 20) (i := 8) (lv' := [(8, vI v40), (7, vI n38), (6, vI n37), (0, vA (some a)), (1, vI x1), (2, vI x2), (3, vI x3), (4, vI x4), (5, vI x5)]) C d_Md_circuitGets_18 rfl (by decide) rfl ?_
  refine r_iload (q := 22) (i := 7) (pl := 1) C d_Md_circuitGets_20 rfl rfl ?_
  refine r_aload_n (q := 23) (i := 0) (pl := 3) C d_Md_circuitGets_22 rfl rfl rfl ?_
  refine r_gR (q := 26) C d_Md_circuitGets_23 rfl F_Md_171 rfl (fun v41 => ?_)
  refine r_iload (q := 28) (i := 8) (pl := 0) C d_Md_circuitGets_26 rfl rfl ?_
  refine r_aI (q := 29) C (Or.inr rfl) d_Md_circuitGets_28 rfl (fun v42 => ?_)
  refine r_icmp_ne (tgt := 36) (q := 32) C d_Md_circuitGets_29 (by decide) rfl ?_ ?_
  · refine r_iconst (q := 37) (v := 0) C d_Md_circuitGets_36 rfl (by decide) ?_
    refine r_sub (lv' := [(0, vA (some a)), (1, vI x1), (2, vI x2), (4, vI x4), (5, vI x5), (6, vI n37), (7, vI n38), (8, vI v40)]) [3, 4, 5, 7, 8, 2, 1, 0] rfl ?_
    exact s_Md_circuitGets_37 C a x1 x2 x4 x5 n37 n38 v40 (0 : Int32)
  · refine r_iconst (q := 33) (v := 1) C d_Md_circuitGets_32 rfl (by decide) ?_
    refine r_goto (tgt := 37) C d_Md_circuitGets_33 (by decide) ?_
    refine r_sub (lv' := [(0, vA (some a)), (1, vI x1), (2, vI x2), (4, vI x4), (5, vI x5), (6, vI n37), (7, vI n38), (8, vI v40)]) [3, 4, 5, 7, 8, 2, 1, 0] rfl ?_
    exact s_Md_circuitGets_37 C a x1 x2 x4 x5 n37 n38 v40 (1 : Int32)
theorem d_Md_openAt_0 : decode c_Md_openAt 0 = .ok (.iconst 0, 1) := by decide +kernel
theorem d_Md_openAt_1 : decode c_Md_openAt 1 = .ok (.istore_n 3, 1) := by decide +kernel
theorem d_Md_openAt_2 : decode c_Md_openAt 2 = .ok (.iload_n 3, 1) := by decide +kernel
theorem d_Md_openAt_3 : decode c_Md_openAt 3 = .ok (.aload_n 0, 1) := by decide +kernel
theorem d_Md_openAt_4 : decode c_Md_openAt 4 = .ok (.getfield 75, 3) := by decide +kernel
theorem d_Md_openAt_7 : decode c_Md_openAt 7 = .ok (.iload_n 1, 1) := by decide +kernel
theorem d_Md_openAt_8 : decode c_Md_openAt 8 = .ok (.iaload, 1) := by decide +kernel
theorem d_Md_openAt_9 : decode c_Md_openAt 9 = .ok (.if_icmp .ge 26, 3) := by decide +kernel
theorem d_Md_openAt_12 : decode c_Md_openAt 12 = .ok (.aload_n 0, 1) := by decide +kernel
theorem d_Md_openAt_13 : decode c_Md_openAt 13 = .ok (.getfield 72, 3) := by decide +kernel
theorem d_Md_openAt_16 : decode c_Md_openAt 16 = .ok (.bipush 32, 2) := by decide +kernel
theorem d_Md_openAt_18 : decode c_Md_openAt 18 = .ok (.iload_n 1, 1) := by decide +kernel
theorem d_Md_openAt_19 : decode c_Md_openAt 19 = .ok (.imul, 1) := by decide +kernel
theorem d_Md_openAt_20 : decode c_Md_openAt 20 = .ok (.iload_n 3, 1) := by decide +kernel
theorem d_Md_openAt_21 : decode c_Md_openAt 21 = .ok (.iadd, 1) := by decide +kernel
theorem d_Md_openAt_22 : decode c_Md_openAt 22 = .ok (.iaload, 1) := by decide +kernel
theorem d_Md_openAt_23 : decode c_Md_openAt 23 = .ok (.iload_n 2, 1) := by decide +kernel
theorem d_Md_openAt_24 : decode c_Md_openAt 24 = .ok (.if_icmp .ne 5, 3) := by decide +kernel
theorem d_Md_openAt_27 : decode c_Md_openAt 27 = .ok (.iload_n 3, 1) := by decide +kernel
theorem d_Md_openAt_28 : decode c_Md_openAt 28 = .ok (.ireturn, 1) := by decide +kernel
theorem d_Md_openAt_29 : decode c_Md_openAt 29 = .ok (.iinc 3 1, 3) := by decide +kernel
theorem d_Md_openAt_32 : decode c_Md_openAt 32 = .ok (.goto (-30), 3) := by decide +kernel
theorem d_Md_openAt_35 : decode c_Md_openAt 35 = .ok (.iconst (-1), 1) := by decide +kernel
theorem d_Md_openAt_36 : decode c_Md_openAt 36 = .ok (.ireturn, 1) := by decide +kernel
def f_Md_openAt_2 (a : Nat) : Nat → Int32 → Int32 → Int32 → sn_M
  | 0, _, _, _ => r_0
  | n + 1, x1, x2, x3 => g_R 12 27 (some a) fun v1 => a_I 31 v1 x1 fun v2 => (if v2 ≤ x3 then r_I (-1 : Int32) else g_R 12 26 (some a) fun v3 => a_I 31 v3 (((32 : Int32) * x1) + x3) fun v4 => (if ¬ v4 = x2 then f_Md_openAt_2 a n x1 x2 (x3 + (1 : Int32)) else r_I x3))
set_option maxHeartbeats 4000000 in
set_option maxRecDepth 100000 in
theorem mono_Md_openAt_2 (a : Nat) : ∀ (n : Nat) (x1 : Int32) (x2 : Int32) (x3 : Int32), sn_Mono (f_Md_openAt_2 a n x1 x2 x3)
  | 0, _, _, _ => sn_Mono.r0
  | n + 1, x1, x2, x3 => sn_Mono.gR (fun v1 => sn_Mono.aI (fun v2 => sn_Mono.ite (sn_Mono.rI) (sn_Mono.gR (fun v3 => sn_Mono.aI (fun v4 => sn_Mono.ite (mono_Md_openAt_2 a n x1 x2 (x3 + (1 : Int32))) (sn_Mono.rI))))))
set_option maxHeartbeats 4000000 in
set_option maxRecDepth 100000 in
theorem s_Md_openAt_2 {X : sn_X} (C : sn_Cx X c_Md_openAt "SignalNetworkModel" (some .int) "openAt" 4 0 0) (a : Nat) (n : Nat) : ∀ (x1 : Int32) (x2 : Int32) (x3 : Int32), sn_S X 2 [(0, vA (some a)), (1, vI x1), (2, vI x2), (3, vI x3)] [] (f_Md_openAt_2 a n x1 x2 x3) := by
  induction n with
  | zero => intro x1 x2 x3; exact sn_S.zero
  | succ n ih =>
    intro x1 x2 x3
    unfold f_Md_openAt_2
    refine r_iload_n (q := 3) (i := 3) (pl := 3) C d_Md_openAt_2 rfl rfl rfl ?_
    refine r_aload_n (q := 4) (i := 0) (pl := 0) C d_Md_openAt_3 rfl rfl rfl ?_
    refine r_gR (q := 7) C d_Md_openAt_4 rfl F_Md_75 rfl (fun v1 => ?_)
    refine r_iload_n (q := 8) (i := 1) (pl := 1) C d_Md_openAt_7 rfl rfl rfl ?_
    refine r_aI (q := 9) C (Or.inr rfl) d_Md_openAt_8 rfl (fun v2 => ?_)
    refine r_icmp_ge (tgt := 35) (q := 12) C d_Md_openAt_9 (by decide) rfl ?_ ?_
    · refine r_iconst (q := 36) (v := -1) C d_Md_openAt_35 rfl (by decide) ?_
      exact r_iret C d_Md_openAt_36 rfl
    · refine r_aload_n (q := 13) (i := 0) (pl := 0) C d_Md_openAt_12 rfl rfl rfl ?_
      refine r_gR (q := 16) C d_Md_openAt_13 rfl F_Md_72 rfl (fun v3 => ?_)
      refine r_bipush (q := 18) (v := 32) C d_Md_openAt_16 rfl (by decide) ?_
      refine r_iload_n (q := 19) (i := 1) (pl := 1) C d_Md_openAt_18 rfl rfl rfl ?_
      refine r_imul (q := 20) C d_Md_openAt_19 rfl ?_
      refine r_iload_n (q := 21) (i := 3) (pl := 3) C d_Md_openAt_20 rfl rfl rfl ?_
      refine r_iadd (q := 22) C d_Md_openAt_21 rfl ?_
      refine r_aI (q := 23) C (Or.inr rfl) d_Md_openAt_22 rfl (fun v4 => ?_)
      refine r_iload_n (q := 24) (i := 2) (pl := 2) C d_Md_openAt_23 rfl rfl rfl ?_
      refine r_icmp_ne (tgt := 29) (q := 27) C d_Md_openAt_24 (by decide) rfl ?_ ?_
      · refine r_iinc (q := 32) (pl := 3) (v := x3 + (1 : Int32)) (lv' := [(3, vI (x3 + (1 : Int32))), (0, vA (some a)), (1, vI x1), (2, vI x2)]) C d_Md_openAt_29 rfl rfl rfl (by decide) rfl ?_
        refine r_goto (tgt := 2) C d_Md_openAt_32 (by decide) ?_
        refine r_sub (lv' := [(0, vA (some a)), (1, vI x1), (2, vI x2), (3, vI (x3 + (1 : Int32)))]) [1, 2, 3, 0] rfl ?_
        exact ih x1 x2 (x3 + (1 : Int32))
      · refine r_iload_n (q := 28) (i := 3) (pl := 3) C d_Md_openAt_27 rfl rfl rfl ?_
        exact r_iret C d_Md_openAt_28 rfl
def f_Md_openAt (a : Nat) (x1 : Int32) (x2 : Int32) : sn_M := f_Md_openAt_2 a sn_fuel x1 x2 (0 : Int32)
set_option maxHeartbeats 4000000 in
set_option maxRecDepth 100000 in
theorem mono_Md_openAt (a : Nat) (x1 : Int32) (x2 : Int32) : sn_Mono (f_Md_openAt a x1 x2) := mono_Md_openAt_2 a sn_fuel x1 x2 (0 : Int32)
set_option maxHeartbeats 4000000 in
set_option maxRecDepth 100000 in
theorem con_Md_openAt (a : Nat) (x1 : Int32) (x2 : Int32) : sn_Con y_Md_openAt c_Md_openAt 4 (some .int) 0 0 [vA (some a), vI x1, vI x2] (f_Md_openAt a x1 x2) := by
  refine sn_Con.of (by decide +kernel) (by show _ ≤ _; exact Nat.le_of_ble_eq_true rfl) (mono_Md_openAt a x1 x2) (fun X C => ?_)
  show sn_S X 0 [(0, vA (some a)), (1, vI x1), (2, vI x2)] [] _
  replace C : sn_Cx X c_Md_openAt "SignalNetworkModel" (some .int) "openAt" 4 0 0 := C
  unfold f_Md_openAt
  refine r_iconst (q := 1) (v := 0) C d_Md_openAt_0 rfl (by decide) ?_
  refine r_istore_n (q := 2) (i := 3) (lv' := [(3, vI (0 : Int32)), (0, vA (some a)), (1, vI x1), (2, vI x2)]) C d_Md_openAt_1 rfl rfl (by decide) rfl ?_
  refine r_sub (lv' := [(0, vA (some a)), (1, vI x1), (2, vI x2), (3, vI (0 : Int32))]) [1, 2, 3, 0] rfl ?_
  exact s_Md_openAt_2 C a sn_fuel x1 x2 (0 : Int32)
theorem d_Md_overEnds_0 : decode c_Md_overEnds 0 = .ok (.aload_n 0, 1) := by decide +kernel
theorem d_Md_overEnds_1 : decode c_Md_overEnds 1 = .ok (.iload_n 2, 1) := by decide +kernel
theorem d_Md_overEnds_2 : decode c_Md_overEnds 2 = .ok (.iload_n 1, 1) := by decide +kernel
theorem d_Md_overEnds_3 : decode c_Md_overEnds 3 = .ok (.invokevirtual 216, 3) := by decide +kernel
theorem d_Md_overEnds_6 : decode c_Md_overEnds 6 = .ok (.istore 4, 2) := by decide +kernel
theorem d_Md_overEnds_8 : decode c_Md_overEnds 8 = .ok (.aload_n 0, 1) := by decide +kernel
theorem d_Md_overEnds_9 : decode c_Md_overEnds 9 = .ok (.getfield 114, 3) := by decide +kernel
theorem d_Md_overEnds_12 : decode c_Md_overEnds 12 = .ok (.iload 4, 2) := by decide +kernel
theorem d_Md_overEnds_14 : decode c_Md_overEnds 14 = .ok (.iaload, 1) := by decide +kernel
theorem d_Md_overEnds_15 : decode c_Md_overEnds 15 = .ok (.ifCond .ne 4, 3) := by decide +kernel
theorem d_Md_overEnds_18 : decode c_Md_overEnds 18 = .ok (.return_, 1) := by decide +kernel
theorem d_Md_overEnds_19 : decode c_Md_overEnds 19 = .ok (.aload_n 0, 1) := by decide +kernel
theorem d_Md_overEnds_20 : decode c_Md_overEnds 20 = .ok (.iload 4, 2) := by decide +kernel
theorem d_Md_overEnds_22 : decode c_Md_overEnds 22 = .ok (.invokevirtual 259, 3) := by decide +kernel
theorem d_Md_overEnds_25 : decode c_Md_overEnds 25 = .ok (.istore 5, 2) := by decide +kernel
theorem d_Md_overEnds_27 : decode c_Md_overEnds 27 = .ok (.aload_n 0, 1) := by decide +kernel
theorem d_Md_overEnds_28 : decode c_Md_overEnds 28 = .ok (.getfield 114, 3) := by decide +kernel
theorem d_Md_overEnds_31 : decode c_Md_overEnds 31 = .ok (.iload 4, 2) := by decide +kernel
theorem d_Md_overEnds_33 : decode c_Md_overEnds 33 = .ok (.iconst 0, 1) := by decide +kernel
theorem d_Md_overEnds_34 : decode c_Md_overEnds 34 = .ok (.iastore, 1) := by decide +kernel
theorem d_Md_overEnds_35 : decode c_Md_overEnds 35 = .ok (.iload_n 3, 1) := by decide +kernel
theorem d_Md_overEnds_36 : decode c_Md_overEnds 36 = .ok (.iconst (-1), 1) := by decide +kernel
theorem d_Md_overEnds_37 : decode c_Md_overEnds 37 = .ok (.if_icmp .ne 30, 3) := by decide +kernel
theorem d_Md_overEnds_40 : decode c_Md_overEnds 40 = .ok (.aload_n 0, 1) := by decide +kernel
theorem d_Md_overEnds_41 : decode c_Md_overEnds 41 = .ok (.dup, 1) := by decide +kernel
theorem d_Md_overEnds_42 : decode c_Md_overEnds 42 = .ok (.getfield 219, 3) := by decide +kernel
theorem d_Md_overEnds_45 : decode c_Md_overEnds 45 = .ok (.aload_n 0, 1) := by decide +kernel
theorem d_Md_overEnds_46 : decode c_Md_overEnds 46 = .ok (.getfield 75, 3) := by decide +kernel
theorem d_Md_overEnds_49 : decode c_Md_overEnds 49 = .ok (.iload 4, 2) := by decide +kernel
theorem d_Md_overEnds_51 : decode c_Md_overEnds 51 = .ok (.iaload, 1) := by decide +kernel
theorem d_Md_overEnds_52 : decode c_Md_overEnds 52 = .ok (.iadd, 1) := by decide +kernel
theorem d_Md_overEnds_53 : decode c_Md_overEnds 53 = .ok (.putfield 219, 3) := by decide +kernel
theorem d_Md_overEnds_56 : decode c_Md_overEnds 56 = .ok (.aload_n 0, 1) := by decide +kernel
theorem d_Md_overEnds_57 : decode c_Md_overEnds 57 = .ok (.getfield 75, 3) := by decide +kernel
theorem d_Md_overEnds_60 : decode c_Md_overEnds 60 = .ok (.iload 4, 2) := by decide +kernel
theorem d_Md_overEnds_62 : decode c_Md_overEnds 62 = .ok (.iconst 0, 1) := by decide +kernel
theorem d_Md_overEnds_63 : decode c_Md_overEnds 63 = .ok (.iastore, 1) := by decide +kernel
theorem d_Md_overEnds_64 : decode c_Md_overEnds 64 = .ok (.goto 29, 3) := by decide +kernel
theorem d_Md_overEnds_67 : decode c_Md_overEnds 67 = .ok (.aload_n 0, 1) := by decide +kernel
theorem d_Md_overEnds_68 : decode c_Md_overEnds 68 = .ok (.iload 4, 2) := by decide +kernel
theorem d_Md_overEnds_70 : decode c_Md_overEnds 70 = .ok (.iload_n 3, 1) := by decide +kernel
theorem d_Md_overEnds_71 : decode c_Md_overEnds 71 = .ok (.invokevirtual 295, 3) := by decide +kernel
theorem d_Md_overEnds_74 : decode c_Md_overEnds 74 = .ok (.iconst (-1), 1) := by decide +kernel
theorem d_Md_overEnds_75 : decode c_Md_overEnds 75 = .ok (.if_icmp .eq 18, 3) := by decide +kernel
theorem d_Md_overEnds_78 : decode c_Md_overEnds 78 = .ok (.aload_n 0, 1) := by decide +kernel
theorem d_Md_overEnds_79 : decode c_Md_overEnds 79 = .ok (.iload 4, 2) := by decide +kernel
theorem d_Md_overEnds_81 : decode c_Md_overEnds 81 = .ok (.aload_n 0, 1) := by decide +kernel
theorem d_Md_overEnds_82 : decode c_Md_overEnds 82 = .ok (.iload 4, 2) := by decide +kernel
theorem d_Md_overEnds_84 : decode c_Md_overEnds 84 = .ok (.iload_n 3, 1) := by decide +kernel
theorem d_Md_overEnds_85 : decode c_Md_overEnds 85 = .ok (.invokevirtual 295, 3) := by decide +kernel
theorem d_Md_overEnds_88 : decode c_Md_overEnds 88 = .ok (.iconst 1, 1) := by decide +kernel
theorem d_Md_overEnds_89 : decode c_Md_overEnds 89 = .ok (.iadd, 1) := by decide +kernel
theorem d_Md_overEnds_90 : decode c_Md_overEnds 90 = .ok (.invokevirtual 298, 3) := by decide +kernel
theorem d_Md_overEnds_93 : decode c_Md_overEnds 93 = .ok (.iconst 0, 1) := by decide +kernel
theorem d_Md_overEnds_94 : decode c_Md_overEnds 94 = .ok (.istore 6, 2) := by decide +kernel
theorem d_Md_overEnds_96 : decode c_Md_overEnds 96 = .ok (.iconst 0, 1) := by decide +kernel
theorem d_Md_overEnds_97 : decode c_Md_overEnds 97 = .ok (.istore 7, 2) := by decide +kernel
theorem d_Md_overEnds_99 : decode c_Md_overEnds 99 = .ok (.iload 7, 2) := by decide +kernel
theorem d_Md_overEnds_101 : decode c_Md_overEnds 101 = .ok (.aload_n 0, 1) := by decide +kernel
theorem d_Md_overEnds_102 : decode c_Md_overEnds 102 = .ok (.getfield 75, 3) := by decide +kernel
theorem d_Md_overEnds_105 : decode c_Md_overEnds 105 = .ok (.iload 4, 2) := by decide +kernel
theorem d_Md_overEnds_107 : decode c_Md_overEnds 107 = .ok (.iaload, 1) := by decide +kernel
theorem d_Md_overEnds_108 : decode c_Md_overEnds 108 = .ok (.if_icmp .ge 32, 3) := by decide +kernel
theorem d_Md_overEnds_111 : decode c_Md_overEnds 111 = .ok (.aload_n 0, 1) := by decide +kernel
theorem d_Md_overEnds_112 : decode c_Md_overEnds 112 = .ok (.getfield 183, 3) := by decide +kernel
theorem d_Md_overEnds_115 : decode c_Md_overEnds 115 = .ok (.iload 6, 2) := by decide +kernel
theorem d_Md_overEnds_117 : decode c_Md_overEnds 117 = .ok (.aload_n 0, 1) := by decide +kernel
theorem d_Md_overEnds_118 : decode c_Md_overEnds 118 = .ok (.getfield 68, 3) := by decide +kernel
theorem d_Md_overEnds_121 : decode c_Md_overEnds 121 = .ok (.bipush 32, 2) := by decide +kernel
theorem d_Md_overEnds_123 : decode c_Md_overEnds 123 = .ok (.iload 4, 2) := by decide +kernel
theorem d_Md_overEnds_125 : decode c_Md_overEnds 125 = .ok (.imul, 1) := by decide +kernel
theorem d_Md_overEnds_126 : decode c_Md_overEnds 126 = .ok (.iload 7, 2) := by decide +kernel
theorem d_Md_overEnds_128 : decode c_Md_overEnds 128 = .ok (.iadd, 1) := by decide +kernel
theorem d_Md_overEnds_129 : decode c_Md_overEnds 129 = .ok (.laload, 1) := by decide +kernel
theorem d_Md_overEnds_130 : decode c_Md_overEnds 130 = .ok (.lastore, 1) := by decide +kernel
theorem d_Md_overEnds_131 : decode c_Md_overEnds 131 = .ok (.iinc 6 1, 3) := by decide +kernel
theorem d_Md_overEnds_134 : decode c_Md_overEnds 134 = .ok (.iinc 7 1, 3) := by decide +kernel
theorem d_Md_overEnds_137 : decode c_Md_overEnds 137 = .ok (.goto (-38), 3) := by decide +kernel
theorem d_Md_overEnds_140 : decode c_Md_overEnds 140 = .ok (.iconst 0, 1) := by decide +kernel
theorem d_Md_overEnds_141 : decode c_Md_overEnds 141 = .ok (.istore 7, 2) := by decide +kernel
theorem d_Md_overEnds_143 : decode c_Md_overEnds 143 = .ok (.iload 7, 2) := by decide +kernel
theorem d_Md_overEnds_145 : decode c_Md_overEnds 145 = .ok (.aload_n 0, 1) := by decide +kernel
theorem d_Md_overEnds_146 : decode c_Md_overEnds 146 = .ok (.getfield 81, 3) := by decide +kernel
theorem d_Md_overEnds_149 : decode c_Md_overEnds 149 = .ok (.iload 4, 2) := by decide +kernel
theorem d_Md_overEnds_151 : decode c_Md_overEnds 151 = .ok (.iaload, 1) := by decide +kernel
theorem d_Md_overEnds_152 : decode c_Md_overEnds 152 = .ok (.if_icmp .ge 32, 3) := by decide +kernel
theorem d_Md_overEnds_155 : decode c_Md_overEnds 155 = .ok (.aload_n 0, 1) := by decide +kernel
theorem d_Md_overEnds_156 : decode c_Md_overEnds 156 = .ok (.getfield 183, 3) := by decide +kernel
theorem d_Md_overEnds_159 : decode c_Md_overEnds 159 = .ok (.iload 6, 2) := by decide +kernel
theorem d_Md_overEnds_161 : decode c_Md_overEnds 161 = .ok (.aload_n 0, 1) := by decide +kernel
theorem d_Md_overEnds_162 : decode c_Md_overEnds 162 = .ok (.getfield 78, 3) := by decide +kernel
theorem d_Md_overEnds_165 : decode c_Md_overEnds 165 = .ok (.bipush 64, 2) := by decide +kernel
theorem d_Md_overEnds_167 : decode c_Md_overEnds 167 = .ok (.iload 4, 2) := by decide +kernel
theorem d_Md_overEnds_169 : decode c_Md_overEnds 169 = .ok (.imul, 1) := by decide +kernel
theorem d_Md_overEnds_170 : decode c_Md_overEnds 170 = .ok (.iload 7, 2) := by decide +kernel
theorem d_Md_overEnds_172 : decode c_Md_overEnds 172 = .ok (.iadd, 1) := by decide +kernel
theorem d_Md_overEnds_173 : decode c_Md_overEnds 173 = .ok (.laload, 1) := by decide +kernel
theorem d_Md_overEnds_174 : decode c_Md_overEnds 174 = .ok (.lastore, 1) := by decide +kernel
theorem d_Md_overEnds_175 : decode c_Md_overEnds 175 = .ok (.iinc 6 1, 3) := by decide +kernel
theorem d_Md_overEnds_178 : decode c_Md_overEnds 178 = .ok (.iinc 7 1, 3) := by decide +kernel
theorem d_Md_overEnds_181 : decode c_Md_overEnds 181 = .ok (.goto (-38), 3) := by decide +kernel
theorem d_Md_overEnds_184 : decode c_Md_overEnds 184 = .ok (.aload_n 0, 1) := by decide +kernel
theorem d_Md_overEnds_185 : decode c_Md_overEnds 185 = .ok (.getfield 75, 3) := by decide +kernel
theorem d_Md_overEnds_188 : decode c_Md_overEnds 188 = .ok (.iload 4, 2) := by decide +kernel
theorem d_Md_overEnds_190 : decode c_Md_overEnds 190 = .ok (.iconst 0, 1) := by decide +kernel
theorem d_Md_overEnds_191 : decode c_Md_overEnds 191 = .ok (.iastore, 1) := by decide +kernel
theorem d_Md_overEnds_192 : decode c_Md_overEnds 192 = .ok (.aload_n 0, 1) := by decide +kernel
theorem d_Md_overEnds_193 : decode c_Md_overEnds 193 = .ok (.getfield 81, 3) := by decide +kernel
theorem d_Md_overEnds_196 : decode c_Md_overEnds 196 = .ok (.iload 4, 2) := by decide +kernel
theorem d_Md_overEnds_198 : decode c_Md_overEnds 198 = .ok (.iconst 0, 1) := by decide +kernel
theorem d_Md_overEnds_199 : decode c_Md_overEnds 199 = .ok (.iastore, 1) := by decide +kernel
theorem d_Md_overEnds_200 : decode c_Md_overEnds 200 = .ok (.aload_n 0, 1) := by decide +kernel
theorem d_Md_overEnds_201 : decode c_Md_overEnds 201 = .ok (.getfield 56, 3) := by decide +kernel
theorem d_Md_overEnds_204 : decode c_Md_overEnds 204 = .ok (.iload 4, 2) := by decide +kernel
theorem d_Md_overEnds_206 : decode c_Md_overEnds 206 = .ok (.iconst (-1), 1) := by decide +kernel
theorem d_Md_overEnds_207 : decode c_Md_overEnds 207 = .ok (.iastore, 1) := by decide +kernel
theorem d_Md_overEnds_208 : decode c_Md_overEnds 208 = .ok (.iconst 0, 1) := by decide +kernel
theorem d_Md_overEnds_209 : decode c_Md_overEnds 209 = .ok (.istore 7, 2) := by decide +kernel
theorem d_Md_overEnds_211 : decode c_Md_overEnds 211 = .ok (.iload 7, 2) := by decide +kernel
theorem d_Md_overEnds_213 : decode c_Md_overEnds 213 = .ok (.iconst 4, 1) := by decide +kernel
theorem d_Md_overEnds_214 : decode c_Md_overEnds 214 = .ok (.if_icmp .ge 129, 3) := by decide +kernel
theorem d_Md_overEnds_217 : decode c_Md_overEnds 217 = .ok (.aload_n 0, 1) := by decide +kernel
theorem d_Md_overEnds_218 : decode c_Md_overEnds 218 = .ok (.iload_n 1, 1) := by decide +kernel
theorem d_Md_overEnds_219 : decode c_Md_overEnds 219 = .ok (.iload 5, 2) := by decide +kernel
theorem d_Md_overEnds_221 : decode c_Md_overEnds 221 = .ok (.iload 7, 2) := by decide +kernel
theorem d_Md_overEnds_223 : decode c_Md_overEnds 223 = .ok (.invokevirtual 212, 3) := by decide +kernel
theorem d_Md_overEnds_226 : decode c_Md_overEnds 226 = .ok (.istore 8, 2) := by decide +kernel
theorem d_Md_overEnds_228 : decode c_Md_overEnds 228 = .ok (.aload_n 0, 1) := by decide +kernel
theorem d_Md_overEnds_229 : decode c_Md_overEnds 229 = .ok (.getfield 120, 3) := by decide +kernel
theorem d_Md_overEnds_232 : decode c_Md_overEnds 232 = .ok (.iload 8, 2) := by decide +kernel
theorem d_Md_overEnds_234 : decode c_Md_overEnds 234 = .ok (.iaload, 1) := by decide +kernel
theorem d_Md_overEnds_235 : decode c_Md_overEnds 235 = .ok (.iconst 1, 1) := by decide +kernel
theorem d_Md_overEnds_236 : decode c_Md_overEnds 236 = .ok (.if_icmp .ne 101, 3) := by decide +kernel
theorem d_Md_overEnds_239 : decode c_Md_overEnds 239 = .ok (.aload_n 0, 1) := by decide +kernel
theorem d_Md_overEnds_240 : decode c_Md_overEnds 240 = .ok (.getfield 123, 3) := by decide +kernel
theorem d_Md_overEnds_243 : decode c_Md_overEnds 243 = .ok (.iload 8, 2) := by decide +kernel
theorem d_Md_overEnds_245 : decode c_Md_overEnds 245 = .ok (.iaload, 1) := by decide +kernel
theorem d_Md_overEnds_246 : decode c_Md_overEnds 246 = .ok (.iload_n 2, 1) := by decide +kernel
theorem d_Md_overEnds_247 : decode c_Md_overEnds 247 = .ok (.if_icmp .eq 6, 3) := by decide +kernel
theorem d_Md_overEnds_250 : decode c_Md_overEnds 250 = .ok (.goto 87, 3) := by decide +kernel
theorem d_Md_overEnds_253 : decode c_Md_overEnds 253 = .ok (.aload_n 0, 1) := by decide +kernel
theorem d_Md_overEnds_254 : decode c_Md_overEnds 254 = .ok (.getfield 120, 3) := by decide +kernel
theorem d_Md_overEnds_257 : decode c_Md_overEnds 257 = .ok (.iload 8, 2) := by decide +kernel
theorem d_Md_overEnds_259 : decode c_Md_overEnds 259 = .ok (.iconst 0, 1) := by decide +kernel
theorem d_Md_overEnds_260 : decode c_Md_overEnds 260 = .ok (.iastore, 1) := by decide +kernel
theorem d_Md_overEnds_261 : decode c_Md_overEnds 261 = .ok (.aload_n 0, 1) := by decide +kernel
theorem d_Md_overEnds_262 : decode c_Md_overEnds 262 = .ok (.getfield 123, 3) := by decide +kernel
theorem d_Md_overEnds_265 : decode c_Md_overEnds 265 = .ok (.iload 8, 2) := by decide +kernel
theorem d_Md_overEnds_267 : decode c_Md_overEnds 267 = .ok (.iconst (-1), 1) := by decide +kernel
theorem d_Md_overEnds_268 : decode c_Md_overEnds 268 = .ok (.iastore, 1) := by decide +kernel
theorem d_Md_overEnds_269 : decode c_Md_overEnds 269 = .ok (.aload_n 0, 1) := by decide +kernel
theorem d_Md_overEnds_270 : decode c_Md_overEnds 270 = .ok (.getfield 117, 3) := by decide +kernel
theorem d_Md_overEnds_273 : decode c_Md_overEnds 273 = .ok (.iload 8, 2) := by decide +kernel
theorem d_Md_overEnds_275 : decode c_Md_overEnds 275 = .ok (.aload_n 0, 1) := by decide +kernel
theorem d_Md_overEnds_276 : decode c_Md_overEnds 276 = .ok (.iload_n 1, 1) := by decide +kernel
theorem d_Md_overEnds_277 : decode c_Md_overEnds 277 = .ok (.iload 5, 2) := by decide +kernel
theorem d_Md_overEnds_279 : decode c_Md_overEnds 279 = .ok (.iload 7, 2) := by decide +kernel
theorem d_Md_overEnds_281 : decode c_Md_overEnds 281 = .ok (.invokevirtual 269, 3) := by decide +kernel
theorem d_Md_overEnds_284 : decode c_Md_overEnds 284 = .ok (.iastore, 1) := by decide +kernel
theorem d_Md_overEnds_285 : decode c_Md_overEnds 285 = .ok (.iconst 0, 1) := by decide +kernel
theorem d_Md_overEnds_286 : decode c_Md_overEnds 286 = .ok (.istore 9, 2) := by decide +kernel
theorem d_Md_overEnds_288 : decode c_Md_overEnds 288 = .ok (.iload 9, 2) := by decide +kernel
theorem d_Md_overEnds_290 : decode c_Md_overEnds 290 = .ok (.aload_n 0, 1) := by decide +kernel
theorem d_Md_overEnds_291 : decode c_Md_overEnds 291 = .ok (.getfield 135, 3) := by decide +kernel
theorem d_Md_overEnds_294 : decode c_Md_overEnds 294 = .ok (.iload 8, 2) := by decide +kernel
theorem d_Md_overEnds_296 : decode c_Md_overEnds 296 = .ok (.iaload, 1) := by decide +kernel
theorem d_Md_overEnds_297 : decode c_Md_overEnds 297 = .ok (.if_icmp .ge 32, 3) := by decide +kernel
theorem d_Md_overEnds_300 : decode c_Md_overEnds 300 = .ok (.aload_n 0, 1) := by decide +kernel
theorem d_Md_overEnds_301 : decode c_Md_overEnds 301 = .ok (.getfield 183, 3) := by decide +kernel
theorem d_Md_overEnds_304 : decode c_Md_overEnds 304 = .ok (.iload 6, 2) := by decide +kernel
theorem d_Md_overEnds_306 : decode c_Md_overEnds 306 = .ok (.aload_n 0, 1) := by decide +kernel
theorem d_Md_overEnds_307 : decode c_Md_overEnds 307 = .ok (.getfield 132, 3) := by decide +kernel
theorem d_Md_overEnds_310 : decode c_Md_overEnds 310 = .ok (.bipush 64, 2) := by decide +kernel
theorem d_Md_overEnds_312 : decode c_Md_overEnds 312 = .ok (.iload 8, 2) := by decide +kernel
theorem d_Md_overEnds_314 : decode c_Md_overEnds 314 = .ok (.imul, 1) := by decide +kernel
theorem d_Md_overEnds_315 : decode c_Md_overEnds 315 = .ok (.iload 9, 2) := by decide +kernel
theorem d_Md_overEnds_317 : decode c_Md_overEnds 317 = .ok (.iadd, 1) := by decide +kernel
theorem d_Md_overEnds_318 : decode c_Md_overEnds 318 = .ok (.laload, 1) := by decide +kernel
theorem d_Md_overEnds_319 : decode c_Md_overEnds 319 = .ok (.lastore, 1) := by decide +kernel
theorem d_Md_overEnds_320 : decode c_Md_overEnds 320 = .ok (.iinc 6 1, 3) := by decide +kernel
theorem d_Md_overEnds_323 : decode c_Md_overEnds 323 = .ok (.iinc 9 1, 3) := by decide +kernel
theorem d_Md_overEnds_326 : decode c_Md_overEnds 326 = .ok (.goto (-38), 3) := by decide +kernel
theorem d_Md_overEnds_329 : decode c_Md_overEnds 329 = .ok (.aload_n 0, 1) := by decide +kernel
theorem d_Md_overEnds_330 : decode c_Md_overEnds 330 = .ok (.getfield 135, 3) := by decide +kernel
theorem d_Md_overEnds_333 : decode c_Md_overEnds 333 = .ok (.iload 8, 2) := by decide +kernel
theorem d_Md_overEnds_335 : decode c_Md_overEnds 335 = .ok (.iconst 0, 1) := by decide +kernel
theorem d_Md_overEnds_336 : decode c_Md_overEnds 336 = .ok (.iastore, 1) := by decide +kernel
theorem d_Md_overEnds_337 : decode c_Md_overEnds 337 = .ok (.iinc 7 1, 3) := by decide +kernel
theorem d_Md_overEnds_340 : decode c_Md_overEnds 340 = .ok (.goto (-129), 3) := by decide +kernel
theorem d_Md_overEnds_343 : decode c_Md_overEnds 343 = .ok (.iconst 0, 1) := by decide +kernel
theorem d_Md_overEnds_344 : decode c_Md_overEnds 344 = .ok (.istore 7, 2) := by decide +kernel
theorem d_Md_overEnds_346 : decode c_Md_overEnds 346 = .ok (.iload 7, 2) := by decide +kernel
theorem d_Md_overEnds_348 : decode c_Md_overEnds 348 = .ok (.iload 6, 2) := by decide +kernel
theorem d_Md_overEnds_350 : decode c_Md_overEnds 350 = .ok (.if_icmp .ge 107, 3) := by decide +kernel
theorem d_Md_overEnds_353 : decode c_Md_overEnds 353 = .ok (.aload_n 0, 1) := by decide +kernel
theorem d_Md_overEnds_354 : decode c_Md_overEnds 354 = .ok (.getfield 183, 3) := by decide +kernel
theorem d_Md_overEnds_357 : decode c_Md_overEnds 357 = .ok (.iload 7, 2) := by decide +kernel
theorem d_Md_overEnds_359 : decode c_Md_overEnds 359 = .ok (.laload, 1) := by decide +kernel
theorem d_Md_overEnds_360 : decode c_Md_overEnds 360 = .ok (.lstore 8, 2) := by decide +kernel
theorem d_Md_overEnds_362 : decode c_Md_overEnds 362 = .ok (.lload 8, 2) := by decide +kernel
theorem d_Md_overEnds_364 : decode c_Md_overEnds 364 = .ok (.invokestatic 325, 3) := by decide +kernel
theorem d_Md_overEnds_367 : decode c_Md_overEnds 367 = .ok (.iconst 3, 1) := by decide +kernel
theorem d_Md_overEnds_368 : decode c_Md_overEnds 368 = .ok (.if_icmp .eq 83, 3) := by decide +kernel
theorem d_Md_overEnds_371 : decode c_Md_overEnds 371 = .ok (.lload 8, 2) := by decide +kernel
theorem d_Md_overEnds_373 : decode c_Md_overEnds 373 = .ok (.invokestatic 325, 3) := by decide +kernel
theorem d_Md_overEnds_376 : decode c_Md_overEnds 376 = .ok (.iconst 4, 1) := by decide +kernel
theorem d_Md_overEnds_377 : decode c_Md_overEnds 377 = .ok (.if_icmp .ne 6, 3) := by decide +kernel
theorem d_Md_overEnds_380 : decode c_Md_overEnds 380 = .ok (.goto 71, 3) := by decide +kernel
theorem d_Md_overEnds_383 : decode c_Md_overEnds 383 = .ok (.aload_n 0, 1) := by decide +kernel
theorem d_Md_overEnds_384 : decode c_Md_overEnds 384 = .ok (.iload_n 1, 1) := by decide +kernel
theorem d_Md_overEnds_385 : decode c_Md_overEnds 385 = .ok (.iload 5, 2) := by decide +kernel
theorem d_Md_overEnds_387 : decode c_Md_overEnds 387 = .ok (.lload 8, 2) := by decide +kernel
theorem d_Md_overEnds_389 : decode c_Md_overEnds 389 = .ok (.invokestatic 230, 3) := by decide +kernel
theorem d_Md_overEnds_392 : decode c_Md_overEnds 392 = .ok (.invokevirtual 234, 3) := by decide +kernel
theorem d_Md_overEnds_395 : decode c_Md_overEnds 395 = .ok (.ifCond .eq 20, 3) := by decide +kernel
theorem d_Md_overEnds_398 : decode c_Md_overEnds 398 = .ok (.aload_n 0, 1) := by decide +kernel
theorem d_Md_overEnds_399 : decode c_Md_overEnds 399 = .ok (.iload_n 1, 1) := by decide +kernel
theorem d_Md_overEnds_400 : decode c_Md_overEnds 400 = .ok (.iload 5, 2) := by decide +kernel
theorem d_Md_overEnds_402 : decode c_Md_overEnds 402 = .ok (.lload 8, 2) := by decide +kernel
theorem d_Md_overEnds_404 : decode c_Md_overEnds 404 = .ok (.invokestatic 230, 3) := by decide +kernel
theorem d_Md_overEnds_407 : decode c_Md_overEnds 407 = .ok (.lload 8, 2) := by decide +kernel
theorem d_Md_overEnds_409 : decode c_Md_overEnds 409 = .ok (.invokevirtual 237, 3) := by decide +kernel
theorem d_Md_overEnds_412 : decode c_Md_overEnds 412 = .ok (.goto 39, 3) := by decide +kernel
theorem d_Md_overEnds_415 : decode c_Md_overEnds 415 = .ok (.lload 8, 2) := by decide +kernel
theorem d_Md_overEnds_417 : decode c_Md_overEnds 417 = .ok (.invokestatic 325, 3) := by decide +kernel
theorem d_Md_overEnds_420 : decode c_Md_overEnds 420 = .ok (.bipush 7, 2) := by decide +kernel
theorem d_Md_overEnds_422 : decode c_Md_overEnds 422 = .ok (.if_icmp .lt 19, 3) := by decide +kernel
theorem d_Md_overEnds_425 : decode c_Md_overEnds 425 = .ok (.aload_n 0, 1) := by decide +kernel
theorem d_Md_overEnds_426 : decode c_Md_overEnds 426 = .ok (.iload_n 1, 1) := by decide +kernel
theorem d_Md_overEnds_427 : decode c_Md_overEnds 427 = .ok (.lload 8, 2) := by decide +kernel
theorem d_Md_overEnds_429 : decode c_Md_overEnds 429 = .ok (.invokestatic 308, 3) := by decide +kernel
theorem d_Md_overEnds_432 : decode c_Md_overEnds 432 = .ok (.lload 8, 2) := by decide +kernel
theorem d_Md_overEnds_434 : decode c_Md_overEnds 434 = .ok (.iconst (-1), 1) := by decide +kernel
theorem d_Md_overEnds_435 : decode c_Md_overEnds 435 = .ok (.invokevirtual 241, 3) := by decide +kernel
theorem d_Md_overEnds_438 : decode c_Md_overEnds 438 = .ok (.goto 13, 3) := by decide +kernel
theorem d_Md_overEnds_441 : decode c_Md_overEnds 441 = .ok (.aload_n 0, 1) := by decide +kernel
theorem d_Md_overEnds_442 : decode c_Md_overEnds 442 = .ok (.dup, 1) := by decide +kernel
theorem d_Md_overEnds_443 : decode c_Md_overEnds 443 = .ok (.getfield 219, 3) := by decide +kernel
theorem d_Md_overEnds_446 : decode c_Md_overEnds 446 = .ok (.iconst 1, 1) := by decide +kernel
theorem d_Md_overEnds_447 : decode c_Md_overEnds 447 = .ok (.iadd, 1) := by decide +kernel
theorem d_Md_overEnds_448 : decode c_Md_overEnds 448 = .ok (.putfield 219, 3) := by decide +kernel
theorem d_Md_overEnds_451 : decode c_Md_overEnds 451 = .ok (.iinc 7 1, 3) := by decide +kernel
theorem d_Md_overEnds_454 : decode c_Md_overEnds 454 = .ok (.goto (-108), 3) := by decide +kernel
theorem d_Md_overEnds_457 : decode c_Md_overEnds 457 = .ok (.aload_n 0, 1) := by decide +kernel
theorem d_Md_overEnds_458 : decode c_Md_overEnds 458 = .ok (.iload_n 1, 1) := by decide +kernel
theorem d_Md_overEnds_459 : decode c_Md_overEnds 459 = .ok (.invokevirtual 266, 3) := by decide +kernel
theorem d_Md_overEnds_462 : decode c_Md_overEnds 462 = .ok (.return_, 1) := by decide +kernel
def f_Md_overEnds_337 (k211 : Int32 → Int32 → Int32 → Int32 → Int32 → sn_M) (a : Nat) (x1 : Int32) (x2 : Int32) (x5 : Int32) (x6 : Int32) (x7 : Int32) : sn_M := k211 x1 x2 x5 x6 (x7 + (1 : Int32))
set_option maxHeartbeats 4000000 in
set_option maxRecDepth 100000 in
theorem mono_Md_overEnds_337 (k211 : Int32 → Int32 → Int32 → Int32 → Int32 → sn_M) (mk211 : ∀ (x1 : Int32) (x2 : Int32) (x5 : Int32) (x6 : Int32) (x7 : Int32), sn_Mono (k211 x1 x2 x5 x6 x7)) (a : Nat) (x1 : Int32) (x2 : Int32) (x5 : Int32) (x6 : Int32) (x7 : Int32) : sn_Mono (f_Md_overEnds_337 k211 a x1 x2 x5 x6 x7) := mk211 x1 x2 x5 x6 (x7 + (1 : Int32))
set_option maxHeartbeats 4000000 in
set_option maxRecDepth 100000 in
theorem s_Md_overEnds_337 {X : sn_X} (C : sn_Cx X c_Md_overEnds "SignalNetworkModel" none "overEnds" 10 5 118) (a : Nat) (k211 : Int32 → Int32 → Int32 → Int32 → Int32 → sn_M) (hk211 : ∀ (x1 : Int32) (x2 : Int32) (x5 : Int32) (x6 : Int32) (x7 : Int32), sn_S X 211 [(0, vA (some a)), (1, vI x1), (2, vI x2), (5, vI x5), (6, vI x6), (7, vI x7)] [] (k211 x1 x2 x5 x6 x7)) (x1 : Int32) (x2 : Int32) (x5 : Int32) (x6 : Int32) (x7 : Int32) : sn_S X 337 [(0, vA (some a)), (1, vI x1), (2, vI x2), (5, vI x5), (6, vI x6), (7, vI x7)] [] (f_Md_overEnds_337 k211 a x1 x2 x5 x6 x7) := by
  unfold f_Md_overEnds_337
  refine r_iinc (q := 340) (pl := 5) (v := x7 + (1 : Int32)) (lv' := [(7, vI (x7 + (1 : Int32))), (0, vA (some a)), (1, vI x1), (2, vI x2), (5, vI x5), (6, vI x6)]) C d_Md_overEnds_337 rfl rfl rfl (by decide) rfl ?_
  refine r_goto (tgt := 211) C d_Md_overEnds_340 (by decide) ?_
  refine r_sub (lv' := [(0, vA (some a)), (1, vI x1), (2, vI x2), (5, vI x5), (6, vI x6), (7, vI (x7 + (1 : Int32)))]) [1, 2, 3, 4, 5, 0] rfl ?_
  exact hk211 x1 x2 x5 x6 (x7 + (1 : Int32))
def f_Md_overEnds_288 (k211 : Int32 → Int32 → Int32 → Int32 → Int32 → sn_M) (a : Nat) : Nat → Int32 → Int32 → Int32 → Int32 → Int32 → Int32 → Int32 → sn_M
  | 0, _, _, _, _, _, _, _ => r_0
  | n + 1, x1, x2, x5, x6, x7, x8, x9 => g_R 12 47 (some a) fun v1 => a_I 31 v1 x8 fun v2 => (if v2 ≤ x9 then g_R 12 47 (some a) fun v3 => b_I 31 v3 x8 (0 : Int32) (f_Md_overEnds_337 k211 a x1 x2 x5 x6 x7) else g_R 12 63 (some a) fun v4 => g_R 12 46 (some a) fun v5 => a_J 32 v5 (((64 : Int32) * x8) + x9) fun v6 => b_J 32 v4 x6 v6 (f_Md_overEnds_288 k211 a n x1 x2 x5 (x6 + (1 : Int32)) x7 x8 (x9 + (1 : Int32))))
set_option maxHeartbeats 4000000 in
set_option maxRecDepth 100000 in
theorem mono_Md_overEnds_288 (k211 : Int32 → Int32 → Int32 → Int32 → Int32 → sn_M) (mk211 : ∀ (x1 : Int32) (x2 : Int32) (x5 : Int32) (x6 : Int32) (x7 : Int32), sn_Mono (k211 x1 x2 x5 x6 x7)) (a : Nat) : ∀ (n : Nat) (x1 : Int32) (x2 : Int32) (x5 : Int32) (x6 : Int32) (x7 : Int32) (x8 : Int32) (x9 : Int32), sn_Mono (f_Md_overEnds_288 k211 a n x1 x2 x5 x6 x7 x8 x9)
  | 0, _, _, _, _, _, _, _ => sn_Mono.r0
  | n + 1, x1, x2, x5, x6, x7, x8, x9 => sn_Mono.gR (fun v1 => sn_Mono.aI (fun v2 => sn_Mono.ite (sn_Mono.gR (fun v3 => sn_Mono.bI (mono_Md_overEnds_337 k211 mk211 a x1 x2 x5 x6 x7))) (sn_Mono.gR (fun v4 => sn_Mono.gR (fun v5 => sn_Mono.aJ (fun v6 => sn_Mono.bJ (mono_Md_overEnds_288 k211 mk211 a n x1 x2 x5 (x6 + (1 : Int32)) x7 x8 (x9 + (1 : Int32)))))))))
set_option maxHeartbeats 4000000 in
set_option maxRecDepth 100000 in
theorem s_Md_overEnds_288 {X : sn_X} (C : sn_Cx X c_Md_overEnds "SignalNetworkModel" none "overEnds" 10 5 118) (a : Nat) (k211 : Int32 → Int32 → Int32 → Int32 → Int32 → sn_M) (hk211 : ∀ (x1 : Int32) (x2 : Int32) (x5 : Int32) (x6 : Int32) (x7 : Int32), sn_S X 211 [(0, vA (some a)), (1, vI x1), (2, vI x2), (5, vI x5), (6, vI x6), (7, vI x7)] [] (k211 x1 x2 x5 x6 x7)) (n : Nat) : ∀ (x1 : Int32) (x2 : Int32) (x5 : Int32) (x6 : Int32) (x7 : Int32) (x8 : Int32) (x9 : Int32), sn_S X 288 [(0, vA (some a)), (1, vI x1), (2, vI x2), (5, vI x5), (6, vI x6), (7, vI x7), (8, vI x8), (9, vI x9)] [] (f_Md_overEnds_288 k211 a n x1 x2 x5 x6 x7 x8 x9) := by
  induction n with
  | zero => intro x1 x2 x5 x6 x7 x8 x9; exact sn_S.zero
  | succ n ih =>
    intro x1 x2 x5 x6 x7 x8 x9
    unfold f_Md_overEnds_288
    refine r_iload (q := 290) (i := 9) (pl := 7) C d_Md_overEnds_288 rfl rfl ?_
    refine r_aload_n (q := 291) (i := 0) (pl := 0) C d_Md_overEnds_290 rfl rfl rfl ?_
    refine r_gR (q := 294) C d_Md_overEnds_291 rfl F_Md_135 rfl (fun v1 => ?_)
    refine r_iload (q := 296) (i := 8) (pl := 6) C d_Md_overEnds_294 rfl rfl ?_
    refine r_aI (q := 297) C (Or.inr rfl) d_Md_overEnds_296 rfl (fun v2 => ?_)
    refine r_icmp_ge (tgt := 329) (q := 300) C d_Md_overEnds_297 (by decide) rfl ?_ ?_
    · refine r_aload_n (q := 330) (i := 0) (pl := 0) C d_Md_overEnds_329 rfl rfl rfl ?_
      refine r_gR (q := 333) C d_Md_overEnds_330 rfl F_Md_135 rfl (fun v3 => ?_)
      refine r_iload (q := 335) (i := 8) (pl := 6) C d_Md_overEnds_333 rfl rfl ?_
      refine r_iconst (q := 336) (v := 0) C d_Md_overEnds_335 rfl (by decide) ?_
      refine r_bI (q := 337) C (Or.inr rfl) d_Md_overEnds_336 rfl ?_
      refine r_sub (lv' := [(0, vA (some a)), (1, vI x1), (2, vI x2), (5, vI x5), (6, vI x6), (7, vI x7)]) [0, 1, 2, 3, 4, 5] rfl ?_
      exact s_Md_overEnds_337 C a k211 hk211 x1 x2 x5 x6 x7
    · refine r_aload_n (q := 301) (i := 0) (pl := 0) C d_Md_overEnds_300 rfl rfl rfl ?_
      refine r_gR (q := 304) C d_Md_overEnds_301 rfl F_Md_183 rfl (fun v4 => ?_)
      refine r_iload (q := 306) (i := 6) (pl := 4) C d_Md_overEnds_304 rfl rfl ?_
      refine r_aload_n (q := 307) (i := 0) (pl := 0) C d_Md_overEnds_306 rfl rfl rfl ?_
      refine r_gR (q := 310) C d_Md_overEnds_307 rfl F_Md_132 rfl (fun v5 => ?_)
      refine r_bipush (q := 312) (v := 64) C d_Md_overEnds_310 rfl (by decide) ?_
      refine r_iload (q := 314) (i := 8) (pl := 6) C d_Md_overEnds_312 rfl rfl ?_
      refine r_imul (q := 315) C d_Md_overEnds_314 rfl ?_
      refine r_iload (q := 317) (i := 9) (pl := 7) C d_Md_overEnds_315 rfl rfl ?_
      refine r_iadd (q := 318) C d_Md_overEnds_317 rfl ?_
      refine r_aJ (q := 319) C (Or.inr rfl) d_Md_overEnds_318 rfl (fun v6 => ?_)
      refine r_bJ (q := 320) C (Or.inr rfl) d_Md_overEnds_319 rfl ?_
      refine r_iinc (q := 323) (pl := 4) (v := x6 + (1 : Int32)) (lv' := [(6, vI (x6 + (1 : Int32))), (0, vA (some a)), (1, vI x1), (2, vI x2), (5, vI x5), (7, vI x7), (8, vI x8), (9, vI x9)]) C d_Md_overEnds_320 rfl rfl rfl (by decide) rfl ?_
      refine r_iinc (q := 326) (pl := 7) (v := x9 + (1 : Int32)) (lv' := [(9, vI (x9 + (1 : Int32))), (6, vI (x6 + (1 : Int32))), (0, vA (some a)), (1, vI x1), (2, vI x2), (5, vI x5), (7, vI x7), (8, vI x8)]) C d_Md_overEnds_323 rfl rfl rfl (by decide) rfl ?_
      refine r_goto (tgt := 288) C d_Md_overEnds_326 (by decide) ?_
      refine r_sub (lv' := [(0, vA (some a)), (1, vI x1), (2, vI x2), (5, vI x5), (6, vI (x6 + (1 : Int32))), (7, vI x7), (8, vI x8), (9, vI (x9 + (1 : Int32)))]) [2, 3, 4, 5, 1, 6, 7, 0] rfl ?_
      exact ih x1 x2 x5 (x6 + (1 : Int32)) x7 x8 (x9 + (1 : Int32))
def f_Md_overEnds_451 (k346 : Int32 → Int32 → Int32 → Int32 → sn_M) (a : Nat) (x1 : Int32) (x5 : Int32) (x6 : Int32) (x7 : Int32) : sn_M := k346 x1 x5 x6 (x7 + (1 : Int32))
set_option maxHeartbeats 4000000 in
set_option maxRecDepth 100000 in
theorem mono_Md_overEnds_451 (k346 : Int32 → Int32 → Int32 → Int32 → sn_M) (mk346 : ∀ (x1 : Int32) (x5 : Int32) (x6 : Int32) (x7 : Int32), sn_Mono (k346 x1 x5 x6 x7)) (a : Nat) (x1 : Int32) (x5 : Int32) (x6 : Int32) (x7 : Int32) : sn_Mono (f_Md_overEnds_451 k346 a x1 x5 x6 x7) := mk346 x1 x5 x6 (x7 + (1 : Int32))
set_option maxHeartbeats 4000000 in
set_option maxRecDepth 100000 in
theorem s_Md_overEnds_451 {X : sn_X} (C : sn_Cx X c_Md_overEnds "SignalNetworkModel" none "overEnds" 10 5 118) (a : Nat) (k346 : Int32 → Int32 → Int32 → Int32 → sn_M) (hk346 : ∀ (x1 : Int32) (x5 : Int32) (x6 : Int32) (x7 : Int32), sn_S X 346 [(0, vA (some a)), (1, vI x1), (5, vI x5), (6, vI x6), (7, vI x7)] [] (k346 x1 x5 x6 x7)) (x1 : Int32) (x5 : Int32) (x6 : Int32) (x7 : Int32) : sn_S X 451 [(0, vA (some a)), (1, vI x1), (5, vI x5), (6, vI x6), (7, vI x7)] [] (f_Md_overEnds_451 k346 a x1 x5 x6 x7) := by
  unfold f_Md_overEnds_451
  refine r_iinc (q := 454) (pl := 4) (v := x7 + (1 : Int32)) (lv' := [(7, vI (x7 + (1 : Int32))), (0, vA (some a)), (1, vI x1), (5, vI x5), (6, vI x6)]) C d_Md_overEnds_451 rfl rfl rfl (by decide) rfl ?_
  refine r_goto (tgt := 346) C d_Md_overEnds_454 (by decide) ?_
  refine r_sub (lv' := [(0, vA (some a)), (1, vI x1), (5, vI x5), (6, vI x6), (7, vI (x7 + (1 : Int32)))]) [1, 2, 3, 4, 0] rfl ?_
  exact hk346 x1 x5 x6 (x7 + (1 : Int32))
def f_Md_overEnds_346 (a : Nat) : Nat → Int32 → Int32 → Int32 → Int32 → sn_M
  | 0, _, _, _, _ => r_0
  | n + 1, x1, x5, x6, x7 => (if x6 ≤ x7 then n_n 12 (some a) fun a7 => c_V (f_Md_look a7 x1) (r_V) else g_R 12 63 (some a) fun v9 => a_J 32 v9 x7 fun v10 => c_I (f_Md_kindOf v10) fun v11 => (if v11 = (3 : Int32) then f_Md_overEnds_451 (f_Md_overEnds_346 a n) a x1 x5 x6 x7 else c_I (f_Md_kindOf v10) fun v12 => (if ¬ v12 = (4 : Int32) then c_I (f_Md_flowOf v10) fun v13 => n_n 12 (some a) fun a14 => c_I (f_Md_isOpen a14 x1 x5 v13) fun v15 => (if v15 = 0 then c_I (f_Md_kindOf v10) fun v16 => (if v16 < (7 : Int32) then g_I 12 7 (some a) fun v17 => p_I 12 7 (some a) (v17 + (1 : Int32)) (f_Md_overEnds_451 (f_Md_overEnds_346 a n) a x1 x5 x6 x7) else c_I (f_Md_toOf v10) fun v18 => n_n 12 (some a) fun a19 => c_V (f_Md_route a19 x1 v18 v10 (-1 : Int32)) (f_Md_overEnds_451 (f_Md_overEnds_346 a n) a x1 x5 x6 x7)) else c_I (f_Md_flowOf v10) fun v21 => n_n 12 (some a) fun a22 => c_V (f_Md_give a22 x1 x5 v21 v10) (f_Md_overEnds_451 (f_Md_overEnds_346 a n) a x1 x5 x6 x7)) else f_Md_overEnds_451 (f_Md_overEnds_346 a n) a x1 x5 x6 x7)))
set_option maxHeartbeats 4000000 in
set_option maxRecDepth 100000 in
theorem mono_Md_overEnds_346 (a : Nat) : ∀ (n : Nat) (x1 : Int32) (x5 : Int32) (x6 : Int32) (x7 : Int32), sn_Mono (f_Md_overEnds_346 a n x1 x5 x6 x7)
  | 0, _, _, _, _ => sn_Mono.r0
  | n + 1, x1, x5, x6, x7 => sn_Mono.ite (sn_Mono.nn (fun a7 => sn_Mono.cV (mono_Md_look a7 x1) (sn_Mono.rV))) (sn_Mono.gR (fun v9 => sn_Mono.aJ (fun v10 => sn_Mono.cI (mono_Md_kindOf v10) (fun v11 => sn_Mono.ite (mono_Md_overEnds_451 (f_Md_overEnds_346 a n) (mono_Md_overEnds_346 a n) a x1 x5 x6 x7) (sn_Mono.cI (mono_Md_kindOf v10) (fun v12 => sn_Mono.ite (sn_Mono.cI (mono_Md_flowOf v10) (fun v13 => sn_Mono.nn (fun a14 => sn_Mono.cI (mono_Md_isOpen a14 x1 x5 v13) (fun v15 => sn_Mono.ite (sn_Mono.cI (mono_Md_kindOf v10) (fun v16 => sn_Mono.ite (sn_Mono.gI (fun v17 => sn_Mono.pI (mono_Md_overEnds_451 (f_Md_overEnds_346 a n) (mono_Md_overEnds_346 a n) a x1 x5 x6 x7))) (sn_Mono.cI (mono_Md_toOf v10) (fun v18 => sn_Mono.nn (fun a19 => sn_Mono.cV (mono_Md_route a19 x1 v18 v10 (-1 : Int32)) (mono_Md_overEnds_451 (f_Md_overEnds_346 a n) (mono_Md_overEnds_346 a n) a x1 x5 x6 x7)))))) (sn_Mono.cI (mono_Md_flowOf v10) (fun v21 => sn_Mono.nn (fun a22 => sn_Mono.cV (mono_Md_give a22 x1 x5 v21 v10) (mono_Md_overEnds_451 (f_Md_overEnds_346 a n) (mono_Md_overEnds_346 a n) a x1 x5 x6 x7)))))))) (mono_Md_overEnds_451 (f_Md_overEnds_346 a n) (mono_Md_overEnds_346 a n) a x1 x5 x6 x7)))))))
set_option maxHeartbeats 4000000 in
set_option maxRecDepth 100000 in
theorem s_Md_overEnds_346 {X : sn_X} (C : sn_Cx X c_Md_overEnds "SignalNetworkModel" none "overEnds" 10 5 118) (a : Nat) (n : Nat) : ∀ (x1 : Int32) (x5 : Int32) (x6 : Int32) (x7 : Int32), sn_S X 346 [(0, vA (some a)), (1, vI x1), (5, vI x5), (6, vI x6), (7, vI x7)] [] (f_Md_overEnds_346 a n x1 x5 x6 x7) := by
  induction n with
  | zero => intro x1 x5 x6 x7; exact sn_S.zero
  | succ n ih =>
    intro x1 x5 x6 x7
    unfold f_Md_overEnds_346
    refine r_iload (q := 348) (i := 7) (pl := 4) C d_Md_overEnds_346 rfl rfl ?_
    refine r_iload (q := 350) (i := 6) (pl := 3) C d_Md_overEnds_348 rfl rfl ?_
    refine r_icmp_ge (tgt := 457) (q := 353) C d_Md_overEnds_350 (by decide) rfl ?_ ?_
    · refine r_aload_n (q := 458) (i := 0) (pl := 0) C d_Md_overEnds_457 rfl rfl rfl ?_
      refine r_iload_n (q := 459) (i := 1) (pl := 1) C d_Md_overEnds_458 rfl rfl rfl ?_
      refine r_cvV (q := 462) (As := [vI x1]) (st := []) (cy := 11) C d_Md_overEnds_459 rfl Y_Md_look L_Md_266 I_Md_look Se_Md_look rfl (by decide) rfl (Nat.le_of_ble_eq_true rfl) (Nat.le_of_ble_eq_true rfl) (Nat.le_of_ble_eq_true rfl) rfl (fun a7 => con_Md_look a7 x1) ?_
      exact r_vret C d_Md_overEnds_462 rfl
    · refine r_aload_n (q := 354) (i := 0) (pl := 0) C d_Md_overEnds_353 rfl rfl rfl ?_
      refine r_gR (q := 357) C d_Md_overEnds_354 rfl F_Md_183 rfl (fun v9 => ?_)
      refine r_iload (q := 359) (i := 7) (pl := 4) C d_Md_overEnds_357 rfl rfl ?_
      refine r_aJ (q := 360) C (Or.inr rfl) d_Md_overEnds_359 rfl (fun v10 => ?_)
      refine r_lstore (q := 362) (i := 8) (lv' := [(8, vJ v10), (0, vA (some a)), (1, vI x1), (5, vI x5), (6, vI x6), (7, vI x7)]) C d_Md_overEnds_360 rfl (by decide) rfl ?_
      refine r_lload (q := 364) (i := 8) (pl := 0) C d_Md_overEnds_362 rfl rfl ?_
      refine r_csI (q := 367) (As := [vJ v10]) (st := []) C d_Md_overEnds_364 rfl Y_Md_kindOf L_Md_325 St_Md_kindOf rfl (Nat.le_of_ble_eq_true rfl) (Nat.le_of_ble_eq_true rfl) (Nat.le_of_ble_eq_true rfl) rfl (con_Md_kindOf v10) (fun v11 => ?_)
      refine r_iconst (q := 368) (v := 3) C d_Md_overEnds_367 rfl (by decide) ?_
      refine r_icmp_eq (tgt := 451) (q := 371) C d_Md_overEnds_368 (by decide) rfl ?_ ?_
      · refine r_sub (lv' := [(0, vA (some a)), (1, vI x1), (5, vI x5), (6, vI x6), (7, vI x7)]) [1, 2, 3, 4, 5] rfl ?_
        exact s_Md_overEnds_451 C a (f_Md_overEnds_346 a n) ih x1 x5 x6 x7
      · refine r_lload (q := 373) (i := 8) (pl := 0) C d_Md_overEnds_371 rfl rfl ?_
        refine r_csI (q := 376) (As := [vJ v10]) (st := []) C d_Md_overEnds_373 rfl Y_Md_kindOf L_Md_325 St_Md_kindOf rfl (Nat.le_of_ble_eq_true rfl) (Nat.le_of_ble_eq_true rfl) (Nat.le_of_ble_eq_true rfl) rfl (con_Md_kindOf v10) (fun v12 => ?_)
        refine r_iconst (q := 377) (v := 4) C d_Md_overEnds_376 rfl (by decide) ?_
        refine r_icmp_ne (tgt := 383) (q := 380) C d_Md_overEnds_377 (by decide) rfl ?_ ?_
        · refine r_aload_n (q := 384) (i := 0) (pl := 1) C d_Md_overEnds_383 rfl rfl rfl ?_
          refine r_iload_n (q := 385) (i := 1) (pl := 2) C d_Md_overEnds_384 rfl rfl rfl ?_
          refine r_iload (q := 387) (i := 5) (pl := 3) C d_Md_overEnds_385 rfl rfl ?_
          refine r_lload (q := 389) (i := 8) (pl := 0) C d_Md_overEnds_387 rfl rfl ?_
          refine r_csI (q := 392) (As := [vJ v10]) (st := [vI x5, vI x1, vA (some a)]) C d_Md_overEnds_389 rfl Y_Md_flowOf L_Md_230 St_Md_flowOf rfl (Nat.le_of_ble_eq_true rfl) (Nat.le_of_ble_eq_true rfl) (Nat.le_of_ble_eq_true rfl) rfl (con_Md_flowOf v10) (fun v13 => ?_)
          refine r_cvI (q := 395) (As := [vI x1, vI x5, vI v13]) (st := []) (cy := 11) C d_Md_overEnds_392 rfl Y_Md_isOpen L_Md_234 I_Md_isOpen Se_Md_isOpen rfl (by decide) rfl (Nat.le_of_ble_eq_true rfl) (Nat.le_of_ble_eq_true rfl) (Nat.le_of_ble_eq_true rfl) rfl (fun a14 => con_Md_isOpen a14 x1 x5 v13) (fun v15 => ?_)
          refine r_if_eq (tgt := 415) (q := 398) C d_Md_overEnds_395 (by decide) rfl ?_ ?_
          · refine r_lload (q := 417) (i := 8) (pl := 0) C d_Md_overEnds_415 rfl rfl ?_
            refine r_csI (q := 420) (As := [vJ v10]) (st := []) C d_Md_overEnds_417 rfl Y_Md_kindOf L_Md_325 St_Md_kindOf rfl (Nat.le_of_ble_eq_true rfl) (Nat.le_of_ble_eq_true rfl) (Nat.le_of_ble_eq_true rfl) rfl (con_Md_kindOf v10) (fun v16 => ?_)
            refine r_bipush (q := 422) (v := 7) C d_Md_overEnds_420 rfl (by decide) ?_
            refine r_icmp_lt (tgt := 441) (q := 425) C d_Md_overEnds_422 (by decide) rfl ?_ ?_
            · refine r_aload_n (q := 442) (i := 0) (pl := 1) C d_Md_overEnds_441 rfl rfl rfl ?_
              refine r_dup (q := 443) C d_Md_overEnds_442 rfl rfl ?_
              refine r_gI (q := 446) C d_Md_overEnds_443 rfl F_Md_219 rfl (fun v17 => ?_)
              refine r_iconst (q := 447) (v := 1) C d_Md_overEnds_446 rfl (by decide) ?_
              refine r_iadd (q := 448) C d_Md_overEnds_447 rfl ?_
              refine r_pI (q := 451) C d_Md_overEnds_448 rfl F_Md_219 rfl rfl (Or.inl rfl) ?_
              refine r_sub (lv' := [(0, vA (some a)), (1, vI x1), (5, vI x5), (6, vI x6), (7, vI x7)]) [1, 2, 3, 4, 5] rfl ?_
              exact s_Md_overEnds_451 C a (f_Md_overEnds_346 a n) ih x1 x5 x6 x7
            · refine r_aload_n (q := 426) (i := 0) (pl := 1) C d_Md_overEnds_425 rfl rfl rfl ?_
              refine r_iload_n (q := 427) (i := 1) (pl := 2) C d_Md_overEnds_426 rfl rfl rfl ?_
              refine r_lload (q := 429) (i := 8) (pl := 0) C d_Md_overEnds_427 rfl rfl ?_
              refine r_csI (q := 432) (As := [vJ v10]) (st := [vI x1, vA (some a)]) C d_Md_overEnds_429 rfl Y_Md_toOf L_Md_308 St_Md_toOf rfl (Nat.le_of_ble_eq_true rfl) (Nat.le_of_ble_eq_true rfl) (Nat.le_of_ble_eq_true rfl) rfl (con_Md_toOf v10) (fun v18 => ?_)
              refine r_lload (q := 434) (i := 8) (pl := 0) C d_Md_overEnds_432 rfl rfl ?_
              refine r_iconst (q := 435) (v := -1) C d_Md_overEnds_434 rfl (by decide) ?_
              refine r_cvV (q := 438) (As := [vI x1, vI v18, vJ v10, vI (-1 : Int32)]) (st := []) (cy := 11) C d_Md_overEnds_435 rfl Y_Md_route L_Md_241 I_Md_route Se_Md_route rfl (by decide) rfl (Nat.le_of_ble_eq_true rfl) (Nat.le_of_ble_eq_true rfl) (Nat.le_of_ble_eq_true rfl) rfl (fun a19 => con_Md_route a19 x1 v18 v10 (-1 : Int32)) ?_
              refine r_goto (tgt := 451) C d_Md_overEnds_438 (by decide) ?_
              refine r_sub (lv' := [(0, vA (some a)), (1, vI x1), (5, vI x5), (6, vI x6), (7, vI x7)]) [1, 2, 3, 4, 5] rfl ?_
              exact s_Md_overEnds_451 C a (f_Md_overEnds_346 a n) ih x1 x5 x6 x7
          · refine r_aload_n (q := 399) (i := 0) (pl := 1) C d_Md_overEnds_398 rfl rfl rfl ?_
            refine r_iload_n (q := 400) (i := 1) (pl := 2) C d_Md_overEnds_399 rfl rfl rfl ?_
            refine r_iload (q := 402) (i := 5) (pl := 3) C d_Md_overEnds_400 rfl rfl ?_
            refine r_lload (q := 404) (i := 8) (pl := 0) C d_Md_overEnds_402 rfl rfl ?_
            refine r_csI (q := 407) (As := [vJ v10]) (st := [vI x5, vI x1, vA (some a)]) C d_Md_overEnds_404 rfl Y_Md_flowOf L_Md_230 St_Md_flowOf rfl (Nat.le_of_ble_eq_true rfl) (Nat.le_of_ble_eq_true rfl) (Nat.le_of_ble_eq_true rfl) rfl (con_Md_flowOf v10) (fun v21 => ?_)
            refine r_lload (q := 409) (i := 8) (pl := 0) C d_Md_overEnds_407 rfl rfl ?_
            refine r_cvV (q := 412) (As := [vI x1, vI x5, vI v21, vJ v10]) (st := []) (cy := 11) C d_Md_overEnds_409 rfl Y_Md_give L_Md_237 I_Md_give Se_Md_give rfl (by decide) rfl (Nat.le_of_ble_eq_true rfl) (Nat.le_of_ble_eq_true rfl) (Nat.le_of_ble_eq_true rfl) rfl (fun a22 => con_Md_give a22 x1 x5 v21 v10) ?_
            refine r_goto (tgt := 451) C d_Md_overEnds_412 (by decide) ?_
            refine r_sub (lv' := [(0, vA (some a)), (1, vI x1), (5, vI x5), (6, vI x6), (7, vI x7)]) [1, 2, 3, 4, 5] rfl ?_
            exact s_Md_overEnds_451 C a (f_Md_overEnds_346 a n) ih x1 x5 x6 x7
        · refine r_goto (tgt := 451) C d_Md_overEnds_380 (by decide) ?_
          refine r_sub (lv' := [(0, vA (some a)), (1, vI x1), (5, vI x5), (6, vI x6), (7, vI x7)]) [1, 2, 3, 4, 5] rfl ?_
          exact s_Md_overEnds_451 C a (f_Md_overEnds_346 a n) ih x1 x5 x6 x7
def f_Md_overEnds_211 (a : Nat) : Nat → Int32 → Int32 → Int32 → Int32 → Int32 → sn_M
  | 0, _, _, _, _, _ => r_0
  | n + 1, x1, x2, x5, x6, x7 => (if (4 : Int32) ≤ x7 then f_Md_overEnds_346 a sn_fuel x1 x5 x6 (0 : Int32) else n_n 12 (some a) fun a24 => c_I (f_Md_flowAt a24 x1 x5 x7) fun v25 => g_R 12 42 (some a) fun v26 => a_I 31 v26 v25 fun v27 => (if ¬ v27 = (1 : Int32) then f_Md_overEnds_337 (f_Md_overEnds_211 a n) a x1 x2 x5 x6 x7 else g_R 12 43 (some a) fun v28 => a_I 31 v28 v25 fun v29 => (if v29 = x2 then g_R 12 42 (some a) fun v30 => b_I 31 v30 v25 (0 : Int32) (g_R 12 43 (some a) fun v31 => b_I 31 v31 v25 (-1 : Int32) (g_R 12 41 (some a) fun v32 => n_n 12 (some a) fun a33 => c_I (f_Md_bestOf a33 x1 x5 x7) fun v34 => b_I 31 v32 v25 v34 (f_Md_overEnds_288 (f_Md_overEnds_211 a n) a sn_fuel x1 x2 x5 x6 x7 v25 (0 : Int32)))) else f_Md_overEnds_337 (f_Md_overEnds_211 a n) a x1 x2 x5 x6 x7)))
set_option maxHeartbeats 4000000 in
set_option maxRecDepth 100000 in
theorem mono_Md_overEnds_211 (a : Nat) : ∀ (n : Nat) (x1 : Int32) (x2 : Int32) (x5 : Int32) (x6 : Int32) (x7 : Int32), sn_Mono (f_Md_overEnds_211 a n x1 x2 x5 x6 x7)
  | 0, _, _, _, _, _ => sn_Mono.r0
  | n + 1, x1, x2, x5, x6, x7 => sn_Mono.ite (mono_Md_overEnds_346 a sn_fuel x1 x5 x6 (0 : Int32)) (sn_Mono.nn (fun a24 => sn_Mono.cI (mono_Md_flowAt a24 x1 x5 x7) (fun v25 => sn_Mono.gR (fun v26 => sn_Mono.aI (fun v27 => sn_Mono.ite (mono_Md_overEnds_337 (f_Md_overEnds_211 a n) (mono_Md_overEnds_211 a n) a x1 x2 x5 x6 x7) (sn_Mono.gR (fun v28 => sn_Mono.aI (fun v29 => sn_Mono.ite (sn_Mono.gR (fun v30 => sn_Mono.bI (sn_Mono.gR (fun v31 => sn_Mono.bI (sn_Mono.gR (fun v32 => sn_Mono.nn (fun a33 => sn_Mono.cI (mono_Md_bestOf a33 x1 x5 x7) (fun v34 => sn_Mono.bI (mono_Md_overEnds_288 (f_Md_overEnds_211 a n) (mono_Md_overEnds_211 a n) a sn_fuel x1 x2 x5 x6 x7 v25 (0 : Int32)))))))))) (mono_Md_overEnds_337 (f_Md_overEnds_211 a n) (mono_Md_overEnds_211 a n) a x1 x2 x5 x6 x7)))))))))
set_option maxHeartbeats 4000000 in
set_option maxRecDepth 100000 in
theorem s_Md_overEnds_211 {X : sn_X} (C : sn_Cx X c_Md_overEnds "SignalNetworkModel" none "overEnds" 10 5 118) (a : Nat) (n : Nat) : ∀ (x1 : Int32) (x2 : Int32) (x5 : Int32) (x6 : Int32) (x7 : Int32), sn_S X 211 [(0, vA (some a)), (1, vI x1), (2, vI x2), (5, vI x5), (6, vI x6), (7, vI x7)] [] (f_Md_overEnds_211 a n x1 x2 x5 x6 x7) := by
  induction n with
  | zero => intro x1 x2 x5 x6 x7; exact sn_S.zero
  | succ n ih =>
    intro x1 x2 x5 x6 x7
    unfold f_Md_overEnds_211
    refine r_iload (q := 213) (i := 7) (pl := 5) C d_Md_overEnds_211 rfl rfl ?_
    refine r_iconst (q := 214) (v := 4) C d_Md_overEnds_213 rfl (by decide) ?_
    refine r_icmp_ge (tgt := 343) (q := 217) C d_Md_overEnds_214 (by decide) rfl ?_ ?_
    · refine r_iconst (q := 344) (v := 0) C d_Md_overEnds_343 rfl (by decide) ?_
      refine r_istore (q := 346) (i := 7) (lv' := [(7, vI (0 : Int32)), (0, vA (some a)), (1, vI x1), (2, vI x2), (5, vI x5), (6, vI x6)]) C d_Md_overEnds_344 rfl (by decide) rfl ?_
      refine r_sub (lv' := [(0, vA (some a)), (1, vI x1), (5, vI x5), (6, vI x6), (7, vI (0 : Int32))]) [1, 2, 4, 5, 0] rfl ?_
      exact s_Md_overEnds_346 C a sn_fuel x1 x5 x6 (0 : Int32)
    · refine r_aload_n (q := 218) (i := 0) (pl := 0) C d_Md_overEnds_217 rfl rfl rfl ?_
      refine r_iload_n (q := 219) (i := 1) (pl := 1) C d_Md_overEnds_218 rfl rfl rfl ?_
      refine r_iload (q := 221) (i := 5) (pl := 3) C d_Md_overEnds_219 rfl rfl ?_
      refine r_iload (q := 223) (i := 7) (pl := 5) C d_Md_overEnds_221 rfl rfl ?_
      refine r_cvI (q := 226) (As := [vI x1, vI x5, vI x7]) (st := []) (cy := 11) C d_Md_overEnds_223 rfl Y_Md_flowAt L_Md_212 I_Md_flowAt Se_Md_flowAt rfl (by decide) rfl (Nat.le_of_ble_eq_true rfl) (Nat.le_of_ble_eq_true rfl) (Nat.le_of_ble_eq_true rfl) rfl (fun a24 => con_Md_flowAt a24 x1 x5 x7) (fun v25 => ?_)
      refine r_istore (q := 228) (i := 8) (lv' := [(8, vI v25), (0, vA (some a)), (1, vI x1), (2, vI x2), (5, vI x5), (6, vI x6), (7, vI x7)]) C d_Md_overEnds_226 rfl (by decide) rfl ?_
      refine r_aload_n (q := 229) (i := 0) (pl := 1) C d_Md_overEnds_228 rfl rfl rfl ?_
      refine r_gR (q := 232) C d_Md_overEnds_229 rfl F_Md_120 rfl (fun v26 => ?_)
      refine r_iload (q := 234) (i := 8) (pl := 0) C d_Md_overEnds_232 rfl rfl ?_
      refine r_aI (q := 235) C (Or.inr rfl) d_Md_overEnds_234 rfl (fun v27 => ?_)
      refine r_iconst (q := 236) (v := 1) C d_Md_overEnds_235 rfl (by decide) ?_
      refine r_icmp_ne (tgt := 337) (q := 239) C d_Md_overEnds_236 (by decide) rfl ?_ ?_
      · refine r_sub (lv' := [(0, vA (some a)), (1, vI x1), (2, vI x2), (5, vI x5), (6, vI x6), (7, vI x7)]) [1, 2, 3, 4, 5, 6] rfl ?_
        exact s_Md_overEnds_337 C a (f_Md_overEnds_211 a n) ih x1 x2 x5 x6 x7
      · refine r_aload_n (q := 240) (i := 0) (pl := 1) C d_Md_overEnds_239 rfl rfl rfl ?_
        refine r_gR (q := 243) C d_Md_overEnds_240 rfl F_Md_123 rfl (fun v28 => ?_)
        refine r_iload (q := 245) (i := 8) (pl := 0) C d_Md_overEnds_243 rfl rfl ?_
        refine r_aI (q := 246) C (Or.inr rfl) d_Md_overEnds_245 rfl (fun v29 => ?_)
        refine r_iload_n (q := 247) (i := 2) (pl := 3) C d_Md_overEnds_246 rfl rfl rfl ?_
        refine r_icmp_eq (tgt := 253) (q := 250) C d_Md_overEnds_247 (by decide) rfl ?_ ?_
        · refine r_aload_n (q := 254) (i := 0) (pl := 1) C d_Md_overEnds_253 rfl rfl rfl ?_
          refine r_gR (q := 257) C d_Md_overEnds_254 rfl F_Md_120 rfl (fun v30 => ?_)
          refine r_iload (q := 259) (i := 8) (pl := 0) C d_Md_overEnds_257 rfl rfl ?_
          refine r_iconst (q := 260) (v := 0) C d_Md_overEnds_259 rfl (by decide) ?_
          refine r_bI (q := 261) C (Or.inr rfl) d_Md_overEnds_260 rfl ?_
          refine r_aload_n (q := 262) (i := 0) (pl := 1) C d_Md_overEnds_261 rfl rfl rfl ?_
          refine r_gR (q := 265) C d_Md_overEnds_262 rfl F_Md_123 rfl (fun v31 => ?_)
          refine r_iload (q := 267) (i := 8) (pl := 0) C d_Md_overEnds_265 rfl rfl ?_
          refine r_iconst (q := 268) (v := -1) C d_Md_overEnds_267 rfl (by decide) ?_
          refine r_bI (q := 269) C (Or.inr rfl) d_Md_overEnds_268 rfl ?_
          refine r_aload_n (q := 270) (i := 0) (pl := 1) C d_Md_overEnds_269 rfl rfl rfl ?_
          refine r_gR (q := 273) C d_Md_overEnds_270 rfl F_Md_117 rfl (fun v32 => ?_)
          refine r_iload (q := 275) (i := 8) (pl := 0) C d_Md_overEnds_273 rfl rfl ?_
          refine r_aload_n (q := 276) (i := 0) (pl := 1) C d_Md_overEnds_275 rfl rfl rfl ?_
          refine r_iload_n (q := 277) (i := 1) (pl := 2) C d_Md_overEnds_276 rfl rfl rfl ?_
          refine r_iload (q := 279) (i := 5) (pl := 4) C d_Md_overEnds_277 rfl rfl ?_
          refine r_iload (q := 281) (i := 7) (pl := 6) C d_Md_overEnds_279 rfl rfl ?_
          refine r_cvI (q := 284) (As := [vI x1, vI x5, vI x7]) (st := [vI v25, vA v32]) (cy := 11) C d_Md_overEnds_281 rfl Y_Md_bestOf L_Md_269 I_Md_bestOf Se_Md_bestOf rfl (by decide) rfl (Nat.le_of_ble_eq_true rfl) (Nat.le_of_ble_eq_true rfl) (Nat.le_of_ble_eq_true rfl) rfl (fun a33 => con_Md_bestOf a33 x1 x5 x7) (fun v34 => ?_)
          refine r_bI (q := 285) C (Or.inr rfl) d_Md_overEnds_284 rfl ?_
          refine r_iconst (q := 286) (v := 0) C d_Md_overEnds_285 rfl (by decide) ?_
          refine r_istore (q := 288) (i := 9) (lv' := [(9, vI (0 : Int32)), (8, vI v25), (0, vA (some a)), (1, vI x1), (2, vI x2), (5, vI x5), (6, vI x6), (7, vI x7)]) C d_Md_overEnds_286 rfl (by decide) rfl ?_
          refine r_sub (lv' := [(0, vA (some a)), (1, vI x1), (2, vI x2), (5, vI x5), (6, vI x6), (7, vI x7), (8, vI v25), (9, vI (0 : Int32))]) [2, 3, 4, 5, 6, 7, 1, 0] rfl ?_
          exact s_Md_overEnds_288 C a (f_Md_overEnds_211 a n) ih sn_fuel x1 x2 x5 x6 x7 v25 (0 : Int32)
        · refine r_goto (tgt := 337) C d_Md_overEnds_250 (by decide) ?_
          refine r_sub (lv' := [(0, vA (some a)), (1, vI x1), (2, vI x2), (5, vI x5), (6, vI x6), (7, vI x7)]) [1, 2, 3, 4, 5, 6] rfl ?_
          exact s_Md_overEnds_337 C a (f_Md_overEnds_211 a n) ih x1 x2 x5 x6 x7
def f_Md_overEnds_143 (a : Nat) : Nat → Int32 → Int32 → Int32 → Int32 → Int32 → Int32 → sn_M
  | 0, _, _, _, _, _, _ => r_0
  | n + 1, x1, x2, x4, x5, x6, x7 => g_R 12 29 (some a) fun v35 => a_I 31 v35 x4 fun v36 => (if v36 ≤ x7 then g_R 12 27 (some a) fun v37 => b_I 31 v37 x4 (0 : Int32) (g_R 12 29 (some a) fun v38 => b_I 31 v38 x4 (0 : Int32) (g_R 12 21 (some a) fun v39 => b_I 31 v39 x4 (-1 : Int32) (f_Md_overEnds_211 a sn_fuel x1 x2 x5 x6 (0 : Int32)))) else g_R 12 63 (some a) fun v40 => g_R 12 28 (some a) fun v41 => a_J 32 v41 (((64 : Int32) * x4) + x7) fun v42 => b_J 32 v40 x6 v42 (f_Md_overEnds_143 a n x1 x2 x4 x5 (x6 + (1 : Int32)) (x7 + (1 : Int32))))
set_option maxHeartbeats 4000000 in
set_option maxRecDepth 100000 in
theorem mono_Md_overEnds_143 (a : Nat) : ∀ (n : Nat) (x1 : Int32) (x2 : Int32) (x4 : Int32) (x5 : Int32) (x6 : Int32) (x7 : Int32), sn_Mono (f_Md_overEnds_143 a n x1 x2 x4 x5 x6 x7)
  | 0, _, _, _, _, _, _ => sn_Mono.r0
  | n + 1, x1, x2, x4, x5, x6, x7 => sn_Mono.gR (fun v35 => sn_Mono.aI (fun v36 => sn_Mono.ite (sn_Mono.gR (fun v37 => sn_Mono.bI (sn_Mono.gR (fun v38 => sn_Mono.bI (sn_Mono.gR (fun v39 => sn_Mono.bI (mono_Md_overEnds_211 a sn_fuel x1 x2 x5 x6 (0 : Int32)))))))) (sn_Mono.gR (fun v40 => sn_Mono.gR (fun v41 => sn_Mono.aJ (fun v42 => sn_Mono.bJ (mono_Md_overEnds_143 a n x1 x2 x4 x5 (x6 + (1 : Int32)) (x7 + (1 : Int32)))))))))
set_option maxHeartbeats 4000000 in
set_option maxRecDepth 100000 in
theorem s_Md_overEnds_143 {X : sn_X} (C : sn_Cx X c_Md_overEnds "SignalNetworkModel" none "overEnds" 10 5 118) (a : Nat) (n : Nat) : ∀ (x1 : Int32) (x2 : Int32) (x4 : Int32) (x5 : Int32) (x6 : Int32) (x7 : Int32), sn_S X 143 [(0, vA (some a)), (1, vI x1), (2, vI x2), (4, vI x4), (5, vI x5), (6, vI x6), (7, vI x7)] [] (f_Md_overEnds_143 a n x1 x2 x4 x5 x6 x7) := by
  induction n with
  | zero => intro x1 x2 x4 x5 x6 x7; exact sn_S.zero
  | succ n ih =>
    intro x1 x2 x4 x5 x6 x7
    unfold f_Md_overEnds_143
    refine r_iload (q := 145) (i := 7) (pl := 6) C d_Md_overEnds_143 rfl rfl ?_
    refine r_aload_n (q := 146) (i := 0) (pl := 0) C d_Md_overEnds_145 rfl rfl rfl ?_
    refine r_gR (q := 149) C d_Md_overEnds_146 rfl F_Md_81 rfl (fun v35 => ?_)
    refine r_iload (q := 151) (i := 4) (pl := 3) C d_Md_overEnds_149 rfl rfl ?_
    refine r_aI (q := 152) C (Or.inr rfl) d_Md_overEnds_151 rfl (fun v36 => ?_)
    refine r_icmp_ge (tgt := 184) (q := 155) C d_Md_overEnds_152 (by decide) rfl ?_ ?_
    · refine r_aload_n (q := 185) (i := 0) (pl := 0) C d_Md_overEnds_184 rfl rfl rfl ?_
      refine r_gR (q := 188) C d_Md_overEnds_185 rfl F_Md_75 rfl (fun v37 => ?_)
      refine r_iload (q := 190) (i := 4) (pl := 3) C d_Md_overEnds_188 rfl rfl ?_
      refine r_iconst (q := 191) (v := 0) C d_Md_overEnds_190 rfl (by decide) ?_
      refine r_bI (q := 192) C (Or.inr rfl) d_Md_overEnds_191 rfl ?_
      refine r_aload_n (q := 193) (i := 0) (pl := 0) C d_Md_overEnds_192 rfl rfl rfl ?_
      refine r_gR (q := 196) C d_Md_overEnds_193 rfl F_Md_81 rfl (fun v38 => ?_)
      refine r_iload (q := 198) (i := 4) (pl := 3) C d_Md_overEnds_196 rfl rfl ?_
      refine r_iconst (q := 199) (v := 0) C d_Md_overEnds_198 rfl (by decide) ?_
      refine r_bI (q := 200) C (Or.inr rfl) d_Md_overEnds_199 rfl ?_
      refine r_aload_n (q := 201) (i := 0) (pl := 0) C d_Md_overEnds_200 rfl rfl rfl ?_
      refine r_gR (q := 204) C d_Md_overEnds_201 rfl F_Md_56 rfl (fun v39 => ?_)
      refine r_iload (q := 206) (i := 4) (pl := 3) C d_Md_overEnds_204 rfl rfl ?_
      refine r_iconst (q := 207) (v := -1) C d_Md_overEnds_206 rfl (by decide) ?_
      refine r_bI (q := 208) C (Or.inr rfl) d_Md_overEnds_207 rfl ?_
      refine r_iconst (q := 209) (v := 0) C d_Md_overEnds_208 rfl (by decide) ?_
      refine r_istore (q := 211) (i := 7) (lv' := [(7, vI (0 : Int32)), (0, vA (some a)), (1, vI x1), (2, vI x2), (4, vI x4), (5, vI x5), (6, vI x6)]) C d_Md_overEnds_209 rfl (by decide) rfl ?_
      refine r_sub (lv' := [(0, vA (some a)), (1, vI x1), (2, vI x2), (5, vI x5), (6, vI x6), (7, vI (0 : Int32))]) [1, 2, 3, 5, 6, 0] rfl ?_
      exact s_Md_overEnds_211 C a sn_fuel x1 x2 x5 x6 (0 : Int32)
    · refine r_aload_n (q := 156) (i := 0) (pl := 0) C d_Md_overEnds_155 rfl rfl rfl ?_
      refine r_gR (q := 159) C d_Md_overEnds_156 rfl F_Md_183 rfl (fun v40 => ?_)
      refine r_iload (q := 161) (i := 6) (pl := 5) C d_Md_overEnds_159 rfl rfl ?_
      refine r_aload_n (q := 162) (i := 0) (pl := 0) C d_Md_overEnds_161 rfl rfl rfl ?_
      refine r_gR (q := 165) C d_Md_overEnds_162 rfl F_Md_78 rfl (fun v41 => ?_)
      refine r_bipush (q := 167) (v := 64) C d_Md_overEnds_165 rfl (by decide) ?_
      refine r_iload (q := 169) (i := 4) (pl := 3) C d_Md_overEnds_167 rfl rfl ?_
      refine r_imul (q := 170) C d_Md_overEnds_169 rfl ?_
      refine r_iload (q := 172) (i := 7) (pl := 6) C d_Md_overEnds_170 rfl rfl ?_
      refine r_iadd (q := 173) C d_Md_overEnds_172 rfl ?_
      refine r_aJ (q := 174) C (Or.inr rfl) d_Md_overEnds_173 rfl (fun v42 => ?_)
      refine r_bJ (q := 175) C (Or.inr rfl) d_Md_overEnds_174 rfl ?_
      refine r_iinc (q := 178) (pl := 5) (v := x6 + (1 : Int32)) (lv' := [(6, vI (x6 + (1 : Int32))), (0, vA (some a)), (1, vI x1), (2, vI x2), (4, vI x4), (5, vI x5), (7, vI x7)]) C d_Md_overEnds_175 rfl rfl rfl (by decide) rfl ?_
      refine r_iinc (q := 181) (pl := 6) (v := x7 + (1 : Int32)) (lv' := [(7, vI (x7 + (1 : Int32))), (6, vI (x6 + (1 : Int32))), (0, vA (some a)), (1, vI x1), (2, vI x2), (4, vI x4), (5, vI x5)]) C d_Md_overEnds_178 rfl rfl rfl (by decide) rfl ?_
      refine r_goto (tgt := 143) C d_Md_overEnds_181 (by decide) ?_
      refine r_sub (lv' := [(0, vA (some a)), (1, vI x1), (2, vI x2), (4, vI x4), (5, vI x5), (6, vI (x6 + (1 : Int32))), (7, vI (x7 + (1 : Int32)))]) [2, 3, 4, 5, 6, 1, 0] rfl ?_
      exact ih x1 x2 x4 x5 (x6 + (1 : Int32)) (x7 + (1 : Int32))
def f_Md_overEnds_99 (a : Nat) : Nat → Int32 → Int32 → Int32 → Int32 → Int32 → Int32 → sn_M
  | 0, _, _, _, _, _, _ => r_0
  | n + 1, x1, x2, x4, x5, x6, x7 => g_R 12 27 (some a) fun v43 => a_I 31 v43 x4 fun v44 => (if v44 ≤ x7 then f_Md_overEnds_143 a sn_fuel x1 x2 x4 x5 x6 (0 : Int32) else g_R 12 63 (some a) fun v45 => g_R 12 25 (some a) fun v46 => a_J 32 v46 (((32 : Int32) * x4) + x7) fun v47 => b_J 32 v45 x6 v47 (f_Md_overEnds_99 a n x1 x2 x4 x5 (x6 + (1 : Int32)) (x7 + (1 : Int32))))
set_option maxHeartbeats 4000000 in
set_option maxRecDepth 100000 in
theorem mono_Md_overEnds_99 (a : Nat) : ∀ (n : Nat) (x1 : Int32) (x2 : Int32) (x4 : Int32) (x5 : Int32) (x6 : Int32) (x7 : Int32), sn_Mono (f_Md_overEnds_99 a n x1 x2 x4 x5 x6 x7)
  | 0, _, _, _, _, _, _ => sn_Mono.r0
  | n + 1, x1, x2, x4, x5, x6, x7 => sn_Mono.gR (fun v43 => sn_Mono.aI (fun v44 => sn_Mono.ite (mono_Md_overEnds_143 a sn_fuel x1 x2 x4 x5 x6 (0 : Int32)) (sn_Mono.gR (fun v45 => sn_Mono.gR (fun v46 => sn_Mono.aJ (fun v47 => sn_Mono.bJ (mono_Md_overEnds_99 a n x1 x2 x4 x5 (x6 + (1 : Int32)) (x7 + (1 : Int32)))))))))
set_option maxHeartbeats 4000000 in
set_option maxRecDepth 100000 in
theorem s_Md_overEnds_99 {X : sn_X} (C : sn_Cx X c_Md_overEnds "SignalNetworkModel" none "overEnds" 10 5 118) (a : Nat) (n : Nat) : ∀ (x1 : Int32) (x2 : Int32) (x4 : Int32) (x5 : Int32) (x6 : Int32) (x7 : Int32), sn_S X 99 [(0, vA (some a)), (1, vI x1), (2, vI x2), (4, vI x4), (5, vI x5), (6, vI x6), (7, vI x7)] [] (f_Md_overEnds_99 a n x1 x2 x4 x5 x6 x7) := by
  induction n with
  | zero => intro x1 x2 x4 x5 x6 x7; exact sn_S.zero
  | succ n ih =>
    intro x1 x2 x4 x5 x6 x7
    unfold f_Md_overEnds_99
    refine r_iload (q := 101) (i := 7) (pl := 6) C d_Md_overEnds_99 rfl rfl ?_
    refine r_aload_n (q := 102) (i := 0) (pl := 0) C d_Md_overEnds_101 rfl rfl rfl ?_
    refine r_gR (q := 105) C d_Md_overEnds_102 rfl F_Md_75 rfl (fun v43 => ?_)
    refine r_iload (q := 107) (i := 4) (pl := 3) C d_Md_overEnds_105 rfl rfl ?_
    refine r_aI (q := 108) C (Or.inr rfl) d_Md_overEnds_107 rfl (fun v44 => ?_)
    refine r_icmp_ge (tgt := 140) (q := 111) C d_Md_overEnds_108 (by decide) rfl ?_ ?_
    · refine r_iconst (q := 141) (v := 0) C d_Md_overEnds_140 rfl (by decide) ?_
      refine r_istore (q := 143) (i := 7) (lv' := [(7, vI (0 : Int32)), (0, vA (some a)), (1, vI x1), (2, vI x2), (4, vI x4), (5, vI x5), (6, vI x6)]) C d_Md_overEnds_141 rfl (by decide) rfl ?_
      refine r_sub (lv' := [(0, vA (some a)), (1, vI x1), (2, vI x2), (4, vI x4), (5, vI x5), (6, vI x6), (7, vI (0 : Int32))]) [1, 2, 3, 4, 5, 6, 0] rfl ?_
      exact s_Md_overEnds_143 C a sn_fuel x1 x2 x4 x5 x6 (0 : Int32)
    · refine r_aload_n (q := 112) (i := 0) (pl := 0) C d_Md_overEnds_111 rfl rfl rfl ?_
      refine r_gR (q := 115) C d_Md_overEnds_112 rfl F_Md_183 rfl (fun v45 => ?_)
      refine r_iload (q := 117) (i := 6) (pl := 5) C d_Md_overEnds_115 rfl rfl ?_
      refine r_aload_n (q := 118) (i := 0) (pl := 0) C d_Md_overEnds_117 rfl rfl rfl ?_
      refine r_gR (q := 121) C d_Md_overEnds_118 rfl F_Md_68 rfl (fun v46 => ?_)
      refine r_bipush (q := 123) (v := 32) C d_Md_overEnds_121 rfl (by decide) ?_
      refine r_iload (q := 125) (i := 4) (pl := 3) C d_Md_overEnds_123 rfl rfl ?_
      refine r_imul (q := 126) C d_Md_overEnds_125 rfl ?_
      refine r_iload (q := 128) (i := 7) (pl := 6) C d_Md_overEnds_126 rfl rfl ?_
      refine r_iadd (q := 129) C d_Md_overEnds_128 rfl ?_
      refine r_aJ (q := 130) C (Or.inr rfl) d_Md_overEnds_129 rfl (fun v47 => ?_)
      refine r_bJ (q := 131) C (Or.inr rfl) d_Md_overEnds_130 rfl ?_
      refine r_iinc (q := 134) (pl := 5) (v := x6 + (1 : Int32)) (lv' := [(6, vI (x6 + (1 : Int32))), (0, vA (some a)), (1, vI x1), (2, vI x2), (4, vI x4), (5, vI x5), (7, vI x7)]) C d_Md_overEnds_131 rfl rfl rfl (by decide) rfl ?_
      refine r_iinc (q := 137) (pl := 6) (v := x7 + (1 : Int32)) (lv' := [(7, vI (x7 + (1 : Int32))), (6, vI (x6 + (1 : Int32))), (0, vA (some a)), (1, vI x1), (2, vI x2), (4, vI x4), (5, vI x5)]) C d_Md_overEnds_134 rfl rfl rfl (by decide) rfl ?_
      refine r_goto (tgt := 99) C d_Md_overEnds_137 (by decide) ?_
      refine r_sub (lv' := [(0, vA (some a)), (1, vI x1), (2, vI x2), (4, vI x4), (5, vI x5), (6, vI (x6 + (1 : Int32))), (7, vI (x7 + (1 : Int32)))]) [2, 3, 4, 5, 6, 1, 0] rfl ?_
      exact ih x1 x2 x4 x5 (x6 + (1 : Int32)) (x7 + (1 : Int32))
def f_Md_overEnds_93 (a : Nat) (x1 : Int32) (x2 : Int32) (x4 : Int32) (x5 : Int32) : sn_M := f_Md_overEnds_99 a sn_fuel x1 x2 x4 x5 (0 : Int32) (0 : Int32)
set_option maxHeartbeats 4000000 in
set_option maxRecDepth 100000 in
theorem mono_Md_overEnds_93 (a : Nat) (x1 : Int32) (x2 : Int32) (x4 : Int32) (x5 : Int32) : sn_Mono (f_Md_overEnds_93 a x1 x2 x4 x5) := mono_Md_overEnds_99 a sn_fuel x1 x2 x4 x5 (0 : Int32) (0 : Int32)
set_option maxHeartbeats 4000000 in
set_option maxRecDepth 100000 in
theorem s_Md_overEnds_93 {X : sn_X} (C : sn_Cx X c_Md_overEnds "SignalNetworkModel" none "overEnds" 10 5 118) (a : Nat) (x1 : Int32) (x2 : Int32) (x4 : Int32) (x5 : Int32) : sn_S X 93 [(0, vA (some a)), (1, vI x1), (2, vI x2), (4, vI x4), (5, vI x5)] [] (f_Md_overEnds_93 a x1 x2 x4 x5) := by
  unfold f_Md_overEnds_93
  refine r_iconst (q := 94) (v := 0) C d_Md_overEnds_93 rfl (by decide) ?_
  refine r_istore (q := 96) (i := 6) (lv' := [(6, vI (0 : Int32)), (0, vA (some a)), (1, vI x1), (2, vI x2), (4, vI x4), (5, vI x5)]) C d_Md_overEnds_94 rfl (by decide) rfl ?_
  refine r_iconst (q := 97) (v := 0) C d_Md_overEnds_96 rfl (by decide) ?_
  refine r_istore (q := 99) (i := 7) (lv' := [(7, vI (0 : Int32)), (6, vI (0 : Int32)), (0, vA (some a)), (1, vI x1), (2, vI x2), (4, vI x4), (5, vI x5)]) C d_Md_overEnds_97 rfl (by decide) rfl ?_
  refine r_sub (lv' := [(0, vA (some a)), (1, vI x1), (2, vI x2), (4, vI x4), (5, vI x5), (6, vI (0 : Int32)), (7, vI (0 : Int32))]) [2, 3, 4, 5, 6, 1, 0] rfl ?_
  exact s_Md_overEnds_99 C a sn_fuel x1 x2 x4 x5 (0 : Int32) (0 : Int32)
def f_Md_overEnds (a : Nat) (x1 : Int32) (x2 : Int32) (x3 : Int32) : sn_M := n_n 12 (some a) fun a48 => c_I (f_Md_endAt a48 x2 x1) fun v49 => g_R 12 40 (some a) fun v50 => a_I 31 v50 v49 fun v51 => (if ¬ v51 = 0 then n_n 12 (some a) fun a52 => c_I (f_Md_otherOf a52 v49) fun v53 => g_R 12 40 (some a) fun v54 => b_I 31 v54 v49 (0 : Int32) ((if ¬ x3 = (-1 : Int32) then n_n 12 (some a) fun a55 => c_I (f_Md_openAt a55 v49 x3) fun v56 => (if v56 = (-1 : Int32) then f_Md_overEnds_93 a x1 x2 v49 v53 else n_n 12 (some a) fun a57 => c_I (f_Md_openAt a57 v49 x3) fun v58 => n_n 12 (some a) fun a59 => c_V (f_Md_acknowledge a59 v49 (v58 + (1 : Int32))) (f_Md_overEnds_93 a x1 x2 v49 v53)) else g_I 12 7 (some a) fun v61 => g_R 12 27 (some a) fun v62 => a_I 31 v62 v49 fun v63 => p_I 12 7 (some a) (v61 + v63) (g_R 12 27 (some a) fun v64 => b_I 31 v64 v49 (0 : Int32) (f_Md_overEnds_93 a x1 x2 v49 v53)))) else r_V)
set_option maxHeartbeats 4000000 in
set_option maxRecDepth 100000 in
theorem mono_Md_overEnds (a : Nat) (x1 : Int32) (x2 : Int32) (x3 : Int32) : sn_Mono (f_Md_overEnds a x1 x2 x3) := sn_Mono.nn (fun a48 => sn_Mono.cI (mono_Md_endAt a48 x2 x1) (fun v49 => sn_Mono.gR (fun v50 => sn_Mono.aI (fun v51 => sn_Mono.ite (sn_Mono.nn (fun a52 => sn_Mono.cI (mono_Md_otherOf a52 v49) (fun v53 => sn_Mono.gR (fun v54 => sn_Mono.bI (sn_Mono.ite (sn_Mono.nn (fun a55 => sn_Mono.cI (mono_Md_openAt a55 v49 x3) (fun v56 => sn_Mono.ite (mono_Md_overEnds_93 a x1 x2 v49 v53) (sn_Mono.nn (fun a57 => sn_Mono.cI (mono_Md_openAt a57 v49 x3) (fun v58 => sn_Mono.nn (fun a59 => sn_Mono.cV (mono_Md_acknowledge a59 v49 (v58 + (1 : Int32))) (mono_Md_overEnds_93 a x1 x2 v49 v53)))))))) (sn_Mono.gI (fun v61 => sn_Mono.gR (fun v62 => sn_Mono.aI (fun v63 => sn_Mono.pI (sn_Mono.gR (fun v64 => sn_Mono.bI (mono_Md_overEnds_93 a x1 x2 v49 v53)))))))))))) (sn_Mono.rV)))))
set_option maxHeartbeats 4000000 in
set_option maxRecDepth 100000 in
theorem con_Md_overEnds (a : Nat) (x1 : Int32) (x2 : Int32) (x3 : Int32) : sn_Con y_Md_overEnds c_Md_overEnds 10 none 5 118 [vA (some a), vI x1, vI x2, vI x3] (f_Md_overEnds a x1 x2 x3) := by
  refine sn_Con.of (by decide +kernel) (by show _ ≤ _; exact Nat.le_of_ble_eq_true rfl) (mono_Md_overEnds a x1 x2 x3) (fun X C => ?_)
  show sn_S X 0 [(0, vA (some a)), (1, vI x1), (2, vI x2), (3, vI x3)] [] _
  replace C : sn_Cx X c_Md_overEnds "SignalNetworkModel" none "overEnds" 10 5 118 := C
  unfold f_Md_overEnds
  refine r_aload_n (q := 1) (i := 0) (pl := 0) C d_Md_overEnds_0 rfl rfl rfl ?_
  refine r_iload_n (q := 2) (i := 2) (pl := 2) C d_Md_overEnds_1 rfl rfl rfl ?_
  refine r_iload_n (q := 3) (i := 1) (pl := 1) C d_Md_overEnds_2 rfl rfl rfl ?_
  refine r_cvI (q := 6) (As := [vI x2, vI x1]) (st := []) (cy := 11) C d_Md_overEnds_3 rfl Y_Md_endAt L_Md_216 I_Md_endAt Se_Md_endAt rfl (by decide) rfl (Nat.le_of_ble_eq_true rfl) (Nat.le_of_ble_eq_true rfl) (Nat.le_of_ble_eq_true rfl) rfl (fun a48 => con_Md_endAt a48 x2 x1) (fun v49 => ?_)
  refine r_istore (q := 8) (i := 4) (lv' := [(4, vI v49), (0, vA (some a)), (1, vI x1), (2, vI x2), (3, vI x3)]) C d_Md_overEnds_6 rfl (by decide) rfl ?_
  refine r_aload_n (q := 9) (i := 0) (pl := 1) C d_Md_overEnds_8 rfl rfl rfl ?_
  refine r_gR (q := 12) C d_Md_overEnds_9 rfl F_Md_114 rfl (fun v50 => ?_)
  refine r_iload (q := 14) (i := 4) (pl := 0) C d_Md_overEnds_12 rfl rfl ?_
  refine r_aI (q := 15) C (Or.inr rfl) d_Md_overEnds_14 rfl (fun v51 => ?_)
  refine r_if_ne (tgt := 19) (q := 18) C d_Md_overEnds_15 (by decide) rfl ?_ ?_
  · refine r_aload_n (q := 20) (i := 0) (pl := 1) C d_Md_overEnds_19 rfl rfl rfl ?_
    refine r_iload (q := 22) (i := 4) (pl := 0) C d_Md_overEnds_20 rfl rfl ?_
    refine r_cvI (q := 25) (As := [vI v49]) (st := []) (cy := 11) C d_Md_overEnds_22 rfl Y_Md_otherOf L_Md_259 I_Md_otherOf Se_Md_otherOf rfl (by decide) rfl (Nat.le_of_ble_eq_true rfl) (Nat.le_of_ble_eq_true rfl) (Nat.le_of_ble_eq_true rfl) rfl (fun a52 => con_Md_otherOf a52 v49) (fun v53 => ?_)
    refine r_istore (q := 27) (i := 5) (lv' := [(5, vI v53), (4, vI v49), (0, vA (some a)), (1, vI x1), (2, vI x2), (3, vI x3)]) C d_Md_overEnds_25 rfl (by decide) rfl ?_
    refine r_aload_n (q := 28) (i := 0) (pl := 2) C d_Md_overEnds_27 rfl rfl rfl ?_
    refine r_gR (q := 31) C d_Md_overEnds_28 rfl F_Md_114 rfl (fun v54 => ?_)
    refine r_iload (q := 33) (i := 4) (pl := 1) C d_Md_overEnds_31 rfl rfl ?_
    refine r_iconst (q := 34) (v := 0) C d_Md_overEnds_33 rfl (by decide) ?_
    refine r_bI (q := 35) C (Or.inr rfl) d_Md_overEnds_34 rfl ?_
    refine r_iload_n (q := 36) (i := 3) (pl := 5) C d_Md_overEnds_35 rfl rfl rfl ?_
    refine r_iconst (q := 37) (v := -1) C d_Md_overEnds_36 rfl (by decide) ?_
    refine r_icmp_ne (tgt := 67) (q := 40) C d_Md_overEnds_37 (by decide) rfl ?_ ?_
    · refine r_aload_n (q := 68) (i := 0) (pl := 2) C d_Md_overEnds_67 rfl rfl rfl ?_
      refine r_iload (q := 70) (i := 4) (pl := 1) C d_Md_overEnds_68 rfl rfl ?_
      refine r_iload_n (q := 71) (i := 3) (pl := 5) C d_Md_overEnds_70 rfl rfl rfl ?_
      refine r_cvI (q := 74) (As := [vI v49, vI x3]) (st := []) (cy := 11) C d_Md_overEnds_71 rfl Y_Md_openAt L_Md_295 I_Md_openAt Se_Md_openAt rfl (by decide) rfl (Nat.le_of_ble_eq_true rfl) (Nat.le_of_ble_eq_true rfl) (Nat.le_of_ble_eq_true rfl) rfl (fun a55 => con_Md_openAt a55 v49 x3) (fun v56 => ?_)
      refine r_iconst (q := 75) (v := -1) C d_Md_overEnds_74 rfl (by decide) ?_
      refine r_icmp_eq (tgt := 93) (q := 78) C d_Md_overEnds_75 (by decide) rfl ?_ ?_
      · refine r_sub (lv' := [(0, vA (some a)), (1, vI x1), (2, vI x2), (4, vI v49), (5, vI v53)]) [2, 3, 4, 1, 0] rfl ?_
        exact s_Md_overEnds_93 C a x1 x2 v49 v53
      · refine r_aload_n (q := 79) (i := 0) (pl := 2) C d_Md_overEnds_78 rfl rfl rfl ?_
        refine r_iload (q := 81) (i := 4) (pl := 1) C d_Md_overEnds_79 rfl rfl ?_
        refine r_aload_n (q := 82) (i := 0) (pl := 2) C d_Md_overEnds_81 rfl rfl rfl ?_
        refine r_iload (q := 84) (i := 4) (pl := 1) C d_Md_overEnds_82 rfl rfl ?_
        refine r_iload_n (q := 85) (i := 3) (pl := 5) C d_Md_overEnds_84 rfl rfl rfl ?_
        refine r_cvI (q := 88) (As := [vI v49, vI x3]) (st := [vI v49, vA (some a)]) (cy := 11) C d_Md_overEnds_85 rfl Y_Md_openAt L_Md_295 I_Md_openAt Se_Md_openAt rfl (by decide) rfl (Nat.le_of_ble_eq_true rfl) (Nat.le_of_ble_eq_true rfl) (Nat.le_of_ble_eq_true rfl) rfl (fun a57 => con_Md_openAt a57 v49 x3) (fun v58 => ?_)
        refine r_iconst (q := 89) (v := 1) C d_Md_overEnds_88 rfl (by decide) ?_
        refine r_iadd (q := 90) C d_Md_overEnds_89 rfl ?_
        refine r_cvV (q := 93) (As := [vI v49, vI (v58 + (1 : Int32))]) (st := []) (cy := 11) C d_Md_overEnds_90 rfl Y_Md_acknowledge L_Md_298 I_Md_acknowledge Se_Md_acknowledge rfl (by decide) rfl (Nat.le_of_ble_eq_true rfl) (Nat.le_of_ble_eq_true rfl) (Nat.le_of_ble_eq_true rfl) rfl (fun a59 => con_Md_acknowledge a59 v49 (v58 + (1 : Int32))) ?_
        refine r_sub (lv' := [(0, vA (some a)), (1, vI x1), (2, vI x2), (4, vI v49), (5, vI v53)]) [2, 3, 4, 1, 0] rfl ?_
        exact s_Md_overEnds_93 C a x1 x2 v49 v53
    · refine r_aload_n (q := 41) (i := 0) (pl := 2) C d_Md_overEnds_40 rfl rfl rfl ?_
      refine r_dup (q := 42) C d_Md_overEnds_41 rfl rfl ?_
      refine r_gI (q := 45) C d_Md_overEnds_42 rfl F_Md_219 rfl (fun v61 => ?_)
      refine r_aload_n (q := 46) (i := 0) (pl := 2) C d_Md_overEnds_45 rfl rfl rfl ?_
      refine r_gR (q := 49) C d_Md_overEnds_46 rfl F_Md_75 rfl (fun v62 => ?_)
      refine r_iload (q := 51) (i := 4) (pl := 1) C d_Md_overEnds_49 rfl rfl ?_
      refine r_aI (q := 52) C (Or.inr rfl) d_Md_overEnds_51 rfl (fun v63 => ?_)
      refine r_iadd (q := 53) C d_Md_overEnds_52 rfl ?_
      refine r_pI (q := 56) C d_Md_overEnds_53 rfl F_Md_219 rfl rfl (Or.inl rfl) ?_
      refine r_aload_n (q := 57) (i := 0) (pl := 2) C d_Md_overEnds_56 rfl rfl rfl ?_
      refine r_gR (q := 60) C d_Md_overEnds_57 rfl F_Md_75 rfl (fun v64 => ?_)
      refine r_iload (q := 62) (i := 4) (pl := 1) C d_Md_overEnds_60 rfl rfl ?_
      refine r_iconst (q := 63) (v := 0) C d_Md_overEnds_62 rfl (by decide) ?_
      refine r_bI (q := 64) C (Or.inr rfl) d_Md_overEnds_63 rfl ?_
      refine r_goto (tgt := 93) C d_Md_overEnds_64 (by decide) ?_
      refine r_sub (lv' := [(0, vA (some a)), (1, vI x1), (2, vI x2), (4, vI v49), (5, vI v53)]) [2, 3, 4, 1, 0] rfl ?_
      exact s_Md_overEnds_93 C a x1 x2 v49 v53
  · exact r_vret C d_Md_overEnds_18 rfl
theorem d_Md_over_0 : decode c_Md_over 0 = .ok (.iload_n 3, 1) := by decide +kernel
theorem d_Md_over_1 : decode c_Md_over 1 = .ok (.bipush 15, 2) := by decide +kernel
theorem d_Md_over_3 : decode c_Md_over 3 = .ok (.iand, 1) := by decide +kernel
theorem d_Md_over_4 : decode c_Md_over 4 = .ok (.istore 5, 2) := by decide +kernel
theorem d_Md_over_6 : decode c_Md_over 6 = .ok (.aload_n 0, 1) := by decide +kernel
theorem d_Md_over_7 : decode c_Md_over 7 = .ok (.iload 5, 2) := by decide +kernel
theorem d_Md_over_9 : decode c_Md_over 9 = .ok (.iload_n 1, 1) := by decide +kernel
theorem d_Md_over_10 : decode c_Md_over 10 = .ok (.invokevirtual 216, 3) := by decide +kernel
theorem d_Md_over_13 : decode c_Md_over 13 = .ok (.istore 6, 2) := by decide +kernel
theorem d_Md_over_15 : decode c_Md_over 15 = .ok (.iload_n 3, 1) := by decide +kernel
theorem d_Md_over_16 : decode c_Md_over 16 = .ok (.iconst 4, 1) := by decide +kernel
theorem d_Md_over_17 : decode c_Md_over 17 = .ok (.ishr, 1) := by decide +kernel
theorem d_Md_over_18 : decode c_Md_over 18 = .ok (.aload_n 0, 1) := by decide +kernel
theorem d_Md_over_19 : decode c_Md_over 19 = .ok (.getfield 108, 3) := by decide +kernel
theorem d_Md_over_22 : decode c_Md_over 22 = .ok (.iload 6, 2) := by decide +kernel
theorem d_Md_over_24 : decode c_Md_over 24 = .ok (.iaload, 1) := by decide +kernel
theorem d_Md_over_25 : decode c_Md_over 25 = .ok (.if_icmp .eq 4, 3) := by decide +kernel
theorem d_Md_over_28 : decode c_Md_over 28 = .ok (.return_, 1) := by decide +kernel
theorem d_Md_over_29 : decode c_Md_over 29 = .ok (.aload_n 0, 1) := by decide +kernel
theorem d_Md_over_30 : decode c_Md_over 30 = .ok (.getfield 23, 3) := by decide +kernel
theorem d_Md_over_33 : decode c_Md_over 33 = .ok (.iload 6, 2) := by decide +kernel
theorem d_Md_over_35 : decode c_Md_over 35 = .ok (.iaload, 1) := by decide +kernel
theorem d_Md_over_36 : decode c_Md_over 36 = .ok (.iconst 5, 1) := by decide +kernel
theorem d_Md_over_37 : decode c_Md_over 37 = .ok (.if_icmp .ne 10, 3) := by decide +kernel
theorem d_Md_over_40 : decode c_Md_over 40 = .ok (.aload_n 0, 1) := by decide +kernel
theorem d_Md_over_41 : decode c_Md_over 41 = .ok (.iload 6, 2) := by decide +kernel
theorem d_Md_over_43 : decode c_Md_over 43 = .ok (.iconst 1, 1) := by decide +kernel
theorem d_Md_over_44 : decode c_Md_over 44 = .ok (.invokevirtual 275, 3) := by decide +kernel
theorem d_Md_over_47 : decode c_Md_over 47 = .ok (.aload_n 0, 1) := by decide +kernel
theorem d_Md_over_48 : decode c_Md_over 48 = .ok (.iload_n 1, 1) := by decide +kernel
theorem d_Md_over_49 : decode c_Md_over 49 = .ok (.iload_n 2, 1) := by decide +kernel
theorem d_Md_over_50 : decode c_Md_over 50 = .ok (.iconst 2, 1) := by decide +kernel
theorem d_Md_over_51 : decode c_Md_over 51 = .ok (.iload_n 1, 1) := by decide +kernel
theorem d_Md_over_52 : decode c_Md_over 52 = .ok (.iload_n 2, 1) := by decide +kernel
theorem d_Md_over_53 : decode c_Md_over 53 = .ok (.iconst 0, 1) := by decide +kernel
theorem d_Md_over_54 : decode c_Md_over 54 = .ok (.iload 5, 2) := by decide +kernel
theorem d_Md_over_56 : decode c_Md_over 56 = .ok (.bipush 16, 2) := by decide +kernel
theorem d_Md_over_58 : decode c_Md_over 58 = .ok (.aload_n 0, 1) := by decide +kernel
theorem d_Md_over_59 : decode c_Md_over 59 = .ok (.getfield 105, 3) := by decide +kernel
theorem d_Md_over_62 : decode c_Md_over 62 = .ok (.iload 6, 2) := by decide +kernel
theorem d_Md_over_64 : decode c_Md_over 64 = .ok (.iaload, 1) := by decide +kernel
theorem d_Md_over_65 : decode c_Md_over 65 = .ok (.imul, 1) := by decide +kernel
theorem d_Md_over_66 : decode c_Md_over 66 = .ok (.iadd, 1) := by decide +kernel
theorem d_Md_over_67 : decode c_Md_over 67 = .ok (.aload_n 0, 1) := by decide +kernel
theorem d_Md_over_68 : decode c_Md_over 68 = .ok (.getfield 32, 3) := by decide +kernel
theorem d_Md_over_71 : decode c_Md_over 71 = .ok (.iload 6, 2) := by decide +kernel
theorem d_Md_over_73 : decode c_Md_over 73 = .ok (.iaload, 1) := by decide +kernel
theorem d_Md_over_74 : decode c_Md_over 74 = .ok (.invokestatic 248, 3) := by decide +kernel
theorem d_Md_over_77 : decode c_Md_over 77 = .ok (.invokevirtual 262, 3) := by decide +kernel
theorem d_Md_over_80 : decode c_Md_over 80 = .ok (.aload_n 0, 1) := by decide +kernel
theorem d_Md_over_81 : decode c_Md_over 81 = .ok (.iload_n 1, 1) := by decide +kernel
theorem d_Md_over_82 : decode c_Md_over 82 = .ok (.iload 5, 2) := by decide +kernel
theorem d_Md_over_84 : decode c_Md_over 84 = .ok (.iload 4, 2) := by decide +kernel
theorem d_Md_over_86 : decode c_Md_over 86 = .ok (.invokevirtual 338, 3) := by decide +kernel
theorem d_Md_over_89 : decode c_Md_over 89 = .ok (.return_, 1) := by decide +kernel
def f_Md_over_47 (a : Nat) (x1 : Int32) (x2 : Int32) (x4 : Int32) (x5 : Int32) (x6 : Int32) : sn_M := g_R 12 37 (some a) fun v1 => a_I 31 v1 x6 fun v2 => g_R 12 13 (some a) fun v3 => a_I 31 v3 x6 fun v4 => c_J (f_Md_message (2 : Int32) x1 x2 (0 : Int32) (x5 + ((16 : Int32) * v2)) v4) fun v5 => n_n 12 (some a) fun a6 => c_V (f_Md_otherWay a6 x1 x2 v5) (n_n 12 (some a) fun a8 => c_V (f_Md_overEnds a8 x1 x5 x4) (r_V))
set_option maxHeartbeats 4000000 in
set_option maxRecDepth 100000 in
theorem mono_Md_over_47 (a : Nat) (x1 : Int32) (x2 : Int32) (x4 : Int32) (x5 : Int32) (x6 : Int32) : sn_Mono (f_Md_over_47 a x1 x2 x4 x5 x6) := sn_Mono.gR (fun v1 => sn_Mono.aI (fun v2 => sn_Mono.gR (fun v3 => sn_Mono.aI (fun v4 => sn_Mono.cJ (mono_Md_message (2 : Int32) x1 x2 (0 : Int32) (x5 + ((16 : Int32) * v2)) v4) (fun v5 => sn_Mono.nn (fun a6 => sn_Mono.cV (mono_Md_otherWay a6 x1 x2 v5) (sn_Mono.nn (fun a8 => sn_Mono.cV (mono_Md_overEnds a8 x1 x5 x4) (sn_Mono.rV)))))))))
set_option maxHeartbeats 4000000 in
set_option maxRecDepth 100000 in
theorem s_Md_over_47 {X : sn_X} (C : sn_Cx X c_Md_over "SignalNetworkModel" none "over" 7 6 148) (a : Nat) (x1 : Int32) (x2 : Int32) (x4 : Int32) (x5 : Int32) (x6 : Int32) : sn_S X 47 [(0, vA (some a)), (1, vI x1), (2, vI x2), (4, vI x4), (5, vI x5), (6, vI x6)] [] (f_Md_over_47 a x1 x2 x4 x5 x6) := by
  unfold f_Md_over_47
  refine r_aload_n (q := 48) (i := 0) (pl := 0) C d_Md_over_47 rfl rfl rfl ?_
  refine r_iload_n (q := 49) (i := 1) (pl := 1) C d_Md_over_48 rfl rfl rfl ?_
  refine r_iload_n (q := 50) (i := 2) (pl := 2) C d_Md_over_49 rfl rfl rfl ?_
  refine r_iconst (q := 51) (v := 2) C d_Md_over_50 rfl (by decide) ?_
  refine r_iload_n (q := 52) (i := 1) (pl := 1) C d_Md_over_51 rfl rfl rfl ?_
  refine r_iload_n (q := 53) (i := 2) (pl := 2) C d_Md_over_52 rfl rfl rfl ?_
  refine r_iconst (q := 54) (v := 0) C d_Md_over_53 rfl (by decide) ?_
  refine r_iload (q := 56) (i := 5) (pl := 4) C d_Md_over_54 rfl rfl ?_
  refine r_bipush (q := 58) (v := 16) C d_Md_over_56 rfl (by decide) ?_
  refine r_aload_n (q := 59) (i := 0) (pl := 0) C d_Md_over_58 rfl rfl rfl ?_
  refine r_gR (q := 62) C d_Md_over_59 rfl F_Md_105 rfl (fun v1 => ?_)
  refine r_iload (q := 64) (i := 6) (pl := 5) C d_Md_over_62 rfl rfl ?_
  refine r_aI (q := 65) C (Or.inr rfl) d_Md_over_64 rfl (fun v2 => ?_)
  refine r_imul (q := 66) C d_Md_over_65 rfl ?_
  refine r_iadd (q := 67) C d_Md_over_66 rfl ?_
  refine r_aload_n (q := 68) (i := 0) (pl := 0) C d_Md_over_67 rfl rfl rfl ?_
  refine r_gR (q := 71) C d_Md_over_68 rfl F_Md_32 rfl (fun v3 => ?_)
  refine r_iload (q := 73) (i := 6) (pl := 5) C d_Md_over_71 rfl rfl ?_
  refine r_aI (q := 74) C (Or.inr rfl) d_Md_over_73 rfl (fun v4 => ?_)
  refine r_csJ (q := 77) (As := [vI (2 : Int32), vI x1, vI x2, vI (0 : Int32), vI (x5 + ((16 : Int32) * v2)), vI v4]) (st := [vI x2, vI x1, vA (some a)]) C d_Md_over_74 rfl Y_Md_message L_Md_248 St_Md_message rfl (Nat.le_of_ble_eq_true rfl) (Nat.le_of_ble_eq_true rfl) (Nat.le_of_ble_eq_true rfl) rfl (con_Md_message (2 : Int32) x1 x2 (0 : Int32) (x5 + ((16 : Int32) * v2)) v4) (fun v5 => ?_)
  refine r_cvV (q := 80) (As := [vI x1, vI x2, vJ v5]) (st := []) (cy := 11) C d_Md_over_77 rfl Y_Md_otherWay L_Md_262 I_Md_otherWay Se_Md_otherWay rfl (by decide) rfl (Nat.le_of_ble_eq_true rfl) (Nat.le_of_ble_eq_true rfl) (Nat.le_of_ble_eq_true rfl) rfl (fun a6 => con_Md_otherWay a6 x1 x2 v5) ?_
  refine r_aload_n (q := 81) (i := 0) (pl := 0) C d_Md_over_80 rfl rfl rfl ?_
  refine r_iload_n (q := 82) (i := 1) (pl := 1) C d_Md_over_81 rfl rfl rfl ?_
  refine r_iload (q := 84) (i := 5) (pl := 4) C d_Md_over_82 rfl rfl ?_
  refine r_iload (q := 86) (i := 4) (pl := 3) C d_Md_over_84 rfl rfl ?_
  refine r_cvV (q := 89) (As := [vI x1, vI x5, vI x4]) (st := []) (cy := 11) C d_Md_over_86 rfl Y_Md_overEnds L_Md_338 I_Md_overEnds Se_Md_overEnds rfl (by decide) rfl (Nat.le_of_ble_eq_true rfl) (Nat.le_of_ble_eq_true rfl) (Nat.le_of_ble_eq_true rfl) rfl (fun a8 => con_Md_overEnds a8 x1 x5 x4) ?_
  exact r_vret C d_Md_over_89 rfl
def f_Md_over (a : Nat) (x1 : Int32) (x2 : Int32) (x3 : Int32) (x4 : Int32) : sn_M := n_I ((x3 &&& (15 : Int32))) fun n10 => n_n 12 (some a) fun a11 => c_I (f_Md_endAt a11 n10 x1) fun v12 => g_R 12 38 (some a) fun v13 => a_I 31 v13 v12 fun v14 => (if (x3 >>> ((4 : Int32) &&& 31)) = v14 then g_R 12 10 (some a) fun v15 => a_I 31 v15 v12 fun v16 => (if ¬ v16 = (5 : Int32) then f_Md_over_47 a x1 x2 x4 n10 v12 else n_n 12 (some a) fun a17 => c_V (f_Md_fail a17 v12 (1 : Int32)) (f_Md_over_47 a x1 x2 x4 n10 v12)) else r_V)
set_option maxHeartbeats 4000000 in
set_option maxRecDepth 100000 in
theorem mono_Md_over (a : Nat) (x1 : Int32) (x2 : Int32) (x3 : Int32) (x4 : Int32) : sn_Mono (f_Md_over a x1 x2 x3 x4) := sn_Mono.nI (fun n10 => sn_Mono.nn (fun a11 => sn_Mono.cI (mono_Md_endAt a11 n10 x1) (fun v12 => sn_Mono.gR (fun v13 => sn_Mono.aI (fun v14 => sn_Mono.ite (sn_Mono.gR (fun v15 => sn_Mono.aI (fun v16 => sn_Mono.ite (mono_Md_over_47 a x1 x2 x4 n10 v12) (sn_Mono.nn (fun a17 => sn_Mono.cV (mono_Md_fail a17 v12 (1 : Int32)) (mono_Md_over_47 a x1 x2 x4 n10 v12)))))) (sn_Mono.rV))))))
set_option maxHeartbeats 4000000 in
set_option maxRecDepth 100000 in
theorem con_Md_over (a : Nat) (x1 : Int32) (x2 : Int32) (x3 : Int32) (x4 : Int32) : sn_Con y_Md_over c_Md_over 7 none 6 148 [vA (some a), vI x1, vI x2, vI x3, vI x4] (f_Md_over a x1 x2 x3 x4) := by
  refine sn_Con.of (by decide +kernel) (by show _ ≤ _; exact Nat.le_of_ble_eq_true rfl) (mono_Md_over a x1 x2 x3 x4) (fun X C => ?_)
  show sn_S X 0 [(0, vA (some a)), (1, vI x1), (2, vI x2), (3, vI x3), (4, vI x4)] [] _
  replace C : sn_Cx X c_Md_over "SignalNetworkModel" none "over" 7 6 148 := C
  unfold f_Md_over
  refine r_iload_n (q := 1) (i := 3) (pl := 3) C d_Md_over_0 rfl rfl rfl ?_
  refine r_bipush (q := 3) (v := 15) C d_Md_over_1 rfl (by decide) ?_
  refine r_iand (q := 4) C d_Md_over_3 rfl ?_
  refine r_nI (fun n10 => ?_)
  refine r_istore (q := 6) (i := 5) (lv' := [(5, vI n10), (0, vA (some a)), (1, vI x1), (2, vI x2), (3, vI x3), (4, vI x4)]) C d_Md_over_4 rfl (by decide) rfl ?_
  refine r_aload_n (q := 7) (i := 0) (pl := 1) C d_Md_over_6 rfl rfl rfl ?_
  refine r_iload (q := 9) (i := 5) (pl := 0) C d_Md_over_7 rfl rfl ?_
  refine r_iload_n (q := 10) (i := 1) (pl := 2) C d_Md_over_9 rfl rfl rfl ?_
  refine r_cvI (q := 13) (As := [vI n10, vI x1]) (st := []) (cy := 11) C d_Md_over_10 rfl Y_Md_endAt L_Md_216 I_Md_endAt Se_Md_endAt rfl (by decide) rfl (Nat.le_of_ble_eq_true rfl) (Nat.le_of_ble_eq_true rfl) (Nat.le_of_ble_eq_true rfl) rfl (fun a11 => con_Md_endAt a11 n10 x1) (fun v12 => ?_)
  refine r_istore (q := 15) (i := 6) (lv' := [(6, vI v12), (5, vI n10), (0, vA (some a)), (1, vI x1), (2, vI x2), (3, vI x3), (4, vI x4)]) C d_Md_over_13 rfl (by decide) rfl ?_
  refine r_iload_n (q := 16) (i := 3) (pl := 5) C d_Md_over_15 rfl rfl rfl ?_
  refine r_iconst (q := 17) (v := 4) C d_Md_over_16 rfl (by decide) ?_
  refine r_ishr (q := 18) C d_Md_over_17 rfl ?_
  refine r_aload_n (q := 19) (i := 0) (pl := 2) C d_Md_over_18 rfl rfl rfl ?_
  refine r_gR (q := 22) C d_Md_over_19 rfl F_Md_108 rfl (fun v13 => ?_)
  refine r_iload (q := 24) (i := 6) (pl := 0) C d_Md_over_22 rfl rfl ?_
  refine r_aI (q := 25) C (Or.inr rfl) d_Md_over_24 rfl (fun v14 => ?_)
  refine r_icmp_eq (tgt := 29) (q := 28) C d_Md_over_25 (by decide) rfl ?_ ?_
  · refine r_aload_n (q := 30) (i := 0) (pl := 2) C d_Md_over_29 rfl rfl rfl ?_
    refine r_gR (q := 33) C d_Md_over_30 rfl F_Md_23 rfl (fun v15 => ?_)
    refine r_iload (q := 35) (i := 6) (pl := 0) C d_Md_over_33 rfl rfl ?_
    refine r_aI (q := 36) C (Or.inr rfl) d_Md_over_35 rfl (fun v16 => ?_)
    refine r_iconst (q := 37) (v := 5) C d_Md_over_36 rfl (by decide) ?_
    refine r_icmp_ne (tgt := 47) (q := 40) C d_Md_over_37 (by decide) rfl ?_ ?_
    · refine r_sub (lv' := [(0, vA (some a)), (1, vI x1), (2, vI x2), (4, vI x4), (5, vI n10), (6, vI v12)]) [2, 3, 4, 6, 1, 0] rfl ?_
      exact s_Md_over_47 C a x1 x2 x4 n10 v12
    · refine r_aload_n (q := 41) (i := 0) (pl := 2) C d_Md_over_40 rfl rfl rfl ?_
      refine r_iload (q := 43) (i := 6) (pl := 0) C d_Md_over_41 rfl rfl ?_
      refine r_iconst (q := 44) (v := 1) C d_Md_over_43 rfl (by decide) ?_
      refine r_cvV (q := 47) (As := [vI v12, vI (1 : Int32)]) (st := []) (cy := 11) C d_Md_over_44 rfl Y_Md_fail L_Md_275 I_Md_fail Se_Md_fail rfl (by decide) rfl (Nat.le_of_ble_eq_true rfl) (Nat.le_of_ble_eq_true rfl) (Nat.le_of_ble_eq_true rfl) rfl (fun a17 => con_Md_fail a17 v12 (1 : Int32)) ?_
      refine r_sub (lv' := [(0, vA (some a)), (1, vI x1), (2, vI x2), (4, vI x4), (5, vI n10), (6, vI v12)]) [2, 3, 4, 6, 1, 0] rfl ?_
      exact s_Md_over_47 C a x1 x2 x4 n10 v12
  · exact r_vret C d_Md_over_28 rfl
