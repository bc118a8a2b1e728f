theorem d_Md_octet_0 : decode c_Md_octet 0 = .ok (.aload_n 0, 1) := by decide +kernel
theorem d_Md_octet_1 : decode c_Md_octet 1 = .ok (.iload_n 1, 1) := by decide +kernel
theorem d_Md_octet_2 : decode c_Md_octet 2 = .ok (.iload_n 2, 1) := by decide +kernel
theorem d_Md_octet_3 : decode c_Md_octet 3 = .ok (.invokevirtual 406, 3) := by decide +kernel
theorem d_Md_octet_6 : decode c_Md_octet 6 = .ok (.ifCond .eq 33, 3) := by decide +kernel
theorem d_Md_octet_9 : decode c_Md_octet 9 = .ok (.aload_n 0, 1) := by decide +kernel
theorem d_Md_octet_10 : decode c_Md_octet 10 = .ok (.getfield 102, 3) := by decide +kernel
theorem d_Md_octet_13 : decode c_Md_octet 13 = .ok (.iconst 2, 1) := by decide +kernel
theorem d_Md_octet_14 : decode c_Md_octet 14 = .ok (.iload_n 1, 1) := by decide +kernel
theorem d_Md_octet_15 : decode c_Md_octet 15 = .ok (.imul, 1) := by decide +kernel
theorem d_Md_octet_16 : decode c_Md_octet 16 = .ok (.iload_n 2, 1) := by decide +kernel
theorem d_Md_octet_17 : decode c_Md_octet 17 = .ok (.iadd, 1) := by decide +kernel
theorem d_Md_octet_18 : decode c_Md_octet 18 = .ok (.baload, 1) := by decide +kernel
theorem d_Md_octet_19 : decode c_Md_octet 19 = .ok (.ifCond .eq 20, 3) := by decide +kernel
theorem d_Md_octet_22 : decode c_Md_octet 22 = .ok (.iload_n 3, 1) := by decide +kernel
theorem d_Md_octet_23 : decode c_Md_octet 23 = .ok (.ifCond .lt 16, 3) := by decide +kernel
theorem d_Md_octet_26 : decode c_Md_octet 26 = .ok (.iload_n 3, 1) := by decide +kernel
theorem d_Md_octet_27 : decode c_Md_octet 27 = .ok (.aload_n 0, 1) := by decide +kernel
theorem d_Md_octet_28 : decode c_Md_octet 28 = .ok (.iconst 2, 1) := by decide +kernel
theorem d_Md_octet_29 : decode c_Md_octet 29 = .ok (.iload_n 1, 1) := by decide +kernel
theorem d_Md_octet_30 : decode c_Md_octet 30 = .ok (.imul, 1) := by decide +kernel
theorem d_Md_octet_31 : decode c_Md_octet 31 = .ok (.iload_n 2, 1) := by decide +kernel
theorem d_Md_octet_32 : decode c_Md_octet 32 = .ok (.iadd, 1) := by decide +kernel
theorem d_Md_octet_33 : decode c_Md_octet 33 = .ok (.invokevirtual 421, 3) := by decide +kernel
theorem d_Md_octet_36 : decode c_Md_octet 36 = .ok (.if_icmp .lt 5, 3) := by decide +kernel
theorem d_Md_octet_39 : decode c_Md_octet 39 = .ok (.iconst (-1), 1) := by decide +kernel
theorem d_Md_octet_40 : decode c_Md_octet 40 = .ok (.ireturn, 1) := by decide +kernel
theorem d_Md_octet_41 : decode c_Md_octet 41 = .ok (.aload_n 0, 1) := by decide +kernel
theorem d_Md_octet_42 : decode c_Md_octet 42 = .ok (.iconst 2, 1) := by decide +kernel
theorem d_Md_octet_43 : decode c_Md_octet 43 = .ok (.iload_n 1, 1) := by decide +kernel
theorem d_Md_octet_44 : decode c_Md_octet 44 = .ok (.imul, 1) := by decide +kernel
theorem d_Md_octet_45 : decode c_Md_octet 45 = .ok (.iload_n 2, 1) := by decide +kernel
theorem d_Md_octet_46 : decode c_Md_octet 46 = .ok (.iadd, 1) := by decide +kernel
theorem d_Md_octet_47 : decode c_Md_octet 47 = .ok (.iload_n 3, 1) := by decide +kernel
theorem d_Md_octet_48 : decode c_Md_octet 48 = .ok (.invokevirtual 429, 3) := by decide +kernel
theorem d_Md_octet_51 : decode c_Md_octet 51 = .ok (.ireturn, 1) := by decide +kernel
def f_Md_octet_39 (a : Nat) : sn_M := r_I (-1 : Int32)
set_option maxHeartbeats 4000000 in
set_option maxRecDepth 100000 in
theorem mono_Md_octet_39 (a : Nat) : sn_Mono (f_Md_octet_39 a) := sn_Mono.rI
set_option maxHeartbeats 4000000 in
set_option maxRecDepth 100000 in
theorem s_Md_octet_39 {X : sn_X} (C : sn_Cx X c_Md_octet "SignalNetworkModel" (some .int) "octet" 4 3 73) (a : Nat) : sn_S X 39 [(0, vA (some a))] [] (f_Md_octet_39 a) := by
  unfold f_Md_octet_39
  refine r_iconst (q := 40) (v := -1) C d_Md_octet_39 rfl (by decide) ?_
  exact r_iret C d_Md_octet_40 rfl
def f_Md_octet (a : Nat) (x1 : Int32) (x2 : Int32) (x3 : Int32) : sn_M := n_n 12 (some a) fun a1 => c_I (f_Md_isEnd a1 x1 x2) fun v2 => (if v2 = 0 then f_Md_octet_39 a else g_R 12 36 (some a) fun v3 => a_I 33 v3 (((2 : Int32) * x1) + x2) fun v4 => (if v4 = 0 then f_Md_octet_39 a else (if x3 < 0 then f_Md_octet_39 a else n_n 12 (some a) fun a5 => c_I (f_Md_octets a5 (((2 : Int32) * x1) + x2)) fun v6 => (if x3 < v6 then n_n 12 (some a) fun a7 => c_I (f_Md_octetOf a7 (((2 : Int32) * x1) + x2) x3) fun v8 => r_I v8 else f_Md_octet_39 a))))
set_option maxHeartbeats 4000000 in
set_option maxRecDepth 100000 in
theorem mono_Md_octet (a : Nat) (x1 : Int32) (x2 : Int32) (x3 : Int32) : sn_Mono (f_Md_octet a x1 x2 x3) := sn_Mono.nn (fun a1 => sn_Mono.cI (mono_Md_isEnd a1 x1 x2) (fun v2 => sn_Mono.ite (mono_Md_octet_39 a) (sn_Mono.gR (fun v3 => sn_Mono.aI (fun v4 => sn_Mono.ite (mono_Md_octet_39 a) (sn_Mono.ite (mono_Md_octet_39 a) (sn_Mono.nn (fun a5 => sn_Mono.cI (mono_Md_octets a5 (((2 : Int32) * x1) + x2)) (fun v6 => sn_Mono.ite (sn_Mono.nn (fun a7 => sn_Mono.cI (mono_Md_octetOf a7 (((2 : Int32) * x1) + x2) x3) (fun v8 => sn_Mono.rI))) (mono_Md_octet_39 a))))))))))
set_option maxHeartbeats 4000000 in
set_option maxRecDepth 100000 in
theorem con_Md_octet (a : Nat) (x1 : Int32) (x2 : Int32) (x3 : Int32) : sn_Con y_Md_octet c_Md_octet 4 (some .int) 3 73 [vA (some a), vI x1, vI x2, vI x3] (f_Md_octet a x1 x2 x3) := by
  refine sn_Con.of (by decide +kernel) (by show _ ≤ _; exact Nat.le_of_ble_eq_true rfl) (mono_Md_octet a x1 x2 x3) (fun X C => ?_)
  show sn_S X 0 [(0, vA (some a)), (1, vI x1), (2, vI x2), (3, vI x3)] [] _
  replace C : sn_Cx X c_Md_octet "SignalNetworkModel" (some .int) "octet" 4 3 73 := C
  unfold f_Md_octet
  refine r_aload_n (q := 1) (i := 0) (pl := 0) C d_Md_octet_0 rfl rfl rfl ?_
  refine r_iload_n (q := 2) (i := 1) (pl := 1) C d_Md_octet_1 rfl rfl rfl ?_
  refine r_iload_n (q := 3) (i := 2) (pl := 2) C d_Md_octet_2 rfl rfl rfl ?_
  refine r_cvI (q := 6) (As := [vI x1, vI x2]) (st := []) (cy := 11) C d_Md_octet_3 rfl Y_Md_isEnd L_Md_406 I_Md_isEnd Se_Md_isEnd rfl (by decide) rfl (Nat.le_of_ble_eq_true rfl) (Nat.le_of_ble_eq_true rfl) (Nat.le_of_ble_eq_true rfl) rfl (fun a1 => con_Md_isEnd a1 x1 x2) (fun v2 => ?_)
  refine r_if_eq (tgt := 39) (q := 9) C d_Md_octet_6 (by decide) rfl ?_ ?_
  · refine r_sub (lv' := [(0, vA (some a))]) [0] rfl ?_
    exact s_Md_octet_39 C a
  · refine r_aload_n (q := 10) (i := 0) (pl := 0) C d_Md_octet_9 rfl rfl rfl ?_
    refine r_gR (q := 13) C d_Md_octet_10 rfl F_Md_102 rfl (fun v3 => ?_)
    refine r_iconst (q := 14) (v := 2) C d_Md_octet_13 rfl (by decide) ?_
    refine r_iload_n (q := 15) (i := 1) (pl := 1) C d_Md_octet_14 rfl rfl rfl ?_
    refine r_imul (q := 16) C d_Md_octet_15 rfl ?_
    refine r_iload_n (q := 17) (i := 2) (pl := 2) C d_Md_octet_16 rfl rfl rfl ?_
    refine r_iadd (q := 18) C d_Md_octet_17 rfl ?_
    refine r_aZ (q := 19) C (Or.inr rfl) d_Md_octet_18 rfl (fun v4 => ?_)
    refine r_if_eq (tgt := 39) (q := 22) C d_Md_octet_19 (by decide) rfl ?_ ?_
    · refine r_sub (lv' := [(0, vA (some a))]) [0] rfl ?_
      exact s_Md_octet_39 C a
    · refine r_iload_n (q := 23) (i := 3) (pl := 3) C d_Md_octet_22 rfl rfl rfl ?_
      refine r_if_lt (tgt := 39) (q := 26) C d_Md_octet_23 (by decide) rfl ?_ ?_
      · refine r_sub (lv' := [(0, vA (some a))]) [0] rfl ?_
        exact s_Md_octet_39 C a
      · refine r_iload_n (q := 27) (i := 3) (pl := 3) C d_Md_octet_26 rfl rfl rfl ?_
        refine r_aload_n (q := 28) (i := 0) (pl := 0) C d_Md_octet_27 rfl rfl rfl ?_
        refine r_iconst (q := 29) (v := 2) C d_Md_octet_28 rfl (by decide) ?_
        refine r_iload_n (q := 30) (i := 1) (pl := 1) C d_Md_octet_29 rfl rfl rfl ?_
        refine r_imul (q := 31) C d_Md_octet_30 rfl ?_
        refine r_iload_n (q := 32) (i := 2) (pl := 2) C d_Md_octet_31 rfl rfl rfl ?_
        refine r_iadd (q := 33) C d_Md_octet_32 rfl ?_
        refine r_cvI (q := 36) (As := [vI (((2 : Int32) * x1) + x2)]) (st := [vI x3]) (cy := 11) C d_Md_octet_33 rfl Y_Md_octets L_Md_421 I_Md_octets Se_Md_octets rfl (by decide) rfl (Nat.le_of_ble_eq_true rfl) (Nat.le_of_ble_eq_true rfl) (Nat.le_of_ble_eq_true rfl) rfl (fun a5 => con_Md_octets a5 (((2 : Int32) * x1) + x2)) (fun v6 => ?_)
        refine r_icmp_lt (tgt := 41) (q := 39) C d_Md_octet_36 (by decide) rfl ?_ ?_
        · refine r_aload_n (q := 42) (i := 0) (pl := 0) C d_Md_octet_41 rfl rfl rfl ?_
          refine r_iconst (q := 43) (v := 2) C d_Md_octet_42 rfl (by decide) ?_
          refine r_iload_n (q := 44) (i := 1) (pl := 1) C d_Md_octet_43 rfl rfl rfl ?_
          refine r_imul (q := 45) C d_Md_octet_44 rfl ?_
          refine r_iload_n (q := 46) (i := 2) (pl := 2) C d_Md_octet_45 rfl rfl rfl ?_
          refine r_iadd (q := 47) C d_Md_octet_46 rfl ?_
          refine r_iload_n (q := 48) (i := 3) (pl := 3) C d_Md_octet_47 rfl rfl rfl ?_
          refine r_cvI (q := 51) (As := [vI (((2 : Int32) * x1) + x2), vI x3]) (st := []) (cy := 11) C d_Md_octet_48 rfl Y_Md_octetOf L_Md_429 I_Md_octetOf Se_Md_octetOf rfl (by decide) rfl (Nat.le_of_ble_eq_true rfl) (Nat.le_of_ble_eq_true rfl) (Nat.le_of_ble_eq_true rfl) rfl (fun a7 => con_Md_octetOf a7 (((2 : Int32) * x1) + x2) x3) (fun v8 => ?_)
          exact r_iret C d_Md_octet_51 rfl
        · refine r_sub (lv' := [(0, vA (some a))]) [0] rfl ?_
          exact s_Md_octet_39 C a
theorem d_Md_bits_0 : decode c_Md_bits 0 = .ok (.aload_n 0, 1) := by decide +kernel
theorem d_Md_bits_1 : decode c_Md_bits 1 = .ok (.iload_n 1, 1) := by decide +kernel
theorem d_Md_bits_2 : decode c_Md_bits 2 = .ok (.iload_n 2, 1) := by decide +kernel
theorem d_Md_bits_3 : decode c_Md_bits 3 = .ok (.invokevirtual 406, 3) := by decide +kernel
theorem d_Md_bits_6 : decode c_Md_bits 6 = .ok (.ifCond .eq 16, 3) := by decide +kernel
theorem d_Md_bits_9 : decode c_Md_bits 9 = .ok (.aload_n 0, 1) := by decide +kernel
theorem d_Md_bits_10 : decode c_Md_bits 10 = .ok (.getfield 102, 3) := by decide +kernel
theorem d_Md_bits_13 : decode c_Md_bits 13 = .ok (.iconst 2, 1) := by decide +kernel
theorem d_Md_bits_14 : decode c_Md_bits 14 = .ok (.iload_n 1, 1) := by decide +kernel
theorem d_Md_bits_15 : decode c_Md_bits 15 = .ok (.imul, 1) := by decide +kernel
theorem d_Md_bits_16 : decode c_Md_bits 16 = .ok (.iload_n 2, 1) := by decide +kernel
theorem d_Md_bits_17 : decode c_Md_bits 17 = .ok (.iadd, 1) := by decide +kernel
theorem d_Md_bits_18 : decode c_Md_bits 18 = .ok (.baload, 1) := by decide +kernel
theorem d_Md_bits_19 : decode c_Md_bits 19 = .ok (.ifCond .ne 5, 3) := by decide +kernel
theorem d_Md_bits_22 : decode c_Md_bits 22 = .ok (.iconst (-1), 1) := by decide +kernel
theorem d_Md_bits_23 : decode c_Md_bits 23 = .ok (.ireturn, 1) := by decide +kernel
theorem d_Md_bits_24 : decode c_Md_bits 24 = .ok (.iconst 2, 1) := by decide +kernel
theorem d_Md_bits_25 : decode c_Md_bits 25 = .ok (.iload_n 1, 1) := by decide +kernel
theorem d_Md_bits_26 : decode c_Md_bits 26 = .ok (.imul, 1) := by decide +kernel
theorem d_Md_bits_27 : decode c_Md_bits 27 = .ok (.iload_n 2, 1) := by decide +kernel
theorem d_Md_bits_28 : decode c_Md_bits 28 = .ok (.iadd, 1) := by decide +kernel
theorem d_Md_bits_29 : decode c_Md_bits 29 = .ok (.istore_n 3, 1) := by decide +kernel
theorem d_Md_bits_30 : decode c_Md_bits 30 = .ok (.iconst 0, 1) := by decide +kernel
theorem d_Md_bits_31 : decode c_Md_bits 31 = .ok (.istore 4, 2) := by decide +kernel
theorem d_Md_bits_33 : decode c_Md_bits 33 = .ok (.iconst 0, 1) := by decide +kernel
theorem d_Md_bits_34 : decode c_Md_bits 34 = .ok (.istore 5, 2) := by decide +kernel
theorem d_Md_bits_36 : decode c_Md_bits 36 = .ok (.iconst 0, 1) := by decide +kernel
theorem d_Md_bits_37 : decode c_Md_bits 37 = .ok (.istore 6, 2) := by decide +kernel
theorem d_Md_bits_39 : decode c_Md_bits 39 = .ok (.iload 6, 2) := by decide +kernel
theorem d_Md_bits_41 : decode c_Md_bits 41 = .ok (.aload_n 0, 1) := by decide +kernel
theorem d_Md_bits_42 : decode c_Md_bits 42 = .ok (.iload_n 3, 1) := by decide +kernel
theorem d_Md_bits_43 : decode c_Md_bits 43 = .ok (.invokevirtual 421, 3) := by decide +kernel
theorem d_Md_bits_46 : decode c_Md_bits 46 = .ok (.if_icmp .ge 70, 3) := by decide +kernel
theorem d_Md_bits_49 : decode c_Md_bits 49 = .ok (.aload_n 0, 1) := by decide +kernel
theorem d_Md_bits_50 : decode c_Md_bits 50 = .ok (.iload_n 3, 1) := by decide +kernel
theorem d_Md_bits_51 : decode c_Md_bits 51 = .ok (.iload 6, 2) := by decide +kernel
theorem d_Md_bits_53 : decode c_Md_bits 53 = .ok (.invokevirtual 429, 3) := by decide +kernel
theorem d_Md_bits_56 : decode c_Md_bits 56 = .ok (.istore 7, 2) := by decide +kernel
theorem d_Md_bits_58 : decode c_Md_bits 58 = .ok (.iconst 0, 1) := by decide +kernel
theorem d_Md_bits_59 : decode c_Md_bits 59 = .ok (.istore 8, 2) := by decide +kernel
theorem d_Md_bits_61 : decode c_Md_bits 61 = .ok (.iload 8, 2) := by decide +kernel
theorem d_Md_bits_63 : decode c_Md_bits 63 = .ok (.bipush 8, 2) := by decide +kernel
theorem d_Md_bits_65 : decode c_Md_bits 65 = .ok (.if_icmp .ge 45, 3) := by decide +kernel
theorem d_Md_bits_68 : decode c_Md_bits 68 = .ok (.iload 7, 2) := by decide +kernel
theorem d_Md_bits_70 : decode c_Md_bits 70 = .ok (.iload 8, 2) := by decide +kernel
theorem d_Md_bits_72 : decode c_Md_bits 72 = .ok (.ishr, 1) := by decide +kernel
theorem d_Md_bits_73 : decode c_Md_bits 73 = .ok (.iconst 1, 1) := by decide +kernel
theorem d_Md_bits_74 : decode c_Md_bits 74 = .ok (.iand, 1) := by decide +kernel
theorem d_Md_bits_75 : decode c_Md_bits 75 = .ok (.iconst 1, 1) := by decide +kernel
theorem d_Md_bits_76 : decode c_Md_bits 76 = .ok (.if_icmp .ne 10, 3) := by decide +kernel
theorem d_Md_bits_79 : decode c_Md_bits 79 = .ok (.iload 5, 2) := by decide +kernel
theorem d_Md_bits_81 : decode c_Md_bits 81 = .ok (.iconst 1, 1) := by decide +kernel
theorem d_Md_bits_82 : decode c_Md_bits 82 = .ok (.iadd, 1) := by decide +kernel
theorem d_Md_bits_83 : decode c_Md_bits 83 = .ok (.goto 4, 3) := by decide +kernel
theorem d_Md_bits_86 : decode c_Md_bits 86 = .ok (.iconst 0, 1) := by decide +kernel
theorem d_Md_bits_87 : decode c_Md_bits 87 = .ok (.istore 5, 2) := by decide +kernel
theorem d_Md_bits_89 : decode c_Md_bits 89 = .ok (.iinc 4 1, 3) := by decide +kernel
theorem d_Md_bits_92 : decode c_Md_bits 92 = .ok (.iload 5, 2) := by decide +kernel
theorem d_Md_bits_94 : decode c_Md_bits 94 = .ok (.iconst 5, 1) := by decide +kernel
theorem d_Md_bits_95 : decode c_Md_bits 95 = .ok (.if_icmp .ne 9, 3) := by decide +kernel
theorem d_Md_bits_98 : decode c_Md_bits 98 = .ok (.iinc 4 1, 3) := by decide +kernel
theorem d_Md_bits_101 : decode c_Md_bits 101 = .ok (.iconst 0, 1) := by decide +kernel
theorem d_Md_bits_102 : decode c_Md_bits 102 = .ok (.istore 5, 2) := by decide +kernel
theorem d_Md_bits_104 : decode c_Md_bits 104 = .ok (.iinc 8 1, 3) := by decide +kernel
theorem d_Md_bits_107 : decode c_Md_bits 107 = .ok (.goto (-46), 3) := by decide +kernel
theorem d_Md_bits_110 : decode c_Md_bits 110 = .ok (.iinc 6 1, 3) := by decide +kernel
theorem d_Md_bits_113 : decode c_Md_bits 113 = .ok (.goto (-74), 3) := by decide +kernel
theorem d_Md_bits_116 : decode c_Md_bits 116 = .ok (.iload 4, 2) := by decide +kernel
theorem d_Md_bits_118 : decode c_Md_bits 118 = .ok (.ireturn, 1) := by decide +kernel
def f_Md_bits_22 (a : Nat) : sn_M := r_I (-1 : Int32)
set_option maxHeartbeats 4000000 in
set_option maxRecDepth 100000 in
theorem mono_Md_bits_22 (a : Nat) : sn_Mono (f_Md_bits_22 a) := sn_Mono.rI
set_option maxHeartbeats 4000000 in
set_option maxRecDepth 100000 in
theorem s_Md_bits_22 {X : sn_X} (C : sn_Cx X c_Md_bits "SignalNetworkModel" (some .int) "bits" 9 3 73) (a : Nat) : sn_S X 22 [(0, vA (some a))] [] (f_Md_bits_22 a) := by
  unfold f_Md_bits_22
  refine r_iconst (q := 23) (v := -1) C d_Md_bits_22 rfl (by decide) ?_
  exact r_iret C d_Md_bits_23 rfl
def f_Md_bits_104 (k61 : Int32 → Int32 → Int32 → Int32 → Int32 → Int32 → sn_M) (a : Nat) (x3 : Int32) (x4 : Int32) (x5 : Int32) (x6 : Int32) (x7 : Int32) (x8 : Int32) : sn_M := k61 x3 x4 x5 x6 x7 (x8 + (1 : Int32))
set_option maxHeartbeats 4000000 in
set_option maxRecDepth 100000 in
theorem mono_Md_bits_104 (k61 : Int32 → Int32 → Int32 → Int32 → Int32 → Int32 → sn_M) (mk61 : ∀ (x3 : Int32) (x4 : Int32) (x5 : Int32) (x6 : Int32) (x7 : Int32) (x8 : Int32), sn_Mono (k61 x3 x4 x5 x6 x7 x8)) (a : Nat) (x3 : Int32) (x4 : Int32) (x5 : Int32) (x6 : Int32) (x7 : Int32) (x8 : Int32) : sn_Mono (f_Md_bits_104 k61 a x3 x4 x5 x6 x7 x8) := mk61 x3 x4 x5 x6 x7 (x8 + (1 : Int32))
set_option maxHeartbeats 4000000 in
set_option maxRecDepth 100000 in
theorem s_Md_bits_104 {X : sn_X} (C : sn_Cx X c_Md_bits "SignalNetworkModel" (some .int) "bits" 9 3 73) (a : Nat) (k61 : Int32 → Int32 → Int32 → Int32 → Int32 → Int32 → sn_M) (hk61 : ∀ (x3 : Int32) (x4 : Int32) (x5 : Int32) (x6 : Int32) (x7 : Int32) (x8 : Int32), sn_S X 61 [(0, vA (some a)), (3, vI x3), (4, vI x4), (5, vI x5), (6, vI x6), (7, vI x7), (8, vI x8)] [] (k61 x3 x4 x5 x6 x7 x8)) (x3 : Int32) (x4 : Int32) (x5 : Int32) (x6 : Int32) (x7 : Int32) (x8 : Int32) : sn_S X 104 [(0, vA (some a)), (3, vI x3), (4, vI x4), (5, vI x5), (6, vI x6), (7, vI x7), (8, vI x8)] [] (f_Md_bits_104 k61 a x3 x4 x5 x6 x7 x8) := by
  unfold f_Md_bits_104
  refine r_iinc (q := 107) (pl := 6) (v := x8 + (1 : Int32)) (lv' := [(8, vI (x8 + (1 : Int32))), (0, vA (some a)), (3, vI x3), (4, vI x4), (5, vI x5), (6, vI x6), (7, vI x7)]) C d_Md_bits_104 rfl rfl rfl (by decide) rfl ?_
  refine r_goto (tgt := 61) C d_Md_bits_107 (by decide) ?_
  refine r_sub (lv' := [(0, vA (some a)), (3, vI x3), (4, vI x4), (5, vI x5), (6, vI x6), (7, vI x7), (8, vI (x8 + (1 : Int32)))]) [1, 2, 3, 4, 5, 6, 0] rfl ?_
  exact hk61 x3 x4 x5 x6 x7 (x8 + (1 : Int32))
def f_Md_bits_87 (k61 : Int32 → Int32 → Int32 → Int32 → Int32 → Int32 → sn_M) (a : Nat) (x3 : Int32) (x4 : Int32) (x6 : Int32) (x7 : Int32) (x8 : Int32) (t0 : Int32) : sn_M := (if ¬ t0 = (5 : Int32) then f_Md_bits_104 k61 a x3 (x4 + (1 : Int32)) t0 x6 x7 x8 else f_Md_bits_104 k61 a x3 ((x4 + (1 : Int32)) + (1 : Int32)) (0 : Int32) x6 x7 x8)
set_option maxHeartbeats 4000000 in
set_option maxRecDepth 100000 in
theorem mono_Md_bits_87 (k61 : Int32 → Int32 → Int32 → Int32 → Int32 → Int32 → sn_M) (mk61 : ∀ (x3 : Int32) (x4 : Int32) (x5 : Int32) (x6 : Int32) (x7 : Int32) (x8 : Int32), sn_Mono (k61 x3 x4 x5 x6 x7 x8)) (a : Nat) (x3 : Int32) (x4 : Int32) (x6 : Int32) (x7 : Int32) (x8 : Int32) (t0 : Int32) : sn_Mono (f_Md_bits_87 k61 a x3 x4 x6 x7 x8 t0) := sn_Mono.ite (mono_Md_bits_104 k61 mk61 a x3 (x4 + (1 : Int32)) t0 x6 x7 x8) (mono_Md_bits_104 k61 mk61 a x3 ((x4 + (1 : Int32)) + (1 : Int32)) (0 : Int32) x6 x7 x8)
set_option maxHeartbeats 4000000 in
set_option maxRecDepth 100000 in
theorem s_Md_bits_87 {X : sn_X} (C : sn_Cx X c_Md_bits "SignalNetworkModel" (some .int) "bits" 9 3 73) (a : Nat) (k61 : Int32 → Int32 → Int32 → Int32 → Int32 → Int32 → sn_M) (hk61 : ∀ (x3 : Int32) (x4 : Int32) (x5 : Int32) (x6 : Int32) (x7 : Int32) (x8 : Int32), sn_S X 61 [(0, vA (some a)), (3, vI x3), (4, vI x4), (5, vI x5), (6, vI x6), (7, vI x7), (8, vI x8)] [] (k61 x3 x4 x5 x6 x7 x8)) (x3 : Int32) (x4 : Int32) (x6 : Int32) (x7 : Int32) (x8 : Int32) (t0 : Int32) : sn_S X 87 [(0, vA (some a)), (3, vI x3), (4, vI x4), (6, vI x6), (7, vI x7), (8, vI x8)] [vI t0] (f_Md_bits_87 k61 a x3 x4 x6 x7 x8 t0) := by
  unfold f_Md_bits_87
  refine r_istore (q := 89) (i := 5) (lv' := [(5, vI t0), (0, vA (some a)), (3, vI x3), (4, vI x4), (6, vI x6), (7, vI x7), (8, vI x8)]) C d_Md_bits_87 rfl (by decide) rfl ?_
  refine r_iinc (q := 92) (pl := 3) (v := x4 + (1 : Int32)) (lv' := [(4, vI (x4 + (1 : Int32))), (5, vI t0), (0, vA (some a)), (3, vI x3), (6, vI x6), (7, vI x7), (8, vI x8)]) C d_Md_bits_89 rfl rfl rfl (by decide) rfl ?_
  refine r_iload (q := 94) (i := 5) (pl := 1) C d_Md_bits_92 rfl rfl ?_
  refine r_iconst (q := 95) (v := 5) C d_Md_bits_94 rfl (by decide) ?_
  refine r_icmp_ne (tgt := 104) (q := 98) C d_Md_bits_95 (by decide) rfl ?_ ?_
  · refine r_sub (lv' := [(0, vA (some a)), (3, vI x3), (4, vI (x4 + (1 : Int32))), (5, vI t0), (6, vI x6), (7, vI x7), (8, vI x8)]) [2, 3, 0, 1, 4, 5, 6] rfl ?_
    exact s_Md_bits_104 C a k61 hk61 x3 (x4 + (1 : Int32)) t0 x6 x7 x8
  · refine r_iinc (q := 101) (pl := 0) (v := (x4 + (1 : Int32)) + (1 : Int32)) (lv' := [(4, vI ((x4 + (1 : Int32)) + (1 : Int32))), (5, vI t0), (0, vA (some a)), (3, vI x3), (6, vI x6), (7, vI x7), (8, vI x8)]) C d_Md_bits_98 rfl rfl rfl (by decide) rfl ?_
    refine r_iconst (q := 102) (v := 0) C d_Md_bits_101 rfl (by decide) ?_
    refine r_istore (q := 104) (i := 5) (lv' := [(5, vI (0 : Int32)), (4, vI ((x4 + (1 : Int32)) + (1 : Int32))), (0, vA (some a)), (3, vI x3), (6, vI x6), (7, vI x7), (8, vI x8)]) C d_Md_bits_102 rfl (by decide) rfl ?_
    refine r_sub (lv' := [(0, vA (some a)), (3, vI x3), (4, vI ((x4 + (1 : Int32)) + (1 : Int32))), (5, vI (0 : Int32)), (6, vI x6), (7, vI x7), (8, vI x8)]) [2, 3, 1, 0, 4, 5, 6] rfl ?_
    exact s_Md_bits_104 C a k61 hk61 x3 ((x4 + (1 : Int32)) + (1 : Int32)) (0 : Int32) x6 x7 x8
def f_Md_bits_61 (k39 : Int32 → Int32 → Int32 → Int32 → sn_M) (a : Nat) : Nat → Int32 → Int32 → Int32 → Int32 → Int32 → Int32 → sn_M
  | 0, _, _, _, _, _, _ => r_0
  | n + 1, x3, x4, x5, x6, x7, x8 => (if (8 : Int32) ≤ x8 then k39 x3 x4 x5 (x6 + (1 : Int32)) else (if ¬ ((x7 >>> (x8 &&& 31)) &&& (1 : Int32)) = (1 : Int32) then f_Md_bits_87 (f_Md_bits_61 k39 a n) a x3 x4 x6 x7 x8 (0 : Int32) else f_Md_bits_87 (f_Md_bits_61 k39 a n) a x3 x4 x6 x7 x8 (x5 + (1 : Int32))))
set_option maxHeartbeats 4000000 in
set_option maxRecDepth 100000 in
theorem mono_Md_bits_61 (k39 : Int32 → Int32 → Int32 → Int32 → sn_M) (mk39 : ∀ (x3 : Int32) (x4 : Int32) (x5 : Int32) (x6 : Int32), sn_Mono (k39 x3 x4 x5 x6)) (a : Nat) : ∀ (n : Nat) (x3 : Int32) (x4 : Int32) (x5 : Int32) (x6 : Int32) (x7 : Int32) (x8 : Int32), sn_Mono (f_Md_bits_61 k39 a n x3 x4 x5 x6 x7 x8)
  | 0, _, _, _, _, _, _ => sn_Mono.r0
  | n + 1, x3, x4, x5, x6, x7, x8 => sn_Mono.ite (mk39 x3 x4 x5 (x6 + (1 : Int32))) (sn_Mono.ite (mono_Md_bits_87 (f_Md_bits_61 k39 a n) (mono_Md_bits_61 k39 mk39 a n) a x3 x4 x6 x7 x8 (0 : Int32)) (mono_Md_bits_87 (f_Md_bits_61 k39 a n) (mono_Md_bits_61 k39 mk39 a n) a x3 x4 x6 x7 x8 (x5 + (1 : Int32))))
set_option maxHeartbeats 4000000 in
set_option maxRecDepth 100000 in
theorem s_Md_bits_61 {X : sn_X} (C : sn_Cx X c_Md_bits "SignalNetworkModel" (some .int) "bits" 9 3 73) (a : Nat) (k39 : Int32 → Int32 → Int32 → Int32 → sn_M) (hk39 : ∀ (x3 : Int32) (x4 : Int32) (x5 : Int32) (x6 : Int32), sn_S X 39 [(0, vA (some a)), (3, vI x3), (4, vI x4), (5, vI x5), (6, vI x6)] [] (k39 x3 x4 x5 x6)) (n : Nat) : ∀ (x3 : Int32) (x4 : Int32) (x5 : Int32) (x6 : Int32) (x7 : Int32) (x8 : Int32), sn_S X 61 [(0, vA (some a)), (3, vI x3), (4, vI x4), (5, vI x5), (6, vI x6), (7, vI x7), (8, vI x8)] [] (f_Md_bits_61 k39 a n x3 x4 x5 x6 x7 x8) := by
  induction n with
  | zero => intro x3 x4 x5 x6 x7 x8; exact sn_S.zero
  | succ n ih =>
    intro x3 x4 x5 x6 x7 x8
    unfold f_Md_bits_61
    refine r_iload (q := 63) (i := 8) (pl := 6) C d_Md_bits_61 rfl rfl ?_
    refine r_bipush (q := 65) (v := 8) C d_Md_bits_63 rfl (by decide) ?_
    refine r_icmp_ge (tgt := 110) (q := 68) C d_Md_bits_65 (by decide) rfl ?_ ?_
    · refine r_iinc (q := 113) (pl := 4) (v := x6 + (1 : Int32)) (lv' := [(6, vI (x6 + (1 : Int32))), (0, vA (some a)), (3, vI x3), (4, vI x4), (5, vI x5), (7, vI x7), (8, vI x8)]) C d_Md_bits_110 rfl rfl rfl (by decide) rfl ?_
      refine r_goto (tgt := 39) C d_Md_bits_113 (by decide) ?_
      refine r_sub (lv' := [(0, vA (some a)), (3, vI x3), (4, vI x4), (5, vI x5), (6, vI (x6 + (1 : Int32)))]) [1, 2, 3, 4, 0] rfl ?_
      exact hk39 x3 x4 x5 (x6 + (1 : Int32))
    · refine r_iload (q := 70) (i := 7) (pl := 5) C d_Md_bits_68 rfl rfl ?_
      refine r_iload (q := 72) (i := 8) (pl := 6) C d_Md_bits_70 rfl rfl ?_
      refine r_ishr (q := 73) C d_Md_bits_72 rfl ?_
      refine r_iconst (q := 74) (v := 1) C d_Md_bits_73 rfl (by decide) ?_
      refine r_iand (q := 75) C d_Md_bits_74 rfl ?_
      refine r_iconst (q := 76) (v := 1) C d_Md_bits_75 rfl (by decide) ?_
      refine r_icmp_ne (tgt := 86) (q := 79) C d_Md_bits_76 (by decide) rfl ?_ ?_
      · refine r_iconst (q := 87) (v := 0) C d_Md_bits_86 rfl (by decide) ?_
        refine r_sub (lv' := [(0, vA (some a)), (3, vI x3), (4, vI x4), (6, vI x6), (7, vI x7), (8, vI x8)]) [0, 1, 2, 4, 5, 6] rfl ?_
        exact s_Md_bits_87 C a (f_Md_bits_61 k39 a n) ih x3 x4 x6 x7 x8 (0 : Int32)
      · refine r_iload (q := 81) (i := 5) (pl := 3) C d_Md_bits_79 rfl rfl ?_
        refine r_iconst (q := 82) (v := 1) C d_Md_bits_81 rfl (by decide) ?_
        refine r_iadd (q := 83) C d_Md_bits_82 rfl ?_
        refine r_goto (tgt := 87) C d_Md_bits_83 (by decide) ?_
        refine r_sub (lv' := [(0, vA (some a)), (3, vI x3), (4, vI x4), (6, vI x6), (7, vI x7), (8, vI x8)]) [0, 1, 2, 4, 5, 6] rfl ?_
        exact s_Md_bits_87 C a (f_Md_bits_61 k39 a n) ih x3 x4 x6 x7 x8 (x5 + (1 : Int32))
def f_Md_bits_39 (a : Nat) : Nat → Int32 → Int32 → Int32 → Int32 → sn_M
  | 0, _, _, _, _ => r_0
  | n + 1, x3, x4, x5, x6 => n_n 12 (some a) fun a1 => c_I (f_Md_octets a1 x3) fun v2 => (if v2 ≤ x6 then r_I x4 else n_n 12 (some a) fun a3 => c_I (f_Md_octetOf a3 x3 x6) fun v4 => f_Md_bits_61 (f_Md_bits_39 a n) a sn_fuel x3 x4 x5 x6 v4 (0 : Int32))
set_option maxHeartbeats 4000000 in
set_option maxRecDepth 100000 in
theorem mono_Md_bits_39 (a : Nat) : ∀ (n : Nat) (x3 : Int32) (x4 : Int32) (x5 : Int32) (x6 : Int32), sn_Mono (f_Md_bits_39 a n x3 x4 x5 x6)
  | 0, _, _, _, _ => sn_Mono.r0
  | n + 1, x3, x4, x5, x6 => sn_Mono.nn (fun a1 => sn_Mono.cI (mono_Md_octets a1 x3) (fun v2 => sn_Mono.ite (sn_Mono.rI) (sn_Mono.nn (fun a3 => sn_Mono.cI (mono_Md_octetOf a3 x3 x6) (fun v4 => mono_Md_bits_61 (f_Md_bits_39 a n) (mono_Md_bits_39 a n) a sn_fuel x3 x4 x5 x6 v4 (0 : Int32))))))
set_option maxHeartbeats 4000000 in
set_option maxRecDepth 100000 in
theorem s_Md_bits_39 {X : sn_X} (C : sn_Cx X c_Md_bits "SignalNetworkModel" (some .int) "bits" 9 3 73) (a : Nat) (n : Nat) : ∀ (x3 : Int32) (x4 : Int32) (x5 : Int32) (x6 : Int32), sn_S X 39 [(0, vA (some a)), (3, vI x3), (4, vI x4), (5, vI x5), (6, vI x6)] [] (f_Md_bits_39 a n x3 x4 x5 x6) := by
  induction n with
  | zero => intro x3 x4 x5 x6; exact sn_S.zero
  | succ n ih =>
    intro x3 x4 x5 x6
    unfold f_Md_bits_39
    refine r_iload (q := 41) (i := 6) (pl := 4) C d_Md_bits_39 rfl rfl ?_
    refine r_aload_n (q := 42) (i := 0) (pl := 0) C d_Md_bits_41 rfl rfl rfl ?_
    refine r_iload_n (q := 43) (i := 3) (pl := 1) C d_Md_bits_42 rfl rfl rfl ?_
    refine r_cvI (q := 46) (As := [vI x3]) (st := [vI x6]) (cy := 11) C d_Md_bits_43 rfl Y_Md_octets L_Md_421 I_Md_octets Se_Md_octets rfl (by decide) rfl (Nat.le_of_ble_eq_true rfl) (Nat.le_of_ble_eq_true rfl) (Nat.le_of_ble_eq_true rfl) rfl (fun a1 => con_Md_octets a1 x3) (fun v2 => ?_)
    refine r_icmp_ge (tgt := 116) (q := 49) C d_Md_bits_46 (by decide) rfl ?_ ?_
    · refine r_iload (q := 118) (i := 4) (pl := 2) C d_Md_bits_116 rfl rfl ?_
      exact r_iret C d_Md_bits_118 rfl
    · refine r_aload_n (q := 50) (i := 0) (pl := 0) C d_Md_bits_49 rfl rfl rfl ?_
      refine r_iload_n (q := 51) (i := 3) (pl := 1) C d_Md_bits_50 rfl rfl rfl ?_
      refine r_iload (q := 53) (i := 6) (pl := 4) C d_Md_bits_51 rfl rfl ?_
      refine r_cvI (q := 56) (As := [vI x3, vI x6]) (st := []) (cy := 11) C d_Md_bits_53 rfl Y_Md_octetOf L_Md_429 I_Md_octetOf Se_Md_octetOf rfl (by decide) rfl (Nat.le_of_ble_eq_true rfl) (Nat.le_of_ble_eq_true rfl) (Nat.le_of_ble_eq_true rfl) rfl (fun a3 => con_Md_octetOf a3 x3 x6) (fun v4 => ?_)
      refine r_istore (q := 58) (i := 7) (lv' := [(7, vI v4), (0, vA (some a)), (3, vI x3), (4, vI x4), (5, vI x5), (6, vI x6)]) C d_Md_bits_56 rfl (by decide) rfl ?_
      refine r_iconst (q := 59) (v := 0) C d_Md_bits_58 rfl (by decide) ?_
      refine r_istore (q := 61) (i := 8) (lv' := [(8, vI (0 : Int32)), (7, vI v4), (0, vA (some a)), (3, vI x3), (4, vI x4), (5, vI x5), (6, vI x6)]) C d_Md_bits_59 rfl (by decide) rfl ?_
      refine r_sub (lv' := [(0, vA (some a)), (3, vI x3), (4, vI x4), (5, vI x5), (6, vI x6), (7, vI v4), (8, vI (0 : Int32))]) [2, 3, 4, 5, 6, 1, 0] rfl ?_
      exact s_Md_bits_61 C a (f_Md_bits_39 a n) ih sn_fuel x3 x4 x5 x6 v4 (0 : Int32)
def f_Md_bits (a : Nat) (x1 : Int32) (x2 : Int32) : sn_M := n_n 12 (some a) fun a5 => c_I (f_Md_isEnd a5 x1 x2) fun v6 => (if v6 = 0 then f_Md_bits_22 a else g_R 12 36 (some a) fun v7 => a_I 33 v7 (((2 : Int32) * x1) + x2) fun v8 => (if ¬ v8 = 0 then n_I ((((2 : Int32) * x1) + x2)) fun n9 => f_Md_bits_39 a sn_fuel n9 (0 : Int32) (0 : Int32) (0 : Int32) else f_Md_bits_22 a))
set_option maxHeartbeats 4000000 in
set_option maxRecDepth 100000 in
theorem mono_Md_bits (a : Nat) (x1 : Int32) (x2 : Int32) : sn_Mono (f_Md_bits a x1 x2) := sn_Mono.nn (fun a5 => sn_Mono.cI (mono_Md_isEnd a5 x1 x2) (fun v6 => sn_Mono.ite (mono_Md_bits_22 a) (sn_Mono.gR (fun v7 => sn_Mono.aI (fun v8 => sn_Mono.ite (sn_Mono.nI (fun n9 => mono_Md_bits_39 a sn_fuel n9 (0 : Int32) (0 : Int32) (0 : Int32))) (mono_Md_bits_22 a))))))
set_option maxHeartbeats 4000000 in
set_option maxRecDepth 100000 in
theorem con_Md_bits (a : Nat) (x1 : Int32) (x2 : Int32) : sn_Con y_Md_bits c_Md_bits 9 (some .int) 3 73 [vA (some a), vI x1, vI x2] (f_Md_bits a x1 x2) := by
  refine sn_Con.of (by decide +kernel) (by show _ ≤ _; exact Nat.le_of_ble_eq_true rfl) (mono_Md_bits a x1 x2) (fun X C => ?_)
  show sn_S X 0 [(0, vA (some a)), (1, vI x1), (2, vI x2)] [] _
  replace C : sn_Cx X c_Md_bits "SignalNetworkModel" (some .int) "bits" 9 3 73 := C
  unfold f_Md_bits
  refine r_aload_n (q := 1) (i := 0) (pl := 0) C d_Md_bits_0 rfl rfl rfl ?_
  refine r_iload_n (q := 2) (i := 1) (pl := 1) C d_Md_bits_1 rfl rfl rfl ?_
  refine r_iload_n (q := 3) (i := 2) (pl := 2) C d_Md_bits_2 rfl rfl rfl ?_
  refine r_cvI (q := 6) (As := [vI x1, vI x2]) (st := []) (cy := 11) C d_Md_bits_3 rfl Y_Md_isEnd L_Md_406 I_Md_isEnd Se_Md_isEnd rfl (by decide) rfl (Nat.le_of_ble_eq_true rfl) (Nat.le_of_ble_eq_true rfl) (Nat.le_of_ble_eq_true rfl) rfl (fun a5 => con_Md_isEnd a5 x1 x2) (fun v6 => ?_)
  refine r_if_eq (tgt := 22) (q := 9) C d_Md_bits_6 (by decide) rfl ?_ ?_
  · refine r_sub (lv' := [(0, vA (some a))]) [0] rfl ?_
    exact s_Md_bits_22 C a
  · refine r_aload_n (q := 10) (i := 0) (pl := 0) C d_Md_bits_9 rfl rfl rfl ?_
    refine r_gR (q := 13) C d_Md_bits_10 rfl F_Md_102 rfl (fun v7 => ?_)
    refine r_iconst (q := 14) (v := 2) C d_Md_bits_13 rfl (by decide) ?_
    refine r_iload_n (q := 15) (i := 1) (pl := 1) C d_Md_bits_14 rfl rfl rfl ?_
    refine r_imul (q := 16) C d_Md_bits_15 rfl ?_
    refine r_iload_n (q := 17) (i := 2) (pl := 2) C d_Md_bits_16 rfl rfl rfl ?_
    refine r_iadd (q := 18) C d_Md_bits_17 rfl ?_
    refine r_aZ (q := 19) C (Or.inr rfl) d_Md_bits_18 rfl (fun v8 => ?_)
    refine r_if_ne (tgt := 24) (q := 22) C d_Md_bits_19 (by decide) rfl ?_ ?_
    · refine r_iconst (q := 25) (v := 2) C d_Md_bits_24 rfl (by decide) ?_
      refine r_iload_n (q := 26) (i := 1) (pl := 1) C d_Md_bits_25 rfl rfl rfl ?_
      refine r_imul (q := 27) C d_Md_bits_26 rfl ?_
      refine r_iload_n (q := 28) (i := 2) (pl := 2) C d_Md_bits_27 rfl rfl rfl ?_
      refine r_iadd (q := 29) C d_Md_bits_28 rfl ?_
      refine r_nI (fun n9 => ?_)
      refine r_istore_n (q := 30) (i := 3) (lv' := [(3, vI n9), (0, vA (some a)), (1, vI x1), (2, vI x2)]) C d_Md_bits_29 rfl rfl (by decide) rfl ?_
      refine r_iconst (q := 31) (v := 0) C d_Md_bits_30 rfl (by decide) ?_
      refine r_istore (q := 33) (i := 4) (lv' := [(4, vI (0 : Int32)), (3, vI n9), (0, vA (some a)), (1, vI x1), (2, vI x2)]) C d_Md_bits_31 rfl (by decide) rfl ?_
      refine r_iconst (q := 34) (v := 0) C d_Md_bits_33 rfl (by decide) ?_
      refine r_istore (q := 36) (i := 5) (lv' := [(5, vI (0 : Int32)), (4, vI (0 : Int32)), (3, vI n9), (0, vA (some a)), (1, vI x1), (2, vI x2)]) C d_Md_bits_34 rfl (by decide) rfl ?_
      refine r_iconst (q := 37) (v := 0) C d_Md_bits_36 rfl (by decide) ?_
      refine r_istore (q := 39) (i := 6) (lv' := [(6, vI (0 : Int32)), (5, vI (0 : Int32)), (4, vI (0 : Int32)), (3, vI n9), (0, vA (some a)), (1, vI x1), (2, vI x2)]) C d_Md_bits_37 rfl (by decide) rfl ?_
      refine r_sub (lv' := [(0, vA (some a)), (3, vI n9), (4, vI (0 : Int32)), (5, vI (0 : Int32)), (6, vI (0 : Int32))]) [4, 3, 2, 1, 0] rfl ?_
      exact s_Md_bits_39 C a sn_fuel n9 (0 : Int32) (0 : Int32) (0 : Int32)
    · refine r_sub (lv' := [(0, vA (some a))]) [0] rfl ?_
      exact s_Md_bits_22 C a
theorem d_Md_flow_0 : decode c_Md_flow 0 = .ok (.aload_n 0, 1) := by decide +kernel
theorem d_Md_flow_1 : decode c_Md_flow 1 = .ok (.iload_n 1, 1) := by decide +kernel
theorem d_Md_flow_2 : decode c_Md_flow 2 = .ok (.iload_n 2, 1) := by decide +kernel
theorem d_Md_flow_3 : decode c_Md_flow 3 = .ok (.iload_n 3, 1) := by decide +kernel
theorem d_Md_flow_4 : decode c_Md_flow 4 = .ok (.invokevirtual 415, 3) := by decide +kernel
theorem d_Md_flow_7 : decode c_Md_flow 7 = .ok (.ifCond .ne 5, 3) := by decide +kernel
theorem d_Md_flow_10 : decode c_Md_flow 10 = .ok (.iconst (-1), 1) := by decide +kernel
theorem d_Md_flow_11 : decode c_Md_flow 11 = .ok (.ireturn, 1) := by decide +kernel
theorem d_Md_flow_12 : decode c_Md_flow 12 = .ok (.aload_n 0, 1) := by decide +kernel
theorem d_Md_flow_13 : decode c_Md_flow 13 = .ok (.iload_n 1, 1) := by decide +kernel
theorem d_Md_flow_14 : decode c_Md_flow 14 = .ok (.iload_n 2, 1) := by decide +kernel
theorem d_Md_flow_15 : decode c_Md_flow 15 = .ok (.iload_n 3, 1) := by decide +kernel
theorem d_Md_flow_16 : decode c_Md_flow 16 = .ok (.invokevirtual 212, 3) := by decide +kernel
theorem d_Md_flow_19 : decode c_Md_flow 19 = .ok (.istore 5, 2) := by decide +kernel
theorem d_Md_flow_21 : decode c_Md_flow 21 = .ok (.iload 4, 2) := by decide +kernel
theorem d_Md_flow_23 : decode c_Md_flow 23 = .ok (.ifCond .ne 13, 3) := by decide +kernel
theorem d_Md_flow_26 : decode c_Md_flow 26 = .ok (.aload_n 0, 1) := by decide +kernel
theorem d_Md_flow_27 : decode c_Md_flow 27 = .ok (.getfield 117, 3) := by decide +kernel
theorem d_Md_flow_30 : decode c_Md_flow 30 = .ok (.iload 5, 2) := by decide +kernel
theorem d_Md_flow_32 : decode c_Md_flow 32 = .ok (.iaload, 1) := by decide +kernel
theorem d_Md_flow_33 : decode c_Md_flow 33 = .ok (.goto 52, 3) := by decide +kernel
theorem d_Md_flow_36 : decode c_Md_flow 36 = .ok (.iload 4, 2) := by decide +kernel
theorem d_Md_flow_38 : decode c_Md_flow 38 = .ok (.iconst 1, 1) := by decide +kernel
theorem d_Md_flow_39 : decode c_Md_flow 39 = .ok (.if_icmp .ne 13, 3) := by decide +kernel
theorem d_Md_flow_42 : decode c_Md_flow 42 = .ok (.aload_n 0, 1) := by decide +kernel
theorem d_Md_flow_43 : decode c_Md_flow 43 = .ok (.getfield 120, 3) := by decide +kernel
theorem d_Md_flow_46 : decode c_Md_flow 46 = .ok (.iload 5, 2) := by decide +kernel
theorem d_Md_flow_48 : decode c_Md_flow 48 = .ok (.iaload, 1) := by decide +kernel
theorem d_Md_flow_49 : decode c_Md_flow 49 = .ok (.goto 36, 3) := by decide +kernel
theorem d_Md_flow_52 : decode c_Md_flow 52 = .ok (.iload 4, 2) := by decide +kernel
theorem d_Md_flow_54 : decode c_Md_flow 54 = .ok (.iconst 2, 1) := by decide +kernel
theorem d_Md_flow_55 : decode c_Md_flow 55 = .ok (.if_icmp .ne 13, 3) := by decide +kernel
theorem d_Md_flow_58 : decode c_Md_flow 58 = .ok (.aload_n 0, 1) := by decide +kernel
theorem d_Md_flow_59 : decode c_Md_flow 59 = .ok (.getfield 135, 3) := by decide +kernel
theorem d_Md_flow_62 : decode c_Md_flow 62 = .ok (.iload 5, 2) := by decide +kernel
theorem d_Md_flow_64 : decode c_Md_flow 64 = .ok (.iaload, 1) := by decide +kernel
theorem d_Md_flow_65 : decode c_Md_flow 65 = .ok (.goto 20, 3) := by decide +kernel
theorem d_Md_flow_68 : decode c_Md_flow 68 = .ok (.iload 4, 2) := by decide +kernel
theorem d_Md_flow_70 : decode c_Md_flow 70 = .ok (.iconst 3, 1) := by decide +kernel
theorem d_Md_flow_71 : decode c_Md_flow 71 = .ok (.if_icmp .ne 13, 3) := by decide +kernel
theorem d_Md_flow_74 : decode c_Md_flow 74 = .ok (.aload_n 0, 1) := by decide +kernel
theorem d_Md_flow_75 : decode c_Md_flow 75 = .ok (.getfield 123, 3) := by decide +kernel
theorem d_Md_flow_78 : decode c_Md_flow 78 = .ok (.iload 5, 2) := by decide +kernel
theorem d_Md_flow_80 : decode c_Md_flow 80 = .ok (.iaload, 1) := by decide +kernel
theorem d_Md_flow_81 : decode c_Md_flow 81 = .ok (.goto 4, 3) := by decide +kernel
theorem d_Md_flow_84 : decode c_Md_flow 84 = .ok (.iconst (-1), 1) := by decide +kernel
theorem d_Md_flow_85 : decode c_Md_flow 85 = .ok (.ireturn, 1) := by decide +kernel
def f_Md_flow_85 (a : Nat) (t0 : Int32) : sn_M := r_I t0
set_option maxHeartbeats 4000000 in
set_option maxRecDepth 100000 in
theorem mono_Md_flow_85 (a : Nat) (t0 : Int32) : sn_Mono (f_Md_flow_85 a t0) := sn_Mono.rI
set_option maxHeartbeats 4000000 in
set_option maxRecDepth 100000 in
theorem s_Md_flow_85 {X : sn_X} (C : sn_Cx X c_Md_flow "SignalNetworkModel" (some .int) "flow" 6 4 92) (a : Nat) (t0 : Int32) : sn_S X 85 [(0, vA (some a))] [vI t0] (f_Md_flow_85 a t0) := by
  unfold f_Md_flow_85
  exact r_iret C d_Md_flow_85 rfl
def f_Md_flow (a : Nat) (x1 : Int32) (x2 : Int32) (x3 : Int32) (x4 : Int32) : sn_M := n_n 12 (some a) fun a1 => c_I (f_Md_isFlow a1 x1 x2 x3) fun v2 => (if ¬ v2 = 0 then n_n 12 (some a) fun a3 => c_I (f_Md_flowAt a3 x1 x2 x3) fun v4 => (if ¬ x4 = 0 then (if ¬ x4 = (1 : Int32) then (if ¬ x4 = (2 : Int32) then (if ¬ x4 = (3 : Int32) then f_Md_flow_85 a (-1 : Int32) else g_R 12 43 (some a) fun v5 => a_I 31 v5 v4 fun v6 => f_Md_flow_85 a v6) else g_R 12 47 (some a) fun v7 => a_I 31 v7 v4 fun v8 => f_Md_flow_85 a v8) else g_R 12 42 (some a) fun v9 => a_I 31 v9 v4 fun v10 => f_Md_flow_85 a v10) else g_R 12 41 (some a) fun v11 => a_I 31 v11 v4 fun v12 => f_Md_flow_85 a v12) else r_I (-1 : Int32))
set_option maxHeartbeats 4000000 in
set_option maxRecDepth 100000 in
theorem mono_Md_flow (a : Nat) (x1 : Int32) (x2 : Int32) (x3 : Int32) (x4 : Int32) : sn_Mono (f_Md_flow a x1 x2 x3 x4) := sn_Mono.nn (fun a1 => sn_Mono.cI (mono_Md_isFlow a1 x1 x2 x3) (fun v2 => sn_Mono.ite (sn_Mono.nn (fun a3 => sn_Mono.cI (mono_Md_flowAt a3 x1 x2 x3) (fun v4 => sn_Mono.ite (sn_Mono.ite (sn_Mono.ite (sn_Mono.ite (mono_Md_flow_85 a (-1 : Int32)) (sn_Mono.gR (fun v5 => sn_Mono.aI (fun v6 => mono_Md_flow_85 a v6)))) (sn_Mono.gR (fun v7 => sn_Mono.aI (fun v8 => mono_Md_flow_85 a v8)))) (sn_Mono.gR (fun v9 => sn_Mono.aI (fun v10 => mono_Md_flow_85 a v10)))) (sn_Mono.gR (fun v11 => sn_Mono.aI (fun v12 => mono_Md_flow_85 a v12)))))) (sn_Mono.rI)))
set_option maxHeartbeats 4000000 in
set_option maxRecDepth 100000 in
theorem con_Md_flow (a : Nat) (x1 : Int32) (x2 : Int32) (x3 : Int32) (x4 : Int32) : sn_Con y_Md_flow c_Md_flow 6 (some .int) 4 92 [vA (some a), vI x1, vI x2, vI x3, vI x4] (f_Md_flow a x1 x2 x3 x4) := by
  refine sn_Con.of (by decide +kernel) (by show _ ≤ _; exact Nat.le_of_ble_eq_true rfl) (mono_Md_flow a x1 x2 x3 x4) (fun X C => ?_)
  show sn_S X 0 [(0, vA (some a)), (1, vI x1), (2, vI x2), (3, vI x3), (4, vI x4)] [] _
  replace C : sn_Cx X c_Md_flow "SignalNetworkModel" (some .int) "flow" 6 4 92 := C
  unfold f_Md_flow
  refine r_aload_n (q := 1) (i := 0) (pl := 0) C d_Md_flow_0 rfl rfl rfl ?_
  refine r_iload_n (q := 2) (i := 1) (pl := 1) C d_Md_flow_1 rfl rfl rfl ?_
  refine r_iload_n (q := 3) (i := 2) (pl := 2) C d_Md_flow_2 rfl rfl rfl ?_
  refine r_iload_n (q := 4) (i := 3) (pl := 3) C d_Md_flow_3 rfl rfl rfl ?_
  refine r_cvI (q := 7) (As := [vI x1, vI x2, vI x3]) (st := []) (cy := 11) C d_Md_flow_4 rfl Y_Md_isFlow L_Md_415 I_Md_isFlow Se_Md_isFlow rfl (by decide) rfl (Nat.le_of_ble_eq_true rfl) (Nat.le_of_ble_eq_true rfl) (Nat.le_of_ble_eq_true rfl) rfl (fun a1 => con_Md_isFlow a1 x1 x2 x3) (fun v2 => ?_)
  refine r_if_ne (tgt := 12) (q := 10) C d_Md_flow_7 (by decide) rfl ?_ ?_
  · refine r_aload_n (q := 13) (i := 0) (pl := 0) C d_Md_flow_12 rfl rfl rfl ?_
    refine r_iload_n (q := 14) (i := 1) (pl := 1) C d_Md_flow_13 rfl rfl rfl ?_
    refine r_iload_n (q := 15) (i := 2) (pl := 2) C d_Md_flow_14 rfl rfl rfl ?_
    refine r_iload_n (q := 16) (i := 3) (pl := 3) C d_Md_flow_15 rfl rfl rfl ?_
    refine r_cvI (q := 19) (As := [vI x1, vI x2, vI x3]) (st := []) (cy := 11) C d_Md_flow_16 rfl Y_Md_flowAt L_Md_212 I_Md_flowAt Se_Md_flowAt rfl (by decide) rfl (Nat.le_of_ble_eq_true rfl) (Nat.le_of_ble_eq_true rfl) (Nat.le_of_ble_eq_true rfl) rfl (fun a3 => con_Md_flowAt a3 x1 x2 x3) (fun v4 => ?_)
    refine r_istore (q := 21) (i := 5) (lv' := [(5, vI v4), (0, vA (some a)), (1, vI x1), (2, vI x2), (3, vI x3), (4, vI x4)]) C d_Md_flow_19 rfl (by decide) rfl ?_
    refine r_iload (q := 23) (i := 4) (pl := 5) C d_Md_flow_21 rfl rfl ?_
    refine r_if_ne (tgt := 36) (q := 26) C d_Md_flow_23 (by decide) rfl ?_ ?_
    · refine r_iload (q := 38) (i := 4) (pl := 5) C d_Md_flow_36 rfl rfl ?_
      refine r_iconst (q := 39) (v := 1) C d_Md_flow_38 rfl (by decide) ?_
      refine r_icmp_ne (tgt := 52) (q := 42) C d_Md_flow_39 (by decide) rfl ?_ ?_
      · refine r_iload (q := 54) (i := 4) (pl := 5) C d_Md_flow_52 rfl rfl ?_
        refine r_iconst (q := 55) (v := 2) C d_Md_flow_54 rfl (by decide) ?_
        refine r_icmp_ne (tgt := 68) (q := 58) C d_Md_flow_55 (by decide) rfl ?_ ?_
        · refine r_iload (q := 70) (i := 4) (pl := 5) C d_Md_flow_68 rfl rfl ?_
          refine r_iconst (q := 71) (v := 3) C d_Md_flow_70 rfl (by decide) ?_
          refine r_icmp_ne (tgt := 84) (q := 74) C d_Md_flow_71 (by decide) rfl ?_ ?_
          · refine r_iconst (q := 85) (v := -1) C d_Md_flow_84 rfl (by decide) ?_
            refine r_sub (lv' := [(0, vA (some a))]) [1] rfl ?_
            exact s_Md_flow_85 C a (-1 : Int32)
          · refine r_aload_n (q := 75) (i := 0) (pl := 1) C d_Md_flow_74 rfl rfl rfl ?_
            refine r_gR (q := 78) C d_Md_flow_75 rfl F_Md_123 rfl (fun v5 => ?_)
            refine r_iload (q := 80) (i := 5) (pl := 0) C d_Md_flow_78 rfl rfl ?_
            refine r_aI (q := 81) C (Or.inr rfl) d_Md_flow_80 rfl (fun v6 => ?_)
            refine r_goto (tgt := 85) C d_Md_flow_81 (by decide) ?_
            refine r_sub (lv' := [(0, vA (some a))]) [1] rfl ?_
            exact s_Md_flow_85 C a v6
        · refine r_aload_n (q := 59) (i := 0) (pl := 1) C d_Md_flow_58 rfl rfl rfl ?_
          refine r_gR (q := 62) C d_Md_flow_59 rfl F_Md_135 rfl (fun v7 => ?_)
          refine r_iload (q := 64) (i := 5) (pl := 0) C d_Md_flow_62 rfl rfl ?_
          refine r_aI (q := 65) C (Or.inr rfl) d_Md_flow_64 rfl (fun v8 => ?_)
          refine r_goto (tgt := 85) C d_Md_flow_65 (by decide) ?_
          refine r_sub (lv' := [(0, vA (some a))]) [1] rfl ?_
          exact s_Md_flow_85 C a v8
      · refine r_aload_n (q := 43) (i := 0) (pl := 1) C d_Md_flow_42 rfl rfl rfl ?_
        refine r_gR (q := 46) C d_Md_flow_43 rfl F_Md_120 rfl (fun v9 => ?_)
        refine r_iload (q := 48) (i := 5) (pl := 0) C d_Md_flow_46 rfl rfl ?_
        refine r_aI (q := 49) C (Or.inr rfl) d_Md_flow_48 rfl (fun v10 => ?_)
        refine r_goto (tgt := 85) C d_Md_flow_49 (by decide) ?_
        refine r_sub (lv' := [(0, vA (some a))]) [1] rfl ?_
        exact s_Md_flow_85 C a v10
    · refine r_aload_n (q := 27) (i := 0) (pl := 1) C d_Md_flow_26 rfl rfl rfl ?_
      refine r_gR (q := 30) C d_Md_flow_27 rfl F_Md_117 rfl (fun v11 => ?_)
      refine r_iload (q := 32) (i := 5) (pl := 0) C d_Md_flow_30 rfl rfl ?_
      refine r_aI (q := 33) C (Or.inr rfl) d_Md_flow_32 rfl (fun v12 => ?_)
      refine r_goto (tgt := 85) C d_Md_flow_33 (by decide) ?_
      refine r_sub (lv' := [(0, vA (some a))]) [1] rfl ?_
      exact s_Md_flow_85 C a v12
  · refine r_iconst (q := 11) (v := -1) C d_Md_flow_10 rfl (by decide) ?_
    exact r_iret C d_Md_flow_11 rfl
theorem d_Md_next_0 : decode c_Md_next 0 = .ok (.iload_n 1, 1) := by decide +kernel
theorem d_Md_next_1 : decode c_Md_next 1 = .ok (.invokestatic 204, 3) := by decide +kernel
theorem d_Md_next_4 : decode c_Md_next 4 = .ok (.ifCond .eq 15, 3) := by decide +kernel
theorem d_Md_next_7 : decode c_Md_next 7 = .ok (.iload_n 2, 1) := by decide +kernel
theorem d_Md_next_8 : decode c_Md_next 8 = .ok (.invokestatic 204, 3) := by decide +kernel
theorem d_Md_next_11 : decode c_Md_next 11 = .ok (.ifCond .eq 8, 3) := by decide +kernel
theorem d_Md_next_14 : decode c_Md_next 14 = .ok (.iload_n 1, 1) := by decide +kernel
theorem d_Md_next_15 : decode c_Md_next 15 = .ok (.iload_n 2, 1) := by decide +kernel
theorem d_Md_next_16 : decode c_Md_next 16 = .ok (.if_icmp .ne 5, 3) := by decide +kernel
theorem d_Md_next_19 : decode c_Md_next 19 = .ok (.iconst (-1), 1) := by decide +kernel
theorem d_Md_next_20 : decode c_Md_next 20 = .ok (.ireturn, 1) := by decide +kernel
theorem d_Md_next_21 : decode c_Md_next 21 = .ok (.iload_n 3, 1) := by decide +kernel
theorem d_Md_next_22 : decode c_Md_next 22 = .ok (.ifCond .ne 10, 3) := by decide +kernel
theorem d_Md_next_25 : decode c_Md_next 25 = .ok (.aload_n 0, 1) := by decide +kernel
theorem d_Md_next_26 : decode c_Md_next 26 = .ok (.iload_n 1, 1) := by decide +kernel
theorem d_Md_next_27 : decode c_Md_next 27 = .ok (.iload_n 2, 1) := by decide +kernel
theorem d_Md_next_28 : decode c_Md_next 28 = .ok (.invokevirtual 245, 3) := by decide +kernel
theorem d_Md_next_31 : decode c_Md_next 31 = .ok (.ireturn, 1) := by decide +kernel
theorem d_Md_next_32 : decode c_Md_next 32 = .ok (.iload_n 3, 1) := by decide +kernel
theorem d_Md_next_33 : decode c_Md_next 33 = .ok (.bipush 10, 2) := by decide +kernel
theorem d_Md_next_35 : decode c_Md_next 35 = .ok (.irem, 1) := by decide +kernel
theorem d_Md_next_36 : decode c_Md_next 36 = .ok (.istore 4, 2) := by decide +kernel
theorem d_Md_next_38 : decode c_Md_next 38 = .ok (.iload_n 3, 1) := by decide +kernel
theorem d_Md_next_39 : decode c_Md_next 39 = .ok (.bipush 10, 2) := by decide +kernel
theorem d_Md_next_41 : decode c_Md_next 41 = .ok (.if_icmp .lt 25, 3) := by decide +kernel
theorem d_Md_next_44 : decode c_Md_next 44 = .ok (.iload_n 3, 1) := by decide +kernel
theorem d_Md_next_45 : decode c_Md_next 45 = .ok (.bipush 25, 2) := by decide +kernel
theorem d_Md_next_47 : decode c_Md_next 47 = .ok (.if_icmp .gt 19, 3) := by decide +kernel
theorem d_Md_next_50 : decode c_Md_next 50 = .ok (.iload 4, 2) := by decide +kernel
theorem d_Md_next_52 : decode c_Md_next 52 = .ok (.iconst 5, 1) := by decide +kernel
theorem d_Md_next_53 : decode c_Md_next 53 = .ok (.if_icmp .gt 13, 3) := by decide +kernel
theorem d_Md_next_56 : decode c_Md_next 56 = .ok (.aload_n 0, 1) := by decide +kernel
theorem d_Md_next_57 : decode c_Md_next 57 = .ok (.iload_n 1, 1) := by decide +kernel
theorem d_Md_next_58 : decode c_Md_next 58 = .ok (.iload 4, 2) := by decide +kernel
theorem d_Md_next_60 : decode c_Md_next 60 = .ok (.invokevirtual 226, 3) := by decide +kernel
theorem d_Md_next_63 : decode c_Md_next 63 = .ok (.ifCond .ne 5, 3) := by decide +kernel
theorem d_Md_next_66 : decode c_Md_next 66 = .ok (.iconst (-1), 1) := by decide +kernel
theorem d_Md_next_67 : decode c_Md_next 67 = .ok (.ireturn, 1) := by decide +kernel
theorem d_Md_next_68 : decode c_Md_next 68 = .ok (.bipush 36, 2) := by decide +kernel
theorem d_Md_next_70 : decode c_Md_next 70 = .ok (.iload_n 1, 1) := by decide +kernel
theorem d_Md_next_71 : decode c_Md_next 71 = .ok (.imul, 1) := by decide +kernel
theorem d_Md_next_72 : decode c_Md_next 72 = .ok (.bipush 6, 2) := by decide +kernel
theorem d_Md_next_74 : decode c_Md_next 74 = .ok (.iload 4, 2) := by decide +kernel
theorem d_Md_next_76 : decode c_Md_next 76 = .ok (.imul, 1) := by decide +kernel
theorem d_Md_next_77 : decode c_Md_next 77 = .ok (.iadd, 1) := by decide +kernel
theorem d_Md_next_78 : decode c_Md_next 78 = .ok (.iload_n 2, 1) := by decide +kernel
theorem d_Md_next_79 : decode c_Md_next 79 = .ok (.iadd, 1) := by decide +kernel
theorem d_Md_next_80 : decode c_Md_next 80 = .ok (.istore 5, 2) := by decide +kernel
theorem d_Md_next_82 : decode c_Md_next 82 = .ok (.iload_n 3, 1) := by decide +kernel
theorem d_Md_next_83 : decode c_Md_next 83 = .ok (.bipush 20, 2) := by decide +kernel
theorem d_Md_next_85 : decode c_Md_next 85 = .ok (.if_icmp .ge 19, 3) := by decide +kernel
theorem d_Md_next_88 : decode c_Md_next 88 = .ok (.aload_n 0, 1) := by decide +kernel
theorem d_Md_next_89 : decode c_Md_next 89 = .ok (.getfield 138, 3) := by decide +kernel
theorem d_Md_next_92 : decode c_Md_next 92 = .ok (.iload 5, 2) := by decide +kernel
theorem d_Md_next_94 : decode c_Md_next 94 = .ok (.baload, 1) := by decide +kernel
theorem d_Md_next_95 : decode c_Md_next 95 = .ok (.ifCond .eq 7, 3) := by decide +kernel
theorem d_Md_next_98 : decode c_Md_next 98 = .ok (.iconst 1, 1) := by decide +kernel
theorem d_Md_next_99 : decode c_Md_next 99 = .ok (.goto 4, 3) := by decide +kernel
theorem d_Md_next_102 : decode c_Md_next 102 = .ok (.iconst 0, 1) := by decide +kernel
theorem d_Md_next_103 : decode c_Md_next 103 = .ok (.ireturn, 1) := by decide +kernel
theorem d_Md_next_104 : decode c_Md_next 104 = .ok (.aload_n 0, 1) := by decide +kernel
theorem d_Md_next_105 : decode c_Md_next 105 = .ok (.getfield 141, 3) := by decide +kernel
theorem d_Md_next_108 : decode c_Md_next 108 = .ok (.iload 5, 2) := by decide +kernel
theorem d_Md_next_110 : decode c_Md_next 110 = .ok (.iaload, 1) := by decide +kernel
theorem d_Md_next_111 : decode c_Md_next 111 = .ok (.ifCond .ne 7, 3) := by decide +kernel
theorem d_Md_next_114 : decode c_Md_next 114 = .ok (.iconst (-1), 1) := by decide +kernel
theorem d_Md_next_115 : decode c_Md_next 115 = .ok (.goto 19, 3) := by decide +kernel
theorem d_Md_next_118 : decode c_Md_next 118 = .ok (.aload_n 0, 1) := by decide +kernel
theorem d_Md_next_119 : decode c_Md_next 119 = .ok (.getfield 141, 3) := by decide +kernel
theorem d_Md_next_122 : decode c_Md_next 122 = .ok (.iload 5, 2) := by decide +kernel
theorem d_Md_next_124 : decode c_Md_next 124 = .ok (.iaload, 1) := by decide +kernel
theorem d_Md_next_125 : decode c_Md_next 125 = .ok (.iconst 1, 1) := by decide +kernel
theorem d_Md_next_126 : decode c_Md_next 126 = .ok (.if_icmp .ne 7, 3) := by decide +kernel
theorem d_Md_next_129 : decode c_Md_next 129 = .ok (.iconst 1, 1) := by decide +kernel
theorem d_Md_next_130 : decode c_Md_next 130 = .ok (.goto 4, 3) := by decide +kernel
theorem d_Md_next_133 : decode c_Md_next 133 = .ok (.iconst 0, 1) := by decide +kernel
theorem d_Md_next_134 : decode c_Md_next 134 = .ok (.ireturn, 1) := by decide +kernel
def f_Md_next_19 (a : Nat) : sn_M := r_I (-1 : Int32)
set_option maxHeartbeats 4000000 in
set_option maxRecDepth 100000 in
theorem mono_Md_next_19 (a : Nat) : sn_Mono (f_Md_next_19 a) := sn_Mono.rI
set_option maxHeartbeats 4000000 in
set_option maxRecDepth 100000 in
theorem s_Md_next_19 {X : sn_X} (C : sn_Cx X c_Md_next "SignalNetworkModel" (some .int) "next" 6 4 93) (a : Nat) : sn_S X 19 [(0, vA (some a))] [] (f_Md_next_19 a) := by
  unfold f_Md_next_19
  refine r_iconst (q := 20) (v := -1) C d_Md_next_19 rfl (by decide) ?_
  exact r_iret C d_Md_next_20 rfl
def f_Md_next_66 (a : Nat) : sn_M := r_I (-1 : Int32)
set_option maxHeartbeats 4000000 in
set_option maxRecDepth 100000 in
theorem mono_Md_next_66 (a : Nat) : sn_Mono (f_Md_next_66 a) := sn_Mono.rI
set_option maxHeartbeats 4000000 in
set_option maxRecDepth 100000 in
theorem s_Md_next_66 {X : sn_X} (C : sn_Cx X c_Md_next "SignalNetworkModel" (some .int) "next" 6 4 93) (a : Nat) : sn_S X 66 [(0, vA (some a))] [] (f_Md_next_66 a) := by
  unfold f_Md_next_66
  refine r_iconst (q := 67) (v := -1) C d_Md_next_66 rfl (by decide) ?_
  exact r_iret C d_Md_next_67 rfl
def f_Md_next_103 (a : Nat) (t0 : Int32) : sn_M := r_I t0
set_option maxHeartbeats 4000000 in
set_option maxRecDepth 100000 in
theorem mono_Md_next_103 (a : Nat) (t0 : Int32) : sn_Mono (f_Md_next_103 a t0) := sn_Mono.rI
set_option maxHeartbeats 4000000 in
set_option maxRecDepth 100000 in
theorem s_Md_next_103 {X : sn_X} (C : sn_Cx X c_Md_next "SignalNetworkModel" (some .int) "next" 6 4 93) (a : Nat) (t0 : Int32) : sn_S X 103 [(0, vA (some a))] [vI t0] (f_Md_next_103 a t0) := by
  unfold f_Md_next_103
  exact r_iret C d_Md_next_103 rfl
def f_Md_next_134 (a : Nat) (t0 : Int32) : sn_M := r_I t0
set_option maxHeartbeats 4000000 in
set_option maxRecDepth 100000 in
theorem mono_Md_next_134 (a : Nat) (t0 : Int32) : sn_Mono (f_Md_next_134 a t0) := sn_Mono.rI
set_option maxHeartbeats 4000000 in
set_option maxRecDepth 100000 in
theorem s_Md_next_134 {X : sn_X} (C : sn_Cx X c_Md_next "SignalNetworkModel" (some .int) "next" 6 4 93) (a : Nat) (t0 : Int32) : sn_S X 134 [(0, vA (some a))] [vI t0] (f_Md_next_134 a t0) := by
  unfold f_Md_next_134
  exact r_iret C d_Md_next_134 rfl
def f_Md_next (a : Nat) (x1 : Int32) (x2 : Int32) (x3 : Int32) : sn_M := c_I (f_Md_isExchange x1) fun v1 => (if v1 = 0 then f_Md_next_19 a else c_I (f_Md_isExchange x2) fun v2 => (if v2 = 0 then f_Md_next_19 a else (if ¬ x1 = x2 then (if ¬ x3 = 0 then n_I ((x3 % (10 : Int32))) fun n3 => (if x3 < (10 : Int32) then f_Md_next_66 a else (if (25 : Int32) < x3 then f_Md_next_66 a else (if (5 : Int32) < n3 then f_Md_next_66 a else n_n 12 (some a) fun a4 => c_I (f_Md_areNeighbours a4 x1 n3) fun v5 => (if ¬ v5 = 0 then n_I (((((36 : Int32) * x1) + ((6 : Int32) * n3)) + x2)) fun n6 => (if (20 : Int32) ≤ x3 then g_R 12 49 (some a) fun v7 => a_I 31 v7 n6 fun v8 => (if ¬ v8 = 0 then g_R 12 49 (some a) fun v9 => a_I 31 v9 n6 fun v10 => (if ¬ v10 = (1 : Int32) then f_Md_next_134 a (0 : Int32) else f_Md_next_134 a (1 : Int32)) else f_Md_next_134 a (-1 : Int32)) else g_R 12 48 (some a) fun v11 => a_I 33 v11 n6 fun v12 => (if v12 = 0 then f_Md_next_103 a (0 : Int32) else f_Md_next_103 a (1 : Int32))) else f_Md_next_66 a)))) else n_n 12 (some a) fun a13 => c_I (f_Md_nextOf a13 x1 x2) fun v14 => r_I v14) else f_Md_next_19 a)))
set_option maxHeartbeats 4000000 in
set_option maxRecDepth 100000 in
theorem mono_Md_next (a : Nat) (x1 : Int32) (x2 : Int32) (x3 : Int32) : sn_Mono (f_Md_next a x1 x2 x3) := sn_Mono.cI (mono_Md_isExchange x1) (fun v1 => sn_Mono.ite (mono_Md_next_19 a) (sn_Mono.cI (mono_Md_isExchange x2) (fun v2 => sn_Mono.ite (mono_Md_next_19 a) (sn_Mono.ite (sn_Mono.ite (sn_Mono.nI (fun n3 => sn_Mono.ite (mono_Md_next_66 a) (sn_Mono.ite (mono_Md_next_66 a) (sn_Mono.ite (mono_Md_next_66 a) (sn_Mono.nn (fun a4 => sn_Mono.cI (mono_Md_areNeighbours a4 x1 n3) (fun v5 => sn_Mono.ite (sn_Mono.nI (fun n6 => sn_Mono.ite (sn_Mono.gR (fun v7 => sn_Mono.aI (fun v8 => sn_Mono.ite (sn_Mono.gR (fun v9 => sn_Mono.aI (fun v10 => sn_Mono.ite (mono_Md_next_134 a (0 : Int32)) (mono_Md_next_134 a (1 : Int32))))) (mono_Md_next_134 a (-1 : Int32))))) (sn_Mono.gR (fun v11 => sn_Mono.aI (fun v12 => sn_Mono.ite (mono_Md_next_103 a (0 : Int32)) (mono_Md_next_103 a (1 : Int32))))))) (mono_Md_next_66 a)))))))) (sn_Mono.nn (fun a13 => sn_Mono.cI (mono_Md_nextOf a13 x1 x2) (fun v14 => sn_Mono.rI)))) (mono_Md_next_19 a)))))
set_option maxHeartbeats 4000000 in
set_option maxRecDepth 100000 in
theorem con_Md_next (a : Nat) (x1 : Int32) (x2 : Int32) (x3 : Int32) : sn_Con y_Md_next c_Md_next 6 (some .int) 4 93 [vA (some a), vI x1, vI x2, vI x3] (f_Md_next a x1 x2 x3) := by
  refine sn_Con.of (by decide +kernel) (by show _ ≤ _; exact Nat.le_of_ble_eq_true rfl) (mono_Md_next a x1 x2 x3) (fun X C => ?_)
  show sn_S X 0 [(0, vA (some a)), (1, vI x1), (2, vI x2), (3, vI x3)] [] _
  replace C : sn_Cx X c_Md_next "SignalNetworkModel" (some .int) "next" 6 4 93 := C
  unfold f_Md_next
  refine r_iload_n (q := 1) (i := 1) (pl := 1) C d_Md_next_0 rfl rfl rfl ?_
  refine r_csI (q := 4) (As := [vI x1]) (st := []) C d_Md_next_1 rfl Y_Md_isExchange L_Md_204 St_Md_isExchange rfl (Nat.le_of_ble_eq_true rfl) (Nat.le_of_ble_eq_true rfl) (Nat.le_of_ble_eq_true rfl) rfl (con_Md_isExchange x1) (fun v1 => ?_)
  refine r_if_eq (tgt := 19) (q := 7) C d_Md_next_4 (by decide) rfl ?_ ?_
  · refine r_sub (lv' := [(0, vA (some a))]) [0] rfl ?_
    exact s_Md_next_19 C a
  · refine r_iload_n (q := 8) (i := 2) (pl := 2) C d_Md_next_7 rfl rfl rfl ?_
    refine r_csI (q := 11) (As := [vI x2]) (st := []) C d_Md_next_8 rfl Y_Md_isExchange L_Md_204 St_Md_isExchange rfl (Nat.le_of_ble_eq_true rfl) (Nat.le_of_ble_eq_true rfl) (Nat.le_of_ble_eq_true rfl) rfl (con_Md_isExchange x2) (fun v2 => ?_)
    refine r_if_eq (tgt := 19) (q := 14) C d_Md_next_11 (by decide) rfl ?_ ?_
    · refine r_sub (lv' := [(0, vA (some a))]) [0] rfl ?_
      exact s_Md_next_19 C a
    · refine r_iload_n (q := 15) (i := 1) (pl := 1) C d_Md_next_14 rfl rfl rfl ?_
      refine r_iload_n (q := 16) (i := 2) (pl := 2) C d_Md_next_15 rfl rfl rfl ?_
      refine r_icmp_ne (tgt := 21) (q := 19) C d_Md_next_16 (by decide) rfl ?_ ?_
      · refine r_iload_n (q := 22) (i := 3) (pl := 3) C d_Md_next_21 rfl rfl rfl ?_
        refine r_if_ne (tgt := 32) (q := 25) C d_Md_next_22 (by decide) rfl ?_ ?_
        · refine r_iload_n (q := 33) (i := 3) (pl := 3) C d_Md_next_32 rfl rfl rfl ?_
          refine r_bipush (q := 35) (v := 10) C d_Md_next_33 rfl (by decide) ?_
          refine r_iremc (q := 36) C d_Md_next_35 rfl (by decide) ?_
          refine r_nI (fun n3 => ?_)
          refine r_istore (q := 38) (i := 4) (lv' := [(4, vI n3), (0, vA (some a)), (1, vI x1), (2, vI x2), (3, vI x3)]) C d_Md_next_36 rfl (by decide) rfl ?_
          refine r_iload_n (q := 39) (i := 3) (pl := 4) C d_Md_next_38 rfl rfl rfl ?_
          refine r_bipush (q := 41) (v := 10) C d_Md_next_39 rfl (by decide) ?_
          refine r_icmp_lt (tgt := 66) (q := 44) C d_Md_next_41 (by decide) rfl ?_ ?_
          · refine r_sub (lv' := [(0, vA (some a))]) [1] rfl ?_
            exact s_Md_next_66 C a
          · refine r_iload_n (q := 45) (i := 3) (pl := 4) C d_Md_next_44 rfl rfl rfl ?_
            refine r_bipush (q := 47) (v := 25) C d_Md_next_45 rfl (by decide) ?_
            refine r_icmp_gt (tgt := 66) (q := 50) C d_Md_next_47 (by decide) rfl ?_ ?_
            · refine r_sub (lv' := [(0, vA (some a))]) [1] rfl ?_
              exact s_Md_next_66 C a
            · refine r_iload (q := 52) (i := 4) (pl := 0) C d_Md_next_50 rfl rfl ?_
              refine r_iconst (q := 53) (v := 5) C d_Md_next_52 rfl (by decide) ?_
              refine r_icmp_gt (tgt := 66) (q := 56) C d_Md_next_53 (by decide) rfl ?_ ?_
              · refine r_sub (lv' := [(0, vA (some a))]) [1] rfl ?_
                exact s_Md_next_66 C a
              · refine r_aload_n (q := 57) (i := 0) (pl := 1) C d_Md_next_56 rfl rfl rfl ?_
                refine r_iload_n (q := 58) (i := 1) (pl := 2) C d_Md_next_57 rfl rfl rfl ?_
                refine r_iload (q := 60) (i := 4) (pl := 0) C d_Md_next_58 rfl rfl ?_
                refine r_cvI (q := 63) (As := [vI x1, vI n3]) (st := []) (cy := 11) C d_Md_next_60 rfl Y_Md_areNeighbours L_Md_226 I_Md_areNeighbours Se_Md_areNeighbours rfl (by decide) rfl (Nat.le_of_ble_eq_true rfl) (Nat.le_of_ble_eq_true rfl) (Nat.le_of_ble_eq_true rfl) rfl (fun a4 => con_Md_areNeighbours a4 x1 n3) (fun v5 => ?_)
                refine r_if_ne (tgt := 68) (q := 66) C d_Md_next_63 (by decide) rfl ?_ ?_
                · refine r_bipush (q := 70) (v := 36) C d_Md_next_68 rfl (by decide) ?_
                  refine r_iload_n (q := 71) (i := 1) (pl := 2) C d_Md_next_70 rfl rfl rfl ?_
                  refine r_imul (q := 72) C d_Md_next_71 rfl ?_
                  refine r_bipush (q := 74) (v := 6) C d_Md_next_72 rfl (by decide) ?_
                  refine r_iload (q := 76) (i := 4) (pl := 0) C d_Md_next_74 rfl rfl ?_
                  refine r_imul (q := 77) C d_Md_next_76 rfl ?_
                  refine r_iadd (q := 78) C d_Md_next_77 rfl ?_
                  refine r_iload_n (q := 79) (i := 2) (pl := 3) C d_Md_next_78 rfl rfl rfl ?_
                  refine r_iadd (q := 80) C d_Md_next_79 rfl ?_
                  refine r_nI (fun n6 => ?_)
                  refine r_istore (q := 82) (i := 5) (lv' := [(5, vI n6), (4, vI n3), (0, vA (some a)), (1, vI x1), (2, vI x2), (3, vI x3)]) C d_Md_next_80 rfl (by decide) rfl ?_
                  refine r_iload_n (q := 83) (i := 3) (pl := 5) C d_Md_next_82 rfl rfl rfl ?_
                  refine r_bipush (q := 85) (v := 20) C d_Md_next_83 rfl (by decide) ?_
                  refine r_icmp_ge (tgt := 104) (q := 88) C d_Md_next_85 (by decide) rfl ?_ ?_
                  · refine r_aload_n (q := 105) (i := 0) (pl := 2) C d_Md_next_104 rfl rfl rfl ?_
                    refine r_gR (q := 108) C d_Md_next_105 rfl F_Md_141 rfl (fun v7 => ?_)
                    refine r_iload (q := 110) (i := 5) (pl := 0) C d_Md_next_108 rfl rfl ?_
                    refine r_aI (q := 111) C (Or.inr rfl) d_Md_next_110 rfl (fun v8 => ?_)
                    refine r_if_ne (tgt := 118) (q := 114) C d_Md_next_111 (by decide) rfl ?_ ?_
                    · refine r_aload_n (q := 119) (i := 0) (pl := 2) C d_Md_next_118 rfl rfl rfl ?_
                      refine r_gR (q := 122) C d_Md_next_119 rfl F_Md_141 rfl (fun v9 => ?_)
                      refine r_iload (q := 124) (i := 5) (pl := 0) C d_Md_next_122 rfl rfl ?_
                      refine r_aI (q := 125) C (Or.inr rfl) d_Md_next_124 rfl (fun v10 => ?_)
                      refine r_iconst (q := 126) (v := 1) C d_Md_next_125 rfl (by decide) ?_
                      refine r_icmp_ne (tgt := 133) (q := 129) C d_Md_next_126 (by decide) rfl ?_ ?_
                      · refine r_iconst (q := 134) (v := 0) C d_Md_next_133 rfl (by decide) ?_
                        refine r_sub (lv' := [(0, vA (some a))]) [2] rfl ?_
                        exact s_Md_next_134 C a (0 : Int32)
                      · refine r_iconst (q := 130) (v := 1) C d_Md_next_129 rfl (by decide) ?_
                        refine r_goto (tgt := 134) C d_Md_next_130 (by decide) ?_
                        refine r_sub (lv' := [(0, vA (some a))]) [2] rfl ?_
                        exact s_Md_next_134 C a (1 : Int32)
                    · refine r_iconst (q := 115) (v := -1) C d_Md_next_114 rfl (by decide) ?_
                      refine r_goto (tgt := 134) C d_Md_next_115 (by decide) ?_
                      refine r_sub (lv' := [(0, vA (some a))]) [2] rfl ?_
                      exact s_Md_next_134 C a (-1 : Int32)
                  · refine r_aload_n (q := 89) (i := 0) (pl := 2) C d_Md_next_88 rfl rfl rfl ?_
                    refine r_gR (q := 92) C d_Md_next_89 rfl F_Md_138 rfl (fun v11 => ?_)
                    refine r_iload (q := 94) (i := 5) (pl := 0) C d_Md_next_92 rfl rfl ?_
                    refine r_aZ (q := 95) C (Or.inr rfl) d_Md_next_94 rfl (fun v12 => ?_)
                    refine r_if_eq (tgt := 102) (q := 98) C d_Md_next_95 (by decide) rfl ?_ ?_
                    · refine r_iconst (q := 103) (v := 0) C d_Md_next_102 rfl (by decide) ?_
                      refine r_sub (lv' := [(0, vA (some a))]) [2] rfl ?_
                      exact s_Md_next_103 C a (0 : Int32)
                    · refine r_iconst (q := 99) (v := 1) C d_Md_next_98 rfl (by decide) ?_
                      refine r_goto (tgt := 103) C d_Md_next_99 (by decide) ?_
                      refine r_sub (lv' := [(0, vA (some a))]) [2] rfl ?_
                      exact s_Md_next_103 C a (1 : Int32)
                · refine r_sub (lv' := [(0, vA (some a))]) [1] rfl ?_
                  exact s_Md_next_66 C a
        · refine r_aload_n (q := 26) (i := 0) (pl := 0) C d_Md_next_25 rfl rfl rfl ?_
          refine r_iload_n (q := 27) (i := 1) (pl := 1) C d_Md_next_26 rfl rfl rfl ?_
          refine r_iload_n (q := 28) (i := 2) (pl := 2) C d_Md_next_27 rfl rfl rfl ?_
          refine r_cvI (q := 31) (As := [vI x1, vI x2]) (st := []) (cy := 11) C d_Md_next_28 rfl Y_Md_nextOf L_Md_245 I_Md_nextOf Se_Md_nextOf rfl (by decide) rfl (Nat.le_of_ble_eq_true rfl) (Nat.le_of_ble_eq_true rfl) (Nat.le_of_ble_eq_true rfl) rfl (fun a13 => con_Md_nextOf a13 x1 x2) (fun v14 => ?_)
          exact r_iret C d_Md_next_31 rfl
      · refine r_sub (lv' := [(0, vA (some a))]) [0] rfl ?_
        exact s_Md_next_19 C a
theorem d_Md_legTold_0 : decode c_Md_legTold 0 = .ok (.iload_n 1, 1) := by decide +kernel
theorem d_Md_legTold_1 : decode c_Md_legTold 1 = .ok (.iconst (-1), 1) := by decide +kernel
theorem d_Md_legTold_2 : decode c_Md_legTold 2 = .ok (.if_icmp .ne 7, 3) := by decide +kernel
theorem d_Md_legTold_5 : decode c_Md_legTold 5 = .ok (.iconst (-1), 1) := by decide +kernel
theorem d_Md_legTold_6 : decode c_Md_legTold 6 = .ok (.goto 44, 3) := by decide +kernel
theorem d_Md_legTold_9 : decode c_Md_legTold 9 = .ok (.iload_n 1, 1) := by decide +kernel
theorem d_Md_legTold_10 : decode c_Md_legTold 10 = .ok (.bipush 100, 2) := by decide +kernel
theorem d_Md_legTold_12 : decode c_Md_legTold 12 = .ok (.if_icmp .ge 16, 3) := by decide +kernel
theorem d_Md_legTold_15 : decode c_Md_legTold 15 = .ok (.bipush 10, 2) := by decide +kernel
theorem d_Md_legTold_17 : decode c_Md_legTold 17 = .ok (.iload_n 1, 1) := by decide +kernel
theorem d_Md_legTold_18 : decode c_Md_legTold 18 = .ok (.iconst 4, 1) := by decide +kernel
theorem d_Md_legTold_19 : decode c_Md_legTold 19 = .ok (.idiv, 1) := by decide +kernel
theorem d_Md_legTold_20 : decode c_Md_legTold 20 = .ok (.imul, 1) := by decide +kernel
theorem d_Md_legTold_21 : decode c_Md_legTold 21 = .ok (.iload_n 1, 1) := by decide +kernel
theorem d_Md_legTold_22 : decode c_Md_legTold 22 = .ok (.iconst 4, 1) := by decide +kernel
theorem d_Md_legTold_23 : decode c_Md_legTold 23 = .ok (.irem, 1) := by decide +kernel
theorem d_Md_legTold_24 : decode c_Md_legTold 24 = .ok (.iadd, 1) := by decide +kernel
theorem d_Md_legTold_25 : decode c_Md_legTold 25 = .ok (.goto 25, 3) := by decide +kernel
theorem d_Md_legTold_28 : decode c_Md_legTold 28 = .ok (.bipush 100, 2) := by decide +kernel
theorem d_Md_legTold_30 : decode c_Md_legTold 30 = .ok (.bipush 10, 2) := by decide +kernel
theorem d_Md_legTold_32 : decode c_Md_legTold 32 = .ok (.iload_n 1, 1) := by decide +kernel
theorem d_Md_legTold_33 : decode c_Md_legTold 33 = .ok (.bipush 100, 2) := by decide +kernel
theorem d_Md_legTold_35 : decode c_Md_legTold 35 = .ok (.isub, 1) := by decide +kernel
theorem d_Md_legTold_36 : decode c_Md_legTold 36 = .ok (.bipush 24, 2) := by decide +kernel
theorem d_Md_legTold_38 : decode c_Md_legTold 38 = .ok (.irem, 1) := by decide +kernel
theorem d_Md_legTold_39 : decode c_Md_legTold 39 = .ok (.iconst 4, 1) := by decide +kernel
theorem d_Md_legTold_40 : decode c_Md_legTold 40 = .ok (.idiv, 1) := by decide +kernel
theorem d_Md_legTold_41 : decode c_Md_legTold 41 = .ok (.imul, 1) := by decide +kernel
theorem d_Md_legTold_42 : decode c_Md_legTold 42 = .ok (.iadd, 1) := by decide +kernel
theorem d_Md_legTold_43 : decode c_Md_legTold 43 = .ok (.iload_n 1, 1) := by decide +kernel
theorem d_Md_legTold_44 : decode c_Md_legTold 44 = .ok (.bipush 100, 2) := by decide +kernel
theorem d_Md_legTold_46 : decode c_Md_legTold 46 = .ok (.isub, 1) := by decide +kernel
theorem d_Md_legTold_47 : decode c_Md_legTold 47 = .ok (.iconst 4, 1) := by decide +kernel
theorem d_Md_legTold_48 : decode c_Md_legTold 48 = .ok (.irem, 1) := by decide +kernel
theorem d_Md_legTold_49 : decode c_Md_legTold 49 = .ok (.iadd, 1) := by decide +kernel
theorem d_Md_legTold_50 : decode c_Md_legTold 50 = .ok (.ireturn, 1) := by decide +kernel
def f_Md_legTold_50 (a : Nat) (t0 : Int32) : sn_M := r_I t0
set_option maxHeartbeats 4000000 in
set_option maxRecDepth 100000 in
theorem mono_Md_legTold_50 (a : Nat) (t0 : Int32) : sn_Mono (f_Md_legTold_50 a t0) := sn_Mono.rI
set_option maxHeartbeats 4000000 in
set_option maxRecDepth 100000 in
theorem s_Md_legTold_50 {X : sn_X} (C : sn_Cx X c_Md_legTold "SignalNetworkModel" (some .int) "legTold" 2 0 0) (a : Nat) (t0 : Int32) : sn_S X 50 [(0, vA (some a))] [vI t0] (f_Md_legTold_50 a t0) := by
  unfold f_Md_legTold_50
  exact r_iret C d_Md_legTold_50 rfl
def f_Md_legTold (a : Nat) (x1 : Int32) : sn_M := (if ¬ x1 = (-1 : Int32) then (if (100 : Int32) ≤ x1 then f_Md_legTold_50 a (((100 : Int32) + ((10 : Int32) * (((x1 - (100 : Int32)) % (24 : Int32)) / (4 : Int32)))) + ((x1 - (100 : Int32)) % (4 : Int32))) else f_Md_legTold_50 a (((10 : Int32) * (x1 / (4 : Int32))) + (x1 % (4 : Int32)))) else f_Md_legTold_50 a (-1 : Int32))
set_option maxHeartbeats 4000000 in
set_option maxRecDepth 100000 in
theorem mono_Md_legTold (a : Nat) (x1 : Int32) : sn_Mono (f_Md_legTold a x1) := sn_Mono.ite (sn_Mono.ite (mono_Md_legTold_50 a (((100 : Int32) + ((10 : Int32) * (((x1 - (100 : Int32)) % (24 : Int32)) / (4 : Int32)))) + ((x1 - (100 : Int32)) % (4 : Int32)))) (mono_Md_legTold_50 a (((10 : Int32) * (x1 / (4 : Int32))) + (x1 % (4 : Int32))))) (mono_Md_legTold_50 a (-1 : Int32))
set_option maxHeartbeats 4000000 in
set_option maxRecDepth 100000 in
theorem con_Md_legTold (a : Nat) (x1 : Int32) : sn_Con y_Md_legTold c_Md_legTold 2 (some .int) 0 0 [vA (some a), vI x1] (f_Md_legTold a x1) := by
  refine sn_Con.of (by decide +kernel) (by show _ ≤ _; exact Nat.le_of_ble_eq_true rfl) (mono_Md_legTold a x1) (fun X C => ?_)
  show sn_S X 0 [(0, vA (some a)), (1, vI x1)] [] _
  replace C : sn_Cx X c_Md_legTold "SignalNetworkModel" (some .int) "legTold" 2 0 0 := C
  unfold f_Md_legTold
  refine r_iload_n (q := 1) (i := 1) (pl := 1) C d_Md_legTold_0 rfl rfl rfl ?_
  refine r_iconst (q := 2) (v := -1) C d_Md_legTold_1 rfl (by decide) ?_
  refine r_icmp_ne (tgt := 9) (q := 5) C d_Md_legTold_2 (by decide) rfl ?_ ?_
  · refine r_iload_n (q := 10) (i := 1) (pl := 1) C d_Md_legTold_9 rfl rfl rfl ?_
    refine r_bipush (q := 12) (v := 100) C d_Md_legTold_10 rfl (by decide) ?_
    refine r_icmp_ge (tgt := 28) (q := 15) C d_Md_legTold_12 (by decide) rfl ?_ ?_
    · refine r_bipush (q := 30) (v := 100) C d_Md_legTold_28 rfl (by decide) ?_
      refine r_bipush (q := 32) (v := 10) C d_Md_legTold_30 rfl (by decide) ?_
      refine r_iload_n (q := 33) (i := 1) (pl := 1) C d_Md_legTold_32 rfl rfl rfl ?_
      refine r_bipush (q := 35) (v := 100) C d_Md_legTold_33 rfl (by decide) ?_
      refine r_isub (q := 36) C d_Md_legTold_35 rfl ?_
      refine r_bipush (q := 38) (v := 24) C d_Md_legTold_36 rfl (by decide) ?_
      refine r_iremc (q := 39) C d_Md_legTold_38 rfl (by decide) ?_
      refine r_iconst (q := 40) (v := 4) C d_Md_legTold_39 rfl (by decide) ?_
      refine r_idivc (q := 41) C d_Md_legTold_40 rfl (by decide) ?_
      refine r_imul (q := 42) C d_Md_legTold_41 rfl ?_
      refine r_iadd (q := 43) C d_Md_legTold_42 rfl ?_
      refine r_iload_n (q := 44) (i := 1) (pl := 1) C d_Md_legTold_43 rfl rfl rfl ?_
      refine r_bipush (q := 46) (v := 100) C d_Md_legTold_44 rfl (by decide) ?_
      refine r_isub (q := 47) C d_Md_legTold_46 rfl ?_
      refine r_iconst (q := 48) (v := 4) C d_Md_legTold_47 rfl (by decide) ?_
      refine r_iremc (q := 49) C d_Md_legTold_48 rfl (by decide) ?_
      refine r_iadd (q := 50) C d_Md_legTold_49 rfl ?_
      refine r_sub (lv' := [(0, vA (some a))]) [0] rfl ?_
      exact s_Md_legTold_50 C a (((100 : Int32) + ((10 : Int32) * (((x1 - (100 : Int32)) % (24 : Int32)) / (4 : Int32)))) + ((x1 - (100 : Int32)) % (4 : Int32)))
    · refine r_bipush (q := 17) (v := 10) C d_Md_legTold_15 rfl (by decide) ?_
      refine r_iload_n (q := 18) (i := 1) (pl := 1) C d_Md_legTold_17 rfl rfl rfl ?_
      refine r_iconst (q := 19) (v := 4) C d_Md_legTold_18 rfl (by decide) ?_
      refine r_idivc (q := 20) C d_Md_legTold_19 rfl (by decide) ?_
      refine r_imul (q := 21) C d_Md_legTold_20 rfl ?_
      refine r_iload_n (q := 22) (i := 1) (pl := 1) C d_Md_legTold_21 rfl rfl rfl ?_
      refine r_iconst (q := 23) (v := 4) C d_Md_legTold_22 rfl (by decide) ?_
      refine r_iremc (q := 24) C d_Md_legTold_23 rfl (by decide) ?_
      refine r_iadd (q := 25) C d_Md_legTold_24 rfl ?_
      refine r_goto (tgt := 50) C d_Md_legTold_25 (by decide) ?_
      refine r_sub (lv' := [(0, vA (some a))]) [0] rfl ?_
      exact s_Md_legTold_50 C a (((10 : Int32) * (x1 / (4 : Int32))) + (x1 % (4 : Int32)))
  · refine r_iconst (q := 6) (v := -1) C d_Md_legTold_5 rfl (by decide) ?_
    refine r_goto (tgt := 50) C d_Md_legTold_6 (by decide) ?_
    refine r_sub (lv' := [(0, vA (some a))]) [0] rfl ?_
    exact s_Md_legTold_50 C a (-1 : Int32)
theorem d_Md_circuit_0 : decode c_Md_circuit 0 = .ok (.aload_n 0, 1) := by decide +kernel
theorem d_Md_circuit_1 : decode c_Md_circuit 1 = .ok (.iload_n 1, 1) := by decide +kernel
theorem d_Md_circuit_2 : decode c_Md_circuit 2 = .ok (.iload_n 2, 1) := by decide +kernel
theorem d_Md_circuit_3 : decode c_Md_circuit 3 = .ok (.iload_n 3, 1) := by decide +kernel
theorem d_Md_circuit_4 : decode c_Md_circuit 4 = .ok (.invokevirtual 415, 3) := by decide +kernel
theorem d_Md_circuit_7 : decode c_Md_circuit 7 = .ok (.ifCond .ne 5, 3) := by decide +kernel
theorem d_Md_circuit_10 : decode c_Md_circuit 10 = .ok (.iconst (-1), 1) := by decide +kernel
theorem d_Md_circuit_11 : decode c_Md_circuit 11 = .ok (.ireturn, 1) := by decide +kernel
theorem d_Md_circuit_12 : decode c_Md_circuit 12 = .ok (.aload_n 0, 1) := by decide +kernel
theorem d_Md_circuit_13 : decode c_Md_circuit 13 = .ok (.iload_n 1, 1) := by decide +kernel
theorem d_Md_circuit_14 : decode c_Md_circuit 14 = .ok (.iload_n 2, 1) := by decide +kernel
theorem d_Md_circuit_15 : decode c_Md_circuit 15 = .ok (.iload_n 3, 1) := by decide +kernel
theorem d_Md_circuit_16 : decode c_Md_circuit 16 = .ok (.invokevirtual 212, 3) := by decide +kernel
theorem d_Md_circuit_19 : decode c_Md_circuit 19 = .ok (.istore 5, 2) := by decide +kernel
theorem d_Md_circuit_21 : decode c_Md_circuit 21 = .ok (.iload 4, 2) := by decide +kernel
theorem d_Md_circuit_23 : decode c_Md_circuit 23 = .ok (.tableswitch 133 0 7 #[45, 53, 65, 81, 97, 109, 117, 125], 45) := by decide +kernel
theorem d_Md_circuit_68 : decode c_Md_circuit 68 = .ok (.aload_n 0, 1) := by decide +kernel
theorem d_Md_circuit_69 : decode c_Md_circuit 69 = .ok (.getfield 150, 3) := by decide +kernel
theorem d_Md_circuit_72 : decode c_Md_circuit 72 = .ok (.iload 5, 2) := by decide +kernel
theorem d_Md_circuit_74 : decode c_Md_circuit 74 = .ok (.iaload, 1) := by decide +kernel
theorem d_Md_circuit_75 : decode c_Md_circuit 75 = .ok (.ireturn, 1) := by decide +kernel
theorem d_Md_circuit_76 : decode c_Md_circuit 76 = .ok (.aload_n 0, 1) := by decide +kernel
theorem d_Md_circuit_77 : decode c_Md_circuit 77 = .ok (.aload_n 0, 1) := by decide +kernel
theorem d_Md_circuit_78 : decode c_Md_circuit 78 = .ok (.getfield 153, 3) := by decide +kernel
theorem d_Md_circuit_81 : decode c_Md_circuit 81 = .ok (.iload 5, 2) := by decide +kernel
theorem d_Md_circuit_83 : decode c_Md_circuit 83 = .ok (.iaload, 1) := by decide +kernel
theorem d_Md_circuit_84 : decode c_Md_circuit 84 = .ok (.invokevirtual 418, 3) := by decide +kernel
theorem d_Md_circuit_87 : decode c_Md_circuit 87 = .ok (.ireturn, 1) := by decide +kernel
theorem d_Md_circuit_88 : decode c_Md_circuit 88 = .ok (.aload_n 0, 1) := by decide +kernel
theorem d_Md_circuit_89 : decode c_Md_circuit 89 = .ok (.getfield 159, 3) := by decide +kernel
theorem d_Md_circuit_92 : decode c_Md_circuit 92 = .ok (.iload 5, 2) := by decide +kernel
theorem d_Md_circuit_94 : decode c_Md_circuit 94 = .ok (.baload, 1) := by decide +kernel
theorem d_Md_circuit_95 : decode c_Md_circuit 95 = .ok (.ifCond .eq 7, 3) := by decide +kernel
theorem d_Md_circuit_98 : decode c_Md_circuit 98 = .ok (.iconst 1, 1) := by decide +kernel
theorem d_Md_circuit_99 : decode c_Md_circuit 99 = .ok (.goto 4, 3) := by decide +kernel
theorem d_Md_circuit_102 : decode c_Md_circuit 102 = .ok (.iconst 0, 1) := by decide +kernel
theorem d_Md_circuit_103 : decode c_Md_circuit 103 = .ok (.ireturn, 1) := by decide +kernel
theorem d_Md_circuit_104 : decode c_Md_circuit 104 = .ok (.aload_n 0, 1) := by decide +kernel
theorem d_Md_circuit_105 : decode c_Md_circuit 105 = .ok (.getfield 162, 3) := by decide +kernel
theorem d_Md_circuit_108 : decode c_Md_circuit 108 = .ok (.iload 5, 2) := by decide +kernel
theorem d_Md_circuit_110 : decode c_Md_circuit 110 = .ok (.baload, 1) := by decide +kernel
theorem d_Md_circuit_111 : decode c_Md_circuit 111 = .ok (.ifCond .eq 7, 3) := by decide +kernel
theorem d_Md_circuit_114 : decode c_Md_circuit 114 = .ok (.iconst 1, 1) := by decide +kernel
theorem d_Md_circuit_115 : decode c_Md_circuit 115 = .ok (.goto 4, 3) := by decide +kernel
theorem d_Md_circuit_118 : decode c_Md_circuit 118 = .ok (.iconst 0, 1) := by decide +kernel
theorem d_Md_circuit_119 : decode c_Md_circuit 119 = .ok (.ireturn, 1) := by decide +kernel
theorem d_Md_circuit_120 : decode c_Md_circuit 120 = .ok (.aload_n 0, 1) := by decide +kernel
theorem d_Md_circuit_121 : decode c_Md_circuit 121 = .ok (.aload_n 0, 1) := by decide +kernel
theorem d_Md_circuit_122 : decode c_Md_circuit 122 = .ok (.getfield 165, 3) := by decide +kernel
theorem d_Md_circuit_125 : decode c_Md_circuit 125 = .ok (.iload 5, 2) := by decide +kernel
theorem d_Md_circuit_127 : decode c_Md_circuit 127 = .ok (.iaload, 1) := by decide +kernel
theorem d_Md_circuit_128 : decode c_Md_circuit 128 = .ok (.invokevirtual 432, 3) := by decide +kernel
theorem d_Md_circuit_131 : decode c_Md_circuit 131 = .ok (.ireturn, 1) := by decide +kernel
theorem d_Md_circuit_132 : decode c_Md_circuit 132 = .ok (.aload_n 0, 1) := by decide +kernel
theorem d_Md_circuit_133 : decode c_Md_circuit 133 = .ok (.getfield 168, 3) := by decide +kernel
theorem d_Md_circuit_136 : decode c_Md_circuit 136 = .ok (.iload 5, 2) := by decide +kernel
theorem d_Md_circuit_138 : decode c_Md_circuit 138 = .ok (.iaload, 1) := by decide +kernel
theorem d_Md_circuit_139 : decode c_Md_circuit 139 = .ok (.ireturn, 1) := by decide +kernel
theorem d_Md_circuit_140 : decode c_Md_circuit 140 = .ok (.aload_n 0, 1) := by decide +kernel
theorem d_Md_circuit_141 : decode c_Md_circuit 141 = .ok (.getfield 171, 3) := by decide +kernel
theorem d_Md_circuit_144 : decode c_Md_circuit 144 = .ok (.iload 5, 2) := by decide +kernel
theorem d_Md_circuit_146 : decode c_Md_circuit 146 = .ok (.iaload, 1) := by decide +kernel
theorem d_Md_circuit_147 : decode c_Md_circuit 147 = .ok (.ireturn, 1) := by decide +kernel
theorem d_Md_circuit_148 : decode c_Md_circuit 148 = .ok (.aload_n 0, 1) := by decide +kernel
theorem d_Md_circuit_149 : decode c_Md_circuit 149 = .ok (.getfield 174, 3) := by decide +kernel
theorem d_Md_circuit_152 : decode c_Md_circuit 152 = .ok (.iload 5, 2) := by decide +kernel
theorem d_Md_circuit_154 : decode c_Md_circuit 154 = .ok (.iaload, 1) := by decide +kernel
theorem d_Md_circuit_155 : decode c_Md_circuit 155 = .ok (.ireturn, 1) := by decide +kernel
theorem d_Md_circuit_156 : decode c_Md_circuit 156 = .ok (.iconst (-1), 1) := by decide +kernel
theorem d_Md_circuit_157 : decode c_Md_circuit 157 = .ok (.ireturn, 1) := by decide +kernel
def f_Md_circuit_119 (a : Nat) (t0 : Int32) : sn_M := r_I t0
set_option maxHeartbeats 4000000 in
set_option maxRecDepth 100000 in
theorem mono_Md_circuit_119 (a : Nat) (t0 : Int32) : sn_Mono (f_Md_circuit_119 a t0) := sn_Mono.rI
set_option maxHeartbeats 4000000 in
set_option maxRecDepth 100000 in
theorem s_Md_circuit_119 {X : sn_X} (C : sn_Cx X c_Md_circuit "SignalNetworkModel" (some .int) "circuit" 6 4 92) (a : Nat) (t0 : Int32) : sn_S X 119 [(0, vA (some a))] [vI t0] (f_Md_circuit_119 a t0) := by
  unfold f_Md_circuit_119
  exact r_iret C d_Md_circuit_119 rfl
def f_Md_circuit_103 (a : Nat) (t0 : Int32) : sn_M := r_I t0
set_option maxHeartbeats 4000000 in
set_option maxRecDepth 100000 in
theorem mono_Md_circuit_103 (a : Nat) (t0 : Int32) : sn_Mono (f_Md_circuit_103 a t0) := sn_Mono.rI
set_option maxHeartbeats 4000000 in
set_option maxRecDepth 100000 in
theorem s_Md_circuit_103 {X : sn_X} (C : sn_Cx X c_Md_circuit "SignalNetworkModel" (some .int) "circuit" 6 4 92) (a : Nat) (t0 : Int32) : sn_S X 103 [(0, vA (some a))] [vI t0] (f_Md_circuit_103 a t0) := by
  unfold f_Md_circuit_103
  exact r_iret C d_Md_circuit_103 rfl
def f_Md_circuit (a : Nat) (x1 : Int32) (x2 : Int32) (x3 : Int32) (x4 : Int32) : sn_M := n_n 12 (some a) fun a1 => c_I (f_Md_isFlow a1 x1 x2 x3) fun v2 => (if ¬ v2 = 0 then n_n 12 (some a) fun a3 => c_I (f_Md_flowAt a3 x1 x2 x3) fun v4 => (sn_sw x4 [0, 1, 2, 3, 4, 5, 6, 7] [(g_R 12 52 (some a) fun v5 => a_I 31 v5 v4 fun v6 => r_I v6), (g_R 12 53 (some a) fun v7 => a_I 31 v7 v4 fun v8 => n_n 12 (some a) fun a9 => c_I (f_Md_left a9 v8) fun v10 => r_I v10), (g_R 12 55 (some a) fun v11 => a_I 33 v11 v4 fun v12 => (if v12 = 0 then f_Md_circuit_103 a (0 : Int32) else f_Md_circuit_103 a (1 : Int32))), (g_R 12 56 (some a) fun v13 => a_I 33 v13 v4 fun v14 => (if v14 = 0 then f_Md_circuit_119 a (0 : Int32) else f_Md_circuit_119 a (1 : Int32))), (g_R 12 57 (some a) fun v15 => a_I 31 v15 v4 fun v16 => n_n 12 (some a) fun a17 => c_I (f_Md_legTold a17 v16) fun v18 => r_I v18), (g_R 12 58 (some a) fun v19 => a_I 31 v19 v4 fun v20 => r_I v20), (g_R 12 59 (some a) fun v21 => a_I 31 v21 v4 fun v22 => r_I v22), (g_R 12 60 (some a) fun v23 => a_I 31 v23 v4 fun v24 => r_I v24)] (r_I (-1 : Int32))) else r_I (-1 : Int32))
set_option maxHeartbeats 4000000 in
set_option maxRecDepth 100000 in
theorem mono_Md_circuit (a : Nat) (x1 : Int32) (x2 : Int32) (x3 : Int32) (x4 : Int32) : sn_Mono (f_Md_circuit a x1 x2 x3 x4) := sn_Mono.nn (fun a1 => sn_Mono.cI (mono_Md_isFlow a1 x1 x2 x3) (fun v2 => sn_Mono.ite (sn_Mono.nn (fun a3 => sn_Mono.cI (mono_Md_flowAt a3 x1 x2 x3) (fun v4 => sn_sw_mono (sn_Mono.rI) _ _ (List.forall_mem_cons.mpr ⟨sn_Mono.gR (fun v5 => sn_Mono.aI (fun v6 => sn_Mono.rI)), (List.forall_mem_cons.mpr ⟨sn_Mono.gR (fun v7 => sn_Mono.aI (fun v8 => sn_Mono.nn (fun a9 => sn_Mono.cI (mono_Md_left a9 v8) (fun v10 => sn_Mono.rI)))), (List.forall_mem_cons.mpr ⟨sn_Mono.gR (fun v11 => sn_Mono.aI (fun v12 => sn_Mono.ite (mono_Md_circuit_103 a (0 : Int32)) (mono_Md_circuit_103 a (1 : Int32)))), (List.forall_mem_cons.mpr ⟨sn_Mono.gR (fun v13 => sn_Mono.aI (fun v14 => sn_Mono.ite (mono_Md_circuit_119 a (0 : Int32)) (mono_Md_circuit_119 a (1 : Int32)))), (List.forall_mem_cons.mpr ⟨sn_Mono.gR (fun v15 => sn_Mono.aI (fun v16 => sn_Mono.nn (fun a17 => sn_Mono.cI (mono_Md_legTold a17 v16) (fun v18 => sn_Mono.rI)))), (List.forall_mem_cons.mpr ⟨sn_Mono.gR (fun v19 => sn_Mono.aI (fun v20 => sn_Mono.rI)), (List.forall_mem_cons.mpr ⟨sn_Mono.gR (fun v21 => sn_Mono.aI (fun v22 => sn_Mono.rI)), (List.forall_mem_cons.mpr ⟨sn_Mono.gR (fun v23 => sn_Mono.aI (fun v24 => sn_Mono.rI)), (fun _ h => absurd h List.not_mem_nil)⟩)⟩)⟩)⟩)⟩)⟩)⟩)⟩)))) (sn_Mono.rI)))
set_option maxHeartbeats 4000000 in
set_option maxRecDepth 100000 in
theorem con_Md_circuit (a : Nat) (x1 : Int32) (x2 : Int32) (x3 : Int32) (x4 : Int32) : sn_Con y_Md_circuit c_Md_circuit 6 (some .int) 4 92 [vA (some a), vI x1, vI x2, vI x3, vI x4] (f_Md_circuit a x1 x2 x3 x4) := by
  refine sn_Con.of (by decide +kernel) (by show _ ≤ _; exact Nat.le_of_ble_eq_true rfl) (mono_Md_circuit a x1 x2 x3 x4) (fun X C => ?_)
  show sn_S X 0 [(0, vA (some a)), (1, vI x1), (2, vI x2), (3, vI x3), (4, vI x4)] [] _
  replace C : sn_Cx X c_Md_circuit "SignalNetworkModel" (some .int) "circuit" 6 4 92 := C
  unfold f_Md_circuit
  refine r_aload_n (q := 1) (i := 0) (pl := 0) C d_Md_circuit_0 rfl rfl rfl ?_
  refine r_iload_n (q := 2) (i := 1) (pl := 1) C d_Md_circuit_1 rfl rfl rfl ?_
  refine r_iload_n (q := 3) (i := 2) (pl := 2) C d_Md_circuit_2 rfl rfl rfl ?_
  refine r_iload_n (q := 4) (i := 3) (pl := 3) C d_Md_circuit_3 rfl rfl rfl ?_
  refine r_cvI (q := 7) (As := [vI x1, vI x2, vI x3]) (st := []) (cy := 11) C d_Md_circuit_4 rfl Y_Md_isFlow L_Md_415 I_Md_isFlow Se_Md_isFlow rfl (by decide) rfl (Nat.le_of_ble_eq_true rfl) (Nat.le_of_ble_eq_true rfl) (Nat.le_of_ble_eq_true rfl) rfl (fun a1 => con_Md_isFlow a1 x1 x2 x3) (fun v2 => ?_)
  refine r_if_ne (tgt := 12) (q := 10) C d_Md_circuit_7 (by decide) rfl ?_ ?_
  · refine r_aload_n (q := 13) (i := 0) (pl := 0) C d_Md_circuit_12 rfl rfl rfl ?_
    refine r_iload_n (q := 14) (i := 1) (pl := 1) C d_Md_circuit_13 rfl rfl rfl ?_
    refine r_iload_n (q := 15) (i := 2) (pl := 2) C d_Md_circuit_14 rfl rfl rfl ?_
    refine r_iload_n (q := 16) (i := 3) (pl := 3) C d_Md_circuit_15 rfl rfl rfl ?_
    refine r_cvI (q := 19) (As := [vI x1, vI x2, vI x3]) (st := []) (cy := 11) C d_Md_circuit_16 rfl Y_Md_flowAt L_Md_212 I_Md_flowAt Se_Md_flowAt rfl (by decide) rfl (Nat.le_of_ble_eq_true rfl) (Nat.le_of_ble_eq_true rfl) (Nat.le_of_ble_eq_true rfl) rfl (fun a3 => con_Md_flowAt a3 x1 x2 x3) (fun v4 => ?_)
    refine r_istore (q := 21) (i := 5) (lv' := [(5, vI v4), (0, vA (some a)), (1, vI x1), (2, vI x2), (3, vI x3), (4, vI x4)]) C d_Md_circuit_19 rfl (by decide) rfl ?_
    refine r_iload (q := 23) (i := 4) (pl := 5) C d_Md_circuit_21 rfl rfl ?_
    refine r_table (tD := 156) (ks := [0, 1, 2, 3, 4, 5, 6, 7]) (ts := [68, 76, 88, 104, 120, 132, 140, 148]) C d_Md_circuit_23 (by decide) (by decide) rfl ?_ ⟨?_, ?_, ?_, ?_, ?_, ?_, ?_, ?_, trivial⟩
    · refine r_iconst (q := 157) (v := -1) C d_Md_circuit_156 rfl (by decide) ?_
      exact r_iret C d_Md_circuit_157 rfl
    · refine r_aload_n (q := 69) (i := 0) (pl := 1) C d_Md_circuit_68 rfl rfl rfl ?_
      refine r_gR (q := 72) C d_Md_circuit_69 rfl F_Md_150 rfl (fun v5 => ?_)
      refine r_iload (q := 74) (i := 5) (pl := 0) C d_Md_circuit_72 rfl rfl ?_
      refine r_aI (q := 75) C (Or.inr rfl) d_Md_circuit_74 rfl (fun v6 => ?_)
      exact r_iret C d_Md_circuit_75 rfl
    · refine r_aload_n (q := 77) (i := 0) (pl := 1) C d_Md_circuit_76 rfl rfl rfl ?_
      refine r_aload_n (q := 78) (i := 0) (pl := 1) C d_Md_circuit_77 rfl rfl rfl ?_
      refine r_gR (q := 81) C d_Md_circuit_78 rfl F_Md_153 rfl (fun v7 => ?_)
      refine r_iload (q := 83) (i := 5) (pl := 0) C d_Md_circuit_81 rfl rfl ?_
      refine r_aI (q := 84) C (Or.inr rfl) d_Md_circuit_83 rfl (fun v8 => ?_)
      refine r_cvI (q := 87) (As := [vI v8]) (st := []) (cy := 11) C d_Md_circuit_84 rfl Y_Md_left L_Md_418 I_Md_left Se_Md_left rfl (by decide) rfl (Nat.le_of_ble_eq_true rfl) (Nat.le_of_ble_eq_true rfl) (Nat.le_of_ble_eq_true rfl) rfl (fun a9 => con_Md_left a9 v8) (fun v10 => ?_)
      exact r_iret C d_Md_circuit_87 rfl
    · refine r_aload_n (q := 89) (i := 0) (pl := 1) C d_Md_circuit_88 rfl rfl rfl ?_
      refine r_gR (q := 92) C d_Md_circuit_89 rfl F_Md_159 rfl (fun v11 => ?_)
      refine r_iload (q := 94) (i := 5) (pl := 0) C d_Md_circuit_92 rfl rfl ?_
      refine r_aZ (q := 95) C (Or.inr rfl) d_Md_circuit_94 rfl (fun v12 => ?_)
      refine r_if_eq (tgt := 102) (q := 98) C d_Md_circuit_95 (by decide) rfl ?_ ?_
      · refine r_iconst (q := 103) (v := 0) C d_Md_circuit_102 rfl (by decide) ?_
        refine r_sub (lv' := [(0, vA (some a))]) [1] rfl ?_
        exact s_Md_circuit_103 C a (0 : Int32)
      · refine r_iconst (q := 99) (v := 1) C d_Md_circuit_98 rfl (by decide) ?_
        refine r_goto (tgt := 103) C d_Md_circuit_99 (by decide) ?_
        refine r_sub (lv' := [(0, vA (some a))]) [1] rfl ?_
        exact s_Md_circuit_103 C a (1 : Int32)
    · refine r_aload_n (q := 105) (i := 0) (pl := 1) C d_Md_circuit_104 rfl rfl rfl ?_
      refine r_gR (q := 108) C d_Md_circuit_105 rfl F_Md_162 rfl (fun v13 => ?_)
      refine r_iload (q := 110) (i := 5) (pl := 0) C d_Md_circuit_108 rfl rfl ?_
      refine r_aZ (q := 111) C (Or.inr rfl) d_Md_circuit_110 rfl (fun v14 => ?_)
      refine r_if_eq (tgt := 118) (q := 114) C d_Md_circuit_111 (by decide) rfl ?_ ?_
      · refine r_iconst (q := 119) (v := 0) C d_Md_circuit_118 rfl (by decide) ?_
        refine r_sub (lv' := [(0, vA (some a))]) [1] rfl ?_
        exact s_Md_circuit_119 C a (0 : Int32)
      · refine r_iconst (q := 115) (v := 1) C d_Md_circuit_114 rfl (by decide) ?_
        refine r_goto (tgt := 119) C d_Md_circuit_115 (by decide) ?_
        refine r_sub (lv' := [(0, vA (some a))]) [1] rfl ?_
        exact s_Md_circuit_119 C a (1 : Int32)
    · refine r_aload_n (q := 121) (i := 0) (pl := 1) C d_Md_circuit_120 rfl rfl rfl ?_
      refine r_aload_n (q := 122) (i := 0) (pl := 1) C d_Md_circuit_121 rfl rfl rfl ?_
      refine r_gR (q := 125) C d_Md_circuit_122 rfl F_Md_165 rfl (fun v15 => ?_)
      refine r_iload (q := 127) (i := 5) (pl := 0) C d_Md_circuit_125 rfl rfl ?_
      refine r_aI (q := 128) C (Or.inr rfl) d_Md_circuit_127 rfl (fun v16 => ?_)
      refine r_cvI (q := 131) (As := [vI v16]) (st := []) (cy := 11) C d_Md_circuit_128 rfl Y_Md_legTold L_Md_432 I_Md_legTold Se_Md_legTold rfl (by decide) rfl (Nat.le_of_ble_eq_true rfl) (Nat.le_of_ble_eq_true rfl) (Nat.le_of_ble_eq_true rfl) rfl (fun a17 => con_Md_legTold a17 v16) (fun v18 => ?_)
      exact r_iret C d_Md_circuit_131 rfl
    · refine r_aload_n (q := 133) (i := 0) (pl := 1) C d_Md_circuit_132 rfl rfl rfl ?_
      refine r_gR (q := 136) C d_Md_circuit_133 rfl F_Md_168 rfl (fun v19 => ?_)
      refine r_iload (q := 138) (i := 5) (pl := 0) C d_Md_circuit_136 rfl rfl ?_
      refine r_aI (q := 139) C (Or.inr rfl) d_Md_circuit_138 rfl (fun v20 => ?_)
      exact r_iret C d_Md_circuit_139 rfl
    · refine r_aload_n (q := 141) (i := 0) (pl := 1) C d_Md_circuit_140 rfl rfl rfl ?_
      refine r_gR (q := 144) C d_Md_circuit_141 rfl F_Md_171 rfl (fun v21 => ?_)
      refine r_iload (q := 146) (i := 5) (pl := 0) C d_Md_circuit_144 rfl rfl ?_
      refine r_aI (q := 147) C (Or.inr rfl) d_Md_circuit_146 rfl (fun v22 => ?_)
      exact r_iret C d_Md_circuit_147 rfl
    · refine r_aload_n (q := 149) (i := 0) (pl := 1) C d_Md_circuit_148 rfl rfl rfl ?_
      refine r_gR (q := 152) C d_Md_circuit_149 rfl F_Md_174 rfl (fun v23 => ?_)
      refine r_iload (q := 154) (i := 5) (pl := 0) C d_Md_circuit_152 rfl rfl ?_
      refine r_aI (q := 155) C (Or.inr rfl) d_Md_circuit_154 rfl (fun v24 => ?_)
      exact r_iret C d_Md_circuit_155 rfl
  · refine r_iconst (q := 11) (v := -1) C d_Md_circuit_10 rfl (by decide) ?_
    exact r_iret C d_Md_circuit_11 rfl
theorem d_Md_talks_0 : decode c_Md_talks 0 = .ok (.aload_n 0, 1) := by decide +kernel
theorem d_Md_talks_1 : decode c_Md_talks 1 = .ok (.getfield 177, 3) := by decide +kernel
theorem d_Md_talks_4 : decode c_Md_talks 4 = .ok (.iload_n 1, 1) := by decide +kernel
theorem d_Md_talks_5 : decode c_Md_talks 5 = .ok (.iaload, 1) := by decide +kernel
theorem d_Md_talks_6 : decode c_Md_talks 6 = .ok (.iconst 4, 1) := by decide +kernel
theorem d_Md_talks_7 : decode c_Md_talks 7 = .ok (.if_icmp .ne 12, 3) := by decide +kernel
theorem d_Md_talks_10 : decode c_Md_talks 10 = .ok (.aload_n 0, 1) := by decide +kernel
theorem d_Md_talks_11 : decode c_Md_talks 11 = .ok (.getfield 180, 3) := by decide +kernel
theorem d_Md_talks_14 : decode c_Md_talks 14 = .ok (.iload_n 1, 1) := by decide +kernel
theorem d_Md_talks_15 : decode c_Md_talks 15 = .ok (.iaload, 1) := by decide +kernel
theorem d_Md_talks_16 : decode c_Md_talks 16 = .ok (.goto 4, 3) := by decide +kernel
theorem d_Md_talks_19 : decode c_Md_talks 19 = .ok (.iconst (-1), 1) := by decide +kernel
theorem d_Md_talks_20 : decode c_Md_talks 20 = .ok (.istore_n 2, 1) := by decide +kernel
theorem d_Md_talks_21 : decode c_Md_talks 21 = .ok (.iconst 0, 1) := by decide +kernel
theorem d_Md_talks_22 : decode c_Md_talks 22 = .ok (.istore_n 3, 1) := by decide +kernel
theorem d_Md_talks_23 : decode c_Md_talks 23 = .ok (.iload_n 3, 1) := by decide +kernel
theorem d_Md_talks_24 : decode c_Md_talks 24 = .ok (.sipush 200, 3) := by decide +kernel
theorem d_Md_talks_27 : decode c_Md_talks 27 = .ok (.if_icmp .ge 113, 3) := by decide +kernel
theorem d_Md_talks_30 : decode c_Md_talks 30 = .ok (.iload_n 2, 1) := by decide +kernel
theorem d_Md_talks_31 : decode c_Md_talks 31 = .ok (.bipush 100, 2) := by decide +kernel
theorem d_Md_talks_33 : decode c_Md_talks 33 = .ok (.if_icmp .lt 107, 3) := by decide +kernel
theorem d_Md_talks_36 : decode c_Md_talks 36 = .ok (.iload_n 2, 1) := by decide +kernel
theorem d_Md_talks_37 : decode c_Md_talks 37 = .ok (.bipush 100, 2) := by decide +kernel
theorem d_Md_talks_39 : decode c_Md_talks 39 = .ok (.isub, 1) := by decide +kernel
theorem d_Md_talks_40 : decode c_Md_talks 40 = .ok (.istore 4, 2) := by decide +kernel
theorem d_Md_talks_42 : decode c_Md_talks 42 = .ok (.aload_n 0, 1) := by decide +kernel
theorem d_Md_talks_43 : decode c_Md_talks 43 = .ok (.iload 4, 2) := by decide +kernel
theorem d_Md_talks_45 : decode c_Md_talks 45 = .ok (.bipush 24, 2) := by decide +kernel
theorem d_Md_talks_47 : decode c_Md_talks 47 = .ok (.irem, 1) := by decide +kernel
theorem d_Md_talks_48 : decode c_Md_talks 48 = .ok (.iconst 4, 1) := by decide +kernel
theorem d_Md_talks_49 : decode c_Md_talks 49 = .ok (.idiv, 1) := by decide +kernel
theorem d_Md_talks_50 : decode c_Md_talks 50 = .ok (.iload 4, 2) := by decide +kernel
theorem d_Md_talks_52 : decode c_Md_talks 52 = .ok (.bipush 24, 2) := by decide +kernel
theorem d_Md_talks_54 : decode c_Md_talks 54 = .ok (.idiv, 1) := by decide +kernel
theorem d_Md_talks_55 : decode c_Md_talks 55 = .ok (.iload 4, 2) := by decide +kernel
theorem d_Md_talks_57 : decode c_Md_talks 57 = .ok (.iconst 4, 1) := by decide +kernel
theorem d_Md_talks_58 : decode c_Md_talks 58 = .ok (.irem, 1) := by decide +kernel
theorem d_Md_talks_59 : decode c_Md_talks 59 = .ok (.invokevirtual 212, 3) := by decide +kernel
theorem d_Md_talks_62 : decode c_Md_talks 62 = .ok (.istore 5, 2) := by decide +kernel
theorem d_Md_talks_64 : decode c_Md_talks 64 = .ok (.aload_n 0, 1) := by decide +kernel
theorem d_Md_talks_65 : decode c_Md_talks 65 = .ok (.getfield 150, 3) := by decide +kernel
theorem d_Md_talks_68 : decode c_Md_talks 68 = .ok (.iload 4, 2) := by decide +kernel
theorem d_Md_talks_70 : decode c_Md_talks 70 = .ok (.iaload, 1) := by decide +kernel
theorem d_Md_talks_71 : decode c_Md_talks 71 = .ok (.iconst 3, 1) := by decide +kernel
theorem d_Md_talks_72 : decode c_Md_talks 72 = .ok (.if_icmp .eq 15, 3) := by decide +kernel
theorem d_Md_talks_75 : decode c_Md_talks 75 = .ok (.aload_n 0, 1) := by decide +kernel
theorem d_Md_talks_76 : decode c_Md_talks 76 = .ok (.getfield 150, 3) := by decide +kernel
theorem d_Md_talks_79 : decode c_Md_talks 79 = .ok (.iload 4, 2) := by decide +kernel
theorem d_Md_talks_81 : decode c_Md_talks 81 = .ok (.iaload, 1) := by decide +kernel
theorem d_Md_talks_82 : decode c_Md_talks 82 = .ok (.bipush 6, 2) := by decide +kernel
theorem d_Md_talks_84 : decode c_Md_talks 84 = .ok (.if_icmp .ne 30, 3) := by decide +kernel
theorem d_Md_talks_87 : decode c_Md_talks 87 = .ok (.aload_n 0, 1) := by decide +kernel
theorem d_Md_talks_88 : decode c_Md_talks 88 = .ok (.getfield 150, 3) := by decide +kernel
theorem d_Md_talks_91 : decode c_Md_talks 91 = .ok (.iload 5, 2) := by decide +kernel
theorem d_Md_talks_93 : decode c_Md_talks 93 = .ok (.iaload, 1) := by decide +kernel
theorem d_Md_talks_94 : decode c_Md_talks 94 = .ok (.iconst 3, 1) := by decide +kernel
theorem d_Md_talks_95 : decode c_Md_talks 95 = .ok (.if_icmp .eq 15, 3) := by decide +kernel
theorem d_Md_talks_98 : decode c_Md_talks 98 = .ok (.aload_n 0, 1) := by decide +kernel
theorem d_Md_talks_99 : decode c_Md_talks 99 = .ok (.getfield 150, 3) := by decide +kernel
theorem d_Md_talks_102 : decode c_Md_talks 102 = .ok (.iload 5, 2) := by decide +kernel
theorem d_Md_talks_104 : decode c_Md_talks 104 = .ok (.iaload, 1) := by decide +kernel
theorem d_Md_talks_105 : decode c_Md_talks 105 = .ok (.bipush 6, 2) := by decide +kernel
theorem d_Md_talks_107 : decode c_Md_talks 107 = .ok (.if_icmp .ne 7, 3) := by decide +kernel
theorem d_Md_talks_110 : decode c_Md_talks 110 = .ok (.iconst 1, 1) := by decide +kernel
theorem d_Md_talks_111 : decode c_Md_talks 111 = .ok (.goto 4, 3) := by decide +kernel
theorem d_Md_talks_114 : decode c_Md_talks 114 = .ok (.iconst 0, 1) := by decide +kernel
theorem d_Md_talks_115 : decode c_Md_talks 115 = .ok (.istore 6, 2) := by decide +kernel
theorem d_Md_talks_117 : decode c_Md_talks 117 = .ok (.iload 6, 2) := by decide +kernel
theorem d_Md_talks_119 : decode c_Md_talks 119 = .ok (.ifCond .eq 13, 3) := by decide +kernel
theorem d_Md_talks_122 : decode c_Md_talks 122 = .ok (.aload_n 0, 1) := by decide +kernel
theorem d_Md_talks_123 : decode c_Md_talks 123 = .ok (.getfield 165, 3) := by decide +kernel
theorem d_Md_talks_126 : decode c_Md_talks 126 = .ok (.iload 5, 2) := by decide +kernel
theorem d_Md_talks_128 : decode c_Md_talks 128 = .ok (.iaload, 1) := by decide +kernel
theorem d_Md_talks_129 : decode c_Md_talks 129 = .ok (.goto 4, 3) := by decide +kernel
theorem d_Md_talks_132 : decode c_Md_talks 132 = .ok (.iconst (-1), 1) := by decide +kernel
theorem d_Md_talks_133 : decode c_Md_talks 133 = .ok (.istore_n 2, 1) := by decide +kernel
theorem d_Md_talks_134 : decode c_Md_talks 134 = .ok (.iinc 3 1, 3) := by decide +kernel
theorem d_Md_talks_137 : decode c_Md_talks 137 = .ok (.goto (-114), 3) := by decide +kernel
theorem d_Md_talks_140 : decode c_Md_talks 140 = .ok (.iload_n 2, 1) := by decide +kernel
theorem d_Md_talks_141 : decode c_Md_talks 141 = .ok (.ifCond .lt 27, 3) := by decide +kernel
theorem d_Md_talks_144 : decode c_Md_talks 144 = .ok (.iload_n 2, 1) := by decide +kernel
theorem d_Md_talks_145 : decode c_Md_talks 145 = .ok (.bipush 100, 2) := by decide +kernel
theorem d_Md_talks_147 : decode c_Md_talks 147 = .ok (.if_icmp .ge 21, 3) := by decide +kernel
theorem d_Md_talks_150 : decode c_Md_talks 150 = .ok (.aload_n 0, 1) := by decide +kernel
theorem d_Md_talks_151 : decode c_Md_talks 151 = .ok (.getfield 177, 3) := by decide +kernel
theorem d_Md_talks_154 : decode c_Md_talks 154 = .ok (.iload_n 2, 1) := by decide +kernel
theorem d_Md_talks_155 : decode c_Md_talks 155 = .ok (.iaload, 1) := by decide +kernel
theorem d_Md_talks_156 : decode c_Md_talks 156 = .ok (.iconst 4, 1) := by decide +kernel
theorem d_Md_talks_157 : decode c_Md_talks 157 = .ok (.if_icmp .ne 11, 3) := by decide +kernel
theorem d_Md_talks_160 : decode c_Md_talks 160 = .ok (.aload_n 0, 1) := by decide +kernel
theorem d_Md_talks_161 : decode c_Md_talks 161 = .ok (.iload_n 2, 1) := by decide +kernel
theorem d_Md_talks_162 : decode c_Md_talks 162 = .ok (.invokevirtual 432, 3) := by decide +kernel
theorem d_Md_talks_165 : decode c_Md_talks 165 = .ok (.goto 4, 3) := by decide +kernel
theorem d_Md_talks_168 : decode c_Md_talks 168 = .ok (.iconst (-1), 1) := by decide +kernel
theorem d_Md_talks_169 : decode c_Md_talks 169 = .ok (.ireturn, 1) := by decide +kernel
def f_Md_talks_169 (a : Nat) (t0 : Int32) : sn_M := r_I t0
set_option maxHeartbeats 4000000 in
set_option maxRecDepth 100000 in
theorem mono_Md_talks_169 (a : Nat) (t0 : Int32) : sn_Mono (f_Md_talks_169 a t0) := sn_Mono.rI
set_option maxHeartbeats 4000000 in
set_option maxRecDepth 100000 in
theorem s_Md_talks_169 {X : sn_X} (C : sn_Cx X c_Md_talks "SignalNetworkModel" (some .int) "talks" 7 1 23) (a : Nat) (t0 : Int32) : sn_S X 169 [(0, vA (some a))] [vI t0] (f_Md_talks_169 a t0) := by
  unfold f_Md_talks_169
  exact r_iret C d_Md_talks_169 rfl
def f_Md_talks_168 (a : Nat) : sn_M := f_Md_talks_169 a (-1 : Int32)
set_option maxHeartbeats 4000000 in
set_option maxRecDepth 100000 in
theorem mono_Md_talks_168 (a : Nat) : sn_Mono (f_Md_talks_168 a) := mono_Md_talks_169 a (-1 : Int32)
set_option maxHeartbeats 4000000 in
set_option maxRecDepth 100000 in
theorem s_Md_talks_168 {X : sn_X} (C : sn_Cx X c_Md_talks "SignalNetworkModel" (some .int) "talks" 7 1 23) (a : Nat) : sn_S X 168 [(0, vA (some a))] [] (f_Md_talks_168 a) := by
  unfold f_Md_talks_168
  refine r_iconst (q := 169) (v := -1) C d_Md_talks_168 rfl (by decide) ?_
  exact s_Md_talks_169 C a (-1 : Int32)
def f_Md_talks_140 (a : Nat) (x2 : Int32) : sn_M := (if x2 < 0 then f_Md_talks_168 a else (if (100 : Int32) ≤ x2 then f_Md_talks_168 a else g_R 12 61 (some a) fun v1 => a_I 31 v1 x2 fun v2 => (if ¬ v2 = (4 : Int32) then f_Md_talks_168 a else n_n 12 (some a) fun a3 => c_I (f_Md_legTold a3 x2) fun v4 => f_Md_talks_169 a v4)))
set_option maxHeartbeats 4000000 in
set_option maxRecDepth 100000 in
theorem mono_Md_talks_140 (a : Nat) (x2 : Int32) : sn_Mono (f_Md_talks_140 a x2) := sn_Mono.ite (mono_Md_talks_168 a) (sn_Mono.ite (mono_Md_talks_168 a) (sn_Mono.gR (fun v1 => sn_Mono.aI (fun v2 => sn_Mono.ite (mono_Md_talks_168 a) (sn_Mono.nn (fun a3 => sn_Mono.cI (mono_Md_legTold a3 x2) (fun v4 => mono_Md_talks_169 a v4)))))))
set_option maxHeartbeats 4000000 in
set_option maxRecDepth 100000 in
theorem s_Md_talks_140 {X : sn_X} (C : sn_Cx X c_Md_talks "SignalNetworkModel" (some .int) "talks" 7 1 23) (a : Nat) (x2 : Int32) : sn_S X 140 [(0, vA (some a)), (2, vI x2)] [] (f_Md_talks_140 a x2) := by
  unfold f_Md_talks_140
  refine r_iload_n (q := 141) (i := 2) (pl := 1) C d_Md_talks_140 rfl rfl rfl ?_
  refine r_if_lt (tgt := 168) (q := 144) C d_Md_talks_141 (by decide) rfl ?_ ?_
  · refine r_sub (lv' := [(0, vA (some a))]) [0] rfl ?_
    exact s_Md_talks_168 C a
  · refine r_iload_n (q := 145) (i := 2) (pl := 1) C d_Md_talks_144 rfl rfl rfl ?_
    refine r_bipush (q := 147) (v := 100) C d_Md_talks_145 rfl (by decide) ?_
    refine r_icmp_ge (tgt := 168) (q := 150) C d_Md_talks_147 (by decide) rfl ?_ ?_
    · refine r_sub (lv' := [(0, vA (some a))]) [0] rfl ?_
      exact s_Md_talks_168 C a
    · refine r_aload_n (q := 151) (i := 0) (pl := 0) C d_Md_talks_150 rfl rfl rfl ?_
      refine r_gR (q := 154) C d_Md_talks_151 rfl F_Md_177 rfl (fun v1 => ?_)
      refine r_iload_n (q := 155) (i := 2) (pl := 1) C d_Md_talks_154 rfl rfl rfl ?_
      refine r_aI (q := 156) C (Or.inr rfl) d_Md_talks_155 rfl (fun v2 => ?_)
      refine r_iconst (q := 157) (v := 4) C d_Md_talks_156 rfl (by decide) ?_
      refine r_icmp_ne (tgt := 168) (q := 160) C d_Md_talks_157 (by decide) rfl ?_ ?_
      · refine r_sub (lv' := [(0, vA (some a))]) [0] rfl ?_
        exact s_Md_talks_168 C a
      · refine r_aload_n (q := 161) (i := 0) (pl := 0) C d_Md_talks_160 rfl rfl rfl ?_
        refine r_iload_n (q := 162) (i := 2) (pl := 1) C d_Md_talks_161 rfl rfl rfl ?_
        refine r_cvI (q := 165) (As := [vI x2]) (st := []) (cy := 11) C d_Md_talks_162 rfl Y_Md_legTold L_Md_432 I_Md_legTold Se_Md_legTold rfl (by decide) rfl (Nat.le_of_ble_eq_true rfl) (Nat.le_of_ble_eq_true rfl) (Nat.le_of_ble_eq_true rfl) rfl (fun a3 => con_Md_legTold a3 x2) (fun v4 => ?_)
        refine r_goto (tgt := 169) C d_Md_talks_165 (by decide) ?_
        refine r_sub (lv' := [(0, vA (some a))]) [0] rfl ?_
        exact s_Md_talks_169 C a v4
def f_Md_talks_133 (k23 : Int32 → Int32 → sn_M) (a : Nat) (x3 : Int32) (t0 : Int32) : sn_M := k23 t0 (x3 + (1 : Int32))
set_option maxHeartbeats 4000000 in
set_option maxRecDepth 100000 in
theorem mono_Md_talks_133 (k23 : Int32 → Int32 → sn_M) (mk23 : ∀ (x2 : Int32) (x3 : Int32), sn_Mono (k23 x2 x3)) (a : Nat) (x3 : Int32) (t0 : Int32) : sn_Mono (f_Md_talks_133 k23 a x3 t0) := mk23 t0 (x3 + (1 : Int32))
set_option maxHeartbeats 4000000 in
set_option maxRecDepth 100000 in
theorem s_Md_talks_133 {X : sn_X} (C : sn_Cx X c_Md_talks "SignalNetworkModel" (some .int) "talks" 7 1 23) (a : Nat) (k23 : Int32 → Int32 → sn_M) (hk23 : ∀ (x2 : Int32) (x3 : Int32), sn_S X 23 [(0, vA (some a)), (2, vI x2), (3, vI x3)] [] (k23 x2 x3)) (x3 : Int32) (t0 : Int32) : sn_S X 133 [(0, vA (some a)), (3, vI x3)] [vI t0] (f_Md_talks_133 k23 a x3 t0) := by
  unfold f_Md_talks_133
  refine r_istore_n (q := 134) (i := 2) (lv' := [(2, vI t0), (0, vA (some a)), (3, vI x3)]) C d_Md_talks_133 rfl rfl (by decide) rfl ?_
  refine r_iinc (q := 137) (pl := 2) (v := x3 + (1 : Int32)) (lv' := [(3, vI (x3 + (1 : Int32))), (2, vI t0), (0, vA (some a))]) C d_Md_talks_134 rfl rfl rfl (by decide) rfl ?_
  refine r_goto (tgt := 23) C d_Md_talks_137 (by decide) ?_
  refine r_sub (lv' := [(0, vA (some a)), (2, vI t0), (3, vI (x3 + (1 : Int32)))]) [2, 1, 0] rfl ?_
  exact hk23 t0 (x3 + (1 : Int32))
def f_Md_talks_115 (k23 : Int32 → Int32 → sn_M) (a : Nat) (x3 : Int32) (x5 : Int32) (t0 : Int32) : sn_M := (if t0 = 0 then f_Md_talks_133 k23 a x3 (-1 : Int32) else g_R 12 57 (some a) fun v5 => a_I 31 v5 x5 fun v6 => f_Md_talks_133 k23 a x3 v6)
set_option maxHeartbeats 4000000 in
set_option maxRecDepth 100000 in
theorem mono_Md_talks_115 (k23 : Int32 → Int32 → sn_M) (mk23 : ∀ (x2 : Int32) (x3 : Int32), sn_Mono (k23 x2 x3)) (a : Nat) (x3 : Int32) (x5 : Int32) (t0 : Int32) : sn_Mono (f_Md_talks_115 k23 a x3 x5 t0) := sn_Mono.ite (mono_Md_talks_133 k23 mk23 a x3 (-1 : Int32)) (sn_Mono.gR (fun v5 => sn_Mono.aI (fun v6 => mono_Md_talks_133 k23 mk23 a x3 v6)))
set_option maxHeartbeats 4000000 in
set_option maxRecDepth 100000 in
theorem s_Md_talks_115 {X : sn_X} (C : sn_Cx X c_Md_talks "SignalNetworkModel" (some .int) "talks" 7 1 23) (a : Nat) (k23 : Int32 → Int32 → sn_M) (hk23 : ∀ (x2 : Int32) (x3 : Int32), sn_S X 23 [(0, vA (some a)), (2, vI x2), (3, vI x3)] [] (k23 x2 x3)) (x3 : Int32) (x5 : Int32) (t0 : Int32) : sn_S X 115 [(0, vA (some a)), (3, vI x3), (5, vI x5)] [vI t0] (f_Md_talks_115 k23 a x3 x5 t0) := by
  unfold f_Md_talks_115
  refine r_istore (q := 117) (i := 6) (lv' := [(6, vI t0), (0, vA (some a)), (3, vI x3), (5, vI x5)]) C d_Md_talks_115 rfl (by decide) rfl ?_
  refine r_iload (q := 119) (i := 6) (pl := 0) C d_Md_talks_117 rfl rfl ?_
  refine r_if_eq (tgt := 132) (q := 122) C d_Md_talks_119 (by decide) rfl ?_ ?_
  · refine r_iconst (q := 133) (v := -1) C d_Md_talks_132 rfl (by decide) ?_
    refine r_sub (lv' := [(0, vA (some a)), (3, vI x3)]) [1, 2] rfl ?_
    exact s_Md_talks_133 C a k23 hk23 x3 (-1 : Int32)
  · refine r_aload_n (q := 123) (i := 0) (pl := 1) C d_Md_talks_122 rfl rfl rfl ?_
    refine r_gR (q := 126) C d_Md_talks_123 rfl F_Md_165 rfl (fun v5 => ?_)
    refine r_iload (q := 128) (i := 5) (pl := 3) C d_Md_talks_126 rfl rfl ?_
    refine r_aI (q := 129) C (Or.inr rfl) d_Md_talks_128 rfl (fun v6 => ?_)
    refine r_goto (tgt := 133) C d_Md_talks_129 (by decide) ?_
    refine r_sub (lv' := [(0, vA (some a)), (3, vI x3)]) [1, 2] rfl ?_
    exact s_Md_talks_133 C a k23 hk23 x3 v6
def f_Md_talks_110 (k23 : Int32 → Int32 → sn_M) (a : Nat) (x3 : Int32) (x5 : Int32) : sn_M := f_Md_talks_115 k23 a x3 x5 (1 : Int32)
set_option maxHeartbeats 4000000 in
set_option maxRecDepth 100000 in
theorem mono_Md_talks_110 (k23 : Int32 → Int32 → sn_M) (mk23 : ∀ (x2 : Int32) (x3 : Int32), sn_Mono (k23 x2 x3)) (a : Nat) (x3 : Int32) (x5 : Int32) : sn_Mono (f_Md_talks_110 k23 a x3 x5) := mono_Md_talks_115 k23 mk23 a x3 x5 (1 : Int32)
set_option maxHeartbeats 4000000 in
set_option maxRecDepth 100000 in
theorem s_Md_talks_110 {X : sn_X} (C : sn_Cx X c_Md_talks "SignalNetworkModel" (some .int) "talks" 7 1 23) (a : Nat) (k23 : Int32 → Int32 → sn_M) (hk23 : ∀ (x2 : Int32) (x3 : Int32), sn_S X 23 [(0, vA (some a)), (2, vI x2), (3, vI x3)] [] (k23 x2 x3)) (x3 : Int32) (x5 : Int32) : sn_S X 110 [(0, vA (some a)), (3, vI x3), (5, vI x5)] [] (f_Md_talks_110 k23 a x3 x5) := by
  unfold f_Md_talks_110
  refine r_iconst (q := 111) (v := 1) C d_Md_talks_110 rfl (by decide) ?_
  refine r_goto (tgt := 115) C d_Md_talks_111 (by decide) ?_
  exact s_Md_talks_115 C a k23 hk23 x3 x5 (1 : Int32)
def f_Md_talks_114 (k23 : Int32 → Int32 → sn_M) (a : Nat) (x3 : Int32) (x5 : Int32) : sn_M := f_Md_talks_115 k23 a x3 x5 (0 : Int32)
set_option maxHeartbeats 4000000 in
set_option maxRecDepth 100000 in
theorem mono_Md_talks_114 (k23 : Int32 → Int32 → sn_M) (mk23 : ∀ (x2 : Int32) (x3 : Int32), sn_Mono (k23 x2 x3)) (a : Nat) (x3 : Int32) (x5 : Int32) : sn_Mono (f_Md_talks_114 k23 a x3 x5) := mono_Md_talks_115 k23 mk23 a x3 x5 (0 : Int32)
set_option maxHeartbeats 4000000 in
set_option maxRecDepth 100000 in
theorem s_Md_talks_114 {X : sn_X} (C : sn_Cx X c_Md_talks "SignalNetworkModel" (some .int) "talks" 7 1 23) (a : Nat) (k23 : Int32 → Int32 → sn_M) (hk23 : ∀ (x2 : Int32) (x3 : Int32), sn_S X 23 [(0, vA (some a)), (2, vI x2), (3, vI x3)] [] (k23 x2 x3)) (x3 : Int32) (x5 : Int32) : sn_S X 114 [(0, vA (some a)), (3, vI x3), (5, vI x5)] [] (f_Md_talks_114 k23 a x3 x5) := by
  unfold f_Md_talks_114
  refine r_iconst (q := 115) (v := 0) C d_Md_talks_114 rfl (by decide) ?_
  exact s_Md_talks_115 C a k23 hk23 x3 x5 (0 : Int32)
def f_Md_talks_87 (k23 : Int32 → Int32 → sn_M) (a : Nat) (x3 : Int32) (x5 : Int32) : sn_M := g_R 12 52 (some a) fun v7 => a_I 31 v7 x5 fun v8 => (if v8 = (3 : Int32) then f_Md_talks_110 k23 a x3 x5 else g_R 12 52 (some a) fun v9 => a_I 31 v9 x5 fun v10 => (if ¬ v10 = (6 : Int32) then f_Md_talks_114 k23 a x3 x5 else f_Md_talks_110 k23 a x3 x5))
set_option maxHeartbeats 4000000 in
set_option maxRecDepth 100000 in
theorem mono_Md_talks_87 (k23 : Int32 → Int32 → sn_M) (mk23 : ∀ (x2 : Int32) (x3 : Int32), sn_Mono (k23 x2 x3)) (a : Nat) (x3 : Int32) (x5 : Int32) : sn_Mono (f_Md_talks_87 k23 a x3 x5) := sn_Mono.gR (fun v7 => sn_Mono.aI (fun v8 => sn_Mono.ite (mono_Md_talks_110 k23 mk23 a x3 x5) (sn_Mono.gR (fun v9 => sn_Mono.aI (fun v10 => sn_Mono.ite (mono_Md_talks_114 k23 mk23 a x3 x5) (mono_Md_talks_110 k23 mk23 a x3 x5))))))
set_option maxHeartbeats 4000000 in
set_option maxRecDepth 100000 in
theorem s_Md_talks_87 {X : sn_X} (C : sn_Cx X c_Md_talks "SignalNetworkModel" (some .int) "talks" 7 1 23) (a : Nat) (k23 : Int32 → Int32 → sn_M) (hk23 : ∀ (x2 : Int32) (x3 : Int32), sn_S X 23 [(0, vA (some a)), (2, vI x2), (3, vI x3)] [] (k23 x2 x3)) (x3 : Int32) (x5 : Int32) : sn_S X 87 [(0, vA (some a)), (3, vI x3), (5, vI x5)] [] (f_Md_talks_87 k23 a x3 x5) := by
  unfold f_Md_talks_87
  refine r_aload_n (q := 88) (i := 0) (pl := 0) C d_Md_talks_87 rfl rfl rfl ?_
  refine r_gR (q := 91) C d_Md_talks_88 rfl F_Md_150 rfl (fun v7 => ?_)
  refine r_iload (q := 93) (i := 5) (pl := 2) C d_Md_talks_91 rfl rfl ?_
  refine r_aI (q := 94) C (Or.inr rfl) d_Md_talks_93 rfl (fun v8 => ?_)
  refine r_iconst (q := 95) (v := 3) C d_Md_talks_94 rfl (by decide) ?_
  refine r_icmp_eq (tgt := 110) (q := 98) C d_Md_talks_95 (by decide) rfl ?_ ?_
  · exact s_Md_talks_110 C a k23 hk23 x3 x5
  · refine r_aload_n (q := 99) (i := 0) (pl := 0) C d_Md_talks_98 rfl rfl rfl ?_
    refine r_gR (q := 102) C d_Md_talks_99 rfl F_Md_150 rfl (fun v9 => ?_)
    refine r_iload (q := 104) (i := 5) (pl := 2) C d_Md_talks_102 rfl rfl ?_
    refine r_aI (q := 105) C (Or.inr rfl) d_Md_talks_104 rfl (fun v10 => ?_)
    refine r_bipush (q := 107) (v := 6) C d_Md_talks_105 rfl (by decide) ?_
    refine r_icmp_ne (tgt := 114) (q := 110) C d_Md_talks_107 (by decide) rfl ?_ ?_
    · exact s_Md_talks_114 C a k23 hk23 x3 x5
    · exact s_Md_talks_110 C a k23 hk23 x3 x5
def f_Md_talks_23 (a : Nat) : Nat → Int32 → Int32 → sn_M
  | 0, _, _ => r_0
  | n + 1, x2, x3 => (if (200 : Int32) ≤ x3 then f_Md_talks_140 a x2 else (if x2 < (100 : Int32) then f_Md_talks_140 a x2 else n_I ((x2 - (100 : Int32))) fun n11 => n_n 12 (some a) fun a12 => c_I (f_Md_flowAt a12 ((n11 % (24 : Int32)) / (4 : Int32)) (n11 / (24 : Int32)) (n11 % (4 : Int32))) fun v13 => g_R 12 52 (some a) fun v14 => a_I 31 v14 n11 fun v15 => (if v15 = (3 : Int32) then f_Md_talks_87 (f_Md_talks_23 a n) a x3 v13 else g_R 12 52 (some a) fun v16 => a_I 31 v16 n11 fun v17 => (if ¬ v17 = (6 : Int32) then f_Md_talks_114 (f_Md_talks_23 a n) a x3 v13 else f_Md_talks_87 (f_Md_talks_23 a n) a x3 v13))))
set_option maxHeartbeats 4000000 in
set_option maxRecDepth 100000 in
theorem mono_Md_talks_23 (a : Nat) : ∀ (n : Nat) (x2 : Int32) (x3 : Int32), sn_Mono (f_Md_talks_23 a n x2 x3)
  | 0, _, _ => sn_Mono.r0
  | n + 1, x2, x3 => sn_Mono.ite (mono_Md_talks_140 a x2) (sn_Mono.ite (mono_Md_talks_140 a x2) (sn_Mono.nI (fun n11 => sn_Mono.nn (fun a12 => sn_Mono.cI (mono_Md_flowAt a12 ((n11 % (24 : Int32)) / (4 : Int32)) (n11 / (24 : Int32)) (n11 % (4 : Int32))) (fun v13 => sn_Mono.gR (fun v14 => sn_Mono.aI (fun v15 => sn_Mono.ite (mono_Md_talks_87 (f_Md_talks_23 a n) (mono_Md_talks_23 a n) a x3 v13) (sn_Mono.gR (fun v16 => sn_Mono.aI (fun v17 => sn_Mono.ite (mono_Md_talks_114 (f_Md_talks_23 a n) (mono_Md_talks_23 a n) a x3 v13) (mono_Md_talks_87 (f_Md_talks_23 a n) (mono_Md_talks_23 a n) a x3 v13)))))))))))
set_option maxHeartbeats 4000000 in
set_option maxRecDepth 100000 in
theorem s_Md_talks_23 {X : sn_X} (C : sn_Cx X c_Md_talks "SignalNetworkModel" (some .int) "talks" 7 1 23) (a : Nat) (n : Nat) : ∀ (x2 : Int32) (x3 : Int32), sn_S X 23 [(0, vA (some a)), (2, vI x2), (3, vI x3)] [] (f_Md_talks_23 a n x2 x3) := by
  induction n with
  | zero => intro x2 x3; exact sn_S.zero
  | succ n ih =>
    intro x2 x3
    unfold f_Md_talks_23
    refine r_iload_n (q := 24) (i := 3) (pl := 2) C d_Md_talks_23 rfl rfl rfl ?_
    refine r_sipush (q := 27) (v := 200) C d_Md_talks_24 rfl (by decide) ?_
    refine r_icmp_ge (tgt := 140) (q := 30) C d_Md_talks_27 (by decide) rfl ?_ ?_
    · refine r_sub (lv' := [(0, vA (some a)), (2, vI x2)]) [0, 1] rfl ?_
      exact s_Md_talks_140 C a x2
    · refine r_iload_n (q := 31) (i := 2) (pl := 1) C d_Md_talks_30 rfl rfl rfl ?_
      refine r_bipush (q := 33) (v := 100) C d_Md_talks_31 rfl (by decide) ?_
      refine r_icmp_lt (tgt := 140) (q := 36) C d_Md_talks_33 (by decide) rfl ?_ ?_
      · refine r_sub (lv' := [(0, vA (some a)), (2, vI x2)]) [0, 1] rfl ?_
        exact s_Md_talks_140 C a x2
      · refine r_iload_n (q := 37) (i := 2) (pl := 1) C d_Md_talks_36 rfl rfl rfl ?_
        refine r_bipush (q := 39) (v := 100) C d_Md_talks_37 rfl (by decide) ?_
        refine r_isub (q := 40) C d_Md_talks_39 rfl ?_
        refine r_nI (fun n11 => ?_)
        refine r_istore (q := 42) (i := 4) (lv' := [(4, vI n11), (0, vA (some a)), (2, vI x2), (3, vI x3)]) C d_Md_talks_40 rfl (by decide) rfl ?_
        refine r_aload_n (q := 43) (i := 0) (pl := 1) C d_Md_talks_42 rfl rfl rfl ?_
        refine r_iload (q := 45) (i := 4) (pl := 0) C d_Md_talks_43 rfl rfl ?_
        refine r_bipush (q := 47) (v := 24) C d_Md_talks_45 rfl (by decide) ?_
        refine r_iremc (q := 48) C d_Md_talks_47 rfl (by decide) ?_
        refine r_iconst (q := 49) (v := 4) C d_Md_talks_48 rfl (by decide) ?_
        refine r_idivc (q := 50) C d_Md_talks_49 rfl (by decide) ?_
        refine r_iload (q := 52) (i := 4) (pl := 0) C d_Md_talks_50 rfl rfl ?_
        refine r_bipush (q := 54) (v := 24) C d_Md_talks_52 rfl (by decide) ?_
        refine r_idivc (q := 55) C d_Md_talks_54 rfl (by decide) ?_
        refine r_iload (q := 57) (i := 4) (pl := 0) C d_Md_talks_55 rfl rfl ?_
        refine r_iconst (q := 58) (v := 4) C d_Md_talks_57 rfl (by decide) ?_
        refine r_iremc (q := 59) C d_Md_talks_58 rfl (by decide) ?_
        refine r_cvI (q := 62) (As := [vI ((n11 % (24 : Int32)) / (4 : Int32)), vI (n11 / (24 : Int32)), vI (n11 % (4 : Int32))]) (st := []) (cy := 11) C d_Md_talks_59 rfl Y_Md_flowAt L_Md_212 I_Md_flowAt Se_Md_flowAt rfl (by decide) rfl (Nat.le_of_ble_eq_true rfl) (Nat.le_of_ble_eq_true rfl) (Nat.le_of_ble_eq_true rfl) rfl (fun a12 => con_Md_flowAt a12 ((n11 % (24 : Int32)) / (4 : Int32)) (n11 / (24 : Int32)) (n11 % (4 : Int32))) (fun v13 => ?_)
        refine r_istore (q := 64) (i := 5) (lv' := [(5, vI v13), (4, vI n11), (0, vA (some a)), (2, vI x2), (3, vI x3)]) C d_Md_talks_62 rfl (by decide) rfl ?_
        refine r_aload_n (q := 65) (i := 0) (pl := 2) C d_Md_talks_64 rfl rfl rfl ?_
        refine r_gR (q := 68) C d_Md_talks_65 rfl F_Md_150 rfl (fun v14 => ?_)
        refine r_iload (q := 70) (i := 4) (pl := 1) C d_Md_talks_68 rfl rfl ?_
        refine r_aI (q := 71) C (Or.inr rfl) d_Md_talks_70 rfl (fun v15 => ?_)
        refine r_iconst (q := 72) (v := 3) C d_Md_talks_71 rfl (by decide) ?_
        refine r_icmp_eq (tgt := 87) (q := 75) C d_Md_talks_72 (by decide) rfl ?_ ?_
        · refine r_sub (lv' := [(0, vA (some a)), (3, vI x3), (5, vI v13)]) [2, 4, 0] rfl ?_
          exact s_Md_talks_87 C a (f_Md_talks_23 a n) ih x3 v13
        · refine r_aload_n (q := 76) (i := 0) (pl := 2) C d_Md_talks_75 rfl rfl rfl ?_
          refine r_gR (q := 79) C d_Md_talks_76 rfl F_Md_150 rfl (fun v16 => ?_)
          refine r_iload (q := 81) (i := 4) (pl := 1) C d_Md_talks_79 rfl rfl ?_
          refine r_aI (q := 82) C (Or.inr rfl) d_Md_talks_81 rfl (fun v17 => ?_)
          refine r_bipush (q := 84) (v := 6) C d_Md_talks_82 rfl (by decide) ?_
          refine r_icmp_ne (tgt := 114) (q := 87) C d_Md_talks_84 (by decide) rfl ?_ ?_
          · refine r_sub (lv' := [(0, vA (some a)), (3, vI x3), (5, vI v13)]) [2, 4, 0] rfl ?_
            exact s_Md_talks_114 C a (f_Md_talks_23 a n) ih x3 v13
          · refine r_sub (lv' := [(0, vA (some a)), (3, vI x3), (5, vI v13)]) [2, 4, 0] rfl ?_
            exact s_Md_talks_87 C a (f_Md_talks_23 a n) ih x3 v13
def f_Md_talks_20 (a : Nat) (t0 : Int32) : sn_M := f_Md_talks_23 a sn_fuel t0 (0 : Int32)
set_option maxHeartbeats 4000000 in
set_option maxRecDepth 100000 in
theorem mono_Md_talks_20 (a : Nat) (t0 : Int32) : sn_Mono (f_Md_talks_20 a t0) := mono_Md_talks_23 a sn_fuel t0 (0 : Int32)
set_option maxHeartbeats 4000000 in
set_option maxRecDepth 100000 in
theorem s_Md_talks_20 {X : sn_X} (C : sn_Cx X c_Md_talks "SignalNetworkModel" (some .int) "talks" 7 1 23) (a : Nat) (t0 : Int32) : sn_S X 20 [(0, vA (some a))] [vI t0] (f_Md_talks_20 a t0) := by
  unfold f_Md_talks_20
  refine r_istore_n (q := 21) (i := 2) (lv' := [(2, vI t0), (0, vA (some a))]) C d_Md_talks_20 rfl rfl (by decide) rfl ?_
  refine r_iconst (q := 22) (v := 0) C d_Md_talks_21 rfl (by decide) ?_
  refine r_istore_n (q := 23) (i := 3) (lv' := [(3, vI (0 : Int32)), (2, vI t0), (0, vA (some a))]) C d_Md_talks_22 rfl rfl (by decide) rfl ?_
  refine r_sub (lv' := [(0, vA (some a)), (2, vI t0), (3, vI (0 : Int32))]) [2, 1, 0] rfl ?_
  exact s_Md_talks_23 C a sn_fuel t0 (0 : Int32)
def f_Md_talks (a : Nat) (x1 : Int32) : sn_M := g_R 12 61 (some a) fun v18 => a_I 31 v18 x1 fun v19 => (if ¬ v19 = (4 : Int32) then f_Md_talks_20 a (-1 : Int32) else g_R 12 62 (some a) fun v20 => a_I 31 v20 x1 fun v21 => f_Md_talks_20 a v21)
set_option maxHeartbeats 4000000 in
set_option maxRecDepth 100000 in
theorem mono_Md_talks (a : Nat) (x1 : Int32) : sn_Mono (f_Md_talks a x1) := sn_Mono.gR (fun v18 => sn_Mono.aI (fun v19 => sn_Mono.ite (mono_Md_talks_20 a (-1 : Int32)) (sn_Mono.gR (fun v20 => sn_Mono.aI (fun v21 => mono_Md_talks_20 a v21)))))
set_option maxHeartbeats 4000000 in
set_option maxRecDepth 100000 in
theorem con_Md_talks (a : Nat) (x1 : Int32) : sn_Con y_Md_talks c_Md_talks 7 (some .int) 1 23 [vA (some a), vI x1] (f_Md_talks a x1) := by
  refine sn_Con.of (by decide +kernel) (by show _ ≤ _; exact Nat.le_of_ble_eq_true rfl) (mono_Md_talks a x1) (fun X C => ?_)
  show sn_S X 0 [(0, vA (some a)), (1, vI x1)] [] _
  replace C : sn_Cx X c_Md_talks "SignalNetworkModel" (some .int) "talks" 7 1 23 := C
  unfold f_Md_talks
  refine r_aload_n (q := 1) (i := 0) (pl := 0) C d_Md_talks_0 rfl rfl rfl ?_
  refine r_gR (q := 4) C d_Md_talks_1 rfl F_Md_177 rfl (fun v18 => ?_)
  refine r_iload_n (q := 5) (i := 1) (pl := 1) C d_Md_talks_4 rfl rfl rfl ?_
  refine r_aI (q := 6) C (Or.inr rfl) d_Md_talks_5 rfl (fun v19 => ?_)
  refine r_iconst (q := 7) (v := 4) C d_Md_talks_6 rfl (by decide) ?_
  refine r_icmp_ne (tgt := 19) (q := 10) C d_Md_talks_7 (by decide) rfl ?_ ?_
  · refine r_iconst (q := 20) (v := -1) C d_Md_talks_19 rfl (by decide) ?_
    refine r_sub (lv' := [(0, vA (some a))]) [0] rfl ?_
    exact s_Md_talks_20 C a (-1 : Int32)
  · refine r_aload_n (q := 11) (i := 0) (pl := 0) C d_Md_talks_10 rfl rfl rfl ?_
    refine r_gR (q := 14) C d_Md_talks_11 rfl F_Md_180 rfl (fun v20 => ?_)
    refine r_iload_n (q := 15) (i := 1) (pl := 1) C d_Md_talks_14 rfl rfl rfl ?_
    refine r_aI (q := 16) C (Or.inr rfl) d_Md_talks_15 rfl (fun v21 => ?_)
    refine r_goto (tgt := 20) C d_Md_talks_16 (by decide) ?_
    refine r_sub (lv' := [(0, vA (some a))]) [0] rfl ?_
    exact s_Md_talks_20 C a v21
theorem d_Md_subscriber_0 : decode c_Md_subscriber 0 = .ok (.iload_n 1, 1) := by decide +kernel
theorem d_Md_subscriber_1 : decode c_Md_subscriber 1 = .ok (.invokestatic 412, 3) := by decide +kernel
theorem d_Md_subscriber_4 : decode c_Md_subscriber 4 = .ok (.istore_n 3, 1) := by decide +kernel
theorem d_Md_subscriber_5 : decode c_Md_subscriber 5 = .ok (.iload_n 3, 1) := by decide +kernel
theorem d_Md_subscriber_6 : decode c_Md_subscriber 6 = .ok (.iconst (-1), 1) := by decide +kernel
theorem d_Md_subscriber_7 : decode c_Md_subscriber 7 = .ok (.if_icmp .ne 5, 3) := by decide +kernel
theorem d_Md_subscriber_10 : decode c_Md_subscriber 10 = .ok (.iconst (-1), 1) := by decide +kernel
theorem d_Md_subscriber_11 : decode c_Md_subscriber 11 = .ok (.ireturn, 1) := by decide +kernel
theorem d_Md_subscriber_12 : decode c_Md_subscriber 12 = .ok (.iload_n 2, 1) := by decide +kernel
theorem d_Md_subscriber_13 : decode c_Md_subscriber 13 = .ok (.ifCond .ne 12, 3) := by decide +kernel
theorem d_Md_subscriber_16 : decode c_Md_subscriber 16 = .ok (.aload_n 0, 1) := by decide +kernel
theorem d_Md_subscriber_17 : decode c_Md_subscriber 17 = .ok (.getfield 177, 3) := by decide +kernel
theorem d_Md_subscriber_20 : decode c_Md_subscriber 20 = .ok (.iload_n 3, 1) := by decide +kernel
theorem d_Md_subscriber_21 : decode c_Md_subscriber 21 = .ok (.iaload, 1) := by decide +kernel
theorem d_Md_subscriber_22 : decode c_Md_subscriber 22 = .ok (.goto 35, 3) := by decide +kernel
theorem d_Md_subscriber_25 : decode c_Md_subscriber 25 = .ok (.iload_n 2, 1) := by decide +kernel
theorem d_Md_subscriber_26 : decode c_Md_subscriber 26 = .ok (.iconst 1, 1) := by decide +kernel
theorem d_Md_subscriber_27 : decode c_Md_subscriber 27 = .ok (.if_icmp .ne 16, 3) := by decide +kernel
theorem d_Md_subscriber_30 : decode c_Md_subscriber 30 = .ok (.aload_n 0, 1) := by decide +kernel
theorem d_Md_subscriber_31 : decode c_Md_subscriber 31 = .ok (.aload_n 0, 1) := by decide +kernel
theorem d_Md_subscriber_32 : decode c_Md_subscriber 32 = .ok (.getfield 180, 3) := by decide +kernel
theorem d_Md_subscriber_35 : decode c_Md_subscriber 35 = .ok (.iload_n 3, 1) := by decide +kernel
theorem d_Md_subscriber_36 : decode c_Md_subscriber 36 = .ok (.iaload, 1) := by decide +kernel
theorem d_Md_subscriber_37 : decode c_Md_subscriber 37 = .ok (.invokevirtual 432, 3) := by decide +kernel
theorem d_Md_subscriber_40 : decode c_Md_subscriber 40 = .ok (.goto 17, 3) := by decide +kernel
theorem d_Md_subscriber_43 : decode c_Md_subscriber 43 = .ok (.iload_n 2, 1) := by decide +kernel
theorem d_Md_subscriber_44 : decode c_Md_subscriber 44 = .ok (.iconst 2, 1) := by decide +kernel
theorem d_Md_subscriber_45 : decode c_Md_subscriber 45 = .ok (.if_icmp .ne 11, 3) := by decide +kernel
theorem d_Md_subscriber_48 : decode c_Md_subscriber 48 = .ok (.aload_n 0, 1) := by decide +kernel
theorem d_Md_subscriber_49 : decode c_Md_subscriber 49 = .ok (.iload_n 3, 1) := by decide +kernel
theorem d_Md_subscriber_50 : decode c_Md_subscriber 50 = .ok (.invokevirtual 435, 3) := by decide +kernel
theorem d_Md_subscriber_53 : decode c_Md_subscriber 53 = .ok (.goto 4, 3) := by decide +kernel
theorem d_Md_subscriber_56 : decode c_Md_subscriber 56 = .ok (.iconst (-1), 1) := by decide +kernel
theorem d_Md_subscriber_57 : decode c_Md_subscriber 57 = .ok (.ireturn, 1) := by decide +kernel
def f_Md_subscriber_57 (a : Nat) (t0 : Int32) : sn_M := r_I t0
set_option maxHeartbeats 4000000 in
set_option maxRecDepth 100000 in
theorem mono_Md_subscriber_57 (a : Nat) (t0 : Int32) : sn_Mono (f_Md_subscriber_57 a t0) := sn_Mono.rI
set_option maxHeartbeats 4000000 in
set_option maxRecDepth 100000 in
theorem s_Md_subscriber_57 {X : sn_X} (C : sn_Cx X c_Md_subscriber "SignalNetworkModel" (some .int) "subscriber" 4 2 49) (a : Nat) (t0 : Int32) : sn_S X 57 [(0, vA (some a))] [vI t0] (f_Md_subscriber_57 a t0) := by
  unfold f_Md_subscriber_57
  exact r_iret C d_Md_subscriber_57 rfl
def f_Md_subscriber (a : Nat) (x1 : Int32) (x2 : Int32) : sn_M := c_I (f_Md_personAt x1) fun v1 => (if ¬ v1 = (-1 : Int32) then (if ¬ x2 = 0 then (if ¬ x2 = (1 : Int32) then (if ¬ x2 = (2 : Int32) then f_Md_subscriber_57 a (-1 : Int32) else n_n 12 (some a) fun a2 => c_I (f_Md_talks a2 v1) fun v3 => f_Md_subscriber_57 a v3) else g_R 12 62 (some a) fun v4 => a_I 31 v4 v1 fun v5 => n_n 12 (some a) fun a6 => c_I (f_Md_legTold a6 v5) fun v7 => f_Md_subscriber_57 a v7) else g_R 12 61 (some a) fun v8 => a_I 31 v8 v1 fun v9 => f_Md_subscriber_57 a v9) else r_I (-1 : Int32))
set_option maxHeartbeats 4000000 in
set_option maxRecDepth 100000 in
theorem mono_Md_subscriber (a : Nat) (x1 : Int32) (x2 : Int32) : sn_Mono (f_Md_subscriber a x1 x2) := sn_Mono.cI (mono_Md_personAt x1) (fun v1 => sn_Mono.ite (sn_Mono.ite (sn_Mono.ite (sn_Mono.ite (mono_Md_subscriber_57 a (-1 : Int32)) (sn_Mono.nn (fun a2 => sn_Mono.cI (mono_Md_talks a2 v1) (fun v3 => mono_Md_subscriber_57 a v3)))) (sn_Mono.gR (fun v4 => sn_Mono.aI (fun v5 => sn_Mono.nn (fun a6 => sn_Mono.cI (mono_Md_legTold a6 v5) (fun v7 => mono_Md_subscriber_57 a v7)))))) (sn_Mono.gR (fun v8 => sn_Mono.aI (fun v9 => mono_Md_subscriber_57 a v9)))) (sn_Mono.rI))
set_option maxHeartbeats 4000000 in
set_option maxRecDepth 100000 in
theorem con_Md_subscriber (a : Nat) (x1 : Int32) (x2 : Int32) : sn_Con y_Md_subscriber c_Md_subscriber 4 (some .int) 2 49 [vA (some a), vI x1, vI x2] (f_Md_subscriber a x1 x2) := by
  refine sn_Con.of (by decide +kernel) (by show _ ≤ _; exact Nat.le_of_ble_eq_true rfl) (mono_Md_subscriber a x1 x2) (fun X C => ?_)
  show sn_S X 0 [(0, vA (some a)), (1, vI x1), (2, vI x2)] [] _
  replace C : sn_Cx X c_Md_subscriber "SignalNetworkModel" (some .int) "subscriber" 4 2 49 := C
  unfold f_Md_subscriber
  refine r_iload_n (q := 1) (i := 1) (pl := 1) C d_Md_subscriber_0 rfl rfl rfl ?_
  refine r_csI (q := 4) (As := [vI x1]) (st := []) C d_Md_subscriber_1 rfl Y_Md_personAt L_Md_412 St_Md_personAt rfl (Nat.le_of_ble_eq_true rfl) (Nat.le_of_ble_eq_true rfl) (Nat.le_of_ble_eq_true rfl) rfl (con_Md_personAt x1) (fun v1 => ?_)
  refine r_istore_n (q := 5) (i := 3) (lv' := [(3, vI v1), (0, vA (some a)), (1, vI x1), (2, vI x2)]) C d_Md_subscriber_4 rfl rfl (by decide) rfl ?_
  refine r_iload_n (q := 6) (i := 3) (pl := 0) C d_Md_subscriber_5 rfl rfl rfl ?_
  refine r_iconst (q := 7) (v := -1) C d_Md_subscriber_6 rfl (by decide) ?_
  refine r_icmp_ne (tgt := 12) (q := 10) C d_Md_subscriber_7 (by decide) rfl ?_ ?_
  · refine r_iload_n (q := 13) (i := 2) (pl := 3) C d_Md_subscriber_12 rfl rfl rfl ?_
    refine r_if_ne (tgt := 25) (q := 16) C d_Md_subscriber_13 (by decide) rfl ?_ ?_
    · refine r_iload_n (q := 26) (i := 2) (pl := 3) C d_Md_subscriber_25 rfl rfl rfl ?_
      refine r_iconst (q := 27) (v := 1) C d_Md_subscriber_26 rfl (by decide) ?_
      refine r_icmp_ne (tgt := 43) (q := 30) C d_Md_subscriber_27 (by decide) rfl ?_ ?_
      · refine r_iload_n (q := 44) (i := 2) (pl := 3) C d_Md_subscriber_43 rfl rfl rfl ?_
        refine r_iconst (q := 45) (v := 2) C d_Md_subscriber_44 rfl (by decide) ?_
        refine r_icmp_ne (tgt := 56) (q := 48) C d_Md_subscriber_45 (by decide) rfl ?_ ?_
        · refine r_iconst (q := 57) (v := -1) C d_Md_subscriber_56 rfl (by decide) ?_
          refine r_sub (lv' := [(0, vA (some a))]) [1] rfl ?_
          exact s_Md_subscriber_57 C a (-1 : Int32)
        · refine r_aload_n (q := 49) (i := 0) (pl := 1) C d_Md_subscriber_48 rfl rfl rfl ?_
          refine r_iload_n (q := 50) (i := 3) (pl := 0) C d_Md_subscriber_49 rfl rfl rfl ?_
          refine r_cvI (q := 53) (As := [vI v1]) (st := []) (cy := 11) C d_Md_subscriber_50 rfl Y_Md_talks L_Md_435 I_Md_talks Se_Md_talks rfl (by decide) rfl (Nat.le_of_ble_eq_true rfl) (Nat.le_of_ble_eq_true rfl) (Nat.le_of_ble_eq_true rfl) rfl (fun a2 => con_Md_talks a2 v1) (fun v3 => ?_)
          refine r_goto (tgt := 57) C d_Md_subscriber_53 (by decide) ?_
          refine r_sub (lv' := [(0, vA (some a))]) [1] rfl ?_
          exact s_Md_subscriber_57 C a v3
      · refine r_aload_n (q := 31) (i := 0) (pl := 1) C d_Md_subscriber_30 rfl rfl rfl ?_
        refine r_aload_n (q := 32) (i := 0) (pl := 1) C d_Md_subscriber_31 rfl rfl rfl ?_
        refine r_gR (q := 35) C d_Md_subscriber_32 rfl F_Md_180 rfl (fun v4 => ?_)
        refine r_iload_n (q := 36) (i := 3) (pl := 0) C d_Md_subscriber_35 rfl rfl rfl ?_
        refine r_aI (q := 37) C (Or.inr rfl) d_Md_subscriber_36 rfl (fun v5 => ?_)
        refine r_cvI (q := 40) (As := [vI v5]) (st := []) (cy := 11) C d_Md_subscriber_37 rfl Y_Md_legTold L_Md_432 I_Md_legTold Se_Md_legTold rfl (by decide) rfl (Nat.le_of_ble_eq_true rfl) (Nat.le_of_ble_eq_true rfl) (Nat.le_of_ble_eq_true rfl) rfl (fun a6 => con_Md_legTold a6 v5) (fun v7 => ?_)
        refine r_goto (tgt := 57) C d_Md_subscriber_40 (by decide) ?_
        refine r_sub (lv' := [(0, vA (some a))]) [1] rfl ?_
        exact s_Md_subscriber_57 C a v7
    · refine r_aload_n (q := 17) (i := 0) (pl := 1) C d_Md_subscriber_16 rfl rfl rfl ?_
      refine r_gR (q := 20) C d_Md_subscriber_17 rfl F_Md_177 rfl (fun v8 => ?_)
      refine r_iload_n (q := 21) (i := 3) (pl := 0) C d_Md_subscriber_20 rfl rfl rfl ?_
      refine r_aI (q := 22) C (Or.inr rfl) d_Md_subscriber_21 rfl (fun v9 => ?_)
      refine r_goto (tgt := 57) C d_Md_subscriber_22 (by decide) ?_
      refine r_sub (lv' := [(0, vA (some a))]) [1] rfl ?_
      exact s_Md_subscriber_57 C a v9
  · refine r_iconst (q := 11) (v := -1) C d_Md_subscriber_10 rfl (by decide) ?_
    exact r_iret C d_Md_subscriber_11 rfl
theorem d_Md_counted_0 : decode c_Md_counted 0 = .ok (.iload_n 1, 1) := by decide +kernel
theorem d_Md_counted_1 : decode c_Md_counted 1 = .ok (.ifCond .ne 10, 3) := by decide +kernel
theorem d_Md_counted_4 : decode c_Md_counted 4 = .ok (.aload_n 0, 1) := by decide +kernel
theorem d_Md_counted_5 : decode c_Md_counted 5 = .ok (.getfield 397, 3) := by decide +kernel
theorem d_Md_counted_8 : decode c_Md_counted 8 = .ok (.goto 40, 3) := by decide +kernel
theorem d_Md_counted_11 : decode c_Md_counted 11 = .ok (.iload_n 1, 1) := by decide +kernel
theorem d_Md_counted_12 : decode c_Md_counted 12 = .ok (.iconst 1, 1) := by decide +kernel
theorem d_Md_counted_13 : decode c_Md_counted 13 = .ok (.if_icmp .ne 10, 3) := by decide +kernel
theorem d_Md_counted_16 : decode c_Md_counted 16 = .ok (.aload_n 0, 1) := by decide +kernel
theorem d_Md_counted_17 : decode c_Md_counted 17 = .ok (.getfield 219, 3) := by decide +kernel
theorem d_Md_counted_20 : decode c_Md_counted 20 = .ok (.goto 28, 3) := by decide +kernel
theorem d_Md_counted_23 : decode c_Md_counted 23 = .ok (.iload_n 1, 1) := by decide +kernel
theorem d_Md_counted_24 : decode c_Md_counted 24 = .ok (.iconst 2, 1) := by decide +kernel
theorem d_Md_counted_25 : decode c_Md_counted 25 = .ok (.if_icmp .ne 10, 3) := by decide +kernel
theorem d_Md_counted_28 : decode c_Md_counted 28 = .ok (.aload_n 0, 1) := by decide +kernel
theorem d_Md_counted_29 : decode c_Md_counted 29 = .ok (.getfield 322, 3) := by decide +kernel
theorem d_Md_counted_32 : decode c_Md_counted 32 = .ok (.goto 16, 3) := by decide +kernel
theorem d_Md_counted_35 : decode c_Md_counted 35 = .ok (.iload_n 1, 1) := by decide +kernel
theorem d_Md_counted_36 : decode c_Md_counted 36 = .ok (.iconst 3, 1) := by decide +kernel
theorem d_Md_counted_37 : decode c_Md_counted 37 = .ok (.if_icmp .ne 10, 3) := by decide +kernel
theorem d_Md_counted_40 : decode c_Md_counted 40 = .ok (.aload_n 0, 1) := by decide +kernel
theorem d_Md_counted_41 : decode c_Md_counted 41 = .ok (.getfield 328, 3) := by decide +kernel
theorem d_Md_counted_44 : decode c_Md_counted 44 = .ok (.goto 4, 3) := by decide +kernel
theorem d_Md_counted_47 : decode c_Md_counted 47 = .ok (.iconst (-1), 1) := by decide +kernel
theorem d_Md_counted_48 : decode c_Md_counted 48 = .ok (.ireturn, 1) := by decide +kernel
def f_Md_counted_48 (a : Nat) (t0 : Int32) : sn_M := r_I t0
set_option maxHeartbeats 4000000 in
set_option maxRecDepth 100000 in
theorem mono_Md_counted_48 (a : Nat) (t0 : Int32) : sn_Mono (f_Md_counted_48 a t0) := sn_Mono.rI
set_option maxHeartbeats 4000000 in
set_option maxRecDepth 100000 in
theorem s_Md_counted_48 {X : sn_X} (C : sn_Cx X c_Md_counted "SignalNetworkModel" (some .int) "counted" 2 0 0) (a : Nat) (t0 : Int32) : sn_S X 48 [(0, vA (some a))] [vI t0] (f_Md_counted_48 a t0) := by
  unfold f_Md_counted_48
  exact r_iret C d_Md_counted_48 rfl
def f_Md_counted (a : Nat) (x1 : Int32) : sn_M := (if ¬ x1 = 0 then (if ¬ x1 = (1 : Int32) then (if ¬ x1 = (2 : Int32) then (if ¬ x1 = (3 : Int32) then f_Md_counted_48 a (-1 : Int32) else g_I 12 9 (some a) fun v1 => f_Md_counted_48 a v1) else g_I 12 8 (some a) fun v2 => f_Md_counted_48 a v2) else g_I 12 7 (some a) fun v3 => f_Md_counted_48 a v3) else g_I 12 5 (some a) fun v4 => f_Md_counted_48 a v4)
set_option maxHeartbeats 4000000 in
set_option maxRecDepth 100000 in
theorem mono_Md_counted (a : Nat) (x1 : Int32) : sn_Mono (f_Md_counted a x1) := sn_Mono.ite (sn_Mono.ite (sn_Mono.ite (sn_Mono.ite (mono_Md_counted_48 a (-1 : Int32)) (sn_Mono.gI (fun v1 => mono_Md_counted_48 a v1))) (sn_Mono.gI (fun v2 => mono_Md_counted_48 a v2))) (sn_Mono.gI (fun v3 => mono_Md_counted_48 a v3))) (sn_Mono.gI (fun v4 => mono_Md_counted_48 a v4))
set_option maxHeartbeats 4000000 in
set_option maxRecDepth 100000 in
theorem con_Md_counted (a : Nat) (x1 : Int32) : sn_Con y_Md_counted c_Md_counted 2 (some .int) 0 0 [vA (some a), vI x1] (f_Md_counted a x1) := by
  refine sn_Con.of (by decide +kernel) (by show _ ≤ _; exact Nat.le_of_ble_eq_true rfl) (mono_Md_counted a x1) (fun X C => ?_)
  show sn_S X 0 [(0, vA (some a)), (1, vI x1)] [] _
  replace C : sn_Cx X c_Md_counted "SignalNetworkModel" (some .int) "counted" 2 0 0 := C
  unfold f_Md_counted
  refine r_iload_n (q := 1) (i := 1) (pl := 1) C d_Md_counted_0 rfl rfl rfl ?_
  refine r_if_ne (tgt := 11) (q := 4) C d_Md_counted_1 (by decide) rfl ?_ ?_
  · refine r_iload_n (q := 12) (i := 1) (pl := 1) C d_Md_counted_11 rfl rfl rfl ?_
    refine r_iconst (q := 13) (v := 1) C d_Md_counted_12 rfl (by decide) ?_
    refine r_icmp_ne (tgt := 23) (q := 16) C d_Md_counted_13 (by decide) rfl ?_ ?_
    · refine r_iload_n (q := 24) (i := 1) (pl := 1) C d_Md_counted_23 rfl rfl rfl ?_
      refine r_iconst (q := 25) (v := 2) C d_Md_counted_24 rfl (by decide) ?_
      refine r_icmp_ne (tgt := 35) (q := 28) C d_Md_counted_25 (by decide) rfl ?_ ?_
      · refine r_iload_n (q := 36) (i := 1) (pl := 1) C d_Md_counted_35 rfl rfl rfl ?_
        refine r_iconst (q := 37) (v := 3) C d_Md_counted_36 rfl (by decide) ?_
        refine r_icmp_ne (tgt := 47) (q := 40) C d_Md_counted_37 (by decide) rfl ?_ ?_
        · refine r_iconst (q := 48) (v := -1) C d_Md_counted_47 rfl (by decide) ?_
          refine r_sub (lv' := [(0, vA (some a))]) [0] rfl ?_
          exact s_Md_counted_48 C a (-1 : Int32)
        · refine r_aload_n (q := 41) (i := 0) (pl := 0) C d_Md_counted_40 rfl rfl rfl ?_
          refine r_gI (q := 44) C d_Md_counted_41 rfl F_Md_328 rfl (fun v1 => ?_)
          refine r_goto (tgt := 48) C d_Md_counted_44 (by decide) ?_
          refine r_sub (lv' := [(0, vA (some a))]) [0] rfl ?_
          exact s_Md_counted_48 C a v1
      · refine r_aload_n (q := 29) (i := 0) (pl := 0) C d_Md_counted_28 rfl rfl rfl ?_
        refine r_gI (q := 32) C d_Md_counted_29 rfl F_Md_322 rfl (fun v2 => ?_)
        refine r_goto (tgt := 48) C d_Md_counted_32 (by decide) ?_
        refine r_sub (lv' := [(0, vA (some a))]) [0] rfl ?_
        exact s_Md_counted_48 C a v2
    · refine r_aload_n (q := 17) (i := 0) (pl := 0) C d_Md_counted_16 rfl rfl rfl ?_
      refine r_gI (q := 20) C d_Md_counted_17 rfl F_Md_219 rfl (fun v3 => ?_)
      refine r_goto (tgt := 48) C d_Md_counted_20 (by decide) ?_
      refine r_sub (lv' := [(0, vA (some a))]) [0] rfl ?_
      exact s_Md_counted_48 C a v3
  · refine r_aload_n (q := 5) (i := 0) (pl := 0) C d_Md_counted_4 rfl rfl rfl ?_
    refine r_gI (q := 8) C d_Md_counted_5 rfl F_Md_397 rfl (fun v4 => ?_)
    refine r_goto (tgt := 48) C d_Md_counted_8 (by decide) ?_
    refine r_sub (lv' := [(0, vA (some a))]) [0] rfl ?_
    exact s_Md_counted_48 C a v4
