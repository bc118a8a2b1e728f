theorem d_Sn_init_0 : decode c_Sn_init 0 = .ok (.aload_n 0, 1) := by decide +kernel
theorem d_Sn_init_1 : decode c_Sn_init 1 = .ok (.invokespecial 3, 3) := by decide +kernel
theorem d_Sn_init_4 : decode c_Sn_init 4 = .ok (.aload_n 0, 1) := by decide +kernel
theorem d_Sn_init_5 : decode c_Sn_init 5 = .ok (.new 9, 3) := by decide +kernel
theorem d_Sn_init_8 : decode c_Sn_init 8 = .ok (.dup, 1) := by decide +kernel
theorem d_Sn_init_9 : decode c_Sn_init 9 = .ok (.invokespecial 11, 3) := by decide +kernel
theorem d_Sn_init_12 : decode c_Sn_init 12 = .ok (.putfield 12, 3) := by decide +kernel
theorem d_Sn_init_15 : decode c_Sn_init 15 = .ok (.aload_n 0, 1) := by decide +kernel
theorem d_Sn_init_16 : decode c_Sn_init 16 = .ok (.new 16, 3) := by decide +kernel
theorem d_Sn_init_19 : decode c_Sn_init 19 = .ok (.dup, 1) := by decide +kernel
theorem d_Sn_init_20 : decode c_Sn_init 20 = .ok (.invokespecial 18, 3) := by decide +kernel
theorem d_Sn_init_23 : decode c_Sn_init 23 = .ok (.putfield 19, 3) := by decide +kernel
theorem d_Sn_init_26 : decode c_Sn_init 26 = .ok (.aload_n 0, 1) := by decide +kernel
theorem d_Sn_init_27 : decode c_Sn_init 27 = .ok (.new 23, 3) := by decide +kernel
theorem d_Sn_init_30 : decode c_Sn_init 30 = .ok (.dup, 1) := by decide +kernel
theorem d_Sn_init_31 : decode c_Sn_init 31 = .ok (.aload_n 0, 1) := by decide +kernel
theorem d_Sn_init_32 : decode c_Sn_init 32 = .ok (.getfield 19, 3) := by decide +kernel
theorem d_Sn_init_35 : decode c_Sn_init 35 = .ok (.aload_n 0, 1) := by decide +kernel
theorem d_Sn_init_36 : decode c_Sn_init 36 = .ok (.getfield 12, 3) := by decide +kernel
theorem d_Sn_init_39 : decode c_Sn_init 39 = .ok (.invokespecial 25, 3) := by decide +kernel
theorem d_Sn_init_42 : decode c_Sn_init 42 = .ok (.putfield 28, 3) := by decide +kernel
theorem d_Sn_init_45 : decode c_Sn_init 45 = .ok (.aload_n 0, 1) := by decide +kernel
theorem d_Sn_init_46 : decode c_Sn_init 46 = .ok (.new 32, 3) := by decide +kernel
theorem d_Sn_init_49 : decode c_Sn_init 49 = .ok (.dup, 1) := by decide +kernel
theorem d_Sn_init_50 : decode c_Sn_init 50 = .ok (.aload_n 0, 1) := by decide +kernel
theorem d_Sn_init_51 : decode c_Sn_init 51 = .ok (.getfield 19, 3) := by decide +kernel
theorem d_Sn_init_54 : decode c_Sn_init 54 = .ok (.aload_n 0, 1) := by decide +kernel
theorem d_Sn_init_55 : decode c_Sn_init 55 = .ok (.getfield 12, 3) := by decide +kernel
theorem d_Sn_init_58 : decode c_Sn_init 58 = .ok (.invokespecial 34, 3) := by decide +kernel
theorem d_Sn_init_61 : decode c_Sn_init 61 = .ok (.putfield 35, 3) := by decide +kernel
theorem d_Sn_init_64 : decode c_Sn_init 64 = .ok (.aload_n 0, 1) := by decide +kernel
theorem d_Sn_init_65 : decode c_Sn_init 65 = .ok (.bipush 13, 2) := by decide +kernel
theorem d_Sn_init_67 : decode c_Sn_init 67 = .ok (.newarray .int, 2) := by decide +kernel
theorem d_Sn_init_69 : decode c_Sn_init 69 = .ok (.putfield 41, 3) := by decide +kernel
theorem d_Sn_init_72 : decode c_Sn_init 72 = .ok (.return_, 1) := by decide +kernel
def f_Sn_init (a : Nat) : sn_M := n_O 1 1 fun v1 => n_n 1 v1 fun o2 => c_V (f_Ck_init o2) (p_R 11 0 (some a) v1 (n_O 5 8 fun v3 => n_n 5 v3 fun o4 => c_V (f_Pl_init o4) (p_R 11 1 (some a) v3 (n_O 8 10 fun v5 => g_R 11 1 (some a) fun v6 => g_R 11 0 (some a) fun v7 => n_n 8 v5 fun o8 => c_V (f_Tr_init o8 v6 v7) (p_R 11 2 (some a) v5 (n_O 7 5 fun v9 => g_R 11 1 (some a) fun v10 => g_R 11 0 (some a) fun v11 => n_n 7 v9 fun o12 => c_V (f_Sw_init o12 v10 v11) (p_R 11 3 (some a) v9 (n_A 21 (13 : Int32) fun v13 => p_R 11 4 (some a) v13 (r_V)))))))))
set_option maxHeartbeats 4000000 in
set_option maxRecDepth 100000 in
theorem mono_Sn_init (a : Nat) : sn_Mono (f_Sn_init a) := sn_Mono.nO (fun v1 => sn_Mono.nn (fun o2 => sn_Mono.cV (mono_Ck_init o2) (sn_Mono.pR (sn_Mono.nO (fun v3 => sn_Mono.nn (fun o4 => sn_Mono.cV (mono_Pl_init o4) (sn_Mono.pR (sn_Mono.nO (fun v5 => sn_Mono.gR (fun v6 => sn_Mono.gR (fun v7 => sn_Mono.nn (fun o8 => sn_Mono.cV (mono_Tr_init o8 v6 v7) (sn_Mono.pR (sn_Mono.nO (fun v9 => sn_Mono.gR (fun v10 => sn_Mono.gR (fun v11 => sn_Mono.nn (fun o12 => sn_Mono.cV (mono_Sw_init o12 v10 v11) (sn_Mono.pR (sn_Mono.nA (fun v13 => sn_Mono.pR (sn_Mono.rV))))))))))))))))))))))
set_option maxHeartbeats 4000000 in
set_option maxRecDepth 100000 in
theorem con_Sn_init (a : Nat) : sn_Con y_Sn_init c_Sn_init 1 none 3 65 [vA (some a)] (f_Sn_init a) := by
  refine sn_Con.of (by decide +kernel) (by show _ ≤ _; exact Nat.le_of_ble_eq_true rfl) (mono_Sn_init a) (fun X C => ?_)
  show sn_S X 0 [(0, vA (some a))] [] _
  replace C : sn_Cx X c_Sn_init "SignalNetwork" none "<init>" 1 3 65 := C
  unfold f_Sn_init
  refine r_aload_n (q := 1) (i := 0) (pl := 0) C d_Sn_init_0 rfl rfl rfl ?_
  refine r_objInit (q := 4) C d_Sn_init_1 rfl LO_Sn_3 W_oi W_oc (by decide) (by decide) a rfl ?_
  refine r_aload_n (q := 5) (i := 0) (pl := 0) C d_Sn_init_4 rfl rfl rfl ?_
  refine r_new (q := 8) C d_Sn_init_5 rfl CF0 C_Sn_9 In_Ck Ii_Ck (fun v1 => ?_)
  refine r_dup (q := 9) C d_Sn_init_8 rfl rfl ?_
  refine r_cnV (q := 12) (As := []) (st := [vA v1, vA (some a)]) (cy := 0) C d_Sn_init_9 rfl Y_Ck_init NL_Sn I_Ck_init rfl rfl rfl (Nat.le_of_ble_eq_true rfl) (Nat.le_of_ble_eq_true rfl) (Nat.le_of_ble_eq_true rfl) rfl (fun o2 => con_Ck_init o2) ?_
  refine r_pR (q := 15) C d_Sn_init_12 rfl F_Sn_12 rfl (Or.inl ⟨_, rfl⟩) (Or.inr ⟨rfl, _, _, rfl⟩) ?_
  refine r_aload_n (q := 16) (i := 0) (pl := 0) C d_Sn_init_15 rfl rfl rfl ?_
  refine r_new (q := 19) C d_Sn_init_16 rfl CF5 C_Sn_16 In_Pl Ii_Pl (fun v3 => ?_)
  refine r_dup (q := 20) C d_Sn_init_19 rfl rfl ?_
  refine r_ciV (q := 23) (As := []) (st := [vA v3, vA (some a)]) (cy := 4) C d_Sn_init_20 rfl Y_Pl_init L_Sn_18 I_Pl_init rfl rfl rfl (Nat.le_of_ble_eq_true rfl) (Nat.le_of_ble_eq_true rfl) (Nat.le_of_ble_eq_true rfl) rfl (fun o4 => con_Pl_init o4) ?_
  refine r_pR (q := 26) C d_Sn_init_23 rfl F_Sn_19 rfl (Or.inl ⟨_, rfl⟩) (Or.inr ⟨rfl, _, _, rfl⟩) ?_
  refine r_aload_n (q := 27) (i := 0) (pl := 0) C d_Sn_init_26 rfl rfl rfl ?_
  refine r_new (q := 30) C d_Sn_init_27 rfl CF8 C_Sn_23 In_Tr Ii_Tr (fun v5 => ?_)
  refine r_dup (q := 31) C d_Sn_init_30 rfl rfl ?_
  refine r_aload_n (q := 32) (i := 0) (pl := 0) C d_Sn_init_31 rfl rfl rfl ?_
  refine r_gR (q := 35) C d_Sn_init_32 rfl F_Sn_19 rfl (fun v6 => ?_)
  refine r_aload_n (q := 36) (i := 0) (pl := 0) C d_Sn_init_35 rfl rfl rfl ?_
  refine r_gR (q := 39) C d_Sn_init_36 rfl F_Sn_12 rfl (fun v7 => ?_)
  refine r_ciV (q := 42) (As := [vA v6, vA v7]) (st := [vA v5, vA (some a)]) (cy := 7) C d_Sn_init_39 rfl Y_Tr_init L_Sn_25 I_Tr_init rfl rfl rfl (Nat.le_of_ble_eq_true rfl) (Nat.le_of_ble_eq_true rfl) (Nat.le_of_ble_eq_true rfl) rfl (fun o8 => con_Tr_init o8 v6 v7) ?_
  refine r_pR (q := 45) C d_Sn_init_42 rfl F_Sn_28 rfl (Or.inl ⟨_, rfl⟩) (Or.inr ⟨rfl, _, _, rfl⟩) ?_
  refine r_aload_n (q := 46) (i := 0) (pl := 0) C d_Sn_init_45 rfl rfl rfl ?_
  refine r_new (q := 49) C d_Sn_init_46 rfl CF7 C_Sn_32 In_Sw Ii_Sw (fun v9 => ?_)
  refine r_dup (q := 50) C d_Sn_init_49 rfl rfl ?_
  refine r_aload_n (q := 51) (i := 0) (pl := 0) C d_Sn_init_50 rfl rfl rfl ?_
  refine r_gR (q := 54) C d_Sn_init_51 rfl F_Sn_19 rfl (fun v10 => ?_)
  refine r_aload_n (q := 55) (i := 0) (pl := 0) C d_Sn_init_54 rfl rfl rfl ?_
  refine r_gR (q := 58) C d_Sn_init_55 rfl F_Sn_12 rfl (fun v11 => ?_)
  refine r_ciV (q := 61) (As := [vA v10, vA v11]) (st := [vA v9, vA (some a)]) (cy := 6) C d_Sn_init_58 rfl Y_Sw_init L_Sn_34 I_Sw_init rfl rfl rfl (Nat.le_of_ble_eq_true rfl) (Nat.le_of_ble_eq_true rfl) (Nat.le_of_ble_eq_true rfl) rfl (fun o12 => con_Sw_init o12 v10 v11) ?_
  refine r_pR (q := 64) C d_Sn_init_61 rfl F_Sn_35 rfl (Or.inl ⟨_, rfl⟩) (Or.inr ⟨rfl, _, _, rfl⟩) ?_
  refine r_aload_n (q := 65) (i := 0) (pl := 0) C d_Sn_init_64 rfl rfl rfl ?_
  refine r_bipush (q := 67) (v := 13) C d_Sn_init_65 rfl (by decide) ?_
  refine r_newa (q := 69) (aty := .int) (kd := 21) (tyi := 0) (ty := .int) C (by decide) rfl (fun _ => rfl) (Or.inl ⟨rfl, (Or.inl rfl)⟩) AC_21 d_Sn_init_67 rfl (fun v13 => ?_)
  refine r_pR (q := 72) C d_Sn_init_69 rfl F_Sn_41 rfl (Or.inr ⟨_, rfl⟩) (Or.inr ⟨rfl, _, _, rfl⟩) ?_
  exact r_vret C d_Sn_init_72 rfl
theorem d_Sn_link_0 : decode c_Sn_link 0 = .ok (.aload_n 0, 1) := by decide +kernel
theorem d_Sn_link_1 : decode c_Sn_link 1 = .ok (.getfield 19, 3) := by decide +kernel
theorem d_Sn_link_4 : decode c_Sn_link 4 = .ok (.iload_n 1, 1) := by decide +kernel
theorem d_Sn_link_5 : decode c_Sn_link 5 = .ok (.iload_n 2, 1) := by decide +kernel
theorem d_Sn_link_6 : decode c_Sn_link 6 = .ok (.invokevirtual 45, 3) := by decide +kernel
theorem d_Sn_link_9 : decode c_Sn_link 9 = .ok (.istore_n 3, 1) := by decide +kernel
theorem d_Sn_link_10 : decode c_Sn_link 10 = .ok (.iload_n 3, 1) := by decide +kernel
theorem d_Sn_link_11 : decode c_Sn_link 11 = .ok (.iconst (-1), 1) := by decide +kernel
theorem d_Sn_link_12 : decode c_Sn_link 12 = .ok (.if_icmp .eq 20, 3) := by decide +kernel
theorem d_Sn_link_15 : decode c_Sn_link 15 = .ok (.aload_n 0, 1) := by decide +kernel
theorem d_Sn_link_16 : decode c_Sn_link 16 = .ok (.getfield 28, 3) := by decide +kernel
theorem d_Sn_link_19 : decode c_Sn_link 19 = .ok (.iload_n 3, 1) := by decide +kernel
theorem d_Sn_link_20 : decode c_Sn_link 20 = .ok (.invokevirtual 49, 3) := by decide +kernel
theorem d_Sn_link_23 : decode c_Sn_link 23 = .ok (.aload_n 0, 1) := by decide +kernel
theorem d_Sn_link_24 : decode c_Sn_link 24 = .ok (.getfield 35, 3) := by decide +kernel
theorem d_Sn_link_27 : decode c_Sn_link 27 = .ok (.iload_n 1, 1) := by decide +kernel
theorem d_Sn_link_28 : decode c_Sn_link 28 = .ok (.iload_n 2, 1) := by decide +kernel
theorem d_Sn_link_29 : decode c_Sn_link 29 = .ok (.invokevirtual 53, 3) := by decide +kernel
theorem d_Sn_link_32 : decode c_Sn_link 32 = .ok (.iload_n 3, 1) := by decide +kernel
theorem d_Sn_link_33 : decode c_Sn_link 33 = .ok (.ireturn, 1) := by decide +kernel
def f_Sn_link_32 (a : Nat) (x3 : Int32) : sn_M := r_I x3
set_option maxHeartbeats 4000000 in
set_option maxRecDepth 100000 in
theorem mono_Sn_link_32 (a : Nat) (x3 : Int32) : sn_Mono (f_Sn_link_32 a x3) := sn_Mono.rI
set_option maxHeartbeats 4000000 in
set_option maxRecDepth 100000 in
theorem s_Sn_link_32 {X : sn_X} (C : sn_Cx X c_Sn_link "SignalNetwork" (some .int) "link" 4 6 134) (a : Nat) (x3 : Int32) : sn_S X 32 [(0, vA (some a)), (3, vI x3)] [] (f_Sn_link_32 a x3) := by
  unfold f_Sn_link_32
  refine r_iload_n (q := 33) (i := 3) (pl := 1) C d_Sn_link_32 rfl rfl rfl ?_
  exact r_iret C d_Sn_link_33 rfl
def f_Sn_link (a : Nat) (x1 : Int32) (x2 : Int32) : sn_M := g_R 11 1 (some a) fun v1 => n_n 5 v1 fun a2 => c_I (f_Pl_addLink a2 x1 x2) fun v3 => (if v3 = (-1 : Int32) then f_Sn_link_32 a v3 else g_R 11 2 (some a) fun v4 => n_n 8 v4 fun a5 => c_V (f_Tr_addEnds a5 v3) (g_R 11 3 (some a) fun v7 => n_n 7 v7 fun a8 => c_V (f_Sw_addCircuits a8 x1 x2) (f_Sn_link_32 a v3)))
set_option maxHeartbeats 4000000 in
set_option maxRecDepth 100000 in
theorem mono_Sn_link (a : Nat) (x1 : Int32) (x2 : Int32) : sn_Mono (f_Sn_link a x1 x2) := sn_Mono.gR (fun v1 => sn_Mono.nn (fun a2 => sn_Mono.cI (mono_Pl_addLink a2 x1 x2) (fun v3 => sn_Mono.ite (mono_Sn_link_32 a v3) (sn_Mono.gR (fun v4 => sn_Mono.nn (fun a5 => sn_Mono.cV (mono_Tr_addEnds a5 v3) (sn_Mono.gR (fun v7 => sn_Mono.nn (fun a8 => sn_Mono.cV (mono_Sw_addCircuits a8 x1 x2) (mono_Sn_link_32 a v3))))))))))
set_option maxHeartbeats 4000000 in
set_option maxRecDepth 100000 in
theorem con_Sn_link (a : Nat) (x1 : Int32) (x2 : Int32) : sn_Con y_Sn_link c_Sn_link 4 (some .int) 6 134 [vA (some a), vI x1, vI x2] (f_Sn_link a x1 x2) := by
  refine sn_Con.of (by decide +kernel) (by show _ ≤ _; exact Nat.le_of_ble_eq_true rfl) (mono_Sn_link a x1 x2) (fun X C => ?_)
  show sn_S X 0 [(0, vA (some a)), (1, vI x1), (2, vI x2)] [] _
  replace C : sn_Cx X c_Sn_link "SignalNetwork" (some .int) "link" 4 6 134 := C
  unfold f_Sn_link
  refine r_aload_n (q := 1) (i := 0) (pl := 0) C d_Sn_link_0 rfl rfl rfl ?_
  refine r_gR (q := 4) C d_Sn_link_1 rfl F_Sn_19 rfl (fun v1 => ?_)
  refine r_iload_n (q := 5) (i := 1) (pl := 1) C d_Sn_link_4 rfl rfl rfl ?_
  refine r_iload_n (q := 6) (i := 2) (pl := 2) C d_Sn_link_5 rfl rfl rfl ?_
  refine r_cvI (q := 9) (As := [vI x1, vI x2]) (st := []) (cy := 4) C d_Sn_link_6 rfl Y_Pl_addLink L_Sn_45 I_Pl_addLink Se_Pl_addLink rfl (by decide) rfl (Nat.le_of_ble_eq_true rfl) (Nat.le_of_ble_eq_true rfl) (Nat.le_of_ble_eq_true rfl) rfl (fun a2 => con_Pl_addLink a2 x1 x2) (fun v3 => ?_)
  refine r_istore_n (q := 10) (i := 3) (lv' := [(3, vI v3), (0, vA (some a)), (1, vI x1), (2, vI x2)]) C d_Sn_link_9 rfl rfl (by decide) rfl ?_
  refine r_iload_n (q := 11) (i := 3) (pl := 0) C d_Sn_link_10 rfl rfl rfl ?_
  refine r_iconst (q := 12) (v := -1) C d_Sn_link_11 rfl (by decide) ?_
  refine r_icmp_eq (tgt := 32) (q := 15) C d_Sn_link_12 (by decide) rfl ?_ ?_
  · refine r_sub (lv' := [(0, vA (some a)), (3, vI v3)]) [1, 0] rfl ?_
    exact s_Sn_link_32 C a v3
  · refine r_aload_n (q := 16) (i := 0) (pl := 1) C d_Sn_link_15 rfl rfl rfl ?_
    refine r_gR (q := 19) C d_Sn_link_16 rfl F_Sn_28 rfl (fun v4 => ?_)
    refine r_iload_n (q := 20) (i := 3) (pl := 0) C d_Sn_link_19 rfl rfl rfl ?_
    refine r_cvV (q := 23) (As := [vI v3]) (st := []) (cy := 7) C d_Sn_link_20 rfl Y_Tr_addEnds L_Sn_49 I_Tr_addEnds Se_Tr_addEnds rfl (by decide) rfl (Nat.le_of_ble_eq_true rfl) (Nat.le_of_ble_eq_true rfl) (Nat.le_of_ble_eq_true rfl) rfl (fun a5 => con_Tr_addEnds a5 v3) ?_
    refine r_aload_n (q := 24) (i := 0) (pl := 1) C d_Sn_link_23 rfl rfl rfl ?_
    refine r_gR (q := 27) C d_Sn_link_24 rfl F_Sn_35 rfl (fun v7 => ?_)
    refine r_iload_n (q := 28) (i := 1) (pl := 2) C d_Sn_link_27 rfl rfl rfl ?_
    refine r_iload_n (q := 29) (i := 2) (pl := 3) C d_Sn_link_28 rfl rfl rfl ?_
    refine r_cvV (q := 32) (As := [vI x1, vI x2]) (st := []) (cy := 6) C d_Sn_link_29 rfl Y_Sw_addCircuits L_Sn_53 I_Sw_addCircuits Se_Sw_addCircuits rfl (by decide) rfl (Nat.le_of_ble_eq_true rfl) (Nat.le_of_ble_eq_true rfl) (Nat.le_of_ble_eq_true rfl) rfl (fun a8 => con_Sw_addCircuits a8 x1 x2) ?_
    refine r_sub (lv' := [(0, vA (some a)), (3, vI v3)]) [1, 0] rfl ?_
    exact s_Sn_link_32 C a v3
theorem d_Sn_route_0 : decode c_Sn_route 0 = .ok (.aload_n 0, 1) := by decide +kernel
theorem d_Sn_route_1 : decode c_Sn_route 1 = .ok (.getfield 19, 3) := by decide +kernel
theorem d_Sn_route_4 : decode c_Sn_route 4 = .ok (.iload_n 1, 1) := by decide +kernel
theorem d_Sn_route_5 : decode c_Sn_route 5 = .ok (.iload_n 2, 1) := by decide +kernel
theorem d_Sn_route_6 : decode c_Sn_route 6 = .ok (.iload_n 3, 1) := by decide +kernel
theorem d_Sn_route_7 : decode c_Sn_route 7 = .ok (.iload 4, 2) := by decide +kernel
theorem d_Sn_route_9 : decode c_Sn_route 9 = .ok (.invokevirtual 57, 3) := by decide +kernel
theorem d_Sn_route_12 : decode c_Sn_route 12 = .ok (.ifCond .ne 5, 3) := by decide +kernel
theorem d_Sn_route_15 : decode c_Sn_route 15 = .ok (.iconst 0, 1) := by decide +kernel
theorem d_Sn_route_16 : decode c_Sn_route 16 = .ok (.ireturn, 1) := by decide +kernel
theorem d_Sn_route_17 : decode c_Sn_route 17 = .ok (.aload_n 0, 1) := by decide +kernel
theorem d_Sn_route_18 : decode c_Sn_route 18 = .ok (.getfield 28, 3) := by decide +kernel
theorem d_Sn_route_21 : decode c_Sn_route 21 = .ok (.iload_n 1, 1) := by decide +kernel
theorem d_Sn_route_22 : decode c_Sn_route 22 = .ok (.invokevirtual 61, 3) := by decide +kernel
theorem d_Sn_route_25 : decode c_Sn_route 25 = .ok (.iconst 1, 1) := by decide +kernel
theorem d_Sn_route_26 : decode c_Sn_route 26 = .ok (.ireturn, 1) := by decide +kernel
def f_Sn_route (a : Nat) (x1 : Int32) (x2 : Int32) (x3 : Int32) (x4 : Int32) : sn_M := g_R 11 1 (some a) fun v1 => n_n 5 v1 fun a2 => c_I (f_Pl_tell a2 x1 x2 x3 x4) fun v3 => (if ¬ v3 = 0 then g_R 11 2 (some a) fun v4 => n_n 8 v4 fun a5 => c_V (f_Tr_look a5 x1) (r_Z (1 : Int32)) else r_Z (0 : Int32))
set_option maxHeartbeats 4000000 in
set_option maxRecDepth 100000 in
theorem mono_Sn_route (a : Nat) (x1 : Int32) (x2 : Int32) (x3 : Int32) (x4 : Int32) : sn_Mono (f_Sn_route a x1 x2 x3 x4) := sn_Mono.gR (fun v1 => sn_Mono.nn (fun a2 => sn_Mono.cI (mono_Pl_tell a2 x1 x2 x3 x4) (fun v3 => sn_Mono.ite (sn_Mono.gR (fun v4 => sn_Mono.nn (fun a5 => sn_Mono.cV (mono_Tr_look a5 x1) (sn_Mono.rZ)))) (sn_Mono.rZ))))
set_option maxHeartbeats 4000000 in
set_option maxRecDepth 100000 in
theorem con_Sn_route (a : Nat) (x1 : Int32) (x2 : Int32) (x3 : Int32) (x4 : Int32) : sn_Con y_Sn_route c_Sn_route 5 (some .boolean) 4 86 [vA (some a), vI x1, vI x2, vI x3, vI x4] (f_Sn_route a x1 x2 x3 x4) := by
  refine sn_Con.of (by decide +kernel) (by show _ ≤ _; exact Nat.le_of_ble_eq_true rfl) (mono_Sn_route a x1 x2 x3 x4) (fun X C => ?_)
  show sn_S X 0 [(0, vA (some a)), (1, vI x1), (2, vI x2), (3, vI x3), (4, vI x4)] [] _
  replace C : sn_Cx X c_Sn_route "SignalNetwork" (some .boolean) "route" 5 4 86 := C
  unfold f_Sn_route
  refine r_aload_n (q := 1) (i := 0) (pl := 0) C d_Sn_route_0 rfl rfl rfl ?_
  refine r_gR (q := 4) C d_Sn_route_1 rfl F_Sn_19 rfl (fun v1 => ?_)
  refine r_iload_n (q := 5) (i := 1) (pl := 1) C d_Sn_route_4 rfl rfl rfl ?_
  refine r_iload_n (q := 6) (i := 2) (pl := 2) C d_Sn_route_5 rfl rfl rfl ?_
  refine r_iload_n (q := 7) (i := 3) (pl := 3) C d_Sn_route_6 rfl rfl rfl ?_
  refine r_iload (q := 9) (i := 4) (pl := 4) C d_Sn_route_7 rfl rfl ?_
  refine r_cvI (q := 12) (As := [vI x1, vI x2, vI x3, vI x4]) (st := []) (cy := 4) C d_Sn_route_9 rfl Y_Pl_tell L_Sn_57 I_Pl_tell Se_Pl_tell rfl (by decide) rfl (Nat.le_of_ble_eq_true rfl) (Nat.le_of_ble_eq_true rfl) (Nat.le_of_ble_eq_true rfl) rfl (fun a2 => con_Pl_tell a2 x1 x2 x3 x4) (fun v3 => ?_)
  refine r_if_ne (tgt := 17) (q := 15) C d_Sn_route_12 (by decide) rfl ?_ ?_
  · refine r_aload_n (q := 18) (i := 0) (pl := 0) C d_Sn_route_17 rfl rfl rfl ?_
    refine r_gR (q := 21) C d_Sn_route_18 rfl F_Sn_28 rfl (fun v4 => ?_)
    refine r_iload_n (q := 22) (i := 1) (pl := 1) C d_Sn_route_21 rfl rfl rfl ?_
    refine r_cvV (q := 25) (As := [vI x1]) (st := []) (cy := 7) C d_Sn_route_22 rfl Y_Tr_look L_Sn_61 I_Tr_look Se_Tr_look rfl (by decide) rfl (Nat.le_of_ble_eq_true rfl) (Nat.le_of_ble_eq_true rfl) (Nat.le_of_ble_eq_true rfl) rfl (fun a5 => con_Tr_look a5 x1) ?_
    refine r_iconst (q := 26) (v := 1) C d_Sn_route_25 rfl (by decide) ?_
    exact r_zret C d_Sn_route_26 rfl
  · refine r_iconst (q := 16) (v := 0) C d_Sn_route_15 rfl (by decide) ?_
    exact r_zret C d_Sn_route_16 rfl
theorem d_Sn_activate_0 : decode c_Sn_activate 0 = .ok (.aload_n 0, 1) := by decide +kernel
theorem d_Sn_activate_1 : decode c_Sn_activate 1 = .ok (.getfield 19, 3) := by decide +kernel
theorem d_Sn_activate_4 : decode c_Sn_activate 4 = .ok (.iload_n 1, 1) := by decide +kernel
theorem d_Sn_activate_5 : decode c_Sn_activate 5 = .ok (.invokevirtual 64, 3) := by decide +kernel
theorem d_Sn_activate_8 : decode c_Sn_activate 8 = .ok (.ifCond .eq 16, 3) := by decide +kernel
theorem d_Sn_activate_11 : decode c_Sn_activate 11 = .ok (.aload_n 0, 1) := by decide +kernel
theorem d_Sn_activate_12 : decode c_Sn_activate 12 = .ok (.getfield 19, 3) := by decide +kernel
theorem d_Sn_activate_15 : decode c_Sn_activate 15 = .ok (.getfield 68, 3) := by decide +kernel
theorem d_Sn_activate_18 : decode c_Sn_activate 18 = .ok (.iload_n 1, 1) := by decide +kernel
theorem d_Sn_activate_19 : decode c_Sn_activate 19 = .ok (.baload, 1) := by decide +kernel
theorem d_Sn_activate_20 : decode c_Sn_activate 20 = .ok (.iload_n 2, 1) := by decide +kernel
theorem d_Sn_activate_21 : decode c_Sn_activate 21 = .ok (.if_icmp .ne 5, 3) := by decide +kernel
theorem d_Sn_activate_24 : decode c_Sn_activate 24 = .ok (.iconst 0, 1) := by decide +kernel
theorem d_Sn_activate_25 : decode c_Sn_activate 25 = .ok (.ireturn, 1) := by decide +kernel
theorem d_Sn_activate_26 : decode c_Sn_activate 26 = .ok (.aload_n 0, 1) := by decide +kernel
theorem d_Sn_activate_27 : decode c_Sn_activate 27 = .ok (.getfield 19, 3) := by decide +kernel
theorem d_Sn_activate_30 : decode c_Sn_activate 30 = .ok (.getfield 68, 3) := by decide +kernel
theorem d_Sn_activate_33 : decode c_Sn_activate 33 = .ok (.iload_n 1, 1) := by decide +kernel
theorem d_Sn_activate_34 : decode c_Sn_activate 34 = .ok (.iload_n 2, 1) := by decide +kernel
theorem d_Sn_activate_35 : decode c_Sn_activate 35 = .ok (.bastore, 1) := by decide +kernel
theorem d_Sn_activate_36 : decode c_Sn_activate 36 = .ok (.aload_n 0, 1) := by decide +kernel
theorem d_Sn_activate_37 : decode c_Sn_activate 37 = .ok (.getfield 28, 3) := by decide +kernel
theorem d_Sn_activate_40 : decode c_Sn_activate 40 = .ok (.iload_n 1, 1) := by decide +kernel
theorem d_Sn_activate_41 : decode c_Sn_activate 41 = .ok (.iload_n 2, 1) := by decide +kernel
theorem d_Sn_activate_42 : decode c_Sn_activate 42 = .ok (.invokevirtual 72, 3) := by decide +kernel
theorem d_Sn_activate_45 : decode c_Sn_activate 45 = .ok (.iconst 1, 1) := by decide +kernel
theorem d_Sn_activate_46 : decode c_Sn_activate 46 = .ok (.ireturn, 1) := by decide +kernel
def f_Sn_activate_24 (a : Nat) : sn_M := r_Z (0 : Int32)
set_option maxHeartbeats 4000000 in
set_option maxRecDepth 100000 in
theorem mono_Sn_activate_24 (a : Nat) : sn_Mono (f_Sn_activate_24 a) := sn_Mono.rZ
set_option maxHeartbeats 4000000 in
set_option maxRecDepth 100000 in
theorem s_Sn_activate_24 {X : sn_X} (C : sn_Cx X c_Sn_activate "SignalNetwork" (some .boolean) "activate" 3 5 125) (a : Nat) : sn_S X 24 [(0, vA (some a))] [] (f_Sn_activate_24 a) := by
  unfold f_Sn_activate_24
  refine r_iconst (q := 25) (v := 0) C d_Sn_activate_24 rfl (by decide) ?_
  exact r_zret C d_Sn_activate_25 rfl
def f_Sn_activate (a : Nat) (x1 : Int32) (x2 : Int32) : sn_M := g_R 11 1 (some a) fun v1 => n_n 5 v1 fun a2 => c_I (f_Pl_isLink a2 x1) fun v3 => (if v3 = 0 then f_Sn_activate_24 a else g_R 11 1 (some a) fun v4 => g_R 5 3 v4 fun v5 => a_I 23 v5 x1 fun v6 => (if ¬ v6 = x2 then g_R 11 1 (some a) fun v7 => g_R 5 3 v7 fun v8 => b_Z 23 v8 x1 x2 (g_R 11 2 (some a) fun v9 => n_n 8 v9 fun a10 => c_V (f_Tr_switchEnds a10 x1 x2) (r_Z (1 : Int32))) else f_Sn_activate_24 a))
set_option maxHeartbeats 4000000 in
set_option maxRecDepth 100000 in
theorem mono_Sn_activate (a : Nat) (x1 : Int32) (x2 : Int32) : sn_Mono (f_Sn_activate a x1 x2) := sn_Mono.gR (fun v1 => sn_Mono.nn (fun a2 => sn_Mono.cI (mono_Pl_isLink a2 x1) (fun v3 => sn_Mono.ite (mono_Sn_activate_24 a) (sn_Mono.gR (fun v4 => sn_Mono.gR (fun v5 => sn_Mono.aI (fun v6 => sn_Mono.ite (sn_Mono.gR (fun v7 => sn_Mono.gR (fun v8 => sn_Mono.bZ (sn_Mono.gR (fun v9 => sn_Mono.nn (fun a10 => sn_Mono.cV (mono_Tr_switchEnds a10 x1 x2) (sn_Mono.rZ))))))) (mono_Sn_activate_24 a))))))))
set_option maxHeartbeats 4000000 in
set_option maxRecDepth 100000 in
theorem con_Sn_activate (a : Nat) (x1 : Int32) (x2 : Int32) : sn_Con y_Sn_activate c_Sn_activate 3 (some .boolean) 5 125 [vA (some a), vI x1, vI x2] (f_Sn_activate a x1 x2) := by
  refine sn_Con.of (by decide +kernel) (by show _ ≤ _; exact Nat.le_of_ble_eq_true rfl) (mono_Sn_activate a x1 x2) (fun X C => ?_)
  show sn_S X 0 [(0, vA (some a)), (1, vI x1), (2, vI x2)] [] _
  replace C : sn_Cx X c_Sn_activate "SignalNetwork" (some .boolean) "activate" 3 5 125 := C
  unfold f_Sn_activate
  refine r_aload_n (q := 1) (i := 0) (pl := 0) C d_Sn_activate_0 rfl rfl rfl ?_
  refine r_gR (q := 4) C d_Sn_activate_1 rfl F_Sn_19 rfl (fun v1 => ?_)
  refine r_iload_n (q := 5) (i := 1) (pl := 1) C d_Sn_activate_4 rfl rfl rfl ?_
  refine r_cvI (q := 8) (As := [vI x1]) (st := []) (cy := 4) C d_Sn_activate_5 rfl Y_Pl_isLink L_Sn_64 I_Pl_isLink Se_Pl_isLink rfl (by decide) rfl (Nat.le_of_ble_eq_true rfl) (Nat.le_of_ble_eq_true rfl) (Nat.le_of_ble_eq_true rfl) rfl (fun a2 => con_Pl_isLink a2 x1) (fun v3 => ?_)
  refine r_if_eq (tgt := 24) (q := 11) C d_Sn_activate_8 (by decide) rfl ?_ ?_
  · refine r_sub (lv' := [(0, vA (some a))]) [0] rfl ?_
    exact s_Sn_activate_24 C a
  · refine r_aload_n (q := 12) (i := 0) (pl := 0) C d_Sn_activate_11 rfl rfl rfl ?_
    refine r_gR (q := 15) C d_Sn_activate_12 rfl F_Sn_19 rfl (fun v4 => ?_)
    refine r_gR (q := 18) C d_Sn_activate_15 rfl F_Sn_68 rfl (fun v5 => ?_)
    refine r_iload_n (q := 19) (i := 1) (pl := 1) C d_Sn_activate_18 rfl rfl rfl ?_
    refine r_aZ (q := 20) C (Or.inl rfl) d_Sn_activate_19 rfl (fun v6 => ?_)
    refine r_iload_n (q := 21) (i := 2) (pl := 2) C d_Sn_activate_20 rfl rfl rfl ?_
    refine r_icmp_ne (tgt := 26) (q := 24) C d_Sn_activate_21 (by decide) rfl ?_ ?_
    · refine r_aload_n (q := 27) (i := 0) (pl := 0) C d_Sn_activate_26 rfl rfl rfl ?_
      refine r_gR (q := 30) C d_Sn_activate_27 rfl F_Sn_19 rfl (fun v7 => ?_)
      refine r_gR (q := 33) C d_Sn_activate_30 rfl F_Sn_68 rfl (fun v8 => ?_)
      refine r_iload_n (q := 34) (i := 1) (pl := 1) C d_Sn_activate_33 rfl rfl rfl ?_
      refine r_iload_n (q := 35) (i := 2) (pl := 2) C d_Sn_activate_34 rfl rfl rfl ?_
      refine r_bZ (q := 36) C (Or.inl rfl) d_Sn_activate_35 rfl ?_
      refine r_aload_n (q := 37) (i := 0) (pl := 0) C d_Sn_activate_36 rfl rfl rfl ?_
      refine r_gR (q := 40) C d_Sn_activate_37 rfl F_Sn_28 rfl (fun v9 => ?_)
      refine r_iload_n (q := 41) (i := 1) (pl := 1) C d_Sn_activate_40 rfl rfl rfl ?_
      refine r_iload_n (q := 42) (i := 2) (pl := 2) C d_Sn_activate_41 rfl rfl rfl ?_
      refine r_cvV (q := 45) (As := [vI x1, vI x2]) (st := []) (cy := 7) C d_Sn_activate_42 rfl Y_Tr_switchEnds L_Sn_72 I_Tr_switchEnds Se_Tr_switchEnds rfl (by decide) rfl (Nat.le_of_ble_eq_true rfl) (Nat.le_of_ble_eq_true rfl) (Nat.le_of_ble_eq_true rfl) rfl (fun a10 => con_Tr_switchEnds a10 x1 x2) ?_
      refine r_iconst (q := 46) (v := 1) C d_Sn_activate_45 rfl (by decide) ?_
      exact r_zret C d_Sn_activate_46 rfl
    · refine r_sub (lv' := [(0, vA (some a))]) [0] rfl ?_
      exact s_Sn_activate_24 C a
theorem d_Sn_cut_0 : decode c_Sn_cut 0 = .ok (.aload_n 0, 1) := by decide +kernel
theorem d_Sn_cut_1 : decode c_Sn_cut 1 = .ok (.getfield 19, 3) := by decide +kernel
theorem d_Sn_cut_4 : decode c_Sn_cut 4 = .ok (.iload_n 1, 1) := by decide +kernel
theorem d_Sn_cut_5 : decode c_Sn_cut 5 = .ok (.invokevirtual 64, 3) := by decide +kernel
theorem d_Sn_cut_8 : decode c_Sn_cut 8 = .ok (.ifCond .ne 5, 3) := by decide +kernel
theorem d_Sn_cut_11 : decode c_Sn_cut 11 = .ok (.iconst 0, 1) := by decide +kernel
theorem d_Sn_cut_12 : decode c_Sn_cut 12 = .ok (.ireturn, 1) := by decide +kernel
theorem d_Sn_cut_13 : decode c_Sn_cut 13 = .ok (.aload_n 0, 1) := by decide +kernel
theorem d_Sn_cut_14 : decode c_Sn_cut 14 = .ok (.getfield 19, 3) := by decide +kernel
theorem d_Sn_cut_17 : decode c_Sn_cut 17 = .ok (.getfield 76, 3) := by decide +kernel
theorem d_Sn_cut_20 : decode c_Sn_cut 20 = .ok (.iload_n 1, 1) := by decide +kernel
theorem d_Sn_cut_21 : decode c_Sn_cut 21 = .ok (.iload_n 2, 1) := by decide +kernel
theorem d_Sn_cut_22 : decode c_Sn_cut 22 = .ok (.bastore, 1) := by decide +kernel
theorem d_Sn_cut_23 : decode c_Sn_cut 23 = .ok (.iconst 1, 1) := by decide +kernel
theorem d_Sn_cut_24 : decode c_Sn_cut 24 = .ok (.ireturn, 1) := by decide +kernel
def f_Sn_cut (a : Nat) (x1 : Int32) (x2 : Int32) : sn_M := g_R 11 1 (some a) fun v1 => n_n 5 v1 fun a2 => c_I (f_Pl_isLink a2 x1) fun v3 => (if ¬ v3 = 0 then g_R 11 1 (some a) fun v4 => g_R 5 4 v4 fun v5 => b_Z 23 v5 x1 x2 (r_Z (1 : Int32)) else r_Z (0 : Int32))
set_option maxHeartbeats 4000000 in
set_option maxRecDepth 100000 in
theorem mono_Sn_cut (a : Nat) (x1 : Int32) (x2 : Int32) : sn_Mono (f_Sn_cut a x1 x2) := sn_Mono.gR (fun v1 => sn_Mono.nn (fun a2 => sn_Mono.cI (mono_Pl_isLink a2 x1) (fun v3 => sn_Mono.ite (sn_Mono.gR (fun v4 => sn_Mono.gR (fun v5 => sn_Mono.bZ (sn_Mono.rZ)))) (sn_Mono.rZ))))
set_option maxHeartbeats 4000000 in
set_option maxRecDepth 100000 in
theorem con_Sn_cut (a : Nat) (x1 : Int32) (x2 : Int32) : sn_Con y_Sn_cut c_Sn_cut 3 (some .boolean) 1 21 [vA (some a), vI x1, vI x2] (f_Sn_cut a x1 x2) := by
  refine sn_Con.of (by decide +kernel) (by show _ ≤ _; exact Nat.le_of_ble_eq_true rfl) (mono_Sn_cut a x1 x2) (fun X C => ?_)
  show sn_S X 0 [(0, vA (some a)), (1, vI x1), (2, vI x2)] [] _
  replace C : sn_Cx X c_Sn_cut "SignalNetwork" (some .boolean) "cut" 3 1 21 := C
  unfold f_Sn_cut
  refine r_aload_n (q := 1) (i := 0) (pl := 0) C d_Sn_cut_0 rfl rfl rfl ?_
  refine r_gR (q := 4) C d_Sn_cut_1 rfl F_Sn_19 rfl (fun v1 => ?_)
  refine r_iload_n (q := 5) (i := 1) (pl := 1) C d_Sn_cut_4 rfl rfl rfl ?_
  refine r_cvI (q := 8) (As := [vI x1]) (st := []) (cy := 4) C d_Sn_cut_5 rfl Y_Pl_isLink L_Sn_64 I_Pl_isLink Se_Pl_isLink rfl (by decide) rfl (Nat.le_of_ble_eq_true rfl) (Nat.le_of_ble_eq_true rfl) (Nat.le_of_ble_eq_true rfl) rfl (fun a2 => con_Pl_isLink a2 x1) (fun v3 => ?_)
  refine r_if_ne (tgt := 13) (q := 11) C d_Sn_cut_8 (by decide) rfl ?_ ?_
  · refine r_aload_n (q := 14) (i := 0) (pl := 0) C d_Sn_cut_13 rfl rfl rfl ?_
    refine r_gR (q := 17) C d_Sn_cut_14 rfl F_Sn_19 rfl (fun v4 => ?_)
    refine r_gR (q := 20) C d_Sn_cut_17 rfl F_Sn_76 rfl (fun v5 => ?_)
    refine r_iload_n (q := 21) (i := 1) (pl := 1) C d_Sn_cut_20 rfl rfl rfl ?_
    refine r_iload_n (q := 22) (i := 2) (pl := 2) C d_Sn_cut_21 rfl rfl rfl ?_
    refine r_bZ (q := 23) C (Or.inl rfl) d_Sn_cut_22 rfl ?_
    refine r_iconst (q := 24) (v := 1) C d_Sn_cut_23 rfl (by decide) ?_
    exact r_zret C d_Sn_cut_24 rfl
  · refine r_iconst (q := 12) (v := 0) C d_Sn_cut_11 rfl (by decide) ?_
    exact r_zret C d_Sn_cut_12 rfl
theorem d_Sn_damage_0 : decode c_Sn_damage 0 = .ok (.aload_n 0, 1) := by decide +kernel
theorem d_Sn_damage_1 : decode c_Sn_damage 1 = .ok (.getfield 28, 3) := by decide +kernel
theorem d_Sn_damage_4 : decode c_Sn_damage 4 = .ok (.iload_n 1, 1) := by decide +kernel
theorem d_Sn_damage_5 : decode c_Sn_damage 5 = .ok (.iload_n 2, 1) := by decide +kernel
theorem d_Sn_damage_6 : decode c_Sn_damage 6 = .ok (.invokevirtual 79, 3) := by decide +kernel
theorem d_Sn_damage_9 : decode c_Sn_damage 9 = .ok (.astore 4, 2) := by decide +kernel
theorem d_Sn_damage_11 : decode c_Sn_damage 11 = .ok (.aload 4, 2) := by decide +kernel
theorem d_Sn_damage_13 : decode c_Sn_damage 13 = .ok (.ifnull 13, 3) := by decide +kernel
theorem d_Sn_damage_16 : decode c_Sn_damage 16 = .ok (.iload_n 3, 1) := by decide +kernel
theorem d_Sn_damage_17 : decode c_Sn_damage 17 = .ok (.ifCond .lt 9, 3) := by decide +kernel
theorem d_Sn_damage_20 : decode c_Sn_damage 20 = .ok (.iload_n 3, 1) := by decide +kernel
theorem d_Sn_damage_21 : decode c_Sn_damage 21 = .ok (.bipush 100, 2) := by decide +kernel
theorem d_Sn_damage_23 : decode c_Sn_damage 23 = .ok (.if_icmp .le 5, 3) := by decide +kernel
theorem d_Sn_damage_26 : decode c_Sn_damage 26 = .ok (.iconst 0, 1) := by decide +kernel
theorem d_Sn_damage_27 : decode c_Sn_damage 27 = .ok (.ireturn, 1) := by decide +kernel
theorem d_Sn_damage_28 : decode c_Sn_damage 28 = .ok (.aload 4, 2) := by decide +kernel
theorem d_Sn_damage_30 : decode c_Sn_damage 30 = .ok (.iload_n 3, 1) := by decide +kernel
theorem d_Sn_damage_31 : decode c_Sn_damage 31 = .ok (.putfield 83, 3) := by decide +kernel
theorem d_Sn_damage_34 : decode c_Sn_damage 34 = .ok (.iconst 1, 1) := by decide +kernel
theorem d_Sn_damage_35 : decode c_Sn_damage 35 = .ok (.ireturn, 1) := by decide +kernel
def f_Sn_damage_26 (a : Nat) : sn_M := r_Z (0 : Int32)
set_option maxHeartbeats 4000000 in
set_option maxRecDepth 100000 in
theorem mono_Sn_damage_26 (a : Nat) : sn_Mono (f_Sn_damage_26 a) := sn_Mono.rZ
set_option maxHeartbeats 4000000 in
set_option maxRecDepth 100000 in
theorem s_Sn_damage_26 {X : sn_X} (C : sn_Cx X c_Sn_damage "SignalNetwork" (some .boolean) "damage" 5 2 43) (a : Nat) : sn_S X 26 [(0, vA (some a))] [] (f_Sn_damage_26 a) := by
  unfold f_Sn_damage_26
  refine r_iconst (q := 27) (v := 0) C d_Sn_damage_26 rfl (by decide) ?_
  exact r_zret C d_Sn_damage_27 rfl
def f_Sn_damage (a : Nat) (x1 : Int32) (x2 : Int32) (x3 : Int32) : sn_M := g_R 11 2 (some a) fun v1 => n_n 8 v1 fun a2 => c_R (f_Tr_endOf a2 x1 x2) fun v3 => (if v3 = none then f_Sn_damage_26 a else (if x3 < 0 then f_Sn_damage_26 a else (if x3 ≤ (100 : Int32) then p_I 2 11 v3 x3 (r_Z (1 : Int32)) else f_Sn_damage_26 a)))
set_option maxHeartbeats 4000000 in
set_option maxRecDepth 100000 in
theorem mono_Sn_damage (a : Nat) (x1 : Int32) (x2 : Int32) (x3 : Int32) : sn_Mono (f_Sn_damage a x1 x2 x3) := sn_Mono.gR (fun v1 => sn_Mono.nn (fun a2 => sn_Mono.cR (mono_Tr_endOf a2 x1 x2) (fun v3 => sn_Mono.ite (mono_Sn_damage_26 a) (sn_Mono.ite (mono_Sn_damage_26 a) (sn_Mono.ite (sn_Mono.pI (sn_Mono.rZ)) (mono_Sn_damage_26 a))))))
set_option maxHeartbeats 4000000 in
set_option maxRecDepth 100000 in
theorem con_Sn_damage (a : Nat) (x1 : Int32) (x2 : Int32) (x3 : Int32) : sn_Con y_Sn_damage c_Sn_damage 5 (some .boolean) 2 43 [vA (some a), vI x1, vI x2, vI x3] (f_Sn_damage a x1 x2 x3) := by
  refine sn_Con.of (by decide +kernel) (by show _ ≤ _; exact Nat.le_of_ble_eq_true rfl) (mono_Sn_damage a x1 x2 x3) (fun X C => ?_)
  show sn_S X 0 [(0, vA (some a)), (1, vI x1), (2, vI x2), (3, vI x3)] [] _
  replace C : sn_Cx X c_Sn_damage "SignalNetwork" (some .boolean) "damage" 5 2 43 := C
  unfold f_Sn_damage
  refine r_aload_n (q := 1) (i := 0) (pl := 0) C d_Sn_damage_0 rfl rfl rfl ?_
  refine r_gR (q := 4) C d_Sn_damage_1 rfl F_Sn_28 rfl (fun v1 => ?_)
  refine r_iload_n (q := 5) (i := 1) (pl := 1) C d_Sn_damage_4 rfl rfl rfl ?_
  refine r_iload_n (q := 6) (i := 2) (pl := 2) C d_Sn_damage_5 rfl rfl rfl ?_
  refine r_cvR (q := 9) (As := [vI x1, vI x2]) (st := []) (cy := 7) C d_Sn_damage_6 rfl Y_Tr_endOf L_Sn_79 I_Tr_endOf Se_Tr_endOf rfl (by decide) rfl (Nat.le_of_ble_eq_true rfl) (Nat.le_of_ble_eq_true rfl) (Nat.le_of_ble_eq_true rfl) rfl (fun a2 => con_Tr_endOf a2 x1 x2) (fun v3 => ?_)
  refine r_astore (q := 11) (i := 4) (lv' := [(4, vA v3), (0, vA (some a)), (1, vI x1), (2, vI x2), (3, vI x3)]) C d_Sn_damage_9 rfl (by decide) rfl ?_
  refine r_aload (q := 13) (i := 4) (pl := 0) C d_Sn_damage_11 rfl rfl ?_
  refine r_ifnull (tgt := 26) (q := 16) C d_Sn_damage_13 (by decide) rfl ?_ ?_
  · refine r_sub (lv' := [(0, vA (some a))]) [1] rfl ?_
    exact s_Sn_damage_26 C a
  · refine r_iload_n (q := 17) (i := 3) (pl := 4) C d_Sn_damage_16 rfl rfl rfl ?_
    refine r_if_lt (tgt := 26) (q := 20) C d_Sn_damage_17 (by decide) rfl ?_ ?_
    · refine r_sub (lv' := [(0, vA (some a))]) [1] rfl ?_
      exact s_Sn_damage_26 C a
    · refine r_iload_n (q := 21) (i := 3) (pl := 4) C d_Sn_damage_20 rfl rfl rfl ?_
      refine r_bipush (q := 23) (v := 100) C d_Sn_damage_21 rfl (by decide) ?_
      refine r_icmp_le (tgt := 28) (q := 26) C d_Sn_damage_23 (by decide) rfl ?_ ?_
      · refine r_aload (q := 30) (i := 4) (pl := 0) C d_Sn_damage_28 rfl rfl ?_
        refine r_iload_n (q := 31) (i := 3) (pl := 4) C d_Sn_damage_30 rfl rfl rfl ?_
        refine r_pI (q := 34) C d_Sn_damage_31 rfl F_Sn_83 rfl rfl (Or.inl rfl) ?_
        refine r_iconst (q := 35) (v := 1) C d_Sn_damage_34 rfl (by decide) ?_
        exact r_zret C d_Sn_damage_35 rfl
      · refine r_sub (lv' := [(0, vA (some a))]) [1] rfl ?_
        exact s_Sn_damage_26 C a
theorem d_Sn_sendPosted_0 : decode c_Sn_sendPosted 0 = .ok (.aload_n 0, 1) := by decide +kernel
theorem d_Sn_sendPosted_1 : decode c_Sn_sendPosted 1 = .ok (.getfield 35, 3) := by decide +kernel
theorem d_Sn_sendPosted_4 : decode c_Sn_sendPosted 4 = .ok (.getfield 209, 3) := by decide +kernel
theorem d_Sn_sendPosted_7 : decode c_Sn_sendPosted 7 = .ok (.getfield 213, 3) := by decide +kernel
theorem d_Sn_sendPosted_10 : decode c_Sn_sendPosted 10 = .ok (.istore_n 1, 1) := by decide +kernel
theorem d_Sn_sendPosted_11 : decode c_Sn_sendPosted 11 = .ok (.iload_n 1, 1) := by decide +kernel
theorem d_Sn_sendPosted_12 : decode c_Sn_sendPosted 12 = .ok (.ifCond .le 26, 3) := by decide +kernel
theorem d_Sn_sendPosted_15 : decode c_Sn_sendPosted 15 = .ok (.aload_n 0, 1) := by decide +kernel
theorem d_Sn_sendPosted_16 : decode c_Sn_sendPosted 16 = .ok (.getfield 28, 3) := by decide +kernel
theorem d_Sn_sendPosted_19 : decode c_Sn_sendPosted 19 = .ok (.aload_n 0, 1) := by decide +kernel
theorem d_Sn_sendPosted_20 : decode c_Sn_sendPosted 20 = .ok (.getfield 35, 3) := by decide +kernel
theorem d_Sn_sendPosted_23 : decode c_Sn_sendPosted 23 = .ok (.getfield 209, 3) := by decide +kernel
theorem d_Sn_sendPosted_26 : decode c_Sn_sendPosted 26 = .ok (.invokevirtual 218, 3) := by decide +kernel
theorem d_Sn_sendPosted_29 : decode c_Sn_sendPosted 29 = .ok (.invokevirtual 222, 3) := by decide +kernel
theorem d_Sn_sendPosted_32 : decode c_Sn_sendPosted 32 = .ok (.iinc 1 (-1), 3) := by decide +kernel
theorem d_Sn_sendPosted_35 : decode c_Sn_sendPosted 35 = .ok (.goto (-24), 3) := by decide +kernel
theorem d_Sn_sendPosted_38 : decode c_Sn_sendPosted 38 = .ok (.return_, 1) := by decide +kernel
def f_Sn_sendPosted_11 (a : Nat) : Nat → Int32 → sn_M
  | 0, _ => r_0
  | n + 1, x1 => (if x1 ≤ 0 then r_V else g_R 11 2 (some a) fun v1 => g_R 11 3 (some a) fun v2 => g_R 7 4 v2 fun v3 => n_n 6 v3 fun a4 => c_J (f_Qu_takeFirst a4) fun v5 => n_n 8 v1 fun a6 => c_V (f_Tr_send a6 v5) (f_Sn_sendPosted_11 a n (x1 + (-1 : Int32))))
set_option maxHeartbeats 4000000 in
set_option maxRecDepth 100000 in
theorem mono_Sn_sendPosted_11 (a : Nat) : ∀ (n : Nat) (x1 : Int32), sn_Mono (f_Sn_sendPosted_11 a n x1)
  | 0, _ => sn_Mono.r0
  | n + 1, x1 => sn_Mono.ite (sn_Mono.rV) (sn_Mono.gR (fun v1 => sn_Mono.gR (fun v2 => sn_Mono.gR (fun v3 => sn_Mono.nn (fun a4 => sn_Mono.cJ (mono_Qu_takeFirst a4) (fun v5 => sn_Mono.nn (fun a6 => sn_Mono.cV (mono_Tr_send a6 v5) (mono_Sn_sendPosted_11 a n (x1 + (-1 : Int32))))))))))
set_option maxHeartbeats 4000000 in
set_option maxRecDepth 100000 in
theorem s_Sn_sendPosted_11 {X : sn_X} (C : sn_Cx X c_Sn_sendPosted "SignalNetwork" none "sendPosted" 2 3 74) (a : Nat) (n : Nat) : ∀ (x1 : Int32), sn_S X 11 [(0, vA (some a)), (1, vI x1)] [] (f_Sn_sendPosted_11 a n x1) := by
  induction n with
  | zero => intro x1; exact sn_S.zero
  | succ n ih =>
    intro x1
    unfold f_Sn_sendPosted_11
    refine r_iload_n (q := 12) (i := 1) (pl := 1) C d_Sn_sendPosted_11 rfl rfl rfl ?_
    refine r_if_le (tgt := 38) (q := 15) C d_Sn_sendPosted_12 (by decide) rfl ?_ ?_
    · exact r_vret C d_Sn_sendPosted_38 rfl
    · refine r_aload_n (q := 16) (i := 0) (pl := 0) C d_Sn_sendPosted_15 rfl rfl rfl ?_
      refine r_gR (q := 19) C d_Sn_sendPosted_16 rfl F_Sn_28 rfl (fun v1 => ?_)
      refine r_aload_n (q := 20) (i := 0) (pl := 0) C d_Sn_sendPosted_19 rfl rfl rfl ?_
      refine r_gR (q := 23) C d_Sn_sendPosted_20 rfl F_Sn_35 rfl (fun v2 => ?_)
      refine r_gR (q := 26) C d_Sn_sendPosted_23 rfl F_Sn_209 rfl (fun v3 => ?_)
      refine r_cvJ (q := 29) (As := []) (st := [vA v1]) (cy := 5) C d_Sn_sendPosted_26 rfl Y_Qu_takeFirst L_Sn_218 I_Qu_takeFirst Se_Qu_takeFirst rfl (by decide) rfl (Nat.le_of_ble_eq_true rfl) (Nat.le_of_ble_eq_true rfl) (Nat.le_of_ble_eq_true rfl) rfl (fun a4 => con_Qu_takeFirst a4) (fun v5 => ?_)
      refine r_cvV (q := 32) (As := [vJ v5]) (st := []) (cy := 7) C d_Sn_sendPosted_29 rfl Y_Tr_send L_Sn_222 I_Tr_send Se_Tr_send rfl (by decide) rfl (Nat.le_of_ble_eq_true rfl) (Nat.le_of_ble_eq_true rfl) (Nat.le_of_ble_eq_true rfl) rfl (fun a6 => con_Tr_send a6 v5) ?_
      refine r_iinc (q := 35) (pl := 1) (v := x1 + (-1 : Int32)) (lv' := [(1, vI (x1 + (-1 : Int32))), (0, vA (some a))]) C d_Sn_sendPosted_32 rfl rfl rfl (by decide) rfl ?_
      refine r_goto (tgt := 11) C d_Sn_sendPosted_35 (by decide) ?_
      refine r_sub (lv' := [(0, vA (some a)), (1, vI (x1 + (-1 : Int32)))]) [1, 0] rfl ?_
      exact ih (x1 + (-1 : Int32))
def f_Sn_sendPosted (a : Nat) : sn_M := g_R 11 3 (some a) fun v8 => g_R 7 4 v8 fun v9 => g_I 6 2 v9 fun v10 => f_Sn_sendPosted_11 a sn_fuel v10
set_option maxHeartbeats 4000000 in
set_option maxRecDepth 100000 in
theorem mono_Sn_sendPosted (a : Nat) : sn_Mono (f_Sn_sendPosted a) := sn_Mono.gR (fun v8 => sn_Mono.gR (fun v9 => sn_Mono.gI (fun v10 => mono_Sn_sendPosted_11 a sn_fuel v10)))
set_option maxHeartbeats 4000000 in
set_option maxRecDepth 100000 in
theorem con_Sn_sendPosted (a : Nat) : sn_Con y_Sn_sendPosted c_Sn_sendPosted 2 none 3 74 [vA (some a)] (f_Sn_sendPosted a) := by
  refine sn_Con.of (by decide +kernel) (by show _ ≤ _; exact Nat.le_of_ble_eq_true rfl) (mono_Sn_sendPosted a) (fun X C => ?_)
  show sn_S X 0 [(0, vA (some a))] [] _
  replace C : sn_Cx X c_Sn_sendPosted "SignalNetwork" none "sendPosted" 2 3 74 := C
  unfold f_Sn_sendPosted
  refine r_aload_n (q := 1) (i := 0) (pl := 0) C d_Sn_sendPosted_0 rfl rfl rfl ?_
  refine r_gR (q := 4) C d_Sn_sendPosted_1 rfl F_Sn_35 rfl (fun v8 => ?_)
  refine r_gR (q := 7) C d_Sn_sendPosted_4 rfl F_Sn_209 rfl (fun v9 => ?_)
  refine r_gI (q := 10) C d_Sn_sendPosted_7 rfl F_Sn_213 rfl (fun v10 => ?_)
  refine r_istore_n (q := 11) (i := 1) (lv' := [(1, vI v10), (0, vA (some a))]) C d_Sn_sendPosted_10 rfl rfl (by decide) rfl ?_
  refine r_sub (lv' := [(0, vA (some a)), (1, vI v10)]) [1, 0] rfl ?_
  exact s_Sn_sendPosted_11 C a sn_fuel v10
theorem d_Sn_runCircuitTimers_0 : decode c_Sn_runCircuitTimers 0 = .ok (.iconst 0, 1) := by decide +kernel
theorem d_Sn_runCircuitTimers_1 : decode c_Sn_runCircuitTimers 1 = .ok (.istore_n 1, 1) := by decide +kernel
theorem d_Sn_runCircuitTimers_2 : decode c_Sn_runCircuitTimers 2 = .ok (.iload_n 1, 1) := by decide +kernel
theorem d_Sn_runCircuitTimers_3 : decode c_Sn_runCircuitTimers 3 = .ok (.aload_n 0, 1) := by decide +kernel
theorem d_Sn_runCircuitTimers_4 : decode c_Sn_runCircuitTimers 4 = .ok (.getfield 35, 3) := by decide +kernel
theorem d_Sn_runCircuitTimers_7 : decode c_Sn_runCircuitTimers 7 = .ok (.invokevirtual 204, 3) := by decide +kernel
theorem d_Sn_runCircuitTimers_10 : decode c_Sn_runCircuitTimers 10 = .ok (.if_icmp .ge 24, 3) := by decide +kernel
theorem d_Sn_runCircuitTimers_13 : decode c_Sn_runCircuitTimers 13 = .ok (.aload_n 0, 1) := by decide +kernel
theorem d_Sn_runCircuitTimers_14 : decode c_Sn_runCircuitTimers 14 = .ok (.getfield 35, 3) := by decide +kernel
theorem d_Sn_runCircuitTimers_17 : decode c_Sn_runCircuitTimers 17 = .ok (.iload_n 1, 1) := by decide +kernel
theorem d_Sn_runCircuitTimers_18 : decode c_Sn_runCircuitTimers 18 = .ok (.invokevirtual 207, 3) := by decide +kernel
theorem d_Sn_runCircuitTimers_21 : decode c_Sn_runCircuitTimers 21 = .ok (.ifCond .eq 7, 3) := by decide +kernel
theorem d_Sn_runCircuitTimers_24 : decode c_Sn_runCircuitTimers 24 = .ok (.aload_n 0, 1) := by decide +kernel
theorem d_Sn_runCircuitTimers_25 : decode c_Sn_runCircuitTimers 25 = .ok (.invokevirtual 105, 3) := by decide +kernel
theorem d_Sn_runCircuitTimers_28 : decode c_Sn_runCircuitTimers 28 = .ok (.iinc 1 1, 3) := by decide +kernel
theorem d_Sn_runCircuitTimers_31 : decode c_Sn_runCircuitTimers 31 = .ok (.goto (-29), 3) := by decide +kernel
theorem d_Sn_runCircuitTimers_34 : decode c_Sn_runCircuitTimers 34 = .ok (.return_, 1) := by decide +kernel
def f_Sn_runCircuitTimers_28 (k2 : Int32 → sn_M) (a : Nat) (x1 : Int32) : sn_M := k2 (x1 + (1 : Int32))
set_option maxHeartbeats 4000000 in
set_option maxRecDepth 100000 in
theorem mono_Sn_runCircuitTimers_28 (k2 : Int32 → sn_M) (mk2 : ∀ (x1 : Int32), sn_Mono (k2 x1)) (a : Nat) (x1 : Int32) : sn_Mono (f_Sn_runCircuitTimers_28 k2 a x1) := mk2 (x1 + (1 : Int32))
set_option maxHeartbeats 4000000 in
set_option maxRecDepth 100000 in
theorem s_Sn_runCircuitTimers_28 {X : sn_X} (C : sn_Cx X c_Sn_runCircuitTimers "SignalNetwork" none "runCircuitTimers" 2 5 119) (a : Nat) (k2 : Int32 → sn_M) (hk2 : ∀ (x1 : Int32), sn_S X 2 [(0, vA (some a)), (1, vI x1)] [] (k2 x1)) (x1 : Int32) : sn_S X 28 [(0, vA (some a)), (1, vI x1)] [] (f_Sn_runCircuitTimers_28 k2 a x1) := by
  unfold f_Sn_runCircuitTimers_28
  refine r_iinc (q := 31) (pl := 1) (v := x1 + (1 : Int32)) (lv' := [(1, vI (x1 + (1 : Int32))), (0, vA (some a))]) C d_Sn_runCircuitTimers_28 rfl rfl rfl (by decide) rfl ?_
  refine r_goto (tgt := 2) C d_Sn_runCircuitTimers_31 (by decide) ?_
  refine r_sub (lv' := [(0, vA (some a)), (1, vI (x1 + (1 : Int32)))]) [1, 0] rfl ?_
  exact hk2 (x1 + (1 : Int32))
def f_Sn_runCircuitTimers_2 (a : Nat) : Nat → Int32 → sn_M
  | 0, _ => r_0
  | n + 1, x1 => g_R 11 3 (some a) fun v1 => n_n 7 v1 fun a2 => c_I (f_Sw_circuitPlaces a2) fun v3 => (if v3 ≤ x1 then r_V else g_R 11 3 (some a) fun v4 => n_n 7 v4 fun a5 => c_I (f_Sw_runTimers a5 x1) fun v6 => (if v6 = 0 then f_Sn_runCircuitTimers_28 (f_Sn_runCircuitTimers_2 a n) a x1 else n_n 11 (some a) fun a7 => c_V (f_Sn_sendPosted a7) (f_Sn_runCircuitTimers_28 (f_Sn_runCircuitTimers_2 a n) a x1)))
set_option maxHeartbeats 4000000 in
set_option maxRecDepth 100000 in
theorem mono_Sn_runCircuitTimers_2 (a : Nat) : ∀ (n : Nat) (x1 : Int32), sn_Mono (f_Sn_runCircuitTimers_2 a n x1)
  | 0, _ => sn_Mono.r0
  | n + 1, x1 => sn_Mono.gR (fun v1 => sn_Mono.nn (fun a2 => sn_Mono.cI (mono_Sw_circuitPlaces a2) (fun v3 => sn_Mono.ite (sn_Mono.rV) (sn_Mono.gR (fun v4 => sn_Mono.nn (fun a5 => sn_Mono.cI (mono_Sw_runTimers a5 x1) (fun v6 => sn_Mono.ite (mono_Sn_runCircuitTimers_28 (f_Sn_runCircuitTimers_2 a n) (mono_Sn_runCircuitTimers_2 a n) a x1) (sn_Mono.nn (fun a7 => sn_Mono.cV (mono_Sn_sendPosted a7) (mono_Sn_runCircuitTimers_28 (f_Sn_runCircuitTimers_2 a n) (mono_Sn_runCircuitTimers_2 a n) a x1))))))))))
set_option maxHeartbeats 4000000 in
set_option maxRecDepth 100000 in
theorem s_Sn_runCircuitTimers_2 {X : sn_X} (C : sn_Cx X c_Sn_runCircuitTimers "SignalNetwork" none "runCircuitTimers" 2 5 119) (a : Nat) (n : Nat) : ∀ (x1 : Int32), sn_S X 2 [(0, vA (some a)), (1, vI x1)] [] (f_Sn_runCircuitTimers_2 a n x1) := by
  induction n with
  | zero => intro x1; exact sn_S.zero
  | succ n ih =>
    intro x1
    unfold f_Sn_runCircuitTimers_2
    refine r_iload_n (q := 3) (i := 1) (pl := 1) C d_Sn_runCircuitTimers_2 rfl rfl rfl ?_
    refine r_aload_n (q := 4) (i := 0) (pl := 0) C d_Sn_runCircuitTimers_3 rfl rfl rfl ?_
    refine r_gR (q := 7) C d_Sn_runCircuitTimers_4 rfl F_Sn_35 rfl (fun v1 => ?_)
    refine r_cvI (q := 10) (As := []) (st := [vI x1]) (cy := 6) C d_Sn_runCircuitTimers_7 rfl Y_Sw_circuitPlaces L_Sn_204 I_Sw_circuitPlaces Se_Sw_circuitPlaces rfl (by decide) rfl (Nat.le_of_ble_eq_true rfl) (Nat.le_of_ble_eq_true rfl) (Nat.le_of_ble_eq_true rfl) rfl (fun a2 => con_Sw_circuitPlaces a2) (fun v3 => ?_)
    refine r_icmp_ge (tgt := 34) (q := 13) C d_Sn_runCircuitTimers_10 (by decide) rfl ?_ ?_
    · exact r_vret C d_Sn_runCircuitTimers_34 rfl
    · refine r_aload_n (q := 14) (i := 0) (pl := 0) C d_Sn_runCircuitTimers_13 rfl rfl rfl ?_
      refine r_gR (q := 17) C d_Sn_runCircuitTimers_14 rfl F_Sn_35 rfl (fun v4 => ?_)
      refine r_iload_n (q := 18) (i := 1) (pl := 1) C d_Sn_runCircuitTimers_17 rfl rfl rfl ?_
      refine r_cvI (q := 21) (As := [vI x1]) (st := []) (cy := 6) C d_Sn_runCircuitTimers_18 rfl Y_Sw_runTimers L_Sn_207 I_Sw_runTimers Se_Sw_runTimers rfl (by decide) rfl (Nat.le_of_ble_eq_true rfl) (Nat.le_of_ble_eq_true rfl) (Nat.le_of_ble_eq_true rfl) rfl (fun a5 => con_Sw_runTimers a5 x1) (fun v6 => ?_)
      refine r_if_eq (tgt := 28) (q := 24) C d_Sn_runCircuitTimers_21 (by decide) rfl ?_ ?_
      · exact s_Sn_runCircuitTimers_28 C a (f_Sn_runCircuitTimers_2 a n) ih x1
      · refine r_aload_n (q := 25) (i := 0) (pl := 0) C d_Sn_runCircuitTimers_24 rfl rfl rfl ?_
        refine r_cvV (q := 28) (As := []) (st := []) (cy := 10) C d_Sn_runCircuitTimers_25 rfl Y_Sn_sendPosted L_Sn_105 I_Sn_sendPosted Se_Sn_sendPosted rfl (by decide) rfl (Nat.le_of_ble_eq_true rfl) (Nat.le_of_ble_eq_true rfl) (Nat.le_of_ble_eq_true rfl) rfl (fun a7 => con_Sn_sendPosted a7) ?_
        exact s_Sn_runCircuitTimers_28 C a (f_Sn_runCircuitTimers_2 a n) ih x1
def f_Sn_runCircuitTimers (a : Nat) : sn_M := f_Sn_runCircuitTimers_2 a sn_fuel (0 : Int32)
set_option maxHeartbeats 4000000 in
set_option maxRecDepth 100000 in
theorem mono_Sn_runCircuitTimers (a : Nat) : sn_Mono (f_Sn_runCircuitTimers a) := mono_Sn_runCircuitTimers_2 a sn_fuel (0 : Int32)
set_option maxHeartbeats 4000000 in
set_option maxRecDepth 100000 in
theorem con_Sn_runCircuitTimers (a : Nat) : sn_Con y_Sn_runCircuitTimers c_Sn_runCircuitTimers 2 none 5 119 [vA (some a)] (f_Sn_runCircuitTimers a) := by
  refine sn_Con.of (by decide +kernel) (by show _ ≤ _; exact Nat.le_of_ble_eq_true rfl) (mono_Sn_runCircuitTimers a) (fun X C => ?_)
  show sn_S X 0 [(0, vA (some a))] [] _
  replace C : sn_Cx X c_Sn_runCircuitTimers "SignalNetwork" none "runCircuitTimers" 2 5 119 := C
  unfold f_Sn_runCircuitTimers
  refine r_iconst (q := 1) (v := 0) C d_Sn_runCircuitTimers_0 rfl (by decide) ?_
  refine r_istore_n (q := 2) (i := 1) (lv' := [(1, vI (0 : Int32)), (0, vA (some a))]) C d_Sn_runCircuitTimers_1 rfl rfl (by decide) rfl ?_
  refine r_sub (lv' := [(0, vA (some a)), (1, vI (0 : Int32))]) [1, 0] rfl ?_
  exact s_Sn_runCircuitTimers_2 C a sn_fuel (0 : Int32)
theorem d_Sn_tick_0 : decode c_Sn_tick 0 = .ok (.iload_n 1, 1) := by decide +kernel
theorem d_Sn_tick_1 : decode c_Sn_tick 1 = .ok (.ifCond .lt 10, 3) := by decide +kernel
theorem d_Sn_tick_4 : decode c_Sn_tick 4 = .ok (.iload_n 1, 1) := by decide +kernel
theorem d_Sn_tick_5 : decode c_Sn_tick 5 = .ok (.sipush 200, 3) := by decide +kernel
theorem d_Sn_tick_8 : decode c_Sn_tick 8 = .ok (.if_icmp .le 5, 3) := by decide +kernel
theorem d_Sn_tick_11 : decode c_Sn_tick 11 = .ok (.iconst (-1), 1) := by decide +kernel
theorem d_Sn_tick_12 : decode c_Sn_tick 12 = .ok (.ireturn, 1) := by decide +kernel
theorem d_Sn_tick_13 : decode c_Sn_tick 13 = .ok (.iconst 0, 1) := by decide +kernel
theorem d_Sn_tick_14 : decode c_Sn_tick 14 = .ok (.istore_n 2, 1) := by decide +kernel
theorem d_Sn_tick_15 : decode c_Sn_tick 15 = .ok (.iload_n 2, 1) := by decide +kernel
theorem d_Sn_tick_16 : decode c_Sn_tick 16 = .ok (.iload_n 1, 1) := by decide +kernel
theorem d_Sn_tick_17 : decode c_Sn_tick 17 = .ok (.if_icmp .ge 98, 3) := by decide +kernel
theorem d_Sn_tick_20 : decode c_Sn_tick 20 = .ok (.iconst 0, 1) := by decide +kernel
theorem d_Sn_tick_21 : decode c_Sn_tick 21 = .ok (.istore_n 3, 1) := by decide +kernel
theorem d_Sn_tick_22 : decode c_Sn_tick 22 = .ok (.iload_n 3, 1) := by decide +kernel
theorem d_Sn_tick_23 : decode c_Sn_tick 23 = .ok (.iconst 2, 1) := by decide +kernel
theorem d_Sn_tick_24 : decode c_Sn_tick 24 = .ok (.aload_n 0, 1) := by decide +kernel
theorem d_Sn_tick_25 : decode c_Sn_tick 25 = .ok (.getfield 19, 3) := by decide +kernel
theorem d_Sn_tick_28 : decode c_Sn_tick 28 = .ok (.getfield 89, 3) := by decide +kernel
theorem d_Sn_tick_31 : decode c_Sn_tick 31 = .ok (.imul, 1) := by decide +kernel
theorem d_Sn_tick_32 : decode c_Sn_tick 32 = .ok (.if_icmp .ge 52, 3) := by decide +kernel
theorem d_Sn_tick_35 : decode c_Sn_tick 35 = .ok (.aload_n 0, 1) := by decide +kernel
theorem d_Sn_tick_36 : decode c_Sn_tick 36 = .ok (.getfield 28, 3) := by decide +kernel
theorem d_Sn_tick_39 : decode c_Sn_tick 39 = .ok (.iload_n 3, 1) := by decide +kernel
theorem d_Sn_tick_40 : decode c_Sn_tick 40 = .ok (.invokevirtual 92, 3) := by decide +kernel
theorem d_Sn_tick_43 : decode c_Sn_tick 43 = .ok (.lstore 4, 2) := by decide +kernel
theorem d_Sn_tick_45 : decode c_Sn_tick 45 = .ok (.lload 4, 2) := by decide +kernel
theorem d_Sn_tick_47 : decode c_Sn_tick 47 = .ok (.lconst 0, 1) := by decide +kernel
theorem d_Sn_tick_48 : decode c_Sn_tick 48 = .ok (.lcmp, 1) := by decide +kernel
theorem d_Sn_tick_49 : decode c_Sn_tick 49 = .ok (.ifCond .eq 29, 3) := by decide +kernel
theorem d_Sn_tick_52 : decode c_Sn_tick 52 = .ok (.aload_n 0, 1) := by decide +kernel
theorem d_Sn_tick_53 : decode c_Sn_tick 53 = .ok (.getfield 28, 3) := by decide +kernel
theorem d_Sn_tick_56 : decode c_Sn_tick 56 = .ok (.iload_n 3, 1) := by decide +kernel
theorem d_Sn_tick_57 : decode c_Sn_tick 57 = .ok (.lload 4, 2) := by decide +kernel
theorem d_Sn_tick_59 : decode c_Sn_tick 59 = .ok (.invokevirtual 98, 3) := by decide +kernel
theorem d_Sn_tick_62 : decode c_Sn_tick 62 = .ok (.ifCond .eq 16, 3) := by decide +kernel
theorem d_Sn_tick_65 : decode c_Sn_tick 65 = .ok (.aload_n 0, 1) := by decide +kernel
theorem d_Sn_tick_66 : decode c_Sn_tick 66 = .ok (.getfield 35, 3) := by decide +kernel
theorem d_Sn_tick_69 : decode c_Sn_tick 69 = .ok (.lload 4, 2) := by decide +kernel
theorem d_Sn_tick_71 : decode c_Sn_tick 71 = .ok (.invokevirtual 102, 3) := by decide +kernel
theorem d_Sn_tick_74 : decode c_Sn_tick 74 = .ok (.aload_n 0, 1) := by decide +kernel
theorem d_Sn_tick_75 : decode c_Sn_tick 75 = .ok (.invokevirtual 105, 3) := by decide +kernel
theorem d_Sn_tick_78 : decode c_Sn_tick 78 = .ok (.iinc 3 1, 3) := by decide +kernel
theorem d_Sn_tick_81 : decode c_Sn_tick 81 = .ok (.goto (-59), 3) := by decide +kernel
theorem d_Sn_tick_84 : decode c_Sn_tick 84 = .ok (.aload_n 0, 1) := by decide +kernel
theorem d_Sn_tick_85 : decode c_Sn_tick 85 = .ok (.getfield 12, 3) := by decide +kernel
theorem d_Sn_tick_88 : decode c_Sn_tick 88 = .ok (.invokevirtual 108, 3) := by decide +kernel
theorem d_Sn_tick_91 : decode c_Sn_tick 91 = .ok (.aload_n 0, 1) := by decide +kernel
theorem d_Sn_tick_92 : decode c_Sn_tick 92 = .ok (.getfield 28, 3) := by decide +kernel
theorem d_Sn_tick_95 : decode c_Sn_tick 95 = .ok (.invokevirtual 111, 3) := by decide +kernel
theorem d_Sn_tick_98 : decode c_Sn_tick 98 = .ok (.aload_n 0, 1) := by decide +kernel
theorem d_Sn_tick_99 : decode c_Sn_tick 99 = .ok (.invokevirtual 114, 3) := by decide +kernel
theorem d_Sn_tick_102 : decode c_Sn_tick 102 = .ok (.aload_n 0, 1) := by decide +kernel
theorem d_Sn_tick_103 : decode c_Sn_tick 103 = .ok (.getfield 28, 3) := by decide +kernel
theorem d_Sn_tick_106 : decode c_Sn_tick 106 = .ok (.invokevirtual 117, 3) := by decide +kernel
theorem d_Sn_tick_109 : decode c_Sn_tick 109 = .ok (.iinc 2 1, 3) := by decide +kernel
theorem d_Sn_tick_112 : decode c_Sn_tick 112 = .ok (.goto (-97), 3) := by decide +kernel
theorem d_Sn_tick_115 : decode c_Sn_tick 115 = .ok (.aload_n 0, 1) := by decide +kernel
theorem d_Sn_tick_116 : decode c_Sn_tick 116 = .ok (.getfield 12, 3) := by decide +kernel
theorem d_Sn_tick_119 : decode c_Sn_tick 119 = .ok (.getfield 120, 3) := by decide +kernel
theorem d_Sn_tick_122 : decode c_Sn_tick 122 = .ok (.ireturn, 1) := by decide +kernel
def f_Sn_tick_11 (a : Nat) : sn_M := r_I (-1 : Int32)
set_option maxHeartbeats 4000000 in
set_option maxRecDepth 100000 in
theorem mono_Sn_tick_11 (a : Nat) : sn_Mono (f_Sn_tick_11 a) := sn_Mono.rI
set_option maxHeartbeats 4000000 in
set_option maxRecDepth 100000 in
theorem s_Sn_tick_11 {X : sn_X} (C : sn_Cx X c_Sn_tick "SignalNetwork" (some .int) "tick" 6 6 156) (a : Nat) : sn_S X 11 [(0, vA (some a))] [] (f_Sn_tick_11 a) := by
  unfold f_Sn_tick_11
  refine r_iconst (q := 12) (v := -1) C d_Sn_tick_11 rfl (by decide) ?_
  exact r_iret C d_Sn_tick_12 rfl
def f_Sn_tick_78 (k22 : Int32 → Int32 → Int32 → sn_M) (a : Nat) (x1 : Int32) (x2 : Int32) (x3 : Int32) : sn_M := k22 x1 x2 (x3 + (1 : Int32))
set_option maxHeartbeats 4000000 in
set_option maxRecDepth 100000 in
theorem mono_Sn_tick_78 (k22 : Int32 → Int32 → Int32 → sn_M) (mk22 : ∀ (x1 : Int32) (x2 : Int32) (x3 : Int32), sn_Mono (k22 x1 x2 x3)) (a : Nat) (x1 : Int32) (x2 : Int32) (x3 : Int32) : sn_Mono (f_Sn_tick_78 k22 a x1 x2 x3) := mk22 x1 x2 (x3 + (1 : Int32))
set_option maxHeartbeats 4000000 in
set_option maxRecDepth 100000 in
theorem s_Sn_tick_78 {X : sn_X} (C : sn_Cx X c_Sn_tick "SignalNetwork" (some .int) "tick" 6 6 156) (a : Nat) (k22 : Int32 → Int32 → Int32 → sn_M) (hk22 : ∀ (x1 : Int32) (x2 : Int32) (x3 : Int32), sn_S X 22 [(0, vA (some a)), (1, vI x1), (2, vI x2), (3, vI x3)] [] (k22 x1 x2 x3)) (x1 : Int32) (x2 : Int32) (x3 : Int32) : sn_S X 78 [(0, vA (some a)), (1, vI x1), (2, vI x2), (3, vI x3)] [] (f_Sn_tick_78 k22 a x1 x2 x3) := by
  unfold f_Sn_tick_78
  refine r_iinc (q := 81) (pl := 3) (v := x3 + (1 : Int32)) (lv' := [(3, vI (x3 + (1 : Int32))), (0, vA (some a)), (1, vI x1), (2, vI x2)]) C d_Sn_tick_78 rfl rfl rfl (by decide) rfl ?_
  refine r_goto (tgt := 22) C d_Sn_tick_81 (by decide) ?_
  refine r_sub (lv' := [(0, vA (some a)), (1, vI x1), (2, vI x2), (3, vI (x3 + (1 : Int32)))]) [1, 2, 3, 0] rfl ?_
  exact hk22 x1 x2 (x3 + (1 : Int32))
def f_Sn_tick_22 (k15 : Int32 → Int32 → sn_M) (a : Nat) : Nat → Int32 → Int32 → Int32 → sn_M
  | 0, _, _, _ => r_0
  | n + 1, x1, x2, x3 => g_R 11 1 (some a) fun v1 => g_I 5 0 v1 fun v2 => (if ((2 : Int32) * v2) ≤ x3 then g_R 11 0 (some a) fun v3 => n_n 1 v3 fun a4 => c_V (f_Ck_beginLooking a4) (g_R 11 2 (some a) fun v6 => n_n 8 v6 fun a7 => c_V (f_Tr_runTimers a7) (n_n 11 (some a) fun a9 => c_V (f_Sn_runCircuitTimers a9) (g_R 11 2 (some a) fun v11 => n_n 8 v11 fun a12 => c_V (f_Tr_sendUnits a12) (k15 x1 (x2 + (1 : Int32)))))) else g_R 11 2 (some a) fun v14 => n_n 8 v14 fun a15 => c_J (f_Tr_receive a15 x3) fun v16 => (if (lg_cmp v16 (0 : Int64)) = 0 then f_Sn_tick_78 (f_Sn_tick_22 k15 a n) a x1 x2 x3 else g_R 11 2 (some a) fun v17 => n_n 8 v17 fun a18 => c_I (f_Tr_get a18 x3 v16) fun v19 => (if v19 = 0 then f_Sn_tick_78 (f_Sn_tick_22 k15 a n) a x1 x2 x3 else g_R 11 3 (some a) fun v20 => n_n 7 v20 fun a21 => c_V (f_Sw_get a21 v16) (n_n 11 (some a) fun a23 => c_V (f_Sn_sendPosted a23) (f_Sn_tick_78 (f_Sn_tick_22 k15 a n) a x1 x2 x3)))))
set_option maxHeartbeats 4000000 in
set_option maxRecDepth 100000 in
theorem mono_Sn_tick_22 (k15 : Int32 → Int32 → sn_M) (mk15 : ∀ (x1 : Int32) (x2 : Int32), sn_Mono (k15 x1 x2)) (a : Nat) : ∀ (n : Nat) (x1 : Int32) (x2 : Int32) (x3 : Int32), sn_Mono (f_Sn_tick_22 k15 a n x1 x2 x3)
  | 0, _, _, _ => sn_Mono.r0
  | n + 1, x1, x2, x3 => sn_Mono.gR (fun v1 => sn_Mono.gI (fun v2 => sn_Mono.ite (sn_Mono.gR (fun v3 => sn_Mono.nn (fun a4 => sn_Mono.cV (mono_Ck_beginLooking a4) (sn_Mono.gR (fun v6 => sn_Mono.nn (fun a7 => sn_Mono.cV (mono_Tr_runTimers a7) (sn_Mono.nn (fun a9 => sn_Mono.cV (mono_Sn_runCircuitTimers a9) (sn_Mono.gR (fun v11 => sn_Mono.nn (fun a12 => sn_Mono.cV (mono_Tr_sendUnits a12) (mk15 x1 (x2 + (1 : Int32)))))))))))))) (sn_Mono.gR (fun v14 => sn_Mono.nn (fun a15 => sn_Mono.cJ (mono_Tr_receive a15 x3) (fun v16 => sn_Mono.ite (mono_Sn_tick_78 (f_Sn_tick_22 k15 a n) (mono_Sn_tick_22 k15 mk15 a n) a x1 x2 x3) (sn_Mono.gR (fun v17 => sn_Mono.nn (fun a18 => sn_Mono.cI (mono_Tr_get a18 x3 v16) (fun v19 => sn_Mono.ite (mono_Sn_tick_78 (f_Sn_tick_22 k15 a n) (mono_Sn_tick_22 k15 mk15 a n) a x1 x2 x3) (sn_Mono.gR (fun v20 => sn_Mono.nn (fun a21 => sn_Mono.cV (mono_Sw_get a21 v16) (sn_Mono.nn (fun a23 => sn_Mono.cV (mono_Sn_sendPosted a23) (mono_Sn_tick_78 (f_Sn_tick_22 k15 a n) (mono_Sn_tick_22 k15 mk15 a n) a x1 x2 x3))))))))))))))))
set_option maxHeartbeats 4000000 in
set_option maxRecDepth 100000 in
theorem s_Sn_tick_22 {X : sn_X} (C : sn_Cx X c_Sn_tick "SignalNetwork" (some .int) "tick" 6 6 156) (a : Nat) (k15 : Int32 → Int32 → sn_M) (hk15 : ∀ (x1 : Int32) (x2 : Int32), sn_S X 15 [(0, vA (some a)), (1, vI x1), (2, vI x2)] [] (k15 x1 x2)) (n : Nat) : ∀ (x1 : Int32) (x2 : Int32) (x3 : Int32), sn_S X 22 [(0, vA (some a)), (1, vI x1), (2, vI x2), (3, vI x3)] [] (f_Sn_tick_22 k15 a n x1 x2 x3) := by
  induction n with
  | zero => intro x1 x2 x3; exact sn_S.zero
  | succ n ih =>
    intro x1 x2 x3
    unfold f_Sn_tick_22
    refine r_iload_n (q := 23) (i := 3) (pl := 3) C d_Sn_tick_22 rfl rfl rfl ?_
    refine r_iconst (q := 24) (v := 2) C d_Sn_tick_23 rfl (by decide) ?_
    refine r_aload_n (q := 25) (i := 0) (pl := 0) C d_Sn_tick_24 rfl rfl rfl ?_
    refine r_gR (q := 28) C d_Sn_tick_25 rfl F_Sn_19 rfl (fun v1 => ?_)
    refine r_gI (q := 31) C d_Sn_tick_28 rfl F_Sn_89 rfl (fun v2 => ?_)
    refine r_imul (q := 32) C d_Sn_tick_31 rfl ?_
    refine r_icmp_ge (tgt := 84) (q := 35) C d_Sn_tick_32 (by decide) rfl ?_ ?_
    · refine r_aload_n (q := 85) (i := 0) (pl := 0) C d_Sn_tick_84 rfl rfl rfl ?_
      refine r_gR (q := 88) C d_Sn_tick_85 rfl F_Sn_12 rfl (fun v3 => ?_)
      refine r_cvV (q := 91) (As := []) (st := []) (cy := 0) C d_Sn_tick_88 rfl Y_Ck_beginLooking L_Sn_108 I_Ck_beginLooking Se_Ck_beginLooking rfl (by decide) rfl (Nat.le_of_ble_eq_true rfl) (Nat.le_of_ble_eq_true rfl) (Nat.le_of_ble_eq_true rfl) rfl (fun a4 => con_Ck_beginLooking a4) ?_
      refine r_aload_n (q := 92) (i := 0) (pl := 0) C d_Sn_tick_91 rfl rfl rfl ?_
      refine r_gR (q := 95) C d_Sn_tick_92 rfl F_Sn_28 rfl (fun v6 => ?_)
      refine r_cvV (q := 98) (As := []) (st := []) (cy := 7) C d_Sn_tick_95 rfl Y_Tr_runTimers L_Sn_111 I_Tr_runTimers Se_Tr_runTimers rfl (by decide) rfl (Nat.le_of_ble_eq_true rfl) (Nat.le_of_ble_eq_true rfl) (Nat.le_of_ble_eq_true rfl) rfl (fun a7 => con_Tr_runTimers a7) ?_
      refine r_aload_n (q := 99) (i := 0) (pl := 0) C d_Sn_tick_98 rfl rfl rfl ?_
      refine r_cvV (q := 102) (As := []) (st := []) (cy := 10) C d_Sn_tick_99 rfl Y_Sn_runCircuitTimers L_Sn_114 I_Sn_runCircuitTimers Se_Sn_runCircuitTimers rfl (by decide) rfl (Nat.le_of_ble_eq_true rfl) (Nat.le_of_ble_eq_true rfl) (Nat.le_of_ble_eq_true rfl) rfl (fun a9 => con_Sn_runCircuitTimers a9) ?_
      refine r_aload_n (q := 103) (i := 0) (pl := 0) C d_Sn_tick_102 rfl rfl rfl ?_
      refine r_gR (q := 106) C d_Sn_tick_103 rfl F_Sn_28 rfl (fun v11 => ?_)
      refine r_cvV (q := 109) (As := []) (st := []) (cy := 7) C d_Sn_tick_106 rfl Y_Tr_sendUnits L_Sn_117 I_Tr_sendUnits Se_Tr_sendUnits rfl (by decide) rfl (Nat.le_of_ble_eq_true rfl) (Nat.le_of_ble_eq_true rfl) (Nat.le_of_ble_eq_true rfl) rfl (fun a12 => con_Tr_sendUnits a12) ?_
      refine r_iinc (q := 112) (pl := 2) (v := x2 + (1 : Int32)) (lv' := [(2, vI (x2 + (1 : Int32))), (0, vA (some a)), (1, vI x1), (3, vI x3)]) C d_Sn_tick_109 rfl rfl rfl (by decide) rfl ?_
      refine r_goto (tgt := 15) C d_Sn_tick_112 (by decide) ?_
      refine r_sub (lv' := [(0, vA (some a)), (1, vI x1), (2, vI (x2 + (1 : Int32)))]) [1, 2, 0] rfl ?_
      exact hk15 x1 (x2 + (1 : Int32))
    · refine r_aload_n (q := 36) (i := 0) (pl := 0) C d_Sn_tick_35 rfl rfl rfl ?_
      refine r_gR (q := 39) C d_Sn_tick_36 rfl F_Sn_28 rfl (fun v14 => ?_)
      refine r_iload_n (q := 40) (i := 3) (pl := 3) C d_Sn_tick_39 rfl rfl rfl ?_
      refine r_cvJ (q := 43) (As := [vI x3]) (st := []) (cy := 7) C d_Sn_tick_40 rfl Y_Tr_receive L_Sn_92 I_Tr_receive Se_Tr_receive rfl (by decide) rfl (Nat.le_of_ble_eq_true rfl) (Nat.le_of_ble_eq_true rfl) (Nat.le_of_ble_eq_true rfl) rfl (fun a15 => con_Tr_receive a15 x3) (fun v16 => ?_)
      refine r_lstore (q := 45) (i := 4) (lv' := [(4, vJ v16), (0, vA (some a)), (1, vI x1), (2, vI x2), (3, vI x3)]) C d_Sn_tick_43 rfl (by decide) rfl ?_
      refine r_lload (q := 47) (i := 4) (pl := 0) C d_Sn_tick_45 rfl rfl ?_
      refine r_lconst (q := 48) (v := 0) C d_Sn_tick_47 rfl (by decide) ?_
      refine r_lcmp (q := 49) C d_Sn_tick_48 rfl ?_
      refine r_if_eq (tgt := 78) (q := 52) C d_Sn_tick_49 (by decide) rfl ?_ ?_
      · refine r_sub (lv' := [(0, vA (some a)), (1, vI x1), (2, vI x2), (3, vI x3)]) [1, 2, 3, 4] rfl ?_
        exact s_Sn_tick_78 C a (f_Sn_tick_22 k15 a n) ih x1 x2 x3
      · refine r_aload_n (q := 53) (i := 0) (pl := 1) C d_Sn_tick_52 rfl rfl rfl ?_
        refine r_gR (q := 56) C d_Sn_tick_53 rfl F_Sn_28 rfl (fun v17 => ?_)
        refine r_iload_n (q := 57) (i := 3) (pl := 4) C d_Sn_tick_56 rfl rfl rfl ?_
        refine r_lload (q := 59) (i := 4) (pl := 0) C d_Sn_tick_57 rfl rfl ?_
        refine r_cvI (q := 62) (As := [vI x3, vJ v16]) (st := []) (cy := 7) C d_Sn_tick_59 rfl Y_Tr_get L_Sn_98 I_Tr_get Se_Tr_get rfl (by decide) rfl (Nat.le_of_ble_eq_true rfl) (Nat.le_of_ble_eq_true rfl) (Nat.le_of_ble_eq_true rfl) rfl (fun a18 => con_Tr_get a18 x3 v16) (fun v19 => ?_)
        refine r_if_eq (tgt := 78) (q := 65) C d_Sn_tick_62 (by decide) rfl ?_ ?_
        · refine r_sub (lv' := [(0, vA (some a)), (1, vI x1), (2, vI x2), (3, vI x3)]) [1, 2, 3, 4] rfl ?_
          exact s_Sn_tick_78 C a (f_Sn_tick_22 k15 a n) ih x1 x2 x3
        · refine r_aload_n (q := 66) (i := 0) (pl := 1) C d_Sn_tick_65 rfl rfl rfl ?_
          refine r_gR (q := 69) C d_Sn_tick_66 rfl F_Sn_35 rfl (fun v20 => ?_)
          refine r_lload (q := 71) (i := 4) (pl := 0) C d_Sn_tick_69 rfl rfl ?_
          refine r_cvV (q := 74) (As := [vJ v16]) (st := []) (cy := 6) C d_Sn_tick_71 rfl Y_Sw_get L_Sn_102 I_Sw_get Se_Sw_get rfl (by decide) rfl (Nat.le_of_ble_eq_true rfl) (Nat.le_of_ble_eq_true rfl) (Nat.le_of_ble_eq_true rfl) rfl (fun a21 => con_Sw_get a21 v16) ?_
          refine r_aload_n (q := 75) (i := 0) (pl := 1) C d_Sn_tick_74 rfl rfl rfl ?_
          refine r_cvV (q := 78) (As := []) (st := []) (cy := 10) C d_Sn_tick_75 rfl Y_Sn_sendPosted L_Sn_105 I_Sn_sendPosted Se_Sn_sendPosted rfl (by decide) rfl (Nat.le_of_ble_eq_true rfl) (Nat.le_of_ble_eq_true rfl) (Nat.le_of_ble_eq_true rfl) rfl (fun a23 => con_Sn_sendPosted a23) ?_
          refine r_sub (lv' := [(0, vA (some a)), (1, vI x1), (2, vI x2), (3, vI x3)]) [1, 2, 3, 4] rfl ?_
          exact s_Sn_tick_78 C a (f_Sn_tick_22 k15 a n) ih x1 x2 x3
def f_Sn_tick_15 (a : Nat) : Nat → Int32 → Int32 → sn_M
  | 0, _, _ => r_0
  | n + 1, x1, x2 => (if x1 ≤ x2 then g_R 11 0 (some a) fun v25 => g_I 1 0 v25 fun v26 => r_I v26 else f_Sn_tick_22 (f_Sn_tick_15 a n) a sn_fuel x1 x2 (0 : Int32))
set_option maxHeartbeats 4000000 in
set_option maxRecDepth 100000 in
theorem mono_Sn_tick_15 (a : Nat) : ∀ (n : Nat) (x1 : Int32) (x2 : Int32), sn_Mono (f_Sn_tick_15 a n x1 x2)
  | 0, _, _ => sn_Mono.r0
  | n + 1, x1, x2 => sn_Mono.ite (sn_Mono.gR (fun v25 => sn_Mono.gI (fun v26 => sn_Mono.rI))) (mono_Sn_tick_22 (f_Sn_tick_15 a n) (mono_Sn_tick_15 a n) a sn_fuel x1 x2 (0 : Int32))
set_option maxHeartbeats 4000000 in
set_option maxRecDepth 100000 in
theorem s_Sn_tick_15 {X : sn_X} (C : sn_Cx X c_Sn_tick "SignalNetwork" (some .int) "tick" 6 6 156) (a : Nat) (n : Nat) : ∀ (x1 : Int32) (x2 : Int32), sn_S X 15 [(0, vA (some a)), (1, vI x1), (2, vI x2)] [] (f_Sn_tick_15 a n x1 x2) := by
  induction n with
  | zero => intro x1 x2; exact sn_S.zero
  | succ n ih =>
    intro x1 x2
    unfold f_Sn_tick_15
    refine r_iload_n (q := 16) (i := 2) (pl := 2) C d_Sn_tick_15 rfl rfl rfl ?_
    refine r_iload_n (q := 17) (i := 1) (pl := 1) C d_Sn_tick_16 rfl rfl rfl ?_
    refine r_icmp_ge (tgt := 115) (q := 20) C d_Sn_tick_17 (by decide) rfl ?_ ?_
    · refine r_aload_n (q := 116) (i := 0) (pl := 0) C d_Sn_tick_115 rfl rfl rfl ?_
      refine r_gR (q := 119) C d_Sn_tick_116 rfl F_Sn_12 rfl (fun v25 => ?_)
      refine r_gI (q := 122) C d_Sn_tick_119 rfl F_Sn_120 rfl (fun v26 => ?_)
      exact r_iret C d_Sn_tick_122 rfl
    · refine r_iconst (q := 21) (v := 0) C d_Sn_tick_20 rfl (by decide) ?_
      refine r_istore_n (q := 22) (i := 3) (lv' := [(3, vI (0 : Int32)), (0, vA (some a)), (1, vI x1), (2, vI x2)]) C d_Sn_tick_21 rfl rfl (by decide) rfl ?_
      refine r_sub (lv' := [(0, vA (some a)), (1, vI x1), (2, vI x2), (3, vI (0 : Int32))]) [1, 2, 3, 0] rfl ?_
      exact s_Sn_tick_22 C a (f_Sn_tick_15 a n) ih sn_fuel x1 x2 (0 : Int32)
def f_Sn_tick (a : Nat) (x1 : Int32) : sn_M := (if x1 < 0 then f_Sn_tick_11 a else (if x1 ≤ (200 : Int32) then f_Sn_tick_15 a sn_fuel x1 (0 : Int32) else f_Sn_tick_11 a))
set_option maxHeartbeats 4000000 in
set_option maxRecDepth 100000 in
theorem mono_Sn_tick (a : Nat) (x1 : Int32) : sn_Mono (f_Sn_tick a x1) := sn_Mono.ite (mono_Sn_tick_11 a) (sn_Mono.ite (mono_Sn_tick_15 a sn_fuel x1 (0 : Int32)) (mono_Sn_tick_11 a))
set_option maxHeartbeats 4000000 in
set_option maxRecDepth 100000 in
theorem con_Sn_tick (a : Nat) (x1 : Int32) : sn_Con y_Sn_tick c_Sn_tick 6 (some .int) 6 156 [vA (some a), vI x1] (f_Sn_tick a x1) := by
  refine sn_Con.of (by decide +kernel) (by show _ ≤ _; exact Nat.le_of_ble_eq_true rfl) (mono_Sn_tick a x1) (fun X C => ?_)
  show sn_S X 0 [(0, vA (some a)), (1, vI x1)] [] _
  replace C : sn_Cx X c_Sn_tick "SignalNetwork" (some .int) "tick" 6 6 156 := C
  unfold f_Sn_tick
  refine r_iload_n (q := 1) (i := 1) (pl := 1) C d_Sn_tick_0 rfl rfl rfl ?_
  refine r_if_lt (tgt := 11) (q := 4) C d_Sn_tick_1 (by decide) rfl ?_ ?_
  · refine r_sub (lv' := [(0, vA (some a))]) [0] rfl ?_
    exact s_Sn_tick_11 C a
  · refine r_iload_n (q := 5) (i := 1) (pl := 1) C d_Sn_tick_4 rfl rfl rfl ?_
    refine r_sipush (q := 8) (v := 200) C d_Sn_tick_5 rfl (by decide) ?_
    refine r_icmp_le (tgt := 13) (q := 11) C d_Sn_tick_8 (by decide) rfl ?_ ?_
    · refine r_iconst (q := 14) (v := 0) C d_Sn_tick_13 rfl (by decide) ?_
      refine r_istore_n (q := 15) (i := 2) (lv' := [(2, vI (0 : Int32)), (0, vA (some a)), (1, vI x1)]) C d_Sn_tick_14 rfl rfl (by decide) rfl ?_
      refine r_sub (lv' := [(0, vA (some a)), (1, vI x1), (2, vI (0 : Int32))]) [1, 2, 0] rfl ?_
      exact s_Sn_tick_15 C a sn_fuel x1 (0 : Int32)
    · refine r_sub (lv' := [(0, vA (some a))]) [0] rfl ?_
      exact s_Sn_tick_11 C a
theorem d_Sn_dial_0 : decode c_Sn_dial 0 = .ok (.aload_n 0, 1) := by decide +kernel
theorem d_Sn_dial_1 : decode c_Sn_dial 1 = .ok (.getfield 35, 3) := by decide +kernel
theorem d_Sn_dial_4 : decode c_Sn_dial 4 = .ok (.iload_n 1, 1) := by decide +kernel
theorem d_Sn_dial_5 : decode c_Sn_dial 5 = .ok (.iload_n 2, 1) := by decide +kernel
theorem d_Sn_dial_6 : decode c_Sn_dial 6 = .ok (.invokevirtual 123, 3) := by decide +kernel
theorem d_Sn_dial_9 : decode c_Sn_dial 9 = .ok (.istore_n 3, 1) := by decide +kernel
theorem d_Sn_dial_10 : decode c_Sn_dial 10 = .ok (.aload_n 0, 1) := by decide +kernel
theorem d_Sn_dial_11 : decode c_Sn_dial 11 = .ok (.invokevirtual 105, 3) := by decide +kernel
theorem d_Sn_dial_14 : decode c_Sn_dial 14 = .ok (.iload_n 3, 1) := by decide +kernel
theorem d_Sn_dial_15 : decode c_Sn_dial 15 = .ok (.ireturn, 1) := by decide +kernel
def f_Sn_dial (a : Nat) (x1 : Int32) (x2 : Int32) : sn_M := g_R 11 3 (some a) fun v1 => n_n 7 v1 fun a2 => c_I (f_Sw_call a2 x1 x2) fun v3 => n_n 11 (some a) fun a4 => c_V (f_Sn_sendPosted a4) (r_Z v3)
set_option maxHeartbeats 4000000 in
set_option maxRecDepth 100000 in
theorem mono_Sn_dial (a : Nat) (x1 : Int32) (x2 : Int32) : sn_Mono (f_Sn_dial a x1 x2) := sn_Mono.gR (fun v1 => sn_Mono.nn (fun a2 => sn_Mono.cI (mono_Sw_call a2 x1 x2) (fun v3 => sn_Mono.nn (fun a4 => sn_Mono.cV (mono_Sn_sendPosted a4) (sn_Mono.rZ)))))
set_option maxHeartbeats 4000000 in
set_option maxRecDepth 100000 in
theorem con_Sn_dial (a : Nat) (x1 : Int32) (x2 : Int32) : sn_Con y_Sn_dial c_Sn_dial 4 (some .boolean) 5 122 [vA (some a), vI x1, vI x2] (f_Sn_dial a x1 x2) := by
  refine sn_Con.of (by decide +kernel) (by show _ ≤ _; exact Nat.le_of_ble_eq_true rfl) (mono_Sn_dial a x1 x2) (fun X C => ?_)
  show sn_S X 0 [(0, vA (some a)), (1, vI x1), (2, vI x2)] [] _
  replace C : sn_Cx X c_Sn_dial "SignalNetwork" (some .boolean) "dial" 4 5 122 := C
  unfold f_Sn_dial
  refine r_aload_n (q := 1) (i := 0) (pl := 0) C d_Sn_dial_0 rfl rfl rfl ?_
  refine r_gR (q := 4) C d_Sn_dial_1 rfl F_Sn_35 rfl (fun v1 => ?_)
  refine r_iload_n (q := 5) (i := 1) (pl := 1) C d_Sn_dial_4 rfl rfl rfl ?_
  refine r_iload_n (q := 6) (i := 2) (pl := 2) C d_Sn_dial_5 rfl rfl rfl ?_
  refine r_cvI (q := 9) (As := [vI x1, vI x2]) (st := []) (cy := 6) C d_Sn_dial_6 rfl Y_Sw_call L_Sn_123 I_Sw_call Se_Sw_call rfl (by decide) rfl (Nat.le_of_ble_eq_true rfl) (Nat.le_of_ble_eq_true rfl) (Nat.le_of_ble_eq_true rfl) rfl (fun a2 => con_Sw_call a2 x1 x2) (fun v3 => ?_)
  refine r_istore_n (q := 10) (i := 3) (lv' := [(3, vI v3), (0, vA (some a)), (1, vI x1), (2, vI x2)]) C d_Sn_dial_9 rfl rfl (by decide) rfl ?_
  refine r_aload_n (q := 11) (i := 0) (pl := 1) C d_Sn_dial_10 rfl rfl rfl ?_
  refine r_cvV (q := 14) (As := []) (st := []) (cy := 10) C d_Sn_dial_11 rfl Y_Sn_sendPosted L_Sn_105 I_Sn_sendPosted Se_Sn_sendPosted rfl (by decide) rfl (Nat.le_of_ble_eq_true rfl) (Nat.le_of_ble_eq_true rfl) (Nat.le_of_ble_eq_true rfl) rfl (fun a4 => con_Sn_sendPosted a4) ?_
  refine r_iload_n (q := 15) (i := 3) (pl := 0) C d_Sn_dial_14 rfl rfl rfl ?_
  exact r_zret C d_Sn_dial_15 rfl
theorem d_Sn_answer_0 : decode c_Sn_answer 0 = .ok (.aload_n 0, 1) := by decide +kernel
theorem d_Sn_answer_1 : decode c_Sn_answer 1 = .ok (.getfield 35, 3) := by decide +kernel
theorem d_Sn_answer_4 : decode c_Sn_answer 4 = .ok (.iload_n 1, 1) := by decide +kernel
theorem d_Sn_answer_5 : decode c_Sn_answer 5 = .ok (.invokevirtual 127, 3) := by decide +kernel
theorem d_Sn_answer_8 : decode c_Sn_answer 8 = .ok (.istore_n 2, 1) := by decide +kernel
theorem d_Sn_answer_9 : decode c_Sn_answer 9 = .ok (.aload_n 0, 1) := by decide +kernel
theorem d_Sn_answer_10 : decode c_Sn_answer 10 = .ok (.invokevirtual 105, 3) := by decide +kernel
theorem d_Sn_answer_13 : decode c_Sn_answer 13 = .ok (.iload_n 2, 1) := by decide +kernel
theorem d_Sn_answer_14 : decode c_Sn_answer 14 = .ok (.ireturn, 1) := by decide +kernel
def f_Sn_answer (a : Nat) (x1 : Int32) : sn_M := g_R 11 3 (some a) fun v1 => n_n 7 v1 fun a2 => c_I (f_Sw_pickUp a2 x1) fun v3 => n_n 11 (some a) fun a4 => c_V (f_Sn_sendPosted a4) (r_Z v3)
set_option maxHeartbeats 4000000 in
set_option maxRecDepth 100000 in
theorem mono_Sn_answer (a : Nat) (x1 : Int32) : sn_Mono (f_Sn_answer a x1) := sn_Mono.gR (fun v1 => sn_Mono.nn (fun a2 => sn_Mono.cI (mono_Sw_pickUp a2 x1) (fun v3 => sn_Mono.nn (fun a4 => sn_Mono.cV (mono_Sn_sendPosted a4) (sn_Mono.rZ)))))
set_option maxHeartbeats 4000000 in
set_option maxRecDepth 100000 in
theorem con_Sn_answer (a : Nat) (x1 : Int32) : sn_Con y_Sn_answer c_Sn_answer 3 (some .boolean) 4 97 [vA (some a), vI x1] (f_Sn_answer a x1) := by
  refine sn_Con.of (by decide +kernel) (by show _ ≤ _; exact Nat.le_of_ble_eq_true rfl) (mono_Sn_answer a x1) (fun X C => ?_)
  show sn_S X 0 [(0, vA (some a)), (1, vI x1)] [] _
  replace C : sn_Cx X c_Sn_answer "SignalNetwork" (some .boolean) "answer" 3 4 97 := C
  unfold f_Sn_answer
  refine r_aload_n (q := 1) (i := 0) (pl := 0) C d_Sn_answer_0 rfl rfl rfl ?_
  refine r_gR (q := 4) C d_Sn_answer_1 rfl F_Sn_35 rfl (fun v1 => ?_)
  refine r_iload_n (q := 5) (i := 1) (pl := 1) C d_Sn_answer_4 rfl rfl rfl ?_
  refine r_cvI (q := 8) (As := [vI x1]) (st := []) (cy := 6) C d_Sn_answer_5 rfl Y_Sw_pickUp L_Sn_127 I_Sw_pickUp Se_Sw_pickUp rfl (by decide) rfl (Nat.le_of_ble_eq_true rfl) (Nat.le_of_ble_eq_true rfl) (Nat.le_of_ble_eq_true rfl) rfl (fun a2 => con_Sw_pickUp a2 x1) (fun v3 => ?_)
  refine r_istore_n (q := 9) (i := 2) (lv' := [(2, vI v3), (0, vA (some a)), (1, vI x1)]) C d_Sn_answer_8 rfl rfl (by decide) rfl ?_
  refine r_aload_n (q := 10) (i := 0) (pl := 1) C d_Sn_answer_9 rfl rfl rfl ?_
  refine r_cvV (q := 13) (As := []) (st := []) (cy := 10) C d_Sn_answer_10 rfl Y_Sn_sendPosted L_Sn_105 I_Sn_sendPosted Se_Sn_sendPosted rfl (by decide) rfl (Nat.le_of_ble_eq_true rfl) (Nat.le_of_ble_eq_true rfl) (Nat.le_of_ble_eq_true rfl) rfl (fun a4 => con_Sn_sendPosted a4) ?_
  refine r_iload_n (q := 14) (i := 2) (pl := 0) C d_Sn_answer_13 rfl rfl rfl ?_
  exact r_zret C d_Sn_answer_14 rfl
theorem d_Sn_hang_0 : decode c_Sn_hang 0 = .ok (.aload_n 0, 1) := by decide +kernel
theorem d_Sn_hang_1 : decode c_Sn_hang 1 = .ok (.getfield 35, 3) := by decide +kernel
theorem d_Sn_hang_4 : decode c_Sn_hang 4 = .ok (.iload_n 1, 1) := by decide +kernel
theorem d_Sn_hang_5 : decode c_Sn_hang 5 = .ok (.invokevirtual 130, 3) := by decide +kernel
theorem d_Sn_hang_8 : decode c_Sn_hang 8 = .ok (.istore_n 2, 1) := by decide +kernel
theorem d_Sn_hang_9 : decode c_Sn_hang 9 = .ok (.aload_n 0, 1) := by decide +kernel
theorem d_Sn_hang_10 : decode c_Sn_hang 10 = .ok (.invokevirtual 105, 3) := by decide +kernel
theorem d_Sn_hang_13 : decode c_Sn_hang 13 = .ok (.iload_n 2, 1) := by decide +kernel
theorem d_Sn_hang_14 : decode c_Sn_hang 14 = .ok (.ireturn, 1) := by decide +kernel
def f_Sn_hang (a : Nat) (x1 : Int32) : sn_M := g_R 11 3 (some a) fun v1 => n_n 7 v1 fun a2 => c_I (f_Sw_putDown a2 x1) fun v3 => n_n 11 (some a) fun a4 => c_V (f_Sn_sendPosted a4) (r_Z v3)
set_option maxHeartbeats 4000000 in
set_option maxRecDepth 100000 in
theorem mono_Sn_hang (a : Nat) (x1 : Int32) : sn_Mono (f_Sn_hang a x1) := sn_Mono.gR (fun v1 => sn_Mono.nn (fun a2 => sn_Mono.cI (mono_Sw_putDown a2 x1) (fun v3 => sn_Mono.nn (fun a4 => sn_Mono.cV (mono_Sn_sendPosted a4) (sn_Mono.rZ)))))
set_option maxHeartbeats 4000000 in
set_option maxRecDepth 100000 in
theorem con_Sn_hang (a : Nat) (x1 : Int32) : sn_Con y_Sn_hang c_Sn_hang 3 (some .boolean) 4 95 [vA (some a), vI x1] (f_Sn_hang a x1) := by
  refine sn_Con.of (by decide +kernel) (by show _ ≤ _; exact Nat.le_of_ble_eq_true rfl) (mono_Sn_hang a x1) (fun X C => ?_)
  show sn_S X 0 [(0, vA (some a)), (1, vI x1)] [] _
  replace C : sn_Cx X c_Sn_hang "SignalNetwork" (some .boolean) "hang" 3 4 95 := C
  unfold f_Sn_hang
  refine r_aload_n (q := 1) (i := 0) (pl := 0) C d_Sn_hang_0 rfl rfl rfl ?_
  refine r_gR (q := 4) C d_Sn_hang_1 rfl F_Sn_35 rfl (fun v1 => ?_)
  refine r_iload_n (q := 5) (i := 1) (pl := 1) C d_Sn_hang_4 rfl rfl rfl ?_
  refine r_cvI (q := 8) (As := [vI x1]) (st := []) (cy := 6) C d_Sn_hang_5 rfl Y_Sw_putDown L_Sn_130 I_Sw_putDown Se_Sw_putDown rfl (by decide) rfl (Nat.le_of_ble_eq_true rfl) (Nat.le_of_ble_eq_true rfl) (Nat.le_of_ble_eq_true rfl) rfl (fun a2 => con_Sw_putDown a2 x1) (fun v3 => ?_)
  refine r_istore_n (q := 9) (i := 2) (lv' := [(2, vI v3), (0, vA (some a)), (1, vI x1)]) C d_Sn_hang_8 rfl rfl (by decide) rfl ?_
  refine r_aload_n (q := 10) (i := 0) (pl := 1) C d_Sn_hang_9 rfl rfl rfl ?_
  refine r_cvV (q := 13) (As := []) (st := []) (cy := 10) C d_Sn_hang_10 rfl Y_Sn_sendPosted L_Sn_105 I_Sn_sendPosted Se_Sn_sendPosted rfl (by decide) rfl (Nat.le_of_ble_eq_true rfl) (Nat.le_of_ble_eq_true rfl) (Nat.le_of_ble_eq_true rfl) rfl (fun a4 => con_Sn_sendPosted a4) ?_
  refine r_iload_n (q := 14) (i := 2) (pl := 0) C d_Sn_hang_13 rfl rfl rfl ?_
  exact r_zret C d_Sn_hang_14 rfl
theorem d_Sn_block_0 : decode c_Sn_block 0 = .ok (.aload_n 0, 1) := by decide +kernel
theorem d_Sn_block_1 : decode c_Sn_block 1 = .ok (.getfield 35, 3) := by decide +kernel
theorem d_Sn_block_4 : decode c_Sn_block 4 = .ok (.iload_n 1, 1) := by decide +kernel
theorem d_Sn_block_5 : decode c_Sn_block 5 = .ok (.iload_n 2, 1) := by decide +kernel
theorem d_Sn_block_6 : decode c_Sn_block 6 = .ok (.iload_n 3, 1) := by decide +kernel
theorem d_Sn_block_7 : decode c_Sn_block 7 = .ok (.iload 4, 2) := by decide +kernel
theorem d_Sn_block_9 : decode c_Sn_block 9 = .ok (.invokevirtual 133, 3) := by decide +kernel
theorem d_Sn_block_12 : decode c_Sn_block 12 = .ok (.istore 5, 2) := by decide +kernel
theorem d_Sn_block_14 : decode c_Sn_block 14 = .ok (.aload_n 0, 1) := by decide +kernel
theorem d_Sn_block_15 : decode c_Sn_block 15 = .ok (.invokevirtual 105, 3) := by decide +kernel
theorem d_Sn_block_18 : decode c_Sn_block 18 = .ok (.iload 5, 2) := by decide +kernel
theorem d_Sn_block_20 : decode c_Sn_block 20 = .ok (.ireturn, 1) := by decide +kernel
def f_Sn_block (a : Nat) (x1 : Int32) (x2 : Int32) (x3 : Int32) (x4 : Int32) : sn_M := g_R 11 3 (some a) fun v1 => n_n 7 v1 fun a2 => c_I (f_Sw_setBlocked a2 x1 x2 x3 x4) fun v3 => n_n 11 (some a) fun a4 => c_V (f_Sn_sendPosted a4) (r_Z v3)
set_option maxHeartbeats 4000000 in
set_option maxRecDepth 100000 in
theorem mono_Sn_block (a : Nat) (x1 : Int32) (x2 : Int32) (x3 : Int32) (x4 : Int32) : sn_Mono (f_Sn_block a x1 x2 x3 x4) := sn_Mono.gR (fun v1 => sn_Mono.nn (fun a2 => sn_Mono.cI (mono_Sw_setBlocked a2 x1 x2 x3 x4) (fun v3 => sn_Mono.nn (fun a4 => sn_Mono.cV (mono_Sn_sendPosted a4) (sn_Mono.rZ)))))
set_option maxHeartbeats 4000000 in
set_option maxRecDepth 100000 in
theorem con_Sn_block (a : Nat) (x1 : Int32) (x2 : Int32) (x3 : Int32) (x4 : Int32) : sn_Con y_Sn_block c_Sn_block 6 (some .boolean) 4 95 [vA (some a), vI x1, vI x2, vI x3, vI x4] (f_Sn_block a x1 x2 x3 x4) := by
  refine sn_Con.of (by decide +kernel) (by show _ ≤ _; exact Nat.le_of_ble_eq_true rfl) (mono_Sn_block a x1 x2 x3 x4) (fun X C => ?_)
  show sn_S X 0 [(0, vA (some a)), (1, vI x1), (2, vI x2), (3, vI x3), (4, vI x4)] [] _
  replace C : sn_Cx X c_Sn_block "SignalNetwork" (some .boolean) "block" 6 4 95 := C
  unfold f_Sn_block
  refine r_aload_n (q := 1) (i := 0) (pl := 0) C d_Sn_block_0 rfl rfl rfl ?_
  refine r_gR (q := 4) C d_Sn_block_1 rfl F_Sn_35 rfl (fun v1 => ?_)
  refine r_iload_n (q := 5) (i := 1) (pl := 1) C d_Sn_block_4 rfl rfl rfl ?_
  refine r_iload_n (q := 6) (i := 2) (pl := 2) C d_Sn_block_5 rfl rfl rfl ?_
  refine r_iload_n (q := 7) (i := 3) (pl := 3) C d_Sn_block_6 rfl rfl rfl ?_
  refine r_iload (q := 9) (i := 4) (pl := 4) C d_Sn_block_7 rfl rfl ?_
  refine r_cvI (q := 12) (As := [vI x1, vI x2, vI x3, vI x4]) (st := []) (cy := 6) C d_Sn_block_9 rfl Y_Sw_setBlocked L_Sn_133 I_Sw_setBlocked Se_Sw_setBlocked rfl (by decide) rfl (Nat.le_of_ble_eq_true rfl) (Nat.le_of_ble_eq_true rfl) (Nat.le_of_ble_eq_true rfl) rfl (fun a2 => con_Sw_setBlocked a2 x1 x2 x3 x4) (fun v3 => ?_)
  refine r_istore (q := 14) (i := 5) (lv' := [(5, vI v3), (0, vA (some a)), (1, vI x1), (2, vI x2), (3, vI x3), (4, vI x4)]) C d_Sn_block_12 rfl (by decide) rfl ?_
  refine r_aload_n (q := 15) (i := 0) (pl := 1) C d_Sn_block_14 rfl rfl rfl ?_
  refine r_cvV (q := 18) (As := []) (st := []) (cy := 10) C d_Sn_block_15 rfl Y_Sn_sendPosted L_Sn_105 I_Sn_sendPosted Se_Sn_sendPosted rfl (by decide) rfl (Nat.le_of_ble_eq_true rfl) (Nat.le_of_ble_eq_true rfl) (Nat.le_of_ble_eq_true rfl) rfl (fun a4 => con_Sn_sendPosted a4) ?_
  refine r_iload (q := 20) (i := 5) (pl := 0) C d_Sn_block_18 rfl rfl ?_
  exact r_zret C d_Sn_block_20 rfl
theorem d_Sn_end_0 : decode c_Sn_end 0 = .ok (.aload_n 0, 1) := by decide +kernel
theorem d_Sn_end_1 : decode c_Sn_end 1 = .ok (.getfield 28, 3) := by decide +kernel
theorem d_Sn_end_4 : decode c_Sn_end 4 = .ok (.iload_n 1, 1) := by decide +kernel
theorem d_Sn_end_5 : decode c_Sn_end 5 = .ok (.iload_n 2, 1) := by decide +kernel
theorem d_Sn_end_6 : decode c_Sn_end 6 = .ok (.invokevirtual 79, 3) := by decide +kernel
theorem d_Sn_end_9 : decode c_Sn_end 9 = .ok (.astore 4, 2) := by decide +kernel
theorem d_Sn_end_11 : decode c_Sn_end 11 = .ok (.aload 4, 2) := by decide +kernel
theorem d_Sn_end_13 : decode c_Sn_end 13 = .ok (.ifnonnull 7, 3) := by decide +kernel
theorem d_Sn_end_16 : decode c_Sn_end 16 = .ok (.iconst (-1), 1) := by decide +kernel
theorem d_Sn_end_17 : decode c_Sn_end 17 = .ok (.goto 9, 3) := by decide +kernel
theorem d_Sn_end_20 : decode c_Sn_end 20 = .ok (.aload 4, 2) := by decide +kernel
theorem d_Sn_end_22 : decode c_Sn_end 22 = .ok (.iload_n 3, 1) := by decide +kernel
theorem d_Sn_end_23 : decode c_Sn_end 23 = .ok (.invokevirtual 137, 3) := by decide +kernel
theorem d_Sn_end_26 : decode c_Sn_end 26 = .ok (.ireturn, 1) := by decide +kernel
def f_Sn_end_26 (a : Nat) (t0 : Int32) : sn_M := r_I t0
set_option maxHeartbeats 4000000 in
set_option maxRecDepth 100000 in
theorem mono_Sn_end_26 (a : Nat) (t0 : Int32) : sn_Mono (f_Sn_end_26 a t0) := sn_Mono.rI
set_option maxHeartbeats 4000000 in
set_option maxRecDepth 100000 in
theorem s_Sn_end_26 {X : sn_X} (C : sn_Cx X c_Sn_end "SignalNetwork" (some .int) "end" 5 2 43) (a : Nat) (t0 : Int32) : sn_S X 26 [(0, vA (some a))] [vI t0] (f_Sn_end_26 a t0) := by
  unfold f_Sn_end_26
  exact r_iret C d_Sn_end_26 rfl
def f_Sn_end (a : Nat) (x1 : Int32) (x2 : Int32) (x3 : Int32) : sn_M := g_R 11 2 (some a) fun v1 => n_n 8 v1 fun a2 => c_R (f_Tr_endOf a2 x1 x2) fun v3 => (if ¬ v3 = none then n_n 2 v3 fun a4 => c_I (f_En_tell a4 x3) fun v5 => f_Sn_end_26 a v5 else f_Sn_end_26 a (-1 : Int32))
set_option maxHeartbeats 4000000 in
set_option maxRecDepth 100000 in
theorem mono_Sn_end (a : Nat) (x1 : Int32) (x2 : Int32) (x3 : Int32) : sn_Mono (f_Sn_end a x1 x2 x3) := sn_Mono.gR (fun v1 => sn_Mono.nn (fun a2 => sn_Mono.cR (mono_Tr_endOf a2 x1 x2) (fun v3 => sn_Mono.ite (sn_Mono.nn (fun a4 => sn_Mono.cI (mono_En_tell a4 x3) (fun v5 => mono_Sn_end_26 a v5))) (mono_Sn_end_26 a (-1 : Int32)))))
set_option maxHeartbeats 4000000 in
set_option maxRecDepth 100000 in
theorem con_Sn_end (a : Nat) (x1 : Int32) (x2 : Int32) (x3 : Int32) : sn_Con y_Sn_end c_Sn_end 5 (some .int) 2 43 [vA (some a), vI x1, vI x2, vI x3] (f_Sn_end a x1 x2 x3) := by
  refine sn_Con.of (by decide +kernel) (by show _ ≤ _; exact Nat.le_of_ble_eq_true rfl) (mono_Sn_end a x1 x2 x3) (fun X C => ?_)
  show sn_S X 0 [(0, vA (some a)), (1, vI x1), (2, vI x2), (3, vI x3)] [] _
  replace C : sn_Cx X c_Sn_end "SignalNetwork" (some .int) "end" 5 2 43 := C
  unfold f_Sn_end
  refine r_aload_n (q := 1) (i := 0) (pl := 0) C d_Sn_end_0 rfl rfl rfl ?_
  refine r_gR (q := 4) C d_Sn_end_1 rfl F_Sn_28 rfl (fun v1 => ?_)
  refine r_iload_n (q := 5) (i := 1) (pl := 1) C d_Sn_end_4 rfl rfl rfl ?_
  refine r_iload_n (q := 6) (i := 2) (pl := 2) C d_Sn_end_5 rfl rfl rfl ?_
  refine r_cvR (q := 9) (As := [vI x1, vI x2]) (st := []) (cy := 7) C d_Sn_end_6 rfl Y_Tr_endOf L_Sn_79 I_Tr_endOf Se_Tr_endOf rfl (by decide) rfl (Nat.le_of_ble_eq_true rfl) (Nat.le_of_ble_eq_true rfl) (Nat.le_of_ble_eq_true rfl) rfl (fun a2 => con_Tr_endOf a2 x1 x2) (fun v3 => ?_)
  refine r_astore (q := 11) (i := 4) (lv' := [(4, vA v3), (0, vA (some a)), (1, vI x1), (2, vI x2), (3, vI x3)]) C d_Sn_end_9 rfl (by decide) rfl ?_
  refine r_aload (q := 13) (i := 4) (pl := 0) C d_Sn_end_11 rfl rfl ?_
  refine r_ifnonnull (tgt := 20) (q := 16) C d_Sn_end_13 (by decide) rfl ?_ ?_
  · refine r_aload (q := 22) (i := 4) (pl := 0) C d_Sn_end_20 rfl rfl ?_
    refine r_iload_n (q := 23) (i := 3) (pl := 4) C d_Sn_end_22 rfl rfl rfl ?_
    refine r_cvI (q := 26) (As := [vI x3]) (st := []) (cy := 1) C d_Sn_end_23 rfl Y_En_tell L_Sn_137 I_En_tell Se_En_tell rfl (by decide) rfl (Nat.le_of_ble_eq_true rfl) (Nat.le_of_ble_eq_true rfl) (Nat.le_of_ble_eq_true rfl) rfl (fun a4 => con_En_tell a4 x3) (fun v5 => ?_)
    refine r_sub (lv' := [(0, vA (some a))]) [1] rfl ?_
    exact s_Sn_end_26 C a v5
  · refine r_iconst (q := 17) (v := -1) C d_Sn_end_16 rfl (by decide) ?_
    refine r_goto (tgt := 26) C d_Sn_end_17 (by decide) ?_
    refine r_sub (lv' := [(0, vA (some a))]) [1] rfl ?_
    exact s_Sn_end_26 C a (-1 : Int32)
theorem d_Sn_spellLatest_0 : decode c_Sn_spellLatest 0 = .ok (.aload_n 0, 1) := by decide +kernel
theorem d_Sn_spellLatest_1 : decode c_Sn_spellLatest 1 = .ok (.getfield 28, 3) := by decide +kernel
theorem d_Sn_spellLatest_4 : decode c_Sn_spellLatest 4 = .ok (.iload_n 1, 1) := by decide +kernel
theorem d_Sn_spellLatest_5 : decode c_Sn_spellLatest 5 = .ok (.iload_n 2, 1) := by decide +kernel
theorem d_Sn_spellLatest_6 : decode c_Sn_spellLatest 6 = .ok (.invokevirtual 79, 3) := by decide +kernel
theorem d_Sn_spellLatest_9 : decode c_Sn_spellLatest 9 = .ok (.astore_n 3, 1) := by decide +kernel
theorem d_Sn_spellLatest_10 : decode c_Sn_spellLatest 10 = .ok (.aload_n 3, 1) := by decide +kernel
theorem d_Sn_spellLatest_11 : decode c_Sn_spellLatest 11 = .ok (.ifnull 10, 3) := by decide +kernel
theorem d_Sn_spellLatest_14 : decode c_Sn_spellLatest 14 = .ok (.aload_n 3, 1) := by decide +kernel
theorem d_Sn_spellLatest_15 : decode c_Sn_spellLatest 15 = .ok (.getfield 192, 3) := by decide +kernel
theorem d_Sn_spellLatest_18 : decode c_Sn_spellLatest 18 = .ok (.ifCond .ne 7, 3) := by decide +kernel
theorem d_Sn_spellLatest_21 : decode c_Sn_spellLatest 21 = .ok (.iconst 0, 1) := by decide +kernel
theorem d_Sn_spellLatest_22 : decode c_Sn_spellLatest 22 = .ok (.goto 14, 3) := by decide +kernel
theorem d_Sn_spellLatest_25 : decode c_Sn_spellLatest 25 = .ok (.aload_n 3, 1) := by decide +kernel
theorem d_Sn_spellLatest_26 : decode c_Sn_spellLatest 26 = .ok (.getfield 196, 3) := by decide +kernel
theorem d_Sn_spellLatest_29 : decode c_Sn_spellLatest 29 = .ok (.aload_n 0, 1) := by decide +kernel
theorem d_Sn_spellLatest_30 : decode c_Sn_spellLatest 30 = .ok (.getfield 41, 3) := by decide +kernel
theorem d_Sn_spellLatest_33 : decode c_Sn_spellLatest 33 = .ok (.invokevirtual 200, 3) := by decide +kernel
theorem d_Sn_spellLatest_36 : decode c_Sn_spellLatest 36 = .ok (.ireturn, 1) := by decide +kernel
def f_Sn_spellLatest_36 (a : Nat) (t0 : Int32) : sn_M := r_I t0
set_option maxHeartbeats 4000000 in
set_option maxRecDepth 100000 in
theorem mono_Sn_spellLatest_36 (a : Nat) (t0 : Int32) : sn_Mono (f_Sn_spellLatest_36 a t0) := sn_Mono.rI
set_option maxHeartbeats 4000000 in
set_option maxRecDepth 100000 in
theorem s_Sn_spellLatest_36 {X : sn_X} (C : sn_Cx X c_Sn_spellLatest "SignalNetwork" (some .int) "spellLatest" 4 3 67) (a : Nat) (t0 : Int32) : sn_S X 36 [(0, vA (some a))] [vI t0] (f_Sn_spellLatest_36 a t0) := by
  unfold f_Sn_spellLatest_36
  exact r_iret C d_Sn_spellLatest_36 rfl
def f_Sn_spellLatest_21 (a : Nat) : sn_M := f_Sn_spellLatest_36 a (0 : Int32)
set_option maxHeartbeats 4000000 in
set_option maxRecDepth 100000 in
theorem mono_Sn_spellLatest_21 (a : Nat) : sn_Mono (f_Sn_spellLatest_21 a) := mono_Sn_spellLatest_36 a (0 : Int32)
set_option maxHeartbeats 4000000 in
set_option maxRecDepth 100000 in
theorem s_Sn_spellLatest_21 {X : sn_X} (C : sn_Cx X c_Sn_spellLatest "SignalNetwork" (some .int) "spellLatest" 4 3 67) (a : Nat) : sn_S X 21 [(0, vA (some a))] [] (f_Sn_spellLatest_21 a) := by
  unfold f_Sn_spellLatest_21
  refine r_iconst (q := 22) (v := 0) C d_Sn_spellLatest_21 rfl (by decide) ?_
  refine r_goto (tgt := 36) C d_Sn_spellLatest_22 (by decide) ?_
  exact s_Sn_spellLatest_36 C a (0 : Int32)
def f_Sn_spellLatest (a : Nat) (x1 : Int32) (x2 : Int32) : sn_M := g_R 11 2 (some a) fun v1 => n_n 8 v1 fun a2 => c_R (f_Tr_endOf a2 x1 x2) fun v3 => (if v3 = none then f_Sn_spellLatest_21 a else g_I 2 6 v3 fun v4 => (if ¬ v4 = 0 then g_R 2 5 v3 fun v5 => g_R 11 4 (some a) fun v6 => n_n 9 v5 fun a7 => c_I (f_Un_spell a7 v6) fun v8 => f_Sn_spellLatest_36 a v8 else f_Sn_spellLatest_21 a))
set_option maxHeartbeats 4000000 in
set_option maxRecDepth 100000 in
theorem mono_Sn_spellLatest (a : Nat) (x1 : Int32) (x2 : Int32) : sn_Mono (f_Sn_spellLatest a x1 x2) := sn_Mono.gR (fun v1 => sn_Mono.nn (fun a2 => sn_Mono.cR (mono_Tr_endOf a2 x1 x2) (fun v3 => sn_Mono.ite (mono_Sn_spellLatest_21 a) (sn_Mono.gI (fun v4 => sn_Mono.ite (sn_Mono.gR (fun v5 => sn_Mono.gR (fun v6 => sn_Mono.nn (fun a7 => sn_Mono.cI (mono_Un_spell a7 v6) (fun v8 => mono_Sn_spellLatest_36 a v8))))) (mono_Sn_spellLatest_21 a))))))
set_option maxHeartbeats 4000000 in
set_option maxRecDepth 100000 in
theorem con_Sn_spellLatest (a : Nat) (x1 : Int32) (x2 : Int32) : sn_Con y_Sn_spellLatest c_Sn_spellLatest 4 (some .int) 3 67 [vA (some a), vI x1, vI x2] (f_Sn_spellLatest a x1 x2) := by
  refine sn_Con.of (by decide +kernel) (by show _ ≤ _; exact Nat.le_of_ble_eq_true rfl) (mono_Sn_spellLatest a x1 x2) (fun X C => ?_)
  show sn_S X 0 [(0, vA (some a)), (1, vI x1), (2, vI x2)] [] _
  replace C : sn_Cx X c_Sn_spellLatest "SignalNetwork" (some .int) "spellLatest" 4 3 67 := C
  unfold f_Sn_spellLatest
  refine r_aload_n (q := 1) (i := 0) (pl := 0) C d_Sn_spellLatest_0 rfl rfl rfl ?_
  refine r_gR (q := 4) C d_Sn_spellLatest_1 rfl F_Sn_28 rfl (fun v1 => ?_)
  refine r_iload_n (q := 5) (i := 1) (pl := 1) C d_Sn_spellLatest_4 rfl rfl rfl ?_
  refine r_iload_n (q := 6) (i := 2) (pl := 2) C d_Sn_spellLatest_5 rfl rfl rfl ?_
  refine r_cvR (q := 9) (As := [vI x1, vI x2]) (st := []) (cy := 7) C d_Sn_spellLatest_6 rfl Y_Tr_endOf L_Sn_79 I_Tr_endOf Se_Tr_endOf rfl (by decide) rfl (Nat.le_of_ble_eq_true rfl) (Nat.le_of_ble_eq_true rfl) (Nat.le_of_ble_eq_true rfl) rfl (fun a2 => con_Tr_endOf a2 x1 x2) (fun v3 => ?_)
  refine r_astore_n (q := 10) (i := 3) (lv' := [(3, vA v3), (0, vA (some a)), (1, vI x1), (2, vI x2)]) C d_Sn_spellLatest_9 rfl rfl (by decide) rfl ?_
  refine r_aload_n (q := 11) (i := 3) (pl := 0) C d_Sn_spellLatest_10 rfl rfl rfl ?_
  refine r_ifnull (tgt := 21) (q := 14) C d_Sn_spellLatest_11 (by decide) rfl ?_ ?_
  · refine r_sub (lv' := [(0, vA (some a))]) [1] rfl ?_
    exact s_Sn_spellLatest_21 C a
  · refine r_aload_n (q := 15) (i := 3) (pl := 0) C d_Sn_spellLatest_14 rfl rfl rfl ?_
    refine r_gI (q := 18) C d_Sn_spellLatest_15 rfl F_Sn_192 rfl (fun v4 => ?_)
    refine r_if_ne (tgt := 25) (q := 21) C d_Sn_spellLatest_18 (by decide) rfl ?_ ?_
    · refine r_aload_n (q := 26) (i := 3) (pl := 0) C d_Sn_spellLatest_25 rfl rfl rfl ?_
      refine r_gR (q := 29) C d_Sn_spellLatest_26 rfl F_Sn_196 rfl (fun v5 => ?_)
      refine r_aload_n (q := 30) (i := 0) (pl := 1) C d_Sn_spellLatest_29 rfl rfl rfl ?_
      refine r_gR (q := 33) C d_Sn_spellLatest_30 rfl F_Sn_41 rfl (fun v6 => ?_)
      refine r_cvI (q := 36) (As := [vA v6]) (st := []) (cy := 8) C d_Sn_spellLatest_33 rfl Y_Un_spell L_Sn_200 I_Un_spell Se_Un_spell rfl (by decide) rfl (Nat.le_of_ble_eq_true rfl) (Nat.le_of_ble_eq_true rfl) (Nat.le_of_ble_eq_true rfl) rfl (fun a7 => con_Un_spell a7 v6) (fun v8 => ?_)
      refine r_sub (lv' := [(0, vA (some a))]) [1] rfl ?_
      exact s_Sn_spellLatest_36 C a v8
    · refine r_sub (lv' := [(0, vA (some a))]) [1] rfl ?_
      exact s_Sn_spellLatest_21 C a
theorem d_Sn_octet_0 : decode c_Sn_octet 0 = .ok (.aload_n 0, 1) := by decide +kernel
theorem d_Sn_octet_1 : decode c_Sn_octet 1 = .ok (.iload_n 1, 1) := by decide +kernel
theorem d_Sn_octet_2 : decode c_Sn_octet 2 = .ok (.iload_n 2, 1) := by decide +kernel
theorem d_Sn_octet_3 : decode c_Sn_octet 3 = .ok (.invokevirtual 140, 3) := by decide +kernel
theorem d_Sn_octet_6 : decode c_Sn_octet 6 = .ok (.istore 4, 2) := by decide +kernel
theorem d_Sn_octet_8 : decode c_Sn_octet 8 = .ok (.iload_n 3, 1) := by decide +kernel
theorem d_Sn_octet_9 : decode c_Sn_octet 9 = .ok (.ifCond .lt 9, 3) := by decide +kernel
theorem d_Sn_octet_12 : decode c_Sn_octet 12 = .ok (.iload_n 3, 1) := by decide +kernel
theorem d_Sn_octet_13 : decode c_Sn_octet 13 = .ok (.iload 4, 2) := by decide +kernel
theorem d_Sn_octet_15 : decode c_Sn_octet 15 = .ok (.if_icmp .lt 7, 3) := by decide +kernel
theorem d_Sn_octet_18 : decode c_Sn_octet 18 = .ok (.iconst (-1), 1) := by decide +kernel
theorem d_Sn_octet_19 : decode c_Sn_octet 19 = .ok (.goto 9, 3) := by decide +kernel
theorem d_Sn_octet_22 : decode c_Sn_octet 22 = .ok (.aload_n 0, 1) := by decide +kernel
theorem d_Sn_octet_23 : decode c_Sn_octet 23 = .ok (.getfield 41, 3) := by decide +kernel
theorem d_Sn_octet_26 : decode c_Sn_octet 26 = .ok (.iload_n 3, 1) := by decide +kernel
theorem d_Sn_octet_27 : decode c_Sn_octet 27 = .ok (.iaload, 1) := by decide +kernel
theorem d_Sn_octet_28 : decode c_Sn_octet 28 = .ok (.ireturn, 1) := by decide +kernel
def f_Sn_octet_28 (a : Nat) (t0 : Int32) : sn_M := r_I t0
set_option maxHeartbeats 4000000 in
set_option maxRecDepth 100000 in
theorem mono_Sn_octet_28 (a : Nat) (t0 : Int32) : sn_Mono (f_Sn_octet_28 a t0) := sn_Mono.rI
set_option maxHeartbeats 4000000 in
set_option maxRecDepth 100000 in
theorem s_Sn_octet_28 {X : sn_X} (C : sn_Cx X c_Sn_octet "SignalNetwork" (some .int) "octet" 5 4 90) (a : Nat) (t0 : Int32) : sn_S X 28 [(0, vA (some a))] [vI t0] (f_Sn_octet_28 a t0) := by
  unfold f_Sn_octet_28
  exact r_iret C d_Sn_octet_28 rfl
def f_Sn_octet_18 (a : Nat) : sn_M := f_Sn_octet_28 a (-1 : Int32)
set_option maxHeartbeats 4000000 in
set_option maxRecDepth 100000 in
theorem mono_Sn_octet_18 (a : Nat) : sn_Mono (f_Sn_octet_18 a) := mono_Sn_octet_28 a (-1 : Int32)
set_option maxHeartbeats 4000000 in
set_option maxRecDepth 100000 in
theorem s_Sn_octet_18 {X : sn_X} (C : sn_Cx X c_Sn_octet "SignalNetwork" (some .int) "octet" 5 4 90) (a : Nat) : sn_S X 18 [(0, vA (some a))] [] (f_Sn_octet_18 a) := by
  unfold f_Sn_octet_18
  refine r_iconst (q := 19) (v := -1) C d_Sn_octet_18 rfl (by decide) ?_
  refine r_goto (tgt := 28) C d_Sn_octet_19 (by decide) ?_
  exact s_Sn_octet_28 C a (-1 : Int32)
def f_Sn_octet (a : Nat) (x1 : Int32) (x2 : Int32) (x3 : Int32) : sn_M := n_n 11 (some a) fun a1 => c_I (f_Sn_spellLatest a1 x1 x2) fun v2 => (if x3 < 0 then f_Sn_octet_18 a else (if x3 < v2 then g_R 11 4 (some a) fun v3 => a_I 21 v3 x3 fun v4 => f_Sn_octet_28 a v4 else f_Sn_octet_18 a))
set_option maxHeartbeats 4000000 in
set_option maxRecDepth 100000 in
theorem mono_Sn_octet (a : Nat) (x1 : Int32) (x2 : Int32) (x3 : Int32) : sn_Mono (f_Sn_octet a x1 x2 x3) := sn_Mono.nn (fun a1 => sn_Mono.cI (mono_Sn_spellLatest a1 x1 x2) (fun v2 => sn_Mono.ite (mono_Sn_octet_18 a) (sn_Mono.ite (sn_Mono.gR (fun v3 => sn_Mono.aI (fun v4 => mono_Sn_octet_28 a v4))) (mono_Sn_octet_18 a))))
set_option maxHeartbeats 4000000 in
set_option maxRecDepth 100000 in
theorem con_Sn_octet (a : Nat) (x1 : Int32) (x2 : Int32) (x3 : Int32) : sn_Con y_Sn_octet c_Sn_octet 5 (some .int) 4 90 [vA (some a), vI x1, vI x2, vI x3] (f_Sn_octet a x1 x2 x3) := by
  refine sn_Con.of (by decide +kernel) (by show _ ≤ _; exact Nat.le_of_ble_eq_true rfl) (mono_Sn_octet a x1 x2 x3) (fun X C => ?_)
  show sn_S X 0 [(0, vA (some a)), (1, vI x1), (2, vI x2), (3, vI x3)] [] _
  replace C : sn_Cx X c_Sn_octet "SignalNetwork" (some .int) "octet" 5 4 90 := C
  unfold f_Sn_octet
  refine r_aload_n (q := 1) (i := 0) (pl := 0) C d_Sn_octet_0 rfl rfl rfl ?_
  refine r_iload_n (q := 2) (i := 1) (pl := 1) C d_Sn_octet_1 rfl rfl rfl ?_
  refine r_iload_n (q := 3) (i := 2) (pl := 2) C d_Sn_octet_2 rfl rfl rfl ?_
  refine r_cvI (q := 6) (As := [vI x1, vI x2]) (st := []) (cy := 10) C d_Sn_octet_3 rfl Y_Sn_spellLatest L_Sn_140 I_Sn_spellLatest Se_Sn_spellLatest rfl (by decide) rfl (Nat.le_of_ble_eq_true rfl) (Nat.le_of_ble_eq_true rfl) (Nat.le_of_ble_eq_true rfl) rfl (fun a1 => con_Sn_spellLatest a1 x1 x2) (fun v2 => ?_)
  refine r_istore (q := 8) (i := 4) (lv' := [(4, vI v2), (0, vA (some a)), (1, vI x1), (2, vI x2), (3, vI x3)]) C d_Sn_octet_6 rfl (by decide) rfl ?_
  refine r_iload_n (q := 9) (i := 3) (pl := 4) C d_Sn_octet_8 rfl rfl rfl ?_
  refine r_if_lt (tgt := 18) (q := 12) C d_Sn_octet_9 (by decide) rfl ?_ ?_
  · refine r_sub (lv' := [(0, vA (some a))]) [1] rfl ?_
    exact s_Sn_octet_18 C a
  · refine r_iload_n (q := 13) (i := 3) (pl := 4) C d_Sn_octet_12 rfl rfl rfl ?_
    refine r_iload (q := 15) (i := 4) (pl := 0) C d_Sn_octet_13 rfl rfl ?_
    refine r_icmp_lt (tgt := 22) (q := 18) C d_Sn_octet_15 (by decide) rfl ?_ ?_
    · refine r_aload_n (q := 23) (i := 0) (pl := 1) C d_Sn_octet_22 rfl rfl rfl ?_
      refine r_gR (q := 26) C d_Sn_octet_23 rfl F_Sn_41 rfl (fun v3 => ?_)
      refine r_iload_n (q := 27) (i := 3) (pl := 4) C d_Sn_octet_26 rfl rfl rfl ?_
      refine r_aI (q := 28) C (Or.inl rfl) d_Sn_octet_27 rfl (fun v4 => ?_)
      refine r_sub (lv' := [(0, vA (some a))]) [1] rfl ?_
      exact s_Sn_octet_28 C a v4
    · refine r_sub (lv' := [(0, vA (some a))]) [1] rfl ?_
      exact s_Sn_octet_18 C a
theorem d_Sn_bits_0 : decode c_Sn_bits 0 = .ok (.aload_n 0, 1) := by decide +kernel
theorem d_Sn_bits_1 : decode c_Sn_bits 1 = .ok (.iload_n 1, 1) := by decide +kernel
theorem d_Sn_bits_2 : decode c_Sn_bits 2 = .ok (.iload_n 2, 1) := by decide +kernel
theorem d_Sn_bits_3 : decode c_Sn_bits 3 = .ok (.invokevirtual 140, 3) := by decide +kernel
theorem d_Sn_bits_6 : decode c_Sn_bits 6 = .ok (.istore_n 3, 1) := by decide +kernel
theorem d_Sn_bits_7 : decode c_Sn_bits 7 = .ok (.iload_n 3, 1) := by decide +kernel
theorem d_Sn_bits_8 : decode c_Sn_bits 8 = .ok (.ifCond .ne 7, 3) := by decide +kernel
theorem d_Sn_bits_11 : decode c_Sn_bits 11 = .ok (.iconst (-1), 1) := by decide +kernel
theorem d_Sn_bits_12 : decode c_Sn_bits 12 = .ok (.goto 11, 3) := by decide +kernel
theorem d_Sn_bits_15 : decode c_Sn_bits 15 = .ok (.aload_n 0, 1) := by decide +kernel
theorem d_Sn_bits_16 : decode c_Sn_bits 16 = .ok (.getfield 41, 3) := by decide +kernel
theorem d_Sn_bits_19 : decode c_Sn_bits 19 = .ok (.iload_n 3, 1) := by decide +kernel
theorem d_Sn_bits_20 : decode c_Sn_bits 20 = .ok (.invokestatic 143, 3) := by decide +kernel
theorem d_Sn_bits_23 : decode c_Sn_bits 23 = .ok (.ireturn, 1) := by decide +kernel
def f_Sn_bits_23 (a : Nat) (t0 : Int32) : sn_M := r_I t0
set_option maxHeartbeats 4000000 in
set_option maxRecDepth 100000 in
theorem mono_Sn_bits_23 (a : Nat) (t0 : Int32) : sn_Mono (f_Sn_bits_23 a t0) := sn_Mono.rI
set_option maxHeartbeats 4000000 in
set_option maxRecDepth 100000 in
theorem s_Sn_bits_23 {X : sn_X} (C : sn_Cx X c_Sn_bits "SignalNetwork" (some .int) "bits" 4 4 90) (a : Nat) (t0 : Int32) : sn_S X 23 [(0, vA (some a))] [vI t0] (f_Sn_bits_23 a t0) := by
  unfold f_Sn_bits_23
  exact r_iret C d_Sn_bits_23 rfl
def f_Sn_bits (a : Nat) (x1 : Int32) (x2 : Int32) : sn_M := n_n 11 (some a) fun a1 => c_I (f_Sn_spellLatest a1 x1 x2) fun v2 => (if ¬ v2 = 0 then g_R 11 4 (some a) fun v3 => c_I (f_Un_bitsOnLine v3 v2) fun v4 => f_Sn_bits_23 a v4 else f_Sn_bits_23 a (-1 : Int32))
set_option maxHeartbeats 4000000 in
set_option maxRecDepth 100000 in
theorem mono_Sn_bits (a : Nat) (x1 : Int32) (x2 : Int32) : sn_Mono (f_Sn_bits a x1 x2) := sn_Mono.nn (fun a1 => sn_Mono.cI (mono_Sn_spellLatest a1 x1 x2) (fun v2 => sn_Mono.ite (sn_Mono.gR (fun v3 => sn_Mono.cI (mono_Un_bitsOnLine v3 v2) (fun v4 => mono_Sn_bits_23 a v4))) (mono_Sn_bits_23 a (-1 : Int32))))
set_option maxHeartbeats 4000000 in
set_option maxRecDepth 100000 in
theorem con_Sn_bits (a : Nat) (x1 : Int32) (x2 : Int32) : sn_Con y_Sn_bits c_Sn_bits 4 (some .int) 4 90 [vA (some a), vI x1, vI x2] (f_Sn_bits a x1 x2) := by
  refine sn_Con.of (by decide +kernel) (by show _ ≤ _; exact Nat.le_of_ble_eq_true rfl) (mono_Sn_bits a x1 x2) (fun X C => ?_)
  show sn_S X 0 [(0, vA (some a)), (1, vI x1), (2, vI x2)] [] _
  replace C : sn_Cx X c_Sn_bits "SignalNetwork" (some .int) "bits" 4 4 90 := C
  unfold f_Sn_bits
  refine r_aload_n (q := 1) (i := 0) (pl := 0) C d_Sn_bits_0 rfl rfl rfl ?_
  refine r_iload_n (q := 2) (i := 1) (pl := 1) C d_Sn_bits_1 rfl rfl rfl ?_
  refine r_iload_n (q := 3) (i := 2) (pl := 2) C d_Sn_bits_2 rfl rfl rfl ?_
  refine r_cvI (q := 6) (As := [vI x1, vI x2]) (st := []) (cy := 10) C d_Sn_bits_3 rfl Y_Sn_spellLatest L_Sn_140 I_Sn_spellLatest Se_Sn_spellLatest rfl (by decide) rfl (Nat.le_of_ble_eq_true rfl) (Nat.le_of_ble_eq_true rfl) (Nat.le_of_ble_eq_true rfl) rfl (fun a1 => con_Sn_spellLatest a1 x1 x2) (fun v2 => ?_)
  refine r_istore_n (q := 7) (i := 3) (lv' := [(3, vI v2), (0, vA (some a)), (1, vI x1), (2, vI x2)]) C d_Sn_bits_6 rfl rfl (by decide) rfl ?_
  refine r_iload_n (q := 8) (i := 3) (pl := 0) C d_Sn_bits_7 rfl rfl rfl ?_
  refine r_if_ne (tgt := 15) (q := 11) C d_Sn_bits_8 (by decide) rfl ?_ ?_
  · refine r_aload_n (q := 16) (i := 0) (pl := 1) C d_Sn_bits_15 rfl rfl rfl ?_
    refine r_gR (q := 19) C d_Sn_bits_16 rfl F_Sn_41 rfl (fun v3 => ?_)
    refine r_iload_n (q := 20) (i := 3) (pl := 0) C d_Sn_bits_19 rfl rfl rfl ?_
    refine r_csI (q := 23) (As := [vA v3, vI v2]) (st := []) C d_Sn_bits_20 rfl Y_Un_bitsOnLine L_Sn_143 St_Un_bitsOnLine rfl (Nat.le_of_ble_eq_true rfl) (Nat.le_of_ble_eq_true rfl) (Nat.le_of_ble_eq_true rfl) rfl (con_Un_bitsOnLine v3 v2) (fun v4 => ?_)
    refine r_sub (lv' := [(0, vA (some a))]) [1] rfl ?_
    exact s_Sn_bits_23 C a v4
  · refine r_iconst (q := 12) (v := -1) C d_Sn_bits_11 rfl (by decide) ?_
    refine r_goto (tgt := 23) C d_Sn_bits_12 (by decide) ?_
    refine r_sub (lv' := [(0, vA (some a))]) [1] rfl ?_
    exact s_Sn_bits_23 C a (-1 : Int32)
theorem d_Sn_flow_0 : decode c_Sn_flow 0 = .ok (.aload_n 0, 1) := by decide +kernel
theorem d_Sn_flow_1 : decode c_Sn_flow 1 = .ok (.getfield 28, 3) := by decide +kernel
theorem d_Sn_flow_4 : decode c_Sn_flow 4 = .ok (.iload_n 1, 1) := by decide +kernel
theorem d_Sn_flow_5 : decode c_Sn_flow 5 = .ok (.iload_n 2, 1) := by decide +kernel
theorem d_Sn_flow_6 : decode c_Sn_flow 6 = .ok (.iload_n 3, 1) := by decide +kernel
theorem d_Sn_flow_7 : decode c_Sn_flow 7 = .ok (.invokevirtual 147, 3) := by decide +kernel
theorem d_Sn_flow_10 : decode c_Sn_flow 10 = .ok (.astore 5, 2) := by decide +kernel
theorem d_Sn_flow_12 : decode c_Sn_flow 12 = .ok (.aload 5, 2) := by decide +kernel
theorem d_Sn_flow_14 : decode c_Sn_flow 14 = .ok (.ifnonnull 7, 3) := by decide +kernel
theorem d_Sn_flow_17 : decode c_Sn_flow 17 = .ok (.iconst (-1), 1) := by decide +kernel
theorem d_Sn_flow_18 : decode c_Sn_flow 18 = .ok (.goto 10, 3) := by decide +kernel
theorem d_Sn_flow_21 : decode c_Sn_flow 21 = .ok (.aload 5, 2) := by decide +kernel
theorem d_Sn_flow_23 : decode c_Sn_flow 23 = .ok (.iload 4, 2) := by decide +kernel
theorem d_Sn_flow_25 : decode c_Sn_flow 25 = .ok (.invokevirtual 151, 3) := by decide +kernel
theorem d_Sn_flow_28 : decode c_Sn_flow 28 = .ok (.ireturn, 1) := by decide +kernel
def f_Sn_flow_28 (a : Nat) (t0 : Int32) : sn_M := r_I t0
set_option maxHeartbeats 4000000 in
set_option maxRecDepth 100000 in
theorem mono_Sn_flow_28 (a : Nat) (t0 : Int32) : sn_Mono (f_Sn_flow_28 a t0) := sn_Mono.rI
set_option maxHeartbeats 4000000 in
set_option maxRecDepth 100000 in
theorem s_Sn_flow_28 {X : sn_X} (C : sn_Cx X c_Sn_flow "SignalNetwork" (some .int) "flow" 6 1 23) (a : Nat) (t0 : Int32) : sn_S X 28 [(0, vA (some a))] [vI t0] (f_Sn_flow_28 a t0) := by
  unfold f_Sn_flow_28
  exact r_iret C d_Sn_flow_28 rfl
def f_Sn_flow (a : Nat) (x1 : Int32) (x2 : Int32) (x3 : Int32) (x4 : Int32) : sn_M := g_R 11 2 (some a) fun v1 => n_n 8 v1 fun a2 => c_R (f_Tr_flowTo a2 x1 x2 x3) fun v3 => (if ¬ v3 = none then n_n 3 v3 fun a4 => c_I (f_Fl_tell a4 x4) fun v5 => f_Sn_flow_28 a v5 else f_Sn_flow_28 a (-1 : Int32))
set_option maxHeartbeats 4000000 in
set_option maxRecDepth 100000 in
theorem mono_Sn_flow (a : Nat) (x1 : Int32) (x2 : Int32) (x3 : Int32) (x4 : Int32) : sn_Mono (f_Sn_flow a x1 x2 x3 x4) := sn_Mono.gR (fun v1 => sn_Mono.nn (fun a2 => sn_Mono.cR (mono_Tr_flowTo a2 x1 x2 x3) (fun v3 => sn_Mono.ite (sn_Mono.nn (fun a4 => sn_Mono.cI (mono_Fl_tell a4 x4) (fun v5 => mono_Sn_flow_28 a v5))) (mono_Sn_flow_28 a (-1 : Int32)))))
set_option maxHeartbeats 4000000 in
set_option maxRecDepth 100000 in
theorem con_Sn_flow (a : Nat) (x1 : Int32) (x2 : Int32) (x3 : Int32) (x4 : Int32) : sn_Con y_Sn_flow c_Sn_flow 6 (some .int) 1 23 [vA (some a), vI x1, vI x2, vI x3, vI x4] (f_Sn_flow a x1 x2 x3 x4) := by
  refine sn_Con.of (by decide +kernel) (by show _ ≤ _; exact Nat.le_of_ble_eq_true rfl) (mono_Sn_flow a x1 x2 x3 x4) (fun X C => ?_)
  show sn_S X 0 [(0, vA (some a)), (1, vI x1), (2, vI x2), (3, vI x3), (4, vI x4)] [] _
  replace C : sn_Cx X c_Sn_flow "SignalNetwork" (some .int) "flow" 6 1 23 := C
  unfold f_Sn_flow
  refine r_aload_n (q := 1) (i := 0) (pl := 0) C d_Sn_flow_0 rfl rfl rfl ?_
  refine r_gR (q := 4) C d_Sn_flow_1 rfl F_Sn_28 rfl (fun v1 => ?_)
  refine r_iload_n (q := 5) (i := 1) (pl := 1) C d_Sn_flow_4 rfl rfl rfl ?_
  refine r_iload_n (q := 6) (i := 2) (pl := 2) C d_Sn_flow_5 rfl rfl rfl ?_
  refine r_iload_n (q := 7) (i := 3) (pl := 3) C d_Sn_flow_6 rfl rfl rfl ?_
  refine r_cvR (q := 10) (As := [vI x1, vI x2, vI x3]) (st := []) (cy := 7) C d_Sn_flow_7 rfl Y_Tr_flowTo L_Sn_147 I_Tr_flowTo Se_Tr_flowTo rfl (by decide) rfl (Nat.le_of_ble_eq_true rfl) (Nat.le_of_ble_eq_true rfl) (Nat.le_of_ble_eq_true rfl) rfl (fun a2 => con_Tr_flowTo a2 x1 x2 x3) (fun v3 => ?_)
  refine r_astore (q := 12) (i := 5) (lv' := [(5, vA v3), (0, vA (some a)), (1, vI x1), (2, vI x2), (3, vI x3), (4, vI x4)]) C d_Sn_flow_10 rfl (by decide) rfl ?_
  refine r_aload (q := 14) (i := 5) (pl := 0) C d_Sn_flow_12 rfl rfl ?_
  refine r_ifnonnull (tgt := 21) (q := 17) C d_Sn_flow_14 (by decide) rfl ?_ ?_
  · refine r_aload (q := 23) (i := 5) (pl := 0) C d_Sn_flow_21 rfl rfl ?_
    refine r_iload (q := 25) (i := 4) (pl := 5) C d_Sn_flow_23 rfl rfl ?_
    refine r_cvI (q := 28) (As := [vI x4]) (st := []) (cy := 2) C d_Sn_flow_25 rfl Y_Fl_tell L_Sn_151 I_Fl_tell Se_Fl_tell rfl (by decide) rfl (Nat.le_of_ble_eq_true rfl) (Nat.le_of_ble_eq_true rfl) (Nat.le_of_ble_eq_true rfl) rfl (fun a4 => con_Fl_tell a4 x4) (fun v5 => ?_)
    refine r_sub (lv' := [(0, vA (some a))]) [1] rfl ?_
    exact s_Sn_flow_28 C a v5
  · refine r_iconst (q := 18) (v := -1) C d_Sn_flow_17 rfl (by decide) ?_
    refine r_goto (tgt := 28) C d_Sn_flow_18 (by decide) ?_
    refine r_sub (lv' := [(0, vA (some a))]) [1] rfl ?_
    exact s_Sn_flow_28 C a (-1 : Int32)
theorem d_Sn_next_0 : decode c_Sn_next 0 = .ok (.aload_n 0, 1) := by decide +kernel
theorem d_Sn_next_1 : decode c_Sn_next 1 = .ok (.getfield 28, 3) := by decide +kernel
theorem d_Sn_next_4 : decode c_Sn_next 4 = .ok (.iload_n 1, 1) := by decide +kernel
theorem d_Sn_next_5 : decode c_Sn_next 5 = .ok (.iload_n 2, 1) := by decide +kernel
theorem d_Sn_next_6 : decode c_Sn_next 6 = .ok (.iload_n 3, 1) := by decide +kernel
theorem d_Sn_next_7 : decode c_Sn_next 7 = .ok (.invokevirtual 154, 3) := by decide +kernel
theorem d_Sn_next_10 : decode c_Sn_next 10 = .ok (.ireturn, 1) := by decide +kernel
def f_Sn_next (a : Nat) (x1 : Int32) (x2 : Int32) (x3 : Int32) : sn_M := g_R 11 2 (some a) fun v1 => n_n 8 v1 fun a2 => c_I (f_Tr_tellWay a2 x1 x2 x3) fun v3 => r_I v3
set_option maxHeartbeats 4000000 in
set_option maxRecDepth 100000 in
theorem mono_Sn_next (a : Nat) (x1 : Int32) (x2 : Int32) (x3 : Int32) : sn_Mono (f_Sn_next a x1 x2 x3) := sn_Mono.gR (fun v1 => sn_Mono.nn (fun a2 => sn_Mono.cI (mono_Tr_tellWay a2 x1 x2 x3) (fun v3 => sn_Mono.rI)))
set_option maxHeartbeats 4000000 in
set_option maxRecDepth 100000 in
theorem con_Sn_next (a : Nat) (x1 : Int32) (x2 : Int32) (x3 : Int32) : sn_Con y_Sn_next c_Sn_next 4 (some .int) 3 77 [vA (some a), vI x1, vI x2, vI x3] (f_Sn_next a x1 x2 x3) := by
  refine sn_Con.of (by decide +kernel) (by show _ ≤ _; exact Nat.le_of_ble_eq_true rfl) (mono_Sn_next a x1 x2 x3) (fun X C => ?_)
  show sn_S X 0 [(0, vA (some a)), (1, vI x1), (2, vI x2), (3, vI x3)] [] _
  replace C : sn_Cx X c_Sn_next "SignalNetwork" (some .int) "next" 4 3 77 := C
  unfold f_Sn_next
  refine r_aload_n (q := 1) (i := 0) (pl := 0) C d_Sn_next_0 rfl rfl rfl ?_
  refine r_gR (q := 4) C d_Sn_next_1 rfl F_Sn_28 rfl (fun v1 => ?_)
  refine r_iload_n (q := 5) (i := 1) (pl := 1) C d_Sn_next_4 rfl rfl rfl ?_
  refine r_iload_n (q := 6) (i := 2) (pl := 2) C d_Sn_next_5 rfl rfl rfl ?_
  refine r_iload_n (q := 7) (i := 3) (pl := 3) C d_Sn_next_6 rfl rfl rfl ?_
  refine r_cvI (q := 10) (As := [vI x1, vI x2, vI x3]) (st := []) (cy := 7) C d_Sn_next_7 rfl Y_Tr_tellWay L_Sn_154 I_Tr_tellWay Se_Tr_tellWay rfl (by decide) rfl (Nat.le_of_ble_eq_true rfl) (Nat.le_of_ble_eq_true rfl) (Nat.le_of_ble_eq_true rfl) rfl (fun a2 => con_Tr_tellWay a2 x1 x2 x3) (fun v3 => ?_)
  exact r_iret C d_Sn_next_10 rfl
theorem d_Sn_circuit_0 : decode c_Sn_circuit 0 = .ok (.aload_n 0, 1) := by decide +kernel
theorem d_Sn_circuit_1 : decode c_Sn_circuit 1 = .ok (.getfield 35, 3) := by decide +kernel
theorem d_Sn_circuit_4 : decode c_Sn_circuit 4 = .ok (.iload_n 1, 1) := by decide +kernel
theorem d_Sn_circuit_5 : decode c_Sn_circuit 5 = .ok (.iload_n 2, 1) := by decide +kernel
theorem d_Sn_circuit_6 : decode c_Sn_circuit 6 = .ok (.iload_n 3, 1) := by decide +kernel
theorem d_Sn_circuit_7 : decode c_Sn_circuit 7 = .ok (.invokevirtual 158, 3) := by decide +kernel
theorem d_Sn_circuit_10 : decode c_Sn_circuit 10 = .ok (.astore 5, 2) := by decide +kernel
theorem d_Sn_circuit_12 : decode c_Sn_circuit 12 = .ok (.aload 5, 2) := by decide +kernel
theorem d_Sn_circuit_14 : decode c_Sn_circuit 14 = .ok (.ifnonnull 7, 3) := by decide +kernel
theorem d_Sn_circuit_17 : decode c_Sn_circuit 17 = .ok (.iconst (-1), 1) := by decide +kernel
theorem d_Sn_circuit_18 : decode c_Sn_circuit 18 = .ok (.goto 14, 3) := by decide +kernel
theorem d_Sn_circuit_21 : decode c_Sn_circuit 21 = .ok (.aload 5, 2) := by decide +kernel
theorem d_Sn_circuit_23 : decode c_Sn_circuit 23 = .ok (.iload 4, 2) := by decide +kernel
theorem d_Sn_circuit_25 : decode c_Sn_circuit 25 = .ok (.aload_n 0, 1) := by decide +kernel
theorem d_Sn_circuit_26 : decode c_Sn_circuit 26 = .ok (.getfield 12, 3) := by decide +kernel
theorem d_Sn_circuit_29 : decode c_Sn_circuit 29 = .ok (.invokevirtual 162, 3) := by decide +kernel
theorem d_Sn_circuit_32 : decode c_Sn_circuit 32 = .ok (.ireturn, 1) := by decide +kernel
def f_Sn_circuit_32 (a : Nat) (t0 : Int32) : sn_M := r_I t0
set_option maxHeartbeats 4000000 in
set_option maxRecDepth 100000 in
theorem mono_Sn_circuit_32 (a : Nat) (t0 : Int32) : sn_Mono (f_Sn_circuit_32 a t0) := sn_Mono.rI
set_option maxHeartbeats 4000000 in
set_option maxRecDepth 100000 in
theorem s_Sn_circuit_32 {X : sn_X} (C : sn_Cx X c_Sn_circuit "SignalNetwork" (some .int) "circuit" 6 4 82) (a : Nat) (t0 : Int32) : sn_S X 32 [(0, vA (some a))] [vI t0] (f_Sn_circuit_32 a t0) := by
  unfold f_Sn_circuit_32
  exact r_iret C d_Sn_circuit_32 rfl
def f_Sn_circuit (a : Nat) (x1 : Int32) (x2 : Int32) (x3 : Int32) (x4 : Int32) : sn_M := g_R 11 3 (some a) fun v1 => n_n 7 v1 fun a2 => c_R (f_Sw_circuitAt a2 x1 x2 x3) fun v3 => (if ¬ v3 = none then g_R 11 0 (some a) fun v4 => n_n 4 v3 fun a5 => c_I (f_Lg_tellCircuit a5 x4 v4) fun v6 => f_Sn_circuit_32 a v6 else f_Sn_circuit_32 a (-1 : Int32))
set_option maxHeartbeats 4000000 in
set_option maxRecDepth 100000 in
theorem mono_Sn_circuit (a : Nat) (x1 : Int32) (x2 : Int32) (x3 : Int32) (x4 : Int32) : sn_Mono (f_Sn_circuit a x1 x2 x3 x4) := sn_Mono.gR (fun v1 => sn_Mono.nn (fun a2 => sn_Mono.cR (mono_Sw_circuitAt a2 x1 x2 x3) (fun v3 => sn_Mono.ite (sn_Mono.gR (fun v4 => sn_Mono.nn (fun a5 => sn_Mono.cI (mono_Lg_tellCircuit a5 x4 v4) (fun v6 => mono_Sn_circuit_32 a v6)))) (mono_Sn_circuit_32 a (-1 : Int32)))))
set_option maxHeartbeats 4000000 in
set_option maxRecDepth 100000 in
theorem con_Sn_circuit (a : Nat) (x1 : Int32) (x2 : Int32) (x3 : Int32) (x4 : Int32) : sn_Con y_Sn_circuit c_Sn_circuit 6 (some .int) 4 82 [vA (some a), vI x1, vI x2, vI x3, vI x4] (f_Sn_circuit a x1 x2 x3 x4) := by
  refine sn_Con.of (by decide +kernel) (by show _ ≤ _; exact Nat.le_of_ble_eq_true rfl) (mono_Sn_circuit a x1 x2 x3 x4) (fun X C => ?_)
  show sn_S X 0 [(0, vA (some a)), (1, vI x1), (2, vI x2), (3, vI x3), (4, vI x4)] [] _
  replace C : sn_Cx X c_Sn_circuit "SignalNetwork" (some .int) "circuit" 6 4 82 := C
  unfold f_Sn_circuit
  refine r_aload_n (q := 1) (i := 0) (pl := 0) C d_Sn_circuit_0 rfl rfl rfl ?_
  refine r_gR (q := 4) C d_Sn_circuit_1 rfl F_Sn_35 rfl (fun v1 => ?_)
  refine r_iload_n (q := 5) (i := 1) (pl := 1) C d_Sn_circuit_4 rfl rfl rfl ?_
  refine r_iload_n (q := 6) (i := 2) (pl := 2) C d_Sn_circuit_5 rfl rfl rfl ?_
  refine r_iload_n (q := 7) (i := 3) (pl := 3) C d_Sn_circuit_6 rfl rfl rfl ?_
  refine r_cvR (q := 10) (As := [vI x1, vI x2, vI x3]) (st := []) (cy := 6) C d_Sn_circuit_7 rfl Y_Sw_circuitAt L_Sn_158 I_Sw_circuitAt Se_Sw_circuitAt rfl (by decide) rfl (Nat.le_of_ble_eq_true rfl) (Nat.le_of_ble_eq_true rfl) (Nat.le_of_ble_eq_true rfl) rfl (fun a2 => con_Sw_circuitAt a2 x1 x2 x3) (fun v3 => ?_)
  refine r_astore (q := 12) (i := 5) (lv' := [(5, vA v3), (0, vA (some a)), (1, vI x1), (2, vI x2), (3, vI x3), (4, vI x4)]) C d_Sn_circuit_10 rfl (by decide) rfl ?_
  refine r_aload (q := 14) (i := 5) (pl := 0) C d_Sn_circuit_12 rfl rfl ?_
  refine r_ifnonnull (tgt := 21) (q := 17) C d_Sn_circuit_14 (by decide) rfl ?_ ?_
  · refine r_aload (q := 23) (i := 5) (pl := 0) C d_Sn_circuit_21 rfl rfl ?_
    refine r_iload (q := 25) (i := 4) (pl := 5) C d_Sn_circuit_23 rfl rfl ?_
    refine r_aload_n (q := 26) (i := 0) (pl := 1) C d_Sn_circuit_25 rfl rfl rfl ?_
    refine r_gR (q := 29) C d_Sn_circuit_26 rfl F_Sn_12 rfl (fun v4 => ?_)
    refine r_cvI (q := 32) (As := [vI x4, vA v4]) (st := []) (cy := 3) C d_Sn_circuit_29 rfl Y_Lg_tellCircuit L_Sn_162 I_Lg_tellCircuit Se_Lg_tellCircuit rfl (by decide) rfl (Nat.le_of_ble_eq_true rfl) (Nat.le_of_ble_eq_true rfl) (Nat.le_of_ble_eq_true rfl) rfl (fun a5 => con_Lg_tellCircuit a5 x4 v4) (fun v6 => ?_)
    refine r_sub (lv' := [(0, vA (some a))]) [1] rfl ?_
    exact s_Sn_circuit_32 C a v6
  · refine r_iconst (q := 18) (v := -1) C d_Sn_circuit_17 rfl (by decide) ?_
    refine r_goto (tgt := 32) C d_Sn_circuit_18 (by decide) ?_
    refine r_sub (lv' := [(0, vA (some a))]) [1] rfl ?_
    exact s_Sn_circuit_32 C a (-1 : Int32)
theorem d_Sn_subscriber_0 : decode c_Sn_subscriber 0 = .ok (.aload_n 0, 1) := by decide +kernel
theorem d_Sn_subscriber_1 : decode c_Sn_subscriber 1 = .ok (.getfield 35, 3) := by decide +kernel
theorem d_Sn_subscriber_4 : decode c_Sn_subscriber 4 = .ok (.iload_n 1, 1) := by decide +kernel
theorem d_Sn_subscriber_5 : decode c_Sn_subscriber 5 = .ok (.invokevirtual 168, 3) := by decide +kernel
theorem d_Sn_subscriber_8 : decode c_Sn_subscriber 8 = .ok (.astore_n 3, 1) := by decide +kernel
theorem d_Sn_subscriber_9 : decode c_Sn_subscriber 9 = .ok (.aload_n 3, 1) := by decide +kernel
theorem d_Sn_subscriber_10 : decode c_Sn_subscriber 10 = .ok (.ifnonnull 5, 3) := by decide +kernel
theorem d_Sn_subscriber_13 : decode c_Sn_subscriber 13 = .ok (.iconst (-1), 1) := by decide +kernel
theorem d_Sn_subscriber_14 : decode c_Sn_subscriber 14 = .ok (.ireturn, 1) := by decide +kernel
theorem d_Sn_subscriber_15 : decode c_Sn_subscriber 15 = .ok (.iload_n 2, 1) := by decide +kernel
theorem d_Sn_subscriber_16 : decode c_Sn_subscriber 16 = .ok (.tableswitch 47 0 2 #[28, 33, 38], 28) := by decide +kernel
theorem d_Sn_subscriber_44 : decode c_Sn_subscriber 44 = .ok (.aload_n 3, 1) := by decide +kernel
theorem d_Sn_subscriber_45 : decode c_Sn_subscriber 45 = .ok (.getfield 172, 3) := by decide +kernel
theorem d_Sn_subscriber_48 : decode c_Sn_subscriber 48 = .ok (.ireturn, 1) := by decide +kernel
theorem d_Sn_subscriber_49 : decode c_Sn_subscriber 49 = .ok (.aload_n 3, 1) := by decide +kernel
theorem d_Sn_subscriber_50 : decode c_Sn_subscriber 50 = .ok (.invokevirtual 175, 3) := by decide +kernel
theorem d_Sn_subscriber_53 : decode c_Sn_subscriber 53 = .ok (.ireturn, 1) := by decide +kernel
theorem d_Sn_subscriber_54 : decode c_Sn_subscriber 54 = .ok (.aload_n 0, 1) := by decide +kernel
theorem d_Sn_subscriber_55 : decode c_Sn_subscriber 55 = .ok (.getfield 35, 3) := by decide +kernel
theorem d_Sn_subscriber_58 : decode c_Sn_subscriber 58 = .ok (.aload_n 3, 1) := by decide +kernel
theorem d_Sn_subscriber_59 : decode c_Sn_subscriber 59 = .ok (.invokevirtual 179, 3) := by decide +kernel
theorem d_Sn_subscriber_62 : decode c_Sn_subscriber 62 = .ok (.ireturn, 1) := by decide +kernel
theorem d_Sn_subscriber_63 : decode c_Sn_subscriber 63 = .ok (.iconst (-1), 1) := by decide +kernel
theorem d_Sn_subscriber_64 : decode c_Sn_subscriber 64 = .ok (.ireturn, 1) := by decide +kernel
def f_Sn_subscriber (a : Nat) (x1 : Int32) (x2 : Int32) : sn_M := g_R 11 3 (some a) fun v1 => n_n 7 v1 fun a2 => c_R (f_Sw_subscriberAt a2 x1) fun v3 => (if ¬ v3 = none then (sn_sw x2 [0, 1, 2] [(g_I 4 3 v3 fun v4 => r_I v4), (n_n 4 v3 fun a5 => c_I (f_Lg_joinedCode a5) fun v6 => r_I v6), (g_R 11 3 (some a) fun v7 => n_n 7 v7 fun a8 => c_I (f_Sw_talksWith a8 v3) fun v9 => r_I v9)] (r_I (-1 : Int32))) else r_I (-1 : Int32))
set_option maxHeartbeats 4000000 in
set_option maxRecDepth 100000 in
theorem mono_Sn_subscriber (a : Nat) (x1 : Int32) (x2 : Int32) : sn_Mono (f_Sn_subscriber a x1 x2) := sn_Mono.gR (fun v1 => sn_Mono.nn (fun a2 => sn_Mono.cR (mono_Sw_subscriberAt a2 x1) (fun v3 => sn_Mono.ite (sn_sw_mono (sn_Mono.rI) _ _ (List.forall_mem_cons.mpr ⟨sn_Mono.gI (fun v4 => sn_Mono.rI), (List.forall_mem_cons.mpr ⟨sn_Mono.nn (fun a5 => sn_Mono.cI (mono_Lg_joinedCode a5) (fun v6 => sn_Mono.rI)), (List.forall_mem_cons.mpr ⟨sn_Mono.gR (fun v7 => sn_Mono.nn (fun a8 => sn_Mono.cI (mono_Sw_talksWith a8 v3) (fun v9 => sn_Mono.rI))), (fun _ h => absurd h List.not_mem_nil)⟩)⟩)⟩)) (sn_Mono.rI))))
set_option maxHeartbeats 4000000 in
set_option maxRecDepth 100000 in
theorem con_Sn_subscriber (a : Nat) (x1 : Int32) (x2 : Int32) : sn_Con y_Sn_subscriber c_Sn_subscriber 4 (some .int) 3 65 [vA (some a), vI x1, vI x2] (f_Sn_subscriber a x1 x2) := by
  refine sn_Con.of (by decide +kernel) (by show _ ≤ _; exact Nat.le_of_ble_eq_true rfl) (mono_Sn_subscriber a x1 x2) (fun X C => ?_)
  show sn_S X 0 [(0, vA (some a)), (1, vI x1), (2, vI x2)] [] _
  replace C : sn_Cx X c_Sn_subscriber "SignalNetwork" (some .int) "subscriber" 4 3 65 := C
  unfold f_Sn_subscriber
  refine r_aload_n (q := 1) (i := 0) (pl := 0) C d_Sn_subscriber_0 rfl rfl rfl ?_
  refine r_gR (q := 4) C d_Sn_subscriber_1 rfl F_Sn_35 rfl (fun v1 => ?_)
  refine r_iload_n (q := 5) (i := 1) (pl := 1) C d_Sn_subscriber_4 rfl rfl rfl ?_
  refine r_cvR (q := 8) (As := [vI x1]) (st := []) (cy := 6) C d_Sn_subscriber_5 rfl Y_Sw_subscriberAt L_Sn_168 I_Sw_subscriberAt Se_Sw_subscriberAt rfl (by decide) rfl (Nat.le_of_ble_eq_true rfl) (Nat.le_of_ble_eq_true rfl) (Nat.le_of_ble_eq_true rfl) rfl (fun a2 => con_Sw_subscriberAt a2 x1) (fun v3 => ?_)
  refine r_astore_n (q := 9) (i := 3) (lv' := [(3, vA v3), (0, vA (some a)), (1, vI x1), (2, vI x2)]) C d_Sn_subscriber_8 rfl rfl (by decide) rfl ?_
  refine r_aload_n (q := 10) (i := 3) (pl := 0) C d_Sn_subscriber_9 rfl rfl rfl ?_
  refine r_ifnonnull (tgt := 15) (q := 13) C d_Sn_subscriber_10 (by decide) rfl ?_ ?_
  · refine r_iload_n (q := 16) (i := 2) (pl := 3) C d_Sn_subscriber_15 rfl rfl rfl ?_
    refine r_table (tD := 63) (ks := [0, 1, 2]) (ts := [44, 49, 54]) C d_Sn_subscriber_16 (by decide) (by decide) rfl ?_ ⟨?_, ?_, ?_, trivial⟩
    · refine r_iconst (q := 64) (v := -1) C d_Sn_subscriber_63 rfl (by decide) ?_
      exact r_iret C d_Sn_subscriber_64 rfl
    · refine r_aload_n (q := 45) (i := 3) (pl := 0) C d_Sn_subscriber_44 rfl rfl rfl ?_
      refine r_gI (q := 48) C d_Sn_subscriber_45 rfl F_Sn_172 rfl (fun v4 => ?_)
      exact r_iret C d_Sn_subscriber_48 rfl
    · refine r_aload_n (q := 50) (i := 3) (pl := 0) C d_Sn_subscriber_49 rfl rfl rfl ?_
      refine r_cvI (q := 53) (As := []) (st := []) (cy := 3) C d_Sn_subscriber_50 rfl Y_Lg_joinedCode L_Sn_175 I_Lg_joinedCode Se_Lg_joinedCode rfl (by decide) rfl (Nat.le_of_ble_eq_true rfl) (Nat.le_of_ble_eq_true rfl) (Nat.le_of_ble_eq_true rfl) rfl (fun a5 => con_Lg_joinedCode a5) (fun v6 => ?_)
      exact r_iret C d_Sn_subscriber_53 rfl
    · refine r_aload_n (q := 55) (i := 0) (pl := 1) C d_Sn_subscriber_54 rfl rfl rfl ?_
      refine r_gR (q := 58) C d_Sn_subscriber_55 rfl F_Sn_35 rfl (fun v7 => ?_)
      refine r_aload_n (q := 59) (i := 3) (pl := 0) C d_Sn_subscriber_58 rfl rfl rfl ?_
      refine r_cvI (q := 62) (As := [vA v3]) (st := []) (cy := 6) C d_Sn_subscriber_59 rfl Y_Sw_talksWith L_Sn_179 I_Sw_talksWith Se_Sw_talksWith rfl (by decide) rfl (Nat.le_of_ble_eq_true rfl) (Nat.le_of_ble_eq_true rfl) (Nat.le_of_ble_eq_true rfl) rfl (fun a8 => con_Sw_talksWith a8 v3) (fun v9 => ?_)
      exact r_iret C d_Sn_subscriber_62 rfl
  · refine r_iconst (q := 14) (v := -1) C d_Sn_subscriber_13 rfl (by decide) ?_
    exact r_iret C d_Sn_subscriber_14 rfl
theorem d_Sn_counted_0 : decode c_Sn_counted 0 = .ok (.iload_n 1, 1) := by decide +kernel
theorem d_Sn_counted_1 : decode c_Sn_counted 1 = .ok (.tableswitch 63 0 3 #[31, 39, 47, 55], 31) := by decide +kernel
theorem d_Sn_counted_32 : decode c_Sn_counted 32 = .ok (.aload_n 0, 1) := by decide +kernel
theorem d_Sn_counted_33 : decode c_Sn_counted 33 = .ok (.getfield 12, 3) := by decide +kernel
theorem d_Sn_counted_36 : decode c_Sn_counted 36 = .ok (.getfield 120, 3) := by decide +kernel
theorem d_Sn_counted_39 : decode c_Sn_counted 39 = .ok (.ireturn, 1) := by decide +kernel
theorem d_Sn_counted_40 : decode c_Sn_counted 40 = .ok (.aload_n 0, 1) := by decide +kernel
theorem d_Sn_counted_41 : decode c_Sn_counted 41 = .ok (.getfield 28, 3) := by decide +kernel
theorem d_Sn_counted_44 : decode c_Sn_counted 44 = .ok (.getfield 183, 3) := by decide +kernel
theorem d_Sn_counted_47 : decode c_Sn_counted 47 = .ok (.ireturn, 1) := by decide +kernel
theorem d_Sn_counted_48 : decode c_Sn_counted 48 = .ok (.aload_n 0, 1) := by decide +kernel
theorem d_Sn_counted_49 : decode c_Sn_counted 49 = .ok (.getfield 28, 3) := by decide +kernel
theorem d_Sn_counted_52 : decode c_Sn_counted 52 = .ok (.getfield 186, 3) := by decide +kernel
theorem d_Sn_counted_55 : decode c_Sn_counted 55 = .ok (.ireturn, 1) := by decide +kernel
theorem d_Sn_counted_56 : decode c_Sn_counted 56 = .ok (.aload_n 0, 1) := by decide +kernel
theorem d_Sn_counted_57 : decode c_Sn_counted 57 = .ok (.getfield 28, 3) := by decide +kernel
theorem d_Sn_counted_60 : decode c_Sn_counted 60 = .ok (.getfield 189, 3) := by decide +kernel
theorem d_Sn_counted_63 : decode c_Sn_counted 63 = .ok (.ireturn, 1) := by decide +kernel
theorem d_Sn_counted_64 : decode c_Sn_counted 64 = .ok (.iconst (-1), 1) := by decide +kernel
theorem d_Sn_counted_65 : decode c_Sn_counted 65 = .ok (.ireturn, 1) := by decide +kernel
def f_Sn_counted (a : Nat) (x1 : Int32) : sn_M := (sn_sw x1 [0, 1, 2, 3] [(g_R 11 0 (some a) fun v1 => g_I 1 0 v1 fun v2 => r_I v2), (g_R 11 2 (some a) fun v3 => g_I 8 7 v3 fun v4 => r_I v4), (g_R 11 2 (some a) fun v5 => g_I 8 8 v5 fun v6 => r_I v6), (g_R 11 2 (some a) fun v7 => g_I 8 9 v7 fun v8 => r_I v8)] (r_I (-1 : Int32)))
set_option maxHeartbeats 4000000 in
set_option maxRecDepth 100000 in
theorem mono_Sn_counted (a : Nat) (x1 : Int32) : sn_Mono (f_Sn_counted a x1) := sn_sw_mono (sn_Mono.rI) _ _ (List.forall_mem_cons.mpr ⟨sn_Mono.gR (fun v1 => sn_Mono.gI (fun v2 => sn_Mono.rI)), (List.forall_mem_cons.mpr ⟨sn_Mono.gR (fun v3 => sn_Mono.gI (fun v4 => sn_Mono.rI)), (List.forall_mem_cons.mpr ⟨sn_Mono.gR (fun v5 => sn_Mono.gI (fun v6 => sn_Mono.rI)), (List.forall_mem_cons.mpr ⟨sn_Mono.gR (fun v7 => sn_Mono.gI (fun v8 => sn_Mono.rI)), (fun _ h => absurd h List.not_mem_nil)⟩)⟩)⟩)⟩)
set_option maxHeartbeats 4000000 in
set_option maxRecDepth 100000 in
theorem con_Sn_counted (a : Nat) (x1 : Int32) : sn_Con y_Sn_counted c_Sn_counted 2 (some .int) 0 0 [vA (some a), vI x1] (f_Sn_counted a x1) := by
  refine sn_Con.of (by decide +kernel) (by show _ ≤ _; exact Nat.le_of_ble_eq_true rfl) (mono_Sn_counted a x1) (fun X C => ?_)
  show sn_S X 0 [(0, vA (some a)), (1, vI x1)] [] _
  replace C : sn_Cx X c_Sn_counted "SignalNetwork" (some .int) "counted" 2 0 0 := C
  unfold f_Sn_counted
  refine r_iload_n (q := 1) (i := 1) (pl := 1) C d_Sn_counted_0 rfl rfl rfl ?_
  refine r_table (tD := 64) (ks := [0, 1, 2, 3]) (ts := [32, 40, 48, 56]) C d_Sn_counted_1 (by decide) (by decide) rfl ?_ ⟨?_, ?_, ?_, ?_, trivial⟩
  · refine r_iconst (q := 65) (v := -1) C d_Sn_counted_64 rfl (by decide) ?_
    exact r_iret C d_Sn_counted_65 rfl
  · refine r_aload_n (q := 33) (i := 0) (pl := 0) C d_Sn_counted_32 rfl rfl rfl ?_
    refine r_gR (q := 36) C d_Sn_counted_33 rfl F_Sn_12 rfl (fun v1 => ?_)
    refine r_gI (q := 39) C d_Sn_counted_36 rfl F_Sn_120 rfl (fun v2 => ?_)
    exact r_iret C d_Sn_counted_39 rfl
  · refine r_aload_n (q := 41) (i := 0) (pl := 0) C d_Sn_counted_40 rfl rfl rfl ?_
    refine r_gR (q := 44) C d_Sn_counted_41 rfl F_Sn_28 rfl (fun v3 => ?_)
    refine r_gI (q := 47) C d_Sn_counted_44 rfl F_Sn_183 rfl (fun v4 => ?_)
    exact r_iret C d_Sn_counted_47 rfl
  · refine r_aload_n (q := 49) (i := 0) (pl := 0) C d_Sn_counted_48 rfl rfl rfl ?_
    refine r_gR (q := 52) C d_Sn_counted_49 rfl F_Sn_28 rfl (fun v5 => ?_)
    refine r_gI (q := 55) C d_Sn_counted_52 rfl F_Sn_186 rfl (fun v6 => ?_)
    exact r_iret C d_Sn_counted_55 rfl
  · refine r_aload_n (q := 57) (i := 0) (pl := 0) C d_Sn_counted_56 rfl rfl rfl ?_
    refine r_gR (q := 60) C d_Sn_counted_57 rfl F_Sn_28 rfl (fun v7 => ?_)
    refine r_gI (q := 63) C d_Sn_counted_60 rfl F_Sn_189 rfl (fun v8 => ?_)
    exact r_iret C d_Sn_counted_63 rfl
