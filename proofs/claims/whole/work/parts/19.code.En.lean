theorem d_En_init_0 : decode c_En_init 0 = .ok (.aload_n 0, 1) := by decide +kernel
theorem d_En_init_1 : decode c_En_init 1 = .ok (.invokespecial 3, 3) := by decide +kernel
theorem d_En_init_4 : decode c_En_init 4 = .ok (.aload_n 0, 1) := by decide +kernel
theorem d_En_init_5 : decode c_En_init 5 = .ok (.new 9, 3) := by decide +kernel
theorem d_En_init_8 : decode c_En_init 8 = .ok (.dup, 1) := by decide +kernel
theorem d_En_init_9 : decode c_En_init 9 = .ok (.invokespecial 11, 3) := by decide +kernel
theorem d_En_init_12 : decode c_En_init 12 = .ok (.putfield 12, 3) := by decide +kernel
theorem d_En_init_15 : decode c_En_init 15 = .ok (.aload_n 0, 1) := by decide +kernel
theorem d_En_init_16 : decode c_En_init 16 = .ok (.iconst 0, 1) := by decide +kernel
theorem d_En_init_17 : decode c_En_init 17 = .ok (.putfield 18, 3) := by decide +kernel
theorem d_En_init_20 : decode c_En_init 20 = .ok (.aload_n 0, 1) := by decide +kernel
theorem d_En_init_21 : decode c_En_init 21 = .ok (.iload_n 1, 1) := by decide +kernel
theorem d_En_init_22 : decode c_En_init 22 = .ok (.putfield 22, 3) := by decide +kernel
theorem d_En_init_25 : decode c_En_init 25 = .ok (.aload_n 0, 1) := by decide +kernel
theorem d_En_init_26 : decode c_En_init 26 = .ok (.iload_n 2, 1) := by decide +kernel
theorem d_En_init_27 : decode c_En_init 27 = .ok (.putfield 25, 3) := by decide +kernel
theorem d_En_init_30 : decode c_En_init 30 = .ok (.aload_n 0, 1) := by decide +kernel
theorem d_En_init_31 : decode c_En_init 31 = .ok (.iload_n 3, 1) := by decide +kernel
theorem d_En_init_32 : decode c_En_init 32 = .ok (.putfield 28, 3) := by decide +kernel
theorem d_En_init_35 : decode c_En_init 35 = .ok (.aload_n 0, 1) := by decide +kernel
theorem d_En_init_36 : decode c_En_init 36 = .ok (.aload 4, 2) := by decide +kernel
theorem d_En_init_38 : decode c_En_init 38 = .ok (.putfield 31, 3) := by decide +kernel
theorem d_En_init_41 : decode c_En_init 41 = .ok (.aload_n 0, 1) := by decide +kernel
theorem d_En_init_42 : decode c_En_init 42 = .ok (.new 35, 3) := by decide +kernel
theorem d_En_init_45 : decode c_En_init 45 = .ok (.dup, 1) := by decide +kernel
theorem d_En_init_46 : decode c_En_init 46 = .ok (.aload 4, 2) := by decide +kernel
theorem d_En_init_48 : decode c_En_init 48 = .ok (.invokespecial 37, 3) := by decide +kernel
theorem d_En_init_51 : decode c_En_init 51 = .ok (.putfield 40, 3) := by decide +kernel
theorem d_En_init_54 : decode c_En_init 54 = .ok (.return_, 1) := by decide +kernel
def f_En_init (a : Nat) (x1 : Int32) (x2 : Int32) (x3 : Int32) (r4 : Option Nat) : sn_M := n_O 9 7 fun v1 => n_n 9 v1 fun o2 => c_V (f_Un_init o2) (p_R 2 5 (some a) v1 (p_I 2 7 (some a) (0 : Int32) (p_I 2 1 (some a) x1 (p_I 2 2 (some a) x2 (p_I 2 3 (some a) x3 (p_R 2 0 (some a) r4 (n_O 10 9 fun v3 => n_n 10 v3 fun o4 => c_V (f_Wi_init o4 r4) (p_R 2 4 (some a) v3 (r_V)))))))))
set_option maxHeartbeats 4000000 in
set_option maxRecDepth 100000 in
theorem mono_En_init (a : Nat) (x1 : Int32) (x2 : Int32) (x3 : Int32) (r4 : Option Nat) : sn_Mono (f_En_init a x1 x2 x3 r4) := sn_Mono.nO (fun v1 => sn_Mono.nn (fun o2 => sn_Mono.cV (mono_Un_init o2) (sn_Mono.pR (sn_Mono.pI (sn_Mono.pI (sn_Mono.pI (sn_Mono.pI (sn_Mono.pR (sn_Mono.nO (fun v3 => sn_Mono.nn (fun o4 => sn_Mono.cV (mono_Wi_init o4 r4) (sn_Mono.pR (sn_Mono.rV)))))))))))))
set_option maxHeartbeats 4000000 in
set_option maxRecDepth 100000 in
theorem con_En_init (a : Nat) (x1 : Int32) (x2 : Int32) (x3 : Int32) (r4 : Option Nat) : sn_Con y_En_init c_En_init 5 none 3 63 [vA (some a), vI x1, vI x2, vI x3, vA r4] (f_En_init a x1 x2 x3 r4) := by
  refine sn_Con.of (by decide +kernel) (by show _ ≤ _; exact Nat.le_of_ble_eq_true rfl) (mono_En_init a x1 x2 x3 r4) (fun X C => ?_)
  show sn_S X 0 [(0, vA (some a)), (1, vI x1), (2, vI x2), (3, vI x3), (4, vA r4)] [] _
  replace C : sn_Cx X c_En_init "SignalNetwork$End" none "<init>" 5 3 63 := C
  unfold f_En_init
  refine r_aload_n (q := 1) (i := 0) (pl := 0) C d_En_init_0 rfl rfl rfl ?_
  refine r_objInit (q := 4) C d_En_init_1 rfl LO_En_3 W_oi W_oc (by decide) (by decide) a rfl ?_
  refine r_aload_n (q := 5) (i := 0) (pl := 0) C d_En_init_4 rfl rfl rfl ?_
  refine r_new (q := 8) C d_En_init_5 rfl CF9 C_En_9 In_Un Ii_Un (fun v1 => ?_)
  refine r_dup (q := 9) C d_En_init_8 rfl rfl ?_
  refine r_cnV (q := 12) (As := []) (st := [vA v1, vA (some a)]) (cy := 8) C d_En_init_9 rfl Y_Un_init NL_En I_Un_init rfl rfl rfl (Nat.le_of_ble_eq_true rfl) (Nat.le_of_ble_eq_true rfl) (Nat.le_of_ble_eq_true rfl) rfl (fun o2 => con_Un_init o2) ?_
  refine r_pR (q := 15) C d_En_init_12 rfl F_En_12 rfl (Or.inl ⟨_, rfl⟩) (Or.inr ⟨rfl, _, _, rfl⟩) ?_
  refine r_aload_n (q := 16) (i := 0) (pl := 0) C d_En_init_15 rfl rfl rfl ?_
  refine r_iconst (q := 17) (v := 0) C d_En_init_16 rfl (by decide) ?_
  refine r_pI (q := 20) C d_En_init_17 rfl F_En_18 rfl rfl (Or.inl rfl) ?_
  refine r_aload_n (q := 21) (i := 0) (pl := 0) C d_En_init_20 rfl rfl rfl ?_
  refine r_iload_n (q := 22) (i := 1) (pl := 1) C d_En_init_21 rfl rfl rfl ?_
  refine r_pI (q := 25) C d_En_init_22 rfl F_En_22 rfl rfl (Or.inr ⟨rfl, _, _, rfl⟩) ?_
  refine r_aload_n (q := 26) (i := 0) (pl := 0) C d_En_init_25 rfl rfl rfl ?_
  refine r_iload_n (q := 27) (i := 2) (pl := 2) C d_En_init_26 rfl rfl rfl ?_
  refine r_pI (q := 30) C d_En_init_27 rfl F_En_25 rfl rfl (Or.inr ⟨rfl, _, _, rfl⟩) ?_
  refine r_aload_n (q := 31) (i := 0) (pl := 0) C d_En_init_30 rfl rfl rfl ?_
  refine r_iload_n (q := 32) (i := 3) (pl := 3) C d_En_init_31 rfl rfl rfl ?_
  refine r_pI (q := 35) C d_En_init_32 rfl F_En_28 rfl rfl (Or.inr ⟨rfl, _, _, rfl⟩) ?_
  refine r_aload_n (q := 36) (i := 0) (pl := 0) C d_En_init_35 rfl rfl rfl ?_
  refine r_aload (q := 38) (i := 4) (pl := 4) C d_En_init_36 rfl rfl ?_
  refine r_pR (q := 41) C d_En_init_38 rfl F_En_31 rfl (Or.inl ⟨_, rfl⟩) (Or.inr ⟨rfl, _, _, rfl⟩) ?_
  refine r_aload_n (q := 42) (i := 0) (pl := 0) C d_En_init_41 rfl rfl rfl ?_
  refine r_new (q := 45) C d_En_init_42 rfl CF10 C_En_35 In_Wi Ii_Wi (fun v3 => ?_)
  refine r_dup (q := 46) C d_En_init_45 rfl rfl ?_
  refine r_aload (q := 48) (i := 4) (pl := 4) C d_En_init_46 rfl rfl ?_
  refine r_ciV (q := 51) (As := [vA r4]) (st := [vA v3, vA (some a)]) (cy := 9) C d_En_init_48 rfl Y_Wi_init L_En_37 I_Wi_init rfl rfl rfl (Nat.le_of_ble_eq_true rfl) (Nat.le_of_ble_eq_true rfl) (Nat.le_of_ble_eq_true rfl) rfl (fun o4 => con_Wi_init o4 r4) ?_
  refine r_pR (q := 54) C d_En_init_51 rfl F_En_40 rfl (Or.inl ⟨_, rfl⟩) (Or.inr ⟨rfl, _, _, rfl⟩) ?_
  exact r_vret C d_En_init_54 rfl
theorem d_En_enter_0 : decode c_En_enter 0 = .ok (.aload_n 0, 1) := by decide +kernel
theorem d_En_enter_1 : decode c_En_enter 1 = .ok (.iload_n 1, 1) := by decide +kernel
theorem d_En_enter_2 : decode c_En_enter 2 = .ok (.putfield 18, 3) := by decide +kernel
theorem d_En_enter_5 : decode c_En_enter 5 = .ok (.aload_n 0, 1) := by decide +kernel
theorem d_En_enter_6 : decode c_En_enter 6 = .ok (.aload_n 0, 1) := by decide +kernel
theorem d_En_enter_7 : decode c_En_enter 7 = .ok (.getfield 31, 3) := by decide +kernel
theorem d_En_enter_10 : decode c_En_enter 10 = .ok (.iload_n 2, 1) := by decide +kernel
theorem d_En_enter_11 : decode c_En_enter 11 = .ok (.invokevirtual 55, 3) := by decide +kernel
theorem d_En_enter_14 : decode c_En_enter 14 = .ok (.putfield 61, 3) := by decide +kernel
theorem d_En_enter_17 : decode c_En_enter 17 = .ok (.return_, 1) := by decide +kernel
def f_En_enter (a : Nat) (x1 : Int32) (x2 : Int32) : sn_M := p_I 2 7 (some a) x1 (g_R 2 0 (some a) fun v1 => n_n 1 v1 fun a2 => c_I (f_Ck_after a2 x2) fun v3 => p_I 2 8 (some a) v3 (r_V))
set_option maxHeartbeats 4000000 in
set_option maxRecDepth 100000 in
theorem mono_En_enter (a : Nat) (x1 : Int32) (x2 : Int32) : sn_Mono (f_En_enter a x1 x2) := sn_Mono.pI (sn_Mono.gR (fun v1 => sn_Mono.nn (fun a2 => sn_Mono.cI (mono_Ck_after a2 x2) (fun v3 => sn_Mono.pI (sn_Mono.rV)))))
set_option maxHeartbeats 4000000 in
set_option maxRecDepth 100000 in
theorem con_En_enter (a : Nat) (x1 : Int32) (x2 : Int32) : sn_Con y_En_enter c_En_enter 3 none 1 21 [vA (some a), vI x1, vI x2] (f_En_enter a x1 x2) := by
  refine sn_Con.of (by decide +kernel) (by show _ ≤ _; exact Nat.le_of_ble_eq_true rfl) (mono_En_enter a x1 x2) (fun X C => ?_)
  show sn_S X 0 [(0, vA (some a)), (1, vI x1), (2, vI x2)] [] _
  replace C : sn_Cx X c_En_enter "SignalNetwork$End" none "enter" 3 1 21 := C
  unfold f_En_enter
  refine r_aload_n (q := 1) (i := 0) (pl := 0) C d_En_enter_0 rfl rfl rfl ?_
  refine r_iload_n (q := 2) (i := 1) (pl := 1) C d_En_enter_1 rfl rfl rfl ?_
  refine r_pI (q := 5) C d_En_enter_2 rfl F_En_18 rfl rfl (Or.inl rfl) ?_
  refine r_aload_n (q := 6) (i := 0) (pl := 0) C d_En_enter_5 rfl rfl rfl ?_
  refine r_aload_n (q := 7) (i := 0) (pl := 0) C d_En_enter_6 rfl rfl rfl ?_
  refine r_gR (q := 10) C d_En_enter_7 rfl F_En_31 rfl (fun v1 => ?_)
  refine r_iload_n (q := 11) (i := 2) (pl := 2) C d_En_enter_10 rfl rfl rfl ?_
  refine r_cvI (q := 14) (As := [vI x2]) (st := [vA (some a)]) (cy := 0) C d_En_enter_11 rfl Y_Ck_after L_En_55 I_Ck_after Se_Ck_after rfl (by decide) rfl (Nat.le_of_ble_eq_true rfl) (Nat.le_of_ble_eq_true rfl) (Nat.le_of_ble_eq_true rfl) rfl (fun a2 => con_Ck_after a2 x2) (fun v3 => ?_)
  refine r_pI (q := 17) C d_En_enter_14 rfl F_En_61 rfl rfl (Or.inl rfl) ?_
  exact r_vret C d_En_enter_17 rfl
theorem d_En_start_0 : decode c_En_start 0 = .ok (.aload_n 0, 1) := by decide +kernel
theorem d_En_start_1 : decode c_En_start 1 = .ok (.iconst 1, 1) := by decide +kernel
theorem d_En_start_2 : decode c_En_start 2 = .ok (.bipush 30, 2) := by decide +kernel
theorem d_En_start_4 : decode c_En_start 4 = .ok (.invokevirtual 44, 3) := by decide +kernel
theorem d_En_start_7 : decode c_En_start 7 = .ok (.aload_n 0, 1) := by decide +kernel
theorem d_En_start_8 : decode c_En_start 8 = .ok (.iload_n 1, 1) := by decide +kernel
theorem d_En_start_9 : decode c_En_start 9 = .ok (.putfield 48, 3) := by decide +kernel
theorem d_En_start_12 : decode c_En_start 12 = .ok (.aload_n 0, 1) := by decide +kernel
theorem d_En_start_13 : decode c_En_start 13 = .ok (.aload_n 0, 1) := by decide +kernel
theorem d_En_start_14 : decode c_En_start 14 = .ok (.getfield 52, 3) := by decide +kernel
theorem d_En_start_17 : decode c_En_start 17 = .ok (.iconst 1, 1) := by decide +kernel
theorem d_En_start_18 : decode c_En_start 18 = .ok (.iadd, 1) := by decide +kernel
theorem d_En_start_19 : decode c_En_start 19 = .ok (.bipush 16, 2) := by decide +kernel
theorem d_En_start_21 : decode c_En_start 21 = .ok (.irem, 1) := by decide +kernel
theorem d_En_start_22 : decode c_En_start 22 = .ok (.putfield 52, 3) := by decide +kernel
theorem d_En_start_25 : decode c_En_start 25 = .ok (.return_, 1) := by decide +kernel
def f_En_start (a : Nat) (x1 : Int32) : sn_M := n_n 2 (some a) fun a1 => c_V (f_En_enter a1 (1 : Int32) (30 : Int32)) (p_Z 2 13 (some a) x1 (g_I 2 9 (some a) fun v3 => p_I 2 9 (some a) ((v3 + (1 : Int32)) % (16 : Int32)) (r_V)))
set_option maxHeartbeats 4000000 in
set_option maxRecDepth 100000 in
theorem mono_En_start (a : Nat) (x1 : Int32) : sn_Mono (f_En_start a x1) := sn_Mono.nn (fun a1 => sn_Mono.cV (mono_En_enter a1 (1 : Int32) (30 : Int32)) (sn_Mono.pZ (sn_Mono.gI (fun v3 => sn_Mono.pI (sn_Mono.rV)))))
set_option maxHeartbeats 4000000 in
set_option maxRecDepth 100000 in
theorem con_En_start (a : Nat) (x1 : Int32) : sn_Con y_En_start c_En_start 2 none 2 43 [vA (some a), vI x1] (f_En_start a x1) := by
  refine sn_Con.of (by decide +kernel) (by show _ ≤ _; exact Nat.le_of_ble_eq_true rfl) (mono_En_start a x1) (fun X C => ?_)
  show sn_S X 0 [(0, vA (some a)), (1, vI x1)] [] _
  replace C : sn_Cx X c_En_start "SignalNetwork$End" none "start" 2 2 43 := C
  unfold f_En_start
  refine r_aload_n (q := 1) (i := 0) (pl := 0) C d_En_start_0 rfl rfl rfl ?_
  refine r_iconst (q := 2) (v := 1) C d_En_start_1 rfl (by decide) ?_
  refine r_bipush (q := 4) (v := 30) C d_En_start_2 rfl (by decide) ?_
  refine r_cvV (q := 7) (As := [vI (1 : Int32), vI (30 : Int32)]) (st := []) (cy := 1) C d_En_start_4 rfl Y_En_enter L_En_44 I_En_enter Se_En_enter rfl (by decide) rfl (Nat.le_of_ble_eq_true rfl) (Nat.le_of_ble_eq_true rfl) (Nat.le_of_ble_eq_true rfl) rfl (fun a1 => con_En_enter a1 (1 : Int32) (30 : Int32)) ?_
  refine r_aload_n (q := 8) (i := 0) (pl := 0) C d_En_start_7 rfl rfl rfl ?_
  refine r_iload_n (q := 9) (i := 1) (pl := 1) C d_En_start_8 rfl rfl rfl ?_
  refine r_pZ (q := 12) C d_En_start_9 rfl F_En_48 rfl rfl (Or.inl rfl) ?_
  refine r_aload_n (q := 13) (i := 0) (pl := 0) C d_En_start_12 rfl rfl rfl ?_
  refine r_aload_n (q := 14) (i := 0) (pl := 0) C d_En_start_13 rfl rfl rfl ?_
  refine r_gI (q := 17) C d_En_start_14 rfl F_En_52 rfl (fun v3 => ?_)
  refine r_iconst (q := 18) (v := 1) C d_En_start_17 rfl (by decide) ?_
  refine r_iadd (q := 19) C d_En_start_18 rfl ?_
  refine r_bipush (q := 21) (v := 16) C d_En_start_19 rfl (by decide) ?_
  refine r_iremc (q := 22) C d_En_start_21 rfl (by decide) ?_
  refine r_pI (q := 25) C d_En_start_22 rfl F_En_52 rfl rfl (Or.inl rfl) ?_
  exact r_vret C d_En_start_25 rfl
theorem d_En_fallOut_0 : decode c_En_fallOut 0 = .ok (.aload_n 0, 1) := by decide +kernel
theorem d_En_fallOut_1 : decode c_En_fallOut 1 = .ok (.iconst 0, 1) := by decide +kernel
theorem d_En_fallOut_2 : decode c_En_fallOut 2 = .ok (.putfield 18, 3) := by decide +kernel
theorem d_En_fallOut_5 : decode c_En_fallOut 5 = .ok (.aload_n 0, 1) := by decide +kernel
theorem d_En_fallOut_6 : decode c_En_fallOut 6 = .ok (.aload_n 0, 1) := by decide +kernel
theorem d_En_fallOut_7 : decode c_En_fallOut 7 = .ok (.getfield 31, 3) := by decide +kernel
theorem d_En_fallOut_10 : decode c_En_fallOut 10 = .ok (.bipush 12, 2) := by decide +kernel
theorem d_En_fallOut_12 : decode c_En_fallOut 12 = .ok (.invokevirtual 55, 3) := by decide +kernel
theorem d_En_fallOut_15 : decode c_En_fallOut 15 = .ok (.putfield 61, 3) := by decide +kernel
theorem d_En_fallOut_18 : decode c_En_fallOut 18 = .ok (.aload_n 0, 1) := by decide +kernel
theorem d_En_fallOut_19 : decode c_En_fallOut 19 = .ok (.getfield 40, 3) := by decide +kernel
theorem d_En_fallOut_22 : decode c_En_fallOut 22 = .ok (.invokevirtual 64, 3) := by decide +kernel
theorem d_En_fallOut_25 : decode c_En_fallOut 25 = .ok (.return_, 1) := by decide +kernel
def f_En_fallOut (a : Nat) : sn_M := p_I 2 7 (some a) (0 : Int32) (g_R 2 0 (some a) fun v1 => n_n 1 v1 fun a2 => c_I (f_Ck_after a2 (12 : Int32)) fun v3 => p_I 2 8 (some a) v3 (g_R 2 4 (some a) fun v4 => n_n 10 v4 fun a5 => c_V (f_Wi_stop a5) (r_V)))
set_option maxHeartbeats 4000000 in
set_option maxRecDepth 100000 in
theorem mono_En_fallOut (a : Nat) : sn_Mono (f_En_fallOut a) := sn_Mono.pI (sn_Mono.gR (fun v1 => sn_Mono.nn (fun a2 => sn_Mono.cI (mono_Ck_after a2 (12 : Int32)) (fun v3 => sn_Mono.pI (sn_Mono.gR (fun v4 => sn_Mono.nn (fun a5 => sn_Mono.cV (mono_Wi_stop a5) (sn_Mono.rV))))))))
set_option maxHeartbeats 4000000 in
set_option maxRecDepth 100000 in
theorem con_En_fallOut (a : Nat) : sn_Con y_En_fallOut c_En_fallOut 1 none 1 21 [vA (some a)] (f_En_fallOut a) := by
  refine sn_Con.of (by decide +kernel) (by show _ ≤ _; exact Nat.le_of_ble_eq_true rfl) (mono_En_fallOut a) (fun X C => ?_)
  show sn_S X 0 [(0, vA (some a))] [] _
  replace C : sn_Cx X c_En_fallOut "SignalNetwork$End" none "fallOut" 1 1 21 := C
  unfold f_En_fallOut
  refine r_aload_n (q := 1) (i := 0) (pl := 0) C d_En_fallOut_0 rfl rfl rfl ?_
  refine r_iconst (q := 2) (v := 0) C d_En_fallOut_1 rfl (by decide) ?_
  refine r_pI (q := 5) C d_En_fallOut_2 rfl F_En_18 rfl rfl (Or.inl rfl) ?_
  refine r_aload_n (q := 6) (i := 0) (pl := 0) C d_En_fallOut_5 rfl rfl rfl ?_
  refine r_aload_n (q := 7) (i := 0) (pl := 0) C d_En_fallOut_6 rfl rfl rfl ?_
  refine r_gR (q := 10) C d_En_fallOut_7 rfl F_En_31 rfl (fun v1 => ?_)
  refine r_bipush (q := 12) (v := 12) C d_En_fallOut_10 rfl (by decide) ?_
  refine r_cvI (q := 15) (As := [vI (12 : Int32)]) (st := [vA (some a)]) (cy := 0) C d_En_fallOut_12 rfl Y_Ck_after L_En_55 I_Ck_after Se_Ck_after rfl (by decide) rfl (Nat.le_of_ble_eq_true rfl) (Nat.le_of_ble_eq_true rfl) (Nat.le_of_ble_eq_true rfl) rfl (fun a2 => con_Ck_after a2 (12 : Int32)) (fun v3 => ?_)
  refine r_pI (q := 18) C d_En_fallOut_15 rfl F_En_61 rfl rfl (Or.inl rfl) ?_
  refine r_aload_n (q := 19) (i := 0) (pl := 0) C d_En_fallOut_18 rfl rfl rfl ?_
  refine r_gR (q := 22) C d_En_fallOut_19 rfl F_En_40 rfl (fun v4 => ?_)
  refine r_cvV (q := 25) (As := []) (st := []) (cy := 9) C d_En_fallOut_22 rfl Y_Wi_stop L_En_64 I_Wi_stop Se_Wi_stop rfl (by decide) rfl (Nat.le_of_ble_eq_true rfl) (Nat.le_of_ble_eq_true rfl) (Nat.le_of_ble_eq_true rfl) rfl (fun a5 => con_Wi_stop a5) ?_
  exact r_vret C d_En_fallOut_25 rfl
theorem d_En_isDamagedNow_0 : decode c_En_isDamagedNow 0 = .ok (.aload_n 0, 1) := by decide +kernel
theorem d_En_isDamagedNow_1 : decode c_En_isDamagedNow 1 = .ok (.getfield 67, 3) := by decide +kernel
theorem d_En_isDamagedNow_4 : decode c_En_isDamagedNow 4 = .ok (.ifCond .ne 5, 3) := by decide +kernel
theorem d_En_isDamagedNow_7 : decode c_En_isDamagedNow 7 = .ok (.iconst 0, 1) := by decide +kernel
theorem d_En_isDamagedNow_8 : decode c_En_isDamagedNow 8 = .ok (.ireturn, 1) := by decide +kernel
theorem d_En_isDamagedNow_9 : decode c_En_isDamagedNow 9 = .ok (.aload_n 0, 1) := by decide +kernel
theorem d_En_isDamagedNow_10 : decode c_En_isDamagedNow 10 = .ok (.dup, 1) := by decide +kernel
theorem d_En_isDamagedNow_11 : decode c_En_isDamagedNow 11 = .ok (.getfield 67, 3) := by decide +kernel
theorem d_En_isDamagedNow_14 : decode c_En_isDamagedNow 14 = .ok (.iconst 1, 1) := by decide +kernel
theorem d_En_isDamagedNow_15 : decode c_En_isDamagedNow 15 = .ok (.isub, 1) := by decide +kernel
theorem d_En_isDamagedNow_16 : decode c_En_isDamagedNow 16 = .ok (.putfield 67, 3) := by decide +kernel
theorem d_En_isDamagedNow_19 : decode c_En_isDamagedNow 19 = .ok (.iconst 1, 1) := by decide +kernel
theorem d_En_isDamagedNow_20 : decode c_En_isDamagedNow 20 = .ok (.ireturn, 1) := by decide +kernel
def f_En_isDamagedNow (a : Nat) : sn_M := g_I 2 11 (some a) fun v1 => (if ¬ v1 = 0 then g_I 2 11 (some a) fun v2 => p_I 2 11 (some a) (v2 - (1 : Int32)) (r_Z (1 : Int32)) else r_Z (0 : Int32))
set_option maxHeartbeats 4000000 in
set_option maxRecDepth 100000 in
theorem mono_En_isDamagedNow (a : Nat) : sn_Mono (f_En_isDamagedNow a) := sn_Mono.gI (fun v1 => sn_Mono.ite (sn_Mono.gI (fun v2 => sn_Mono.pI (sn_Mono.rZ))) (sn_Mono.rZ))
set_option maxHeartbeats 4000000 in
set_option maxRecDepth 100000 in
theorem con_En_isDamagedNow (a : Nat) : sn_Con y_En_isDamagedNow c_En_isDamagedNow 1 (some .boolean) 0 0 [vA (some a)] (f_En_isDamagedNow a) := by
  refine sn_Con.of (by decide +kernel) (by show _ ≤ _; exact Nat.le_of_ble_eq_true rfl) (mono_En_isDamagedNow a) (fun X C => ?_)
  show sn_S X 0 [(0, vA (some a))] [] _
  replace C : sn_Cx X c_En_isDamagedNow "SignalNetwork$End" (some .boolean) "isDamagedNow" 1 0 0 := C
  unfold f_En_isDamagedNow
  refine r_aload_n (q := 1) (i := 0) (pl := 0) C d_En_isDamagedNow_0 rfl rfl rfl ?_
  refine r_gI (q := 4) C d_En_isDamagedNow_1 rfl F_En_67 rfl (fun v1 => ?_)
  refine r_if_ne (tgt := 9) (q := 7) C d_En_isDamagedNow_4 (by decide) rfl ?_ ?_
  · refine r_aload_n (q := 10) (i := 0) (pl := 0) C d_En_isDamagedNow_9 rfl rfl rfl ?_
    refine r_dup (q := 11) C d_En_isDamagedNow_10 rfl rfl ?_
    refine r_gI (q := 14) C d_En_isDamagedNow_11 rfl F_En_67 rfl (fun v2 => ?_)
    refine r_iconst (q := 15) (v := 1) C d_En_isDamagedNow_14 rfl (by decide) ?_
    refine r_isub (q := 16) C d_En_isDamagedNow_15 rfl ?_
    refine r_pI (q := 19) C d_En_isDamagedNow_16 rfl F_En_67 rfl rfl (Or.inl rfl) ?_
    refine r_iconst (q := 20) (v := 1) C d_En_isDamagedNow_19 rfl (by decide) ?_
    exact r_zret C d_En_isDamagedNow_20 rfl
  · refine r_iconst (q := 8) (v := 0) C d_En_isDamagedNow_7 rfl (by decide) ?_
    exact r_zret C d_En_isDamagedNow_8 rfl
theorem d_En_isProve_0 : decode c_En_isProve 0 = .ok (.iload_n 0, 1) := by decide +kernel
theorem d_En_isProve_1 : decode c_En_isProve 1 = .ok (.iconst 2, 1) := by decide +kernel
theorem d_En_isProve_2 : decode c_En_isProve 2 = .ok (.if_icmp .eq 8, 3) := by decide +kernel
theorem d_En_isProve_5 : decode c_En_isProve 5 = .ok (.iload_n 0, 1) := by decide +kernel
theorem d_En_isProve_6 : decode c_En_isProve 6 = .ok (.iconst 3, 1) := by decide +kernel
theorem d_En_isProve_7 : decode c_En_isProve 7 = .ok (.if_icmp .ne 7, 3) := by decide +kernel
theorem d_En_isProve_10 : decode c_En_isProve 10 = .ok (.iconst 1, 1) := by decide +kernel
theorem d_En_isProve_11 : decode c_En_isProve 11 = .ok (.goto 4, 3) := by decide +kernel
theorem d_En_isProve_14 : decode c_En_isProve 14 = .ok (.iconst 0, 1) := by decide +kernel
theorem d_En_isProve_15 : decode c_En_isProve 15 = .ok (.ireturn, 1) := by decide +kernel
def f_En_isProve_15 (t0 : Int32) : sn_M := r_Z t0
set_option maxHeartbeats 4000000 in
set_option maxRecDepth 100000 in
theorem mono_En_isProve_15 (t0 : Int32) : sn_Mono (f_En_isProve_15 t0) := sn_Mono.rZ
set_option maxHeartbeats 4000000 in
set_option maxRecDepth 100000 in
theorem s_En_isProve_15 {X : sn_X} (C : sn_Cx X c_En_isProve "SignalNetwork$End" (some .boolean) "isProve" 1 0 0) (t0 : Int32) : sn_S X 15 [] [vI t0] (f_En_isProve_15 t0) := by
  unfold f_En_isProve_15
  exact r_zret C d_En_isProve_15 rfl
def f_En_isProve_10 : sn_M := f_En_isProve_15 (1 : Int32)
set_option maxHeartbeats 4000000 in
set_option maxRecDepth 100000 in
theorem mono_En_isProve_10 : sn_Mono (f_En_isProve_10) := mono_En_isProve_15 (1 : Int32)
set_option maxHeartbeats 4000000 in
set_option maxRecDepth 100000 in
theorem s_En_isProve_10 {X : sn_X} (C : sn_Cx X c_En_isProve "SignalNetwork$End" (some .boolean) "isProve" 1 0 0) : sn_S X 10 [] [] (f_En_isProve_10) := by
  unfold f_En_isProve_10
  refine r_iconst (q := 11) (v := 1) C d_En_isProve_10 rfl (by decide) ?_
  refine r_goto (tgt := 15) C d_En_isProve_11 (by decide) ?_
  exact s_En_isProve_15 C (1 : Int32)
def f_En_isProve (x0 : Int32) : sn_M := (if x0 = (2 : Int32) then f_En_isProve_10 else (if ¬ x0 = (3 : Int32) then f_En_isProve_15 (0 : Int32) else f_En_isProve_10))
set_option maxHeartbeats 4000000 in
set_option maxRecDepth 100000 in
theorem mono_En_isProve (x0 : Int32) : sn_Mono (f_En_isProve x0) := sn_Mono.ite (mono_En_isProve_10) (sn_Mono.ite (mono_En_isProve_15 (0 : Int32)) (mono_En_isProve_10))
set_option maxHeartbeats 4000000 in
set_option maxRecDepth 100000 in
theorem con_En_isProve (x0 : Int32) : sn_Con y_En_isProve c_En_isProve 1 (some .boolean) 0 0 [vI x0] (f_En_isProve x0) := by
  refine sn_Con.of (by decide +kernel) (by show _ ≤ _; exact Nat.le_of_ble_eq_true rfl) (mono_En_isProve x0) (fun X C => ?_)
  show sn_S X 0 [(0, vI x0)] [] _
  replace C : sn_Cx X c_En_isProve "SignalNetwork$End" (some .boolean) "isProve" 1 0 0 := C
  unfold f_En_isProve
  refine r_iload_n (q := 1) (i := 0) (pl := 0) C d_En_isProve_0 rfl rfl rfl ?_
  refine r_iconst (q := 2) (v := 2) C d_En_isProve_1 rfl (by decide) ?_
  refine r_icmp_eq (tgt := 10) (q := 5) C d_En_isProve_2 (by decide) rfl ?_ ?_
  · refine r_sub (lv' := []) [] rfl ?_
    exact s_En_isProve_10 C
  · refine r_iload_n (q := 6) (i := 0) (pl := 0) C d_En_isProve_5 rfl rfl rfl ?_
    refine r_iconst (q := 7) (v := 3) C d_En_isProve_6 rfl (by decide) ?_
    refine r_icmp_ne (tgt := 14) (q := 10) C d_En_isProve_7 (by decide) rfl ?_ ?_
    · refine r_iconst (q := 15) (v := 0) C d_En_isProve_14 rfl (by decide) ?_
      refine r_sub (lv' := []) [] rfl ?_
      exact s_En_isProve_15 C (0 : Int32)
    · refine r_sub (lv' := []) [] rfl ?_
      exact s_En_isProve_10 C
theorem d_En_prove_0 : decode c_En_prove 0 = .ok (.aload_n 0, 1) := by decide +kernel
theorem d_En_prove_1 : decode c_En_prove 1 = .ok (.iconst 3, 1) := by decide +kernel
theorem d_En_prove_2 : decode c_En_prove 2 = .ok (.putfield 18, 3) := by decide +kernel
theorem d_En_prove_5 : decode c_En_prove 5 = .ok (.aload_n 0, 1) := by decide +kernel
theorem d_En_prove_6 : decode c_En_prove 6 = .ok (.aload_n 0, 1) := by decide +kernel
theorem d_En_prove_7 : decode c_En_prove 7 = .ok (.getfield 31, 3) := by decide +kernel
theorem d_En_prove_10 : decode c_En_prove 10 = .ok (.iload_n 1, 1) := by decide +kernel
theorem d_En_prove_11 : decode c_En_prove 11 = .ok (.invokevirtual 55, 3) := by decide +kernel
theorem d_En_prove_14 : decode c_En_prove 14 = .ok (.putfield 61, 3) := by decide +kernel
theorem d_En_prove_17 : decode c_En_prove 17 = .ok (.aload_n 0, 1) := by decide +kernel
theorem d_En_prove_18 : decode c_En_prove 18 = .ok (.iload_n 1, 1) := by decide +kernel
theorem d_En_prove_19 : decode c_En_prove 19 = .ok (.putfield 96, 3) := by decide +kernel
theorem d_En_prove_22 : decode c_En_prove 22 = .ok (.aload_n 0, 1) := by decide +kernel
theorem d_En_prove_23 : decode c_En_prove 23 = .ok (.iconst 0, 1) := by decide +kernel
theorem d_En_prove_24 : decode c_En_prove 24 = .ok (.putfield 99, 3) := by decide +kernel
theorem d_En_prove_27 : decode c_En_prove 27 = .ok (.return_, 1) := by decide +kernel
def f_En_prove (a : Nat) (x1 : Int32) : sn_M := p_I 2 7 (some a) (3 : Int32) (g_R 2 0 (some a) fun v1 => n_n 1 v1 fun a2 => c_I (f_Ck_after a2 x1) fun v3 => p_I 2 8 (some a) v3 (p_I 2 14 (some a) x1 (p_I 2 16 (some a) (0 : Int32) (r_V))))
set_option maxHeartbeats 4000000 in
set_option maxRecDepth 100000 in
theorem mono_En_prove (a : Nat) (x1 : Int32) : sn_Mono (f_En_prove a x1) := sn_Mono.pI (sn_Mono.gR (fun v1 => sn_Mono.nn (fun a2 => sn_Mono.cI (mono_Ck_after a2 x1) (fun v3 => sn_Mono.pI (sn_Mono.pI (sn_Mono.pI (sn_Mono.rV)))))))
set_option maxHeartbeats 4000000 in
set_option maxRecDepth 100000 in
theorem con_En_prove (a : Nat) (x1 : Int32) : sn_Con y_En_prove c_En_prove 2 none 1 21 [vA (some a), vI x1] (f_En_prove a x1) := by
  refine sn_Con.of (by decide +kernel) (by show _ ≤ _; exact Nat.le_of_ble_eq_true rfl) (mono_En_prove a x1) (fun X C => ?_)
  show sn_S X 0 [(0, vA (some a)), (1, vI x1)] [] _
  replace C : sn_Cx X c_En_prove "SignalNetwork$End" none "prove" 2 1 21 := C
  unfold f_En_prove
  refine r_aload_n (q := 1) (i := 0) (pl := 0) C d_En_prove_0 rfl rfl rfl ?_
  refine r_iconst (q := 2) (v := 3) C d_En_prove_1 rfl (by decide) ?_
  refine r_pI (q := 5) C d_En_prove_2 rfl F_En_18 rfl rfl (Or.inl rfl) ?_
  refine r_aload_n (q := 6) (i := 0) (pl := 0) C d_En_prove_5 rfl rfl rfl ?_
  refine r_aload_n (q := 7) (i := 0) (pl := 0) C d_En_prove_6 rfl rfl rfl ?_
  refine r_gR (q := 10) C d_En_prove_7 rfl F_En_31 rfl (fun v1 => ?_)
  refine r_iload_n (q := 11) (i := 1) (pl := 1) C d_En_prove_10 rfl rfl rfl ?_
  refine r_cvI (q := 14) (As := [vI x1]) (st := [vA (some a)]) (cy := 0) C d_En_prove_11 rfl Y_Ck_after L_En_55 I_Ck_after Se_Ck_after rfl (by decide) rfl (Nat.le_of_ble_eq_true rfl) (Nat.le_of_ble_eq_true rfl) (Nat.le_of_ble_eq_true rfl) rfl (fun a2 => con_Ck_after a2 x1) (fun v3 => ?_)
  refine r_pI (q := 17) C d_En_prove_14 rfl F_En_61 rfl rfl (Or.inl rfl) ?_
  refine r_aload_n (q := 18) (i := 0) (pl := 0) C d_En_prove_17 rfl rfl rfl ?_
  refine r_iload_n (q := 19) (i := 1) (pl := 1) C d_En_prove_18 rfl rfl rfl ?_
  refine r_pI (q := 22) C d_En_prove_19 rfl F_En_96 rfl rfl (Or.inl rfl) ?_
  refine r_aload_n (q := 23) (i := 0) (pl := 0) C d_En_prove_22 rfl rfl rfl ?_
  refine r_iconst (q := 24) (v := 0) C d_En_prove_23 rfl (by decide) ?_
  refine r_pI (q := 27) C d_En_prove_24 rfl F_En_99 rfl rfl (Or.inl rfl) ?_
  exact r_vret C d_En_prove_27 rfl
theorem d_En_hearAligned_0 : decode c_En_hearAligned 0 = .ok (.iload_n 1, 1) := by decide +kernel
theorem d_En_hearAligned_1 : decode c_En_hearAligned 1 = .ok (.invokestatic 70, 3) := by decide +kernel
theorem d_En_hearAligned_4 : decode c_En_hearAligned 4 = .ok (.ifCond .eq 30, 3) := by decide +kernel
theorem d_En_hearAligned_7 : decode c_En_hearAligned 7 = .ok (.aload_n 0, 1) := by decide +kernel
theorem d_En_hearAligned_8 : decode c_En_hearAligned 8 = .ok (.iconst 1, 1) := by decide +kernel
theorem d_En_hearAligned_9 : decode c_En_hearAligned 9 = .ok (.putfield 89, 3) := by decide +kernel
theorem d_En_hearAligned_12 : decode c_En_hearAligned 12 = .ok (.aload_n 0, 1) := by decide +kernel
theorem d_En_hearAligned_13 : decode c_En_hearAligned 13 = .ok (.aload_n 0, 1) := by decide +kernel
theorem d_En_hearAligned_14 : decode c_En_hearAligned 14 = .ok (.getfield 48, 3) := by decide +kernel
theorem d_En_hearAligned_17 : decode c_En_hearAligned 17 = .ok (.ifCond .ne 8, 3) := by decide +kernel
theorem d_En_hearAligned_20 : decode c_En_hearAligned 20 = .ok (.iload_n 1, 1) := by decide +kernel
theorem d_En_hearAligned_21 : decode c_En_hearAligned 21 = .ok (.iconst 3, 1) := by decide +kernel
theorem d_En_hearAligned_22 : decode c_En_hearAligned 22 = .ok (.if_icmp .ne 7, 3) := by decide +kernel
theorem d_En_hearAligned_25 : decode c_En_hearAligned 25 = .ok (.iconst 3, 1) := by decide +kernel
theorem d_En_hearAligned_26 : decode c_En_hearAligned 26 = .ok (.goto 5, 3) := by decide +kernel
theorem d_En_hearAligned_29 : decode c_En_hearAligned 29 = .ok (.bipush 8, 2) := by decide +kernel
theorem d_En_hearAligned_31 : decode c_En_hearAligned 31 = .ok (.invokevirtual 92, 3) := by decide +kernel
theorem d_En_hearAligned_34 : decode c_En_hearAligned 34 = .ok (.iload_n 1, 1) := by decide +kernel
theorem d_En_hearAligned_35 : decode c_En_hearAligned 35 = .ok (.ifCond .ne 7, 3) := by decide +kernel
theorem d_En_hearAligned_38 : decode c_En_hearAligned 38 = .ok (.iconst 1, 1) := by decide +kernel
theorem d_En_hearAligned_39 : decode c_En_hearAligned 39 = .ok (.goto 4, 3) := by decide +kernel
theorem d_En_hearAligned_42 : decode c_En_hearAligned 42 = .ok (.iconst 0, 1) := by decide +kernel
theorem d_En_hearAligned_43 : decode c_En_hearAligned 43 = .ok (.ireturn, 1) := by decide +kernel
def f_En_hearAligned_43 (a : Nat) (t0 : Int32) : sn_M := r_I t0
set_option maxHeartbeats 4000000 in
set_option maxRecDepth 100000 in
theorem mono_En_hearAligned_43 (a : Nat) (t0 : Int32) : sn_Mono (f_En_hearAligned_43 a t0) := sn_Mono.rI
set_option maxHeartbeats 4000000 in
set_option maxRecDepth 100000 in
theorem s_En_hearAligned_43 {X : sn_X} (C : sn_Cx X c_En_hearAligned "SignalNetwork$End" (some .int) "hearAligned" 2 2 42) (a : Nat) (t0 : Int32) : sn_S X 43 [(0, vA (some a))] [vI t0] (f_En_hearAligned_43 a t0) := by
  unfold f_En_hearAligned_43
  exact r_iret C d_En_hearAligned_43 rfl
def f_En_hearAligned_34 (a : Nat) (x1 : Int32) : sn_M := (if ¬ x1 = 0 then f_En_hearAligned_43 a (0 : Int32) else f_En_hearAligned_43 a (1 : Int32))
set_option maxHeartbeats 4000000 in
set_option maxRecDepth 100000 in
theorem mono_En_hearAligned_34 (a : Nat) (x1 : Int32) : sn_Mono (f_En_hearAligned_34 a x1) := sn_Mono.ite (mono_En_hearAligned_43 a (0 : Int32)) (mono_En_hearAligned_43 a (1 : Int32))
set_option maxHeartbeats 4000000 in
set_option maxRecDepth 100000 in
theorem s_En_hearAligned_34 {X : sn_X} (C : sn_Cx X c_En_hearAligned "SignalNetwork$End" (some .int) "hearAligned" 2 2 42) (a : Nat) (x1 : Int32) : sn_S X 34 [(0, vA (some a)), (1, vI x1)] [] (f_En_hearAligned_34 a x1) := by
  unfold f_En_hearAligned_34
  refine r_iload_n (q := 35) (i := 1) (pl := 1) C d_En_hearAligned_34 rfl rfl rfl ?_
  refine r_if_ne (tgt := 42) (q := 38) C d_En_hearAligned_35 (by decide) rfl ?_ ?_
  · refine r_iconst (q := 43) (v := 0) C d_En_hearAligned_42 rfl (by decide) ?_
    refine r_sub (lv' := [(0, vA (some a))]) [0] rfl ?_
    exact s_En_hearAligned_43 C a (0 : Int32)
  · refine r_iconst (q := 39) (v := 1) C d_En_hearAligned_38 rfl (by decide) ?_
    refine r_goto (tgt := 43) C d_En_hearAligned_39 (by decide) ?_
    refine r_sub (lv' := [(0, vA (some a))]) [0] rfl ?_
    exact s_En_hearAligned_43 C a (1 : Int32)
def f_En_hearAligned_31 (a : Nat) (x1 : Int32) (t0 : Option Nat) (t1 : Int32) : sn_M := n_n 2 t0 fun a1 => c_V (f_En_prove a1 t1) (f_En_hearAligned_34 a x1)
set_option maxHeartbeats 4000000 in
set_option maxRecDepth 100000 in
theorem mono_En_hearAligned_31 (a : Nat) (x1 : Int32) (t0 : Option Nat) (t1 : Int32) : sn_Mono (f_En_hearAligned_31 a x1 t0 t1) := sn_Mono.nn (fun a1 => sn_Mono.cV (mono_En_prove a1 t1) (mono_En_hearAligned_34 a x1))
set_option maxHeartbeats 4000000 in
set_option maxRecDepth 100000 in
theorem s_En_hearAligned_31 {X : sn_X} (C : sn_Cx X c_En_hearAligned "SignalNetwork$End" (some .int) "hearAligned" 2 2 42) (a : Nat) (x1 : Int32) (t0 : Option Nat) (t1 : Int32) : sn_S X 31 [(0, vA (some a)), (1, vI x1)] [vI t1, vA t0] (f_En_hearAligned_31 a x1 t0 t1) := by
  unfold f_En_hearAligned_31
  refine r_cvV (q := 34) (As := [vI t1]) (st := []) (cy := 1) C d_En_hearAligned_31 rfl Y_En_prove L_En_92 I_En_prove Se_En_prove rfl (by decide) rfl (Nat.le_of_ble_eq_true rfl) (Nat.le_of_ble_eq_true rfl) (Nat.le_of_ble_eq_true rfl) rfl (fun a1 => con_En_prove a1 t1) ?_
  exact s_En_hearAligned_34 C a x1
def f_En_hearAligned_25 (a : Nat) (x1 : Int32) (t0 : Option Nat) : sn_M := f_En_hearAligned_31 a x1 t0 (3 : Int32)
set_option maxHeartbeats 4000000 in
set_option maxRecDepth 100000 in
theorem mono_En_hearAligned_25 (a : Nat) (x1 : Int32) (t0 : Option Nat) : sn_Mono (f_En_hearAligned_25 a x1 t0) := mono_En_hearAligned_31 a x1 t0 (3 : Int32)
set_option maxHeartbeats 4000000 in
set_option maxRecDepth 100000 in
theorem s_En_hearAligned_25 {X : sn_X} (C : sn_Cx X c_En_hearAligned "SignalNetwork$End" (some .int) "hearAligned" 2 2 42) (a : Nat) (x1 : Int32) (t0 : Option Nat) : sn_S X 25 [(0, vA (some a)), (1, vI x1)] [vA t0] (f_En_hearAligned_25 a x1 t0) := by
  unfold f_En_hearAligned_25
  refine r_iconst (q := 26) (v := 3) C d_En_hearAligned_25 rfl (by decide) ?_
  refine r_goto (tgt := 31) C d_En_hearAligned_26 (by decide) ?_
  exact s_En_hearAligned_31 C a x1 t0 (3 : Int32)
def f_En_hearAligned (a : Nat) (x1 : Int32) : sn_M := c_I (f_En_isProve x1) fun v3 => (if v3 = 0 then f_En_hearAligned_34 a x1 else p_I 2 15 (some a) (1 : Int32) (g_I 2 13 (some a) fun v4 => (if ¬ v4 = 0 then f_En_hearAligned_25 a x1 (some a) else (if ¬ x1 = (3 : Int32) then f_En_hearAligned_31 a x1 (some a) (8 : Int32) else f_En_hearAligned_25 a x1 (some a)))))
set_option maxHeartbeats 4000000 in
set_option maxRecDepth 100000 in
theorem mono_En_hearAligned (a : Nat) (x1 : Int32) : sn_Mono (f_En_hearAligned a x1) := sn_Mono.cI (mono_En_isProve x1) (fun v3 => sn_Mono.ite (mono_En_hearAligned_34 a x1) (sn_Mono.pI (sn_Mono.gI (fun v4 => sn_Mono.ite (mono_En_hearAligned_25 a x1 (some a)) (sn_Mono.ite (mono_En_hearAligned_31 a x1 (some a) (8 : Int32)) (mono_En_hearAligned_25 a x1 (some a)))))))
set_option maxHeartbeats 4000000 in
set_option maxRecDepth 100000 in
theorem con_En_hearAligned (a : Nat) (x1 : Int32) : sn_Con y_En_hearAligned c_En_hearAligned 2 (some .int) 2 42 [vA (some a), vI x1] (f_En_hearAligned a x1) := by
  refine sn_Con.of (by decide +kernel) (by show _ ≤ _; exact Nat.le_of_ble_eq_true rfl) (mono_En_hearAligned a x1) (fun X C => ?_)
  show sn_S X 0 [(0, vA (some a)), (1, vI x1)] [] _
  replace C : sn_Cx X c_En_hearAligned "SignalNetwork$End" (some .int) "hearAligned" 2 2 42 := C
  unfold f_En_hearAligned
  refine r_iload_n (q := 1) (i := 1) (pl := 1) C d_En_hearAligned_0 rfl rfl rfl ?_
  refine r_csI (q := 4) (As := [vI x1]) (st := []) C d_En_hearAligned_1 rfl Y_En_isProve L_En_70 St_En_isProve rfl (Nat.le_of_ble_eq_true rfl) (Nat.le_of_ble_eq_true rfl) (Nat.le_of_ble_eq_true rfl) rfl (con_En_isProve x1) (fun v3 => ?_)
  refine r_if_eq (tgt := 34) (q := 7) C d_En_hearAligned_4 (by decide) rfl ?_ ?_
  · exact s_En_hearAligned_34 C a x1
  · refine r_aload_n (q := 8) (i := 0) (pl := 0) C d_En_hearAligned_7 rfl rfl rfl ?_
    refine r_iconst (q := 9) (v := 1) C d_En_hearAligned_8 rfl (by decide) ?_
    refine r_pI (q := 12) C d_En_hearAligned_9 rfl F_En_89 rfl rfl (Or.inl rfl) ?_
    refine r_aload_n (q := 13) (i := 0) (pl := 0) C d_En_hearAligned_12 rfl rfl rfl ?_
    refine r_aload_n (q := 14) (i := 0) (pl := 0) C d_En_hearAligned_13 rfl rfl rfl ?_
    refine r_gI (q := 17) C d_En_hearAligned_14 rfl F_En_48 rfl (fun v4 => ?_)
    refine r_if_ne (tgt := 25) (q := 20) C d_En_hearAligned_17 (by decide) rfl ?_ ?_
    · exact s_En_hearAligned_25 C a x1 (some a)
    · refine r_iload_n (q := 21) (i := 1) (pl := 1) C d_En_hearAligned_20 rfl rfl rfl ?_
      refine r_iconst (q := 22) (v := 3) C d_En_hearAligned_21 rfl (by decide) ?_
      refine r_icmp_ne (tgt := 29) (q := 25) C d_En_hearAligned_22 (by decide) rfl ?_ ?_
      · refine r_bipush (q := 31) (v := 8) C d_En_hearAligned_29 rfl (by decide) ?_
        exact s_En_hearAligned_31 C a x1 (some a) (8 : Int32)
      · exact s_En_hearAligned_25 C a x1 (some a)
theorem d_En_err_0 : decode c_En_err 0 = .ok (.aload_n 0, 1) := by decide +kernel
theorem d_En_err_1 : decode c_En_err 1 = .ok (.dup, 1) := by decide +kernel
theorem d_En_err_2 : decode c_En_err 2 = .ok (.getfield 99, 3) := by decide +kernel
theorem d_En_err_5 : decode c_En_err 5 = .ok (.iconst 1, 1) := by decide +kernel
theorem d_En_err_6 : decode c_En_err 6 = .ok (.iadd, 1) := by decide +kernel
theorem d_En_err_7 : decode c_En_err 7 = .ok (.putfield 99, 3) := by decide +kernel
theorem d_En_err_10 : decode c_En_err 10 = .ok (.aload_n 0, 1) := by decide +kernel
theorem d_En_err_11 : decode c_En_err 11 = .ok (.getfield 99, 3) := by decide +kernel
theorem d_En_err_14 : decode c_En_err 14 = .ok (.aload_n 0, 1) := by decide +kernel
theorem d_En_err_15 : decode c_En_err 15 = .ok (.getfield 96, 3) := by decide +kernel
theorem d_En_err_18 : decode c_En_err 18 = .ok (.iconst 3, 1) := by decide +kernel
theorem d_En_err_19 : decode c_En_err 19 = .ok (.if_icmp .ne 7, 3) := by decide +kernel
theorem d_En_err_22 : decode c_En_err 22 = .ok (.iconst 1, 1) := by decide +kernel
theorem d_En_err_23 : decode c_En_err 23 = .ok (.goto 4, 3) := by decide +kernel
theorem d_En_err_26 : decode c_En_err 26 = .ok (.iconst 2, 1) := by decide +kernel
theorem d_En_err_27 : decode c_En_err 27 = .ok (.if_icmp .ge 5, 3) := by decide +kernel
theorem d_En_err_30 : decode c_En_err 30 = .ok (.iconst 0, 1) := by decide +kernel
theorem d_En_err_31 : decode c_En_err 31 = .ok (.ireturn, 1) := by decide +kernel
theorem d_En_err_32 : decode c_En_err 32 = .ok (.aload_n 0, 1) := by decide +kernel
theorem d_En_err_33 : decode c_En_err 33 = .ok (.dup, 1) := by decide +kernel
theorem d_En_err_34 : decode c_En_err 34 = .ok (.getfield 89, 3) := by decide +kernel
theorem d_En_err_37 : decode c_En_err 37 = .ok (.iconst 1, 1) := by decide +kernel
theorem d_En_err_38 : decode c_En_err 38 = .ok (.iadd, 1) := by decide +kernel
theorem d_En_err_39 : decode c_En_err 39 = .ok (.putfield 89, 3) := by decide +kernel
theorem d_En_err_42 : decode c_En_err 42 = .ok (.aload_n 0, 1) := by decide +kernel
theorem d_En_err_43 : decode c_En_err 43 = .ok (.getfield 89, 3) := by decide +kernel
theorem d_En_err_46 : decode c_En_err 46 = .ok (.iconst 5, 1) := by decide +kernel
theorem d_En_err_47 : decode c_En_err 47 = .ok (.if_icmp .lt 5, 3) := by decide +kernel
theorem d_En_err_50 : decode c_En_err 50 = .ok (.iconst 1, 1) := by decide +kernel
theorem d_En_err_51 : decode c_En_err 51 = .ok (.ireturn, 1) := by decide +kernel
theorem d_En_err_52 : decode c_En_err 52 = .ok (.aload_n 0, 1) := by decide +kernel
theorem d_En_err_53 : decode c_En_err 53 = .ok (.aload_n 0, 1) := by decide +kernel
theorem d_En_err_54 : decode c_En_err 54 = .ok (.getfield 96, 3) := by decide +kernel
theorem d_En_err_57 : decode c_En_err 57 = .ok (.invokevirtual 92, 3) := by decide +kernel
theorem d_En_err_60 : decode c_En_err 60 = .ok (.iconst 0, 1) := by decide +kernel
theorem d_En_err_61 : decode c_En_err 61 = .ok (.ireturn, 1) := by decide +kernel
def f_En_err_27 (a : Nat) (t0 : Int32) (t1 : Int32) : sn_M := (if t1 ≤ t0 then g_I 2 15 (some a) fun v1 => p_I 2 15 (some a) (v1 + (1 : Int32)) (g_I 2 15 (some a) fun v2 => (if v2 < (5 : Int32) then g_I 2 14 (some a) fun v3 => n_n 2 (some a) fun a4 => c_V (f_En_prove a4 v3) (r_I (0 : Int32)) else r_I (1 : Int32))) else r_I (0 : Int32))
set_option maxHeartbeats 4000000 in
set_option maxRecDepth 100000 in
theorem mono_En_err_27 (a : Nat) (t0 : Int32) (t1 : Int32) : sn_Mono (f_En_err_27 a t0 t1) := sn_Mono.ite (sn_Mono.gI (fun v1 => sn_Mono.pI (sn_Mono.gI (fun v2 => sn_Mono.ite (sn_Mono.gI (fun v3 => sn_Mono.nn (fun a4 => sn_Mono.cV (mono_En_prove a4 v3) (sn_Mono.rI)))) (sn_Mono.rI))))) (sn_Mono.rI)
set_option maxHeartbeats 4000000 in
set_option maxRecDepth 100000 in
theorem s_En_err_27 {X : sn_X} (C : sn_Cx X c_En_err "SignalNetwork$End" (some .int) "err" 1 2 42) (a : Nat) (t0 : Int32) (t1 : Int32) : sn_S X 27 [(0, vA (some a))] [vI t1, vI t0] (f_En_err_27 a t0 t1) := by
  unfold f_En_err_27
  refine r_icmp_ge (tgt := 32) (q := 30) C d_En_err_27 (by decide) rfl ?_ ?_
  · refine r_aload_n (q := 33) (i := 0) (pl := 0) C d_En_err_32 rfl rfl rfl ?_
    refine r_dup (q := 34) C d_En_err_33 rfl rfl ?_
    refine r_gI (q := 37) C d_En_err_34 rfl F_En_89 rfl (fun v1 => ?_)
    refine r_iconst (q := 38) (v := 1) C d_En_err_37 rfl (by decide) ?_
    refine r_iadd (q := 39) C d_En_err_38 rfl ?_
    refine r_pI (q := 42) C d_En_err_39 rfl F_En_89 rfl rfl (Or.inl rfl) ?_
    refine r_aload_n (q := 43) (i := 0) (pl := 0) C d_En_err_42 rfl rfl rfl ?_
    refine r_gI (q := 46) C d_En_err_43 rfl F_En_89 rfl (fun v2 => ?_)
    refine r_iconst (q := 47) (v := 5) C d_En_err_46 rfl (by decide) ?_
    refine r_icmp_lt (tgt := 52) (q := 50) C d_En_err_47 (by decide) rfl ?_ ?_
    · refine r_aload_n (q := 53) (i := 0) (pl := 0) C d_En_err_52 rfl rfl rfl ?_
      refine r_aload_n (q := 54) (i := 0) (pl := 0) C d_En_err_53 rfl rfl rfl ?_
      refine r_gI (q := 57) C d_En_err_54 rfl F_En_96 rfl (fun v3 => ?_)
      refine r_cvV (q := 60) (As := [vI v3]) (st := []) (cy := 1) C d_En_err_57 rfl Y_En_prove L_En_92 I_En_prove Se_En_prove rfl (by decide) rfl (Nat.le_of_ble_eq_true rfl) (Nat.le_of_ble_eq_true rfl) (Nat.le_of_ble_eq_true rfl) rfl (fun a4 => con_En_prove a4 v3) ?_
      refine r_iconst (q := 61) (v := 0) C d_En_err_60 rfl (by decide) ?_
      exact r_iret C d_En_err_61 rfl
    · refine r_iconst (q := 51) (v := 1) C d_En_err_50 rfl (by decide) ?_
      exact r_iret C d_En_err_51 rfl
  · refine r_iconst (q := 31) (v := 0) C d_En_err_30 rfl (by decide) ?_
    exact r_iret C d_En_err_31 rfl
def f_En_err (a : Nat) : sn_M := g_I 2 16 (some a) fun v6 => p_I 2 16 (some a) (v6 + (1 : Int32)) (g_I 2 16 (some a) fun v7 => g_I 2 14 (some a) fun v8 => (if ¬ v8 = (3 : Int32) then f_En_err_27 a v7 (2 : Int32) else f_En_err_27 a v7 (1 : Int32)))
set_option maxHeartbeats 4000000 in
set_option maxRecDepth 100000 in
theorem mono_En_err (a : Nat) : sn_Mono (f_En_err a) := sn_Mono.gI (fun v6 => sn_Mono.pI (sn_Mono.gI (fun v7 => sn_Mono.gI (fun v8 => sn_Mono.ite (mono_En_err_27 a v7 (2 : Int32)) (mono_En_err_27 a v7 (1 : Int32))))))
set_option maxHeartbeats 4000000 in
set_option maxRecDepth 100000 in
theorem con_En_err (a : Nat) : sn_Con y_En_err c_En_err 1 (some .int) 2 42 [vA (some a)] (f_En_err a) := by
  refine sn_Con.of (by decide +kernel) (by show _ ≤ _; exact Nat.le_of_ble_eq_true rfl) (mono_En_err a) (fun X C => ?_)
  show sn_S X 0 [(0, vA (some a))] [] _
  replace C : sn_Cx X c_En_err "SignalNetwork$End" (some .int) "err" 1 2 42 := C
  unfold f_En_err
  refine r_aload_n (q := 1) (i := 0) (pl := 0) C d_En_err_0 rfl rfl rfl ?_
  refine r_dup (q := 2) C d_En_err_1 rfl rfl ?_
  refine r_gI (q := 5) C d_En_err_2 rfl F_En_99 rfl (fun v6 => ?_)
  refine r_iconst (q := 6) (v := 1) C d_En_err_5 rfl (by decide) ?_
  refine r_iadd (q := 7) C d_En_err_6 rfl ?_
  refine r_pI (q := 10) C d_En_err_7 rfl F_En_99 rfl rfl (Or.inl rfl) ?_
  refine r_aload_n (q := 11) (i := 0) (pl := 0) C d_En_err_10 rfl rfl rfl ?_
  refine r_gI (q := 14) C d_En_err_11 rfl F_En_99 rfl (fun v7 => ?_)
  refine r_aload_n (q := 15) (i := 0) (pl := 0) C d_En_err_14 rfl rfl rfl ?_
  refine r_gI (q := 18) C d_En_err_15 rfl F_En_96 rfl (fun v8 => ?_)
  refine r_iconst (q := 19) (v := 3) C d_En_err_18 rfl (by decide) ?_
  refine r_icmp_ne (tgt := 26) (q := 22) C d_En_err_19 (by decide) rfl ?_ ?_
  · refine r_iconst (q := 27) (v := 2) C d_En_err_26 rfl (by decide) ?_
    exact s_En_err_27 C a v7 (2 : Int32)
  · refine r_iconst (q := 23) (v := 1) C d_En_err_22 rfl (by decide) ?_
    refine r_goto (tgt := 27) C d_En_err_23 (by decide) ?_
    exact s_En_err_27 C a v7 (1 : Int32)
theorem d_En_hearProving_0 : decode c_En_hearProving 0 = .ok (.iload_n 1, 1) := by decide +kernel
theorem d_En_hearProving_1 : decode c_En_hearProving 1 = .ok (.tableswitch 75 0 6 #[48, 50, 75, 59, 75, 75, 43], 43) := by decide +kernel
theorem d_En_hearProving_44 : decode c_En_hearProving 44 = .ok (.aload_n 0, 1) := by decide +kernel
theorem d_En_hearProving_45 : decode c_En_hearProving 45 = .ok (.invokevirtual 102, 3) := by decide +kernel
theorem d_En_hearProving_48 : decode c_En_hearProving 48 = .ok (.ireturn, 1) := by decide +kernel
theorem d_En_hearProving_49 : decode c_En_hearProving 49 = .ok (.iconst 1, 1) := by decide +kernel
theorem d_En_hearProving_50 : decode c_En_hearProving 50 = .ok (.ireturn, 1) := by decide +kernel
theorem d_En_hearProving_51 : decode c_En_hearProving 51 = .ok (.aload_n 0, 1) := by decide +kernel
theorem d_En_hearProving_52 : decode c_En_hearProving 52 = .ok (.iconst 2, 1) := by decide +kernel
theorem d_En_hearProving_53 : decode c_En_hearProving 53 = .ok (.bipush 15, 2) := by decide +kernel
theorem d_En_hearProving_55 : decode c_En_hearProving 55 = .ok (.invokevirtual 44, 3) := by decide +kernel
theorem d_En_hearProving_58 : decode c_En_hearProving 58 = .ok (.iconst 0, 1) := by decide +kernel
theorem d_En_hearProving_59 : decode c_En_hearProving 59 = .ok (.ireturn, 1) := by decide +kernel
theorem d_En_hearProving_60 : decode c_En_hearProving 60 = .ok (.aload_n 0, 1) := by decide +kernel
theorem d_En_hearProving_61 : decode c_En_hearProving 61 = .ok (.getfield 96, 3) := by decide +kernel
theorem d_En_hearProving_64 : decode c_En_hearProving 64 = .ok (.bipush 8, 2) := by decide +kernel
theorem d_En_hearProving_66 : decode c_En_hearProving 66 = .ok (.if_icmp .ne 8, 3) := by decide +kernel
theorem d_En_hearProving_69 : decode c_En_hearProving 69 = .ok (.aload_n 0, 1) := by decide +kernel
theorem d_En_hearProving_70 : decode c_En_hearProving 70 = .ok (.iconst 3, 1) := by decide +kernel
theorem d_En_hearProving_71 : decode c_En_hearProving 71 = .ok (.invokevirtual 92, 3) := by decide +kernel
theorem d_En_hearProving_74 : decode c_En_hearProving 74 = .ok (.iconst 0, 1) := by decide +kernel
theorem d_En_hearProving_75 : decode c_En_hearProving 75 = .ok (.ireturn, 1) := by decide +kernel
theorem d_En_hearProving_76 : decode c_En_hearProving 76 = .ok (.iconst 0, 1) := by decide +kernel
theorem d_En_hearProving_77 : decode c_En_hearProving 77 = .ok (.ireturn, 1) := by decide +kernel
def f_En_hearProving_76 (a : Nat) : sn_M := r_I (0 : Int32)
set_option maxHeartbeats 4000000 in
set_option maxRecDepth 100000 in
theorem mono_En_hearProving_76 (a : Nat) : sn_Mono (f_En_hearProving_76 a) := sn_Mono.rI
set_option maxHeartbeats 4000000 in
set_option maxRecDepth 100000 in
theorem s_En_hearProving_76 {X : sn_X} (C : sn_Cx X c_En_hearProving "SignalNetwork$End" (some .int) "hearProving" 2 3 62) (a : Nat) : sn_S X 76 [(0, vA (some a))] [] (f_En_hearProving_76 a) := by
  unfold f_En_hearProving_76
  refine r_iconst (q := 77) (v := 0) C d_En_hearProving_76 rfl (by decide) ?_
  exact r_iret C d_En_hearProving_77 rfl
def f_En_hearProving_74 (a : Nat) : sn_M := r_I (0 : Int32)
set_option maxHeartbeats 4000000 in
set_option maxRecDepth 100000 in
theorem mono_En_hearProving_74 (a : Nat) : sn_Mono (f_En_hearProving_74 a) := sn_Mono.rI
set_option maxHeartbeats 4000000 in
set_option maxRecDepth 100000 in
theorem s_En_hearProving_74 {X : sn_X} (C : sn_Cx X c_En_hearProving "SignalNetwork$End" (some .int) "hearProving" 2 3 62) (a : Nat) : sn_S X 74 [(0, vA (some a))] [] (f_En_hearProving_74 a) := by
  unfold f_En_hearProving_74
  refine r_iconst (q := 75) (v := 0) C d_En_hearProving_74 rfl (by decide) ?_
  exact r_iret C d_En_hearProving_75 rfl
def f_En_hearProving (a : Nat) (x1 : Int32) : sn_M := (sn_sw x1 [0, 1, 2, 3, 4, 5, 6] [(r_I (1 : Int32)), (n_n 2 (some a) fun a1 => c_V (f_En_enter a1 (2 : Int32) (15 : Int32)) (r_I (0 : Int32))), (f_En_hearProving_76 a), (g_I 2 14 (some a) fun v3 => (if ¬ v3 = (8 : Int32) then f_En_hearProving_74 a else n_n 2 (some a) fun a4 => c_V (f_En_prove a4 (3 : Int32)) (f_En_hearProving_74 a))), (f_En_hearProving_76 a), (f_En_hearProving_76 a), (n_n 2 (some a) fun a6 => c_I (f_En_err a6) fun v7 => r_I v7)] (f_En_hearProving_76 a))
set_option maxHeartbeats 4000000 in
set_option maxRecDepth 100000 in
theorem mono_En_hearProving (a : Nat) (x1 : Int32) : sn_Mono (f_En_hearProving a x1) := sn_sw_mono (mono_En_hearProving_76 a) _ _ (List.forall_mem_cons.mpr ⟨sn_Mono.rI, (List.forall_mem_cons.mpr ⟨sn_Mono.nn (fun a1 => sn_Mono.cV (mono_En_enter a1 (2 : Int32) (15 : Int32)) (sn_Mono.rI)), (List.forall_mem_cons.mpr ⟨mono_En_hearProving_76 a, (List.forall_mem_cons.mpr ⟨sn_Mono.gI (fun v3 => sn_Mono.ite (mono_En_hearProving_74 a) (sn_Mono.nn (fun a4 => sn_Mono.cV (mono_En_prove a4 (3 : Int32)) (mono_En_hearProving_74 a)))), (List.forall_mem_cons.mpr ⟨mono_En_hearProving_76 a, (List.forall_mem_cons.mpr ⟨mono_En_hearProving_76 a, (List.forall_mem_cons.mpr ⟨sn_Mono.nn (fun a6 => sn_Mono.cI (mono_En_err a6) (fun v7 => sn_Mono.rI)), (fun _ h => absurd h List.not_mem_nil)⟩)⟩)⟩)⟩)⟩)⟩)⟩)
set_option maxHeartbeats 4000000 in
set_option maxRecDepth 100000 in
theorem con_En_hearProving (a : Nat) (x1 : Int32) : sn_Con y_En_hearProving c_En_hearProving 2 (some .int) 3 62 [vA (some a), vI x1] (f_En_hearProving a x1) := by
  refine sn_Con.of (by decide +kernel) (by show _ ≤ _; exact Nat.le_of_ble_eq_true rfl) (mono_En_hearProving a x1) (fun X C => ?_)
  show sn_S X 0 [(0, vA (some a)), (1, vI x1)] [] _
  replace C : sn_Cx X c_En_hearProving "SignalNetwork$End" (some .int) "hearProving" 2 3 62 := C
  unfold f_En_hearProving
  refine r_iload_n (q := 1) (i := 1) (pl := 1) C d_En_hearProving_0 rfl rfl rfl ?_
  refine r_table (tD := 76) (ks := [0, 1, 2, 3, 4, 5, 6]) (ts := [49, 51, 76, 60, 76, 76, 44]) C d_En_hearProving_1 (by decide) (by decide) rfl ?_ ⟨?_, ?_, ?_, ?_, ?_, ?_, ?_, trivial⟩
  · refine r_sub (lv' := [(0, vA (some a))]) [0] rfl ?_
    exact s_En_hearProving_76 C a
  · refine r_iconst (q := 50) (v := 1) C d_En_hearProving_49 rfl (by decide) ?_
    exact r_iret C d_En_hearProving_50 rfl
  · refine r_aload_n (q := 52) (i := 0) (pl := 0) C d_En_hearProving_51 rfl rfl rfl ?_
    refine r_iconst (q := 53) (v := 2) C d_En_hearProving_52 rfl (by decide) ?_
    refine r_bipush (q := 55) (v := 15) C d_En_hearProving_53 rfl (by decide) ?_
    refine r_cvV (q := 58) (As := [vI (2 : Int32), vI (15 : Int32)]) (st := []) (cy := 1) C d_En_hearProving_55 rfl Y_En_enter L_En_44 I_En_enter Se_En_enter rfl (by decide) rfl (Nat.le_of_ble_eq_true rfl) (Nat.le_of_ble_eq_true rfl) (Nat.le_of_ble_eq_true rfl) rfl (fun a1 => con_En_enter a1 (2 : Int32) (15 : Int32)) ?_
    refine r_iconst (q := 59) (v := 0) C d_En_hearProving_58 rfl (by decide) ?_
    exact r_iret C d_En_hearProving_59 rfl
  · refine r_sub (lv' := [(0, vA (some a))]) [0] rfl ?_
    exact s_En_hearProving_76 C a
  · refine r_aload_n (q := 61) (i := 0) (pl := 0) C d_En_hearProving_60 rfl rfl rfl ?_
    refine r_gI (q := 64) C d_En_hearProving_61 rfl F_En_96 rfl (fun v3 => ?_)
    refine r_bipush (q := 66) (v := 8) C d_En_hearProving_64 rfl (by decide) ?_
    refine r_icmp_ne (tgt := 74) (q := 69) C d_En_hearProving_66 (by decide) rfl ?_ ?_
    · refine r_sub (lv' := [(0, vA (some a))]) [0] rfl ?_
      exact s_En_hearProving_74 C a
    · refine r_aload_n (q := 70) (i := 0) (pl := 0) C d_En_hearProving_69 rfl rfl rfl ?_
      refine r_iconst (q := 71) (v := 3) C d_En_hearProving_70 rfl (by decide) ?_
      refine r_cvV (q := 74) (As := [vI (3 : Int32)]) (st := []) (cy := 1) C d_En_hearProving_71 rfl Y_En_prove L_En_92 I_En_prove Se_En_prove rfl (by decide) rfl (Nat.le_of_ble_eq_true rfl) (Nat.le_of_ble_eq_true rfl) (Nat.le_of_ble_eq_true rfl) rfl (fun a4 => con_En_prove a4 (3 : Int32)) ?_
      refine r_sub (lv' := [(0, vA (some a))]) [0] rfl ?_
      exact s_En_hearProving_74 C a
  · refine r_sub (lv' := [(0, vA (some a))]) [0] rfl ?_
    exact s_En_hearProving_76 C a
  · refine r_sub (lv' := [(0, vA (some a))]) [0] rfl ?_
    exact s_En_hearProving_76 C a
  · refine r_aload_n (q := 45) (i := 0) (pl := 0) C d_En_hearProving_44 rfl rfl rfl ?_
    refine r_cvI (q := 48) (As := []) (st := []) (cy := 1) C d_En_hearProving_45 rfl Y_En_err L_En_102 I_En_err Se_En_err rfl (by decide) rfl (Nat.le_of_ble_eq_true rfl) (Nat.le_of_ble_eq_true rfl) (Nat.le_of_ble_eq_true rfl) rfl (fun a6 => con_En_err a6) (fun v7 => ?_)
    exact r_iret C d_En_hearProving_48 rfl
theorem d_En_serve_0 : decode c_En_serve 0 = .ok (.aload_n 0, 1) := by decide +kernel
theorem d_En_serve_1 : decode c_En_serve 1 = .ok (.getfield 18, 3) := by decide +kernel
theorem d_En_serve_4 : decode c_En_serve 4 = .ok (.iconst 5, 1) := by decide +kernel
theorem d_En_serve_5 : decode c_En_serve 5 = .ok (.if_icmp .ne 5, 3) := by decide +kernel
theorem d_En_serve_8 : decode c_En_serve 8 = .ok (.iconst 3, 1) := by decide +kernel
theorem d_En_serve_9 : decode c_En_serve 9 = .ok (.ireturn, 1) := by decide +kernel
theorem d_En_serve_10 : decode c_En_serve 10 = .ok (.aload_n 0, 1) := by decide +kernel
theorem d_En_serve_11 : decode c_En_serve 11 = .ok (.iconst 5, 1) := by decide +kernel
theorem d_En_serve_12 : decode c_En_serve 12 = .ok (.putfield 18, 3) := by decide +kernel
theorem d_En_serve_15 : decode c_En_serve 15 = .ok (.aload_n 0, 1) := by decide +kernel
theorem d_En_serve_16 : decode c_En_serve 16 = .ok (.iconst 0, 1) := by decide +kernel
theorem d_En_serve_17 : decode c_En_serve 17 = .ok (.putfield 61, 3) := by decide +kernel
theorem d_En_serve_20 : decode c_En_serve 20 = .ok (.iconst 2, 1) := by decide +kernel
theorem d_En_serve_21 : decode c_En_serve 21 = .ok (.ireturn, 1) := by decide +kernel
def f_En_serve (a : Nat) : sn_M := g_I 2 7 (some a) fun v1 => (if ¬ v1 = (5 : Int32) then p_I 2 7 (some a) (5 : Int32) (p_I 2 8 (some a) (0 : Int32) (r_I (2 : Int32))) else r_I (3 : Int32))
set_option maxHeartbeats 4000000 in
set_option maxRecDepth 100000 in
theorem mono_En_serve (a : Nat) : sn_Mono (f_En_serve a) := sn_Mono.gI (fun v1 => sn_Mono.ite (sn_Mono.pI (sn_Mono.pI (sn_Mono.rI))) (sn_Mono.rI))
set_option maxHeartbeats 4000000 in
set_option maxRecDepth 100000 in
theorem con_En_serve (a : Nat) : sn_Con y_En_serve c_En_serve 1 (some .int) 0 0 [vA (some a)] (f_En_serve a) := by
  refine sn_Con.of (by decide +kernel) (by show _ ≤ _; exact Nat.le_of_ble_eq_true rfl) (mono_En_serve a) (fun X C => ?_)
  show sn_S X 0 [(0, vA (some a))] [] _
  replace C : sn_Cx X c_En_serve "SignalNetwork$End" (some .int) "serve" 1 0 0 := C
  unfold f_En_serve
  refine r_aload_n (q := 1) (i := 0) (pl := 0) C d_En_serve_0 rfl rfl rfl ?_
  refine r_gI (q := 4) C d_En_serve_1 rfl F_En_18 rfl (fun v1 => ?_)
  refine r_iconst (q := 5) (v := 5) C d_En_serve_4 rfl (by decide) ?_
  refine r_icmp_ne (tgt := 10) (q := 8) C d_En_serve_5 (by decide) rfl ?_ ?_
  · refine r_aload_n (q := 11) (i := 0) (pl := 0) C d_En_serve_10 rfl rfl rfl ?_
    refine r_iconst (q := 12) (v := 5) C d_En_serve_11 rfl (by decide) ?_
    refine r_pI (q := 15) C d_En_serve_12 rfl F_En_18 rfl rfl (Or.inl rfl) ?_
    refine r_aload_n (q := 16) (i := 0) (pl := 0) C d_En_serve_15 rfl rfl rfl ?_
    refine r_iconst (q := 17) (v := 0) C d_En_serve_16 rfl (by decide) ?_
    refine r_pI (q := 20) C d_En_serve_17 rfl F_En_61 rfl rfl (Or.inl rfl) ?_
    refine r_iconst (q := 21) (v := 2) C d_En_serve_20 rfl (by decide) ?_
    exact r_iret C d_En_serve_21 rfl
  · refine r_iconst (q := 9) (v := 3) C d_En_serve_8 rfl (by decide) ?_
    exact r_iret C d_En_serve_9 rfl
theorem d_En_hearReady_0 : decode c_En_hearReady 0 = .ok (.aload_n 0, 1) := by decide +kernel
theorem d_En_hearReady_1 : decode c_En_hearReady 1 = .ok (.aload_n 0, 1) := by decide +kernel
theorem d_En_hearReady_2 : decode c_En_hearReady 2 = .ok (.getfield 106, 3) := by decide +kernel
theorem d_En_hearReady_5 : decode c_En_hearReady 5 = .ok (.iconst 1, 1) := by decide +kernel
theorem d_En_hearReady_6 : decode c_En_hearReady 6 = .ok (.iadd, 1) := by decide +kernel
theorem d_En_hearReady_7 : decode c_En_hearReady 7 = .ok (.bipush 16, 2) := by decide +kernel
theorem d_En_hearReady_9 : decode c_En_hearReady 9 = .ok (.irem, 1) := by decide +kernel
theorem d_En_hearReady_10 : decode c_En_hearReady 10 = .ok (.putfield 106, 3) := by decide +kernel
theorem d_En_hearReady_13 : decode c_En_hearReady 13 = .ok (.aload_n 0, 1) := by decide +kernel
theorem d_En_hearReady_14 : decode c_En_hearReady 14 = .ok (.getfield 106, 3) := by decide +kernel
theorem d_En_hearReady_17 : decode c_En_hearReady 17 = .ok (.ifCond .ne 20, 3) := by decide +kernel
theorem d_En_hearReady_20 : decode c_En_hearReady 20 = .ok (.aload_n 0, 1) := by decide +kernel
theorem d_En_hearReady_21 : decode c_En_hearReady 21 = .ok (.getfield 109, 3) := by decide +kernel
theorem d_En_hearReady_24 : decode c_En_hearReady 24 = .ok (.ifCond .le 13, 3) := by decide +kernel
theorem d_En_hearReady_27 : decode c_En_hearReady 27 = .ok (.aload_n 0, 1) := by decide +kernel
theorem d_En_hearReady_28 : decode c_En_hearReady 28 = .ok (.dup, 1) := by decide +kernel
theorem d_En_hearReady_29 : decode c_En_hearReady 29 = .ok (.getfield 109, 3) := by decide +kernel
theorem d_En_hearReady_32 : decode c_En_hearReady 32 = .ok (.iconst 1, 1) := by decide +kernel
theorem d_En_hearReady_33 : decode c_En_hearReady 33 = .ok (.isub, 1) := by decide +kernel
theorem d_En_hearReady_34 : decode c_En_hearReady 34 = .ok (.putfield 109, 3) := by decide +kernel
theorem d_En_hearReady_37 : decode c_En_hearReady 37 = .ok (.iload_n 1, 1) := by decide +kernel
theorem d_En_hearReady_38 : decode c_En_hearReady 38 = .ok (.tableswitch 78 2 6 #[64, 64, 59, 59, 34], 34) := by decide +kernel
theorem d_En_hearReady_72 : decode c_En_hearReady 72 = .ok (.aload_n 0, 1) := by decide +kernel
theorem d_En_hearReady_73 : decode c_En_hearReady 73 = .ok (.dup, 1) := by decide +kernel
theorem d_En_hearReady_74 : decode c_En_hearReady 74 = .ok (.getfield 109, 3) := by decide +kernel
theorem d_En_hearReady_77 : decode c_En_hearReady 77 = .ok (.iconst 1, 1) := by decide +kernel
theorem d_En_hearReady_78 : decode c_En_hearReady 78 = .ok (.iadd, 1) := by decide +kernel
theorem d_En_hearReady_79 : decode c_En_hearReady 79 = .ok (.putfield 109, 3) := by decide +kernel
theorem d_En_hearReady_82 : decode c_En_hearReady 82 = .ok (.aload_n 0, 1) := by decide +kernel
theorem d_En_hearReady_83 : decode c_En_hearReady 83 = .ok (.getfield 109, 3) := by decide +kernel
theorem d_En_hearReady_86 : decode c_En_hearReady 86 = .ok (.bipush 6, 2) := by decide +kernel
theorem d_En_hearReady_88 : decode c_En_hearReady 88 = .ok (.if_icmp .lt 7, 3) := by decide +kernel
theorem d_En_hearReady_91 : decode c_En_hearReady 91 = .ok (.iconst 1, 1) := by decide +kernel
theorem d_En_hearReady_92 : decode c_En_hearReady 92 = .ok (.goto 4, 3) := by decide +kernel
theorem d_En_hearReady_95 : decode c_En_hearReady 95 = .ok (.iconst 0, 1) := by decide +kernel
theorem d_En_hearReady_96 : decode c_En_hearReady 96 = .ok (.ireturn, 1) := by decide +kernel
theorem d_En_hearReady_97 : decode c_En_hearReady 97 = .ok (.aload_n 0, 1) := by decide +kernel
theorem d_En_hearReady_98 : decode c_En_hearReady 98 = .ok (.invokevirtual 112, 3) := by decide +kernel
theorem d_En_hearReady_101 : decode c_En_hearReady 101 = .ok (.ireturn, 1) := by decide +kernel
theorem d_En_hearReady_102 : decode c_En_hearReady 102 = .ok (.aload_n 0, 1) := by decide +kernel
theorem d_En_hearReady_103 : decode c_En_hearReady 103 = .ok (.getfield 18, 3) := by decide +kernel
theorem d_En_hearReady_106 : decode c_En_hearReady 106 = .ok (.iconst 5, 1) := by decide +kernel
theorem d_En_hearReady_107 : decode c_En_hearReady 107 = .ok (.if_icmp .ne 7, 3) := by decide +kernel
theorem d_En_hearReady_110 : decode c_En_hearReady 110 = .ok (.iconst 1, 1) := by decide +kernel
theorem d_En_hearReady_111 : decode c_En_hearReady 111 = .ok (.goto 4, 3) := by decide +kernel
theorem d_En_hearReady_114 : decode c_En_hearReady 114 = .ok (.iconst 0, 1) := by decide +kernel
theorem d_En_hearReady_115 : decode c_En_hearReady 115 = .ok (.ireturn, 1) := by decide +kernel
theorem d_En_hearReady_116 : decode c_En_hearReady 116 = .ok (.iconst 1, 1) := by decide +kernel
theorem d_En_hearReady_117 : decode c_En_hearReady 117 = .ok (.ireturn, 1) := by decide +kernel
def f_En_hearReady_115 (a : Nat) (t0 : Int32) : sn_M := r_I t0
set_option maxHeartbeats 4000000 in
set_option maxRecDepth 100000 in
theorem mono_En_hearReady_115 (a : Nat) (t0 : Int32) : sn_Mono (f_En_hearReady_115 a t0) := sn_Mono.rI
set_option maxHeartbeats 4000000 in
set_option maxRecDepth 100000 in
theorem s_En_hearReady_115 {X : sn_X} (C : sn_Cx X c_En_hearReady "SignalNetwork$End" (some .int) "hearReady" 2 1 20) (a : Nat) (t0 : Int32) : sn_S X 115 [(0, vA (some a))] [vI t0] (f_En_hearReady_115 a t0) := by
  unfold f_En_hearReady_115
  exact r_iret C d_En_hearReady_115 rfl
def f_En_hearReady_102 (a : Nat) : sn_M := g_I 2 7 (some a) fun v1 => (if ¬ v1 = (5 : Int32) then f_En_hearReady_115 a (0 : Int32) else f_En_hearReady_115 a (1 : Int32))
set_option maxHeartbeats 4000000 in
set_option maxRecDepth 100000 in
theorem mono_En_hearReady_102 (a : Nat) : sn_Mono (f_En_hearReady_102 a) := sn_Mono.gI (fun v1 => sn_Mono.ite (mono_En_hearReady_115 a (0 : Int32)) (mono_En_hearReady_115 a (1 : Int32)))
set_option maxHeartbeats 4000000 in
set_option maxRecDepth 100000 in
theorem s_En_hearReady_102 {X : sn_X} (C : sn_Cx X c_En_hearReady "SignalNetwork$End" (some .int) "hearReady" 2 1 20) (a : Nat) : sn_S X 102 [(0, vA (some a))] [] (f_En_hearReady_102 a) := by
  unfold f_En_hearReady_102
  refine r_aload_n (q := 103) (i := 0) (pl := 0) C d_En_hearReady_102 rfl rfl rfl ?_
  refine r_gI (q := 106) C d_En_hearReady_103 rfl F_En_18 rfl (fun v1 => ?_)
  refine r_iconst (q := 107) (v := 5) C d_En_hearReady_106 rfl (by decide) ?_
  refine r_icmp_ne (tgt := 114) (q := 110) C d_En_hearReady_107 (by decide) rfl ?_ ?_
  · refine r_iconst (q := 115) (v := 0) C d_En_hearReady_114 rfl (by decide) ?_
    exact s_En_hearReady_115 C a (0 : Int32)
  · refine r_iconst (q := 111) (v := 1) C d_En_hearReady_110 rfl (by decide) ?_
    refine r_goto (tgt := 115) C d_En_hearReady_111 (by decide) ?_
    exact s_En_hearReady_115 C a (1 : Int32)
def f_En_hearReady_97 (a : Nat) : sn_M := n_n 2 (some a) fun a2 => c_I (f_En_serve a2) fun v3 => r_I v3
set_option maxHeartbeats 4000000 in
set_option maxRecDepth 100000 in
theorem mono_En_hearReady_97 (a : Nat) : sn_Mono (f_En_hearReady_97 a) := sn_Mono.nn (fun a2 => sn_Mono.cI (mono_En_serve a2) (fun v3 => sn_Mono.rI))
set_option maxHeartbeats 4000000 in
set_option maxRecDepth 100000 in
theorem s_En_hearReady_97 {X : sn_X} (C : sn_Cx X c_En_hearReady "SignalNetwork$End" (some .int) "hearReady" 2 1 20) (a : Nat) : sn_S X 97 [(0, vA (some a))] [] (f_En_hearReady_97 a) := by
  unfold f_En_hearReady_97
  refine r_aload_n (q := 98) (i := 0) (pl := 0) C d_En_hearReady_97 rfl rfl rfl ?_
  refine r_cvI (q := 101) (As := []) (st := []) (cy := 1) C d_En_hearReady_98 rfl Y_En_serve L_En_112 I_En_serve Se_En_serve rfl (by decide) rfl (Nat.le_of_ble_eq_true rfl) (Nat.le_of_ble_eq_true rfl) (Nat.le_of_ble_eq_true rfl) rfl (fun a2 => con_En_serve a2) (fun v3 => ?_)
  exact r_iret C d_En_hearReady_101 rfl
def f_En_hearReady_96 (a : Nat) (t0 : Int32) : sn_M := r_I t0
set_option maxHeartbeats 4000000 in
set_option maxRecDepth 100000 in
theorem mono_En_hearReady_96 (a : Nat) (t0 : Int32) : sn_Mono (f_En_hearReady_96 a t0) := sn_Mono.rI
set_option maxHeartbeats 4000000 in
set_option maxRecDepth 100000 in
theorem s_En_hearReady_96 {X : sn_X} (C : sn_Cx X c_En_hearReady "SignalNetwork$End" (some .int) "hearReady" 2 1 20) (a : Nat) (t0 : Int32) : sn_S X 96 [(0, vA (some a))] [vI t0] (f_En_hearReady_96 a t0) := by
  unfold f_En_hearReady_96
  exact r_iret C d_En_hearReady_96 rfl
def f_En_hearReady_37 (a : Nat) (x1 : Int32) : sn_M := (sn_sw x1 [2, 3, 4, 5, 6] [(f_En_hearReady_102 a), (f_En_hearReady_102 a), (f_En_hearReady_97 a), (f_En_hearReady_97 a), (g_I 2 17 (some a) fun v4 => p_I 2 17 (some a) (v4 + (1 : Int32)) (g_I 2 17 (some a) fun v5 => (if v5 < (6 : Int32) then f_En_hearReady_96 a (0 : Int32) else f_En_hearReady_96 a (1 : Int32))))] (r_I (1 : Int32)))
set_option maxHeartbeats 4000000 in
set_option maxRecDepth 100000 in
theorem mono_En_hearReady_37 (a : Nat) (x1 : Int32) : sn_Mono (f_En_hearReady_37 a x1) := sn_sw_mono (sn_Mono.rI) _ _ (List.forall_mem_cons.mpr ⟨mono_En_hearReady_102 a, (List.forall_mem_cons.mpr ⟨mono_En_hearReady_102 a, (List.forall_mem_cons.mpr ⟨mono_En_hearReady_97 a, (List.forall_mem_cons.mpr ⟨mono_En_hearReady_97 a, (List.forall_mem_cons.mpr ⟨sn_Mono.gI (fun v4 => sn_Mono.pI (sn_Mono.gI (fun v5 => sn_Mono.ite (mono_En_hearReady_96 a (0 : Int32)) (mono_En_hearReady_96 a (1 : Int32))))), (fun _ h => absurd h List.not_mem_nil)⟩)⟩)⟩)⟩)⟩)
set_option maxHeartbeats 4000000 in
set_option maxRecDepth 100000 in
theorem s_En_hearReady_37 {X : sn_X} (C : sn_Cx X c_En_hearReady "SignalNetwork$End" (some .int) "hearReady" 2 1 20) (a : Nat) (x1 : Int32) : sn_S X 37 [(0, vA (some a)), (1, vI x1)] [] (f_En_hearReady_37 a x1) := by
  unfold f_En_hearReady_37
  refine r_iload_n (q := 38) (i := 1) (pl := 1) C d_En_hearReady_37 rfl rfl rfl ?_
  refine r_table (tD := 116) (ks := [2, 3, 4, 5, 6]) (ts := [102, 102, 97, 97, 72]) C d_En_hearReady_38 (by decide) (by decide) rfl ?_ ⟨?_, ?_, ?_, ?_, ?_, trivial⟩
  · refine r_iconst (q := 117) (v := 1) C d_En_hearReady_116 rfl (by decide) ?_
    exact r_iret C d_En_hearReady_117 rfl
  · refine r_sub (lv' := [(0, vA (some a))]) [0] rfl ?_
    exact s_En_hearReady_102 C a
  · refine r_sub (lv' := [(0, vA (some a))]) [0] rfl ?_
    exact s_En_hearReady_102 C a
  · refine r_sub (lv' := [(0, vA (some a))]) [0] rfl ?_
    exact s_En_hearReady_97 C a
  · refine r_sub (lv' := [(0, vA (some a))]) [0] rfl ?_
    exact s_En_hearReady_97 C a
  · refine r_aload_n (q := 73) (i := 0) (pl := 0) C d_En_hearReady_72 rfl rfl rfl ?_
    refine r_dup (q := 74) C d_En_hearReady_73 rfl rfl ?_
    refine r_gI (q := 77) C d_En_hearReady_74 rfl F_En_109 rfl (fun v4 => ?_)
    refine r_iconst (q := 78) (v := 1) C d_En_hearReady_77 rfl (by decide) ?_
    refine r_iadd (q := 79) C d_En_hearReady_78 rfl ?_
    refine r_pI (q := 82) C d_En_hearReady_79 rfl F_En_109 rfl rfl (Or.inl rfl) ?_
    refine r_aload_n (q := 83) (i := 0) (pl := 0) C d_En_hearReady_82 rfl rfl rfl ?_
    refine r_gI (q := 86) C d_En_hearReady_83 rfl F_En_109 rfl (fun v5 => ?_)
    refine r_bipush (q := 88) (v := 6) C d_En_hearReady_86 rfl (by decide) ?_
    refine r_icmp_lt (tgt := 95) (q := 91) C d_En_hearReady_88 (by decide) rfl ?_ ?_
    · refine r_iconst (q := 96) (v := 0) C d_En_hearReady_95 rfl (by decide) ?_
      refine r_sub (lv' := [(0, vA (some a))]) [0] rfl ?_
      exact s_En_hearReady_96 C a (0 : Int32)
    · refine r_iconst (q := 92) (v := 1) C d_En_hearReady_91 rfl (by decide) ?_
      refine r_goto (tgt := 96) C d_En_hearReady_92 (by decide) ?_
      refine r_sub (lv' := [(0, vA (some a))]) [0] rfl ?_
      exact s_En_hearReady_96 C a (1 : Int32)
def f_En_hearReady (a : Nat) (x1 : Int32) : sn_M := g_I 2 18 (some a) fun v6 => p_I 2 18 (some a) ((v6 + (1 : Int32)) % (16 : Int32)) (g_I 2 18 (some a) fun v7 => (if ¬ v7 = 0 then f_En_hearReady_37 a x1 else g_I 2 17 (some a) fun v8 => (if v8 ≤ 0 then f_En_hearReady_37 a x1 else g_I 2 17 (some a) fun v9 => p_I 2 17 (some a) (v9 - (1 : Int32)) (f_En_hearReady_37 a x1))))
set_option maxHeartbeats 4000000 in
set_option maxRecDepth 100000 in
theorem mono_En_hearReady (a : Nat) (x1 : Int32) : sn_Mono (f_En_hearReady a x1) := sn_Mono.gI (fun v6 => sn_Mono.pI (sn_Mono.gI (fun v7 => sn_Mono.ite (mono_En_hearReady_37 a x1) (sn_Mono.gI (fun v8 => sn_Mono.ite (mono_En_hearReady_37 a x1) (sn_Mono.gI (fun v9 => sn_Mono.pI (mono_En_hearReady_37 a x1))))))))
set_option maxHeartbeats 4000000 in
set_option maxRecDepth 100000 in
theorem con_En_hearReady (a : Nat) (x1 : Int32) : sn_Con y_En_hearReady c_En_hearReady 2 (some .int) 1 20 [vA (some a), vI x1] (f_En_hearReady a x1) := by
  refine sn_Con.of (by decide +kernel) (by show _ ≤ _; exact Nat.le_of_ble_eq_true rfl) (mono_En_hearReady a x1) (fun X C => ?_)
  show sn_S X 0 [(0, vA (some a)), (1, vI x1)] [] _
  replace C : sn_Cx X c_En_hearReady "SignalNetwork$End" (some .int) "hearReady" 2 1 20 := C
  unfold f_En_hearReady
  refine r_aload_n (q := 1) (i := 0) (pl := 0) C d_En_hearReady_0 rfl rfl rfl ?_
  refine r_aload_n (q := 2) (i := 0) (pl := 0) C d_En_hearReady_1 rfl rfl rfl ?_
  refine r_gI (q := 5) C d_En_hearReady_2 rfl F_En_106 rfl (fun v6 => ?_)
  refine r_iconst (q := 6) (v := 1) C d_En_hearReady_5 rfl (by decide) ?_
  refine r_iadd (q := 7) C d_En_hearReady_6 rfl ?_
  refine r_bipush (q := 9) (v := 16) C d_En_hearReady_7 rfl (by decide) ?_
  refine r_iremc (q := 10) C d_En_hearReady_9 rfl (by decide) ?_
  refine r_pI (q := 13) C d_En_hearReady_10 rfl F_En_106 rfl rfl (Or.inl rfl) ?_
  refine r_aload_n (q := 14) (i := 0) (pl := 0) C d_En_hearReady_13 rfl rfl rfl ?_
  refine r_gI (q := 17) C d_En_hearReady_14 rfl F_En_106 rfl (fun v7 => ?_)
  refine r_if_ne (tgt := 37) (q := 20) C d_En_hearReady_17 (by decide) rfl ?_ ?_
  · exact s_En_hearReady_37 C a x1
  · refine r_aload_n (q := 21) (i := 0) (pl := 0) C d_En_hearReady_20 rfl rfl rfl ?_
    refine r_gI (q := 24) C d_En_hearReady_21 rfl F_En_109 rfl (fun v8 => ?_)
    refine r_if_le (tgt := 37) (q := 27) C d_En_hearReady_24 (by decide) rfl ?_ ?_
    · exact s_En_hearReady_37 C a x1
    · refine r_aload_n (q := 28) (i := 0) (pl := 0) C d_En_hearReady_27 rfl rfl rfl ?_
      refine r_dup (q := 29) C d_En_hearReady_28 rfl rfl ?_
      refine r_gI (q := 32) C d_En_hearReady_29 rfl F_En_109 rfl (fun v9 => ?_)
      refine r_iconst (q := 33) (v := 1) C d_En_hearReady_32 rfl (by decide) ?_
      refine r_isub (q := 34) C d_En_hearReady_33 rfl ?_
      refine r_pI (q := 37) C d_En_hearReady_34 rfl F_En_109 rfl rfl (Or.inl rfl) ?_
      exact s_En_hearReady_37 C a x1
theorem d_En_hearSeeking_0 : decode c_En_hearSeeking 0 = .ok (.iload_n 1, 1) := by decide +kernel
theorem d_En_hearSeeking_1 : decode c_En_hearSeeking 1 = .ok (.iconst 1, 1) := by decide +kernel
theorem d_En_hearSeeking_2 : decode c_En_hearSeeking 2 = .ok (.if_icmp .eq 10, 3) := by decide +kernel
theorem d_En_hearSeeking_5 : decode c_En_hearSeeking 5 = .ok (.iload_n 1, 1) := by decide +kernel
theorem d_En_hearSeeking_6 : decode c_En_hearSeeking 6 = .ok (.invokestatic 70, 3) := by decide +kernel
theorem d_En_hearSeeking_9 : decode c_En_hearSeeking 9 = .ok (.ifCond .eq 10, 3) := by decide +kernel
theorem d_En_hearSeeking_12 : decode c_En_hearSeeking 12 = .ok (.aload_n 0, 1) := by decide +kernel
theorem d_En_hearSeeking_13 : decode c_En_hearSeeking 13 = .ok (.iconst 2, 1) := by decide +kernel
theorem d_En_hearSeeking_14 : decode c_En_hearSeeking 14 = .ok (.bipush 15, 2) := by decide +kernel
theorem d_En_hearSeeking_16 : decode c_En_hearSeeking 16 = .ok (.invokevirtual 44, 3) := by decide +kernel
theorem d_En_hearSeeking_19 : decode c_En_hearSeeking 19 = .ok (.iconst 0, 1) := by decide +kernel
theorem d_En_hearSeeking_20 : decode c_En_hearSeeking 20 = .ok (.ireturn, 1) := by decide +kernel
def f_En_hearSeeking_19 (a : Nat) : sn_M := r_I (0 : Int32)
set_option maxHeartbeats 4000000 in
set_option maxRecDepth 100000 in
theorem mono_En_hearSeeking_19 (a : Nat) : sn_Mono (f_En_hearSeeking_19 a) := sn_Mono.rI
set_option maxHeartbeats 4000000 in
set_option maxRecDepth 100000 in
theorem s_En_hearSeeking_19 {X : sn_X} (C : sn_Cx X c_En_hearSeeking "SignalNetwork$End" (some .int) "hearSeeking" 2 2 43) (a : Nat) : sn_S X 19 [(0, vA (some a))] [] (f_En_hearSeeking_19 a) := by
  unfold f_En_hearSeeking_19
  refine r_iconst (q := 20) (v := 0) C d_En_hearSeeking_19 rfl (by decide) ?_
  exact r_iret C d_En_hearSeeking_20 rfl
def f_En_hearSeeking_12 (a : Nat) : sn_M := n_n 2 (some a) fun a1 => c_V (f_En_enter a1 (2 : Int32) (15 : Int32)) (f_En_hearSeeking_19 a)
set_option maxHeartbeats 4000000 in
set_option maxRecDepth 100000 in
theorem mono_En_hearSeeking_12 (a : Nat) : sn_Mono (f_En_hearSeeking_12 a) := sn_Mono.nn (fun a1 => sn_Mono.cV (mono_En_enter a1 (2 : Int32) (15 : Int32)) (mono_En_hearSeeking_19 a))
set_option maxHeartbeats 4000000 in
set_option maxRecDepth 100000 in
theorem s_En_hearSeeking_12 {X : sn_X} (C : sn_Cx X c_En_hearSeeking "SignalNetwork$End" (some .int) "hearSeeking" 2 2 43) (a : Nat) : sn_S X 12 [(0, vA (some a))] [] (f_En_hearSeeking_12 a) := by
  unfold f_En_hearSeeking_12
  refine r_aload_n (q := 13) (i := 0) (pl := 0) C d_En_hearSeeking_12 rfl rfl rfl ?_
  refine r_iconst (q := 14) (v := 2) C d_En_hearSeeking_13 rfl (by decide) ?_
  refine r_bipush (q := 16) (v := 15) C d_En_hearSeeking_14 rfl (by decide) ?_
  refine r_cvV (q := 19) (As := [vI (2 : Int32), vI (15 : Int32)]) (st := []) (cy := 1) C d_En_hearSeeking_16 rfl Y_En_enter L_En_44 I_En_enter Se_En_enter rfl (by decide) rfl (Nat.le_of_ble_eq_true rfl) (Nat.le_of_ble_eq_true rfl) (Nat.le_of_ble_eq_true rfl) rfl (fun a1 => con_En_enter a1 (2 : Int32) (15 : Int32)) ?_
  exact s_En_hearSeeking_19 C a
def f_En_hearSeeking (a : Nat) (x1 : Int32) : sn_M := (if x1 = (1 : Int32) then f_En_hearSeeking_12 a else c_I (f_En_isProve x1) fun v3 => (if v3 = 0 then f_En_hearSeeking_19 a else f_En_hearSeeking_12 a))
set_option maxHeartbeats 4000000 in
set_option maxRecDepth 100000 in
theorem mono_En_hearSeeking (a : Nat) (x1 : Int32) : sn_Mono (f_En_hearSeeking a x1) := sn_Mono.ite (mono_En_hearSeeking_12 a) (sn_Mono.cI (mono_En_isProve x1) (fun v3 => sn_Mono.ite (mono_En_hearSeeking_19 a) (mono_En_hearSeeking_12 a)))
set_option maxHeartbeats 4000000 in
set_option maxRecDepth 100000 in
theorem con_En_hearSeeking (a : Nat) (x1 : Int32) : sn_Con y_En_hearSeeking c_En_hearSeeking 2 (some .int) 2 43 [vA (some a), vI x1] (f_En_hearSeeking a x1) := by
  refine sn_Con.of (by decide +kernel) (by show _ ≤ _; exact Nat.le_of_ble_eq_true rfl) (mono_En_hearSeeking a x1) (fun X C => ?_)
  show sn_S X 0 [(0, vA (some a)), (1, vI x1)] [] _
  replace C : sn_Cx X c_En_hearSeeking "SignalNetwork$End" (some .int) "hearSeeking" 2 2 43 := C
  unfold f_En_hearSeeking
  refine r_iload_n (q := 1) (i := 1) (pl := 1) C d_En_hearSeeking_0 rfl rfl rfl ?_
  refine r_iconst (q := 2) (v := 1) C d_En_hearSeeking_1 rfl (by decide) ?_
  refine r_icmp_eq (tgt := 12) (q := 5) C d_En_hearSeeking_2 (by decide) rfl ?_ ?_
  · refine r_sub (lv' := [(0, vA (some a))]) [0] rfl ?_
    exact s_En_hearSeeking_12 C a
  · refine r_iload_n (q := 6) (i := 1) (pl := 1) C d_En_hearSeeking_5 rfl rfl rfl ?_
    refine r_csI (q := 9) (As := [vI x1]) (st := []) C d_En_hearSeeking_6 rfl Y_En_isProve L_En_70 St_En_isProve rfl (Nat.le_of_ble_eq_true rfl) (Nat.le_of_ble_eq_true rfl) (Nat.le_of_ble_eq_true rfl) rfl (con_En_isProve x1) (fun v3 => ?_)
    refine r_if_eq (tgt := 19) (q := 12) C d_En_hearSeeking_9 (by decide) rfl ?_ ?_
    · refine r_sub (lv' := [(0, vA (some a))]) [0] rfl ?_
      exact s_En_hearSeeking_19 C a
    · refine r_sub (lv' := [(0, vA (some a))]) [0] rfl ?_
      exact s_En_hearSeeking_12 C a
theorem d_En_hear_0 : decode c_En_hear 0 = .ok (.aload_n 0, 1) := by decide +kernel
theorem d_En_hear_1 : decode c_En_hear 1 = .ok (.getfield 18, 3) := by decide +kernel
theorem d_En_hear_4 : decode c_En_hear 4 = .ok (.ifCond .ne 5, 3) := by decide +kernel
theorem d_En_hear_7 : decode c_En_hear 7 = .ok (.iconst 0, 1) := by decide +kernel
theorem d_En_hear_8 : decode c_En_hear 8 = .ok (.ireturn, 1) := by decide +kernel
theorem d_En_hear_9 : decode c_En_hear 9 = .ok (.iload_n 1, 1) := by decide +kernel
theorem d_En_hear_10 : decode c_En_hear 10 = .ok (.invokestatic 70, 3) := by decide +kernel
theorem d_En_hear_13 : decode c_En_hear 13 = .ok (.ifCond .eq 8, 3) := by decide +kernel
theorem d_En_hear_16 : decode c_En_hear 16 = .ok (.aload_n 0, 1) := by decide +kernel
theorem d_En_hear_17 : decode c_En_hear 17 = .ok (.iload_n 2, 1) := by decide +kernel
theorem d_En_hear_18 : decode c_En_hear 18 = .ok (.putfield 74, 3) := by decide +kernel
theorem d_En_hear_21 : decode c_En_hear 21 = .ok (.aload_n 0, 1) := by decide +kernel
theorem d_En_hear_22 : decode c_En_hear 22 = .ok (.getfield 18, 3) := by decide +kernel
theorem d_En_hear_25 : decode c_En_hear 25 = .ok (.tableswitch 45 1 3 #[27, 33, 39], 27) := by decide +kernel
theorem d_En_hear_52 : decode c_En_hear 52 = .ok (.aload_n 0, 1) := by decide +kernel
theorem d_En_hear_53 : decode c_En_hear 53 = .ok (.iload_n 1, 1) := by decide +kernel
theorem d_En_hear_54 : decode c_En_hear 54 = .ok (.invokevirtual 77, 3) := by decide +kernel
theorem d_En_hear_57 : decode c_En_hear 57 = .ok (.ireturn, 1) := by decide +kernel
theorem d_En_hear_58 : decode c_En_hear 58 = .ok (.aload_n 0, 1) := by decide +kernel
theorem d_En_hear_59 : decode c_En_hear 59 = .ok (.iload_n 1, 1) := by decide +kernel
theorem d_En_hear_60 : decode c_En_hear 60 = .ok (.invokevirtual 80, 3) := by decide +kernel
theorem d_En_hear_63 : decode c_En_hear 63 = .ok (.ireturn, 1) := by decide +kernel
theorem d_En_hear_64 : decode c_En_hear 64 = .ok (.aload_n 0, 1) := by decide +kernel
theorem d_En_hear_65 : decode c_En_hear 65 = .ok (.iload_n 1, 1) := by decide +kernel
theorem d_En_hear_66 : decode c_En_hear 66 = .ok (.invokevirtual 83, 3) := by decide +kernel
theorem d_En_hear_69 : decode c_En_hear 69 = .ok (.ireturn, 1) := by decide +kernel
theorem d_En_hear_70 : decode c_En_hear 70 = .ok (.aload_n 0, 1) := by decide +kernel
theorem d_En_hear_71 : decode c_En_hear 71 = .ok (.iload_n 1, 1) := by decide +kernel
theorem d_En_hear_72 : decode c_En_hear 72 = .ok (.invokevirtual 86, 3) := by decide +kernel
theorem d_En_hear_75 : decode c_En_hear 75 = .ok (.ireturn, 1) := by decide +kernel
def f_En_hear_21 (a : Nat) (x1 : Int32) : sn_M := g_I 2 7 (some a) fun v1 => (sn_sw v1 [1, 2, 3] [(n_n 2 (some a) fun a2 => c_I (f_En_hearSeeking a2 x1) fun v3 => r_I v3), (n_n 2 (some a) fun a4 => c_I (f_En_hearAligned a4 x1) fun v5 => r_I v5), (n_n 2 (some a) fun a6 => c_I (f_En_hearProving a6 x1) fun v7 => r_I v7)] (n_n 2 (some a) fun a8 => c_I (f_En_hearReady a8 x1) fun v9 => r_I v9))
set_option maxHeartbeats 4000000 in
set_option maxRecDepth 100000 in
theorem mono_En_hear_21 (a : Nat) (x1 : Int32) : sn_Mono (f_En_hear_21 a x1) := sn_Mono.gI (fun v1 => sn_sw_mono (sn_Mono.nn (fun a8 => sn_Mono.cI (mono_En_hearReady a8 x1) (fun v9 => sn_Mono.rI))) _ _ (List.forall_mem_cons.mpr ⟨sn_Mono.nn (fun a2 => sn_Mono.cI (mono_En_hearSeeking a2 x1) (fun v3 => sn_Mono.rI)), (List.forall_mem_cons.mpr ⟨sn_Mono.nn (fun a4 => sn_Mono.cI (mono_En_hearAligned a4 x1) (fun v5 => sn_Mono.rI)), (List.forall_mem_cons.mpr ⟨sn_Mono.nn (fun a6 => sn_Mono.cI (mono_En_hearProving a6 x1) (fun v7 => sn_Mono.rI)), (fun _ h => absurd h List.not_mem_nil)⟩)⟩)⟩))
set_option maxHeartbeats 4000000 in
set_option maxRecDepth 100000 in
theorem s_En_hear_21 {X : sn_X} (C : sn_Cx X c_En_hear "SignalNetwork$End" (some .int) "hear" 3 4 83) (a : Nat) (x1 : Int32) : sn_S X 21 [(0, vA (some a)), (1, vI x1)] [] (f_En_hear_21 a x1) := by
  unfold f_En_hear_21
  refine r_aload_n (q := 22) (i := 0) (pl := 0) C d_En_hear_21 rfl rfl rfl ?_
  refine r_gI (q := 25) C d_En_hear_22 rfl F_En_18 rfl (fun v1 => ?_)
  refine r_table (tD := 70) (ks := [1, 2, 3]) (ts := [52, 58, 64]) C d_En_hear_25 (by decide) (by decide) rfl ?_ ⟨?_, ?_, ?_, trivial⟩
  · refine r_aload_n (q := 71) (i := 0) (pl := 0) C d_En_hear_70 rfl rfl rfl ?_
    refine r_iload_n (q := 72) (i := 1) (pl := 1) C d_En_hear_71 rfl rfl rfl ?_
    refine r_cvI (q := 75) (As := [vI x1]) (st := []) (cy := 1) C d_En_hear_72 rfl Y_En_hearReady L_En_86 I_En_hearReady Se_En_hearReady rfl (by decide) rfl (Nat.le_of_ble_eq_true rfl) (Nat.le_of_ble_eq_true rfl) (Nat.le_of_ble_eq_true rfl) rfl (fun a8 => con_En_hearReady a8 x1) (fun v9 => ?_)
    exact r_iret C d_En_hear_75 rfl
  · refine r_aload_n (q := 53) (i := 0) (pl := 0) C d_En_hear_52 rfl rfl rfl ?_
    refine r_iload_n (q := 54) (i := 1) (pl := 1) C d_En_hear_53 rfl rfl rfl ?_
    refine r_cvI (q := 57) (As := [vI x1]) (st := []) (cy := 1) C d_En_hear_54 rfl Y_En_hearSeeking L_En_77 I_En_hearSeeking Se_En_hearSeeking rfl (by decide) rfl (Nat.le_of_ble_eq_true rfl) (Nat.le_of_ble_eq_true rfl) (Nat.le_of_ble_eq_true rfl) rfl (fun a2 => con_En_hearSeeking a2 x1) (fun v3 => ?_)
    exact r_iret C d_En_hear_57 rfl
  · refine r_aload_n (q := 59) (i := 0) (pl := 0) C d_En_hear_58 rfl rfl rfl ?_
    refine r_iload_n (q := 60) (i := 1) (pl := 1) C d_En_hear_59 rfl rfl rfl ?_
    refine r_cvI (q := 63) (As := [vI x1]) (st := []) (cy := 1) C d_En_hear_60 rfl Y_En_hearAligned L_En_80 I_En_hearAligned Se_En_hearAligned rfl (by decide) rfl (Nat.le_of_ble_eq_true rfl) (Nat.le_of_ble_eq_true rfl) (Nat.le_of_ble_eq_true rfl) rfl (fun a4 => con_En_hearAligned a4 x1) (fun v5 => ?_)
    exact r_iret C d_En_hear_63 rfl
  · refine r_aload_n (q := 65) (i := 0) (pl := 0) C d_En_hear_64 rfl rfl rfl ?_
    refine r_iload_n (q := 66) (i := 1) (pl := 1) C d_En_hear_65 rfl rfl rfl ?_
    refine r_cvI (q := 69) (As := [vI x1]) (st := []) (cy := 1) C d_En_hear_66 rfl Y_En_hearProving L_En_83 I_En_hearProving Se_En_hearProving rfl (by decide) rfl (Nat.le_of_ble_eq_true rfl) (Nat.le_of_ble_eq_true rfl) (Nat.le_of_ble_eq_true rfl) rfl (fun a6 => con_En_hearProving a6 x1) (fun v7 => ?_)
    exact r_iret C d_En_hear_69 rfl
def f_En_hear (a : Nat) (x1 : Int32) (x2 : Int32) : sn_M := g_I 2 7 (some a) fun v10 => (if ¬ v10 = 0 then c_I (f_En_isProve x1) fun v11 => (if v11 = 0 then f_En_hear_21 a x1 else p_I 2 10 (some a) x2 (f_En_hear_21 a x1)) else r_I (0 : Int32))
set_option maxHeartbeats 4000000 in
set_option maxRecDepth 100000 in
theorem mono_En_hear (a : Nat) (x1 : Int32) (x2 : Int32) : sn_Mono (f_En_hear a x1 x2) := sn_Mono.gI (fun v10 => sn_Mono.ite (sn_Mono.cI (mono_En_isProve x1) (fun v11 => sn_Mono.ite (mono_En_hear_21 a x1) (sn_Mono.pI (mono_En_hear_21 a x1)))) (sn_Mono.rI))
set_option maxHeartbeats 4000000 in
set_option maxRecDepth 100000 in
theorem con_En_hear (a : Nat) (x1 : Int32) (x2 : Int32) : sn_Con y_En_hear c_En_hear 3 (some .int) 4 83 [vA (some a), vI x1, vI x2] (f_En_hear a x1 x2) := by
  refine sn_Con.of (by decide +kernel) (by show _ ≤ _; exact Nat.le_of_ble_eq_true rfl) (mono_En_hear a x1 x2) (fun X C => ?_)
  show sn_S X 0 [(0, vA (some a)), (1, vI x1), (2, vI x2)] [] _
  replace C : sn_Cx X c_En_hear "SignalNetwork$End" (some .int) "hear" 3 4 83 := C
  unfold f_En_hear
  refine r_aload_n (q := 1) (i := 0) (pl := 0) C d_En_hear_0 rfl rfl rfl ?_
  refine r_gI (q := 4) C d_En_hear_1 rfl F_En_18 rfl (fun v10 => ?_)
  refine r_if_ne (tgt := 9) (q := 7) C d_En_hear_4 (by decide) rfl ?_ ?_
  · refine r_iload_n (q := 10) (i := 1) (pl := 1) C d_En_hear_9 rfl rfl rfl ?_
    refine r_csI (q := 13) (As := [vI x1]) (st := []) C d_En_hear_10 rfl Y_En_isProve L_En_70 St_En_isProve rfl (Nat.le_of_ble_eq_true rfl) (Nat.le_of_ble_eq_true rfl) (Nat.le_of_ble_eq_true rfl) rfl (con_En_isProve x1) (fun v11 => ?_)
    refine r_if_eq (tgt := 21) (q := 16) C d_En_hear_13 (by decide) rfl ?_ ?_
    · refine r_sub (lv' := [(0, vA (some a)), (1, vI x1)]) [0, 1] rfl ?_
      exact s_En_hear_21 C a x1
    · refine r_aload_n (q := 17) (i := 0) (pl := 0) C d_En_hear_16 rfl rfl rfl ?_
      refine r_iload_n (q := 18) (i := 2) (pl := 2) C d_En_hear_17 rfl rfl rfl ?_
      refine r_pI (q := 21) C d_En_hear_18 rfl F_En_74 rfl rfl (Or.inl rfl) ?_
      refine r_sub (lv' := [(0, vA (some a)), (1, vI x1)]) [0, 1] rfl ?_
      exact s_En_hear_21 C a x1
  · refine r_iconst (q := 8) (v := 0) C d_En_hear_7 rfl (by decide) ?_
    exact r_iret C d_En_hear_8 rfl
theorem d_En_becomeReady_0 : decode c_En_becomeReady 0 = .ok (.aload_n 0, 1) := by decide +kernel
theorem d_En_becomeReady_1 : decode c_En_becomeReady 1 = .ok (.iconst 4, 1) := by decide +kernel
theorem d_En_becomeReady_2 : decode c_En_becomeReady 2 = .ok (.bipush 15, 2) := by decide +kernel
theorem d_En_becomeReady_4 : decode c_En_becomeReady 4 = .ok (.invokevirtual 44, 3) := by decide +kernel
theorem d_En_becomeReady_7 : decode c_En_becomeReady 7 = .ok (.aload_n 0, 1) := by decide +kernel
theorem d_En_becomeReady_8 : decode c_En_becomeReady 8 = .ok (.getfield 40, 3) := by decide +kernel
theorem d_En_becomeReady_11 : decode c_En_becomeReady 11 = .ok (.invokevirtual 115, 3) := by decide +kernel
theorem d_En_becomeReady_14 : decode c_En_becomeReady 14 = .ok (.aload_n 0, 1) := by decide +kernel
theorem d_En_becomeReady_15 : decode c_En_becomeReady 15 = .ok (.iconst 0, 1) := by decide +kernel
theorem d_En_becomeReady_16 : decode c_En_becomeReady 16 = .ok (.putfield 109, 3) := by decide +kernel
theorem d_En_becomeReady_19 : decode c_En_becomeReady 19 = .ok (.aload_n 0, 1) := by decide +kernel
theorem d_En_becomeReady_20 : decode c_En_becomeReady 20 = .ok (.iconst 0, 1) := by decide +kernel
theorem d_En_becomeReady_21 : decode c_En_becomeReady 21 = .ok (.putfield 106, 3) := by decide +kernel
theorem d_En_becomeReady_24 : decode c_En_becomeReady 24 = .ok (.return_, 1) := by decide +kernel
def f_En_becomeReady (a : Nat) : sn_M := n_n 2 (some a) fun a1 => c_V (f_En_enter a1 (4 : Int32) (15 : Int32)) (g_R 2 4 (some a) fun v3 => n_n 10 v3 fun a4 => c_V (f_Wi_reset a4) (p_I 2 17 (some a) (0 : Int32) (p_I 2 18 (some a) (0 : Int32) (r_V))))
set_option maxHeartbeats 4000000 in
set_option maxRecDepth 100000 in
theorem mono_En_becomeReady (a : Nat) : sn_Mono (f_En_becomeReady a) := sn_Mono.nn (fun a1 => sn_Mono.cV (mono_En_enter a1 (4 : Int32) (15 : Int32)) (sn_Mono.gR (fun v3 => sn_Mono.nn (fun a4 => sn_Mono.cV (mono_Wi_reset a4) (sn_Mono.pI (sn_Mono.pI (sn_Mono.rV)))))))
set_option maxHeartbeats 4000000 in
set_option maxRecDepth 100000 in
theorem con_En_becomeReady (a : Nat) : sn_Con y_En_becomeReady c_En_becomeReady 1 none 2 43 [vA (some a)] (f_En_becomeReady a) := by
  refine sn_Con.of (by decide +kernel) (by show _ ≤ _; exact Nat.le_of_ble_eq_true rfl) (mono_En_becomeReady a) (fun X C => ?_)
  show sn_S X 0 [(0, vA (some a))] [] _
  replace C : sn_Cx X c_En_becomeReady "SignalNetwork$End" none "becomeReady" 1 2 43 := C
  unfold f_En_becomeReady
  refine r_aload_n (q := 1) (i := 0) (pl := 0) C d_En_becomeReady_0 rfl rfl rfl ?_
  refine r_iconst (q := 2) (v := 4) C d_En_becomeReady_1 rfl (by decide) ?_
  refine r_bipush (q := 4) (v := 15) C d_En_becomeReady_2 rfl (by decide) ?_
  refine r_cvV (q := 7) (As := [vI (4 : Int32), vI (15 : Int32)]) (st := []) (cy := 1) C d_En_becomeReady_4 rfl Y_En_enter L_En_44 I_En_enter Se_En_enter rfl (by decide) rfl (Nat.le_of_ble_eq_true rfl) (Nat.le_of_ble_eq_true rfl) (Nat.le_of_ble_eq_true rfl) rfl (fun a1 => con_En_enter a1 (4 : Int32) (15 : Int32)) ?_
  refine r_aload_n (q := 8) (i := 0) (pl := 0) C d_En_becomeReady_7 rfl rfl rfl ?_
  refine r_gR (q := 11) C d_En_becomeReady_8 rfl F_En_40 rfl (fun v3 => ?_)
  refine r_cvV (q := 14) (As := []) (st := []) (cy := 9) C d_En_becomeReady_11 rfl Y_Wi_reset L_En_115 I_Wi_reset Se_Wi_reset rfl (by decide) rfl (Nat.le_of_ble_eq_true rfl) (Nat.le_of_ble_eq_true rfl) (Nat.le_of_ble_eq_true rfl) rfl (fun a4 => con_Wi_reset a4) ?_
  refine r_aload_n (q := 15) (i := 0) (pl := 0) C d_En_becomeReady_14 rfl rfl rfl ?_
  refine r_iconst (q := 16) (v := 0) C d_En_becomeReady_15 rfl (by decide) ?_
  refine r_pI (q := 19) C d_En_becomeReady_16 rfl F_En_109 rfl rfl (Or.inl rfl) ?_
  refine r_aload_n (q := 20) (i := 0) (pl := 0) C d_En_becomeReady_19 rfl rfl rfl ?_
  refine r_iconst (q := 21) (v := 0) C d_En_becomeReady_20 rfl (by decide) ?_
  refine r_pI (q := 24) C d_En_becomeReady_21 rfl F_En_106 rfl rfl (Or.inl rfl) ?_
  exact r_vret C d_En_becomeReady_24 rfl
theorem d_En_sendUnit_0 : decode c_En_sendUnit 0 = .ok (.aload_n 0, 1) := by decide +kernel
theorem d_En_sendUnit_1 : decode c_En_sendUnit 1 = .ok (.iconst 1, 1) := by decide +kernel
theorem d_En_sendUnit_2 : decode c_En_sendUnit 2 = .ok (.putfield 118, 3) := by decide +kernel
theorem d_En_sendUnit_5 : decode c_En_sendUnit 5 = .ok (.aload_n 0, 1) := by decide +kernel
theorem d_En_sendUnit_6 : decode c_En_sendUnit 6 = .ok (.getfield 12, 3) := by decide +kernel
theorem d_En_sendUnit_9 : decode c_En_sendUnit 9 = .ok (.aload_n 0, 1) := by decide +kernel
theorem d_En_sendUnit_10 : decode c_En_sendUnit 10 = .ok (.getfield 52, 3) := by decide +kernel
theorem d_En_sendUnit_13 : decode c_En_sendUnit 13 = .ok (.putfield 121, 3) := by decide +kernel
theorem d_En_sendUnit_16 : decode c_En_sendUnit 16 = .ok (.aload_n 0, 1) := by decide +kernel
theorem d_En_sendUnit_17 : decode c_En_sendUnit 17 = .ok (.getfield 18, 3) := by decide +kernel
theorem d_En_sendUnit_20 : decode c_En_sendUnit 20 = .ok (.tableswitch 76 0 3 #[32, 43, 54, 54], 32) := by decide +kernel
theorem d_En_sendUnit_52 : decode c_En_sendUnit 52 = .ok (.aload_n 0, 1) := by decide +kernel
theorem d_En_sendUnit_53 : decode c_En_sendUnit 53 = .ok (.getfield 12, 3) := by decide +kernel
theorem d_En_sendUnit_56 : decode c_En_sendUnit 56 = .ok (.iconst 0, 1) := by decide +kernel
theorem d_En_sendUnit_57 : decode c_En_sendUnit 57 = .ok (.putfield 122, 3) := by decide +kernel
theorem d_En_sendUnit_60 : decode c_En_sendUnit 60 = .ok (.goto 47, 3) := by decide +kernel
theorem d_En_sendUnit_63 : decode c_En_sendUnit 63 = .ok (.aload_n 0, 1) := by decide +kernel
theorem d_En_sendUnit_64 : decode c_En_sendUnit 64 = .ok (.getfield 12, 3) := by decide +kernel
theorem d_En_sendUnit_67 : decode c_En_sendUnit 67 = .ok (.iconst 1, 1) := by decide +kernel
theorem d_En_sendUnit_68 : decode c_En_sendUnit 68 = .ok (.putfield 122, 3) := by decide +kernel
theorem d_En_sendUnit_71 : decode c_En_sendUnit 71 = .ok (.goto 36, 3) := by decide +kernel
theorem d_En_sendUnit_74 : decode c_En_sendUnit 74 = .ok (.aload_n 0, 1) := by decide +kernel
theorem d_En_sendUnit_75 : decode c_En_sendUnit 75 = .ok (.getfield 12, 3) := by decide +kernel
theorem d_En_sendUnit_78 : decode c_En_sendUnit 78 = .ok (.aload_n 0, 1) := by decide +kernel
theorem d_En_sendUnit_79 : decode c_En_sendUnit 79 = .ok (.getfield 48, 3) := by decide +kernel
theorem d_En_sendUnit_82 : decode c_En_sendUnit 82 = .ok (.ifCond .eq 7, 3) := by decide +kernel
theorem d_En_sendUnit_85 : decode c_En_sendUnit 85 = .ok (.iconst 3, 1) := by decide +kernel
theorem d_En_sendUnit_86 : decode c_En_sendUnit 86 = .ok (.goto 4, 3) := by decide +kernel
theorem d_En_sendUnit_89 : decode c_En_sendUnit 89 = .ok (.iconst 2, 1) := by decide +kernel
theorem d_En_sendUnit_90 : decode c_En_sendUnit 90 = .ok (.putfield 122, 3) := by decide +kernel
theorem d_En_sendUnit_93 : decode c_En_sendUnit 93 = .ok (.goto 14, 3) := by decide +kernel
theorem d_En_sendUnit_96 : decode c_En_sendUnit 96 = .ok (.aload_n 0, 1) := by decide +kernel
theorem d_En_sendUnit_97 : decode c_En_sendUnit 97 = .ok (.getfield 40, 3) := by decide +kernel
theorem d_En_sendUnit_100 : decode c_En_sendUnit 100 = .ok (.aload_n 0, 1) := by decide +kernel
theorem d_En_sendUnit_101 : decode c_En_sendUnit 101 = .ok (.getfield 12, 3) := by decide +kernel
theorem d_En_sendUnit_104 : decode c_En_sendUnit 104 = .ok (.invokevirtual 125, 3) := by decide +kernel
theorem d_En_sendUnit_107 : decode c_En_sendUnit 107 = .ok (.return_, 1) := by decide +kernel
def f_En_sendUnit_107 (a : Nat) : sn_M := r_V
set_option maxHeartbeats 4000000 in
set_option maxRecDepth 100000 in
theorem mono_En_sendUnit_107 (a : Nat) : sn_Mono (f_En_sendUnit_107 a) := sn_Mono.rV
set_option maxHeartbeats 4000000 in
set_option maxRecDepth 100000 in
theorem s_En_sendUnit_107 {X : sn_X} (C : sn_Cx X c_En_sendUnit "SignalNetwork$End" none "sendUnit" 1 4 86) (a : Nat) : sn_S X 107 [(0, vA (some a))] [] (f_En_sendUnit_107 a) := by
  unfold f_En_sendUnit_107
  exact r_vret C d_En_sendUnit_107 rfl
def f_En_sendUnit_90 (a : Nat) (t0 : Option Nat) (t1 : Int32) : sn_M := p_I 9 0 t0 t1 (f_En_sendUnit_107 a)
set_option maxHeartbeats 4000000 in
set_option maxRecDepth 100000 in
theorem mono_En_sendUnit_90 (a : Nat) (t0 : Option Nat) (t1 : Int32) : sn_Mono (f_En_sendUnit_90 a t0 t1) := sn_Mono.pI (mono_En_sendUnit_107 a)
set_option maxHeartbeats 4000000 in
set_option maxRecDepth 100000 in
theorem s_En_sendUnit_90 {X : sn_X} (C : sn_Cx X c_En_sendUnit "SignalNetwork$End" none "sendUnit" 1 4 86) (a : Nat) (t0 : Option Nat) (t1 : Int32) : sn_S X 90 [(0, vA (some a))] [vI t1, vA t0] (f_En_sendUnit_90 a t0 t1) := by
  unfold f_En_sendUnit_90
  refine r_pI (q := 93) C d_En_sendUnit_90 rfl F_En_122 rfl rfl (Or.inl rfl) ?_
  refine r_goto (tgt := 107) C d_En_sendUnit_93 (by decide) ?_
  exact s_En_sendUnit_107 C a
def f_En_sendUnit_74 (a : Nat) : sn_M := g_R 2 5 (some a) fun v1 => g_I 2 13 (some a) fun v2 => (if v2 = 0 then f_En_sendUnit_90 a v1 (2 : Int32) else f_En_sendUnit_90 a v1 (3 : Int32))
set_option maxHeartbeats 4000000 in
set_option maxRecDepth 100000 in
theorem mono_En_sendUnit_74 (a : Nat) : sn_Mono (f_En_sendUnit_74 a) := sn_Mono.gR (fun v1 => sn_Mono.gI (fun v2 => sn_Mono.ite (mono_En_sendUnit_90 a v1 (2 : Int32)) (mono_En_sendUnit_90 a v1 (3 : Int32))))
set_option maxHeartbeats 4000000 in
set_option maxRecDepth 100000 in
theorem s_En_sendUnit_74 {X : sn_X} (C : sn_Cx X c_En_sendUnit "SignalNetwork$End" none "sendUnit" 1 4 86) (a : Nat) : sn_S X 74 [(0, vA (some a))] [] (f_En_sendUnit_74 a) := by
  unfold f_En_sendUnit_74
  refine r_aload_n (q := 75) (i := 0) (pl := 0) C d_En_sendUnit_74 rfl rfl rfl ?_
  refine r_gR (q := 78) C d_En_sendUnit_75 rfl F_En_12 rfl (fun v1 => ?_)
  refine r_aload_n (q := 79) (i := 0) (pl := 0) C d_En_sendUnit_78 rfl rfl rfl ?_
  refine r_gI (q := 82) C d_En_sendUnit_79 rfl F_En_48 rfl (fun v2 => ?_)
  refine r_if_eq (tgt := 89) (q := 85) C d_En_sendUnit_82 (by decide) rfl ?_ ?_
  · refine r_iconst (q := 90) (v := 2) C d_En_sendUnit_89 rfl (by decide) ?_
    exact s_En_sendUnit_90 C a v1 (2 : Int32)
  · refine r_iconst (q := 86) (v := 3) C d_En_sendUnit_85 rfl (by decide) ?_
    refine r_goto (tgt := 90) C d_En_sendUnit_86 (by decide) ?_
    exact s_En_sendUnit_90 C a v1 (3 : Int32)
def f_En_sendUnit (a : Nat) : sn_M := p_Z 2 6 (some a) (1 : Int32) (g_R 2 5 (some a) fun v3 => g_I 2 9 (some a) fun v4 => p_I 9 5 v3 v4 (g_I 2 7 (some a) fun v5 => (sn_sw v5 [0, 1, 2, 3] [(g_R 2 5 (some a) fun v6 => p_I 9 0 v6 (0 : Int32) (f_En_sendUnit_107 a)), (g_R 2 5 (some a) fun v7 => p_I 9 0 v7 (1 : Int32) (f_En_sendUnit_107 a)), (f_En_sendUnit_74 a), (f_En_sendUnit_74 a)] (g_R 2 4 (some a) fun v8 => g_R 2 5 (some a) fun v9 => n_n 10 v8 fun a10 => c_V (f_Wi_fill a10 v9) (f_En_sendUnit_107 a)))))
set_option maxHeartbeats 4000000 in
set_option maxRecDepth 100000 in
theorem mono_En_sendUnit (a : Nat) : sn_Mono (f_En_sendUnit a) := sn_Mono.pZ (sn_Mono.gR (fun v3 => sn_Mono.gI (fun v4 => sn_Mono.pI (sn_Mono.gI (fun v5 => sn_sw_mono (sn_Mono.gR (fun v8 => sn_Mono.gR (fun v9 => sn_Mono.nn (fun a10 => sn_Mono.cV (mono_Wi_fill a10 v9) (mono_En_sendUnit_107 a))))) _ _ (List.forall_mem_cons.mpr ⟨sn_Mono.gR (fun v6 => sn_Mono.pI (mono_En_sendUnit_107 a)), (List.forall_mem_cons.mpr ⟨sn_Mono.gR (fun v7 => sn_Mono.pI (mono_En_sendUnit_107 a)), (List.forall_mem_cons.mpr ⟨mono_En_sendUnit_74 a, (List.forall_mem_cons.mpr ⟨mono_En_sendUnit_74 a, (fun _ h => absurd h List.not_mem_nil)⟩)⟩)⟩)⟩))))))
set_option maxHeartbeats 4000000 in
set_option maxRecDepth 100000 in
theorem con_En_sendUnit (a : Nat) : sn_Con y_En_sendUnit c_En_sendUnit 1 none 4 86 [vA (some a)] (f_En_sendUnit a) := by
  refine sn_Con.of (by decide +kernel) (by show _ ≤ _; exact Nat.le_of_ble_eq_true rfl) (mono_En_sendUnit a) (fun X C => ?_)
  show sn_S X 0 [(0, vA (some a))] [] _
  replace C : sn_Cx X c_En_sendUnit "SignalNetwork$End" none "sendUnit" 1 4 86 := C
  unfold f_En_sendUnit
  refine r_aload_n (q := 1) (i := 0) (pl := 0) C d_En_sendUnit_0 rfl rfl rfl ?_
  refine r_iconst (q := 2) (v := 1) C d_En_sendUnit_1 rfl (by decide) ?_
  refine r_pZ (q := 5) C d_En_sendUnit_2 rfl F_En_118 rfl rfl (Or.inl rfl) ?_
  refine r_aload_n (q := 6) (i := 0) (pl := 0) C d_En_sendUnit_5 rfl rfl rfl ?_
  refine r_gR (q := 9) C d_En_sendUnit_6 rfl F_En_12 rfl (fun v3 => ?_)
  refine r_aload_n (q := 10) (i := 0) (pl := 0) C d_En_sendUnit_9 rfl rfl rfl ?_
  refine r_gI (q := 13) C d_En_sendUnit_10 rfl F_En_52 rfl (fun v4 => ?_)
  refine r_pI (q := 16) C d_En_sendUnit_13 rfl F_En_121 rfl rfl (Or.inl rfl) ?_
  refine r_aload_n (q := 17) (i := 0) (pl := 0) C d_En_sendUnit_16 rfl rfl rfl ?_
  refine r_gI (q := 20) C d_En_sendUnit_17 rfl F_En_18 rfl (fun v5 => ?_)
  refine r_table (tD := 96) (ks := [0, 1, 2, 3]) (ts := [52, 63, 74, 74]) C d_En_sendUnit_20 (by decide) (by decide) rfl ?_ ⟨?_, ?_, ?_, ?_, trivial⟩
  · refine r_aload_n (q := 97) (i := 0) (pl := 0) C d_En_sendUnit_96 rfl rfl rfl ?_
    refine r_gR (q := 100) C d_En_sendUnit_97 rfl F_En_40 rfl (fun v8 => ?_)
    refine r_aload_n (q := 101) (i := 0) (pl := 0) C d_En_sendUnit_100 rfl rfl rfl ?_
    refine r_gR (q := 104) C d_En_sendUnit_101 rfl F_En_12 rfl (fun v9 => ?_)
    refine r_cvV (q := 107) (As := [vA v9]) (st := []) (cy := 9) C d_En_sendUnit_104 rfl Y_Wi_fill L_En_125 I_Wi_fill Se_Wi_fill rfl (by decide) rfl (Nat.le_of_ble_eq_true rfl) (Nat.le_of_ble_eq_true rfl) (Nat.le_of_ble_eq_true rfl) rfl (fun a10 => con_Wi_fill a10 v9) ?_
    exact s_En_sendUnit_107 C a
  · refine r_aload_n (q := 53) (i := 0) (pl := 0) C d_En_sendUnit_52 rfl rfl rfl ?_
    refine r_gR (q := 56) C d_En_sendUnit_53 rfl F_En_12 rfl (fun v6 => ?_)
    refine r_iconst (q := 57) (v := 0) C d_En_sendUnit_56 rfl (by decide) ?_
    refine r_pI (q := 60) C d_En_sendUnit_57 rfl F_En_122 rfl rfl (Or.inl rfl) ?_
    refine r_goto (tgt := 107) C d_En_sendUnit_60 (by decide) ?_
    exact s_En_sendUnit_107 C a
  · refine r_aload_n (q := 64) (i := 0) (pl := 0) C d_En_sendUnit_63 rfl rfl rfl ?_
    refine r_gR (q := 67) C d_En_sendUnit_64 rfl F_En_12 rfl (fun v7 => ?_)
    refine r_iconst (q := 68) (v := 1) C d_En_sendUnit_67 rfl (by decide) ?_
    refine r_pI (q := 71) C d_En_sendUnit_68 rfl F_En_122 rfl rfl (Or.inl rfl) ?_
    refine r_goto (tgt := 107) C d_En_sendUnit_71 (by decide) ?_
    exact s_En_sendUnit_107 C a
  · exact s_En_sendUnit_74 C a
  · exact s_En_sendUnit_74 C a
theorem d_En_tell_0 : decode c_En_tell 0 = .ok (.iload_n 1, 1) := by decide +kernel
theorem d_En_tell_1 : decode c_En_tell 1 = .ok (.tableswitch 220 0 15 #[79, 84, 96, 104, 112, 120, 128, 139, 150, 155, 160, 173, 188, 205, 210, 215], 79) := by decide +kernel
theorem d_En_tell_80 : decode c_En_tell 80 = .ok (.aload_n 0, 1) := by decide +kernel
theorem d_En_tell_81 : decode c_En_tell 81 = .ok (.getfield 18, 3) := by decide +kernel
theorem d_En_tell_84 : decode c_En_tell 84 = .ok (.ireturn, 1) := by decide +kernel
theorem d_En_tell_85 : decode c_En_tell 85 = .ok (.aload_n 0, 1) := by decide +kernel
theorem d_En_tell_86 : decode c_En_tell 86 = .ok (.getfield 31, 3) := by decide +kernel
theorem d_En_tell_89 : decode c_En_tell 89 = .ok (.aload_n 0, 1) := by decide +kernel
theorem d_En_tell_90 : decode c_En_tell 90 = .ok (.getfield 61, 3) := by decide +kernel
theorem d_En_tell_93 : decode c_En_tell 93 = .ok (.invokevirtual 129, 3) := by decide +kernel
theorem d_En_tell_96 : decode c_En_tell 96 = .ok (.ireturn, 1) := by decide +kernel
theorem d_En_tell_97 : decode c_En_tell 97 = .ok (.aload_n 0, 1) := by decide +kernel
theorem d_En_tell_98 : decode c_En_tell 98 = .ok (.getfield 40, 3) := by decide +kernel
theorem d_En_tell_101 : decode c_En_tell 101 = .ok (.getfield 132, 3) := by decide +kernel
theorem d_En_tell_104 : decode c_En_tell 104 = .ok (.ireturn, 1) := by decide +kernel
theorem d_En_tell_105 : decode c_En_tell 105 = .ok (.aload_n 0, 1) := by decide +kernel
theorem d_En_tell_106 : decode c_En_tell 106 = .ok (.getfield 40, 3) := by decide +kernel
theorem d_En_tell_109 : decode c_En_tell 109 = .ok (.getfield 135, 3) := by decide +kernel
theorem d_En_tell_112 : decode c_En_tell 112 = .ok (.ireturn, 1) := by decide +kernel
theorem d_En_tell_113 : decode c_En_tell 113 = .ok (.aload_n 0, 1) := by decide +kernel
theorem d_En_tell_114 : decode c_En_tell 114 = .ok (.getfield 40, 3) := by decide +kernel
theorem d_En_tell_117 : decode c_En_tell 117 = .ok (.getfield 138, 3) := by decide +kernel
theorem d_En_tell_120 : decode c_En_tell 120 = .ok (.ireturn, 1) := by decide +kernel
theorem d_En_tell_121 : decode c_En_tell 121 = .ok (.aload_n 0, 1) := by decide +kernel
theorem d_En_tell_122 : decode c_En_tell 122 = .ok (.getfield 40, 3) := by decide +kernel
theorem d_En_tell_125 : decode c_En_tell 125 = .ok (.getfield 141, 3) := by decide +kernel
theorem d_En_tell_128 : decode c_En_tell 128 = .ok (.ireturn, 1) := by decide +kernel
theorem d_En_tell_129 : decode c_En_tell 129 = .ok (.aload_n 0, 1) := by decide +kernel
theorem d_En_tell_130 : decode c_En_tell 130 = .ok (.getfield 40, 3) := by decide +kernel
theorem d_En_tell_133 : decode c_En_tell 133 = .ok (.getfield 144, 3) := by decide +kernel
theorem d_En_tell_136 : decode c_En_tell 136 = .ok (.getfield 148, 3) := by decide +kernel
theorem d_En_tell_139 : decode c_En_tell 139 = .ok (.ireturn, 1) := by decide +kernel
theorem d_En_tell_140 : decode c_En_tell 140 = .ok (.aload_n 0, 1) := by decide +kernel
theorem d_En_tell_141 : decode c_En_tell 141 = .ok (.getfield 40, 3) := by decide +kernel
theorem d_En_tell_144 : decode c_En_tell 144 = .ok (.getfield 153, 3) := by decide +kernel
theorem d_En_tell_147 : decode c_En_tell 147 = .ok (.getfield 148, 3) := by decide +kernel
theorem d_En_tell_150 : decode c_En_tell 150 = .ok (.ireturn, 1) := by decide +kernel
theorem d_En_tell_151 : decode c_En_tell 151 = .ok (.aload_n 0, 1) := by decide +kernel
theorem d_En_tell_152 : decode c_En_tell 152 = .ok (.getfield 109, 3) := by decide +kernel
theorem d_En_tell_155 : decode c_En_tell 155 = .ok (.ireturn, 1) := by decide +kernel
theorem d_En_tell_156 : decode c_En_tell 156 = .ok (.aload_n 0, 1) := by decide +kernel
theorem d_En_tell_157 : decode c_En_tell 157 = .ok (.getfield 89, 3) := by decide +kernel
theorem d_En_tell_160 : decode c_En_tell 160 = .ok (.ireturn, 1) := by decide +kernel
theorem d_En_tell_161 : decode c_En_tell 161 = .ok (.aload_n 0, 1) := by decide +kernel
theorem d_En_tell_162 : decode c_En_tell 162 = .ok (.getfield 48, 3) := by decide +kernel
theorem d_En_tell_165 : decode c_En_tell 165 = .ok (.ifCond .eq 7, 3) := by decide +kernel
theorem d_En_tell_168 : decode c_En_tell 168 = .ok (.iconst 1, 1) := by decide +kernel
theorem d_En_tell_169 : decode c_En_tell 169 = .ok (.goto 4, 3) := by decide +kernel
theorem d_En_tell_172 : decode c_En_tell 172 = .ok (.iconst 0, 1) := by decide +kernel
theorem d_En_tell_173 : decode c_En_tell 173 = .ok (.ireturn, 1) := by decide +kernel
theorem d_En_tell_174 : decode c_En_tell 174 = .ok (.aload_n 0, 1) := by decide +kernel
theorem d_En_tell_175 : decode c_En_tell 175 = .ok (.getfield 31, 3) := by decide +kernel
theorem d_En_tell_178 : decode c_En_tell 178 = .ok (.aload_n 0, 1) := by decide +kernel
theorem d_En_tell_179 : decode c_En_tell 179 = .ok (.getfield 40, 3) := by decide +kernel
theorem d_En_tell_182 : decode c_En_tell 182 = .ok (.getfield 156, 3) := by decide +kernel
theorem d_En_tell_185 : decode c_En_tell 185 = .ok (.invokevirtual 129, 3) := by decide +kernel
theorem d_En_tell_188 : decode c_En_tell 188 = .ok (.ireturn, 1) := by decide +kernel
theorem d_En_tell_189 : decode c_En_tell 189 = .ok (.aload_n 0, 1) := by decide +kernel
theorem d_En_tell_190 : decode c_En_tell 190 = .ok (.getfield 40, 3) := by decide +kernel
theorem d_En_tell_193 : decode c_En_tell 193 = .ok (.getfield 157, 3) := by decide +kernel
theorem d_En_tell_196 : decode c_En_tell 196 = .ok (.iconst (-1), 1) := by decide +kernel
theorem d_En_tell_197 : decode c_En_tell 197 = .ok (.if_icmp .ne 7, 3) := by decide +kernel
theorem d_En_tell_200 : decode c_En_tell 200 = .ok (.iconst 0, 1) := by decide +kernel
theorem d_En_tell_201 : decode c_En_tell 201 = .ok (.goto 4, 3) := by decide +kernel
theorem d_En_tell_204 : decode c_En_tell 204 = .ok (.iconst 1, 1) := by decide +kernel
theorem d_En_tell_205 : decode c_En_tell 205 = .ok (.ireturn, 1) := by decide +kernel
theorem d_En_tell_206 : decode c_En_tell 206 = .ok (.aload_n 0, 1) := by decide +kernel
theorem d_En_tell_207 : decode c_En_tell 207 = .ok (.getfield 67, 3) := by decide +kernel
theorem d_En_tell_210 : decode c_En_tell 210 = .ok (.ireturn, 1) := by decide +kernel
theorem d_En_tell_211 : decode c_En_tell 211 = .ok (.aload_n 0, 1) := by decide +kernel
theorem d_En_tell_212 : decode c_En_tell 212 = .ok (.getfield 52, 3) := by decide +kernel
theorem d_En_tell_215 : decode c_En_tell 215 = .ok (.ireturn, 1) := by decide +kernel
theorem d_En_tell_216 : decode c_En_tell 216 = .ok (.aload_n 0, 1) := by decide +kernel
theorem d_En_tell_217 : decode c_En_tell 217 = .ok (.getfield 74, 3) := by decide +kernel
theorem d_En_tell_220 : decode c_En_tell 220 = .ok (.ireturn, 1) := by decide +kernel
theorem d_En_tell_221 : decode c_En_tell 221 = .ok (.iconst (-1), 1) := by decide +kernel
theorem d_En_tell_222 : decode c_En_tell 222 = .ok (.ireturn, 1) := by decide +kernel
def f_En_tell_205 (a : Nat) (t0 : Int32) : sn_M := r_I t0
set_option maxHeartbeats 4000000 in
set_option maxRecDepth 100000 in
theorem mono_En_tell_205 (a : Nat) (t0 : Int32) : sn_Mono (f_En_tell_205 a t0) := sn_Mono.rI
set_option maxHeartbeats 4000000 in
set_option maxRecDepth 100000 in
theorem s_En_tell_205 {X : sn_X} (C : sn_Cx X c_En_tell "SignalNetwork$End" (some .int) "tell" 2 1 21) (a : Nat) (t0 : Int32) : sn_S X 205 [(0, vA (some a))] [vI t0] (f_En_tell_205 a t0) := by
  unfold f_En_tell_205
  exact r_iret C d_En_tell_205 rfl
def f_En_tell_173 (a : Nat) (t0 : Int32) : sn_M := r_I t0
set_option maxHeartbeats 4000000 in
set_option maxRecDepth 100000 in
theorem mono_En_tell_173 (a : Nat) (t0 : Int32) : sn_Mono (f_En_tell_173 a t0) := sn_Mono.rI
set_option maxHeartbeats 4000000 in
set_option maxRecDepth 100000 in
theorem s_En_tell_173 {X : sn_X} (C : sn_Cx X c_En_tell "SignalNetwork$End" (some .int) "tell" 2 1 21) (a : Nat) (t0 : Int32) : sn_S X 173 [(0, vA (some a))] [vI t0] (f_En_tell_173 a t0) := by
  unfold f_En_tell_173
  exact r_iret C d_En_tell_173 rfl
def f_En_tell (a : Nat) (x1 : Int32) : sn_M := (sn_sw x1 [0, 1, 2, 3, 4, 5, 6, 7, 8, 9, 10, 11, 12, 13, 14, 15] [(g_I 2 7 (some a) fun v1 => r_I v1), (g_R 2 0 (some a) fun v2 => g_I 2 8 (some a) fun v3 => n_n 1 v2 fun a4 => c_I (f_Ck_left a4 v3) fun v5 => r_I v5), (g_R 2 4 (some a) fun v6 => g_I 10 1 v6 fun v7 => r_I v7), (g_R 2 4 (some a) fun v8 => g_I 10 2 v8 fun v9 => r_I v9), (g_R 2 4 (some a) fun v10 => g_I 10 3 v10 fun v11 => r_I v11), (g_R 2 4 (some a) fun v12 => g_I 10 4 v12 fun v13 => r_I v13), (g_R 2 4 (some a) fun v14 => g_R 10 7 v14 fun v15 => g_I 6 2 v15 fun v16 => r_I v16), (g_R 2 4 (some a) fun v17 => g_R 10 8 v17 fun v18 => g_I 6 2 v18 fun v19 => r_I v19), (g_I 2 17 (some a) fun v20 => r_I v20), (g_I 2 15 (some a) fun v21 => r_I v21), (g_I 2 13 (some a) fun v22 => (if v22 = 0 then f_En_tell_173 a (0 : Int32) else f_En_tell_173 a (1 : Int32))), (g_R 2 0 (some a) fun v23 => g_R 2 4 (some a) fun v24 => g_I 10 6 v24 fun v25 => n_n 1 v23 fun a26 => c_I (f_Ck_left a26 v25) fun v27 => r_I v27), (g_R 2 4 (some a) fun v28 => g_I 10 5 v28 fun v29 => (if ¬ v29 = (-1 : Int32) then f_En_tell_205 a (1 : Int32) else f_En_tell_205 a (0 : Int32))), (g_I 2 11 (some a) fun v30 => r_I v30), (g_I 2 9 (some a) fun v31 => r_I v31), (g_I 2 10 (some a) fun v32 => r_I v32)] (r_I (-1 : Int32)))
set_option maxHeartbeats 4000000 in
set_option maxRecDepth 100000 in
theorem mono_En_tell (a : Nat) (x1 : Int32) : sn_Mono (f_En_tell a x1) := sn_sw_mono (sn_Mono.rI) _ _ (List.forall_mem_cons.mpr ⟨sn_Mono.gI (fun v1 => sn_Mono.rI), (List.forall_mem_cons.mpr ⟨sn_Mono.gR (fun v2 => sn_Mono.gI (fun v3 => sn_Mono.nn (fun a4 => sn_Mono.cI (mono_Ck_left a4 v3) (fun v5 => sn_Mono.rI)))), (List.forall_mem_cons.mpr ⟨sn_Mono.gR (fun v6 => sn_Mono.gI (fun v7 => sn_Mono.rI)), (List.forall_mem_cons.mpr ⟨sn_Mono.gR (fun v8 => sn_Mono.gI (fun v9 => sn_Mono.rI)), (List.forall_mem_cons.mpr ⟨sn_Mono.gR (fun v10 => sn_Mono.gI (fun v11 => sn_Mono.rI)), (List.forall_mem_cons.mpr ⟨sn_Mono.gR (fun v12 => sn_Mono.gI (fun v13 => sn_Mono.rI)), (List.forall_mem_cons.mpr ⟨sn_Mono.gR (fun v14 => sn_Mono.gR (fun v15 => sn_Mono.gI (fun v16 => sn_Mono.rI))), (List.forall_mem_cons.mpr ⟨sn_Mono.gR (fun v17 => sn_Mono.gR (fun v18 => sn_Mono.gI (fun v19 => sn_Mono.rI))), (List.forall_mem_cons.mpr ⟨sn_Mono.gI (fun v20 => sn_Mono.rI), (List.forall_mem_cons.mpr ⟨sn_Mono.gI (fun v21 => sn_Mono.rI), (List.forall_mem_cons.mpr ⟨sn_Mono.gI (fun v22 => sn_Mono.ite (mono_En_tell_173 a (0 : Int32)) (mono_En_tell_173 a (1 : Int32))), (List.forall_mem_cons.mpr ⟨sn_Mono.gR (fun v23 => sn_Mono.gR (fun v24 => sn_Mono.gI (fun v25 => sn_Mono.nn (fun a26 => sn_Mono.cI (mono_Ck_left a26 v25) (fun v27 => sn_Mono.rI))))), (List.forall_mem_cons.mpr ⟨sn_Mono.gR (fun v28 => sn_Mono.gI (fun v29 => sn_Mono.ite (mono_En_tell_205 a (1 : Int32)) (mono_En_tell_205 a (0 : Int32)))), (List.forall_mem_cons.mpr ⟨sn_Mono.gI (fun v30 => sn_Mono.rI), (List.forall_mem_cons.mpr ⟨sn_Mono.gI (fun v31 => sn_Mono.rI), (List.forall_mem_cons.mpr ⟨sn_Mono.gI (fun v32 => sn_Mono.rI), (fun _ h => absurd h List.not_mem_nil)⟩)⟩)⟩)⟩)⟩)⟩)⟩)⟩)⟩)⟩)⟩)⟩)⟩)⟩)⟩)⟩)
set_option maxHeartbeats 4000000 in
set_option maxRecDepth 100000 in
theorem con_En_tell (a : Nat) (x1 : Int32) : sn_Con y_En_tell c_En_tell 2 (some .int) 1 21 [vA (some a), vI x1] (f_En_tell a x1) := by
  refine sn_Con.of (by decide +kernel) (by show _ ≤ _; exact Nat.le_of_ble_eq_true rfl) (mono_En_tell a x1) (fun X C => ?_)
  show sn_S X 0 [(0, vA (some a)), (1, vI x1)] [] _
  replace C : sn_Cx X c_En_tell "SignalNetwork$End" (some .int) "tell" 2 1 21 := C
  unfold f_En_tell
  refine r_iload_n (q := 1) (i := 1) (pl := 1) C d_En_tell_0 rfl rfl rfl ?_
  refine r_table (tD := 221) (ks := [0, 1, 2, 3, 4, 5, 6, 7, 8, 9, 10, 11, 12, 13, 14, 15]) (ts := [80, 85, 97, 105, 113, 121, 129, 140, 151, 156, 161, 174, 189, 206, 211, 216]) C d_En_tell_1 (by decide) (by decide) rfl ?_ ⟨?_, ?_, ?_, ?_, ?_, ?_, ?_, ?_, ?_, ?_, ?_, ?_, ?_, ?_, ?_, ?_, trivial⟩
  · refine r_iconst (q := 222) (v := -1) C d_En_tell_221 rfl (by decide) ?_
    exact r_iret C d_En_tell_222 rfl
  · refine r_aload_n (q := 81) (i := 0) (pl := 0) C d_En_tell_80 rfl rfl rfl ?_
    refine r_gI (q := 84) C d_En_tell_81 rfl F_En_18 rfl (fun v1 => ?_)
    exact r_iret C d_En_tell_84 rfl
  · refine r_aload_n (q := 86) (i := 0) (pl := 0) C d_En_tell_85 rfl rfl rfl ?_
    refine r_gR (q := 89) C d_En_tell_86 rfl F_En_31 rfl (fun v2 => ?_)
    refine r_aload_n (q := 90) (i := 0) (pl := 0) C d_En_tell_89 rfl rfl rfl ?_
    refine r_gI (q := 93) C d_En_tell_90 rfl F_En_61 rfl (fun v3 => ?_)
    refine r_cvI (q := 96) (As := [vI v3]) (st := []) (cy := 0) C d_En_tell_93 rfl Y_Ck_left L_En_129 I_Ck_left Se_Ck_left rfl (by decide) rfl (Nat.le_of_ble_eq_true rfl) (Nat.le_of_ble_eq_true rfl) (Nat.le_of_ble_eq_true rfl) rfl (fun a4 => con_Ck_left a4 v3) (fun v5 => ?_)
    exact r_iret C d_En_tell_96 rfl
  · refine r_aload_n (q := 98) (i := 0) (pl := 0) C d_En_tell_97 rfl rfl rfl ?_
    refine r_gR (q := 101) C d_En_tell_98 rfl F_En_40 rfl (fun v6 => ?_)
    refine r_gI (q := 104) C d_En_tell_101 rfl F_En_132 rfl (fun v7 => ?_)
    exact r_iret C d_En_tell_104 rfl
  · refine r_aload_n (q := 106) (i := 0) (pl := 0) C d_En_tell_105 rfl rfl rfl ?_
    refine r_gR (q := 109) C d_En_tell_106 rfl F_En_40 rfl (fun v8 => ?_)
    refine r_gI (q := 112) C d_En_tell_109 rfl F_En_135 rfl (fun v9 => ?_)
    exact r_iret C d_En_tell_112 rfl
  · refine r_aload_n (q := 114) (i := 0) (pl := 0) C d_En_tell_113 rfl rfl rfl ?_
    refine r_gR (q := 117) C d_En_tell_114 rfl F_En_40 rfl (fun v10 => ?_)
    refine r_gI (q := 120) C d_En_tell_117 rfl F_En_138 rfl (fun v11 => ?_)
    exact r_iret C d_En_tell_120 rfl
  · refine r_aload_n (q := 122) (i := 0) (pl := 0) C d_En_tell_121 rfl rfl rfl ?_
    refine r_gR (q := 125) C d_En_tell_122 rfl F_En_40 rfl (fun v12 => ?_)
    refine r_gI (q := 128) C d_En_tell_125 rfl F_En_141 rfl (fun v13 => ?_)
    exact r_iret C d_En_tell_128 rfl
  · refine r_aload_n (q := 130) (i := 0) (pl := 0) C d_En_tell_129 rfl rfl rfl ?_
    refine r_gR (q := 133) C d_En_tell_130 rfl F_En_40 rfl (fun v14 => ?_)
    refine r_gR (q := 136) C d_En_tell_133 rfl F_En_144 rfl (fun v15 => ?_)
    refine r_gI (q := 139) C d_En_tell_136 rfl F_En_148 rfl (fun v16 => ?_)
    exact r_iret C d_En_tell_139 rfl
  · refine r_aload_n (q := 141) (i := 0) (pl := 0) C d_En_tell_140 rfl rfl rfl ?_
    refine r_gR (q := 144) C d_En_tell_141 rfl F_En_40 rfl (fun v17 => ?_)
    refine r_gR (q := 147) C d_En_tell_144 rfl F_En_153 rfl (fun v18 => ?_)
    refine r_gI (q := 150) C d_En_tell_147 rfl F_En_148 rfl (fun v19 => ?_)
    exact r_iret C d_En_tell_150 rfl
  · refine r_aload_n (q := 152) (i := 0) (pl := 0) C d_En_tell_151 rfl rfl rfl ?_
    refine r_gI (q := 155) C d_En_tell_152 rfl F_En_109 rfl (fun v20 => ?_)
    exact r_iret C d_En_tell_155 rfl
  · refine r_aload_n (q := 157) (i := 0) (pl := 0) C d_En_tell_156 rfl rfl rfl ?_
    refine r_gI (q := 160) C d_En_tell_157 rfl F_En_89 rfl (fun v21 => ?_)
    exact r_iret C d_En_tell_160 rfl
  · refine r_aload_n (q := 162) (i := 0) (pl := 0) C d_En_tell_161 rfl rfl rfl ?_
    refine r_gI (q := 165) C d_En_tell_162 rfl F_En_48 rfl (fun v22 => ?_)
    refine r_if_eq (tgt := 172) (q := 168) C d_En_tell_165 (by decide) rfl ?_ ?_
    · refine r_iconst (q := 173) (v := 0) C d_En_tell_172 rfl (by decide) ?_
      refine r_sub (lv' := [(0, vA (some a))]) [0] rfl ?_
      exact s_En_tell_173 C a (0 : Int32)
    · refine r_iconst (q := 169) (v := 1) C d_En_tell_168 rfl (by decide) ?_
      refine r_goto (tgt := 173) C d_En_tell_169 (by decide) ?_
      refine r_sub (lv' := [(0, vA (some a))]) [0] rfl ?_
      exact s_En_tell_173 C a (1 : Int32)
  · refine r_aload_n (q := 175) (i := 0) (pl := 0) C d_En_tell_174 rfl rfl rfl ?_
    refine r_gR (q := 178) C d_En_tell_175 rfl F_En_31 rfl (fun v23 => ?_)
    refine r_aload_n (q := 179) (i := 0) (pl := 0) C d_En_tell_178 rfl rfl rfl ?_
    refine r_gR (q := 182) C d_En_tell_179 rfl F_En_40 rfl (fun v24 => ?_)
    refine r_gI (q := 185) C d_En_tell_182 rfl F_En_156 rfl (fun v25 => ?_)
    refine r_cvI (q := 188) (As := [vI v25]) (st := []) (cy := 0) C d_En_tell_185 rfl Y_Ck_left L_En_129 I_Ck_left Se_Ck_left rfl (by decide) rfl (Nat.le_of_ble_eq_true rfl) (Nat.le_of_ble_eq_true rfl) (Nat.le_of_ble_eq_true rfl) rfl (fun a26 => con_Ck_left a26 v25) (fun v27 => ?_)
    exact r_iret C d_En_tell_188 rfl
  · refine r_aload_n (q := 190) (i := 0) (pl := 0) C d_En_tell_189 rfl rfl rfl ?_
    refine r_gR (q := 193) C d_En_tell_190 rfl F_En_40 rfl (fun v28 => ?_)
    refine r_gI (q := 196) C d_En_tell_193 rfl F_En_157 rfl (fun v29 => ?_)
    refine r_iconst (q := 197) (v := -1) C d_En_tell_196 rfl (by decide) ?_
    refine r_icmp_ne (tgt := 204) (q := 200) C d_En_tell_197 (by decide) rfl ?_ ?_
    · refine r_iconst (q := 205) (v := 1) C d_En_tell_204 rfl (by decide) ?_
      refine r_sub (lv' := [(0, vA (some a))]) [0] rfl ?_
      exact s_En_tell_205 C a (1 : Int32)
    · refine r_iconst (q := 201) (v := 0) C d_En_tell_200 rfl (by decide) ?_
      refine r_goto (tgt := 205) C d_En_tell_201 (by decide) ?_
      refine r_sub (lv' := [(0, vA (some a))]) [0] rfl ?_
      exact s_En_tell_205 C a (0 : Int32)
  · refine r_aload_n (q := 207) (i := 0) (pl := 0) C d_En_tell_206 rfl rfl rfl ?_
    refine r_gI (q := 210) C d_En_tell_207 rfl F_En_67 rfl (fun v30 => ?_)
    exact r_iret C d_En_tell_210 rfl
  · refine r_aload_n (q := 212) (i := 0) (pl := 0) C d_En_tell_211 rfl rfl rfl ?_
    refine r_gI (q := 215) C d_En_tell_212 rfl F_En_52 rfl (fun v31 => ?_)
    exact r_iret C d_En_tell_215 rfl
  · refine r_aload_n (q := 217) (i := 0) (pl := 0) C d_En_tell_216 rfl rfl rfl ?_
    refine r_gI (q := 220) C d_En_tell_217 rfl F_En_74 rfl (fun v32 => ?_)
    exact r_iret C d_En_tell_220 rfl
