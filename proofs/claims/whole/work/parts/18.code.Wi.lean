theorem d_Wi_stop_0 : decode c_Wi_stop 0 = .ok (.aload_n 0, 1) := by decide +kernel
theorem d_Wi_stop_1 : decode c_Wi_stop 1 = .ok (.iconst (-1), 1) := by decide +kernel
theorem d_Wi_stop_2 : decode c_Wi_stop 2 = .ok (.putfield 46, 3) := by decide +kernel
theorem d_Wi_stop_5 : decode c_Wi_stop 5 = .ok (.aload_n 0, 1) := by decide +kernel
theorem d_Wi_stop_6 : decode c_Wi_stop 6 = .ok (.iconst 0, 1) := by decide +kernel
theorem d_Wi_stop_7 : decode c_Wi_stop 7 = .ok (.putfield 49, 3) := by decide +kernel
theorem d_Wi_stop_10 : decode c_Wi_stop 10 = .ok (.return_, 1) := by decide +kernel
def f_Wi_stop (a : Nat) : sn_M := p_I 10 5 (some a) (-1 : Int32) (p_I 10 6 (some a) (0 : Int32) (r_V))
set_option maxHeartbeats 4000000 in
set_option maxRecDepth 100000 in
theorem mono_Wi_stop (a : Nat) : sn_Mono (f_Wi_stop a) := sn_Mono.pI (sn_Mono.pI (sn_Mono.rV))
set_option maxHeartbeats 4000000 in
set_option maxRecDepth 100000 in
theorem con_Wi_stop (a : Nat) : sn_Con y_Wi_stop c_Wi_stop 1 none 0 0 [vA (some a)] (f_Wi_stop a) := by
  refine sn_Con.of (by decide +kernel) (by show _ ≤ _; exact Nat.le_of_ble_eq_true rfl) (mono_Wi_stop a) (fun X C => ?_)
  show sn_S X 0 [(0, vA (some a))] [] _
  replace C : sn_Cx X c_Wi_stop "SignalNetwork$Window" none "stop" 1 0 0 := C
  unfold f_Wi_stop
  refine r_aload_n (q := 1) (i := 0) (pl := 0) C d_Wi_stop_0 rfl rfl rfl ?_
  refine r_iconst (q := 2) (v := -1) C d_Wi_stop_1 rfl (by decide) ?_
  refine r_pI (q := 5) C d_Wi_stop_2 rfl F_Wi_46 rfl rfl (Or.inl rfl) ?_
  refine r_aload_n (q := 6) (i := 0) (pl := 0) C d_Wi_stop_5 rfl rfl rfl ?_
  refine r_iconst (q := 7) (v := 0) C d_Wi_stop_6 rfl (by decide) ?_
  refine r_pI (q := 10) C d_Wi_stop_7 rfl F_Wi_49 rfl rfl (Or.inl rfl) ?_
  exact r_vret C d_Wi_stop_10 rfl
theorem d_Wi_reset_0 : decode c_Wi_reset 0 = .ok (.aload_n 0, 1) := by decide +kernel
theorem d_Wi_reset_1 : decode c_Wi_reset 1 = .ok (.bipush 127, 2) := by decide +kernel
theorem d_Wi_reset_3 : decode c_Wi_reset 3 = .ok (.putfield 30, 3) := by decide +kernel
theorem d_Wi_reset_6 : decode c_Wi_reset 6 = .ok (.aload_n 0, 1) := by decide +kernel
theorem d_Wi_reset_7 : decode c_Wi_reset 7 = .ok (.bipush 127, 2) := by decide +kernel
theorem d_Wi_reset_9 : decode c_Wi_reset 9 = .ok (.putfield 34, 3) := by decide +kernel
theorem d_Wi_reset_12 : decode c_Wi_reset 12 = .ok (.aload_n 0, 1) := by decide +kernel
theorem d_Wi_reset_13 : decode c_Wi_reset 13 = .ok (.iconst 1, 1) := by decide +kernel
theorem d_Wi_reset_14 : decode c_Wi_reset 14 = .ok (.putfield 37, 3) := by decide +kernel
theorem d_Wi_reset_17 : decode c_Wi_reset 17 = .ok (.aload_n 0, 1) := by decide +kernel
theorem d_Wi_reset_18 : decode c_Wi_reset 18 = .ok (.iconst 1, 1) := by decide +kernel
theorem d_Wi_reset_19 : decode c_Wi_reset 19 = .ok (.putfield 40, 3) := by decide +kernel
theorem d_Wi_reset_22 : decode c_Wi_reset 22 = .ok (.aload_n 0, 1) := by decide +kernel
theorem d_Wi_reset_23 : decode c_Wi_reset 23 = .ok (.invokevirtual 43, 3) := by decide +kernel
theorem d_Wi_reset_26 : decode c_Wi_reset 26 = .ok (.return_, 1) := by decide +kernel
def f_Wi_reset (a : Nat) : sn_M := p_I 10 1 (some a) (127 : Int32) (p_I 10 2 (some a) (127 : Int32) (p_I 10 3 (some a) (1 : Int32) (p_I 10 4 (some a) (1 : Int32) (n_n 10 (some a) fun a1 => c_V (f_Wi_stop a1) (r_V)))))
set_option maxHeartbeats 4000000 in
set_option maxRecDepth 100000 in
theorem mono_Wi_reset (a : Nat) : sn_Mono (f_Wi_reset a) := sn_Mono.pI (sn_Mono.pI (sn_Mono.pI (sn_Mono.pI (sn_Mono.nn (fun a1 => sn_Mono.cV (mono_Wi_stop a1) (sn_Mono.rV))))))
set_option maxHeartbeats 4000000 in
set_option maxRecDepth 100000 in
theorem con_Wi_reset (a : Nat) : sn_Con y_Wi_reset c_Wi_reset 1 none 1 20 [vA (some a)] (f_Wi_reset a) := by
  refine sn_Con.of (by decide +kernel) (by show _ ≤ _; exact Nat.le_of_ble_eq_true rfl) (mono_Wi_reset a) (fun X C => ?_)
  show sn_S X 0 [(0, vA (some a))] [] _
  replace C : sn_Cx X c_Wi_reset "SignalNetwork$Window" none "reset" 1 1 20 := C
  unfold f_Wi_reset
  refine r_aload_n (q := 1) (i := 0) (pl := 0) C d_Wi_reset_0 rfl rfl rfl ?_
  refine r_bipush (q := 3) (v := 127) C d_Wi_reset_1 rfl (by decide) ?_
  refine r_pI (q := 6) C d_Wi_reset_3 rfl F_Wi_30 rfl rfl (Or.inl rfl) ?_
  refine r_aload_n (q := 7) (i := 0) (pl := 0) C d_Wi_reset_6 rfl rfl rfl ?_
  refine r_bipush (q := 9) (v := 127) C d_Wi_reset_7 rfl (by decide) ?_
  refine r_pI (q := 12) C d_Wi_reset_9 rfl F_Wi_34 rfl rfl (Or.inl rfl) ?_
  refine r_aload_n (q := 13) (i := 0) (pl := 0) C d_Wi_reset_12 rfl rfl rfl ?_
  refine r_iconst (q := 14) (v := 1) C d_Wi_reset_13 rfl (by decide) ?_
  refine r_pI (q := 17) C d_Wi_reset_14 rfl F_Wi_37 rfl rfl (Or.inl rfl) ?_
  refine r_aload_n (q := 18) (i := 0) (pl := 0) C d_Wi_reset_17 rfl rfl rfl ?_
  refine r_iconst (q := 19) (v := 1) C d_Wi_reset_18 rfl (by decide) ?_
  refine r_pI (q := 22) C d_Wi_reset_19 rfl F_Wi_40 rfl rfl (Or.inl rfl) ?_
  refine r_aload_n (q := 23) (i := 0) (pl := 0) C d_Wi_reset_22 rfl rfl rfl ?_
  refine r_cvV (q := 26) (As := []) (st := []) (cy := 9) C d_Wi_reset_23 rfl Y_Wi_stop L_Wi_43 I_Wi_stop Se_Wi_stop rfl (by decide) rfl (Nat.le_of_ble_eq_true rfl) (Nat.le_of_ble_eq_true rfl) (Nat.le_of_ble_eq_true rfl) rfl (fun a1 => con_Wi_stop a1) ?_
  exact r_vret C d_Wi_reset_26 rfl
theorem d_Wi_init_0 : decode c_Wi_init 0 = .ok (.aload_n 0, 1) := by decide +kernel
theorem d_Wi_init_1 : decode c_Wi_init 1 = .ok (.invokespecial 3, 3) := by decide +kernel
theorem d_Wi_init_4 : decode c_Wi_init 4 = .ok (.aload_n 0, 1) := by decide +kernel
theorem d_Wi_init_5 : decode c_Wi_init 5 = .ok (.new 9, 3) := by decide +kernel
theorem d_Wi_init_8 : decode c_Wi_init 8 = .ok (.dup, 1) := by decide +kernel
theorem d_Wi_init_9 : decode c_Wi_init 9 = .ok (.bipush 32, 2) := by decide +kernel
theorem d_Wi_init_11 : decode c_Wi_init 11 = .ok (.invokespecial 13, 3) := by decide +kernel
theorem d_Wi_init_14 : decode c_Wi_init 14 = .ok (.putfield 16, 3) := by decide +kernel
theorem d_Wi_init_17 : decode c_Wi_init 17 = .ok (.aload_n 0, 1) := by decide +kernel
theorem d_Wi_init_18 : decode c_Wi_init 18 = .ok (.new 9, 3) := by decide +kernel
theorem d_Wi_init_21 : decode c_Wi_init 21 = .ok (.dup, 1) := by decide +kernel
theorem d_Wi_init_22 : decode c_Wi_init 22 = .ok (.bipush 64, 2) := by decide +kernel
theorem d_Wi_init_24 : decode c_Wi_init 24 = .ok (.invokespecial 13, 3) := by decide +kernel
theorem d_Wi_init_27 : decode c_Wi_init 27 = .ok (.putfield 20, 3) := by decide +kernel
theorem d_Wi_init_30 : decode c_Wi_init 30 = .ok (.aload_n 0, 1) := by decide +kernel
theorem d_Wi_init_31 : decode c_Wi_init 31 = .ok (.aload_n 1, 1) := by decide +kernel
theorem d_Wi_init_32 : decode c_Wi_init 32 = .ok (.putfield 23, 3) := by decide +kernel
theorem d_Wi_init_35 : decode c_Wi_init 35 = .ok (.aload_n 0, 1) := by decide +kernel
theorem d_Wi_init_36 : decode c_Wi_init 36 = .ok (.invokevirtual 27, 3) := by decide +kernel
theorem d_Wi_init_39 : decode c_Wi_init 39 = .ok (.return_, 1) := by decide +kernel
def f_Wi_init (a : Nat) (r1 : Option Nat) : sn_M := n_O 6 3 fun v1 => n_n 6 v1 fun o2 => c_V (f_Qu_init o2 (32 : Int32)) (p_R 10 7 (some a) v1 (n_O 6 3 fun v3 => n_n 6 v3 fun o4 => c_V (f_Qu_init o4 (64 : Int32)) (p_R 10 8 (some a) v3 (p_R 10 0 (some a) r1 (n_n 10 (some a) fun a5 => c_V (f_Wi_reset a5) (r_V))))))
set_option maxHeartbeats 4000000 in
set_option maxRecDepth 100000 in
theorem mono_Wi_init (a : Nat) (r1 : Option Nat) : sn_Mono (f_Wi_init a r1) := sn_Mono.nO (fun v1 => sn_Mono.nn (fun o2 => sn_Mono.cV (mono_Qu_init o2 (32 : Int32)) (sn_Mono.pR (sn_Mono.nO (fun v3 => sn_Mono.nn (fun o4 => sn_Mono.cV (mono_Qu_init o4 (64 : Int32)) (sn_Mono.pR (sn_Mono.pR (sn_Mono.nn (fun a5 => sn_Mono.cV (mono_Wi_reset a5) (sn_Mono.rV)))))))))))
set_option maxHeartbeats 4000000 in
set_option maxRecDepth 100000 in
theorem con_Wi_init (a : Nat) (r1 : Option Nat) : sn_Con y_Wi_init c_Wi_init 2 none 2 42 [vA (some a), vA r1] (f_Wi_init a r1) := by
  refine sn_Con.of (by decide +kernel) (by show _ ≤ _; exact Nat.le_of_ble_eq_true rfl) (mono_Wi_init a r1) (fun X C => ?_)
  show sn_S X 0 [(0, vA (some a)), (1, vA r1)] [] _
  replace C : sn_Cx X c_Wi_init "SignalNetwork$Window" none "<init>" 2 2 42 := C
  unfold f_Wi_init
  refine r_aload_n (q := 1) (i := 0) (pl := 0) C d_Wi_init_0 rfl rfl rfl ?_
  refine r_objInit (q := 4) C d_Wi_init_1 rfl LO_Wi_3 W_oi W_oc (by decide) (by decide) a rfl ?_
  refine r_aload_n (q := 5) (i := 0) (pl := 0) C d_Wi_init_4 rfl rfl rfl ?_
  refine r_new (q := 8) C d_Wi_init_5 rfl CF6 C_Wi_9 In_Qu Ii_Qu (fun v1 => ?_)
  refine r_dup (q := 9) C d_Wi_init_8 rfl rfl ?_
  refine r_bipush (q := 11) (v := 32) C d_Wi_init_9 rfl (by decide) ?_
  refine r_ciV (q := 14) (As := [vI (32 : Int32)]) (st := [vA v1, vA (some a)]) (cy := 5) C d_Wi_init_11 rfl Y_Qu_init L_Wi_13 I_Qu_init rfl rfl rfl (Nat.le_of_ble_eq_true rfl) (Nat.le_of_ble_eq_true rfl) (Nat.le_of_ble_eq_true rfl) rfl (fun o2 => con_Qu_init o2 (32 : Int32)) ?_
  refine r_pR (q := 17) C d_Wi_init_14 rfl F_Wi_16 rfl (Or.inl ⟨_, rfl⟩) (Or.inr ⟨rfl, _, _, rfl⟩) ?_
  refine r_aload_n (q := 18) (i := 0) (pl := 0) C d_Wi_init_17 rfl rfl rfl ?_
  refine r_new (q := 21) C d_Wi_init_18 rfl CF6 C_Wi_9 In_Qu Ii_Qu (fun v3 => ?_)
  refine r_dup (q := 22) C d_Wi_init_21 rfl rfl ?_
  refine r_bipush (q := 24) (v := 64) C d_Wi_init_22 rfl (by decide) ?_
  refine r_ciV (q := 27) (As := [vI (64 : Int32)]) (st := [vA v3, vA (some a)]) (cy := 5) C d_Wi_init_24 rfl Y_Qu_init L_Wi_13 I_Qu_init rfl rfl rfl (Nat.le_of_ble_eq_true rfl) (Nat.le_of_ble_eq_true rfl) (Nat.le_of_ble_eq_true rfl) rfl (fun o4 => con_Qu_init o4 (64 : Int32)) ?_
  refine r_pR (q := 30) C d_Wi_init_27 rfl F_Wi_20 rfl (Or.inl ⟨_, rfl⟩) (Or.inr ⟨rfl, _, _, rfl⟩) ?_
  refine r_aload_n (q := 31) (i := 0) (pl := 0) C d_Wi_init_30 rfl rfl rfl ?_
  refine r_aload_n (q := 32) (i := 1) (pl := 1) C d_Wi_init_31 rfl rfl rfl ?_
  refine r_pR (q := 35) C d_Wi_init_32 rfl F_Wi_23 rfl (Or.inl ⟨_, rfl⟩) (Or.inr ⟨rfl, _, _, rfl⟩) ?_
  refine r_aload_n (q := 36) (i := 0) (pl := 0) C d_Wi_init_35 rfl rfl rfl ?_
  refine r_cvV (q := 39) (As := []) (st := []) (cy := 9) C d_Wi_init_36 rfl Y_Wi_reset L_Wi_27 I_Wi_reset Se_Wi_reset rfl (by decide) rfl (Nat.le_of_ble_eq_true rfl) (Nat.le_of_ble_eq_true rfl) (Nat.le_of_ble_eq_true rfl) rfl (fun a5 => con_Wi_reset a5) ?_
  exact r_vret C d_Wi_init_39 rfl
theorem d_Wi_numberOf_0 : decode c_Wi_numberOf 0 = .ok (.aload_n 0, 1) := by decide +kernel
theorem d_Wi_numberOf_1 : decode c_Wi_numberOf 1 = .ok (.getfield 30, 3) := by decide +kernel
theorem d_Wi_numberOf_4 : decode c_Wi_numberOf 4 = .ok (.aload_n 0, 1) := by decide +kernel
theorem d_Wi_numberOf_5 : decode c_Wi_numberOf 5 = .ok (.getfield 16, 3) := by decide +kernel
theorem d_Wi_numberOf_8 : decode c_Wi_numberOf 8 = .ok (.getfield 59, 3) := by decide +kernel
theorem d_Wi_numberOf_11 : decode c_Wi_numberOf 11 = .ok (.isub, 1) := by decide +kernel
theorem d_Wi_numberOf_12 : decode c_Wi_numberOf 12 = .ok (.iconst 1, 1) := by decide +kernel
theorem d_Wi_numberOf_13 : decode c_Wi_numberOf 13 = .ok (.iadd, 1) := by decide +kernel
theorem d_Wi_numberOf_14 : decode c_Wi_numberOf 14 = .ok (.iload_n 1, 1) := by decide +kernel
theorem d_Wi_numberOf_15 : decode c_Wi_numberOf 15 = .ok (.iadd, 1) := by decide +kernel
theorem d_Wi_numberOf_16 : decode c_Wi_numberOf 16 = .ok (.sipush 128, 3) := by decide +kernel
theorem d_Wi_numberOf_19 : decode c_Wi_numberOf 19 = .ok (.invokestatic 73, 3) := by decide +kernel
theorem d_Wi_numberOf_22 : decode c_Wi_numberOf 22 = .ok (.ireturn, 1) := by decide +kernel
def f_Wi_numberOf (a : Nat) (x1 : Int32) : sn_M := g_I 10 1 (some a) fun v1 => g_R 10 7 (some a) fun v2 => g_I 6 2 v2 fun v3 => c_I (f_Ma_floorMod (((v1 - v3) + (1 : Int32)) + x1) (128 : Int32)) fun v4 => r_I v4
set_option maxHeartbeats 4000000 in
set_option maxRecDepth 100000 in
theorem mono_Wi_numberOf (a : Nat) (x1 : Int32) : sn_Mono (f_Wi_numberOf a x1) := sn_Mono.gI (fun v1 => sn_Mono.gR (fun v2 => sn_Mono.gI (fun v3 => sn_Mono.cI (mono_Ma_floorMod (((v1 - v3) + (1 : Int32)) + x1) (128 : Int32)) (fun v4 => sn_Mono.rI))))
set_option maxHeartbeats 4000000 in
set_option maxRecDepth 100000 in
theorem con_Wi_numberOf (a : Nat) (x1 : Int32) : sn_Con y_Wi_numberOf c_Wi_numberOf 2 (some .int) 1 22 [vA (some a), vI x1] (f_Wi_numberOf a x1) := by
  refine sn_Con.of (by decide +kernel) (by show _ ≤ _; exact Nat.le_of_ble_eq_true rfl) (mono_Wi_numberOf a x1) (fun X C => ?_)
  show sn_S X 0 [(0, vA (some a)), (1, vI x1)] [] _
  replace C : sn_Cx X c_Wi_numberOf "SignalNetwork$Window" (some .int) "numberOf" 2 1 22 := C
  unfold f_Wi_numberOf
  refine r_aload_n (q := 1) (i := 0) (pl := 0) C d_Wi_numberOf_0 rfl rfl rfl ?_
  refine r_gI (q := 4) C d_Wi_numberOf_1 rfl F_Wi_30 rfl (fun v1 => ?_)
  refine r_aload_n (q := 5) (i := 0) (pl := 0) C d_Wi_numberOf_4 rfl rfl rfl ?_
  refine r_gR (q := 8) C d_Wi_numberOf_5 rfl F_Wi_16 rfl (fun v2 => ?_)
  refine r_gI (q := 11) C d_Wi_numberOf_8 rfl F_Wi_59 rfl (fun v3 => ?_)
  refine r_isub (q := 12) C d_Wi_numberOf_11 rfl ?_
  refine r_iconst (q := 13) (v := 1) C d_Wi_numberOf_12 rfl (by decide) ?_
  refine r_iadd (q := 14) C d_Wi_numberOf_13 rfl ?_
  refine r_iload_n (q := 15) (i := 1) (pl := 1) C d_Wi_numberOf_14 rfl rfl rfl ?_
  refine r_iadd (q := 16) C d_Wi_numberOf_15 rfl ?_
  refine r_sipush (q := 19) (v := 128) C d_Wi_numberOf_16 rfl (by decide) ?_
  refine r_csI (q := 22) (As := [vI (((v1 - v3) + (1 : Int32)) + x1), vI (128 : Int32)]) (st := []) C d_Wi_numberOf_19 rfl Y_Ma_floorMod L_Wi_73 St_Ma_floorMod rfl (Nat.le_of_ble_eq_true rfl) (Nat.le_of_ble_eq_true rfl) (Nat.le_of_ble_eq_true rfl) rfl (con_Ma_floorMod (((v1 - v3) + (1 : Int32)) + x1) (128 : Int32)) (fun v4 => ?_)
  exact r_iret C d_Wi_numberOf_22 rfl
theorem d_Wi_repeat_0 : decode c_Wi_repeat 0 = .ok (.aload_n 1, 1) := by decide +kernel
theorem d_Wi_repeat_1 : decode c_Wi_repeat 1 = .ok (.aload_n 0, 1) := by decide +kernel
theorem d_Wi_repeat_2 : decode c_Wi_repeat 2 = .ok (.aload_n 0, 1) := by decide +kernel
theorem d_Wi_repeat_3 : decode c_Wi_repeat 3 = .ok (.getfield 46, 3) := by decide +kernel
theorem d_Wi_repeat_6 : decode c_Wi_repeat 6 = .ok (.invokevirtual 69, 3) := by decide +kernel
theorem d_Wi_repeat_9 : decode c_Wi_repeat 9 = .ok (.putfield 63, 3) := by decide +kernel
theorem d_Wi_repeat_12 : decode c_Wi_repeat 12 = .ok (.aload_n 1, 1) := by decide +kernel
theorem d_Wi_repeat_13 : decode c_Wi_repeat 13 = .ok (.aload_n 0, 1) := by decide +kernel
theorem d_Wi_repeat_14 : decode c_Wi_repeat 14 = .ok (.getfield 16, 3) := by decide +kernel
theorem d_Wi_repeat_17 : decode c_Wi_repeat 17 = .ok (.aload_n 0, 1) := by decide +kernel
theorem d_Wi_repeat_18 : decode c_Wi_repeat 18 = .ok (.getfield 46, 3) := by decide +kernel
theorem d_Wi_repeat_21 : decode c_Wi_repeat 21 = .ok (.invokevirtual 103, 3) := by decide +kernel
theorem d_Wi_repeat_24 : decode c_Wi_repeat 24 = .ok (.putfield 99, 3) := by decide +kernel
theorem d_Wi_repeat_27 : decode c_Wi_repeat 27 = .ok (.aload_n 0, 1) := by decide +kernel
theorem d_Wi_repeat_28 : decode c_Wi_repeat 28 = .ok (.aload_n 0, 1) := by decide +kernel
theorem d_Wi_repeat_29 : decode c_Wi_repeat 29 = .ok (.getfield 46, 3) := by decide +kernel
theorem d_Wi_repeat_32 : decode c_Wi_repeat 32 = .ok (.iconst 1, 1) := by decide +kernel
theorem d_Wi_repeat_33 : decode c_Wi_repeat 33 = .ok (.iadd, 1) := by decide +kernel
theorem d_Wi_repeat_34 : decode c_Wi_repeat 34 = .ok (.aload_n 0, 1) := by decide +kernel
theorem d_Wi_repeat_35 : decode c_Wi_repeat 35 = .ok (.getfield 16, 3) := by decide +kernel
theorem d_Wi_repeat_38 : decode c_Wi_repeat 38 = .ok (.getfield 59, 3) := by decide +kernel
theorem d_Wi_repeat_41 : decode c_Wi_repeat 41 = .ok (.if_icmp .ge 12, 3) := by decide +kernel
theorem d_Wi_repeat_44 : decode c_Wi_repeat 44 = .ok (.aload_n 0, 1) := by decide +kernel
theorem d_Wi_repeat_45 : decode c_Wi_repeat 45 = .ok (.getfield 46, 3) := by decide +kernel
theorem d_Wi_repeat_48 : decode c_Wi_repeat 48 = .ok (.iconst 1, 1) := by decide +kernel
theorem d_Wi_repeat_49 : decode c_Wi_repeat 49 = .ok (.iadd, 1) := by decide +kernel
theorem d_Wi_repeat_50 : decode c_Wi_repeat 50 = .ok (.goto 4, 3) := by decide +kernel
theorem d_Wi_repeat_53 : decode c_Wi_repeat 53 = .ok (.iconst (-1), 1) := by decide +kernel
theorem d_Wi_repeat_54 : decode c_Wi_repeat 54 = .ok (.putfield 46, 3) := by decide +kernel
theorem d_Wi_repeat_57 : decode c_Wi_repeat 57 = .ok (.return_, 1) := by decide +kernel
def f_Wi_repeat_54 (a : Nat) (t0 : Option Nat) (t1 : Int32) : sn_M := p_I 10 5 t0 t1 (r_V)
set_option maxHeartbeats 4000000 in
set_option maxRecDepth 100000 in
theorem mono_Wi_repeat_54 (a : Nat) (t0 : Option Nat) (t1 : Int32) : sn_Mono (f_Wi_repeat_54 a t0 t1) := sn_Mono.pI (sn_Mono.rV)
set_option maxHeartbeats 4000000 in
set_option maxRecDepth 100000 in
theorem s_Wi_repeat_54 {X : sn_X} (C : sn_Cx X c_Wi_repeat "SignalNetwork$Window" none "repeat" 2 2 43) (a : Nat) (t0 : Option Nat) (t1 : Int32) : sn_S X 54 [(0, vA (some a))] [vI t1, vA t0] (f_Wi_repeat_54 a t0 t1) := by
  unfold f_Wi_repeat_54
  refine r_pI (q := 57) C d_Wi_repeat_54 rfl F_Wi_46 rfl rfl (Or.inl rfl) ?_
  exact r_vret C d_Wi_repeat_57 rfl
def f_Wi_repeat (a : Nat) (r1 : Option Nat) : sn_M := g_I 10 5 (some a) fun v1 => n_n 10 (some a) fun a2 => c_I (f_Wi_numberOf a2 v1) fun v3 => p_I 9 1 r1 v3 (g_R 10 7 (some a) fun v4 => g_I 10 5 (some a) fun v5 => n_n 6 v4 fun a6 => c_J (f_Qu_at a6 v5) fun v7 => p_J 9 6 r1 v7 (g_I 10 5 (some a) fun v8 => g_R 10 7 (some a) fun v9 => g_I 6 2 v9 fun v10 => (if v10 ≤ (v8 + (1 : Int32)) then f_Wi_repeat_54 a (some a) (-1 : Int32) else g_I 10 5 (some a) fun v11 => f_Wi_repeat_54 a (some a) (v11 + (1 : Int32)))))
set_option maxHeartbeats 4000000 in
set_option maxRecDepth 100000 in
theorem mono_Wi_repeat (a : Nat) (r1 : Option Nat) : sn_Mono (f_Wi_repeat a r1) := sn_Mono.gI (fun v1 => sn_Mono.nn (fun a2 => sn_Mono.cI (mono_Wi_numberOf a2 v1) (fun v3 => sn_Mono.pI (sn_Mono.gR (fun v4 => sn_Mono.gI (fun v5 => sn_Mono.nn (fun a6 => sn_Mono.cJ (mono_Qu_at a6 v5) (fun v7 => sn_Mono.pJ (sn_Mono.gI (fun v8 => sn_Mono.gR (fun v9 => sn_Mono.gI (fun v10 => sn_Mono.ite (mono_Wi_repeat_54 a (some a) (-1 : Int32)) (sn_Mono.gI (fun v11 => mono_Wi_repeat_54 a (some a) (v11 + (1 : Int32))))))))))))))))
set_option maxHeartbeats 4000000 in
set_option maxRecDepth 100000 in
theorem con_Wi_repeat (a : Nat) (r1 : Option Nat) : sn_Con y_Wi_repeat c_Wi_repeat 2 none 2 43 [vA (some a), vA r1] (f_Wi_repeat a r1) := by
  refine sn_Con.of (by decide +kernel) (by show _ ≤ _; exact Nat.le_of_ble_eq_true rfl) (mono_Wi_repeat a r1) (fun X C => ?_)
  show sn_S X 0 [(0, vA (some a)), (1, vA r1)] [] _
  replace C : sn_Cx X c_Wi_repeat "SignalNetwork$Window" none "repeat" 2 2 43 := C
  unfold f_Wi_repeat
  refine r_aload_n (q := 1) (i := 1) (pl := 1) C d_Wi_repeat_0 rfl rfl rfl ?_
  refine r_aload_n (q := 2) (i := 0) (pl := 0) C d_Wi_repeat_1 rfl rfl rfl ?_
  refine r_aload_n (q := 3) (i := 0) (pl := 0) C d_Wi_repeat_2 rfl rfl rfl ?_
  refine r_gI (q := 6) C d_Wi_repeat_3 rfl F_Wi_46 rfl (fun v1 => ?_)
  refine r_cvI (q := 9) (As := [vI v1]) (st := [vA r1]) (cy := 9) C d_Wi_repeat_6 rfl Y_Wi_numberOf L_Wi_69 I_Wi_numberOf Se_Wi_numberOf rfl (by decide) rfl (Nat.le_of_ble_eq_true rfl) (Nat.le_of_ble_eq_true rfl) (Nat.le_of_ble_eq_true rfl) rfl (fun a2 => con_Wi_numberOf a2 v1) (fun v3 => ?_)
  refine r_pI (q := 12) C d_Wi_repeat_9 rfl F_Wi_63 rfl rfl (Or.inl rfl) ?_
  refine r_aload_n (q := 13) (i := 1) (pl := 1) C d_Wi_repeat_12 rfl rfl rfl ?_
  refine r_aload_n (q := 14) (i := 0) (pl := 0) C d_Wi_repeat_13 rfl rfl rfl ?_
  refine r_gR (q := 17) C d_Wi_repeat_14 rfl F_Wi_16 rfl (fun v4 => ?_)
  refine r_aload_n (q := 18) (i := 0) (pl := 0) C d_Wi_repeat_17 rfl rfl rfl ?_
  refine r_gI (q := 21) C d_Wi_repeat_18 rfl F_Wi_46 rfl (fun v5 => ?_)
  refine r_cvJ (q := 24) (As := [vI v5]) (st := [vA r1]) (cy := 5) C d_Wi_repeat_21 rfl Y_Qu_at L_Wi_103 I_Qu_at Se_Qu_at rfl (by decide) rfl (Nat.le_of_ble_eq_true rfl) (Nat.le_of_ble_eq_true rfl) (Nat.le_of_ble_eq_true rfl) rfl (fun a6 => con_Qu_at a6 v5) (fun v7 => ?_)
  refine r_pJ (q := 27) C d_Wi_repeat_24 rfl F_Wi_99 rfl rfl (Or.inl rfl) ?_
  refine r_aload_n (q := 28) (i := 0) (pl := 0) C d_Wi_repeat_27 rfl rfl rfl ?_
  refine r_aload_n (q := 29) (i := 0) (pl := 0) C d_Wi_repeat_28 rfl rfl rfl ?_
  refine r_gI (q := 32) C d_Wi_repeat_29 rfl F_Wi_46 rfl (fun v8 => ?_)
  refine r_iconst (q := 33) (v := 1) C d_Wi_repeat_32 rfl (by decide) ?_
  refine r_iadd (q := 34) C d_Wi_repeat_33 rfl ?_
  refine r_aload_n (q := 35) (i := 0) (pl := 0) C d_Wi_repeat_34 rfl rfl rfl ?_
  refine r_gR (q := 38) C d_Wi_repeat_35 rfl F_Wi_16 rfl (fun v9 => ?_)
  refine r_gI (q := 41) C d_Wi_repeat_38 rfl F_Wi_59 rfl (fun v10 => ?_)
  refine r_icmp_ge (tgt := 53) (q := 44) C d_Wi_repeat_41 (by decide) rfl ?_ ?_
  · refine r_iconst (q := 54) (v := -1) C d_Wi_repeat_53 rfl (by decide) ?_
    refine r_sub (lv' := [(0, vA (some a))]) [0] rfl ?_
    exact s_Wi_repeat_54 C a (some a) (-1 : Int32)
  · refine r_aload_n (q := 45) (i := 0) (pl := 0) C d_Wi_repeat_44 rfl rfl rfl ?_
    refine r_gI (q := 48) C d_Wi_repeat_45 rfl F_Wi_46 rfl (fun v11 => ?_)
    refine r_iconst (q := 49) (v := 1) C d_Wi_repeat_48 rfl (by decide) ?_
    refine r_iadd (q := 50) C d_Wi_repeat_49 rfl ?_
    refine r_goto (tgt := 54) C d_Wi_repeat_50 (by decide) ?_
    refine r_sub (lv' := [(0, vA (some a))]) [0] rfl ?_
    exact s_Wi_repeat_54 C a (some a) (v11 + (1 : Int32))
theorem d_Wi_sendAnew_0 : decode c_Wi_sendAnew 0 = .ok (.aload_n 0, 1) := by decide +kernel
theorem d_Wi_sendAnew_1 : decode c_Wi_sendAnew 1 = .ok (.getfield 16, 3) := by decide +kernel
theorem d_Wi_sendAnew_4 : decode c_Wi_sendAnew 4 = .ok (.getfield 59, 3) := by decide +kernel
theorem d_Wi_sendAnew_7 : decode c_Wi_sendAnew 7 = .ok (.ifCond .ne 16, 3) := by decide +kernel
theorem d_Wi_sendAnew_10 : decode c_Wi_sendAnew 10 = .ok (.aload_n 0, 1) := by decide +kernel
theorem d_Wi_sendAnew_11 : decode c_Wi_sendAnew 11 = .ok (.aload_n 0, 1) := by decide +kernel
theorem d_Wi_sendAnew_12 : decode c_Wi_sendAnew 12 = .ok (.getfield 23, 3) := by decide +kernel
theorem d_Wi_sendAnew_15 : decode c_Wi_sendAnew 15 = .ok (.bipush 20, 2) := by decide +kernel
theorem d_Wi_sendAnew_17 : decode c_Wi_sendAnew 17 = .ok (.invokevirtual 82, 3) := by decide +kernel
theorem d_Wi_sendAnew_20 : decode c_Wi_sendAnew 20 = .ok (.putfield 49, 3) := by decide +kernel
theorem d_Wi_sendAnew_23 : decode c_Wi_sendAnew 23 = .ok (.aload_n 0, 1) := by decide +kernel
theorem d_Wi_sendAnew_24 : decode c_Wi_sendAnew 24 = .ok (.aload_n 0, 1) := by decide +kernel
theorem d_Wi_sendAnew_25 : decode c_Wi_sendAnew 25 = .ok (.getfield 30, 3) := by decide +kernel
theorem d_Wi_sendAnew_28 : decode c_Wi_sendAnew 28 = .ok (.iconst 1, 1) := by decide +kernel
theorem d_Wi_sendAnew_29 : decode c_Wi_sendAnew 29 = .ok (.iadd, 1) := by decide +kernel
theorem d_Wi_sendAnew_30 : decode c_Wi_sendAnew 30 = .ok (.sipush 128, 3) := by decide +kernel
theorem d_Wi_sendAnew_33 : decode c_Wi_sendAnew 33 = .ok (.irem, 1) := by decide +kernel
theorem d_Wi_sendAnew_34 : decode c_Wi_sendAnew 34 = .ok (.putfield 30, 3) := by decide +kernel
theorem d_Wi_sendAnew_37 : decode c_Wi_sendAnew 37 = .ok (.aload_n 1, 1) := by decide +kernel
theorem d_Wi_sendAnew_38 : decode c_Wi_sendAnew 38 = .ok (.aload_n 0, 1) := by decide +kernel
theorem d_Wi_sendAnew_39 : decode c_Wi_sendAnew 39 = .ok (.getfield 30, 3) := by decide +kernel
theorem d_Wi_sendAnew_42 : decode c_Wi_sendAnew 42 = .ok (.putfield 63, 3) := by decide +kernel
theorem d_Wi_sendAnew_45 : decode c_Wi_sendAnew 45 = .ok (.aload_n 1, 1) := by decide +kernel
theorem d_Wi_sendAnew_46 : decode c_Wi_sendAnew 46 = .ok (.aload_n 0, 1) := by decide +kernel
theorem d_Wi_sendAnew_47 : decode c_Wi_sendAnew 47 = .ok (.getfield 20, 3) := by decide +kernel
theorem d_Wi_sendAnew_50 : decode c_Wi_sendAnew 50 = .ok (.invokevirtual 107, 3) := by decide +kernel
theorem d_Wi_sendAnew_53 : decode c_Wi_sendAnew 53 = .ok (.putfield 99, 3) := by decide +kernel
theorem d_Wi_sendAnew_56 : decode c_Wi_sendAnew 56 = .ok (.aload_n 0, 1) := by decide +kernel
theorem d_Wi_sendAnew_57 : decode c_Wi_sendAnew 57 = .ok (.getfield 16, 3) := by decide +kernel
theorem d_Wi_sendAnew_60 : decode c_Wi_sendAnew 60 = .ok (.aload_n 1, 1) := by decide +kernel
theorem d_Wi_sendAnew_61 : decode c_Wi_sendAnew 61 = .ok (.getfield 99, 3) := by decide +kernel
theorem d_Wi_sendAnew_64 : decode c_Wi_sendAnew 64 = .ok (.invokevirtual 111, 3) := by decide +kernel
theorem d_Wi_sendAnew_67 : decode c_Wi_sendAnew 67 = .ok (.pop, 1) := by decide +kernel
theorem d_Wi_sendAnew_68 : decode c_Wi_sendAnew 68 = .ok (.return_, 1) := by decide +kernel
def f_Wi_sendAnew_23 (a : Nat) (r1 : Option Nat) : sn_M := g_I 10 1 (some a) fun v1 => p_I 10 1 (some a) ((v1 + (1 : Int32)) % (128 : Int32)) (g_I 10 1 (some a) fun v2 => p_I 9 1 r1 v2 (g_R 10 8 (some a) fun v3 => n_n 6 v3 fun a4 => c_J (f_Qu_takeFirst a4) fun v5 => p_J 9 6 r1 v5 (g_R 10 7 (some a) fun v6 => g_J 9 6 r1 fun v7 => n_n 6 v6 fun a8 => c_I (f_Qu_add a8 v7) fun v9 => r_V)))
set_option maxHeartbeats 4000000 in
set_option maxRecDepth 100000 in
theorem mono_Wi_sendAnew_23 (a : Nat) (r1 : Option Nat) : sn_Mono (f_Wi_sendAnew_23 a r1) := sn_Mono.gI (fun v1 => sn_Mono.pI (sn_Mono.gI (fun v2 => sn_Mono.pI (sn_Mono.gR (fun v3 => sn_Mono.nn (fun a4 => sn_Mono.cJ (mono_Qu_takeFirst a4) (fun v5 => sn_Mono.pJ (sn_Mono.gR (fun v6 => sn_Mono.gJ (fun v7 => sn_Mono.nn (fun a8 => sn_Mono.cI (mono_Qu_add a8 v7) (fun v9 => sn_Mono.rV))))))))))))
set_option maxHeartbeats 4000000 in
set_option maxRecDepth 100000 in
theorem s_Wi_sendAnew_23 {X : sn_X} (C : sn_Cx X c_Wi_sendAnew "SignalNetwork$Window" none "sendAnew" 2 2 44) (a : Nat) (r1 : Option Nat) : sn_S X 23 [(0, vA (some a)), (1, vA r1)] [] (f_Wi_sendAnew_23 a r1) := by
  unfold f_Wi_sendAnew_23
  refine r_aload_n (q := 24) (i := 0) (pl := 0) C d_Wi_sendAnew_23 rfl rfl rfl ?_
  refine r_aload_n (q := 25) (i := 0) (pl := 0) C d_Wi_sendAnew_24 rfl rfl rfl ?_
  refine r_gI (q := 28) C d_Wi_sendAnew_25 rfl F_Wi_30 rfl (fun v1 => ?_)
  refine r_iconst (q := 29) (v := 1) C d_Wi_sendAnew_28 rfl (by decide) ?_
  refine r_iadd (q := 30) C d_Wi_sendAnew_29 rfl ?_
  refine r_sipush (q := 33) (v := 128) C d_Wi_sendAnew_30 rfl (by decide) ?_
  refine r_iremc (q := 34) C d_Wi_sendAnew_33 rfl (by decide) ?_
  refine r_pI (q := 37) C d_Wi_sendAnew_34 rfl F_Wi_30 rfl rfl (Or.inl rfl) ?_
  refine r_aload_n (q := 38) (i := 1) (pl := 1) C d_Wi_sendAnew_37 rfl rfl rfl ?_
  refine r_aload_n (q := 39) (i := 0) (pl := 0) C d_Wi_sendAnew_38 rfl rfl rfl ?_
  refine r_gI (q := 42) C d_Wi_sendAnew_39 rfl F_Wi_30 rfl (fun v2 => ?_)
  refine r_pI (q := 45) C d_Wi_sendAnew_42 rfl F_Wi_63 rfl rfl (Or.inl rfl) ?_
  refine r_aload_n (q := 46) (i := 1) (pl := 1) C d_Wi_sendAnew_45 rfl rfl rfl ?_
  refine r_aload_n (q := 47) (i := 0) (pl := 0) C d_Wi_sendAnew_46 rfl rfl rfl ?_
  refine r_gR (q := 50) C d_Wi_sendAnew_47 rfl F_Wi_20 rfl (fun v3 => ?_)
  refine r_cvJ (q := 53) (As := []) (st := [vA r1]) (cy := 5) C d_Wi_sendAnew_50 rfl Y_Qu_takeFirst L_Wi_107 I_Qu_takeFirst Se_Qu_takeFirst rfl (by decide) rfl (Nat.le_of_ble_eq_true rfl) (Nat.le_of_ble_eq_true rfl) (Nat.le_of_ble_eq_true rfl) rfl (fun a4 => con_Qu_takeFirst a4) (fun v5 => ?_)
  refine r_pJ (q := 56) C d_Wi_sendAnew_53 rfl F_Wi_99 rfl rfl (Or.inl rfl) ?_
  refine r_aload_n (q := 57) (i := 0) (pl := 0) C d_Wi_sendAnew_56 rfl rfl rfl ?_
  refine r_gR (q := 60) C d_Wi_sendAnew_57 rfl F_Wi_16 rfl (fun v6 => ?_)
  refine r_aload_n (q := 61) (i := 1) (pl := 1) C d_Wi_sendAnew_60 rfl rfl rfl ?_
  refine r_gJ (q := 64) C d_Wi_sendAnew_61 rfl F_Wi_99 rfl (fun v7 => ?_)
  refine r_cvI (q := 67) (As := [vJ v7]) (st := []) (cy := 5) C d_Wi_sendAnew_64 rfl Y_Qu_add L_Wi_111 I_Qu_add Se_Qu_add rfl (by decide) rfl (Nat.le_of_ble_eq_true rfl) (Nat.le_of_ble_eq_true rfl) (Nat.le_of_ble_eq_true rfl) rfl (fun a8 => con_Qu_add a8 v7) (fun v9 => ?_)
  refine r_pop (q := 68) C d_Wi_sendAnew_67 rfl rfl ?_
  exact r_vret C d_Wi_sendAnew_68 rfl
def f_Wi_sendAnew (a : Nat) (r1 : Option Nat) : sn_M := g_R 10 7 (some a) fun v10 => g_I 6 2 v10 fun v11 => (if ¬ v11 = 0 then f_Wi_sendAnew_23 a r1 else g_R 10 0 (some a) fun v12 => n_n 1 v12 fun a13 => c_I (f_Ck_after a13 (20 : Int32)) fun v14 => p_I 10 6 (some a) v14 (f_Wi_sendAnew_23 a r1))
set_option maxHeartbeats 4000000 in
set_option maxRecDepth 100000 in
theorem mono_Wi_sendAnew (a : Nat) (r1 : Option Nat) : sn_Mono (f_Wi_sendAnew a r1) := sn_Mono.gR (fun v10 => sn_Mono.gI (fun v11 => sn_Mono.ite (mono_Wi_sendAnew_23 a r1) (sn_Mono.gR (fun v12 => sn_Mono.nn (fun a13 => sn_Mono.cI (mono_Ck_after a13 (20 : Int32)) (fun v14 => sn_Mono.pI (mono_Wi_sendAnew_23 a r1)))))))
set_option maxHeartbeats 4000000 in
set_option maxRecDepth 100000 in
theorem con_Wi_sendAnew (a : Nat) (r1 : Option Nat) : sn_Con y_Wi_sendAnew c_Wi_sendAnew 2 none 2 44 [vA (some a), vA r1] (f_Wi_sendAnew a r1) := by
  refine sn_Con.of (by decide +kernel) (by show _ ≤ _; exact Nat.le_of_ble_eq_true rfl) (mono_Wi_sendAnew a r1) (fun X C => ?_)
  show sn_S X 0 [(0, vA (some a)), (1, vA r1)] [] _
  replace C : sn_Cx X c_Wi_sendAnew "SignalNetwork$Window" none "sendAnew" 2 2 44 := C
  unfold f_Wi_sendAnew
  refine r_aload_n (q := 1) (i := 0) (pl := 0) C d_Wi_sendAnew_0 rfl rfl rfl ?_
  refine r_gR (q := 4) C d_Wi_sendAnew_1 rfl F_Wi_16 rfl (fun v10 => ?_)
  refine r_gI (q := 7) C d_Wi_sendAnew_4 rfl F_Wi_59 rfl (fun v11 => ?_)
  refine r_if_ne (tgt := 23) (q := 10) C d_Wi_sendAnew_7 (by decide) rfl ?_ ?_
  · exact s_Wi_sendAnew_23 C a r1
  · refine r_aload_n (q := 11) (i := 0) (pl := 0) C d_Wi_sendAnew_10 rfl rfl rfl ?_
    refine r_aload_n (q := 12) (i := 0) (pl := 0) C d_Wi_sendAnew_11 rfl rfl rfl ?_
    refine r_gR (q := 15) C d_Wi_sendAnew_12 rfl F_Wi_23 rfl (fun v12 => ?_)
    refine r_bipush (q := 17) (v := 20) C d_Wi_sendAnew_15 rfl (by decide) ?_
    refine r_cvI (q := 20) (As := [vI (20 : Int32)]) (st := [vA (some a)]) (cy := 0) C d_Wi_sendAnew_17 rfl Y_Ck_after L_Wi_82 I_Ck_after Se_Ck_after rfl (by decide) rfl (Nat.le_of_ble_eq_true rfl) (Nat.le_of_ble_eq_true rfl) (Nat.le_of_ble_eq_true rfl) rfl (fun a13 => con_Ck_after a13 (20 : Int32)) (fun v14 => ?_)
    refine r_pI (q := 23) C d_Wi_sendAnew_20 rfl F_Wi_49 rfl rfl (Or.inl rfl) ?_
    exact s_Wi_sendAnew_23 C a r1
theorem d_Wi_fill_0 : decode c_Wi_fill 0 = .ok (.aload_n 1, 1) := by decide +kernel
theorem d_Wi_fill_1 : decode c_Wi_fill 1 = .ok (.iconst 5, 1) := by decide +kernel
theorem d_Wi_fill_2 : decode c_Wi_fill 2 = .ok (.putfield 66, 3) := by decide +kernel
theorem d_Wi_fill_5 : decode c_Wi_fill 5 = .ok (.aload_n 0, 1) := by decide +kernel
theorem d_Wi_fill_6 : decode c_Wi_fill 6 = .ok (.getfield 46, 3) := by decide +kernel
theorem d_Wi_fill_9 : decode c_Wi_fill 9 = .ok (.iconst (-1), 1) := by decide +kernel
theorem d_Wi_fill_10 : decode c_Wi_fill 10 = .ok (.if_icmp .eq 11, 3) := by decide +kernel
theorem d_Wi_fill_13 : decode c_Wi_fill 13 = .ok (.aload_n 0, 1) := by decide +kernel
theorem d_Wi_fill_14 : decode c_Wi_fill 14 = .ok (.aload_n 1, 1) := by decide +kernel
theorem d_Wi_fill_15 : decode c_Wi_fill 15 = .ok (.invokevirtual 90, 3) := by decide +kernel
theorem d_Wi_fill_18 : decode c_Wi_fill 18 = .ok (.goto 51, 3) := by decide +kernel
theorem d_Wi_fill_21 : decode c_Wi_fill 21 = .ok (.aload_n 0, 1) := by decide +kernel
theorem d_Wi_fill_22 : decode c_Wi_fill 22 = .ok (.getfield 20, 3) := by decide +kernel
theorem d_Wi_fill_25 : decode c_Wi_fill 25 = .ok (.getfield 59, 3) := by decide +kernel
theorem d_Wi_fill_28 : decode c_Wi_fill 28 = .ok (.ifCond .le 23, 3) := by decide +kernel
theorem d_Wi_fill_31 : decode c_Wi_fill 31 = .ok (.aload_n 0, 1) := by decide +kernel
theorem d_Wi_fill_32 : decode c_Wi_fill 32 = .ok (.getfield 16, 3) := by decide +kernel
theorem d_Wi_fill_35 : decode c_Wi_fill 35 = .ok (.getfield 59, 3) := by decide +kernel
theorem d_Wi_fill_38 : decode c_Wi_fill 38 = .ok (.bipush 32, 2) := by decide +kernel
theorem d_Wi_fill_40 : decode c_Wi_fill 40 = .ok (.if_icmp .ge 11, 3) := by decide +kernel
theorem d_Wi_fill_43 : decode c_Wi_fill 43 = .ok (.aload_n 0, 1) := by decide +kernel
theorem d_Wi_fill_44 : decode c_Wi_fill 44 = .ok (.aload_n 1, 1) := by decide +kernel
theorem d_Wi_fill_45 : decode c_Wi_fill 45 = .ok (.invokevirtual 94, 3) := by decide +kernel
theorem d_Wi_fill_48 : decode c_Wi_fill 48 = .ok (.goto 21, 3) := by decide +kernel
theorem d_Wi_fill_51 : decode c_Wi_fill 51 = .ok (.aload_n 1, 1) := by decide +kernel
theorem d_Wi_fill_52 : decode c_Wi_fill 52 = .ok (.iconst 4, 1) := by decide +kernel
theorem d_Wi_fill_53 : decode c_Wi_fill 53 = .ok (.putfield 66, 3) := by decide +kernel
theorem d_Wi_fill_56 : decode c_Wi_fill 56 = .ok (.aload_n 1, 1) := by decide +kernel
theorem d_Wi_fill_57 : decode c_Wi_fill 57 = .ok (.aload_n 0, 1) := by decide +kernel
theorem d_Wi_fill_58 : decode c_Wi_fill 58 = .ok (.getfield 30, 3) := by decide +kernel
theorem d_Wi_fill_61 : decode c_Wi_fill 61 = .ok (.putfield 63, 3) := by decide +kernel
theorem d_Wi_fill_64 : decode c_Wi_fill 64 = .ok (.aload_n 1, 1) := by decide +kernel
theorem d_Wi_fill_65 : decode c_Wi_fill 65 = .ok (.lconst 0, 1) := by decide +kernel
theorem d_Wi_fill_66 : decode c_Wi_fill 66 = .ok (.putfield 99, 3) := by decide +kernel
theorem d_Wi_fill_69 : decode c_Wi_fill 69 = .ok (.aload_n 1, 1) := by decide +kernel
theorem d_Wi_fill_70 : decode c_Wi_fill 70 = .ok (.aload_n 0, 1) := by decide +kernel
theorem d_Wi_fill_71 : decode c_Wi_fill 71 = .ok (.getfield 37, 3) := by decide +kernel
theorem d_Wi_fill_74 : decode c_Wi_fill 74 = .ok (.putfield 62, 3) := by decide +kernel
theorem d_Wi_fill_77 : decode c_Wi_fill 77 = .ok (.aload_n 1, 1) := by decide +kernel
theorem d_Wi_fill_78 : decode c_Wi_fill 78 = .ok (.aload_n 0, 1) := by decide +kernel
theorem d_Wi_fill_79 : decode c_Wi_fill 79 = .ok (.getfield 34, 3) := by decide +kernel
theorem d_Wi_fill_82 : decode c_Wi_fill 82 = .ok (.putfield 52, 3) := by decide +kernel
theorem d_Wi_fill_85 : decode c_Wi_fill 85 = .ok (.aload_n 1, 1) := by decide +kernel
theorem d_Wi_fill_86 : decode c_Wi_fill 86 = .ok (.aload_n 0, 1) := by decide +kernel
theorem d_Wi_fill_87 : decode c_Wi_fill 87 = .ok (.getfield 40, 3) := by decide +kernel
theorem d_Wi_fill_90 : decode c_Wi_fill 90 = .ok (.putfield 58, 3) := by decide +kernel
theorem d_Wi_fill_93 : decode c_Wi_fill 93 = .ok (.return_, 1) := by decide +kernel
def f_Wi_fill_69 (a : Nat) (r1 : Option Nat) : sn_M := g_I 10 3 (some a) fun v1 => p_I 9 2 r1 v1 (g_I 10 2 (some a) fun v2 => p_I 9 3 r1 v2 (g_I 10 4 (some a) fun v3 => p_I 9 4 r1 v3 (r_V)))
set_option maxHeartbeats 4000000 in
set_option maxRecDepth 100000 in
theorem mono_Wi_fill_69 (a : Nat) (r1 : Option Nat) : sn_Mono (f_Wi_fill_69 a r1) := sn_Mono.gI (fun v1 => sn_Mono.pI (sn_Mono.gI (fun v2 => sn_Mono.pI (sn_Mono.gI (fun v3 => sn_Mono.pI (sn_Mono.rV))))))
set_option maxHeartbeats 4000000 in
set_option maxRecDepth 100000 in
theorem s_Wi_fill_69 {X : sn_X} (C : sn_Cx X c_Wi_fill "SignalNetwork$Window" none "fill" 2 3 65) (a : Nat) (r1 : Option Nat) : sn_S X 69 [(0, vA (some a)), (1, vA r1)] [] (f_Wi_fill_69 a r1) := by
  unfold f_Wi_fill_69
  refine r_aload_n (q := 70) (i := 1) (pl := 1) C d_Wi_fill_69 rfl rfl rfl ?_
  refine r_aload_n (q := 71) (i := 0) (pl := 0) C d_Wi_fill_70 rfl rfl rfl ?_
  refine r_gI (q := 74) C d_Wi_fill_71 rfl F_Wi_37 rfl (fun v1 => ?_)
  refine r_pI (q := 77) C d_Wi_fill_74 rfl F_Wi_62 rfl rfl (Or.inl rfl) ?_
  refine r_aload_n (q := 78) (i := 1) (pl := 1) C d_Wi_fill_77 rfl rfl rfl ?_
  refine r_aload_n (q := 79) (i := 0) (pl := 0) C d_Wi_fill_78 rfl rfl rfl ?_
  refine r_gI (q := 82) C d_Wi_fill_79 rfl F_Wi_34 rfl (fun v2 => ?_)
  refine r_pI (q := 85) C d_Wi_fill_82 rfl F_Wi_52 rfl rfl (Or.inl rfl) ?_
  refine r_aload_n (q := 86) (i := 1) (pl := 1) C d_Wi_fill_85 rfl rfl rfl ?_
  refine r_aload_n (q := 87) (i := 0) (pl := 0) C d_Wi_fill_86 rfl rfl rfl ?_
  refine r_gI (q := 90) C d_Wi_fill_87 rfl F_Wi_40 rfl (fun v3 => ?_)
  refine r_pI (q := 93) C d_Wi_fill_90 rfl F_Wi_58 rfl rfl (Or.inl rfl) ?_
  exact r_vret C d_Wi_fill_93 rfl
def f_Wi_fill_51 (a : Nat) (r1 : Option Nat) : sn_M := p_I 9 0 r1 (4 : Int32) (g_I 10 1 (some a) fun v4 => p_I 9 1 r1 v4 (p_J 9 6 r1 (0 : Int64) (f_Wi_fill_69 a r1)))
set_option maxHeartbeats 4000000 in
set_option maxRecDepth 100000 in
theorem mono_Wi_fill_51 (a : Nat) (r1 : Option Nat) : sn_Mono (f_Wi_fill_51 a r1) := sn_Mono.pI (sn_Mono.gI (fun v4 => sn_Mono.pI (sn_Mono.pJ (mono_Wi_fill_69 a r1))))
set_option maxHeartbeats 4000000 in
set_option maxRecDepth 100000 in
theorem s_Wi_fill_51 {X : sn_X} (C : sn_Cx X c_Wi_fill "SignalNetwork$Window" none "fill" 2 3 65) (a : Nat) (r1 : Option Nat) : sn_S X 51 [(0, vA (some a)), (1, vA r1)] [] (f_Wi_fill_51 a r1) := by
  unfold f_Wi_fill_51
  refine r_aload_n (q := 52) (i := 1) (pl := 1) C d_Wi_fill_51 rfl rfl rfl ?_
  refine r_iconst (q := 53) (v := 4) C d_Wi_fill_52 rfl (by decide) ?_
  refine r_pI (q := 56) C d_Wi_fill_53 rfl F_Wi_66 rfl rfl (Or.inl rfl) ?_
  refine r_aload_n (q := 57) (i := 1) (pl := 1) C d_Wi_fill_56 rfl rfl rfl ?_
  refine r_aload_n (q := 58) (i := 0) (pl := 0) C d_Wi_fill_57 rfl rfl rfl ?_
  refine r_gI (q := 61) C d_Wi_fill_58 rfl F_Wi_30 rfl (fun v4 => ?_)
  refine r_pI (q := 64) C d_Wi_fill_61 rfl F_Wi_63 rfl rfl (Or.inl rfl) ?_
  refine r_aload_n (q := 65) (i := 1) (pl := 1) C d_Wi_fill_64 rfl rfl rfl ?_
  refine r_lconst (q := 66) (v := 0) C d_Wi_fill_65 rfl (by decide) ?_
  refine r_pJ (q := 69) C d_Wi_fill_66 rfl F_Wi_99 rfl rfl (Or.inl rfl) ?_
  exact s_Wi_fill_69 C a r1
def f_Wi_fill (a : Nat) (r1 : Option Nat) : sn_M := p_I 9 0 r1 (5 : Int32) (g_I 10 5 (some a) fun v5 => (if v5 = (-1 : Int32) then g_R 10 8 (some a) fun v6 => g_I 6 2 v6 fun v7 => (if v7 ≤ 0 then f_Wi_fill_51 a r1 else g_R 10 7 (some a) fun v8 => g_I 6 2 v8 fun v9 => (if (32 : Int32) ≤ v9 then f_Wi_fill_51 a r1 else n_n 10 (some a) fun a10 => c_V (f_Wi_sendAnew a10 r1) (f_Wi_fill_69 a r1))) else n_n 10 (some a) fun a12 => c_V (f_Wi_repeat a12 r1) (f_Wi_fill_69 a r1)))
set_option maxHeartbeats 4000000 in
set_option maxRecDepth 100000 in
theorem mono_Wi_fill (a : Nat) (r1 : Option Nat) : sn_Mono (f_Wi_fill a r1) := sn_Mono.pI (sn_Mono.gI (fun v5 => sn_Mono.ite (sn_Mono.gR (fun v6 => sn_Mono.gI (fun v7 => sn_Mono.ite (mono_Wi_fill_51 a r1) (sn_Mono.gR (fun v8 => sn_Mono.gI (fun v9 => sn_Mono.ite (mono_Wi_fill_51 a r1) (sn_Mono.nn (fun a10 => sn_Mono.cV (mono_Wi_sendAnew a10 r1) (mono_Wi_fill_69 a r1))))))))) (sn_Mono.nn (fun a12 => sn_Mono.cV (mono_Wi_repeat a12 r1) (mono_Wi_fill_69 a r1)))))
set_option maxHeartbeats 4000000 in
set_option maxRecDepth 100000 in
theorem con_Wi_fill (a : Nat) (r1 : Option Nat) : sn_Con y_Wi_fill c_Wi_fill 2 none 3 65 [vA (some a), vA r1] (f_Wi_fill a r1) := by
  refine sn_Con.of (by decide +kernel) (by show _ ≤ _; exact Nat.le_of_ble_eq_true rfl) (mono_Wi_fill a r1) (fun X C => ?_)
  show sn_S X 0 [(0, vA (some a)), (1, vA r1)] [] _
  replace C : sn_Cx X c_Wi_fill "SignalNetwork$Window" none "fill" 2 3 65 := C
  unfold f_Wi_fill
  refine r_aload_n (q := 1) (i := 1) (pl := 1) C d_Wi_fill_0 rfl rfl rfl ?_
  refine r_iconst (q := 2) (v := 5) C d_Wi_fill_1 rfl (by decide) ?_
  refine r_pI (q := 5) C d_Wi_fill_2 rfl F_Wi_66 rfl rfl (Or.inl rfl) ?_
  refine r_aload_n (q := 6) (i := 0) (pl := 0) C d_Wi_fill_5 rfl rfl rfl ?_
  refine r_gI (q := 9) C d_Wi_fill_6 rfl F_Wi_46 rfl (fun v5 => ?_)
  refine r_iconst (q := 10) (v := -1) C d_Wi_fill_9 rfl (by decide) ?_
  refine r_icmp_eq (tgt := 21) (q := 13) C d_Wi_fill_10 (by decide) rfl ?_ ?_
  · refine r_aload_n (q := 22) (i := 0) (pl := 0) C d_Wi_fill_21 rfl rfl rfl ?_
    refine r_gR (q := 25) C d_Wi_fill_22 rfl F_Wi_20 rfl (fun v6 => ?_)
    refine r_gI (q := 28) C d_Wi_fill_25 rfl F_Wi_59 rfl (fun v7 => ?_)
    refine r_if_le (tgt := 51) (q := 31) C d_Wi_fill_28 (by decide) rfl ?_ ?_
    · exact s_Wi_fill_51 C a r1
    · refine r_aload_n (q := 32) (i := 0) (pl := 0) C d_Wi_fill_31 rfl rfl rfl ?_
      refine r_gR (q := 35) C d_Wi_fill_32 rfl F_Wi_16 rfl (fun v8 => ?_)
      refine r_gI (q := 38) C d_Wi_fill_35 rfl F_Wi_59 rfl (fun v9 => ?_)
      refine r_bipush (q := 40) (v := 32) C d_Wi_fill_38 rfl (by decide) ?_
      refine r_icmp_ge (tgt := 51) (q := 43) C d_Wi_fill_40 (by decide) rfl ?_ ?_
      · exact s_Wi_fill_51 C a r1
      · refine r_aload_n (q := 44) (i := 0) (pl := 0) C d_Wi_fill_43 rfl rfl rfl ?_
        refine r_aload_n (q := 45) (i := 1) (pl := 1) C d_Wi_fill_44 rfl rfl rfl ?_
        refine r_cvV (q := 48) (As := [vA r1]) (st := []) (cy := 9) C d_Wi_fill_45 rfl Y_Wi_sendAnew L_Wi_94 I_Wi_sendAnew Se_Wi_sendAnew rfl (by decide) rfl (Nat.le_of_ble_eq_true rfl) (Nat.le_of_ble_eq_true rfl) (Nat.le_of_ble_eq_true rfl) rfl (fun a10 => con_Wi_sendAnew a10 r1) ?_
        refine r_goto (tgt := 69) C d_Wi_fill_48 (by decide) ?_
        exact s_Wi_fill_69 C a r1
  · refine r_aload_n (q := 14) (i := 0) (pl := 0) C d_Wi_fill_13 rfl rfl rfl ?_
    refine r_aload_n (q := 15) (i := 1) (pl := 1) C d_Wi_fill_14 rfl rfl rfl ?_
    refine r_cvV (q := 18) (As := [vA r1]) (st := []) (cy := 9) C d_Wi_fill_15 rfl Y_Wi_repeat L_Wi_90 I_Wi_repeat Se_Wi_repeat rfl (by decide) rfl (Nat.le_of_ble_eq_true rfl) (Nat.le_of_ble_eq_true rfl) (Nat.le_of_ble_eq_true rfl) rfl (fun a12 => con_Wi_repeat a12 r1) ?_
    refine r_goto (tgt := 69) C d_Wi_fill_18 (by decide) ?_
    exact s_Wi_fill_69 C a r1
theorem d_Wi_acknowledge_0 : decode c_Wi_acknowledge 0 = .ok (.iload_n 1, 1) := by decide +kernel
theorem d_Wi_acknowledge_1 : decode c_Wi_acknowledge 1 = .ok (.aload_n 0, 1) := by decide +kernel
theorem d_Wi_acknowledge_2 : decode c_Wi_acknowledge 2 = .ok (.iconst 0, 1) := by decide +kernel
theorem d_Wi_acknowledge_3 : decode c_Wi_acknowledge 3 = .ok (.invokevirtual 69, 3) := by decide +kernel
theorem d_Wi_acknowledge_6 : decode c_Wi_acknowledge 6 = .ok (.isub, 1) := by decide +kernel
theorem d_Wi_acknowledge_7 : decode c_Wi_acknowledge 7 = .ok (.sipush 128, 3) := by decide +kernel
theorem d_Wi_acknowledge_10 : decode c_Wi_acknowledge 10 = .ok (.invokestatic 73, 3) := by decide +kernel
theorem d_Wi_acknowledge_13 : decode c_Wi_acknowledge 13 = .ok (.istore_n 2, 1) := by decide +kernel
theorem d_Wi_acknowledge_14 : decode c_Wi_acknowledge 14 = .ok (.iload_n 2, 1) := by decide +kernel
theorem d_Wi_acknowledge_15 : decode c_Wi_acknowledge 15 = .ok (.aload_n 0, 1) := by decide +kernel
theorem d_Wi_acknowledge_16 : decode c_Wi_acknowledge 16 = .ok (.getfield 16, 3) := by decide +kernel
theorem d_Wi_acknowledge_19 : decode c_Wi_acknowledge 19 = .ok (.getfield 59, 3) := by decide +kernel
theorem d_Wi_acknowledge_22 : decode c_Wi_acknowledge 22 = .ok (.if_icmp .lt 4, 3) := by decide +kernel
theorem d_Wi_acknowledge_25 : decode c_Wi_acknowledge 25 = .ok (.return_, 1) := by decide +kernel
theorem d_Wi_acknowledge_26 : decode c_Wi_acknowledge 26 = .ok (.aload_n 0, 1) := by decide +kernel
theorem d_Wi_acknowledge_27 : decode c_Wi_acknowledge 27 = .ok (.getfield 16, 3) := by decide +kernel
theorem d_Wi_acknowledge_30 : decode c_Wi_acknowledge 30 = .ok (.iload_n 2, 1) := by decide +kernel
theorem d_Wi_acknowledge_31 : decode c_Wi_acknowledge 31 = .ok (.iconst 1, 1) := by decide +kernel
theorem d_Wi_acknowledge_32 : decode c_Wi_acknowledge 32 = .ok (.iadd, 1) := by decide +kernel
theorem d_Wi_acknowledge_33 : decode c_Wi_acknowledge 33 = .ok (.invokevirtual 79, 3) := by decide +kernel
theorem d_Wi_acknowledge_36 : decode c_Wi_acknowledge 36 = .ok (.aload_n 0, 1) := by decide +kernel
theorem d_Wi_acknowledge_37 : decode c_Wi_acknowledge 37 = .ok (.getfield 16, 3) := by decide +kernel
theorem d_Wi_acknowledge_40 : decode c_Wi_acknowledge 40 = .ok (.getfield 59, 3) := by decide +kernel
theorem d_Wi_acknowledge_43 : decode c_Wi_acknowledge 43 = .ok (.ifCond .ne 8, 3) := by decide +kernel
theorem d_Wi_acknowledge_46 : decode c_Wi_acknowledge 46 = .ok (.aload_n 0, 1) := by decide +kernel
theorem d_Wi_acknowledge_47 : decode c_Wi_acknowledge 47 = .ok (.invokevirtual 43, 3) := by decide +kernel
theorem d_Wi_acknowledge_50 : decode c_Wi_acknowledge 50 = .ok (.return_, 1) := by decide +kernel
theorem d_Wi_acknowledge_51 : decode c_Wi_acknowledge 51 = .ok (.aload_n 0, 1) := by decide +kernel
theorem d_Wi_acknowledge_52 : decode c_Wi_acknowledge 52 = .ok (.aload_n 0, 1) := by decide +kernel
theorem d_Wi_acknowledge_53 : decode c_Wi_acknowledge 53 = .ok (.getfield 23, 3) := by decide +kernel
theorem d_Wi_acknowledge_56 : decode c_Wi_acknowledge 56 = .ok (.bipush 20, 2) := by decide +kernel
theorem d_Wi_acknowledge_58 : decode c_Wi_acknowledge 58 = .ok (.invokevirtual 82, 3) := by decide +kernel
theorem d_Wi_acknowledge_61 : decode c_Wi_acknowledge 61 = .ok (.putfield 49, 3) := by decide +kernel
theorem d_Wi_acknowledge_64 : decode c_Wi_acknowledge 64 = .ok (.aload_n 0, 1) := by decide +kernel
theorem d_Wi_acknowledge_65 : decode c_Wi_acknowledge 65 = .ok (.getfield 46, 3) := by decide +kernel
theorem d_Wi_acknowledge_68 : decode c_Wi_acknowledge 68 = .ok (.iconst (-1), 1) := by decide +kernel
theorem d_Wi_acknowledge_69 : decode c_Wi_acknowledge 69 = .ok (.if_icmp .eq 19, 3) := by decide +kernel
theorem d_Wi_acknowledge_72 : decode c_Wi_acknowledge 72 = .ok (.aload_n 0, 1) := by decide +kernel
theorem d_Wi_acknowledge_73 : decode c_Wi_acknowledge 73 = .ok (.iconst 0, 1) := by decide +kernel
theorem d_Wi_acknowledge_74 : decode c_Wi_acknowledge 74 = .ok (.aload_n 0, 1) := by decide +kernel
theorem d_Wi_acknowledge_75 : decode c_Wi_acknowledge 75 = .ok (.getfield 46, 3) := by decide +kernel
theorem d_Wi_acknowledge_78 : decode c_Wi_acknowledge 78 = .ok (.iload_n 2, 1) := by decide +kernel
theorem d_Wi_acknowledge_79 : decode c_Wi_acknowledge 79 = .ok (.isub, 1) := by decide +kernel
theorem d_Wi_acknowledge_80 : decode c_Wi_acknowledge 80 = .ok (.iconst 1, 1) := by decide +kernel
theorem d_Wi_acknowledge_81 : decode c_Wi_acknowledge 81 = .ok (.isub, 1) := by decide +kernel
theorem d_Wi_acknowledge_82 : decode c_Wi_acknowledge 82 = .ok (.invokestatic 87, 3) := by decide +kernel
theorem d_Wi_acknowledge_85 : decode c_Wi_acknowledge 85 = .ok (.putfield 46, 3) := by decide +kernel
theorem d_Wi_acknowledge_88 : decode c_Wi_acknowledge 88 = .ok (.return_, 1) := by decide +kernel
def f_Wi_acknowledge_88 (a : Nat) : sn_M := r_V
set_option maxHeartbeats 4000000 in
set_option maxRecDepth 100000 in
theorem mono_Wi_acknowledge_88 (a : Nat) : sn_Mono (f_Wi_acknowledge_88 a) := sn_Mono.rV
set_option maxHeartbeats 4000000 in
set_option maxRecDepth 100000 in
theorem s_Wi_acknowledge_88 {X : sn_X} (C : sn_Cx X c_Wi_acknowledge "SignalNetwork$Window" none "acknowledge" 3 2 43) (a : Nat) : sn_S X 88 [(0, vA (some a))] [] (f_Wi_acknowledge_88 a) := by
  unfold f_Wi_acknowledge_88
  exact r_vret C d_Wi_acknowledge_88 rfl
def f_Wi_acknowledge (a : Nat) (x1 : Int32) : sn_M := n_n 10 (some a) fun a1 => c_I (f_Wi_numberOf a1 (0 : Int32)) fun v2 => c_I (f_Ma_floorMod (x1 - v2) (128 : Int32)) fun v3 => g_R 10 7 (some a) fun v4 => g_I 6 2 v4 fun v5 => (if v3 < v5 then g_R 10 7 (some a) fun v6 => n_n 6 v6 fun a7 => c_V (f_Qu_drop a7 (v3 + (1 : Int32))) (g_R 10 7 (some a) fun v9 => g_I 6 2 v9 fun v10 => (if ¬ v10 = 0 then g_R 10 0 (some a) fun v11 => n_n 1 v11 fun a12 => c_I (f_Ck_after a12 (20 : Int32)) fun v13 => p_I 10 6 (some a) v13 (g_I 10 5 (some a) fun v14 => (if v14 = (-1 : Int32) then f_Wi_acknowledge_88 a else g_I 10 5 (some a) fun v15 => c_I (f_Ma_max (0 : Int32) ((v15 - v3) - (1 : Int32))) fun v16 => p_I 10 5 (some a) v16 (f_Wi_acknowledge_88 a))) else n_n 10 (some a) fun a17 => c_V (f_Wi_stop a17) (r_V))) else r_V)
set_option maxHeartbeats 4000000 in
set_option maxRecDepth 100000 in
theorem mono_Wi_acknowledge (a : Nat) (x1 : Int32) : sn_Mono (f_Wi_acknowledge a x1) := sn_Mono.nn (fun a1 => sn_Mono.cI (mono_Wi_numberOf a1 (0 : Int32)) (fun v2 => sn_Mono.cI (mono_Ma_floorMod (x1 - v2) (128 : Int32)) (fun v3 => sn_Mono.gR (fun v4 => sn_Mono.gI (fun v5 => sn_Mono.ite (sn_Mono.gR (fun v6 => sn_Mono.nn (fun a7 => sn_Mono.cV (mono_Qu_drop a7 (v3 + (1 : Int32))) (sn_Mono.gR (fun v9 => sn_Mono.gI (fun v10 => sn_Mono.ite (sn_Mono.gR (fun v11 => sn_Mono.nn (fun a12 => sn_Mono.cI (mono_Ck_after a12 (20 : Int32)) (fun v13 => sn_Mono.pI (sn_Mono.gI (fun v14 => sn_Mono.ite (mono_Wi_acknowledge_88 a) (sn_Mono.gI (fun v15 => sn_Mono.cI (mono_Ma_max (0 : Int32) ((v15 - v3) - (1 : Int32))) (fun v16 => sn_Mono.pI (mono_Wi_acknowledge_88 a)))))))))) (sn_Mono.nn (fun a17 => sn_Mono.cV (mono_Wi_stop a17) (sn_Mono.rV))))))))) (sn_Mono.rV))))))
set_option maxHeartbeats 4000000 in
set_option maxRecDepth 100000 in
theorem con_Wi_acknowledge (a : Nat) (x1 : Int32) : sn_Con y_Wi_acknowledge c_Wi_acknowledge 3 none 2 43 [vA (some a), vI x1] (f_Wi_acknowledge a x1) := by
  refine sn_Con.of (by decide +kernel) (by show _ ≤ _; exact Nat.le_of_ble_eq_true rfl) (mono_Wi_acknowledge a x1) (fun X C => ?_)
  show sn_S X 0 [(0, vA (some a)), (1, vI x1)] [] _
  replace C : sn_Cx X c_Wi_acknowledge "SignalNetwork$Window" none "acknowledge" 3 2 43 := C
  unfold f_Wi_acknowledge
  refine r_iload_n (q := 1) (i := 1) (pl := 1) C d_Wi_acknowledge_0 rfl rfl rfl ?_
  refine r_aload_n (q := 2) (i := 0) (pl := 0) C d_Wi_acknowledge_1 rfl rfl rfl ?_
  refine r_iconst (q := 3) (v := 0) C d_Wi_acknowledge_2 rfl (by decide) ?_
  refine r_cvI (q := 6) (As := [vI (0 : Int32)]) (st := [vI x1]) (cy := 9) C d_Wi_acknowledge_3 rfl Y_Wi_numberOf L_Wi_69 I_Wi_numberOf Se_Wi_numberOf rfl (by decide) rfl (Nat.le_of_ble_eq_true rfl) (Nat.le_of_ble_eq_true rfl) (Nat.le_of_ble_eq_true rfl) rfl (fun a1 => con_Wi_numberOf a1 (0 : Int32)) (fun v2 => ?_)
  refine r_isub (q := 7) C d_Wi_acknowledge_6 rfl ?_
  refine r_sipush (q := 10) (v := 128) C d_Wi_acknowledge_7 rfl (by decide) ?_
  refine r_csI (q := 13) (As := [vI (x1 - v2), vI (128 : Int32)]) (st := []) C d_Wi_acknowledge_10 rfl Y_Ma_floorMod L_Wi_73 St_Ma_floorMod rfl (Nat.le_of_ble_eq_true rfl) (Nat.le_of_ble_eq_true rfl) (Nat.le_of_ble_eq_true rfl) rfl (con_Ma_floorMod (x1 - v2) (128 : Int32)) (fun v3 => ?_)
  refine r_istore_n (q := 14) (i := 2) (lv' := [(2, vI v3), (0, vA (some a)), (1, vI x1)]) C d_Wi_acknowledge_13 rfl rfl (by decide) rfl ?_
  refine r_iload_n (q := 15) (i := 2) (pl := 0) C d_Wi_acknowledge_14 rfl rfl rfl ?_
  refine r_aload_n (q := 16) (i := 0) (pl := 1) C d_Wi_acknowledge_15 rfl rfl rfl ?_
  refine r_gR (q := 19) C d_Wi_acknowledge_16 rfl F_Wi_16 rfl (fun v4 => ?_)
  refine r_gI (q := 22) C d_Wi_acknowledge_19 rfl F_Wi_59 rfl (fun v5 => ?_)
  refine r_icmp_lt (tgt := 26) (q := 25) C d_Wi_acknowledge_22 (by decide) rfl ?_ ?_
  · refine r_aload_n (q := 27) (i := 0) (pl := 1) C d_Wi_acknowledge_26 rfl rfl rfl ?_
    refine r_gR (q := 30) C d_Wi_acknowledge_27 rfl F_Wi_16 rfl (fun v6 => ?_)
    refine r_iload_n (q := 31) (i := 2) (pl := 0) C d_Wi_acknowledge_30 rfl rfl rfl ?_
    refine r_iconst (q := 32) (v := 1) C d_Wi_acknowledge_31 rfl (by decide) ?_
    refine r_iadd (q := 33) C d_Wi_acknowledge_32 rfl ?_
    refine r_cvV (q := 36) (As := [vI (v3 + (1 : Int32))]) (st := []) (cy := 5) C d_Wi_acknowledge_33 rfl Y_Qu_drop L_Wi_79 I_Qu_drop Se_Qu_drop rfl (by decide) rfl (Nat.le_of_ble_eq_true rfl) (Nat.le_of_ble_eq_true rfl) (Nat.le_of_ble_eq_true rfl) rfl (fun a7 => con_Qu_drop a7 (v3 + (1 : Int32))) ?_
    refine r_aload_n (q := 37) (i := 0) (pl := 1) C d_Wi_acknowledge_36 rfl rfl rfl ?_
    refine r_gR (q := 40) C d_Wi_acknowledge_37 rfl F_Wi_16 rfl (fun v9 => ?_)
    refine r_gI (q := 43) C d_Wi_acknowledge_40 rfl F_Wi_59 rfl (fun v10 => ?_)
    refine r_if_ne (tgt := 51) (q := 46) C d_Wi_acknowledge_43 (by decide) rfl ?_ ?_
    · refine r_aload_n (q := 52) (i := 0) (pl := 1) C d_Wi_acknowledge_51 rfl rfl rfl ?_
      refine r_aload_n (q := 53) (i := 0) (pl := 1) C d_Wi_acknowledge_52 rfl rfl rfl ?_
      refine r_gR (q := 56) C d_Wi_acknowledge_53 rfl F_Wi_23 rfl (fun v11 => ?_)
      refine r_bipush (q := 58) (v := 20) C d_Wi_acknowledge_56 rfl (by decide) ?_
      refine r_cvI (q := 61) (As := [vI (20 : Int32)]) (st := [vA (some a)]) (cy := 0) C d_Wi_acknowledge_58 rfl Y_Ck_after L_Wi_82 I_Ck_after Se_Ck_after rfl (by decide) rfl (Nat.le_of_ble_eq_true rfl) (Nat.le_of_ble_eq_true rfl) (Nat.le_of_ble_eq_true rfl) rfl (fun a12 => con_Ck_after a12 (20 : Int32)) (fun v13 => ?_)
      refine r_pI (q := 64) C d_Wi_acknowledge_61 rfl F_Wi_49 rfl rfl (Or.inl rfl) ?_
      refine r_aload_n (q := 65) (i := 0) (pl := 1) C d_Wi_acknowledge_64 rfl rfl rfl ?_
      refine r_gI (q := 68) C d_Wi_acknowledge_65 rfl F_Wi_46 rfl (fun v14 => ?_)
      refine r_iconst (q := 69) (v := -1) C d_Wi_acknowledge_68 rfl (by decide) ?_
      refine r_icmp_eq (tgt := 88) (q := 72) C d_Wi_acknowledge_69 (by decide) rfl ?_ ?_
      · refine r_sub (lv' := [(0, vA (some a))]) [1] rfl ?_
        exact s_Wi_acknowledge_88 C a
      · refine r_aload_n (q := 73) (i := 0) (pl := 1) C d_Wi_acknowledge_72 rfl rfl rfl ?_
        refine r_iconst (q := 74) (v := 0) C d_Wi_acknowledge_73 rfl (by decide) ?_
        refine r_aload_n (q := 75) (i := 0) (pl := 1) C d_Wi_acknowledge_74 rfl rfl rfl ?_
        refine r_gI (q := 78) C d_Wi_acknowledge_75 rfl F_Wi_46 rfl (fun v15 => ?_)
        refine r_iload_n (q := 79) (i := 2) (pl := 0) C d_Wi_acknowledge_78 rfl rfl rfl ?_
        refine r_isub (q := 80) C d_Wi_acknowledge_79 rfl ?_
        refine r_iconst (q := 81) (v := 1) C d_Wi_acknowledge_80 rfl (by decide) ?_
        refine r_isub (q := 82) C d_Wi_acknowledge_81 rfl ?_
        refine r_csI (q := 85) (As := [vI (0 : Int32), vI ((v15 - v3) - (1 : Int32))]) (st := [vA (some a)]) C d_Wi_acknowledge_82 rfl Y_Ma_max L_Wi_87 St_Ma_max rfl (Nat.le_of_ble_eq_true rfl) (Nat.le_of_ble_eq_true rfl) (Nat.le_of_ble_eq_true rfl) rfl (con_Ma_max (0 : Int32) ((v15 - v3) - (1 : Int32))) (fun v16 => ?_)
        refine r_pI (q := 88) C d_Wi_acknowledge_85 rfl F_Wi_46 rfl rfl (Or.inl rfl) ?_
        refine r_sub (lv' := [(0, vA (some a))]) [1] rfl ?_
        exact s_Wi_acknowledge_88 C a
    · refine r_aload_n (q := 47) (i := 0) (pl := 1) C d_Wi_acknowledge_46 rfl rfl rfl ?_
      refine r_cvV (q := 50) (As := []) (st := []) (cy := 9) C d_Wi_acknowledge_47 rfl Y_Wi_stop L_Wi_43 I_Wi_stop Se_Wi_stop rfl (by decide) rfl (Nat.le_of_ble_eq_true rfl) (Nat.le_of_ble_eq_true rfl) (Nat.le_of_ble_eq_true rfl) rfl (fun a17 => con_Wi_stop a17) ?_
      exact r_vret C d_Wi_acknowledge_50 rfl
  · exact r_vret C d_Wi_acknowledge_25 rfl
theorem d_Wi_treat_0 : decode c_Wi_treat 0 = .ok (.aload_n 0, 1) := by decide +kernel
theorem d_Wi_treat_1 : decode c_Wi_treat 1 = .ok (.aload_n 1, 1) := by decide +kernel
theorem d_Wi_treat_2 : decode c_Wi_treat 2 = .ok (.getfield 52, 3) := by decide +kernel
theorem d_Wi_treat_5 : decode c_Wi_treat 5 = .ok (.invokevirtual 55, 3) := by decide +kernel
theorem d_Wi_treat_8 : decode c_Wi_treat 8 = .ok (.aload_n 1, 1) := by decide +kernel
theorem d_Wi_treat_9 : decode c_Wi_treat 9 = .ok (.getfield 58, 3) := by decide +kernel
theorem d_Wi_treat_12 : decode c_Wi_treat 12 = .ok (.aload_n 0, 1) := by decide +kernel
theorem d_Wi_treat_13 : decode c_Wi_treat 13 = .ok (.getfield 37, 3) := by decide +kernel
theorem d_Wi_treat_16 : decode c_Wi_treat 16 = .ok (.if_icmp .eq 30, 3) := by decide +kernel
theorem d_Wi_treat_19 : decode c_Wi_treat 19 = .ok (.aload_n 0, 1) := by decide +kernel
theorem d_Wi_treat_20 : decode c_Wi_treat 20 = .ok (.aload_n 1, 1) := by decide +kernel
theorem d_Wi_treat_21 : decode c_Wi_treat 21 = .ok (.getfield 58, 3) := by decide +kernel
theorem d_Wi_treat_24 : decode c_Wi_treat 24 = .ok (.putfield 37, 3) := by decide +kernel
theorem d_Wi_treat_27 : decode c_Wi_treat 27 = .ok (.aload_n 0, 1) := by decide +kernel
theorem d_Wi_treat_28 : decode c_Wi_treat 28 = .ok (.aload_n 0, 1) := by decide +kernel
theorem d_Wi_treat_29 : decode c_Wi_treat 29 = .ok (.getfield 16, 3) := by decide +kernel
theorem d_Wi_treat_32 : decode c_Wi_treat 32 = .ok (.getfield 59, 3) := by decide +kernel
theorem d_Wi_treat_35 : decode c_Wi_treat 35 = .ok (.ifCond .le 7, 3) := by decide +kernel
theorem d_Wi_treat_38 : decode c_Wi_treat 38 = .ok (.iconst 0, 1) := by decide +kernel
theorem d_Wi_treat_39 : decode c_Wi_treat 39 = .ok (.goto 4, 3) := by decide +kernel
theorem d_Wi_treat_42 : decode c_Wi_treat 42 = .ok (.iconst (-1), 1) := by decide +kernel
theorem d_Wi_treat_43 : decode c_Wi_treat 43 = .ok (.putfield 46, 3) := by decide +kernel
theorem d_Wi_treat_46 : decode c_Wi_treat 46 = .ok (.aload_n 1, 1) := by decide +kernel
theorem d_Wi_treat_47 : decode c_Wi_treat 47 = .ok (.getfield 62, 3) := by decide +kernel
theorem d_Wi_treat_50 : decode c_Wi_treat 50 = .ok (.aload_n 0, 1) := by decide +kernel
theorem d_Wi_treat_51 : decode c_Wi_treat 51 = .ok (.getfield 40, 3) := by decide +kernel
theorem d_Wi_treat_54 : decode c_Wi_treat 54 = .ok (.if_icmp .ne 14, 3) := by decide +kernel
theorem d_Wi_treat_57 : decode c_Wi_treat 57 = .ok (.aload_n 1, 1) := by decide +kernel
theorem d_Wi_treat_58 : decode c_Wi_treat 58 = .ok (.getfield 63, 3) := by decide +kernel
theorem d_Wi_treat_61 : decode c_Wi_treat 61 = .ok (.aload_n 0, 1) := by decide +kernel
theorem d_Wi_treat_62 : decode c_Wi_treat 62 = .ok (.getfield 34, 3) := by decide +kernel
theorem d_Wi_treat_65 : decode c_Wi_treat 65 = .ok (.if_icmp .ne 5, 3) := by decide +kernel
theorem d_Wi_treat_68 : decode c_Wi_treat 68 = .ok (.iconst 0, 1) := by decide +kernel
theorem d_Wi_treat_69 : decode c_Wi_treat 69 = .ok (.ireturn, 1) := by decide +kernel
theorem d_Wi_treat_70 : decode c_Wi_treat 70 = .ok (.aload_n 1, 1) := by decide +kernel
theorem d_Wi_treat_71 : decode c_Wi_treat 71 = .ok (.getfield 66, 3) := by decide +kernel
theorem d_Wi_treat_74 : decode c_Wi_treat 74 = .ok (.iconst 5, 1) := by decide +kernel
theorem d_Wi_treat_75 : decode c_Wi_treat 75 = .ok (.if_icmp .ne 30, 3) := by decide +kernel
theorem d_Wi_treat_78 : decode c_Wi_treat 78 = .ok (.aload_n 1, 1) := by decide +kernel
theorem d_Wi_treat_79 : decode c_Wi_treat 79 = .ok (.getfield 63, 3) := by decide +kernel
theorem d_Wi_treat_82 : decode c_Wi_treat 82 = .ok (.aload_n 0, 1) := by decide +kernel
theorem d_Wi_treat_83 : decode c_Wi_treat 83 = .ok (.getfield 34, 3) := by decide +kernel
theorem d_Wi_treat_86 : decode c_Wi_treat 86 = .ok (.iconst 1, 1) := by decide +kernel
theorem d_Wi_treat_87 : decode c_Wi_treat 87 = .ok (.iadd, 1) := by decide +kernel
theorem d_Wi_treat_88 : decode c_Wi_treat 88 = .ok (.sipush 128, 3) := by decide +kernel
theorem d_Wi_treat_91 : decode c_Wi_treat 91 = .ok (.irem, 1) := by decide +kernel
theorem d_Wi_treat_92 : decode c_Wi_treat 92 = .ok (.if_icmp .ne 13, 3) := by decide +kernel
theorem d_Wi_treat_95 : decode c_Wi_treat 95 = .ok (.aload_n 0, 1) := by decide +kernel
theorem d_Wi_treat_96 : decode c_Wi_treat 96 = .ok (.aload_n 1, 1) := by decide +kernel
theorem d_Wi_treat_97 : decode c_Wi_treat 97 = .ok (.getfield 63, 3) := by decide +kernel
theorem d_Wi_treat_100 : decode c_Wi_treat 100 = .ok (.putfield 34, 3) := by decide +kernel
theorem d_Wi_treat_103 : decode c_Wi_treat 103 = .ok (.iconst 1, 1) := by decide +kernel
theorem d_Wi_treat_104 : decode c_Wi_treat 104 = .ok (.ireturn, 1) := by decide +kernel
theorem d_Wi_treat_105 : decode c_Wi_treat 105 = .ok (.aload_n 0, 1) := by decide +kernel
theorem d_Wi_treat_106 : decode c_Wi_treat 106 = .ok (.iconst 1, 1) := by decide +kernel
theorem d_Wi_treat_107 : decode c_Wi_treat 107 = .ok (.aload_n 0, 1) := by decide +kernel
theorem d_Wi_treat_108 : decode c_Wi_treat 108 = .ok (.getfield 40, 3) := by decide +kernel
theorem d_Wi_treat_111 : decode c_Wi_treat 111 = .ok (.isub, 1) := by decide +kernel
theorem d_Wi_treat_112 : decode c_Wi_treat 112 = .ok (.putfield 40, 3) := by decide +kernel
theorem d_Wi_treat_115 : decode c_Wi_treat 115 = .ok (.iconst 0, 1) := by decide +kernel
theorem d_Wi_treat_116 : decode c_Wi_treat 116 = .ok (.ireturn, 1) := by decide +kernel
def f_Wi_treat_68 (a : Nat) : sn_M := r_Z (0 : Int32)
set_option maxHeartbeats 4000000 in
set_option maxRecDepth 100000 in
theorem mono_Wi_treat_68 (a : Nat) : sn_Mono (f_Wi_treat_68 a) := sn_Mono.rZ
set_option maxHeartbeats 4000000 in
set_option maxRecDepth 100000 in
theorem s_Wi_treat_68 {X : sn_X} (C : sn_Cx X c_Wi_treat "SignalNetwork$Window" (some .boolean) "treat" 2 3 65) (a : Nat) : sn_S X 68 [(0, vA (some a))] [] (f_Wi_treat_68 a) := by
  unfold f_Wi_treat_68
  refine r_iconst (q := 69) (v := 0) C d_Wi_treat_68 rfl (by decide) ?_
  exact r_zret C d_Wi_treat_69 rfl
def f_Wi_treat_105 (a : Nat) : sn_M := g_I 10 4 (some a) fun v1 => p_I 10 4 (some a) ((1 : Int32) - v1) (r_Z (0 : Int32))
set_option maxHeartbeats 4000000 in
set_option maxRecDepth 100000 in
theorem mono_Wi_treat_105 (a : Nat) : sn_Mono (f_Wi_treat_105 a) := sn_Mono.gI (fun v1 => sn_Mono.pI (sn_Mono.rZ))
set_option maxHeartbeats 4000000 in
set_option maxRecDepth 100000 in
theorem s_Wi_treat_105 {X : sn_X} (C : sn_Cx X c_Wi_treat "SignalNetwork$Window" (some .boolean) "treat" 2 3 65) (a : Nat) : sn_S X 105 [(0, vA (some a))] [] (f_Wi_treat_105 a) := by
  unfold f_Wi_treat_105
  refine r_aload_n (q := 106) (i := 0) (pl := 0) C d_Wi_treat_105 rfl rfl rfl ?_
  refine r_iconst (q := 107) (v := 1) C d_Wi_treat_106 rfl (by decide) ?_
  refine r_aload_n (q := 108) (i := 0) (pl := 0) C d_Wi_treat_107 rfl rfl rfl ?_
  refine r_gI (q := 111) C d_Wi_treat_108 rfl F_Wi_40 rfl (fun v1 => ?_)
  refine r_isub (q := 112) C d_Wi_treat_111 rfl ?_
  refine r_pI (q := 115) C d_Wi_treat_112 rfl F_Wi_40 rfl rfl (Or.inl rfl) ?_
  refine r_iconst (q := 116) (v := 0) C d_Wi_treat_115 rfl (by decide) ?_
  exact r_zret C d_Wi_treat_116 rfl
def f_Wi_treat_46 (a : Nat) (r1 : Option Nat) : sn_M := g_I 9 2 r1 fun v2 => g_I 10 4 (some a) fun v3 => (if ¬ v2 = v3 then f_Wi_treat_68 a else g_I 9 1 r1 fun v4 => g_I 10 2 (some a) fun v5 => (if ¬ v4 = v5 then g_I 9 0 r1 fun v6 => (if ¬ v6 = (5 : Int32) then f_Wi_treat_105 a else g_I 9 1 r1 fun v7 => g_I 10 2 (some a) fun v8 => (if ¬ v7 = ((v8 + (1 : Int32)) % (128 : Int32)) then f_Wi_treat_105 a else g_I 9 1 r1 fun v9 => p_I 10 2 (some a) v9 (r_Z (1 : Int32)))) else f_Wi_treat_68 a))
set_option maxHeartbeats 4000000 in
set_option maxRecDepth 100000 in
theorem mono_Wi_treat_46 (a : Nat) (r1 : Option Nat) : sn_Mono (f_Wi_treat_46 a r1) := sn_Mono.gI (fun v2 => sn_Mono.gI (fun v3 => sn_Mono.ite (mono_Wi_treat_68 a) (sn_Mono.gI (fun v4 => sn_Mono.gI (fun v5 => sn_Mono.ite (sn_Mono.gI (fun v6 => sn_Mono.ite (mono_Wi_treat_105 a) (sn_Mono.gI (fun v7 => sn_Mono.gI (fun v8 => sn_Mono.ite (mono_Wi_treat_105 a) (sn_Mono.gI (fun v9 => sn_Mono.pI (sn_Mono.rZ)))))))) (mono_Wi_treat_68 a))))))
set_option maxHeartbeats 4000000 in
set_option maxRecDepth 100000 in
theorem s_Wi_treat_46 {X : sn_X} (C : sn_Cx X c_Wi_treat "SignalNetwork$Window" (some .boolean) "treat" 2 3 65) (a : Nat) (r1 : Option Nat) : sn_S X 46 [(0, vA (some a)), (1, vA r1)] [] (f_Wi_treat_46 a r1) := by
  unfold f_Wi_treat_46
  refine r_aload_n (q := 47) (i := 1) (pl := 1) C d_Wi_treat_46 rfl rfl rfl ?_
  refine r_gI (q := 50) C d_Wi_treat_47 rfl F_Wi_62 rfl (fun v2 => ?_)
  refine r_aload_n (q := 51) (i := 0) (pl := 0) C d_Wi_treat_50 rfl rfl rfl ?_
  refine r_gI (q := 54) C d_Wi_treat_51 rfl F_Wi_40 rfl (fun v3 => ?_)
  refine r_icmp_ne (tgt := 68) (q := 57) C d_Wi_treat_54 (by decide) rfl ?_ ?_
  · refine r_sub (lv' := [(0, vA (some a))]) [0] rfl ?_
    exact s_Wi_treat_68 C a
  · refine r_aload_n (q := 58) (i := 1) (pl := 1) C d_Wi_treat_57 rfl rfl rfl ?_
    refine r_gI (q := 61) C d_Wi_treat_58 rfl F_Wi_63 rfl (fun v4 => ?_)
    refine r_aload_n (q := 62) (i := 0) (pl := 0) C d_Wi_treat_61 rfl rfl rfl ?_
    refine r_gI (q := 65) C d_Wi_treat_62 rfl F_Wi_34 rfl (fun v5 => ?_)
    refine r_icmp_ne (tgt := 70) (q := 68) C d_Wi_treat_65 (by decide) rfl ?_ ?_
    · refine r_aload_n (q := 71) (i := 1) (pl := 1) C d_Wi_treat_70 rfl rfl rfl ?_
      refine r_gI (q := 74) C d_Wi_treat_71 rfl F_Wi_66 rfl (fun v6 => ?_)
      refine r_iconst (q := 75) (v := 5) C d_Wi_treat_74 rfl (by decide) ?_
      refine r_icmp_ne (tgt := 105) (q := 78) C d_Wi_treat_75 (by decide) rfl ?_ ?_
      · refine r_sub (lv' := [(0, vA (some a))]) [0] rfl ?_
        exact s_Wi_treat_105 C a
      · refine r_aload_n (q := 79) (i := 1) (pl := 1) C d_Wi_treat_78 rfl rfl rfl ?_
        refine r_gI (q := 82) C d_Wi_treat_79 rfl F_Wi_63 rfl (fun v7 => ?_)
        refine r_aload_n (q := 83) (i := 0) (pl := 0) C d_Wi_treat_82 rfl rfl rfl ?_
        refine r_gI (q := 86) C d_Wi_treat_83 rfl F_Wi_34 rfl (fun v8 => ?_)
        refine r_iconst (q := 87) (v := 1) C d_Wi_treat_86 rfl (by decide) ?_
        refine r_iadd (q := 88) C d_Wi_treat_87 rfl ?_
        refine r_sipush (q := 91) (v := 128) C d_Wi_treat_88 rfl (by decide) ?_
        refine r_iremc (q := 92) C d_Wi_treat_91 rfl (by decide) ?_
        refine r_icmp_ne (tgt := 105) (q := 95) C d_Wi_treat_92 (by decide) rfl ?_ ?_
        · refine r_sub (lv' := [(0, vA (some a))]) [0] rfl ?_
          exact s_Wi_treat_105 C a
        · refine r_aload_n (q := 96) (i := 0) (pl := 0) C d_Wi_treat_95 rfl rfl rfl ?_
          refine r_aload_n (q := 97) (i := 1) (pl := 1) C d_Wi_treat_96 rfl rfl rfl ?_
          refine r_gI (q := 100) C d_Wi_treat_97 rfl F_Wi_63 rfl (fun v9 => ?_)
          refine r_pI (q := 103) C d_Wi_treat_100 rfl F_Wi_34 rfl rfl (Or.inl rfl) ?_
          refine r_iconst (q := 104) (v := 1) C d_Wi_treat_103 rfl (by decide) ?_
          exact r_zret C d_Wi_treat_104 rfl
    · refine r_sub (lv' := [(0, vA (some a))]) [0] rfl ?_
      exact s_Wi_treat_68 C a
def f_Wi_treat_43 (a : Nat) (r1 : Option Nat) (t0 : Option Nat) (t1 : Int32) : sn_M := p_I 10 5 t0 t1 (f_Wi_treat_46 a r1)
set_option maxHeartbeats 4000000 in
set_option maxRecDepth 100000 in
theorem mono_Wi_treat_43 (a : Nat) (r1 : Option Nat) (t0 : Option Nat) (t1 : Int32) : sn_Mono (f_Wi_treat_43 a r1 t0 t1) := sn_Mono.pI (mono_Wi_treat_46 a r1)
set_option maxHeartbeats 4000000 in
set_option maxRecDepth 100000 in
theorem s_Wi_treat_43 {X : sn_X} (C : sn_Cx X c_Wi_treat "SignalNetwork$Window" (some .boolean) "treat" 2 3 65) (a : Nat) (r1 : Option Nat) (t0 : Option Nat) (t1 : Int32) : sn_S X 43 [(0, vA (some a)), (1, vA r1)] [vI t1, vA t0] (f_Wi_treat_43 a r1 t0 t1) := by
  unfold f_Wi_treat_43
  refine r_pI (q := 46) C d_Wi_treat_43 rfl F_Wi_46 rfl rfl (Or.inl rfl) ?_
  exact s_Wi_treat_46 C a r1
def f_Wi_treat (a : Nat) (r1 : Option Nat) : sn_M := g_I 9 3 r1 fun v10 => n_n 10 (some a) fun a11 => c_V (f_Wi_acknowledge a11 v10) (g_I 9 4 r1 fun v13 => g_I 10 3 (some a) fun v14 => (if v13 = v14 then f_Wi_treat_46 a r1 else g_I 9 4 r1 fun v15 => p_I 10 3 (some a) v15 (g_R 10 7 (some a) fun v16 => g_I 6 2 v16 fun v17 => (if v17 ≤ 0 then f_Wi_treat_43 a r1 (some a) (-1 : Int32) else f_Wi_treat_43 a r1 (some a) (0 : Int32)))))
set_option maxHeartbeats 4000000 in
set_option maxRecDepth 100000 in
theorem mono_Wi_treat (a : Nat) (r1 : Option Nat) : sn_Mono (f_Wi_treat a r1) := sn_Mono.gI (fun v10 => sn_Mono.nn (fun a11 => sn_Mono.cV (mono_Wi_acknowledge a11 v10) (sn_Mono.gI (fun v13 => sn_Mono.gI (fun v14 => sn_Mono.ite (mono_Wi_treat_46 a r1) (sn_Mono.gI (fun v15 => sn_Mono.pI (sn_Mono.gR (fun v16 => sn_Mono.gI (fun v17 => sn_Mono.ite (mono_Wi_treat_43 a r1 (some a) (-1 : Int32)) (mono_Wi_treat_43 a r1 (some a) (0 : Int32))))))))))))
set_option maxHeartbeats 4000000 in
set_option maxRecDepth 100000 in
theorem con_Wi_treat (a : Nat) (r1 : Option Nat) : sn_Con y_Wi_treat c_Wi_treat 2 (some .boolean) 3 65 [vA (some a), vA r1] (f_Wi_treat a r1) := by
  refine sn_Con.of (by decide +kernel) (by show _ ≤ _; exact Nat.le_of_ble_eq_true rfl) (mono_Wi_treat a r1) (fun X C => ?_)
  show sn_S X 0 [(0, vA (some a)), (1, vA r1)] [] _
  replace C : sn_Cx X c_Wi_treat "SignalNetwork$Window" (some .boolean) "treat" 2 3 65 := C
  unfold f_Wi_treat
  refine r_aload_n (q := 1) (i := 0) (pl := 0) C d_Wi_treat_0 rfl rfl rfl ?_
  refine r_aload_n (q := 2) (i := 1) (pl := 1) C d_Wi_treat_1 rfl rfl rfl ?_
  refine r_gI (q := 5) C d_Wi_treat_2 rfl F_Wi_52 rfl (fun v10 => ?_)
  refine r_cvV (q := 8) (As := [vI v10]) (st := []) (cy := 9) C d_Wi_treat_5 rfl Y_Wi_acknowledge L_Wi_55 I_Wi_acknowledge Se_Wi_acknowledge rfl (by decide) rfl (Nat.le_of_ble_eq_true rfl) (Nat.le_of_ble_eq_true rfl) (Nat.le_of_ble_eq_true rfl) rfl (fun a11 => con_Wi_acknowledge a11 v10) ?_
  refine r_aload_n (q := 9) (i := 1) (pl := 1) C d_Wi_treat_8 rfl rfl rfl ?_
  refine r_gI (q := 12) C d_Wi_treat_9 rfl F_Wi_58 rfl (fun v13 => ?_)
  refine r_aload_n (q := 13) (i := 0) (pl := 0) C d_Wi_treat_12 rfl rfl rfl ?_
  refine r_gI (q := 16) C d_Wi_treat_13 rfl F_Wi_37 rfl (fun v14 => ?_)
  refine r_icmp_eq (tgt := 46) (q := 19) C d_Wi_treat_16 (by decide) rfl ?_ ?_
  · exact s_Wi_treat_46 C a r1
  · refine r_aload_n (q := 20) (i := 0) (pl := 0) C d_Wi_treat_19 rfl rfl rfl ?_
    refine r_aload_n (q := 21) (i := 1) (pl := 1) C d_Wi_treat_20 rfl rfl rfl ?_
    refine r_gI (q := 24) C d_Wi_treat_21 rfl F_Wi_58 rfl (fun v15 => ?_)
    refine r_pI (q := 27) C d_Wi_treat_24 rfl F_Wi_37 rfl rfl (Or.inl rfl) ?_
    refine r_aload_n (q := 28) (i := 0) (pl := 0) C d_Wi_treat_27 rfl rfl rfl ?_
    refine r_aload_n (q := 29) (i := 0) (pl := 0) C d_Wi_treat_28 rfl rfl rfl ?_
    refine r_gR (q := 32) C d_Wi_treat_29 rfl F_Wi_16 rfl (fun v16 => ?_)
    refine r_gI (q := 35) C d_Wi_treat_32 rfl F_Wi_59 rfl (fun v17 => ?_)
    refine r_if_le (tgt := 42) (q := 38) C d_Wi_treat_35 (by decide) rfl ?_ ?_
    · refine r_iconst (q := 43) (v := -1) C d_Wi_treat_42 rfl (by decide) ?_
      exact s_Wi_treat_43 C a r1 (some a) (-1 : Int32)
    · refine r_iconst (q := 39) (v := 0) C d_Wi_treat_38 rfl (by decide) ?_
      refine r_goto (tgt := 43) C d_Wi_treat_39 (by decide) ?_
      exact s_Wi_treat_43 C a r1 (some a) (0 : Int32)
