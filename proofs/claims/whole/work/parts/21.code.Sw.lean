theorem d_Sw_init_0 : decode c_Sw_init 0 = .ok (.aload_n 0, 1) := by decide +kernel
theorem d_Sw_init_1 : decode c_Sw_init 1 = .ok (.invokespecial 3, 3) := by decide +kernel
theorem d_Sw_init_4 : decode c_Sw_init 4 = .ok (.aload_n 0, 1) := by decide +kernel
theorem d_Sw_init_5 : decode c_Sw_init 5 = .ok (.bipush 24, 2) := by decide +kernel
theorem d_Sw_init_7 : decode c_Sw_init 7 = .ok (.anewarray 9, 3) := by decide +kernel
theorem d_Sw_init_10 : decode c_Sw_init 10 = .ok (.putfield 11, 3) := by decide +kernel
theorem d_Sw_init_13 : decode c_Sw_init 13 = .ok (.aload_n 0, 1) := by decide +kernel
theorem d_Sw_init_14 : decode c_Sw_init 14 = .ok (.sipush 144, 3) := by decide +kernel
theorem d_Sw_init_17 : decode c_Sw_init 17 = .ok (.anewarray 9, 3) := by decide +kernel
theorem d_Sw_init_20 : decode c_Sw_init 20 = .ok (.putfield 17, 3) := by decide +kernel
theorem d_Sw_init_23 : decode c_Sw_init 23 = .ok (.aload_n 0, 1) := by decide +kernel
theorem d_Sw_init_24 : decode c_Sw_init 24 = .ok (.new 20, 3) := by decide +kernel
theorem d_Sw_init_27 : decode c_Sw_init 27 = .ok (.dup, 1) := by decide +kernel
theorem d_Sw_init_28 : decode c_Sw_init 28 = .ok (.bipush 16, 2) := by decide +kernel
theorem d_Sw_init_30 : decode c_Sw_init 30 = .ok (.invokespecial 22, 3) := by decide +kernel
theorem d_Sw_init_33 : decode c_Sw_init 33 = .ok (.putfield 25, 3) := by decide +kernel
theorem d_Sw_init_36 : decode c_Sw_init 36 = .ok (.aload_n 0, 1) := by decide +kernel
theorem d_Sw_init_37 : decode c_Sw_init 37 = .ok (.aload_n 1, 1) := by decide +kernel
theorem d_Sw_init_38 : decode c_Sw_init 38 = .ok (.putfield 29, 3) := by decide +kernel
theorem d_Sw_init_41 : decode c_Sw_init 41 = .ok (.aload_n 0, 1) := by decide +kernel
theorem d_Sw_init_42 : decode c_Sw_init 42 = .ok (.aload_n 2, 1) := by decide +kernel
theorem d_Sw_init_43 : decode c_Sw_init 43 = .ok (.putfield 33, 3) := by decide +kernel
theorem d_Sw_init_46 : decode c_Sw_init 46 = .ok (.iconst 0, 1) := by decide +kernel
theorem d_Sw_init_47 : decode c_Sw_init 47 = .ok (.istore_n 3, 1) := by decide +kernel
theorem d_Sw_init_48 : decode c_Sw_init 48 = .ok (.iload_n 3, 1) := by decide +kernel
theorem d_Sw_init_49 : decode c_Sw_init 49 = .ok (.aload_n 0, 1) := by decide +kernel
theorem d_Sw_init_50 : decode c_Sw_init 50 = .ok (.getfield 11, 3) := by decide +kernel
theorem d_Sw_init_53 : decode c_Sw_init 53 = .ok (.arraylength, 1) := by decide +kernel
theorem d_Sw_init_54 : decode c_Sw_init 54 = .ok (.if_icmp .ge 29, 3) := by decide +kernel
theorem d_Sw_init_57 : decode c_Sw_init 57 = .ok (.aload_n 0, 1) := by decide +kernel
theorem d_Sw_init_58 : decode c_Sw_init 58 = .ok (.getfield 11, 3) := by decide +kernel
theorem d_Sw_init_61 : decode c_Sw_init 61 = .ok (.iload_n 3, 1) := by decide +kernel
theorem d_Sw_init_62 : decode c_Sw_init 62 = .ok (.new 9, 3) := by decide +kernel
theorem d_Sw_init_65 : decode c_Sw_init 65 = .ok (.dup, 1) := by decide +kernel
theorem d_Sw_init_66 : decode c_Sw_init 66 = .ok (.iload_n 3, 1) := by decide +kernel
theorem d_Sw_init_67 : decode c_Sw_init 67 = .ok (.iconst 4, 1) := by decide +kernel
theorem d_Sw_init_68 : decode c_Sw_init 68 = .ok (.idiv, 1) := by decide +kernel
theorem d_Sw_init_69 : decode c_Sw_init 69 = .ok (.iconst (-1), 1) := by decide +kernel
theorem d_Sw_init_70 : decode c_Sw_init 70 = .ok (.iload_n 3, 1) := by decide +kernel
theorem d_Sw_init_71 : decode c_Sw_init 71 = .ok (.iconst 4, 1) := by decide +kernel
theorem d_Sw_init_72 : decode c_Sw_init 72 = .ok (.irem, 1) := by decide +kernel
theorem d_Sw_init_73 : decode c_Sw_init 73 = .ok (.invokespecial 37, 3) := by decide +kernel
theorem d_Sw_init_76 : decode c_Sw_init 76 = .ok (.aastore, 1) := by decide +kernel
theorem d_Sw_init_77 : decode c_Sw_init 77 = .ok (.iinc 3 1, 3) := by decide +kernel
theorem d_Sw_init_80 : decode c_Sw_init 80 = .ok (.goto (-32), 3) := by decide +kernel
theorem d_Sw_init_83 : decode c_Sw_init 83 = .ok (.return_, 1) := by decide +kernel
def f_Sw_init_48 (a : Nat) : Nat → Int32 → sn_M
  | 0, _ => r_0
  | n + 1, x3 => g_R 7 2 (some a) fun v1 => a_len 26 v1 fun v2 => (if v2 ≤ x3 then r_V else g_R 7 2 (some a) fun v3 => n_O 4 12 fun v4 => n_n 4 v4 fun o5 => c_V (f_Lg_init o5 (x3 / (4 : Int32)) (-1 : Int32) (x3 % (4 : Int32))) (b_R 26 4 v3 x3 v4 (f_Sw_init_48 a n (x3 + (1 : Int32)))))
set_option maxHeartbeats 4000000 in
set_option maxRecDepth 100000 in
theorem mono_Sw_init_48 (a : Nat) : ∀ (n : Nat) (x3 : Int32), sn_Mono (f_Sw_init_48 a n x3)
  | 0, _ => sn_Mono.r0
  | n + 1, x3 => sn_Mono.gR (fun v1 => sn_Mono.alen (fun v2 => sn_Mono.ite (sn_Mono.rV) (sn_Mono.gR (fun v3 => sn_Mono.nO (fun v4 => sn_Mono.nn (fun o5 => sn_Mono.cV (mono_Lg_init o5 (x3 / (4 : Int32)) (-1 : Int32) (x3 % (4 : Int32))) (sn_Mono.bR (mono_Sw_init_48 a n (x3 + (1 : Int32))))))))))
set_option maxHeartbeats 4000000 in
set_option maxRecDepth 100000 in
theorem s_Sw_init_48 {X : sn_X} (C : sn_Cx X c_Sw_init "SignalNetwork$Switchboard" none "<init>" 4 2 42) (a : Nat) (n : Nat) : ∀ (x3 : Int32), sn_S X 48 [(0, vA (some a)), (3, vI x3)] [] (f_Sw_init_48 a n x3) := by
  induction n with
  | zero => intro x3; exact sn_S.zero
  | succ n ih =>
    intro x3
    unfold f_Sw_init_48
    refine r_iload_n (q := 49) (i := 3) (pl := 1) C d_Sw_init_48 rfl rfl rfl ?_
    refine r_aload_n (q := 50) (i := 0) (pl := 0) C d_Sw_init_49 rfl rfl rfl ?_
    refine r_gR (q := 53) C d_Sw_init_50 rfl F_Sw_11 rfl (fun v1 => ?_)
    refine r_alen (q := 54) (kd := 26) (tyi := 5) C (by decide) (fun _ => rfl) d_Sw_init_53 rfl (fun v2 => ?_)
    refine r_icmp_ge (tgt := 83) (q := 57) C d_Sw_init_54 (by decide) rfl ?_ ?_
    · exact r_vret C d_Sw_init_83 rfl
    · refine r_aload_n (q := 58) (i := 0) (pl := 0) C d_Sw_init_57 rfl rfl rfl ?_
      refine r_gR (q := 61) C d_Sw_init_58 rfl F_Sw_11 rfl (fun v3 => ?_)
      refine r_iload_n (q := 62) (i := 3) (pl := 1) C d_Sw_init_61 rfl rfl rfl ?_
      refine r_new (q := 65) C d_Sw_init_62 rfl CF3 C_Sw_9 In_Lg Ii_Lg (fun v4 => ?_)
      refine r_dup (q := 66) C d_Sw_init_65 rfl rfl ?_
      refine r_iload_n (q := 67) (i := 3) (pl := 1) C d_Sw_init_66 rfl rfl rfl ?_
      refine r_iconst (q := 68) (v := 4) C d_Sw_init_67 rfl (by decide) ?_
      refine r_idivc (q := 69) C d_Sw_init_68 rfl (by decide) ?_
      refine r_iconst (q := 70) (v := -1) C d_Sw_init_69 rfl (by decide) ?_
      refine r_iload_n (q := 71) (i := 3) (pl := 1) C d_Sw_init_70 rfl rfl rfl ?_
      refine r_iconst (q := 72) (v := 4) C d_Sw_init_71 rfl (by decide) ?_
      refine r_iremc (q := 73) C d_Sw_init_72 rfl (by decide) ?_
      refine r_ciV (q := 76) (As := [vI (x3 / (4 : Int32)), vI (-1 : Int32), vI (x3 % (4 : Int32))]) (st := [vA v4, vI x3, vA v3]) (cy := 3) C d_Sw_init_73 rfl Y_Lg_init L_Sw_37 I_Lg_init rfl rfl rfl (Nat.le_of_ble_eq_true rfl) (Nat.le_of_ble_eq_true rfl) (Nat.le_of_ble_eq_true rfl) rfl (fun o5 => con_Lg_init o5 (x3 / (4 : Int32)) (-1 : Int32) (x3 % (4 : Int32))) ?_
      refine r_bR (q := 77) (kd := 26) (tyi := 5) (c1 := 3) C (by decide) (fun _ => rfl) rfl (by decide) d_Sw_init_76 rfl ?_
      refine r_iinc (q := 80) (pl := 1) (v := x3 + (1 : Int32)) (lv' := [(3, vI (x3 + (1 : Int32))), (0, vA (some a))]) C d_Sw_init_77 rfl rfl rfl (by decide) rfl ?_
      refine r_goto (tgt := 48) C d_Sw_init_80 (by decide) ?_
      refine r_sub (lv' := [(0, vA (some a)), (3, vI (x3 + (1 : Int32)))]) [1, 0] rfl ?_
      exact ih (x3 + (1 : Int32))
def f_Sw_init (a : Nat) (r1 : Option Nat) (r2 : Option Nat) : sn_M := n_A 26 (24 : Int32) fun v6 => p_R 7 2 (some a) v6 (n_A 26 (144 : Int32) fun v7 => p_R 7 3 (some a) v7 (n_O 6 3 fun v8 => n_n 6 v8 fun o9 => c_V (f_Qu_init o9 (16 : Int32)) (p_R 7 4 (some a) v8 (p_R 7 0 (some a) r1 (p_R 7 1 (some a) r2 (f_Sw_init_48 a sn_fuel (0 : Int32)))))))
set_option maxHeartbeats 4000000 in
set_option maxRecDepth 100000 in
theorem mono_Sw_init (a : Nat) (r1 : Option Nat) (r2 : Option Nat) : sn_Mono (f_Sw_init a r1 r2) := sn_Mono.nA (fun v6 => sn_Mono.pR (sn_Mono.nA (fun v7 => sn_Mono.pR (sn_Mono.nO (fun v8 => sn_Mono.nn (fun o9 => sn_Mono.cV (mono_Qu_init o9 (16 : Int32)) (sn_Mono.pR (sn_Mono.pR (sn_Mono.pR (mono_Sw_init_48 a sn_fuel (0 : Int32)))))))))))
set_option maxHeartbeats 4000000 in
set_option maxRecDepth 100000 in
theorem con_Sw_init (a : Nat) (r1 : Option Nat) (r2 : Option Nat) : sn_Con y_Sw_init c_Sw_init 4 none 2 42 [vA (some a), vA r1, vA r2] (f_Sw_init a r1 r2) := by
  refine sn_Con.of (by decide +kernel) (by show _ ≤ _; exact Nat.le_of_ble_eq_true rfl) (mono_Sw_init a r1 r2) (fun X C => ?_)
  show sn_S X 0 [(0, vA (some a)), (1, vA r1), (2, vA r2)] [] _
  replace C : sn_Cx X c_Sw_init "SignalNetwork$Switchboard" none "<init>" 4 2 42 := C
  unfold f_Sw_init
  refine r_aload_n (q := 1) (i := 0) (pl := 0) C d_Sw_init_0 rfl rfl rfl ?_
  refine r_objInit (q := 4) C d_Sw_init_1 rfl LO_Sw_3 W_oi W_oc (by decide) (by decide) a rfl ?_
  refine r_aload_n (q := 5) (i := 0) (pl := 0) C d_Sw_init_4 rfl rfl rfl ?_
  refine r_bipush (q := 7) (v := 24) C d_Sw_init_5 rfl (by decide) ?_
  refine r_anewa (q := 10) (kd := 26) (tyi := 5) C (by decide) (fun _ => rfl) AO_26 C_Sw_9 d_Sw_init_7 rfl (fun v6 => ?_)
  refine r_pR (q := 13) C d_Sw_init_10 rfl F_Sw_11 rfl (Or.inr ⟨_, rfl⟩) (Or.inr ⟨rfl, _, _, rfl⟩) ?_
  refine r_aload_n (q := 14) (i := 0) (pl := 0) C d_Sw_init_13 rfl rfl rfl ?_
  refine r_sipush (q := 17) (v := 144) C d_Sw_init_14 rfl (by decide) ?_
  refine r_anewa (q := 20) (kd := 26) (tyi := 5) C (by decide) (fun _ => rfl) AO_26 C_Sw_9 d_Sw_init_17 rfl (fun v7 => ?_)
  refine r_pR (q := 23) C d_Sw_init_20 rfl F_Sw_17 rfl (Or.inr ⟨_, rfl⟩) (Or.inr ⟨rfl, _, _, rfl⟩) ?_
  refine r_aload_n (q := 24) (i := 0) (pl := 0) C d_Sw_init_23 rfl rfl rfl ?_
  refine r_new (q := 27) C d_Sw_init_24 rfl CF6 C_Sw_20 In_Qu Ii_Qu (fun v8 => ?_)
  refine r_dup (q := 28) C d_Sw_init_27 rfl rfl ?_
  refine r_bipush (q := 30) (v := 16) C d_Sw_init_28 rfl (by decide) ?_
  refine r_ciV (q := 33) (As := [vI (16 : Int32)]) (st := [vA v8, vA (some a)]) (cy := 5) C d_Sw_init_30 rfl Y_Qu_init L_Sw_22 I_Qu_init rfl rfl rfl (Nat.le_of_ble_eq_true rfl) (Nat.le_of_ble_eq_true rfl) (Nat.le_of_ble_eq_true rfl) rfl (fun o9 => con_Qu_init o9 (16 : Int32)) ?_
  refine r_pR (q := 36) C d_Sw_init_33 rfl F_Sw_25 rfl (Or.inl ⟨_, rfl⟩) (Or.inr ⟨rfl, _, _, rfl⟩) ?_
  refine r_aload_n (q := 37) (i := 0) (pl := 0) C d_Sw_init_36 rfl rfl rfl ?_
  refine r_aload_n (q := 38) (i := 1) (pl := 1) C d_Sw_init_37 rfl rfl rfl ?_
  refine r_pR (q := 41) C d_Sw_init_38 rfl F_Sw_29 rfl (Or.inl ⟨_, rfl⟩) (Or.inr ⟨rfl, _, _, rfl⟩) ?_
  refine r_aload_n (q := 42) (i := 0) (pl := 0) C d_Sw_init_41 rfl rfl rfl ?_
  refine r_aload_n (q := 43) (i := 2) (pl := 2) C d_Sw_init_42 rfl rfl rfl ?_
  refine r_pR (q := 46) C d_Sw_init_43 rfl F_Sw_33 rfl (Or.inl ⟨_, rfl⟩) (Or.inr ⟨rfl, _, _, rfl⟩) ?_
  refine r_iconst (q := 47) (v := 0) C d_Sw_init_46 rfl (by decide) ?_
  refine r_istore_n (q := 48) (i := 3) (lv' := [(3, vI (0 : Int32)), (0, vA (some a)), (1, vA r1), (2, vA r2)]) C d_Sw_init_47 rfl rfl (by decide) rfl ?_
  refine r_sub (lv' := [(0, vA (some a)), (3, vI (0 : Int32))]) [1, 0] rfl ?_
  exact s_Sw_init_48 C a sn_fuel (0 : Int32)
theorem d_Sw_addCircuit_0 : decode c_Sw_addCircuit 0 = .ok (.iload_n 1, 1) := by decide +kernel
theorem d_Sw_addCircuit_1 : decode c_Sw_addCircuit 1 = .ok (.bipush 6, 2) := by decide +kernel
theorem d_Sw_addCircuit_3 : decode c_Sw_addCircuit 3 = .ok (.imul, 1) := by decide +kernel
theorem d_Sw_addCircuit_4 : decode c_Sw_addCircuit 4 = .ok (.iload_n 2, 1) := by decide +kernel
theorem d_Sw_addCircuit_5 : decode c_Sw_addCircuit 5 = .ok (.iadd, 1) := by decide +kernel
theorem d_Sw_addCircuit_6 : decode c_Sw_addCircuit 6 = .ok (.iconst 4, 1) := by decide +kernel
theorem d_Sw_addCircuit_7 : decode c_Sw_addCircuit 7 = .ok (.imul, 1) := by decide +kernel
theorem d_Sw_addCircuit_8 : decode c_Sw_addCircuit 8 = .ok (.iload_n 3, 1) := by decide +kernel
theorem d_Sw_addCircuit_9 : decode c_Sw_addCircuit 9 = .ok (.iadd, 1) := by decide +kernel
theorem d_Sw_addCircuit_10 : decode c_Sw_addCircuit 10 = .ok (.istore 4, 2) := by decide +kernel
theorem d_Sw_addCircuit_12 : decode c_Sw_addCircuit 12 = .ok (.aload_n 0, 1) := by decide +kernel
theorem d_Sw_addCircuit_13 : decode c_Sw_addCircuit 13 = .ok (.getfield 17, 3) := by decide +kernel
theorem d_Sw_addCircuit_16 : decode c_Sw_addCircuit 16 = .ok (.iload 4, 2) := by decide +kernel
theorem d_Sw_addCircuit_18 : decode c_Sw_addCircuit 18 = .ok (.aaload, 1) := by decide +kernel
theorem d_Sw_addCircuit_19 : decode c_Sw_addCircuit 19 = .ok (.ifnonnull 20, 3) := by decide +kernel
theorem d_Sw_addCircuit_22 : decode c_Sw_addCircuit 22 = .ok (.aload_n 0, 1) := by decide +kernel
theorem d_Sw_addCircuit_23 : decode c_Sw_addCircuit 23 = .ok (.getfield 17, 3) := by decide +kernel
theorem d_Sw_addCircuit_26 : decode c_Sw_addCircuit 26 = .ok (.iload 4, 2) := by decide +kernel
theorem d_Sw_addCircuit_28 : decode c_Sw_addCircuit 28 = .ok (.new 9, 3) := by decide +kernel
theorem d_Sw_addCircuit_31 : decode c_Sw_addCircuit 31 = .ok (.dup, 1) := by decide +kernel
theorem d_Sw_addCircuit_32 : decode c_Sw_addCircuit 32 = .ok (.iload_n 1, 1) := by decide +kernel
theorem d_Sw_addCircuit_33 : decode c_Sw_addCircuit 33 = .ok (.iload_n 2, 1) := by decide +kernel
theorem d_Sw_addCircuit_34 : decode c_Sw_addCircuit 34 = .ok (.iload_n 3, 1) := by decide +kernel
theorem d_Sw_addCircuit_35 : decode c_Sw_addCircuit 35 = .ok (.invokespecial 37, 3) := by decide +kernel
theorem d_Sw_addCircuit_38 : decode c_Sw_addCircuit 38 = .ok (.aastore, 1) := by decide +kernel
theorem d_Sw_addCircuit_39 : decode c_Sw_addCircuit 39 = .ok (.return_, 1) := by decide +kernel
def f_Sw_addCircuit_39 (a : Nat) : sn_M := r_V
set_option maxHeartbeats 4000000 in
set_option maxRecDepth 100000 in
theorem mono_Sw_addCircuit_39 (a : Nat) : sn_Mono (f_Sw_addCircuit_39 a) := sn_Mono.rV
set_option maxHeartbeats 4000000 in
set_option maxRecDepth 100000 in
theorem s_Sw_addCircuit_39 {X : sn_X} (C : sn_Cx X c_Sw_addCircuit "SignalNetwork$Switchboard" none "addCircuit" 5 2 35) (a : Nat) : sn_S X 39 [(0, vA (some a))] [] (f_Sw_addCircuit_39 a) := by
  unfold f_Sw_addCircuit_39
  exact r_vret C d_Sw_addCircuit_39 rfl
def f_Sw_addCircuit (a : Nat) (x1 : Int32) (x2 : Int32) (x3 : Int32) : sn_M := n_I (((((x1 * (6 : Int32)) + x2) * (4 : Int32)) + x3)) fun n1 => g_R 7 3 (some a) fun v2 => a_R 26 v2 n1 fun v3 => (if ¬ v3 = none then f_Sw_addCircuit_39 a else g_R 7 3 (some a) fun v4 => n_O 4 12 fun v5 => n_n 4 v5 fun o6 => c_V (f_Lg_init o6 x1 x2 x3) (b_R 26 4 v4 n1 v5 (f_Sw_addCircuit_39 a)))
set_option maxHeartbeats 4000000 in
set_option maxRecDepth 100000 in
theorem mono_Sw_addCircuit (a : Nat) (x1 : Int32) (x2 : Int32) (x3 : Int32) : sn_Mono (f_Sw_addCircuit a x1 x2 x3) := sn_Mono.nI (fun n1 => sn_Mono.gR (fun v2 => sn_Mono.aR (fun v3 => sn_Mono.ite (mono_Sw_addCircuit_39 a) (sn_Mono.gR (fun v4 => sn_Mono.nO (fun v5 => sn_Mono.nn (fun o6 => sn_Mono.cV (mono_Lg_init o6 x1 x2 x3) (sn_Mono.bR (mono_Sw_addCircuit_39 a)))))))))
set_option maxHeartbeats 4000000 in
set_option maxRecDepth 100000 in
theorem con_Sw_addCircuit (a : Nat) (x1 : Int32) (x2 : Int32) (x3 : Int32) : sn_Con y_Sw_addCircuit c_Sw_addCircuit 5 none 2 35 [vA (some a), vI x1, vI x2, vI x3] (f_Sw_addCircuit a x1 x2 x3) := by
  refine sn_Con.of (by decide +kernel) (by show _ ≤ _; exact Nat.le_of_ble_eq_true rfl) (mono_Sw_addCircuit a x1 x2 x3) (fun X C => ?_)
  show sn_S X 0 [(0, vA (some a)), (1, vI x1), (2, vI x2), (3, vI x3)] [] _
  replace C : sn_Cx X c_Sw_addCircuit "SignalNetwork$Switchboard" none "addCircuit" 5 2 35 := C
  unfold f_Sw_addCircuit
  refine r_iload_n (q := 1) (i := 1) (pl := 1) C d_Sw_addCircuit_0 rfl rfl rfl ?_
  refine r_bipush (q := 3) (v := 6) C d_Sw_addCircuit_1 rfl (by decide) ?_
  refine r_imul (q := 4) C d_Sw_addCircuit_3 rfl ?_
  refine r_iload_n (q := 5) (i := 2) (pl := 2) C d_Sw_addCircuit_4 rfl rfl rfl ?_
  refine r_iadd (q := 6) C d_Sw_addCircuit_5 rfl ?_
  refine r_iconst (q := 7) (v := 4) C d_Sw_addCircuit_6 rfl (by decide) ?_
  refine r_imul (q := 8) C d_Sw_addCircuit_7 rfl ?_
  refine r_iload_n (q := 9) (i := 3) (pl := 3) C d_Sw_addCircuit_8 rfl rfl rfl ?_
  refine r_iadd (q := 10) C d_Sw_addCircuit_9 rfl ?_
  refine r_nI (fun n1 => ?_)
  refine r_istore (q := 12) (i := 4) (lv' := [(4, vI n1), (0, vA (some a)), (1, vI x1), (2, vI x2), (3, vI x3)]) C d_Sw_addCircuit_10 rfl (by decide) rfl ?_
  refine r_aload_n (q := 13) (i := 0) (pl := 1) C d_Sw_addCircuit_12 rfl rfl rfl ?_
  refine r_gR (q := 16) C d_Sw_addCircuit_13 rfl F_Sw_17 rfl (fun v2 => ?_)
  refine r_iload (q := 18) (i := 4) (pl := 0) C d_Sw_addCircuit_16 rfl rfl ?_
  refine r_aR (q := 19) (kd := 26) (tyi := 5) C (by decide) (fun _ => rfl) d_Sw_addCircuit_18 rfl (fun v3 => ?_)
  refine r_ifnonnull (tgt := 39) (q := 22) C d_Sw_addCircuit_19 (by decide) rfl ?_ ?_
  · refine r_sub (lv' := [(0, vA (some a))]) [1] rfl ?_
    exact s_Sw_addCircuit_39 C a
  · refine r_aload_n (q := 23) (i := 0) (pl := 1) C d_Sw_addCircuit_22 rfl rfl rfl ?_
    refine r_gR (q := 26) C d_Sw_addCircuit_23 rfl F_Sw_17 rfl (fun v4 => ?_)
    refine r_iload (q := 28) (i := 4) (pl := 0) C d_Sw_addCircuit_26 rfl rfl ?_
    refine r_new (q := 31) C d_Sw_addCircuit_28 rfl CF3 C_Sw_9 In_Lg Ii_Lg (fun v5 => ?_)
    refine r_dup (q := 32) C d_Sw_addCircuit_31 rfl rfl ?_
    refine r_iload_n (q := 33) (i := 1) (pl := 2) C d_Sw_addCircuit_32 rfl rfl rfl ?_
    refine r_iload_n (q := 34) (i := 2) (pl := 3) C d_Sw_addCircuit_33 rfl rfl rfl ?_
    refine r_iload_n (q := 35) (i := 3) (pl := 4) C d_Sw_addCircuit_34 rfl rfl rfl ?_
    refine r_ciV (q := 38) (As := [vI x1, vI x2, vI x3]) (st := [vA v5, vI n1, vA v4]) (cy := 3) C d_Sw_addCircuit_35 rfl Y_Lg_init L_Sw_37 I_Lg_init rfl rfl rfl (Nat.le_of_ble_eq_true rfl) (Nat.le_of_ble_eq_true rfl) (Nat.le_of_ble_eq_true rfl) rfl (fun o6 => con_Lg_init o6 x1 x2 x3) ?_
    refine r_bR (q := 39) (kd := 26) (tyi := 5) (c1 := 3) C (by decide) (fun _ => rfl) rfl (by decide) d_Sw_addCircuit_38 rfl ?_
    refine r_sub (lv' := [(0, vA (some a))]) [1] rfl ?_
    exact s_Sw_addCircuit_39 C a
theorem d_Sw_addCircuits_0 : decode c_Sw_addCircuits 0 = .ok (.iconst 0, 1) := by decide +kernel
theorem d_Sw_addCircuits_1 : decode c_Sw_addCircuits 1 = .ok (.istore_n 3, 1) := by decide +kernel
theorem d_Sw_addCircuits_2 : decode c_Sw_addCircuits 2 = .ok (.iload_n 3, 1) := by decide +kernel
theorem d_Sw_addCircuits_3 : decode c_Sw_addCircuits 3 = .ok (.iconst 4, 1) := by decide +kernel
theorem d_Sw_addCircuits_4 : decode c_Sw_addCircuits 4 = .ok (.if_icmp .ge 23, 3) := by decide +kernel
theorem d_Sw_addCircuits_7 : decode c_Sw_addCircuits 7 = .ok (.aload_n 0, 1) := by decide +kernel
theorem d_Sw_addCircuits_8 : decode c_Sw_addCircuits 8 = .ok (.iload_n 1, 1) := by decide +kernel
theorem d_Sw_addCircuits_9 : decode c_Sw_addCircuits 9 = .ok (.iload_n 2, 1) := by decide +kernel
theorem d_Sw_addCircuits_10 : decode c_Sw_addCircuits 10 = .ok (.iload_n 3, 1) := by decide +kernel
theorem d_Sw_addCircuits_11 : decode c_Sw_addCircuits 11 = .ok (.invokevirtual 40, 3) := by decide +kernel
theorem d_Sw_addCircuits_14 : decode c_Sw_addCircuits 14 = .ok (.aload_n 0, 1) := by decide +kernel
theorem d_Sw_addCircuits_15 : decode c_Sw_addCircuits 15 = .ok (.iload_n 2, 1) := by decide +kernel
theorem d_Sw_addCircuits_16 : decode c_Sw_addCircuits 16 = .ok (.iload_n 1, 1) := by decide +kernel
theorem d_Sw_addCircuits_17 : decode c_Sw_addCircuits 17 = .ok (.iload_n 3, 1) := by decide +kernel
theorem d_Sw_addCircuits_18 : decode c_Sw_addCircuits 18 = .ok (.invokevirtual 40, 3) := by decide +kernel
theorem d_Sw_addCircuits_21 : decode c_Sw_addCircuits 21 = .ok (.iinc 3 1, 3) := by decide +kernel
theorem d_Sw_addCircuits_24 : decode c_Sw_addCircuits 24 = .ok (.goto (-22), 3) := by decide +kernel
theorem d_Sw_addCircuits_27 : decode c_Sw_addCircuits 27 = .ok (.return_, 1) := by decide +kernel
def f_Sw_addCircuits_2 (a : Nat) : Nat → Int32 → Int32 → Int32 → sn_M
  | 0, _, _, _ => r_0
  | n + 1, x1, x2, x3 => (if (4 : Int32) ≤ x3 then r_V else n_n 7 (some a) fun a1 => c_V (f_Sw_addCircuit a1 x1 x2 x3) (n_n 7 (some a) fun a3 => c_V (f_Sw_addCircuit a3 x2 x1 x3) (f_Sw_addCircuits_2 a n x1 x2 (x3 + (1 : Int32)))))
set_option maxHeartbeats 4000000 in
set_option maxRecDepth 100000 in
theorem mono_Sw_addCircuits_2 (a : Nat) : ∀ (n : Nat) (x1 : Int32) (x2 : Int32) (x3 : Int32), sn_Mono (f_Sw_addCircuits_2 a n x1 x2 x3)
  | 0, _, _, _ => sn_Mono.r0
  | n + 1, x1, x2, x3 => sn_Mono.ite (sn_Mono.rV) (sn_Mono.nn (fun a1 => sn_Mono.cV (mono_Sw_addCircuit a1 x1 x2 x3) (sn_Mono.nn (fun a3 => sn_Mono.cV (mono_Sw_addCircuit a3 x2 x1 x3) (mono_Sw_addCircuits_2 a n x1 x2 (x3 + (1 : Int32)))))))
set_option maxHeartbeats 4000000 in
set_option maxRecDepth 100000 in
theorem s_Sw_addCircuits_2 {X : sn_X} (C : sn_Cx X c_Sw_addCircuits "SignalNetwork$Switchboard" none "addCircuits" 4 3 59) (a : Nat) (n : Nat) : ∀ (x1 : Int32) (x2 : Int32) (x3 : Int32), sn_S X 2 [(0, vA (some a)), (1, vI x1), (2, vI x2), (3, vI x3)] [] (f_Sw_addCircuits_2 a n x1 x2 x3) := by
  induction n with
  | zero => intro x1 x2 x3; exact sn_S.zero
  | succ n ih =>
    intro x1 x2 x3
    unfold f_Sw_addCircuits_2
    refine r_iload_n (q := 3) (i := 3) (pl := 3) C d_Sw_addCircuits_2 rfl rfl rfl ?_
    refine r_iconst (q := 4) (v := 4) C d_Sw_addCircuits_3 rfl (by decide) ?_
    refine r_icmp_ge (tgt := 27) (q := 7) C d_Sw_addCircuits_4 (by decide) rfl ?_ ?_
    · exact r_vret C d_Sw_addCircuits_27 rfl
    · refine r_aload_n (q := 8) (i := 0) (pl := 0) C d_Sw_addCircuits_7 rfl rfl rfl ?_
      refine r_iload_n (q := 9) (i := 1) (pl := 1) C d_Sw_addCircuits_8 rfl rfl rfl ?_
      refine r_iload_n (q := 10) (i := 2) (pl := 2) C d_Sw_addCircuits_9 rfl rfl rfl ?_
      refine r_iload_n (q := 11) (i := 3) (pl := 3) C d_Sw_addCircuits_10 rfl rfl rfl ?_
      refine r_cvV (q := 14) (As := [vI x1, vI x2, vI x3]) (st := []) (cy := 6) C d_Sw_addCircuits_11 rfl Y_Sw_addCircuit L_Sw_40 I_Sw_addCircuit Se_Sw_addCircuit rfl (by decide) rfl (Nat.le_of_ble_eq_true rfl) (Nat.le_of_ble_eq_true rfl) (Nat.le_of_ble_eq_true rfl) rfl (fun a1 => con_Sw_addCircuit a1 x1 x2 x3) ?_
      refine r_aload_n (q := 15) (i := 0) (pl := 0) C d_Sw_addCircuits_14 rfl rfl rfl ?_
      refine r_iload_n (q := 16) (i := 2) (pl := 2) C d_Sw_addCircuits_15 rfl rfl rfl ?_
      refine r_iload_n (q := 17) (i := 1) (pl := 1) C d_Sw_addCircuits_16 rfl rfl rfl ?_
      refine r_iload_n (q := 18) (i := 3) (pl := 3) C d_Sw_addCircuits_17 rfl rfl rfl ?_
      refine r_cvV (q := 21) (As := [vI x2, vI x1, vI x3]) (st := []) (cy := 6) C d_Sw_addCircuits_18 rfl Y_Sw_addCircuit L_Sw_40 I_Sw_addCircuit Se_Sw_addCircuit rfl (by decide) rfl (Nat.le_of_ble_eq_true rfl) (Nat.le_of_ble_eq_true rfl) (Nat.le_of_ble_eq_true rfl) rfl (fun a3 => con_Sw_addCircuit a3 x2 x1 x3) ?_
      refine r_iinc (q := 24) (pl := 3) (v := x3 + (1 : Int32)) (lv' := [(3, vI (x3 + (1 : Int32))), (0, vA (some a)), (1, vI x1), (2, vI x2)]) C d_Sw_addCircuits_21 rfl rfl rfl (by decide) rfl ?_
      refine r_goto (tgt := 2) C d_Sw_addCircuits_24 (by decide) ?_
      refine r_sub (lv' := [(0, vA (some a)), (1, vI x1), (2, vI x2), (3, vI (x3 + (1 : Int32)))]) [1, 2, 3, 0] rfl ?_
      exact ih x1 x2 (x3 + (1 : Int32))
def f_Sw_addCircuits (a : Nat) (x1 : Int32) (x2 : Int32) : sn_M := f_Sw_addCircuits_2 a sn_fuel x1 x2 (0 : Int32)
set_option maxHeartbeats 4000000 in
set_option maxRecDepth 100000 in
theorem mono_Sw_addCircuits (a : Nat) (x1 : Int32) (x2 : Int32) : sn_Mono (f_Sw_addCircuits a x1 x2) := mono_Sw_addCircuits_2 a sn_fuel x1 x2 (0 : Int32)
set_option maxHeartbeats 4000000 in
set_option maxRecDepth 100000 in
theorem con_Sw_addCircuits (a : Nat) (x1 : Int32) (x2 : Int32) : sn_Con y_Sw_addCircuits c_Sw_addCircuits 4 none 3 59 [vA (some a), vI x1, vI x2] (f_Sw_addCircuits a x1 x2) := by
  refine sn_Con.of (by decide +kernel) (by show _ ≤ _; exact Nat.le_of_ble_eq_true rfl) (mono_Sw_addCircuits a x1 x2) (fun X C => ?_)
  show sn_S X 0 [(0, vA (some a)), (1, vI x1), (2, vI x2)] [] _
  replace C : sn_Cx X c_Sw_addCircuits "SignalNetwork$Switchboard" none "addCircuits" 4 3 59 := C
  unfold f_Sw_addCircuits
  refine r_iconst (q := 1) (v := 0) C d_Sw_addCircuits_0 rfl (by decide) ?_
  refine r_istore_n (q := 2) (i := 3) (lv' := [(3, vI (0 : Int32)), (0, vA (some a)), (1, vI x1), (2, vI x2)]) C d_Sw_addCircuits_1 rfl rfl (by decide) rfl ?_
  refine r_sub (lv' := [(0, vA (some a)), (1, vI x1), (2, vI x2), (3, vI (0 : Int32))]) [1, 2, 3, 0] rfl ?_
  exact s_Sw_addCircuits_2 C a sn_fuel x1 x2 (0 : Int32)
theorem d_Sw_subscriberAt_0 : decode c_Sw_subscriberAt 0 = .ok (.iload_n 1, 1) := by decide +kernel
theorem d_Sw_subscriberAt_1 : decode c_Sw_subscriberAt 1 = .ok (.ifCond .lt 21, 3) := by decide +kernel
theorem d_Sw_subscriberAt_4 : decode c_Sw_subscriberAt 4 = .ok (.iload_n 1, 1) := by decide +kernel
theorem d_Sw_subscriberAt_5 : decode c_Sw_subscriberAt 5 = .ok (.bipush 60, 2) := by decide +kernel
theorem d_Sw_subscriberAt_7 : decode c_Sw_subscriberAt 7 = .ok (.if_icmp .ge 15, 3) := by decide +kernel
theorem d_Sw_subscriberAt_10 : decode c_Sw_subscriberAt 10 = .ok (.iload_n 1, 1) := by decide +kernel
theorem d_Sw_subscriberAt_11 : decode c_Sw_subscriberAt 11 = .ok (.bipush 10, 2) := by decide +kernel
theorem d_Sw_subscriberAt_13 : decode c_Sw_subscriberAt 13 = .ok (.irem, 1) := by decide +kernel
theorem d_Sw_subscriberAt_14 : decode c_Sw_subscriberAt 14 = .ok (.iconst 4, 1) := by decide +kernel
theorem d_Sw_subscriberAt_15 : decode c_Sw_subscriberAt 15 = .ok (.if_icmp .ge 7, 3) := by decide +kernel
theorem d_Sw_subscriberAt_18 : decode c_Sw_subscriberAt 18 = .ok (.iconst 1, 1) := by decide +kernel
theorem d_Sw_subscriberAt_19 : decode c_Sw_subscriberAt 19 = .ok (.goto 4, 3) := by decide +kernel
theorem d_Sw_subscriberAt_22 : decode c_Sw_subscriberAt 22 = .ok (.iconst 0, 1) := by decide +kernel
theorem d_Sw_subscriberAt_23 : decode c_Sw_subscriberAt 23 = .ok (.istore_n 2, 1) := by decide +kernel
theorem d_Sw_subscriberAt_24 : decode c_Sw_subscriberAt 24 = .ok (.iload_n 2, 1) := by decide +kernel
theorem d_Sw_subscriberAt_25 : decode c_Sw_subscriberAt 25 = .ok (.ifCond .eq 22, 3) := by decide +kernel
theorem d_Sw_subscriberAt_28 : decode c_Sw_subscriberAt 28 = .ok (.aload_n 0, 1) := by decide +kernel
theorem d_Sw_subscriberAt_29 : decode c_Sw_subscriberAt 29 = .ok (.getfield 11, 3) := by decide +kernel
theorem d_Sw_subscriberAt_32 : decode c_Sw_subscriberAt 32 = .ok (.iload_n 1, 1) := by decide +kernel
theorem d_Sw_subscriberAt_33 : decode c_Sw_subscriberAt 33 = .ok (.bipush 10, 2) := by decide +kernel
theorem d_Sw_subscriberAt_35 : decode c_Sw_subscriberAt 35 = .ok (.idiv, 1) := by decide +kernel
theorem d_Sw_subscriberAt_36 : decode c_Sw_subscriberAt 36 = .ok (.iconst 4, 1) := by decide +kernel
theorem d_Sw_subscriberAt_37 : decode c_Sw_subscriberAt 37 = .ok (.imul, 1) := by decide +kernel
theorem d_Sw_subscriberAt_38 : decode c_Sw_subscriberAt 38 = .ok (.iload_n 1, 1) := by decide +kernel
theorem d_Sw_subscriberAt_39 : decode c_Sw_subscriberAt 39 = .ok (.bipush 10, 2) := by decide +kernel
theorem d_Sw_subscriberAt_41 : decode c_Sw_subscriberAt 41 = .ok (.irem, 1) := by decide +kernel
theorem d_Sw_subscriberAt_42 : decode c_Sw_subscriberAt 42 = .ok (.iadd, 1) := by decide +kernel
theorem d_Sw_subscriberAt_43 : decode c_Sw_subscriberAt 43 = .ok (.aaload, 1) := by decide +kernel
theorem d_Sw_subscriberAt_44 : decode c_Sw_subscriberAt 44 = .ok (.goto 4, 3) := by decide +kernel
theorem d_Sw_subscriberAt_47 : decode c_Sw_subscriberAt 47 = .ok (.aconst_null, 1) := by decide +kernel
theorem d_Sw_subscriberAt_48 : decode c_Sw_subscriberAt 48 = .ok (.areturn, 1) := by decide +kernel
def f_Sw_subscriberAt_48 (a : Nat) (t0 : Option Nat) : sn_M := r_R t0
set_option maxHeartbeats 4000000 in
set_option maxRecDepth 100000 in
theorem mono_Sw_subscriberAt_48 (a : Nat) (t0 : Option Nat) : sn_Mono (f_Sw_subscriberAt_48 a t0) := sn_Mono.rR
set_option maxHeartbeats 4000000 in
set_option maxRecDepth 100000 in
theorem s_Sw_subscriberAt_48 {X : sn_X} (C : sn_Cx X c_Sw_subscriberAt "SignalNetwork$Switchboard" (some (.object "SignalNetwork$Leg")) "subscriberAt" 3 0 0) (a : Nat) (t0 : Option Nat) : sn_S X 48 [(0, vA (some a))] [vA t0] (f_Sw_subscriberAt_48 a t0) := by
  unfold f_Sw_subscriberAt_48
  exact r_aret C d_Sw_subscriberAt_48 rfl (Or.inl ⟨_, rfl⟩)
def f_Sw_subscriberAt_23 (a : Nat) (x1 : Int32) (t0 : Int32) : sn_M := (if t0 = 0 then f_Sw_subscriberAt_48 a none else g_R 7 2 (some a) fun v1 => a_R 26 v1 (((x1 / (10 : Int32)) * (4 : Int32)) + (x1 % (10 : Int32))) fun v2 => f_Sw_subscriberAt_48 a v2)
set_option maxHeartbeats 4000000 in
set_option maxRecDepth 100000 in
theorem mono_Sw_subscriberAt_23 (a : Nat) (x1 : Int32) (t0 : Int32) : sn_Mono (f_Sw_subscriberAt_23 a x1 t0) := sn_Mono.ite (mono_Sw_subscriberAt_48 a none) (sn_Mono.gR (fun v1 => sn_Mono.aR (fun v2 => mono_Sw_subscriberAt_48 a v2)))
set_option maxHeartbeats 4000000 in
set_option maxRecDepth 100000 in
theorem s_Sw_subscriberAt_23 {X : sn_X} (C : sn_Cx X c_Sw_subscriberAt "SignalNetwork$Switchboard" (some (.object "SignalNetwork$Leg")) "subscriberAt" 3 0 0) (a : Nat) (x1 : Int32) (t0 : Int32) : sn_S X 23 [(0, vA (some a)), (1, vI x1)] [vI t0] (f_Sw_subscriberAt_23 a x1 t0) := by
  unfold f_Sw_subscriberAt_23
  refine r_istore_n (q := 24) (i := 2) (lv' := [(2, vI t0), (0, vA (some a)), (1, vI x1)]) C d_Sw_subscriberAt_23 rfl rfl (by decide) rfl ?_
  refine r_iload_n (q := 25) (i := 2) (pl := 0) C d_Sw_subscriberAt_24 rfl rfl rfl ?_
  refine r_if_eq (tgt := 47) (q := 28) C d_Sw_subscriberAt_25 (by decide) rfl ?_ ?_
  · refine r_null (q := 48) C d_Sw_subscriberAt_47 rfl ?_
    refine r_sub (lv' := [(0, vA (some a))]) [1] rfl ?_
    exact s_Sw_subscriberAt_48 C a none
  · refine r_aload_n (q := 29) (i := 0) (pl := 1) C d_Sw_subscriberAt_28 rfl rfl rfl ?_
    refine r_gR (q := 32) C d_Sw_subscriberAt_29 rfl F_Sw_11 rfl (fun v1 => ?_)
    refine r_iload_n (q := 33) (i := 1) (pl := 2) C d_Sw_subscriberAt_32 rfl rfl rfl ?_
    refine r_bipush (q := 35) (v := 10) C d_Sw_subscriberAt_33 rfl (by decide) ?_
    refine r_idivc (q := 36) C d_Sw_subscriberAt_35 rfl (by decide) ?_
    refine r_iconst (q := 37) (v := 4) C d_Sw_subscriberAt_36 rfl (by decide) ?_
    refine r_imul (q := 38) C d_Sw_subscriberAt_37 rfl ?_
    refine r_iload_n (q := 39) (i := 1) (pl := 2) C d_Sw_subscriberAt_38 rfl rfl rfl ?_
    refine r_bipush (q := 41) (v := 10) C d_Sw_subscriberAt_39 rfl (by decide) ?_
    refine r_iremc (q := 42) C d_Sw_subscriberAt_41 rfl (by decide) ?_
    refine r_iadd (q := 43) C d_Sw_subscriberAt_42 rfl ?_
    refine r_aR (q := 44) (kd := 26) (tyi := 5) C (by decide) (fun _ => rfl) d_Sw_subscriberAt_43 rfl (fun v2 => ?_)
    refine r_goto (tgt := 48) C d_Sw_subscriberAt_44 (by decide) ?_
    refine r_sub (lv' := [(0, vA (some a))]) [1] rfl ?_
    exact s_Sw_subscriberAt_48 C a v2
def f_Sw_subscriberAt_22 (a : Nat) (x1 : Int32) : sn_M := f_Sw_subscriberAt_23 a x1 (0 : Int32)
set_option maxHeartbeats 4000000 in
set_option maxRecDepth 100000 in
theorem mono_Sw_subscriberAt_22 (a : Nat) (x1 : Int32) : sn_Mono (f_Sw_subscriberAt_22 a x1) := mono_Sw_subscriberAt_23 a x1 (0 : Int32)
set_option maxHeartbeats 4000000 in
set_option maxRecDepth 100000 in
theorem s_Sw_subscriberAt_22 {X : sn_X} (C : sn_Cx X c_Sw_subscriberAt "SignalNetwork$Switchboard" (some (.object "SignalNetwork$Leg")) "subscriberAt" 3 0 0) (a : Nat) (x1 : Int32) : sn_S X 22 [(0, vA (some a)), (1, vI x1)] [] (f_Sw_subscriberAt_22 a x1) := by
  unfold f_Sw_subscriberAt_22
  refine r_iconst (q := 23) (v := 0) C d_Sw_subscriberAt_22 rfl (by decide) ?_
  exact s_Sw_subscriberAt_23 C a x1 (0 : Int32)
def f_Sw_subscriberAt (a : Nat) (x1 : Int32) : sn_M := (if x1 < 0 then f_Sw_subscriberAt_22 a x1 else (if (60 : Int32) ≤ x1 then f_Sw_subscriberAt_22 a x1 else (if (4 : Int32) ≤ (x1 % (10 : Int32)) then f_Sw_subscriberAt_22 a x1 else f_Sw_subscriberAt_23 a x1 (1 : Int32))))
set_option maxHeartbeats 4000000 in
set_option maxRecDepth 100000 in
theorem mono_Sw_subscriberAt (a : Nat) (x1 : Int32) : sn_Mono (f_Sw_subscriberAt a x1) := sn_Mono.ite (mono_Sw_subscriberAt_22 a x1) (sn_Mono.ite (mono_Sw_subscriberAt_22 a x1) (sn_Mono.ite (mono_Sw_subscriberAt_22 a x1) (mono_Sw_subscriberAt_23 a x1 (1 : Int32))))
set_option maxHeartbeats 4000000 in
set_option maxRecDepth 100000 in
theorem con_Sw_subscriberAt (a : Nat) (x1 : Int32) : sn_Con y_Sw_subscriberAt c_Sw_subscriberAt 3 (some (.object "SignalNetwork$Leg")) 0 0 [vA (some a), vI x1] (f_Sw_subscriberAt a x1) := by
  refine sn_Con.of (by decide +kernel) (by show _ ≤ _; exact Nat.le_of_ble_eq_true rfl) (mono_Sw_subscriberAt a x1) (fun X C => ?_)
  show sn_S X 0 [(0, vA (some a)), (1, vI x1)] [] _
  replace C : sn_Cx X c_Sw_subscriberAt "SignalNetwork$Switchboard" (some (.object "SignalNetwork$Leg")) "subscriberAt" 3 0 0 := C
  unfold f_Sw_subscriberAt
  refine r_iload_n (q := 1) (i := 1) (pl := 1) C d_Sw_subscriberAt_0 rfl rfl rfl ?_
  refine r_if_lt (tgt := 22) (q := 4) C d_Sw_subscriberAt_1 (by decide) rfl ?_ ?_
  · exact s_Sw_subscriberAt_22 C a x1
  · refine r_iload_n (q := 5) (i := 1) (pl := 1) C d_Sw_subscriberAt_4 rfl rfl rfl ?_
    refine r_bipush (q := 7) (v := 60) C d_Sw_subscriberAt_5 rfl (by decide) ?_
    refine r_icmp_ge (tgt := 22) (q := 10) C d_Sw_subscriberAt_7 (by decide) rfl ?_ ?_
    · exact s_Sw_subscriberAt_22 C a x1
    · refine r_iload_n (q := 11) (i := 1) (pl := 1) C d_Sw_subscriberAt_10 rfl rfl rfl ?_
      refine r_bipush (q := 13) (v := 10) C d_Sw_subscriberAt_11 rfl (by decide) ?_
      refine r_iremc (q := 14) C d_Sw_subscriberAt_13 rfl (by decide) ?_
      refine r_iconst (q := 15) (v := 4) C d_Sw_subscriberAt_14 rfl (by decide) ?_
      refine r_icmp_ge (tgt := 22) (q := 18) C d_Sw_subscriberAt_15 (by decide) rfl ?_ ?_
      · exact s_Sw_subscriberAt_22 C a x1
      · refine r_iconst (q := 19) (v := 1) C d_Sw_subscriberAt_18 rfl (by decide) ?_
        refine r_goto (tgt := 23) C d_Sw_subscriberAt_19 (by decide) ?_
        exact s_Sw_subscriberAt_23 C a x1 (1 : Int32)
theorem d_Sw_circuitAt_0 : decode c_Sw_circuitAt 0 = .ok (.iload_n 1, 1) := by decide +kernel
theorem d_Sw_circuitAt_1 : decode c_Sw_circuitAt 1 = .ok (.ifCond .lt 28, 3) := by decide +kernel
theorem d_Sw_circuitAt_4 : decode c_Sw_circuitAt 4 = .ok (.iload_n 1, 1) := by decide +kernel
theorem d_Sw_circuitAt_5 : decode c_Sw_circuitAt 5 = .ok (.bipush 6, 2) := by decide +kernel
theorem d_Sw_circuitAt_7 : decode c_Sw_circuitAt 7 = .ok (.if_icmp .ge 22, 3) := by decide +kernel
theorem d_Sw_circuitAt_10 : decode c_Sw_circuitAt 10 = .ok (.iload_n 2, 1) := by decide +kernel
theorem d_Sw_circuitAt_11 : decode c_Sw_circuitAt 11 = .ok (.ifCond .lt 18, 3) := by decide +kernel
theorem d_Sw_circuitAt_14 : decode c_Sw_circuitAt 14 = .ok (.iload_n 2, 1) := by decide +kernel
theorem d_Sw_circuitAt_15 : decode c_Sw_circuitAt 15 = .ok (.bipush 6, 2) := by decide +kernel
theorem d_Sw_circuitAt_17 : decode c_Sw_circuitAt 17 = .ok (.if_icmp .ge 12, 3) := by decide +kernel
theorem d_Sw_circuitAt_20 : decode c_Sw_circuitAt 20 = .ok (.iload_n 3, 1) := by decide +kernel
theorem d_Sw_circuitAt_21 : decode c_Sw_circuitAt 21 = .ok (.ifCond .lt 8, 3) := by decide +kernel
theorem d_Sw_circuitAt_24 : decode c_Sw_circuitAt 24 = .ok (.iload_n 3, 1) := by decide +kernel
theorem d_Sw_circuitAt_25 : decode c_Sw_circuitAt 25 = .ok (.iconst 4, 1) := by decide +kernel
theorem d_Sw_circuitAt_26 : decode c_Sw_circuitAt 26 = .ok (.if_icmp .lt 5, 3) := by decide +kernel
theorem d_Sw_circuitAt_29 : decode c_Sw_circuitAt 29 = .ok (.aconst_null, 1) := by decide +kernel
theorem d_Sw_circuitAt_30 : decode c_Sw_circuitAt 30 = .ok (.areturn, 1) := by decide +kernel
theorem d_Sw_circuitAt_31 : decode c_Sw_circuitAt 31 = .ok (.aload_n 0, 1) := by decide +kernel
theorem d_Sw_circuitAt_32 : decode c_Sw_circuitAt 32 = .ok (.getfield 17, 3) := by decide +kernel
theorem d_Sw_circuitAt_35 : decode c_Sw_circuitAt 35 = .ok (.iload_n 1, 1) := by decide +kernel
theorem d_Sw_circuitAt_36 : decode c_Sw_circuitAt 36 = .ok (.bipush 6, 2) := by decide +kernel
theorem d_Sw_circuitAt_38 : decode c_Sw_circuitAt 38 = .ok (.imul, 1) := by decide +kernel
theorem d_Sw_circuitAt_39 : decode c_Sw_circuitAt 39 = .ok (.iload_n 2, 1) := by decide +kernel
theorem d_Sw_circuitAt_40 : decode c_Sw_circuitAt 40 = .ok (.iadd, 1) := by decide +kernel
theorem d_Sw_circuitAt_41 : decode c_Sw_circuitAt 41 = .ok (.iconst 4, 1) := by decide +kernel
theorem d_Sw_circuitAt_42 : decode c_Sw_circuitAt 42 = .ok (.imul, 1) := by decide +kernel
theorem d_Sw_circuitAt_43 : decode c_Sw_circuitAt 43 = .ok (.iload_n 3, 1) := by decide +kernel
theorem d_Sw_circuitAt_44 : decode c_Sw_circuitAt 44 = .ok (.iadd, 1) := by decide +kernel
theorem d_Sw_circuitAt_45 : decode c_Sw_circuitAt 45 = .ok (.aaload, 1) := by decide +kernel
theorem d_Sw_circuitAt_46 : decode c_Sw_circuitAt 46 = .ok (.areturn, 1) := by decide +kernel
def f_Sw_circuitAt_29 (a : Nat) : sn_M := r_R none
set_option maxHeartbeats 4000000 in
set_option maxRecDepth 100000 in
theorem mono_Sw_circuitAt_29 (a : Nat) : sn_Mono (f_Sw_circuitAt_29 a) := sn_Mono.rR
set_option maxHeartbeats 4000000 in
set_option maxRecDepth 100000 in
theorem s_Sw_circuitAt_29 {X : sn_X} (C : sn_Cx X c_Sw_circuitAt "SignalNetwork$Switchboard" (some (.object "SignalNetwork$Leg")) "circuitAt" 4 0 0) (a : Nat) : sn_S X 29 [(0, vA (some a))] [] (f_Sw_circuitAt_29 a) := by
  unfold f_Sw_circuitAt_29
  refine r_null (q := 30) C d_Sw_circuitAt_29 rfl ?_
  exact r_aret C d_Sw_circuitAt_30 rfl (Or.inl ⟨_, rfl⟩)
def f_Sw_circuitAt (a : Nat) (x1 : Int32) (x2 : Int32) (x3 : Int32) : sn_M := (if x1 < 0 then f_Sw_circuitAt_29 a else (if (6 : Int32) ≤ x1 then f_Sw_circuitAt_29 a else (if x2 < 0 then f_Sw_circuitAt_29 a else (if (6 : Int32) ≤ x2 then f_Sw_circuitAt_29 a else (if x3 < 0 then f_Sw_circuitAt_29 a else (if x3 < (4 : Int32) then g_R 7 3 (some a) fun v1 => a_R 26 v1 ((((x1 * (6 : Int32)) + x2) * (4 : Int32)) + x3) fun v2 => r_R v2 else f_Sw_circuitAt_29 a))))))
set_option maxHeartbeats 4000000 in
set_option maxRecDepth 100000 in
theorem mono_Sw_circuitAt (a : Nat) (x1 : Int32) (x2 : Int32) (x3 : Int32) : sn_Mono (f_Sw_circuitAt a x1 x2 x3) := sn_Mono.ite (mono_Sw_circuitAt_29 a) (sn_Mono.ite (mono_Sw_circuitAt_29 a) (sn_Mono.ite (mono_Sw_circuitAt_29 a) (sn_Mono.ite (mono_Sw_circuitAt_29 a) (sn_Mono.ite (mono_Sw_circuitAt_29 a) (sn_Mono.ite (sn_Mono.gR (fun v1 => sn_Mono.aR (fun v2 => sn_Mono.rR))) (mono_Sw_circuitAt_29 a))))))
set_option maxHeartbeats 4000000 in
set_option maxRecDepth 100000 in
theorem con_Sw_circuitAt (a : Nat) (x1 : Int32) (x2 : Int32) (x3 : Int32) : sn_Con y_Sw_circuitAt c_Sw_circuitAt 4 (some (.object "SignalNetwork$Leg")) 0 0 [vA (some a), vI x1, vI x2, vI x3] (f_Sw_circuitAt a x1 x2 x3) := by
  refine sn_Con.of (by decide +kernel) (by show _ ≤ _; exact Nat.le_of_ble_eq_true rfl) (mono_Sw_circuitAt a x1 x2 x3) (fun X C => ?_)
  show sn_S X 0 [(0, vA (some a)), (1, vI x1), (2, vI x2), (3, vI x3)] [] _
  replace C : sn_Cx X c_Sw_circuitAt "SignalNetwork$Switchboard" (some (.object "SignalNetwork$Leg")) "circuitAt" 4 0 0 := C
  unfold f_Sw_circuitAt
  refine r_iload_n (q := 1) (i := 1) (pl := 1) C d_Sw_circuitAt_0 rfl rfl rfl ?_
  refine r_if_lt (tgt := 29) (q := 4) C d_Sw_circuitAt_1 (by decide) rfl ?_ ?_
  · refine r_sub (lv' := [(0, vA (some a))]) [0] rfl ?_
    exact s_Sw_circuitAt_29 C a
  · refine r_iload_n (q := 5) (i := 1) (pl := 1) C d_Sw_circuitAt_4 rfl rfl rfl ?_
    refine r_bipush (q := 7) (v := 6) C d_Sw_circuitAt_5 rfl (by decide) ?_
    refine r_icmp_ge (tgt := 29) (q := 10) C d_Sw_circuitAt_7 (by decide) rfl ?_ ?_
    · refine r_sub (lv' := [(0, vA (some a))]) [0] rfl ?_
      exact s_Sw_circuitAt_29 C a
    · refine r_iload_n (q := 11) (i := 2) (pl := 2) C d_Sw_circuitAt_10 rfl rfl rfl ?_
      refine r_if_lt (tgt := 29) (q := 14) C d_Sw_circuitAt_11 (by decide) rfl ?_ ?_
      · refine r_sub (lv' := [(0, vA (some a))]) [0] rfl ?_
        exact s_Sw_circuitAt_29 C a
      · refine r_iload_n (q := 15) (i := 2) (pl := 2) C d_Sw_circuitAt_14 rfl rfl rfl ?_
        refine r_bipush (q := 17) (v := 6) C d_Sw_circuitAt_15 rfl (by decide) ?_
        refine r_icmp_ge (tgt := 29) (q := 20) C d_Sw_circuitAt_17 (by decide) rfl ?_ ?_
        · refine r_sub (lv' := [(0, vA (some a))]) [0] rfl ?_
          exact s_Sw_circuitAt_29 C a
        · refine r_iload_n (q := 21) (i := 3) (pl := 3) C d_Sw_circuitAt_20 rfl rfl rfl ?_
          refine r_if_lt (tgt := 29) (q := 24) C d_Sw_circuitAt_21 (by decide) rfl ?_ ?_
          · refine r_sub (lv' := [(0, vA (some a))]) [0] rfl ?_
            exact s_Sw_circuitAt_29 C a
          · refine r_iload_n (q := 25) (i := 3) (pl := 3) C d_Sw_circuitAt_24 rfl rfl rfl ?_
            refine r_iconst (q := 26) (v := 4) C d_Sw_circuitAt_25 rfl (by decide) ?_
            refine r_icmp_lt (tgt := 31) (q := 29) C d_Sw_circuitAt_26 (by decide) rfl ?_ ?_
            · refine r_aload_n (q := 32) (i := 0) (pl := 0) C d_Sw_circuitAt_31 rfl rfl rfl ?_
              refine r_gR (q := 35) C d_Sw_circuitAt_32 rfl F_Sw_17 rfl (fun v1 => ?_)
              refine r_iload_n (q := 36) (i := 1) (pl := 1) C d_Sw_circuitAt_35 rfl rfl rfl ?_
              refine r_bipush (q := 38) (v := 6) C d_Sw_circuitAt_36 rfl (by decide) ?_
              refine r_imul (q := 39) C d_Sw_circuitAt_38 rfl ?_
              refine r_iload_n (q := 40) (i := 2) (pl := 2) C d_Sw_circuitAt_39 rfl rfl rfl ?_
              refine r_iadd (q := 41) C d_Sw_circuitAt_40 rfl ?_
              refine r_iconst (q := 42) (v := 4) C d_Sw_circuitAt_41 rfl (by decide) ?_
              refine r_imul (q := 43) C d_Sw_circuitAt_42 rfl ?_
              refine r_iload_n (q := 44) (i := 3) (pl := 3) C d_Sw_circuitAt_43 rfl rfl rfl ?_
              refine r_iadd (q := 45) C d_Sw_circuitAt_44 rfl ?_
              refine r_aR (q := 46) (kd := 26) (tyi := 5) C (by decide) (fun _ => rfl) d_Sw_circuitAt_45 rfl (fun v2 => ?_)
              exact r_aret C d_Sw_circuitAt_46 rfl (Or.inl ⟨_, rfl⟩)
            · refine r_sub (lv' := [(0, vA (some a))]) [0] rfl ?_
              exact s_Sw_circuitAt_29 C a
theorem d_Sw_circuitPlaces_0 : decode c_Sw_circuitPlaces 0 = .ok (.aload_n 0, 1) := by decide +kernel
theorem d_Sw_circuitPlaces_1 : decode c_Sw_circuitPlaces 1 = .ok (.getfield 17, 3) := by decide +kernel
theorem d_Sw_circuitPlaces_4 : decode c_Sw_circuitPlaces 4 = .ok (.arraylength, 1) := by decide +kernel
theorem d_Sw_circuitPlaces_5 : decode c_Sw_circuitPlaces 5 = .ok (.ireturn, 1) := by decide +kernel
def f_Sw_circuitPlaces (a : Nat) : sn_M := g_R 7 3 (some a) fun v1 => a_len 26 v1 fun v2 => r_I v2
set_option maxHeartbeats 4000000 in
set_option maxRecDepth 100000 in
theorem mono_Sw_circuitPlaces (a : Nat) : sn_Mono (f_Sw_circuitPlaces a) := sn_Mono.gR (fun v1 => sn_Mono.alen (fun v2 => sn_Mono.rI))
set_option maxHeartbeats 4000000 in
set_option maxRecDepth 100000 in
theorem con_Sw_circuitPlaces (a : Nat) : sn_Con y_Sw_circuitPlaces c_Sw_circuitPlaces 1 (some .int) 0 0 [vA (some a)] (f_Sw_circuitPlaces a) := by
  refine sn_Con.of (by decide +kernel) (by show _ ≤ _; exact Nat.le_of_ble_eq_true rfl) (mono_Sw_circuitPlaces a) (fun X C => ?_)
  show sn_S X 0 [(0, vA (some a))] [] _
  replace C : sn_Cx X c_Sw_circuitPlaces "SignalNetwork$Switchboard" (some .int) "circuitPlaces" 1 0 0 := C
  unfold f_Sw_circuitPlaces
  refine r_aload_n (q := 1) (i := 0) (pl := 0) C d_Sw_circuitPlaces_0 rfl rfl rfl ?_
  refine r_gR (q := 4) C d_Sw_circuitPlaces_1 rfl F_Sw_17 rfl (fun v1 => ?_)
  refine r_alen (q := 5) (kd := 26) (tyi := 5) C (by decide) (fun _ => rfl) d_Sw_circuitPlaces_4 rfl (fun v2 => ?_)
  exact r_iret C d_Sw_circuitPlaces_5 rfl
theorem d_Sw_post_0 : decode c_Sw_post 0 = .ok (.aload_n 1, 1) := by decide +kernel
theorem d_Sw_post_1 : decode c_Sw_post 1 = .ok (.getfield 95, 3) := by decide +kernel
theorem d_Sw_post_4 : decode c_Sw_post 4 = .ok (.iconst 4, 1) := by decide +kernel
theorem d_Sw_post_5 : decode c_Sw_post 5 = .ok (.iload_n 3, 1) := by decide +kernel
theorem d_Sw_post_6 : decode c_Sw_post 6 = .ok (.imul, 1) := by decide +kernel
theorem d_Sw_post_7 : decode c_Sw_post 7 = .ok (.iadd, 1) := by decide +kernel
theorem d_Sw_post_8 : decode c_Sw_post 8 = .ok (.istore 5, 2) := by decide +kernel
theorem d_Sw_post_10 : decode c_Sw_post 10 = .ok (.aload_n 0, 1) := by decide +kernel
theorem d_Sw_post_11 : decode c_Sw_post 11 = .ok (.getfield 25, 3) := by decide +kernel
theorem d_Sw_post_14 : decode c_Sw_post 14 = .ok (.iload_n 2, 1) := by decide +kernel
theorem d_Sw_post_15 : decode c_Sw_post 15 = .ok (.aload_n 1, 1) := by decide +kernel
theorem d_Sw_post_16 : decode c_Sw_post 16 = .ok (.getfield 92, 3) := by decide +kernel
theorem d_Sw_post_19 : decode c_Sw_post 19 = .ok (.aload_n 1, 1) := by decide +kernel
theorem d_Sw_post_20 : decode c_Sw_post 20 = .ok (.getfield 89, 3) := by decide +kernel
theorem d_Sw_post_23 : decode c_Sw_post 23 = .ok (.aload_n 1, 1) := by decide +kernel
theorem d_Sw_post_24 : decode c_Sw_post 24 = .ok (.getfield 95, 3) := by decide +kernel
theorem d_Sw_post_27 : decode c_Sw_post 27 = .ok (.iload 5, 2) := by decide +kernel
theorem d_Sw_post_29 : decode c_Sw_post 29 = .ok (.iload 4, 2) := by decide +kernel
theorem d_Sw_post_31 : decode c_Sw_post 31 = .ok (.invokestatic 105, 3) := by decide +kernel
theorem d_Sw_post_34 : decode c_Sw_post 34 = .ok (.invokevirtual 111, 3) := by decide +kernel
theorem d_Sw_post_37 : decode c_Sw_post 37 = .ok (.pop, 1) := by decide +kernel
theorem d_Sw_post_38 : decode c_Sw_post 38 = .ok (.return_, 1) := by decide +kernel
def f_Sw_post (a : Nat) (r1 : Option Nat) (x2 : Int32) (x3 : Int32) (x4 : Int32) : sn_M := g_I 4 2 r1 fun v1 => n_I ((v1 + ((4 : Int32) * x3))) fun n2 => g_R 7 4 (some a) fun v3 => g_I 4 0 r1 fun v4 => g_I 4 1 r1 fun v5 => g_I 4 2 r1 fun v6 => c_J (f_Ms_of x2 v4 v5 v6 n2 x4) fun v7 => n_n 6 v3 fun a8 => c_I (f_Qu_add a8 v7) fun v9 => r_V
set_option maxHeartbeats 4000000 in
set_option maxRecDepth 100000 in
theorem mono_Sw_post (a : Nat) (r1 : Option Nat) (x2 : Int32) (x3 : Int32) (x4 : Int32) : sn_Mono (f_Sw_post a r1 x2 x3 x4) := sn_Mono.gI (fun v1 => sn_Mono.nI (fun n2 => sn_Mono.gR (fun v3 => sn_Mono.gI (fun v4 => sn_Mono.gI (fun v5 => sn_Mono.gI (fun v6 => sn_Mono.cJ (mono_Ms_of x2 v4 v5 v6 n2 x4) (fun v7 => sn_Mono.nn (fun a8 => sn_Mono.cI (mono_Qu_add a8 v7) (fun v9 => sn_Mono.rV)))))))))
set_option maxHeartbeats 4000000 in
set_option maxRecDepth 100000 in
theorem con_Sw_post (a : Nat) (r1 : Option Nat) (x2 : Int32) (x3 : Int32) (x4 : Int32) : sn_Con y_Sw_post c_Sw_post 6 none 1 27 [vA (some a), vA r1, vI x2, vI x3, vI x4] (f_Sw_post a r1 x2 x3 x4) := by
  refine sn_Con.of (by decide +kernel) (by show _ ≤ _; exact Nat.le_of_ble_eq_true rfl) (mono_Sw_post a r1 x2 x3 x4) (fun X C => ?_)
  show sn_S X 0 [(0, vA (some a)), (1, vA r1), (2, vI x2), (3, vI x3), (4, vI x4)] [] _
  replace C : sn_Cx X c_Sw_post "SignalNetwork$Switchboard" none "post" 6 1 27 := C
  unfold f_Sw_post
  refine r_aload_n (q := 1) (i := 1) (pl := 1) C d_Sw_post_0 rfl rfl rfl ?_
  refine r_gI (q := 4) C d_Sw_post_1 rfl F_Sw_95 rfl (fun v1 => ?_)
  refine r_iconst (q := 5) (v := 4) C d_Sw_post_4 rfl (by decide) ?_
  refine r_iload_n (q := 6) (i := 3) (pl := 3) C d_Sw_post_5 rfl rfl rfl ?_
  refine r_imul (q := 7) C d_Sw_post_6 rfl ?_
  refine r_iadd (q := 8) C d_Sw_post_7 rfl ?_
  refine r_nI (fun n2 => ?_)
  refine r_istore (q := 10) (i := 5) (lv' := [(5, vI n2), (0, vA (some a)), (1, vA r1), (2, vI x2), (3, vI x3), (4, vI x4)]) C d_Sw_post_8 rfl (by decide) rfl ?_
  refine r_aload_n (q := 11) (i := 0) (pl := 1) C d_Sw_post_10 rfl rfl rfl ?_
  refine r_gR (q := 14) C d_Sw_post_11 rfl F_Sw_25 rfl (fun v3 => ?_)
  refine r_iload_n (q := 15) (i := 2) (pl := 3) C d_Sw_post_14 rfl rfl rfl ?_
  refine r_aload_n (q := 16) (i := 1) (pl := 2) C d_Sw_post_15 rfl rfl rfl ?_
  refine r_gI (q := 19) C d_Sw_post_16 rfl F_Sw_92 rfl (fun v4 => ?_)
  refine r_aload_n (q := 20) (i := 1) (pl := 2) C d_Sw_post_19 rfl rfl rfl ?_
  refine r_gI (q := 23) C d_Sw_post_20 rfl F_Sw_89 rfl (fun v5 => ?_)
  refine r_aload_n (q := 24) (i := 1) (pl := 2) C d_Sw_post_23 rfl rfl rfl ?_
  refine r_gI (q := 27) C d_Sw_post_24 rfl F_Sw_95 rfl (fun v6 => ?_)
  refine r_iload (q := 29) (i := 5) (pl := 0) C d_Sw_post_27 rfl rfl ?_
  refine r_iload (q := 31) (i := 4) (pl := 5) C d_Sw_post_29 rfl rfl ?_
  refine r_csJ (q := 34) (As := [vI x2, vI v4, vI v5, vI v6, vI n2, vI x4]) (st := [vA v3]) C d_Sw_post_31 rfl Y_Ms_of L_Sw_105 St_Ms_of rfl (Nat.le_of_ble_eq_true rfl) (Nat.le_of_ble_eq_true rfl) (Nat.le_of_ble_eq_true rfl) rfl (con_Ms_of x2 v4 v5 v6 n2 x4) (fun v7 => ?_)
  refine r_cvI (q := 37) (As := [vJ v7]) (st := []) (cy := 5) C d_Sw_post_34 rfl Y_Qu_add L_Sw_111 I_Qu_add Se_Qu_add rfl (by decide) rfl (Nat.le_of_ble_eq_true rfl) (Nat.le_of_ble_eq_true rfl) (Nat.le_of_ble_eq_true rfl) rfl (fun a8 => con_Qu_add a8 v7) (fun v9 => ?_)
  refine r_pop (q := 38) C d_Sw_post_37 rfl rfl ?_
  exact r_vret C d_Sw_post_38 rfl
theorem d_Sw_ask_0 : decode c_Sw_ask 0 = .ok (.aload_n 1, 1) := by decide +kernel
theorem d_Sw_ask_1 : decode c_Sw_ask 1 = .ok (.iconst 1, 1) := by decide +kernel
theorem d_Sw_ask_2 : decode c_Sw_ask 2 = .ok (.putfield 47, 3) := by decide +kernel
theorem d_Sw_ask_5 : decode c_Sw_ask 5 = .ok (.aload_n 1, 1) := by decide +kernel
theorem d_Sw_ask_6 : decode c_Sw_ask 6 = .ok (.aload_n 0, 1) := by decide +kernel
theorem d_Sw_ask_7 : decode c_Sw_ask 7 = .ok (.getfield 33, 3) := by decide +kernel
theorem d_Sw_ask_10 : decode c_Sw_ask 10 = .ok (.bipush 20, 2) := by decide +kernel
theorem d_Sw_ask_12 : decode c_Sw_ask 12 = .ok (.invokevirtual 142, 3) := by decide +kernel
theorem d_Sw_ask_15 : decode c_Sw_ask 15 = .ok (.putfield 148, 3) := by decide +kernel
theorem d_Sw_ask_18 : decode c_Sw_ask 18 = .ok (.aload_n 1, 1) := by decide +kernel
theorem d_Sw_ask_19 : decode c_Sw_ask 19 = .ok (.iload_n 2, 1) := by decide +kernel
theorem d_Sw_ask_20 : decode c_Sw_ask 20 = .ok (.putfield 151, 3) := by decide +kernel
theorem d_Sw_ask_23 : decode c_Sw_ask 23 = .ok (.aload_n 1, 1) := by decide +kernel
theorem d_Sw_ask_24 : decode c_Sw_ask 24 = .ok (.iload_n 3, 1) := by decide +kernel
theorem d_Sw_ask_25 : decode c_Sw_ask 25 = .ok (.putfield 126, 3) := by decide +kernel
theorem d_Sw_ask_28 : decode c_Sw_ask 28 = .ok (.aload_n 1, 1) := by decide +kernel
theorem d_Sw_ask_29 : decode c_Sw_ask 29 = .ok (.aload_n 1, 1) := by decide +kernel
theorem d_Sw_ask_30 : decode c_Sw_ask 30 = .ok (.getfield 78, 3) := by decide +kernel
theorem d_Sw_ask_33 : decode c_Sw_ask 33 = .ok (.iconst 1, 1) := by decide +kernel
theorem d_Sw_ask_34 : decode c_Sw_ask 34 = .ok (.iadd, 1) := by decide +kernel
theorem d_Sw_ask_35 : decode c_Sw_ask 35 = .ok (.bipush 64, 2) := by decide +kernel
theorem d_Sw_ask_37 : decode c_Sw_ask 37 = .ok (.irem, 1) := by decide +kernel
theorem d_Sw_ask_38 : decode c_Sw_ask 38 = .ok (.putfield 78, 3) := by decide +kernel
theorem d_Sw_ask_41 : decode c_Sw_ask 41 = .ok (.aload_n 0, 1) := by decide +kernel
theorem d_Sw_ask_42 : decode c_Sw_ask 42 = .ok (.aload_n 1, 1) := by decide +kernel
theorem d_Sw_ask_43 : decode c_Sw_ask 43 = .ok (.bipush 7, 2) := by decide +kernel
theorem d_Sw_ask_45 : decode c_Sw_ask 45 = .ok (.aload_n 1, 1) := by decide +kernel
theorem d_Sw_ask_46 : decode c_Sw_ask 46 = .ok (.getfield 78, 3) := by decide +kernel
theorem d_Sw_ask_49 : decode c_Sw_ask 49 = .ok (.iload_n 2, 1) := by decide +kernel
theorem d_Sw_ask_50 : decode c_Sw_ask 50 = .ok (.bipush 64, 2) := by decide +kernel
theorem d_Sw_ask_52 : decode c_Sw_ask 52 = .ok (.iload_n 3, 1) := by decide +kernel
theorem d_Sw_ask_53 : decode c_Sw_ask 53 = .ok (.imul, 1) := by decide +kernel
theorem d_Sw_ask_54 : decode c_Sw_ask 54 = .ok (.iadd, 1) := by decide +kernel
theorem d_Sw_ask_55 : decode c_Sw_ask 55 = .ok (.invokevirtual 81, 3) := by decide +kernel
theorem d_Sw_ask_58 : decode c_Sw_ask 58 = .ok (.return_, 1) := by decide +kernel
def f_Sw_ask (a : Nat) (r1 : Option Nat) (x2 : Int32) (x3 : Int32) : sn_M := p_I 4 3 r1 (1 : Int32) (g_R 7 1 (some a) fun v1 => n_n 1 v1 fun a2 => c_I (f_Ck_after a2 (20 : Int32)) fun v3 => p_I 4 5 r1 v3 (p_I 4 9 r1 x2 (p_I 4 11 r1 x3 (g_I 4 10 r1 fun v4 => p_I 4 10 r1 ((v4 + (1 : Int32)) % (64 : Int32)) (g_I 4 10 r1 fun v5 => n_n 7 (some a) fun a6 => c_V (f_Sw_post a6 r1 (7 : Int32) v5 (x2 + ((64 : Int32) * x3))) (r_V))))))
set_option maxHeartbeats 4000000 in
set_option maxRecDepth 100000 in
theorem mono_Sw_ask (a : Nat) (r1 : Option Nat) (x2 : Int32) (x3 : Int32) : sn_Mono (f_Sw_ask a r1 x2 x3) := sn_Mono.pI (sn_Mono.gR (fun v1 => sn_Mono.nn (fun a2 => sn_Mono.cI (mono_Ck_after a2 (20 : Int32)) (fun v3 => sn_Mono.pI (sn_Mono.pI (sn_Mono.pI (sn_Mono.gI (fun v4 => sn_Mono.pI (sn_Mono.gI (fun v5 => sn_Mono.nn (fun a6 => sn_Mono.cV (mono_Sw_post a6 r1 (7 : Int32) v5 (x2 + ((64 : Int32) * x3))) (sn_Mono.rV))))))))))))
set_option maxHeartbeats 4000000 in
set_option maxRecDepth 100000 in
theorem con_Sw_ask (a : Nat) (r1 : Option Nat) (x2 : Int32) (x3 : Int32) : sn_Con y_Sw_ask c_Sw_ask 4 none 2 52 [vA (some a), vA r1, vI x2, vI x3] (f_Sw_ask a r1 x2 x3) := by
  refine sn_Con.of (by decide +kernel) (by show _ ≤ _; exact Nat.le_of_ble_eq_true rfl) (mono_Sw_ask a r1 x2 x3) (fun X C => ?_)
  show sn_S X 0 [(0, vA (some a)), (1, vA r1), (2, vI x2), (3, vI x3)] [] _
  replace C : sn_Cx X c_Sw_ask "SignalNetwork$Switchboard" none "ask" 4 2 52 := C
  unfold f_Sw_ask
  refine r_aload_n (q := 1) (i := 1) (pl := 1) C d_Sw_ask_0 rfl rfl rfl ?_
  refine r_iconst (q := 2) (v := 1) C d_Sw_ask_1 rfl (by decide) ?_
  refine r_pI (q := 5) C d_Sw_ask_2 rfl F_Sw_47 rfl rfl (Or.inl rfl) ?_
  refine r_aload_n (q := 6) (i := 1) (pl := 1) C d_Sw_ask_5 rfl rfl rfl ?_
  refine r_aload_n (q := 7) (i := 0) (pl := 0) C d_Sw_ask_6 rfl rfl rfl ?_
  refine r_gR (q := 10) C d_Sw_ask_7 rfl F_Sw_33 rfl (fun v1 => ?_)
  refine r_bipush (q := 12) (v := 20) C d_Sw_ask_10 rfl (by decide) ?_
  refine r_cvI (q := 15) (As := [vI (20 : Int32)]) (st := [vA r1]) (cy := 0) C d_Sw_ask_12 rfl Y_Ck_after L_Sw_142 I_Ck_after Se_Ck_after rfl (by decide) rfl (Nat.le_of_ble_eq_true rfl) (Nat.le_of_ble_eq_true rfl) (Nat.le_of_ble_eq_true rfl) rfl (fun a2 => con_Ck_after a2 (20 : Int32)) (fun v3 => ?_)
  refine r_pI (q := 18) C d_Sw_ask_15 rfl F_Sw_148 rfl rfl (Or.inl rfl) ?_
  refine r_aload_n (q := 19) (i := 1) (pl := 1) C d_Sw_ask_18 rfl rfl rfl ?_
  refine r_iload_n (q := 20) (i := 2) (pl := 2) C d_Sw_ask_19 rfl rfl rfl ?_
  refine r_pI (q := 23) C d_Sw_ask_20 rfl F_Sw_151 rfl rfl (Or.inl rfl) ?_
  refine r_aload_n (q := 24) (i := 1) (pl := 1) C d_Sw_ask_23 rfl rfl rfl ?_
  refine r_iload_n (q := 25) (i := 3) (pl := 3) C d_Sw_ask_24 rfl rfl rfl ?_
  refine r_pI (q := 28) C d_Sw_ask_25 rfl F_Sw_126 rfl rfl (Or.inl rfl) ?_
  refine r_aload_n (q := 29) (i := 1) (pl := 1) C d_Sw_ask_28 rfl rfl rfl ?_
  refine r_aload_n (q := 30) (i := 1) (pl := 1) C d_Sw_ask_29 rfl rfl rfl ?_
  refine r_gI (q := 33) C d_Sw_ask_30 rfl F_Sw_78 rfl (fun v4 => ?_)
  refine r_iconst (q := 34) (v := 1) C d_Sw_ask_33 rfl (by decide) ?_
  refine r_iadd (q := 35) C d_Sw_ask_34 rfl ?_
  refine r_bipush (q := 37) (v := 64) C d_Sw_ask_35 rfl (by decide) ?_
  refine r_iremc (q := 38) C d_Sw_ask_37 rfl (by decide) ?_
  refine r_pI (q := 41) C d_Sw_ask_38 rfl F_Sw_78 rfl rfl (Or.inl rfl) ?_
  refine r_aload_n (q := 42) (i := 0) (pl := 0) C d_Sw_ask_41 rfl rfl rfl ?_
  refine r_aload_n (q := 43) (i := 1) (pl := 1) C d_Sw_ask_42 rfl rfl rfl ?_
  refine r_bipush (q := 45) (v := 7) C d_Sw_ask_43 rfl (by decide) ?_
  refine r_aload_n (q := 46) (i := 1) (pl := 1) C d_Sw_ask_45 rfl rfl rfl ?_
  refine r_gI (q := 49) C d_Sw_ask_46 rfl F_Sw_78 rfl (fun v5 => ?_)
  refine r_iload_n (q := 50) (i := 2) (pl := 2) C d_Sw_ask_49 rfl rfl rfl ?_
  refine r_bipush (q := 52) (v := 64) C d_Sw_ask_50 rfl (by decide) ?_
  refine r_iload_n (q := 53) (i := 3) (pl := 3) C d_Sw_ask_52 rfl rfl rfl ?_
  refine r_imul (q := 54) C d_Sw_ask_53 rfl ?_
  refine r_iadd (q := 55) C d_Sw_ask_54 rfl ?_
  refine r_cvV (q := 58) (As := [vA r1, vI (7 : Int32), vI v5, vI (x2 + ((64 : Int32) * x3))]) (st := []) (cy := 6) C d_Sw_ask_55 rfl Y_Sw_post L_Sw_81 I_Sw_post Se_Sw_post rfl (by decide) rfl (Nat.le_of_ble_eq_true rfl) (Nat.le_of_ble_eq_true rfl) (Nat.le_of_ble_eq_true rfl) rfl (fun a6 => con_Sw_post a6 r1 (7 : Int32) v5 (x2 + ((64 : Int32) * x3))) ?_
  exact r_vret C d_Sw_ask_58 rfl
theorem d_Sw_goBack_0 : decode c_Sw_goBack 0 = .ok (.aload_n 1, 1) := by decide +kernel
theorem d_Sw_goBack_1 : decode c_Sw_goBack 1 = .ok (.ifnonnull 4, 3) := by decide +kernel
theorem d_Sw_goBack_4 : decode c_Sw_goBack 4 = .ok (.return_, 1) := by decide +kernel
theorem d_Sw_goBack_5 : decode c_Sw_goBack 5 = .ok (.iload_n 2, 1) := by decide +kernel
theorem d_Sw_goBack_6 : decode c_Sw_goBack 6 = .ok (.bipush 8, 2) := by decide +kernel
theorem d_Sw_goBack_8 : decode c_Sw_goBack 8 = .ok (.if_icmp .ne 7, 3) := by decide +kernel
theorem d_Sw_goBack_11 : decode c_Sw_goBack 11 = .ok (.iconst 1, 1) := by decide +kernel
theorem d_Sw_goBack_12 : decode c_Sw_goBack 12 = .ok (.goto 4, 3) := by decide +kernel
theorem d_Sw_goBack_15 : decode c_Sw_goBack 15 = .ok (.iconst 0, 1) := by decide +kernel
theorem d_Sw_goBack_16 : decode c_Sw_goBack 16 = .ok (.istore_n 3, 1) := by decide +kernel
theorem d_Sw_goBack_17 : decode c_Sw_goBack 17 = .ok (.aload_n 1, 1) := by decide +kernel
theorem d_Sw_goBack_18 : decode c_Sw_goBack 18 = .ok (.invokevirtual 85, 3) := by decide +kernel
theorem d_Sw_goBack_21 : decode c_Sw_goBack 21 = .ok (.ifCond .eq 35, 3) := by decide +kernel
theorem d_Sw_goBack_24 : decode c_Sw_goBack 24 = .ok (.aload_n 1, 1) := by decide +kernel
theorem d_Sw_goBack_25 : decode c_Sw_goBack 25 = .ok (.getfield 47, 3) := by decide +kernel
theorem d_Sw_goBack_28 : decode c_Sw_goBack 28 = .ok (.iload_n 3, 1) := by decide +kernel
theorem d_Sw_goBack_29 : decode c_Sw_goBack 29 = .ok (.ifCond .eq 7, 3) := by decide +kernel
theorem d_Sw_goBack_32 : decode c_Sw_goBack 32 = .ok (.iconst 1, 1) := by decide +kernel
theorem d_Sw_goBack_33 : decode c_Sw_goBack 33 = .ok (.goto 4, 3) := by decide +kernel
theorem d_Sw_goBack_36 : decode c_Sw_goBack 36 = .ok (.iconst 2, 1) := by decide +kernel
theorem d_Sw_goBack_37 : decode c_Sw_goBack 37 = .ok (.if_icmp .ne 60, 3) := by decide +kernel
theorem d_Sw_goBack_40 : decode c_Sw_goBack 40 = .ok (.aload_n 1, 1) := by decide +kernel
theorem d_Sw_goBack_41 : decode c_Sw_goBack 41 = .ok (.iload_n 3, 1) := by decide +kernel
theorem d_Sw_goBack_42 : decode c_Sw_goBack 42 = .ok (.ifCond .eq 7, 3) := by decide +kernel
theorem d_Sw_goBack_45 : decode c_Sw_goBack 45 = .ok (.iconst 2, 1) := by decide +kernel
theorem d_Sw_goBack_46 : decode c_Sw_goBack 46 = .ok (.goto 4, 3) := by decide +kernel
theorem d_Sw_goBack_49 : decode c_Sw_goBack 49 = .ok (.iconst 4, 1) := by decide +kernel
theorem d_Sw_goBack_50 : decode c_Sw_goBack 50 = .ok (.putfield 47, 3) := by decide +kernel
theorem d_Sw_goBack_53 : decode c_Sw_goBack 53 = .ok (.goto 44, 3) := by decide +kernel
theorem d_Sw_goBack_56 : decode c_Sw_goBack 56 = .ok (.aload_n 1, 1) := by decide +kernel
theorem d_Sw_goBack_57 : decode c_Sw_goBack 57 = .ok (.getfield 47, 3) := by decide +kernel
theorem d_Sw_goBack_60 : decode c_Sw_goBack 60 = .ok (.iload_n 3, 1) := by decide +kernel
theorem d_Sw_goBack_61 : decode c_Sw_goBack 61 = .ok (.ifCond .eq 7, 3) := by decide +kernel
theorem d_Sw_goBack_64 : decode c_Sw_goBack 64 = .ok (.iconst 4, 1) := by decide +kernel
theorem d_Sw_goBack_65 : decode c_Sw_goBack 65 = .ok (.goto 4, 3) := by decide +kernel
theorem d_Sw_goBack_68 : decode c_Sw_goBack 68 = .ok (.iconst 5, 1) := by decide +kernel
theorem d_Sw_goBack_69 : decode c_Sw_goBack 69 = .ok (.if_icmp .ne 28, 3) := by decide +kernel
theorem d_Sw_goBack_72 : decode c_Sw_goBack 72 = .ok (.aload_n 1, 1) := by decide +kernel
theorem d_Sw_goBack_73 : decode c_Sw_goBack 73 = .ok (.iload_n 3, 1) := by decide +kernel
theorem d_Sw_goBack_74 : decode c_Sw_goBack 74 = .ok (.ifCond .eq 7, 3) := by decide +kernel
theorem d_Sw_goBack_77 : decode c_Sw_goBack 77 = .ok (.iconst 5, 1) := by decide +kernel
theorem d_Sw_goBack_78 : decode c_Sw_goBack 78 = .ok (.goto 5, 3) := by decide +kernel
theorem d_Sw_goBack_81 : decode c_Sw_goBack 81 = .ok (.bipush 6, 2) := by decide +kernel
theorem d_Sw_goBack_83 : decode c_Sw_goBack 83 = .ok (.putfield 47, 3) := by decide +kernel
theorem d_Sw_goBack_86 : decode c_Sw_goBack 86 = .ok (.aload_n 0, 1) := by decide +kernel
theorem d_Sw_goBack_87 : decode c_Sw_goBack 87 = .ok (.aload_n 1, 1) := by decide +kernel
theorem d_Sw_goBack_88 : decode c_Sw_goBack 88 = .ok (.iload_n 2, 1) := by decide +kernel
theorem d_Sw_goBack_89 : decode c_Sw_goBack 89 = .ok (.aload_n 1, 1) := by decide +kernel
theorem d_Sw_goBack_90 : decode c_Sw_goBack 90 = .ok (.getfield 78, 3) := by decide +kernel
theorem d_Sw_goBack_93 : decode c_Sw_goBack 93 = .ok (.iconst 0, 1) := by decide +kernel
theorem d_Sw_goBack_94 : decode c_Sw_goBack 94 = .ok (.invokevirtual 81, 3) := by decide +kernel
theorem d_Sw_goBack_97 : decode c_Sw_goBack 97 = .ok (.return_, 1) := by decide +kernel
def f_Sw_goBack_97 (a : Nat) : sn_M := r_V
set_option maxHeartbeats 4000000 in
set_option maxRecDepth 100000 in
theorem mono_Sw_goBack_97 (a : Nat) : sn_Mono (f_Sw_goBack_97 a) := sn_Mono.rV
set_option maxHeartbeats 4000000 in
set_option maxRecDepth 100000 in
theorem s_Sw_goBack_97 {X : sn_X} (C : sn_Cx X c_Sw_goBack "SignalNetwork$Switchboard" none "goBack" 4 2 52) (a : Nat) : sn_S X 97 [(0, vA (some a))] [] (f_Sw_goBack_97 a) := by
  unfold f_Sw_goBack_97
  exact r_vret C d_Sw_goBack_97 rfl
def f_Sw_goBack_50 (a : Nat) (t0 : Option Nat) (t1 : Int32) : sn_M := p_I 4 3 t0 t1 (f_Sw_goBack_97 a)
set_option maxHeartbeats 4000000 in
set_option maxRecDepth 100000 in
theorem mono_Sw_goBack_50 (a : Nat) (t0 : Option Nat) (t1 : Int32) : sn_Mono (f_Sw_goBack_50 a t0 t1) := sn_Mono.pI (mono_Sw_goBack_97 a)
set_option maxHeartbeats 4000000 in
set_option maxRecDepth 100000 in
theorem s_Sw_goBack_50 {X : sn_X} (C : sn_Cx X c_Sw_goBack "SignalNetwork$Switchboard" none "goBack" 4 2 52) (a : Nat) (t0 : Option Nat) (t1 : Int32) : sn_S X 50 [(0, vA (some a))] [vI t1, vA t0] (f_Sw_goBack_50 a t0 t1) := by
  unfold f_Sw_goBack_50
  refine r_pI (q := 53) C d_Sw_goBack_50 rfl F_Sw_47 rfl rfl (Or.inl rfl) ?_
  refine r_goto (tgt := 97) C d_Sw_goBack_53 (by decide) ?_
  exact s_Sw_goBack_97 C a
def f_Sw_goBack_37 (a : Nat) (r1 : Option Nat) (x3 : Int32) (t0 : Int32) (t1 : Int32) : sn_M := (if ¬ t0 = t1 then f_Sw_goBack_97 a else (if x3 = 0 then f_Sw_goBack_50 a r1 (4 : Int32) else f_Sw_goBack_50 a r1 (2 : Int32)))
set_option maxHeartbeats 4000000 in
set_option maxRecDepth 100000 in
theorem mono_Sw_goBack_37 (a : Nat) (r1 : Option Nat) (x3 : Int32) (t0 : Int32) (t1 : Int32) : sn_Mono (f_Sw_goBack_37 a r1 x3 t0 t1) := sn_Mono.ite (mono_Sw_goBack_97 a) (sn_Mono.ite (mono_Sw_goBack_50 a r1 (4 : Int32)) (mono_Sw_goBack_50 a r1 (2 : Int32)))
set_option maxHeartbeats 4000000 in
set_option maxRecDepth 100000 in
theorem s_Sw_goBack_37 {X : sn_X} (C : sn_Cx X c_Sw_goBack "SignalNetwork$Switchboard" none "goBack" 4 2 52) (a : Nat) (r1 : Option Nat) (x3 : Int32) (t0 : Int32) (t1 : Int32) : sn_S X 37 [(0, vA (some a)), (1, vA r1), (3, vI x3)] [vI t1, vI t0] (f_Sw_goBack_37 a r1 x3 t0 t1) := by
  unfold f_Sw_goBack_37
  refine r_icmp_ne (tgt := 97) (q := 40) C d_Sw_goBack_37 (by decide) rfl ?_ ?_
  · refine r_sub (lv' := [(0, vA (some a))]) [0] rfl ?_
    exact s_Sw_goBack_97 C a
  · refine r_aload_n (q := 41) (i := 1) (pl := 1) C d_Sw_goBack_40 rfl rfl rfl ?_
    refine r_iload_n (q := 42) (i := 3) (pl := 2) C d_Sw_goBack_41 rfl rfl rfl ?_
    refine r_if_eq (tgt := 49) (q := 45) C d_Sw_goBack_42 (by decide) rfl ?_ ?_
    · refine r_iconst (q := 50) (v := 4) C d_Sw_goBack_49 rfl (by decide) ?_
      refine r_sub (lv' := [(0, vA (some a))]) [0] rfl ?_
      exact s_Sw_goBack_50 C a r1 (4 : Int32)
    · refine r_iconst (q := 46) (v := 2) C d_Sw_goBack_45 rfl (by decide) ?_
      refine r_goto (tgt := 50) C d_Sw_goBack_46 (by decide) ?_
      refine r_sub (lv' := [(0, vA (some a))]) [0] rfl ?_
      exact s_Sw_goBack_50 C a r1 (2 : Int32)
def f_Sw_goBack_83 (a : Nat) (r1 : Option Nat) (x2 : Int32) (t0 : Option Nat) (t1 : Int32) : sn_M := p_I 4 3 t0 t1 (g_I 4 10 r1 fun v1 => n_n 7 (some a) fun a2 => c_V (f_Sw_post a2 r1 x2 v1 (0 : Int32)) (f_Sw_goBack_97 a))
set_option maxHeartbeats 4000000 in
set_option maxRecDepth 100000 in
theorem mono_Sw_goBack_83 (a : Nat) (r1 : Option Nat) (x2 : Int32) (t0 : Option Nat) (t1 : Int32) : sn_Mono (f_Sw_goBack_83 a r1 x2 t0 t1) := sn_Mono.pI (sn_Mono.gI (fun v1 => sn_Mono.nn (fun a2 => sn_Mono.cV (mono_Sw_post a2 r1 x2 v1 (0 : Int32)) (mono_Sw_goBack_97 a))))
set_option maxHeartbeats 4000000 in
set_option maxRecDepth 100000 in
theorem s_Sw_goBack_83 {X : sn_X} (C : sn_Cx X c_Sw_goBack "SignalNetwork$Switchboard" none "goBack" 4 2 52) (a : Nat) (r1 : Option Nat) (x2 : Int32) (t0 : Option Nat) (t1 : Int32) : sn_S X 83 [(0, vA (some a)), (1, vA r1), (2, vI x2)] [vI t1, vA t0] (f_Sw_goBack_83 a r1 x2 t0 t1) := by
  unfold f_Sw_goBack_83
  refine r_pI (q := 86) C d_Sw_goBack_83 rfl F_Sw_47 rfl rfl (Or.inl rfl) ?_
  refine r_aload_n (q := 87) (i := 0) (pl := 0) C d_Sw_goBack_86 rfl rfl rfl ?_
  refine r_aload_n (q := 88) (i := 1) (pl := 1) C d_Sw_goBack_87 rfl rfl rfl ?_
  refine r_iload_n (q := 89) (i := 2) (pl := 2) C d_Sw_goBack_88 rfl rfl rfl ?_
  refine r_aload_n (q := 90) (i := 1) (pl := 1) C d_Sw_goBack_89 rfl rfl rfl ?_
  refine r_gI (q := 93) C d_Sw_goBack_90 rfl F_Sw_78 rfl (fun v1 => ?_)
  refine r_iconst (q := 94) (v := 0) C d_Sw_goBack_93 rfl (by decide) ?_
  refine r_cvV (q := 97) (As := [vA r1, vI x2, vI v1, vI (0 : Int32)]) (st := []) (cy := 6) C d_Sw_goBack_94 rfl Y_Sw_post L_Sw_81 I_Sw_post Se_Sw_post rfl (by decide) rfl (Nat.le_of_ble_eq_true rfl) (Nat.le_of_ble_eq_true rfl) (Nat.le_of_ble_eq_true rfl) rfl (fun a2 => con_Sw_post a2 r1 x2 v1 (0 : Int32)) ?_
  refine r_sub (lv' := [(0, vA (some a))]) [0] rfl ?_
  exact s_Sw_goBack_97 C a
def f_Sw_goBack_69 (a : Nat) (r1 : Option Nat) (x2 : Int32) (x3 : Int32) (t0 : Int32) (t1 : Int32) : sn_M := (if ¬ t0 = t1 then f_Sw_goBack_97 a else (if x3 = 0 then f_Sw_goBack_83 a r1 x2 r1 (6 : Int32) else f_Sw_goBack_83 a r1 x2 r1 (5 : Int32)))
set_option maxHeartbeats 4000000 in
set_option maxRecDepth 100000 in
theorem mono_Sw_goBack_69 (a : Nat) (r1 : Option Nat) (x2 : Int32) (x3 : Int32) (t0 : Int32) (t1 : Int32) : sn_Mono (f_Sw_goBack_69 a r1 x2 x3 t0 t1) := sn_Mono.ite (mono_Sw_goBack_97 a) (sn_Mono.ite (mono_Sw_goBack_83 a r1 x2 r1 (6 : Int32)) (mono_Sw_goBack_83 a r1 x2 r1 (5 : Int32)))
set_option maxHeartbeats 4000000 in
set_option maxRecDepth 100000 in
theorem s_Sw_goBack_69 {X : sn_X} (C : sn_Cx X c_Sw_goBack "SignalNetwork$Switchboard" none "goBack" 4 2 52) (a : Nat) (r1 : Option Nat) (x2 : Int32) (x3 : Int32) (t0 : Int32) (t1 : Int32) : sn_S X 69 [(0, vA (some a)), (1, vA r1), (2, vI x2), (3, vI x3)] [vI t1, vI t0] (f_Sw_goBack_69 a r1 x2 x3 t0 t1) := by
  unfold f_Sw_goBack_69
  refine r_icmp_ne (tgt := 97) (q := 72) C d_Sw_goBack_69 (by decide) rfl ?_ ?_
  · refine r_sub (lv' := [(0, vA (some a))]) [0] rfl ?_
    exact s_Sw_goBack_97 C a
  · refine r_aload_n (q := 73) (i := 1) (pl := 1) C d_Sw_goBack_72 rfl rfl rfl ?_
    refine r_iload_n (q := 74) (i := 3) (pl := 3) C d_Sw_goBack_73 rfl rfl rfl ?_
    refine r_if_eq (tgt := 81) (q := 77) C d_Sw_goBack_74 (by decide) rfl ?_ ?_
    · refine r_bipush (q := 83) (v := 6) C d_Sw_goBack_81 rfl (by decide) ?_
      refine r_sub (lv' := [(0, vA (some a)), (1, vA r1), (2, vI x2)]) [0, 1, 2] rfl ?_
      exact s_Sw_goBack_83 C a r1 x2 r1 (6 : Int32)
    · refine r_iconst (q := 78) (v := 5) C d_Sw_goBack_77 rfl (by decide) ?_
      refine r_goto (tgt := 83) C d_Sw_goBack_78 (by decide) ?_
      refine r_sub (lv' := [(0, vA (some a)), (1, vA r1), (2, vI x2)]) [0, 1, 2] rfl ?_
      exact s_Sw_goBack_83 C a r1 x2 r1 (5 : Int32)
def f_Sw_goBack_16 (a : Nat) (r1 : Option Nat) (x2 : Int32) (t0 : Int32) : sn_M := n_n 4 r1 fun a4 => c_I (f_Lg_isSubscriber a4) fun v5 => (if v5 = 0 then g_I 4 3 r1 fun v6 => (if t0 = 0 then f_Sw_goBack_69 a r1 x2 t0 v6 (5 : Int32) else f_Sw_goBack_69 a r1 x2 t0 v6 (4 : Int32)) else g_I 4 3 r1 fun v7 => (if t0 = 0 then f_Sw_goBack_37 a r1 t0 v7 (2 : Int32) else f_Sw_goBack_37 a r1 t0 v7 (1 : Int32)))
set_option maxHeartbeats 4000000 in
set_option maxRecDepth 100000 in
theorem mono_Sw_goBack_16 (a : Nat) (r1 : Option Nat) (x2 : Int32) (t0 : Int32) : sn_Mono (f_Sw_goBack_16 a r1 x2 t0) := sn_Mono.nn (fun a4 => sn_Mono.cI (mono_Lg_isSubscriber a4) (fun v5 => sn_Mono.ite (sn_Mono.gI (fun v6 => sn_Mono.ite (mono_Sw_goBack_69 a r1 x2 t0 v6 (5 : Int32)) (mono_Sw_goBack_69 a r1 x2 t0 v6 (4 : Int32)))) (sn_Mono.gI (fun v7 => sn_Mono.ite (mono_Sw_goBack_37 a r1 t0 v7 (2 : Int32)) (mono_Sw_goBack_37 a r1 t0 v7 (1 : Int32))))))
set_option maxHeartbeats 4000000 in
set_option maxRecDepth 100000 in
theorem s_Sw_goBack_16 {X : sn_X} (C : sn_Cx X c_Sw_goBack "SignalNetwork$Switchboard" none "goBack" 4 2 52) (a : Nat) (r1 : Option Nat) (x2 : Int32) (t0 : Int32) : sn_S X 16 [(0, vA (some a)), (1, vA r1), (2, vI x2)] [vI t0] (f_Sw_goBack_16 a r1 x2 t0) := by
  unfold f_Sw_goBack_16
  refine r_istore_n (q := 17) (i := 3) (lv' := [(3, vI t0), (0, vA (some a)), (1, vA r1), (2, vI x2)]) C d_Sw_goBack_16 rfl rfl (by decide) rfl ?_
  refine r_aload_n (q := 18) (i := 1) (pl := 2) C d_Sw_goBack_17 rfl rfl rfl ?_
  refine r_cvI (q := 21) (As := []) (st := []) (cy := 3) C d_Sw_goBack_18 rfl Y_Lg_isSubscriber L_Sw_85 I_Lg_isSubscriber Se_Lg_isSubscriber rfl (by decide) rfl (Nat.le_of_ble_eq_true rfl) (Nat.le_of_ble_eq_true rfl) (Nat.le_of_ble_eq_true rfl) rfl (fun a4 => con_Lg_isSubscriber a4) (fun v5 => ?_)
  refine r_if_eq (tgt := 56) (q := 24) C d_Sw_goBack_21 (by decide) rfl ?_ ?_
  · refine r_aload_n (q := 57) (i := 1) (pl := 2) C d_Sw_goBack_56 rfl rfl rfl ?_
    refine r_gI (q := 60) C d_Sw_goBack_57 rfl F_Sw_47 rfl (fun v6 => ?_)
    refine r_iload_n (q := 61) (i := 3) (pl := 0) C d_Sw_goBack_60 rfl rfl rfl ?_
    refine r_if_eq (tgt := 68) (q := 64) C d_Sw_goBack_61 (by decide) rfl ?_ ?_
    · refine r_iconst (q := 69) (v := 5) C d_Sw_goBack_68 rfl (by decide) ?_
      refine r_sub (lv' := [(0, vA (some a)), (1, vA r1), (2, vI x2), (3, vI t0)]) [1, 2, 3, 0] rfl ?_
      exact s_Sw_goBack_69 C a r1 x2 t0 v6 (5 : Int32)
    · refine r_iconst (q := 65) (v := 4) C d_Sw_goBack_64 rfl (by decide) ?_
      refine r_goto (tgt := 69) C d_Sw_goBack_65 (by decide) ?_
      refine r_sub (lv' := [(0, vA (some a)), (1, vA r1), (2, vI x2), (3, vI t0)]) [1, 2, 3, 0] rfl ?_
      exact s_Sw_goBack_69 C a r1 x2 t0 v6 (4 : Int32)
  · refine r_aload_n (q := 25) (i := 1) (pl := 2) C d_Sw_goBack_24 rfl rfl rfl ?_
    refine r_gI (q := 28) C d_Sw_goBack_25 rfl F_Sw_47 rfl (fun v7 => ?_)
    refine r_iload_n (q := 29) (i := 3) (pl := 0) C d_Sw_goBack_28 rfl rfl rfl ?_
    refine r_if_eq (tgt := 36) (q := 32) C d_Sw_goBack_29 (by decide) rfl ?_ ?_
    · refine r_iconst (q := 37) (v := 2) C d_Sw_goBack_36 rfl (by decide) ?_
      refine r_sub (lv' := [(0, vA (some a)), (1, vA r1), (3, vI t0)]) [1, 2, 0] rfl ?_
      exact s_Sw_goBack_37 C a r1 t0 v7 (2 : Int32)
    · refine r_iconst (q := 33) (v := 1) C d_Sw_goBack_32 rfl (by decide) ?_
      refine r_goto (tgt := 37) C d_Sw_goBack_33 (by decide) ?_
      refine r_sub (lv' := [(0, vA (some a)), (1, vA r1), (3, vI t0)]) [1, 2, 0] rfl ?_
      exact s_Sw_goBack_37 C a r1 t0 v7 (1 : Int32)
def f_Sw_goBack (a : Nat) (r1 : Option Nat) (x2 : Int32) : sn_M := (if ¬ r1 = none then (if ¬ x2 = (8 : Int32) then f_Sw_goBack_16 a r1 x2 (0 : Int32) else f_Sw_goBack_16 a r1 x2 (1 : Int32)) else r_V)
set_option maxHeartbeats 4000000 in
set_option maxRecDepth 100000 in
theorem mono_Sw_goBack (a : Nat) (r1 : Option Nat) (x2 : Int32) : sn_Mono (f_Sw_goBack a r1 x2) := sn_Mono.ite (sn_Mono.ite (mono_Sw_goBack_16 a r1 x2 (0 : Int32)) (mono_Sw_goBack_16 a r1 x2 (1 : Int32))) (sn_Mono.rV)
set_option maxHeartbeats 4000000 in
set_option maxRecDepth 100000 in
theorem con_Sw_goBack (a : Nat) (r1 : Option Nat) (x2 : Int32) : sn_Con y_Sw_goBack c_Sw_goBack 4 none 2 52 [vA (some a), vA r1, vI x2] (f_Sw_goBack a r1 x2) := by
  refine sn_Con.of (by decide +kernel) (by show _ ≤ _; exact Nat.le_of_ble_eq_true rfl) (mono_Sw_goBack a r1 x2) (fun X C => ?_)
  show sn_S X 0 [(0, vA (some a)), (1, vA r1), (2, vI x2)] [] _
  replace C : sn_Cx X c_Sw_goBack "SignalNetwork$Switchboard" none "goBack" 4 2 52 := C
  unfold f_Sw_goBack
  refine r_aload_n (q := 1) (i := 1) (pl := 1) C d_Sw_goBack_0 rfl rfl rfl ?_
  refine r_ifnonnull (tgt := 5) (q := 4) C d_Sw_goBack_1 (by decide) rfl ?_ ?_
  · refine r_iload_n (q := 6) (i := 2) (pl := 2) C d_Sw_goBack_5 rfl rfl rfl ?_
    refine r_bipush (q := 8) (v := 8) C d_Sw_goBack_6 rfl (by decide) ?_
    refine r_icmp_ne (tgt := 15) (q := 11) C d_Sw_goBack_8 (by decide) rfl ?_ ?_
    · refine r_iconst (q := 16) (v := 0) C d_Sw_goBack_15 rfl (by decide) ?_
      exact s_Sw_goBack_16 C a r1 x2 (0 : Int32)
    · refine r_iconst (q := 12) (v := 1) C d_Sw_goBack_11 rfl (by decide) ?_
      refine r_goto (tgt := 16) C d_Sw_goBack_12 (by decide) ?_
      exact s_Sw_goBack_16 C a r1 x2 (1 : Int32)
  · exact r_vret C d_Sw_goBack_4 rfl
theorem d_Sw_idleCircuit_0 : decode c_Sw_idleCircuit 0 = .ok (.aload_n 1, 1) := by decide +kernel
theorem d_Sw_idleCircuit_1 : decode c_Sw_idleCircuit 1 = .ok (.getfield 126, 3) := by decide +kernel
theorem d_Sw_idleCircuit_4 : decode c_Sw_idleCircuit 4 = .ok (.iconst 1, 1) := by decide +kernel
theorem d_Sw_idleCircuit_5 : decode c_Sw_idleCircuit 5 = .ok (.iadd, 1) := by decide +kernel
theorem d_Sw_idleCircuit_6 : decode c_Sw_idleCircuit 6 = .ok (.bipush 7, 2) := by decide +kernel
theorem d_Sw_idleCircuit_8 : decode c_Sw_idleCircuit 8 = .ok (.if_icmp .lt 5, 3) := by decide +kernel
theorem d_Sw_idleCircuit_11 : decode c_Sw_idleCircuit 11 = .ok (.aconst_null, 1) := by decide +kernel
theorem d_Sw_idleCircuit_12 : decode c_Sw_idleCircuit 12 = .ok (.areturn, 1) := by decide +kernel
theorem d_Sw_idleCircuit_13 : decode c_Sw_idleCircuit 13 = .ok (.iconst 0, 1) := by decide +kernel
theorem d_Sw_idleCircuit_14 : decode c_Sw_idleCircuit 14 = .ok (.istore_n 3, 1) := by decide +kernel
theorem d_Sw_idleCircuit_15 : decode c_Sw_idleCircuit 15 = .ok (.iload_n 3, 1) := by decide +kernel
theorem d_Sw_idleCircuit_16 : decode c_Sw_idleCircuit 16 = .ok (.bipush 8, 2) := by decide +kernel
theorem d_Sw_idleCircuit_18 : decode c_Sw_idleCircuit 18 = .ok (.if_icmp .ge 82, 3) := by decide +kernel
theorem d_Sw_idleCircuit_21 : decode c_Sw_idleCircuit 21 = .ok (.aload_n 0, 1) := by decide +kernel
theorem d_Sw_idleCircuit_22 : decode c_Sw_idleCircuit 22 = .ok (.getfield 29, 3) := by decide +kernel
theorem d_Sw_idleCircuit_25 : decode c_Sw_idleCircuit 25 = .ok (.aload_n 1, 1) := by decide +kernel
theorem d_Sw_idleCircuit_26 : decode c_Sw_idleCircuit 26 = .ok (.getfield 92, 3) := by decide +kernel
theorem d_Sw_idleCircuit_29 : decode c_Sw_idleCircuit 29 = .ok (.iload_n 2, 1) := by decide +kernel
theorem d_Sw_idleCircuit_30 : decode c_Sw_idleCircuit 30 = .ok (.iload_n 3, 1) := by decide +kernel
theorem d_Sw_idleCircuit_31 : decode c_Sw_idleCircuit 31 = .ok (.iconst 4, 1) := by decide +kernel
theorem d_Sw_idleCircuit_32 : decode c_Sw_idleCircuit 32 = .ok (.idiv, 1) := by decide +kernel
theorem d_Sw_idleCircuit_33 : decode c_Sw_idleCircuit 33 = .ok (.invokevirtual 133, 3) := by decide +kernel
theorem d_Sw_idleCircuit_36 : decode c_Sw_idleCircuit 36 = .ok (.istore 4, 2) := by decide +kernel
theorem d_Sw_idleCircuit_38 : decode c_Sw_idleCircuit 38 = .ok (.iload 4, 2) := by decide +kernel
theorem d_Sw_idleCircuit_40 : decode c_Sw_idleCircuit 40 = .ok (.aload_n 1, 1) := by decide +kernel
theorem d_Sw_idleCircuit_41 : decode c_Sw_idleCircuit 41 = .ok (.getfield 89, 3) := by decide +kernel
theorem d_Sw_idleCircuit_44 : decode c_Sw_idleCircuit 44 = .ok (.if_icmp .eq 7, 3) := by decide +kernel
theorem d_Sw_idleCircuit_47 : decode c_Sw_idleCircuit 47 = .ok (.iconst 1, 1) := by decide +kernel
theorem d_Sw_idleCircuit_48 : decode c_Sw_idleCircuit 48 = .ok (.goto 4, 3) := by decide +kernel
theorem d_Sw_idleCircuit_51 : decode c_Sw_idleCircuit 51 = .ok (.iconst 0, 1) := by decide +kernel
theorem d_Sw_idleCircuit_52 : decode c_Sw_idleCircuit 52 = .ok (.istore 5, 2) := by decide +kernel
theorem d_Sw_idleCircuit_54 : decode c_Sw_idleCircuit 54 = .ok (.iload 5, 2) := by decide +kernel
theorem d_Sw_idleCircuit_56 : decode c_Sw_idleCircuit 56 = .ok (.ifCond .eq 19, 3) := by decide +kernel
theorem d_Sw_idleCircuit_59 : decode c_Sw_idleCircuit 59 = .ok (.aload_n 0, 1) := by decide +kernel
theorem d_Sw_idleCircuit_60 : decode c_Sw_idleCircuit 60 = .ok (.aload_n 1, 1) := by decide +kernel
theorem d_Sw_idleCircuit_61 : decode c_Sw_idleCircuit 61 = .ok (.getfield 92, 3) := by decide +kernel
theorem d_Sw_idleCircuit_64 : decode c_Sw_idleCircuit 64 = .ok (.iload 4, 2) := by decide +kernel
theorem d_Sw_idleCircuit_66 : decode c_Sw_idleCircuit 66 = .ok (.iload_n 3, 1) := by decide +kernel
theorem d_Sw_idleCircuit_67 : decode c_Sw_idleCircuit 67 = .ok (.iconst 4, 1) := by decide +kernel
theorem d_Sw_idleCircuit_68 : decode c_Sw_idleCircuit 68 = .ok (.irem, 1) := by decide +kernel
theorem d_Sw_idleCircuit_69 : decode c_Sw_idleCircuit 69 = .ok (.invokevirtual 70, 3) := by decide +kernel
theorem d_Sw_idleCircuit_72 : decode c_Sw_idleCircuit 72 = .ok (.goto 4, 3) := by decide +kernel
theorem d_Sw_idleCircuit_75 : decode c_Sw_idleCircuit 75 = .ok (.aconst_null, 1) := by decide +kernel
theorem d_Sw_idleCircuit_76 : decode c_Sw_idleCircuit 76 = .ok (.astore 6, 2) := by decide +kernel
theorem d_Sw_idleCircuit_78 : decode c_Sw_idleCircuit 78 = .ok (.aload 6, 2) := by decide +kernel
theorem d_Sw_idleCircuit_80 : decode c_Sw_idleCircuit 80 = .ok (.ifnull 14, 3) := by decide +kernel
theorem d_Sw_idleCircuit_83 : decode c_Sw_idleCircuit 83 = .ok (.aload 6, 2) := by decide +kernel
theorem d_Sw_idleCircuit_85 : decode c_Sw_idleCircuit 85 = .ok (.invokevirtual 139, 3) := by decide +kernel
theorem d_Sw_idleCircuit_88 : decode c_Sw_idleCircuit 88 = .ok (.ifCond .eq 6, 3) := by decide +kernel
theorem d_Sw_idleCircuit_91 : decode c_Sw_idleCircuit 91 = .ok (.aload 6, 2) := by decide +kernel
theorem d_Sw_idleCircuit_93 : decode c_Sw_idleCircuit 93 = .ok (.areturn, 1) := by decide +kernel
theorem d_Sw_idleCircuit_94 : decode c_Sw_idleCircuit 94 = .ok (.iinc 3 1, 3) := by decide +kernel
theorem d_Sw_idleCircuit_97 : decode c_Sw_idleCircuit 97 = .ok (.goto (-82), 3) := by decide +kernel
theorem d_Sw_idleCircuit_100 : decode c_Sw_idleCircuit 100 = .ok (.aconst_null, 1) := by decide +kernel
theorem d_Sw_idleCircuit_101 : decode c_Sw_idleCircuit 101 = .ok (.areturn, 1) := by decide +kernel
def f_Sw_idleCircuit_94 (k15 : Option Nat → Int32 → Int32 → sn_M) (a : Nat) (r1 : Option Nat) (x2 : Int32) (x3 : Int32) : sn_M := k15 r1 x2 (x3 + (1 : Int32))
set_option maxHeartbeats 4000000 in
set_option maxRecDepth 100000 in
theorem mono_Sw_idleCircuit_94 (k15 : Option Nat → Int32 → Int32 → sn_M) (mk15 : ∀ (r1 : Option Nat) (x2 : Int32) (x3 : Int32), sn_Mono (k15 r1 x2 x3)) (a : Nat) (r1 : Option Nat) (x2 : Int32) (x3 : Int32) : sn_Mono (f_Sw_idleCircuit_94 k15 a r1 x2 x3) := mk15 r1 x2 (x3 + (1 : Int32))
set_option maxHeartbeats 4000000 in
set_option maxRecDepth 100000 in
theorem s_Sw_idleCircuit_94 {X : sn_X} (C : sn_Cx X c_Sw_idleCircuit "SignalNetwork$Switchboard" (some (.object "SignalNetwork$Leg")) "idleCircuit" 7 1 25) (a : Nat) (k15 : Option Nat → Int32 → Int32 → sn_M) (hk15 : ∀ (r1 : Option Nat) (x2 : Int32) (x3 : Int32), sn_S X 15 [(0, vA (some a)), (1, vA r1), (2, vI x2), (3, vI x3)] [] (k15 r1 x2 x3)) (r1 : Option Nat) (x2 : Int32) (x3 : Int32) : sn_S X 94 [(0, vA (some a)), (1, vA r1), (2, vI x2), (3, vI x3)] [] (f_Sw_idleCircuit_94 k15 a r1 x2 x3) := by
  unfold f_Sw_idleCircuit_94
  refine r_iinc (q := 97) (pl := 3) (v := x3 + (1 : Int32)) (lv' := [(3, vI (x3 + (1 : Int32))), (0, vA (some a)), (1, vA r1), (2, vI x2)]) C d_Sw_idleCircuit_94 rfl rfl rfl (by decide) rfl ?_
  refine r_goto (tgt := 15) C d_Sw_idleCircuit_97 (by decide) ?_
  refine r_sub (lv' := [(0, vA (some a)), (1, vA r1), (2, vI x2), (3, vI (x3 + (1 : Int32)))]) [1, 2, 3, 0] rfl ?_
  exact hk15 r1 x2 (x3 + (1 : Int32))
def f_Sw_idleCircuit_76 (k15 : Option Nat → Int32 → Int32 → sn_M) (a : Nat) (r1 : Option Nat) (x2 : Int32) (x3 : Int32) (t0 : Option Nat) : sn_M := (if t0 = none then f_Sw_idleCircuit_94 k15 a r1 x2 x3 else n_n 4 t0 fun a1 => c_I (f_Lg_isFree a1) fun v2 => (if v2 = 0 then f_Sw_idleCircuit_94 k15 a r1 x2 x3 else r_R t0))
set_option maxHeartbeats 4000000 in
set_option maxRecDepth 100000 in
theorem mono_Sw_idleCircuit_76 (k15 : Option Nat → Int32 → Int32 → sn_M) (mk15 : ∀ (r1 : Option Nat) (x2 : Int32) (x3 : Int32), sn_Mono (k15 r1 x2 x3)) (a : Nat) (r1 : Option Nat) (x2 : Int32) (x3 : Int32) (t0 : Option Nat) : sn_Mono (f_Sw_idleCircuit_76 k15 a r1 x2 x3 t0) := sn_Mono.ite (mono_Sw_idleCircuit_94 k15 mk15 a r1 x2 x3) (sn_Mono.nn (fun a1 => sn_Mono.cI (mono_Lg_isFree a1) (fun v2 => sn_Mono.ite (mono_Sw_idleCircuit_94 k15 mk15 a r1 x2 x3) (sn_Mono.rR))))
set_option maxHeartbeats 4000000 in
set_option maxRecDepth 100000 in
theorem s_Sw_idleCircuit_76 {X : sn_X} (C : sn_Cx X c_Sw_idleCircuit "SignalNetwork$Switchboard" (some (.object "SignalNetwork$Leg")) "idleCircuit" 7 1 25) (a : Nat) (k15 : Option Nat → Int32 → Int32 → sn_M) (hk15 : ∀ (r1 : Option Nat) (x2 : Int32) (x3 : Int32), sn_S X 15 [(0, vA (some a)), (1, vA r1), (2, vI x2), (3, vI x3)] [] (k15 r1 x2 x3)) (r1 : Option Nat) (x2 : Int32) (x3 : Int32) (t0 : Option Nat) : sn_S X 76 [(0, vA (some a)), (1, vA r1), (2, vI x2), (3, vI x3)] [vA t0] (f_Sw_idleCircuit_76 k15 a r1 x2 x3 t0) := by
  unfold f_Sw_idleCircuit_76
  refine r_astore (q := 78) (i := 6) (lv' := [(6, vA t0), (0, vA (some a)), (1, vA r1), (2, vI x2), (3, vI x3)]) C d_Sw_idleCircuit_76 rfl (by decide) rfl ?_
  refine r_aload (q := 80) (i := 6) (pl := 0) C d_Sw_idleCircuit_78 rfl rfl ?_
  refine r_ifnull (tgt := 94) (q := 83) C d_Sw_idleCircuit_80 (by decide) rfl ?_ ?_
  · refine r_sub (lv' := [(0, vA (some a)), (1, vA r1), (2, vI x2), (3, vI x3)]) [1, 2, 3, 4] rfl ?_
    exact s_Sw_idleCircuit_94 C a k15 hk15 r1 x2 x3
  · refine r_aload (q := 85) (i := 6) (pl := 0) C d_Sw_idleCircuit_83 rfl rfl ?_
    refine r_cvI (q := 88) (As := []) (st := []) (cy := 3) C d_Sw_idleCircuit_85 rfl Y_Lg_isFree L_Sw_139 I_Lg_isFree Se_Lg_isFree rfl (by decide) rfl (Nat.le_of_ble_eq_true rfl) (Nat.le_of_ble_eq_true rfl) (Nat.le_of_ble_eq_true rfl) rfl (fun a1 => con_Lg_isFree a1) (fun v2 => ?_)
    refine r_if_eq (tgt := 94) (q := 91) C d_Sw_idleCircuit_88 (by decide) rfl ?_ ?_
    · refine r_sub (lv' := [(0, vA (some a)), (1, vA r1), (2, vI x2), (3, vI x3)]) [1, 2, 3, 4] rfl ?_
      exact s_Sw_idleCircuit_94 C a k15 hk15 r1 x2 x3
    · refine r_aload (q := 93) (i := 6) (pl := 0) C d_Sw_idleCircuit_91 rfl rfl ?_
      exact r_aret C d_Sw_idleCircuit_93 rfl (Or.inl ⟨_, rfl⟩)
def f_Sw_idleCircuit_52 (k15 : Option Nat → Int32 → Int32 → sn_M) (a : Nat) (r1 : Option Nat) (x2 : Int32) (x3 : Int32) (x4 : Int32) (t0 : Int32) : sn_M := (if t0 = 0 then f_Sw_idleCircuit_76 k15 a r1 x2 x3 none else g_I 4 0 r1 fun v3 => n_n 7 (some a) fun a4 => c_R (f_Sw_circuitAt a4 v3 x4 (x3 % (4 : Int32))) fun v5 => f_Sw_idleCircuit_76 k15 a r1 x2 x3 v5)
set_option maxHeartbeats 4000000 in
set_option maxRecDepth 100000 in
theorem mono_Sw_idleCircuit_52 (k15 : Option Nat → Int32 → Int32 → sn_M) (mk15 : ∀ (r1 : Option Nat) (x2 : Int32) (x3 : Int32), sn_Mono (k15 r1 x2 x3)) (a : Nat) (r1 : Option Nat) (x2 : Int32) (x3 : Int32) (x4 : Int32) (t0 : Int32) : sn_Mono (f_Sw_idleCircuit_52 k15 a r1 x2 x3 x4 t0) := sn_Mono.ite (mono_Sw_idleCircuit_76 k15 mk15 a r1 x2 x3 none) (sn_Mono.gI (fun v3 => sn_Mono.nn (fun a4 => sn_Mono.cR (mono_Sw_circuitAt a4 v3 x4 (x3 % (4 : Int32))) (fun v5 => mono_Sw_idleCircuit_76 k15 mk15 a r1 x2 x3 v5))))
set_option maxHeartbeats 4000000 in
set_option maxRecDepth 100000 in
theorem s_Sw_idleCircuit_52 {X : sn_X} (C : sn_Cx X c_Sw_idleCircuit "SignalNetwork$Switchboard" (some (.object "SignalNetwork$Leg")) "idleCircuit" 7 1 25) (a : Nat) (k15 : Option Nat → Int32 → Int32 → sn_M) (hk15 : ∀ (r1 : Option Nat) (x2 : Int32) (x3 : Int32), sn_S X 15 [(0, vA (some a)), (1, vA r1), (2, vI x2), (3, vI x3)] [] (k15 r1 x2 x3)) (r1 : Option Nat) (x2 : Int32) (x3 : Int32) (x4 : Int32) (t0 : Int32) : sn_S X 52 [(0, vA (some a)), (1, vA r1), (2, vI x2), (3, vI x3), (4, vI x4)] [vI t0] (f_Sw_idleCircuit_52 k15 a r1 x2 x3 x4 t0) := by
  unfold f_Sw_idleCircuit_52
  refine r_istore (q := 54) (i := 5) (lv' := [(5, vI t0), (0, vA (some a)), (1, vA r1), (2, vI x2), (3, vI x3), (4, vI x4)]) C d_Sw_idleCircuit_52 rfl (by decide) rfl ?_
  refine r_iload (q := 56) (i := 5) (pl := 0) C d_Sw_idleCircuit_54 rfl rfl ?_
  refine r_if_eq (tgt := 75) (q := 59) C d_Sw_idleCircuit_56 (by decide) rfl ?_ ?_
  · refine r_null (q := 76) C d_Sw_idleCircuit_75 rfl ?_
    refine r_sub (lv' := [(0, vA (some a)), (1, vA r1), (2, vI x2), (3, vI x3)]) [1, 2, 3, 4] rfl ?_
    exact s_Sw_idleCircuit_76 C a k15 hk15 r1 x2 x3 none
  · refine r_aload_n (q := 60) (i := 0) (pl := 1) C d_Sw_idleCircuit_59 rfl rfl rfl ?_
    refine r_aload_n (q := 61) (i := 1) (pl := 2) C d_Sw_idleCircuit_60 rfl rfl rfl ?_
    refine r_gI (q := 64) C d_Sw_idleCircuit_61 rfl F_Sw_92 rfl (fun v3 => ?_)
    refine r_iload (q := 66) (i := 4) (pl := 5) C d_Sw_idleCircuit_64 rfl rfl ?_
    refine r_iload_n (q := 67) (i := 3) (pl := 4) C d_Sw_idleCircuit_66 rfl rfl rfl ?_
    refine r_iconst (q := 68) (v := 4) C d_Sw_idleCircuit_67 rfl (by decide) ?_
    refine r_iremc (q := 69) C d_Sw_idleCircuit_68 rfl (by decide) ?_
    refine r_cvR (q := 72) (As := [vI v3, vI x4, vI (x3 % (4 : Int32))]) (st := []) (cy := 6) C d_Sw_idleCircuit_69 rfl Y_Sw_circuitAt L_Sw_70 I_Sw_circuitAt Se_Sw_circuitAt rfl (by decide) rfl (Nat.le_of_ble_eq_true rfl) (Nat.le_of_ble_eq_true rfl) (Nat.le_of_ble_eq_true rfl) rfl (fun a4 => con_Sw_circuitAt a4 v3 x4 (x3 % (4 : Int32))) (fun v5 => ?_)
    refine r_goto (tgt := 76) C d_Sw_idleCircuit_72 (by decide) ?_
    refine r_sub (lv' := [(0, vA (some a)), (1, vA r1), (2, vI x2), (3, vI x3)]) [1, 2, 3, 4] rfl ?_
    exact s_Sw_idleCircuit_76 C a k15 hk15 r1 x2 x3 v5
def f_Sw_idleCircuit_15 (a : Nat) : Nat → Option Nat → Int32 → Int32 → sn_M
  | 0, _, _, _ => r_0
  | n + 1, r1, x2, x3 => (if (8 : Int32) ≤ x3 then r_R none else g_R 7 0 (some a) fun v6 => g_I 4 0 r1 fun v7 => n_n 5 v6 fun a8 => c_I (f_Pl_told a8 v7 x2 (x3 / (4 : Int32))) fun v9 => g_I 4 1 r1 fun v10 => (if v9 = v10 then f_Sw_idleCircuit_52 (f_Sw_idleCircuit_15 a n) a r1 x2 x3 v9 (0 : Int32) else f_Sw_idleCircuit_52 (f_Sw_idleCircuit_15 a n) a r1 x2 x3 v9 (1 : Int32)))
set_option maxHeartbeats 4000000 in
set_option maxRecDepth 100000 in
theorem mono_Sw_idleCircuit_15 (a : Nat) : ∀ (n : Nat) (r1 : Option Nat) (x2 : Int32) (x3 : Int32), sn_Mono (f_Sw_idleCircuit_15 a n r1 x2 x3)
  | 0, _, _, _ => sn_Mono.r0
  | n + 1, r1, x2, x3 => sn_Mono.ite (sn_Mono.rR) (sn_Mono.gR (fun v6 => sn_Mono.gI (fun v7 => sn_Mono.nn (fun a8 => sn_Mono.cI (mono_Pl_told a8 v7 x2 (x3 / (4 : Int32))) (fun v9 => sn_Mono.gI (fun v10 => sn_Mono.ite (mono_Sw_idleCircuit_52 (f_Sw_idleCircuit_15 a n) (mono_Sw_idleCircuit_15 a n) a r1 x2 x3 v9 (0 : Int32)) (mono_Sw_idleCircuit_52 (f_Sw_idleCircuit_15 a n) (mono_Sw_idleCircuit_15 a n) a r1 x2 x3 v9 (1 : Int32))))))))
set_option maxHeartbeats 4000000 in
set_option maxRecDepth 100000 in
theorem s_Sw_idleCircuit_15 {X : sn_X} (C : sn_Cx X c_Sw_idleCircuit "SignalNetwork$Switchboard" (some (.object "SignalNetwork$Leg")) "idleCircuit" 7 1 25) (a : Nat) (n : Nat) : ∀ (r1 : Option Nat) (x2 : Int32) (x3 : Int32), sn_S X 15 [(0, vA (some a)), (1, vA r1), (2, vI x2), (3, vI x3)] [] (f_Sw_idleCircuit_15 a n r1 x2 x3) := by
  induction n with
  | zero => intro r1 x2 x3; exact sn_S.zero
  | succ n ih =>
    intro r1 x2 x3
    unfold f_Sw_idleCircuit_15
    refine r_iload_n (q := 16) (i := 3) (pl := 3) C d_Sw_idleCircuit_15 rfl rfl rfl ?_
    refine r_bipush (q := 18) (v := 8) C d_Sw_idleCircuit_16 rfl (by decide) ?_
    refine r_icmp_ge (tgt := 100) (q := 21) C d_Sw_idleCircuit_18 (by decide) rfl ?_ ?_
    · refine r_null (q := 101) C d_Sw_idleCircuit_100 rfl ?_
      exact r_aret C d_Sw_idleCircuit_101 rfl (Or.inl ⟨_, rfl⟩)
    · refine r_aload_n (q := 22) (i := 0) (pl := 0) C d_Sw_idleCircuit_21 rfl rfl rfl ?_
      refine r_gR (q := 25) C d_Sw_idleCircuit_22 rfl F_Sw_29 rfl (fun v6 => ?_)
      refine r_aload_n (q := 26) (i := 1) (pl := 1) C d_Sw_idleCircuit_25 rfl rfl rfl ?_
      refine r_gI (q := 29) C d_Sw_idleCircuit_26 rfl F_Sw_92 rfl (fun v7 => ?_)
      refine r_iload_n (q := 30) (i := 2) (pl := 2) C d_Sw_idleCircuit_29 rfl rfl rfl ?_
      refine r_iload_n (q := 31) (i := 3) (pl := 3) C d_Sw_idleCircuit_30 rfl rfl rfl ?_
      refine r_iconst (q := 32) (v := 4) C d_Sw_idleCircuit_31 rfl (by decide) ?_
      refine r_idivc (q := 33) C d_Sw_idleCircuit_32 rfl (by decide) ?_
      refine r_cvI (q := 36) (As := [vI v7, vI x2, vI (x3 / (4 : Int32))]) (st := []) (cy := 4) C d_Sw_idleCircuit_33 rfl Y_Pl_told L_Sw_133 I_Pl_told Se_Pl_told rfl (by decide) rfl (Nat.le_of_ble_eq_true rfl) (Nat.le_of_ble_eq_true rfl) (Nat.le_of_ble_eq_true rfl) rfl (fun a8 => con_Pl_told a8 v7 x2 (x3 / (4 : Int32))) (fun v9 => ?_)
      refine r_istore (q := 38) (i := 4) (lv' := [(4, vI v9), (0, vA (some a)), (1, vA r1), (2, vI x2), (3, vI x3)]) C d_Sw_idleCircuit_36 rfl (by decide) rfl ?_
      refine r_iload (q := 40) (i := 4) (pl := 0) C d_Sw_idleCircuit_38 rfl rfl ?_
      refine r_aload_n (q := 41) (i := 1) (pl := 2) C d_Sw_idleCircuit_40 rfl rfl rfl ?_
      refine r_gI (q := 44) C d_Sw_idleCircuit_41 rfl F_Sw_89 rfl (fun v10 => ?_)
      refine r_icmp_eq (tgt := 51) (q := 47) C d_Sw_idleCircuit_44 (by decide) rfl ?_ ?_
      · refine r_iconst (q := 52) (v := 0) C d_Sw_idleCircuit_51 rfl (by decide) ?_
        refine r_sub (lv' := [(0, vA (some a)), (1, vA r1), (2, vI x2), (3, vI x3), (4, vI v9)]) [1, 2, 3, 4, 0] rfl ?_
        exact s_Sw_idleCircuit_52 C a (f_Sw_idleCircuit_15 a n) ih r1 x2 x3 v9 (0 : Int32)
      · refine r_iconst (q := 48) (v := 1) C d_Sw_idleCircuit_47 rfl (by decide) ?_
        refine r_goto (tgt := 52) C d_Sw_idleCircuit_48 (by decide) ?_
        refine r_sub (lv' := [(0, vA (some a)), (1, vA r1), (2, vI x2), (3, vI x3), (4, vI v9)]) [1, 2, 3, 4, 0] rfl ?_
        exact s_Sw_idleCircuit_52 C a (f_Sw_idleCircuit_15 a n) ih r1 x2 x3 v9 (1 : Int32)
def f_Sw_idleCircuit (a : Nat) (r1 : Option Nat) (x2 : Int32) : sn_M := g_I 4 11 r1 fun v11 => (if (v11 + (1 : Int32)) < (7 : Int32) then f_Sw_idleCircuit_15 a sn_fuel r1 x2 (0 : Int32) else r_R none)
set_option maxHeartbeats 4000000 in
set_option maxRecDepth 100000 in
theorem mono_Sw_idleCircuit (a : Nat) (r1 : Option Nat) (x2 : Int32) : sn_Mono (f_Sw_idleCircuit a r1 x2) := sn_Mono.gI (fun v11 => sn_Mono.ite (mono_Sw_idleCircuit_15 a sn_fuel r1 x2 (0 : Int32)) (sn_Mono.rR))
set_option maxHeartbeats 4000000 in
set_option maxRecDepth 100000 in
theorem con_Sw_idleCircuit (a : Nat) (r1 : Option Nat) (x2 : Int32) : sn_Con y_Sw_idleCircuit c_Sw_idleCircuit 7 (some (.object "SignalNetwork$Leg")) 1 25 [vA (some a), vA r1, vI x2] (f_Sw_idleCircuit a r1 x2) := by
  refine sn_Con.of (by decide +kernel) (by show _ ≤ _; exact Nat.le_of_ble_eq_true rfl) (mono_Sw_idleCircuit a r1 x2) (fun X C => ?_)
  show sn_S X 0 [(0, vA (some a)), (1, vA r1), (2, vI x2)] [] _
  replace C : sn_Cx X c_Sw_idleCircuit "SignalNetwork$Switchboard" (some (.object "SignalNetwork$Leg")) "idleCircuit" 7 1 25 := C
  unfold f_Sw_idleCircuit
  refine r_aload_n (q := 1) (i := 1) (pl := 1) C d_Sw_idleCircuit_0 rfl rfl rfl ?_
  refine r_gI (q := 4) C d_Sw_idleCircuit_1 rfl F_Sw_126 rfl (fun v11 => ?_)
  refine r_iconst (q := 5) (v := 1) C d_Sw_idleCircuit_4 rfl (by decide) ?_
  refine r_iadd (q := 6) C d_Sw_idleCircuit_5 rfl ?_
  refine r_bipush (q := 8) (v := 7) C d_Sw_idleCircuit_6 rfl (by decide) ?_
  refine r_icmp_lt (tgt := 13) (q := 11) C d_Sw_idleCircuit_8 (by decide) rfl ?_ ?_
  · refine r_iconst (q := 14) (v := 0) C d_Sw_idleCircuit_13 rfl (by decide) ?_
    refine r_istore_n (q := 15) (i := 3) (lv' := [(3, vI (0 : Int32)), (0, vA (some a)), (1, vA r1), (2, vI x2)]) C d_Sw_idleCircuit_14 rfl rfl (by decide) rfl ?_
    refine r_sub (lv' := [(0, vA (some a)), (1, vA r1), (2, vI x2), (3, vI (0 : Int32))]) [1, 2, 3, 0] rfl ?_
    exact s_Sw_idleCircuit_15 C a sn_fuel r1 x2 (0 : Int32)
  · refine r_null (q := 12) C d_Sw_idleCircuit_11 rfl ?_
    exact r_aret C d_Sw_idleCircuit_12 rfl (Or.inl ⟨_, rfl⟩)
theorem d_Sw_idleSubscriber_0 : decode c_Sw_idleSubscriber 0 = .ok (.aload_n 0, 1) := by decide +kernel
theorem d_Sw_idleSubscriber_1 : decode c_Sw_idleSubscriber 1 = .ok (.iload_n 1, 1) := by decide +kernel
theorem d_Sw_idleSubscriber_2 : decode c_Sw_idleSubscriber 2 = .ok (.invokevirtual 43, 3) := by decide +kernel
theorem d_Sw_idleSubscriber_5 : decode c_Sw_idleSubscriber 5 = .ok (.astore_n 2, 1) := by decide +kernel
theorem d_Sw_idleSubscriber_6 : decode c_Sw_idleSubscriber 6 = .ok (.aload_n 2, 1) := by decide +kernel
theorem d_Sw_idleSubscriber_7 : decode c_Sw_idleSubscriber 7 = .ok (.ifnull 14, 3) := by decide +kernel
theorem d_Sw_idleSubscriber_10 : decode c_Sw_idleSubscriber 10 = .ok (.aload_n 2, 1) := by decide +kernel
theorem d_Sw_idleSubscriber_11 : decode c_Sw_idleSubscriber 11 = .ok (.getfield 47, 3) := by decide +kernel
theorem d_Sw_idleSubscriber_14 : decode c_Sw_idleSubscriber 14 = .ok (.ifCond .ne 7, 3) := by decide +kernel
theorem d_Sw_idleSubscriber_17 : decode c_Sw_idleSubscriber 17 = .ok (.aload_n 2, 1) := by decide +kernel
theorem d_Sw_idleSubscriber_18 : decode c_Sw_idleSubscriber 18 = .ok (.goto 4, 3) := by decide +kernel
theorem d_Sw_idleSubscriber_21 : decode c_Sw_idleSubscriber 21 = .ok (.aconst_null, 1) := by decide +kernel
theorem d_Sw_idleSubscriber_22 : decode c_Sw_idleSubscriber 22 = .ok (.areturn, 1) := by decide +kernel
def f_Sw_idleSubscriber_22 (a : Nat) (t0 : Option Nat) : sn_M := r_R t0
set_option maxHeartbeats 4000000 in
set_option maxRecDepth 100000 in
theorem mono_Sw_idleSubscriber_22 (a : Nat) (t0 : Option Nat) : sn_Mono (f_Sw_idleSubscriber_22 a t0) := sn_Mono.rR
set_option maxHeartbeats 4000000 in
set_option maxRecDepth 100000 in
theorem s_Sw_idleSubscriber_22 {X : sn_X} (C : sn_Cx X c_Sw_idleSubscriber "SignalNetwork$Switchboard" (some (.object "SignalNetwork$Leg")) "idleSubscriber" 3 1 22) (a : Nat) (t0 : Option Nat) : sn_S X 22 [(0, vA (some a))] [vA t0] (f_Sw_idleSubscriber_22 a t0) := by
  unfold f_Sw_idleSubscriber_22
  exact r_aret C d_Sw_idleSubscriber_22 rfl (Or.inl ⟨_, rfl⟩)
def f_Sw_idleSubscriber_21 (a : Nat) : sn_M := f_Sw_idleSubscriber_22 a none
set_option maxHeartbeats 4000000 in
set_option maxRecDepth 100000 in
theorem mono_Sw_idleSubscriber_21 (a : Nat) : sn_Mono (f_Sw_idleSubscriber_21 a) := mono_Sw_idleSubscriber_22 a none
set_option maxHeartbeats 4000000 in
set_option maxRecDepth 100000 in
theorem s_Sw_idleSubscriber_21 {X : sn_X} (C : sn_Cx X c_Sw_idleSubscriber "SignalNetwork$Switchboard" (some (.object "SignalNetwork$Leg")) "idleSubscriber" 3 1 22) (a : Nat) : sn_S X 21 [(0, vA (some a))] [] (f_Sw_idleSubscriber_21 a) := by
  unfold f_Sw_idleSubscriber_21
  refine r_null (q := 22) C d_Sw_idleSubscriber_21 rfl ?_
  exact s_Sw_idleSubscriber_22 C a none
def f_Sw_idleSubscriber (a : Nat) (x1 : Int32) : sn_M := n_n 7 (some a) fun a1 => c_R (f_Sw_subscriberAt a1 x1) fun v2 => (if v2 = none then f_Sw_idleSubscriber_21 a else g_I 4 3 v2 fun v3 => (if ¬ v3 = 0 then f_Sw_idleSubscriber_21 a else f_Sw_idleSubscriber_22 a v2))
set_option maxHeartbeats 4000000 in
set_option maxRecDepth 100000 in
theorem mono_Sw_idleSubscriber (a : Nat) (x1 : Int32) : sn_Mono (f_Sw_idleSubscriber a x1) := sn_Mono.nn (fun a1 => sn_Mono.cR (mono_Sw_subscriberAt a1 x1) (fun v2 => sn_Mono.ite (mono_Sw_idleSubscriber_21 a) (sn_Mono.gI (fun v3 => sn_Mono.ite (mono_Sw_idleSubscriber_21 a) (mono_Sw_idleSubscriber_22 a v2)))))
set_option maxHeartbeats 4000000 in
set_option maxRecDepth 100000 in
theorem con_Sw_idleSubscriber (a : Nat) (x1 : Int32) : sn_Con y_Sw_idleSubscriber c_Sw_idleSubscriber 3 (some (.object "SignalNetwork$Leg")) 1 22 [vA (some a), vI x1] (f_Sw_idleSubscriber a x1) := by
  refine sn_Con.of (by decide +kernel) (by show _ ≤ _; exact Nat.le_of_ble_eq_true rfl) (mono_Sw_idleSubscriber a x1) (fun X C => ?_)
  show sn_S X 0 [(0, vA (some a)), (1, vI x1)] [] _
  replace C : sn_Cx X c_Sw_idleSubscriber "SignalNetwork$Switchboard" (some (.object "SignalNetwork$Leg")) "idleSubscriber" 3 1 22 := C
  unfold f_Sw_idleSubscriber
  refine r_aload_n (q := 1) (i := 0) (pl := 0) C d_Sw_idleSubscriber_0 rfl rfl rfl ?_
  refine r_iload_n (q := 2) (i := 1) (pl := 1) C d_Sw_idleSubscriber_1 rfl rfl rfl ?_
  refine r_cvR (q := 5) (As := [vI x1]) (st := []) (cy := 6) C d_Sw_idleSubscriber_2 rfl Y_Sw_subscriberAt L_Sw_43 I_Sw_subscriberAt Se_Sw_subscriberAt rfl (by decide) rfl (Nat.le_of_ble_eq_true rfl) (Nat.le_of_ble_eq_true rfl) (Nat.le_of_ble_eq_true rfl) rfl (fun a1 => con_Sw_subscriberAt a1 x1) (fun v2 => ?_)
  refine r_astore_n (q := 6) (i := 2) (lv' := [(2, vA v2), (0, vA (some a)), (1, vI x1)]) C d_Sw_idleSubscriber_5 rfl rfl (by decide) rfl ?_
  refine r_aload_n (q := 7) (i := 2) (pl := 0) C d_Sw_idleSubscriber_6 rfl rfl rfl ?_
  refine r_ifnull (tgt := 21) (q := 10) C d_Sw_idleSubscriber_7 (by decide) rfl ?_ ?_
  · refine r_sub (lv' := [(0, vA (some a))]) [1] rfl ?_
    exact s_Sw_idleSubscriber_21 C a
  · refine r_aload_n (q := 11) (i := 2) (pl := 0) C d_Sw_idleSubscriber_10 rfl rfl rfl ?_
    refine r_gI (q := 14) C d_Sw_idleSubscriber_11 rfl F_Sw_47 rfl (fun v3 => ?_)
    refine r_if_ne (tgt := 21) (q := 17) C d_Sw_idleSubscriber_14 (by decide) rfl ?_ ?_
    · refine r_sub (lv' := [(0, vA (some a))]) [1] rfl ?_
      exact s_Sw_idleSubscriber_21 C a
    · refine r_aload_n (q := 18) (i := 2) (pl := 0) C d_Sw_idleSubscriber_17 rfl rfl rfl ?_
      refine r_goto (tgt := 22) C d_Sw_idleSubscriber_18 (by decide) ?_
      refine r_sub (lv' := [(0, vA (some a))]) [1] rfl ?_
      exact s_Sw_idleSubscriber_22 C a v2
theorem d_Sw_join_0 : decode c_Sw_join 0 = .ok (.aload_n 0, 1) := by decide +kernel
theorem d_Sw_join_1 : decode c_Sw_join 1 = .ok (.aload_n 1, 1) := by decide +kernel
theorem d_Sw_join_2 : decode c_Sw_join 2 = .ok (.putfield 55, 3) := by decide +kernel
theorem d_Sw_join_5 : decode c_Sw_join 5 = .ok (.aload_n 1, 1) := by decide +kernel
theorem d_Sw_join_6 : decode c_Sw_join 6 = .ok (.aload_n 0, 1) := by decide +kernel
theorem d_Sw_join_7 : decode c_Sw_join 7 = .ok (.putfield 55, 3) := by decide +kernel
theorem d_Sw_join_10 : decode c_Sw_join 10 = .ok (.return_, 1) := by decide +kernel
def f_Sw_join (r0 : Option Nat) (r1 : Option Nat) : sn_M := p_R 4 4 r0 r1 (p_R 4 4 r1 r0 (r_V))
set_option maxHeartbeats 4000000 in
set_option maxRecDepth 100000 in
theorem mono_Sw_join (r0 : Option Nat) (r1 : Option Nat) : sn_Mono (f_Sw_join r0 r1) := sn_Mono.pR (sn_Mono.pR (sn_Mono.rV))
set_option maxHeartbeats 4000000 in
set_option maxRecDepth 100000 in
theorem con_Sw_join (r0 : Option Nat) (r1 : Option Nat) : sn_Con y_Sw_join c_Sw_join 2 none 0 0 [vA r0, vA r1] (f_Sw_join r0 r1) := by
  refine sn_Con.of (by decide +kernel) (by show _ ≤ _; exact Nat.le_of_ble_eq_true rfl) (mono_Sw_join r0 r1) (fun X C => ?_)
  show sn_S X 0 [(0, vA r0), (1, vA r1)] [] _
  replace C : sn_Cx X c_Sw_join "SignalNetwork$Switchboard" none "join" 2 0 0 := C
  unfold f_Sw_join
  refine r_aload_n (q := 1) (i := 0) (pl := 0) C d_Sw_join_0 rfl rfl rfl ?_
  refine r_aload_n (q := 2) (i := 1) (pl := 1) C d_Sw_join_1 rfl rfl rfl ?_
  refine r_pR (q := 5) C d_Sw_join_2 rfl F_Sw_55 rfl (Or.inl ⟨_, rfl⟩) (Or.inl rfl) ?_
  refine r_aload_n (q := 6) (i := 1) (pl := 1) C d_Sw_join_5 rfl rfl rfl ?_
  refine r_aload_n (q := 7) (i := 0) (pl := 0) C d_Sw_join_6 rfl rfl rfl ?_
  refine r_pR (q := 10) C d_Sw_join_7 rfl F_Sw_55 rfl (Or.inl ⟨_, rfl⟩) (Or.inl rfl) ?_
  exact r_vret C d_Sw_join_10 rfl
theorem d_Sw_letGo_0 : decode c_Sw_letGo 0 = .ok (.aload_n 1, 1) := by decide +kernel
theorem d_Sw_letGo_1 : decode c_Sw_letGo 1 = .ok (.ifnonnull 4, 3) := by decide +kernel
theorem d_Sw_letGo_4 : decode c_Sw_letGo 4 = .ok (.return_, 1) := by decide +kernel
theorem d_Sw_letGo_5 : decode c_Sw_letGo 5 = .ok (.aload_n 1, 1) := by decide +kernel
theorem d_Sw_letGo_6 : decode c_Sw_letGo 6 = .ok (.invokevirtual 62, 3) := by decide +kernel
theorem d_Sw_letGo_9 : decode c_Sw_letGo 9 = .ok (.pop, 1) := by decide +kernel
theorem d_Sw_letGo_10 : decode c_Sw_letGo 10 = .ok (.aload_n 1, 1) := by decide +kernel
theorem d_Sw_letGo_11 : decode c_Sw_letGo 11 = .ok (.invokevirtual 85, 3) := by decide +kernel
theorem d_Sw_letGo_14 : decode c_Sw_letGo 14 = .ok (.ifCond .ne 57, 3) := by decide +kernel
theorem d_Sw_letGo_17 : decode c_Sw_letGo 17 = .ok (.aload_n 1, 1) := by decide +kernel
theorem d_Sw_letGo_18 : decode c_Sw_letGo 18 = .ok (.invokevirtual 154, 3) := by decide +kernel
theorem d_Sw_letGo_21 : decode c_Sw_letGo 21 = .ok (.ifCond .eq 78, 3) := by decide +kernel
theorem d_Sw_letGo_24 : decode c_Sw_letGo 24 = .ok (.aload_n 1, 1) := by decide +kernel
theorem d_Sw_letGo_25 : decode c_Sw_letGo 25 = .ok (.bipush 7, 2) := by decide +kernel
theorem d_Sw_letGo_27 : decode c_Sw_letGo 27 = .ok (.invokevirtual 157, 3) := by decide +kernel
theorem d_Sw_letGo_30 : decode c_Sw_letGo 30 = .ok (.aload_n 1, 1) := by decide +kernel
theorem d_Sw_letGo_31 : decode c_Sw_letGo 31 = .ok (.aload_n 0, 1) := by decide +kernel
theorem d_Sw_letGo_32 : decode c_Sw_letGo 32 = .ok (.getfield 33, 3) := by decide +kernel
theorem d_Sw_letGo_35 : decode c_Sw_letGo 35 = .ok (.bipush 6, 2) := by decide +kernel
theorem d_Sw_letGo_37 : decode c_Sw_letGo 37 = .ok (.invokevirtual 142, 3) := by decide +kernel
theorem d_Sw_letGo_40 : decode c_Sw_letGo 40 = .ok (.putfield 148, 3) := by decide +kernel
theorem d_Sw_letGo_43 : decode c_Sw_letGo 43 = .ok (.aload_n 1, 1) := by decide +kernel
theorem d_Sw_letGo_44 : decode c_Sw_letGo 44 = .ok (.aload_n 0, 1) := by decide +kernel
theorem d_Sw_letGo_45 : decode c_Sw_letGo 45 = .ok (.getfield 33, 3) := by decide +kernel
theorem d_Sw_letGo_48 : decode c_Sw_letGo 48 = .ok (.bipush 30, 2) := by decide +kernel
theorem d_Sw_letGo_50 : decode c_Sw_letGo 50 = .ok (.invokevirtual 142, 3) := by decide +kernel
theorem d_Sw_letGo_53 : decode c_Sw_letGo 53 = .ok (.putfield 160, 3) := by decide +kernel
theorem d_Sw_letGo_56 : decode c_Sw_letGo 56 = .ok (.aload_n 0, 1) := by decide +kernel
theorem d_Sw_letGo_57 : decode c_Sw_letGo 57 = .ok (.aload_n 1, 1) := by decide +kernel
theorem d_Sw_letGo_58 : decode c_Sw_letGo 58 = .ok (.bipush 10, 2) := by decide +kernel
theorem d_Sw_letGo_60 : decode c_Sw_letGo 60 = .ok (.aload_n 1, 1) := by decide +kernel
theorem d_Sw_letGo_61 : decode c_Sw_letGo 61 = .ok (.getfield 78, 3) := by decide +kernel
theorem d_Sw_letGo_64 : decode c_Sw_letGo 64 = .ok (.iconst 0, 1) := by decide +kernel
theorem d_Sw_letGo_65 : decode c_Sw_letGo 65 = .ok (.invokevirtual 81, 3) := by decide +kernel
theorem d_Sw_letGo_68 : decode c_Sw_letGo 68 = .ok (.goto 31, 3) := by decide +kernel
theorem d_Sw_letGo_71 : decode c_Sw_letGo 71 = .ok (.aload_n 1, 1) := by decide +kernel
theorem d_Sw_letGo_72 : decode c_Sw_letGo 72 = .ok (.getfield 47, 3) := by decide +kernel
theorem d_Sw_letGo_75 : decode c_Sw_letGo 75 = .ok (.iconst 3, 1) := by decide +kernel
theorem d_Sw_letGo_76 : decode c_Sw_letGo 76 = .ok (.if_icmp .ne 11, 3) := by decide +kernel
theorem d_Sw_letGo_79 : decode c_Sw_letGo 79 = .ok (.aload_n 1, 1) := by decide +kernel
theorem d_Sw_letGo_80 : decode c_Sw_letGo 80 = .ok (.iconst 0, 1) := by decide +kernel
theorem d_Sw_letGo_81 : decode c_Sw_letGo 81 = .ok (.putfield 47, 3) := by decide +kernel
theorem d_Sw_letGo_84 : decode c_Sw_letGo 84 = .ok (.goto 15, 3) := by decide +kernel
theorem d_Sw_letGo_87 : decode c_Sw_letGo 87 = .ok (.aload_n 1, 1) := by decide +kernel
theorem d_Sw_letGo_88 : decode c_Sw_letGo 88 = .ok (.getfield 47, 3) := by decide +kernel
theorem d_Sw_letGo_91 : decode c_Sw_letGo 91 = .ok (.ifCond .eq 8, 3) := by decide +kernel
theorem d_Sw_letGo_94 : decode c_Sw_letGo 94 = .ok (.aload_n 1, 1) := by decide +kernel
theorem d_Sw_letGo_95 : decode c_Sw_letGo 95 = .ok (.iconst 5, 1) := by decide +kernel
theorem d_Sw_letGo_96 : decode c_Sw_letGo 96 = .ok (.putfield 47, 3) := by decide +kernel
theorem d_Sw_letGo_99 : decode c_Sw_letGo 99 = .ok (.return_, 1) := by decide +kernel
def f_Sw_letGo_99 (a : Nat) : sn_M := r_V
set_option maxHeartbeats 4000000 in
set_option maxRecDepth 100000 in
theorem mono_Sw_letGo_99 (a : Nat) : sn_Mono (f_Sw_letGo_99 a) := sn_Mono.rV
set_option maxHeartbeats 4000000 in
set_option maxRecDepth 100000 in
theorem s_Sw_letGo_99 {X : sn_X} (C : sn_Cx X c_Sw_letGo "SignalNetwork$Switchboard" none "letGo" 2 2 52) (a : Nat) : sn_S X 99 [(0, vA (some a))] [] (f_Sw_letGo_99 a) := by
  unfold f_Sw_letGo_99
  exact r_vret C d_Sw_letGo_99 rfl
def f_Sw_letGo (a : Nat) (r1 : Option Nat) : sn_M := (if ¬ r1 = none then n_n 4 r1 fun a1 => c_R (f_Lg_part a1) fun v2 => n_n 4 r1 fun a3 => c_I (f_Lg_isSubscriber a3) fun v4 => (if ¬ v4 = 0 then g_I 4 3 r1 fun v5 => (if ¬ v5 = (3 : Int32) then g_I 4 3 r1 fun v6 => (if v6 = 0 then f_Sw_letGo_99 a else p_I 4 3 r1 (5 : Int32) (f_Sw_letGo_99 a)) else p_I 4 3 r1 (0 : Int32) (f_Sw_letGo_99 a)) else n_n 4 r1 fun a7 => c_I (f_Lg_isInCall a7) fun v8 => (if v8 = 0 then f_Sw_letGo_99 a else n_n 4 r1 fun a9 => c_V (f_Lg_leaveCall a9 (7 : Int32)) (g_R 7 1 (some a) fun v11 => n_n 1 v11 fun a12 => c_I (f_Ck_after a12 (6 : Int32)) fun v13 => p_I 4 5 r1 v13 (g_R 7 1 (some a) fun v14 => n_n 1 v14 fun a15 => c_I (f_Ck_after a15 (30 : Int32)) fun v16 => p_I 4 6 r1 v16 (g_I 4 10 r1 fun v17 => n_n 7 (some a) fun a18 => c_V (f_Sw_post a18 r1 (10 : Int32) v17 (0 : Int32)) (f_Sw_letGo_99 a)))))) else r_V)
set_option maxHeartbeats 4000000 in
set_option maxRecDepth 100000 in
theorem mono_Sw_letGo (a : Nat) (r1 : Option Nat) : sn_Mono (f_Sw_letGo a r1) := sn_Mono.ite (sn_Mono.nn (fun a1 => sn_Mono.cR (mono_Lg_part a1) (fun v2 => sn_Mono.nn (fun a3 => sn_Mono.cI (mono_Lg_isSubscriber a3) (fun v4 => sn_Mono.ite (sn_Mono.gI (fun v5 => sn_Mono.ite (sn_Mono.gI (fun v6 => sn_Mono.ite (mono_Sw_letGo_99 a) (sn_Mono.pI (mono_Sw_letGo_99 a)))) (sn_Mono.pI (mono_Sw_letGo_99 a)))) (sn_Mono.nn (fun a7 => sn_Mono.cI (mono_Lg_isInCall a7) (fun v8 => sn_Mono.ite (mono_Sw_letGo_99 a) (sn_Mono.nn (fun a9 => sn_Mono.cV (mono_Lg_leaveCall a9 (7 : Int32)) (sn_Mono.gR (fun v11 => sn_Mono.nn (fun a12 => sn_Mono.cI (mono_Ck_after a12 (6 : Int32)) (fun v13 => sn_Mono.pI (sn_Mono.gR (fun v14 => sn_Mono.nn (fun a15 => sn_Mono.cI (mono_Ck_after a15 (30 : Int32)) (fun v16 => sn_Mono.pI (sn_Mono.gI (fun v17 => sn_Mono.nn (fun a18 => sn_Mono.cV (mono_Sw_post a18 r1 (10 : Int32) v17 (0 : Int32)) (mono_Sw_letGo_99 a)))))))))))))))))))))) (sn_Mono.rV)
set_option maxHeartbeats 4000000 in
set_option maxRecDepth 100000 in
theorem con_Sw_letGo (a : Nat) (r1 : Option Nat) : sn_Con y_Sw_letGo c_Sw_letGo 2 none 2 52 [vA (some a), vA r1] (f_Sw_letGo a r1) := by
  refine sn_Con.of (by decide +kernel) (by show _ ≤ _; exact Nat.le_of_ble_eq_true rfl) (mono_Sw_letGo a r1) (fun X C => ?_)
  show sn_S X 0 [(0, vA (some a)), (1, vA r1)] [] _
  replace C : sn_Cx X c_Sw_letGo "SignalNetwork$Switchboard" none "letGo" 2 2 52 := C
  unfold f_Sw_letGo
  refine r_aload_n (q := 1) (i := 1) (pl := 1) C d_Sw_letGo_0 rfl rfl rfl ?_
  refine r_ifnonnull (tgt := 5) (q := 4) C d_Sw_letGo_1 (by decide) rfl ?_ ?_
  · refine r_aload_n (q := 6) (i := 1) (pl := 1) C d_Sw_letGo_5 rfl rfl rfl ?_
    refine r_cvR (q := 9) (As := []) (st := []) (cy := 3) C d_Sw_letGo_6 rfl Y_Lg_part L_Sw_62 I_Lg_part Se_Lg_part rfl (by decide) rfl (Nat.le_of_ble_eq_true rfl) (Nat.le_of_ble_eq_true rfl) (Nat.le_of_ble_eq_true rfl) rfl (fun a1 => con_Lg_part a1) (fun v2 => ?_)
    refine r_pop (q := 10) C d_Sw_letGo_9 rfl rfl ?_
    refine r_aload_n (q := 11) (i := 1) (pl := 1) C d_Sw_letGo_10 rfl rfl rfl ?_
    refine r_cvI (q := 14) (As := []) (st := []) (cy := 3) C d_Sw_letGo_11 rfl Y_Lg_isSubscriber L_Sw_85 I_Lg_isSubscriber Se_Lg_isSubscriber rfl (by decide) rfl (Nat.le_of_ble_eq_true rfl) (Nat.le_of_ble_eq_true rfl) (Nat.le_of_ble_eq_true rfl) rfl (fun a3 => con_Lg_isSubscriber a3) (fun v4 => ?_)
    refine r_if_ne (tgt := 71) (q := 17) C d_Sw_letGo_14 (by decide) rfl ?_ ?_
    · refine r_aload_n (q := 72) (i := 1) (pl := 1) C d_Sw_letGo_71 rfl rfl rfl ?_
      refine r_gI (q := 75) C d_Sw_letGo_72 rfl F_Sw_47 rfl (fun v5 => ?_)
      refine r_iconst (q := 76) (v := 3) C d_Sw_letGo_75 rfl (by decide) ?_
      refine r_icmp_ne (tgt := 87) (q := 79) C d_Sw_letGo_76 (by decide) rfl ?_ ?_
      · refine r_aload_n (q := 88) (i := 1) (pl := 1) C d_Sw_letGo_87 rfl rfl rfl ?_
        refine r_gI (q := 91) C d_Sw_letGo_88 rfl F_Sw_47 rfl (fun v6 => ?_)
        refine r_if_eq (tgt := 99) (q := 94) C d_Sw_letGo_91 (by decide) rfl ?_ ?_
        · refine r_sub (lv' := [(0, vA (some a))]) [0] rfl ?_
          exact s_Sw_letGo_99 C a
        · refine r_aload_n (q := 95) (i := 1) (pl := 1) C d_Sw_letGo_94 rfl rfl rfl ?_
          refine r_iconst (q := 96) (v := 5) C d_Sw_letGo_95 rfl (by decide) ?_
          refine r_pI (q := 99) C d_Sw_letGo_96 rfl F_Sw_47 rfl rfl (Or.inl rfl) ?_
          refine r_sub (lv' := [(0, vA (some a))]) [0] rfl ?_
          exact s_Sw_letGo_99 C a
      · refine r_aload_n (q := 80) (i := 1) (pl := 1) C d_Sw_letGo_79 rfl rfl rfl ?_
        refine r_iconst (q := 81) (v := 0) C d_Sw_letGo_80 rfl (by decide) ?_
        refine r_pI (q := 84) C d_Sw_letGo_81 rfl F_Sw_47 rfl rfl (Or.inl rfl) ?_
        refine r_goto (tgt := 99) C d_Sw_letGo_84 (by decide) ?_
        refine r_sub (lv' := [(0, vA (some a))]) [0] rfl ?_
        exact s_Sw_letGo_99 C a
    · refine r_aload_n (q := 18) (i := 1) (pl := 1) C d_Sw_letGo_17 rfl rfl rfl ?_
      refine r_cvI (q := 21) (As := []) (st := []) (cy := 3) C d_Sw_letGo_18 rfl Y_Lg_isInCall L_Sw_154 I_Lg_isInCall Se_Lg_isInCall rfl (by decide) rfl (Nat.le_of_ble_eq_true rfl) (Nat.le_of_ble_eq_true rfl) (Nat.le_of_ble_eq_true rfl) rfl (fun a7 => con_Lg_isInCall a7) (fun v8 => ?_)
      refine r_if_eq (tgt := 99) (q := 24) C d_Sw_letGo_21 (by decide) rfl ?_ ?_
      · refine r_sub (lv' := [(0, vA (some a))]) [0] rfl ?_
        exact s_Sw_letGo_99 C a
      · refine r_aload_n (q := 25) (i := 1) (pl := 1) C d_Sw_letGo_24 rfl rfl rfl ?_
        refine r_bipush (q := 27) (v := 7) C d_Sw_letGo_25 rfl (by decide) ?_
        refine r_cvV (q := 30) (As := [vI (7 : Int32)]) (st := []) (cy := 3) C d_Sw_letGo_27 rfl Y_Lg_leaveCall L_Sw_157 I_Lg_leaveCall Se_Lg_leaveCall rfl (by decide) rfl (Nat.le_of_ble_eq_true rfl) (Nat.le_of_ble_eq_true rfl) (Nat.le_of_ble_eq_true rfl) rfl (fun a9 => con_Lg_leaveCall a9 (7 : Int32)) ?_
        refine r_aload_n (q := 31) (i := 1) (pl := 1) C d_Sw_letGo_30 rfl rfl rfl ?_
        refine r_aload_n (q := 32) (i := 0) (pl := 0) C d_Sw_letGo_31 rfl rfl rfl ?_
        refine r_gR (q := 35) C d_Sw_letGo_32 rfl F_Sw_33 rfl (fun v11 => ?_)
        refine r_bipush (q := 37) (v := 6) C d_Sw_letGo_35 rfl (by decide) ?_
        refine r_cvI (q := 40) (As := [vI (6 : Int32)]) (st := [vA r1]) (cy := 0) C d_Sw_letGo_37 rfl Y_Ck_after L_Sw_142 I_Ck_after Se_Ck_after rfl (by decide) rfl (Nat.le_of_ble_eq_true rfl) (Nat.le_of_ble_eq_true rfl) (Nat.le_of_ble_eq_true rfl) rfl (fun a12 => con_Ck_after a12 (6 : Int32)) (fun v13 => ?_)
        refine r_pI (q := 43) C d_Sw_letGo_40 rfl F_Sw_148 rfl rfl (Or.inl rfl) ?_
        refine r_aload_n (q := 44) (i := 1) (pl := 1) C d_Sw_letGo_43 rfl rfl rfl ?_
        refine r_aload_n (q := 45) (i := 0) (pl := 0) C d_Sw_letGo_44 rfl rfl rfl ?_
        refine r_gR (q := 48) C d_Sw_letGo_45 rfl F_Sw_33 rfl (fun v14 => ?_)
        refine r_bipush (q := 50) (v := 30) C d_Sw_letGo_48 rfl (by decide) ?_
        refine r_cvI (q := 53) (As := [vI (30 : Int32)]) (st := [vA r1]) (cy := 0) C d_Sw_letGo_50 rfl Y_Ck_after L_Sw_142 I_Ck_after Se_Ck_after rfl (by decide) rfl (Nat.le_of_ble_eq_true rfl) (Nat.le_of_ble_eq_true rfl) (Nat.le_of_ble_eq_true rfl) rfl (fun a15 => con_Ck_after a15 (30 : Int32)) (fun v16 => ?_)
        refine r_pI (q := 56) C d_Sw_letGo_53 rfl F_Sw_160 rfl rfl (Or.inl rfl) ?_
        refine r_aload_n (q := 57) (i := 0) (pl := 0) C d_Sw_letGo_56 rfl rfl rfl ?_
        refine r_aload_n (q := 58) (i := 1) (pl := 1) C d_Sw_letGo_57 rfl rfl rfl ?_
        refine r_bipush (q := 60) (v := 10) C d_Sw_letGo_58 rfl (by decide) ?_
        refine r_aload_n (q := 61) (i := 1) (pl := 1) C d_Sw_letGo_60 rfl rfl rfl ?_
        refine r_gI (q := 64) C d_Sw_letGo_61 rfl F_Sw_78 rfl (fun v17 => ?_)
        refine r_iconst (q := 65) (v := 0) C d_Sw_letGo_64 rfl (by decide) ?_
        refine r_cvV (q := 68) (As := [vA r1, vI (10 : Int32), vI v17, vI (0 : Int32)]) (st := []) (cy := 6) C d_Sw_letGo_65 rfl Y_Sw_post L_Sw_81 I_Sw_post Se_Sw_post rfl (by decide) rfl (Nat.le_of_ble_eq_true rfl) (Nat.le_of_ble_eq_true rfl) (Nat.le_of_ble_eq_true rfl) rfl (fun a18 => con_Sw_post a18 r1 (10 : Int32) v17 (0 : Int32)) ?_
        refine r_goto (tgt := 99) C d_Sw_letGo_68 (by decide) ?_
        refine r_sub (lv' := [(0, vA (some a))]) [0] rfl ?_
        exact s_Sw_letGo_99 C a
  · exact r_vret C d_Sw_letGo_4 rfl
theorem d_Sw_connect_0 : decode c_Sw_connect 0 = .ok (.iload_n 2, 1) := by decide +kernel
theorem d_Sw_connect_1 : decode c_Sw_connect 1 = .ok (.bipush 10, 2) := by decide +kernel
theorem d_Sw_connect_3 : decode c_Sw_connect 3 = .ok (.idiv, 1) := by decide +kernel
theorem d_Sw_connect_4 : decode c_Sw_connect 4 = .ok (.aload_n 1, 1) := by decide +kernel
theorem d_Sw_connect_5 : decode c_Sw_connect 5 = .ok (.getfield 92, 3) := by decide +kernel
theorem d_Sw_connect_8 : decode c_Sw_connect 8 = .ok (.if_icmp .ne 7, 3) := by decide +kernel
theorem d_Sw_connect_11 : decode c_Sw_connect 11 = .ok (.iconst 1, 1) := by decide +kernel
theorem d_Sw_connect_12 : decode c_Sw_connect 12 = .ok (.goto 4, 3) := by decide +kernel
theorem d_Sw_connect_15 : decode c_Sw_connect 15 = .ok (.iconst 0, 1) := by decide +kernel
theorem d_Sw_connect_16 : decode c_Sw_connect 16 = .ok (.istore_n 3, 1) := by decide +kernel
theorem d_Sw_connect_17 : decode c_Sw_connect 17 = .ok (.iload_n 3, 1) := by decide +kernel
theorem d_Sw_connect_18 : decode c_Sw_connect 18 = .ok (.ifCond .eq 11, 3) := by decide +kernel
theorem d_Sw_connect_21 : decode c_Sw_connect 21 = .ok (.aload_n 0, 1) := by decide +kernel
theorem d_Sw_connect_22 : decode c_Sw_connect 22 = .ok (.iload_n 2, 1) := by decide +kernel
theorem d_Sw_connect_23 : decode c_Sw_connect 23 = .ok (.invokevirtual 115, 3) := by decide +kernel
theorem d_Sw_connect_26 : decode c_Sw_connect 26 = .ok (.goto 12, 3) := by decide +kernel
theorem d_Sw_connect_29 : decode c_Sw_connect 29 = .ok (.aload_n 0, 1) := by decide +kernel
theorem d_Sw_connect_30 : decode c_Sw_connect 30 = .ok (.aload_n 1, 1) := by decide +kernel
theorem d_Sw_connect_31 : decode c_Sw_connect 31 = .ok (.iload_n 2, 1) := by decide +kernel
theorem d_Sw_connect_32 : decode c_Sw_connect 32 = .ok (.bipush 10, 2) := by decide +kernel
theorem d_Sw_connect_34 : decode c_Sw_connect 34 = .ok (.idiv, 1) := by decide +kernel
theorem d_Sw_connect_35 : decode c_Sw_connect 35 = .ok (.invokevirtual 118, 3) := by decide +kernel
theorem d_Sw_connect_38 : decode c_Sw_connect 38 = .ok (.astore 4, 2) := by decide +kernel
theorem d_Sw_connect_40 : decode c_Sw_connect 40 = .ok (.aload 4, 2) := by decide +kernel
theorem d_Sw_connect_42 : decode c_Sw_connect 42 = .ok (.ifnonnull 9, 3) := by decide +kernel
theorem d_Sw_connect_45 : decode c_Sw_connect 45 = .ok (.aload_n 0, 1) := by decide +kernel
theorem d_Sw_connect_46 : decode c_Sw_connect 46 = .ok (.aload_n 1, 1) := by decide +kernel
theorem d_Sw_connect_47 : decode c_Sw_connect 47 = .ok (.invokevirtual 66, 3) := by decide +kernel
theorem d_Sw_connect_50 : decode c_Sw_connect 50 = .ok (.return_, 1) := by decide +kernel
theorem d_Sw_connect_51 : decode c_Sw_connect 51 = .ok (.aload_n 1, 1) := by decide +kernel
theorem d_Sw_connect_52 : decode c_Sw_connect 52 = .ok (.aload 4, 2) := by decide +kernel
theorem d_Sw_connect_54 : decode c_Sw_connect 54 = .ok (.invokestatic 122, 3) := by decide +kernel
theorem d_Sw_connect_57 : decode c_Sw_connect 57 = .ok (.iload_n 3, 1) := by decide +kernel
theorem d_Sw_connect_58 : decode c_Sw_connect 58 = .ok (.ifCond .eq 19, 3) := by decide +kernel
theorem d_Sw_connect_61 : decode c_Sw_connect 61 = .ok (.aload 4, 2) := by decide +kernel
theorem d_Sw_connect_63 : decode c_Sw_connect 63 = .ok (.iconst 3, 1) := by decide +kernel
theorem d_Sw_connect_64 : decode c_Sw_connect 64 = .ok (.putfield 47, 3) := by decide +kernel
theorem d_Sw_connect_67 : decode c_Sw_connect 67 = .ok (.aload_n 0, 1) := by decide +kernel
theorem d_Sw_connect_68 : decode c_Sw_connect 68 = .ok (.aload_n 1, 1) := by decide +kernel
theorem d_Sw_connect_69 : decode c_Sw_connect 69 = .ok (.bipush 8, 2) := by decide +kernel
theorem d_Sw_connect_71 : decode c_Sw_connect 71 = .ok (.invokevirtual 59, 3) := by decide +kernel
theorem d_Sw_connect_74 : decode c_Sw_connect 74 = .ok (.goto 16, 3) := by decide +kernel
theorem d_Sw_connect_77 : decode c_Sw_connect 77 = .ok (.aload_n 0, 1) := by decide +kernel
theorem d_Sw_connect_78 : decode c_Sw_connect 78 = .ok (.aload 4, 2) := by decide +kernel
theorem d_Sw_connect_80 : decode c_Sw_connect 80 = .ok (.iload_n 2, 1) := by decide +kernel
theorem d_Sw_connect_81 : decode c_Sw_connect 81 = .ok (.aload_n 1, 1) := by decide +kernel
theorem d_Sw_connect_82 : decode c_Sw_connect 82 = .ok (.getfield 126, 3) := by decide +kernel
theorem d_Sw_connect_85 : decode c_Sw_connect 85 = .ok (.iconst 1, 1) := by decide +kernel
theorem d_Sw_connect_86 : decode c_Sw_connect 86 = .ok (.iadd, 1) := by decide +kernel
theorem d_Sw_connect_87 : decode c_Sw_connect 87 = .ok (.invokevirtual 129, 3) := by decide +kernel
theorem d_Sw_connect_90 : decode c_Sw_connect 90 = .ok (.return_, 1) := by decide +kernel
def f_Sw_connect_90 (a : Nat) : sn_M := r_V
set_option maxHeartbeats 4000000 in
set_option maxRecDepth 100000 in
theorem mono_Sw_connect_90 (a : Nat) : sn_Mono (f_Sw_connect_90 a) := sn_Mono.rV
set_option maxHeartbeats 4000000 in
set_option maxRecDepth 100000 in
theorem s_Sw_connect_90 {X : sn_X} (C : sn_Cx X c_Sw_connect "SignalNetwork$Switchboard" none "connect" 5 3 75) (a : Nat) : sn_S X 90 [(0, vA (some a))] [] (f_Sw_connect_90 a) := by
  unfold f_Sw_connect_90
  exact r_vret C d_Sw_connect_90 rfl
def f_Sw_connect_38 (a : Nat) (r1 : Option Nat) (x2 : Int32) (x3 : Int32) (t0 : Option Nat) : sn_M := (if ¬ t0 = none then c_V (f_Sw_join r1 t0) ((if x3 = 0 then g_I 4 11 r1 fun v2 => n_n 7 (some a) fun a3 => c_V (f_Sw_ask a3 t0 x2 (v2 + (1 : Int32))) (f_Sw_connect_90 a) else p_I 4 3 t0 (3 : Int32) (n_n 7 (some a) fun a5 => c_V (f_Sw_goBack a5 r1 (8 : Int32)) (f_Sw_connect_90 a)))) else n_n 7 (some a) fun a7 => c_V (f_Sw_letGo a7 r1) (r_V))
set_option maxHeartbeats 4000000 in
set_option maxRecDepth 100000 in
theorem mono_Sw_connect_38 (a : Nat) (r1 : Option Nat) (x2 : Int32) (x3 : Int32) (t0 : Option Nat) : sn_Mono (f_Sw_connect_38 a r1 x2 x3 t0) := sn_Mono.ite (sn_Mono.cV (mono_Sw_join r1 t0) (sn_Mono.ite (sn_Mono.gI (fun v2 => sn_Mono.nn (fun a3 => sn_Mono.cV (mono_Sw_ask a3 t0 x2 (v2 + (1 : Int32))) (mono_Sw_connect_90 a)))) (sn_Mono.pI (sn_Mono.nn (fun a5 => sn_Mono.cV (mono_Sw_goBack a5 r1 (8 : Int32)) (mono_Sw_connect_90 a)))))) (sn_Mono.nn (fun a7 => sn_Mono.cV (mono_Sw_letGo a7 r1) (sn_Mono.rV)))
set_option maxHeartbeats 4000000 in
set_option maxRecDepth 100000 in
theorem s_Sw_connect_38 {X : sn_X} (C : sn_Cx X c_Sw_connect "SignalNetwork$Switchboard" none "connect" 5 3 75) (a : Nat) (r1 : Option Nat) (x2 : Int32) (x3 : Int32) (t0 : Option Nat) : sn_S X 38 [(0, vA (some a)), (1, vA r1), (2, vI x2), (3, vI x3)] [vA t0] (f_Sw_connect_38 a r1 x2 x3 t0) := by
  unfold f_Sw_connect_38
  refine r_astore (q := 40) (i := 4) (lv' := [(4, vA t0), (0, vA (some a)), (1, vA r1), (2, vI x2), (3, vI x3)]) C d_Sw_connect_38 rfl (by decide) rfl ?_
  refine r_aload (q := 42) (i := 4) (pl := 0) C d_Sw_connect_40 rfl rfl ?_
  refine r_ifnonnull (tgt := 51) (q := 45) C d_Sw_connect_42 (by decide) rfl ?_ ?_
  · refine r_aload_n (q := 52) (i := 1) (pl := 2) C d_Sw_connect_51 rfl rfl rfl ?_
    refine r_aload (q := 54) (i := 4) (pl := 0) C d_Sw_connect_52 rfl rfl ?_
    refine r_csV (q := 57) (As := [vA r1, vA t0]) (st := []) C d_Sw_connect_54 rfl Y_Sw_join L_Sw_122 St_Sw_join rfl (Nat.le_of_ble_eq_true rfl) (Nat.le_of_ble_eq_true rfl) (Nat.le_of_ble_eq_true rfl) rfl (con_Sw_join r1 t0) ?_
    refine r_iload_n (q := 58) (i := 3) (pl := 4) C d_Sw_connect_57 rfl rfl rfl ?_
    refine r_if_eq (tgt := 77) (q := 61) C d_Sw_connect_58 (by decide) rfl ?_ ?_
    · refine r_aload_n (q := 78) (i := 0) (pl := 1) C d_Sw_connect_77 rfl rfl rfl ?_
      refine r_aload (q := 80) (i := 4) (pl := 0) C d_Sw_connect_78 rfl rfl ?_
      refine r_iload_n (q := 81) (i := 2) (pl := 3) C d_Sw_connect_80 rfl rfl rfl ?_
      refine r_aload_n (q := 82) (i := 1) (pl := 2) C d_Sw_connect_81 rfl rfl rfl ?_
      refine r_gI (q := 85) C d_Sw_connect_82 rfl F_Sw_126 rfl (fun v2 => ?_)
      refine r_iconst (q := 86) (v := 1) C d_Sw_connect_85 rfl (by decide) ?_
      refine r_iadd (q := 87) C d_Sw_connect_86 rfl ?_
      refine r_cvV (q := 90) (As := [vA t0, vI x2, vI (v2 + (1 : Int32))]) (st := []) (cy := 6) C d_Sw_connect_87 rfl Y_Sw_ask L_Sw_129 I_Sw_ask Se_Sw_ask rfl (by decide) rfl (Nat.le_of_ble_eq_true rfl) (Nat.le_of_ble_eq_true rfl) (Nat.le_of_ble_eq_true rfl) rfl (fun a3 => con_Sw_ask a3 t0 x2 (v2 + (1 : Int32))) ?_
      refine r_sub (lv' := [(0, vA (some a))]) [1] rfl ?_
      exact s_Sw_connect_90 C a
    · refine r_aload (q := 63) (i := 4) (pl := 0) C d_Sw_connect_61 rfl rfl ?_
      refine r_iconst (q := 64) (v := 3) C d_Sw_connect_63 rfl (by decide) ?_
      refine r_pI (q := 67) C d_Sw_connect_64 rfl F_Sw_47 rfl rfl (Or.inl rfl) ?_
      refine r_aload_n (q := 68) (i := 0) (pl := 1) C d_Sw_connect_67 rfl rfl rfl ?_
      refine r_aload_n (q := 69) (i := 1) (pl := 2) C d_Sw_connect_68 rfl rfl rfl ?_
      refine r_bipush (q := 71) (v := 8) C d_Sw_connect_69 rfl (by decide) ?_
      refine r_cvV (q := 74) (As := [vA r1, vI (8 : Int32)]) (st := []) (cy := 6) C d_Sw_connect_71 rfl Y_Sw_goBack L_Sw_59 I_Sw_goBack Se_Sw_goBack rfl (by decide) rfl (Nat.le_of_ble_eq_true rfl) (Nat.le_of_ble_eq_true rfl) (Nat.le_of_ble_eq_true rfl) rfl (fun a5 => con_Sw_goBack a5 r1 (8 : Int32)) ?_
      refine r_goto (tgt := 90) C d_Sw_connect_74 (by decide) ?_
      refine r_sub (lv' := [(0, vA (some a))]) [1] rfl ?_
      exact s_Sw_connect_90 C a
  · refine r_aload_n (q := 46) (i := 0) (pl := 1) C d_Sw_connect_45 rfl rfl rfl ?_
    refine r_aload_n (q := 47) (i := 1) (pl := 2) C d_Sw_connect_46 rfl rfl rfl ?_
    refine r_cvV (q := 50) (As := [vA r1]) (st := []) (cy := 6) C d_Sw_connect_47 rfl Y_Sw_letGo L_Sw_66 I_Sw_letGo Se_Sw_letGo rfl (by decide) rfl (Nat.le_of_ble_eq_true rfl) (Nat.le_of_ble_eq_true rfl) (Nat.le_of_ble_eq_true rfl) rfl (fun a7 => con_Sw_letGo a7 r1) ?_
    exact r_vret C d_Sw_connect_50 rfl
def f_Sw_connect_16 (a : Nat) (r1 : Option Nat) (x2 : Int32) (t0 : Int32) : sn_M := (if t0 = 0 then n_n 7 (some a) fun a9 => c_R (f_Sw_idleCircuit a9 r1 (x2 / (10 : Int32))) fun v10 => f_Sw_connect_38 a r1 x2 t0 v10 else n_n 7 (some a) fun a11 => c_R (f_Sw_idleSubscriber a11 x2) fun v12 => f_Sw_connect_38 a r1 x2 t0 v12)
set_option maxHeartbeats 4000000 in
set_option maxRecDepth 100000 in
theorem mono_Sw_connect_16 (a : Nat) (r1 : Option Nat) (x2 : Int32) (t0 : Int32) : sn_Mono (f_Sw_connect_16 a r1 x2 t0) := sn_Mono.ite (sn_Mono.nn (fun a9 => sn_Mono.cR (mono_Sw_idleCircuit a9 r1 (x2 / (10 : Int32))) (fun v10 => mono_Sw_connect_38 a r1 x2 t0 v10))) (sn_Mono.nn (fun a11 => sn_Mono.cR (mono_Sw_idleSubscriber a11 x2) (fun v12 => mono_Sw_connect_38 a r1 x2 t0 v12)))
set_option maxHeartbeats 4000000 in
set_option maxRecDepth 100000 in
theorem s_Sw_connect_16 {X : sn_X} (C : sn_Cx X c_Sw_connect "SignalNetwork$Switchboard" none "connect" 5 3 75) (a : Nat) (r1 : Option Nat) (x2 : Int32) (t0 : Int32) : sn_S X 16 [(0, vA (some a)), (1, vA r1), (2, vI x2)] [vI t0] (f_Sw_connect_16 a r1 x2 t0) := by
  unfold f_Sw_connect_16
  refine r_istore_n (q := 17) (i := 3) (lv' := [(3, vI t0), (0, vA (some a)), (1, vA r1), (2, vI x2)]) C d_Sw_connect_16 rfl rfl (by decide) rfl ?_
  refine r_iload_n (q := 18) (i := 3) (pl := 0) C d_Sw_connect_17 rfl rfl rfl ?_
  refine r_if_eq (tgt := 29) (q := 21) C d_Sw_connect_18 (by decide) rfl ?_ ?_
  · refine r_aload_n (q := 30) (i := 0) (pl := 1) C d_Sw_connect_29 rfl rfl rfl ?_
    refine r_aload_n (q := 31) (i := 1) (pl := 2) C d_Sw_connect_30 rfl rfl rfl ?_
    refine r_iload_n (q := 32) (i := 2) (pl := 3) C d_Sw_connect_31 rfl rfl rfl ?_
    refine r_bipush (q := 34) (v := 10) C d_Sw_connect_32 rfl (by decide) ?_
    refine r_idivc (q := 35) C d_Sw_connect_34 rfl (by decide) ?_
    refine r_cvR (q := 38) (As := [vA r1, vI (x2 / (10 : Int32))]) (st := []) (cy := 6) C d_Sw_connect_35 rfl Y_Sw_idleCircuit L_Sw_118 I_Sw_idleCircuit Se_Sw_idleCircuit rfl (by decide) rfl (Nat.le_of_ble_eq_true rfl) (Nat.le_of_ble_eq_true rfl) (Nat.le_of_ble_eq_true rfl) rfl (fun a9 => con_Sw_idleCircuit a9 r1 (x2 / (10 : Int32))) (fun v10 => ?_)
    refine r_sub (lv' := [(0, vA (some a)), (1, vA r1), (2, vI x2), (3, vI t0)]) [1, 2, 3, 0] rfl ?_
    exact s_Sw_connect_38 C a r1 x2 t0 v10
  · refine r_aload_n (q := 22) (i := 0) (pl := 1) C d_Sw_connect_21 rfl rfl rfl ?_
    refine r_iload_n (q := 23) (i := 2) (pl := 3) C d_Sw_connect_22 rfl rfl rfl ?_
    refine r_cvR (q := 26) (As := [vI x2]) (st := []) (cy := 6) C d_Sw_connect_23 rfl Y_Sw_idleSubscriber L_Sw_115 I_Sw_idleSubscriber Se_Sw_idleSubscriber rfl (by decide) rfl (Nat.le_of_ble_eq_true rfl) (Nat.le_of_ble_eq_true rfl) (Nat.le_of_ble_eq_true rfl) rfl (fun a11 => con_Sw_idleSubscriber a11 x2) (fun v12 => ?_)
    refine r_goto (tgt := 38) C d_Sw_connect_26 (by decide) ?_
    refine r_sub (lv' := [(0, vA (some a)), (1, vA r1), (2, vI x2), (3, vI t0)]) [1, 2, 3, 0] rfl ?_
    exact s_Sw_connect_38 C a r1 x2 t0 v12
def f_Sw_connect (a : Nat) (r1 : Option Nat) (x2 : Int32) : sn_M := g_I 4 0 r1 fun v13 => (if ¬ (x2 / (10 : Int32)) = v13 then f_Sw_connect_16 a r1 x2 (0 : Int32) else f_Sw_connect_16 a r1 x2 (1 : Int32))
set_option maxHeartbeats 4000000 in
set_option maxRecDepth 100000 in
theorem mono_Sw_connect (a : Nat) (r1 : Option Nat) (x2 : Int32) : sn_Mono (f_Sw_connect a r1 x2) := sn_Mono.gI (fun v13 => sn_Mono.ite (mono_Sw_connect_16 a r1 x2 (0 : Int32)) (mono_Sw_connect_16 a r1 x2 (1 : Int32)))
set_option maxHeartbeats 4000000 in
set_option maxRecDepth 100000 in
theorem con_Sw_connect (a : Nat) (r1 : Option Nat) (x2 : Int32) : sn_Con y_Sw_connect c_Sw_connect 5 none 3 75 [vA (some a), vA r1, vI x2] (f_Sw_connect a r1 x2) := by
  refine sn_Con.of (by decide +kernel) (by show _ ≤ _; exact Nat.le_of_ble_eq_true rfl) (mono_Sw_connect a r1 x2) (fun X C => ?_)
  show sn_S X 0 [(0, vA (some a)), (1, vA r1), (2, vI x2)] [] _
  replace C : sn_Cx X c_Sw_connect "SignalNetwork$Switchboard" none "connect" 5 3 75 := C
  unfold f_Sw_connect
  refine r_iload_n (q := 1) (i := 2) (pl := 2) C d_Sw_connect_0 rfl rfl rfl ?_
  refine r_bipush (q := 3) (v := 10) C d_Sw_connect_1 rfl (by decide) ?_
  refine r_idivc (q := 4) C d_Sw_connect_3 rfl (by decide) ?_
  refine r_aload_n (q := 5) (i := 1) (pl := 1) C d_Sw_connect_4 rfl rfl rfl ?_
  refine r_gI (q := 8) C d_Sw_connect_5 rfl F_Sw_92 rfl (fun v13 => ?_)
  refine r_icmp_ne (tgt := 15) (q := 11) C d_Sw_connect_8 (by decide) rfl ?_ ?_
  · refine r_iconst (q := 16) (v := 0) C d_Sw_connect_15 rfl (by decide) ?_
    exact s_Sw_connect_16 C a r1 x2 (0 : Int32)
  · refine r_iconst (q := 12) (v := 1) C d_Sw_connect_11 rfl (by decide) ?_
    refine r_goto (tgt := 16) C d_Sw_connect_12 (by decide) ?_
    exact s_Sw_connect_16 C a r1 x2 (1 : Int32)
theorem d_Sw_call_0 : decode c_Sw_call 0 = .ok (.aload_n 0, 1) := by decide +kernel
theorem d_Sw_call_1 : decode c_Sw_call 1 = .ok (.iload_n 1, 1) := by decide +kernel
theorem d_Sw_call_2 : decode c_Sw_call 2 = .ok (.invokevirtual 43, 3) := by decide +kernel
theorem d_Sw_call_5 : decode c_Sw_call 5 = .ok (.astore_n 3, 1) := by decide +kernel
theorem d_Sw_call_6 : decode c_Sw_call 6 = .ok (.aload_n 3, 1) := by decide +kernel
theorem d_Sw_call_7 : decode c_Sw_call 7 = .ok (.ifnull 11, 3) := by decide +kernel
theorem d_Sw_call_10 : decode c_Sw_call 10 = .ok (.aload_n 0, 1) := by decide +kernel
theorem d_Sw_call_11 : decode c_Sw_call 11 = .ok (.iload_n 2, 1) := by decide +kernel
theorem d_Sw_call_12 : decode c_Sw_call 12 = .ok (.invokevirtual 43, 3) := by decide +kernel
theorem d_Sw_call_15 : decode c_Sw_call 15 = .ok (.ifnonnull 5, 3) := by decide +kernel
theorem d_Sw_call_18 : decode c_Sw_call 18 = .ok (.iconst 0, 1) := by decide +kernel
theorem d_Sw_call_19 : decode c_Sw_call 19 = .ok (.ireturn, 1) := by decide +kernel
theorem d_Sw_call_20 : decode c_Sw_call 20 = .ok (.aload_n 3, 1) := by decide +kernel
theorem d_Sw_call_21 : decode c_Sw_call 21 = .ok (.getfield 47, 3) := by decide +kernel
theorem d_Sw_call_24 : decode c_Sw_call 24 = .ok (.ifCond .ne 8, 3) := by decide +kernel
theorem d_Sw_call_27 : decode c_Sw_call 27 = .ok (.iload_n 1, 1) := by decide +kernel
theorem d_Sw_call_28 : decode c_Sw_call 28 = .ok (.iload_n 2, 1) := by decide +kernel
theorem d_Sw_call_29 : decode c_Sw_call 29 = .ok (.if_icmp .ne 5, 3) := by decide +kernel
theorem d_Sw_call_32 : decode c_Sw_call 32 = .ok (.iconst 0, 1) := by decide +kernel
theorem d_Sw_call_33 : decode c_Sw_call 33 = .ok (.ireturn, 1) := by decide +kernel
theorem d_Sw_call_34 : decode c_Sw_call 34 = .ok (.aload_n 3, 1) := by decide +kernel
theorem d_Sw_call_35 : decode c_Sw_call 35 = .ok (.iconst 1, 1) := by decide +kernel
theorem d_Sw_call_36 : decode c_Sw_call 36 = .ok (.putfield 47, 3) := by decide +kernel
theorem d_Sw_call_39 : decode c_Sw_call 39 = .ok (.aload_n 0, 1) := by decide +kernel
theorem d_Sw_call_40 : decode c_Sw_call 40 = .ok (.aload_n 3, 1) := by decide +kernel
theorem d_Sw_call_41 : decode c_Sw_call 41 = .ok (.iload_n 2, 1) := by decide +kernel
theorem d_Sw_call_42 : decode c_Sw_call 42 = .ok (.invokevirtual 51, 3) := by decide +kernel
theorem d_Sw_call_45 : decode c_Sw_call 45 = .ok (.iconst 1, 1) := by decide +kernel
theorem d_Sw_call_46 : decode c_Sw_call 46 = .ok (.ireturn, 1) := by decide +kernel
def f_Sw_call_18 (a : Nat) : sn_M := r_Z (0 : Int32)
set_option maxHeartbeats 4000000 in
set_option maxRecDepth 100000 in
theorem mono_Sw_call_18 (a : Nat) : sn_Mono (f_Sw_call_18 a) := sn_Mono.rZ
set_option maxHeartbeats 4000000 in
set_option maxRecDepth 100000 in
theorem s_Sw_call_18 {X : sn_X} (C : sn_Cx X c_Sw_call "SignalNetwork$Switchboard" (some .boolean) "call" 4 4 99) (a : Nat) : sn_S X 18 [(0, vA (some a))] [] (f_Sw_call_18 a) := by
  unfold f_Sw_call_18
  refine r_iconst (q := 19) (v := 0) C d_Sw_call_18 rfl (by decide) ?_
  exact r_zret C d_Sw_call_19 rfl
def f_Sw_call_32 (a : Nat) : sn_M := r_Z (0 : Int32)
set_option maxHeartbeats 4000000 in
set_option maxRecDepth 100000 in
theorem mono_Sw_call_32 (a : Nat) : sn_Mono (f_Sw_call_32 a) := sn_Mono.rZ
set_option maxHeartbeats 4000000 in
set_option maxRecDepth 100000 in
theorem s_Sw_call_32 {X : sn_X} (C : sn_Cx X c_Sw_call "SignalNetwork$Switchboard" (some .boolean) "call" 4 4 99) (a : Nat) : sn_S X 32 [(0, vA (some a))] [] (f_Sw_call_32 a) := by
  unfold f_Sw_call_32
  refine r_iconst (q := 33) (v := 0) C d_Sw_call_32 rfl (by decide) ?_
  exact r_zret C d_Sw_call_33 rfl
def f_Sw_call (a : Nat) (x1 : Int32) (x2 : Int32) : sn_M := n_n 7 (some a) fun a1 => c_R (f_Sw_subscriberAt a1 x1) fun v2 => (if v2 = none then f_Sw_call_18 a else n_n 7 (some a) fun a3 => c_R (f_Sw_subscriberAt a3 x2) fun v4 => (if ¬ v4 = none then g_I 4 3 v2 fun v5 => (if ¬ v5 = 0 then f_Sw_call_32 a else (if ¬ x1 = x2 then p_I 4 3 v2 (1 : Int32) (n_n 7 (some a) fun a6 => c_V (f_Sw_connect a6 v2 x2) (r_Z (1 : Int32))) else f_Sw_call_32 a)) else f_Sw_call_18 a))
set_option maxHeartbeats 4000000 in
set_option maxRecDepth 100000 in
theorem mono_Sw_call (a : Nat) (x1 : Int32) (x2 : Int32) : sn_Mono (f_Sw_call a x1 x2) := sn_Mono.nn (fun a1 => sn_Mono.cR (mono_Sw_subscriberAt a1 x1) (fun v2 => sn_Mono.ite (mono_Sw_call_18 a) (sn_Mono.nn (fun a3 => sn_Mono.cR (mono_Sw_subscriberAt a3 x2) (fun v4 => sn_Mono.ite (sn_Mono.gI (fun v5 => sn_Mono.ite (mono_Sw_call_32 a) (sn_Mono.ite (sn_Mono.pI (sn_Mono.nn (fun a6 => sn_Mono.cV (mono_Sw_connect a6 v2 x2) (sn_Mono.rZ)))) (mono_Sw_call_32 a)))) (mono_Sw_call_18 a))))))
set_option maxHeartbeats 4000000 in
set_option maxRecDepth 100000 in
theorem con_Sw_call (a : Nat) (x1 : Int32) (x2 : Int32) : sn_Con y_Sw_call c_Sw_call 4 (some .boolean) 4 99 [vA (some a), vI x1, vI x2] (f_Sw_call a x1 x2) := by
  refine sn_Con.of (by decide +kernel) (by show _ ≤ _; exact Nat.le_of_ble_eq_true rfl) (mono_Sw_call a x1 x2) (fun X C => ?_)
  show sn_S X 0 [(0, vA (some a)), (1, vI x1), (2, vI x2)] [] _
  replace C : sn_Cx X c_Sw_call "SignalNetwork$Switchboard" (some .boolean) "call" 4 4 99 := C
  unfold f_Sw_call
  refine r_aload_n (q := 1) (i := 0) (pl := 0) C d_Sw_call_0 rfl rfl rfl ?_
  refine r_iload_n (q := 2) (i := 1) (pl := 1) C d_Sw_call_1 rfl rfl rfl ?_
  refine r_cvR (q := 5) (As := [vI x1]) (st := []) (cy := 6) C d_Sw_call_2 rfl Y_Sw_subscriberAt L_Sw_43 I_Sw_subscriberAt Se_Sw_subscriberAt rfl (by decide) rfl (Nat.le_of_ble_eq_true rfl) (Nat.le_of_ble_eq_true rfl) (Nat.le_of_ble_eq_true rfl) rfl (fun a1 => con_Sw_subscriberAt a1 x1) (fun v2 => ?_)
  refine r_astore_n (q := 6) (i := 3) (lv' := [(3, vA v2), (0, vA (some a)), (1, vI x1), (2, vI x2)]) C d_Sw_call_5 rfl rfl (by decide) rfl ?_
  refine r_aload_n (q := 7) (i := 3) (pl := 0) C d_Sw_call_6 rfl rfl rfl ?_
  refine r_ifnull (tgt := 18) (q := 10) C d_Sw_call_7 (by decide) rfl ?_ ?_
  · refine r_sub (lv' := [(0, vA (some a))]) [1] rfl ?_
    exact s_Sw_call_18 C a
  · refine r_aload_n (q := 11) (i := 0) (pl := 1) C d_Sw_call_10 rfl rfl rfl ?_
    refine r_iload_n (q := 12) (i := 2) (pl := 3) C d_Sw_call_11 rfl rfl rfl ?_
    refine r_cvR (q := 15) (As := [vI x2]) (st := []) (cy := 6) C d_Sw_call_12 rfl Y_Sw_subscriberAt L_Sw_43 I_Sw_subscriberAt Se_Sw_subscriberAt rfl (by decide) rfl (Nat.le_of_ble_eq_true rfl) (Nat.le_of_ble_eq_true rfl) (Nat.le_of_ble_eq_true rfl) rfl (fun a3 => con_Sw_subscriberAt a3 x2) (fun v4 => ?_)
    refine r_ifnonnull (tgt := 20) (q := 18) C d_Sw_call_15 (by decide) rfl ?_ ?_
    · refine r_aload_n (q := 21) (i := 3) (pl := 0) C d_Sw_call_20 rfl rfl rfl ?_
      refine r_gI (q := 24) C d_Sw_call_21 rfl F_Sw_47 rfl (fun v5 => ?_)
      refine r_if_ne (tgt := 32) (q := 27) C d_Sw_call_24 (by decide) rfl ?_ ?_
      · refine r_sub (lv' := [(0, vA (some a))]) [1] rfl ?_
        exact s_Sw_call_32 C a
      · refine r_iload_n (q := 28) (i := 1) (pl := 2) C d_Sw_call_27 rfl rfl rfl ?_
        refine r_iload_n (q := 29) (i := 2) (pl := 3) C d_Sw_call_28 rfl rfl rfl ?_
        refine r_icmp_ne (tgt := 34) (q := 32) C d_Sw_call_29 (by decide) rfl ?_ ?_
        · refine r_aload_n (q := 35) (i := 3) (pl := 0) C d_Sw_call_34 rfl rfl rfl ?_
          refine r_iconst (q := 36) (v := 1) C d_Sw_call_35 rfl (by decide) ?_
          refine r_pI (q := 39) C d_Sw_call_36 rfl F_Sw_47 rfl rfl (Or.inl rfl) ?_
          refine r_aload_n (q := 40) (i := 0) (pl := 1) C d_Sw_call_39 rfl rfl rfl ?_
          refine r_aload_n (q := 41) (i := 3) (pl := 0) C d_Sw_call_40 rfl rfl rfl ?_
          refine r_iload_n (q := 42) (i := 2) (pl := 3) C d_Sw_call_41 rfl rfl rfl ?_
          refine r_cvV (q := 45) (As := [vA v2, vI x2]) (st := []) (cy := 6) C d_Sw_call_42 rfl Y_Sw_connect L_Sw_51 I_Sw_connect Se_Sw_connect rfl (by decide) rfl (Nat.le_of_ble_eq_true rfl) (Nat.le_of_ble_eq_true rfl) (Nat.le_of_ble_eq_true rfl) rfl (fun a6 => con_Sw_connect a6 v2 x2) ?_
          refine r_iconst (q := 46) (v := 1) C d_Sw_call_45 rfl (by decide) ?_
          exact r_zret C d_Sw_call_46 rfl
        · refine r_sub (lv' := [(0, vA (some a))]) [1] rfl ?_
          exact s_Sw_call_32 C a
    · refine r_sub (lv' := [(0, vA (some a))]) [1] rfl ?_
      exact s_Sw_call_18 C a
theorem d_Sw_pickUp_0 : decode c_Sw_pickUp 0 = .ok (.aload_n 0, 1) := by decide +kernel
theorem d_Sw_pickUp_1 : decode c_Sw_pickUp 1 = .ok (.iload_n 1, 1) := by decide +kernel
theorem d_Sw_pickUp_2 : decode c_Sw_pickUp 2 = .ok (.invokevirtual 43, 3) := by decide +kernel
theorem d_Sw_pickUp_5 : decode c_Sw_pickUp 5 = .ok (.astore_n 2, 1) := by decide +kernel
theorem d_Sw_pickUp_6 : decode c_Sw_pickUp 6 = .ok (.aload_n 2, 1) := by decide +kernel
theorem d_Sw_pickUp_7 : decode c_Sw_pickUp 7 = .ok (.ifnull 11, 3) := by decide +kernel
theorem d_Sw_pickUp_10 : decode c_Sw_pickUp 10 = .ok (.aload_n 2, 1) := by decide +kernel
theorem d_Sw_pickUp_11 : decode c_Sw_pickUp 11 = .ok (.getfield 47, 3) := by decide +kernel
theorem d_Sw_pickUp_14 : decode c_Sw_pickUp 14 = .ok (.iconst 3, 1) := by decide +kernel
theorem d_Sw_pickUp_15 : decode c_Sw_pickUp 15 = .ok (.if_icmp .eq 5, 3) := by decide +kernel
theorem d_Sw_pickUp_18 : decode c_Sw_pickUp 18 = .ok (.iconst 0, 1) := by decide +kernel
theorem d_Sw_pickUp_19 : decode c_Sw_pickUp 19 = .ok (.ireturn, 1) := by decide +kernel
theorem d_Sw_pickUp_20 : decode c_Sw_pickUp 20 = .ok (.aload_n 2, 1) := by decide +kernel
theorem d_Sw_pickUp_21 : decode c_Sw_pickUp 21 = .ok (.iconst 4, 1) := by decide +kernel
theorem d_Sw_pickUp_22 : decode c_Sw_pickUp 22 = .ok (.putfield 47, 3) := by decide +kernel
theorem d_Sw_pickUp_25 : decode c_Sw_pickUp 25 = .ok (.aload_n 0, 1) := by decide +kernel
theorem d_Sw_pickUp_26 : decode c_Sw_pickUp 26 = .ok (.aload_n 2, 1) := by decide +kernel
theorem d_Sw_pickUp_27 : decode c_Sw_pickUp 27 = .ok (.getfield 55, 3) := by decide +kernel
theorem d_Sw_pickUp_30 : decode c_Sw_pickUp 30 = .ok (.bipush 9, 2) := by decide +kernel
theorem d_Sw_pickUp_32 : decode c_Sw_pickUp 32 = .ok (.invokevirtual 59, 3) := by decide +kernel
theorem d_Sw_pickUp_35 : decode c_Sw_pickUp 35 = .ok (.iconst 1, 1) := by decide +kernel
theorem d_Sw_pickUp_36 : decode c_Sw_pickUp 36 = .ok (.ireturn, 1) := by decide +kernel
def f_Sw_pickUp_18 (a : Nat) : sn_M := r_Z (0 : Int32)
set_option maxHeartbeats 4000000 in
set_option maxRecDepth 100000 in
theorem mono_Sw_pickUp_18 (a : Nat) : sn_Mono (f_Sw_pickUp_18 a) := sn_Mono.rZ
set_option maxHeartbeats 4000000 in
set_option maxRecDepth 100000 in
theorem s_Sw_pickUp_18 {X : sn_X} (C : sn_Cx X c_Sw_pickUp "SignalNetwork$Switchboard" (some .boolean) "pickUp" 3 3 75) (a : Nat) : sn_S X 18 [(0, vA (some a))] [] (f_Sw_pickUp_18 a) := by
  unfold f_Sw_pickUp_18
  refine r_iconst (q := 19) (v := 0) C d_Sw_pickUp_18 rfl (by decide) ?_
  exact r_zret C d_Sw_pickUp_19 rfl
def f_Sw_pickUp (a : Nat) (x1 : Int32) : sn_M := n_n 7 (some a) fun a1 => c_R (f_Sw_subscriberAt a1 x1) fun v2 => (if v2 = none then f_Sw_pickUp_18 a else g_I 4 3 v2 fun v3 => (if v3 = (3 : Int32) then p_I 4 3 v2 (4 : Int32) (g_R 4 4 v2 fun v4 => n_n 7 (some a) fun a5 => c_V (f_Sw_goBack a5 v4 (9 : Int32)) (r_Z (1 : Int32))) else f_Sw_pickUp_18 a))
set_option maxHeartbeats 4000000 in
set_option maxRecDepth 100000 in
theorem mono_Sw_pickUp (a : Nat) (x1 : Int32) : sn_Mono (f_Sw_pickUp a x1) := sn_Mono.nn (fun a1 => sn_Mono.cR (mono_Sw_subscriberAt a1 x1) (fun v2 => sn_Mono.ite (mono_Sw_pickUp_18 a) (sn_Mono.gI (fun v3 => sn_Mono.ite (sn_Mono.pI (sn_Mono.gR (fun v4 => sn_Mono.nn (fun a5 => sn_Mono.cV (mono_Sw_goBack a5 v4 (9 : Int32)) (sn_Mono.rZ))))) (mono_Sw_pickUp_18 a)))))
set_option maxHeartbeats 4000000 in
set_option maxRecDepth 100000 in
theorem con_Sw_pickUp (a : Nat) (x1 : Int32) : sn_Con y_Sw_pickUp c_Sw_pickUp 3 (some .boolean) 3 75 [vA (some a), vI x1] (f_Sw_pickUp a x1) := by
  refine sn_Con.of (by decide +kernel) (by show _ ≤ _; exact Nat.le_of_ble_eq_true rfl) (mono_Sw_pickUp a x1) (fun X C => ?_)
  show sn_S X 0 [(0, vA (some a)), (1, vI x1)] [] _
  replace C : sn_Cx X c_Sw_pickUp "SignalNetwork$Switchboard" (some .boolean) "pickUp" 3 3 75 := C
  unfold f_Sw_pickUp
  refine r_aload_n (q := 1) (i := 0) (pl := 0) C d_Sw_pickUp_0 rfl rfl rfl ?_
  refine r_iload_n (q := 2) (i := 1) (pl := 1) C d_Sw_pickUp_1 rfl rfl rfl ?_
  refine r_cvR (q := 5) (As := [vI x1]) (st := []) (cy := 6) C d_Sw_pickUp_2 rfl Y_Sw_subscriberAt L_Sw_43 I_Sw_subscriberAt Se_Sw_subscriberAt rfl (by decide) rfl (Nat.le_of_ble_eq_true rfl) (Nat.le_of_ble_eq_true rfl) (Nat.le_of_ble_eq_true rfl) rfl (fun a1 => con_Sw_subscriberAt a1 x1) (fun v2 => ?_)
  refine r_astore_n (q := 6) (i := 2) (lv' := [(2, vA v2), (0, vA (some a)), (1, vI x1)]) C d_Sw_pickUp_5 rfl rfl (by decide) rfl ?_
  refine r_aload_n (q := 7) (i := 2) (pl := 0) C d_Sw_pickUp_6 rfl rfl rfl ?_
  refine r_ifnull (tgt := 18) (q := 10) C d_Sw_pickUp_7 (by decide) rfl ?_ ?_
  · refine r_sub (lv' := [(0, vA (some a))]) [1] rfl ?_
    exact s_Sw_pickUp_18 C a
  · refine r_aload_n (q := 11) (i := 2) (pl := 0) C d_Sw_pickUp_10 rfl rfl rfl ?_
    refine r_gI (q := 14) C d_Sw_pickUp_11 rfl F_Sw_47 rfl (fun v3 => ?_)
    refine r_iconst (q := 15) (v := 3) C d_Sw_pickUp_14 rfl (by decide) ?_
    refine r_icmp_eq (tgt := 20) (q := 18) C d_Sw_pickUp_15 (by decide) rfl ?_ ?_
    · refine r_aload_n (q := 21) (i := 2) (pl := 0) C d_Sw_pickUp_20 rfl rfl rfl ?_
      refine r_iconst (q := 22) (v := 4) C d_Sw_pickUp_21 rfl (by decide) ?_
      refine r_pI (q := 25) C d_Sw_pickUp_22 rfl F_Sw_47 rfl rfl (Or.inl rfl) ?_
      refine r_aload_n (q := 26) (i := 0) (pl := 1) C d_Sw_pickUp_25 rfl rfl rfl ?_
      refine r_aload_n (q := 27) (i := 2) (pl := 0) C d_Sw_pickUp_26 rfl rfl rfl ?_
      refine r_gR (q := 30) C d_Sw_pickUp_27 rfl F_Sw_55 rfl (fun v4 => ?_)
      refine r_bipush (q := 32) (v := 9) C d_Sw_pickUp_30 rfl (by decide) ?_
      refine r_cvV (q := 35) (As := [vA v4, vI (9 : Int32)]) (st := []) (cy := 6) C d_Sw_pickUp_32 rfl Y_Sw_goBack L_Sw_59 I_Sw_goBack Se_Sw_goBack rfl (by decide) rfl (Nat.le_of_ble_eq_true rfl) (Nat.le_of_ble_eq_true rfl) (Nat.le_of_ble_eq_true rfl) rfl (fun a5 => con_Sw_goBack a5 v4 (9 : Int32)) ?_
      refine r_iconst (q := 36) (v := 1) C d_Sw_pickUp_35 rfl (by decide) ?_
      exact r_zret C d_Sw_pickUp_36 rfl
    · refine r_sub (lv' := [(0, vA (some a))]) [1] rfl ?_
      exact s_Sw_pickUp_18 C a
theorem d_Sw_putDown_0 : decode c_Sw_putDown 0 = .ok (.aload_n 0, 1) := by decide +kernel
theorem d_Sw_putDown_1 : decode c_Sw_putDown 1 = .ok (.iload_n 1, 1) := by decide +kernel
theorem d_Sw_putDown_2 : decode c_Sw_putDown 2 = .ok (.invokevirtual 43, 3) := by decide +kernel
theorem d_Sw_putDown_5 : decode c_Sw_putDown 5 = .ok (.astore_n 2, 1) := by decide +kernel
theorem d_Sw_putDown_6 : decode c_Sw_putDown 6 = .ok (.aload_n 2, 1) := by decide +kernel
theorem d_Sw_putDown_7 : decode c_Sw_putDown 7 = .ok (.ifnull 18, 3) := by decide +kernel
theorem d_Sw_putDown_10 : decode c_Sw_putDown 10 = .ok (.aload_n 2, 1) := by decide +kernel
theorem d_Sw_putDown_11 : decode c_Sw_putDown 11 = .ok (.getfield 47, 3) := by decide +kernel
theorem d_Sw_putDown_14 : decode c_Sw_putDown 14 = .ok (.ifCond .eq 11, 3) := by decide +kernel
theorem d_Sw_putDown_17 : decode c_Sw_putDown 17 = .ok (.aload_n 2, 1) := by decide +kernel
theorem d_Sw_putDown_18 : decode c_Sw_putDown 18 = .ok (.getfield 47, 3) := by decide +kernel
theorem d_Sw_putDown_21 : decode c_Sw_putDown 21 = .ok (.iconst 3, 1) := by decide +kernel
theorem d_Sw_putDown_22 : decode c_Sw_putDown 22 = .ok (.if_icmp .ne 5, 3) := by decide +kernel
theorem d_Sw_putDown_25 : decode c_Sw_putDown 25 = .ok (.iconst 0, 1) := by decide +kernel
theorem d_Sw_putDown_26 : decode c_Sw_putDown 26 = .ok (.ireturn, 1) := by decide +kernel
theorem d_Sw_putDown_27 : decode c_Sw_putDown 27 = .ok (.aload_n 2, 1) := by decide +kernel
theorem d_Sw_putDown_28 : decode c_Sw_putDown 28 = .ok (.iconst 0, 1) := by decide +kernel
theorem d_Sw_putDown_29 : decode c_Sw_putDown 29 = .ok (.putfield 47, 3) := by decide +kernel
theorem d_Sw_putDown_32 : decode c_Sw_putDown 32 = .ok (.aload_n 0, 1) := by decide +kernel
theorem d_Sw_putDown_33 : decode c_Sw_putDown 33 = .ok (.aload_n 2, 1) := by decide +kernel
theorem d_Sw_putDown_34 : decode c_Sw_putDown 34 = .ok (.invokevirtual 62, 3) := by decide +kernel
theorem d_Sw_putDown_37 : decode c_Sw_putDown 37 = .ok (.invokevirtual 66, 3) := by decide +kernel
theorem d_Sw_putDown_40 : decode c_Sw_putDown 40 = .ok (.iconst 1, 1) := by decide +kernel
theorem d_Sw_putDown_41 : decode c_Sw_putDown 41 = .ok (.ireturn, 1) := by decide +kernel
def f_Sw_putDown_25 (a : Nat) : sn_M := r_Z (0 : Int32)
set_option maxHeartbeats 4000000 in
set_option maxRecDepth 100000 in
theorem mono_Sw_putDown_25 (a : Nat) : sn_Mono (f_Sw_putDown_25 a) := sn_Mono.rZ
set_option maxHeartbeats 4000000 in
set_option maxRecDepth 100000 in
theorem s_Sw_putDown_25 {X : sn_X} (C : sn_Cx X c_Sw_putDown "SignalNetwork$Switchboard" (some .boolean) "putDown" 3 3 73) (a : Nat) : sn_S X 25 [(0, vA (some a))] [] (f_Sw_putDown_25 a) := by
  unfold f_Sw_putDown_25
  refine r_iconst (q := 26) (v := 0) C d_Sw_putDown_25 rfl (by decide) ?_
  exact r_zret C d_Sw_putDown_26 rfl
def f_Sw_putDown (a : Nat) (x1 : Int32) : sn_M := n_n 7 (some a) fun a1 => c_R (f_Sw_subscriberAt a1 x1) fun v2 => (if v2 = none then f_Sw_putDown_25 a else g_I 4 3 v2 fun v3 => (if v3 = 0 then f_Sw_putDown_25 a else g_I 4 3 v2 fun v4 => (if ¬ v4 = (3 : Int32) then p_I 4 3 v2 (0 : Int32) (n_n 4 v2 fun a5 => c_R (f_Lg_part a5) fun v6 => n_n 7 (some a) fun a7 => c_V (f_Sw_letGo a7 v6) (r_Z (1 : Int32))) else f_Sw_putDown_25 a)))
set_option maxHeartbeats 4000000 in
set_option maxRecDepth 100000 in
theorem mono_Sw_putDown (a : Nat) (x1 : Int32) : sn_Mono (f_Sw_putDown a x1) := sn_Mono.nn (fun a1 => sn_Mono.cR (mono_Sw_subscriberAt a1 x1) (fun v2 => sn_Mono.ite (mono_Sw_putDown_25 a) (sn_Mono.gI (fun v3 => sn_Mono.ite (mono_Sw_putDown_25 a) (sn_Mono.gI (fun v4 => sn_Mono.ite (sn_Mono.pI (sn_Mono.nn (fun a5 => sn_Mono.cR (mono_Lg_part a5) (fun v6 => sn_Mono.nn (fun a7 => sn_Mono.cV (mono_Sw_letGo a7 v6) (sn_Mono.rZ)))))) (mono_Sw_putDown_25 a)))))))
set_option maxHeartbeats 4000000 in
set_option maxRecDepth 100000 in
theorem con_Sw_putDown (a : Nat) (x1 : Int32) : sn_Con y_Sw_putDown c_Sw_putDown 3 (some .boolean) 3 73 [vA (some a), vI x1] (f_Sw_putDown a x1) := by
  refine sn_Con.of (by decide +kernel) (by show _ ≤ _; exact Nat.le_of_ble_eq_true rfl) (mono_Sw_putDown a x1) (fun X C => ?_)
  show sn_S X 0 [(0, vA (some a)), (1, vI x1)] [] _
  replace C : sn_Cx X c_Sw_putDown "SignalNetwork$Switchboard" (some .boolean) "putDown" 3 3 73 := C
  unfold f_Sw_putDown
  refine r_aload_n (q := 1) (i := 0) (pl := 0) C d_Sw_putDown_0 rfl rfl rfl ?_
  refine r_iload_n (q := 2) (i := 1) (pl := 1) C d_Sw_putDown_1 rfl rfl rfl ?_
  refine r_cvR (q := 5) (As := [vI x1]) (st := []) (cy := 6) C d_Sw_putDown_2 rfl Y_Sw_subscriberAt L_Sw_43 I_Sw_subscriberAt Se_Sw_subscriberAt rfl (by decide) rfl (Nat.le_of_ble_eq_true rfl) (Nat.le_of_ble_eq_true rfl) (Nat.le_of_ble_eq_true rfl) rfl (fun a1 => con_Sw_subscriberAt a1 x1) (fun v2 => ?_)
  refine r_astore_n (q := 6) (i := 2) (lv' := [(2, vA v2), (0, vA (some a)), (1, vI x1)]) C d_Sw_putDown_5 rfl rfl (by decide) rfl ?_
  refine r_aload_n (q := 7) (i := 2) (pl := 0) C d_Sw_putDown_6 rfl rfl rfl ?_
  refine r_ifnull (tgt := 25) (q := 10) C d_Sw_putDown_7 (by decide) rfl ?_ ?_
  · refine r_sub (lv' := [(0, vA (some a))]) [1] rfl ?_
    exact s_Sw_putDown_25 C a
  · refine r_aload_n (q := 11) (i := 2) (pl := 0) C d_Sw_putDown_10 rfl rfl rfl ?_
    refine r_gI (q := 14) C d_Sw_putDown_11 rfl F_Sw_47 rfl (fun v3 => ?_)
    refine r_if_eq (tgt := 25) (q := 17) C d_Sw_putDown_14 (by decide) rfl ?_ ?_
    · refine r_sub (lv' := [(0, vA (some a))]) [1] rfl ?_
      exact s_Sw_putDown_25 C a
    · refine r_aload_n (q := 18) (i := 2) (pl := 0) C d_Sw_putDown_17 rfl rfl rfl ?_
      refine r_gI (q := 21) C d_Sw_putDown_18 rfl F_Sw_47 rfl (fun v4 => ?_)
      refine r_iconst (q := 22) (v := 3) C d_Sw_putDown_21 rfl (by decide) ?_
      refine r_icmp_ne (tgt := 27) (q := 25) C d_Sw_putDown_22 (by decide) rfl ?_ ?_
      · refine r_aload_n (q := 28) (i := 2) (pl := 0) C d_Sw_putDown_27 rfl rfl rfl ?_
        refine r_iconst (q := 29) (v := 0) C d_Sw_putDown_28 rfl (by decide) ?_
        refine r_pI (q := 32) C d_Sw_putDown_29 rfl F_Sw_47 rfl rfl (Or.inl rfl) ?_
        refine r_aload_n (q := 33) (i := 0) (pl := 1) C d_Sw_putDown_32 rfl rfl rfl ?_
        refine r_aload_n (q := 34) (i := 2) (pl := 0) C d_Sw_putDown_33 rfl rfl rfl ?_
        refine r_cvR (q := 37) (As := []) (st := [vA (some a)]) (cy := 3) C d_Sw_putDown_34 rfl Y_Lg_part L_Sw_62 I_Lg_part Se_Lg_part rfl (by decide) rfl (Nat.le_of_ble_eq_true rfl) (Nat.le_of_ble_eq_true rfl) (Nat.le_of_ble_eq_true rfl) rfl (fun a5 => con_Lg_part a5) (fun v6 => ?_)
        refine r_cvV (q := 40) (As := [vA v6]) (st := []) (cy := 6) C d_Sw_putDown_37 rfl Y_Sw_letGo L_Sw_66 I_Sw_letGo Se_Sw_letGo rfl (by decide) rfl (Nat.le_of_ble_eq_true rfl) (Nat.le_of_ble_eq_true rfl) (Nat.le_of_ble_eq_true rfl) rfl (fun a7 => con_Sw_letGo a7 v6) ?_
        refine r_iconst (q := 41) (v := 1) C d_Sw_putDown_40 rfl (by decide) ?_
        exact r_zret C d_Sw_putDown_41 rfl
      · refine r_sub (lv' := [(0, vA (some a))]) [1] rfl ?_
        exact s_Sw_putDown_25 C a
theorem d_Sw_setBlocked_0 : decode c_Sw_setBlocked 0 = .ok (.aload_n 0, 1) := by decide +kernel
theorem d_Sw_setBlocked_1 : decode c_Sw_setBlocked 1 = .ok (.iload_n 1, 1) := by decide +kernel
theorem d_Sw_setBlocked_2 : decode c_Sw_setBlocked 2 = .ok (.iload_n 2, 1) := by decide +kernel
theorem d_Sw_setBlocked_3 : decode c_Sw_setBlocked 3 = .ok (.iload_n 3, 1) := by decide +kernel
theorem d_Sw_setBlocked_4 : decode c_Sw_setBlocked 4 = .ok (.invokevirtual 70, 3) := by decide +kernel
theorem d_Sw_setBlocked_7 : decode c_Sw_setBlocked 7 = .ok (.astore 5, 2) := by decide +kernel
theorem d_Sw_setBlocked_9 : decode c_Sw_setBlocked 9 = .ok (.aload 5, 2) := by decide +kernel
theorem d_Sw_setBlocked_11 : decode c_Sw_setBlocked 11 = .ok (.ifnull 13, 3) := by decide +kernel
theorem d_Sw_setBlocked_14 : decode c_Sw_setBlocked 14 = .ok (.aload 5, 2) := by decide +kernel
theorem d_Sw_setBlocked_16 : decode c_Sw_setBlocked 16 = .ok (.getfield 74, 3) := by decide +kernel
theorem d_Sw_setBlocked_19 : decode c_Sw_setBlocked 19 = .ok (.iload 4, 2) := by decide +kernel
theorem d_Sw_setBlocked_21 : decode c_Sw_setBlocked 21 = .ok (.if_icmp .ne 5, 3) := by decide +kernel
theorem d_Sw_setBlocked_24 : decode c_Sw_setBlocked 24 = .ok (.iconst 0, 1) := by decide +kernel
theorem d_Sw_setBlocked_25 : decode c_Sw_setBlocked 25 = .ok (.ireturn, 1) := by decide +kernel
theorem d_Sw_setBlocked_26 : decode c_Sw_setBlocked 26 = .ok (.aload 5, 2) := by decide +kernel
theorem d_Sw_setBlocked_28 : decode c_Sw_setBlocked 28 = .ok (.iload 4, 2) := by decide +kernel
theorem d_Sw_setBlocked_30 : decode c_Sw_setBlocked 30 = .ok (.putfield 74, 3) := by decide +kernel
theorem d_Sw_setBlocked_33 : decode c_Sw_setBlocked 33 = .ok (.aload_n 0, 1) := by decide +kernel
theorem d_Sw_setBlocked_34 : decode c_Sw_setBlocked 34 = .ok (.aload 5, 2) := by decide +kernel
theorem d_Sw_setBlocked_36 : decode c_Sw_setBlocked 36 = .ok (.iload 4, 2) := by decide +kernel
theorem d_Sw_setBlocked_38 : decode c_Sw_setBlocked 38 = .ok (.ifCond .eq 8, 3) := by decide +kernel
theorem d_Sw_setBlocked_41 : decode c_Sw_setBlocked 41 = .ok (.bipush 13, 2) := by decide +kernel
theorem d_Sw_setBlocked_43 : decode c_Sw_setBlocked 43 = .ok (.goto 5, 3) := by decide +kernel
theorem d_Sw_setBlocked_46 : decode c_Sw_setBlocked 46 = .ok (.bipush 14, 2) := by decide +kernel
theorem d_Sw_setBlocked_48 : decode c_Sw_setBlocked 48 = .ok (.aload 5, 2) := by decide +kernel
theorem d_Sw_setBlocked_50 : decode c_Sw_setBlocked 50 = .ok (.getfield 78, 3) := by decide +kernel
theorem d_Sw_setBlocked_53 : decode c_Sw_setBlocked 53 = .ok (.iconst 0, 1) := by decide +kernel
theorem d_Sw_setBlocked_54 : decode c_Sw_setBlocked 54 = .ok (.invokevirtual 81, 3) := by decide +kernel
theorem d_Sw_setBlocked_57 : decode c_Sw_setBlocked 57 = .ok (.iconst 1, 1) := by decide +kernel
theorem d_Sw_setBlocked_58 : decode c_Sw_setBlocked 58 = .ok (.ireturn, 1) := by decide +kernel
def f_Sw_setBlocked_24 (a : Nat) : sn_M := r_Z (0 : Int32)
set_option maxHeartbeats 4000000 in
set_option maxRecDepth 100000 in
theorem mono_Sw_setBlocked_24 (a : Nat) : sn_Mono (f_Sw_setBlocked_24 a) := sn_Mono.rZ
set_option maxHeartbeats 4000000 in
set_option maxRecDepth 100000 in
theorem s_Sw_setBlocked_24 {X : sn_X} (C : sn_Cx X c_Sw_setBlocked "SignalNetwork$Switchboard" (some .boolean) "setBlocked" 6 2 52) (a : Nat) : sn_S X 24 [(0, vA (some a))] [] (f_Sw_setBlocked_24 a) := by
  unfold f_Sw_setBlocked_24
  refine r_iconst (q := 25) (v := 0) C d_Sw_setBlocked_24 rfl (by decide) ?_
  exact r_zret C d_Sw_setBlocked_25 rfl
def f_Sw_setBlocked_48 (a : Nat) (r5 : Option Nat) (t0 : Option Nat) (t1 : Option Nat) (t2 : Int32) : sn_M := g_I 4 10 r5 fun v1 => n_n 7 t0 fun a2 => c_V (f_Sw_post a2 t1 t2 v1 (0 : Int32)) (r_Z (1 : Int32))
set_option maxHeartbeats 4000000 in
set_option maxRecDepth 100000 in
theorem mono_Sw_setBlocked_48 (a : Nat) (r5 : Option Nat) (t0 : Option Nat) (t1 : Option Nat) (t2 : Int32) : sn_Mono (f_Sw_setBlocked_48 a r5 t0 t1 t2) := sn_Mono.gI (fun v1 => sn_Mono.nn (fun a2 => sn_Mono.cV (mono_Sw_post a2 t1 t2 v1 (0 : Int32)) (sn_Mono.rZ)))
set_option maxHeartbeats 4000000 in
set_option maxRecDepth 100000 in
theorem s_Sw_setBlocked_48 {X : sn_X} (C : sn_Cx X c_Sw_setBlocked "SignalNetwork$Switchboard" (some .boolean) "setBlocked" 6 2 52) (a : Nat) (r5 : Option Nat) (t0 : Option Nat) (t1 : Option Nat) (t2 : Int32) : sn_S X 48 [(0, vA (some a)), (5, vA r5)] [vI t2, vA t1, vA t0] (f_Sw_setBlocked_48 a r5 t0 t1 t2) := by
  unfold f_Sw_setBlocked_48
  refine r_aload (q := 50) (i := 5) (pl := 1) C d_Sw_setBlocked_48 rfl rfl ?_
  refine r_gI (q := 53) C d_Sw_setBlocked_50 rfl F_Sw_78 rfl (fun v1 => ?_)
  refine r_iconst (q := 54) (v := 0) C d_Sw_setBlocked_53 rfl (by decide) ?_
  refine r_cvV (q := 57) (As := [vA t1, vI t2, vI v1, vI (0 : Int32)]) (st := []) (cy := 6) C d_Sw_setBlocked_54 rfl Y_Sw_post L_Sw_81 I_Sw_post Se_Sw_post rfl (by decide) rfl (Nat.le_of_ble_eq_true rfl) (Nat.le_of_ble_eq_true rfl) (Nat.le_of_ble_eq_true rfl) rfl (fun a2 => con_Sw_post a2 t1 t2 v1 (0 : Int32)) ?_
  refine r_iconst (q := 58) (v := 1) C d_Sw_setBlocked_57 rfl (by decide) ?_
  exact r_zret C d_Sw_setBlocked_58 rfl
def f_Sw_setBlocked (a : Nat) (x1 : Int32) (x2 : Int32) (x3 : Int32) (x4 : Int32) : sn_M := n_n 7 (some a) fun a4 => c_R (f_Sw_circuitAt a4 x1 x2 x3) fun v5 => (if v5 = none then f_Sw_setBlocked_24 a else g_I 4 7 v5 fun v6 => (if ¬ v6 = x4 then p_Z 4 7 v5 x4 ((if x4 = 0 then f_Sw_setBlocked_48 a v5 (some a) v5 (14 : Int32) else f_Sw_setBlocked_48 a v5 (some a) v5 (13 : Int32))) else f_Sw_setBlocked_24 a))
set_option maxHeartbeats 4000000 in
set_option maxRecDepth 100000 in
theorem mono_Sw_setBlocked (a : Nat) (x1 : Int32) (x2 : Int32) (x3 : Int32) (x4 : Int32) : sn_Mono (f_Sw_setBlocked a x1 x2 x3 x4) := sn_Mono.nn (fun a4 => sn_Mono.cR (mono_Sw_circuitAt a4 x1 x2 x3) (fun v5 => sn_Mono.ite (mono_Sw_setBlocked_24 a) (sn_Mono.gI (fun v6 => sn_Mono.ite (sn_Mono.pZ (sn_Mono.ite (mono_Sw_setBlocked_48 a v5 (some a) v5 (14 : Int32)) (mono_Sw_setBlocked_48 a v5 (some a) v5 (13 : Int32)))) (mono_Sw_setBlocked_24 a)))))
set_option maxHeartbeats 4000000 in
set_option maxRecDepth 100000 in
theorem con_Sw_setBlocked (a : Nat) (x1 : Int32) (x2 : Int32) (x3 : Int32) (x4 : Int32) : sn_Con y_Sw_setBlocked c_Sw_setBlocked 6 (some .boolean) 2 52 [vA (some a), vI x1, vI x2, vI x3, vI x4] (f_Sw_setBlocked a x1 x2 x3 x4) := by
  refine sn_Con.of (by decide +kernel) (by show _ ≤ _; exact Nat.le_of_ble_eq_true rfl) (mono_Sw_setBlocked a x1 x2 x3 x4) (fun X C => ?_)
  show sn_S X 0 [(0, vA (some a)), (1, vI x1), (2, vI x2), (3, vI x3), (4, vI x4)] [] _
  replace C : sn_Cx X c_Sw_setBlocked "SignalNetwork$Switchboard" (some .boolean) "setBlocked" 6 2 52 := C
  unfold f_Sw_setBlocked
  refine r_aload_n (q := 1) (i := 0) (pl := 0) C d_Sw_setBlocked_0 rfl rfl rfl ?_
  refine r_iload_n (q := 2) (i := 1) (pl := 1) C d_Sw_setBlocked_1 rfl rfl rfl ?_
  refine r_iload_n (q := 3) (i := 2) (pl := 2) C d_Sw_setBlocked_2 rfl rfl rfl ?_
  refine r_iload_n (q := 4) (i := 3) (pl := 3) C d_Sw_setBlocked_3 rfl rfl rfl ?_
  refine r_cvR (q := 7) (As := [vI x1, vI x2, vI x3]) (st := []) (cy := 6) C d_Sw_setBlocked_4 rfl Y_Sw_circuitAt L_Sw_70 I_Sw_circuitAt Se_Sw_circuitAt rfl (by decide) rfl (Nat.le_of_ble_eq_true rfl) (Nat.le_of_ble_eq_true rfl) (Nat.le_of_ble_eq_true rfl) rfl (fun a4 => con_Sw_circuitAt a4 x1 x2 x3) (fun v5 => ?_)
  refine r_astore (q := 9) (i := 5) (lv' := [(5, vA v5), (0, vA (some a)), (1, vI x1), (2, vI x2), (3, vI x3), (4, vI x4)]) C d_Sw_setBlocked_7 rfl (by decide) rfl ?_
  refine r_aload (q := 11) (i := 5) (pl := 0) C d_Sw_setBlocked_9 rfl rfl ?_
  refine r_ifnull (tgt := 24) (q := 14) C d_Sw_setBlocked_11 (by decide) rfl ?_ ?_
  · refine r_sub (lv' := [(0, vA (some a))]) [1] rfl ?_
    exact s_Sw_setBlocked_24 C a
  · refine r_aload (q := 16) (i := 5) (pl := 0) C d_Sw_setBlocked_14 rfl rfl ?_
    refine r_gI (q := 19) C d_Sw_setBlocked_16 rfl F_Sw_74 rfl (fun v6 => ?_)
    refine r_iload (q := 21) (i := 4) (pl := 5) C d_Sw_setBlocked_19 rfl rfl ?_
    refine r_icmp_ne (tgt := 26) (q := 24) C d_Sw_setBlocked_21 (by decide) rfl ?_ ?_
    · refine r_aload (q := 28) (i := 5) (pl := 0) C d_Sw_setBlocked_26 rfl rfl ?_
      refine r_iload (q := 30) (i := 4) (pl := 5) C d_Sw_setBlocked_28 rfl rfl ?_
      refine r_pZ (q := 33) C d_Sw_setBlocked_30 rfl F_Sw_74 rfl rfl (Or.inl rfl) ?_
      refine r_aload_n (q := 34) (i := 0) (pl := 1) C d_Sw_setBlocked_33 rfl rfl rfl ?_
      refine r_aload (q := 36) (i := 5) (pl := 0) C d_Sw_setBlocked_34 rfl rfl ?_
      refine r_iload (q := 38) (i := 4) (pl := 5) C d_Sw_setBlocked_36 rfl rfl ?_
      refine r_if_eq (tgt := 46) (q := 41) C d_Sw_setBlocked_38 (by decide) rfl ?_ ?_
      · refine r_bipush (q := 48) (v := 14) C d_Sw_setBlocked_46 rfl (by decide) ?_
        refine r_sub (lv' := [(0, vA (some a)), (5, vA v5)]) [1, 0] rfl ?_
        exact s_Sw_setBlocked_48 C a v5 (some a) v5 (14 : Int32)
      · refine r_bipush (q := 43) (v := 13) C d_Sw_setBlocked_41 rfl (by decide) ?_
        refine r_goto (tgt := 48) C d_Sw_setBlocked_43 (by decide) ?_
        refine r_sub (lv' := [(0, vA (some a)), (5, vA v5)]) [1, 0] rfl ?_
        exact s_Sw_setBlocked_48 C a v5 (some a) v5 (13 : Int32)
    · refine r_sub (lv' := [(0, vA (some a))]) [1] rfl ?_
      exact s_Sw_setBlocked_24 C a
theorem d_Sw_talksWith_0 : decode c_Sw_talksWith 0 = .ok (.aload_n 1, 1) := by decide +kernel
theorem d_Sw_talksWith_1 : decode c_Sw_talksWith 1 = .ok (.getfield 47, 3) := by decide +kernel
theorem d_Sw_talksWith_4 : decode c_Sw_talksWith 4 = .ok (.iconst 4, 1) := by decide +kernel
theorem d_Sw_talksWith_5 : decode c_Sw_talksWith 5 = .ok (.if_icmp .eq 5, 3) := by decide +kernel
theorem d_Sw_talksWith_8 : decode c_Sw_talksWith 8 = .ok (.iconst (-1), 1) := by decide +kernel
theorem d_Sw_talksWith_9 : decode c_Sw_talksWith 9 = .ok (.ireturn, 1) := by decide +kernel
theorem d_Sw_talksWith_10 : decode c_Sw_talksWith 10 = .ok (.aload_n 1, 1) := by decide +kernel
theorem d_Sw_talksWith_11 : decode c_Sw_talksWith 11 = .ok (.getfield 55, 3) := by decide +kernel
theorem d_Sw_talksWith_14 : decode c_Sw_talksWith 14 = .ok (.astore_n 2, 1) := by decide +kernel
theorem d_Sw_talksWith_15 : decode c_Sw_talksWith 15 = .ok (.iconst 0, 1) := by decide +kernel
theorem d_Sw_talksWith_16 : decode c_Sw_talksWith 16 = .ok (.istore_n 3, 1) := by decide +kernel
theorem d_Sw_talksWith_17 : decode c_Sw_talksWith 17 = .ok (.iload_n 3, 1) := by decide +kernel
theorem d_Sw_talksWith_18 : decode c_Sw_talksWith 18 = .ok (.aload_n 0, 1) := by decide +kernel
theorem d_Sw_talksWith_19 : decode c_Sw_talksWith 19 = .ok (.getfield 17, 3) := by decide +kernel
theorem d_Sw_talksWith_22 : decode c_Sw_talksWith 22 = .ok (.arraylength, 1) := by decide +kernel
theorem d_Sw_talksWith_23 : decode c_Sw_talksWith 23 = .ok (.if_icmp .ge 80, 3) := by decide +kernel
theorem d_Sw_talksWith_26 : decode c_Sw_talksWith 26 = .ok (.aload_n 2, 1) := by decide +kernel
theorem d_Sw_talksWith_27 : decode c_Sw_talksWith 27 = .ok (.ifnull 76, 3) := by decide +kernel
theorem d_Sw_talksWith_30 : decode c_Sw_talksWith 30 = .ok (.aload_n 2, 1) := by decide +kernel
theorem d_Sw_talksWith_31 : decode c_Sw_talksWith 31 = .ok (.invokevirtual 85, 3) := by decide +kernel
theorem d_Sw_talksWith_34 : decode c_Sw_talksWith 34 = .ok (.ifCond .ne 69, 3) := by decide +kernel
theorem d_Sw_talksWith_37 : decode c_Sw_talksWith 37 = .ok (.aload_n 0, 1) := by decide +kernel
theorem d_Sw_talksWith_38 : decode c_Sw_talksWith 38 = .ok (.aload_n 2, 1) := by decide +kernel
theorem d_Sw_talksWith_39 : decode c_Sw_talksWith 39 = .ok (.getfield 89, 3) := by decide +kernel
theorem d_Sw_talksWith_42 : decode c_Sw_talksWith 42 = .ok (.aload_n 2, 1) := by decide +kernel
theorem d_Sw_talksWith_43 : decode c_Sw_talksWith 43 = .ok (.getfield 92, 3) := by decide +kernel
theorem d_Sw_talksWith_46 : decode c_Sw_talksWith 46 = .ok (.aload_n 2, 1) := by decide +kernel
theorem d_Sw_talksWith_47 : decode c_Sw_talksWith 47 = .ok (.getfield 95, 3) := by decide +kernel
theorem d_Sw_talksWith_50 : decode c_Sw_talksWith 50 = .ok (.invokevirtual 70, 3) := by decide +kernel
theorem d_Sw_talksWith_53 : decode c_Sw_talksWith 53 = .ok (.astore 4, 2) := by decide +kernel
theorem d_Sw_talksWith_55 : decode c_Sw_talksWith 55 = .ok (.aload_n 2, 1) := by decide +kernel
theorem d_Sw_talksWith_56 : decode c_Sw_talksWith 56 = .ok (.invokevirtual 98, 3) := by decide +kernel
theorem d_Sw_talksWith_59 : decode c_Sw_talksWith 59 = .ok (.ifCond .eq 20, 3) := by decide +kernel
theorem d_Sw_talksWith_62 : decode c_Sw_talksWith 62 = .ok (.aload 4, 2) := by decide +kernel
theorem d_Sw_talksWith_64 : decode c_Sw_talksWith 64 = .ok (.ifnull 15, 3) := by decide +kernel
theorem d_Sw_talksWith_67 : decode c_Sw_talksWith 67 = .ok (.aload 4, 2) := by decide +kernel
theorem d_Sw_talksWith_69 : decode c_Sw_talksWith 69 = .ok (.invokevirtual 98, 3) := by decide +kernel
theorem d_Sw_talksWith_72 : decode c_Sw_talksWith 72 = .ok (.ifCond .eq 7, 3) := by decide +kernel
theorem d_Sw_talksWith_75 : decode c_Sw_talksWith 75 = .ok (.iconst 1, 1) := by decide +kernel
theorem d_Sw_talksWith_76 : decode c_Sw_talksWith 76 = .ok (.goto 4, 3) := by decide +kernel
theorem d_Sw_talksWith_79 : decode c_Sw_talksWith 79 = .ok (.iconst 0, 1) := by decide +kernel
theorem d_Sw_talksWith_80 : decode c_Sw_talksWith 80 = .ok (.istore 5, 2) := by decide +kernel
theorem d_Sw_talksWith_82 : decode c_Sw_talksWith 82 = .ok (.iload 5, 2) := by decide +kernel
theorem d_Sw_talksWith_84 : decode c_Sw_talksWith 84 = .ok (.ifCond .eq 11, 3) := by decide +kernel
theorem d_Sw_talksWith_87 : decode c_Sw_talksWith 87 = .ok (.aload 4, 2) := by decide +kernel
theorem d_Sw_talksWith_89 : decode c_Sw_talksWith 89 = .ok (.getfield 55, 3) := by decide +kernel
theorem d_Sw_talksWith_92 : decode c_Sw_talksWith 92 = .ok (.goto 4, 3) := by decide +kernel
theorem d_Sw_talksWith_95 : decode c_Sw_talksWith 95 = .ok (.aconst_null, 1) := by decide +kernel
theorem d_Sw_talksWith_96 : decode c_Sw_talksWith 96 = .ok (.astore_n 2, 1) := by decide +kernel
theorem d_Sw_talksWith_97 : decode c_Sw_talksWith 97 = .ok (.iinc 3 1, 3) := by decide +kernel
theorem d_Sw_talksWith_100 : decode c_Sw_talksWith 100 = .ok (.goto (-83), 3) := by decide +kernel
theorem d_Sw_talksWith_103 : decode c_Sw_talksWith 103 = .ok (.aload_n 2, 1) := by decide +kernel
theorem d_Sw_talksWith_104 : decode c_Sw_talksWith 104 = .ok (.ifnull 22, 3) := by decide +kernel
theorem d_Sw_talksWith_107 : decode c_Sw_talksWith 107 = .ok (.aload_n 2, 1) := by decide +kernel
theorem d_Sw_talksWith_108 : decode c_Sw_talksWith 108 = .ok (.invokevirtual 85, 3) := by decide +kernel
theorem d_Sw_talksWith_111 : decode c_Sw_talksWith 111 = .ok (.ifCond .eq 15, 3) := by decide +kernel
theorem d_Sw_talksWith_114 : decode c_Sw_talksWith 114 = .ok (.aload_n 2, 1) := by decide +kernel
theorem d_Sw_talksWith_115 : decode c_Sw_talksWith 115 = .ok (.getfield 47, 3) := by decide +kernel
theorem d_Sw_talksWith_118 : decode c_Sw_talksWith 118 = .ok (.iconst 4, 1) := by decide +kernel
theorem d_Sw_talksWith_119 : decode c_Sw_talksWith 119 = .ok (.if_icmp .ne 7, 3) := by decide +kernel
theorem d_Sw_talksWith_122 : decode c_Sw_talksWith 122 = .ok (.iconst 1, 1) := by decide +kernel
theorem d_Sw_talksWith_123 : decode c_Sw_talksWith 123 = .ok (.goto 4, 3) := by decide +kernel
theorem d_Sw_talksWith_126 : decode c_Sw_talksWith 126 = .ok (.iconst 0, 1) := by decide +kernel
theorem d_Sw_talksWith_127 : decode c_Sw_talksWith 127 = .ok (.istore_n 3, 1) := by decide +kernel
theorem d_Sw_talksWith_128 : decode c_Sw_talksWith 128 = .ok (.iload_n 3, 1) := by decide +kernel
theorem d_Sw_talksWith_129 : decode c_Sw_talksWith 129 = .ok (.ifCond .eq 10, 3) := by decide +kernel
theorem d_Sw_talksWith_132 : decode c_Sw_talksWith 132 = .ok (.aload_n 2, 1) := by decide +kernel
theorem d_Sw_talksWith_133 : decode c_Sw_talksWith 133 = .ok (.invokevirtual 101, 3) := by decide +kernel
theorem d_Sw_talksWith_136 : decode c_Sw_talksWith 136 = .ok (.goto 4, 3) := by decide +kernel
theorem d_Sw_talksWith_139 : decode c_Sw_talksWith 139 = .ok (.iconst (-1), 1) := by decide +kernel
theorem d_Sw_talksWith_140 : decode c_Sw_talksWith 140 = .ok (.ireturn, 1) := by decide +kernel
def f_Sw_talksWith_140 (a : Nat) (t0 : Int32) : sn_M := r_I t0
set_option maxHeartbeats 4000000 in
set_option maxRecDepth 100000 in
theorem mono_Sw_talksWith_140 (a : Nat) (t0 : Int32) : sn_Mono (f_Sw_talksWith_140 a t0) := sn_Mono.rI
set_option maxHeartbeats 4000000 in
set_option maxRecDepth 100000 in
theorem s_Sw_talksWith_140 {X : sn_X} (C : sn_Cx X c_Sw_talksWith "SignalNetwork$Switchboard" (some .int) "talksWith" 6 2 40) (a : Nat) (t0 : Int32) : sn_S X 140 [(0, vA (some a))] [vI t0] (f_Sw_talksWith_140 a t0) := by
  unfold f_Sw_talksWith_140
  exact r_iret C d_Sw_talksWith_140 rfl
def f_Sw_talksWith_127 (a : Nat) (r2 : Option Nat) (t0 : Int32) : sn_M := (if t0 = 0 then f_Sw_talksWith_140 a (-1 : Int32) else n_n 4 r2 fun a1 => c_I (f_Lg_code a1) fun v2 => f_Sw_talksWith_140 a v2)
set_option maxHeartbeats 4000000 in
set_option maxRecDepth 100000 in
theorem mono_Sw_talksWith_127 (a : Nat) (r2 : Option Nat) (t0 : Int32) : sn_Mono (f_Sw_talksWith_127 a r2 t0) := sn_Mono.ite (mono_Sw_talksWith_140 a (-1 : Int32)) (sn_Mono.nn (fun a1 => sn_Mono.cI (mono_Lg_code a1) (fun v2 => mono_Sw_talksWith_140 a v2)))
set_option maxHeartbeats 4000000 in
set_option maxRecDepth 100000 in
theorem s_Sw_talksWith_127 {X : sn_X} (C : sn_Cx X c_Sw_talksWith "SignalNetwork$Switchboard" (some .int) "talksWith" 6 2 40) (a : Nat) (r2 : Option Nat) (t0 : Int32) : sn_S X 127 [(0, vA (some a)), (2, vA r2)] [vI t0] (f_Sw_talksWith_127 a r2 t0) := by
  unfold f_Sw_talksWith_127
  refine r_istore_n (q := 128) (i := 3) (lv' := [(3, vI t0), (0, vA (some a)), (2, vA r2)]) C d_Sw_talksWith_127 rfl rfl (by decide) rfl ?_
  refine r_iload_n (q := 129) (i := 3) (pl := 0) C d_Sw_talksWith_128 rfl rfl rfl ?_
  refine r_if_eq (tgt := 139) (q := 132) C d_Sw_talksWith_129 (by decide) rfl ?_ ?_
  · refine r_iconst (q := 140) (v := -1) C d_Sw_talksWith_139 rfl (by decide) ?_
    refine r_sub (lv' := [(0, vA (some a))]) [1] rfl ?_
    exact s_Sw_talksWith_140 C a (-1 : Int32)
  · refine r_aload_n (q := 133) (i := 2) (pl := 2) C d_Sw_talksWith_132 rfl rfl rfl ?_
    refine r_cvI (q := 136) (As := []) (st := []) (cy := 3) C d_Sw_talksWith_133 rfl Y_Lg_code L_Sw_101 I_Lg_code Se_Lg_code rfl (by decide) rfl (Nat.le_of_ble_eq_true rfl) (Nat.le_of_ble_eq_true rfl) (Nat.le_of_ble_eq_true rfl) rfl (fun a1 => con_Lg_code a1) (fun v2 => ?_)
    refine r_goto (tgt := 140) C d_Sw_talksWith_136 (by decide) ?_
    refine r_sub (lv' := [(0, vA (some a))]) [1] rfl ?_
    exact s_Sw_talksWith_140 C a v2
def f_Sw_talksWith_126 (a : Nat) (r2 : Option Nat) : sn_M := f_Sw_talksWith_127 a r2 (0 : Int32)
set_option maxHeartbeats 4000000 in
set_option maxRecDepth 100000 in
theorem mono_Sw_talksWith_126 (a : Nat) (r2 : Option Nat) : sn_Mono (f_Sw_talksWith_126 a r2) := mono_Sw_talksWith_127 a r2 (0 : Int32)
set_option maxHeartbeats 4000000 in
set_option maxRecDepth 100000 in
theorem s_Sw_talksWith_126 {X : sn_X} (C : sn_Cx X c_Sw_talksWith "SignalNetwork$Switchboard" (some .int) "talksWith" 6 2 40) (a : Nat) (r2 : Option Nat) : sn_S X 126 [(0, vA (some a)), (2, vA r2)] [] (f_Sw_talksWith_126 a r2) := by
  unfold f_Sw_talksWith_126
  refine r_iconst (q := 127) (v := 0) C d_Sw_talksWith_126 rfl (by decide) ?_
  exact s_Sw_talksWith_127 C a r2 (0 : Int32)
def f_Sw_talksWith_103 (a : Nat) (r2 : Option Nat) : sn_M := (if r2 = none then f_Sw_talksWith_126 a r2 else n_n 4 r2 fun a3 => c_I (f_Lg_isSubscriber a3) fun v4 => (if v4 = 0 then f_Sw_talksWith_126 a r2 else g_I 4 3 r2 fun v5 => (if ¬ v5 = (4 : Int32) then f_Sw_talksWith_126 a r2 else f_Sw_talksWith_127 a r2 (1 : Int32))))
set_option maxHeartbeats 4000000 in
set_option maxRecDepth 100000 in
theorem mono_Sw_talksWith_103 (a : Nat) (r2 : Option Nat) : sn_Mono (f_Sw_talksWith_103 a r2) := sn_Mono.ite (mono_Sw_talksWith_126 a r2) (sn_Mono.nn (fun a3 => sn_Mono.cI (mono_Lg_isSubscriber a3) (fun v4 => sn_Mono.ite (mono_Sw_talksWith_126 a r2) (sn_Mono.gI (fun v5 => sn_Mono.ite (mono_Sw_talksWith_126 a r2) (mono_Sw_talksWith_127 a r2 (1 : Int32)))))))
set_option maxHeartbeats 4000000 in
set_option maxRecDepth 100000 in
theorem s_Sw_talksWith_103 {X : sn_X} (C : sn_Cx X c_Sw_talksWith "SignalNetwork$Switchboard" (some .int) "talksWith" 6 2 40) (a : Nat) (r2 : Option Nat) : sn_S X 103 [(0, vA (some a)), (2, vA r2)] [] (f_Sw_talksWith_103 a r2) := by
  unfold f_Sw_talksWith_103
  refine r_aload_n (q := 104) (i := 2) (pl := 1) C d_Sw_talksWith_103 rfl rfl rfl ?_
  refine r_ifnull (tgt := 126) (q := 107) C d_Sw_talksWith_104 (by decide) rfl ?_ ?_
  · exact s_Sw_talksWith_126 C a r2
  · refine r_aload_n (q := 108) (i := 2) (pl := 1) C d_Sw_talksWith_107 rfl rfl rfl ?_
    refine r_cvI (q := 111) (As := []) (st := []) (cy := 3) C d_Sw_talksWith_108 rfl Y_Lg_isSubscriber L_Sw_85 I_Lg_isSubscriber Se_Lg_isSubscriber rfl (by decide) rfl (Nat.le_of_ble_eq_true rfl) (Nat.le_of_ble_eq_true rfl) (Nat.le_of_ble_eq_true rfl) rfl (fun a3 => con_Lg_isSubscriber a3) (fun v4 => ?_)
    refine r_if_eq (tgt := 126) (q := 114) C d_Sw_talksWith_111 (by decide) rfl ?_ ?_
    · exact s_Sw_talksWith_126 C a r2
    · refine r_aload_n (q := 115) (i := 2) (pl := 1) C d_Sw_talksWith_114 rfl rfl rfl ?_
      refine r_gI (q := 118) C d_Sw_talksWith_115 rfl F_Sw_47 rfl (fun v5 => ?_)
      refine r_iconst (q := 119) (v := 4) C d_Sw_talksWith_118 rfl (by decide) ?_
      refine r_icmp_ne (tgt := 126) (q := 122) C d_Sw_talksWith_119 (by decide) rfl ?_ ?_
      · exact s_Sw_talksWith_126 C a r2
      · refine r_iconst (q := 123) (v := 1) C d_Sw_talksWith_122 rfl (by decide) ?_
        refine r_goto (tgt := 127) C d_Sw_talksWith_123 (by decide) ?_
        exact s_Sw_talksWith_127 C a r2 (1 : Int32)
def f_Sw_talksWith_96 (k17 : Option Nat → Int32 → sn_M) (a : Nat) (x3 : Int32) (t0 : Option Nat) : sn_M := k17 t0 (x3 + (1 : Int32))
set_option maxHeartbeats 4000000 in
set_option maxRecDepth 100000 in
theorem mono_Sw_talksWith_96 (k17 : Option Nat → Int32 → sn_M) (mk17 : ∀ (r2 : Option Nat) (x3 : Int32), sn_Mono (k17 r2 x3)) (a : Nat) (x3 : Int32) (t0 : Option Nat) : sn_Mono (f_Sw_talksWith_96 k17 a x3 t0) := mk17 t0 (x3 + (1 : Int32))
set_option maxHeartbeats 4000000 in
set_option maxRecDepth 100000 in
theorem s_Sw_talksWith_96 {X : sn_X} (C : sn_Cx X c_Sw_talksWith "SignalNetwork$Switchboard" (some .int) "talksWith" 6 2 40) (a : Nat) (k17 : Option Nat → Int32 → sn_M) (hk17 : ∀ (r2 : Option Nat) (x3 : Int32), sn_S X 17 [(0, vA (some a)), (2, vA r2), (3, vI x3)] [] (k17 r2 x3)) (x3 : Int32) (t0 : Option Nat) : sn_S X 96 [(0, vA (some a)), (3, vI x3)] [vA t0] (f_Sw_talksWith_96 k17 a x3 t0) := by
  unfold f_Sw_talksWith_96
  refine r_astore_n (q := 97) (i := 2) (lv' := [(2, vA t0), (0, vA (some a)), (3, vI x3)]) C d_Sw_talksWith_96 rfl rfl (by decide) rfl ?_
  refine r_iinc (q := 100) (pl := 2) (v := x3 + (1 : Int32)) (lv' := [(3, vI (x3 + (1 : Int32))), (2, vA t0), (0, vA (some a))]) C d_Sw_talksWith_97 rfl rfl rfl (by decide) rfl ?_
  refine r_goto (tgt := 17) C d_Sw_talksWith_100 (by decide) ?_
  refine r_sub (lv' := [(0, vA (some a)), (2, vA t0), (3, vI (x3 + (1 : Int32)))]) [2, 1, 0] rfl ?_
  exact hk17 t0 (x3 + (1 : Int32))
def f_Sw_talksWith_80 (k17 : Option Nat → Int32 → sn_M) (a : Nat) (x3 : Int32) (r4 : Option Nat) (t0 : Int32) : sn_M := (if t0 = 0 then f_Sw_talksWith_96 k17 a x3 none else g_R 4 4 r4 fun v6 => f_Sw_talksWith_96 k17 a x3 v6)
set_option maxHeartbeats 4000000 in
set_option maxRecDepth 100000 in
theorem mono_Sw_talksWith_80 (k17 : Option Nat → Int32 → sn_M) (mk17 : ∀ (r2 : Option Nat) (x3 : Int32), sn_Mono (k17 r2 x3)) (a : Nat) (x3 : Int32) (r4 : Option Nat) (t0 : Int32) : sn_Mono (f_Sw_talksWith_80 k17 a x3 r4 t0) := sn_Mono.ite (mono_Sw_talksWith_96 k17 mk17 a x3 none) (sn_Mono.gR (fun v6 => mono_Sw_talksWith_96 k17 mk17 a x3 v6))
set_option maxHeartbeats 4000000 in
set_option maxRecDepth 100000 in
theorem s_Sw_talksWith_80 {X : sn_X} (C : sn_Cx X c_Sw_talksWith "SignalNetwork$Switchboard" (some .int) "talksWith" 6 2 40) (a : Nat) (k17 : Option Nat → Int32 → sn_M) (hk17 : ∀ (r2 : Option Nat) (x3 : Int32), sn_S X 17 [(0, vA (some a)), (2, vA r2), (3, vI x3)] [] (k17 r2 x3)) (x3 : Int32) (r4 : Option Nat) (t0 : Int32) : sn_S X 80 [(0, vA (some a)), (3, vI x3), (4, vA r4)] [vI t0] (f_Sw_talksWith_80 k17 a x3 r4 t0) := by
  unfold f_Sw_talksWith_80
  refine r_istore (q := 82) (i := 5) (lv' := [(5, vI t0), (0, vA (some a)), (3, vI x3), (4, vA r4)]) C d_Sw_talksWith_80 rfl (by decide) rfl ?_
  refine r_iload (q := 84) (i := 5) (pl := 0) C d_Sw_talksWith_82 rfl rfl ?_
  refine r_if_eq (tgt := 95) (q := 87) C d_Sw_talksWith_84 (by decide) rfl ?_ ?_
  · refine r_null (q := 96) C d_Sw_talksWith_95 rfl ?_
    refine r_sub (lv' := [(0, vA (some a)), (3, vI x3)]) [1, 2] rfl ?_
    exact s_Sw_talksWith_96 C a k17 hk17 x3 none
  · refine r_aload (q := 89) (i := 4) (pl := 3) C d_Sw_talksWith_87 rfl rfl ?_
    refine r_gR (q := 92) C d_Sw_talksWith_89 rfl F_Sw_55 rfl (fun v6 => ?_)
    refine r_goto (tgt := 96) C d_Sw_talksWith_92 (by decide) ?_
    refine r_sub (lv' := [(0, vA (some a)), (3, vI x3)]) [1, 2] rfl ?_
    exact s_Sw_talksWith_96 C a k17 hk17 x3 v6
def f_Sw_talksWith_79 (k17 : Option Nat → Int32 → sn_M) (a : Nat) (x3 : Int32) (r4 : Option Nat) : sn_M := f_Sw_talksWith_80 k17 a x3 r4 (0 : Int32)
set_option maxHeartbeats 4000000 in
set_option maxRecDepth 100000 in
theorem mono_Sw_talksWith_79 (k17 : Option Nat → Int32 → sn_M) (mk17 : ∀ (r2 : Option Nat) (x3 : Int32), sn_Mono (k17 r2 x3)) (a : Nat) (x3 : Int32) (r4 : Option Nat) : sn_Mono (f_Sw_talksWith_79 k17 a x3 r4) := mono_Sw_talksWith_80 k17 mk17 a x3 r4 (0 : Int32)
set_option maxHeartbeats 4000000 in
set_option maxRecDepth 100000 in
theorem s_Sw_talksWith_79 {X : sn_X} (C : sn_Cx X c_Sw_talksWith "SignalNetwork$Switchboard" (some .int) "talksWith" 6 2 40) (a : Nat) (k17 : Option Nat → Int32 → sn_M) (hk17 : ∀ (r2 : Option Nat) (x3 : Int32), sn_S X 17 [(0, vA (some a)), (2, vA r2), (3, vI x3)] [] (k17 r2 x3)) (x3 : Int32) (r4 : Option Nat) : sn_S X 79 [(0, vA (some a)), (3, vI x3), (4, vA r4)] [] (f_Sw_talksWith_79 k17 a x3 r4) := by
  unfold f_Sw_talksWith_79
  refine r_iconst (q := 80) (v := 0) C d_Sw_talksWith_79 rfl (by decide) ?_
  exact s_Sw_talksWith_80 C a k17 hk17 x3 r4 (0 : Int32)
def f_Sw_talksWith_17 (a : Nat) : Nat → Option Nat → Int32 → sn_M
  | 0, _, _ => r_0
  | n + 1, r2, x3 => g_R 7 3 (some a) fun v7 => a_len 26 v7 fun v8 => (if v8 ≤ x3 then f_Sw_talksWith_103 a r2 else (if r2 = none then f_Sw_talksWith_103 a r2 else n_n 4 r2 fun a9 => c_I (f_Lg_isSubscriber a9) fun v10 => (if ¬ v10 = 0 then f_Sw_talksWith_103 a r2 else g_I 4 1 r2 fun v11 => g_I 4 0 r2 fun v12 => g_I 4 2 r2 fun v13 => n_n 7 (some a) fun a14 => c_R (f_Sw_circuitAt a14 v11 v12 v13) fun v15 => n_n 4 r2 fun a16 => c_I (f_Lg_isAnswered a16) fun v17 => (if v17 = 0 then f_Sw_talksWith_79 (f_Sw_talksWith_17 a n) a x3 v15 else (if v15 = none then f_Sw_talksWith_79 (f_Sw_talksWith_17 a n) a x3 v15 else n_n 4 v15 fun a18 => c_I (f_Lg_isAnswered a18) fun v19 => (if v19 = 0 then f_Sw_talksWith_79 (f_Sw_talksWith_17 a n) a x3 v15 else f_Sw_talksWith_80 (f_Sw_talksWith_17 a n) a x3 v15 (1 : Int32)))))))
set_option maxHeartbeats 4000000 in
set_option maxRecDepth 100000 in
theorem mono_Sw_talksWith_17 (a : Nat) : ∀ (n : Nat) (r2 : Option Nat) (x3 : Int32), sn_Mono (f_Sw_talksWith_17 a n r2 x3)
  | 0, _, _ => sn_Mono.r0
  | n + 1, r2, x3 => sn_Mono.gR (fun v7 => sn_Mono.alen (fun v8 => sn_Mono.ite (mono_Sw_talksWith_103 a r2) (sn_Mono.ite (mono_Sw_talksWith_103 a r2) (sn_Mono.nn (fun a9 => sn_Mono.cI (mono_Lg_isSubscriber a9) (fun v10 => sn_Mono.ite (mono_Sw_talksWith_103 a r2) (sn_Mono.gI (fun v11 => sn_Mono.gI (fun v12 => sn_Mono.gI (fun v13 => sn_Mono.nn (fun a14 => sn_Mono.cR (mono_Sw_circuitAt a14 v11 v12 v13) (fun v15 => sn_Mono.nn (fun a16 => sn_Mono.cI (mono_Lg_isAnswered a16) (fun v17 => sn_Mono.ite (mono_Sw_talksWith_79 (f_Sw_talksWith_17 a n) (mono_Sw_talksWith_17 a n) a x3 v15) (sn_Mono.ite (mono_Sw_talksWith_79 (f_Sw_talksWith_17 a n) (mono_Sw_talksWith_17 a n) a x3 v15) (sn_Mono.nn (fun a18 => sn_Mono.cI (mono_Lg_isAnswered a18) (fun v19 => sn_Mono.ite (mono_Sw_talksWith_79 (f_Sw_talksWith_17 a n) (mono_Sw_talksWith_17 a n) a x3 v15) (mono_Sw_talksWith_80 (f_Sw_talksWith_17 a n) (mono_Sw_talksWith_17 a n) a x3 v15 (1 : Int32))))))))))))))))))))
set_option maxHeartbeats 4000000 in
set_option maxRecDepth 100000 in
theorem s_Sw_talksWith_17 {X : sn_X} (C : sn_Cx X c_Sw_talksWith "SignalNetwork$Switchboard" (some .int) "talksWith" 6 2 40) (a : Nat) (n : Nat) : ∀ (r2 : Option Nat) (x3 : Int32), sn_S X 17 [(0, vA (some a)), (2, vA r2), (3, vI x3)] [] (f_Sw_talksWith_17 a n r2 x3) := by
  induction n with
  | zero => intro r2 x3; exact sn_S.zero
  | succ n ih =>
    intro r2 x3
    unfold f_Sw_talksWith_17
    refine r_iload_n (q := 18) (i := 3) (pl := 2) C d_Sw_talksWith_17 rfl rfl rfl ?_
    refine r_aload_n (q := 19) (i := 0) (pl := 0) C d_Sw_talksWith_18 rfl rfl rfl ?_
    refine r_gR (q := 22) C d_Sw_talksWith_19 rfl F_Sw_17 rfl (fun v7 => ?_)
    refine r_alen (q := 23) (kd := 26) (tyi := 5) C (by decide) (fun _ => rfl) d_Sw_talksWith_22 rfl (fun v8 => ?_)
    refine r_icmp_ge (tgt := 103) (q := 26) C d_Sw_talksWith_23 (by decide) rfl ?_ ?_
    · refine r_sub (lv' := [(0, vA (some a)), (2, vA r2)]) [0, 1] rfl ?_
      exact s_Sw_talksWith_103 C a r2
    · refine r_aload_n (q := 27) (i := 2) (pl := 1) C d_Sw_talksWith_26 rfl rfl rfl ?_
      refine r_ifnull (tgt := 103) (q := 30) C d_Sw_talksWith_27 (by decide) rfl ?_ ?_
      · refine r_sub (lv' := [(0, vA (some a)), (2, vA r2)]) [0, 1] rfl ?_
        exact s_Sw_talksWith_103 C a r2
      · refine r_aload_n (q := 31) (i := 2) (pl := 1) C d_Sw_talksWith_30 rfl rfl rfl ?_
        refine r_cvI (q := 34) (As := []) (st := []) (cy := 3) C d_Sw_talksWith_31 rfl Y_Lg_isSubscriber L_Sw_85 I_Lg_isSubscriber Se_Lg_isSubscriber rfl (by decide) rfl (Nat.le_of_ble_eq_true rfl) (Nat.le_of_ble_eq_true rfl) (Nat.le_of_ble_eq_true rfl) rfl (fun a9 => con_Lg_isSubscriber a9) (fun v10 => ?_)
        refine r_if_ne (tgt := 103) (q := 37) C d_Sw_talksWith_34 (by decide) rfl ?_ ?_
        · refine r_sub (lv' := [(0, vA (some a)), (2, vA r2)]) [0, 1] rfl ?_
          exact s_Sw_talksWith_103 C a r2
        · refine r_aload_n (q := 38) (i := 0) (pl := 0) C d_Sw_talksWith_37 rfl rfl rfl ?_
          refine r_aload_n (q := 39) (i := 2) (pl := 1) C d_Sw_talksWith_38 rfl rfl rfl ?_
          refine r_gI (q := 42) C d_Sw_talksWith_39 rfl F_Sw_89 rfl (fun v11 => ?_)
          refine r_aload_n (q := 43) (i := 2) (pl := 1) C d_Sw_talksWith_42 rfl rfl rfl ?_
          refine r_gI (q := 46) C d_Sw_talksWith_43 rfl F_Sw_92 rfl (fun v12 => ?_)
          refine r_aload_n (q := 47) (i := 2) (pl := 1) C d_Sw_talksWith_46 rfl rfl rfl ?_
          refine r_gI (q := 50) C d_Sw_talksWith_47 rfl F_Sw_95 rfl (fun v13 => ?_)
          refine r_cvR (q := 53) (As := [vI v11, vI v12, vI v13]) (st := []) (cy := 6) C d_Sw_talksWith_50 rfl Y_Sw_circuitAt L_Sw_70 I_Sw_circuitAt Se_Sw_circuitAt rfl (by decide) rfl (Nat.le_of_ble_eq_true rfl) (Nat.le_of_ble_eq_true rfl) (Nat.le_of_ble_eq_true rfl) rfl (fun a14 => con_Sw_circuitAt a14 v11 v12 v13) (fun v15 => ?_)
          refine r_astore (q := 55) (i := 4) (lv' := [(4, vA v15), (0, vA (some a)), (2, vA r2), (3, vI x3)]) C d_Sw_talksWith_53 rfl (by decide) rfl ?_
          refine r_aload_n (q := 56) (i := 2) (pl := 2) C d_Sw_talksWith_55 rfl rfl rfl ?_
          refine r_cvI (q := 59) (As := []) (st := []) (cy := 3) C d_Sw_talksWith_56 rfl Y_Lg_isAnswered L_Sw_98 I_Lg_isAnswered Se_Lg_isAnswered rfl (by decide) rfl (Nat.le_of_ble_eq_true rfl) (Nat.le_of_ble_eq_true rfl) (Nat.le_of_ble_eq_true rfl) rfl (fun a16 => con_Lg_isAnswered a16) (fun v17 => ?_)
          refine r_if_eq (tgt := 79) (q := 62) C d_Sw_talksWith_59 (by decide) rfl ?_ ?_
          · refine r_sub (lv' := [(0, vA (some a)), (3, vI x3), (4, vA v15)]) [1, 3, 0] rfl ?_
            exact s_Sw_talksWith_79 C a (f_Sw_talksWith_17 a n) ih x3 v15
          · refine r_aload (q := 64) (i := 4) (pl := 0) C d_Sw_talksWith_62 rfl rfl ?_
            refine r_ifnull (tgt := 79) (q := 67) C d_Sw_talksWith_64 (by decide) rfl ?_ ?_
            · refine r_sub (lv' := [(0, vA (some a)), (3, vI x3), (4, vA v15)]) [1, 3, 0] rfl ?_
              exact s_Sw_talksWith_79 C a (f_Sw_talksWith_17 a n) ih x3 v15
            · refine r_aload (q := 69) (i := 4) (pl := 0) C d_Sw_talksWith_67 rfl rfl ?_
              refine r_cvI (q := 72) (As := []) (st := []) (cy := 3) C d_Sw_talksWith_69 rfl Y_Lg_isAnswered L_Sw_98 I_Lg_isAnswered Se_Lg_isAnswered rfl (by decide) rfl (Nat.le_of_ble_eq_true rfl) (Nat.le_of_ble_eq_true rfl) (Nat.le_of_ble_eq_true rfl) rfl (fun a18 => con_Lg_isAnswered a18) (fun v19 => ?_)
              refine r_if_eq (tgt := 79) (q := 75) C d_Sw_talksWith_72 (by decide) rfl ?_ ?_
              · refine r_sub (lv' := [(0, vA (some a)), (3, vI x3), (4, vA v15)]) [1, 3, 0] rfl ?_
                exact s_Sw_talksWith_79 C a (f_Sw_talksWith_17 a n) ih x3 v15
              · refine r_iconst (q := 76) (v := 1) C d_Sw_talksWith_75 rfl (by decide) ?_
                refine r_goto (tgt := 80) C d_Sw_talksWith_76 (by decide) ?_
                refine r_sub (lv' := [(0, vA (some a)), (3, vI x3), (4, vA v15)]) [1, 3, 0] rfl ?_
                exact s_Sw_talksWith_80 C a (f_Sw_talksWith_17 a n) ih x3 v15 (1 : Int32)
def f_Sw_talksWith (a : Nat) (r1 : Option Nat) : sn_M := g_I 4 3 r1 fun v20 => (if v20 = (4 : Int32) then g_R 4 4 r1 fun v21 => f_Sw_talksWith_17 a sn_fuel v21 (0 : Int32) else r_I (-1 : Int32))
set_option maxHeartbeats 4000000 in
set_option maxRecDepth 100000 in
theorem mono_Sw_talksWith (a : Nat) (r1 : Option Nat) : sn_Mono (f_Sw_talksWith a r1) := sn_Mono.gI (fun v20 => sn_Mono.ite (sn_Mono.gR (fun v21 => mono_Sw_talksWith_17 a sn_fuel v21 (0 : Int32))) (sn_Mono.rI))
set_option maxHeartbeats 4000000 in
set_option maxRecDepth 100000 in
theorem con_Sw_talksWith (a : Nat) (r1 : Option Nat) : sn_Con y_Sw_talksWith c_Sw_talksWith 6 (some .int) 2 40 [vA (some a), vA r1] (f_Sw_talksWith a r1) := by
  refine sn_Con.of (by decide +kernel) (by show _ ≤ _; exact Nat.le_of_ble_eq_true rfl) (mono_Sw_talksWith a r1) (fun X C => ?_)
  show sn_S X 0 [(0, vA (some a)), (1, vA r1)] [] _
  replace C : sn_Cx X c_Sw_talksWith "SignalNetwork$Switchboard" (some .int) "talksWith" 6 2 40 := C
  unfold f_Sw_talksWith
  refine r_aload_n (q := 1) (i := 1) (pl := 1) C d_Sw_talksWith_0 rfl rfl rfl ?_
  refine r_gI (q := 4) C d_Sw_talksWith_1 rfl F_Sw_47 rfl (fun v20 => ?_)
  refine r_iconst (q := 5) (v := 4) C d_Sw_talksWith_4 rfl (by decide) ?_
  refine r_icmp_eq (tgt := 10) (q := 8) C d_Sw_talksWith_5 (by decide) rfl ?_ ?_
  · refine r_aload_n (q := 11) (i := 1) (pl := 1) C d_Sw_talksWith_10 rfl rfl rfl ?_
    refine r_gR (q := 14) C d_Sw_talksWith_11 rfl F_Sw_55 rfl (fun v21 => ?_)
    refine r_astore_n (q := 15) (i := 2) (lv' := [(2, vA v21), (0, vA (some a)), (1, vA r1)]) C d_Sw_talksWith_14 rfl rfl (by decide) rfl ?_
    refine r_iconst (q := 16) (v := 0) C d_Sw_talksWith_15 rfl (by decide) ?_
    refine r_istore_n (q := 17) (i := 3) (lv' := [(3, vI (0 : Int32)), (2, vA v21), (0, vA (some a)), (1, vA r1)]) C d_Sw_talksWith_16 rfl rfl (by decide) rfl ?_
    refine r_sub (lv' := [(0, vA (some a)), (2, vA v21), (3, vI (0 : Int32))]) [2, 1, 0] rfl ?_
    exact s_Sw_talksWith_17 C a sn_fuel v21 (0 : Int32)
  · refine r_iconst (q := 9) (v := -1) C d_Sw_talksWith_8 rfl (by decide) ?_
    exact r_iret C d_Sw_talksWith_9 rfl
theorem d_Sw_getInitial_0 : decode c_Sw_getInitial 0 = .ok (.aload_n 1, 1) := by decide +kernel
theorem d_Sw_getInitial_1 : decode c_Sw_getInitial 1 = .ok (.getfield 47, 3) := by decide +kernel
theorem d_Sw_getInitial_4 : decode c_Sw_getInitial 4 = .ok (.iconst 1, 1) := by decide +kernel
theorem d_Sw_getInitial_5 : decode c_Sw_getInitial 5 = .ok (.if_icmp .ne 14, 3) := by decide +kernel
theorem d_Sw_getInitial_8 : decode c_Sw_getInitial 8 = .ok (.aload_n 1, 1) := by decide +kernel
theorem d_Sw_getInitial_9 : decode c_Sw_getInitial 9 = .ok (.invokevirtual 191, 3) := by decide +kernel
theorem d_Sw_getInitial_12 : decode c_Sw_getInitial 12 = .ok (.ifCond .ne 7, 3) := by decide +kernel
theorem d_Sw_getInitial_15 : decode c_Sw_getInitial 15 = .ok (.iconst 1, 1) := by decide +kernel
theorem d_Sw_getInitial_16 : decode c_Sw_getInitial 16 = .ok (.goto 4, 3) := by decide +kernel
theorem d_Sw_getInitial_19 : decode c_Sw_getInitial 19 = .ok (.iconst 0, 1) := by decide +kernel
theorem d_Sw_getInitial_20 : decode c_Sw_getInitial 20 = .ok (.istore 4, 2) := by decide +kernel
theorem d_Sw_getInitial_22 : decode c_Sw_getInitial 22 = .ok (.aload_n 1, 1) := by decide +kernel
theorem d_Sw_getInitial_23 : decode c_Sw_getInitial 23 = .ok (.getfield 47, 3) := by decide +kernel
theorem d_Sw_getInitial_26 : decode c_Sw_getInitial 26 = .ok (.ifCond .eq 9, 3) := by decide +kernel
theorem d_Sw_getInitial_29 : decode c_Sw_getInitial 29 = .ok (.iload 4, 2) := by decide +kernel
theorem d_Sw_getInitial_31 : decode c_Sw_getInitial 31 = .ok (.ifCond .ne 4, 3) := by decide +kernel
theorem d_Sw_getInitial_34 : decode c_Sw_getInitial 34 = .ok (.return_, 1) := by decide +kernel
theorem d_Sw_getInitial_35 : decode c_Sw_getInitial 35 = .ok (.aload_n 1, 1) := by decide +kernel
theorem d_Sw_getInitial_36 : decode c_Sw_getInitial 36 = .ok (.getfield 151, 3) := by decide +kernel
theorem d_Sw_getInitial_39 : decode c_Sw_getInitial 39 = .ok (.istore 5, 2) := by decide +kernel
theorem d_Sw_getInitial_41 : decode c_Sw_getInitial 41 = .ok (.aload_n 1, 1) := by decide +kernel
theorem d_Sw_getInitial_42 : decode c_Sw_getInitial 42 = .ok (.invokevirtual 62, 3) := by decide +kernel
theorem d_Sw_getInitial_45 : decode c_Sw_getInitial 45 = .ok (.astore 6, 2) := by decide +kernel
theorem d_Sw_getInitial_47 : decode c_Sw_getInitial 47 = .ok (.aload_n 1, 1) := by decide +kernel
theorem d_Sw_getInitial_48 : decode c_Sw_getInitial 48 = .ok (.iconst 4, 1) := by decide +kernel
theorem d_Sw_getInitial_49 : decode c_Sw_getInitial 49 = .ok (.invokevirtual 157, 3) := by decide +kernel
theorem d_Sw_getInitial_52 : decode c_Sw_getInitial 52 = .ok (.aload_n 1, 1) := by decide +kernel
theorem d_Sw_getInitial_53 : decode c_Sw_getInitial 53 = .ok (.iload_n 3, 1) := by decide +kernel
theorem d_Sw_getInitial_54 : decode c_Sw_getInitial 54 = .ok (.bipush 64, 2) := by decide +kernel
theorem d_Sw_getInitial_56 : decode c_Sw_getInitial 56 = .ok (.irem, 1) := by decide +kernel
theorem d_Sw_getInitial_57 : decode c_Sw_getInitial 57 = .ok (.putfield 151, 3) := by decide +kernel
theorem d_Sw_getInitial_60 : decode c_Sw_getInitial 60 = .ok (.aload_n 1, 1) := by decide +kernel
theorem d_Sw_getInitial_61 : decode c_Sw_getInitial 61 = .ok (.iload_n 3, 1) := by decide +kernel
theorem d_Sw_getInitial_62 : decode c_Sw_getInitial 62 = .ok (.bipush 64, 2) := by decide +kernel
theorem d_Sw_getInitial_64 : decode c_Sw_getInitial 64 = .ok (.idiv, 1) := by decide +kernel
theorem d_Sw_getInitial_65 : decode c_Sw_getInitial 65 = .ok (.putfield 126, 3) := by decide +kernel
theorem d_Sw_getInitial_68 : decode c_Sw_getInitial 68 = .ok (.aload_n 1, 1) := by decide +kernel
theorem d_Sw_getInitial_69 : decode c_Sw_getInitial 69 = .ok (.iload_n 2, 1) := by decide +kernel
theorem d_Sw_getInitial_70 : decode c_Sw_getInitial 70 = .ok (.putfield 78, 3) := by decide +kernel
theorem d_Sw_getInitial_73 : decode c_Sw_getInitial 73 = .ok (.aload_n 0, 1) := by decide +kernel
theorem d_Sw_getInitial_74 : decode c_Sw_getInitial 74 = .ok (.aload_n 1, 1) := by decide +kernel
theorem d_Sw_getInitial_75 : decode c_Sw_getInitial 75 = .ok (.aload_n 1, 1) := by decide +kernel
theorem d_Sw_getInitial_76 : decode c_Sw_getInitial 76 = .ok (.getfield 151, 3) := by decide +kernel
theorem d_Sw_getInitial_79 : decode c_Sw_getInitial 79 = .ok (.invokevirtual 51, 3) := by decide +kernel
theorem d_Sw_getInitial_82 : decode c_Sw_getInitial 82 = .ok (.aload 6, 2) := by decide +kernel
theorem d_Sw_getInitial_84 : decode c_Sw_getInitial 84 = .ok (.ifnull 11, 3) := by decide +kernel
theorem d_Sw_getInitial_87 : decode c_Sw_getInitial 87 = .ok (.aload_n 0, 1) := by decide +kernel
theorem d_Sw_getInitial_88 : decode c_Sw_getInitial 88 = .ok (.aload 6, 2) := by decide +kernel
theorem d_Sw_getInitial_90 : decode c_Sw_getInitial 90 = .ok (.iload 5, 2) := by decide +kernel
theorem d_Sw_getInitial_92 : decode c_Sw_getInitial 92 = .ok (.invokevirtual 51, 3) := by decide +kernel
theorem d_Sw_getInitial_95 : decode c_Sw_getInitial 95 = .ok (.return_, 1) := by decide +kernel
def f_Sw_getInitial_95 (a : Nat) : sn_M := r_V
set_option maxHeartbeats 4000000 in
set_option maxRecDepth 100000 in
theorem mono_Sw_getInitial_95 (a : Nat) : sn_Mono (f_Sw_getInitial_95 a) := sn_Mono.rV
set_option maxHeartbeats 4000000 in
set_option maxRecDepth 100000 in
theorem s_Sw_getInitial_95 {X : sn_X} (C : sn_Cx X c_Sw_getInitial "SignalNetwork$Switchboard" none "getInitial" 7 4 99) (a : Nat) : sn_S X 95 [(0, vA (some a))] [] (f_Sw_getInitial_95 a) := by
  unfold f_Sw_getInitial_95
  exact r_vret C d_Sw_getInitial_95 rfl
def f_Sw_getInitial_35 (a : Nat) (r1 : Option Nat) (x2 : Int32) (x3 : Int32) : sn_M := g_I 4 9 r1 fun v1 => n_n 4 r1 fun a2 => c_R (f_Lg_part a2) fun v3 => n_n 4 r1 fun a4 => c_V (f_Lg_leaveCall a4 (4 : Int32)) (p_I 4 9 r1 (x3 % (64 : Int32)) (p_I 4 11 r1 (x3 / (64 : Int32)) (p_I 4 10 r1 x2 (g_I 4 9 r1 fun v6 => n_n 7 (some a) fun a7 => c_V (f_Sw_connect a7 r1 v6) ((if v3 = none then f_Sw_getInitial_95 a else n_n 7 (some a) fun a9 => c_V (f_Sw_connect a9 v3 v1) (f_Sw_getInitial_95 a)))))))
set_option maxHeartbeats 4000000 in
set_option maxRecDepth 100000 in
theorem mono_Sw_getInitial_35 (a : Nat) (r1 : Option Nat) (x2 : Int32) (x3 : Int32) : sn_Mono (f_Sw_getInitial_35 a r1 x2 x3) := sn_Mono.gI (fun v1 => sn_Mono.nn (fun a2 => sn_Mono.cR (mono_Lg_part a2) (fun v3 => sn_Mono.nn (fun a4 => sn_Mono.cV (mono_Lg_leaveCall a4 (4 : Int32)) (sn_Mono.pI (sn_Mono.pI (sn_Mono.pI (sn_Mono.gI (fun v6 => sn_Mono.nn (fun a7 => sn_Mono.cV (mono_Sw_connect a7 r1 v6) (sn_Mono.ite (mono_Sw_getInitial_95 a) (sn_Mono.nn (fun a9 => sn_Mono.cV (mono_Sw_connect a9 v3 v1) (mono_Sw_getInitial_95 a))))))))))))))
set_option maxHeartbeats 4000000 in
set_option maxRecDepth 100000 in
theorem s_Sw_getInitial_35 {X : sn_X} (C : sn_Cx X c_Sw_getInitial "SignalNetwork$Switchboard" none "getInitial" 7 4 99) (a : Nat) (r1 : Option Nat) (x2 : Int32) (x3 : Int32) : sn_S X 35 [(0, vA (some a)), (1, vA r1), (2, vI x2), (3, vI x3)] [] (f_Sw_getInitial_35 a r1 x2 x3) := by
  unfold f_Sw_getInitial_35
  refine r_aload_n (q := 36) (i := 1) (pl := 1) C d_Sw_getInitial_35 rfl rfl rfl ?_
  refine r_gI (q := 39) C d_Sw_getInitial_36 rfl F_Sw_151 rfl (fun v1 => ?_)
  refine r_istore (q := 41) (i := 5) (lv' := [(5, vI v1), (0, vA (some a)), (1, vA r1), (2, vI x2), (3, vI x3)]) C d_Sw_getInitial_39 rfl (by decide) rfl ?_
  refine r_aload_n (q := 42) (i := 1) (pl := 2) C d_Sw_getInitial_41 rfl rfl rfl ?_
  refine r_cvR (q := 45) (As := []) (st := []) (cy := 3) C d_Sw_getInitial_42 rfl Y_Lg_part L_Sw_62 I_Lg_part Se_Lg_part rfl (by decide) rfl (Nat.le_of_ble_eq_true rfl) (Nat.le_of_ble_eq_true rfl) (Nat.le_of_ble_eq_true rfl) rfl (fun a2 => con_Lg_part a2) (fun v3 => ?_)
  refine r_astore (q := 47) (i := 6) (lv' := [(6, vA v3), (5, vI v1), (0, vA (some a)), (1, vA r1), (2, vI x2), (3, vI x3)]) C d_Sw_getInitial_45 rfl (by decide) rfl ?_
  refine r_aload_n (q := 48) (i := 1) (pl := 3) C d_Sw_getInitial_47 rfl rfl rfl ?_
  refine r_iconst (q := 49) (v := 4) C d_Sw_getInitial_48 rfl (by decide) ?_
  refine r_cvV (q := 52) (As := [vI (4 : Int32)]) (st := []) (cy := 3) C d_Sw_getInitial_49 rfl Y_Lg_leaveCall L_Sw_157 I_Lg_leaveCall Se_Lg_leaveCall rfl (by decide) rfl (Nat.le_of_ble_eq_true rfl) (Nat.le_of_ble_eq_true rfl) (Nat.le_of_ble_eq_true rfl) rfl (fun a4 => con_Lg_leaveCall a4 (4 : Int32)) ?_
  refine r_aload_n (q := 53) (i := 1) (pl := 3) C d_Sw_getInitial_52 rfl rfl rfl ?_
  refine r_iload_n (q := 54) (i := 3) (pl := 5) C d_Sw_getInitial_53 rfl rfl rfl ?_
  refine r_bipush (q := 56) (v := 64) C d_Sw_getInitial_54 rfl (by decide) ?_
  refine r_iremc (q := 57) C d_Sw_getInitial_56 rfl (by decide) ?_
  refine r_pI (q := 60) C d_Sw_getInitial_57 rfl F_Sw_151 rfl rfl (Or.inl rfl) ?_
  refine r_aload_n (q := 61) (i := 1) (pl := 3) C d_Sw_getInitial_60 rfl rfl rfl ?_
  refine r_iload_n (q := 62) (i := 3) (pl := 5) C d_Sw_getInitial_61 rfl rfl rfl ?_
  refine r_bipush (q := 64) (v := 64) C d_Sw_getInitial_62 rfl (by decide) ?_
  refine r_idivc (q := 65) C d_Sw_getInitial_64 rfl (by decide) ?_
  refine r_pI (q := 68) C d_Sw_getInitial_65 rfl F_Sw_126 rfl rfl (Or.inl rfl) ?_
  refine r_aload_n (q := 69) (i := 1) (pl := 3) C d_Sw_getInitial_68 rfl rfl rfl ?_
  refine r_iload_n (q := 70) (i := 2) (pl := 4) C d_Sw_getInitial_69 rfl rfl rfl ?_
  refine r_pI (q := 73) C d_Sw_getInitial_70 rfl F_Sw_78 rfl rfl (Or.inl rfl) ?_
  refine r_aload_n (q := 74) (i := 0) (pl := 2) C d_Sw_getInitial_73 rfl rfl rfl ?_
  refine r_aload_n (q := 75) (i := 1) (pl := 3) C d_Sw_getInitial_74 rfl rfl rfl ?_
  refine r_aload_n (q := 76) (i := 1) (pl := 3) C d_Sw_getInitial_75 rfl rfl rfl ?_
  refine r_gI (q := 79) C d_Sw_getInitial_76 rfl F_Sw_151 rfl (fun v6 => ?_)
  refine r_cvV (q := 82) (As := [vA r1, vI v6]) (st := []) (cy := 6) C d_Sw_getInitial_79 rfl Y_Sw_connect L_Sw_51 I_Sw_connect Se_Sw_connect rfl (by decide) rfl (Nat.le_of_ble_eq_true rfl) (Nat.le_of_ble_eq_true rfl) (Nat.le_of_ble_eq_true rfl) rfl (fun a7 => con_Sw_connect a7 r1 v6) ?_
  refine r_aload (q := 84) (i := 6) (pl := 0) C d_Sw_getInitial_82 rfl rfl ?_
  refine r_ifnull (tgt := 95) (q := 87) C d_Sw_getInitial_84 (by decide) rfl ?_ ?_
  · refine r_sub (lv' := [(0, vA (some a))]) [2] rfl ?_
    exact s_Sw_getInitial_95 C a
  · refine r_aload_n (q := 88) (i := 0) (pl := 2) C d_Sw_getInitial_87 rfl rfl rfl ?_
    refine r_aload (q := 90) (i := 6) (pl := 0) C d_Sw_getInitial_88 rfl rfl ?_
    refine r_iload (q := 92) (i := 5) (pl := 1) C d_Sw_getInitial_90 rfl rfl ?_
    refine r_cvV (q := 95) (As := [vA v3, vI v1]) (st := []) (cy := 6) C d_Sw_getInitial_92 rfl Y_Sw_connect L_Sw_51 I_Sw_connect Se_Sw_connect rfl (by decide) rfl (Nat.le_of_ble_eq_true rfl) (Nat.le_of_ble_eq_true rfl) (Nat.le_of_ble_eq_true rfl) rfl (fun a9 => con_Sw_connect a9 v3 v1) ?_
    refine r_sub (lv' := [(0, vA (some a))]) [2] rfl ?_
    exact s_Sw_getInitial_95 C a
def f_Sw_getInitial_20 (a : Nat) (r1 : Option Nat) (x2 : Int32) (x3 : Int32) (t0 : Int32) : sn_M := g_I 4 3 r1 fun v11 => (if v11 = 0 then f_Sw_getInitial_35 a r1 x2 x3 else (if ¬ t0 = 0 then f_Sw_getInitial_35 a r1 x2 x3 else r_V))
set_option maxHeartbeats 4000000 in
set_option maxRecDepth 100000 in
theorem mono_Sw_getInitial_20 (a : Nat) (r1 : Option Nat) (x2 : Int32) (x3 : Int32) (t0 : Int32) : sn_Mono (f_Sw_getInitial_20 a r1 x2 x3 t0) := sn_Mono.gI (fun v11 => sn_Mono.ite (mono_Sw_getInitial_35 a r1 x2 x3) (sn_Mono.ite (mono_Sw_getInitial_35 a r1 x2 x3) (sn_Mono.rV)))
set_option maxHeartbeats 4000000 in
set_option maxRecDepth 100000 in
theorem s_Sw_getInitial_20 {X : sn_X} (C : sn_Cx X c_Sw_getInitial "SignalNetwork$Switchboard" none "getInitial" 7 4 99) (a : Nat) (r1 : Option Nat) (x2 : Int32) (x3 : Int32) (t0 : Int32) : sn_S X 20 [(0, vA (some a)), (1, vA r1), (2, vI x2), (3, vI x3)] [vI t0] (f_Sw_getInitial_20 a r1 x2 x3 t0) := by
  unfold f_Sw_getInitial_20
  refine r_istore (q := 22) (i := 4) (lv' := [(4, vI t0), (0, vA (some a)), (1, vA r1), (2, vI x2), (3, vI x3)]) C d_Sw_getInitial_20 rfl (by decide) rfl ?_
  refine r_aload_n (q := 23) (i := 1) (pl := 2) C d_Sw_getInitial_22 rfl rfl rfl ?_
  refine r_gI (q := 26) C d_Sw_getInitial_23 rfl F_Sw_47 rfl (fun v11 => ?_)
  refine r_if_eq (tgt := 35) (q := 29) C d_Sw_getInitial_26 (by decide) rfl ?_ ?_
  · refine r_sub (lv' := [(0, vA (some a)), (1, vA r1), (2, vI x2), (3, vI x3)]) [1, 2, 3, 4] rfl ?_
    exact s_Sw_getInitial_35 C a r1 x2 x3
  · refine r_iload (q := 31) (i := 4) (pl := 0) C d_Sw_getInitial_29 rfl rfl ?_
    refine r_if_ne (tgt := 35) (q := 34) C d_Sw_getInitial_31 (by decide) rfl ?_ ?_
    · refine r_sub (lv' := [(0, vA (some a)), (1, vA r1), (2, vI x2), (3, vI x3)]) [1, 2, 3, 4] rfl ?_
      exact s_Sw_getInitial_35 C a r1 x2 x3
    · exact r_vret C d_Sw_getInitial_34 rfl
def f_Sw_getInitial_19 (a : Nat) (r1 : Option Nat) (x2 : Int32) (x3 : Int32) : sn_M := f_Sw_getInitial_20 a r1 x2 x3 (0 : Int32)
set_option maxHeartbeats 4000000 in
set_option maxRecDepth 100000 in
theorem mono_Sw_getInitial_19 (a : Nat) (r1 : Option Nat) (x2 : Int32) (x3 : Int32) : sn_Mono (f_Sw_getInitial_19 a r1 x2 x3) := mono_Sw_getInitial_20 a r1 x2 x3 (0 : Int32)
set_option maxHeartbeats 4000000 in
set_option maxRecDepth 100000 in
theorem s_Sw_getInitial_19 {X : sn_X} (C : sn_Cx X c_Sw_getInitial "SignalNetwork$Switchboard" none "getInitial" 7 4 99) (a : Nat) (r1 : Option Nat) (x2 : Int32) (x3 : Int32) : sn_S X 19 [(0, vA (some a)), (1, vA r1), (2, vI x2), (3, vI x3)] [] (f_Sw_getInitial_19 a r1 x2 x3) := by
  unfold f_Sw_getInitial_19
  refine r_iconst (q := 20) (v := 0) C d_Sw_getInitial_19 rfl (by decide) ?_
  exact s_Sw_getInitial_20 C a r1 x2 x3 (0 : Int32)
def f_Sw_getInitial (a : Nat) (r1 : Option Nat) (x2 : Int32) (x3 : Int32) : sn_M := g_I 4 3 r1 fun v12 => (if ¬ v12 = (1 : Int32) then f_Sw_getInitial_19 a r1 x2 x3 else n_n 4 r1 fun a13 => c_I (f_Lg_controls a13) fun v14 => (if ¬ v14 = 0 then f_Sw_getInitial_19 a r1 x2 x3 else f_Sw_getInitial_20 a r1 x2 x3 (1 : Int32)))
set_option maxHeartbeats 4000000 in
set_option maxRecDepth 100000 in
theorem mono_Sw_getInitial (a : Nat) (r1 : Option Nat) (x2 : Int32) (x3 : Int32) : sn_Mono (f_Sw_getInitial a r1 x2 x3) := sn_Mono.gI (fun v12 => sn_Mono.ite (mono_Sw_getInitial_19 a r1 x2 x3) (sn_Mono.nn (fun a13 => sn_Mono.cI (mono_Lg_controls a13) (fun v14 => sn_Mono.ite (mono_Sw_getInitial_19 a r1 x2 x3) (mono_Sw_getInitial_20 a r1 x2 x3 (1 : Int32))))))
set_option maxHeartbeats 4000000 in
set_option maxRecDepth 100000 in
theorem con_Sw_getInitial (a : Nat) (r1 : Option Nat) (x2 : Int32) (x3 : Int32) : sn_Con y_Sw_getInitial c_Sw_getInitial 7 none 4 99 [vA (some a), vA r1, vI x2, vI x3] (f_Sw_getInitial a r1 x2 x3) := by
  refine sn_Con.of (by decide +kernel) (by show _ ≤ _; exact Nat.le_of_ble_eq_true rfl) (mono_Sw_getInitial a r1 x2 x3) (fun X C => ?_)
  show sn_S X 0 [(0, vA (some a)), (1, vA r1), (2, vI x2), (3, vI x3)] [] _
  replace C : sn_Cx X c_Sw_getInitial "SignalNetwork$Switchboard" none "getInitial" 7 4 99 := C
  unfold f_Sw_getInitial
  refine r_aload_n (q := 1) (i := 1) (pl := 1) C d_Sw_getInitial_0 rfl rfl rfl ?_
  refine r_gI (q := 4) C d_Sw_getInitial_1 rfl F_Sw_47 rfl (fun v12 => ?_)
  refine r_iconst (q := 5) (v := 1) C d_Sw_getInitial_4 rfl (by decide) ?_
  refine r_icmp_ne (tgt := 19) (q := 8) C d_Sw_getInitial_5 (by decide) rfl ?_ ?_
  · exact s_Sw_getInitial_19 C a r1 x2 x3
  · refine r_aload_n (q := 9) (i := 1) (pl := 1) C d_Sw_getInitial_8 rfl rfl rfl ?_
    refine r_cvI (q := 12) (As := []) (st := []) (cy := 3) C d_Sw_getInitial_9 rfl Y_Lg_controls L_Sw_191 I_Lg_controls Se_Lg_controls rfl (by decide) rfl (Nat.le_of_ble_eq_true rfl) (Nat.le_of_ble_eq_true rfl) (Nat.le_of_ble_eq_true rfl) rfl (fun a13 => con_Lg_controls a13) (fun v14 => ?_)
    refine r_if_ne (tgt := 19) (q := 15) C d_Sw_getInitial_12 (by decide) rfl ?_ ?_
    · exact s_Sw_getInitial_19 C a r1 x2 x3
    · refine r_iconst (q := 16) (v := 1) C d_Sw_getInitial_15 rfl (by decide) ?_
      refine r_goto (tgt := 20) C d_Sw_getInitial_16 (by decide) ?_
      exact s_Sw_getInitial_20 C a r1 x2 x3 (1 : Int32)
theorem d_Sw_reset_0 : decode c_Sw_reset 0 = .ok (.aload_n 1, 1) := by decide +kernel
theorem d_Sw_reset_1 : decode c_Sw_reset 1 = .ok (.bipush 8, 2) := by decide +kernel
theorem d_Sw_reset_3 : decode c_Sw_reset 3 = .ok (.invokevirtual 157, 3) := by decide +kernel
theorem d_Sw_reset_6 : decode c_Sw_reset 6 = .ok (.aload_n 1, 1) := by decide +kernel
theorem d_Sw_reset_7 : decode c_Sw_reset 7 = .ok (.aload_n 0, 1) := by decide +kernel
theorem d_Sw_reset_8 : decode c_Sw_reset 8 = .ok (.getfield 33, 3) := by decide +kernel
theorem d_Sw_reset_11 : decode c_Sw_reset 11 = .ok (.bipush 30, 2) := by decide +kernel
theorem d_Sw_reset_13 : decode c_Sw_reset 13 = .ok (.invokevirtual 142, 3) := by decide +kernel
theorem d_Sw_reset_16 : decode c_Sw_reset 16 = .ok (.putfield 148, 3) := by decide +kernel
theorem d_Sw_reset_19 : decode c_Sw_reset 19 = .ok (.aload_n 0, 1) := by decide +kernel
theorem d_Sw_reset_20 : decode c_Sw_reset 20 = .ok (.aload_n 1, 1) := by decide +kernel
theorem d_Sw_reset_21 : decode c_Sw_reset 21 = .ok (.bipush 12, 2) := by decide +kernel
theorem d_Sw_reset_23 : decode c_Sw_reset 23 = .ok (.aload_n 1, 1) := by decide +kernel
theorem d_Sw_reset_24 : decode c_Sw_reset 24 = .ok (.getfield 78, 3) := by decide +kernel
theorem d_Sw_reset_27 : decode c_Sw_reset 27 = .ok (.iconst 0, 1) := by decide +kernel
theorem d_Sw_reset_28 : decode c_Sw_reset 28 = .ok (.invokevirtual 81, 3) := by decide +kernel
theorem d_Sw_reset_31 : decode c_Sw_reset 31 = .ok (.return_, 1) := by decide +kernel
def f_Sw_reset (a : Nat) (r1 : Option Nat) : sn_M := n_n 4 r1 fun a1 => c_V (f_Lg_leaveCall a1 (8 : Int32)) (g_R 7 1 (some a) fun v3 => n_n 1 v3 fun a4 => c_I (f_Ck_after a4 (30 : Int32)) fun v5 => p_I 4 5 r1 v5 (g_I 4 10 r1 fun v6 => n_n 7 (some a) fun a7 => c_V (f_Sw_post a7 r1 (12 : Int32) v6 (0 : Int32)) (r_V)))
set_option maxHeartbeats 4000000 in
set_option maxRecDepth 100000 in
theorem mono_Sw_reset (a : Nat) (r1 : Option Nat) : sn_Mono (f_Sw_reset a r1) := sn_Mono.nn (fun a1 => sn_Mono.cV (mono_Lg_leaveCall a1 (8 : Int32)) (sn_Mono.gR (fun v3 => sn_Mono.nn (fun a4 => sn_Mono.cI (mono_Ck_after a4 (30 : Int32)) (fun v5 => sn_Mono.pI (sn_Mono.gI (fun v6 => sn_Mono.nn (fun a7 => sn_Mono.cV (mono_Sw_post a7 r1 (12 : Int32) v6 (0 : Int32)) (sn_Mono.rV)))))))))
set_option maxHeartbeats 4000000 in
set_option maxRecDepth 100000 in
theorem con_Sw_reset (a : Nat) (r1 : Option Nat) : sn_Con y_Sw_reset c_Sw_reset 2 none 2 52 [vA (some a), vA r1] (f_Sw_reset a r1) := by
  refine sn_Con.of (by decide +kernel) (by show _ ≤ _; exact Nat.le_of_ble_eq_true rfl) (mono_Sw_reset a r1) (fun X C => ?_)
  show sn_S X 0 [(0, vA (some a)), (1, vA r1)] [] _
  replace C : sn_Cx X c_Sw_reset "SignalNetwork$Switchboard" none "reset" 2 2 52 := C
  unfold f_Sw_reset
  refine r_aload_n (q := 1) (i := 1) (pl := 1) C d_Sw_reset_0 rfl rfl rfl ?_
  refine r_bipush (q := 3) (v := 8) C d_Sw_reset_1 rfl (by decide) ?_
  refine r_cvV (q := 6) (As := [vI (8 : Int32)]) (st := []) (cy := 3) C d_Sw_reset_3 rfl Y_Lg_leaveCall L_Sw_157 I_Lg_leaveCall Se_Lg_leaveCall rfl (by decide) rfl (Nat.le_of_ble_eq_true rfl) (Nat.le_of_ble_eq_true rfl) (Nat.le_of_ble_eq_true rfl) rfl (fun a1 => con_Lg_leaveCall a1 (8 : Int32)) ?_
  refine r_aload_n (q := 7) (i := 1) (pl := 1) C d_Sw_reset_6 rfl rfl rfl ?_
  refine r_aload_n (q := 8) (i := 0) (pl := 0) C d_Sw_reset_7 rfl rfl rfl ?_
  refine r_gR (q := 11) C d_Sw_reset_8 rfl F_Sw_33 rfl (fun v3 => ?_)
  refine r_bipush (q := 13) (v := 30) C d_Sw_reset_11 rfl (by decide) ?_
  refine r_cvI (q := 16) (As := [vI (30 : Int32)]) (st := [vA r1]) (cy := 0) C d_Sw_reset_13 rfl Y_Ck_after L_Sw_142 I_Ck_after Se_Ck_after rfl (by decide) rfl (Nat.le_of_ble_eq_true rfl) (Nat.le_of_ble_eq_true rfl) (Nat.le_of_ble_eq_true rfl) rfl (fun a4 => con_Ck_after a4 (30 : Int32)) (fun v5 => ?_)
  refine r_pI (q := 19) C d_Sw_reset_16 rfl F_Sw_148 rfl rfl (Or.inl rfl) ?_
  refine r_aload_n (q := 20) (i := 0) (pl := 0) C d_Sw_reset_19 rfl rfl rfl ?_
  refine r_aload_n (q := 21) (i := 1) (pl := 1) C d_Sw_reset_20 rfl rfl rfl ?_
  refine r_bipush (q := 23) (v := 12) C d_Sw_reset_21 rfl (by decide) ?_
  refine r_aload_n (q := 24) (i := 1) (pl := 1) C d_Sw_reset_23 rfl rfl rfl ?_
  refine r_gI (q := 27) C d_Sw_reset_24 rfl F_Sw_78 rfl (fun v6 => ?_)
  refine r_iconst (q := 28) (v := 0) C d_Sw_reset_27 rfl (by decide) ?_
  refine r_cvV (q := 31) (As := [vA r1, vI (12 : Int32), vI v6, vI (0 : Int32)]) (st := []) (cy := 6) C d_Sw_reset_28 rfl Y_Sw_post L_Sw_81 I_Sw_post Se_Sw_post rfl (by decide) rfl (Nat.le_of_ble_eq_true rfl) (Nat.le_of_ble_eq_true rfl) (Nat.le_of_ble_eq_true rfl) rfl (fun a7 => con_Sw_post a7 r1 (12 : Int32) v6 (0 : Int32)) ?_
  exact r_vret C d_Sw_reset_31 rfl
theorem d_Sw_getProgress_0 : decode c_Sw_getProgress 0 = .ok (.aload_n 1, 1) := by decide +kernel
theorem d_Sw_getProgress_1 : decode c_Sw_getProgress 1 = .ok (.getfield 47, 3) := by decide +kernel
theorem d_Sw_getProgress_4 : decode c_Sw_getProgress 4 = .ok (.ifCond .ne 14, 3) := by decide +kernel
theorem d_Sw_getProgress_7 : decode c_Sw_getProgress 7 = .ok (.aload_n 1, 1) := by decide +kernel
theorem d_Sw_getProgress_8 : decode c_Sw_getProgress 8 = .ok (.iload_n 2, 1) := by decide +kernel
theorem d_Sw_getProgress_9 : decode c_Sw_getProgress 9 = .ok (.putfield 78, 3) := by decide +kernel
theorem d_Sw_getProgress_12 : decode c_Sw_getProgress 12 = .ok (.aload_n 0, 1) := by decide +kernel
theorem d_Sw_getProgress_13 : decode c_Sw_getProgress 13 = .ok (.aload_n 1, 1) := by decide +kernel
theorem d_Sw_getProgress_14 : decode c_Sw_getProgress 14 = .ok (.invokevirtual 194, 3) := by decide +kernel
theorem d_Sw_getProgress_17 : decode c_Sw_getProgress 17 = .ok (.return_, 1) := by decide +kernel
theorem d_Sw_getProgress_18 : decode c_Sw_getProgress 18 = .ok (.iload_n 2, 1) := by decide +kernel
theorem d_Sw_getProgress_19 : decode c_Sw_getProgress 19 = .ok (.aload_n 1, 1) := by decide +kernel
theorem d_Sw_getProgress_20 : decode c_Sw_getProgress 20 = .ok (.getfield 78, 3) := by decide +kernel
theorem d_Sw_getProgress_23 : decode c_Sw_getProgress 23 = .ok (.if_icmp .eq 4, 3) := by decide +kernel
theorem d_Sw_getProgress_26 : decode c_Sw_getProgress 26 = .ok (.return_, 1) := by decide +kernel
theorem d_Sw_getProgress_27 : decode c_Sw_getProgress 27 = .ok (.iload_n 3, 1) := by decide +kernel
theorem d_Sw_getProgress_28 : decode c_Sw_getProgress 28 = .ok (.bipush 8, 2) := by decide +kernel
theorem d_Sw_getProgress_30 : decode c_Sw_getProgress 30 = .ok (.if_icmp .ne 42, 3) := by decide +kernel
theorem d_Sw_getProgress_33 : decode c_Sw_getProgress 33 = .ok (.aload_n 1, 1) := by decide +kernel
theorem d_Sw_getProgress_34 : decode c_Sw_getProgress 34 = .ok (.getfield 47, 3) := by decide +kernel
theorem d_Sw_getProgress_37 : decode c_Sw_getProgress 37 = .ok (.iconst 1, 1) := by decide +kernel
theorem d_Sw_getProgress_38 : decode c_Sw_getProgress 38 = .ok (.if_icmp .ne 34, 3) := by decide +kernel
theorem d_Sw_getProgress_41 : decode c_Sw_getProgress 41 = .ok (.aload_n 1, 1) := by decide +kernel
theorem d_Sw_getProgress_42 : decode c_Sw_getProgress 42 = .ok (.iconst 2, 1) := by decide +kernel
theorem d_Sw_getProgress_43 : decode c_Sw_getProgress 43 = .ok (.putfield 47, 3) := by decide +kernel
theorem d_Sw_getProgress_46 : decode c_Sw_getProgress 46 = .ok (.aload_n 1, 1) := by decide +kernel
theorem d_Sw_getProgress_47 : decode c_Sw_getProgress 47 = .ok (.aload_n 0, 1) := by decide +kernel
theorem d_Sw_getProgress_48 : decode c_Sw_getProgress 48 = .ok (.getfield 33, 3) := by decide +kernel
theorem d_Sw_getProgress_51 : decode c_Sw_getProgress 51 = .ok (.bipush 60, 2) := by decide +kernel
theorem d_Sw_getProgress_53 : decode c_Sw_getProgress 53 = .ok (.invokevirtual 142, 3) := by decide +kernel
theorem d_Sw_getProgress_56 : decode c_Sw_getProgress 56 = .ok (.putfield 148, 3) := by decide +kernel
theorem d_Sw_getProgress_59 : decode c_Sw_getProgress 59 = .ok (.aload_n 0, 1) := by decide +kernel
theorem d_Sw_getProgress_60 : decode c_Sw_getProgress 60 = .ok (.aload_n 1, 1) := by decide +kernel
theorem d_Sw_getProgress_61 : decode c_Sw_getProgress 61 = .ok (.getfield 55, 3) := by decide +kernel
theorem d_Sw_getProgress_64 : decode c_Sw_getProgress 64 = .ok (.bipush 8, 2) := by decide +kernel
theorem d_Sw_getProgress_66 : decode c_Sw_getProgress 66 = .ok (.invokevirtual 59, 3) := by decide +kernel
theorem d_Sw_getProgress_69 : decode c_Sw_getProgress 69 = .ok (.goto 37, 3) := by decide +kernel
theorem d_Sw_getProgress_72 : decode c_Sw_getProgress 72 = .ok (.iload_n 3, 1) := by decide +kernel
theorem d_Sw_getProgress_73 : decode c_Sw_getProgress 73 = .ok (.bipush 9, 2) := by decide +kernel
theorem d_Sw_getProgress_75 : decode c_Sw_getProgress 75 = .ok (.if_icmp .ne 31, 3) := by decide +kernel
theorem d_Sw_getProgress_78 : decode c_Sw_getProgress 78 = .ok (.aload_n 1, 1) := by decide +kernel
theorem d_Sw_getProgress_79 : decode c_Sw_getProgress 79 = .ok (.getfield 47, 3) := by decide +kernel
theorem d_Sw_getProgress_82 : decode c_Sw_getProgress 82 = .ok (.iconst 2, 1) := by decide +kernel
theorem d_Sw_getProgress_83 : decode c_Sw_getProgress 83 = .ok (.if_icmp .ne 23, 3) := by decide +kernel
theorem d_Sw_getProgress_86 : decode c_Sw_getProgress 86 = .ok (.aload_n 1, 1) := by decide +kernel
theorem d_Sw_getProgress_87 : decode c_Sw_getProgress 87 = .ok (.iconst 3, 1) := by decide +kernel
theorem d_Sw_getProgress_88 : decode c_Sw_getProgress 88 = .ok (.putfield 47, 3) := by decide +kernel
theorem d_Sw_getProgress_91 : decode c_Sw_getProgress 91 = .ok (.aload_n 1, 1) := by decide +kernel
theorem d_Sw_getProgress_92 : decode c_Sw_getProgress 92 = .ok (.iconst 0, 1) := by decide +kernel
theorem d_Sw_getProgress_93 : decode c_Sw_getProgress 93 = .ok (.putfield 148, 3) := by decide +kernel
theorem d_Sw_getProgress_96 : decode c_Sw_getProgress 96 = .ok (.aload_n 0, 1) := by decide +kernel
theorem d_Sw_getProgress_97 : decode c_Sw_getProgress 97 = .ok (.aload_n 1, 1) := by decide +kernel
theorem d_Sw_getProgress_98 : decode c_Sw_getProgress 98 = .ok (.getfield 55, 3) := by decide +kernel
theorem d_Sw_getProgress_101 : decode c_Sw_getProgress 101 = .ok (.bipush 9, 2) := by decide +kernel
theorem d_Sw_getProgress_103 : decode c_Sw_getProgress 103 = .ok (.invokevirtual 59, 3) := by decide +kernel
theorem d_Sw_getProgress_106 : decode c_Sw_getProgress 106 = .ok (.return_, 1) := by decide +kernel
def f_Sw_getProgress_106 (a : Nat) : sn_M := r_V
set_option maxHeartbeats 4000000 in
set_option maxRecDepth 100000 in
theorem mono_Sw_getProgress_106 (a : Nat) : sn_Mono (f_Sw_getProgress_106 a) := sn_Mono.rV
set_option maxHeartbeats 4000000 in
set_option maxRecDepth 100000 in
theorem s_Sw_getProgress_106 {X : sn_X} (C : sn_Cx X c_Sw_getProgress "SignalNetwork$Switchboard" none "getProgress" 4 3 75) (a : Nat) : sn_S X 106 [(0, vA (some a))] [] (f_Sw_getProgress_106 a) := by
  unfold f_Sw_getProgress_106
  exact r_vret C d_Sw_getProgress_106 rfl
def f_Sw_getProgress_72 (a : Nat) (r1 : Option Nat) (x3 : Int32) : sn_M := (if ¬ x3 = (9 : Int32) then f_Sw_getProgress_106 a else g_I 4 3 r1 fun v1 => (if ¬ v1 = (2 : Int32) then f_Sw_getProgress_106 a else p_I 4 3 r1 (3 : Int32) (p_I 4 5 r1 (0 : Int32) (g_R 4 4 r1 fun v2 => n_n 7 (some a) fun a3 => c_V (f_Sw_goBack a3 v2 (9 : Int32)) (f_Sw_getProgress_106 a)))))
set_option maxHeartbeats 4000000 in
set_option maxRecDepth 100000 in
theorem mono_Sw_getProgress_72 (a : Nat) (r1 : Option Nat) (x3 : Int32) : sn_Mono (f_Sw_getProgress_72 a r1 x3) := sn_Mono.ite (mono_Sw_getProgress_106 a) (sn_Mono.gI (fun v1 => sn_Mono.ite (mono_Sw_getProgress_106 a) (sn_Mono.pI (sn_Mono.pI (sn_Mono.gR (fun v2 => sn_Mono.nn (fun a3 => sn_Mono.cV (mono_Sw_goBack a3 v2 (9 : Int32)) (mono_Sw_getProgress_106 a))))))))
set_option maxHeartbeats 4000000 in
set_option maxRecDepth 100000 in
theorem s_Sw_getProgress_72 {X : sn_X} (C : sn_Cx X c_Sw_getProgress "SignalNetwork$Switchboard" none "getProgress" 4 3 75) (a : Nat) (r1 : Option Nat) (x3 : Int32) : sn_S X 72 [(0, vA (some a)), (1, vA r1), (3, vI x3)] [] (f_Sw_getProgress_72 a r1 x3) := by
  unfold f_Sw_getProgress_72
  refine r_iload_n (q := 73) (i := 3) (pl := 2) C d_Sw_getProgress_72 rfl rfl rfl ?_
  refine r_bipush (q := 75) (v := 9) C d_Sw_getProgress_73 rfl (by decide) ?_
  refine r_icmp_ne (tgt := 106) (q := 78) C d_Sw_getProgress_75 (by decide) rfl ?_ ?_
  · refine r_sub (lv' := [(0, vA (some a))]) [0] rfl ?_
    exact s_Sw_getProgress_106 C a
  · refine r_aload_n (q := 79) (i := 1) (pl := 1) C d_Sw_getProgress_78 rfl rfl rfl ?_
    refine r_gI (q := 82) C d_Sw_getProgress_79 rfl F_Sw_47 rfl (fun v1 => ?_)
    refine r_iconst (q := 83) (v := 2) C d_Sw_getProgress_82 rfl (by decide) ?_
    refine r_icmp_ne (tgt := 106) (q := 86) C d_Sw_getProgress_83 (by decide) rfl ?_ ?_
    · refine r_sub (lv' := [(0, vA (some a))]) [0] rfl ?_
      exact s_Sw_getProgress_106 C a
    · refine r_aload_n (q := 87) (i := 1) (pl := 1) C d_Sw_getProgress_86 rfl rfl rfl ?_
      refine r_iconst (q := 88) (v := 3) C d_Sw_getProgress_87 rfl (by decide) ?_
      refine r_pI (q := 91) C d_Sw_getProgress_88 rfl F_Sw_47 rfl rfl (Or.inl rfl) ?_
      refine r_aload_n (q := 92) (i := 1) (pl := 1) C d_Sw_getProgress_91 rfl rfl rfl ?_
      refine r_iconst (q := 93) (v := 0) C d_Sw_getProgress_92 rfl (by decide) ?_
      refine r_pI (q := 96) C d_Sw_getProgress_93 rfl F_Sw_148 rfl rfl (Or.inl rfl) ?_
      refine r_aload_n (q := 97) (i := 0) (pl := 0) C d_Sw_getProgress_96 rfl rfl rfl ?_
      refine r_aload_n (q := 98) (i := 1) (pl := 1) C d_Sw_getProgress_97 rfl rfl rfl ?_
      refine r_gR (q := 101) C d_Sw_getProgress_98 rfl F_Sw_55 rfl (fun v2 => ?_)
      refine r_bipush (q := 103) (v := 9) C d_Sw_getProgress_101 rfl (by decide) ?_
      refine r_cvV (q := 106) (As := [vA v2, vI (9 : Int32)]) (st := []) (cy := 6) C d_Sw_getProgress_103 rfl Y_Sw_goBack L_Sw_59 I_Sw_goBack Se_Sw_goBack rfl (by decide) rfl (Nat.le_of_ble_eq_true rfl) (Nat.le_of_ble_eq_true rfl) (Nat.le_of_ble_eq_true rfl) rfl (fun a3 => con_Sw_goBack a3 v2 (9 : Int32)) ?_
      refine r_sub (lv' := [(0, vA (some a))]) [0] rfl ?_
      exact s_Sw_getProgress_106 C a
def f_Sw_getProgress (a : Nat) (r1 : Option Nat) (x2 : Int32) (x3 : Int32) : sn_M := g_I 4 3 r1 fun v5 => (if ¬ v5 = 0 then g_I 4 10 r1 fun v6 => (if x2 = v6 then (if ¬ x3 = (8 : Int32) then f_Sw_getProgress_72 a r1 x3 else g_I 4 3 r1 fun v7 => (if ¬ v7 = (1 : Int32) then f_Sw_getProgress_72 a r1 x3 else p_I 4 3 r1 (2 : Int32) (g_R 7 1 (some a) fun v8 => n_n 1 v8 fun a9 => c_I (f_Ck_after a9 (60 : Int32)) fun v10 => p_I 4 5 r1 v10 (g_R 4 4 r1 fun v11 => n_n 7 (some a) fun a12 => c_V (f_Sw_goBack a12 v11 (8 : Int32)) (f_Sw_getProgress_106 a))))) else r_V) else p_I 4 10 r1 x2 (n_n 7 (some a) fun a14 => c_V (f_Sw_reset a14 r1) (r_V)))
set_option maxHeartbeats 4000000 in
set_option maxRecDepth 100000 in
theorem mono_Sw_getProgress (a : Nat) (r1 : Option Nat) (x2 : Int32) (x3 : Int32) : sn_Mono (f_Sw_getProgress a r1 x2 x3) := sn_Mono.gI (fun v5 => sn_Mono.ite (sn_Mono.gI (fun v6 => sn_Mono.ite (sn_Mono.ite (mono_Sw_getProgress_72 a r1 x3) (sn_Mono.gI (fun v7 => sn_Mono.ite (mono_Sw_getProgress_72 a r1 x3) (sn_Mono.pI (sn_Mono.gR (fun v8 => sn_Mono.nn (fun a9 => sn_Mono.cI (mono_Ck_after a9 (60 : Int32)) (fun v10 => sn_Mono.pI (sn_Mono.gR (fun v11 => sn_Mono.nn (fun a12 => sn_Mono.cV (mono_Sw_goBack a12 v11 (8 : Int32)) (mono_Sw_getProgress_106 a)))))))))))) (sn_Mono.rV))) (sn_Mono.pI (sn_Mono.nn (fun a14 => sn_Mono.cV (mono_Sw_reset a14 r1) (sn_Mono.rV)))))
set_option maxHeartbeats 4000000 in
set_option maxRecDepth 100000 in
theorem con_Sw_getProgress (a : Nat) (r1 : Option Nat) (x2 : Int32) (x3 : Int32) : sn_Con y_Sw_getProgress c_Sw_getProgress 4 none 3 75 [vA (some a), vA r1, vI x2, vI x3] (f_Sw_getProgress a r1 x2 x3) := by
  refine sn_Con.of (by decide +kernel) (by show _ ≤ _; exact Nat.le_of_ble_eq_true rfl) (mono_Sw_getProgress a r1 x2 x3) (fun X C => ?_)
  show sn_S X 0 [(0, vA (some a)), (1, vA r1), (2, vI x2), (3, vI x3)] [] _
  replace C : sn_Cx X c_Sw_getProgress "SignalNetwork$Switchboard" none "getProgress" 4 3 75 := C
  unfold f_Sw_getProgress
  refine r_aload_n (q := 1) (i := 1) (pl := 1) C d_Sw_getProgress_0 rfl rfl rfl ?_
  refine r_gI (q := 4) C d_Sw_getProgress_1 rfl F_Sw_47 rfl (fun v5 => ?_)
  refine r_if_ne (tgt := 18) (q := 7) C d_Sw_getProgress_4 (by decide) rfl ?_ ?_
  · refine r_iload_n (q := 19) (i := 2) (pl := 2) C d_Sw_getProgress_18 rfl rfl rfl ?_
    refine r_aload_n (q := 20) (i := 1) (pl := 1) C d_Sw_getProgress_19 rfl rfl rfl ?_
    refine r_gI (q := 23) C d_Sw_getProgress_20 rfl F_Sw_78 rfl (fun v6 => ?_)
    refine r_icmp_eq (tgt := 27) (q := 26) C d_Sw_getProgress_23 (by decide) rfl ?_ ?_
    · refine r_iload_n (q := 28) (i := 3) (pl := 3) C d_Sw_getProgress_27 rfl rfl rfl ?_
      refine r_bipush (q := 30) (v := 8) C d_Sw_getProgress_28 rfl (by decide) ?_
      refine r_icmp_ne (tgt := 72) (q := 33) C d_Sw_getProgress_30 (by decide) rfl ?_ ?_
      · refine r_sub (lv' := [(0, vA (some a)), (1, vA r1), (3, vI x3)]) [0, 1, 3] rfl ?_
        exact s_Sw_getProgress_72 C a r1 x3
      · refine r_aload_n (q := 34) (i := 1) (pl := 1) C d_Sw_getProgress_33 rfl rfl rfl ?_
        refine r_gI (q := 37) C d_Sw_getProgress_34 rfl F_Sw_47 rfl (fun v7 => ?_)
        refine r_iconst (q := 38) (v := 1) C d_Sw_getProgress_37 rfl (by decide) ?_
        refine r_icmp_ne (tgt := 72) (q := 41) C d_Sw_getProgress_38 (by decide) rfl ?_ ?_
        · refine r_sub (lv' := [(0, vA (some a)), (1, vA r1), (3, vI x3)]) [0, 1, 3] rfl ?_
          exact s_Sw_getProgress_72 C a r1 x3
        · refine r_aload_n (q := 42) (i := 1) (pl := 1) C d_Sw_getProgress_41 rfl rfl rfl ?_
          refine r_iconst (q := 43) (v := 2) C d_Sw_getProgress_42 rfl (by decide) ?_
          refine r_pI (q := 46) C d_Sw_getProgress_43 rfl F_Sw_47 rfl rfl (Or.inl rfl) ?_
          refine r_aload_n (q := 47) (i := 1) (pl := 1) C d_Sw_getProgress_46 rfl rfl rfl ?_
          refine r_aload_n (q := 48) (i := 0) (pl := 0) C d_Sw_getProgress_47 rfl rfl rfl ?_
          refine r_gR (q := 51) C d_Sw_getProgress_48 rfl F_Sw_33 rfl (fun v8 => ?_)
          refine r_bipush (q := 53) (v := 60) C d_Sw_getProgress_51 rfl (by decide) ?_
          refine r_cvI (q := 56) (As := [vI (60 : Int32)]) (st := [vA r1]) (cy := 0) C d_Sw_getProgress_53 rfl Y_Ck_after L_Sw_142 I_Ck_after Se_Ck_after rfl (by decide) rfl (Nat.le_of_ble_eq_true rfl) (Nat.le_of_ble_eq_true rfl) (Nat.le_of_ble_eq_true rfl) rfl (fun a9 => con_Ck_after a9 (60 : Int32)) (fun v10 => ?_)
          refine r_pI (q := 59) C d_Sw_getProgress_56 rfl F_Sw_148 rfl rfl (Or.inl rfl) ?_
          refine r_aload_n (q := 60) (i := 0) (pl := 0) C d_Sw_getProgress_59 rfl rfl rfl ?_
          refine r_aload_n (q := 61) (i := 1) (pl := 1) C d_Sw_getProgress_60 rfl rfl rfl ?_
          refine r_gR (q := 64) C d_Sw_getProgress_61 rfl F_Sw_55 rfl (fun v11 => ?_)
          refine r_bipush (q := 66) (v := 8) C d_Sw_getProgress_64 rfl (by decide) ?_
          refine r_cvV (q := 69) (As := [vA v11, vI (8 : Int32)]) (st := []) (cy := 6) C d_Sw_getProgress_66 rfl Y_Sw_goBack L_Sw_59 I_Sw_goBack Se_Sw_goBack rfl (by decide) rfl (Nat.le_of_ble_eq_true rfl) (Nat.le_of_ble_eq_true rfl) (Nat.le_of_ble_eq_true rfl) rfl (fun a12 => con_Sw_goBack a12 v11 (8 : Int32)) ?_
          refine r_goto (tgt := 106) C d_Sw_getProgress_69 (by decide) ?_
          refine r_sub (lv' := [(0, vA (some a))]) [0] rfl ?_
          exact s_Sw_getProgress_106 C a
    · exact r_vret C d_Sw_getProgress_26 rfl
  · refine r_aload_n (q := 8) (i := 1) (pl := 1) C d_Sw_getProgress_7 rfl rfl rfl ?_
    refine r_iload_n (q := 9) (i := 2) (pl := 2) C d_Sw_getProgress_8 rfl rfl rfl ?_
    refine r_pI (q := 12) C d_Sw_getProgress_9 rfl F_Sw_78 rfl rfl (Or.inl rfl) ?_
    refine r_aload_n (q := 13) (i := 0) (pl := 0) C d_Sw_getProgress_12 rfl rfl rfl ?_
    refine r_aload_n (q := 14) (i := 1) (pl := 1) C d_Sw_getProgress_13 rfl rfl rfl ?_
    refine r_cvV (q := 17) (As := [vA r1]) (st := []) (cy := 6) C d_Sw_getProgress_14 rfl Y_Sw_reset L_Sw_194 I_Sw_reset Se_Sw_reset rfl (by decide) rfl (Nat.le_of_ble_eq_true rfl) (Nat.le_of_ble_eq_true rfl) (Nat.le_of_ble_eq_true rfl) rfl (fun a14 => con_Sw_reset a14 r1) ?_
    exact r_vret C d_Sw_getProgress_17 rfl
theorem d_Sw_getRelease_0 : decode c_Sw_getRelease 0 = .ok (.aload_n 0, 1) := by decide +kernel
theorem d_Sw_getRelease_1 : decode c_Sw_getRelease 1 = .ok (.aload_n 1, 1) := by decide +kernel
theorem d_Sw_getRelease_2 : decode c_Sw_getRelease 2 = .ok (.bipush 11, 2) := by decide +kernel
theorem d_Sw_getRelease_4 : decode c_Sw_getRelease 4 = .ok (.iload_n 2, 1) := by decide +kernel
theorem d_Sw_getRelease_5 : decode c_Sw_getRelease 5 = .ok (.iconst 0, 1) := by decide +kernel
theorem d_Sw_getRelease_6 : decode c_Sw_getRelease 6 = .ok (.invokevirtual 81, 3) := by decide +kernel
theorem d_Sw_getRelease_9 : decode c_Sw_getRelease 9 = .ok (.iload_n 2, 1) := by decide +kernel
theorem d_Sw_getRelease_10 : decode c_Sw_getRelease 10 = .ok (.aload_n 1, 1) := by decide +kernel
theorem d_Sw_getRelease_11 : decode c_Sw_getRelease 11 = .ok (.getfield 78, 3) := by decide +kernel
theorem d_Sw_getRelease_14 : decode c_Sw_getRelease 14 = .ok (.if_icmp .eq 4, 3) := by decide +kernel
theorem d_Sw_getRelease_17 : decode c_Sw_getRelease 17 = .ok (.return_, 1) := by decide +kernel
theorem d_Sw_getRelease_18 : decode c_Sw_getRelease 18 = .ok (.aload_n 1, 1) := by decide +kernel
theorem d_Sw_getRelease_19 : decode c_Sw_getRelease 19 = .ok (.invokevirtual 154, 3) := by decide +kernel
theorem d_Sw_getRelease_22 : decode c_Sw_getRelease 22 = .ok (.ifCond .eq 19, 3) := by decide +kernel
theorem d_Sw_getRelease_25 : decode c_Sw_getRelease 25 = .ok (.aload_n 1, 1) := by decide +kernel
theorem d_Sw_getRelease_26 : decode c_Sw_getRelease 26 = .ok (.iconst 0, 1) := by decide +kernel
theorem d_Sw_getRelease_27 : decode c_Sw_getRelease 27 = .ok (.invokevirtual 157, 3) := by decide +kernel
theorem d_Sw_getRelease_30 : decode c_Sw_getRelease 30 = .ok (.aload_n 0, 1) := by decide +kernel
theorem d_Sw_getRelease_31 : decode c_Sw_getRelease 31 = .ok (.aload_n 1, 1) := by decide +kernel
theorem d_Sw_getRelease_32 : decode c_Sw_getRelease 32 = .ok (.invokevirtual 62, 3) := by decide +kernel
theorem d_Sw_getRelease_35 : decode c_Sw_getRelease 35 = .ok (.invokevirtual 66, 3) := by decide +kernel
theorem d_Sw_getRelease_38 : decode c_Sw_getRelease 38 = .ok (.goto 14, 3) := by decide +kernel
theorem d_Sw_getRelease_41 : decode c_Sw_getRelease 41 = .ok (.iload_n 3, 1) := by decide +kernel
theorem d_Sw_getRelease_42 : decode c_Sw_getRelease 42 = .ok (.bipush 12, 2) := by decide +kernel
theorem d_Sw_getRelease_44 : decode c_Sw_getRelease 44 = .ok (.if_icmp .ne 8, 3) := by decide +kernel
theorem d_Sw_getRelease_47 : decode c_Sw_getRelease 47 = .ok (.aload_n 1, 1) := by decide +kernel
theorem d_Sw_getRelease_48 : decode c_Sw_getRelease 48 = .ok (.iconst 0, 1) := by decide +kernel
theorem d_Sw_getRelease_49 : decode c_Sw_getRelease 49 = .ok (.invokevirtual 157, 3) := by decide +kernel
theorem d_Sw_getRelease_52 : decode c_Sw_getRelease 52 = .ok (.return_, 1) := by decide +kernel
def f_Sw_getRelease_52 (a : Nat) : sn_M := r_V
set_option maxHeartbeats 4000000 in
set_option maxRecDepth 100000 in
theorem mono_Sw_getRelease_52 (a : Nat) : sn_Mono (f_Sw_getRelease_52 a) := sn_Mono.rV
set_option maxHeartbeats 4000000 in
set_option maxRecDepth 100000 in
theorem s_Sw_getRelease_52 {X : sn_X} (C : sn_Cx X c_Sw_getRelease "SignalNetwork$Switchboard" none "getRelease" 4 3 73) (a : Nat) : sn_S X 52 [(0, vA (some a))] [] (f_Sw_getRelease_52 a) := by
  unfold f_Sw_getRelease_52
  exact r_vret C d_Sw_getRelease_52 rfl
def f_Sw_getRelease (a : Nat) (r1 : Option Nat) (x2 : Int32) (x3 : Int32) : sn_M := n_n 7 (some a) fun a1 => c_V (f_Sw_post a1 r1 (11 : Int32) x2 (0 : Int32)) (g_I 4 10 r1 fun v3 => (if x2 = v3 then n_n 4 r1 fun a4 => c_I (f_Lg_isInCall a4) fun v5 => (if v5 = 0 then (if ¬ x3 = (12 : Int32) then f_Sw_getRelease_52 a else n_n 4 r1 fun a6 => c_V (f_Lg_leaveCall a6 (0 : Int32)) (f_Sw_getRelease_52 a)) else n_n 4 r1 fun a8 => c_V (f_Lg_leaveCall a8 (0 : Int32)) (n_n 4 r1 fun a10 => c_R (f_Lg_part a10) fun v11 => n_n 7 (some a) fun a12 => c_V (f_Sw_letGo a12 v11) (f_Sw_getRelease_52 a))) else r_V))
set_option maxHeartbeats 4000000 in
set_option maxRecDepth 100000 in
theorem mono_Sw_getRelease (a : Nat) (r1 : Option Nat) (x2 : Int32) (x3 : Int32) : sn_Mono (f_Sw_getRelease a r1 x2 x3) := sn_Mono.nn (fun a1 => sn_Mono.cV (mono_Sw_post a1 r1 (11 : Int32) x2 (0 : Int32)) (sn_Mono.gI (fun v3 => sn_Mono.ite (sn_Mono.nn (fun a4 => sn_Mono.cI (mono_Lg_isInCall a4) (fun v5 => sn_Mono.ite (sn_Mono.ite (mono_Sw_getRelease_52 a) (sn_Mono.nn (fun a6 => sn_Mono.cV (mono_Lg_leaveCall a6 (0 : Int32)) (mono_Sw_getRelease_52 a)))) (sn_Mono.nn (fun a8 => sn_Mono.cV (mono_Lg_leaveCall a8 (0 : Int32)) (sn_Mono.nn (fun a10 => sn_Mono.cR (mono_Lg_part a10) (fun v11 => sn_Mono.nn (fun a12 => sn_Mono.cV (mono_Sw_letGo a12 v11) (mono_Sw_getRelease_52 a)))))))))) (sn_Mono.rV))))
set_option maxHeartbeats 4000000 in
set_option maxRecDepth 100000 in
theorem con_Sw_getRelease (a : Nat) (r1 : Option Nat) (x2 : Int32) (x3 : Int32) : sn_Con y_Sw_getRelease c_Sw_getRelease 4 none 3 73 [vA (some a), vA r1, vI x2, vI x3] (f_Sw_getRelease a r1 x2 x3) := by
  refine sn_Con.of (by decide +kernel) (by show _ ≤ _; exact Nat.le_of_ble_eq_true rfl) (mono_Sw_getRelease a r1 x2 x3) (fun X C => ?_)
  show sn_S X 0 [(0, vA (some a)), (1, vA r1), (2, vI x2), (3, vI x3)] [] _
  replace C : sn_Cx X c_Sw_getRelease "SignalNetwork$Switchboard" none "getRelease" 4 3 73 := C
  unfold f_Sw_getRelease
  refine r_aload_n (q := 1) (i := 0) (pl := 0) C d_Sw_getRelease_0 rfl rfl rfl ?_
  refine r_aload_n (q := 2) (i := 1) (pl := 1) C d_Sw_getRelease_1 rfl rfl rfl ?_
  refine r_bipush (q := 4) (v := 11) C d_Sw_getRelease_2 rfl (by decide) ?_
  refine r_iload_n (q := 5) (i := 2) (pl := 2) C d_Sw_getRelease_4 rfl rfl rfl ?_
  refine r_iconst (q := 6) (v := 0) C d_Sw_getRelease_5 rfl (by decide) ?_
  refine r_cvV (q := 9) (As := [vA r1, vI (11 : Int32), vI x2, vI (0 : Int32)]) (st := []) (cy := 6) C d_Sw_getRelease_6 rfl Y_Sw_post L_Sw_81 I_Sw_post Se_Sw_post rfl (by decide) rfl (Nat.le_of_ble_eq_true rfl) (Nat.le_of_ble_eq_true rfl) (Nat.le_of_ble_eq_true rfl) rfl (fun a1 => con_Sw_post a1 r1 (11 : Int32) x2 (0 : Int32)) ?_
  refine r_iload_n (q := 10) (i := 2) (pl := 2) C d_Sw_getRelease_9 rfl rfl rfl ?_
  refine r_aload_n (q := 11) (i := 1) (pl := 1) C d_Sw_getRelease_10 rfl rfl rfl ?_
  refine r_gI (q := 14) C d_Sw_getRelease_11 rfl F_Sw_78 rfl (fun v3 => ?_)
  refine r_icmp_eq (tgt := 18) (q := 17) C d_Sw_getRelease_14 (by decide) rfl ?_ ?_
  · refine r_aload_n (q := 19) (i := 1) (pl := 1) C d_Sw_getRelease_18 rfl rfl rfl ?_
    refine r_cvI (q := 22) (As := []) (st := []) (cy := 3) C d_Sw_getRelease_19 rfl Y_Lg_isInCall L_Sw_154 I_Lg_isInCall Se_Lg_isInCall rfl (by decide) rfl (Nat.le_of_ble_eq_true rfl) (Nat.le_of_ble_eq_true rfl) (Nat.le_of_ble_eq_true rfl) rfl (fun a4 => con_Lg_isInCall a4) (fun v5 => ?_)
    refine r_if_eq (tgt := 41) (q := 25) C d_Sw_getRelease_22 (by decide) rfl ?_ ?_
    · refine r_iload_n (q := 42) (i := 3) (pl := 3) C d_Sw_getRelease_41 rfl rfl rfl ?_
      refine r_bipush (q := 44) (v := 12) C d_Sw_getRelease_42 rfl (by decide) ?_
      refine r_icmp_ne (tgt := 52) (q := 47) C d_Sw_getRelease_44 (by decide) rfl ?_ ?_
      · refine r_sub (lv' := [(0, vA (some a))]) [0] rfl ?_
        exact s_Sw_getRelease_52 C a
      · refine r_aload_n (q := 48) (i := 1) (pl := 1) C d_Sw_getRelease_47 rfl rfl rfl ?_
        refine r_iconst (q := 49) (v := 0) C d_Sw_getRelease_48 rfl (by decide) ?_
        refine r_cvV (q := 52) (As := [vI (0 : Int32)]) (st := []) (cy := 3) C d_Sw_getRelease_49 rfl Y_Lg_leaveCall L_Sw_157 I_Lg_leaveCall Se_Lg_leaveCall rfl (by decide) rfl (Nat.le_of_ble_eq_true rfl) (Nat.le_of_ble_eq_true rfl) (Nat.le_of_ble_eq_true rfl) rfl (fun a6 => con_Lg_leaveCall a6 (0 : Int32)) ?_
        refine r_sub (lv' := [(0, vA (some a))]) [0] rfl ?_
        exact s_Sw_getRelease_52 C a
    · refine r_aload_n (q := 26) (i := 1) (pl := 1) C d_Sw_getRelease_25 rfl rfl rfl ?_
      refine r_iconst (q := 27) (v := 0) C d_Sw_getRelease_26 rfl (by decide) ?_
      refine r_cvV (q := 30) (As := [vI (0 : Int32)]) (st := []) (cy := 3) C d_Sw_getRelease_27 rfl Y_Lg_leaveCall L_Sw_157 I_Lg_leaveCall Se_Lg_leaveCall rfl (by decide) rfl (Nat.le_of_ble_eq_true rfl) (Nat.le_of_ble_eq_true rfl) (Nat.le_of_ble_eq_true rfl) rfl (fun a8 => con_Lg_leaveCall a8 (0 : Int32)) ?_
      refine r_aload_n (q := 31) (i := 0) (pl := 0) C d_Sw_getRelease_30 rfl rfl rfl ?_
      refine r_aload_n (q := 32) (i := 1) (pl := 1) C d_Sw_getRelease_31 rfl rfl rfl ?_
      refine r_cvR (q := 35) (As := []) (st := [vA (some a)]) (cy := 3) C d_Sw_getRelease_32 rfl Y_Lg_part L_Sw_62 I_Lg_part Se_Lg_part rfl (by decide) rfl (Nat.le_of_ble_eq_true rfl) (Nat.le_of_ble_eq_true rfl) (Nat.le_of_ble_eq_true rfl) rfl (fun a10 => con_Lg_part a10) (fun v11 => ?_)
      refine r_cvV (q := 38) (As := [vA v11]) (st := []) (cy := 6) C d_Sw_getRelease_35 rfl Y_Sw_letGo L_Sw_66 I_Sw_letGo Se_Sw_letGo rfl (by decide) rfl (Nat.le_of_ble_eq_true rfl) (Nat.le_of_ble_eq_true rfl) (Nat.le_of_ble_eq_true rfl) rfl (fun a12 => con_Sw_letGo a12 v11) ?_
      refine r_goto (tgt := 52) C d_Sw_getRelease_38 (by decide) ?_
      refine r_sub (lv' := [(0, vA (some a))]) [0] rfl ?_
      exact s_Sw_getRelease_52 C a
  · exact r_vret C d_Sw_getRelease_17 rfl
theorem d_Sw_get_0 : decode c_Sw_get 0 = .ok (.lload_n 1, 1) := by decide +kernel
theorem d_Sw_get_1 : decode c_Sw_get 1 = .ok (.invokestatic 163, 3) := by decide +kernel
theorem d_Sw_get_4 : decode c_Sw_get 4 = .ok (.iconst 4, 1) := by decide +kernel
theorem d_Sw_get_5 : decode c_Sw_get 5 = .ok (.irem, 1) := by decide +kernel
theorem d_Sw_get_6 : decode c_Sw_get 6 = .ok (.istore_n 3, 1) := by decide +kernel
theorem d_Sw_get_7 : decode c_Sw_get 7 = .ok (.aload_n 0, 1) := by decide +kernel
theorem d_Sw_get_8 : decode c_Sw_get 8 = .ok (.lload_n 1, 1) := by decide +kernel
theorem d_Sw_get_9 : decode c_Sw_get 9 = .ok (.invokestatic 167, 3) := by decide +kernel
theorem d_Sw_get_12 : decode c_Sw_get 12 = .ok (.lload_n 1, 1) := by decide +kernel
theorem d_Sw_get_13 : decode c_Sw_get 13 = .ok (.invokestatic 170, 3) := by decide +kernel
theorem d_Sw_get_16 : decode c_Sw_get 16 = .ok (.iload_n 3, 1) := by decide +kernel
theorem d_Sw_get_17 : decode c_Sw_get 17 = .ok (.invokevirtual 70, 3) := by decide +kernel
theorem d_Sw_get_20 : decode c_Sw_get 20 = .ok (.astore 4, 2) := by decide +kernel
theorem d_Sw_get_22 : decode c_Sw_get 22 = .ok (.aload 4, 2) := by decide +kernel
theorem d_Sw_get_24 : decode c_Sw_get 24 = .ok (.ifnonnull 4, 3) := by decide +kernel
theorem d_Sw_get_27 : decode c_Sw_get 27 = .ok (.return_, 1) := by decide +kernel
theorem d_Sw_get_28 : decode c_Sw_get 28 = .ok (.lload_n 1, 1) := by decide +kernel
theorem d_Sw_get_29 : decode c_Sw_get 29 = .ok (.invokestatic 163, 3) := by decide +kernel
theorem d_Sw_get_32 : decode c_Sw_get 32 = .ok (.iconst 4, 1) := by decide +kernel
theorem d_Sw_get_33 : decode c_Sw_get 33 = .ok (.idiv, 1) := by decide +kernel
theorem d_Sw_get_34 : decode c_Sw_get 34 = .ok (.istore 5, 2) := by decide +kernel
theorem d_Sw_get_36 : decode c_Sw_get 36 = .ok (.lload_n 1, 1) := by decide +kernel
theorem d_Sw_get_37 : decode c_Sw_get 37 = .ok (.invokestatic 173, 3) := by decide +kernel
theorem d_Sw_get_40 : decode c_Sw_get 40 = .ok (.istore 6, 2) := by decide +kernel
theorem d_Sw_get_42 : decode c_Sw_get 42 = .ok (.iload 6, 2) := by decide +kernel
theorem d_Sw_get_44 : decode c_Sw_get 44 = .ok (.tableswitch 138 7 14 #[48, 63, 63, 76, 89, 76, 118, 118], 48) := by decide +kernel
theorem d_Sw_get_92 : decode c_Sw_get 92 = .ok (.aload_n 0, 1) := by decide +kernel
theorem d_Sw_get_93 : decode c_Sw_get 93 = .ok (.aload 4, 2) := by decide +kernel
theorem d_Sw_get_95 : decode c_Sw_get 95 = .ok (.iload 5, 2) := by decide +kernel
theorem d_Sw_get_97 : decode c_Sw_get 97 = .ok (.lload_n 1, 1) := by decide +kernel
theorem d_Sw_get_98 : decode c_Sw_get 98 = .ok (.invokestatic 176, 3) := by decide +kernel
theorem d_Sw_get_101 : decode c_Sw_get 101 = .ok (.invokevirtual 179, 3) := by decide +kernel
theorem d_Sw_get_104 : decode c_Sw_get 104 = .ok (.goto 78, 3) := by decide +kernel
theorem d_Sw_get_107 : decode c_Sw_get 107 = .ok (.aload_n 0, 1) := by decide +kernel
theorem d_Sw_get_108 : decode c_Sw_get 108 = .ok (.aload 4, 2) := by decide +kernel
theorem d_Sw_get_110 : decode c_Sw_get 110 = .ok (.iload 5, 2) := by decide +kernel
theorem d_Sw_get_112 : decode c_Sw_get 112 = .ok (.iload 6, 2) := by decide +kernel
theorem d_Sw_get_114 : decode c_Sw_get 114 = .ok (.invokevirtual 182, 3) := by decide +kernel
theorem d_Sw_get_117 : decode c_Sw_get 117 = .ok (.goto 65, 3) := by decide +kernel
theorem d_Sw_get_120 : decode c_Sw_get 120 = .ok (.aload_n 0, 1) := by decide +kernel
theorem d_Sw_get_121 : decode c_Sw_get 121 = .ok (.aload 4, 2) := by decide +kernel
theorem d_Sw_get_123 : decode c_Sw_get 123 = .ok (.iload 5, 2) := by decide +kernel
theorem d_Sw_get_125 : decode c_Sw_get 125 = .ok (.iload 6, 2) := by decide +kernel
theorem d_Sw_get_127 : decode c_Sw_get 127 = .ok (.invokevirtual 185, 3) := by decide +kernel
theorem d_Sw_get_130 : decode c_Sw_get 130 = .ok (.goto 52, 3) := by decide +kernel
theorem d_Sw_get_133 : decode c_Sw_get 133 = .ok (.iload 5, 2) := by decide +kernel
theorem d_Sw_get_135 : decode c_Sw_get 135 = .ok (.aload 4, 2) := by decide +kernel
theorem d_Sw_get_137 : decode c_Sw_get 137 = .ok (.getfield 78, 3) := by decide +kernel
theorem d_Sw_get_140 : decode c_Sw_get 140 = .ok (.if_icmp .ne 42, 3) := by decide +kernel
theorem d_Sw_get_143 : decode c_Sw_get 143 = .ok (.aload 4, 2) := by decide +kernel
theorem d_Sw_get_145 : decode c_Sw_get 145 = .ok (.getfield 47, 3) := by decide +kernel
theorem d_Sw_get_148 : decode c_Sw_get 148 = .ok (.bipush 7, 2) := by decide +kernel
theorem d_Sw_get_150 : decode c_Sw_get 150 = .ok (.if_icmp .lt 32, 3) := by decide +kernel
theorem d_Sw_get_153 : decode c_Sw_get 153 = .ok (.aload 4, 2) := by decide +kernel
theorem d_Sw_get_155 : decode c_Sw_get 155 = .ok (.iconst 0, 1) := by decide +kernel
theorem d_Sw_get_156 : decode c_Sw_get 156 = .ok (.invokevirtual 157, 3) := by decide +kernel
theorem d_Sw_get_159 : decode c_Sw_get 159 = .ok (.goto 23, 3) := by decide +kernel
theorem d_Sw_get_162 : decode c_Sw_get 162 = .ok (.aload 4, 2) := by decide +kernel
theorem d_Sw_get_164 : decode c_Sw_get 164 = .ok (.iload 6, 2) := by decide +kernel
theorem d_Sw_get_166 : decode c_Sw_get 166 = .ok (.bipush 13, 2) := by decide +kernel
theorem d_Sw_get_168 : decode c_Sw_get 168 = .ok (.if_icmp .ne 7, 3) := by decide +kernel
theorem d_Sw_get_171 : decode c_Sw_get 171 = .ok (.iconst 1, 1) := by decide +kernel
theorem d_Sw_get_172 : decode c_Sw_get 172 = .ok (.goto 4, 3) := by decide +kernel
theorem d_Sw_get_175 : decode c_Sw_get 175 = .ok (.iconst 0, 1) := by decide +kernel
theorem d_Sw_get_176 : decode c_Sw_get 176 = .ok (.putfield 188, 3) := by decide +kernel
theorem d_Sw_get_179 : decode c_Sw_get 179 = .ok (.goto 3, 3) := by decide +kernel
theorem d_Sw_get_182 : decode c_Sw_get 182 = .ok (.return_, 1) := by decide +kernel
def f_Sw_get_182 (a : Nat) : sn_M := r_V
set_option maxHeartbeats 4000000 in
set_option maxRecDepth 100000 in
theorem mono_Sw_get_182 (a : Nat) : sn_Mono (f_Sw_get_182 a) := sn_Mono.rV
set_option maxHeartbeats 4000000 in
set_option maxRecDepth 100000 in
theorem s_Sw_get_182 {X : sn_X} (C : sn_Cx X c_Sw_get "SignalNetwork$Switchboard" none "get" 7 5 125) (a : Nat) : sn_S X 182 [(0, vA (some a))] [] (f_Sw_get_182 a) := by
  unfold f_Sw_get_182
  exact r_vret C d_Sw_get_182 rfl
def f_Sw_get_107 (a : Nat) (r4 : Option Nat) (x5 : Int32) (x6 : Int32) : sn_M := n_n 7 (some a) fun a1 => c_V (f_Sw_getProgress a1 r4 x5 x6) (f_Sw_get_182 a)
set_option maxHeartbeats 4000000 in
set_option maxRecDepth 100000 in
theorem mono_Sw_get_107 (a : Nat) (r4 : Option Nat) (x5 : Int32) (x6 : Int32) : sn_Mono (f_Sw_get_107 a r4 x5 x6) := sn_Mono.nn (fun a1 => sn_Mono.cV (mono_Sw_getProgress a1 r4 x5 x6) (mono_Sw_get_182 a))
set_option maxHeartbeats 4000000 in
set_option maxRecDepth 100000 in
theorem s_Sw_get_107 {X : sn_X} (C : sn_Cx X c_Sw_get "SignalNetwork$Switchboard" none "get" 7 5 125) (a : Nat) (r4 : Option Nat) (x5 : Int32) (x6 : Int32) : sn_S X 107 [(0, vA (some a)), (4, vA r4), (5, vI x5), (6, vI x6)] [] (f_Sw_get_107 a r4 x5 x6) := by
  unfold f_Sw_get_107
  refine r_aload_n (q := 108) (i := 0) (pl := 0) C d_Sw_get_107 rfl rfl rfl ?_
  refine r_aload (q := 110) (i := 4) (pl := 1) C d_Sw_get_108 rfl rfl ?_
  refine r_iload (q := 112) (i := 5) (pl := 2) C d_Sw_get_110 rfl rfl ?_
  refine r_iload (q := 114) (i := 6) (pl := 3) C d_Sw_get_112 rfl rfl ?_
  refine r_cvV (q := 117) (As := [vA r4, vI x5, vI x6]) (st := []) (cy := 6) C d_Sw_get_114 rfl Y_Sw_getProgress L_Sw_182 I_Sw_getProgress Se_Sw_getProgress rfl (by decide) rfl (Nat.le_of_ble_eq_true rfl) (Nat.le_of_ble_eq_true rfl) (Nat.le_of_ble_eq_true rfl) rfl (fun a1 => con_Sw_getProgress a1 r4 x5 x6) ?_
  refine r_goto (tgt := 182) C d_Sw_get_117 (by decide) ?_
  refine r_sub (lv' := [(0, vA (some a))]) [0] rfl ?_
  exact s_Sw_get_182 C a
def f_Sw_get_120 (a : Nat) (r4 : Option Nat) (x5 : Int32) (x6 : Int32) : sn_M := n_n 7 (some a) fun a3 => c_V (f_Sw_getRelease a3 r4 x5 x6) (f_Sw_get_182 a)
set_option maxHeartbeats 4000000 in
set_option maxRecDepth 100000 in
theorem mono_Sw_get_120 (a : Nat) (r4 : Option Nat) (x5 : Int32) (x6 : Int32) : sn_Mono (f_Sw_get_120 a r4 x5 x6) := sn_Mono.nn (fun a3 => sn_Mono.cV (mono_Sw_getRelease a3 r4 x5 x6) (mono_Sw_get_182 a))
set_option maxHeartbeats 4000000 in
set_option maxRecDepth 100000 in
theorem s_Sw_get_120 {X : sn_X} (C : sn_Cx X c_Sw_get "SignalNetwork$Switchboard" none "get" 7 5 125) (a : Nat) (r4 : Option Nat) (x5 : Int32) (x6 : Int32) : sn_S X 120 [(0, vA (some a)), (4, vA r4), (5, vI x5), (6, vI x6)] [] (f_Sw_get_120 a r4 x5 x6) := by
  unfold f_Sw_get_120
  refine r_aload_n (q := 121) (i := 0) (pl := 0) C d_Sw_get_120 rfl rfl rfl ?_
  refine r_aload (q := 123) (i := 4) (pl := 1) C d_Sw_get_121 rfl rfl ?_
  refine r_iload (q := 125) (i := 5) (pl := 2) C d_Sw_get_123 rfl rfl ?_
  refine r_iload (q := 127) (i := 6) (pl := 3) C d_Sw_get_125 rfl rfl ?_
  refine r_cvV (q := 130) (As := [vA r4, vI x5, vI x6]) (st := []) (cy := 6) C d_Sw_get_127 rfl Y_Sw_getRelease L_Sw_185 I_Sw_getRelease Se_Sw_getRelease rfl (by decide) rfl (Nat.le_of_ble_eq_true rfl) (Nat.le_of_ble_eq_true rfl) (Nat.le_of_ble_eq_true rfl) rfl (fun a3 => con_Sw_getRelease a3 r4 x5 x6) ?_
  refine r_goto (tgt := 182) C d_Sw_get_130 (by decide) ?_
  refine r_sub (lv' := [(0, vA (some a))]) [0] rfl ?_
  exact s_Sw_get_182 C a
def f_Sw_get_176 (a : Nat) (t0 : Option Nat) (t1 : Int32) : sn_M := p_Z 4 8 t0 t1 (f_Sw_get_182 a)
set_option maxHeartbeats 4000000 in
set_option maxRecDepth 100000 in
theorem mono_Sw_get_176 (a : Nat) (t0 : Option Nat) (t1 : Int32) : sn_Mono (f_Sw_get_176 a t0 t1) := sn_Mono.pZ (mono_Sw_get_182 a)
set_option maxHeartbeats 4000000 in
set_option maxRecDepth 100000 in
theorem s_Sw_get_176 {X : sn_X} (C : sn_Cx X c_Sw_get "SignalNetwork$Switchboard" none "get" 7 5 125) (a : Nat) (t0 : Option Nat) (t1 : Int32) : sn_S X 176 [(0, vA (some a))] [vI t1, vA t0] (f_Sw_get_176 a t0 t1) := by
  unfold f_Sw_get_176
  refine r_pZ (q := 179) C d_Sw_get_176 rfl F_Sw_188 rfl rfl (Or.inl rfl) ?_
  refine r_goto (tgt := 182) C d_Sw_get_179 (by decide) ?_
  exact s_Sw_get_182 C a
def f_Sw_get_162 (a : Nat) (r4 : Option Nat) (x6 : Int32) : sn_M := (if ¬ x6 = (13 : Int32) then f_Sw_get_176 a r4 (0 : Int32) else f_Sw_get_176 a r4 (1 : Int32))
set_option maxHeartbeats 4000000 in
set_option maxRecDepth 100000 in
theorem mono_Sw_get_162 (a : Nat) (r4 : Option Nat) (x6 : Int32) : sn_Mono (f_Sw_get_162 a r4 x6) := sn_Mono.ite (mono_Sw_get_176 a r4 (0 : Int32)) (mono_Sw_get_176 a r4 (1 : Int32))
set_option maxHeartbeats 4000000 in
set_option maxRecDepth 100000 in
theorem s_Sw_get_162 {X : sn_X} (C : sn_Cx X c_Sw_get "SignalNetwork$Switchboard" none "get" 7 5 125) (a : Nat) (r4 : Option Nat) (x6 : Int32) : sn_S X 162 [(0, vA (some a)), (4, vA r4), (6, vI x6)] [] (f_Sw_get_162 a r4 x6) := by
  unfold f_Sw_get_162
  refine r_aload (q := 164) (i := 4) (pl := 1) C d_Sw_get_162 rfl rfl ?_
  refine r_iload (q := 166) (i := 6) (pl := 2) C d_Sw_get_164 rfl rfl ?_
  refine r_bipush (q := 168) (v := 13) C d_Sw_get_166 rfl (by decide) ?_
  refine r_icmp_ne (tgt := 175) (q := 171) C d_Sw_get_168 (by decide) rfl ?_ ?_
  · refine r_iconst (q := 176) (v := 0) C d_Sw_get_175 rfl (by decide) ?_
    refine r_sub (lv' := [(0, vA (some a))]) [0] rfl ?_
    exact s_Sw_get_176 C a r4 (0 : Int32)
  · refine r_iconst (q := 172) (v := 1) C d_Sw_get_171 rfl (by decide) ?_
    refine r_goto (tgt := 176) C d_Sw_get_172 (by decide) ?_
    refine r_sub (lv' := [(0, vA (some a))]) [0] rfl ?_
    exact s_Sw_get_176 C a r4 (1 : Int32)
def f_Sw_get (a : Nat) (l1 : Int64) : sn_M := c_I (f_Ms_first l1) fun v5 => n_I ((v5 % (4 : Int32))) fun n6 => c_I (f_Ms_to l1) fun v7 => c_I (f_Ms_from l1) fun v8 => n_n 7 (some a) fun a9 => c_R (f_Sw_circuitAt a9 v7 v8 n6) fun v10 => (if ¬ v10 = none then c_I (f_Ms_first l1) fun v11 => n_I ((v11 / (4 : Int32))) fun n12 => c_I (f_Ms_kind l1) fun v13 => (sn_sw v13 [7, 8, 9, 10, 11, 12, 13, 14] [(c_I (f_Ms_second l1) fun v14 => n_n 7 (some a) fun a15 => c_V (f_Sw_getInitial a15 v10 n12 v14) (f_Sw_get_182 a)), (f_Sw_get_107 a v10 n12 v13), (f_Sw_get_107 a v10 n12 v13), (f_Sw_get_120 a v10 n12 v13), (g_I 4 10 v10 fun v17 => (if ¬ n12 = v17 then f_Sw_get_182 a else g_I 4 3 v10 fun v18 => (if v18 < (7 : Int32) then f_Sw_get_182 a else n_n 4 v10 fun a19 => c_V (f_Lg_leaveCall a19 (0 : Int32)) (f_Sw_get_182 a)))), (f_Sw_get_120 a v10 n12 v13), (f_Sw_get_162 a v10 v13), (f_Sw_get_162 a v10 v13)] (f_Sw_get_182 a)) else r_V)
set_option maxHeartbeats 4000000 in
set_option maxRecDepth 100000 in
theorem mono_Sw_get (a : Nat) (l1 : Int64) : sn_Mono (f_Sw_get a l1) := sn_Mono.cI (mono_Ms_first l1) (fun v5 => sn_Mono.nI (fun n6 => sn_Mono.cI (mono_Ms_to l1) (fun v7 => sn_Mono.cI (mono_Ms_from l1) (fun v8 => sn_Mono.nn (fun a9 => sn_Mono.cR (mono_Sw_circuitAt a9 v7 v8 n6) (fun v10 => sn_Mono.ite (sn_Mono.cI (mono_Ms_first l1) (fun v11 => sn_Mono.nI (fun n12 => sn_Mono.cI (mono_Ms_kind l1) (fun v13 => sn_sw_mono (mono_Sw_get_182 a) _ _ (List.forall_mem_cons.mpr ⟨sn_Mono.cI (mono_Ms_second l1) (fun v14 => sn_Mono.nn (fun a15 => sn_Mono.cV (mono_Sw_getInitial a15 v10 n12 v14) (mono_Sw_get_182 a))), (List.forall_mem_cons.mpr ⟨mono_Sw_get_107 a v10 n12 v13, (List.forall_mem_cons.mpr ⟨mono_Sw_get_107 a v10 n12 v13, (List.forall_mem_cons.mpr ⟨mono_Sw_get_120 a v10 n12 v13, (List.forall_mem_cons.mpr ⟨sn_Mono.gI (fun v17 => sn_Mono.ite (mono_Sw_get_182 a) (sn_Mono.gI (fun v18 => sn_Mono.ite (mono_Sw_get_182 a) (sn_Mono.nn (fun a19 => sn_Mono.cV (mono_Lg_leaveCall a19 (0 : Int32)) (mono_Sw_get_182 a)))))), (List.forall_mem_cons.mpr ⟨mono_Sw_get_120 a v10 n12 v13, (List.forall_mem_cons.mpr ⟨mono_Sw_get_162 a v10 v13, (List.forall_mem_cons.mpr ⟨mono_Sw_get_162 a v10 v13, (fun _ h => absurd h List.not_mem_nil)⟩)⟩)⟩)⟩)⟩)⟩)⟩)⟩))))) (sn_Mono.rV)))))))
set_option maxHeartbeats 4000000 in
set_option maxRecDepth 100000 in
theorem con_Sw_get (a : Nat) (l1 : Int64) : sn_Con y_Sw_get c_Sw_get 7 none 5 125 [vA (some a), vJ l1] (f_Sw_get a l1) := by
  refine sn_Con.of (by decide +kernel) (by show _ ≤ _; exact Nat.le_of_ble_eq_true rfl) (mono_Sw_get a l1) (fun X C => ?_)
  show sn_S X 0 [(0, vA (some a)), (1, vJ l1)] [] _
  replace C : sn_Cx X c_Sw_get "SignalNetwork$Switchboard" none "get" 7 5 125 := C
  unfold f_Sw_get
  refine r_lload_n (q := 1) (i := 1) (pl := 1) C d_Sw_get_0 rfl rfl rfl ?_
  refine r_csI (q := 4) (As := [vJ l1]) (st := []) C d_Sw_get_1 rfl Y_Ms_first L_Sw_163 St_Ms_first rfl (Nat.le_of_ble_eq_true rfl) (Nat.le_of_ble_eq_true rfl) (Nat.le_of_ble_eq_true rfl) rfl (con_Ms_first l1) (fun v5 => ?_)
  refine r_iconst (q := 5) (v := 4) C d_Sw_get_4 rfl (by decide) ?_
  refine r_iremc (q := 6) C d_Sw_get_5 rfl (by decide) ?_
  refine r_nI (fun n6 => ?_)
  refine r_istore_n (q := 7) (i := 3) (lv' := [(3, vI n6), (0, vA (some a)), (1, vJ l1)]) C d_Sw_get_6 rfl rfl (by decide) rfl ?_
  refine r_aload_n (q := 8) (i := 0) (pl := 1) C d_Sw_get_7 rfl rfl rfl ?_
  refine r_lload_n (q := 9) (i := 1) (pl := 2) C d_Sw_get_8 rfl rfl rfl ?_
  refine r_csI (q := 12) (As := [vJ l1]) (st := [vA (some a)]) C d_Sw_get_9 rfl Y_Ms_to L_Sw_167 St_Ms_to rfl (Nat.le_of_ble_eq_true rfl) (Nat.le_of_ble_eq_true rfl) (Nat.le_of_ble_eq_true rfl) rfl (con_Ms_to l1) (fun v7 => ?_)
  refine r_lload_n (q := 13) (i := 1) (pl := 2) C d_Sw_get_12 rfl rfl rfl ?_
  refine r_csI (q := 16) (As := [vJ l1]) (st := [vI v7, vA (some a)]) C d_Sw_get_13 rfl Y_Ms_from L_Sw_170 St_Ms_from rfl (Nat.le_of_ble_eq_true rfl) (Nat.le_of_ble_eq_true rfl) (Nat.le_of_ble_eq_true rfl) rfl (con_Ms_from l1) (fun v8 => ?_)
  refine r_iload_n (q := 17) (i := 3) (pl := 0) C d_Sw_get_16 rfl rfl rfl ?_
  refine r_cvR (q := 20) (As := [vI v7, vI v8, vI n6]) (st := []) (cy := 6) C d_Sw_get_17 rfl Y_Sw_circuitAt L_Sw_70 I_Sw_circuitAt Se_Sw_circuitAt rfl (by decide) rfl (Nat.le_of_ble_eq_true rfl) (Nat.le_of_ble_eq_true rfl) (Nat.le_of_ble_eq_true rfl) rfl (fun a9 => con_Sw_circuitAt a9 v7 v8 n6) (fun v10 => ?_)
  refine r_astore (q := 22) (i := 4) (lv' := [(4, vA v10), (3, vI n6), (0, vA (some a)), (1, vJ l1)]) C d_Sw_get_20 rfl (by decide) rfl ?_
  refine r_aload (q := 24) (i := 4) (pl := 0) C d_Sw_get_22 rfl rfl ?_
  refine r_ifnonnull (tgt := 28) (q := 27) C d_Sw_get_24 (by decide) rfl ?_ ?_
  · refine r_lload_n (q := 29) (i := 1) (pl := 3) C d_Sw_get_28 rfl rfl rfl ?_
    refine r_csI (q := 32) (As := [vJ l1]) (st := []) C d_Sw_get_29 rfl Y_Ms_first L_Sw_163 St_Ms_first rfl (Nat.le_of_ble_eq_true rfl) (Nat.le_of_ble_eq_true rfl) (Nat.le_of_ble_eq_true rfl) rfl (con_Ms_first l1) (fun v11 => ?_)
    refine r_iconst (q := 33) (v := 4) C d_Sw_get_32 rfl (by decide) ?_
    refine r_idivc (q := 34) C d_Sw_get_33 rfl (by decide) ?_
    refine r_nI (fun n12 => ?_)
    refine r_istore (q := 36) (i := 5) (lv' := [(5, vI n12), (4, vA v10), (3, vI n6), (0, vA (some a)), (1, vJ l1)]) C d_Sw_get_34 rfl (by decide) rfl ?_
    refine r_lload_n (q := 37) (i := 1) (pl := 4) C d_Sw_get_36 rfl rfl rfl ?_
    refine r_csI (q := 40) (As := [vJ l1]) (st := []) C d_Sw_get_37 rfl Y_Ms_kind L_Sw_173 St_Ms_kind rfl (Nat.le_of_ble_eq_true rfl) (Nat.le_of_ble_eq_true rfl) (Nat.le_of_ble_eq_true rfl) rfl (con_Ms_kind l1) (fun v13 => ?_)
    refine r_istore (q := 42) (i := 6) (lv' := [(6, vI v13), (5, vI n12), (4, vA v10), (3, vI n6), (0, vA (some a)), (1, vJ l1)]) C d_Sw_get_40 rfl (by decide) rfl ?_
    refine r_iload (q := 44) (i := 6) (pl := 0) C d_Sw_get_42 rfl rfl ?_
    refine r_table (tD := 182) (ks := [7, 8, 9, 10, 11, 12, 13, 14]) (ts := [92, 107, 107, 120, 133, 120, 162, 162]) C d_Sw_get_44 (by decide) (by decide) rfl ?_ ⟨?_, ?_, ?_, ?_, ?_, ?_, ?_, ?_, trivial⟩
    · refine r_sub (lv' := [(0, vA (some a))]) [4] rfl ?_
      exact s_Sw_get_182 C a
    · refine r_aload_n (q := 93) (i := 0) (pl := 4) C d_Sw_get_92 rfl rfl rfl ?_
      refine r_aload (q := 95) (i := 4) (pl := 2) C d_Sw_get_93 rfl rfl ?_
      refine r_iload (q := 97) (i := 5) (pl := 1) C d_Sw_get_95 rfl rfl ?_
      refine r_lload_n (q := 98) (i := 1) (pl := 5) C d_Sw_get_97 rfl rfl rfl ?_
      refine r_csI (q := 101) (As := [vJ l1]) (st := [vI n12, vA v10, vA (some a)]) C d_Sw_get_98 rfl Y_Ms_second L_Sw_176 St_Ms_second rfl (Nat.le_of_ble_eq_true rfl) (Nat.le_of_ble_eq_true rfl) (Nat.le_of_ble_eq_true rfl) rfl (con_Ms_second l1) (fun v14 => ?_)
      refine r_cvV (q := 104) (As := [vA v10, vI n12, vI v14]) (st := []) (cy := 6) C d_Sw_get_101 rfl Y_Sw_getInitial L_Sw_179 I_Sw_getInitial Se_Sw_getInitial rfl (by decide) rfl (Nat.le_of_ble_eq_true rfl) (Nat.le_of_ble_eq_true rfl) (Nat.le_of_ble_eq_true rfl) rfl (fun a15 => con_Sw_getInitial a15 v10 n12 v14) ?_
      refine r_goto (tgt := 182) C d_Sw_get_104 (by decide) ?_
      refine r_sub (lv' := [(0, vA (some a))]) [4] rfl ?_
      exact s_Sw_get_182 C a
    · refine r_sub (lv' := [(0, vA (some a)), (4, vA v10), (5, vI n12), (6, vI v13)]) [4, 2, 1, 0] rfl ?_
      exact s_Sw_get_107 C a v10 n12 v13
    · refine r_sub (lv' := [(0, vA (some a)), (4, vA v10), (5, vI n12), (6, vI v13)]) [4, 2, 1, 0] rfl ?_
      exact s_Sw_get_107 C a v10 n12 v13
    · refine r_sub (lv' := [(0, vA (some a)), (4, vA v10), (5, vI n12), (6, vI v13)]) [4, 2, 1, 0] rfl ?_
      exact s_Sw_get_120 C a v10 n12 v13
    · refine r_iload (q := 135) (i := 5) (pl := 1) C d_Sw_get_133 rfl rfl ?_
      refine r_aload (q := 137) (i := 4) (pl := 2) C d_Sw_get_135 rfl rfl ?_
      refine r_gI (q := 140) C d_Sw_get_137 rfl F_Sw_78 rfl (fun v17 => ?_)
      refine r_icmp_ne (tgt := 182) (q := 143) C d_Sw_get_140 (by decide) rfl ?_ ?_
      · refine r_sub (lv' := [(0, vA (some a))]) [4] rfl ?_
        exact s_Sw_get_182 C a
      · refine r_aload (q := 145) (i := 4) (pl := 2) C d_Sw_get_143 rfl rfl ?_
        refine r_gI (q := 148) C d_Sw_get_145 rfl F_Sw_47 rfl (fun v18 => ?_)
        refine r_bipush (q := 150) (v := 7) C d_Sw_get_148 rfl (by decide) ?_
        refine r_icmp_lt (tgt := 182) (q := 153) C d_Sw_get_150 (by decide) rfl ?_ ?_
        · refine r_sub (lv' := [(0, vA (some a))]) [4] rfl ?_
          exact s_Sw_get_182 C a
        · refine r_aload (q := 155) (i := 4) (pl := 2) C d_Sw_get_153 rfl rfl ?_
          refine r_iconst (q := 156) (v := 0) C d_Sw_get_155 rfl (by decide) ?_
          refine r_cvV (q := 159) (As := [vI (0 : Int32)]) (st := []) (cy := 3) C d_Sw_get_156 rfl Y_Lg_leaveCall L_Sw_157 I_Lg_leaveCall Se_Lg_leaveCall rfl (by decide) rfl (Nat.le_of_ble_eq_true rfl) (Nat.le_of_ble_eq_true rfl) (Nat.le_of_ble_eq_true rfl) rfl (fun a19 => con_Lg_leaveCall a19 (0 : Int32)) ?_
          refine r_goto (tgt := 182) C d_Sw_get_159 (by decide) ?_
          refine r_sub (lv' := [(0, vA (some a))]) [4] rfl ?_
          exact s_Sw_get_182 C a
    · refine r_sub (lv' := [(0, vA (some a)), (4, vA v10), (5, vI n12), (6, vI v13)]) [4, 2, 1, 0] rfl ?_
      exact s_Sw_get_120 C a v10 n12 v13
    · refine r_sub (lv' := [(0, vA (some a)), (4, vA v10), (6, vI v13)]) [4, 2, 0] rfl ?_
      exact s_Sw_get_162 C a v10 v13
    · refine r_sub (lv' := [(0, vA (some a)), (4, vA v10), (6, vI v13)]) [4, 2, 0] rfl ?_
      exact s_Sw_get_162 C a v10 v13
  · exact r_vret C d_Sw_get_27 rfl
theorem d_Sw_timeOut_0 : decode c_Sw_timeOut 0 = .ok (.aload_n 1, 1) := by decide +kernel
theorem d_Sw_timeOut_1 : decode c_Sw_timeOut 1 = .ok (.getfield 47, 3) := by decide +kernel
theorem d_Sw_timeOut_4 : decode c_Sw_timeOut 4 = .ok (.bipush 7, 2) := by decide +kernel
theorem d_Sw_timeOut_6 : decode c_Sw_timeOut 6 = .ok (.if_icmp .ne 31, 3) := by decide +kernel
theorem d_Sw_timeOut_9 : decode c_Sw_timeOut 9 = .ok (.aload_n 1, 1) := by decide +kernel
theorem d_Sw_timeOut_10 : decode c_Sw_timeOut 10 = .ok (.aload_n 0, 1) := by decide +kernel
theorem d_Sw_timeOut_11 : decode c_Sw_timeOut 11 = .ok (.getfield 33, 3) := by decide +kernel
theorem d_Sw_timeOut_14 : decode c_Sw_timeOut 14 = .ok (.bipush 6, 2) := by decide +kernel
theorem d_Sw_timeOut_16 : decode c_Sw_timeOut 16 = .ok (.invokevirtual 142, 3) := by decide +kernel
theorem d_Sw_timeOut_19 : decode c_Sw_timeOut 19 = .ok (.putfield 148, 3) := by decide +kernel
theorem d_Sw_timeOut_22 : decode c_Sw_timeOut 22 = .ok (.aload_n 0, 1) := by decide +kernel
theorem d_Sw_timeOut_23 : decode c_Sw_timeOut 23 = .ok (.aload_n 1, 1) := by decide +kernel
theorem d_Sw_timeOut_24 : decode c_Sw_timeOut 24 = .ok (.bipush 10, 2) := by decide +kernel
theorem d_Sw_timeOut_26 : decode c_Sw_timeOut 26 = .ok (.aload_n 1, 1) := by decide +kernel
theorem d_Sw_timeOut_27 : decode c_Sw_timeOut 27 = .ok (.getfield 78, 3) := by decide +kernel
theorem d_Sw_timeOut_30 : decode c_Sw_timeOut 30 = .ok (.iconst 0, 1) := by decide +kernel
theorem d_Sw_timeOut_31 : decode c_Sw_timeOut 31 = .ok (.invokevirtual 81, 3) := by decide +kernel
theorem d_Sw_timeOut_34 : decode c_Sw_timeOut 34 = .ok (.goto 35, 3) := by decide +kernel
theorem d_Sw_timeOut_37 : decode c_Sw_timeOut 37 = .ok (.aload_n 1, 1) := by decide +kernel
theorem d_Sw_timeOut_38 : decode c_Sw_timeOut 38 = .ok (.getfield 47, 3) := by decide +kernel
theorem d_Sw_timeOut_41 : decode c_Sw_timeOut 41 = .ok (.bipush 8, 2) := by decide +kernel
theorem d_Sw_timeOut_43 : decode c_Sw_timeOut 43 = .ok (.if_icmp .ne 11, 3) := by decide +kernel
theorem d_Sw_timeOut_46 : decode c_Sw_timeOut 46 = .ok (.aload_n 0, 1) := by decide +kernel
theorem d_Sw_timeOut_47 : decode c_Sw_timeOut 47 = .ok (.aload_n 1, 1) := by decide +kernel
theorem d_Sw_timeOut_48 : decode c_Sw_timeOut 48 = .ok (.invokevirtual 194, 3) := by decide +kernel
theorem d_Sw_timeOut_51 : decode c_Sw_timeOut 51 = .ok (.goto 18, 3) := by decide +kernel
theorem d_Sw_timeOut_54 : decode c_Sw_timeOut 54 = .ok (.aload_n 1, 1) := by decide +kernel
theorem d_Sw_timeOut_55 : decode c_Sw_timeOut 55 = .ok (.invokevirtual 62, 3) := by decide +kernel
theorem d_Sw_timeOut_58 : decode c_Sw_timeOut 58 = .ok (.astore_n 2, 1) := by decide +kernel
theorem d_Sw_timeOut_59 : decode c_Sw_timeOut 59 = .ok (.aload_n 0, 1) := by decide +kernel
theorem d_Sw_timeOut_60 : decode c_Sw_timeOut 60 = .ok (.aload_n 1, 1) := by decide +kernel
theorem d_Sw_timeOut_61 : decode c_Sw_timeOut 61 = .ok (.invokevirtual 66, 3) := by decide +kernel
theorem d_Sw_timeOut_64 : decode c_Sw_timeOut 64 = .ok (.aload_n 0, 1) := by decide +kernel
theorem d_Sw_timeOut_65 : decode c_Sw_timeOut 65 = .ok (.aload_n 2, 1) := by decide +kernel
theorem d_Sw_timeOut_66 : decode c_Sw_timeOut 66 = .ok (.invokevirtual 66, 3) := by decide +kernel
theorem d_Sw_timeOut_69 : decode c_Sw_timeOut 69 = .ok (.return_, 1) := by decide +kernel
def f_Sw_timeOut_69 (a : Nat) : sn_M := r_V
set_option maxHeartbeats 4000000 in
set_option maxRecDepth 100000 in
theorem mono_Sw_timeOut_69 (a : Nat) : sn_Mono (f_Sw_timeOut_69 a) := sn_Mono.rV
set_option maxHeartbeats 4000000 in
set_option maxRecDepth 100000 in
theorem s_Sw_timeOut_69 {X : sn_X} (C : sn_Cx X c_Sw_timeOut "SignalNetwork$Switchboard" none "timeOut" 3 3 73) (a : Nat) : sn_S X 69 [(0, vA (some a))] [] (f_Sw_timeOut_69 a) := by
  unfold f_Sw_timeOut_69
  exact r_vret C d_Sw_timeOut_69 rfl
def f_Sw_timeOut (a : Nat) (r1 : Option Nat) : sn_M := g_I 4 3 r1 fun v1 => (if ¬ v1 = (7 : Int32) then g_I 4 3 r1 fun v2 => (if ¬ v2 = (8 : Int32) then n_n 4 r1 fun a3 => c_R (f_Lg_part a3) fun v4 => n_n 7 (some a) fun a5 => c_V (f_Sw_letGo a5 r1) (n_n 7 (some a) fun a7 => c_V (f_Sw_letGo a7 v4) (f_Sw_timeOut_69 a)) else n_n 7 (some a) fun a9 => c_V (f_Sw_reset a9 r1) (f_Sw_timeOut_69 a)) else g_R 7 1 (some a) fun v11 => n_n 1 v11 fun a12 => c_I (f_Ck_after a12 (6 : Int32)) fun v13 => p_I 4 5 r1 v13 (g_I 4 10 r1 fun v14 => n_n 7 (some a) fun a15 => c_V (f_Sw_post a15 r1 (10 : Int32) v14 (0 : Int32)) (f_Sw_timeOut_69 a)))
set_option maxHeartbeats 4000000 in
set_option maxRecDepth 100000 in
theorem mono_Sw_timeOut (a : Nat) (r1 : Option Nat) : sn_Mono (f_Sw_timeOut a r1) := sn_Mono.gI (fun v1 => sn_Mono.ite (sn_Mono.gI (fun v2 => sn_Mono.ite (sn_Mono.nn (fun a3 => sn_Mono.cR (mono_Lg_part a3) (fun v4 => sn_Mono.nn (fun a5 => sn_Mono.cV (mono_Sw_letGo a5 r1) (sn_Mono.nn (fun a7 => sn_Mono.cV (mono_Sw_letGo a7 v4) (mono_Sw_timeOut_69 a))))))) (sn_Mono.nn (fun a9 => sn_Mono.cV (mono_Sw_reset a9 r1) (mono_Sw_timeOut_69 a))))) (sn_Mono.gR (fun v11 => sn_Mono.nn (fun a12 => sn_Mono.cI (mono_Ck_after a12 (6 : Int32)) (fun v13 => sn_Mono.pI (sn_Mono.gI (fun v14 => sn_Mono.nn (fun a15 => sn_Mono.cV (mono_Sw_post a15 r1 (10 : Int32) v14 (0 : Int32)) (mono_Sw_timeOut_69 a)))))))))
set_option maxHeartbeats 4000000 in
set_option maxRecDepth 100000 in
theorem con_Sw_timeOut (a : Nat) (r1 : Option Nat) : sn_Con y_Sw_timeOut c_Sw_timeOut 3 none 3 73 [vA (some a), vA r1] (f_Sw_timeOut a r1) := by
  refine sn_Con.of (by decide +kernel) (by show _ ≤ _; exact Nat.le_of_ble_eq_true rfl) (mono_Sw_timeOut a r1) (fun X C => ?_)
  show sn_S X 0 [(0, vA (some a)), (1, vA r1)] [] _
  replace C : sn_Cx X c_Sw_timeOut "SignalNetwork$Switchboard" none "timeOut" 3 3 73 := C
  unfold f_Sw_timeOut
  refine r_aload_n (q := 1) (i := 1) (pl := 1) C d_Sw_timeOut_0 rfl rfl rfl ?_
  refine r_gI (q := 4) C d_Sw_timeOut_1 rfl F_Sw_47 rfl (fun v1 => ?_)
  refine r_bipush (q := 6) (v := 7) C d_Sw_timeOut_4 rfl (by decide) ?_
  refine r_icmp_ne (tgt := 37) (q := 9) C d_Sw_timeOut_6 (by decide) rfl ?_ ?_
  · refine r_aload_n (q := 38) (i := 1) (pl := 1) C d_Sw_timeOut_37 rfl rfl rfl ?_
    refine r_gI (q := 41) C d_Sw_timeOut_38 rfl F_Sw_47 rfl (fun v2 => ?_)
    refine r_bipush (q := 43) (v := 8) C d_Sw_timeOut_41 rfl (by decide) ?_
    refine r_icmp_ne (tgt := 54) (q := 46) C d_Sw_timeOut_43 (by decide) rfl ?_ ?_
    · refine r_aload_n (q := 55) (i := 1) (pl := 1) C d_Sw_timeOut_54 rfl rfl rfl ?_
      refine r_cvR (q := 58) (As := []) (st := []) (cy := 3) C d_Sw_timeOut_55 rfl Y_Lg_part L_Sw_62 I_Lg_part Se_Lg_part rfl (by decide) rfl (Nat.le_of_ble_eq_true rfl) (Nat.le_of_ble_eq_true rfl) (Nat.le_of_ble_eq_true rfl) rfl (fun a3 => con_Lg_part a3) (fun v4 => ?_)
      refine r_astore_n (q := 59) (i := 2) (lv' := [(2, vA v4), (0, vA (some a)), (1, vA r1)]) C d_Sw_timeOut_58 rfl rfl (by decide) rfl ?_
      refine r_aload_n (q := 60) (i := 0) (pl := 1) C d_Sw_timeOut_59 rfl rfl rfl ?_
      refine r_aload_n (q := 61) (i := 1) (pl := 2) C d_Sw_timeOut_60 rfl rfl rfl ?_
      refine r_cvV (q := 64) (As := [vA r1]) (st := []) (cy := 6) C d_Sw_timeOut_61 rfl Y_Sw_letGo L_Sw_66 I_Sw_letGo Se_Sw_letGo rfl (by decide) rfl (Nat.le_of_ble_eq_true rfl) (Nat.le_of_ble_eq_true rfl) (Nat.le_of_ble_eq_true rfl) rfl (fun a5 => con_Sw_letGo a5 r1) ?_
      refine r_aload_n (q := 65) (i := 0) (pl := 1) C d_Sw_timeOut_64 rfl rfl rfl ?_
      refine r_aload_n (q := 66) (i := 2) (pl := 0) C d_Sw_timeOut_65 rfl rfl rfl ?_
      refine r_cvV (q := 69) (As := [vA v4]) (st := []) (cy := 6) C d_Sw_timeOut_66 rfl Y_Sw_letGo L_Sw_66 I_Sw_letGo Se_Sw_letGo rfl (by decide) rfl (Nat.le_of_ble_eq_true rfl) (Nat.le_of_ble_eq_true rfl) (Nat.le_of_ble_eq_true rfl) rfl (fun a7 => con_Sw_letGo a7 v4) ?_
      refine r_sub (lv' := [(0, vA (some a))]) [1] rfl ?_
      exact s_Sw_timeOut_69 C a
    · refine r_aload_n (q := 47) (i := 0) (pl := 0) C d_Sw_timeOut_46 rfl rfl rfl ?_
      refine r_aload_n (q := 48) (i := 1) (pl := 1) C d_Sw_timeOut_47 rfl rfl rfl ?_
      refine r_cvV (q := 51) (As := [vA r1]) (st := []) (cy := 6) C d_Sw_timeOut_48 rfl Y_Sw_reset L_Sw_194 I_Sw_reset Se_Sw_reset rfl (by decide) rfl (Nat.le_of_ble_eq_true rfl) (Nat.le_of_ble_eq_true rfl) (Nat.le_of_ble_eq_true rfl) rfl (fun a9 => con_Sw_reset a9 r1) ?_
      refine r_goto (tgt := 69) C d_Sw_timeOut_51 (by decide) ?_
      refine r_sub (lv' := [(0, vA (some a))]) [0] rfl ?_
      exact s_Sw_timeOut_69 C a
  · refine r_aload_n (q := 10) (i := 1) (pl := 1) C d_Sw_timeOut_9 rfl rfl rfl ?_
    refine r_aload_n (q := 11) (i := 0) (pl := 0) C d_Sw_timeOut_10 rfl rfl rfl ?_
    refine r_gR (q := 14) C d_Sw_timeOut_11 rfl F_Sw_33 rfl (fun v11 => ?_)
    refine r_bipush (q := 16) (v := 6) C d_Sw_timeOut_14 rfl (by decide) ?_
    refine r_cvI (q := 19) (As := [vI (6 : Int32)]) (st := [vA r1]) (cy := 0) C d_Sw_timeOut_16 rfl Y_Ck_after L_Sw_142 I_Ck_after Se_Ck_after rfl (by decide) rfl (Nat.le_of_ble_eq_true rfl) (Nat.le_of_ble_eq_true rfl) (Nat.le_of_ble_eq_true rfl) rfl (fun a12 => con_Ck_after a12 (6 : Int32)) (fun v13 => ?_)
    refine r_pI (q := 22) C d_Sw_timeOut_19 rfl F_Sw_148 rfl rfl (Or.inl rfl) ?_
    refine r_aload_n (q := 23) (i := 0) (pl := 0) C d_Sw_timeOut_22 rfl rfl rfl ?_
    refine r_aload_n (q := 24) (i := 1) (pl := 1) C d_Sw_timeOut_23 rfl rfl rfl ?_
    refine r_bipush (q := 26) (v := 10) C d_Sw_timeOut_24 rfl (by decide) ?_
    refine r_aload_n (q := 27) (i := 1) (pl := 1) C d_Sw_timeOut_26 rfl rfl rfl ?_
    refine r_gI (q := 30) C d_Sw_timeOut_27 rfl F_Sw_78 rfl (fun v14 => ?_)
    refine r_iconst (q := 31) (v := 0) C d_Sw_timeOut_30 rfl (by decide) ?_
    refine r_cvV (q := 34) (As := [vA r1, vI (10 : Int32), vI v14, vI (0 : Int32)]) (st := []) (cy := 6) C d_Sw_timeOut_31 rfl Y_Sw_post L_Sw_81 I_Sw_post Se_Sw_post rfl (by decide) rfl (Nat.le_of_ble_eq_true rfl) (Nat.le_of_ble_eq_true rfl) (Nat.le_of_ble_eq_true rfl) rfl (fun a15 => con_Sw_post a15 r1 (10 : Int32) v14 (0 : Int32)) ?_
    refine r_goto (tgt := 69) C d_Sw_timeOut_34 (by decide) ?_
    refine r_sub (lv' := [(0, vA (some a))]) [0] rfl ?_
    exact s_Sw_timeOut_69 C a
theorem d_Sw_runTimers_0 : decode c_Sw_runTimers 0 = .ok (.iload_n 1, 1) := by decide +kernel
theorem d_Sw_runTimers_1 : decode c_Sw_runTimers 1 = .ok (.ifCond .lt 12, 3) := by decide +kernel
theorem d_Sw_runTimers_4 : decode c_Sw_runTimers 4 = .ok (.iload_n 1, 1) := by decide +kernel
theorem d_Sw_runTimers_5 : decode c_Sw_runTimers 5 = .ok (.aload_n 0, 1) := by decide +kernel
theorem d_Sw_runTimers_6 : decode c_Sw_runTimers 6 = .ok (.getfield 17, 3) := by decide +kernel
theorem d_Sw_runTimers_9 : decode c_Sw_runTimers 9 = .ok (.arraylength, 1) := by decide +kernel
theorem d_Sw_runTimers_10 : decode c_Sw_runTimers 10 = .ok (.if_icmp .lt 7, 3) := by decide +kernel
theorem d_Sw_runTimers_13 : decode c_Sw_runTimers 13 = .ok (.aconst_null, 1) := by decide +kernel
theorem d_Sw_runTimers_14 : decode c_Sw_runTimers 14 = .ok (.goto 9, 3) := by decide +kernel
theorem d_Sw_runTimers_17 : decode c_Sw_runTimers 17 = .ok (.aload_n 0, 1) := by decide +kernel
theorem d_Sw_runTimers_18 : decode c_Sw_runTimers 18 = .ok (.getfield 17, 3) := by decide +kernel
theorem d_Sw_runTimers_21 : decode c_Sw_runTimers 21 = .ok (.iload_n 1, 1) := by decide +kernel
theorem d_Sw_runTimers_22 : decode c_Sw_runTimers 22 = .ok (.aaload, 1) := by decide +kernel
theorem d_Sw_runTimers_23 : decode c_Sw_runTimers 23 = .ok (.astore_n 2, 1) := by decide +kernel
theorem d_Sw_runTimers_24 : decode c_Sw_runTimers 24 = .ok (.aload_n 2, 1) := by decide +kernel
theorem d_Sw_runTimers_25 : decode c_Sw_runTimers 25 = .ok (.ifnonnull 5, 3) := by decide +kernel
theorem d_Sw_runTimers_28 : decode c_Sw_runTimers 28 = .ok (.iconst 0, 1) := by decide +kernel
theorem d_Sw_runTimers_29 : decode c_Sw_runTimers 29 = .ok (.ireturn, 1) := by decide +kernel
theorem d_Sw_runTimers_30 : decode c_Sw_runTimers 30 = .ok (.aload_n 0, 1) := by decide +kernel
theorem d_Sw_runTimers_31 : decode c_Sw_runTimers 31 = .ok (.getfield 33, 3) := by decide +kernel
theorem d_Sw_runTimers_34 : decode c_Sw_runTimers 34 = .ok (.aload_n 2, 1) := by decide +kernel
theorem d_Sw_runTimers_35 : decode c_Sw_runTimers 35 = .ok (.getfield 148, 3) := by decide +kernel
theorem d_Sw_runTimers_38 : decode c_Sw_runTimers 38 = .ok (.invokevirtual 197, 3) := by decide +kernel
theorem d_Sw_runTimers_41 : decode c_Sw_runTimers 41 = .ok (.istore_n 3, 1) := by decide +kernel
theorem d_Sw_runTimers_42 : decode c_Sw_runTimers 42 = .ok (.aload_n 0, 1) := by decide +kernel
theorem d_Sw_runTimers_43 : decode c_Sw_runTimers 43 = .ok (.getfield 33, 3) := by decide +kernel
theorem d_Sw_runTimers_46 : decode c_Sw_runTimers 46 = .ok (.aload_n 2, 1) := by decide +kernel
theorem d_Sw_runTimers_47 : decode c_Sw_runTimers 47 = .ok (.getfield 160, 3) := by decide +kernel
theorem d_Sw_runTimers_50 : decode c_Sw_runTimers 50 = .ok (.invokevirtual 197, 3) := by decide +kernel
theorem d_Sw_runTimers_53 : decode c_Sw_runTimers 53 = .ok (.istore 4, 2) := by decide +kernel
theorem d_Sw_runTimers_55 : decode c_Sw_runTimers 55 = .ok (.iload_n 3, 1) := by decide +kernel
theorem d_Sw_runTimers_56 : decode c_Sw_runTimers 56 = .ok (.ifCond .eq 8, 3) := by decide +kernel
theorem d_Sw_runTimers_59 : decode c_Sw_runTimers 59 = .ok (.aload_n 0, 1) := by decide +kernel
theorem d_Sw_runTimers_60 : decode c_Sw_runTimers 60 = .ok (.aload_n 2, 1) := by decide +kernel
theorem d_Sw_runTimers_61 : decode c_Sw_runTimers 61 = .ok (.invokevirtual 201, 3) := by decide +kernel
theorem d_Sw_runTimers_64 : decode c_Sw_runTimers 64 = .ok (.iload 4, 2) := by decide +kernel
theorem d_Sw_runTimers_66 : decode c_Sw_runTimers 66 = .ok (.ifCond .eq 8, 3) := by decide +kernel
theorem d_Sw_runTimers_69 : decode c_Sw_runTimers 69 = .ok (.aload_n 0, 1) := by decide +kernel
theorem d_Sw_runTimers_70 : decode c_Sw_runTimers 70 = .ok (.aload_n 2, 1) := by decide +kernel
theorem d_Sw_runTimers_71 : decode c_Sw_runTimers 71 = .ok (.invokevirtual 194, 3) := by decide +kernel
theorem d_Sw_runTimers_74 : decode c_Sw_runTimers 74 = .ok (.iload_n 3, 1) := by decide +kernel
theorem d_Sw_runTimers_75 : decode c_Sw_runTimers 75 = .ok (.ifCond .ne 8, 3) := by decide +kernel
theorem d_Sw_runTimers_78 : decode c_Sw_runTimers 78 = .ok (.iload 4, 2) := by decide +kernel
theorem d_Sw_runTimers_80 : decode c_Sw_runTimers 80 = .ok (.ifCond .eq 7, 3) := by decide +kernel
theorem d_Sw_runTimers_83 : decode c_Sw_runTimers 83 = .ok (.iconst 1, 1) := by decide +kernel
theorem d_Sw_runTimers_84 : decode c_Sw_runTimers 84 = .ok (.goto 4, 3) := by decide +kernel
theorem d_Sw_runTimers_87 : decode c_Sw_runTimers 87 = .ok (.iconst 0, 1) := by decide +kernel
theorem d_Sw_runTimers_88 : decode c_Sw_runTimers 88 = .ok (.ireturn, 1) := by decide +kernel
def f_Sw_runTimers_88 (a : Nat) (t0 : Int32) : sn_M := r_Z t0
set_option maxHeartbeats 4000000 in
set_option maxRecDepth 100000 in
theorem mono_Sw_runTimers_88 (a : Nat) (t0 : Int32) : sn_Mono (f_Sw_runTimers_88 a t0) := sn_Mono.rZ
set_option maxHeartbeats 4000000 in
set_option maxRecDepth 100000 in
theorem s_Sw_runTimers_88 {X : sn_X} (C : sn_Cx X c_Sw_runTimers "SignalNetwork$Switchboard" (some .boolean) "runTimers" 5 4 95) (a : Nat) (t0 : Int32) : sn_S X 88 [(0, vA (some a))] [vI t0] (f_Sw_runTimers_88 a t0) := by
  unfold f_Sw_runTimers_88
  exact r_zret C d_Sw_runTimers_88 rfl
def f_Sw_runTimers_83 (a : Nat) : sn_M := f_Sw_runTimers_88 a (1 : Int32)
set_option maxHeartbeats 4000000 in
set_option maxRecDepth 100000 in
theorem mono_Sw_runTimers_83 (a : Nat) : sn_Mono (f_Sw_runTimers_83 a) := mono_Sw_runTimers_88 a (1 : Int32)
set_option maxHeartbeats 4000000 in
set_option maxRecDepth 100000 in
theorem s_Sw_runTimers_83 {X : sn_X} (C : sn_Cx X c_Sw_runTimers "SignalNetwork$Switchboard" (some .boolean) "runTimers" 5 4 95) (a : Nat) : sn_S X 83 [(0, vA (some a))] [] (f_Sw_runTimers_83 a) := by
  unfold f_Sw_runTimers_83
  refine r_iconst (q := 84) (v := 1) C d_Sw_runTimers_83 rfl (by decide) ?_
  refine r_goto (tgt := 88) C d_Sw_runTimers_84 (by decide) ?_
  exact s_Sw_runTimers_88 C a (1 : Int32)
def f_Sw_runTimers_74 (a : Nat) (x3 : Int32) (x4 : Int32) : sn_M := (if ¬ x3 = 0 then f_Sw_runTimers_83 a else (if x4 = 0 then f_Sw_runTimers_88 a (0 : Int32) else f_Sw_runTimers_83 a))
set_option maxHeartbeats 4000000 in
set_option maxRecDepth 100000 in
theorem mono_Sw_runTimers_74 (a : Nat) (x3 : Int32) (x4 : Int32) : sn_Mono (f_Sw_runTimers_74 a x3 x4) := sn_Mono.ite (mono_Sw_runTimers_83 a) (sn_Mono.ite (mono_Sw_runTimers_88 a (0 : Int32)) (mono_Sw_runTimers_83 a))
set_option maxHeartbeats 4000000 in
set_option maxRecDepth 100000 in
theorem s_Sw_runTimers_74 {X : sn_X} (C : sn_Cx X c_Sw_runTimers "SignalNetwork$Switchboard" (some .boolean) "runTimers" 5 4 95) (a : Nat) (x3 : Int32) (x4 : Int32) : sn_S X 74 [(0, vA (some a)), (3, vI x3), (4, vI x4)] [] (f_Sw_runTimers_74 a x3 x4) := by
  unfold f_Sw_runTimers_74
  refine r_iload_n (q := 75) (i := 3) (pl := 1) C d_Sw_runTimers_74 rfl rfl rfl ?_
  refine r_if_ne (tgt := 83) (q := 78) C d_Sw_runTimers_75 (by decide) rfl ?_ ?_
  · refine r_sub (lv' := [(0, vA (some a))]) [0] rfl ?_
    exact s_Sw_runTimers_83 C a
  · refine r_iload (q := 80) (i := 4) (pl := 2) C d_Sw_runTimers_78 rfl rfl ?_
    refine r_if_eq (tgt := 87) (q := 83) C d_Sw_runTimers_80 (by decide) rfl ?_ ?_
    · refine r_iconst (q := 88) (v := 0) C d_Sw_runTimers_87 rfl (by decide) ?_
      refine r_sub (lv' := [(0, vA (some a))]) [0] rfl ?_
      exact s_Sw_runTimers_88 C a (0 : Int32)
    · refine r_sub (lv' := [(0, vA (some a))]) [0] rfl ?_
      exact s_Sw_runTimers_83 C a
def f_Sw_runTimers_64 (a : Nat) (r2 : Option Nat) (x3 : Int32) (x4 : Int32) : sn_M := (if x4 = 0 then f_Sw_runTimers_74 a x3 x4 else n_n 7 (some a) fun a1 => c_V (f_Sw_reset a1 r2) (f_Sw_runTimers_74 a x3 x4))
set_option maxHeartbeats 4000000 in
set_option maxRecDepth 100000 in
theorem mono_Sw_runTimers_64 (a : Nat) (r2 : Option Nat) (x3 : Int32) (x4 : Int32) : sn_Mono (f_Sw_runTimers_64 a r2 x3 x4) := sn_Mono.ite (mono_Sw_runTimers_74 a x3 x4) (sn_Mono.nn (fun a1 => sn_Mono.cV (mono_Sw_reset a1 r2) (mono_Sw_runTimers_74 a x3 x4)))
set_option maxHeartbeats 4000000 in
set_option maxRecDepth 100000 in
theorem s_Sw_runTimers_64 {X : sn_X} (C : sn_Cx X c_Sw_runTimers "SignalNetwork$Switchboard" (some .boolean) "runTimers" 5 4 95) (a : Nat) (r2 : Option Nat) (x3 : Int32) (x4 : Int32) : sn_S X 64 [(0, vA (some a)), (2, vA r2), (3, vI x3), (4, vI x4)] [] (f_Sw_runTimers_64 a r2 x3 x4) := by
  unfold f_Sw_runTimers_64
  refine r_iload (q := 66) (i := 4) (pl := 3) C d_Sw_runTimers_64 rfl rfl ?_
  refine r_if_eq (tgt := 74) (q := 69) C d_Sw_runTimers_66 (by decide) rfl ?_ ?_
  · refine r_sub (lv' := [(0, vA (some a)), (3, vI x3), (4, vI x4)]) [0, 2, 3] rfl ?_
    exact s_Sw_runTimers_74 C a x3 x4
  · refine r_aload_n (q := 70) (i := 0) (pl := 0) C d_Sw_runTimers_69 rfl rfl rfl ?_
    refine r_aload_n (q := 71) (i := 2) (pl := 1) C d_Sw_runTimers_70 rfl rfl rfl ?_
    refine r_cvV (q := 74) (As := [vA r2]) (st := []) (cy := 6) C d_Sw_runTimers_71 rfl Y_Sw_reset L_Sw_194 I_Sw_reset Se_Sw_reset rfl (by decide) rfl (Nat.le_of_ble_eq_true rfl) (Nat.le_of_ble_eq_true rfl) (Nat.le_of_ble_eq_true rfl) rfl (fun a1 => con_Sw_reset a1 r2) ?_
    refine r_sub (lv' := [(0, vA (some a)), (3, vI x3), (4, vI x4)]) [0, 2, 3] rfl ?_
    exact s_Sw_runTimers_74 C a x3 x4
def f_Sw_runTimers_23 (a : Nat) (t0 : Option Nat) : sn_M := (if ¬ t0 = none then g_R 7 1 (some a) fun v3 => g_I 4 5 t0 fun v4 => n_n 1 v3 fun a5 => c_I (f_Ck_isOut a5 v4) fun v6 => g_R 7 1 (some a) fun v7 => g_I 4 6 t0 fun v8 => n_n 1 v7 fun a9 => c_I (f_Ck_isOut a9 v8) fun v10 => (if v6 = 0 then f_Sw_runTimers_64 a t0 v6 v10 else n_n 7 (some a) fun a11 => c_V (f_Sw_timeOut a11 t0) (f_Sw_runTimers_64 a t0 v6 v10)) else r_Z (0 : Int32))
set_option maxHeartbeats 4000000 in
set_option maxRecDepth 100000 in
theorem mono_Sw_runTimers_23 (a : Nat) (t0 : Option Nat) : sn_Mono (f_Sw_runTimers_23 a t0) := sn_Mono.ite (sn_Mono.gR (fun v3 => sn_Mono.gI (fun v4 => sn_Mono.nn (fun a5 => sn_Mono.cI (mono_Ck_isOut a5 v4) (fun v6 => sn_Mono.gR (fun v7 => sn_Mono.gI (fun v8 => sn_Mono.nn (fun a9 => sn_Mono.cI (mono_Ck_isOut a9 v8) (fun v10 => sn_Mono.ite (mono_Sw_runTimers_64 a t0 v6 v10) (sn_Mono.nn (fun a11 => sn_Mono.cV (mono_Sw_timeOut a11 t0) (mono_Sw_runTimers_64 a t0 v6 v10)))))))))))) (sn_Mono.rZ)
set_option maxHeartbeats 4000000 in
set_option maxRecDepth 100000 in
theorem s_Sw_runTimers_23 {X : sn_X} (C : sn_Cx X c_Sw_runTimers "SignalNetwork$Switchboard" (some .boolean) "runTimers" 5 4 95) (a : Nat) (t0 : Option Nat) : sn_S X 23 [(0, vA (some a))] [vA t0] (f_Sw_runTimers_23 a t0) := by
  unfold f_Sw_runTimers_23
  refine r_astore_n (q := 24) (i := 2) (lv' := [(2, vA t0), (0, vA (some a))]) C d_Sw_runTimers_23 rfl rfl (by decide) rfl ?_
  refine r_aload_n (q := 25) (i := 2) (pl := 0) C d_Sw_runTimers_24 rfl rfl rfl ?_
  refine r_ifnonnull (tgt := 30) (q := 28) C d_Sw_runTimers_25 (by decide) rfl ?_ ?_
  · refine r_aload_n (q := 31) (i := 0) (pl := 1) C d_Sw_runTimers_30 rfl rfl rfl ?_
    refine r_gR (q := 34) C d_Sw_runTimers_31 rfl F_Sw_33 rfl (fun v3 => ?_)
    refine r_aload_n (q := 35) (i := 2) (pl := 0) C d_Sw_runTimers_34 rfl rfl rfl ?_
    refine r_gI (q := 38) C d_Sw_runTimers_35 rfl F_Sw_148 rfl (fun v4 => ?_)
    refine r_cvI (q := 41) (As := [vI v4]) (st := []) (cy := 0) C d_Sw_runTimers_38 rfl Y_Ck_isOut L_Sw_197 I_Ck_isOut Se_Ck_isOut rfl (by decide) rfl (Nat.le_of_ble_eq_true rfl) (Nat.le_of_ble_eq_true rfl) (Nat.le_of_ble_eq_true rfl) rfl (fun a5 => con_Ck_isOut a5 v4) (fun v6 => ?_)
    refine r_istore_n (q := 42) (i := 3) (lv' := [(3, vI v6), (2, vA t0), (0, vA (some a))]) C d_Sw_runTimers_41 rfl rfl (by decide) rfl ?_
    refine r_aload_n (q := 43) (i := 0) (pl := 2) C d_Sw_runTimers_42 rfl rfl rfl ?_
    refine r_gR (q := 46) C d_Sw_runTimers_43 rfl F_Sw_33 rfl (fun v7 => ?_)
    refine r_aload_n (q := 47) (i := 2) (pl := 1) C d_Sw_runTimers_46 rfl rfl rfl ?_
    refine r_gI (q := 50) C d_Sw_runTimers_47 rfl F_Sw_160 rfl (fun v8 => ?_)
    refine r_cvI (q := 53) (As := [vI v8]) (st := []) (cy := 0) C d_Sw_runTimers_50 rfl Y_Ck_isOut L_Sw_197 I_Ck_isOut Se_Ck_isOut rfl (by decide) rfl (Nat.le_of_ble_eq_true rfl) (Nat.le_of_ble_eq_true rfl) (Nat.le_of_ble_eq_true rfl) rfl (fun a9 => con_Ck_isOut a9 v8) (fun v10 => ?_)
    refine r_istore (q := 55) (i := 4) (lv' := [(4, vI v10), (3, vI v6), (2, vA t0), (0, vA (some a))]) C d_Sw_runTimers_53 rfl (by decide) rfl ?_
    refine r_iload_n (q := 56) (i := 3) (pl := 1) C d_Sw_runTimers_55 rfl rfl rfl ?_
    refine r_if_eq (tgt := 64) (q := 59) C d_Sw_runTimers_56 (by decide) rfl ?_ ?_
    · refine r_sub (lv' := [(0, vA (some a)), (2, vA t0), (3, vI v6), (4, vI v10)]) [3, 2, 1, 0] rfl ?_
      exact s_Sw_runTimers_64 C a t0 v6 v10
    · refine r_aload_n (q := 60) (i := 0) (pl := 3) C d_Sw_runTimers_59 rfl rfl rfl ?_
      refine r_aload_n (q := 61) (i := 2) (pl := 2) C d_Sw_runTimers_60 rfl rfl rfl ?_
      refine r_cvV (q := 64) (As := [vA t0]) (st := []) (cy := 6) C d_Sw_runTimers_61 rfl Y_Sw_timeOut L_Sw_201 I_Sw_timeOut Se_Sw_timeOut rfl (by decide) rfl (Nat.le_of_ble_eq_true rfl) (Nat.le_of_ble_eq_true rfl) (Nat.le_of_ble_eq_true rfl) rfl (fun a11 => con_Sw_timeOut a11 t0) ?_
      refine r_sub (lv' := [(0, vA (some a)), (2, vA t0), (3, vI v6), (4, vI v10)]) [3, 2, 1, 0] rfl ?_
      exact s_Sw_runTimers_64 C a t0 v6 v10
  · refine r_iconst (q := 29) (v := 0) C d_Sw_runTimers_28 rfl (by decide) ?_
    exact r_zret C d_Sw_runTimers_29 rfl
def f_Sw_runTimers_13 (a : Nat) : sn_M := f_Sw_runTimers_23 a none
set_option maxHeartbeats 4000000 in
set_option maxRecDepth 100000 in
theorem mono_Sw_runTimers_13 (a : Nat) : sn_Mono (f_Sw_runTimers_13 a) := mono_Sw_runTimers_23 a none
set_option maxHeartbeats 4000000 in
set_option maxRecDepth 100000 in
theorem s_Sw_runTimers_13 {X : sn_X} (C : sn_Cx X c_Sw_runTimers "SignalNetwork$Switchboard" (some .boolean) "runTimers" 5 4 95) (a : Nat) : sn_S X 13 [(0, vA (some a))] [] (f_Sw_runTimers_13 a) := by
  unfold f_Sw_runTimers_13
  refine r_null (q := 14) C d_Sw_runTimers_13 rfl ?_
  refine r_goto (tgt := 23) C d_Sw_runTimers_14 (by decide) ?_
  exact s_Sw_runTimers_23 C a none
def f_Sw_runTimers (a : Nat) (x1 : Int32) : sn_M := (if x1 < 0 then f_Sw_runTimers_13 a else g_R 7 3 (some a) fun v13 => a_len 26 v13 fun v14 => (if x1 < v14 then g_R 7 3 (some a) fun v15 => a_R 26 v15 x1 fun v16 => f_Sw_runTimers_23 a v16 else f_Sw_runTimers_13 a))
set_option maxHeartbeats 4000000 in
set_option maxRecDepth 100000 in
theorem mono_Sw_runTimers (a : Nat) (x1 : Int32) : sn_Mono (f_Sw_runTimers a x1) := sn_Mono.ite (mono_Sw_runTimers_13 a) (sn_Mono.gR (fun v13 => sn_Mono.alen (fun v14 => sn_Mono.ite (sn_Mono.gR (fun v15 => sn_Mono.aR (fun v16 => mono_Sw_runTimers_23 a v16))) (mono_Sw_runTimers_13 a))))
set_option maxHeartbeats 4000000 in
set_option maxRecDepth 100000 in
theorem con_Sw_runTimers (a : Nat) (x1 : Int32) : sn_Con y_Sw_runTimers c_Sw_runTimers 5 (some .boolean) 4 95 [vA (some a), vI x1] (f_Sw_runTimers a x1) := by
  refine sn_Con.of (by decide +kernel) (by show _ ≤ _; exact Nat.le_of_ble_eq_true rfl) (mono_Sw_runTimers a x1) (fun X C => ?_)
  show sn_S X 0 [(0, vA (some a)), (1, vI x1)] [] _
  replace C : sn_Cx X c_Sw_runTimers "SignalNetwork$Switchboard" (some .boolean) "runTimers" 5 4 95 := C
  unfold f_Sw_runTimers
  refine r_iload_n (q := 1) (i := 1) (pl := 1) C d_Sw_runTimers_0 rfl rfl rfl ?_
  refine r_if_lt (tgt := 13) (q := 4) C d_Sw_runTimers_1 (by decide) rfl ?_ ?_
  · refine r_sub (lv' := [(0, vA (some a))]) [0] rfl ?_
    exact s_Sw_runTimers_13 C a
  · refine r_iload_n (q := 5) (i := 1) (pl := 1) C d_Sw_runTimers_4 rfl rfl rfl ?_
    refine r_aload_n (q := 6) (i := 0) (pl := 0) C d_Sw_runTimers_5 rfl rfl rfl ?_
    refine r_gR (q := 9) C d_Sw_runTimers_6 rfl F_Sw_17 rfl (fun v13 => ?_)
    refine r_alen (q := 10) (kd := 26) (tyi := 5) C (by decide) (fun _ => rfl) d_Sw_runTimers_9 rfl (fun v14 => ?_)
    refine r_icmp_lt (tgt := 17) (q := 13) C d_Sw_runTimers_10 (by decide) rfl ?_ ?_
    · refine r_aload_n (q := 18) (i := 0) (pl := 0) C d_Sw_runTimers_17 rfl rfl rfl ?_
      refine r_gR (q := 21) C d_Sw_runTimers_18 rfl F_Sw_17 rfl (fun v15 => ?_)
      refine r_iload_n (q := 22) (i := 1) (pl := 1) C d_Sw_runTimers_21 rfl rfl rfl ?_
      refine r_aR (q := 23) (kd := 26) (tyi := 5) C (by decide) (fun _ => rfl) d_Sw_runTimers_22 rfl (fun v16 => ?_)
      refine r_sub (lv' := [(0, vA (some a))]) [0] rfl ?_
      exact s_Sw_runTimers_23 C a v16
    · refine r_sub (lv' := [(0, vA (some a))]) [0] rfl ?_
      exact s_Sw_runTimers_13 C a
