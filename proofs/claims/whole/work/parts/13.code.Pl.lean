theorem d_Pl_init_0 : decode c_Pl_init 0 = .ok (.aload_n 0, 1) := by decide +kernel
theorem d_Pl_init_1 : decode c_Pl_init 1 = .ok (.invokespecial 3, 3) := by decide +kernel
theorem d_Pl_init_4 : decode c_Pl_init 4 = .ok (.aload_n 0, 1) := by decide +kernel
theorem d_Pl_init_5 : decode c_Pl_init 5 = .ok (.bipush 10, 2) := by decide +kernel
theorem d_Pl_init_7 : decode c_Pl_init 7 = .ok (.newarray .int, 2) := by decide +kernel
theorem d_Pl_init_9 : decode c_Pl_init 9 = .ok (.putfield 9, 3) := by decide +kernel
theorem d_Pl_init_12 : decode c_Pl_init 12 = .ok (.aload_n 0, 1) := by decide +kernel
theorem d_Pl_init_13 : decode c_Pl_init 13 = .ok (.bipush 10, 2) := by decide +kernel
theorem d_Pl_init_15 : decode c_Pl_init 15 = .ok (.newarray .int, 2) := by decide +kernel
theorem d_Pl_init_17 : decode c_Pl_init 17 = .ok (.putfield 15, 3) := by decide +kernel
theorem d_Pl_init_20 : decode c_Pl_init 20 = .ok (.aload_n 0, 1) := by decide +kernel
theorem d_Pl_init_21 : decode c_Pl_init 21 = .ok (.bipush 10, 2) := by decide +kernel
theorem d_Pl_init_23 : decode c_Pl_init 23 = .ok (.newarray .boolean, 2) := by decide +kernel
theorem d_Pl_init_25 : decode c_Pl_init 25 = .ok (.putfield 18, 3) := by decide +kernel
theorem d_Pl_init_28 : decode c_Pl_init 28 = .ok (.aload_n 0, 1) := by decide +kernel
theorem d_Pl_init_29 : decode c_Pl_init 29 = .ok (.bipush 10, 2) := by decide +kernel
theorem d_Pl_init_31 : decode c_Pl_init 31 = .ok (.newarray .boolean, 2) := by decide +kernel
theorem d_Pl_init_33 : decode c_Pl_init 33 = .ok (.putfield 22, 3) := by decide +kernel
theorem d_Pl_init_36 : decode c_Pl_init 36 = .ok (.aload_n 0, 1) := by decide +kernel
theorem d_Pl_init_37 : decode c_Pl_init 37 = .ok (.bipush 36, 2) := by decide +kernel
theorem d_Pl_init_39 : decode c_Pl_init 39 = .ok (.newarray .int, 2) := by decide +kernel
theorem d_Pl_init_41 : decode c_Pl_init 41 = .ok (.putfield 25, 3) := by decide +kernel
theorem d_Pl_init_44 : decode c_Pl_init 44 = .ok (.aload_n 0, 1) := by decide +kernel
theorem d_Pl_init_45 : decode c_Pl_init 45 = .ok (.bipush 36, 2) := by decide +kernel
theorem d_Pl_init_47 : decode c_Pl_init 47 = .ok (.newarray .int, 2) := by decide +kernel
theorem d_Pl_init_49 : decode c_Pl_init 49 = .ok (.putfield 28, 3) := by decide +kernel
theorem d_Pl_init_52 : decode c_Pl_init 52 = .ok (.aload_n 0, 1) := by decide +kernel
theorem d_Pl_init_53 : decode c_Pl_init 53 = .ok (.bipush 36, 2) := by decide +kernel
theorem d_Pl_init_55 : decode c_Pl_init 55 = .ok (.newarray .int, 2) := by decide +kernel
theorem d_Pl_init_57 : decode c_Pl_init 57 = .ok (.putfield 31, 3) := by decide +kernel
theorem d_Pl_init_60 : decode c_Pl_init 60 = .ok (.iconst 0, 1) := by decide +kernel
theorem d_Pl_init_61 : decode c_Pl_init 61 = .ok (.istore_n 1, 1) := by decide +kernel
theorem d_Pl_init_62 : decode c_Pl_init 62 = .ok (.iload_n 1, 1) := by decide +kernel
theorem d_Pl_init_63 : decode c_Pl_init 63 = .ok (.bipush 36, 2) := by decide +kernel
theorem d_Pl_init_65 : decode c_Pl_init 65 = .ok (.if_icmp .ge 23, 3) := by decide +kernel
theorem d_Pl_init_68 : decode c_Pl_init 68 = .ok (.aload_n 0, 1) := by decide +kernel
theorem d_Pl_init_69 : decode c_Pl_init 69 = .ok (.getfield 28, 3) := by decide +kernel
theorem d_Pl_init_72 : decode c_Pl_init 72 = .ok (.iload_n 1, 1) := by decide +kernel
theorem d_Pl_init_73 : decode c_Pl_init 73 = .ok (.iconst (-1), 1) := by decide +kernel
theorem d_Pl_init_74 : decode c_Pl_init 74 = .ok (.iastore, 1) := by decide +kernel
theorem d_Pl_init_75 : decode c_Pl_init 75 = .ok (.aload_n 0, 1) := by decide +kernel
theorem d_Pl_init_76 : decode c_Pl_init 76 = .ok (.getfield 31, 3) := by decide +kernel
theorem d_Pl_init_79 : decode c_Pl_init 79 = .ok (.iload_n 1, 1) := by decide +kernel
theorem d_Pl_init_80 : decode c_Pl_init 80 = .ok (.iconst (-1), 1) := by decide +kernel
theorem d_Pl_init_81 : decode c_Pl_init 81 = .ok (.iastore, 1) := by decide +kernel
theorem d_Pl_init_82 : decode c_Pl_init 82 = .ok (.iinc 1 1, 3) := by decide +kernel
theorem d_Pl_init_85 : decode c_Pl_init 85 = .ok (.goto (-23), 3) := by decide +kernel
theorem d_Pl_init_88 : decode c_Pl_init 88 = .ok (.return_, 1) := by decide +kernel
def f_Pl_init_62 (a : Nat) : Nat → Int32 → sn_M
  | 0, _ => r_0
  | n + 1, x1 => (if (36 : Int32) ≤ x1 then r_V else g_R 5 6 (some a) fun v1 => b_I 21 v1 x1 (-1 : Int32) (g_R 5 7 (some a) fun v2 => b_I 21 v2 x1 (-1 : Int32) (f_Pl_init_62 a n (x1 + (1 : Int32)))))
set_option maxHeartbeats 4000000 in
set_option maxRecDepth 100000 in
theorem mono_Pl_init_62 (a : Nat) : ∀ (n : Nat) (x1 : Int32), sn_Mono (f_Pl_init_62 a n x1)
  | 0, _ => sn_Mono.r0
  | n + 1, x1 => sn_Mono.ite (sn_Mono.rV) (sn_Mono.gR (fun v1 => sn_Mono.bI (sn_Mono.gR (fun v2 => sn_Mono.bI (mono_Pl_init_62 a n (x1 + (1 : Int32)))))))
set_option maxHeartbeats 4000000 in
set_option maxRecDepth 100000 in
theorem s_Pl_init_62 {X : sn_X} (C : sn_Cx X c_Pl_init "SignalNetwork$Plan" none "<init>" 2 1 12) (a : Nat) (n : Nat) : ∀ (x1 : Int32), sn_S X 62 [(0, vA (some a)), (1, vI x1)] [] (f_Pl_init_62 a n x1) := by
  induction n with
  | zero => intro x1; exact sn_S.zero
  | succ n ih =>
    intro x1
    unfold f_Pl_init_62
    refine r_iload_n (q := 63) (i := 1) (pl := 1) C d_Pl_init_62 rfl rfl rfl ?_
    refine r_bipush (q := 65) (v := 36) C d_Pl_init_63 rfl (by decide) ?_
    refine r_icmp_ge (tgt := 88) (q := 68) C d_Pl_init_65 (by decide) rfl ?_ ?_
    · exact r_vret C d_Pl_init_88 rfl
    · refine r_aload_n (q := 69) (i := 0) (pl := 0) C d_Pl_init_68 rfl rfl rfl ?_
      refine r_gR (q := 72) C d_Pl_init_69 rfl F_Pl_28 rfl (fun v1 => ?_)
      refine r_iload_n (q := 73) (i := 1) (pl := 1) C d_Pl_init_72 rfl rfl rfl ?_
      refine r_iconst (q := 74) (v := -1) C d_Pl_init_73 rfl (by decide) ?_
      refine r_bI (q := 75) C (Or.inl rfl) d_Pl_init_74 rfl ?_
      refine r_aload_n (q := 76) (i := 0) (pl := 0) C d_Pl_init_75 rfl rfl rfl ?_
      refine r_gR (q := 79) C d_Pl_init_76 rfl F_Pl_31 rfl (fun v2 => ?_)
      refine r_iload_n (q := 80) (i := 1) (pl := 1) C d_Pl_init_79 rfl rfl rfl ?_
      refine r_iconst (q := 81) (v := -1) C d_Pl_init_80 rfl (by decide) ?_
      refine r_bI (q := 82) C (Or.inl rfl) d_Pl_init_81 rfl ?_
      refine r_iinc (q := 85) (pl := 1) (v := x1 + (1 : Int32)) (lv' := [(1, vI (x1 + (1 : Int32))), (0, vA (some a))]) C d_Pl_init_82 rfl rfl rfl (by decide) rfl ?_
      refine r_goto (tgt := 62) C d_Pl_init_85 (by decide) ?_
      refine r_sub (lv' := [(0, vA (some a)), (1, vI (x1 + (1 : Int32)))]) [1, 0] rfl ?_
      exact ih (x1 + (1 : Int32))
def f_Pl_init (a : Nat) : sn_M := n_A 21 (10 : Int32) fun v3 => p_R 5 1 (some a) v3 (n_A 21 (10 : Int32) fun v4 => p_R 5 2 (some a) v4 (n_A 23 (10 : Int32) fun v5 => p_R 5 3 (some a) v5 (n_A 23 (10 : Int32) fun v6 => p_R 5 4 (some a) v6 (n_A 21 (36 : Int32) fun v7 => p_R 5 5 (some a) v7 (n_A 21 (36 : Int32) fun v8 => p_R 5 6 (some a) v8 (n_A 21 (36 : Int32) fun v9 => p_R 5 7 (some a) v9 (f_Pl_init_62 a sn_fuel (0 : Int32))))))))
set_option maxHeartbeats 4000000 in
set_option maxRecDepth 100000 in
theorem mono_Pl_init (a : Nat) : sn_Mono (f_Pl_init a) := sn_Mono.nA (fun v3 => sn_Mono.pR (sn_Mono.nA (fun v4 => sn_Mono.pR (sn_Mono.nA (fun v5 => sn_Mono.pR (sn_Mono.nA (fun v6 => sn_Mono.pR (sn_Mono.nA (fun v7 => sn_Mono.pR (sn_Mono.nA (fun v8 => sn_Mono.pR (sn_Mono.nA (fun v9 => sn_Mono.pR (mono_Pl_init_62 a sn_fuel (0 : Int32)))))))))))))))
set_option maxHeartbeats 4000000 in
set_option maxRecDepth 100000 in
theorem con_Pl_init (a : Nat) : sn_Con y_Pl_init c_Pl_init 2 none 1 12 [vA (some a)] (f_Pl_init a) := by
  refine sn_Con.of (by decide +kernel) (by show _ ≤ _; exact Nat.le_of_ble_eq_true rfl) (mono_Pl_init a) (fun X C => ?_)
  show sn_S X 0 [(0, vA (some a))] [] _
  replace C : sn_Cx X c_Pl_init "SignalNetwork$Plan" none "<init>" 2 1 12 := C
  unfold f_Pl_init
  refine r_aload_n (q := 1) (i := 0) (pl := 0) C d_Pl_init_0 rfl rfl rfl ?_
  refine r_objInit (q := 4) C d_Pl_init_1 rfl LO_Pl_3 W_oi W_oc (by decide) (by decide) a rfl ?_
  refine r_aload_n (q := 5) (i := 0) (pl := 0) C d_Pl_init_4 rfl rfl rfl ?_
  refine r_bipush (q := 7) (v := 10) C d_Pl_init_5 rfl (by decide) ?_
  refine r_newa (q := 9) (aty := .int) (kd := 21) (tyi := 0) (ty := .int) C (by decide) rfl (fun _ => rfl) (Or.inl ⟨rfl, (Or.inl rfl)⟩) AC_21 d_Pl_init_7 rfl (fun v3 => ?_)
  refine r_pR (q := 12) C d_Pl_init_9 rfl F_Pl_9 rfl (Or.inr ⟨_, rfl⟩) (Or.inr ⟨rfl, _, _, rfl⟩) ?_
  refine r_aload_n (q := 13) (i := 0) (pl := 0) C d_Pl_init_12 rfl rfl rfl ?_
  refine r_bipush (q := 15) (v := 10) C d_Pl_init_13 rfl (by decide) ?_
  refine r_newa (q := 17) (aty := .int) (kd := 21) (tyi := 0) (ty := .int) C (by decide) rfl (fun _ => rfl) (Or.inl ⟨rfl, (Or.inl rfl)⟩) AC_21 d_Pl_init_15 rfl (fun v4 => ?_)
  refine r_pR (q := 20) C d_Pl_init_17 rfl F_Pl_15 rfl (Or.inr ⟨_, rfl⟩) (Or.inr ⟨rfl, _, _, rfl⟩) ?_
  refine r_aload_n (q := 21) (i := 0) (pl := 0) C d_Pl_init_20 rfl rfl rfl ?_
  refine r_bipush (q := 23) (v := 10) C d_Pl_init_21 rfl (by decide) ?_
  refine r_newa (q := 25) (aty := .boolean) (kd := 23) (tyi := 2) (ty := .boolean) C (by decide) rfl (fun _ => rfl) (Or.inr (Or.inr ⟨rfl, (Or.inl rfl)⟩)) AC_23 d_Pl_init_23 rfl (fun v5 => ?_)
  refine r_pR (q := 28) C d_Pl_init_25 rfl F_Pl_18 rfl (Or.inr ⟨_, rfl⟩) (Or.inr ⟨rfl, _, _, rfl⟩) ?_
  refine r_aload_n (q := 29) (i := 0) (pl := 0) C d_Pl_init_28 rfl rfl rfl ?_
  refine r_bipush (q := 31) (v := 10) C d_Pl_init_29 rfl (by decide) ?_
  refine r_newa (q := 33) (aty := .boolean) (kd := 23) (tyi := 2) (ty := .boolean) C (by decide) rfl (fun _ => rfl) (Or.inr (Or.inr ⟨rfl, (Or.inl rfl)⟩)) AC_23 d_Pl_init_31 rfl (fun v6 => ?_)
  refine r_pR (q := 36) C d_Pl_init_33 rfl F_Pl_22 rfl (Or.inr ⟨_, rfl⟩) (Or.inr ⟨rfl, _, _, rfl⟩) ?_
  refine r_aload_n (q := 37) (i := 0) (pl := 0) C d_Pl_init_36 rfl rfl rfl ?_
  refine r_bipush (q := 39) (v := 36) C d_Pl_init_37 rfl (by decide) ?_
  refine r_newa (q := 41) (aty := .int) (kd := 21) (tyi := 0) (ty := .int) C (by decide) rfl (fun _ => rfl) (Or.inl ⟨rfl, (Or.inl rfl)⟩) AC_21 d_Pl_init_39 rfl (fun v7 => ?_)
  refine r_pR (q := 44) C d_Pl_init_41 rfl F_Pl_25 rfl (Or.inr ⟨_, rfl⟩) (Or.inr ⟨rfl, _, _, rfl⟩) ?_
  refine r_aload_n (q := 45) (i := 0) (pl := 0) C d_Pl_init_44 rfl rfl rfl ?_
  refine r_bipush (q := 47) (v := 36) C d_Pl_init_45 rfl (by decide) ?_
  refine r_newa (q := 49) (aty := .int) (kd := 21) (tyi := 0) (ty := .int) C (by decide) rfl (fun _ => rfl) (Or.inl ⟨rfl, (Or.inl rfl)⟩) AC_21 d_Pl_init_47 rfl (fun v8 => ?_)
  refine r_pR (q := 52) C d_Pl_init_49 rfl F_Pl_28 rfl (Or.inr ⟨_, rfl⟩) (Or.inr ⟨rfl, _, _, rfl⟩) ?_
  refine r_aload_n (q := 53) (i := 0) (pl := 0) C d_Pl_init_52 rfl rfl rfl ?_
  refine r_bipush (q := 55) (v := 36) C d_Pl_init_53 rfl (by decide) ?_
  refine r_newa (q := 57) (aty := .int) (kd := 21) (tyi := 0) (ty := .int) C (by decide) rfl (fun _ => rfl) (Or.inl ⟨rfl, (Or.inl rfl)⟩) AC_21 d_Pl_init_55 rfl (fun v9 => ?_)
  refine r_pR (q := 60) C d_Pl_init_57 rfl F_Pl_31 rfl (Or.inr ⟨_, rfl⟩) (Or.inr ⟨rfl, _, _, rfl⟩) ?_
  refine r_iconst (q := 61) (v := 0) C d_Pl_init_60 rfl (by decide) ?_
  refine r_istore_n (q := 62) (i := 1) (lv' := [(1, vI (0 : Int32)), (0, vA (some a))]) C d_Pl_init_61 rfl rfl (by decide) rfl ?_
  refine r_sub (lv' := [(0, vA (some a)), (1, vI (0 : Int32))]) [1, 0] rfl ?_
  exact s_Pl_init_62 C a sn_fuel (0 : Int32)
theorem d_Pl_isExchange_0 : decode c_Pl_isExchange 0 = .ok (.iload_n 0, 1) := by decide +kernel
theorem d_Pl_isExchange_1 : decode c_Pl_isExchange 1 = .ok (.ifCond .lt 13, 3) := by decide +kernel
theorem d_Pl_isExchange_4 : decode c_Pl_isExchange 4 = .ok (.iload_n 0, 1) := by decide +kernel
theorem d_Pl_isExchange_5 : decode c_Pl_isExchange 5 = .ok (.bipush 6, 2) := by decide +kernel
theorem d_Pl_isExchange_7 : decode c_Pl_isExchange 7 = .ok (.if_icmp .ge 7, 3) := by decide +kernel
theorem d_Pl_isExchange_10 : decode c_Pl_isExchange 10 = .ok (.iconst 1, 1) := by decide +kernel
theorem d_Pl_isExchange_11 : decode c_Pl_isExchange 11 = .ok (.goto 4, 3) := by decide +kernel
theorem d_Pl_isExchange_14 : decode c_Pl_isExchange 14 = .ok (.iconst 0, 1) := by decide +kernel
theorem d_Pl_isExchange_15 : decode c_Pl_isExchange 15 = .ok (.ireturn, 1) := by decide +kernel
def f_Pl_isExchange_15 (t0 : Int32) : sn_M := r_Z t0
set_option maxHeartbeats 4000000 in
set_option maxRecDepth 100000 in
theorem mono_Pl_isExchange_15 (t0 : Int32) : sn_Mono (f_Pl_isExchange_15 t0) := sn_Mono.rZ
set_option maxHeartbeats 4000000 in
set_option maxRecDepth 100000 in
theorem s_Pl_isExchange_15 {X : sn_X} (C : sn_Cx X c_Pl_isExchange "SignalNetwork$Plan" (some .boolean) "isExchange" 1 0 0) (t0 : Int32) : sn_S X 15 [] [vI t0] (f_Pl_isExchange_15 t0) := by
  unfold f_Pl_isExchange_15
  exact r_zret C d_Pl_isExchange_15 rfl
def f_Pl_isExchange_14 : sn_M := f_Pl_isExchange_15 (0 : Int32)
set_option maxHeartbeats 4000000 in
set_option maxRecDepth 100000 in
theorem mono_Pl_isExchange_14 : sn_Mono (f_Pl_isExchange_14) := mono_Pl_isExchange_15 (0 : Int32)
set_option maxHeartbeats 4000000 in
set_option maxRecDepth 100000 in
theorem s_Pl_isExchange_14 {X : sn_X} (C : sn_Cx X c_Pl_isExchange "SignalNetwork$Plan" (some .boolean) "isExchange" 1 0 0) : sn_S X 14 [] [] (f_Pl_isExchange_14) := by
  unfold f_Pl_isExchange_14
  refine r_iconst (q := 15) (v := 0) C d_Pl_isExchange_14 rfl (by decide) ?_
  exact s_Pl_isExchange_15 C (0 : Int32)
def f_Pl_isExchange (x0 : Int32) : sn_M := (if x0 < 0 then f_Pl_isExchange_14 else (if (6 : Int32) ≤ x0 then f_Pl_isExchange_14 else f_Pl_isExchange_15 (1 : Int32)))
set_option maxHeartbeats 4000000 in
set_option maxRecDepth 100000 in
theorem mono_Pl_isExchange (x0 : Int32) : sn_Mono (f_Pl_isExchange x0) := sn_Mono.ite (mono_Pl_isExchange_14) (sn_Mono.ite (mono_Pl_isExchange_14) (mono_Pl_isExchange_15 (1 : Int32)))
set_option maxHeartbeats 4000000 in
set_option maxRecDepth 100000 in
theorem con_Pl_isExchange (x0 : Int32) : sn_Con y_Pl_isExchange c_Pl_isExchange 1 (some .boolean) 0 0 [vI x0] (f_Pl_isExchange x0) := by
  refine sn_Con.of (by decide +kernel) (by show _ ≤ _; exact Nat.le_of_ble_eq_true rfl) (mono_Pl_isExchange x0) (fun X C => ?_)
  show sn_S X 0 [(0, vI x0)] [] _
  replace C : sn_Cx X c_Pl_isExchange "SignalNetwork$Plan" (some .boolean) "isExchange" 1 0 0 := C
  unfold f_Pl_isExchange
  refine r_iload_n (q := 1) (i := 0) (pl := 0) C d_Pl_isExchange_0 rfl rfl rfl ?_
  refine r_if_lt (tgt := 14) (q := 4) C d_Pl_isExchange_1 (by decide) rfl ?_ ?_
  · refine r_sub (lv' := []) [] rfl ?_
    exact s_Pl_isExchange_14 C
  · refine r_iload_n (q := 5) (i := 0) (pl := 0) C d_Pl_isExchange_4 rfl rfl rfl ?_
    refine r_bipush (q := 7) (v := 6) C d_Pl_isExchange_5 rfl (by decide) ?_
    refine r_icmp_ge (tgt := 14) (q := 10) C d_Pl_isExchange_7 (by decide) rfl ?_ ?_
    · refine r_sub (lv' := []) [] rfl ?_
      exact s_Pl_isExchange_14 C
    · refine r_iconst (q := 11) (v := 1) C d_Pl_isExchange_10 rfl (by decide) ?_
      refine r_goto (tgt := 15) C d_Pl_isExchange_11 (by decide) ?_
      refine r_sub (lv' := []) [] rfl ?_
      exact s_Pl_isExchange_15 C (1 : Int32)
theorem d_Pl_areTwo_0 : decode c_Pl_areTwo 0 = .ok (.iload_n 0, 1) := by decide +kernel
theorem d_Pl_areTwo_1 : decode c_Pl_areTwo 1 = .ok (.invokestatic 34, 3) := by decide +kernel
theorem d_Pl_areTwo_4 : decode c_Pl_areTwo 4 = .ok (.ifCond .eq 19, 3) := by decide +kernel
theorem d_Pl_areTwo_7 : decode c_Pl_areTwo 7 = .ok (.iload_n 1, 1) := by decide +kernel
theorem d_Pl_areTwo_8 : decode c_Pl_areTwo 8 = .ok (.invokestatic 34, 3) := by decide +kernel
theorem d_Pl_areTwo_11 : decode c_Pl_areTwo 11 = .ok (.ifCond .eq 12, 3) := by decide +kernel
theorem d_Pl_areTwo_14 : decode c_Pl_areTwo 14 = .ok (.iload_n 0, 1) := by decide +kernel
theorem d_Pl_areTwo_15 : decode c_Pl_areTwo 15 = .ok (.iload_n 1, 1) := by decide +kernel
theorem d_Pl_areTwo_16 : decode c_Pl_areTwo 16 = .ok (.if_icmp .eq 7, 3) := by decide +kernel
theorem d_Pl_areTwo_19 : decode c_Pl_areTwo 19 = .ok (.iconst 1, 1) := by decide +kernel
theorem d_Pl_areTwo_20 : decode c_Pl_areTwo 20 = .ok (.goto 4, 3) := by decide +kernel
theorem d_Pl_areTwo_23 : decode c_Pl_areTwo 23 = .ok (.iconst 0, 1) := by decide +kernel
theorem d_Pl_areTwo_24 : decode c_Pl_areTwo 24 = .ok (.ireturn, 1) := by decide +kernel
def f_Pl_areTwo_24 (t0 : Int32) : sn_M := r_Z t0
set_option maxHeartbeats 4000000 in
set_option maxRecDepth 100000 in
theorem mono_Pl_areTwo_24 (t0 : Int32) : sn_Mono (f_Pl_areTwo_24 t0) := sn_Mono.rZ
set_option maxHeartbeats 4000000 in
set_option maxRecDepth 100000 in
theorem s_Pl_areTwo_24 {X : sn_X} (C : sn_Cx X c_Pl_areTwo "SignalNetwork$Plan" (some .boolean) "areTwo" 2 1 20) (t0 : Int32) : sn_S X 24 [] [vI t0] (f_Pl_areTwo_24 t0) := by
  unfold f_Pl_areTwo_24
  exact r_zret C d_Pl_areTwo_24 rfl
def f_Pl_areTwo_23 : sn_M := f_Pl_areTwo_24 (0 : Int32)
set_option maxHeartbeats 4000000 in
set_option maxRecDepth 100000 in
theorem mono_Pl_areTwo_23 : sn_Mono (f_Pl_areTwo_23) := mono_Pl_areTwo_24 (0 : Int32)
set_option maxHeartbeats 4000000 in
set_option maxRecDepth 100000 in
theorem s_Pl_areTwo_23 {X : sn_X} (C : sn_Cx X c_Pl_areTwo "SignalNetwork$Plan" (some .boolean) "areTwo" 2 1 20) : sn_S X 23 [] [] (f_Pl_areTwo_23) := by
  unfold f_Pl_areTwo_23
  refine r_iconst (q := 24) (v := 0) C d_Pl_areTwo_23 rfl (by decide) ?_
  exact s_Pl_areTwo_24 C (0 : Int32)
def f_Pl_areTwo (x0 : Int32) (x1 : Int32) : sn_M := c_I (f_Pl_isExchange x0) fun v1 => (if v1 = 0 then f_Pl_areTwo_23 else c_I (f_Pl_isExchange x1) fun v2 => (if v2 = 0 then f_Pl_areTwo_23 else (if x0 = x1 then f_Pl_areTwo_23 else f_Pl_areTwo_24 (1 : Int32))))
set_option maxHeartbeats 4000000 in
set_option maxRecDepth 100000 in
theorem mono_Pl_areTwo (x0 : Int32) (x1 : Int32) : sn_Mono (f_Pl_areTwo x0 x1) := sn_Mono.cI (mono_Pl_isExchange x0) (fun v1 => sn_Mono.ite (mono_Pl_areTwo_23) (sn_Mono.cI (mono_Pl_isExchange x1) (fun v2 => sn_Mono.ite (mono_Pl_areTwo_23) (sn_Mono.ite (mono_Pl_areTwo_23) (mono_Pl_areTwo_24 (1 : Int32))))))
set_option maxHeartbeats 4000000 in
set_option maxRecDepth 100000 in
theorem con_Pl_areTwo (x0 : Int32) (x1 : Int32) : sn_Con y_Pl_areTwo c_Pl_areTwo 2 (some .boolean) 1 20 [vI x0, vI x1] (f_Pl_areTwo x0 x1) := by
  refine sn_Con.of (by decide +kernel) (by show _ ≤ _; exact Nat.le_of_ble_eq_true rfl) (mono_Pl_areTwo x0 x1) (fun X C => ?_)
  show sn_S X 0 [(0, vI x0), (1, vI x1)] [] _
  replace C : sn_Cx X c_Pl_areTwo "SignalNetwork$Plan" (some .boolean) "areTwo" 2 1 20 := C
  unfold f_Pl_areTwo
  refine r_iload_n (q := 1) (i := 0) (pl := 0) C d_Pl_areTwo_0 rfl rfl rfl ?_
  refine r_csI (q := 4) (As := [vI x0]) (st := []) C d_Pl_areTwo_1 rfl Y_Pl_isExchange L_Pl_34 St_Pl_isExchange rfl (Nat.le_of_ble_eq_true rfl) (Nat.le_of_ble_eq_true rfl) (Nat.le_of_ble_eq_true rfl) rfl (con_Pl_isExchange x0) (fun v1 => ?_)
  refine r_if_eq (tgt := 23) (q := 7) C d_Pl_areTwo_4 (by decide) rfl ?_ ?_
  · refine r_sub (lv' := []) [] rfl ?_
    exact s_Pl_areTwo_23 C
  · refine r_iload_n (q := 8) (i := 1) (pl := 1) C d_Pl_areTwo_7 rfl rfl rfl ?_
    refine r_csI (q := 11) (As := [vI x1]) (st := []) C d_Pl_areTwo_8 rfl Y_Pl_isExchange L_Pl_34 St_Pl_isExchange rfl (Nat.le_of_ble_eq_true rfl) (Nat.le_of_ble_eq_true rfl) (Nat.le_of_ble_eq_true rfl) rfl (con_Pl_isExchange x1) (fun v2 => ?_)
    refine r_if_eq (tgt := 23) (q := 14) C d_Pl_areTwo_11 (by decide) rfl ?_ ?_
    · refine r_sub (lv' := []) [] rfl ?_
      exact s_Pl_areTwo_23 C
    · refine r_iload_n (q := 15) (i := 0) (pl := 0) C d_Pl_areTwo_14 rfl rfl rfl ?_
      refine r_iload_n (q := 16) (i := 1) (pl := 1) C d_Pl_areTwo_15 rfl rfl rfl ?_
      refine r_icmp_eq (tgt := 23) (q := 19) C d_Pl_areTwo_16 (by decide) rfl ?_ ?_
      · refine r_sub (lv' := []) [] rfl ?_
        exact s_Pl_areTwo_23 C
      · refine r_iconst (q := 20) (v := 1) C d_Pl_areTwo_19 rfl (by decide) ?_
        refine r_goto (tgt := 24) C d_Pl_areTwo_20 (by decide) ?_
        refine r_sub (lv' := []) [] rfl ?_
        exact s_Pl_areTwo_24 C (1 : Int32)
theorem d_Pl_isLink_0 : decode c_Pl_isLink 0 = .ok (.iload_n 1, 1) := by decide +kernel
theorem d_Pl_isLink_1 : decode c_Pl_isLink 1 = .ok (.ifCond .lt 15, 3) := by decide +kernel
theorem d_Pl_isLink_4 : decode c_Pl_isLink 4 = .ok (.iload_n 1, 1) := by decide +kernel
theorem d_Pl_isLink_5 : decode c_Pl_isLink 5 = .ok (.aload_n 0, 1) := by decide +kernel
theorem d_Pl_isLink_6 : decode c_Pl_isLink 6 = .ok (.getfield 38, 3) := by decide +kernel
theorem d_Pl_isLink_9 : decode c_Pl_isLink 9 = .ok (.if_icmp .ge 7, 3) := by decide +kernel
theorem d_Pl_isLink_12 : decode c_Pl_isLink 12 = .ok (.iconst 1, 1) := by decide +kernel
theorem d_Pl_isLink_13 : decode c_Pl_isLink 13 = .ok (.goto 4, 3) := by decide +kernel
theorem d_Pl_isLink_16 : decode c_Pl_isLink 16 = .ok (.iconst 0, 1) := by decide +kernel
theorem d_Pl_isLink_17 : decode c_Pl_isLink 17 = .ok (.ireturn, 1) := by decide +kernel
def f_Pl_isLink_17 (a : Nat) (t0 : Int32) : sn_M := r_Z t0
set_option maxHeartbeats 4000000 in
set_option maxRecDepth 100000 in
theorem mono_Pl_isLink_17 (a : Nat) (t0 : Int32) : sn_Mono (f_Pl_isLink_17 a t0) := sn_Mono.rZ
set_option maxHeartbeats 4000000 in
set_option maxRecDepth 100000 in
theorem s_Pl_isLink_17 {X : sn_X} (C : sn_Cx X c_Pl_isLink "SignalNetwork$Plan" (some .boolean) "isLink" 2 0 0) (a : Nat) (t0 : Int32) : sn_S X 17 [(0, vA (some a))] [vI t0] (f_Pl_isLink_17 a t0) := by
  unfold f_Pl_isLink_17
  exact r_zret C d_Pl_isLink_17 rfl
def f_Pl_isLink_16 (a : Nat) : sn_M := f_Pl_isLink_17 a (0 : Int32)
set_option maxHeartbeats 4000000 in
set_option maxRecDepth 100000 in
theorem mono_Pl_isLink_16 (a : Nat) : sn_Mono (f_Pl_isLink_16 a) := mono_Pl_isLink_17 a (0 : Int32)
set_option maxHeartbeats 4000000 in
set_option maxRecDepth 100000 in
theorem s_Pl_isLink_16 {X : sn_X} (C : sn_Cx X c_Pl_isLink "SignalNetwork$Plan" (some .boolean) "isLink" 2 0 0) (a : Nat) : sn_S X 16 [(0, vA (some a))] [] (f_Pl_isLink_16 a) := by
  unfold f_Pl_isLink_16
  refine r_iconst (q := 17) (v := 0) C d_Pl_isLink_16 rfl (by decide) ?_
  exact s_Pl_isLink_17 C a (0 : Int32)
def f_Pl_isLink (a : Nat) (x1 : Int32) : sn_M := (if x1 < 0 then f_Pl_isLink_16 a else g_I 5 0 (some a) fun v1 => (if v1 ≤ x1 then f_Pl_isLink_16 a else f_Pl_isLink_17 a (1 : Int32)))
set_option maxHeartbeats 4000000 in
set_option maxRecDepth 100000 in
theorem mono_Pl_isLink (a : Nat) (x1 : Int32) : sn_Mono (f_Pl_isLink a x1) := sn_Mono.ite (mono_Pl_isLink_16 a) (sn_Mono.gI (fun v1 => sn_Mono.ite (mono_Pl_isLink_16 a) (mono_Pl_isLink_17 a (1 : Int32))))
set_option maxHeartbeats 4000000 in
set_option maxRecDepth 100000 in
theorem con_Pl_isLink (a : Nat) (x1 : Int32) : sn_Con y_Pl_isLink c_Pl_isLink 2 (some .boolean) 0 0 [vA (some a), vI x1] (f_Pl_isLink a x1) := by
  refine sn_Con.of (by decide +kernel) (by show _ ≤ _; exact Nat.le_of_ble_eq_true rfl) (mono_Pl_isLink a x1) (fun X C => ?_)
  show sn_S X 0 [(0, vA (some a)), (1, vI x1)] [] _
  replace C : sn_Cx X c_Pl_isLink "SignalNetwork$Plan" (some .boolean) "isLink" 2 0 0 := C
  unfold f_Pl_isLink
  refine r_iload_n (q := 1) (i := 1) (pl := 1) C d_Pl_isLink_0 rfl rfl rfl ?_
  refine r_if_lt (tgt := 16) (q := 4) C d_Pl_isLink_1 (by decide) rfl ?_ ?_
  · refine r_sub (lv' := [(0, vA (some a))]) [0] rfl ?_
    exact s_Pl_isLink_16 C a
  · refine r_iload_n (q := 5) (i := 1) (pl := 1) C d_Pl_isLink_4 rfl rfl rfl ?_
    refine r_aload_n (q := 6) (i := 0) (pl := 0) C d_Pl_isLink_5 rfl rfl rfl ?_
    refine r_gI (q := 9) C d_Pl_isLink_6 rfl F_Pl_38 rfl (fun v1 => ?_)
    refine r_icmp_ge (tgt := 16) (q := 12) C d_Pl_isLink_9 (by decide) rfl ?_ ?_
    · refine r_sub (lv' := [(0, vA (some a))]) [0] rfl ?_
      exact s_Pl_isLink_16 C a
    · refine r_iconst (q := 13) (v := 1) C d_Pl_isLink_12 rfl (by decide) ?_
      refine r_goto (tgt := 17) C d_Pl_isLink_13 (by decide) ?_
      refine r_sub (lv' := [(0, vA (some a))]) [0] rfl ?_
      exact s_Pl_isLink_17 C a (1 : Int32)
theorem d_Pl_setSize_0 : decode c_Pl_setSize 0 = .ok (.iload_n 1, 1) := by decide +kernel
theorem d_Pl_setSize_1 : decode c_Pl_setSize 1 = .ok (.ifCond .lt 19, 3) := by decide +kernel
theorem d_Pl_setSize_4 : decode c_Pl_setSize 4 = .ok (.iload_n 1, 1) := by decide +kernel
theorem d_Pl_setSize_5 : decode c_Pl_setSize 5 = .ok (.bipush 6, 2) := by decide +kernel
theorem d_Pl_setSize_7 : decode c_Pl_setSize 7 = .ok (.if_icmp .ge 13, 3) := by decide +kernel
theorem d_Pl_setSize_10 : decode c_Pl_setSize 10 = .ok (.iload_n 2, 1) := by decide +kernel
theorem d_Pl_setSize_11 : decode c_Pl_setSize 11 = .ok (.ifCond .lt 9, 3) := by decide +kernel
theorem d_Pl_setSize_14 : decode c_Pl_setSize 14 = .ok (.iload_n 2, 1) := by decide +kernel
theorem d_Pl_setSize_15 : decode c_Pl_setSize 15 = .ok (.bipush 6, 2) := by decide +kernel
theorem d_Pl_setSize_17 : decode c_Pl_setSize 17 = .ok (.if_icmp .lt 5, 3) := by decide +kernel
theorem d_Pl_setSize_20 : decode c_Pl_setSize 20 = .ok (.iconst 0, 1) := by decide +kernel
theorem d_Pl_setSize_21 : decode c_Pl_setSize 21 = .ok (.ireturn, 1) := by decide +kernel
theorem d_Pl_setSize_22 : decode c_Pl_setSize 22 = .ok (.aload_n 0, 1) := by decide +kernel
theorem d_Pl_setSize_23 : decode c_Pl_setSize 23 = .ok (.getfield 25, 3) := by decide +kernel
theorem d_Pl_setSize_26 : decode c_Pl_setSize 26 = .ok (.iload_n 1, 1) := by decide +kernel
theorem d_Pl_setSize_27 : decode c_Pl_setSize 27 = .ok (.bipush 6, 2) := by decide +kernel
theorem d_Pl_setSize_29 : decode c_Pl_setSize 29 = .ok (.imul, 1) := by decide +kernel
theorem d_Pl_setSize_30 : decode c_Pl_setSize 30 = .ok (.iload_n 2, 1) := by decide +kernel
theorem d_Pl_setSize_31 : decode c_Pl_setSize 31 = .ok (.iadd, 1) := by decide +kernel
theorem d_Pl_setSize_32 : decode c_Pl_setSize 32 = .ok (.iaload, 1) := by decide +kernel
theorem d_Pl_setSize_33 : decode c_Pl_setSize 33 = .ok (.ireturn, 1) := by decide +kernel
def f_Pl_setSize_20 (a : Nat) : sn_M := r_I (0 : Int32)
set_option maxHeartbeats 4000000 in
set_option maxRecDepth 100000 in
theorem mono_Pl_setSize_20 (a : Nat) : sn_Mono (f_Pl_setSize_20 a) := sn_Mono.rI
set_option maxHeartbeats 4000000 in
set_option maxRecDepth 100000 in
theorem s_Pl_setSize_20 {X : sn_X} (C : sn_Cx X c_Pl_setSize "SignalNetwork$Plan" (some .int) "setSize" 3 0 0) (a : Nat) : sn_S X 20 [(0, vA (some a))] [] (f_Pl_setSize_20 a) := by
  unfold f_Pl_setSize_20
  refine r_iconst (q := 21) (v := 0) C d_Pl_setSize_20 rfl (by decide) ?_
  exact r_iret C d_Pl_setSize_21 rfl
def f_Pl_setSize (a : Nat) (x1 : Int32) (x2 : Int32) : sn_M := (if x1 < 0 then f_Pl_setSize_20 a else (if (6 : Int32) ≤ x1 then f_Pl_setSize_20 a else (if x2 < 0 then f_Pl_setSize_20 a else (if x2 < (6 : Int32) then g_R 5 5 (some a) fun v1 => a_I 21 v1 ((x1 * (6 : Int32)) + x2) fun v2 => r_I v2 else f_Pl_setSize_20 a))))
set_option maxHeartbeats 4000000 in
set_option maxRecDepth 100000 in
theorem mono_Pl_setSize (a : Nat) (x1 : Int32) (x2 : Int32) : sn_Mono (f_Pl_setSize a x1 x2) := sn_Mono.ite (mono_Pl_setSize_20 a) (sn_Mono.ite (mono_Pl_setSize_20 a) (sn_Mono.ite (mono_Pl_setSize_20 a) (sn_Mono.ite (sn_Mono.gR (fun v1 => sn_Mono.aI (fun v2 => sn_Mono.rI))) (mono_Pl_setSize_20 a))))
set_option maxHeartbeats 4000000 in
set_option maxRecDepth 100000 in
theorem con_Pl_setSize (a : Nat) (x1 : Int32) (x2 : Int32) : sn_Con y_Pl_setSize c_Pl_setSize 3 (some .int) 0 0 [vA (some a), vI x1, vI x2] (f_Pl_setSize a x1 x2) := by
  refine sn_Con.of (by decide +kernel) (by show _ ≤ _; exact Nat.le_of_ble_eq_true rfl) (mono_Pl_setSize a x1 x2) (fun X C => ?_)
  show sn_S X 0 [(0, vA (some a)), (1, vI x1), (2, vI x2)] [] _
  replace C : sn_Cx X c_Pl_setSize "SignalNetwork$Plan" (some .int) "setSize" 3 0 0 := C
  unfold f_Pl_setSize
  refine r_iload_n (q := 1) (i := 1) (pl := 1) C d_Pl_setSize_0 rfl rfl rfl ?_
  refine r_if_lt (tgt := 20) (q := 4) C d_Pl_setSize_1 (by decide) rfl ?_ ?_
  · refine r_sub (lv' := [(0, vA (some a))]) [0] rfl ?_
    exact s_Pl_setSize_20 C a
  · refine r_iload_n (q := 5) (i := 1) (pl := 1) C d_Pl_setSize_4 rfl rfl rfl ?_
    refine r_bipush (q := 7) (v := 6) C d_Pl_setSize_5 rfl (by decide) ?_
    refine r_icmp_ge (tgt := 20) (q := 10) C d_Pl_setSize_7 (by decide) rfl ?_ ?_
    · refine r_sub (lv' := [(0, vA (some a))]) [0] rfl ?_
      exact s_Pl_setSize_20 C a
    · refine r_iload_n (q := 11) (i := 2) (pl := 2) C d_Pl_setSize_10 rfl rfl rfl ?_
      refine r_if_lt (tgt := 20) (q := 14) C d_Pl_setSize_11 (by decide) rfl ?_ ?_
      · refine r_sub (lv' := [(0, vA (some a))]) [0] rfl ?_
        exact s_Pl_setSize_20 C a
      · refine r_iload_n (q := 15) (i := 2) (pl := 2) C d_Pl_setSize_14 rfl rfl rfl ?_
        refine r_bipush (q := 17) (v := 6) C d_Pl_setSize_15 rfl (by decide) ?_
        refine r_icmp_lt (tgt := 22) (q := 20) C d_Pl_setSize_17 (by decide) rfl ?_ ?_
        · refine r_aload_n (q := 23) (i := 0) (pl := 0) C d_Pl_setSize_22 rfl rfl rfl ?_
          refine r_gR (q := 26) C d_Pl_setSize_23 rfl F_Pl_25 rfl (fun v1 => ?_)
          refine r_iload_n (q := 27) (i := 1) (pl := 1) C d_Pl_setSize_26 rfl rfl rfl ?_
          refine r_bipush (q := 29) (v := 6) C d_Pl_setSize_27 rfl (by decide) ?_
          refine r_imul (q := 30) C d_Pl_setSize_29 rfl ?_
          refine r_iload_n (q := 31) (i := 2) (pl := 2) C d_Pl_setSize_30 rfl rfl rfl ?_
          refine r_iadd (q := 32) C d_Pl_setSize_31 rfl ?_
          refine r_aI (q := 33) C (Or.inl rfl) d_Pl_setSize_32 rfl (fun v2 => ?_)
          exact r_iret C d_Pl_setSize_33 rfl
        · refine r_sub (lv' := [(0, vA (some a))]) [0] rfl ?_
          exact s_Pl_setSize_20 C a
theorem d_Pl_areNeighbours_0 : decode c_Pl_areNeighbours 0 = .ok (.aload_n 0, 1) := by decide +kernel
theorem d_Pl_areNeighbours_1 : decode c_Pl_areNeighbours 1 = .ok (.iload_n 1, 1) := by decide +kernel
theorem d_Pl_areNeighbours_2 : decode c_Pl_areNeighbours 2 = .ok (.iload_n 2, 1) := by decide +kernel
theorem d_Pl_areNeighbours_3 : decode c_Pl_areNeighbours 3 = .ok (.invokevirtual 42, 3) := by decide +kernel
theorem d_Pl_areNeighbours_6 : decode c_Pl_areNeighbours 6 = .ok (.ifCond .le 7, 3) := by decide +kernel
theorem d_Pl_areNeighbours_9 : decode c_Pl_areNeighbours 9 = .ok (.iconst 1, 1) := by decide +kernel
theorem d_Pl_areNeighbours_10 : decode c_Pl_areNeighbours 10 = .ok (.goto 4, 3) := by decide +kernel
theorem d_Pl_areNeighbours_13 : decode c_Pl_areNeighbours 13 = .ok (.iconst 0, 1) := by decide +kernel
theorem d_Pl_areNeighbours_14 : decode c_Pl_areNeighbours 14 = .ok (.ireturn, 1) := by decide +kernel
def f_Pl_areNeighbours_14 (a : Nat) (t0 : Int32) : sn_M := r_Z t0
set_option maxHeartbeats 4000000 in
set_option maxRecDepth 100000 in
theorem mono_Pl_areNeighbours_14 (a : Nat) (t0 : Int32) : sn_Mono (f_Pl_areNeighbours_14 a t0) := sn_Mono.rZ
set_option maxHeartbeats 4000000 in
set_option maxRecDepth 100000 in
theorem s_Pl_areNeighbours_14 {X : sn_X} (C : sn_Cx X c_Pl_areNeighbours "SignalNetwork$Plan" (some .boolean) "areNeighbours" 3 1 22) (a : Nat) (t0 : Int32) : sn_S X 14 [(0, vA (some a))] [vI t0] (f_Pl_areNeighbours_14 a t0) := by
  unfold f_Pl_areNeighbours_14
  exact r_zret C d_Pl_areNeighbours_14 rfl
def f_Pl_areNeighbours (a : Nat) (x1 : Int32) (x2 : Int32) : sn_M := n_n 5 (some a) fun a1 => c_I (f_Pl_setSize a1 x1 x2) fun v2 => (if v2 ≤ 0 then f_Pl_areNeighbours_14 a (0 : Int32) else f_Pl_areNeighbours_14 a (1 : Int32))
set_option maxHeartbeats 4000000 in
set_option maxRecDepth 100000 in
theorem mono_Pl_areNeighbours (a : Nat) (x1 : Int32) (x2 : Int32) : sn_Mono (f_Pl_areNeighbours a x1 x2) := sn_Mono.nn (fun a1 => sn_Mono.cI (mono_Pl_setSize a1 x1 x2) (fun v2 => sn_Mono.ite (mono_Pl_areNeighbours_14 a (0 : Int32)) (mono_Pl_areNeighbours_14 a (1 : Int32))))
set_option maxHeartbeats 4000000 in
set_option maxRecDepth 100000 in
theorem con_Pl_areNeighbours (a : Nat) (x1 : Int32) (x2 : Int32) : sn_Con y_Pl_areNeighbours c_Pl_areNeighbours 3 (some .boolean) 1 22 [vA (some a), vI x1, vI x2] (f_Pl_areNeighbours a x1 x2) := by
  refine sn_Con.of (by decide +kernel) (by show _ ≤ _; exact Nat.le_of_ble_eq_true rfl) (mono_Pl_areNeighbours a x1 x2) (fun X C => ?_)
  show sn_S X 0 [(0, vA (some a)), (1, vI x1), (2, vI x2)] [] _
  replace C : sn_Cx X c_Pl_areNeighbours "SignalNetwork$Plan" (some .boolean) "areNeighbours" 3 1 22 := C
  unfold f_Pl_areNeighbours
  refine r_aload_n (q := 1) (i := 0) (pl := 0) C d_Pl_areNeighbours_0 rfl rfl rfl ?_
  refine r_iload_n (q := 2) (i := 1) (pl := 1) C d_Pl_areNeighbours_1 rfl rfl rfl ?_
  refine r_iload_n (q := 3) (i := 2) (pl := 2) C d_Pl_areNeighbours_2 rfl rfl rfl ?_
  refine r_cvI (q := 6) (As := [vI x1, vI x2]) (st := []) (cy := 4) C d_Pl_areNeighbours_3 rfl Y_Pl_setSize L_Pl_42 I_Pl_setSize Se_Pl_setSize rfl (by decide) rfl (Nat.le_of_ble_eq_true rfl) (Nat.le_of_ble_eq_true rfl) (Nat.le_of_ble_eq_true rfl) rfl (fun a1 => con_Pl_setSize a1 x1 x2) (fun v2 => ?_)
  refine r_if_le (tgt := 13) (q := 9) C d_Pl_areNeighbours_6 (by decide) rfl ?_ ?_
  · refine r_iconst (q := 14) (v := 0) C d_Pl_areNeighbours_13 rfl (by decide) ?_
    refine r_sub (lv' := [(0, vA (some a))]) [0] rfl ?_
    exact s_Pl_areNeighbours_14 C a (0 : Int32)
  · refine r_iconst (q := 10) (v := 1) C d_Pl_areNeighbours_9 rfl (by decide) ?_
    refine r_goto (tgt := 14) C d_Pl_areNeighbours_10 (by decide) ?_
    refine r_sub (lv' := [(0, vA (some a))]) [0] rfl ?_
    exact s_Pl_areNeighbours_14 C a (1 : Int32)
theorem d_Pl_addLink_0 : decode c_Pl_addLink 0 = .ok (.iload_n 1, 1) := by decide +kernel
theorem d_Pl_addLink_1 : decode c_Pl_addLink 1 = .ok (.iload_n 2, 1) := by decide +kernel
theorem d_Pl_addLink_2 : decode c_Pl_addLink 2 = .ok (.invokestatic 46, 3) := by decide +kernel
theorem d_Pl_addLink_5 : decode c_Pl_addLink 5 = .ok (.ifCond .eq 22, 3) := by decide +kernel
theorem d_Pl_addLink_8 : decode c_Pl_addLink 8 = .ok (.aload_n 0, 1) := by decide +kernel
theorem d_Pl_addLink_9 : decode c_Pl_addLink 9 = .ok (.getfield 38, 3) := by decide +kernel
theorem d_Pl_addLink_12 : decode c_Pl_addLink 12 = .ok (.bipush 10, 2) := by decide +kernel
theorem d_Pl_addLink_14 : decode c_Pl_addLink 14 = .ok (.if_icmp .ge 13, 3) := by decide +kernel
theorem d_Pl_addLink_17 : decode c_Pl_addLink 17 = .ok (.aload_n 0, 1) := by decide +kernel
theorem d_Pl_addLink_18 : decode c_Pl_addLink 18 = .ok (.iload_n 1, 1) := by decide +kernel
theorem d_Pl_addLink_19 : decode c_Pl_addLink 19 = .ok (.iload_n 2, 1) := by decide +kernel
theorem d_Pl_addLink_20 : decode c_Pl_addLink 20 = .ok (.invokevirtual 42, 3) := by decide +kernel
theorem d_Pl_addLink_23 : decode c_Pl_addLink 23 = .ok (.iconst 4, 1) := by decide +kernel
theorem d_Pl_addLink_24 : decode c_Pl_addLink 24 = .ok (.if_icmp .lt 5, 3) := by decide +kernel
theorem d_Pl_addLink_27 : decode c_Pl_addLink 27 = .ok (.iconst (-1), 1) := by decide +kernel
theorem d_Pl_addLink_28 : decode c_Pl_addLink 28 = .ok (.ireturn, 1) := by decide +kernel
theorem d_Pl_addLink_29 : decode c_Pl_addLink 29 = .ok (.aload_n 0, 1) := by decide +kernel
theorem d_Pl_addLink_30 : decode c_Pl_addLink 30 = .ok (.getfield 9, 3) := by decide +kernel
theorem d_Pl_addLink_33 : decode c_Pl_addLink 33 = .ok (.aload_n 0, 1) := by decide +kernel
theorem d_Pl_addLink_34 : decode c_Pl_addLink 34 = .ok (.getfield 38, 3) := by decide +kernel
theorem d_Pl_addLink_37 : decode c_Pl_addLink 37 = .ok (.iload_n 1, 1) := by decide +kernel
theorem d_Pl_addLink_38 : decode c_Pl_addLink 38 = .ok (.iload_n 2, 1) := by decide +kernel
theorem d_Pl_addLink_39 : decode c_Pl_addLink 39 = .ok (.invokestatic 50, 3) := by decide +kernel
theorem d_Pl_addLink_42 : decode c_Pl_addLink 42 = .ok (.iastore, 1) := by decide +kernel
theorem d_Pl_addLink_43 : decode c_Pl_addLink 43 = .ok (.aload_n 0, 1) := by decide +kernel
theorem d_Pl_addLink_44 : decode c_Pl_addLink 44 = .ok (.getfield 15, 3) := by decide +kernel
theorem d_Pl_addLink_47 : decode c_Pl_addLink 47 = .ok (.aload_n 0, 1) := by decide +kernel
theorem d_Pl_addLink_48 : decode c_Pl_addLink 48 = .ok (.getfield 38, 3) := by decide +kernel
theorem d_Pl_addLink_51 : decode c_Pl_addLink 51 = .ok (.iload_n 1, 1) := by decide +kernel
theorem d_Pl_addLink_52 : decode c_Pl_addLink 52 = .ok (.iload_n 2, 1) := by decide +kernel
theorem d_Pl_addLink_53 : decode c_Pl_addLink 53 = .ok (.invokestatic 55, 3) := by decide +kernel
theorem d_Pl_addLink_56 : decode c_Pl_addLink 56 = .ok (.iastore, 1) := by decide +kernel
theorem d_Pl_addLink_57 : decode c_Pl_addLink 57 = .ok (.aload_n 0, 1) := by decide +kernel
theorem d_Pl_addLink_58 : decode c_Pl_addLink 58 = .ok (.getfield 25, 3) := by decide +kernel
theorem d_Pl_addLink_61 : decode c_Pl_addLink 61 = .ok (.iload_n 1, 1) := by decide +kernel
theorem d_Pl_addLink_62 : decode c_Pl_addLink 62 = .ok (.bipush 6, 2) := by decide +kernel
theorem d_Pl_addLink_64 : decode c_Pl_addLink 64 = .ok (.imul, 1) := by decide +kernel
theorem d_Pl_addLink_65 : decode c_Pl_addLink 65 = .ok (.iload_n 2, 1) := by decide +kernel
theorem d_Pl_addLink_66 : decode c_Pl_addLink 66 = .ok (.iadd, 1) := by decide +kernel
theorem d_Pl_addLink_67 : decode c_Pl_addLink 67 = .ok (.dup2, 1) := by decide +kernel
theorem d_Pl_addLink_68 : decode c_Pl_addLink 68 = .ok (.iaload, 1) := by decide +kernel
theorem d_Pl_addLink_69 : decode c_Pl_addLink 69 = .ok (.iconst 1, 1) := by decide +kernel
theorem d_Pl_addLink_70 : decode c_Pl_addLink 70 = .ok (.iadd, 1) := by decide +kernel
theorem d_Pl_addLink_71 : decode c_Pl_addLink 71 = .ok (.iastore, 1) := by decide +kernel
theorem d_Pl_addLink_72 : decode c_Pl_addLink 72 = .ok (.aload_n 0, 1) := by decide +kernel
theorem d_Pl_addLink_73 : decode c_Pl_addLink 73 = .ok (.getfield 25, 3) := by decide +kernel
theorem d_Pl_addLink_76 : decode c_Pl_addLink 76 = .ok (.iload_n 2, 1) := by decide +kernel
theorem d_Pl_addLink_77 : decode c_Pl_addLink 77 = .ok (.bipush 6, 2) := by decide +kernel
theorem d_Pl_addLink_79 : decode c_Pl_addLink 79 = .ok (.imul, 1) := by decide +kernel
theorem d_Pl_addLink_80 : decode c_Pl_addLink 80 = .ok (.iload_n 1, 1) := by decide +kernel
theorem d_Pl_addLink_81 : decode c_Pl_addLink 81 = .ok (.iadd, 1) := by decide +kernel
theorem d_Pl_addLink_82 : decode c_Pl_addLink 82 = .ok (.dup2, 1) := by decide +kernel
theorem d_Pl_addLink_83 : decode c_Pl_addLink 83 = .ok (.iaload, 1) := by decide +kernel
theorem d_Pl_addLink_84 : decode c_Pl_addLink 84 = .ok (.iconst 1, 1) := by decide +kernel
theorem d_Pl_addLink_85 : decode c_Pl_addLink 85 = .ok (.iadd, 1) := by decide +kernel
theorem d_Pl_addLink_86 : decode c_Pl_addLink 86 = .ok (.iastore, 1) := by decide +kernel
theorem d_Pl_addLink_87 : decode c_Pl_addLink 87 = .ok (.aload_n 0, 1) := by decide +kernel
theorem d_Pl_addLink_88 : decode c_Pl_addLink 88 = .ok (.dup, 1) := by decide +kernel
theorem d_Pl_addLink_89 : decode c_Pl_addLink 89 = .ok (.getfield 38, 3) := by decide +kernel
theorem d_Pl_addLink_92 : decode c_Pl_addLink 92 = .ok (.iconst 1, 1) := by decide +kernel
theorem d_Pl_addLink_93 : decode c_Pl_addLink 93 = .ok (.iadd, 1) := by decide +kernel
theorem d_Pl_addLink_94 : decode c_Pl_addLink 94 = .ok (.putfield 38, 3) := by decide +kernel
theorem d_Pl_addLink_97 : decode c_Pl_addLink 97 = .ok (.aload_n 0, 1) := by decide +kernel
theorem d_Pl_addLink_98 : decode c_Pl_addLink 98 = .ok (.getfield 38, 3) := by decide +kernel
theorem d_Pl_addLink_101 : decode c_Pl_addLink 101 = .ok (.iconst 1, 1) := by decide +kernel
theorem d_Pl_addLink_102 : decode c_Pl_addLink 102 = .ok (.isub, 1) := by decide +kernel
theorem d_Pl_addLink_103 : decode c_Pl_addLink 103 = .ok (.ireturn, 1) := by decide +kernel
def f_Pl_addLink_27 (a : Nat) : sn_M := r_I (-1 : Int32)
set_option maxHeartbeats 4000000 in
set_option maxRecDepth 100000 in
theorem mono_Pl_addLink_27 (a : Nat) : sn_Mono (f_Pl_addLink_27 a) := sn_Mono.rI
set_option maxHeartbeats 4000000 in
set_option maxRecDepth 100000 in
theorem s_Pl_addLink_27 {X : sn_X} (C : sn_Cx X c_Pl_addLink "SignalNetwork$Plan" (some .int) "addLink" 3 2 41) (a : Nat) : sn_S X 27 [(0, vA (some a))] [] (f_Pl_addLink_27 a) := by
  unfold f_Pl_addLink_27
  refine r_iconst (q := 28) (v := -1) C d_Pl_addLink_27 rfl (by decide) ?_
  exact r_iret C d_Pl_addLink_28 rfl
def f_Pl_addLink (a : Nat) (x1 : Int32) (x2 : Int32) : sn_M := c_I (f_Pl_areTwo x1 x2) fun v1 => (if v1 = 0 then f_Pl_addLink_27 a else g_I 5 0 (some a) fun v2 => (if (10 : Int32) ≤ v2 then f_Pl_addLink_27 a else n_n 5 (some a) fun a3 => c_I (f_Pl_setSize a3 x1 x2) fun v4 => (if v4 < (4 : Int32) then g_R 5 1 (some a) fun v5 => g_I 5 0 (some a) fun v6 => c_I (f_Ma_min x1 x2) fun v7 => b_I 21 v5 v6 v7 (g_R 5 2 (some a) fun v8 => g_I 5 0 (some a) fun v9 => c_I (f_Ma_max x1 x2) fun v10 => b_I 21 v8 v9 v10 (g_R 5 5 (some a) fun v11 => a_I 21 v11 ((x1 * (6 : Int32)) + x2) fun v12 => b_I 21 v11 ((x1 * (6 : Int32)) + x2) (v12 + (1 : Int32)) (g_R 5 5 (some a) fun v13 => a_I 21 v13 ((x2 * (6 : Int32)) + x1) fun v14 => b_I 21 v13 ((x2 * (6 : Int32)) + x1) (v14 + (1 : Int32)) (g_I 5 0 (some a) fun v15 => p_I 5 0 (some a) (v15 + (1 : Int32)) (g_I 5 0 (some a) fun v16 => r_I (v16 - (1 : Int32))))))) else f_Pl_addLink_27 a)))
set_option maxHeartbeats 4000000 in
set_option maxRecDepth 100000 in
theorem mono_Pl_addLink (a : Nat) (x1 : Int32) (x2 : Int32) : sn_Mono (f_Pl_addLink a x1 x2) := sn_Mono.cI (mono_Pl_areTwo x1 x2) (fun v1 => sn_Mono.ite (mono_Pl_addLink_27 a) (sn_Mono.gI (fun v2 => sn_Mono.ite (mono_Pl_addLink_27 a) (sn_Mono.nn (fun a3 => sn_Mono.cI (mono_Pl_setSize a3 x1 x2) (fun v4 => sn_Mono.ite (sn_Mono.gR (fun v5 => sn_Mono.gI (fun v6 => sn_Mono.cI (mono_Ma_min x1 x2) (fun v7 => sn_Mono.bI (sn_Mono.gR (fun v8 => sn_Mono.gI (fun v9 => sn_Mono.cI (mono_Ma_max x1 x2) (fun v10 => sn_Mono.bI (sn_Mono.gR (fun v11 => sn_Mono.aI (fun v12 => sn_Mono.bI (sn_Mono.gR (fun v13 => sn_Mono.aI (fun v14 => sn_Mono.bI (sn_Mono.gI (fun v15 => sn_Mono.pI (sn_Mono.gI (fun v16 => sn_Mono.rI)))))))))))))))))) (mono_Pl_addLink_27 a)))))))
set_option maxHeartbeats 4000000 in
set_option maxRecDepth 100000 in
theorem con_Pl_addLink (a : Nat) (x1 : Int32) (x2 : Int32) : sn_Con y_Pl_addLink c_Pl_addLink 3 (some .int) 2 41 [vA (some a), vI x1, vI x2] (f_Pl_addLink a x1 x2) := by
  refine sn_Con.of (by decide +kernel) (by show _ ≤ _; exact Nat.le_of_ble_eq_true rfl) (mono_Pl_addLink a x1 x2) (fun X C => ?_)
  show sn_S X 0 [(0, vA (some a)), (1, vI x1), (2, vI x2)] [] _
  replace C : sn_Cx X c_Pl_addLink "SignalNetwork$Plan" (some .int) "addLink" 3 2 41 := C
  unfold f_Pl_addLink
  refine r_iload_n (q := 1) (i := 1) (pl := 1) C d_Pl_addLink_0 rfl rfl rfl ?_
  refine r_iload_n (q := 2) (i := 2) (pl := 2) C d_Pl_addLink_1 rfl rfl rfl ?_
  refine r_csI (q := 5) (As := [vI x1, vI x2]) (st := []) C d_Pl_addLink_2 rfl Y_Pl_areTwo L_Pl_46 St_Pl_areTwo rfl (Nat.le_of_ble_eq_true rfl) (Nat.le_of_ble_eq_true rfl) (Nat.le_of_ble_eq_true rfl) rfl (con_Pl_areTwo x1 x2) (fun v1 => ?_)
  refine r_if_eq (tgt := 27) (q := 8) C d_Pl_addLink_5 (by decide) rfl ?_ ?_
  · refine r_sub (lv' := [(0, vA (some a))]) [0] rfl ?_
    exact s_Pl_addLink_27 C a
  · refine r_aload_n (q := 9) (i := 0) (pl := 0) C d_Pl_addLink_8 rfl rfl rfl ?_
    refine r_gI (q := 12) C d_Pl_addLink_9 rfl F_Pl_38 rfl (fun v2 => ?_)
    refine r_bipush (q := 14) (v := 10) C d_Pl_addLink_12 rfl (by decide) ?_
    refine r_icmp_ge (tgt := 27) (q := 17) C d_Pl_addLink_14 (by decide) rfl ?_ ?_
    · refine r_sub (lv' := [(0, vA (some a))]) [0] rfl ?_
      exact s_Pl_addLink_27 C a
    · refine r_aload_n (q := 18) (i := 0) (pl := 0) C d_Pl_addLink_17 rfl rfl rfl ?_
      refine r_iload_n (q := 19) (i := 1) (pl := 1) C d_Pl_addLink_18 rfl rfl rfl ?_
      refine r_iload_n (q := 20) (i := 2) (pl := 2) C d_Pl_addLink_19 rfl rfl rfl ?_
      refine r_cvI (q := 23) (As := [vI x1, vI x2]) (st := []) (cy := 4) C d_Pl_addLink_20 rfl Y_Pl_setSize L_Pl_42 I_Pl_setSize Se_Pl_setSize rfl (by decide) rfl (Nat.le_of_ble_eq_true rfl) (Nat.le_of_ble_eq_true rfl) (Nat.le_of_ble_eq_true rfl) rfl (fun a3 => con_Pl_setSize a3 x1 x2) (fun v4 => ?_)
      refine r_iconst (q := 24) (v := 4) C d_Pl_addLink_23 rfl (by decide) ?_
      refine r_icmp_lt (tgt := 29) (q := 27) C d_Pl_addLink_24 (by decide) rfl ?_ ?_
      · refine r_aload_n (q := 30) (i := 0) (pl := 0) C d_Pl_addLink_29 rfl rfl rfl ?_
        refine r_gR (q := 33) C d_Pl_addLink_30 rfl F_Pl_9 rfl (fun v5 => ?_)
        refine r_aload_n (q := 34) (i := 0) (pl := 0) C d_Pl_addLink_33 rfl rfl rfl ?_
        refine r_gI (q := 37) C d_Pl_addLink_34 rfl F_Pl_38 rfl (fun v6 => ?_)
        refine r_iload_n (q := 38) (i := 1) (pl := 1) C d_Pl_addLink_37 rfl rfl rfl ?_
        refine r_iload_n (q := 39) (i := 2) (pl := 2) C d_Pl_addLink_38 rfl rfl rfl ?_
        refine r_csI (q := 42) (As := [vI x1, vI x2]) (st := [vI v6, vA v5]) C d_Pl_addLink_39 rfl Y_Ma_min L_Pl_50 St_Ma_min rfl (Nat.le_of_ble_eq_true rfl) (Nat.le_of_ble_eq_true rfl) (Nat.le_of_ble_eq_true rfl) rfl (con_Ma_min x1 x2) (fun v7 => ?_)
        refine r_bI (q := 43) C (Or.inl rfl) d_Pl_addLink_42 rfl ?_
        refine r_aload_n (q := 44) (i := 0) (pl := 0) C d_Pl_addLink_43 rfl rfl rfl ?_
        refine r_gR (q := 47) C d_Pl_addLink_44 rfl F_Pl_15 rfl (fun v8 => ?_)
        refine r_aload_n (q := 48) (i := 0) (pl := 0) C d_Pl_addLink_47 rfl rfl rfl ?_
        refine r_gI (q := 51) C d_Pl_addLink_48 rfl F_Pl_38 rfl (fun v9 => ?_)
        refine r_iload_n (q := 52) (i := 1) (pl := 1) C d_Pl_addLink_51 rfl rfl rfl ?_
        refine r_iload_n (q := 53) (i := 2) (pl := 2) C d_Pl_addLink_52 rfl rfl rfl ?_
        refine r_csI (q := 56) (As := [vI x1, vI x2]) (st := [vI v9, vA v8]) C d_Pl_addLink_53 rfl Y_Ma_max L_Pl_55 St_Ma_max rfl (Nat.le_of_ble_eq_true rfl) (Nat.le_of_ble_eq_true rfl) (Nat.le_of_ble_eq_true rfl) rfl (con_Ma_max x1 x2) (fun v10 => ?_)
        refine r_bI (q := 57) C (Or.inl rfl) d_Pl_addLink_56 rfl ?_
        refine r_aload_n (q := 58) (i := 0) (pl := 0) C d_Pl_addLink_57 rfl rfl rfl ?_
        refine r_gR (q := 61) C d_Pl_addLink_58 rfl F_Pl_25 rfl (fun v11 => ?_)
        refine r_iload_n (q := 62) (i := 1) (pl := 1) C d_Pl_addLink_61 rfl rfl rfl ?_
        refine r_bipush (q := 64) (v := 6) C d_Pl_addLink_62 rfl (by decide) ?_
        refine r_imul (q := 65) C d_Pl_addLink_64 rfl ?_
        refine r_iload_n (q := 66) (i := 2) (pl := 2) C d_Pl_addLink_65 rfl rfl rfl ?_
        refine r_iadd (q := 67) C d_Pl_addLink_66 rfl ?_
        refine r_dup2 (q := 68) C d_Pl_addLink_67 rfl rfl rfl ?_
        refine r_aI (q := 69) C (Or.inl rfl) d_Pl_addLink_68 rfl (fun v12 => ?_)
        refine r_iconst (q := 70) (v := 1) C d_Pl_addLink_69 rfl (by decide) ?_
        refine r_iadd (q := 71) C d_Pl_addLink_70 rfl ?_
        refine r_bI (q := 72) C (Or.inl rfl) d_Pl_addLink_71 rfl ?_
        refine r_aload_n (q := 73) (i := 0) (pl := 0) C d_Pl_addLink_72 rfl rfl rfl ?_
        refine r_gR (q := 76) C d_Pl_addLink_73 rfl F_Pl_25 rfl (fun v13 => ?_)
        refine r_iload_n (q := 77) (i := 2) (pl := 2) C d_Pl_addLink_76 rfl rfl rfl ?_
        refine r_bipush (q := 79) (v := 6) C d_Pl_addLink_77 rfl (by decide) ?_
        refine r_imul (q := 80) C d_Pl_addLink_79 rfl ?_
        refine r_iload_n (q := 81) (i := 1) (pl := 1) C d_Pl_addLink_80 rfl rfl rfl ?_
        refine r_iadd (q := 82) C d_Pl_addLink_81 rfl ?_
        refine r_dup2 (q := 83) C d_Pl_addLink_82 rfl rfl rfl ?_
        refine r_aI (q := 84) C (Or.inl rfl) d_Pl_addLink_83 rfl (fun v14 => ?_)
        refine r_iconst (q := 85) (v := 1) C d_Pl_addLink_84 rfl (by decide) ?_
        refine r_iadd (q := 86) C d_Pl_addLink_85 rfl ?_
        refine r_bI (q := 87) C (Or.inl rfl) d_Pl_addLink_86 rfl ?_
        refine r_aload_n (q := 88) (i := 0) (pl := 0) C d_Pl_addLink_87 rfl rfl rfl ?_
        refine r_dup (q := 89) C d_Pl_addLink_88 rfl rfl ?_
        refine r_gI (q := 92) C d_Pl_addLink_89 rfl F_Pl_38 rfl (fun v15 => ?_)
        refine r_iconst (q := 93) (v := 1) C d_Pl_addLink_92 rfl (by decide) ?_
        refine r_iadd (q := 94) C d_Pl_addLink_93 rfl ?_
        refine r_pI (q := 97) C d_Pl_addLink_94 rfl F_Pl_38 rfl rfl (Or.inl rfl) ?_
        refine r_aload_n (q := 98) (i := 0) (pl := 0) C d_Pl_addLink_97 rfl rfl rfl ?_
        refine r_gI (q := 101) C d_Pl_addLink_98 rfl F_Pl_38 rfl (fun v16 => ?_)
        refine r_iconst (q := 102) (v := 1) C d_Pl_addLink_101 rfl (by decide) ?_
        refine r_isub (q := 103) C d_Pl_addLink_102 rfl ?_
        exact r_iret C d_Pl_addLink_103 rfl
      · refine r_sub (lv' := [(0, vA (some a))]) [0] rfl ?_
        exact s_Pl_addLink_27 C a
theorem d_Pl_mayBeTold_0 : decode c_Pl_mayBeTold 0 = .ok (.iload_n 1, 1) := by decide +kernel
theorem d_Pl_mayBeTold_1 : decode c_Pl_mayBeTold 1 = .ok (.iconst (-1), 1) := by decide +kernel
theorem d_Pl_mayBeTold_2 : decode c_Pl_mayBeTold 2 = .ok (.if_icmp .eq 11, 3) := by decide +kernel
theorem d_Pl_mayBeTold_5 : decode c_Pl_mayBeTold 5 = .ok (.iload_n 0, 1) := by decide +kernel
theorem d_Pl_mayBeTold_6 : decode c_Pl_mayBeTold 6 = .ok (.iload_n 1, 1) := by decide +kernel
theorem d_Pl_mayBeTold_7 : decode c_Pl_mayBeTold 7 = .ok (.invokestatic 46, 3) := by decide +kernel
theorem d_Pl_mayBeTold_10 : decode c_Pl_mayBeTold 10 = .ok (.ifCond .eq 7, 3) := by decide +kernel
theorem d_Pl_mayBeTold_13 : decode c_Pl_mayBeTold 13 = .ok (.iconst 1, 1) := by decide +kernel
theorem d_Pl_mayBeTold_14 : decode c_Pl_mayBeTold 14 = .ok (.goto 4, 3) := by decide +kernel
theorem d_Pl_mayBeTold_17 : decode c_Pl_mayBeTold 17 = .ok (.iconst 0, 1) := by decide +kernel
theorem d_Pl_mayBeTold_18 : decode c_Pl_mayBeTold 18 = .ok (.ireturn, 1) := by decide +kernel
def f_Pl_mayBeTold_18 (t0 : Int32) : sn_M := r_Z t0
set_option maxHeartbeats 4000000 in
set_option maxRecDepth 100000 in
theorem mono_Pl_mayBeTold_18 (t0 : Int32) : sn_Mono (f_Pl_mayBeTold_18 t0) := sn_Mono.rZ
set_option maxHeartbeats 4000000 in
set_option maxRecDepth 100000 in
theorem s_Pl_mayBeTold_18 {X : sn_X} (C : sn_Cx X c_Pl_mayBeTold "SignalNetwork$Plan" (some .boolean) "mayBeTold" 2 2 41) (t0 : Int32) : sn_S X 18 [] [vI t0] (f_Pl_mayBeTold_18 t0) := by
  unfold f_Pl_mayBeTold_18
  exact r_zret C d_Pl_mayBeTold_18 rfl
def f_Pl_mayBeTold_13 : sn_M := f_Pl_mayBeTold_18 (1 : Int32)
set_option maxHeartbeats 4000000 in
set_option maxRecDepth 100000 in
theorem mono_Pl_mayBeTold_13 : sn_Mono (f_Pl_mayBeTold_13) := mono_Pl_mayBeTold_18 (1 : Int32)
set_option maxHeartbeats 4000000 in
set_option maxRecDepth 100000 in
theorem s_Pl_mayBeTold_13 {X : sn_X} (C : sn_Cx X c_Pl_mayBeTold "SignalNetwork$Plan" (some .boolean) "mayBeTold" 2 2 41) : sn_S X 13 [] [] (f_Pl_mayBeTold_13) := by
  unfold f_Pl_mayBeTold_13
  refine r_iconst (q := 14) (v := 1) C d_Pl_mayBeTold_13 rfl (by decide) ?_
  refine r_goto (tgt := 18) C d_Pl_mayBeTold_14 (by decide) ?_
  exact s_Pl_mayBeTold_18 C (1 : Int32)
def f_Pl_mayBeTold (x0 : Int32) (x1 : Int32) : sn_M := (if x1 = (-1 : Int32) then f_Pl_mayBeTold_13 else c_I (f_Pl_areTwo x0 x1) fun v1 => (if v1 = 0 then f_Pl_mayBeTold_18 (0 : Int32) else f_Pl_mayBeTold_13))
set_option maxHeartbeats 4000000 in
set_option maxRecDepth 100000 in
theorem mono_Pl_mayBeTold (x0 : Int32) (x1 : Int32) : sn_Mono (f_Pl_mayBeTold x0 x1) := sn_Mono.ite (mono_Pl_mayBeTold_13) (sn_Mono.cI (mono_Pl_areTwo x0 x1) (fun v1 => sn_Mono.ite (mono_Pl_mayBeTold_18 (0 : Int32)) (mono_Pl_mayBeTold_13)))
set_option maxHeartbeats 4000000 in
set_option maxRecDepth 100000 in
theorem con_Pl_mayBeTold (x0 : Int32) (x1 : Int32) : sn_Con y_Pl_mayBeTold c_Pl_mayBeTold 2 (some .boolean) 2 41 [vI x0, vI x1] (f_Pl_mayBeTold x0 x1) := by
  refine sn_Con.of (by decide +kernel) (by show _ ≤ _; exact Nat.le_of_ble_eq_true rfl) (mono_Pl_mayBeTold x0 x1) (fun X C => ?_)
  show sn_S X 0 [(0, vI x0), (1, vI x1)] [] _
  replace C : sn_Cx X c_Pl_mayBeTold "SignalNetwork$Plan" (some .boolean) "mayBeTold" 2 2 41 := C
  unfold f_Pl_mayBeTold
  refine r_iload_n (q := 1) (i := 1) (pl := 1) C d_Pl_mayBeTold_0 rfl rfl rfl ?_
  refine r_iconst (q := 2) (v := -1) C d_Pl_mayBeTold_1 rfl (by decide) ?_
  refine r_icmp_eq (tgt := 13) (q := 5) C d_Pl_mayBeTold_2 (by decide) rfl ?_ ?_
  · refine r_sub (lv' := []) [] rfl ?_
    exact s_Pl_mayBeTold_13 C
  · refine r_iload_n (q := 6) (i := 0) (pl := 0) C d_Pl_mayBeTold_5 rfl rfl rfl ?_
    refine r_iload_n (q := 7) (i := 1) (pl := 1) C d_Pl_mayBeTold_6 rfl rfl rfl ?_
    refine r_csI (q := 10) (As := [vI x0, vI x1]) (st := []) C d_Pl_mayBeTold_7 rfl Y_Pl_areTwo L_Pl_46 St_Pl_areTwo rfl (Nat.le_of_ble_eq_true rfl) (Nat.le_of_ble_eq_true rfl) (Nat.le_of_ble_eq_true rfl) rfl (con_Pl_areTwo x0 x1) (fun v1 => ?_)
    refine r_if_eq (tgt := 17) (q := 13) C d_Pl_mayBeTold_10 (by decide) rfl ?_ ?_
    · refine r_iconst (q := 18) (v := 0) C d_Pl_mayBeTold_17 rfl (by decide) ?_
      refine r_sub (lv' := []) [] rfl ?_
      exact s_Pl_mayBeTold_18 C (0 : Int32)
    · refine r_sub (lv' := []) [] rfl ?_
      exact s_Pl_mayBeTold_13 C
theorem d_Pl_tell_0 : decode c_Pl_tell 0 = .ok (.iload_n 1, 1) := by decide +kernel
theorem d_Pl_tell_1 : decode c_Pl_tell 1 = .ok (.iload_n 2, 1) := by decide +kernel
theorem d_Pl_tell_2 : decode c_Pl_tell 2 = .ok (.invokestatic 46, 3) := by decide +kernel
theorem d_Pl_tell_5 : decode c_Pl_tell 5 = .ok (.ifCond .eq 20, 3) := by decide +kernel
theorem d_Pl_tell_8 : decode c_Pl_tell 8 = .ok (.iload_n 1, 1) := by decide +kernel
theorem d_Pl_tell_9 : decode c_Pl_tell 9 = .ok (.iload_n 3, 1) := by decide +kernel
theorem d_Pl_tell_10 : decode c_Pl_tell 10 = .ok (.invokestatic 58, 3) := by decide +kernel
theorem d_Pl_tell_13 : decode c_Pl_tell 13 = .ok (.ifCond .eq 12, 3) := by decide +kernel
theorem d_Pl_tell_16 : decode c_Pl_tell 16 = .ok (.iload_n 1, 1) := by decide +kernel
theorem d_Pl_tell_17 : decode c_Pl_tell 17 = .ok (.iload 4, 2) := by decide +kernel
theorem d_Pl_tell_19 : decode c_Pl_tell 19 = .ok (.invokestatic 58, 3) := by decide +kernel
theorem d_Pl_tell_22 : decode c_Pl_tell 22 = .ok (.ifCond .ne 5, 3) := by decide +kernel
theorem d_Pl_tell_25 : decode c_Pl_tell 25 = .ok (.iconst 0, 1) := by decide +kernel
theorem d_Pl_tell_26 : decode c_Pl_tell 26 = .ok (.ireturn, 1) := by decide +kernel
theorem d_Pl_tell_27 : decode c_Pl_tell 27 = .ok (.iload_n 3, 1) := by decide +kernel
theorem d_Pl_tell_28 : decode c_Pl_tell 28 = .ok (.iload 4, 2) := by decide +kernel
theorem d_Pl_tell_30 : decode c_Pl_tell 30 = .ok (.if_icmp .ne 10, 3) := by decide +kernel
theorem d_Pl_tell_33 : decode c_Pl_tell 33 = .ok (.iload_n 3, 1) := by decide +kernel
theorem d_Pl_tell_34 : decode c_Pl_tell 34 = .ok (.iconst (-1), 1) := by decide +kernel
theorem d_Pl_tell_35 : decode c_Pl_tell 35 = .ok (.if_icmp .eq 5, 3) := by decide +kernel
theorem d_Pl_tell_38 : decode c_Pl_tell 38 = .ok (.iconst 0, 1) := by decide +kernel
theorem d_Pl_tell_39 : decode c_Pl_tell 39 = .ok (.ireturn, 1) := by decide +kernel
theorem d_Pl_tell_40 : decode c_Pl_tell 40 = .ok (.aload_n 0, 1) := by decide +kernel
theorem d_Pl_tell_41 : decode c_Pl_tell 41 = .ok (.getfield 28, 3) := by decide +kernel
theorem d_Pl_tell_44 : decode c_Pl_tell 44 = .ok (.iload_n 1, 1) := by decide +kernel
theorem d_Pl_tell_45 : decode c_Pl_tell 45 = .ok (.bipush 6, 2) := by decide +kernel
theorem d_Pl_tell_47 : decode c_Pl_tell 47 = .ok (.imul, 1) := by decide +kernel
theorem d_Pl_tell_48 : decode c_Pl_tell 48 = .ok (.iload_n 2, 1) := by decide +kernel
theorem d_Pl_tell_49 : decode c_Pl_tell 49 = .ok (.iadd, 1) := by decide +kernel
theorem d_Pl_tell_50 : decode c_Pl_tell 50 = .ok (.iload_n 3, 1) := by decide +kernel
theorem d_Pl_tell_51 : decode c_Pl_tell 51 = .ok (.iastore, 1) := by decide +kernel
theorem d_Pl_tell_52 : decode c_Pl_tell 52 = .ok (.aload_n 0, 1) := by decide +kernel
theorem d_Pl_tell_53 : decode c_Pl_tell 53 = .ok (.getfield 31, 3) := by decide +kernel
theorem d_Pl_tell_56 : decode c_Pl_tell 56 = .ok (.iload_n 1, 1) := by decide +kernel
theorem d_Pl_tell_57 : decode c_Pl_tell 57 = .ok (.bipush 6, 2) := by decide +kernel
theorem d_Pl_tell_59 : decode c_Pl_tell 59 = .ok (.imul, 1) := by decide +kernel
theorem d_Pl_tell_60 : decode c_Pl_tell 60 = .ok (.iload_n 2, 1) := by decide +kernel
theorem d_Pl_tell_61 : decode c_Pl_tell 61 = .ok (.iadd, 1) := by decide +kernel
theorem d_Pl_tell_62 : decode c_Pl_tell 62 = .ok (.iload 4, 2) := by decide +kernel
theorem d_Pl_tell_64 : decode c_Pl_tell 64 = .ok (.iastore, 1) := by decide +kernel
theorem d_Pl_tell_65 : decode c_Pl_tell 65 = .ok (.iconst 1, 1) := by decide +kernel
theorem d_Pl_tell_66 : decode c_Pl_tell 66 = .ok (.ireturn, 1) := by decide +kernel
def f_Pl_tell_25 (a : Nat) : sn_M := r_Z (0 : Int32)
set_option maxHeartbeats 4000000 in
set_option maxRecDepth 100000 in
theorem mono_Pl_tell_25 (a : Nat) : sn_Mono (f_Pl_tell_25 a) := sn_Mono.rZ
set_option maxHeartbeats 4000000 in
set_option maxRecDepth 100000 in
theorem s_Pl_tell_25 {X : sn_X} (C : sn_Cx X c_Pl_tell "SignalNetwork$Plan" (some .boolean) "tell" 5 3 62) (a : Nat) : sn_S X 25 [(0, vA (some a))] [] (f_Pl_tell_25 a) := by
  unfold f_Pl_tell_25
  refine r_iconst (q := 26) (v := 0) C d_Pl_tell_25 rfl (by decide) ?_
  exact r_zret C d_Pl_tell_26 rfl
def f_Pl_tell_40 (a : Nat) (x1 : Int32) (x2 : Int32) (x3 : Int32) (x4 : Int32) : sn_M := g_R 5 6 (some a) fun v1 => b_I 21 v1 ((x1 * (6 : Int32)) + x2) x3 (g_R 5 7 (some a) fun v2 => b_I 21 v2 ((x1 * (6 : Int32)) + x2) x4 (r_Z (1 : Int32)))
set_option maxHeartbeats 4000000 in
set_option maxRecDepth 100000 in
theorem mono_Pl_tell_40 (a : Nat) (x1 : Int32) (x2 : Int32) (x3 : Int32) (x4 : Int32) : sn_Mono (f_Pl_tell_40 a x1 x2 x3 x4) := sn_Mono.gR (fun v1 => sn_Mono.bI (sn_Mono.gR (fun v2 => sn_Mono.bI (sn_Mono.rZ))))
set_option maxHeartbeats 4000000 in
set_option maxRecDepth 100000 in
theorem s_Pl_tell_40 {X : sn_X} (C : sn_Cx X c_Pl_tell "SignalNetwork$Plan" (some .boolean) "tell" 5 3 62) (a : Nat) (x1 : Int32) (x2 : Int32) (x3 : Int32) (x4 : Int32) : sn_S X 40 [(0, vA (some a)), (1, vI x1), (2, vI x2), (3, vI x3), (4, vI x4)] [] (f_Pl_tell_40 a x1 x2 x3 x4) := by
  unfold f_Pl_tell_40
  refine r_aload_n (q := 41) (i := 0) (pl := 0) C d_Pl_tell_40 rfl rfl rfl ?_
  refine r_gR (q := 44) C d_Pl_tell_41 rfl F_Pl_28 rfl (fun v1 => ?_)
  refine r_iload_n (q := 45) (i := 1) (pl := 1) C d_Pl_tell_44 rfl rfl rfl ?_
  refine r_bipush (q := 47) (v := 6) C d_Pl_tell_45 rfl (by decide) ?_
  refine r_imul (q := 48) C d_Pl_tell_47 rfl ?_
  refine r_iload_n (q := 49) (i := 2) (pl := 2) C d_Pl_tell_48 rfl rfl rfl ?_
  refine r_iadd (q := 50) C d_Pl_tell_49 rfl ?_
  refine r_iload_n (q := 51) (i := 3) (pl := 3) C d_Pl_tell_50 rfl rfl rfl ?_
  refine r_bI (q := 52) C (Or.inl rfl) d_Pl_tell_51 rfl ?_
  refine r_aload_n (q := 53) (i := 0) (pl := 0) C d_Pl_tell_52 rfl rfl rfl ?_
  refine r_gR (q := 56) C d_Pl_tell_53 rfl F_Pl_31 rfl (fun v2 => ?_)
  refine r_iload_n (q := 57) (i := 1) (pl := 1) C d_Pl_tell_56 rfl rfl rfl ?_
  refine r_bipush (q := 59) (v := 6) C d_Pl_tell_57 rfl (by decide) ?_
  refine r_imul (q := 60) C d_Pl_tell_59 rfl ?_
  refine r_iload_n (q := 61) (i := 2) (pl := 2) C d_Pl_tell_60 rfl rfl rfl ?_
  refine r_iadd (q := 62) C d_Pl_tell_61 rfl ?_
  refine r_iload (q := 64) (i := 4) (pl := 4) C d_Pl_tell_62 rfl rfl ?_
  refine r_bI (q := 65) C (Or.inl rfl) d_Pl_tell_64 rfl ?_
  refine r_iconst (q := 66) (v := 1) C d_Pl_tell_65 rfl (by decide) ?_
  exact r_zret C d_Pl_tell_66 rfl
def f_Pl_tell (a : Nat) (x1 : Int32) (x2 : Int32) (x3 : Int32) (x4 : Int32) : sn_M := c_I (f_Pl_areTwo x1 x2) fun v3 => (if v3 = 0 then f_Pl_tell_25 a else c_I (f_Pl_mayBeTold x1 x3) fun v4 => (if v4 = 0 then f_Pl_tell_25 a else c_I (f_Pl_mayBeTold x1 x4) fun v5 => (if ¬ v5 = 0 then (if ¬ x3 = x4 then f_Pl_tell_40 a x1 x2 x3 x4 else (if x3 = (-1 : Int32) then f_Pl_tell_40 a x1 x2 x3 x4 else r_Z (0 : Int32))) else f_Pl_tell_25 a)))
set_option maxHeartbeats 4000000 in
set_option maxRecDepth 100000 in
theorem mono_Pl_tell (a : Nat) (x1 : Int32) (x2 : Int32) (x3 : Int32) (x4 : Int32) : sn_Mono (f_Pl_tell a x1 x2 x3 x4) := sn_Mono.cI (mono_Pl_areTwo x1 x2) (fun v3 => sn_Mono.ite (mono_Pl_tell_25 a) (sn_Mono.cI (mono_Pl_mayBeTold x1 x3) (fun v4 => sn_Mono.ite (mono_Pl_tell_25 a) (sn_Mono.cI (mono_Pl_mayBeTold x1 x4) (fun v5 => sn_Mono.ite (sn_Mono.ite (mono_Pl_tell_40 a x1 x2 x3 x4) (sn_Mono.ite (mono_Pl_tell_40 a x1 x2 x3 x4) (sn_Mono.rZ))) (mono_Pl_tell_25 a))))))
set_option maxHeartbeats 4000000 in
set_option maxRecDepth 100000 in
theorem con_Pl_tell (a : Nat) (x1 : Int32) (x2 : Int32) (x3 : Int32) (x4 : Int32) : sn_Con y_Pl_tell c_Pl_tell 5 (some .boolean) 3 62 [vA (some a), vI x1, vI x2, vI x3, vI x4] (f_Pl_tell a x1 x2 x3 x4) := by
  refine sn_Con.of (by decide +kernel) (by show _ ≤ _; exact Nat.le_of_ble_eq_true rfl) (mono_Pl_tell a x1 x2 x3 x4) (fun X C => ?_)
  show sn_S X 0 [(0, vA (some a)), (1, vI x1), (2, vI x2), (3, vI x3), (4, vI x4)] [] _
  replace C : sn_Cx X c_Pl_tell "SignalNetwork$Plan" (some .boolean) "tell" 5 3 62 := C
  unfold f_Pl_tell
  refine r_iload_n (q := 1) (i := 1) (pl := 1) C d_Pl_tell_0 rfl rfl rfl ?_
  refine r_iload_n (q := 2) (i := 2) (pl := 2) C d_Pl_tell_1 rfl rfl rfl ?_
  refine r_csI (q := 5) (As := [vI x1, vI x2]) (st := []) C d_Pl_tell_2 rfl Y_Pl_areTwo L_Pl_46 St_Pl_areTwo rfl (Nat.le_of_ble_eq_true rfl) (Nat.le_of_ble_eq_true rfl) (Nat.le_of_ble_eq_true rfl) rfl (con_Pl_areTwo x1 x2) (fun v3 => ?_)
  refine r_if_eq (tgt := 25) (q := 8) C d_Pl_tell_5 (by decide) rfl ?_ ?_
  · refine r_sub (lv' := [(0, vA (some a))]) [0] rfl ?_
    exact s_Pl_tell_25 C a
  · refine r_iload_n (q := 9) (i := 1) (pl := 1) C d_Pl_tell_8 rfl rfl rfl ?_
    refine r_iload_n (q := 10) (i := 3) (pl := 3) C d_Pl_tell_9 rfl rfl rfl ?_
    refine r_csI (q := 13) (As := [vI x1, vI x3]) (st := []) C d_Pl_tell_10 rfl Y_Pl_mayBeTold L_Pl_58 St_Pl_mayBeTold rfl (Nat.le_of_ble_eq_true rfl) (Nat.le_of_ble_eq_true rfl) (Nat.le_of_ble_eq_true rfl) rfl (con_Pl_mayBeTold x1 x3) (fun v4 => ?_)
    refine r_if_eq (tgt := 25) (q := 16) C d_Pl_tell_13 (by decide) rfl ?_ ?_
    · refine r_sub (lv' := [(0, vA (some a))]) [0] rfl ?_
      exact s_Pl_tell_25 C a
    · refine r_iload_n (q := 17) (i := 1) (pl := 1) C d_Pl_tell_16 rfl rfl rfl ?_
      refine r_iload (q := 19) (i := 4) (pl := 4) C d_Pl_tell_17 rfl rfl ?_
      refine r_csI (q := 22) (As := [vI x1, vI x4]) (st := []) C d_Pl_tell_19 rfl Y_Pl_mayBeTold L_Pl_58 St_Pl_mayBeTold rfl (Nat.le_of_ble_eq_true rfl) (Nat.le_of_ble_eq_true rfl) (Nat.le_of_ble_eq_true rfl) rfl (con_Pl_mayBeTold x1 x4) (fun v5 => ?_)
      refine r_if_ne (tgt := 27) (q := 25) C d_Pl_tell_22 (by decide) rfl ?_ ?_
      · refine r_iload_n (q := 28) (i := 3) (pl := 3) C d_Pl_tell_27 rfl rfl rfl ?_
        refine r_iload (q := 30) (i := 4) (pl := 4) C d_Pl_tell_28 rfl rfl ?_
        refine r_icmp_ne (tgt := 40) (q := 33) C d_Pl_tell_30 (by decide) rfl ?_ ?_
        · exact s_Pl_tell_40 C a x1 x2 x3 x4
        · refine r_iload_n (q := 34) (i := 3) (pl := 3) C d_Pl_tell_33 rfl rfl rfl ?_
          refine r_iconst (q := 35) (v := -1) C d_Pl_tell_34 rfl (by decide) ?_
          refine r_icmp_eq (tgt := 40) (q := 38) C d_Pl_tell_35 (by decide) rfl ?_ ?_
          · exact s_Pl_tell_40 C a x1 x2 x3 x4
          · refine r_iconst (q := 39) (v := 0) C d_Pl_tell_38 rfl (by decide) ?_
            exact r_zret C d_Pl_tell_39 rfl
      · refine r_sub (lv' := [(0, vA (some a))]) [0] rfl ?_
        exact s_Pl_tell_25 C a
theorem d_Pl_told_0 : decode c_Pl_told 0 = .ok (.iload_n 1, 1) := by decide +kernel
theorem d_Pl_told_1 : decode c_Pl_told 1 = .ok (.ifCond .lt 19, 3) := by decide +kernel
theorem d_Pl_told_4 : decode c_Pl_told 4 = .ok (.iload_n 1, 1) := by decide +kernel
theorem d_Pl_told_5 : decode c_Pl_told 5 = .ok (.bipush 6, 2) := by decide +kernel
theorem d_Pl_told_7 : decode c_Pl_told 7 = .ok (.if_icmp .ge 13, 3) := by decide +kernel
theorem d_Pl_told_10 : decode c_Pl_told 10 = .ok (.iload_n 2, 1) := by decide +kernel
theorem d_Pl_told_11 : decode c_Pl_told 11 = .ok (.ifCond .lt 9, 3) := by decide +kernel
theorem d_Pl_told_14 : decode c_Pl_told 14 = .ok (.iload_n 2, 1) := by decide +kernel
theorem d_Pl_told_15 : decode c_Pl_told 15 = .ok (.bipush 6, 2) := by decide +kernel
theorem d_Pl_told_17 : decode c_Pl_told 17 = .ok (.if_icmp .lt 5, 3) := by decide +kernel
theorem d_Pl_told_20 : decode c_Pl_told 20 = .ok (.iconst (-1), 1) := by decide +kernel
theorem d_Pl_told_21 : decode c_Pl_told 21 = .ok (.ireturn, 1) := by decide +kernel
theorem d_Pl_told_22 : decode c_Pl_told 22 = .ok (.iload_n 3, 1) := by decide +kernel
theorem d_Pl_told_23 : decode c_Pl_told 23 = .ok (.ifCond .ne 17, 3) := by decide +kernel
theorem d_Pl_told_26 : decode c_Pl_told 26 = .ok (.aload_n 0, 1) := by decide +kernel
theorem d_Pl_told_27 : decode c_Pl_told 27 = .ok (.getfield 28, 3) := by decide +kernel
theorem d_Pl_told_30 : decode c_Pl_told 30 = .ok (.iload_n 1, 1) := by decide +kernel
theorem d_Pl_told_31 : decode c_Pl_told 31 = .ok (.bipush 6, 2) := by decide +kernel
theorem d_Pl_told_33 : decode c_Pl_told 33 = .ok (.imul, 1) := by decide +kernel
theorem d_Pl_told_34 : decode c_Pl_told 34 = .ok (.iload_n 2, 1) := by decide +kernel
theorem d_Pl_told_35 : decode c_Pl_told 35 = .ok (.iadd, 1) := by decide +kernel
theorem d_Pl_told_36 : decode c_Pl_told 36 = .ok (.iaload, 1) := by decide +kernel
theorem d_Pl_told_37 : decode c_Pl_told 37 = .ok (.goto 14, 3) := by decide +kernel
theorem d_Pl_told_40 : decode c_Pl_told 40 = .ok (.aload_n 0, 1) := by decide +kernel
theorem d_Pl_told_41 : decode c_Pl_told 41 = .ok (.getfield 31, 3) := by decide +kernel
theorem d_Pl_told_44 : decode c_Pl_told 44 = .ok (.iload_n 1, 1) := by decide +kernel
theorem d_Pl_told_45 : decode c_Pl_told 45 = .ok (.bipush 6, 2) := by decide +kernel
theorem d_Pl_told_47 : decode c_Pl_told 47 = .ok (.imul, 1) := by decide +kernel
theorem d_Pl_told_48 : decode c_Pl_told 48 = .ok (.iload_n 2, 1) := by decide +kernel
theorem d_Pl_told_49 : decode c_Pl_told 49 = .ok (.iadd, 1) := by decide +kernel
theorem d_Pl_told_50 : decode c_Pl_told 50 = .ok (.iaload, 1) := by decide +kernel
theorem d_Pl_told_51 : decode c_Pl_told 51 = .ok (.istore 4, 2) := by decide +kernel
theorem d_Pl_told_53 : decode c_Pl_told 53 = .ok (.iload 4, 2) := by decide +kernel
theorem d_Pl_told_55 : decode c_Pl_told 55 = .ok (.iconst (-1), 1) := by decide +kernel
theorem d_Pl_told_56 : decode c_Pl_told 56 = .ok (.if_icmp .eq 22, 3) := by decide +kernel
theorem d_Pl_told_59 : decode c_Pl_told 59 = .ok (.aload_n 0, 1) := by decide +kernel
theorem d_Pl_told_60 : decode c_Pl_told 60 = .ok (.getfield 25, 3) := by decide +kernel
theorem d_Pl_told_63 : decode c_Pl_told 63 = .ok (.iload_n 1, 1) := by decide +kernel
theorem d_Pl_told_64 : decode c_Pl_told 64 = .ok (.bipush 6, 2) := by decide +kernel
theorem d_Pl_told_66 : decode c_Pl_told 66 = .ok (.imul, 1) := by decide +kernel
theorem d_Pl_told_67 : decode c_Pl_told 67 = .ok (.iload 4, 2) := by decide +kernel
theorem d_Pl_told_69 : decode c_Pl_told 69 = .ok (.iadd, 1) := by decide +kernel
theorem d_Pl_told_70 : decode c_Pl_told 70 = .ok (.iaload, 1) := by decide +kernel
theorem d_Pl_told_71 : decode c_Pl_told 71 = .ok (.ifCond .le 7, 3) := by decide +kernel
theorem d_Pl_told_74 : decode c_Pl_told 74 = .ok (.iconst 1, 1) := by decide +kernel
theorem d_Pl_told_75 : decode c_Pl_told 75 = .ok (.goto 4, 3) := by decide +kernel
theorem d_Pl_told_78 : decode c_Pl_told 78 = .ok (.iconst 0, 1) := by decide +kernel
theorem d_Pl_told_79 : decode c_Pl_told 79 = .ok (.istore 5, 2) := by decide +kernel
theorem d_Pl_told_81 : decode c_Pl_told 81 = .ok (.iload 5, 2) := by decide +kernel
theorem d_Pl_told_83 : decode c_Pl_told 83 = .ok (.ifCond .eq 8, 3) := by decide +kernel
theorem d_Pl_told_86 : decode c_Pl_told 86 = .ok (.iload 4, 2) := by decide +kernel
theorem d_Pl_told_88 : decode c_Pl_told 88 = .ok (.goto 4, 3) := by decide +kernel
theorem d_Pl_told_91 : decode c_Pl_told 91 = .ok (.iconst (-1), 1) := by decide +kernel
theorem d_Pl_told_92 : decode c_Pl_told 92 = .ok (.ireturn, 1) := by decide +kernel
def f_Pl_told_20 (a : Nat) : sn_M := r_I (-1 : Int32)
set_option maxHeartbeats 4000000 in
set_option maxRecDepth 100000 in
theorem mono_Pl_told_20 (a : Nat) : sn_Mono (f_Pl_told_20 a) := sn_Mono.rI
set_option maxHeartbeats 4000000 in
set_option maxRecDepth 100000 in
theorem s_Pl_told_20 {X : sn_X} (C : sn_Cx X c_Pl_told "SignalNetwork$Plan" (some .int) "told" 6 0 0) (a : Nat) : sn_S X 20 [(0, vA (some a))] [] (f_Pl_told_20 a) := by
  unfold f_Pl_told_20
  refine r_iconst (q := 21) (v := -1) C d_Pl_told_20 rfl (by decide) ?_
  exact r_iret C d_Pl_told_21 rfl
def f_Pl_told_92 (a : Nat) (t0 : Int32) : sn_M := r_I t0
set_option maxHeartbeats 4000000 in
set_option maxRecDepth 100000 in
theorem mono_Pl_told_92 (a : Nat) (t0 : Int32) : sn_Mono (f_Pl_told_92 a t0) := sn_Mono.rI
set_option maxHeartbeats 4000000 in
set_option maxRecDepth 100000 in
theorem s_Pl_told_92 {X : sn_X} (C : sn_Cx X c_Pl_told "SignalNetwork$Plan" (some .int) "told" 6 0 0) (a : Nat) (t0 : Int32) : sn_S X 92 [(0, vA (some a))] [vI t0] (f_Pl_told_92 a t0) := by
  unfold f_Pl_told_92
  exact r_iret C d_Pl_told_92 rfl
def f_Pl_told_79 (a : Nat) (x4 : Int32) (t0 : Int32) : sn_M := (if t0 = 0 then f_Pl_told_92 a (-1 : Int32) else f_Pl_told_92 a x4)
set_option maxHeartbeats 4000000 in
set_option maxRecDepth 100000 in
theorem mono_Pl_told_79 (a : Nat) (x4 : Int32) (t0 : Int32) : sn_Mono (f_Pl_told_79 a x4 t0) := sn_Mono.ite (mono_Pl_told_92 a (-1 : Int32)) (mono_Pl_told_92 a x4)
set_option maxHeartbeats 4000000 in
set_option maxRecDepth 100000 in
theorem s_Pl_told_79 {X : sn_X} (C : sn_Cx X c_Pl_told "SignalNetwork$Plan" (some .int) "told" 6 0 0) (a : Nat) (x4 : Int32) (t0 : Int32) : sn_S X 79 [(0, vA (some a)), (4, vI x4)] [vI t0] (f_Pl_told_79 a x4 t0) := by
  unfold f_Pl_told_79
  refine r_istore (q := 81) (i := 5) (lv' := [(5, vI t0), (0, vA (some a)), (4, vI x4)]) C d_Pl_told_79 rfl (by decide) rfl ?_
  refine r_iload (q := 83) (i := 5) (pl := 0) C d_Pl_told_81 rfl rfl ?_
  refine r_if_eq (tgt := 91) (q := 86) C d_Pl_told_83 (by decide) rfl ?_ ?_
  · refine r_iconst (q := 92) (v := -1) C d_Pl_told_91 rfl (by decide) ?_
    refine r_sub (lv' := [(0, vA (some a))]) [1] rfl ?_
    exact s_Pl_told_92 C a (-1 : Int32)
  · refine r_iload (q := 88) (i := 4) (pl := 2) C d_Pl_told_86 rfl rfl ?_
    refine r_goto (tgt := 92) C d_Pl_told_88 (by decide) ?_
    refine r_sub (lv' := [(0, vA (some a))]) [1] rfl ?_
    exact s_Pl_told_92 C a x4
def f_Pl_told_78 (a : Nat) (x4 : Int32) : sn_M := f_Pl_told_79 a x4 (0 : Int32)
set_option maxHeartbeats 4000000 in
set_option maxRecDepth 100000 in
theorem mono_Pl_told_78 (a : Nat) (x4 : Int32) : sn_Mono (f_Pl_told_78 a x4) := mono_Pl_told_79 a x4 (0 : Int32)
set_option maxHeartbeats 4000000 in
set_option maxRecDepth 100000 in
theorem s_Pl_told_78 {X : sn_X} (C : sn_Cx X c_Pl_told "SignalNetwork$Plan" (some .int) "told" 6 0 0) (a : Nat) (x4 : Int32) : sn_S X 78 [(0, vA (some a)), (4, vI x4)] [] (f_Pl_told_78 a x4) := by
  unfold f_Pl_told_78
  refine r_iconst (q := 79) (v := 0) C d_Pl_told_78 rfl (by decide) ?_
  exact s_Pl_told_79 C a x4 (0 : Int32)
def f_Pl_told_51 (a : Nat) (x1 : Int32) (t0 : Int32) : sn_M := (if t0 = (-1 : Int32) then f_Pl_told_78 a t0 else g_R 5 5 (some a) fun v1 => a_I 21 v1 ((x1 * (6 : Int32)) + t0) fun v2 => (if v2 ≤ 0 then f_Pl_told_78 a t0 else f_Pl_told_79 a t0 (1 : Int32)))
set_option maxHeartbeats 4000000 in
set_option maxRecDepth 100000 in
theorem mono_Pl_told_51 (a : Nat) (x1 : Int32) (t0 : Int32) : sn_Mono (f_Pl_told_51 a x1 t0) := sn_Mono.ite (mono_Pl_told_78 a t0) (sn_Mono.gR (fun v1 => sn_Mono.aI (fun v2 => sn_Mono.ite (mono_Pl_told_78 a t0) (mono_Pl_told_79 a t0 (1 : Int32)))))
set_option maxHeartbeats 4000000 in
set_option maxRecDepth 100000 in
theorem s_Pl_told_51 {X : sn_X} (C : sn_Cx X c_Pl_told "SignalNetwork$Plan" (some .int) "told" 6 0 0) (a : Nat) (x1 : Int32) (t0 : Int32) : sn_S X 51 [(0, vA (some a)), (1, vI x1)] [vI t0] (f_Pl_told_51 a x1 t0) := by
  unfold f_Pl_told_51
  refine r_istore (q := 53) (i := 4) (lv' := [(4, vI t0), (0, vA (some a)), (1, vI x1)]) C d_Pl_told_51 rfl (by decide) rfl ?_
  refine r_iload (q := 55) (i := 4) (pl := 0) C d_Pl_told_53 rfl rfl ?_
  refine r_iconst (q := 56) (v := -1) C d_Pl_told_55 rfl (by decide) ?_
  refine r_icmp_eq (tgt := 78) (q := 59) C d_Pl_told_56 (by decide) rfl ?_ ?_
  · refine r_sub (lv' := [(0, vA (some a)), (4, vI t0)]) [1, 0] rfl ?_
    exact s_Pl_told_78 C a t0
  · refine r_aload_n (q := 60) (i := 0) (pl := 1) C d_Pl_told_59 rfl rfl rfl ?_
    refine r_gR (q := 63) C d_Pl_told_60 rfl F_Pl_25 rfl (fun v1 => ?_)
    refine r_iload_n (q := 64) (i := 1) (pl := 2) C d_Pl_told_63 rfl rfl rfl ?_
    refine r_bipush (q := 66) (v := 6) C d_Pl_told_64 rfl (by decide) ?_
    refine r_imul (q := 67) C d_Pl_told_66 rfl ?_
    refine r_iload (q := 69) (i := 4) (pl := 0) C d_Pl_told_67 rfl rfl ?_
    refine r_iadd (q := 70) C d_Pl_told_69 rfl ?_
    refine r_aI (q := 71) C (Or.inl rfl) d_Pl_told_70 rfl (fun v2 => ?_)
    refine r_if_le (tgt := 78) (q := 74) C d_Pl_told_71 (by decide) rfl ?_ ?_
    · refine r_sub (lv' := [(0, vA (some a)), (4, vI t0)]) [1, 0] rfl ?_
      exact s_Pl_told_78 C a t0
    · refine r_iconst (q := 75) (v := 1) C d_Pl_told_74 rfl (by decide) ?_
      refine r_goto (tgt := 79) C d_Pl_told_75 (by decide) ?_
      refine r_sub (lv' := [(0, vA (some a)), (4, vI t0)]) [1, 0] rfl ?_
      exact s_Pl_told_79 C a t0 (1 : Int32)
def f_Pl_told (a : Nat) (x1 : Int32) (x2 : Int32) (x3 : Int32) : sn_M := (if x1 < 0 then f_Pl_told_20 a else (if (6 : Int32) ≤ x1 then f_Pl_told_20 a else (if x2 < 0 then f_Pl_told_20 a else (if x2 < (6 : Int32) then (if ¬ x3 = 0 then g_R 5 7 (some a) fun v3 => a_I 21 v3 ((x1 * (6 : Int32)) + x2) fun v4 => f_Pl_told_51 a x1 v4 else g_R 5 6 (some a) fun v5 => a_I 21 v5 ((x1 * (6 : Int32)) + x2) fun v6 => f_Pl_told_51 a x1 v6) else f_Pl_told_20 a))))
set_option maxHeartbeats 4000000 in
set_option maxRecDepth 100000 in
theorem mono_Pl_told (a : Nat) (x1 : Int32) (x2 : Int32) (x3 : Int32) : sn_Mono (f_Pl_told a x1 x2 x3) := sn_Mono.ite (mono_Pl_told_20 a) (sn_Mono.ite (mono_Pl_told_20 a) (sn_Mono.ite (mono_Pl_told_20 a) (sn_Mono.ite (sn_Mono.ite (sn_Mono.gR (fun v3 => sn_Mono.aI (fun v4 => mono_Pl_told_51 a x1 v4))) (sn_Mono.gR (fun v5 => sn_Mono.aI (fun v6 => mono_Pl_told_51 a x1 v6)))) (mono_Pl_told_20 a))))
set_option maxHeartbeats 4000000 in
set_option maxRecDepth 100000 in
theorem con_Pl_told (a : Nat) (x1 : Int32) (x2 : Int32) (x3 : Int32) : sn_Con y_Pl_told c_Pl_told 6 (some .int) 0 0 [vA (some a), vI x1, vI x2, vI x3] (f_Pl_told a x1 x2 x3) := by
  refine sn_Con.of (by decide +kernel) (by show _ ≤ _; exact Nat.le_of_ble_eq_true rfl) (mono_Pl_told a x1 x2 x3) (fun X C => ?_)
  show sn_S X 0 [(0, vA (some a)), (1, vI x1), (2, vI x2), (3, vI x3)] [] _
  replace C : sn_Cx X c_Pl_told "SignalNetwork$Plan" (some .int) "told" 6 0 0 := C
  unfold f_Pl_told
  refine r_iload_n (q := 1) (i := 1) (pl := 1) C d_Pl_told_0 rfl rfl rfl ?_
  refine r_if_lt (tgt := 20) (q := 4) C d_Pl_told_1 (by decide) rfl ?_ ?_
  · refine r_sub (lv' := [(0, vA (some a))]) [0] rfl ?_
    exact s_Pl_told_20 C a
  · refine r_iload_n (q := 5) (i := 1) (pl := 1) C d_Pl_told_4 rfl rfl rfl ?_
    refine r_bipush (q := 7) (v := 6) C d_Pl_told_5 rfl (by decide) ?_
    refine r_icmp_ge (tgt := 20) (q := 10) C d_Pl_told_7 (by decide) rfl ?_ ?_
    · refine r_sub (lv' := [(0, vA (some a))]) [0] rfl ?_
      exact s_Pl_told_20 C a
    · refine r_iload_n (q := 11) (i := 2) (pl := 2) C d_Pl_told_10 rfl rfl rfl ?_
      refine r_if_lt (tgt := 20) (q := 14) C d_Pl_told_11 (by decide) rfl ?_ ?_
      · refine r_sub (lv' := [(0, vA (some a))]) [0] rfl ?_
        exact s_Pl_told_20 C a
      · refine r_iload_n (q := 15) (i := 2) (pl := 2) C d_Pl_told_14 rfl rfl rfl ?_
        refine r_bipush (q := 17) (v := 6) C d_Pl_told_15 rfl (by decide) ?_
        refine r_icmp_lt (tgt := 22) (q := 20) C d_Pl_told_17 (by decide) rfl ?_ ?_
        · refine r_iload_n (q := 23) (i := 3) (pl := 3) C d_Pl_told_22 rfl rfl rfl ?_
          refine r_if_ne (tgt := 40) (q := 26) C d_Pl_told_23 (by decide) rfl ?_ ?_
          · refine r_aload_n (q := 41) (i := 0) (pl := 0) C d_Pl_told_40 rfl rfl rfl ?_
            refine r_gR (q := 44) C d_Pl_told_41 rfl F_Pl_31 rfl (fun v3 => ?_)
            refine r_iload_n (q := 45) (i := 1) (pl := 1) C d_Pl_told_44 rfl rfl rfl ?_
            refine r_bipush (q := 47) (v := 6) C d_Pl_told_45 rfl (by decide) ?_
            refine r_imul (q := 48) C d_Pl_told_47 rfl ?_
            refine r_iload_n (q := 49) (i := 2) (pl := 2) C d_Pl_told_48 rfl rfl rfl ?_
            refine r_iadd (q := 50) C d_Pl_told_49 rfl ?_
            refine r_aI (q := 51) C (Or.inl rfl) d_Pl_told_50 rfl (fun v4 => ?_)
            refine r_sub (lv' := [(0, vA (some a)), (1, vI x1)]) [0, 1] rfl ?_
            exact s_Pl_told_51 C a x1 v4
          · refine r_aload_n (q := 27) (i := 0) (pl := 0) C d_Pl_told_26 rfl rfl rfl ?_
            refine r_gR (q := 30) C d_Pl_told_27 rfl F_Pl_28 rfl (fun v5 => ?_)
            refine r_iload_n (q := 31) (i := 1) (pl := 1) C d_Pl_told_30 rfl rfl rfl ?_
            refine r_bipush (q := 33) (v := 6) C d_Pl_told_31 rfl (by decide) ?_
            refine r_imul (q := 34) C d_Pl_told_33 rfl ?_
            refine r_iload_n (q := 35) (i := 2) (pl := 2) C d_Pl_told_34 rfl rfl rfl ?_
            refine r_iadd (q := 36) C d_Pl_told_35 rfl ?_
            refine r_aI (q := 37) C (Or.inl rfl) d_Pl_told_36 rfl (fun v6 => ?_)
            refine r_goto (tgt := 51) C d_Pl_told_37 (by decide) ?_
            refine r_sub (lv' := [(0, vA (some a)), (1, vI x1)]) [0, 1] rfl ?_
            exact s_Pl_told_51 C a x1 v6
        · refine r_sub (lv' := [(0, vA (some a))]) [0] rfl ?_
          exact s_Pl_told_20 C a
