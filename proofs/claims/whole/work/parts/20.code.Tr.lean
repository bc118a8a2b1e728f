theorem d_Tr_init_0 : decode c_Tr_init 0 = .ok (.aload_n 0, 1) := by decide +kernel
theorem d_Tr_init_1 : decode c_Tr_init 1 = .ok (.invokespecial 3, 3) := by decide +kernel
theorem d_Tr_init_4 : decode c_Tr_init 4 = .ok (.aload_n 0, 1) := by decide +kernel
theorem d_Tr_init_5 : decode c_Tr_init 5 = .ok (.bipush 20, 2) := by decide +kernel
theorem d_Tr_init_7 : decode c_Tr_init 7 = .ok (.anewarray 9, 3) := by decide +kernel
theorem d_Tr_init_10 : decode c_Tr_init 10 = .ok (.putfield 11, 3) := by decide +kernel
theorem d_Tr_init_13 : decode c_Tr_init 13 = .ok (.aload_n 0, 1) := by decide +kernel
theorem d_Tr_init_14 : decode c_Tr_init 14 = .ok (.sipush 144, 3) := by decide +kernel
theorem d_Tr_init_17 : decode c_Tr_init 17 = .ok (.anewarray 9, 3) := by decide +kernel
theorem d_Tr_init_20 : decode c_Tr_init 20 = .ok (.putfield 17, 3) := by decide +kernel
theorem d_Tr_init_23 : decode c_Tr_init 23 = .ok (.aload_n 0, 1) := by decide +kernel
theorem d_Tr_init_24 : decode c_Tr_init 24 = .ok (.sipush 144, 3) := by decide +kernel
theorem d_Tr_init_27 : decode c_Tr_init 27 = .ok (.anewarray 20, 3) := by decide +kernel
theorem d_Tr_init_30 : decode c_Tr_init 30 = .ok (.putfield 22, 3) := by decide +kernel
theorem d_Tr_init_33 : decode c_Tr_init 33 = .ok (.aload_n 0, 1) := by decide +kernel
theorem d_Tr_init_34 : decode c_Tr_init 34 = .ok (.sipush 216, 3) := by decide +kernel
theorem d_Tr_init_37 : decode c_Tr_init 37 = .ok (.newarray .boolean, 2) := by decide +kernel
theorem d_Tr_init_39 : decode c_Tr_init 39 = .ok (.putfield 26, 3) := by decide +kernel
theorem d_Tr_init_42 : decode c_Tr_init 42 = .ok (.aload_n 0, 1) := by decide +kernel
theorem d_Tr_init_43 : decode c_Tr_init 43 = .ok (.sipush 216, 3) := by decide +kernel
theorem d_Tr_init_46 : decode c_Tr_init 46 = .ok (.newarray .int, 2) := by decide +kernel
theorem d_Tr_init_48 : decode c_Tr_init 48 = .ok (.putfield 30, 3) := by decide +kernel
theorem d_Tr_init_51 : decode c_Tr_init 51 = .ok (.aload_n 0, 1) := by decide +kernel
theorem d_Tr_init_52 : decode c_Tr_init 52 = .ok (.aload_n 1, 1) := by decide +kernel
theorem d_Tr_init_53 : decode c_Tr_init 53 = .ok (.putfield 34, 3) := by decide +kernel
theorem d_Tr_init_56 : decode c_Tr_init 56 = .ok (.aload_n 0, 1) := by decide +kernel
theorem d_Tr_init_57 : decode c_Tr_init 57 = .ok (.aload_n 2, 1) := by decide +kernel
theorem d_Tr_init_58 : decode c_Tr_init 58 = .ok (.putfield 38, 3) := by decide +kernel
theorem d_Tr_init_61 : decode c_Tr_init 61 = .ok (.return_, 1) := by decide +kernel
def f_Tr_init (a : Nat) (r1 : Option Nat) (r2 : Option Nat) : sn_M := n_A 24 (20 : Int32) fun v1 => p_R 8 2 (some a) v1 (n_A 24 (144 : Int32) fun v2 => p_R 8 3 (some a) v2 (n_A 25 (144 : Int32) fun v3 => p_R 8 4 (some a) v3 (n_A 23 (216 : Int32) fun v4 => p_R 8 5 (some a) v4 (n_A 21 (216 : Int32) fun v5 => p_R 8 6 (some a) v5 (p_R 8 0 (some a) r1 (p_R 8 1 (some a) r2 (r_V)))))))
set_option maxHeartbeats 4000000 in
set_option maxRecDepth 100000 in
theorem mono_Tr_init (a : Nat) (r1 : Option Nat) (r2 : Option Nat) : sn_Mono (f_Tr_init a r1 r2) := sn_Mono.nA (fun v1 => sn_Mono.pR (sn_Mono.nA (fun v2 => sn_Mono.pR (sn_Mono.nA (fun v3 => sn_Mono.pR (sn_Mono.nA (fun v4 => sn_Mono.pR (sn_Mono.nA (fun v5 => sn_Mono.pR (sn_Mono.pR (sn_Mono.pR (sn_Mono.rV))))))))))))
set_option maxHeartbeats 4000000 in
set_option maxRecDepth 100000 in
theorem con_Tr_init (a : Nat) (r1 : Option Nat) (r2 : Option Nat) : sn_Con y_Tr_init c_Tr_init 3 none 1 12 [vA (some a), vA r1, vA r2] (f_Tr_init a r1 r2) := by
  refine sn_Con.of (by decide +kernel) (by show _ ≤ _; exact Nat.le_of_ble_eq_true rfl) (mono_Tr_init a r1 r2) (fun X C => ?_)
  show sn_S X 0 [(0, vA (some a)), (1, vA r1), (2, vA r2)] [] _
  replace C : sn_Cx X c_Tr_init "SignalNetwork$Transfer" none "<init>" 3 1 12 := C
  unfold f_Tr_init
  refine r_aload_n (q := 1) (i := 0) (pl := 0) C d_Tr_init_0 rfl rfl rfl ?_
  refine r_objInit (q := 4) C d_Tr_init_1 rfl LO_Tr_3 W_oi W_oc (by decide) (by decide) a rfl ?_
  refine r_aload_n (q := 5) (i := 0) (pl := 0) C d_Tr_init_4 rfl rfl rfl ?_
  refine r_bipush (q := 7) (v := 20) C d_Tr_init_5 rfl (by decide) ?_
  refine r_anewa (q := 10) (kd := 24) (tyi := 3) C (by decide) (fun _ => rfl) AO_24 C_Tr_9 d_Tr_init_7 rfl (fun v1 => ?_)
  refine r_pR (q := 13) C d_Tr_init_10 rfl F_Tr_11 rfl (Or.inr ⟨_, rfl⟩) (Or.inr ⟨rfl, _, _, rfl⟩) ?_
  refine r_aload_n (q := 14) (i := 0) (pl := 0) C d_Tr_init_13 rfl rfl rfl ?_
  refine r_sipush (q := 17) (v := 144) C d_Tr_init_14 rfl (by decide) ?_
  refine r_anewa (q := 20) (kd := 24) (tyi := 3) C (by decide) (fun _ => rfl) AO_24 C_Tr_9 d_Tr_init_17 rfl (fun v2 => ?_)
  refine r_pR (q := 23) C d_Tr_init_20 rfl F_Tr_17 rfl (Or.inr ⟨_, rfl⟩) (Or.inr ⟨rfl, _, _, rfl⟩) ?_
  refine r_aload_n (q := 24) (i := 0) (pl := 0) C d_Tr_init_23 rfl rfl rfl ?_
  refine r_sipush (q := 27) (v := 144) C d_Tr_init_24 rfl (by decide) ?_
  refine r_anewa (q := 30) (kd := 25) (tyi := 4) C (by decide) (fun _ => rfl) AO_25 C_Tr_20 d_Tr_init_27 rfl (fun v3 => ?_)
  refine r_pR (q := 33) C d_Tr_init_30 rfl F_Tr_22 rfl (Or.inr ⟨_, rfl⟩) (Or.inr ⟨rfl, _, _, rfl⟩) ?_
  refine r_aload_n (q := 34) (i := 0) (pl := 0) C d_Tr_init_33 rfl rfl rfl ?_
  refine r_sipush (q := 37) (v := 216) C d_Tr_init_34 rfl (by decide) ?_
  refine r_newa (q := 39) (aty := .boolean) (kd := 23) (tyi := 2) (ty := .boolean) C (by decide) rfl (fun _ => rfl) (Or.inr (Or.inr ⟨rfl, (Or.inl rfl)⟩)) AC_23 d_Tr_init_37 rfl (fun v4 => ?_)
  refine r_pR (q := 42) C d_Tr_init_39 rfl F_Tr_26 rfl (Or.inr ⟨_, rfl⟩) (Or.inr ⟨rfl, _, _, rfl⟩) ?_
  refine r_aload_n (q := 43) (i := 0) (pl := 0) C d_Tr_init_42 rfl rfl rfl ?_
  refine r_sipush (q := 46) (v := 216) C d_Tr_init_43 rfl (by decide) ?_
  refine r_newa (q := 48) (aty := .int) (kd := 21) (tyi := 0) (ty := .int) C (by decide) rfl (fun _ => rfl) (Or.inl ⟨rfl, (Or.inl rfl)⟩) AC_21 d_Tr_init_46 rfl (fun v5 => ?_)
  refine r_pR (q := 51) C d_Tr_init_48 rfl F_Tr_30 rfl (Or.inr ⟨_, rfl⟩) (Or.inr ⟨rfl, _, _, rfl⟩) ?_
  refine r_aload_n (q := 52) (i := 0) (pl := 0) C d_Tr_init_51 rfl rfl rfl ?_
  refine r_aload_n (q := 53) (i := 1) (pl := 1) C d_Tr_init_52 rfl rfl rfl ?_
  refine r_pR (q := 56) C d_Tr_init_53 rfl F_Tr_34 rfl (Or.inl ⟨_, rfl⟩) (Or.inr ⟨rfl, _, _, rfl⟩) ?_
  refine r_aload_n (q := 57) (i := 0) (pl := 0) C d_Tr_init_56 rfl rfl rfl ?_
  refine r_aload_n (q := 58) (i := 2) (pl := 2) C d_Tr_init_57 rfl rfl rfl ?_
  refine r_pR (q := 61) C d_Tr_init_58 rfl F_Tr_38 rfl (Or.inl ⟨_, rfl⟩) (Or.inr ⟨rfl, _, _, rfl⟩) ?_
  exact r_vret C d_Tr_init_61 rfl
theorem d_Tr_addEnd_0 : decode c_Tr_addEnd 0 = .ok (.iload_n 2, 1) := by decide +kernel
theorem d_Tr_addEnd_1 : decode c_Tr_addEnd 1 = .ok (.bipush 6, 2) := by decide +kernel
theorem d_Tr_addEnd_3 : decode c_Tr_addEnd 3 = .ok (.imul, 1) := by decide +kernel
theorem d_Tr_addEnd_4 : decode c_Tr_addEnd 4 = .ok (.iload_n 3, 1) := by decide +kernel
theorem d_Tr_addEnd_5 : decode c_Tr_addEnd 5 = .ok (.iadd, 1) := by decide +kernel
theorem d_Tr_addEnd_6 : decode c_Tr_addEnd 6 = .ok (.istore 4, 2) := by decide +kernel
theorem d_Tr_addEnd_8 : decode c_Tr_addEnd 8 = .ok (.new 9, 3) := by decide +kernel
theorem d_Tr_addEnd_11 : decode c_Tr_addEnd 11 = .ok (.dup, 1) := by decide +kernel
theorem d_Tr_addEnd_12 : decode c_Tr_addEnd 12 = .ok (.iload_n 1, 1) := by decide +kernel
theorem d_Tr_addEnd_13 : decode c_Tr_addEnd 13 = .ok (.iconst 2, 1) := by decide +kernel
theorem d_Tr_addEnd_14 : decode c_Tr_addEnd 14 = .ok (.idiv, 1) := by decide +kernel
theorem d_Tr_addEnd_15 : decode c_Tr_addEnd 15 = .ok (.iload_n 2, 1) := by decide +kernel
theorem d_Tr_addEnd_16 : decode c_Tr_addEnd 16 = .ok (.iload_n 3, 1) := by decide +kernel
theorem d_Tr_addEnd_17 : decode c_Tr_addEnd 17 = .ok (.aload_n 0, 1) := by decide +kernel
theorem d_Tr_addEnd_18 : decode c_Tr_addEnd 18 = .ok (.getfield 38, 3) := by decide +kernel
theorem d_Tr_addEnd_21 : decode c_Tr_addEnd 21 = .ok (.invokespecial 58, 3) := by decide +kernel
theorem d_Tr_addEnd_24 : decode c_Tr_addEnd 24 = .ok (.astore 5, 2) := by decide +kernel
theorem d_Tr_addEnd_26 : decode c_Tr_addEnd 26 = .ok (.aload_n 0, 1) := by decide +kernel
theorem d_Tr_addEnd_27 : decode c_Tr_addEnd 27 = .ok (.getfield 11, 3) := by decide +kernel
theorem d_Tr_addEnd_30 : decode c_Tr_addEnd 30 = .ok (.iload_n 1, 1) := by decide +kernel
theorem d_Tr_addEnd_31 : decode c_Tr_addEnd 31 = .ok (.aload 5, 2) := by decide +kernel
theorem d_Tr_addEnd_33 : decode c_Tr_addEnd 33 = .ok (.aastore, 1) := by decide +kernel
theorem d_Tr_addEnd_34 : decode c_Tr_addEnd 34 = .ok (.aload_n 0, 1) := by decide +kernel
theorem d_Tr_addEnd_35 : decode c_Tr_addEnd 35 = .ok (.getfield 17, 3) := by decide +kernel
theorem d_Tr_addEnd_38 : decode c_Tr_addEnd 38 = .ok (.iload 4, 2) := by decide +kernel
theorem d_Tr_addEnd_40 : decode c_Tr_addEnd 40 = .ok (.iconst 4, 1) := by decide +kernel
theorem d_Tr_addEnd_41 : decode c_Tr_addEnd 41 = .ok (.imul, 1) := by decide +kernel
theorem d_Tr_addEnd_42 : decode c_Tr_addEnd 42 = .ok (.aload_n 0, 1) := by decide +kernel
theorem d_Tr_addEnd_43 : decode c_Tr_addEnd 43 = .ok (.getfield 34, 3) := by decide +kernel
theorem d_Tr_addEnd_46 : decode c_Tr_addEnd 46 = .ok (.iload_n 2, 1) := by decide +kernel
theorem d_Tr_addEnd_47 : decode c_Tr_addEnd 47 = .ok (.iload_n 3, 1) := by decide +kernel
theorem d_Tr_addEnd_48 : decode c_Tr_addEnd 48 = .ok (.invokevirtual 61, 3) := by decide +kernel
theorem d_Tr_addEnd_51 : decode c_Tr_addEnd 51 = .ok (.iadd, 1) := by decide +kernel
theorem d_Tr_addEnd_52 : decode c_Tr_addEnd 52 = .ok (.iconst 1, 1) := by decide +kernel
theorem d_Tr_addEnd_53 : decode c_Tr_addEnd 53 = .ok (.isub, 1) := by decide +kernel
theorem d_Tr_addEnd_54 : decode c_Tr_addEnd 54 = .ok (.aload 5, 2) := by decide +kernel
theorem d_Tr_addEnd_56 : decode c_Tr_addEnd 56 = .ok (.aastore, 1) := by decide +kernel
theorem d_Tr_addEnd_57 : decode c_Tr_addEnd 57 = .ok (.iconst 0, 1) := by decide +kernel
theorem d_Tr_addEnd_58 : decode c_Tr_addEnd 58 = .ok (.istore 6, 2) := by decide +kernel
theorem d_Tr_addEnd_60 : decode c_Tr_addEnd 60 = .ok (.iload 6, 2) := by decide +kernel
theorem d_Tr_addEnd_62 : decode c_Tr_addEnd 62 = .ok (.iconst 4, 1) := by decide +kernel
theorem d_Tr_addEnd_63 : decode c_Tr_addEnd 63 = .ok (.if_icmp .ge 44, 3) := by decide +kernel
theorem d_Tr_addEnd_66 : decode c_Tr_addEnd 66 = .ok (.aload_n 0, 1) := by decide +kernel
theorem d_Tr_addEnd_67 : decode c_Tr_addEnd 67 = .ok (.getfield 22, 3) := by decide +kernel
theorem d_Tr_addEnd_70 : decode c_Tr_addEnd 70 = .ok (.iload 4, 2) := by decide +kernel
theorem d_Tr_addEnd_72 : decode c_Tr_addEnd 72 = .ok (.iconst 4, 1) := by decide +kernel
theorem d_Tr_addEnd_73 : decode c_Tr_addEnd 73 = .ok (.imul, 1) := by decide +kernel
theorem d_Tr_addEnd_74 : decode c_Tr_addEnd 74 = .ok (.iload 6, 2) := by decide +kernel
theorem d_Tr_addEnd_76 : decode c_Tr_addEnd 76 = .ok (.iadd, 1) := by decide +kernel
theorem d_Tr_addEnd_77 : decode c_Tr_addEnd 77 = .ok (.aaload, 1) := by decide +kernel
theorem d_Tr_addEnd_78 : decode c_Tr_addEnd 78 = .ok (.ifnonnull 23, 3) := by decide +kernel
theorem d_Tr_addEnd_81 : decode c_Tr_addEnd 81 = .ok (.aload_n 0, 1) := by decide +kernel
theorem d_Tr_addEnd_82 : decode c_Tr_addEnd 82 = .ok (.getfield 22, 3) := by decide +kernel
theorem d_Tr_addEnd_85 : decode c_Tr_addEnd 85 = .ok (.iload 4, 2) := by decide +kernel
theorem d_Tr_addEnd_87 : decode c_Tr_addEnd 87 = .ok (.iconst 4, 1) := by decide +kernel
theorem d_Tr_addEnd_88 : decode c_Tr_addEnd 88 = .ok (.imul, 1) := by decide +kernel
theorem d_Tr_addEnd_89 : decode c_Tr_addEnd 89 = .ok (.iload 6, 2) := by decide +kernel
theorem d_Tr_addEnd_91 : decode c_Tr_addEnd 91 = .ok (.iadd, 1) := by decide +kernel
theorem d_Tr_addEnd_92 : decode c_Tr_addEnd 92 = .ok (.new 20, 3) := by decide +kernel
theorem d_Tr_addEnd_95 : decode c_Tr_addEnd 95 = .ok (.dup, 1) := by decide +kernel
theorem d_Tr_addEnd_96 : decode c_Tr_addEnd 96 = .ok (.iload_n 3, 1) := by decide +kernel
theorem d_Tr_addEnd_97 : decode c_Tr_addEnd 97 = .ok (.invokespecial 65, 3) := by decide +kernel
theorem d_Tr_addEnd_100 : decode c_Tr_addEnd 100 = .ok (.aastore, 1) := by decide +kernel
theorem d_Tr_addEnd_101 : decode c_Tr_addEnd 101 = .ok (.iinc 6 1, 3) := by decide +kernel
theorem d_Tr_addEnd_104 : decode c_Tr_addEnd 104 = .ok (.goto (-44), 3) := by decide +kernel
theorem d_Tr_addEnd_107 : decode c_Tr_addEnd 107 = .ok (.return_, 1) := by decide +kernel
def f_Tr_addEnd_101 (k60 : Int32 → Int32 → Int32 → sn_M) (a : Nat) (x3 : Int32) (x4 : Int32) (x6 : Int32) : sn_M := k60 x3 x4 (x6 + (1 : Int32))
set_option maxHeartbeats 4000000 in
set_option maxRecDepth 100000 in
theorem mono_Tr_addEnd_101 (k60 : Int32 → Int32 → Int32 → sn_M) (mk60 : ∀ (x3 : Int32) (x4 : Int32) (x6 : Int32), sn_Mono (k60 x3 x4 x6)) (a : Nat) (x3 : Int32) (x4 : Int32) (x6 : Int32) : sn_Mono (f_Tr_addEnd_101 k60 a x3 x4 x6) := mk60 x3 x4 (x6 + (1 : Int32))
set_option maxHeartbeats 4000000 in
set_option maxRecDepth 100000 in
theorem s_Tr_addEnd_101 {X : sn_X} (C : sn_Cx X c_Tr_addEnd "SignalNetwork$Transfer" none "addEnd" 7 4 87) (a : Nat) (k60 : Int32 → Int32 → Int32 → sn_M) (hk60 : ∀ (x3 : Int32) (x4 : Int32) (x6 : Int32), sn_S X 60 [(0, vA (some a)), (3, vI x3), (4, vI x4), (6, vI x6)] [] (k60 x3 x4 x6)) (x3 : Int32) (x4 : Int32) (x6 : Int32) : sn_S X 101 [(0, vA (some a)), (3, vI x3), (4, vI x4), (6, vI x6)] [] (f_Tr_addEnd_101 k60 a x3 x4 x6) := by
  unfold f_Tr_addEnd_101
  refine r_iinc (q := 104) (pl := 3) (v := x6 + (1 : Int32)) (lv' := [(6, vI (x6 + (1 : Int32))), (0, vA (some a)), (3, vI x3), (4, vI x4)]) C d_Tr_addEnd_101 rfl rfl rfl (by decide) rfl ?_
  refine r_goto (tgt := 60) C d_Tr_addEnd_104 (by decide) ?_
  refine r_sub (lv' := [(0, vA (some a)), (3, vI x3), (4, vI x4), (6, vI (x6 + (1 : Int32)))]) [1, 2, 3, 0] rfl ?_
  exact hk60 x3 x4 (x6 + (1 : Int32))
def f_Tr_addEnd_60 (a : Nat) : Nat → Int32 → Int32 → Int32 → sn_M
  | 0, _, _, _ => r_0
  | n + 1, x3, x4, x6 => (if (4 : Int32) ≤ x6 then r_V else g_R 8 4 (some a) fun v1 => a_R 25 v1 ((x4 * (4 : Int32)) + x6) fun v2 => (if ¬ v2 = none then f_Tr_addEnd_101 (f_Tr_addEnd_60 a n) a x3 x4 x6 else g_R 8 4 (some a) fun v3 => n_O 3 7 fun v4 => n_n 3 v4 fun o5 => c_V (f_Fl_init o5 x3) (b_R 25 3 v3 ((x4 * (4 : Int32)) + x6) v4 (f_Tr_addEnd_101 (f_Tr_addEnd_60 a n) a x3 x4 x6))))
set_option maxHeartbeats 4000000 in
set_option maxRecDepth 100000 in
theorem mono_Tr_addEnd_60 (a : Nat) : ∀ (n : Nat) (x3 : Int32) (x4 : Int32) (x6 : Int32), sn_Mono (f_Tr_addEnd_60 a n x3 x4 x6)
  | 0, _, _, _ => sn_Mono.r0
  | n + 1, x3, x4, x6 => sn_Mono.ite (sn_Mono.rV) (sn_Mono.gR (fun v1 => sn_Mono.aR (fun v2 => sn_Mono.ite (mono_Tr_addEnd_101 (f_Tr_addEnd_60 a n) (mono_Tr_addEnd_60 a n) a x3 x4 x6) (sn_Mono.gR (fun v3 => sn_Mono.nO (fun v4 => sn_Mono.nn (fun o5 => sn_Mono.cV (mono_Fl_init o5 x3) (sn_Mono.bR (mono_Tr_addEnd_101 (f_Tr_addEnd_60 a n) (mono_Tr_addEnd_60 a n) a x3 x4 x6)))))))))
set_option maxHeartbeats 4000000 in
set_option maxRecDepth 100000 in
theorem s_Tr_addEnd_60 {X : sn_X} (C : sn_Cx X c_Tr_addEnd "SignalNetwork$Transfer" none "addEnd" 7 4 87) (a : Nat) (n : Nat) : ∀ (x3 : Int32) (x4 : Int32) (x6 : Int32), sn_S X 60 [(0, vA (some a)), (3, vI x3), (4, vI x4), (6, vI x6)] [] (f_Tr_addEnd_60 a n x3 x4 x6) := by
  induction n with
  | zero => intro x3 x4 x6; exact sn_S.zero
  | succ n ih =>
    intro x3 x4 x6
    unfold f_Tr_addEnd_60
    refine r_iload (q := 62) (i := 6) (pl := 3) C d_Tr_addEnd_60 rfl rfl ?_
    refine r_iconst (q := 63) (v := 4) C d_Tr_addEnd_62 rfl (by decide) ?_
    refine r_icmp_ge (tgt := 107) (q := 66) C d_Tr_addEnd_63 (by decide) rfl ?_ ?_
    · exact r_vret C d_Tr_addEnd_107 rfl
    · refine r_aload_n (q := 67) (i := 0) (pl := 0) C d_Tr_addEnd_66 rfl rfl rfl ?_
      refine r_gR (q := 70) C d_Tr_addEnd_67 rfl F_Tr_22 rfl (fun v1 => ?_)
      refine r_iload (q := 72) (i := 4) (pl := 2) C d_Tr_addEnd_70 rfl rfl ?_
      refine r_iconst (q := 73) (v := 4) C d_Tr_addEnd_72 rfl (by decide) ?_
      refine r_imul (q := 74) C d_Tr_addEnd_73 rfl ?_
      refine r_iload (q := 76) (i := 6) (pl := 3) C d_Tr_addEnd_74 rfl rfl ?_
      refine r_iadd (q := 77) C d_Tr_addEnd_76 rfl ?_
      refine r_aR (q := 78) (kd := 25) (tyi := 4) C (by decide) (fun _ => rfl) d_Tr_addEnd_77 rfl (fun v2 => ?_)
      refine r_ifnonnull (tgt := 101) (q := 81) C d_Tr_addEnd_78 (by decide) rfl ?_ ?_
      · exact s_Tr_addEnd_101 C a (f_Tr_addEnd_60 a n) ih x3 x4 x6
      · refine r_aload_n (q := 82) (i := 0) (pl := 0) C d_Tr_addEnd_81 rfl rfl rfl ?_
        refine r_gR (q := 85) C d_Tr_addEnd_82 rfl F_Tr_22 rfl (fun v3 => ?_)
        refine r_iload (q := 87) (i := 4) (pl := 2) C d_Tr_addEnd_85 rfl rfl ?_
        refine r_iconst (q := 88) (v := 4) C d_Tr_addEnd_87 rfl (by decide) ?_
        refine r_imul (q := 89) C d_Tr_addEnd_88 rfl ?_
        refine r_iload (q := 91) (i := 6) (pl := 3) C d_Tr_addEnd_89 rfl rfl ?_
        refine r_iadd (q := 92) C d_Tr_addEnd_91 rfl ?_
        refine r_new (q := 95) C d_Tr_addEnd_92 rfl CF2 C_Tr_20 In_Fl Ii_Fl (fun v4 => ?_)
        refine r_dup (q := 96) C d_Tr_addEnd_95 rfl rfl ?_
        refine r_iload_n (q := 97) (i := 3) (pl := 1) C d_Tr_addEnd_96 rfl rfl rfl ?_
        refine r_ciV (q := 100) (As := [vI x3]) (st := [vA v4, vI ((x4 * (4 : Int32)) + x6), vA v3]) (cy := 2) C d_Tr_addEnd_97 rfl Y_Fl_init L_Tr_65 I_Fl_init rfl rfl rfl (Nat.le_of_ble_eq_true rfl) (Nat.le_of_ble_eq_true rfl) (Nat.le_of_ble_eq_true rfl) rfl (fun o5 => con_Fl_init o5 x3) ?_
        refine r_bR (q := 101) (kd := 25) (tyi := 4) (c1 := 2) C (by decide) (fun _ => rfl) rfl (by decide) d_Tr_addEnd_100 rfl ?_
        exact s_Tr_addEnd_101 C a (f_Tr_addEnd_60 a n) ih x3 x4 x6
def f_Tr_addEnd (a : Nat) (x1 : Int32) (x2 : Int32) (x3 : Int32) : sn_M := n_I (((x2 * (6 : Int32)) + x3)) fun n6 => n_O 2 19 fun v7 => g_R 8 1 (some a) fun v8 => n_n 2 v7 fun o9 => c_V (f_En_init o9 (x1 / (2 : Int32)) x2 x3 v8) (g_R 8 2 (some a) fun v10 => b_R 24 2 v10 x1 v7 (g_R 8 3 (some a) fun v11 => g_R 8 0 (some a) fun v12 => n_n 5 v12 fun a13 => c_I (f_Pl_setSize a13 x2 x3) fun v14 => b_R 24 2 v11 (((n6 * (4 : Int32)) + v14) - (1 : Int32)) v7 (f_Tr_addEnd_60 a sn_fuel x3 n6 (0 : Int32))))
set_option maxHeartbeats 4000000 in
set_option maxRecDepth 100000 in
theorem mono_Tr_addEnd (a : Nat) (x1 : Int32) (x2 : Int32) (x3 : Int32) : sn_Mono (f_Tr_addEnd a x1 x2 x3) := sn_Mono.nI (fun n6 => sn_Mono.nO (fun v7 => sn_Mono.gR (fun v8 => sn_Mono.nn (fun o9 => sn_Mono.cV (mono_En_init o9 (x1 / (2 : Int32)) x2 x3 v8) (sn_Mono.gR (fun v10 => sn_Mono.bR (sn_Mono.gR (fun v11 => sn_Mono.gR (fun v12 => sn_Mono.nn (fun a13 => sn_Mono.cI (mono_Pl_setSize a13 x2 x3) (fun v14 => sn_Mono.bR (mono_Tr_addEnd_60 a sn_fuel x3 n6 (0 : Int32)))))))))))))
set_option maxHeartbeats 4000000 in
set_option maxRecDepth 100000 in
theorem con_Tr_addEnd (a : Nat) (x1 : Int32) (x2 : Int32) (x3 : Int32) : sn_Con y_Tr_addEnd c_Tr_addEnd 7 none 4 87 [vA (some a), vI x1, vI x2, vI x3] (f_Tr_addEnd a x1 x2 x3) := by
  refine sn_Con.of (by decide +kernel) (by show _ ≤ _; exact Nat.le_of_ble_eq_true rfl) (mono_Tr_addEnd a x1 x2 x3) (fun X C => ?_)
  show sn_S X 0 [(0, vA (some a)), (1, vI x1), (2, vI x2), (3, vI x3)] [] _
  replace C : sn_Cx X c_Tr_addEnd "SignalNetwork$Transfer" none "addEnd" 7 4 87 := C
  unfold f_Tr_addEnd
  refine r_iload_n (q := 1) (i := 2) (pl := 2) C d_Tr_addEnd_0 rfl rfl rfl ?_
  refine r_bipush (q := 3) (v := 6) C d_Tr_addEnd_1 rfl (by decide) ?_
  refine r_imul (q := 4) C d_Tr_addEnd_3 rfl ?_
  refine r_iload_n (q := 5) (i := 3) (pl := 3) C d_Tr_addEnd_4 rfl rfl rfl ?_
  refine r_iadd (q := 6) C d_Tr_addEnd_5 rfl ?_
  refine r_nI (fun n6 => ?_)
  refine r_istore (q := 8) (i := 4) (lv' := [(4, vI n6), (0, vA (some a)), (1, vI x1), (2, vI x2), (3, vI x3)]) C d_Tr_addEnd_6 rfl (by decide) rfl ?_
  refine r_new (q := 11) C d_Tr_addEnd_8 rfl CF1 C_Tr_9 In_En Ii_En (fun v7 => ?_)
  refine r_dup (q := 12) C d_Tr_addEnd_11 rfl rfl ?_
  refine r_iload_n (q := 13) (i := 1) (pl := 2) C d_Tr_addEnd_12 rfl rfl rfl ?_
  refine r_iconst (q := 14) (v := 2) C d_Tr_addEnd_13 rfl (by decide) ?_
  refine r_idivc (q := 15) C d_Tr_addEnd_14 rfl (by decide) ?_
  refine r_iload_n (q := 16) (i := 2) (pl := 3) C d_Tr_addEnd_15 rfl rfl rfl ?_
  refine r_iload_n (q := 17) (i := 3) (pl := 4) C d_Tr_addEnd_16 rfl rfl rfl ?_
  refine r_aload_n (q := 18) (i := 0) (pl := 1) C d_Tr_addEnd_17 rfl rfl rfl ?_
  refine r_gR (q := 21) C d_Tr_addEnd_18 rfl F_Tr_38 rfl (fun v8 => ?_)
  refine r_ciV (q := 24) (As := [vI (x1 / (2 : Int32)), vI x2, vI x3, vA v8]) (st := [vA v7]) (cy := 1) C d_Tr_addEnd_21 rfl Y_En_init L_Tr_58 I_En_init rfl rfl rfl (Nat.le_of_ble_eq_true rfl) (Nat.le_of_ble_eq_true rfl) (Nat.le_of_ble_eq_true rfl) rfl (fun o9 => con_En_init o9 (x1 / (2 : Int32)) x2 x3 v8) ?_
  refine r_astore (q := 26) (i := 5) (lv' := [(5, vA v7), (4, vI n6), (0, vA (some a)), (1, vI x1), (2, vI x2), (3, vI x3)]) C d_Tr_addEnd_24 rfl (by decide) rfl ?_
  refine r_aload_n (q := 27) (i := 0) (pl := 2) C d_Tr_addEnd_26 rfl rfl rfl ?_
  refine r_gR (q := 30) C d_Tr_addEnd_27 rfl F_Tr_11 rfl (fun v10 => ?_)
  refine r_iload_n (q := 31) (i := 1) (pl := 3) C d_Tr_addEnd_30 rfl rfl rfl ?_
  refine r_aload (q := 33) (i := 5) (pl := 0) C d_Tr_addEnd_31 rfl rfl ?_
  refine r_bR (q := 34) (kd := 24) (tyi := 3) (c1 := 1) C (by decide) (fun _ => rfl) rfl (by decide) d_Tr_addEnd_33 rfl ?_
  refine r_aload_n (q := 35) (i := 0) (pl := 2) C d_Tr_addEnd_34 rfl rfl rfl ?_
  refine r_gR (q := 38) C d_Tr_addEnd_35 rfl F_Tr_17 rfl (fun v11 => ?_)
  refine r_iload (q := 40) (i := 4) (pl := 1) C d_Tr_addEnd_38 rfl rfl ?_
  refine r_iconst (q := 41) (v := 4) C d_Tr_addEnd_40 rfl (by decide) ?_
  refine r_imul (q := 42) C d_Tr_addEnd_41 rfl ?_
  refine r_aload_n (q := 43) (i := 0) (pl := 2) C d_Tr_addEnd_42 rfl rfl rfl ?_
  refine r_gR (q := 46) C d_Tr_addEnd_43 rfl F_Tr_34 rfl (fun v12 => ?_)
  refine r_iload_n (q := 47) (i := 2) (pl := 4) C d_Tr_addEnd_46 rfl rfl rfl ?_
  refine r_iload_n (q := 48) (i := 3) (pl := 5) C d_Tr_addEnd_47 rfl rfl rfl ?_
  refine r_cvI (q := 51) (As := [vI x2, vI x3]) (st := [vI (n6 * (4 : Int32)), vA v11]) (cy := 4) C d_Tr_addEnd_48 rfl Y_Pl_setSize L_Tr_61 I_Pl_setSize Se_Pl_setSize rfl (by decide) rfl (Nat.le_of_ble_eq_true rfl) (Nat.le_of_ble_eq_true rfl) (Nat.le_of_ble_eq_true rfl) rfl (fun a13 => con_Pl_setSize a13 x2 x3) (fun v14 => ?_)
  refine r_iadd (q := 52) C d_Tr_addEnd_51 rfl ?_
  refine r_iconst (q := 53) (v := 1) C d_Tr_addEnd_52 rfl (by decide) ?_
  refine r_isub (q := 54) C d_Tr_addEnd_53 rfl ?_
  refine r_aload (q := 56) (i := 5) (pl := 0) C d_Tr_addEnd_54 rfl rfl ?_
  refine r_bR (q := 57) (kd := 24) (tyi := 3) (c1 := 1) C (by decide) (fun _ => rfl) rfl (by decide) d_Tr_addEnd_56 rfl ?_
  refine r_iconst (q := 58) (v := 0) C d_Tr_addEnd_57 rfl (by decide) ?_
  refine r_istore (q := 60) (i := 6) (lv' := [(6, vI (0 : Int32)), (5, vA v7), (4, vI n6), (0, vA (some a)), (1, vI x1), (2, vI x2), (3, vI x3)]) C d_Tr_addEnd_58 rfl (by decide) rfl ?_
  refine r_sub (lv' := [(0, vA (some a)), (3, vI x3), (4, vI n6), (6, vI (0 : Int32))]) [3, 6, 2, 0] rfl ?_
  exact s_Tr_addEnd_60 C a sn_fuel x3 n6 (0 : Int32)
theorem d_Tr_addEnds_0 : decode c_Tr_addEnds 0 = .ok (.aload_n 0, 1) := by decide +kernel
theorem d_Tr_addEnds_1 : decode c_Tr_addEnds 1 = .ok (.getfield 34, 3) := by decide +kernel
theorem d_Tr_addEnds_4 : decode c_Tr_addEnds 4 = .ok (.iload_n 1, 1) := by decide +kernel
theorem d_Tr_addEnds_5 : decode c_Tr_addEnds 5 = .ok (.invokevirtual 42, 3) := by decide +kernel
theorem d_Tr_addEnds_8 : decode c_Tr_addEnds 8 = .ok (.ifCond .eq 55, 3) := by decide +kernel
theorem d_Tr_addEnds_11 : decode c_Tr_addEnds 11 = .ok (.aload_n 0, 1) := by decide +kernel
theorem d_Tr_addEnds_12 : decode c_Tr_addEnds 12 = .ok (.iconst 2, 1) := by decide +kernel
theorem d_Tr_addEnds_13 : decode c_Tr_addEnds 13 = .ok (.iload_n 1, 1) := by decide +kernel
theorem d_Tr_addEnds_14 : decode c_Tr_addEnds 14 = .ok (.imul, 1) := by decide +kernel
theorem d_Tr_addEnds_15 : decode c_Tr_addEnds 15 = .ok (.aload_n 0, 1) := by decide +kernel
theorem d_Tr_addEnds_16 : decode c_Tr_addEnds 16 = .ok (.getfield 34, 3) := by decide +kernel
theorem d_Tr_addEnds_19 : decode c_Tr_addEnds 19 = .ok (.getfield 48, 3) := by decide +kernel
theorem d_Tr_addEnds_22 : decode c_Tr_addEnds 22 = .ok (.iload_n 1, 1) := by decide +kernel
theorem d_Tr_addEnds_23 : decode c_Tr_addEnds 23 = .ok (.iaload, 1) := by decide +kernel
theorem d_Tr_addEnds_24 : decode c_Tr_addEnds 24 = .ok (.aload_n 0, 1) := by decide +kernel
theorem d_Tr_addEnds_25 : decode c_Tr_addEnds 25 = .ok (.getfield 34, 3) := by decide +kernel
theorem d_Tr_addEnds_28 : decode c_Tr_addEnds 28 = .ok (.getfield 51, 3) := by decide +kernel
theorem d_Tr_addEnds_31 : decode c_Tr_addEnds 31 = .ok (.iload_n 1, 1) := by decide +kernel
theorem d_Tr_addEnds_32 : decode c_Tr_addEnds 32 = .ok (.iaload, 1) := by decide +kernel
theorem d_Tr_addEnds_33 : decode c_Tr_addEnds 33 = .ok (.invokevirtual 54, 3) := by decide +kernel
theorem d_Tr_addEnds_36 : decode c_Tr_addEnds 36 = .ok (.aload_n 0, 1) := by decide +kernel
theorem d_Tr_addEnds_37 : decode c_Tr_addEnds 37 = .ok (.iconst 2, 1) := by decide +kernel
theorem d_Tr_addEnds_38 : decode c_Tr_addEnds 38 = .ok (.iload_n 1, 1) := by decide +kernel
theorem d_Tr_addEnds_39 : decode c_Tr_addEnds 39 = .ok (.imul, 1) := by decide +kernel
theorem d_Tr_addEnds_40 : decode c_Tr_addEnds 40 = .ok (.iconst 1, 1) := by decide +kernel
theorem d_Tr_addEnds_41 : decode c_Tr_addEnds 41 = .ok (.iadd, 1) := by decide +kernel
theorem d_Tr_addEnds_42 : decode c_Tr_addEnds 42 = .ok (.aload_n 0, 1) := by decide +kernel
theorem d_Tr_addEnds_43 : decode c_Tr_addEnds 43 = .ok (.getfield 34, 3) := by decide +kernel
theorem d_Tr_addEnds_46 : decode c_Tr_addEnds 46 = .ok (.getfield 51, 3) := by decide +kernel
theorem d_Tr_addEnds_49 : decode c_Tr_addEnds 49 = .ok (.iload_n 1, 1) := by decide +kernel
theorem d_Tr_addEnds_50 : decode c_Tr_addEnds 50 = .ok (.iaload, 1) := by decide +kernel
theorem d_Tr_addEnds_51 : decode c_Tr_addEnds 51 = .ok (.aload_n 0, 1) := by decide +kernel
theorem d_Tr_addEnds_52 : decode c_Tr_addEnds 52 = .ok (.getfield 34, 3) := by decide +kernel
theorem d_Tr_addEnds_55 : decode c_Tr_addEnds 55 = .ok (.getfield 48, 3) := by decide +kernel
theorem d_Tr_addEnds_58 : decode c_Tr_addEnds 58 = .ok (.iload_n 1, 1) := by decide +kernel
theorem d_Tr_addEnds_59 : decode c_Tr_addEnds 59 = .ok (.iaload, 1) := by decide +kernel
theorem d_Tr_addEnds_60 : decode c_Tr_addEnds 60 = .ok (.invokevirtual 54, 3) := by decide +kernel
theorem d_Tr_addEnds_63 : decode c_Tr_addEnds 63 = .ok (.return_, 1) := by decide +kernel
def f_Tr_addEnds_63 (a : Nat) : sn_M := r_V
set_option maxHeartbeats 4000000 in
set_option maxRecDepth 100000 in
theorem mono_Tr_addEnds_63 (a : Nat) : sn_Mono (f_Tr_addEnds_63 a) := sn_Mono.rV
set_option maxHeartbeats 4000000 in
set_option maxRecDepth 100000 in
theorem s_Tr_addEnds_63 {X : sn_X} (C : sn_Cx X c_Tr_addEnds "SignalNetwork$Transfer" none "addEnds" 2 5 113) (a : Nat) : sn_S X 63 [(0, vA (some a))] [] (f_Tr_addEnds_63 a) := by
  unfold f_Tr_addEnds_63
  exact r_vret C d_Tr_addEnds_63 rfl
def f_Tr_addEnds (a : Nat) (x1 : Int32) : sn_M := g_R 8 0 (some a) fun v1 => n_n 5 v1 fun a2 => c_I (f_Pl_isLink a2 x1) fun v3 => (if v3 = 0 then f_Tr_addEnds_63 a else g_R 8 0 (some a) fun v4 => g_R 5 1 v4 fun v5 => a_I 21 v5 x1 fun v6 => g_R 8 0 (some a) fun v7 => g_R 5 2 v7 fun v8 => a_I 21 v8 x1 fun v9 => n_n 8 (some a) fun a10 => c_V (f_Tr_addEnd a10 ((2 : Int32) * x1) v6 v9) (g_R 8 0 (some a) fun v12 => g_R 5 2 v12 fun v13 => a_I 21 v13 x1 fun v14 => g_R 8 0 (some a) fun v15 => g_R 5 1 v15 fun v16 => a_I 21 v16 x1 fun v17 => n_n 8 (some a) fun a18 => c_V (f_Tr_addEnd a18 (((2 : Int32) * x1) + (1 : Int32)) v14 v17) (f_Tr_addEnds_63 a)))
set_option maxHeartbeats 4000000 in
set_option maxRecDepth 100000 in
theorem mono_Tr_addEnds (a : Nat) (x1 : Int32) : sn_Mono (f_Tr_addEnds a x1) := sn_Mono.gR (fun v1 => sn_Mono.nn (fun a2 => sn_Mono.cI (mono_Pl_isLink a2 x1) (fun v3 => sn_Mono.ite (mono_Tr_addEnds_63 a) (sn_Mono.gR (fun v4 => sn_Mono.gR (fun v5 => sn_Mono.aI (fun v6 => sn_Mono.gR (fun v7 => sn_Mono.gR (fun v8 => sn_Mono.aI (fun v9 => sn_Mono.nn (fun a10 => sn_Mono.cV (mono_Tr_addEnd a10 ((2 : Int32) * x1) v6 v9) (sn_Mono.gR (fun v12 => sn_Mono.gR (fun v13 => sn_Mono.aI (fun v14 => sn_Mono.gR (fun v15 => sn_Mono.gR (fun v16 => sn_Mono.aI (fun v17 => sn_Mono.nn (fun a18 => sn_Mono.cV (mono_Tr_addEnd a18 (((2 : Int32) * x1) + (1 : Int32)) v14 v17) (mono_Tr_addEnds_63 a))))))))))))))))))))
set_option maxHeartbeats 4000000 in
set_option maxRecDepth 100000 in
theorem con_Tr_addEnds (a : Nat) (x1 : Int32) : sn_Con y_Tr_addEnds c_Tr_addEnds 2 none 5 113 [vA (some a), vI x1] (f_Tr_addEnds a x1) := by
  refine sn_Con.of (by decide +kernel) (by show _ ≤ _; exact Nat.le_of_ble_eq_true rfl) (mono_Tr_addEnds a x1) (fun X C => ?_)
  show sn_S X 0 [(0, vA (some a)), (1, vI x1)] [] _
  replace C : sn_Cx X c_Tr_addEnds "SignalNetwork$Transfer" none "addEnds" 2 5 113 := C
  unfold f_Tr_addEnds
  refine r_aload_n (q := 1) (i := 0) (pl := 0) C d_Tr_addEnds_0 rfl rfl rfl ?_
  refine r_gR (q := 4) C d_Tr_addEnds_1 rfl F_Tr_34 rfl (fun v1 => ?_)
  refine r_iload_n (q := 5) (i := 1) (pl := 1) C d_Tr_addEnds_4 rfl rfl rfl ?_
  refine r_cvI (q := 8) (As := [vI x1]) (st := []) (cy := 4) C d_Tr_addEnds_5 rfl Y_Pl_isLink L_Tr_42 I_Pl_isLink Se_Pl_isLink rfl (by decide) rfl (Nat.le_of_ble_eq_true rfl) (Nat.le_of_ble_eq_true rfl) (Nat.le_of_ble_eq_true rfl) rfl (fun a2 => con_Pl_isLink a2 x1) (fun v3 => ?_)
  refine r_if_eq (tgt := 63) (q := 11) C d_Tr_addEnds_8 (by decide) rfl ?_ ?_
  · refine r_sub (lv' := [(0, vA (some a))]) [0] rfl ?_
    exact s_Tr_addEnds_63 C a
  · refine r_aload_n (q := 12) (i := 0) (pl := 0) C d_Tr_addEnds_11 rfl rfl rfl ?_
    refine r_iconst (q := 13) (v := 2) C d_Tr_addEnds_12 rfl (by decide) ?_
    refine r_iload_n (q := 14) (i := 1) (pl := 1) C d_Tr_addEnds_13 rfl rfl rfl ?_
    refine r_imul (q := 15) C d_Tr_addEnds_14 rfl ?_
    refine r_aload_n (q := 16) (i := 0) (pl := 0) C d_Tr_addEnds_15 rfl rfl rfl ?_
    refine r_gR (q := 19) C d_Tr_addEnds_16 rfl F_Tr_34 rfl (fun v4 => ?_)
    refine r_gR (q := 22) C d_Tr_addEnds_19 rfl F_Tr_48 rfl (fun v5 => ?_)
    refine r_iload_n (q := 23) (i := 1) (pl := 1) C d_Tr_addEnds_22 rfl rfl rfl ?_
    refine r_aI (q := 24) C (Or.inl rfl) d_Tr_addEnds_23 rfl (fun v6 => ?_)
    refine r_aload_n (q := 25) (i := 0) (pl := 0) C d_Tr_addEnds_24 rfl rfl rfl ?_
    refine r_gR (q := 28) C d_Tr_addEnds_25 rfl F_Tr_34 rfl (fun v7 => ?_)
    refine r_gR (q := 31) C d_Tr_addEnds_28 rfl F_Tr_51 rfl (fun v8 => ?_)
    refine r_iload_n (q := 32) (i := 1) (pl := 1) C d_Tr_addEnds_31 rfl rfl rfl ?_
    refine r_aI (q := 33) C (Or.inl rfl) d_Tr_addEnds_32 rfl (fun v9 => ?_)
    refine r_cvV (q := 36) (As := [vI ((2 : Int32) * x1), vI v6, vI v9]) (st := []) (cy := 7) C d_Tr_addEnds_33 rfl Y_Tr_addEnd L_Tr_54 I_Tr_addEnd Se_Tr_addEnd rfl (by decide) rfl (Nat.le_of_ble_eq_true rfl) (Nat.le_of_ble_eq_true rfl) (Nat.le_of_ble_eq_true rfl) rfl (fun a10 => con_Tr_addEnd a10 ((2 : Int32) * x1) v6 v9) ?_
    refine r_aload_n (q := 37) (i := 0) (pl := 0) C d_Tr_addEnds_36 rfl rfl rfl ?_
    refine r_iconst (q := 38) (v := 2) C d_Tr_addEnds_37 rfl (by decide) ?_
    refine r_iload_n (q := 39) (i := 1) (pl := 1) C d_Tr_addEnds_38 rfl rfl rfl ?_
    refine r_imul (q := 40) C d_Tr_addEnds_39 rfl ?_
    refine r_iconst (q := 41) (v := 1) C d_Tr_addEnds_40 rfl (by decide) ?_
    refine r_iadd (q := 42) C d_Tr_addEnds_41 rfl ?_
    refine r_aload_n (q := 43) (i := 0) (pl := 0) C d_Tr_addEnds_42 rfl rfl rfl ?_
    refine r_gR (q := 46) C d_Tr_addEnds_43 rfl F_Tr_34 rfl (fun v12 => ?_)
    refine r_gR (q := 49) C d_Tr_addEnds_46 rfl F_Tr_51 rfl (fun v13 => ?_)
    refine r_iload_n (q := 50) (i := 1) (pl := 1) C d_Tr_addEnds_49 rfl rfl rfl ?_
    refine r_aI (q := 51) C (Or.inl rfl) d_Tr_addEnds_50 rfl (fun v14 => ?_)
    refine r_aload_n (q := 52) (i := 0) (pl := 0) C d_Tr_addEnds_51 rfl rfl rfl ?_
    refine r_gR (q := 55) C d_Tr_addEnds_52 rfl F_Tr_34 rfl (fun v15 => ?_)
    refine r_gR (q := 58) C d_Tr_addEnds_55 rfl F_Tr_48 rfl (fun v16 => ?_)
    refine r_iload_n (q := 59) (i := 1) (pl := 1) C d_Tr_addEnds_58 rfl rfl rfl ?_
    refine r_aI (q := 60) C (Or.inl rfl) d_Tr_addEnds_59 rfl (fun v17 => ?_)
    refine r_cvV (q := 63) (As := [vI (((2 : Int32) * x1) + (1 : Int32)), vI v14, vI v17]) (st := []) (cy := 7) C d_Tr_addEnds_60 rfl Y_Tr_addEnd L_Tr_54 I_Tr_addEnd Se_Tr_addEnd rfl (by decide) rfl (Nat.le_of_ble_eq_true rfl) (Nat.le_of_ble_eq_true rfl) (Nat.le_of_ble_eq_true rfl) rfl (fun a18 => con_Tr_addEnd a18 (((2 : Int32) * x1) + (1 : Int32)) v14 v17) ?_
    refine r_sub (lv' := [(0, vA (some a))]) [0] rfl ?_
    exact s_Tr_addEnds_63 C a
theorem d_Tr_endOf_0 : decode c_Tr_endOf 0 = .ok (.aload_n 0, 1) := by decide +kernel
theorem d_Tr_endOf_1 : decode c_Tr_endOf 1 = .ok (.getfield 34, 3) := by decide +kernel
theorem d_Tr_endOf_4 : decode c_Tr_endOf 4 = .ok (.iload_n 1, 1) := by decide +kernel
theorem d_Tr_endOf_5 : decode c_Tr_endOf 5 = .ok (.invokevirtual 42, 3) := by decide +kernel
theorem d_Tr_endOf_8 : decode c_Tr_endOf 8 = .ok (.ifCond .eq 12, 3) := by decide +kernel
theorem d_Tr_endOf_11 : decode c_Tr_endOf 11 = .ok (.iload_n 2, 1) := by decide +kernel
theorem d_Tr_endOf_12 : decode c_Tr_endOf 12 = .ok (.ifCond .lt 8, 3) := by decide +kernel
theorem d_Tr_endOf_15 : decode c_Tr_endOf 15 = .ok (.iload_n 2, 1) := by decide +kernel
theorem d_Tr_endOf_16 : decode c_Tr_endOf 16 = .ok (.iconst 1, 1) := by decide +kernel
theorem d_Tr_endOf_17 : decode c_Tr_endOf 17 = .ok (.if_icmp .le 7, 3) := by decide +kernel
theorem d_Tr_endOf_20 : decode c_Tr_endOf 20 = .ok (.aconst_null, 1) := by decide +kernel
theorem d_Tr_endOf_21 : decode c_Tr_endOf 21 = .ok (.goto 13, 3) := by decide +kernel
theorem d_Tr_endOf_24 : decode c_Tr_endOf 24 = .ok (.aload_n 0, 1) := by decide +kernel
theorem d_Tr_endOf_25 : decode c_Tr_endOf 25 = .ok (.getfield 11, 3) := by decide +kernel
theorem d_Tr_endOf_28 : decode c_Tr_endOf 28 = .ok (.iconst 2, 1) := by decide +kernel
theorem d_Tr_endOf_29 : decode c_Tr_endOf 29 = .ok (.iload_n 1, 1) := by decide +kernel
theorem d_Tr_endOf_30 : decode c_Tr_endOf 30 = .ok (.imul, 1) := by decide +kernel
theorem d_Tr_endOf_31 : decode c_Tr_endOf 31 = .ok (.iload_n 2, 1) := by decide +kernel
theorem d_Tr_endOf_32 : decode c_Tr_endOf 32 = .ok (.iadd, 1) := by decide +kernel
theorem d_Tr_endOf_33 : decode c_Tr_endOf 33 = .ok (.aaload, 1) := by decide +kernel
theorem d_Tr_endOf_34 : decode c_Tr_endOf 34 = .ok (.areturn, 1) := by decide +kernel
def f_Tr_endOf_34 (a : Nat) (t0 : Option Nat) : sn_M := r_R t0
set_option maxHeartbeats 4000000 in
set_option maxRecDepth 100000 in
theorem mono_Tr_endOf_34 (a : Nat) (t0 : Option Nat) : sn_Mono (f_Tr_endOf_34 a t0) := sn_Mono.rR
set_option maxHeartbeats 4000000 in
set_option maxRecDepth 100000 in
theorem s_Tr_endOf_34 {X : sn_X} (C : sn_Cx X c_Tr_endOf "SignalNetwork$Transfer" (some (.object "SignalNetwork$End")) "endOf" 3 1 21) (a : Nat) (t0 : Option Nat) : sn_S X 34 [(0, vA (some a))] [vA t0] (f_Tr_endOf_34 a t0) := by
  unfold f_Tr_endOf_34
  exact r_aret C d_Tr_endOf_34 rfl (Or.inl ⟨_, rfl⟩)
def f_Tr_endOf_20 (a : Nat) : sn_M := f_Tr_endOf_34 a none
set_option maxHeartbeats 4000000 in
set_option maxRecDepth 100000 in
theorem mono_Tr_endOf_20 (a : Nat) : sn_Mono (f_Tr_endOf_20 a) := mono_Tr_endOf_34 a none
set_option maxHeartbeats 4000000 in
set_option maxRecDepth 100000 in
theorem s_Tr_endOf_20 {X : sn_X} (C : sn_Cx X c_Tr_endOf "SignalNetwork$Transfer" (some (.object "SignalNetwork$End")) "endOf" 3 1 21) (a : Nat) : sn_S X 20 [(0, vA (some a))] [] (f_Tr_endOf_20 a) := by
  unfold f_Tr_endOf_20
  refine r_null (q := 21) C d_Tr_endOf_20 rfl ?_
  refine r_goto (tgt := 34) C d_Tr_endOf_21 (by decide) ?_
  exact s_Tr_endOf_34 C a none
def f_Tr_endOf (a : Nat) (x1 : Int32) (x2 : Int32) : sn_M := g_R 8 0 (some a) fun v1 => n_n 5 v1 fun a2 => c_I (f_Pl_isLink a2 x1) fun v3 => (if v3 = 0 then f_Tr_endOf_20 a else (if x2 < 0 then f_Tr_endOf_20 a else (if x2 ≤ (1 : Int32) then g_R 8 2 (some a) fun v4 => a_R 24 v4 (((2 : Int32) * x1) + x2) fun v5 => f_Tr_endOf_34 a v5 else f_Tr_endOf_20 a)))
set_option maxHeartbeats 4000000 in
set_option maxRecDepth 100000 in
theorem mono_Tr_endOf (a : Nat) (x1 : Int32) (x2 : Int32) : sn_Mono (f_Tr_endOf a x1 x2) := sn_Mono.gR (fun v1 => sn_Mono.nn (fun a2 => sn_Mono.cI (mono_Pl_isLink a2 x1) (fun v3 => sn_Mono.ite (mono_Tr_endOf_20 a) (sn_Mono.ite (mono_Tr_endOf_20 a) (sn_Mono.ite (sn_Mono.gR (fun v4 => sn_Mono.aR (fun v5 => mono_Tr_endOf_34 a v5))) (mono_Tr_endOf_20 a))))))
set_option maxHeartbeats 4000000 in
set_option maxRecDepth 100000 in
theorem con_Tr_endOf (a : Nat) (x1 : Int32) (x2 : Int32) : sn_Con y_Tr_endOf c_Tr_endOf 3 (some (.object "SignalNetwork$End")) 1 21 [vA (some a), vI x1, vI x2] (f_Tr_endOf a x1 x2) := by
  refine sn_Con.of (by decide +kernel) (by show _ ≤ _; exact Nat.le_of_ble_eq_true rfl) (mono_Tr_endOf a x1 x2) (fun X C => ?_)
  show sn_S X 0 [(0, vA (some a)), (1, vI x1), (2, vI x2)] [] _
  replace C : sn_Cx X c_Tr_endOf "SignalNetwork$Transfer" (some (.object "SignalNetwork$End")) "endOf" 3 1 21 := C
  unfold f_Tr_endOf
  refine r_aload_n (q := 1) (i := 0) (pl := 0) C d_Tr_endOf_0 rfl rfl rfl ?_
  refine r_gR (q := 4) C d_Tr_endOf_1 rfl F_Tr_34 rfl (fun v1 => ?_)
  refine r_iload_n (q := 5) (i := 1) (pl := 1) C d_Tr_endOf_4 rfl rfl rfl ?_
  refine r_cvI (q := 8) (As := [vI x1]) (st := []) (cy := 4) C d_Tr_endOf_5 rfl Y_Pl_isLink L_Tr_42 I_Pl_isLink Se_Pl_isLink rfl (by decide) rfl (Nat.le_of_ble_eq_true rfl) (Nat.le_of_ble_eq_true rfl) (Nat.le_of_ble_eq_true rfl) rfl (fun a2 => con_Pl_isLink a2 x1) (fun v3 => ?_)
  refine r_if_eq (tgt := 20) (q := 11) C d_Tr_endOf_8 (by decide) rfl ?_ ?_
  · refine r_sub (lv' := [(0, vA (some a))]) [0] rfl ?_
    exact s_Tr_endOf_20 C a
  · refine r_iload_n (q := 12) (i := 2) (pl := 2) C d_Tr_endOf_11 rfl rfl rfl ?_
    refine r_if_lt (tgt := 20) (q := 15) C d_Tr_endOf_12 (by decide) rfl ?_ ?_
    · refine r_sub (lv' := [(0, vA (some a))]) [0] rfl ?_
      exact s_Tr_endOf_20 C a
    · refine r_iload_n (q := 16) (i := 2) (pl := 2) C d_Tr_endOf_15 rfl rfl rfl ?_
      refine r_iconst (q := 17) (v := 1) C d_Tr_endOf_16 rfl (by decide) ?_
      refine r_icmp_le (tgt := 24) (q := 20) C d_Tr_endOf_17 (by decide) rfl ?_ ?_
      · refine r_aload_n (q := 25) (i := 0) (pl := 0) C d_Tr_endOf_24 rfl rfl rfl ?_
        refine r_gR (q := 28) C d_Tr_endOf_25 rfl F_Tr_11 rfl (fun v4 => ?_)
        refine r_iconst (q := 29) (v := 2) C d_Tr_endOf_28 rfl (by decide) ?_
        refine r_iload_n (q := 30) (i := 1) (pl := 1) C d_Tr_endOf_29 rfl rfl rfl ?_
        refine r_imul (q := 31) C d_Tr_endOf_30 rfl ?_
        refine r_iload_n (q := 32) (i := 2) (pl := 2) C d_Tr_endOf_31 rfl rfl rfl ?_
        refine r_iadd (q := 33) C d_Tr_endOf_32 rfl ?_
        refine r_aR (q := 34) (kd := 24) (tyi := 3) C (by decide) (fun _ => rfl) d_Tr_endOf_33 rfl (fun v5 => ?_)
        refine r_sub (lv' := [(0, vA (some a))]) [0] rfl ?_
        exact s_Tr_endOf_34 C a v5
      · refine r_sub (lv' := [(0, vA (some a))]) [0] rfl ?_
        exact s_Tr_endOf_20 C a
theorem d_Tr_flowTo_0 : decode c_Tr_flowTo 0 = .ok (.iload_n 1, 1) := by decide +kernel
theorem d_Tr_flowTo_1 : decode c_Tr_flowTo 1 = .ok (.ifCond .lt 28, 3) := by decide +kernel
theorem d_Tr_flowTo_4 : decode c_Tr_flowTo 4 = .ok (.iload_n 1, 1) := by decide +kernel
theorem d_Tr_flowTo_5 : decode c_Tr_flowTo 5 = .ok (.bipush 6, 2) := by decide +kernel
theorem d_Tr_flowTo_7 : decode c_Tr_flowTo 7 = .ok (.if_icmp .ge 22, 3) := by decide +kernel
theorem d_Tr_flowTo_10 : decode c_Tr_flowTo 10 = .ok (.iload_n 2, 1) := by decide +kernel
theorem d_Tr_flowTo_11 : decode c_Tr_flowTo 11 = .ok (.ifCond .lt 18, 3) := by decide +kernel
theorem d_Tr_flowTo_14 : decode c_Tr_flowTo 14 = .ok (.iload_n 2, 1) := by decide +kernel
theorem d_Tr_flowTo_15 : decode c_Tr_flowTo 15 = .ok (.bipush 6, 2) := by decide +kernel
theorem d_Tr_flowTo_17 : decode c_Tr_flowTo 17 = .ok (.if_icmp .ge 12, 3) := by decide +kernel
theorem d_Tr_flowTo_20 : decode c_Tr_flowTo 20 = .ok (.iload_n 3, 1) := by decide +kernel
theorem d_Tr_flowTo_21 : decode c_Tr_flowTo 21 = .ok (.ifCond .lt 8, 3) := by decide +kernel
theorem d_Tr_flowTo_24 : decode c_Tr_flowTo 24 = .ok (.iload_n 3, 1) := by decide +kernel
theorem d_Tr_flowTo_25 : decode c_Tr_flowTo 25 = .ok (.iconst 4, 1) := by decide +kernel
theorem d_Tr_flowTo_26 : decode c_Tr_flowTo 26 = .ok (.if_icmp .lt 5, 3) := by decide +kernel
theorem d_Tr_flowTo_29 : decode c_Tr_flowTo 29 = .ok (.aconst_null, 1) := by decide +kernel
theorem d_Tr_flowTo_30 : decode c_Tr_flowTo 30 = .ok (.areturn, 1) := by decide +kernel
theorem d_Tr_flowTo_31 : decode c_Tr_flowTo 31 = .ok (.aload_n 0, 1) := by decide +kernel
theorem d_Tr_flowTo_32 : decode c_Tr_flowTo 32 = .ok (.getfield 22, 3) := by decide +kernel
theorem d_Tr_flowTo_35 : decode c_Tr_flowTo 35 = .ok (.iload_n 1, 1) := by decide +kernel
theorem d_Tr_flowTo_36 : decode c_Tr_flowTo 36 = .ok (.bipush 6, 2) := by decide +kernel
theorem d_Tr_flowTo_38 : decode c_Tr_flowTo 38 = .ok (.imul, 1) := by decide +kernel
theorem d_Tr_flowTo_39 : decode c_Tr_flowTo 39 = .ok (.iload_n 2, 1) := by decide +kernel
theorem d_Tr_flowTo_40 : decode c_Tr_flowTo 40 = .ok (.iadd, 1) := by decide +kernel
theorem d_Tr_flowTo_41 : decode c_Tr_flowTo 41 = .ok (.iconst 4, 1) := by decide +kernel
theorem d_Tr_flowTo_42 : decode c_Tr_flowTo 42 = .ok (.imul, 1) := by decide +kernel
theorem d_Tr_flowTo_43 : decode c_Tr_flowTo 43 = .ok (.iload_n 3, 1) := by decide +kernel
theorem d_Tr_flowTo_44 : decode c_Tr_flowTo 44 = .ok (.iadd, 1) := by decide +kernel
theorem d_Tr_flowTo_45 : decode c_Tr_flowTo 45 = .ok (.aaload, 1) := by decide +kernel
theorem d_Tr_flowTo_46 : decode c_Tr_flowTo 46 = .ok (.areturn, 1) := by decide +kernel
def f_Tr_flowTo_29 (a : Nat) : sn_M := r_R none
set_option maxHeartbeats 4000000 in
set_option maxRecDepth 100000 in
theorem mono_Tr_flowTo_29 (a : Nat) : sn_Mono (f_Tr_flowTo_29 a) := sn_Mono.rR
set_option maxHeartbeats 4000000 in
set_option maxRecDepth 100000 in
theorem s_Tr_flowTo_29 {X : sn_X} (C : sn_Cx X c_Tr_flowTo "SignalNetwork$Transfer" (some (.object "SignalNetwork$Flow")) "flowTo" 4 0 0) (a : Nat) : sn_S X 29 [(0, vA (some a))] [] (f_Tr_flowTo_29 a) := by
  unfold f_Tr_flowTo_29
  refine r_null (q := 30) C d_Tr_flowTo_29 rfl ?_
  exact r_aret C d_Tr_flowTo_30 rfl (Or.inl ⟨_, rfl⟩)
def f_Tr_flowTo (a : Nat) (x1 : Int32) (x2 : Int32) (x3 : Int32) : sn_M := (if x1 < 0 then f_Tr_flowTo_29 a else (if (6 : Int32) ≤ x1 then f_Tr_flowTo_29 a else (if x2 < 0 then f_Tr_flowTo_29 a else (if (6 : Int32) ≤ x2 then f_Tr_flowTo_29 a else (if x3 < 0 then f_Tr_flowTo_29 a else (if x3 < (4 : Int32) then g_R 8 4 (some a) fun v1 => a_R 25 v1 ((((x1 * (6 : Int32)) + x2) * (4 : Int32)) + x3) fun v2 => r_R v2 else f_Tr_flowTo_29 a))))))
set_option maxHeartbeats 4000000 in
set_option maxRecDepth 100000 in
theorem mono_Tr_flowTo (a : Nat) (x1 : Int32) (x2 : Int32) (x3 : Int32) : sn_Mono (f_Tr_flowTo a x1 x2 x3) := sn_Mono.ite (mono_Tr_flowTo_29 a) (sn_Mono.ite (mono_Tr_flowTo_29 a) (sn_Mono.ite (mono_Tr_flowTo_29 a) (sn_Mono.ite (mono_Tr_flowTo_29 a) (sn_Mono.ite (mono_Tr_flowTo_29 a) (sn_Mono.ite (sn_Mono.gR (fun v1 => sn_Mono.aR (fun v2 => sn_Mono.rR))) (mono_Tr_flowTo_29 a))))))
set_option maxHeartbeats 4000000 in
set_option maxRecDepth 100000 in
theorem con_Tr_flowTo (a : Nat) (x1 : Int32) (x2 : Int32) (x3 : Int32) : sn_Con y_Tr_flowTo c_Tr_flowTo 4 (some (.object "SignalNetwork$Flow")) 0 0 [vA (some a), vI x1, vI x2, vI x3] (f_Tr_flowTo a x1 x2 x3) := by
  refine sn_Con.of (by decide +kernel) (by show _ ≤ _; exact Nat.le_of_ble_eq_true rfl) (mono_Tr_flowTo a x1 x2 x3) (fun X C => ?_)
  show sn_S X 0 [(0, vA (some a)), (1, vI x1), (2, vI x2), (3, vI x3)] [] _
  replace C : sn_Cx X c_Tr_flowTo "SignalNetwork$Transfer" (some (.object "SignalNetwork$Flow")) "flowTo" 4 0 0 := C
  unfold f_Tr_flowTo
  refine r_iload_n (q := 1) (i := 1) (pl := 1) C d_Tr_flowTo_0 rfl rfl rfl ?_
  refine r_if_lt (tgt := 29) (q := 4) C d_Tr_flowTo_1 (by decide) rfl ?_ ?_
  · refine r_sub (lv' := [(0, vA (some a))]) [0] rfl ?_
    exact s_Tr_flowTo_29 C a
  · refine r_iload_n (q := 5) (i := 1) (pl := 1) C d_Tr_flowTo_4 rfl rfl rfl ?_
    refine r_bipush (q := 7) (v := 6) C d_Tr_flowTo_5 rfl (by decide) ?_
    refine r_icmp_ge (tgt := 29) (q := 10) C d_Tr_flowTo_7 (by decide) rfl ?_ ?_
    · refine r_sub (lv' := [(0, vA (some a))]) [0] rfl ?_
      exact s_Tr_flowTo_29 C a
    · refine r_iload_n (q := 11) (i := 2) (pl := 2) C d_Tr_flowTo_10 rfl rfl rfl ?_
      refine r_if_lt (tgt := 29) (q := 14) C d_Tr_flowTo_11 (by decide) rfl ?_ ?_
      · refine r_sub (lv' := [(0, vA (some a))]) [0] rfl ?_
        exact s_Tr_flowTo_29 C a
      · refine r_iload_n (q := 15) (i := 2) (pl := 2) C d_Tr_flowTo_14 rfl rfl rfl ?_
        refine r_bipush (q := 17) (v := 6) C d_Tr_flowTo_15 rfl (by decide) ?_
        refine r_icmp_ge (tgt := 29) (q := 20) C d_Tr_flowTo_17 (by decide) rfl ?_ ?_
        · refine r_sub (lv' := [(0, vA (some a))]) [0] rfl ?_
          exact s_Tr_flowTo_29 C a
        · refine r_iload_n (q := 21) (i := 3) (pl := 3) C d_Tr_flowTo_20 rfl rfl rfl ?_
          refine r_if_lt (tgt := 29) (q := 24) C d_Tr_flowTo_21 (by decide) rfl ?_ ?_
          · refine r_sub (lv' := [(0, vA (some a))]) [0] rfl ?_
            exact s_Tr_flowTo_29 C a
          · refine r_iload_n (q := 25) (i := 3) (pl := 3) C d_Tr_flowTo_24 rfl rfl rfl ?_
            refine r_iconst (q := 26) (v := 4) C d_Tr_flowTo_25 rfl (by decide) ?_
            refine r_icmp_lt (tgt := 31) (q := 29) C d_Tr_flowTo_26 (by decide) rfl ?_ ?_
            · refine r_aload_n (q := 32) (i := 0) (pl := 0) C d_Tr_flowTo_31 rfl rfl rfl ?_
              refine r_gR (q := 35) C d_Tr_flowTo_32 rfl F_Tr_22 rfl (fun v1 => ?_)
              refine r_iload_n (q := 36) (i := 1) (pl := 1) C d_Tr_flowTo_35 rfl rfl rfl ?_
              refine r_bipush (q := 38) (v := 6) C d_Tr_flowTo_36 rfl (by decide) ?_
              refine r_imul (q := 39) C d_Tr_flowTo_38 rfl ?_
              refine r_iload_n (q := 40) (i := 2) (pl := 2) C d_Tr_flowTo_39 rfl rfl rfl ?_
              refine r_iadd (q := 41) C d_Tr_flowTo_40 rfl ?_
              refine r_iconst (q := 42) (v := 4) C d_Tr_flowTo_41 rfl (by decide) ?_
              refine r_imul (q := 43) C d_Tr_flowTo_42 rfl ?_
              refine r_iload_n (q := 44) (i := 3) (pl := 3) C d_Tr_flowTo_43 rfl rfl rfl ?_
              refine r_iadd (q := 45) C d_Tr_flowTo_44 rfl ?_
              refine r_aR (q := 46) (kd := 25) (tyi := 4) C (by decide) (fun _ => rfl) d_Tr_flowTo_45 rfl (fun v2 => ?_)
              exact r_aret C d_Tr_flowTo_46 rfl (Or.inl ⟨_, rfl⟩)
            · refine r_sub (lv' := [(0, vA (some a))]) [0] rfl ?_
              exact s_Tr_flowTo_29 C a
theorem d_Tr_placeOf_0 : decode c_Tr_placeOf 0 = .ok (.iload_n 0, 1) := by decide +kernel
theorem d_Tr_placeOf_1 : decode c_Tr_placeOf 1 = .ok (.bipush 6, 2) := by decide +kernel
theorem d_Tr_placeOf_3 : decode c_Tr_placeOf 3 = .ok (.imul, 1) := by decide +kernel
theorem d_Tr_placeOf_4 : decode c_Tr_placeOf 4 = .ok (.iload_n 1, 1) := by decide +kernel
theorem d_Tr_placeOf_5 : decode c_Tr_placeOf 5 = .ok (.iadd, 1) := by decide +kernel
theorem d_Tr_placeOf_6 : decode c_Tr_placeOf 6 = .ok (.bipush 6, 2) := by decide +kernel
theorem d_Tr_placeOf_8 : decode c_Tr_placeOf 8 = .ok (.imul, 1) := by decide +kernel
theorem d_Tr_placeOf_9 : decode c_Tr_placeOf 9 = .ok (.iload_n 2, 1) := by decide +kernel
theorem d_Tr_placeOf_10 : decode c_Tr_placeOf 10 = .ok (.iadd, 1) := by decide +kernel
theorem d_Tr_placeOf_11 : decode c_Tr_placeOf 11 = .ok (.ireturn, 1) := by decide +kernel
def f_Tr_placeOf (x0 : Int32) (x1 : Int32) (x2 : Int32) : sn_M := r_I ((((x0 * (6 : Int32)) + x1) * (6 : Int32)) + x2)
set_option maxHeartbeats 4000000 in
set_option maxRecDepth 100000 in
theorem mono_Tr_placeOf (x0 : Int32) (x1 : Int32) (x2 : Int32) : sn_Mono (f_Tr_placeOf x0 x1 x2) := sn_Mono.rI
set_option maxHeartbeats 4000000 in
set_option maxRecDepth 100000 in
theorem con_Tr_placeOf (x0 : Int32) (x1 : Int32) (x2 : Int32) : sn_Con y_Tr_placeOf c_Tr_placeOf 3 (some .int) 0 0 [vI x0, vI x1, vI x2] (f_Tr_placeOf x0 x1 x2) := by
  refine sn_Con.of (by decide +kernel) (by show _ ≤ _; exact Nat.le_of_ble_eq_true rfl) (mono_Tr_placeOf x0 x1 x2) (fun X C => ?_)
  show sn_S X 0 [(0, vI x0), (1, vI x1), (2, vI x2)] [] _
  replace C : sn_Cx X c_Tr_placeOf "SignalNetwork$Transfer" (some .int) "placeOf" 3 0 0 := C
  unfold f_Tr_placeOf
  refine r_iload_n (q := 1) (i := 0) (pl := 0) C d_Tr_placeOf_0 rfl rfl rfl ?_
  refine r_bipush (q := 3) (v := 6) C d_Tr_placeOf_1 rfl (by decide) ?_
  refine r_imul (q := 4) C d_Tr_placeOf_3 rfl ?_
  refine r_iload_n (q := 5) (i := 1) (pl := 1) C d_Tr_placeOf_4 rfl rfl rfl ?_
  refine r_iadd (q := 6) C d_Tr_placeOf_5 rfl ?_
  refine r_bipush (q := 8) (v := 6) C d_Tr_placeOf_6 rfl (by decide) ?_
  refine r_imul (q := 9) C d_Tr_placeOf_8 rfl ?_
  refine r_iload_n (q := 10) (i := 2) (pl := 2) C d_Tr_placeOf_9 rfl rfl rfl ?_
  refine r_iadd (q := 11) C d_Tr_placeOf_10 rfl ?_
  exact r_iret C d_Tr_placeOf_11 rfl
theorem d_Tr_wayTo_0 : decode c_Tr_wayTo 0 = .ok (.iconst 0, 1) := by decide +kernel
theorem d_Tr_wayTo_1 : decode c_Tr_wayTo 1 = .ok (.istore 5, 2) := by decide +kernel
theorem d_Tr_wayTo_3 : decode c_Tr_wayTo 3 = .ok (.iload 5, 2) := by decide +kernel
theorem d_Tr_wayTo_5 : decode c_Tr_wayTo 5 = .ok (.iconst 2, 1) := by decide +kernel
theorem d_Tr_wayTo_6 : decode c_Tr_wayTo 6 = .ok (.if_icmp .ge 74, 3) := by decide +kernel
theorem d_Tr_wayTo_9 : decode c_Tr_wayTo 9 = .ok (.aload_n 0, 1) := by decide +kernel
theorem d_Tr_wayTo_10 : decode c_Tr_wayTo 10 = .ok (.getfield 34, 3) := by decide +kernel
theorem d_Tr_wayTo_13 : decode c_Tr_wayTo 13 = .ok (.iload_n 1, 1) := by decide +kernel
theorem d_Tr_wayTo_14 : decode c_Tr_wayTo 14 = .ok (.iload_n 2, 1) := by decide +kernel
theorem d_Tr_wayTo_15 : decode c_Tr_wayTo 15 = .ok (.iload 5, 2) := by decide +kernel
theorem d_Tr_wayTo_17 : decode c_Tr_wayTo 17 = .ok (.invokevirtual 208, 3) := by decide +kernel
theorem d_Tr_wayTo_20 : decode c_Tr_wayTo 20 = .ok (.istore 6, 2) := by decide +kernel
theorem d_Tr_wayTo_22 : decode c_Tr_wayTo 22 = .ok (.iload 6, 2) := by decide +kernel
theorem d_Tr_wayTo_24 : decode c_Tr_wayTo 24 = .ok (.iload 4, 2) := by decide +kernel
theorem d_Tr_wayTo_26 : decode c_Tr_wayTo 26 = .ok (.if_icmp .ne 7, 3) := by decide +kernel
theorem d_Tr_wayTo_29 : decode c_Tr_wayTo 29 = .ok (.aconst_null, 1) := by decide +kernel
theorem d_Tr_wayTo_30 : decode c_Tr_wayTo 30 = .ok (.goto 11, 3) := by decide +kernel
theorem d_Tr_wayTo_33 : decode c_Tr_wayTo 33 = .ok (.aload_n 0, 1) := by decide +kernel
theorem d_Tr_wayTo_34 : decode c_Tr_wayTo 34 = .ok (.iload_n 1, 1) := by decide +kernel
theorem d_Tr_wayTo_35 : decode c_Tr_wayTo 35 = .ok (.iload 6, 2) := by decide +kernel
theorem d_Tr_wayTo_37 : decode c_Tr_wayTo 37 = .ok (.iload_n 3, 1) := by decide +kernel
theorem d_Tr_wayTo_38 : decode c_Tr_wayTo 38 = .ok (.invokevirtual 210, 3) := by decide +kernel
theorem d_Tr_wayTo_41 : decode c_Tr_wayTo 41 = .ok (.astore 7, 2) := by decide +kernel
theorem d_Tr_wayTo_43 : decode c_Tr_wayTo 43 = .ok (.aload 7, 2) := by decide +kernel
theorem d_Tr_wayTo_45 : decode c_Tr_wayTo 45 = .ok (.ifnull 29, 3) := by decide +kernel
theorem d_Tr_wayTo_48 : decode c_Tr_wayTo 48 = .ok (.aload 7, 2) := by decide +kernel
theorem d_Tr_wayTo_50 : decode c_Tr_wayTo 50 = .ok (.invokevirtual 214, 3) := by decide +kernel
theorem d_Tr_wayTo_53 : decode c_Tr_wayTo 53 = .ok (.ifCond .eq 21, 3) := by decide +kernel
theorem d_Tr_wayTo_56 : decode c_Tr_wayTo 56 = .ok (.aload_n 0, 1) := by decide +kernel
theorem d_Tr_wayTo_57 : decode c_Tr_wayTo 57 = .ok (.getfield 26, 3) := by decide +kernel
theorem d_Tr_wayTo_60 : decode c_Tr_wayTo 60 = .ok (.iload_n 1, 1) := by decide +kernel
theorem d_Tr_wayTo_61 : decode c_Tr_wayTo 61 = .ok (.iload 6, 2) := by decide +kernel
theorem d_Tr_wayTo_63 : decode c_Tr_wayTo 63 = .ok (.iload_n 2, 1) := by decide +kernel
theorem d_Tr_wayTo_64 : decode c_Tr_wayTo 64 = .ok (.invokestatic 83, 3) := by decide +kernel
theorem d_Tr_wayTo_67 : decode c_Tr_wayTo 67 = .ok (.baload, 1) := by decide +kernel
theorem d_Tr_wayTo_68 : decode c_Tr_wayTo 68 = .ok (.ifCond .ne 6, 3) := by decide +kernel
theorem d_Tr_wayTo_71 : decode c_Tr_wayTo 71 = .ok (.aload 7, 2) := by decide +kernel
theorem d_Tr_wayTo_73 : decode c_Tr_wayTo 73 = .ok (.areturn, 1) := by decide +kernel
theorem d_Tr_wayTo_74 : decode c_Tr_wayTo 74 = .ok (.iinc 5 1, 3) := by decide +kernel
theorem d_Tr_wayTo_77 : decode c_Tr_wayTo 77 = .ok (.goto (-74), 3) := by decide +kernel
theorem d_Tr_wayTo_80 : decode c_Tr_wayTo 80 = .ok (.aconst_null, 1) := by decide +kernel
theorem d_Tr_wayTo_81 : decode c_Tr_wayTo 81 = .ok (.areturn, 1) := by decide +kernel
def f_Tr_wayTo_74 (k3 : Int32 → Int32 → Int32 → Int32 → Int32 → sn_M) (a : Nat) (x1 : Int32) (x2 : Int32) (x3 : Int32) (x4 : Int32) (x5 : Int32) : sn_M := k3 x1 x2 x3 x4 (x5 + (1 : Int32))
set_option maxHeartbeats 4000000 in
set_option maxRecDepth 100000 in
theorem mono_Tr_wayTo_74 (k3 : Int32 → Int32 → Int32 → Int32 → Int32 → sn_M) (mk3 : ∀ (x1 : Int32) (x2 : Int32) (x3 : Int32) (x4 : Int32) (x5 : Int32), sn_Mono (k3 x1 x2 x3 x4 x5)) (a : Nat) (x1 : Int32) (x2 : Int32) (x3 : Int32) (x4 : Int32) (x5 : Int32) : sn_Mono (f_Tr_wayTo_74 k3 a x1 x2 x3 x4 x5) := mk3 x1 x2 x3 x4 (x5 + (1 : Int32))
set_option maxHeartbeats 4000000 in
set_option maxRecDepth 100000 in
theorem s_Tr_wayTo_74 {X : sn_X} (C : sn_Cx X c_Tr_wayTo "SignalNetwork$Transfer" (some (.object "SignalNetwork$Flow")) "wayTo" 8 1 25) (a : Nat) (k3 : Int32 → Int32 → Int32 → Int32 → Int32 → sn_M) (hk3 : ∀ (x1 : Int32) (x2 : Int32) (x3 : Int32) (x4 : Int32) (x5 : Int32), sn_S X 3 [(0, vA (some a)), (1, vI x1), (2, vI x2), (3, vI x3), (4, vI x4), (5, vI x5)] [] (k3 x1 x2 x3 x4 x5)) (x1 : Int32) (x2 : Int32) (x3 : Int32) (x4 : Int32) (x5 : Int32) : sn_S X 74 [(0, vA (some a)), (1, vI x1), (2, vI x2), (3, vI x3), (4, vI x4), (5, vI x5)] [] (f_Tr_wayTo_74 k3 a x1 x2 x3 x4 x5) := by
  unfold f_Tr_wayTo_74
  refine r_iinc (q := 77) (pl := 5) (v := x5 + (1 : Int32)) (lv' := [(5, vI (x5 + (1 : Int32))), (0, vA (some a)), (1, vI x1), (2, vI x2), (3, vI x3), (4, vI x4)]) C d_Tr_wayTo_74 rfl rfl rfl (by decide) rfl ?_
  refine r_goto (tgt := 3) C d_Tr_wayTo_77 (by decide) ?_
  refine r_sub (lv' := [(0, vA (some a)), (1, vI x1), (2, vI x2), (3, vI x3), (4, vI x4), (5, vI (x5 + (1 : Int32)))]) [1, 2, 3, 4, 5, 0] rfl ?_
  exact hk3 x1 x2 x3 x4 (x5 + (1 : Int32))
def f_Tr_wayTo_41 (k3 : Int32 → Int32 → Int32 → Int32 → Int32 → sn_M) (a : Nat) (x1 : Int32) (x2 : Int32) (x3 : Int32) (x4 : Int32) (x5 : Int32) (x6 : Int32) (t0 : Option Nat) : sn_M := (if t0 = none then f_Tr_wayTo_74 k3 a x1 x2 x3 x4 x5 else n_n 3 t0 fun a1 => c_I (f_Fl_isOpen a1) fun v2 => (if v2 = 0 then f_Tr_wayTo_74 k3 a x1 x2 x3 x4 x5 else g_R 8 5 (some a) fun v3 => c_I (f_Tr_placeOf x1 x6 x2) fun v4 => a_I 23 v3 v4 fun v5 => (if ¬ v5 = 0 then f_Tr_wayTo_74 k3 a x1 x2 x3 x4 x5 else r_R t0)))
set_option maxHeartbeats 4000000 in
set_option maxRecDepth 100000 in
theorem mono_Tr_wayTo_41 (k3 : Int32 → Int32 → Int32 → Int32 → Int32 → sn_M) (mk3 : ∀ (x1 : Int32) (x2 : Int32) (x3 : Int32) (x4 : Int32) (x5 : Int32), sn_Mono (k3 x1 x2 x3 x4 x5)) (a : Nat) (x1 : Int32) (x2 : Int32) (x3 : Int32) (x4 : Int32) (x5 : Int32) (x6 : Int32) (t0 : Option Nat) : sn_Mono (f_Tr_wayTo_41 k3 a x1 x2 x3 x4 x5 x6 t0) := sn_Mono.ite (mono_Tr_wayTo_74 k3 mk3 a x1 x2 x3 x4 x5) (sn_Mono.nn (fun a1 => sn_Mono.cI (mono_Fl_isOpen a1) (fun v2 => sn_Mono.ite (mono_Tr_wayTo_74 k3 mk3 a x1 x2 x3 x4 x5) (sn_Mono.gR (fun v3 => sn_Mono.cI (mono_Tr_placeOf x1 x6 x2) (fun v4 => sn_Mono.aI (fun v5 => sn_Mono.ite (mono_Tr_wayTo_74 k3 mk3 a x1 x2 x3 x4 x5) (sn_Mono.rR))))))))
set_option maxHeartbeats 4000000 in
set_option maxRecDepth 100000 in
theorem s_Tr_wayTo_41 {X : sn_X} (C : sn_Cx X c_Tr_wayTo "SignalNetwork$Transfer" (some (.object "SignalNetwork$Flow")) "wayTo" 8 1 25) (a : Nat) (k3 : Int32 → Int32 → Int32 → Int32 → Int32 → sn_M) (hk3 : ∀ (x1 : Int32) (x2 : Int32) (x3 : Int32) (x4 : Int32) (x5 : Int32), sn_S X 3 [(0, vA (some a)), (1, vI x1), (2, vI x2), (3, vI x3), (4, vI x4), (5, vI x5)] [] (k3 x1 x2 x3 x4 x5)) (x1 : Int32) (x2 : Int32) (x3 : Int32) (x4 : Int32) (x5 : Int32) (x6 : Int32) (t0 : Option Nat) : sn_S X 41 [(0, vA (some a)), (1, vI x1), (2, vI x2), (3, vI x3), (4, vI x4), (5, vI x5), (6, vI x6)] [vA t0] (f_Tr_wayTo_41 k3 a x1 x2 x3 x4 x5 x6 t0) := by
  unfold f_Tr_wayTo_41
  refine r_astore (q := 43) (i := 7) (lv' := [(7, vA t0), (0, vA (some a)), (1, vI x1), (2, vI x2), (3, vI x3), (4, vI x4), (5, vI x5), (6, vI x6)]) C d_Tr_wayTo_41 rfl (by decide) rfl ?_
  refine r_aload (q := 45) (i := 7) (pl := 0) C d_Tr_wayTo_43 rfl rfl ?_
  refine r_ifnull (tgt := 74) (q := 48) C d_Tr_wayTo_45 (by decide) rfl ?_ ?_
  · refine r_sub (lv' := [(0, vA (some a)), (1, vI x1), (2, vI x2), (3, vI x3), (4, vI x4), (5, vI x5)]) [1, 2, 3, 4, 5, 6] rfl ?_
    exact s_Tr_wayTo_74 C a k3 hk3 x1 x2 x3 x4 x5
  · refine r_aload (q := 50) (i := 7) (pl := 0) C d_Tr_wayTo_48 rfl rfl ?_
    refine r_cvI (q := 53) (As := []) (st := []) (cy := 2) C d_Tr_wayTo_50 rfl Y_Fl_isOpen L_Tr_214 I_Fl_isOpen Se_Fl_isOpen rfl (by decide) rfl (Nat.le_of_ble_eq_true rfl) (Nat.le_of_ble_eq_true rfl) (Nat.le_of_ble_eq_true rfl) rfl (fun a1 => con_Fl_isOpen a1) (fun v2 => ?_)
    refine r_if_eq (tgt := 74) (q := 56) C d_Tr_wayTo_53 (by decide) rfl ?_ ?_
    · refine r_sub (lv' := [(0, vA (some a)), (1, vI x1), (2, vI x2), (3, vI x3), (4, vI x4), (5, vI x5)]) [1, 2, 3, 4, 5, 6] rfl ?_
      exact s_Tr_wayTo_74 C a k3 hk3 x1 x2 x3 x4 x5
    · refine r_aload_n (q := 57) (i := 0) (pl := 1) C d_Tr_wayTo_56 rfl rfl rfl ?_
      refine r_gR (q := 60) C d_Tr_wayTo_57 rfl F_Tr_26 rfl (fun v3 => ?_)
      refine r_iload_n (q := 61) (i := 1) (pl := 2) C d_Tr_wayTo_60 rfl rfl rfl ?_
      refine r_iload (q := 63) (i := 6) (pl := 7) C d_Tr_wayTo_61 rfl rfl ?_
      refine r_iload_n (q := 64) (i := 2) (pl := 3) C d_Tr_wayTo_63 rfl rfl rfl ?_
      refine r_csI (q := 67) (As := [vI x1, vI x6, vI x2]) (st := [vA v3]) C d_Tr_wayTo_64 rfl Y_Tr_placeOf L_Tr_83 St_Tr_placeOf rfl (Nat.le_of_ble_eq_true rfl) (Nat.le_of_ble_eq_true rfl) (Nat.le_of_ble_eq_true rfl) rfl (con_Tr_placeOf x1 x6 x2) (fun v4 => ?_)
      refine r_aZ (q := 68) C (Or.inl rfl) d_Tr_wayTo_67 rfl (fun v5 => ?_)
      refine r_if_ne (tgt := 74) (q := 71) C d_Tr_wayTo_68 (by decide) rfl ?_ ?_
      · refine r_sub (lv' := [(0, vA (some a)), (1, vI x1), (2, vI x2), (3, vI x3), (4, vI x4), (5, vI x5)]) [1, 2, 3, 4, 5, 6] rfl ?_
        exact s_Tr_wayTo_74 C a k3 hk3 x1 x2 x3 x4 x5
      · refine r_aload (q := 73) (i := 7) (pl := 0) C d_Tr_wayTo_71 rfl rfl ?_
        exact r_aret C d_Tr_wayTo_73 rfl (Or.inl ⟨_, rfl⟩)
def f_Tr_wayTo_3 (a : Nat) : Nat → Int32 → Int32 → Int32 → Int32 → Int32 → sn_M
  | 0, _, _, _, _, _ => r_0
  | n + 1, x1, x2, x3, x4, x5 => (if (2 : Int32) ≤ x5 then r_R none else g_R 8 0 (some a) fun v6 => n_n 5 v6 fun a7 => c_I (f_Pl_told a7 x1 x2 x5) fun v8 => (if ¬ v8 = x4 then n_n 8 (some a) fun a9 => c_R (f_Tr_flowTo a9 x1 v8 x3) fun v10 => f_Tr_wayTo_41 (f_Tr_wayTo_3 a n) a x1 x2 x3 x4 x5 v8 v10 else f_Tr_wayTo_41 (f_Tr_wayTo_3 a n) a x1 x2 x3 x4 x5 v8 none))
set_option maxHeartbeats 4000000 in
set_option maxRecDepth 100000 in
theorem mono_Tr_wayTo_3 (a : Nat) : ∀ (n : Nat) (x1 : Int32) (x2 : Int32) (x3 : Int32) (x4 : Int32) (x5 : Int32), sn_Mono (f_Tr_wayTo_3 a n x1 x2 x3 x4 x5)
  | 0, _, _, _, _, _ => sn_Mono.r0
  | n + 1, x1, x2, x3, x4, x5 => sn_Mono.ite (sn_Mono.rR) (sn_Mono.gR (fun v6 => sn_Mono.nn (fun a7 => sn_Mono.cI (mono_Pl_told a7 x1 x2 x5) (fun v8 => sn_Mono.ite (sn_Mono.nn (fun a9 => sn_Mono.cR (mono_Tr_flowTo a9 x1 v8 x3) (fun v10 => mono_Tr_wayTo_41 (f_Tr_wayTo_3 a n) (mono_Tr_wayTo_3 a n) a x1 x2 x3 x4 x5 v8 v10))) (mono_Tr_wayTo_41 (f_Tr_wayTo_3 a n) (mono_Tr_wayTo_3 a n) a x1 x2 x3 x4 x5 v8 none)))))
set_option maxHeartbeats 4000000 in
set_option maxRecDepth 100000 in
theorem s_Tr_wayTo_3 {X : sn_X} (C : sn_Cx X c_Tr_wayTo "SignalNetwork$Transfer" (some (.object "SignalNetwork$Flow")) "wayTo" 8 1 25) (a : Nat) (n : Nat) : ∀ (x1 : Int32) (x2 : Int32) (x3 : Int32) (x4 : Int32) (x5 : Int32), sn_S X 3 [(0, vA (some a)), (1, vI x1), (2, vI x2), (3, vI x3), (4, vI x4), (5, vI x5)] [] (f_Tr_wayTo_3 a n x1 x2 x3 x4 x5) := by
  induction n with
  | zero => intro x1 x2 x3 x4 x5; exact sn_S.zero
  | succ n ih =>
    intro x1 x2 x3 x4 x5
    unfold f_Tr_wayTo_3
    refine r_iload (q := 5) (i := 5) (pl := 5) C d_Tr_wayTo_3 rfl rfl ?_
    refine r_iconst (q := 6) (v := 2) C d_Tr_wayTo_5 rfl (by decide) ?_
    refine r_icmp_ge (tgt := 80) (q := 9) C d_Tr_wayTo_6 (by decide) rfl ?_ ?_
    · refine r_null (q := 81) C d_Tr_wayTo_80 rfl ?_
      exact r_aret C d_Tr_wayTo_81 rfl (Or.inl ⟨_, rfl⟩)
    · refine r_aload_n (q := 10) (i := 0) (pl := 0) C d_Tr_wayTo_9 rfl rfl rfl ?_
      refine r_gR (q := 13) C d_Tr_wayTo_10 rfl F_Tr_34 rfl (fun v6 => ?_)
      refine r_iload_n (q := 14) (i := 1) (pl := 1) C d_Tr_wayTo_13 rfl rfl rfl ?_
      refine r_iload_n (q := 15) (i := 2) (pl := 2) C d_Tr_wayTo_14 rfl rfl rfl ?_
      refine r_iload (q := 17) (i := 5) (pl := 5) C d_Tr_wayTo_15 rfl rfl ?_
      refine r_cvI (q := 20) (As := [vI x1, vI x2, vI x5]) (st := []) (cy := 4) C d_Tr_wayTo_17 rfl Y_Pl_told L_Tr_208 I_Pl_told Se_Pl_told rfl (by decide) rfl (Nat.le_of_ble_eq_true rfl) (Nat.le_of_ble_eq_true rfl) (Nat.le_of_ble_eq_true rfl) rfl (fun a7 => con_Pl_told a7 x1 x2 x5) (fun v8 => ?_)
      refine r_istore (q := 22) (i := 6) (lv' := [(6, vI v8), (0, vA (some a)), (1, vI x1), (2, vI x2), (3, vI x3), (4, vI x4), (5, vI x5)]) C d_Tr_wayTo_20 rfl (by decide) rfl ?_
      refine r_iload (q := 24) (i := 6) (pl := 0) C d_Tr_wayTo_22 rfl rfl ?_
      refine r_iload (q := 26) (i := 4) (pl := 5) C d_Tr_wayTo_24 rfl rfl ?_
      refine r_icmp_ne (tgt := 33) (q := 29) C d_Tr_wayTo_26 (by decide) rfl ?_ ?_
      · refine r_aload_n (q := 34) (i := 0) (pl := 1) C d_Tr_wayTo_33 rfl rfl rfl ?_
        refine r_iload_n (q := 35) (i := 1) (pl := 2) C d_Tr_wayTo_34 rfl rfl rfl ?_
        refine r_iload (q := 37) (i := 6) (pl := 0) C d_Tr_wayTo_35 rfl rfl ?_
        refine r_iload_n (q := 38) (i := 3) (pl := 4) C d_Tr_wayTo_37 rfl rfl rfl ?_
        refine r_cvR (q := 41) (As := [vI x1, vI v8, vI x3]) (st := []) (cy := 7) C d_Tr_wayTo_38 rfl Y_Tr_flowTo L_Tr_210 I_Tr_flowTo Se_Tr_flowTo rfl (by decide) rfl (Nat.le_of_ble_eq_true rfl) (Nat.le_of_ble_eq_true rfl) (Nat.le_of_ble_eq_true rfl) rfl (fun a9 => con_Tr_flowTo a9 x1 v8 x3) (fun v10 => ?_)
        refine r_sub (lv' := [(0, vA (some a)), (1, vI x1), (2, vI x2), (3, vI x3), (4, vI x4), (5, vI x5), (6, vI v8)]) [1, 2, 3, 4, 5, 6, 0] rfl ?_
        exact s_Tr_wayTo_41 C a (f_Tr_wayTo_3 a n) ih x1 x2 x3 x4 x5 v8 v10
      · refine r_null (q := 30) C d_Tr_wayTo_29 rfl ?_
        refine r_goto (tgt := 41) C d_Tr_wayTo_30 (by decide) ?_
        refine r_sub (lv' := [(0, vA (some a)), (1, vI x1), (2, vI x2), (3, vI x3), (4, vI x4), (5, vI x5), (6, vI v8)]) [1, 2, 3, 4, 5, 6, 0] rfl ?_
        exact s_Tr_wayTo_41 C a (f_Tr_wayTo_3 a n) ih x1 x2 x3 x4 x5 v8 none
def f_Tr_wayTo (a : Nat) (x1 : Int32) (x2 : Int32) (x3 : Int32) (x4 : Int32) : sn_M := f_Tr_wayTo_3 a sn_fuel x1 x2 x3 x4 (0 : Int32)
set_option maxHeartbeats 4000000 in
set_option maxRecDepth 100000 in
theorem mono_Tr_wayTo (a : Nat) (x1 : Int32) (x2 : Int32) (x3 : Int32) (x4 : Int32) : sn_Mono (f_Tr_wayTo a x1 x2 x3 x4) := mono_Tr_wayTo_3 a sn_fuel x1 x2 x3 x4 (0 : Int32)
set_option maxHeartbeats 4000000 in
set_option maxRecDepth 100000 in
theorem con_Tr_wayTo (a : Nat) (x1 : Int32) (x2 : Int32) (x3 : Int32) (x4 : Int32) : sn_Con y_Tr_wayTo c_Tr_wayTo 8 (some (.object "SignalNetwork$Flow")) 1 25 [vA (some a), vI x1, vI x2, vI x3, vI x4] (f_Tr_wayTo a x1 x2 x3 x4) := by
  refine sn_Con.of (by decide +kernel) (by show _ ≤ _; exact Nat.le_of_ble_eq_true rfl) (mono_Tr_wayTo a x1 x2 x3 x4) (fun X C => ?_)
  show sn_S X 0 [(0, vA (some a)), (1, vI x1), (2, vI x2), (3, vI x3), (4, vI x4)] [] _
  replace C : sn_Cx X c_Tr_wayTo "SignalNetwork$Transfer" (some (.object "SignalNetwork$Flow")) "wayTo" 8 1 25 := C
  unfold f_Tr_wayTo
  refine r_iconst (q := 1) (v := 0) C d_Tr_wayTo_0 rfl (by decide) ?_
  refine r_istore (q := 3) (i := 5) (lv' := [(5, vI (0 : Int32)), (0, vA (some a)), (1, vI x1), (2, vI x2), (3, vI x3), (4, vI x4)]) C d_Tr_wayTo_1 rfl (by decide) rfl ?_
  refine r_sub (lv' := [(0, vA (some a)), (1, vI x1), (2, vI x2), (3, vI x3), (4, vI x4), (5, vI (0 : Int32))]) [1, 2, 3, 4, 5, 0] rfl ?_
  exact s_Tr_wayTo_3 C a sn_fuel x1 x2 x3 x4 (0 : Int32)
theorem d_Tr_tellWay_0 : decode c_Tr_tellWay 0 = .ok (.iload_n 1, 1) := by decide +kernel
theorem d_Tr_tellWay_1 : decode c_Tr_tellWay 1 = .ok (.iload_n 2, 1) := by decide +kernel
theorem d_Tr_tellWay_2 : decode c_Tr_tellWay 2 = .ok (.invokestatic 68, 3) := by decide +kernel
theorem d_Tr_tellWay_5 : decode c_Tr_tellWay 5 = .ok (.ifCond .ne 5, 3) := by decide +kernel
theorem d_Tr_tellWay_8 : decode c_Tr_tellWay 8 = .ok (.iconst (-1), 1) := by decide +kernel
theorem d_Tr_tellWay_9 : decode c_Tr_tellWay 9 = .ok (.ireturn, 1) := by decide +kernel
theorem d_Tr_tellWay_10 : decode c_Tr_tellWay 10 = .ok (.iload_n 3, 1) := by decide +kernel
theorem d_Tr_tellWay_11 : decode c_Tr_tellWay 11 = .ok (.ifCond .ne 28, 3) := by decide +kernel
theorem d_Tr_tellWay_14 : decode c_Tr_tellWay 14 = .ok (.aload_n 0, 1) := by decide +kernel
theorem d_Tr_tellWay_15 : decode c_Tr_tellWay 15 = .ok (.iload_n 1, 1) := by decide +kernel
theorem d_Tr_tellWay_16 : decode c_Tr_tellWay 16 = .ok (.iload_n 2, 1) := by decide +kernel
theorem d_Tr_tellWay_17 : decode c_Tr_tellWay 17 = .ok (.iconst 0, 1) := by decide +kernel
theorem d_Tr_tellWay_18 : decode c_Tr_tellWay 18 = .ok (.iconst (-1), 1) := by decide +kernel
theorem d_Tr_tellWay_19 : decode c_Tr_tellWay 19 = .ok (.invokevirtual 72, 3) := by decide +kernel
theorem d_Tr_tellWay_22 : decode c_Tr_tellWay 22 = .ok (.astore 4, 2) := by decide +kernel
theorem d_Tr_tellWay_24 : decode c_Tr_tellWay 24 = .ok (.aload 4, 2) := by decide +kernel
theorem d_Tr_tellWay_26 : decode c_Tr_tellWay 26 = .ok (.ifnonnull 7, 3) := by decide +kernel
theorem d_Tr_tellWay_29 : decode c_Tr_tellWay 29 = .ok (.iconst (-1), 1) := by decide +kernel
theorem d_Tr_tellWay_30 : decode c_Tr_tellWay 30 = .ok (.goto 8, 3) := by decide +kernel
theorem d_Tr_tellWay_33 : decode c_Tr_tellWay 33 = .ok (.aload 4, 2) := by decide +kernel
theorem d_Tr_tellWay_35 : decode c_Tr_tellWay 35 = .ok (.getfield 76, 3) := by decide +kernel
theorem d_Tr_tellWay_38 : decode c_Tr_tellWay 38 = .ok (.ireturn, 1) := by decide +kernel
theorem d_Tr_tellWay_39 : decode c_Tr_tellWay 39 = .ok (.iload_n 3, 1) := by decide +kernel
theorem d_Tr_tellWay_40 : decode c_Tr_tellWay 40 = .ok (.bipush 10, 2) := by decide +kernel
theorem d_Tr_tellWay_42 : decode c_Tr_tellWay 42 = .ok (.irem, 1) := by decide +kernel
theorem d_Tr_tellWay_43 : decode c_Tr_tellWay 43 = .ok (.istore 4, 2) := by decide +kernel
theorem d_Tr_tellWay_45 : decode c_Tr_tellWay 45 = .ok (.aload_n 0, 1) := by decide +kernel
theorem d_Tr_tellWay_46 : decode c_Tr_tellWay 46 = .ok (.getfield 34, 3) := by decide +kernel
theorem d_Tr_tellWay_49 : decode c_Tr_tellWay 49 = .ok (.iload_n 1, 1) := by decide +kernel
theorem d_Tr_tellWay_50 : decode c_Tr_tellWay 50 = .ok (.iload 4, 2) := by decide +kernel
theorem d_Tr_tellWay_52 : decode c_Tr_tellWay 52 = .ok (.invokevirtual 80, 3) := by decide +kernel
theorem d_Tr_tellWay_55 : decode c_Tr_tellWay 55 = .ok (.ifCond .ne 5, 3) := by decide +kernel
theorem d_Tr_tellWay_58 : decode c_Tr_tellWay 58 = .ok (.iconst (-1), 1) := by decide +kernel
theorem d_Tr_tellWay_59 : decode c_Tr_tellWay 59 = .ok (.ireturn, 1) := by decide +kernel
theorem d_Tr_tellWay_60 : decode c_Tr_tellWay 60 = .ok (.iload_n 1, 1) := by decide +kernel
theorem d_Tr_tellWay_61 : decode c_Tr_tellWay 61 = .ok (.iload 4, 2) := by decide +kernel
theorem d_Tr_tellWay_63 : decode c_Tr_tellWay 63 = .ok (.iload_n 2, 1) := by decide +kernel
theorem d_Tr_tellWay_64 : decode c_Tr_tellWay 64 = .ok (.invokestatic 83, 3) := by decide +kernel
theorem d_Tr_tellWay_67 : decode c_Tr_tellWay 67 = .ok (.istore 5, 2) := by decide +kernel
theorem d_Tr_tellWay_69 : decode c_Tr_tellWay 69 = .ok (.iload_n 3, 1) := by decide +kernel
theorem d_Tr_tellWay_70 : decode c_Tr_tellWay 70 = .ok (.bipush 10, 2) := by decide +kernel
theorem d_Tr_tellWay_72 : decode c_Tr_tellWay 72 = .ok (.idiv, 1) := by decide +kernel
theorem d_Tr_tellWay_73 : decode c_Tr_tellWay 73 = .ok (.lookupswitch 74 #[(1, 27), (2, 43)], 27) := by decide +kernel
theorem d_Tr_tellWay_100 : decode c_Tr_tellWay 100 = .ok (.aload_n 0, 1) := by decide +kernel
theorem d_Tr_tellWay_101 : decode c_Tr_tellWay 101 = .ok (.getfield 26, 3) := by decide +kernel
theorem d_Tr_tellWay_104 : decode c_Tr_tellWay 104 = .ok (.iload 5, 2) := by decide +kernel
theorem d_Tr_tellWay_106 : decode c_Tr_tellWay 106 = .ok (.baload, 1) := by decide +kernel
theorem d_Tr_tellWay_107 : decode c_Tr_tellWay 107 = .ok (.ifCond .eq 7, 3) := by decide +kernel
theorem d_Tr_tellWay_110 : decode c_Tr_tellWay 110 = .ok (.iconst 1, 1) := by decide +kernel
theorem d_Tr_tellWay_111 : decode c_Tr_tellWay 111 = .ok (.goto 4, 3) := by decide +kernel
theorem d_Tr_tellWay_114 : decode c_Tr_tellWay 114 = .ok (.iconst 0, 1) := by decide +kernel
theorem d_Tr_tellWay_115 : decode c_Tr_tellWay 115 = .ok (.ireturn, 1) := by decide +kernel
theorem d_Tr_tellWay_116 : decode c_Tr_tellWay 116 = .ok (.aload_n 0, 1) := by decide +kernel
theorem d_Tr_tellWay_117 : decode c_Tr_tellWay 117 = .ok (.getfield 30, 3) := by decide +kernel
theorem d_Tr_tellWay_120 : decode c_Tr_tellWay 120 = .ok (.iload 5, 2) := by decide +kernel
theorem d_Tr_tellWay_122 : decode c_Tr_tellWay 122 = .ok (.iaload, 1) := by decide +kernel
theorem d_Tr_tellWay_123 : decode c_Tr_tellWay 123 = .ok (.ifCond .ne 7, 3) := by decide +kernel
theorem d_Tr_tellWay_126 : decode c_Tr_tellWay 126 = .ok (.iconst (-1), 1) := by decide +kernel
theorem d_Tr_tellWay_127 : decode c_Tr_tellWay 127 = .ok (.goto 19, 3) := by decide +kernel
theorem d_Tr_tellWay_130 : decode c_Tr_tellWay 130 = .ok (.aload_n 0, 1) := by decide +kernel
theorem d_Tr_tellWay_131 : decode c_Tr_tellWay 131 = .ok (.getfield 30, 3) := by decide +kernel
theorem d_Tr_tellWay_134 : decode c_Tr_tellWay 134 = .ok (.iload 5, 2) := by decide +kernel
theorem d_Tr_tellWay_136 : decode c_Tr_tellWay 136 = .ok (.iaload, 1) := by decide +kernel
theorem d_Tr_tellWay_137 : decode c_Tr_tellWay 137 = .ok (.iconst 5, 1) := by decide +kernel
theorem d_Tr_tellWay_138 : decode c_Tr_tellWay 138 = .ok (.if_icmp .ne 7, 3) := by decide +kernel
theorem d_Tr_tellWay_141 : decode c_Tr_tellWay 141 = .ok (.iconst 1, 1) := by decide +kernel
theorem d_Tr_tellWay_142 : decode c_Tr_tellWay 142 = .ok (.goto 4, 3) := by decide +kernel
theorem d_Tr_tellWay_145 : decode c_Tr_tellWay 145 = .ok (.iconst 0, 1) := by decide +kernel
theorem d_Tr_tellWay_146 : decode c_Tr_tellWay 146 = .ok (.ireturn, 1) := by decide +kernel
theorem d_Tr_tellWay_147 : decode c_Tr_tellWay 147 = .ok (.iconst (-1), 1) := by decide +kernel
theorem d_Tr_tellWay_148 : decode c_Tr_tellWay 148 = .ok (.ireturn, 1) := by decide +kernel
def f_Tr_tellWay_38 (a : Nat) (t0 : Int32) : sn_M := r_I t0
set_option maxHeartbeats 4000000 in
set_option maxRecDepth 100000 in
theorem mono_Tr_tellWay_38 (a : Nat) (t0 : Int32) : sn_Mono (f_Tr_tellWay_38 a t0) := sn_Mono.rI
set_option maxHeartbeats 4000000 in
set_option maxRecDepth 100000 in
theorem s_Tr_tellWay_38 {X : sn_X} (C : sn_Cx X c_Tr_tellWay "SignalNetwork$Transfer" (some .int) "tellWay" 6 2 52) (a : Nat) (t0 : Int32) : sn_S X 38 [(0, vA (some a))] [vI t0] (f_Tr_tellWay_38 a t0) := by
  unfold f_Tr_tellWay_38
  exact r_iret C d_Tr_tellWay_38 rfl
def f_Tr_tellWay_146 (a : Nat) (t0 : Int32) : sn_M := r_I t0
set_option maxHeartbeats 4000000 in
set_option maxRecDepth 100000 in
theorem mono_Tr_tellWay_146 (a : Nat) (t0 : Int32) : sn_Mono (f_Tr_tellWay_146 a t0) := sn_Mono.rI
set_option maxHeartbeats 4000000 in
set_option maxRecDepth 100000 in
theorem s_Tr_tellWay_146 {X : sn_X} (C : sn_Cx X c_Tr_tellWay "SignalNetwork$Transfer" (some .int) "tellWay" 6 2 52) (a : Nat) (t0 : Int32) : sn_S X 146 [(0, vA (some a))] [vI t0] (f_Tr_tellWay_146 a t0) := by
  unfold f_Tr_tellWay_146
  exact r_iret C d_Tr_tellWay_146 rfl
def f_Tr_tellWay_115 (a : Nat) (t0 : Int32) : sn_M := r_I t0
set_option maxHeartbeats 4000000 in
set_option maxRecDepth 100000 in
theorem mono_Tr_tellWay_115 (a : Nat) (t0 : Int32) : sn_Mono (f_Tr_tellWay_115 a t0) := sn_Mono.rI
set_option maxHeartbeats 4000000 in
set_option maxRecDepth 100000 in
theorem s_Tr_tellWay_115 {X : sn_X} (C : sn_Cx X c_Tr_tellWay "SignalNetwork$Transfer" (some .int) "tellWay" 6 2 52) (a : Nat) (t0 : Int32) : sn_S X 115 [(0, vA (some a))] [vI t0] (f_Tr_tellWay_115 a t0) := by
  unfold f_Tr_tellWay_115
  exact r_iret C d_Tr_tellWay_115 rfl
def f_Tr_tellWay (a : Nat) (x1 : Int32) (x2 : Int32) (x3 : Int32) : sn_M := c_I (f_Pl_areTwo x1 x2) fun v1 => (if ¬ v1 = 0 then (if ¬ x3 = 0 then n_I ((x3 % (10 : Int32))) fun n2 => g_R 8 0 (some a) fun v3 => n_n 5 v3 fun a4 => c_I (f_Pl_areNeighbours a4 x1 n2) fun v5 => (if ¬ v5 = 0 then c_I (f_Tr_placeOf x1 n2 x2) fun v6 => (sn_sw (x3 / (10 : Int32)) [1, 2] [(g_R 8 5 (some a) fun v7 => a_I 23 v7 v6 fun v8 => (if v8 = 0 then f_Tr_tellWay_115 a (0 : Int32) else f_Tr_tellWay_115 a (1 : Int32))), (g_R 8 6 (some a) fun v9 => a_I 21 v9 v6 fun v10 => (if ¬ v10 = 0 then g_R 8 6 (some a) fun v11 => a_I 21 v11 v6 fun v12 => (if ¬ v12 = (5 : Int32) then f_Tr_tellWay_146 a (0 : Int32) else f_Tr_tellWay_146 a (1 : Int32)) else f_Tr_tellWay_146 a (-1 : Int32)))] (r_I (-1 : Int32))) else r_I (-1 : Int32)) else n_n 8 (some a) fun a13 => c_R (f_Tr_wayTo a13 x1 x2 (0 : Int32) (-1 : Int32)) fun v14 => (if ¬ v14 = none then g_I 3 0 v14 fun v15 => f_Tr_tellWay_38 a v15 else f_Tr_tellWay_38 a (-1 : Int32))) else r_I (-1 : Int32))
set_option maxHeartbeats 4000000 in
set_option maxRecDepth 100000 in
theorem mono_Tr_tellWay (a : Nat) (x1 : Int32) (x2 : Int32) (x3 : Int32) : sn_Mono (f_Tr_tellWay a x1 x2 x3) := sn_Mono.cI (mono_Pl_areTwo x1 x2) (fun v1 => sn_Mono.ite (sn_Mono.ite (sn_Mono.nI (fun n2 => sn_Mono.gR (fun v3 => sn_Mono.nn (fun a4 => sn_Mono.cI (mono_Pl_areNeighbours a4 x1 n2) (fun v5 => sn_Mono.ite (sn_Mono.cI (mono_Tr_placeOf x1 n2 x2) (fun v6 => sn_sw_mono (sn_Mono.rI) _ _ (List.forall_mem_cons.mpr ⟨sn_Mono.gR (fun v7 => sn_Mono.aI (fun v8 => sn_Mono.ite (mono_Tr_tellWay_115 a (0 : Int32)) (mono_Tr_tellWay_115 a (1 : Int32)))), (List.forall_mem_cons.mpr ⟨sn_Mono.gR (fun v9 => sn_Mono.aI (fun v10 => sn_Mono.ite (sn_Mono.gR (fun v11 => sn_Mono.aI (fun v12 => sn_Mono.ite (mono_Tr_tellWay_146 a (0 : Int32)) (mono_Tr_tellWay_146 a (1 : Int32))))) (mono_Tr_tellWay_146 a (-1 : Int32)))), (fun _ h => absurd h List.not_mem_nil)⟩)⟩))) (sn_Mono.rI)))))) (sn_Mono.nn (fun a13 => sn_Mono.cR (mono_Tr_wayTo a13 x1 x2 (0 : Int32) (-1 : Int32)) (fun v14 => sn_Mono.ite (sn_Mono.gI (fun v15 => mono_Tr_tellWay_38 a v15)) (mono_Tr_tellWay_38 a (-1 : Int32)))))) (sn_Mono.rI))
set_option maxHeartbeats 4000000 in
set_option maxRecDepth 100000 in
theorem con_Tr_tellWay (a : Nat) (x1 : Int32) (x2 : Int32) (x3 : Int32) : sn_Con y_Tr_tellWay c_Tr_tellWay 6 (some .int) 2 52 [vA (some a), vI x1, vI x2, vI x3] (f_Tr_tellWay a x1 x2 x3) := by
  refine sn_Con.of (by decide +kernel) (by show _ ≤ _; exact Nat.le_of_ble_eq_true rfl) (mono_Tr_tellWay a x1 x2 x3) (fun X C => ?_)
  show sn_S X 0 [(0, vA (some a)), (1, vI x1), (2, vI x2), (3, vI x3)] [] _
  replace C : sn_Cx X c_Tr_tellWay "SignalNetwork$Transfer" (some .int) "tellWay" 6 2 52 := C
  unfold f_Tr_tellWay
  refine r_iload_n (q := 1) (i := 1) (pl := 1) C d_Tr_tellWay_0 rfl rfl rfl ?_
  refine r_iload_n (q := 2) (i := 2) (pl := 2) C d_Tr_tellWay_1 rfl rfl rfl ?_
  refine r_csI (q := 5) (As := [vI x1, vI x2]) (st := []) C d_Tr_tellWay_2 rfl Y_Pl_areTwo L_Tr_68 St_Pl_areTwo rfl (Nat.le_of_ble_eq_true rfl) (Nat.le_of_ble_eq_true rfl) (Nat.le_of_ble_eq_true rfl) rfl (con_Pl_areTwo x1 x2) (fun v1 => ?_)
  refine r_if_ne (tgt := 10) (q := 8) C d_Tr_tellWay_5 (by decide) rfl ?_ ?_
  · refine r_iload_n (q := 11) (i := 3) (pl := 3) C d_Tr_tellWay_10 rfl rfl rfl ?_
    refine r_if_ne (tgt := 39) (q := 14) C d_Tr_tellWay_11 (by decide) rfl ?_ ?_
    · refine r_iload_n (q := 40) (i := 3) (pl := 3) C d_Tr_tellWay_39 rfl rfl rfl ?_
      refine r_bipush (q := 42) (v := 10) C d_Tr_tellWay_40 rfl (by decide) ?_
      refine r_iremc (q := 43) C d_Tr_tellWay_42 rfl (by decide) ?_
      refine r_nI (fun n2 => ?_)
      refine r_istore (q := 45) (i := 4) (lv' := [(4, vI n2), (0, vA (some a)), (1, vI x1), (2, vI x2), (3, vI x3)]) C d_Tr_tellWay_43 rfl (by decide) rfl ?_
      refine r_aload_n (q := 46) (i := 0) (pl := 1) C d_Tr_tellWay_45 rfl rfl rfl ?_
      refine r_gR (q := 49) C d_Tr_tellWay_46 rfl F_Tr_34 rfl (fun v3 => ?_)
      refine r_iload_n (q := 50) (i := 1) (pl := 2) C d_Tr_tellWay_49 rfl rfl rfl ?_
      refine r_iload (q := 52) (i := 4) (pl := 0) C d_Tr_tellWay_50 rfl rfl ?_
      refine r_cvI (q := 55) (As := [vI x1, vI n2]) (st := []) (cy := 4) C d_Tr_tellWay_52 rfl Y_Pl_areNeighbours L_Tr_80 I_Pl_areNeighbours Se_Pl_areNeighbours rfl (by decide) rfl (Nat.le_of_ble_eq_true rfl) (Nat.le_of_ble_eq_true rfl) (Nat.le_of_ble_eq_true rfl) rfl (fun a4 => con_Pl_areNeighbours a4 x1 n2) (fun v5 => ?_)
      refine r_if_ne (tgt := 60) (q := 58) C d_Tr_tellWay_55 (by decide) rfl ?_ ?_
      · refine r_iload_n (q := 61) (i := 1) (pl := 2) C d_Tr_tellWay_60 rfl rfl rfl ?_
        refine r_iload (q := 63) (i := 4) (pl := 0) C d_Tr_tellWay_61 rfl rfl ?_
        refine r_iload_n (q := 64) (i := 2) (pl := 3) C d_Tr_tellWay_63 rfl rfl rfl ?_
        refine r_csI (q := 67) (As := [vI x1, vI n2, vI x2]) (st := []) C d_Tr_tellWay_64 rfl Y_Tr_placeOf L_Tr_83 St_Tr_placeOf rfl (Nat.le_of_ble_eq_true rfl) (Nat.le_of_ble_eq_true rfl) (Nat.le_of_ble_eq_true rfl) rfl (con_Tr_placeOf x1 n2 x2) (fun v6 => ?_)
        refine r_istore (q := 69) (i := 5) (lv' := [(5, vI v6), (4, vI n2), (0, vA (some a)), (1, vI x1), (2, vI x2), (3, vI x3)]) C d_Tr_tellWay_67 rfl (by decide) rfl ?_
        refine r_iload_n (q := 70) (i := 3) (pl := 5) C d_Tr_tellWay_69 rfl rfl rfl ?_
        refine r_bipush (q := 72) (v := 10) C d_Tr_tellWay_70 rfl (by decide) ?_
        refine r_idivc (q := 73) C d_Tr_tellWay_72 rfl (by decide) ?_
        refine r_lookup (tD := 147) (ks := [1, 2]) (ts := [100, 116]) C d_Tr_tellWay_73 (by decide) (by decide) rfl ?_ ⟨?_, ?_, trivial⟩
        · refine r_iconst (q := 148) (v := -1) C d_Tr_tellWay_147 rfl (by decide) ?_
          exact r_iret C d_Tr_tellWay_148 rfl
        · refine r_aload_n (q := 101) (i := 0) (pl := 2) C d_Tr_tellWay_100 rfl rfl rfl ?_
          refine r_gR (q := 104) C d_Tr_tellWay_101 rfl F_Tr_26 rfl (fun v7 => ?_)
          refine r_iload (q := 106) (i := 5) (pl := 0) C d_Tr_tellWay_104 rfl rfl ?_
          refine r_aZ (q := 107) C (Or.inl rfl) d_Tr_tellWay_106 rfl (fun v8 => ?_)
          refine r_if_eq (tgt := 114) (q := 110) C d_Tr_tellWay_107 (by decide) rfl ?_ ?_
          · refine r_iconst (q := 115) (v := 0) C d_Tr_tellWay_114 rfl (by decide) ?_
            refine r_sub (lv' := [(0, vA (some a))]) [2] rfl ?_
            exact s_Tr_tellWay_115 C a (0 : Int32)
          · refine r_iconst (q := 111) (v := 1) C d_Tr_tellWay_110 rfl (by decide) ?_
            refine r_goto (tgt := 115) C d_Tr_tellWay_111 (by decide) ?_
            refine r_sub (lv' := [(0, vA (some a))]) [2] rfl ?_
            exact s_Tr_tellWay_115 C a (1 : Int32)
        · refine r_aload_n (q := 117) (i := 0) (pl := 2) C d_Tr_tellWay_116 rfl rfl rfl ?_
          refine r_gR (q := 120) C d_Tr_tellWay_117 rfl F_Tr_30 rfl (fun v9 => ?_)
          refine r_iload (q := 122) (i := 5) (pl := 0) C d_Tr_tellWay_120 rfl rfl ?_
          refine r_aI (q := 123) C (Or.inl rfl) d_Tr_tellWay_122 rfl (fun v10 => ?_)
          refine r_if_ne (tgt := 130) (q := 126) C d_Tr_tellWay_123 (by decide) rfl ?_ ?_
          · refine r_aload_n (q := 131) (i := 0) (pl := 2) C d_Tr_tellWay_130 rfl rfl rfl ?_
            refine r_gR (q := 134) C d_Tr_tellWay_131 rfl F_Tr_30 rfl (fun v11 => ?_)
            refine r_iload (q := 136) (i := 5) (pl := 0) C d_Tr_tellWay_134 rfl rfl ?_
            refine r_aI (q := 137) C (Or.inl rfl) d_Tr_tellWay_136 rfl (fun v12 => ?_)
            refine r_iconst (q := 138) (v := 5) C d_Tr_tellWay_137 rfl (by decide) ?_
            refine r_icmp_ne (tgt := 145) (q := 141) C d_Tr_tellWay_138 (by decide) rfl ?_ ?_
            · refine r_iconst (q := 146) (v := 0) C d_Tr_tellWay_145 rfl (by decide) ?_
              refine r_sub (lv' := [(0, vA (some a))]) [2] rfl ?_
              exact s_Tr_tellWay_146 C a (0 : Int32)
            · refine r_iconst (q := 142) (v := 1) C d_Tr_tellWay_141 rfl (by decide) ?_
              refine r_goto (tgt := 146) C d_Tr_tellWay_142 (by decide) ?_
              refine r_sub (lv' := [(0, vA (some a))]) [2] rfl ?_
              exact s_Tr_tellWay_146 C a (1 : Int32)
          · refine r_iconst (q := 127) (v := -1) C d_Tr_tellWay_126 rfl (by decide) ?_
            refine r_goto (tgt := 146) C d_Tr_tellWay_127 (by decide) ?_
            refine r_sub (lv' := [(0, vA (some a))]) [2] rfl ?_
            exact s_Tr_tellWay_146 C a (-1 : Int32)
      · refine r_iconst (q := 59) (v := -1) C d_Tr_tellWay_58 rfl (by decide) ?_
        exact r_iret C d_Tr_tellWay_59 rfl
    · refine r_aload_n (q := 15) (i := 0) (pl := 0) C d_Tr_tellWay_14 rfl rfl rfl ?_
      refine r_iload_n (q := 16) (i := 1) (pl := 1) C d_Tr_tellWay_15 rfl rfl rfl ?_
      refine r_iload_n (q := 17) (i := 2) (pl := 2) C d_Tr_tellWay_16 rfl rfl rfl ?_
      refine r_iconst (q := 18) (v := 0) C d_Tr_tellWay_17 rfl (by decide) ?_
      refine r_iconst (q := 19) (v := -1) C d_Tr_tellWay_18 rfl (by decide) ?_
      refine r_cvR (q := 22) (As := [vI x1, vI x2, vI (0 : Int32), vI (-1 : Int32)]) (st := []) (cy := 7) C d_Tr_tellWay_19 rfl Y_Tr_wayTo L_Tr_72 I_Tr_wayTo Se_Tr_wayTo rfl (by decide) rfl (Nat.le_of_ble_eq_true rfl) (Nat.le_of_ble_eq_true rfl) (Nat.le_of_ble_eq_true rfl) rfl (fun a13 => con_Tr_wayTo a13 x1 x2 (0 : Int32) (-1 : Int32)) (fun v14 => ?_)
      refine r_astore (q := 24) (i := 4) (lv' := [(4, vA v14), (0, vA (some a)), (1, vI x1), (2, vI x2), (3, vI x3)]) C d_Tr_tellWay_22 rfl (by decide) rfl ?_
      refine r_aload (q := 26) (i := 4) (pl := 0) C d_Tr_tellWay_24 rfl rfl ?_
      refine r_ifnonnull (tgt := 33) (q := 29) C d_Tr_tellWay_26 (by decide) rfl ?_ ?_
      · refine r_aload (q := 35) (i := 4) (pl := 0) C d_Tr_tellWay_33 rfl rfl ?_
        refine r_gI (q := 38) C d_Tr_tellWay_35 rfl F_Tr_76 rfl (fun v15 => ?_)
        refine r_sub (lv' := [(0, vA (some a))]) [1] rfl ?_
        exact s_Tr_tellWay_38 C a v15
      · refine r_iconst (q := 30) (v := -1) C d_Tr_tellWay_29 rfl (by decide) ?_
        refine r_goto (tgt := 38) C d_Tr_tellWay_30 (by decide) ?_
        refine r_sub (lv' := [(0, vA (some a))]) [1] rfl ?_
        exact s_Tr_tellWay_38 C a (-1 : Int32)
  · refine r_iconst (q := 9) (v := -1) C d_Tr_tellWay_8 rfl (by decide) ?_
    exact r_iret C d_Tr_tellWay_9 rfl
theorem d_Tr_best_0 : decode c_Tr_best 0 = .ok (.aload_n 0, 1) := by decide +kernel
theorem d_Tr_best_1 : decode c_Tr_best 1 = .ok (.getfield 34, 3) := by decide +kernel
theorem d_Tr_best_4 : decode c_Tr_best 4 = .ok (.iload_n 1, 1) := by decide +kernel
theorem d_Tr_best_5 : decode c_Tr_best 5 = .ok (.iload_n 2, 1) := by decide +kernel
theorem d_Tr_best_6 : decode c_Tr_best 6 = .ok (.invokevirtual 61, 3) := by decide +kernel
theorem d_Tr_best_9 : decode c_Tr_best 9 = .ok (.istore 4, 2) := by decide +kernel
theorem d_Tr_best_11 : decode c_Tr_best 11 = .ok (.iload_n 1, 1) := by decide +kernel
theorem d_Tr_best_12 : decode c_Tr_best 12 = .ok (.bipush 6, 2) := by decide +kernel
theorem d_Tr_best_14 : decode c_Tr_best 14 = .ok (.imul, 1) := by decide +kernel
theorem d_Tr_best_15 : decode c_Tr_best 15 = .ok (.iload_n 2, 1) := by decide +kernel
theorem d_Tr_best_16 : decode c_Tr_best 16 = .ok (.iadd, 1) := by decide +kernel
theorem d_Tr_best_17 : decode c_Tr_best 17 = .ok (.iconst 4, 1) := by decide +kernel
theorem d_Tr_best_18 : decode c_Tr_best 18 = .ok (.imul, 1) := by decide +kernel
theorem d_Tr_best_19 : decode c_Tr_best 19 = .ok (.istore 5, 2) := by decide +kernel
theorem d_Tr_best_21 : decode c_Tr_best 21 = .ok (.iconst 0, 1) := by decide +kernel
theorem d_Tr_best_22 : decode c_Tr_best 22 = .ok (.istore 6, 2) := by decide +kernel
theorem d_Tr_best_24 : decode c_Tr_best 24 = .ok (.iload 6, 2) := by decide +kernel
theorem d_Tr_best_26 : decode c_Tr_best 26 = .ok (.iload 4, 2) := by decide +kernel
theorem d_Tr_best_28 : decode c_Tr_best 28 = .ok (.if_icmp .ge 43, 3) := by decide +kernel
theorem d_Tr_best_31 : decode c_Tr_best 31 = .ok (.aload_n 0, 1) := by decide +kernel
theorem d_Tr_best_32 : decode c_Tr_best 32 = .ok (.getfield 17, 3) := by decide +kernel
theorem d_Tr_best_35 : decode c_Tr_best 35 = .ok (.iload 5, 2) := by decide +kernel
theorem d_Tr_best_37 : decode c_Tr_best 37 = .ok (.iload_n 3, 1) := by decide +kernel
theorem d_Tr_best_38 : decode c_Tr_best 38 = .ok (.iload 6, 2) := by decide +kernel
theorem d_Tr_best_40 : decode c_Tr_best 40 = .ok (.iadd, 1) := by decide +kernel
theorem d_Tr_best_41 : decode c_Tr_best 41 = .ok (.iload 4, 2) := by decide +kernel
theorem d_Tr_best_43 : decode c_Tr_best 43 = .ok (.irem, 1) := by decide +kernel
theorem d_Tr_best_44 : decode c_Tr_best 44 = .ok (.iadd, 1) := by decide +kernel
theorem d_Tr_best_45 : decode c_Tr_best 45 = .ok (.aaload, 1) := by decide +kernel
theorem d_Tr_best_46 : decode c_Tr_best 46 = .ok (.astore 7, 2) := by decide +kernel
theorem d_Tr_best_48 : decode c_Tr_best 48 = .ok (.aload 7, 2) := by decide +kernel
theorem d_Tr_best_50 : decode c_Tr_best 50 = .ok (.ifnull 15, 3) := by decide +kernel
theorem d_Tr_best_53 : decode c_Tr_best 53 = .ok (.aload 7, 2) := by decide +kernel
theorem d_Tr_best_55 : decode c_Tr_best 55 = .ok (.getfield 91, 3) := by decide +kernel
theorem d_Tr_best_58 : decode c_Tr_best 58 = .ok (.iconst 5, 1) := by decide +kernel
theorem d_Tr_best_59 : decode c_Tr_best 59 = .ok (.if_icmp .ne 6, 3) := by decide +kernel
theorem d_Tr_best_62 : decode c_Tr_best 62 = .ok (.aload 7, 2) := by decide +kernel
theorem d_Tr_best_64 : decode c_Tr_best 64 = .ok (.areturn, 1) := by decide +kernel
theorem d_Tr_best_65 : decode c_Tr_best 65 = .ok (.iinc 6 1, 3) := by decide +kernel
theorem d_Tr_best_68 : decode c_Tr_best 68 = .ok (.goto (-44), 3) := by decide +kernel
theorem d_Tr_best_71 : decode c_Tr_best 71 = .ok (.aconst_null, 1) := by decide +kernel
theorem d_Tr_best_72 : decode c_Tr_best 72 = .ok (.areturn, 1) := by decide +kernel
def f_Tr_best_65 (k24 : Int32 → Int32 → Int32 → Int32 → sn_M) (a : Nat) (x3 : Int32) (x4 : Int32) (x5 : Int32) (x6 : Int32) : sn_M := k24 x3 x4 x5 (x6 + (1 : Int32))
set_option maxHeartbeats 4000000 in
set_option maxRecDepth 100000 in
theorem mono_Tr_best_65 (k24 : Int32 → Int32 → Int32 → Int32 → sn_M) (mk24 : ∀ (x3 : Int32) (x4 : Int32) (x5 : Int32) (x6 : Int32), sn_Mono (k24 x3 x4 x5 x6)) (a : Nat) (x3 : Int32) (x4 : Int32) (x5 : Int32) (x6 : Int32) : sn_Mono (f_Tr_best_65 k24 a x3 x4 x5 x6) := mk24 x3 x4 x5 (x6 + (1 : Int32))
set_option maxHeartbeats 4000000 in
set_option maxRecDepth 100000 in
theorem s_Tr_best_65 {X : sn_X} (C : sn_Cx X c_Tr_best "SignalNetwork$Transfer" (some (.object "SignalNetwork$End")) "best" 8 1 22) (a : Nat) (k24 : Int32 → Int32 → Int32 → Int32 → sn_M) (hk24 : ∀ (x3 : Int32) (x4 : Int32) (x5 : Int32) (x6 : Int32), sn_S X 24 [(0, vA (some a)), (3, vI x3), (4, vI x4), (5, vI x5), (6, vI x6)] [] (k24 x3 x4 x5 x6)) (x3 : Int32) (x4 : Int32) (x5 : Int32) (x6 : Int32) : sn_S X 65 [(0, vA (some a)), (3, vI x3), (4, vI x4), (5, vI x5), (6, vI x6)] [] (f_Tr_best_65 k24 a x3 x4 x5 x6) := by
  unfold f_Tr_best_65
  refine r_iinc (q := 68) (pl := 4) (v := x6 + (1 : Int32)) (lv' := [(6, vI (x6 + (1 : Int32))), (0, vA (some a)), (3, vI x3), (4, vI x4), (5, vI x5)]) C d_Tr_best_65 rfl rfl rfl (by decide) rfl ?_
  refine r_goto (tgt := 24) C d_Tr_best_68 (by decide) ?_
  refine r_sub (lv' := [(0, vA (some a)), (3, vI x3), (4, vI x4), (5, vI x5), (6, vI (x6 + (1 : Int32)))]) [1, 2, 3, 4, 0] rfl ?_
  exact hk24 x3 x4 x5 (x6 + (1 : Int32))
def f_Tr_best_24 (a : Nat) : Nat → Int32 → Int32 → Int32 → Int32 → sn_M
  | 0, _, _, _, _ => r_0
  | n + 1, x3, x4, x5, x6 => (if x4 ≤ x6 then r_R none else g_R 8 3 (some a) fun v1 => n_D x4 (a_R 24 v1 (x5 + ((x3 + x6) % x4)) fun v2 => (if v2 = none then f_Tr_best_65 (f_Tr_best_24 a n) a x3 x4 x5 x6 else g_I 2 7 v2 fun v3 => (if ¬ v3 = (5 : Int32) then f_Tr_best_65 (f_Tr_best_24 a n) a x3 x4 x5 x6 else r_R v2))))
set_option maxHeartbeats 4000000 in
set_option maxRecDepth 100000 in
theorem mono_Tr_best_24 (a : Nat) : ∀ (n : Nat) (x3 : Int32) (x4 : Int32) (x5 : Int32) (x6 : Int32), sn_Mono (f_Tr_best_24 a n x3 x4 x5 x6)
  | 0, _, _, _, _ => sn_Mono.r0
  | n + 1, x3, x4, x5, x6 => sn_Mono.ite (sn_Mono.rR) (sn_Mono.gR (fun v1 => sn_Mono.D (sn_Mono.aR (fun v2 => sn_Mono.ite (mono_Tr_best_65 (f_Tr_best_24 a n) (mono_Tr_best_24 a n) a x3 x4 x5 x6) (sn_Mono.gI (fun v3 => sn_Mono.ite (mono_Tr_best_65 (f_Tr_best_24 a n) (mono_Tr_best_24 a n) a x3 x4 x5 x6) (sn_Mono.rR)))))))
set_option maxHeartbeats 4000000 in
set_option maxRecDepth 100000 in
theorem s_Tr_best_24 {X : sn_X} (C : sn_Cx X c_Tr_best "SignalNetwork$Transfer" (some (.object "SignalNetwork$End")) "best" 8 1 22) (a : Nat) (n : Nat) : ∀ (x3 : Int32) (x4 : Int32) (x5 : Int32) (x6 : Int32), sn_S X 24 [(0, vA (some a)), (3, vI x3), (4, vI x4), (5, vI x5), (6, vI x6)] [] (f_Tr_best_24 a n x3 x4 x5 x6) := by
  induction n with
  | zero => intro x3 x4 x5 x6; exact sn_S.zero
  | succ n ih =>
    intro x3 x4 x5 x6
    unfold f_Tr_best_24
    refine r_iload (q := 26) (i := 6) (pl := 4) C d_Tr_best_24 rfl rfl ?_
    refine r_iload (q := 28) (i := 4) (pl := 2) C d_Tr_best_26 rfl rfl ?_
    refine r_icmp_ge (tgt := 71) (q := 31) C d_Tr_best_28 (by decide) rfl ?_ ?_
    · refine r_null (q := 72) C d_Tr_best_71 rfl ?_
      exact r_aret C d_Tr_best_72 rfl (Or.inl ⟨_, rfl⟩)
    · refine r_aload_n (q := 32) (i := 0) (pl := 0) C d_Tr_best_31 rfl rfl rfl ?_
      refine r_gR (q := 35) C d_Tr_best_32 rfl F_Tr_17 rfl (fun v1 => ?_)
      refine r_iload (q := 37) (i := 5) (pl := 3) C d_Tr_best_35 rfl rfl ?_
      refine r_iload_n (q := 38) (i := 3) (pl := 1) C d_Tr_best_37 rfl rfl rfl ?_
      refine r_iload (q := 40) (i := 6) (pl := 4) C d_Tr_best_38 rfl rfl ?_
      refine r_iadd (q := 41) C d_Tr_best_40 rfl ?_
      refine r_iload (q := 43) (i := 4) (pl := 2) C d_Tr_best_41 rfl rfl ?_
      refine r_irem (q := 44) C d_Tr_best_43 rfl ?_
      refine r_iadd (q := 45) C d_Tr_best_44 rfl ?_
      refine r_aR (q := 46) (kd := 24) (tyi := 3) C (by decide) (fun _ => rfl) d_Tr_best_45 rfl (fun v2 => ?_)
      refine r_astore (q := 48) (i := 7) (lv' := [(7, vA v2), (0, vA (some a)), (3, vI x3), (4, vI x4), (5, vI x5), (6, vI x6)]) C d_Tr_best_46 rfl (by decide) rfl ?_
      refine r_aload (q := 50) (i := 7) (pl := 0) C d_Tr_best_48 rfl rfl ?_
      refine r_ifnull (tgt := 65) (q := 53) C d_Tr_best_50 (by decide) rfl ?_ ?_
      · refine r_sub (lv' := [(0, vA (some a)), (3, vI x3), (4, vI x4), (5, vI x5), (6, vI x6)]) [1, 2, 3, 4, 5] rfl ?_
        exact s_Tr_best_65 C a (f_Tr_best_24 a n) ih x3 x4 x5 x6
      · refine r_aload (q := 55) (i := 7) (pl := 0) C d_Tr_best_53 rfl rfl ?_
        refine r_gI (q := 58) C d_Tr_best_55 rfl F_Tr_91 rfl (fun v3 => ?_)
        refine r_iconst (q := 59) (v := 5) C d_Tr_best_58 rfl (by decide) ?_
        refine r_icmp_ne (tgt := 65) (q := 62) C d_Tr_best_59 (by decide) rfl ?_ ?_
        · refine r_sub (lv' := [(0, vA (some a)), (3, vI x3), (4, vI x4), (5, vI x5), (6, vI x6)]) [1, 2, 3, 4, 5] rfl ?_
          exact s_Tr_best_65 C a (f_Tr_best_24 a n) ih x3 x4 x5 x6
        · refine r_aload (q := 64) (i := 7) (pl := 0) C d_Tr_best_62 rfl rfl ?_
          exact r_aret C d_Tr_best_64 rfl (Or.inl ⟨_, rfl⟩)
def f_Tr_best (a : Nat) (x1 : Int32) (x2 : Int32) (x3 : Int32) : sn_M := g_R 8 0 (some a) fun v4 => n_n 5 v4 fun a5 => c_I (f_Pl_setSize a5 x1 x2) fun v6 => n_I ((((x1 * (6 : Int32)) + x2) * (4 : Int32))) fun n7 => f_Tr_best_24 a sn_fuel x3 v6 n7 (0 : Int32)
set_option maxHeartbeats 4000000 in
set_option maxRecDepth 100000 in
theorem mono_Tr_best (a : Nat) (x1 : Int32) (x2 : Int32) (x3 : Int32) : sn_Mono (f_Tr_best a x1 x2 x3) := sn_Mono.gR (fun v4 => sn_Mono.nn (fun a5 => sn_Mono.cI (mono_Pl_setSize a5 x1 x2) (fun v6 => sn_Mono.nI (fun n7 => mono_Tr_best_24 a sn_fuel x3 v6 n7 (0 : Int32)))))
set_option maxHeartbeats 4000000 in
set_option maxRecDepth 100000 in
theorem con_Tr_best (a : Nat) (x1 : Int32) (x2 : Int32) (x3 : Int32) : sn_Con y_Tr_best c_Tr_best 8 (some (.object "SignalNetwork$End")) 1 22 [vA (some a), vI x1, vI x2, vI x3] (f_Tr_best a x1 x2 x3) := by
  refine sn_Con.of (by decide +kernel) (by show _ ≤ _; exact Nat.le_of_ble_eq_true rfl) (mono_Tr_best a x1 x2 x3) (fun X C => ?_)
  show sn_S X 0 [(0, vA (some a)), (1, vI x1), (2, vI x2), (3, vI x3)] [] _
  replace C : sn_Cx X c_Tr_best "SignalNetwork$Transfer" (some (.object "SignalNetwork$End")) "best" 8 1 22 := C
  unfold f_Tr_best
  refine r_aload_n (q := 1) (i := 0) (pl := 0) C d_Tr_best_0 rfl rfl rfl ?_
  refine r_gR (q := 4) C d_Tr_best_1 rfl F_Tr_34 rfl (fun v4 => ?_)
  refine r_iload_n (q := 5) (i := 1) (pl := 1) C d_Tr_best_4 rfl rfl rfl ?_
  refine r_iload_n (q := 6) (i := 2) (pl := 2) C d_Tr_best_5 rfl rfl rfl ?_
  refine r_cvI (q := 9) (As := [vI x1, vI x2]) (st := []) (cy := 4) C d_Tr_best_6 rfl Y_Pl_setSize L_Tr_61 I_Pl_setSize Se_Pl_setSize rfl (by decide) rfl (Nat.le_of_ble_eq_true rfl) (Nat.le_of_ble_eq_true rfl) (Nat.le_of_ble_eq_true rfl) rfl (fun a5 => con_Pl_setSize a5 x1 x2) (fun v6 => ?_)
  refine r_istore (q := 11) (i := 4) (lv' := [(4, vI v6), (0, vA (some a)), (1, vI x1), (2, vI x2), (3, vI x3)]) C d_Tr_best_9 rfl (by decide) rfl ?_
  refine r_iload_n (q := 12) (i := 1) (pl := 2) C d_Tr_best_11 rfl rfl rfl ?_
  refine r_bipush (q := 14) (v := 6) C d_Tr_best_12 rfl (by decide) ?_
  refine r_imul (q := 15) C d_Tr_best_14 rfl ?_
  refine r_iload_n (q := 16) (i := 2) (pl := 3) C d_Tr_best_15 rfl rfl rfl ?_
  refine r_iadd (q := 17) C d_Tr_best_16 rfl ?_
  refine r_iconst (q := 18) (v := 4) C d_Tr_best_17 rfl (by decide) ?_
  refine r_imul (q := 19) C d_Tr_best_18 rfl ?_
  refine r_nI (fun n7 => ?_)
  refine r_istore (q := 21) (i := 5) (lv' := [(5, vI n7), (4, vI v6), (0, vA (some a)), (1, vI x1), (2, vI x2), (3, vI x3)]) C d_Tr_best_19 rfl (by decide) rfl ?_
  refine r_iconst (q := 22) (v := 0) C d_Tr_best_21 rfl (by decide) ?_
  refine r_istore (q := 24) (i := 6) (lv' := [(6, vI (0 : Int32)), (5, vI n7), (4, vI v6), (0, vA (some a)), (1, vI x1), (2, vI x2), (3, vI x3)]) C d_Tr_best_22 rfl (by decide) rfl ?_
  refine r_sub (lv' := [(0, vA (some a)), (3, vI x3), (4, vI v6), (5, vI n7), (6, vI (0 : Int32))]) [3, 6, 2, 1, 0] rfl ?_
  exact s_Tr_best_24 C a sn_fuel x3 v6 n7 (0 : Int32)
theorem d_Tr_give_0 : decode c_Tr_give 0 = .ok (.aload_n 1, 1) := by decide +kernel
theorem d_Tr_give_1 : decode c_Tr_give 1 = .ok (.ifnonnull 7, 3) := by decide +kernel
theorem d_Tr_give_4 : decode c_Tr_give 4 = .ok (.aconst_null, 1) := by decide +kernel
theorem d_Tr_give_5 : decode c_Tr_give 5 = .ok (.goto 7, 3) := by decide +kernel
theorem d_Tr_give_8 : decode c_Tr_give 8 = .ok (.aload_n 1, 1) := by decide +kernel
theorem d_Tr_give_9 : decode c_Tr_give 9 = .ok (.invokevirtual 217, 3) := by decide +kernel
theorem d_Tr_give_12 : decode c_Tr_give 12 = .ok (.astore 4, 2) := by decide +kernel
theorem d_Tr_give_14 : decode c_Tr_give 14 = .ok (.aload 4, 2) := by decide +kernel
theorem d_Tr_give_16 : decode c_Tr_give 16 = .ok (.ifnull 12, 3) := by decide +kernel
theorem d_Tr_give_19 : decode c_Tr_give 19 = .ok (.aload 4, 2) := by decide +kernel
theorem d_Tr_give_21 : decode c_Tr_give 21 = .ok (.lload_n 2, 1) := by decide +kernel
theorem d_Tr_give_22 : decode c_Tr_give 22 = .ok (.invokevirtual 221, 3) := by decide +kernel
theorem d_Tr_give_25 : decode c_Tr_give 25 = .ok (.ifCond .ne 13, 3) := by decide +kernel
theorem d_Tr_give_28 : decode c_Tr_give 28 = .ok (.aload_n 0, 1) := by decide +kernel
theorem d_Tr_give_29 : decode c_Tr_give 29 = .ok (.dup, 1) := by decide +kernel
theorem d_Tr_give_30 : decode c_Tr_give 30 = .ok (.getfield 195, 3) := by decide +kernel
theorem d_Tr_give_33 : decode c_Tr_give 33 = .ok (.iconst 1, 1) := by decide +kernel
theorem d_Tr_give_34 : decode c_Tr_give 34 = .ok (.iadd, 1) := by decide +kernel
theorem d_Tr_give_35 : decode c_Tr_give 35 = .ok (.putfield 195, 3) := by decide +kernel
theorem d_Tr_give_38 : decode c_Tr_give 38 = .ok (.return_, 1) := by decide +kernel
def f_Tr_give_38 (a : Nat) : sn_M := r_V
set_option maxHeartbeats 4000000 in
set_option maxRecDepth 100000 in
theorem mono_Tr_give_38 (a : Nat) : sn_Mono (f_Tr_give_38 a) := sn_Mono.rV
set_option maxHeartbeats 4000000 in
set_option maxRecDepth 100000 in
theorem s_Tr_give_38 {X : sn_X} (C : sn_Cx X c_Tr_give "SignalNetwork$Transfer" none "give" 5 1 23) (a : Nat) : sn_S X 38 [(0, vA (some a))] [] (f_Tr_give_38 a) := by
  unfold f_Tr_give_38
  exact r_vret C d_Tr_give_38 rfl
def f_Tr_give_28 (a : Nat) : sn_M := g_I 8 7 (some a) fun v1 => p_I 8 7 (some a) (v1 + (1 : Int32)) (f_Tr_give_38 a)
set_option maxHeartbeats 4000000 in
set_option maxRecDepth 100000 in
theorem mono_Tr_give_28 (a : Nat) : sn_Mono (f_Tr_give_28 a) := sn_Mono.gI (fun v1 => sn_Mono.pI (mono_Tr_give_38 a))
set_option maxHeartbeats 4000000 in
set_option maxRecDepth 100000 in
theorem s_Tr_give_28 {X : sn_X} (C : sn_Cx X c_Tr_give "SignalNetwork$Transfer" none "give" 5 1 23) (a : Nat) : sn_S X 28 [(0, vA (some a))] [] (f_Tr_give_28 a) := by
  unfold f_Tr_give_28
  refine r_aload_n (q := 29) (i := 0) (pl := 0) C d_Tr_give_28 rfl rfl rfl ?_
  refine r_dup (q := 30) C d_Tr_give_29 rfl rfl ?_
  refine r_gI (q := 33) C d_Tr_give_30 rfl F_Tr_195 rfl (fun v1 => ?_)
  refine r_iconst (q := 34) (v := 1) C d_Tr_give_33 rfl (by decide) ?_
  refine r_iadd (q := 35) C d_Tr_give_34 rfl ?_
  refine r_pI (q := 38) C d_Tr_give_35 rfl F_Tr_195 rfl rfl (Or.inl rfl) ?_
  exact s_Tr_give_38 C a
def f_Tr_give_12 (a : Nat) (l2 : Int64) (t0 : Option Nat) : sn_M := (if t0 = none then f_Tr_give_28 a else n_n 6 t0 fun a2 => c_I (f_Qu_add a2 l2) fun v3 => (if ¬ v3 = 0 then f_Tr_give_38 a else f_Tr_give_28 a))
set_option maxHeartbeats 4000000 in
set_option maxRecDepth 100000 in
theorem mono_Tr_give_12 (a : Nat) (l2 : Int64) (t0 : Option Nat) : sn_Mono (f_Tr_give_12 a l2 t0) := sn_Mono.ite (mono_Tr_give_28 a) (sn_Mono.nn (fun a2 => sn_Mono.cI (mono_Qu_add a2 l2) (fun v3 => sn_Mono.ite (mono_Tr_give_38 a) (mono_Tr_give_28 a))))
set_option maxHeartbeats 4000000 in
set_option maxRecDepth 100000 in
theorem s_Tr_give_12 {X : sn_X} (C : sn_Cx X c_Tr_give "SignalNetwork$Transfer" none "give" 5 1 23) (a : Nat) (l2 : Int64) (t0 : Option Nat) : sn_S X 12 [(0, vA (some a)), (2, vJ l2)] [vA t0] (f_Tr_give_12 a l2 t0) := by
  unfold f_Tr_give_12
  refine r_astore (q := 14) (i := 4) (lv' := [(4, vA t0), (0, vA (some a)), (2, vJ l2)]) C d_Tr_give_12 rfl (by decide) rfl ?_
  refine r_aload (q := 16) (i := 4) (pl := 0) C d_Tr_give_14 rfl rfl ?_
  refine r_ifnull (tgt := 28) (q := 19) C d_Tr_give_16 (by decide) rfl ?_ ?_
  · refine r_sub (lv' := [(0, vA (some a))]) [1] rfl ?_
    exact s_Tr_give_28 C a
  · refine r_aload (q := 21) (i := 4) (pl := 0) C d_Tr_give_19 rfl rfl ?_
    refine r_lload_n (q := 22) (i := 2) (pl := 2) C d_Tr_give_21 rfl rfl rfl ?_
    refine r_cvI (q := 25) (As := [vJ l2]) (st := []) (cy := 5) C d_Tr_give_22 rfl Y_Qu_add L_Tr_221 I_Qu_add Se_Qu_add rfl (by decide) rfl (Nat.le_of_ble_eq_true rfl) (Nat.le_of_ble_eq_true rfl) (Nat.le_of_ble_eq_true rfl) rfl (fun a2 => con_Qu_add a2 l2) (fun v3 => ?_)
    refine r_if_ne (tgt := 38) (q := 28) C d_Tr_give_25 (by decide) rfl ?_ ?_
    · refine r_sub (lv' := [(0, vA (some a))]) [1] rfl ?_
      exact s_Tr_give_38 C a
    · refine r_sub (lv' := [(0, vA (some a))]) [1] rfl ?_
      exact s_Tr_give_28 C a
def f_Tr_give (a : Nat) (r1 : Option Nat) (l2 : Int64) : sn_M := (if ¬ r1 = none then n_n 3 r1 fun a4 => c_R (f_Fl_place a4) fun v5 => f_Tr_give_12 a l2 v5 else f_Tr_give_12 a l2 none)
set_option maxHeartbeats 4000000 in
set_option maxRecDepth 100000 in
theorem mono_Tr_give (a : Nat) (r1 : Option Nat) (l2 : Int64) : sn_Mono (f_Tr_give a r1 l2) := sn_Mono.ite (sn_Mono.nn (fun a4 => sn_Mono.cR (mono_Fl_place a4) (fun v5 => mono_Tr_give_12 a l2 v5))) (mono_Tr_give_12 a l2 none)
set_option maxHeartbeats 4000000 in
set_option maxRecDepth 100000 in
theorem con_Tr_give (a : Nat) (r1 : Option Nat) (l2 : Int64) : sn_Con y_Tr_give c_Tr_give 5 none 1 23 [vA (some a), vA r1, vJ l2] (f_Tr_give a r1 l2) := by
  refine sn_Con.of (by decide +kernel) (by show _ ≤ _; exact Nat.le_of_ble_eq_true rfl) (mono_Tr_give a r1 l2) (fun X C => ?_)
  show sn_S X 0 [(0, vA (some a)), (1, vA r1), (2, vJ l2)] [] _
  replace C : sn_Cx X c_Tr_give "SignalNetwork$Transfer" none "give" 5 1 23 := C
  unfold f_Tr_give
  refine r_aload_n (q := 1) (i := 1) (pl := 1) C d_Tr_give_0 rfl rfl rfl ?_
  refine r_ifnonnull (tgt := 8) (q := 4) C d_Tr_give_1 (by decide) rfl ?_ ?_
  · refine r_aload_n (q := 9) (i := 1) (pl := 1) C d_Tr_give_8 rfl rfl rfl ?_
    refine r_cvR (q := 12) (As := []) (st := []) (cy := 2) C d_Tr_give_9 rfl Y_Fl_place L_Tr_217 I_Fl_place Se_Fl_place rfl (by decide) rfl (Nat.le_of_ble_eq_true rfl) (Nat.le_of_ble_eq_true rfl) (Nat.le_of_ble_eq_true rfl) rfl (fun a4 => con_Fl_place a4) (fun v5 => ?_)
    refine r_sub (lv' := [(0, vA (some a)), (2, vJ l2)]) [0, 2] rfl ?_
    exact s_Tr_give_12 C a l2 v5
  · refine r_null (q := 5) C d_Tr_give_4 rfl ?_
    refine r_goto (tgt := 12) C d_Tr_give_5 (by decide) ?_
    refine r_sub (lv' := [(0, vA (some a)), (2, vJ l2)]) [0, 2] rfl ?_
    exact s_Tr_give_12 C a l2 none
theorem d_Tr_waitAt_0 : decode c_Tr_waitAt 0 = .ok (.aload_n 1, 1) := by decide +kernel
theorem d_Tr_waitAt_1 : decode c_Tr_waitAt 1 = .ok (.getfield 145, 3) := by decide +kernel
theorem d_Tr_waitAt_4 : decode c_Tr_waitAt 4 = .ok (.getfield 227, 3) := by decide +kernel
theorem d_Tr_waitAt_7 : decode c_Tr_waitAt 7 = .ok (.lload_n 2, 1) := by decide +kernel
theorem d_Tr_waitAt_8 : decode c_Tr_waitAt 8 = .ok (.invokevirtual 221, 3) := by decide +kernel
theorem d_Tr_waitAt_11 : decode c_Tr_waitAt 11 = .ok (.ifCond .ne 13, 3) := by decide +kernel
theorem d_Tr_waitAt_14 : decode c_Tr_waitAt 14 = .ok (.aload_n 0, 1) := by decide +kernel
theorem d_Tr_waitAt_15 : decode c_Tr_waitAt 15 = .ok (.dup, 1) := by decide +kernel
theorem d_Tr_waitAt_16 : decode c_Tr_waitAt 16 = .ok (.getfield 195, 3) := by decide +kernel
theorem d_Tr_waitAt_19 : decode c_Tr_waitAt 19 = .ok (.iconst 1, 1) := by decide +kernel
theorem d_Tr_waitAt_20 : decode c_Tr_waitAt 20 = .ok (.iadd, 1) := by decide +kernel
theorem d_Tr_waitAt_21 : decode c_Tr_waitAt 21 = .ok (.putfield 195, 3) := by decide +kernel
theorem d_Tr_waitAt_24 : decode c_Tr_waitAt 24 = .ok (.return_, 1) := by decide +kernel
def f_Tr_waitAt_24 (a : Nat) : sn_M := r_V
set_option maxHeartbeats 4000000 in
set_option maxRecDepth 100000 in
theorem mono_Tr_waitAt_24 (a : Nat) : sn_Mono (f_Tr_waitAt_24 a) := sn_Mono.rV
set_option maxHeartbeats 4000000 in
set_option maxRecDepth 100000 in
theorem s_Tr_waitAt_24 {X : sn_X} (C : sn_Cx X c_Tr_waitAt "SignalNetwork$Transfer" none "waitAt" 4 1 23) (a : Nat) : sn_S X 24 [(0, vA (some a))] [] (f_Tr_waitAt_24 a) := by
  unfold f_Tr_waitAt_24
  exact r_vret C d_Tr_waitAt_24 rfl
def f_Tr_waitAt (a : Nat) (r1 : Option Nat) (l2 : Int64) : sn_M := g_R 2 4 r1 fun v1 => g_R 10 8 v1 fun v2 => n_n 6 v2 fun a3 => c_I (f_Qu_add a3 l2) fun v4 => (if ¬ v4 = 0 then f_Tr_waitAt_24 a else g_I 8 7 (some a) fun v5 => p_I 8 7 (some a) (v5 + (1 : Int32)) (f_Tr_waitAt_24 a))
set_option maxHeartbeats 4000000 in
set_option maxRecDepth 100000 in
theorem mono_Tr_waitAt (a : Nat) (r1 : Option Nat) (l2 : Int64) : sn_Mono (f_Tr_waitAt a r1 l2) := sn_Mono.gR (fun v1 => sn_Mono.gR (fun v2 => sn_Mono.nn (fun a3 => sn_Mono.cI (mono_Qu_add a3 l2) (fun v4 => sn_Mono.ite (mono_Tr_waitAt_24 a) (sn_Mono.gI (fun v5 => sn_Mono.pI (mono_Tr_waitAt_24 a)))))))
set_option maxHeartbeats 4000000 in
set_option maxRecDepth 100000 in
theorem con_Tr_waitAt (a : Nat) (r1 : Option Nat) (l2 : Int64) : sn_Con y_Tr_waitAt c_Tr_waitAt 4 none 1 23 [vA (some a), vA r1, vJ l2] (f_Tr_waitAt a r1 l2) := by
  refine sn_Con.of (by decide +kernel) (by show _ ≤ _; exact Nat.le_of_ble_eq_true rfl) (mono_Tr_waitAt a r1 l2) (fun X C => ?_)
  show sn_S X 0 [(0, vA (some a)), (1, vA r1), (2, vJ l2)] [] _
  replace C : sn_Cx X c_Tr_waitAt "SignalNetwork$Transfer" none "waitAt" 4 1 23 := C
  unfold f_Tr_waitAt
  refine r_aload_n (q := 1) (i := 1) (pl := 1) C d_Tr_waitAt_0 rfl rfl rfl ?_
  refine r_gR (q := 4) C d_Tr_waitAt_1 rfl F_Tr_145 rfl (fun v1 => ?_)
  refine r_gR (q := 7) C d_Tr_waitAt_4 rfl F_Tr_227 rfl (fun v2 => ?_)
  refine r_lload_n (q := 8) (i := 2) (pl := 2) C d_Tr_waitAt_7 rfl rfl rfl ?_
  refine r_cvI (q := 11) (As := [vJ l2]) (st := []) (cy := 5) C d_Tr_waitAt_8 rfl Y_Qu_add L_Tr_221 I_Qu_add Se_Qu_add rfl (by decide) rfl (Nat.le_of_ble_eq_true rfl) (Nat.le_of_ble_eq_true rfl) (Nat.le_of_ble_eq_true rfl) rfl (fun a3 => con_Qu_add a3 l2) (fun v4 => ?_)
  refine r_if_ne (tgt := 24) (q := 14) C d_Tr_waitAt_11 (by decide) rfl ?_ ?_
  · refine r_sub (lv' := [(0, vA (some a))]) [0] rfl ?_
    exact s_Tr_waitAt_24 C a
  · refine r_aload_n (q := 15) (i := 0) (pl := 0) C d_Tr_waitAt_14 rfl rfl rfl ?_
    refine r_dup (q := 16) C d_Tr_waitAt_15 rfl rfl ?_
    refine r_gI (q := 19) C d_Tr_waitAt_16 rfl F_Tr_195 rfl (fun v5 => ?_)
    refine r_iconst (q := 20) (v := 1) C d_Tr_waitAt_19 rfl (by decide) ?_
    refine r_iadd (q := 21) C d_Tr_waitAt_20 rfl ?_
    refine r_pI (q := 24) C d_Tr_waitAt_21 rfl F_Tr_195 rfl rfl (Or.inl rfl) ?_
    refine r_sub (lv' := [(0, vA (some a))]) [0] rfl ?_
    exact s_Tr_waitAt_24 C a
theorem d_Tr_goOtherWay_0 : decode c_Tr_goOtherWay 0 = .ok (.aload_n 0, 1) := by decide +kernel
theorem d_Tr_goOtherWay_1 : decode c_Tr_goOtherWay 1 = .ok (.iload_n 1, 1) := by decide +kernel
theorem d_Tr_goOtherWay_2 : decode c_Tr_goOtherWay 2 = .ok (.iload_n 2, 1) := by decide +kernel
theorem d_Tr_goOtherWay_3 : decode c_Tr_goOtherWay 3 = .ok (.iconst 0, 1) := by decide +kernel
theorem d_Tr_goOtherWay_4 : decode c_Tr_goOtherWay 4 = .ok (.invokevirtual 108, 3) := by decide +kernel
theorem d_Tr_goOtherWay_7 : decode c_Tr_goOtherWay 7 = .ok (.astore 5, 2) := by decide +kernel
theorem d_Tr_goOtherWay_9 : decode c_Tr_goOtherWay 9 = .ok (.aload 5, 2) := by decide +kernel
theorem d_Tr_goOtherWay_11 : decode c_Tr_goOtherWay 11 = .ok (.ifnull 13, 3) := by decide +kernel
theorem d_Tr_goOtherWay_14 : decode c_Tr_goOtherWay 14 = .ok (.aload_n 0, 1) := by decide +kernel
theorem d_Tr_goOtherWay_15 : decode c_Tr_goOtherWay 15 = .ok (.aload 5, 2) := by decide +kernel
theorem d_Tr_goOtherWay_17 : decode c_Tr_goOtherWay 17 = .ok (.lload_n 3, 1) := by decide +kernel
theorem d_Tr_goOtherWay_18 : decode c_Tr_goOtherWay 18 = .ok (.invokevirtual 231, 3) := by decide +kernel
theorem d_Tr_goOtherWay_21 : decode c_Tr_goOtherWay 21 = .ok (.goto 19, 3) := by decide +kernel
theorem d_Tr_goOtherWay_24 : decode c_Tr_goOtherWay 24 = .ok (.aload_n 0, 1) := by decide +kernel
theorem d_Tr_goOtherWay_25 : decode c_Tr_goOtherWay 25 = .ok (.aload_n 0, 1) := by decide +kernel
theorem d_Tr_goOtherWay_26 : decode c_Tr_goOtherWay 26 = .ok (.iload_n 1, 1) := by decide +kernel
theorem d_Tr_goOtherWay_27 : decode c_Tr_goOtherWay 27 = .ok (.iload_n 2, 1) := by decide +kernel
theorem d_Tr_goOtherWay_28 : decode c_Tr_goOtherWay 28 = .ok (.lload_n 3, 1) := by decide +kernel
theorem d_Tr_goOtherWay_29 : decode c_Tr_goOtherWay 29 = .ok (.invokestatic 198, 3) := by decide +kernel
theorem d_Tr_goOtherWay_32 : decode c_Tr_goOtherWay 32 = .ok (.iload_n 2, 1) := by decide +kernel
theorem d_Tr_goOtherWay_33 : decode c_Tr_goOtherWay 33 = .ok (.invokevirtual 72, 3) := by decide +kernel
theorem d_Tr_goOtherWay_36 : decode c_Tr_goOtherWay 36 = .ok (.lload_n 3, 1) := by decide +kernel
theorem d_Tr_goOtherWay_37 : decode c_Tr_goOtherWay 37 = .ok (.invokevirtual 201, 3) := by decide +kernel
theorem d_Tr_goOtherWay_40 : decode c_Tr_goOtherWay 40 = .ok (.return_, 1) := by decide +kernel
def f_Tr_goOtherWay_40 (a : Nat) : sn_M := r_V
set_option maxHeartbeats 4000000 in
set_option maxRecDepth 100000 in
theorem mono_Tr_goOtherWay_40 (a : Nat) : sn_Mono (f_Tr_goOtherWay_40 a) := sn_Mono.rV
set_option maxHeartbeats 4000000 in
set_option maxRecDepth 100000 in
theorem s_Tr_goOtherWay_40 {X : sn_X} (C : sn_Cx X c_Tr_goOtherWay "SignalNetwork$Transfer" none "goOtherWay" 6 2 52) (a : Nat) : sn_S X 40 [(0, vA (some a))] [] (f_Tr_goOtherWay_40 a) := by
  unfold f_Tr_goOtherWay_40
  exact r_vret C d_Tr_goOtherWay_40 rfl
def f_Tr_goOtherWay (a : Nat) (x1 : Int32) (x2 : Int32) (l3 : Int64) : sn_M := n_n 8 (some a) fun a1 => c_R (f_Tr_best a1 x1 x2 (0 : Int32)) fun v2 => (if v2 = none then c_I (f_Ms_lane l3) fun v3 => n_n 8 (some a) fun a4 => c_R (f_Tr_wayTo a4 x1 x2 v3 x2) fun v5 => n_n 8 (some a) fun a6 => c_V (f_Tr_give a6 v5 l3) (f_Tr_goOtherWay_40 a) else n_n 8 (some a) fun a8 => c_V (f_Tr_waitAt a8 v2 l3) (f_Tr_goOtherWay_40 a))
set_option maxHeartbeats 4000000 in
set_option maxRecDepth 100000 in
theorem mono_Tr_goOtherWay (a : Nat) (x1 : Int32) (x2 : Int32) (l3 : Int64) : sn_Mono (f_Tr_goOtherWay a x1 x2 l3) := sn_Mono.nn (fun a1 => sn_Mono.cR (mono_Tr_best a1 x1 x2 (0 : Int32)) (fun v2 => sn_Mono.ite (sn_Mono.cI (mono_Ms_lane l3) (fun v3 => sn_Mono.nn (fun a4 => sn_Mono.cR (mono_Tr_wayTo a4 x1 x2 v3 x2) (fun v5 => sn_Mono.nn (fun a6 => sn_Mono.cV (mono_Tr_give a6 v5 l3) (mono_Tr_goOtherWay_40 a)))))) (sn_Mono.nn (fun a8 => sn_Mono.cV (mono_Tr_waitAt a8 v2 l3) (mono_Tr_goOtherWay_40 a)))))
set_option maxHeartbeats 4000000 in
set_option maxRecDepth 100000 in
theorem con_Tr_goOtherWay (a : Nat) (x1 : Int32) (x2 : Int32) (l3 : Int64) : sn_Con y_Tr_goOtherWay c_Tr_goOtherWay 6 none 2 52 [vA (some a), vI x1, vI x2, vJ l3] (f_Tr_goOtherWay a x1 x2 l3) := by
  refine sn_Con.of (by decide +kernel) (by show _ ≤ _; exact Nat.le_of_ble_eq_true rfl) (mono_Tr_goOtherWay a x1 x2 l3) (fun X C => ?_)
  show sn_S X 0 [(0, vA (some a)), (1, vI x1), (2, vI x2), (3, vJ l3)] [] _
  replace C : sn_Cx X c_Tr_goOtherWay "SignalNetwork$Transfer" none "goOtherWay" 6 2 52 := C
  unfold f_Tr_goOtherWay
  refine r_aload_n (q := 1) (i := 0) (pl := 0) C d_Tr_goOtherWay_0 rfl rfl rfl ?_
  refine r_iload_n (q := 2) (i := 1) (pl := 1) C d_Tr_goOtherWay_1 rfl rfl rfl ?_
  refine r_iload_n (q := 3) (i := 2) (pl := 2) C d_Tr_goOtherWay_2 rfl rfl rfl ?_
  refine r_iconst (q := 4) (v := 0) C d_Tr_goOtherWay_3 rfl (by decide) ?_
  refine r_cvR (q := 7) (As := [vI x1, vI x2, vI (0 : Int32)]) (st := []) (cy := 7) C d_Tr_goOtherWay_4 rfl Y_Tr_best L_Tr_108 I_Tr_best Se_Tr_best rfl (by decide) rfl (Nat.le_of_ble_eq_true rfl) (Nat.le_of_ble_eq_true rfl) (Nat.le_of_ble_eq_true rfl) rfl (fun a1 => con_Tr_best a1 x1 x2 (0 : Int32)) (fun v2 => ?_)
  refine r_astore (q := 9) (i := 5) (lv' := [(5, vA v2), (0, vA (some a)), (1, vI x1), (2, vI x2), (3, vJ l3)]) C d_Tr_goOtherWay_7 rfl (by decide) rfl ?_
  refine r_aload (q := 11) (i := 5) (pl := 0) C d_Tr_goOtherWay_9 rfl rfl ?_
  refine r_ifnull (tgt := 24) (q := 14) C d_Tr_goOtherWay_11 (by decide) rfl ?_ ?_
  · refine r_aload_n (q := 25) (i := 0) (pl := 1) C d_Tr_goOtherWay_24 rfl rfl rfl ?_
    refine r_aload_n (q := 26) (i := 0) (pl := 1) C d_Tr_goOtherWay_25 rfl rfl rfl ?_
    refine r_iload_n (q := 27) (i := 1) (pl := 2) C d_Tr_goOtherWay_26 rfl rfl rfl ?_
    refine r_iload_n (q := 28) (i := 2) (pl := 3) C d_Tr_goOtherWay_27 rfl rfl rfl ?_
    refine r_lload_n (q := 29) (i := 3) (pl := 4) C d_Tr_goOtherWay_28 rfl rfl rfl ?_
    refine r_csI (q := 32) (As := [vJ l3]) (st := [vI x2, vI x1, vA (some a), vA (some a)]) C d_Tr_goOtherWay_29 rfl Y_Ms_lane L_Tr_198 St_Ms_lane rfl (Nat.le_of_ble_eq_true rfl) (Nat.le_of_ble_eq_true rfl) (Nat.le_of_ble_eq_true rfl) rfl (con_Ms_lane l3) (fun v3 => ?_)
    refine r_iload_n (q := 33) (i := 2) (pl := 3) C d_Tr_goOtherWay_32 rfl rfl rfl ?_
    refine r_cvR (q := 36) (As := [vI x1, vI x2, vI v3, vI x2]) (st := [vA (some a)]) (cy := 7) C d_Tr_goOtherWay_33 rfl Y_Tr_wayTo L_Tr_72 I_Tr_wayTo Se_Tr_wayTo rfl (by decide) rfl (Nat.le_of_ble_eq_true rfl) (Nat.le_of_ble_eq_true rfl) (Nat.le_of_ble_eq_true rfl) rfl (fun a4 => con_Tr_wayTo a4 x1 x2 v3 x2) (fun v5 => ?_)
    refine r_lload_n (q := 37) (i := 3) (pl := 4) C d_Tr_goOtherWay_36 rfl rfl rfl ?_
    refine r_cvV (q := 40) (As := [vA v5, vJ l3]) (st := []) (cy := 7) C d_Tr_goOtherWay_37 rfl Y_Tr_give L_Tr_201 I_Tr_give Se_Tr_give rfl (by decide) rfl (Nat.le_of_ble_eq_true rfl) (Nat.le_of_ble_eq_true rfl) (Nat.le_of_ble_eq_true rfl) rfl (fun a6 => con_Tr_give a6 v5 l3) ?_
    refine r_sub (lv' := [(0, vA (some a))]) [1] rfl ?_
    exact s_Tr_goOtherWay_40 C a
  · refine r_aload_n (q := 15) (i := 0) (pl := 1) C d_Tr_goOtherWay_14 rfl rfl rfl ?_
    refine r_aload (q := 17) (i := 5) (pl := 0) C d_Tr_goOtherWay_15 rfl rfl ?_
    refine r_lload_n (q := 18) (i := 3) (pl := 4) C d_Tr_goOtherWay_17 rfl rfl rfl ?_
    refine r_cvV (q := 21) (As := [vA v2, vJ l3]) (st := []) (cy := 7) C d_Tr_goOtherWay_18 rfl Y_Tr_waitAt L_Tr_231 I_Tr_waitAt Se_Tr_waitAt rfl (by decide) rfl (Nat.le_of_ble_eq_true rfl) (Nat.le_of_ble_eq_true rfl) (Nat.le_of_ble_eq_true rfl) rfl (fun a8 => con_Tr_waitAt a8 v2 l3) ?_
    refine r_goto (tgt := 40) C d_Tr_goOtherWay_21 (by decide) ?_
    refine r_sub (lv' := [(0, vA (some a))]) [1] rfl ?_
    exact s_Tr_goOtherWay_40 C a
theorem d_Tr_look_0 : decode c_Tr_look 0 = .ok (.iconst 0, 1) := by decide +kernel
theorem d_Tr_look_1 : decode c_Tr_look 1 = .ok (.istore_n 2, 1) := by decide +kernel
theorem d_Tr_look_2 : decode c_Tr_look 2 = .ok (.iload_n 2, 1) := by decide +kernel
theorem d_Tr_look_3 : decode c_Tr_look 3 = .ok (.bipush 36, 2) := by decide +kernel
theorem d_Tr_look_5 : decode c_Tr_look 5 = .ok (.if_icmp .ge 134, 3) := by decide +kernel
theorem d_Tr_look_8 : decode c_Tr_look 8 = .ok (.iload_n 2, 1) := by decide +kernel
theorem d_Tr_look_9 : decode c_Tr_look 9 = .ok (.bipush 6, 2) := by decide +kernel
theorem d_Tr_look_11 : decode c_Tr_look 11 = .ok (.idiv, 1) := by decide +kernel
theorem d_Tr_look_12 : decode c_Tr_look 12 = .ok (.istore_n 3, 1) := by decide +kernel
theorem d_Tr_look_13 : decode c_Tr_look 13 = .ok (.iload_n 2, 1) := by decide +kernel
theorem d_Tr_look_14 : decode c_Tr_look 14 = .ok (.bipush 6, 2) := by decide +kernel
theorem d_Tr_look_16 : decode c_Tr_look 16 = .ok (.irem, 1) := by decide +kernel
theorem d_Tr_look_17 : decode c_Tr_look 17 = .ok (.istore 4, 2) := by decide +kernel
theorem d_Tr_look_19 : decode c_Tr_look 19 = .ok (.aload_n 0, 1) := by decide +kernel
theorem d_Tr_look_20 : decode c_Tr_look 20 = .ok (.iload_n 1, 1) := by decide +kernel
theorem d_Tr_look_21 : decode c_Tr_look 21 = .ok (.iload 4, 2) := by decide +kernel
theorem d_Tr_look_23 : decode c_Tr_look 23 = .ok (.iconst 0, 1) := by decide +kernel
theorem d_Tr_look_24 : decode c_Tr_look 24 = .ok (.invokevirtual 210, 3) := by decide +kernel
theorem d_Tr_look_27 : decode c_Tr_look 27 = .ok (.astore 5, 2) := by decide +kernel
theorem d_Tr_look_29 : decode c_Tr_look 29 = .ok (.aload 5, 2) := by decide +kernel
theorem d_Tr_look_31 : decode c_Tr_look 31 = .ok (.ifnull 102, 3) := by decide +kernel
theorem d_Tr_look_34 : decode c_Tr_look 34 = .ok (.aload 5, 2) := by decide +kernel
theorem d_Tr_look_36 : decode c_Tr_look 36 = .ok (.invokevirtual 214, 3) := by decide +kernel
theorem d_Tr_look_39 : decode c_Tr_look 39 = .ok (.ifCond .eq 94, 3) := by decide +kernel
theorem d_Tr_look_42 : decode c_Tr_look 42 = .ok (.iload_n 3, 1) := by decide +kernel
theorem d_Tr_look_43 : decode c_Tr_look 43 = .ok (.iload_n 1, 1) := by decide +kernel
theorem d_Tr_look_44 : decode c_Tr_look 44 = .ok (.if_icmp .eq 89, 3) := by decide +kernel
theorem d_Tr_look_47 : decode c_Tr_look 47 = .ok (.iload_n 3, 1) := by decide +kernel
theorem d_Tr_look_48 : decode c_Tr_look 48 = .ok (.iload 4, 2) := by decide +kernel
theorem d_Tr_look_50 : decode c_Tr_look 50 = .ok (.if_icmp .ne 6, 3) := by decide +kernel
theorem d_Tr_look_53 : decode c_Tr_look 53 = .ok (.goto 80, 3) := by decide +kernel
theorem d_Tr_look_56 : decode c_Tr_look 56 = .ok (.aload_n 0, 1) := by decide +kernel
theorem d_Tr_look_57 : decode c_Tr_look 57 = .ok (.iload_n 1, 1) := by decide +kernel
theorem d_Tr_look_58 : decode c_Tr_look 58 = .ok (.iload_n 3, 1) := by decide +kernel
theorem d_Tr_look_59 : decode c_Tr_look 59 = .ok (.iconst 0, 1) := by decide +kernel
theorem d_Tr_look_60 : decode c_Tr_look 60 = .ok (.iconst (-1), 1) := by decide +kernel
theorem d_Tr_look_61 : decode c_Tr_look 61 = .ok (.invokevirtual 72, 3) := by decide +kernel
theorem d_Tr_look_64 : decode c_Tr_look 64 = .ok (.astore 6, 2) := by decide +kernel
theorem d_Tr_look_66 : decode c_Tr_look 66 = .ok (.aload 6, 2) := by decide +kernel
theorem d_Tr_look_68 : decode c_Tr_look 68 = .ok (.ifnull 10, 3) := by decide +kernel
theorem d_Tr_look_71 : decode c_Tr_look 71 = .ok (.aload 6, 2) := by decide +kernel
theorem d_Tr_look_73 : decode c_Tr_look 73 = .ok (.aload 5, 2) := by decide +kernel
theorem d_Tr_look_75 : decode c_Tr_look 75 = .ok (.if_acmp .ne 7, 3) := by decide +kernel
theorem d_Tr_look_78 : decode c_Tr_look 78 = .ok (.iconst 5, 1) := by decide +kernel
theorem d_Tr_look_79 : decode c_Tr_look 79 = .ok (.goto 5, 3) := by decide +kernel
theorem d_Tr_look_82 : decode c_Tr_look 82 = .ok (.bipush 6, 2) := by decide +kernel
theorem d_Tr_look_84 : decode c_Tr_look 84 = .ok (.istore 7, 2) := by decide +kernel
theorem d_Tr_look_86 : decode c_Tr_look 86 = .ok (.iload_n 1, 1) := by decide +kernel
theorem d_Tr_look_87 : decode c_Tr_look 87 = .ok (.iload 4, 2) := by decide +kernel
theorem d_Tr_look_89 : decode c_Tr_look 89 = .ok (.iload_n 3, 1) := by decide +kernel
theorem d_Tr_look_90 : decode c_Tr_look 90 = .ok (.invokestatic 83, 3) := by decide +kernel
theorem d_Tr_look_93 : decode c_Tr_look 93 = .ok (.istore 8, 2) := by decide +kernel
theorem d_Tr_look_95 : decode c_Tr_look 95 = .ok (.aload_n 0, 1) := by decide +kernel
theorem d_Tr_look_96 : decode c_Tr_look 96 = .ok (.getfield 30, 3) := by decide +kernel
theorem d_Tr_look_99 : decode c_Tr_look 99 = .ok (.iload 8, 2) := by decide +kernel
theorem d_Tr_look_101 : decode c_Tr_look 101 = .ok (.iaload, 1) := by decide +kernel
theorem d_Tr_look_102 : decode c_Tr_look 102 = .ok (.iload 7, 2) := by decide +kernel
theorem d_Tr_look_104 : decode c_Tr_look 104 = .ok (.if_icmp .eq 29, 3) := by decide +kernel
theorem d_Tr_look_107 : decode c_Tr_look 107 = .ok (.aload_n 0, 1) := by decide +kernel
theorem d_Tr_look_108 : decode c_Tr_look 108 = .ok (.getfield 30, 3) := by decide +kernel
theorem d_Tr_look_111 : decode c_Tr_look 111 = .ok (.iload 8, 2) := by decide +kernel
theorem d_Tr_look_113 : decode c_Tr_look 113 = .ok (.iload 7, 2) := by decide +kernel
theorem d_Tr_look_115 : decode c_Tr_look 115 = .ok (.iastore, 1) := by decide +kernel
theorem d_Tr_look_116 : decode c_Tr_look 116 = .ok (.aload_n 0, 1) := by decide +kernel
theorem d_Tr_look_117 : decode c_Tr_look 117 = .ok (.aload 5, 2) := by decide +kernel
theorem d_Tr_look_119 : decode c_Tr_look 119 = .ok (.iload 7, 2) := by decide +kernel
theorem d_Tr_look_121 : decode c_Tr_look 121 = .ok (.iload_n 1, 1) := by decide +kernel
theorem d_Tr_look_122 : decode c_Tr_look 122 = .ok (.iload 4, 2) := by decide +kernel
theorem d_Tr_look_124 : decode c_Tr_look 124 = .ok (.iconst 0, 1) := by decide +kernel
theorem d_Tr_look_125 : decode c_Tr_look 125 = .ok (.iload_n 3, 1) := by decide +kernel
theorem d_Tr_look_126 : decode c_Tr_look 126 = .ok (.iconst 0, 1) := by decide +kernel
theorem d_Tr_look_127 : decode c_Tr_look 127 = .ok (.invokestatic 255, 3) := by decide +kernel
theorem d_Tr_look_130 : decode c_Tr_look 130 = .ok (.invokevirtual 201, 3) := by decide +kernel
theorem d_Tr_look_133 : decode c_Tr_look 133 = .ok (.iinc 2 1, 3) := by decide +kernel
theorem d_Tr_look_136 : decode c_Tr_look 136 = .ok (.goto (-134), 3) := by decide +kernel
theorem d_Tr_look_139 : decode c_Tr_look 139 = .ok (.return_, 1) := by decide +kernel
def f_Tr_look_133 (k2 : Int32 → Int32 → sn_M) (a : Nat) (x1 : Int32) (x2 : Int32) : sn_M := k2 x1 (x2 + (1 : Int32))
set_option maxHeartbeats 4000000 in
set_option maxRecDepth 100000 in
theorem mono_Tr_look_133 (k2 : Int32 → Int32 → sn_M) (mk2 : ∀ (x1 : Int32) (x2 : Int32), sn_Mono (k2 x1 x2)) (a : Nat) (x1 : Int32) (x2 : Int32) : sn_Mono (f_Tr_look_133 k2 a x1 x2) := mk2 x1 (x2 + (1 : Int32))
set_option maxHeartbeats 4000000 in
set_option maxRecDepth 100000 in
theorem s_Tr_look_133 {X : sn_X} (C : sn_Cx X c_Tr_look "SignalNetwork$Transfer" none "look" 9 2 52) (a : Nat) (k2 : Int32 → Int32 → sn_M) (hk2 : ∀ (x1 : Int32) (x2 : Int32), sn_S X 2 [(0, vA (some a)), (1, vI x1), (2, vI x2)] [] (k2 x1 x2)) (x1 : Int32) (x2 : Int32) : sn_S X 133 [(0, vA (some a)), (1, vI x1), (2, vI x2)] [] (f_Tr_look_133 k2 a x1 x2) := by
  unfold f_Tr_look_133
  refine r_iinc (q := 136) (pl := 2) (v := x2 + (1 : Int32)) (lv' := [(2, vI (x2 + (1 : Int32))), (0, vA (some a)), (1, vI x1)]) C d_Tr_look_133 rfl rfl rfl (by decide) rfl ?_
  refine r_goto (tgt := 2) C d_Tr_look_136 (by decide) ?_
  refine r_sub (lv' := [(0, vA (some a)), (1, vI x1), (2, vI (x2 + (1 : Int32)))]) [1, 2, 0] rfl ?_
  exact hk2 x1 (x2 + (1 : Int32))
def f_Tr_look_84 (k2 : Int32 → Int32 → sn_M) (a : Nat) (x1 : Int32) (x2 : Int32) (x3 : Int32) (x4 : Int32) (r5 : Option Nat) (t0 : Int32) : sn_M := c_I (f_Tr_placeOf x1 x4 x3) fun v1 => g_R 8 6 (some a) fun v2 => a_I 21 v2 v1 fun v3 => (if v3 = t0 then f_Tr_look_133 k2 a x1 x2 else g_R 8 6 (some a) fun v4 => b_I 21 v4 v1 t0 (c_J (f_Ms_of t0 x1 x4 (0 : Int32) x3 (0 : Int32)) fun v5 => n_n 8 (some a) fun a6 => c_V (f_Tr_give a6 r5 v5) (f_Tr_look_133 k2 a x1 x2)))
set_option maxHeartbeats 4000000 in
set_option maxRecDepth 100000 in
theorem mono_Tr_look_84 (k2 : Int32 → Int32 → sn_M) (mk2 : ∀ (x1 : Int32) (x2 : Int32), sn_Mono (k2 x1 x2)) (a : Nat) (x1 : Int32) (x2 : Int32) (x3 : Int32) (x4 : Int32) (r5 : Option Nat) (t0 : Int32) : sn_Mono (f_Tr_look_84 k2 a x1 x2 x3 x4 r5 t0) := sn_Mono.cI (mono_Tr_placeOf x1 x4 x3) (fun v1 => sn_Mono.gR (fun v2 => sn_Mono.aI (fun v3 => sn_Mono.ite (mono_Tr_look_133 k2 mk2 a x1 x2) (sn_Mono.gR (fun v4 => sn_Mono.bI (sn_Mono.cJ (mono_Ms_of t0 x1 x4 (0 : Int32) x3 (0 : Int32)) (fun v5 => sn_Mono.nn (fun a6 => sn_Mono.cV (mono_Tr_give a6 r5 v5) (mono_Tr_look_133 k2 mk2 a x1 x2)))))))))
set_option maxHeartbeats 4000000 in
set_option maxRecDepth 100000 in
theorem s_Tr_look_84 {X : sn_X} (C : sn_Cx X c_Tr_look "SignalNetwork$Transfer" none "look" 9 2 52) (a : Nat) (k2 : Int32 → Int32 → sn_M) (hk2 : ∀ (x1 : Int32) (x2 : Int32), sn_S X 2 [(0, vA (some a)), (1, vI x1), (2, vI x2)] [] (k2 x1 x2)) (x1 : Int32) (x2 : Int32) (x3 : Int32) (x4 : Int32) (r5 : Option Nat) (t0 : Int32) : sn_S X 84 [(0, vA (some a)), (1, vI x1), (2, vI x2), (3, vI x3), (4, vI x4), (5, vA r5)] [vI t0] (f_Tr_look_84 k2 a x1 x2 x3 x4 r5 t0) := by
  unfold f_Tr_look_84
  refine r_istore (q := 86) (i := 7) (lv' := [(7, vI t0), (0, vA (some a)), (1, vI x1), (2, vI x2), (3, vI x3), (4, vI x4), (5, vA r5)]) C d_Tr_look_84 rfl (by decide) rfl ?_
  refine r_iload_n (q := 87) (i := 1) (pl := 2) C d_Tr_look_86 rfl rfl rfl ?_
  refine r_iload (q := 89) (i := 4) (pl := 5) C d_Tr_look_87 rfl rfl ?_
  refine r_iload_n (q := 90) (i := 3) (pl := 4) C d_Tr_look_89 rfl rfl rfl ?_
  refine r_csI (q := 93) (As := [vI x1, vI x4, vI x3]) (st := []) C d_Tr_look_90 rfl Y_Tr_placeOf L_Tr_83 St_Tr_placeOf rfl (Nat.le_of_ble_eq_true rfl) (Nat.le_of_ble_eq_true rfl) (Nat.le_of_ble_eq_true rfl) rfl (con_Tr_placeOf x1 x4 x3) (fun v1 => ?_)
  refine r_istore (q := 95) (i := 8) (lv' := [(8, vI v1), (7, vI t0), (0, vA (some a)), (1, vI x1), (2, vI x2), (3, vI x3), (4, vI x4), (5, vA r5)]) C d_Tr_look_93 rfl (by decide) rfl ?_
  refine r_aload_n (q := 96) (i := 0) (pl := 2) C d_Tr_look_95 rfl rfl rfl ?_
  refine r_gR (q := 99) C d_Tr_look_96 rfl F_Tr_30 rfl (fun v2 => ?_)
  refine r_iload (q := 101) (i := 8) (pl := 0) C d_Tr_look_99 rfl rfl ?_
  refine r_aI (q := 102) C (Or.inl rfl) d_Tr_look_101 rfl (fun v3 => ?_)
  refine r_iload (q := 104) (i := 7) (pl := 1) C d_Tr_look_102 rfl rfl ?_
  refine r_icmp_eq (tgt := 133) (q := 107) C d_Tr_look_104 (by decide) rfl ?_ ?_
  · refine r_sub (lv' := [(0, vA (some a)), (1, vI x1), (2, vI x2)]) [2, 3, 4] rfl ?_
    exact s_Tr_look_133 C a k2 hk2 x1 x2
  · refine r_aload_n (q := 108) (i := 0) (pl := 2) C d_Tr_look_107 rfl rfl rfl ?_
    refine r_gR (q := 111) C d_Tr_look_108 rfl F_Tr_30 rfl (fun v4 => ?_)
    refine r_iload (q := 113) (i := 8) (pl := 0) C d_Tr_look_111 rfl rfl ?_
    refine r_iload (q := 115) (i := 7) (pl := 1) C d_Tr_look_113 rfl rfl ?_
    refine r_bI (q := 116) C (Or.inl rfl) d_Tr_look_115 rfl ?_
    refine r_aload_n (q := 117) (i := 0) (pl := 2) C d_Tr_look_116 rfl rfl rfl ?_
    refine r_aload (q := 119) (i := 5) (pl := 7) C d_Tr_look_117 rfl rfl ?_
    refine r_iload (q := 121) (i := 7) (pl := 1) C d_Tr_look_119 rfl rfl ?_
    refine r_iload_n (q := 122) (i := 1) (pl := 3) C d_Tr_look_121 rfl rfl rfl ?_
    refine r_iload (q := 124) (i := 4) (pl := 6) C d_Tr_look_122 rfl rfl ?_
    refine r_iconst (q := 125) (v := 0) C d_Tr_look_124 rfl (by decide) ?_
    refine r_iload_n (q := 126) (i := 3) (pl := 5) C d_Tr_look_125 rfl rfl rfl ?_
    refine r_iconst (q := 127) (v := 0) C d_Tr_look_126 rfl (by decide) ?_
    refine r_csJ (q := 130) (As := [vI t0, vI x1, vI x4, vI (0 : Int32), vI x3, vI (0 : Int32)]) (st := [vA r5, vA (some a)]) C d_Tr_look_127 rfl Y_Ms_of L_Tr_255 St_Ms_of rfl (Nat.le_of_ble_eq_true rfl) (Nat.le_of_ble_eq_true rfl) (Nat.le_of_ble_eq_true rfl) rfl (con_Ms_of t0 x1 x4 (0 : Int32) x3 (0 : Int32)) (fun v5 => ?_)
    refine r_cvV (q := 133) (As := [vA r5, vJ v5]) (st := []) (cy := 7) C d_Tr_look_130 rfl Y_Tr_give L_Tr_201 I_Tr_give Se_Tr_give rfl (by decide) rfl (Nat.le_of_ble_eq_true rfl) (Nat.le_of_ble_eq_true rfl) (Nat.le_of_ble_eq_true rfl) rfl (fun a6 => con_Tr_give a6 r5 v5) ?_
    refine r_sub (lv' := [(0, vA (some a)), (1, vI x1), (2, vI x2)]) [2, 3, 4] rfl ?_
    exact s_Tr_look_133 C a k2 hk2 x1 x2
def f_Tr_look_78 (k2 : Int32 → Int32 → sn_M) (a : Nat) (x1 : Int32) (x2 : Int32) (x3 : Int32) (x4 : Int32) (r5 : Option Nat) : sn_M := f_Tr_look_84 k2 a x1 x2 x3 x4 r5 (5 : Int32)
set_option maxHeartbeats 4000000 in
set_option maxRecDepth 100000 in
theorem mono_Tr_look_78 (k2 : Int32 → Int32 → sn_M) (mk2 : ∀ (x1 : Int32) (x2 : Int32), sn_Mono (k2 x1 x2)) (a : Nat) (x1 : Int32) (x2 : Int32) (x3 : Int32) (x4 : Int32) (r5 : Option Nat) : sn_Mono (f_Tr_look_78 k2 a x1 x2 x3 x4 r5) := mono_Tr_look_84 k2 mk2 a x1 x2 x3 x4 r5 (5 : Int32)
set_option maxHeartbeats 4000000 in
set_option maxRecDepth 100000 in
theorem s_Tr_look_78 {X : sn_X} (C : sn_Cx X c_Tr_look "SignalNetwork$Transfer" none "look" 9 2 52) (a : Nat) (k2 : Int32 → Int32 → sn_M) (hk2 : ∀ (x1 : Int32) (x2 : Int32), sn_S X 2 [(0, vA (some a)), (1, vI x1), (2, vI x2)] [] (k2 x1 x2)) (x1 : Int32) (x2 : Int32) (x3 : Int32) (x4 : Int32) (r5 : Option Nat) : sn_S X 78 [(0, vA (some a)), (1, vI x1), (2, vI x2), (3, vI x3), (4, vI x4), (5, vA r5)] [] (f_Tr_look_78 k2 a x1 x2 x3 x4 r5) := by
  unfold f_Tr_look_78
  refine r_iconst (q := 79) (v := 5) C d_Tr_look_78 rfl (by decide) ?_
  refine r_goto (tgt := 84) C d_Tr_look_79 (by decide) ?_
  exact s_Tr_look_84 C a k2 hk2 x1 x2 x3 x4 r5 (5 : Int32)
def f_Tr_look_2 (a : Nat) : Nat → Int32 → Int32 → sn_M
  | 0, _, _ => r_0
  | n + 1, x1, x2 => (if (36 : Int32) ≤ x2 then r_V else n_I ((x2 / (6 : Int32))) fun n8 => n_I ((x2 % (6 : Int32))) fun n9 => n_n 8 (some a) fun a10 => c_R (f_Tr_flowTo a10 x1 n9 (0 : Int32)) fun v11 => (if v11 = none then f_Tr_look_133 (f_Tr_look_2 a n) a x1 x2 else n_n 3 v11 fun a12 => c_I (f_Fl_isOpen a12) fun v13 => (if v13 = 0 then f_Tr_look_133 (f_Tr_look_2 a n) a x1 x2 else (if n8 = x1 then f_Tr_look_133 (f_Tr_look_2 a n) a x1 x2 else (if ¬ n8 = n9 then n_n 8 (some a) fun a14 => c_R (f_Tr_wayTo a14 x1 n8 (0 : Int32) (-1 : Int32)) fun v15 => (if v15 = none then f_Tr_look_78 (f_Tr_look_2 a n) a x1 x2 n8 n9 v11 else (if ¬ v15 = v11 then f_Tr_look_84 (f_Tr_look_2 a n) a x1 x2 n8 n9 v11 (6 : Int32) else f_Tr_look_78 (f_Tr_look_2 a n) a x1 x2 n8 n9 v11)) else f_Tr_look_133 (f_Tr_look_2 a n) a x1 x2)))))
set_option maxHeartbeats 4000000 in
set_option maxRecDepth 100000 in
theorem mono_Tr_look_2 (a : Nat) : ∀ (n : Nat) (x1 : Int32) (x2 : Int32), sn_Mono (f_Tr_look_2 a n x1 x2)
  | 0, _, _ => sn_Mono.r0
  | n + 1, x1, x2 => sn_Mono.ite (sn_Mono.rV) (sn_Mono.nI (fun n8 => sn_Mono.nI (fun n9 => sn_Mono.nn (fun a10 => sn_Mono.cR (mono_Tr_flowTo a10 x1 n9 (0 : Int32)) (fun v11 => sn_Mono.ite (mono_Tr_look_133 (f_Tr_look_2 a n) (mono_Tr_look_2 a n) a x1 x2) (sn_Mono.nn (fun a12 => sn_Mono.cI (mono_Fl_isOpen a12) (fun v13 => sn_Mono.ite (mono_Tr_look_133 (f_Tr_look_2 a n) (mono_Tr_look_2 a n) a x1 x2) (sn_Mono.ite (mono_Tr_look_133 (f_Tr_look_2 a n) (mono_Tr_look_2 a n) a x1 x2) (sn_Mono.ite (sn_Mono.nn (fun a14 => sn_Mono.cR (mono_Tr_wayTo a14 x1 n8 (0 : Int32) (-1 : Int32)) (fun v15 => sn_Mono.ite (mono_Tr_look_78 (f_Tr_look_2 a n) (mono_Tr_look_2 a n) a x1 x2 n8 n9 v11) (sn_Mono.ite (mono_Tr_look_84 (f_Tr_look_2 a n) (mono_Tr_look_2 a n) a x1 x2 n8 n9 v11 (6 : Int32)) (mono_Tr_look_78 (f_Tr_look_2 a n) (mono_Tr_look_2 a n) a x1 x2 n8 n9 v11))))) (mono_Tr_look_133 (f_Tr_look_2 a n) (mono_Tr_look_2 a n) a x1 x2)))))))))))
set_option maxHeartbeats 4000000 in
set_option maxRecDepth 100000 in
theorem s_Tr_look_2 {X : sn_X} (C : sn_Cx X c_Tr_look "SignalNetwork$Transfer" none "look" 9 2 52) (a : Nat) (n : Nat) : ∀ (x1 : Int32) (x2 : Int32), sn_S X 2 [(0, vA (some a)), (1, vI x1), (2, vI x2)] [] (f_Tr_look_2 a n x1 x2) := by
  induction n with
  | zero => intro x1 x2; exact sn_S.zero
  | succ n ih =>
    intro x1 x2
    unfold f_Tr_look_2
    refine r_iload_n (q := 3) (i := 2) (pl := 2) C d_Tr_look_2 rfl rfl rfl ?_
    refine r_bipush (q := 5) (v := 36) C d_Tr_look_3 rfl (by decide) ?_
    refine r_icmp_ge (tgt := 139) (q := 8) C d_Tr_look_5 (by decide) rfl ?_ ?_
    · exact r_vret C d_Tr_look_139 rfl
    · refine r_iload_n (q := 9) (i := 2) (pl := 2) C d_Tr_look_8 rfl rfl rfl ?_
      refine r_bipush (q := 11) (v := 6) C d_Tr_look_9 rfl (by decide) ?_
      refine r_idivc (q := 12) C d_Tr_look_11 rfl (by decide) ?_
      refine r_nI (fun n8 => ?_)
      refine r_istore_n (q := 13) (i := 3) (lv' := [(3, vI n8), (0, vA (some a)), (1, vI x1), (2, vI x2)]) C d_Tr_look_12 rfl rfl (by decide) rfl ?_
      refine r_iload_n (q := 14) (i := 2) (pl := 3) C d_Tr_look_13 rfl rfl rfl ?_
      refine r_bipush (q := 16) (v := 6) C d_Tr_look_14 rfl (by decide) ?_
      refine r_iremc (q := 17) C d_Tr_look_16 rfl (by decide) ?_
      refine r_nI (fun n9 => ?_)
      refine r_istore (q := 19) (i := 4) (lv' := [(4, vI n9), (3, vI n8), (0, vA (some a)), (1, vI x1), (2, vI x2)]) C d_Tr_look_17 rfl (by decide) rfl ?_
      refine r_aload_n (q := 20) (i := 0) (pl := 2) C d_Tr_look_19 rfl rfl rfl ?_
      refine r_iload_n (q := 21) (i := 1) (pl := 3) C d_Tr_look_20 rfl rfl rfl ?_
      refine r_iload (q := 23) (i := 4) (pl := 0) C d_Tr_look_21 rfl rfl ?_
      refine r_iconst (q := 24) (v := 0) C d_Tr_look_23 rfl (by decide) ?_
      refine r_cvR (q := 27) (As := [vI x1, vI n9, vI (0 : Int32)]) (st := []) (cy := 7) C d_Tr_look_24 rfl Y_Tr_flowTo L_Tr_210 I_Tr_flowTo Se_Tr_flowTo rfl (by decide) rfl (Nat.le_of_ble_eq_true rfl) (Nat.le_of_ble_eq_true rfl) (Nat.le_of_ble_eq_true rfl) rfl (fun a10 => con_Tr_flowTo a10 x1 n9 (0 : Int32)) (fun v11 => ?_)
      refine r_astore (q := 29) (i := 5) (lv' := [(5, vA v11), (4, vI n9), (3, vI n8), (0, vA (some a)), (1, vI x1), (2, vI x2)]) C d_Tr_look_27 rfl (by decide) rfl ?_
      refine r_aload (q := 31) (i := 5) (pl := 0) C d_Tr_look_29 rfl rfl ?_
      refine r_ifnull (tgt := 133) (q := 34) C d_Tr_look_31 (by decide) rfl ?_ ?_
      · refine r_sub (lv' := [(0, vA (some a)), (1, vI x1), (2, vI x2)]) [3, 4, 5] rfl ?_
        exact s_Tr_look_133 C a (f_Tr_look_2 a n) ih x1 x2
      · refine r_aload (q := 36) (i := 5) (pl := 0) C d_Tr_look_34 rfl rfl ?_
        refine r_cvI (q := 39) (As := []) (st := []) (cy := 2) C d_Tr_look_36 rfl Y_Fl_isOpen L_Tr_214 I_Fl_isOpen Se_Fl_isOpen rfl (by decide) rfl (Nat.le_of_ble_eq_true rfl) (Nat.le_of_ble_eq_true rfl) (Nat.le_of_ble_eq_true rfl) rfl (fun a12 => con_Fl_isOpen a12) (fun v13 => ?_)
        refine r_if_eq (tgt := 133) (q := 42) C d_Tr_look_39 (by decide) rfl ?_ ?_
        · refine r_sub (lv' := [(0, vA (some a)), (1, vI x1), (2, vI x2)]) [3, 4, 5] rfl ?_
          exact s_Tr_look_133 C a (f_Tr_look_2 a n) ih x1 x2
        · refine r_iload_n (q := 43) (i := 3) (pl := 2) C d_Tr_look_42 rfl rfl rfl ?_
          refine r_iload_n (q := 44) (i := 1) (pl := 4) C d_Tr_look_43 rfl rfl rfl ?_
          refine r_icmp_eq (tgt := 133) (q := 47) C d_Tr_look_44 (by decide) rfl ?_ ?_
          · refine r_sub (lv' := [(0, vA (some a)), (1, vI x1), (2, vI x2)]) [3, 4, 5] rfl ?_
            exact s_Tr_look_133 C a (f_Tr_look_2 a n) ih x1 x2
          · refine r_iload_n (q := 48) (i := 3) (pl := 2) C d_Tr_look_47 rfl rfl rfl ?_
            refine r_iload (q := 50) (i := 4) (pl := 1) C d_Tr_look_48 rfl rfl ?_
            refine r_icmp_ne (tgt := 56) (q := 53) C d_Tr_look_50 (by decide) rfl ?_ ?_
            · refine r_aload_n (q := 57) (i := 0) (pl := 3) C d_Tr_look_56 rfl rfl rfl ?_
              refine r_iload_n (q := 58) (i := 1) (pl := 4) C d_Tr_look_57 rfl rfl rfl ?_
              refine r_iload_n (q := 59) (i := 3) (pl := 2) C d_Tr_look_58 rfl rfl rfl ?_
              refine r_iconst (q := 60) (v := 0) C d_Tr_look_59 rfl (by decide) ?_
              refine r_iconst (q := 61) (v := -1) C d_Tr_look_60 rfl (by decide) ?_
              refine r_cvR (q := 64) (As := [vI x1, vI n8, vI (0 : Int32), vI (-1 : Int32)]) (st := []) (cy := 7) C d_Tr_look_61 rfl Y_Tr_wayTo L_Tr_72 I_Tr_wayTo Se_Tr_wayTo rfl (by decide) rfl (Nat.le_of_ble_eq_true rfl) (Nat.le_of_ble_eq_true rfl) (Nat.le_of_ble_eq_true rfl) rfl (fun a14 => con_Tr_wayTo a14 x1 n8 (0 : Int32) (-1 : Int32)) (fun v15 => ?_)
              refine r_astore (q := 66) (i := 6) (lv' := [(6, vA v15), (5, vA v11), (4, vI n9), (3, vI n8), (0, vA (some a)), (1, vI x1), (2, vI x2)]) C d_Tr_look_64 rfl (by decide) rfl ?_
              refine r_aload (q := 68) (i := 6) (pl := 0) C d_Tr_look_66 rfl rfl ?_
              refine r_ifnull (tgt := 78) (q := 71) C d_Tr_look_68 (by decide) rfl ?_ ?_
              · refine r_sub (lv' := [(0, vA (some a)), (1, vI x1), (2, vI x2), (3, vI n8), (4, vI n9), (5, vA v11)]) [4, 5, 6, 3, 2, 1] rfl ?_
                exact s_Tr_look_78 C a (f_Tr_look_2 a n) ih x1 x2 n8 n9 v11
              · refine r_aload (q := 73) (i := 6) (pl := 0) C d_Tr_look_71 rfl rfl ?_
                refine r_aload (q := 75) (i := 5) (pl := 1) C d_Tr_look_73 rfl rfl ?_
                refine r_acmp_ne (tgt := 82) (q := 78) C d_Tr_look_75 (by decide) rfl ?_ ?_
                · refine r_bipush (q := 84) (v := 6) C d_Tr_look_82 rfl (by decide) ?_
                  refine r_sub (lv' := [(0, vA (some a)), (1, vI x1), (2, vI x2), (3, vI n8), (4, vI n9), (5, vA v11)]) [4, 5, 6, 3, 2, 1] rfl ?_
                  exact s_Tr_look_84 C a (f_Tr_look_2 a n) ih x1 x2 n8 n9 v11 (6 : Int32)
                · refine r_sub (lv' := [(0, vA (some a)), (1, vI x1), (2, vI x2), (3, vI n8), (4, vI n9), (5, vA v11)]) [4, 5, 6, 3, 2, 1] rfl ?_
                  exact s_Tr_look_78 C a (f_Tr_look_2 a n) ih x1 x2 n8 n9 v11
            · refine r_goto (tgt := 133) C d_Tr_look_53 (by decide) ?_
              refine r_sub (lv' := [(0, vA (some a)), (1, vI x1), (2, vI x2)]) [3, 4, 5] rfl ?_
              exact s_Tr_look_133 C a (f_Tr_look_2 a n) ih x1 x2
def f_Tr_look (a : Nat) (x1 : Int32) : sn_M := f_Tr_look_2 a sn_fuel x1 (0 : Int32)
set_option maxHeartbeats 4000000 in
set_option maxRecDepth 100000 in
theorem mono_Tr_look (a : Nat) (x1 : Int32) : sn_Mono (f_Tr_look a x1) := mono_Tr_look_2 a sn_fuel x1 (0 : Int32)
set_option maxHeartbeats 4000000 in
set_option maxRecDepth 100000 in
theorem con_Tr_look (a : Nat) (x1 : Int32) : sn_Con y_Tr_look c_Tr_look 9 none 2 52 [vA (some a), vI x1] (f_Tr_look a x1) := by
  refine sn_Con.of (by decide +kernel) (by show _ ≤ _; exact Nat.le_of_ble_eq_true rfl) (mono_Tr_look a x1) (fun X C => ?_)
  show sn_S X 0 [(0, vA (some a)), (1, vI x1)] [] _
  replace C : sn_Cx X c_Tr_look "SignalNetwork$Transfer" none "look" 9 2 52 := C
  unfold f_Tr_look
  refine r_iconst (q := 1) (v := 0) C d_Tr_look_0 rfl (by decide) ?_
  refine r_istore_n (q := 2) (i := 2) (lv' := [(2, vI (0 : Int32)), (0, vA (some a)), (1, vI x1)]) C d_Tr_look_1 rfl rfl (by decide) rfl ?_
  refine r_sub (lv' := [(0, vA (some a)), (1, vI x1), (2, vI (0 : Int32))]) [1, 2, 0] rfl ?_
  exact s_Tr_look_2 C a sn_fuel x1 (0 : Int32)
theorem d_Tr_overOf_0 : decode c_Tr_overOf 0 = .ok (.aload_n 0, 1) := by decide +kernel
theorem d_Tr_overOf_1 : decode c_Tr_overOf 1 = .ok (.getfield 124, 3) := by decide +kernel
theorem d_Tr_overOf_4 : decode c_Tr_overOf 4 = .ok (.bipush 16, 2) := by decide +kernel
theorem d_Tr_overOf_6 : decode c_Tr_overOf 6 = .ok (.aload_n 0, 1) := by decide +kernel
theorem d_Tr_overOf_7 : decode c_Tr_overOf 7 = .ok (.getfield 287, 3) := by decide +kernel
theorem d_Tr_overOf_10 : decode c_Tr_overOf 10 = .ok (.imul, 1) := by decide +kernel
theorem d_Tr_overOf_11 : decode c_Tr_overOf 11 = .ok (.iadd, 1) := by decide +kernel
theorem d_Tr_overOf_12 : decode c_Tr_overOf 12 = .ok (.istore_n 2, 1) := by decide +kernel
theorem d_Tr_overOf_13 : decode c_Tr_overOf 13 = .ok (.iload_n 1, 1) := by decide +kernel
theorem d_Tr_overOf_14 : decode c_Tr_overOf 14 = .ok (.aload_n 0, 1) := by decide +kernel
theorem d_Tr_overOf_15 : decode c_Tr_overOf 15 = .ok (.getfield 104, 3) := by decide +kernel
theorem d_Tr_overOf_18 : decode c_Tr_overOf 18 = .ok (.aload_n 0, 1) := by decide +kernel
theorem d_Tr_overOf_19 : decode c_Tr_overOf 19 = .ok (.getfield 107, 3) := by decide +kernel
theorem d_Tr_overOf_22 : decode c_Tr_overOf 22 = .ok (.iconst 0, 1) := by decide +kernel
theorem d_Tr_overOf_23 : decode c_Tr_overOf 23 = .ok (.iload_n 2, 1) := by decide +kernel
theorem d_Tr_overOf_24 : decode c_Tr_overOf 24 = .ok (.aload_n 0, 1) := by decide +kernel
theorem d_Tr_overOf_25 : decode c_Tr_overOf 25 = .ok (.getfield 145, 3) := by decide +kernel
theorem d_Tr_overOf_28 : decode c_Tr_overOf 28 = .ok (.getfield 288, 3) := by decide +kernel
theorem d_Tr_overOf_31 : decode c_Tr_overOf 31 = .ok (.invokestatic 255, 3) := by decide +kernel
theorem d_Tr_overOf_34 : decode c_Tr_overOf 34 = .ok (.lreturn, 1) := by decide +kernel
def f_Tr_overOf (r0 : Option Nat) (x1 : Int32) : sn_M := g_I 2 1 r0 fun v1 => g_I 2 9 r0 fun v2 => n_I ((v1 + ((16 : Int32) * v2))) fun n3 => g_I 2 2 r0 fun v4 => g_I 2 3 r0 fun v5 => g_R 2 4 r0 fun v6 => g_I 10 2 v6 fun v7 => c_J (f_Ms_of x1 v4 v5 (0 : Int32) n3 v7) fun v8 => r_J v8
set_option maxHeartbeats 4000000 in
set_option maxRecDepth 100000 in
theorem mono_Tr_overOf (r0 : Option Nat) (x1 : Int32) : sn_Mono (f_Tr_overOf r0 x1) := sn_Mono.gI (fun v1 => sn_Mono.gI (fun v2 => sn_Mono.nI (fun n3 => sn_Mono.gI (fun v4 => sn_Mono.gI (fun v5 => sn_Mono.gR (fun v6 => sn_Mono.gI (fun v7 => sn_Mono.cJ (mono_Ms_of x1 v4 v5 (0 : Int32) n3 v7) (fun v8 => sn_Mono.rJ))))))))
set_option maxHeartbeats 4000000 in
set_option maxRecDepth 100000 in
theorem con_Tr_overOf (r0 : Option Nat) (x1 : Int32) : sn_Con y_Tr_overOf c_Tr_overOf 3 (some .long) 1 27 [vA r0, vI x1] (f_Tr_overOf r0 x1) := by
  refine sn_Con.of (by decide +kernel) (by show _ ≤ _; exact Nat.le_of_ble_eq_true rfl) (mono_Tr_overOf r0 x1) (fun X C => ?_)
  show sn_S X 0 [(0, vA r0), (1, vI x1)] [] _
  replace C : sn_Cx X c_Tr_overOf "SignalNetwork$Transfer" (some .long) "overOf" 3 1 27 := C
  unfold f_Tr_overOf
  refine r_aload_n (q := 1) (i := 0) (pl := 0) C d_Tr_overOf_0 rfl rfl rfl ?_
  refine r_gI (q := 4) C d_Tr_overOf_1 rfl F_Tr_124 rfl (fun v1 => ?_)
  refine r_bipush (q := 6) (v := 16) C d_Tr_overOf_4 rfl (by decide) ?_
  refine r_aload_n (q := 7) (i := 0) (pl := 0) C d_Tr_overOf_6 rfl rfl rfl ?_
  refine r_gI (q := 10) C d_Tr_overOf_7 rfl F_Tr_287 rfl (fun v2 => ?_)
  refine r_imul (q := 11) C d_Tr_overOf_10 rfl ?_
  refine r_iadd (q := 12) C d_Tr_overOf_11 rfl ?_
  refine r_nI (fun n3 => ?_)
  refine r_istore_n (q := 13) (i := 2) (lv' := [(2, vI n3), (0, vA r0), (1, vI x1)]) C d_Tr_overOf_12 rfl rfl (by decide) rfl ?_
  refine r_iload_n (q := 14) (i := 1) (pl := 2) C d_Tr_overOf_13 rfl rfl rfl ?_
  refine r_aload_n (q := 15) (i := 0) (pl := 1) C d_Tr_overOf_14 rfl rfl rfl ?_
  refine r_gI (q := 18) C d_Tr_overOf_15 rfl F_Tr_104 rfl (fun v4 => ?_)
  refine r_aload_n (q := 19) (i := 0) (pl := 1) C d_Tr_overOf_18 rfl rfl rfl ?_
  refine r_gI (q := 22) C d_Tr_overOf_19 rfl F_Tr_107 rfl (fun v5 => ?_)
  refine r_iconst (q := 23) (v := 0) C d_Tr_overOf_22 rfl (by decide) ?_
  refine r_iload_n (q := 24) (i := 2) (pl := 0) C d_Tr_overOf_23 rfl rfl rfl ?_
  refine r_aload_n (q := 25) (i := 0) (pl := 1) C d_Tr_overOf_24 rfl rfl rfl ?_
  refine r_gR (q := 28) C d_Tr_overOf_25 rfl F_Tr_145 rfl (fun v6 => ?_)
  refine r_gI (q := 31) C d_Tr_overOf_28 rfl F_Tr_288 rfl (fun v7 => ?_)
  refine r_csJ (q := 34) (As := [vI x1, vI v4, vI v5, vI (0 : Int32), vI n3, vI v7]) (st := []) C d_Tr_overOf_31 rfl Y_Ms_of L_Tr_255 St_Ms_of rfl (Nat.le_of_ble_eq_true rfl) (Nat.le_of_ble_eq_true rfl) (Nat.le_of_ble_eq_true rfl) rfl (con_Ms_of x1 v4 v5 (0 : Int32) n3 v7) (fun v8 => ?_)
  exact r_lret C d_Tr_overOf_34 rfl
theorem d_Tr_takeOut_0 : decode c_Tr_takeOut 0 = .ok (.aload_n 1, 1) := by decide +kernel
theorem d_Tr_takeOut_1 : decode c_Tr_takeOut 1 = .ok (.getfield 91, 3) := by decide +kernel
theorem d_Tr_takeOut_4 : decode c_Tr_takeOut 4 = .ok (.iconst 5, 1) := by decide +kernel
theorem d_Tr_takeOut_5 : decode c_Tr_takeOut 5 = .ok (.if_icmp .ne 7, 3) := by decide +kernel
theorem d_Tr_takeOut_8 : decode c_Tr_takeOut 8 = .ok (.iconst 1, 1) := by decide +kernel
theorem d_Tr_takeOut_9 : decode c_Tr_takeOut 9 = .ok (.goto 4, 3) := by decide +kernel
theorem d_Tr_takeOut_12 : decode c_Tr_takeOut 12 = .ok (.iconst 0, 1) := by decide +kernel
theorem d_Tr_takeOut_13 : decode c_Tr_takeOut 13 = .ok (.istore_n 2, 1) := by decide +kernel
theorem d_Tr_takeOut_14 : decode c_Tr_takeOut 14 = .ok (.aload_n 1, 1) := by decide +kernel
theorem d_Tr_takeOut_15 : decode c_Tr_takeOut 15 = .ok (.invokevirtual 278, 3) := by decide +kernel
theorem d_Tr_takeOut_18 : decode c_Tr_takeOut 18 = .ok (.iload_n 2, 1) := by decide +kernel
theorem d_Tr_takeOut_19 : decode c_Tr_takeOut 19 = .ok (.ifCond .ne 5, 3) := by decide +kernel
theorem d_Tr_takeOut_22 : decode c_Tr_takeOut 22 = .ok (.iconst 0, 1) := by decide +kernel
theorem d_Tr_takeOut_23 : decode c_Tr_takeOut 23 = .ok (.ireturn, 1) := by decide +kernel
theorem d_Tr_takeOut_24 : decode c_Tr_takeOut 24 = .ok (.aload_n 1, 1) := by decide +kernel
theorem d_Tr_takeOut_25 : decode c_Tr_takeOut 25 = .ok (.aload_n 0, 1) := by decide +kernel
theorem d_Tr_takeOut_26 : decode c_Tr_takeOut 26 = .ok (.getfield 38, 3) := by decide +kernel
theorem d_Tr_takeOut_29 : decode c_Tr_takeOut 29 = .ok (.bipush 10, 2) := by decide +kernel
theorem d_Tr_takeOut_31 : decode c_Tr_takeOut 31 = .ok (.invokevirtual 259, 3) := by decide +kernel
theorem d_Tr_takeOut_34 : decode c_Tr_takeOut 34 = .ok (.putfield 281, 3) := by decide +kernel
theorem d_Tr_takeOut_37 : decode c_Tr_takeOut 37 = .ok (.iconst 0, 1) := by decide +kernel
theorem d_Tr_takeOut_38 : decode c_Tr_takeOut 38 = .ok (.istore_n 3, 1) := by decide +kernel
theorem d_Tr_takeOut_39 : decode c_Tr_takeOut 39 = .ok (.iload_n 3, 1) := by decide +kernel
theorem d_Tr_takeOut_40 : decode c_Tr_takeOut 40 = .ok (.iconst 4, 1) := by decide +kernel
theorem d_Tr_takeOut_41 : decode c_Tr_takeOut 41 = .ok (.if_icmp .ge 44, 3) := by decide +kernel
theorem d_Tr_takeOut_44 : decode c_Tr_takeOut 44 = .ok (.aload_n 0, 1) := by decide +kernel
theorem d_Tr_takeOut_45 : decode c_Tr_takeOut 45 = .ok (.aload_n 1, 1) := by decide +kernel
theorem d_Tr_takeOut_46 : decode c_Tr_takeOut 46 = .ok (.getfield 104, 3) := by decide +kernel
theorem d_Tr_takeOut_49 : decode c_Tr_takeOut 49 = .ok (.aload_n 1, 1) := by decide +kernel
theorem d_Tr_takeOut_50 : decode c_Tr_takeOut 50 = .ok (.getfield 107, 3) := by decide +kernel
theorem d_Tr_takeOut_53 : decode c_Tr_takeOut 53 = .ok (.iload_n 3, 1) := by decide +kernel
theorem d_Tr_takeOut_54 : decode c_Tr_takeOut 54 = .ok (.invokevirtual 210, 3) := by decide +kernel
theorem d_Tr_takeOut_57 : decode c_Tr_takeOut 57 = .ok (.astore 4, 2) := by decide +kernel
theorem d_Tr_takeOut_59 : decode c_Tr_takeOut 59 = .ok (.aload 4, 2) := by decide +kernel
theorem d_Tr_takeOut_61 : decode c_Tr_takeOut 61 = .ok (.ifnull 18, 3) := by decide +kernel
theorem d_Tr_takeOut_64 : decode c_Tr_takeOut 64 = .ok (.aload 4, 2) := by decide +kernel
theorem d_Tr_takeOut_66 : decode c_Tr_takeOut 66 = .ok (.getfield 245, 3) := by decide +kernel
theorem d_Tr_takeOut_69 : decode c_Tr_takeOut 69 = .ok (.aload_n 1, 1) := by decide +kernel
theorem d_Tr_takeOut_70 : decode c_Tr_takeOut 70 = .ok (.if_acmp .ne 9, 3) := by decide +kernel
theorem d_Tr_takeOut_73 : decode c_Tr_takeOut 73 = .ok (.aload 4, 2) := by decide +kernel
theorem d_Tr_takeOut_75 : decode c_Tr_takeOut 75 = .ok (.aload_n 1, 1) := by decide +kernel
theorem d_Tr_takeOut_76 : decode c_Tr_takeOut 76 = .ok (.invokevirtual 284, 3) := by decide +kernel
theorem d_Tr_takeOut_79 : decode c_Tr_takeOut 79 = .ok (.iinc 3 1, 3) := by decide +kernel
theorem d_Tr_takeOut_82 : decode c_Tr_takeOut 82 = .ok (.goto (-43), 3) := by decide +kernel
theorem d_Tr_takeOut_85 : decode c_Tr_takeOut 85 = .ok (.iconst 1, 1) := by decide +kernel
theorem d_Tr_takeOut_86 : decode c_Tr_takeOut 86 = .ok (.ireturn, 1) := by decide +kernel
def f_Tr_takeOut_79 (k39 : Option Nat → Int32 → sn_M) (a : Nat) (r1 : Option Nat) (x3 : Int32) : sn_M := k39 r1 (x3 + (1 : Int32))
set_option maxHeartbeats 4000000 in
set_option maxRecDepth 100000 in
theorem mono_Tr_takeOut_79 (k39 : Option Nat → Int32 → sn_M) (mk39 : ∀ (r1 : Option Nat) (x3 : Int32), sn_Mono (k39 r1 x3)) (a : Nat) (r1 : Option Nat) (x3 : Int32) : sn_Mono (f_Tr_takeOut_79 k39 a r1 x3) := mk39 r1 (x3 + (1 : Int32))
set_option maxHeartbeats 4000000 in
set_option maxRecDepth 100000 in
theorem s_Tr_takeOut_79 {X : sn_X} (C : sn_Cx X c_Tr_takeOut "SignalNetwork$Transfer" (some .boolean) "takeOut" 5 2 41) (a : Nat) (k39 : Option Nat → Int32 → sn_M) (hk39 : ∀ (r1 : Option Nat) (x3 : Int32), sn_S X 39 [(0, vA (some a)), (1, vA r1), (3, vI x3)] [] (k39 r1 x3)) (r1 : Option Nat) (x3 : Int32) : sn_S X 79 [(0, vA (some a)), (1, vA r1), (3, vI x3)] [] (f_Tr_takeOut_79 k39 a r1 x3) := by
  unfold f_Tr_takeOut_79
  refine r_iinc (q := 82) (pl := 2) (v := x3 + (1 : Int32)) (lv' := [(3, vI (x3 + (1 : Int32))), (0, vA (some a)), (1, vA r1)]) C d_Tr_takeOut_79 rfl rfl rfl (by decide) rfl ?_
  refine r_goto (tgt := 39) C d_Tr_takeOut_82 (by decide) ?_
  refine r_sub (lv' := [(0, vA (some a)), (1, vA r1), (3, vI (x3 + (1 : Int32)))]) [1, 2, 0] rfl ?_
  exact hk39 r1 (x3 + (1 : Int32))
def f_Tr_takeOut_39 (a : Nat) : Nat → Option Nat → Int32 → sn_M
  | 0, _, _ => r_0
  | n + 1, r1, x3 => (if (4 : Int32) ≤ x3 then r_Z (1 : Int32) else g_I 2 2 r1 fun v1 => g_I 2 3 r1 fun v2 => n_n 8 (some a) fun a3 => c_R (f_Tr_flowTo a3 v1 v2 x3) fun v4 => (if v4 = none then f_Tr_takeOut_79 (f_Tr_takeOut_39 a n) a r1 x3 else g_R 3 1 v4 fun v5 => (if ¬ v5 = r1 then f_Tr_takeOut_79 (f_Tr_takeOut_39 a n) a r1 x3 else n_n 3 v4 fun a6 => c_V (f_Fl_holdFor a6 r1) (f_Tr_takeOut_79 (f_Tr_takeOut_39 a n) a r1 x3))))
set_option maxHeartbeats 4000000 in
set_option maxRecDepth 100000 in
theorem mono_Tr_takeOut_39 (a : Nat) : ∀ (n : Nat) (r1 : Option Nat) (x3 : Int32), sn_Mono (f_Tr_takeOut_39 a n r1 x3)
  | 0, _, _ => sn_Mono.r0
  | n + 1, r1, x3 => sn_Mono.ite (sn_Mono.rZ) (sn_Mono.gI (fun v1 => sn_Mono.gI (fun v2 => sn_Mono.nn (fun a3 => sn_Mono.cR (mono_Tr_flowTo a3 v1 v2 x3) (fun v4 => sn_Mono.ite (mono_Tr_takeOut_79 (f_Tr_takeOut_39 a n) (mono_Tr_takeOut_39 a n) a r1 x3) (sn_Mono.gR (fun v5 => sn_Mono.ite (mono_Tr_takeOut_79 (f_Tr_takeOut_39 a n) (mono_Tr_takeOut_39 a n) a r1 x3) (sn_Mono.nn (fun a6 => sn_Mono.cV (mono_Fl_holdFor a6 r1) (mono_Tr_takeOut_79 (f_Tr_takeOut_39 a n) (mono_Tr_takeOut_39 a n) a r1 x3))))))))))
set_option maxHeartbeats 4000000 in
set_option maxRecDepth 100000 in
theorem s_Tr_takeOut_39 {X : sn_X} (C : sn_Cx X c_Tr_takeOut "SignalNetwork$Transfer" (some .boolean) "takeOut" 5 2 41) (a : Nat) (n : Nat) : ∀ (r1 : Option Nat) (x3 : Int32), sn_S X 39 [(0, vA (some a)), (1, vA r1), (3, vI x3)] [] (f_Tr_takeOut_39 a n r1 x3) := by
  induction n with
  | zero => intro r1 x3; exact sn_S.zero
  | succ n ih =>
    intro r1 x3
    unfold f_Tr_takeOut_39
    refine r_iload_n (q := 40) (i := 3) (pl := 2) C d_Tr_takeOut_39 rfl rfl rfl ?_
    refine r_iconst (q := 41) (v := 4) C d_Tr_takeOut_40 rfl (by decide) ?_
    refine r_icmp_ge (tgt := 85) (q := 44) C d_Tr_takeOut_41 (by decide) rfl ?_ ?_
    · refine r_iconst (q := 86) (v := 1) C d_Tr_takeOut_85 rfl (by decide) ?_
      exact r_zret C d_Tr_takeOut_86 rfl
    · refine r_aload_n (q := 45) (i := 0) (pl := 0) C d_Tr_takeOut_44 rfl rfl rfl ?_
      refine r_aload_n (q := 46) (i := 1) (pl := 1) C d_Tr_takeOut_45 rfl rfl rfl ?_
      refine r_gI (q := 49) C d_Tr_takeOut_46 rfl F_Tr_104 rfl (fun v1 => ?_)
      refine r_aload_n (q := 50) (i := 1) (pl := 1) C d_Tr_takeOut_49 rfl rfl rfl ?_
      refine r_gI (q := 53) C d_Tr_takeOut_50 rfl F_Tr_107 rfl (fun v2 => ?_)
      refine r_iload_n (q := 54) (i := 3) (pl := 2) C d_Tr_takeOut_53 rfl rfl rfl ?_
      refine r_cvR (q := 57) (As := [vI v1, vI v2, vI x3]) (st := []) (cy := 7) C d_Tr_takeOut_54 rfl Y_Tr_flowTo L_Tr_210 I_Tr_flowTo Se_Tr_flowTo rfl (by decide) rfl (Nat.le_of_ble_eq_true rfl) (Nat.le_of_ble_eq_true rfl) (Nat.le_of_ble_eq_true rfl) rfl (fun a3 => con_Tr_flowTo a3 v1 v2 x3) (fun v4 => ?_)
      refine r_astore (q := 59) (i := 4) (lv' := [(4, vA v4), (0, vA (some a)), (1, vA r1), (3, vI x3)]) C d_Tr_takeOut_57 rfl (by decide) rfl ?_
      refine r_aload (q := 61) (i := 4) (pl := 0) C d_Tr_takeOut_59 rfl rfl ?_
      refine r_ifnull (tgt := 79) (q := 64) C d_Tr_takeOut_61 (by decide) rfl ?_ ?_
      · refine r_sub (lv' := [(0, vA (some a)), (1, vA r1), (3, vI x3)]) [1, 2, 3] rfl ?_
        exact s_Tr_takeOut_79 C a (f_Tr_takeOut_39 a n) ih r1 x3
      · refine r_aload (q := 66) (i := 4) (pl := 0) C d_Tr_takeOut_64 rfl rfl ?_
        refine r_gR (q := 69) C d_Tr_takeOut_66 rfl F_Tr_245 rfl (fun v5 => ?_)
        refine r_aload_n (q := 70) (i := 1) (pl := 2) C d_Tr_takeOut_69 rfl rfl rfl ?_
        refine r_acmp_ne (tgt := 79) (q := 73) C d_Tr_takeOut_70 (by decide) rfl ?_ ?_
        · refine r_sub (lv' := [(0, vA (some a)), (1, vA r1), (3, vI x3)]) [1, 2, 3] rfl ?_
          exact s_Tr_takeOut_79 C a (f_Tr_takeOut_39 a n) ih r1 x3
        · refine r_aload (q := 75) (i := 4) (pl := 0) C d_Tr_takeOut_73 rfl rfl ?_
          refine r_aload_n (q := 76) (i := 1) (pl := 2) C d_Tr_takeOut_75 rfl rfl rfl ?_
          refine r_cvV (q := 79) (As := [vA r1]) (st := []) (cy := 2) C d_Tr_takeOut_76 rfl Y_Fl_holdFor L_Tr_284 I_Fl_holdFor Se_Fl_holdFor rfl (by decide) rfl (Nat.le_of_ble_eq_true rfl) (Nat.le_of_ble_eq_true rfl) (Nat.le_of_ble_eq_true rfl) rfl (fun a6 => con_Fl_holdFor a6 r1) ?_
          refine r_sub (lv' := [(0, vA (some a)), (1, vA r1), (3, vI x3)]) [1, 2, 3] rfl ?_
          exact s_Tr_takeOut_79 C a (f_Tr_takeOut_39 a n) ih r1 x3
def f_Tr_takeOut_13 (a : Nat) (r1 : Option Nat) (t0 : Int32) : sn_M := n_n 2 r1 fun a8 => c_V (f_En_fallOut a8) ((if ¬ t0 = 0 then g_R 8 1 (some a) fun v10 => n_n 1 v10 fun a11 => c_I (f_Ck_after a11 (10 : Int32)) fun v12 => p_I 2 12 r1 v12 (f_Tr_takeOut_39 a sn_fuel r1 (0 : Int32)) else r_Z (0 : Int32)))
set_option maxHeartbeats 4000000 in
set_option maxRecDepth 100000 in
theorem mono_Tr_takeOut_13 (a : Nat) (r1 : Option Nat) (t0 : Int32) : sn_Mono (f_Tr_takeOut_13 a r1 t0) := sn_Mono.nn (fun a8 => sn_Mono.cV (mono_En_fallOut a8) (sn_Mono.ite (sn_Mono.gR (fun v10 => sn_Mono.nn (fun a11 => sn_Mono.cI (mono_Ck_after a11 (10 : Int32)) (fun v12 => sn_Mono.pI (mono_Tr_takeOut_39 a sn_fuel r1 (0 : Int32)))))) (sn_Mono.rZ)))
set_option maxHeartbeats 4000000 in
set_option maxRecDepth 100000 in
theorem s_Tr_takeOut_13 {X : sn_X} (C : sn_Cx X c_Tr_takeOut "SignalNetwork$Transfer" (some .boolean) "takeOut" 5 2 41) (a : Nat) (r1 : Option Nat) (t0 : Int32) : sn_S X 13 [(0, vA (some a)), (1, vA r1)] [vI t0] (f_Tr_takeOut_13 a r1 t0) := by
  unfold f_Tr_takeOut_13
  refine r_istore_n (q := 14) (i := 2) (lv' := [(2, vI t0), (0, vA (some a)), (1, vA r1)]) C d_Tr_takeOut_13 rfl rfl (by decide) rfl ?_
  refine r_aload_n (q := 15) (i := 1) (pl := 2) C d_Tr_takeOut_14 rfl rfl rfl ?_
  refine r_cvV (q := 18) (As := []) (st := []) (cy := 1) C d_Tr_takeOut_15 rfl Y_En_fallOut L_Tr_278 I_En_fallOut Se_En_fallOut rfl (by decide) rfl (Nat.le_of_ble_eq_true rfl) (Nat.le_of_ble_eq_true rfl) (Nat.le_of_ble_eq_true rfl) rfl (fun a8 => con_En_fallOut a8) ?_
  refine r_iload_n (q := 19) (i := 2) (pl := 0) C d_Tr_takeOut_18 rfl rfl rfl ?_
  refine r_if_ne (tgt := 24) (q := 22) C d_Tr_takeOut_19 (by decide) rfl ?_ ?_
  · refine r_aload_n (q := 25) (i := 1) (pl := 2) C d_Tr_takeOut_24 rfl rfl rfl ?_
    refine r_aload_n (q := 26) (i := 0) (pl := 1) C d_Tr_takeOut_25 rfl rfl rfl ?_
    refine r_gR (q := 29) C d_Tr_takeOut_26 rfl F_Tr_38 rfl (fun v10 => ?_)
    refine r_bipush (q := 31) (v := 10) C d_Tr_takeOut_29 rfl (by decide) ?_
    refine r_cvI (q := 34) (As := [vI (10 : Int32)]) (st := [vA r1]) (cy := 0) C d_Tr_takeOut_31 rfl Y_Ck_after L_Tr_259 I_Ck_after Se_Ck_after rfl (by decide) rfl (Nat.le_of_ble_eq_true rfl) (Nat.le_of_ble_eq_true rfl) (Nat.le_of_ble_eq_true rfl) rfl (fun a11 => con_Ck_after a11 (10 : Int32)) (fun v12 => ?_)
    refine r_pI (q := 37) C d_Tr_takeOut_34 rfl F_Tr_281 rfl rfl (Or.inl rfl) ?_
    refine r_iconst (q := 38) (v := 0) C d_Tr_takeOut_37 rfl (by decide) ?_
    refine r_istore_n (q := 39) (i := 3) (lv' := [(3, vI (0 : Int32)), (2, vI t0), (0, vA (some a)), (1, vA r1)]) C d_Tr_takeOut_38 rfl rfl (by decide) rfl ?_
    refine r_sub (lv' := [(0, vA (some a)), (1, vA r1), (3, vI (0 : Int32))]) [2, 3, 0] rfl ?_
    exact s_Tr_takeOut_39 C a sn_fuel r1 (0 : Int32)
  · refine r_iconst (q := 23) (v := 0) C d_Tr_takeOut_22 rfl (by decide) ?_
    exact r_zret C d_Tr_takeOut_23 rfl
def f_Tr_takeOut (a : Nat) (r1 : Option Nat) : sn_M := g_I 2 7 r1 fun v13 => (if ¬ v13 = (5 : Int32) then f_Tr_takeOut_13 a r1 (0 : Int32) else f_Tr_takeOut_13 a r1 (1 : Int32))
set_option maxHeartbeats 4000000 in
set_option maxRecDepth 100000 in
theorem mono_Tr_takeOut (a : Nat) (r1 : Option Nat) : sn_Mono (f_Tr_takeOut a r1) := sn_Mono.gI (fun v13 => sn_Mono.ite (mono_Tr_takeOut_13 a r1 (0 : Int32)) (mono_Tr_takeOut_13 a r1 (1 : Int32)))
set_option maxHeartbeats 4000000 in
set_option maxRecDepth 100000 in
theorem con_Tr_takeOut (a : Nat) (r1 : Option Nat) : sn_Con y_Tr_takeOut c_Tr_takeOut 5 (some .boolean) 2 41 [vA (some a), vA r1] (f_Tr_takeOut a r1) := by
  refine sn_Con.of (by decide +kernel) (by show _ ≤ _; exact Nat.le_of_ble_eq_true rfl) (mono_Tr_takeOut a r1) (fun X C => ?_)
  show sn_S X 0 [(0, vA (some a)), (1, vA r1)] [] _
  replace C : sn_Cx X c_Tr_takeOut "SignalNetwork$Transfer" (some .boolean) "takeOut" 5 2 41 := C
  unfold f_Tr_takeOut
  refine r_aload_n (q := 1) (i := 1) (pl := 1) C d_Tr_takeOut_0 rfl rfl rfl ?_
  refine r_gI (q := 4) C d_Tr_takeOut_1 rfl F_Tr_91 rfl (fun v13 => ?_)
  refine r_iconst (q := 5) (v := 5) C d_Tr_takeOut_4 rfl (by decide) ?_
  refine r_icmp_ne (tgt := 12) (q := 8) C d_Tr_takeOut_5 (by decide) rfl ?_ ?_
  · refine r_iconst (q := 13) (v := 0) C d_Tr_takeOut_12 rfl (by decide) ?_
    exact s_Tr_takeOut_13 C a r1 (0 : Int32)
  · refine r_iconst (q := 9) (v := 1) C d_Tr_takeOut_8 rfl (by decide) ?_
    refine r_goto (tgt := 13) C d_Tr_takeOut_9 (by decide) ?_
    exact s_Tr_takeOut_13 C a r1 (1 : Int32)
theorem d_Tr_fail_0 : decode c_Tr_fail 0 = .ok (.aload_n 0, 1) := by decide +kernel
theorem d_Tr_fail_1 : decode c_Tr_fail 1 = .ok (.aload_n 1, 1) := by decide +kernel
theorem d_Tr_fail_2 : decode c_Tr_fail 2 = .ok (.invokevirtual 266, 3) := by decide +kernel
theorem d_Tr_fail_5 : decode c_Tr_fail 5 = .ok (.ifCond .eq 28, 3) := by decide +kernel
theorem d_Tr_fail_8 : decode c_Tr_fail 8 = .ok (.aload_n 0, 1) := by decide +kernel
theorem d_Tr_fail_9 : decode c_Tr_fail 9 = .ok (.aload_n 1, 1) := by decide +kernel
theorem d_Tr_fail_10 : decode c_Tr_fail 10 = .ok (.getfield 104, 3) := by decide +kernel
theorem d_Tr_fail_13 : decode c_Tr_fail 13 = .ok (.aload_n 1, 1) := by decide +kernel
theorem d_Tr_fail_14 : decode c_Tr_fail 14 = .ok (.getfield 107, 3) := by decide +kernel
theorem d_Tr_fail_17 : decode c_Tr_fail 17 = .ok (.aload_n 1, 1) := by decide +kernel
theorem d_Tr_fail_18 : decode c_Tr_fail 18 = .ok (.iconst 1, 1) := by decide +kernel
theorem d_Tr_fail_19 : decode c_Tr_fail 19 = .ok (.invokestatic 270, 3) := by decide +kernel
theorem d_Tr_fail_22 : decode c_Tr_fail 22 = .ok (.invokevirtual 274, 3) := by decide +kernel
theorem d_Tr_fail_25 : decode c_Tr_fail 25 = .ok (.aload_n 0, 1) := by decide +kernel
theorem d_Tr_fail_26 : decode c_Tr_fail 26 = .ok (.aload_n 1, 1) := by decide +kernel
theorem d_Tr_fail_27 : decode c_Tr_fail 27 = .ok (.getfield 104, 3) := by decide +kernel
theorem d_Tr_fail_30 : decode c_Tr_fail 30 = .ok (.invokevirtual 242, 3) := by decide +kernel
theorem d_Tr_fail_33 : decode c_Tr_fail 33 = .ok (.return_, 1) := by decide +kernel
def f_Tr_fail_33 (a : Nat) : sn_M := r_V
set_option maxHeartbeats 4000000 in
set_option maxRecDepth 100000 in
theorem mono_Tr_fail_33 (a : Nat) : sn_Mono (f_Tr_fail_33 a) := sn_Mono.rV
set_option maxHeartbeats 4000000 in
set_option maxRecDepth 100000 in
theorem s_Tr_fail_33 {X : sn_X} (C : sn_Cx X c_Tr_fail "SignalNetwork$Transfer" none "fail" 2 3 80) (a : Nat) : sn_S X 33 [(0, vA (some a))] [] (f_Tr_fail_33 a) := by
  unfold f_Tr_fail_33
  exact r_vret C d_Tr_fail_33 rfl
def f_Tr_fail (a : Nat) (r1 : Option Nat) : sn_M := n_n 8 (some a) fun a1 => c_I (f_Tr_takeOut a1 r1) fun v2 => (if v2 = 0 then f_Tr_fail_33 a else g_I 2 2 r1 fun v3 => g_I 2 3 r1 fun v4 => c_J (f_Tr_overOf r1 (1 : Int32)) fun v5 => n_n 8 (some a) fun a6 => c_V (f_Tr_goOtherWay a6 v3 v4 v5) (g_I 2 2 r1 fun v8 => n_n 8 (some a) fun a9 => c_V (f_Tr_look a9 v8) (f_Tr_fail_33 a)))
set_option maxHeartbeats 4000000 in
set_option maxRecDepth 100000 in
theorem mono_Tr_fail (a : Nat) (r1 : Option Nat) : sn_Mono (f_Tr_fail a r1) := sn_Mono.nn (fun a1 => sn_Mono.cI (mono_Tr_takeOut a1 r1) (fun v2 => sn_Mono.ite (mono_Tr_fail_33 a) (sn_Mono.gI (fun v3 => sn_Mono.gI (fun v4 => sn_Mono.cJ (mono_Tr_overOf r1 (1 : Int32)) (fun v5 => sn_Mono.nn (fun a6 => sn_Mono.cV (mono_Tr_goOtherWay a6 v3 v4 v5) (sn_Mono.gI (fun v8 => sn_Mono.nn (fun a9 => sn_Mono.cV (mono_Tr_look a9 v8) (mono_Tr_fail_33 a)))))))))))
set_option maxHeartbeats 4000000 in
set_option maxRecDepth 100000 in
theorem con_Tr_fail (a : Nat) (r1 : Option Nat) : sn_Con y_Tr_fail c_Tr_fail 2 none 3 80 [vA (some a), vA r1] (f_Tr_fail a r1) := by
  refine sn_Con.of (by decide +kernel) (by show _ ≤ _; exact Nat.le_of_ble_eq_true rfl) (mono_Tr_fail a r1) (fun X C => ?_)
  show sn_S X 0 [(0, vA (some a)), (1, vA r1)] [] _
  replace C : sn_Cx X c_Tr_fail "SignalNetwork$Transfer" none "fail" 2 3 80 := C
  unfold f_Tr_fail
  refine r_aload_n (q := 1) (i := 0) (pl := 0) C d_Tr_fail_0 rfl rfl rfl ?_
  refine r_aload_n (q := 2) (i := 1) (pl := 1) C d_Tr_fail_1 rfl rfl rfl ?_
  refine r_cvI (q := 5) (As := [vA r1]) (st := []) (cy := 7) C d_Tr_fail_2 rfl Y_Tr_takeOut L_Tr_266 I_Tr_takeOut Se_Tr_takeOut rfl (by decide) rfl (Nat.le_of_ble_eq_true rfl) (Nat.le_of_ble_eq_true rfl) (Nat.le_of_ble_eq_true rfl) rfl (fun a1 => con_Tr_takeOut a1 r1) (fun v2 => ?_)
  refine r_if_eq (tgt := 33) (q := 8) C d_Tr_fail_5 (by decide) rfl ?_ ?_
  · refine r_sub (lv' := [(0, vA (some a))]) [0] rfl ?_
    exact s_Tr_fail_33 C a
  · refine r_aload_n (q := 9) (i := 0) (pl := 0) C d_Tr_fail_8 rfl rfl rfl ?_
    refine r_aload_n (q := 10) (i := 1) (pl := 1) C d_Tr_fail_9 rfl rfl rfl ?_
    refine r_gI (q := 13) C d_Tr_fail_10 rfl F_Tr_104 rfl (fun v3 => ?_)
    refine r_aload_n (q := 14) (i := 1) (pl := 1) C d_Tr_fail_13 rfl rfl rfl ?_
    refine r_gI (q := 17) C d_Tr_fail_14 rfl F_Tr_107 rfl (fun v4 => ?_)
    refine r_aload_n (q := 18) (i := 1) (pl := 1) C d_Tr_fail_17 rfl rfl rfl ?_
    refine r_iconst (q := 19) (v := 1) C d_Tr_fail_18 rfl (by decide) ?_
    refine r_csJ (q := 22) (As := [vA r1, vI (1 : Int32)]) (st := [vI v4, vI v3, vA (some a)]) C d_Tr_fail_19 rfl Y_Tr_overOf L_Tr_270 St_Tr_overOf rfl (Nat.le_of_ble_eq_true rfl) (Nat.le_of_ble_eq_true rfl) (Nat.le_of_ble_eq_true rfl) rfl (con_Tr_overOf r1 (1 : Int32)) (fun v5 => ?_)
    refine r_cvV (q := 25) (As := [vI v3, vI v4, vJ v5]) (st := []) (cy := 7) C d_Tr_fail_22 rfl Y_Tr_goOtherWay L_Tr_274 I_Tr_goOtherWay Se_Tr_goOtherWay rfl (by decide) rfl (Nat.le_of_ble_eq_true rfl) (Nat.le_of_ble_eq_true rfl) (Nat.le_of_ble_eq_true rfl) rfl (fun a6 => con_Tr_goOtherWay a6 v3 v4 v5) ?_
    refine r_aload_n (q := 26) (i := 0) (pl := 0) C d_Tr_fail_25 rfl rfl rfl ?_
    refine r_aload_n (q := 27) (i := 1) (pl := 1) C d_Tr_fail_26 rfl rfl rfl ?_
    refine r_gI (q := 30) C d_Tr_fail_27 rfl F_Tr_104 rfl (fun v8 => ?_)
    refine r_cvV (q := 33) (As := [vI v8]) (st := []) (cy := 7) C d_Tr_fail_30 rfl Y_Tr_look L_Tr_242 I_Tr_look Se_Tr_look rfl (by decide) rfl (Nat.le_of_ble_eq_true rfl) (Nat.le_of_ble_eq_true rfl) (Nat.le_of_ble_eq_true rfl) rfl (fun a9 => con_Tr_look a9 v8) ?_
    refine r_sub (lv' := [(0, vA (some a))]) [0] rfl ?_
    exact s_Tr_fail_33 C a
theorem d_Tr_start_0 : decode c_Tr_start 0 = .ok (.aload_n 1, 1) := by decide +kernel
theorem d_Tr_start_1 : decode c_Tr_start 1 = .ok (.aload_n 0, 1) := by decide +kernel
theorem d_Tr_start_2 : decode c_Tr_start 2 = .ok (.aload_n 1, 1) := by decide +kernel
theorem d_Tr_start_3 : decode c_Tr_start 3 = .ok (.getfield 104, 3) := by decide +kernel
theorem d_Tr_start_6 : decode c_Tr_start 6 = .ok (.aload_n 1, 1) := by decide +kernel
theorem d_Tr_start_7 : decode c_Tr_start 7 = .ok (.getfield 107, 3) := by decide +kernel
theorem d_Tr_start_10 : decode c_Tr_start 10 = .ok (.iconst 0, 1) := by decide +kernel
theorem d_Tr_start_11 : decode c_Tr_start 11 = .ok (.invokevirtual 108, 3) := by decide +kernel
theorem d_Tr_start_14 : decode c_Tr_start 14 = .ok (.ifnonnull 7, 3) := by decide +kernel
theorem d_Tr_start_17 : decode c_Tr_start 17 = .ok (.iconst 1, 1) := by decide +kernel
theorem d_Tr_start_18 : decode c_Tr_start 18 = .ok (.goto 4, 3) := by decide +kernel
theorem d_Tr_start_21 : decode c_Tr_start 21 = .ok (.iconst 0, 1) := by decide +kernel
theorem d_Tr_start_22 : decode c_Tr_start 22 = .ok (.invokevirtual 112, 3) := by decide +kernel
theorem d_Tr_start_25 : decode c_Tr_start 25 = .ok (.return_, 1) := by decide +kernel
def f_Tr_start_22 (a : Nat) (t0 : Option Nat) (t1 : Int32) : sn_M := n_n 2 t0 fun a1 => c_V (f_En_start a1 t1) (r_V)
set_option maxHeartbeats 4000000 in
set_option maxRecDepth 100000 in
theorem mono_Tr_start_22 (a : Nat) (t0 : Option Nat) (t1 : Int32) : sn_Mono (f_Tr_start_22 a t0 t1) := sn_Mono.nn (fun a1 => sn_Mono.cV (mono_En_start a1 t1) (sn_Mono.rV))
set_option maxHeartbeats 4000000 in
set_option maxRecDepth 100000 in
theorem s_Tr_start_22 {X : sn_X} (C : sn_Cx X c_Tr_start "SignalNetwork$Transfer" none "start" 2 3 64) (a : Nat) (t0 : Option Nat) (t1 : Int32) : sn_S X 22 [(0, vA (some a))] [vI t1, vA t0] (f_Tr_start_22 a t0 t1) := by
  unfold f_Tr_start_22
  refine r_cvV (q := 25) (As := [vI t1]) (st := []) (cy := 1) C d_Tr_start_22 rfl Y_En_start L_Tr_112 I_En_start Se_En_start rfl (by decide) rfl (Nat.le_of_ble_eq_true rfl) (Nat.le_of_ble_eq_true rfl) (Nat.le_of_ble_eq_true rfl) rfl (fun a1 => con_En_start a1 t1) ?_
  exact r_vret C d_Tr_start_25 rfl
def f_Tr_start (a : Nat) (r1 : Option Nat) : sn_M := g_I 2 2 r1 fun v3 => g_I 2 3 r1 fun v4 => n_n 8 (some a) fun a5 => c_R (f_Tr_best a5 v3 v4 (0 : Int32)) fun v6 => (if ¬ v6 = none then f_Tr_start_22 a r1 (0 : Int32) else f_Tr_start_22 a r1 (1 : Int32))
set_option maxHeartbeats 4000000 in
set_option maxRecDepth 100000 in
theorem mono_Tr_start (a : Nat) (r1 : Option Nat) : sn_Mono (f_Tr_start a r1) := sn_Mono.gI (fun v3 => sn_Mono.gI (fun v4 => sn_Mono.nn (fun a5 => sn_Mono.cR (mono_Tr_best a5 v3 v4 (0 : Int32)) (fun v6 => sn_Mono.ite (mono_Tr_start_22 a r1 (0 : Int32)) (mono_Tr_start_22 a r1 (1 : Int32))))))
set_option maxHeartbeats 4000000 in
set_option maxRecDepth 100000 in
theorem con_Tr_start (a : Nat) (r1 : Option Nat) : sn_Con y_Tr_start c_Tr_start 2 none 3 64 [vA (some a), vA r1] (f_Tr_start a r1) := by
  refine sn_Con.of (by decide +kernel) (by show _ ≤ _; exact Nat.le_of_ble_eq_true rfl) (mono_Tr_start a r1) (fun X C => ?_)
  show sn_S X 0 [(0, vA (some a)), (1, vA r1)] [] _
  replace C : sn_Cx X c_Tr_start "SignalNetwork$Transfer" none "start" 2 3 64 := C
  unfold f_Tr_start
  refine r_aload_n (q := 1) (i := 1) (pl := 1) C d_Tr_start_0 rfl rfl rfl ?_
  refine r_aload_n (q := 2) (i := 0) (pl := 0) C d_Tr_start_1 rfl rfl rfl ?_
  refine r_aload_n (q := 3) (i := 1) (pl := 1) C d_Tr_start_2 rfl rfl rfl ?_
  refine r_gI (q := 6) C d_Tr_start_3 rfl F_Tr_104 rfl (fun v3 => ?_)
  refine r_aload_n (q := 7) (i := 1) (pl := 1) C d_Tr_start_6 rfl rfl rfl ?_
  refine r_gI (q := 10) C d_Tr_start_7 rfl F_Tr_107 rfl (fun v4 => ?_)
  refine r_iconst (q := 11) (v := 0) C d_Tr_start_10 rfl (by decide) ?_
  refine r_cvR (q := 14) (As := [vI v3, vI v4, vI (0 : Int32)]) (st := [vA r1]) (cy := 7) C d_Tr_start_11 rfl Y_Tr_best L_Tr_108 I_Tr_best Se_Tr_best rfl (by decide) rfl (Nat.le_of_ble_eq_true rfl) (Nat.le_of_ble_eq_true rfl) (Nat.le_of_ble_eq_true rfl) rfl (fun a5 => con_Tr_best a5 v3 v4 (0 : Int32)) (fun v6 => ?_)
  refine r_ifnonnull (tgt := 21) (q := 17) C d_Tr_start_14 (by decide) rfl ?_ ?_
  · refine r_iconst (q := 22) (v := 0) C d_Tr_start_21 rfl (by decide) ?_
    refine r_sub (lv' := [(0, vA (some a))]) [0] rfl ?_
    exact s_Tr_start_22 C a r1 (0 : Int32)
  · refine r_iconst (q := 18) (v := 1) C d_Tr_start_17 rfl (by decide) ?_
    refine r_goto (tgt := 22) C d_Tr_start_18 (by decide) ?_
    refine r_sub (lv' := [(0, vA (some a))]) [0] rfl ?_
    exact s_Tr_start_22 C a r1 (1 : Int32)
theorem d_Tr_switchEnds_0 : decode c_Tr_switchEnds 0 = .ok (.iconst 0, 1) := by decide +kernel
theorem d_Tr_switchEnds_1 : decode c_Tr_switchEnds 1 = .ok (.istore_n 3, 1) := by decide +kernel
theorem d_Tr_switchEnds_2 : decode c_Tr_switchEnds 2 = .ok (.iload_n 3, 1) := by decide +kernel
theorem d_Tr_switchEnds_3 : decode c_Tr_switchEnds 3 = .ok (.iconst 2, 1) := by decide +kernel
theorem d_Tr_switchEnds_4 : decode c_Tr_switchEnds 4 = .ok (.if_icmp .ge 72, 3) := by decide +kernel
theorem d_Tr_switchEnds_7 : decode c_Tr_switchEnds 7 = .ok (.aload_n 0, 1) := by decide +kernel
theorem d_Tr_switchEnds_8 : decode c_Tr_switchEnds 8 = .ok (.iload_n 1, 1) := by decide +kernel
theorem d_Tr_switchEnds_9 : decode c_Tr_switchEnds 9 = .ok (.iload_n 3, 1) := by decide +kernel
theorem d_Tr_switchEnds_10 : decode c_Tr_switchEnds 10 = .ok (.invokevirtual 87, 3) := by decide +kernel
theorem d_Tr_switchEnds_13 : decode c_Tr_switchEnds 13 = .ok (.astore 4, 2) := by decide +kernel
theorem d_Tr_switchEnds_15 : decode c_Tr_switchEnds 15 = .ok (.aload 4, 2) := by decide +kernel
theorem d_Tr_switchEnds_17 : decode c_Tr_switchEnds 17 = .ok (.ifnonnull 6, 3) := by decide +kernel
theorem d_Tr_switchEnds_20 : decode c_Tr_switchEnds 20 = .ok (.goto 50, 3) := by decide +kernel
theorem d_Tr_switchEnds_23 : decode c_Tr_switchEnds 23 = .ok (.iload_n 2, 1) := by decide +kernel
theorem d_Tr_switchEnds_24 : decode c_Tr_switchEnds 24 = .ok (.ifCond .eq 28, 3) := by decide +kernel
theorem d_Tr_switchEnds_27 : decode c_Tr_switchEnds 27 = .ok (.aload 4, 2) := by decide +kernel
theorem d_Tr_switchEnds_29 : decode c_Tr_switchEnds 29 = .ok (.getfield 91, 3) := by decide +kernel
theorem d_Tr_switchEnds_32 : decode c_Tr_switchEnds 32 = .ok (.ifCond .ne 20, 3) := by decide +kernel
theorem d_Tr_switchEnds_35 : decode c_Tr_switchEnds 35 = .ok (.aload 4, 2) := by decide +kernel
theorem d_Tr_switchEnds_37 : decode c_Tr_switchEnds 37 = .ok (.getfield 94, 3) := by decide +kernel
theorem d_Tr_switchEnds_40 : decode c_Tr_switchEnds 40 = .ok (.ifCond .ne 12, 3) := by decide +kernel
theorem d_Tr_switchEnds_43 : decode c_Tr_switchEnds 43 = .ok (.aload_n 0, 1) := by decide +kernel
theorem d_Tr_switchEnds_44 : decode c_Tr_switchEnds 44 = .ok (.aload 4, 2) := by decide +kernel
theorem d_Tr_switchEnds_46 : decode c_Tr_switchEnds 46 = .ok (.invokevirtual 97, 3) := by decide +kernel
theorem d_Tr_switchEnds_49 : decode c_Tr_switchEnds 49 = .ok (.goto 21, 3) := by decide +kernel
theorem d_Tr_switchEnds_52 : decode c_Tr_switchEnds 52 = .ok (.iload_n 2, 1) := by decide +kernel
theorem d_Tr_switchEnds_53 : decode c_Tr_switchEnds 53 = .ok (.ifCond .ne 17, 3) := by decide +kernel
theorem d_Tr_switchEnds_56 : decode c_Tr_switchEnds 56 = .ok (.aload 4, 2) := by decide +kernel
theorem d_Tr_switchEnds_58 : decode c_Tr_switchEnds 58 = .ok (.getfield 91, 3) := by decide +kernel
theorem d_Tr_switchEnds_61 : decode c_Tr_switchEnds 61 = .ok (.ifCond .eq 9, 3) := by decide +kernel
theorem d_Tr_switchEnds_64 : decode c_Tr_switchEnds 64 = .ok (.aload_n 0, 1) := by decide +kernel
theorem d_Tr_switchEnds_65 : decode c_Tr_switchEnds 65 = .ok (.aload 4, 2) := by decide +kernel
theorem d_Tr_switchEnds_67 : decode c_Tr_switchEnds 67 = .ok (.invokevirtual 101, 3) := by decide +kernel
theorem d_Tr_switchEnds_70 : decode c_Tr_switchEnds 70 = .ok (.iinc 3 1, 3) := by decide +kernel
theorem d_Tr_switchEnds_73 : decode c_Tr_switchEnds 73 = .ok (.goto (-71), 3) := by decide +kernel
theorem d_Tr_switchEnds_76 : decode c_Tr_switchEnds 76 = .ok (.return_, 1) := by decide +kernel
def f_Tr_switchEnds_70 (k2 : Int32 → Int32 → Int32 → sn_M) (a : Nat) (x1 : Int32) (x2 : Int32) (x3 : Int32) : sn_M := k2 x1 x2 (x3 + (1 : Int32))
set_option maxHeartbeats 4000000 in
set_option maxRecDepth 100000 in
theorem mono_Tr_switchEnds_70 (k2 : Int32 → Int32 → Int32 → sn_M) (mk2 : ∀ (x1 : Int32) (x2 : Int32) (x3 : Int32), sn_Mono (k2 x1 x2 x3)) (a : Nat) (x1 : Int32) (x2 : Int32) (x3 : Int32) : sn_Mono (f_Tr_switchEnds_70 k2 a x1 x2 x3) := mk2 x1 x2 (x3 + (1 : Int32))
set_option maxHeartbeats 4000000 in
set_option maxRecDepth 100000 in
theorem s_Tr_switchEnds_70 {X : sn_X} (C : sn_Cx X c_Tr_switchEnds "SignalNetwork$Transfer" none "switchEnds" 5 4 101) (a : Nat) (k2 : Int32 → Int32 → Int32 → sn_M) (hk2 : ∀ (x1 : Int32) (x2 : Int32) (x3 : Int32), sn_S X 2 [(0, vA (some a)), (1, vI x1), (2, vI x2), (3, vI x3)] [] (k2 x1 x2 x3)) (x1 : Int32) (x2 : Int32) (x3 : Int32) : sn_S X 70 [(0, vA (some a)), (1, vI x1), (2, vI x2), (3, vI x3)] [] (f_Tr_switchEnds_70 k2 a x1 x2 x3) := by
  unfold f_Tr_switchEnds_70
  refine r_iinc (q := 73) (pl := 3) (v := x3 + (1 : Int32)) (lv' := [(3, vI (x3 + (1 : Int32))), (0, vA (some a)), (1, vI x1), (2, vI x2)]) C d_Tr_switchEnds_70 rfl rfl rfl (by decide) rfl ?_
  refine r_goto (tgt := 2) C d_Tr_switchEnds_73 (by decide) ?_
  refine r_sub (lv' := [(0, vA (some a)), (1, vI x1), (2, vI x2), (3, vI (x3 + (1 : Int32)))]) [1, 2, 3, 0] rfl ?_
  exact hk2 x1 x2 (x3 + (1 : Int32))
def f_Tr_switchEnds_52 (k2 : Int32 → Int32 → Int32 → sn_M) (a : Nat) (x1 : Int32) (x2 : Int32) (x3 : Int32) (r4 : Option Nat) : sn_M := (if ¬ x2 = 0 then f_Tr_switchEnds_70 k2 a x1 x2 x3 else g_I 2 7 r4 fun v1 => (if v1 = 0 then f_Tr_switchEnds_70 k2 a x1 x2 x3 else n_n 8 (some a) fun a2 => c_V (f_Tr_fail a2 r4) (f_Tr_switchEnds_70 k2 a x1 x2 x3)))
set_option maxHeartbeats 4000000 in
set_option maxRecDepth 100000 in
theorem mono_Tr_switchEnds_52 (k2 : Int32 → Int32 → Int32 → sn_M) (mk2 : ∀ (x1 : Int32) (x2 : Int32) (x3 : Int32), sn_Mono (k2 x1 x2 x3)) (a : Nat) (x1 : Int32) (x2 : Int32) (x3 : Int32) (r4 : Option Nat) : sn_Mono (f_Tr_switchEnds_52 k2 a x1 x2 x3 r4) := sn_Mono.ite (mono_Tr_switchEnds_70 k2 mk2 a x1 x2 x3) (sn_Mono.gI (fun v1 => sn_Mono.ite (mono_Tr_switchEnds_70 k2 mk2 a x1 x2 x3) (sn_Mono.nn (fun a2 => sn_Mono.cV (mono_Tr_fail a2 r4) (mono_Tr_switchEnds_70 k2 mk2 a x1 x2 x3)))))
set_option maxHeartbeats 4000000 in
set_option maxRecDepth 100000 in
theorem s_Tr_switchEnds_52 {X : sn_X} (C : sn_Cx X c_Tr_switchEnds "SignalNetwork$Transfer" none "switchEnds" 5 4 101) (a : Nat) (k2 : Int32 → Int32 → Int32 → sn_M) (hk2 : ∀ (x1 : Int32) (x2 : Int32) (x3 : Int32), sn_S X 2 [(0, vA (some a)), (1, vI x1), (2, vI x2), (3, vI x3)] [] (k2 x1 x2 x3)) (x1 : Int32) (x2 : Int32) (x3 : Int32) (r4 : Option Nat) : sn_S X 52 [(0, vA (some a)), (1, vI x1), (2, vI x2), (3, vI x3), (4, vA r4)] [] (f_Tr_switchEnds_52 k2 a x1 x2 x3 r4) := by
  unfold f_Tr_switchEnds_52
  refine r_iload_n (q := 53) (i := 2) (pl := 2) C d_Tr_switchEnds_52 rfl rfl rfl ?_
  refine r_if_ne (tgt := 70) (q := 56) C d_Tr_switchEnds_53 (by decide) rfl ?_ ?_
  · refine r_sub (lv' := [(0, vA (some a)), (1, vI x1), (2, vI x2), (3, vI x3)]) [0, 1, 2, 3] rfl ?_
    exact s_Tr_switchEnds_70 C a k2 hk2 x1 x2 x3
  · refine r_aload (q := 58) (i := 4) (pl := 4) C d_Tr_switchEnds_56 rfl rfl ?_
    refine r_gI (q := 61) C d_Tr_switchEnds_58 rfl F_Tr_91 rfl (fun v1 => ?_)
    refine r_if_eq (tgt := 70) (q := 64) C d_Tr_switchEnds_61 (by decide) rfl ?_ ?_
    · refine r_sub (lv' := [(0, vA (some a)), (1, vI x1), (2, vI x2), (3, vI x3)]) [0, 1, 2, 3] rfl ?_
      exact s_Tr_switchEnds_70 C a k2 hk2 x1 x2 x3
    · refine r_aload_n (q := 65) (i := 0) (pl := 0) C d_Tr_switchEnds_64 rfl rfl rfl ?_
      refine r_aload (q := 67) (i := 4) (pl := 4) C d_Tr_switchEnds_65 rfl rfl ?_
      refine r_cvV (q := 70) (As := [vA r4]) (st := []) (cy := 7) C d_Tr_switchEnds_67 rfl Y_Tr_fail L_Tr_101 I_Tr_fail Se_Tr_fail rfl (by decide) rfl (Nat.le_of_ble_eq_true rfl) (Nat.le_of_ble_eq_true rfl) (Nat.le_of_ble_eq_true rfl) rfl (fun a2 => con_Tr_fail a2 r4) ?_
      refine r_sub (lv' := [(0, vA (some a)), (1, vI x1), (2, vI x2), (3, vI x3)]) [0, 1, 2, 3] rfl ?_
      exact s_Tr_switchEnds_70 C a k2 hk2 x1 x2 x3
def f_Tr_switchEnds_2 (a : Nat) : Nat → Int32 → Int32 → Int32 → sn_M
  | 0, _, _, _ => r_0
  | n + 1, x1, x2, x3 => (if (2 : Int32) ≤ x3 then r_V else n_n 8 (some a) fun a4 => c_R (f_Tr_endOf a4 x1 x3) fun v5 => (if ¬ v5 = none then (if x2 = 0 then f_Tr_switchEnds_52 (f_Tr_switchEnds_2 a n) a x1 x2 x3 v5 else g_I 2 7 v5 fun v6 => (if ¬ v6 = 0 then f_Tr_switchEnds_52 (f_Tr_switchEnds_2 a n) a x1 x2 x3 v5 else g_I 2 8 v5 fun v7 => (if ¬ v7 = 0 then f_Tr_switchEnds_52 (f_Tr_switchEnds_2 a n) a x1 x2 x3 v5 else n_n 8 (some a) fun a8 => c_V (f_Tr_start a8 v5) (f_Tr_switchEnds_70 (f_Tr_switchEnds_2 a n) a x1 x2 x3)))) else f_Tr_switchEnds_70 (f_Tr_switchEnds_2 a n) a x1 x2 x3))
set_option maxHeartbeats 4000000 in
set_option maxRecDepth 100000 in
theorem mono_Tr_switchEnds_2 (a : Nat) : ∀ (n : Nat) (x1 : Int32) (x2 : Int32) (x3 : Int32), sn_Mono (f_Tr_switchEnds_2 a n x1 x2 x3)
  | 0, _, _, _ => sn_Mono.r0
  | n + 1, x1, x2, x3 => sn_Mono.ite (sn_Mono.rV) (sn_Mono.nn (fun a4 => sn_Mono.cR (mono_Tr_endOf a4 x1 x3) (fun v5 => sn_Mono.ite (sn_Mono.ite (mono_Tr_switchEnds_52 (f_Tr_switchEnds_2 a n) (mono_Tr_switchEnds_2 a n) a x1 x2 x3 v5) (sn_Mono.gI (fun v6 => sn_Mono.ite (mono_Tr_switchEnds_52 (f_Tr_switchEnds_2 a n) (mono_Tr_switchEnds_2 a n) a x1 x2 x3 v5) (sn_Mono.gI (fun v7 => sn_Mono.ite (mono_Tr_switchEnds_52 (f_Tr_switchEnds_2 a n) (mono_Tr_switchEnds_2 a n) a x1 x2 x3 v5) (sn_Mono.nn (fun a8 => sn_Mono.cV (mono_Tr_start a8 v5) (mono_Tr_switchEnds_70 (f_Tr_switchEnds_2 a n) (mono_Tr_switchEnds_2 a n) a x1 x2 x3)))))))) (mono_Tr_switchEnds_70 (f_Tr_switchEnds_2 a n) (mono_Tr_switchEnds_2 a n) a x1 x2 x3))))
set_option maxHeartbeats 4000000 in
set_option maxRecDepth 100000 in
theorem s_Tr_switchEnds_2 {X : sn_X} (C : sn_Cx X c_Tr_switchEnds "SignalNetwork$Transfer" none "switchEnds" 5 4 101) (a : Nat) (n : Nat) : ∀ (x1 : Int32) (x2 : Int32) (x3 : Int32), sn_S X 2 [(0, vA (some a)), (1, vI x1), (2, vI x2), (3, vI x3)] [] (f_Tr_switchEnds_2 a n x1 x2 x3) := by
  induction n with
  | zero => intro x1 x2 x3; exact sn_S.zero
  | succ n ih =>
    intro x1 x2 x3
    unfold f_Tr_switchEnds_2
    refine r_iload_n (q := 3) (i := 3) (pl := 3) C d_Tr_switchEnds_2 rfl rfl rfl ?_
    refine r_iconst (q := 4) (v := 2) C d_Tr_switchEnds_3 rfl (by decide) ?_
    refine r_icmp_ge (tgt := 76) (q := 7) C d_Tr_switchEnds_4 (by decide) rfl ?_ ?_
    · exact r_vret C d_Tr_switchEnds_76 rfl
    · refine r_aload_n (q := 8) (i := 0) (pl := 0) C d_Tr_switchEnds_7 rfl rfl rfl ?_
      refine r_iload_n (q := 9) (i := 1) (pl := 1) C d_Tr_switchEnds_8 rfl rfl rfl ?_
      refine r_iload_n (q := 10) (i := 3) (pl := 3) C d_Tr_switchEnds_9 rfl rfl rfl ?_
      refine r_cvR (q := 13) (As := [vI x1, vI x3]) (st := []) (cy := 7) C d_Tr_switchEnds_10 rfl Y_Tr_endOf L_Tr_87 I_Tr_endOf Se_Tr_endOf rfl (by decide) rfl (Nat.le_of_ble_eq_true rfl) (Nat.le_of_ble_eq_true rfl) (Nat.le_of_ble_eq_true rfl) rfl (fun a4 => con_Tr_endOf a4 x1 x3) (fun v5 => ?_)
      refine r_astore (q := 15) (i := 4) (lv' := [(4, vA v5), (0, vA (some a)), (1, vI x1), (2, vI x2), (3, vI x3)]) C d_Tr_switchEnds_13 rfl (by decide) rfl ?_
      refine r_aload (q := 17) (i := 4) (pl := 0) C d_Tr_switchEnds_15 rfl rfl ?_
      refine r_ifnonnull (tgt := 23) (q := 20) C d_Tr_switchEnds_17 (by decide) rfl ?_ ?_
      · refine r_iload_n (q := 24) (i := 2) (pl := 3) C d_Tr_switchEnds_23 rfl rfl rfl ?_
        refine r_if_eq (tgt := 52) (q := 27) C d_Tr_switchEnds_24 (by decide) rfl ?_ ?_
        · refine r_sub (lv' := [(0, vA (some a)), (1, vI x1), (2, vI x2), (3, vI x3), (4, vA v5)]) [1, 2, 3, 4, 0] rfl ?_
          exact s_Tr_switchEnds_52 C a (f_Tr_switchEnds_2 a n) ih x1 x2 x3 v5
        · refine r_aload (q := 29) (i := 4) (pl := 0) C d_Tr_switchEnds_27 rfl rfl ?_
          refine r_gI (q := 32) C d_Tr_switchEnds_29 rfl F_Tr_91 rfl (fun v6 => ?_)
          refine r_if_ne (tgt := 52) (q := 35) C d_Tr_switchEnds_32 (by decide) rfl ?_ ?_
          · refine r_sub (lv' := [(0, vA (some a)), (1, vI x1), (2, vI x2), (3, vI x3), (4, vA v5)]) [1, 2, 3, 4, 0] rfl ?_
            exact s_Tr_switchEnds_52 C a (f_Tr_switchEnds_2 a n) ih x1 x2 x3 v5
          · refine r_aload (q := 37) (i := 4) (pl := 0) C d_Tr_switchEnds_35 rfl rfl ?_
            refine r_gI (q := 40) C d_Tr_switchEnds_37 rfl F_Tr_94 rfl (fun v7 => ?_)
            refine r_if_ne (tgt := 52) (q := 43) C d_Tr_switchEnds_40 (by decide) rfl ?_ ?_
            · refine r_sub (lv' := [(0, vA (some a)), (1, vI x1), (2, vI x2), (3, vI x3), (4, vA v5)]) [1, 2, 3, 4, 0] rfl ?_
              exact s_Tr_switchEnds_52 C a (f_Tr_switchEnds_2 a n) ih x1 x2 x3 v5
            · refine r_aload_n (q := 44) (i := 0) (pl := 1) C d_Tr_switchEnds_43 rfl rfl rfl ?_
              refine r_aload (q := 46) (i := 4) (pl := 0) C d_Tr_switchEnds_44 rfl rfl ?_
              refine r_cvV (q := 49) (As := [vA v5]) (st := []) (cy := 7) C d_Tr_switchEnds_46 rfl Y_Tr_start L_Tr_97 I_Tr_start Se_Tr_start rfl (by decide) rfl (Nat.le_of_ble_eq_true rfl) (Nat.le_of_ble_eq_true rfl) (Nat.le_of_ble_eq_true rfl) rfl (fun a8 => con_Tr_start a8 v5) ?_
              refine r_goto (tgt := 70) C d_Tr_switchEnds_49 (by decide) ?_
              refine r_sub (lv' := [(0, vA (some a)), (1, vI x1), (2, vI x2), (3, vI x3)]) [1, 2, 3, 4] rfl ?_
              exact s_Tr_switchEnds_70 C a (f_Tr_switchEnds_2 a n) ih x1 x2 x3
      · refine r_goto (tgt := 70) C d_Tr_switchEnds_20 (by decide) ?_
        refine r_sub (lv' := [(0, vA (some a)), (1, vI x1), (2, vI x2), (3, vI x3)]) [1, 2, 3, 4] rfl ?_
        exact s_Tr_switchEnds_70 C a (f_Tr_switchEnds_2 a n) ih x1 x2 x3
def f_Tr_switchEnds (a : Nat) (x1 : Int32) (x2 : Int32) : sn_M := f_Tr_switchEnds_2 a sn_fuel x1 x2 (0 : Int32)
set_option maxHeartbeats 4000000 in
set_option maxRecDepth 100000 in
theorem mono_Tr_switchEnds (a : Nat) (x1 : Int32) (x2 : Int32) : sn_Mono (f_Tr_switchEnds a x1 x2) := mono_Tr_switchEnds_2 a sn_fuel x1 x2 (0 : Int32)
set_option maxHeartbeats 4000000 in
set_option maxRecDepth 100000 in
theorem con_Tr_switchEnds (a : Nat) (x1 : Int32) (x2 : Int32) : sn_Con y_Tr_switchEnds c_Tr_switchEnds 5 none 4 101 [vA (some a), vI x1, vI x2] (f_Tr_switchEnds a x1 x2) := by
  refine sn_Con.of (by decide +kernel) (by show _ ≤ _; exact Nat.le_of_ble_eq_true rfl) (mono_Tr_switchEnds a x1 x2) (fun X C => ?_)
  show sn_S X 0 [(0, vA (some a)), (1, vI x1), (2, vI x2)] [] _
  replace C : sn_Cx X c_Tr_switchEnds "SignalNetwork$Transfer" none "switchEnds" 5 4 101 := C
  unfold f_Tr_switchEnds
  refine r_iconst (q := 1) (v := 0) C d_Tr_switchEnds_0 rfl (by decide) ?_
  refine r_istore_n (q := 2) (i := 3) (lv' := [(3, vI (0 : Int32)), (0, vA (some a)), (1, vI x1), (2, vI x2)]) C d_Tr_switchEnds_1 rfl rfl (by decide) rfl ?_
  refine r_sub (lv' := [(0, vA (some a)), (1, vI x1), (2, vI x2), (3, vI (0 : Int32))]) [1, 2, 3, 0] rfl ?_
  exact s_Tr_switchEnds_2 C a sn_fuel x1 x2 (0 : Int32)
theorem d_Tr_sendBack_0 : decode c_Tr_sendBack 0 = .ok (.aload_n 1, 1) := by decide +kernel
theorem d_Tr_sendBack_1 : decode c_Tr_sendBack 1 = .ok (.getfield 245, 3) := by decide +kernel
theorem d_Tr_sendBack_4 : decode c_Tr_sendBack 4 = .ok (.ifnull 26, 3) := by decide +kernel
theorem d_Tr_sendBack_7 : decode c_Tr_sendBack 7 = .ok (.aload_n 0, 1) := by decide +kernel
theorem d_Tr_sendBack_8 : decode c_Tr_sendBack 8 = .ok (.aload_n 1, 1) := by decide +kernel
theorem d_Tr_sendBack_9 : decode c_Tr_sendBack 9 = .ok (.getfield 245, 3) := by decide +kernel
theorem d_Tr_sendBack_12 : decode c_Tr_sendBack 12 = .ok (.iconst 3, 1) := by decide +kernel
theorem d_Tr_sendBack_13 : decode c_Tr_sendBack 13 = .ok (.iload_n 2, 1) := by decide +kernel
theorem d_Tr_sendBack_14 : decode c_Tr_sendBack 14 = .ok (.aload_n 1, 1) := by decide +kernel
theorem d_Tr_sendBack_15 : decode c_Tr_sendBack 15 = .ok (.getfield 76, 3) := by decide +kernel
theorem d_Tr_sendBack_18 : decode c_Tr_sendBack 18 = .ok (.iload_n 3, 1) := by decide +kernel
theorem d_Tr_sendBack_19 : decode c_Tr_sendBack 19 = .ok (.iload_n 3, 1) := by decide +kernel
theorem d_Tr_sendBack_20 : decode c_Tr_sendBack 20 = .ok (.aload_n 1, 1) := by decide +kernel
theorem d_Tr_sendBack_21 : decode c_Tr_sendBack 21 = .ok (.getfield 249, 3) := by decide +kernel
theorem d_Tr_sendBack_24 : decode c_Tr_sendBack 24 = .ok (.invokestatic 255, 3) := by decide +kernel
theorem d_Tr_sendBack_27 : decode c_Tr_sendBack 27 = .ok (.invokevirtual 231, 3) := by decide +kernel
theorem d_Tr_sendBack_30 : decode c_Tr_sendBack 30 = .ok (.aload_n 1, 1) := by decide +kernel
theorem d_Tr_sendBack_31 : decode c_Tr_sendBack 31 = .ok (.aload_n 0, 1) := by decide +kernel
theorem d_Tr_sendBack_32 : decode c_Tr_sendBack 32 = .ok (.getfield 38, 3) := by decide +kernel
theorem d_Tr_sendBack_35 : decode c_Tr_sendBack 35 = .ok (.bipush 20, 2) := by decide +kernel
theorem d_Tr_sendBack_37 : decode c_Tr_sendBack 37 = .ok (.invokevirtual 259, 3) := by decide +kernel
theorem d_Tr_sendBack_40 : decode c_Tr_sendBack 40 = .ok (.putfield 265, 3) := by decide +kernel
theorem d_Tr_sendBack_43 : decode c_Tr_sendBack 43 = .ok (.return_, 1) := by decide +kernel
def f_Tr_sendBack_30 (a : Nat) (r1 : Option Nat) : sn_M := g_R 8 1 (some a) fun v1 => n_n 1 v1 fun a2 => c_I (f_Ck_after a2 (20 : Int32)) fun v3 => p_I 3 4 r1 v3 (r_V)
set_option maxHeartbeats 4000000 in
set_option maxRecDepth 100000 in
theorem mono_Tr_sendBack_30 (a : Nat) (r1 : Option Nat) : sn_Mono (f_Tr_sendBack_30 a r1) := sn_Mono.gR (fun v1 => sn_Mono.nn (fun a2 => sn_Mono.cI (mono_Ck_after a2 (20 : Int32)) (fun v3 => sn_Mono.pI (sn_Mono.rV))))
set_option maxHeartbeats 4000000 in
set_option maxRecDepth 100000 in
theorem s_Tr_sendBack_30 {X : sn_X} (C : sn_Cx X c_Tr_sendBack "SignalNetwork$Transfer" none "sendBack" 4 2 46) (a : Nat) (r1 : Option Nat) : sn_S X 30 [(0, vA (some a)), (1, vA r1)] [] (f_Tr_sendBack_30 a r1) := by
  unfold f_Tr_sendBack_30
  refine r_aload_n (q := 31) (i := 1) (pl := 1) C d_Tr_sendBack_30 rfl rfl rfl ?_
  refine r_aload_n (q := 32) (i := 0) (pl := 0) C d_Tr_sendBack_31 rfl rfl rfl ?_
  refine r_gR (q := 35) C d_Tr_sendBack_32 rfl F_Tr_38 rfl (fun v1 => ?_)
  refine r_bipush (q := 37) (v := 20) C d_Tr_sendBack_35 rfl (by decide) ?_
  refine r_cvI (q := 40) (As := [vI (20 : Int32)]) (st := [vA r1]) (cy := 0) C d_Tr_sendBack_37 rfl Y_Ck_after L_Tr_259 I_Ck_after Se_Ck_after rfl (by decide) rfl (Nat.le_of_ble_eq_true rfl) (Nat.le_of_ble_eq_true rfl) (Nat.le_of_ble_eq_true rfl) rfl (fun a2 => con_Ck_after a2 (20 : Int32)) (fun v3 => ?_)
  refine r_pI (q := 43) C d_Tr_sendBack_40 rfl F_Tr_265 rfl rfl (Or.inl rfl) ?_
  exact r_vret C d_Tr_sendBack_43 rfl
def f_Tr_sendBack (a : Nat) (r1 : Option Nat) (x2 : Int32) (x3 : Int32) : sn_M := g_R 3 1 r1 fun v4 => (if v4 = none then f_Tr_sendBack_30 a r1 else g_R 3 1 r1 fun v5 => g_I 3 0 r1 fun v6 => g_I 3 5 r1 fun v7 => c_J (f_Ms_of (3 : Int32) x2 v6 x3 x3 v7) fun v8 => n_n 8 (some a) fun a9 => c_V (f_Tr_waitAt a9 v5 v8) (f_Tr_sendBack_30 a r1))
set_option maxHeartbeats 4000000 in
set_option maxRecDepth 100000 in
theorem mono_Tr_sendBack (a : Nat) (r1 : Option Nat) (x2 : Int32) (x3 : Int32) : sn_Mono (f_Tr_sendBack a r1 x2 x3) := sn_Mono.gR (fun v4 => sn_Mono.ite (mono_Tr_sendBack_30 a r1) (sn_Mono.gR (fun v5 => sn_Mono.gI (fun v6 => sn_Mono.gI (fun v7 => sn_Mono.cJ (mono_Ms_of (3 : Int32) x2 v6 x3 x3 v7) (fun v8 => sn_Mono.nn (fun a9 => sn_Mono.cV (mono_Tr_waitAt a9 v5 v8) (mono_Tr_sendBack_30 a r1))))))))
set_option maxHeartbeats 4000000 in
set_option maxRecDepth 100000 in
theorem con_Tr_sendBack (a : Nat) (r1 : Option Nat) (x2 : Int32) (x3 : Int32) : sn_Con y_Tr_sendBack c_Tr_sendBack 4 none 2 46 [vA (some a), vA r1, vI x2, vI x3] (f_Tr_sendBack a r1 x2 x3) := by
  refine sn_Con.of (by decide +kernel) (by show _ ≤ _; exact Nat.le_of_ble_eq_true rfl) (mono_Tr_sendBack a r1 x2 x3) (fun X C => ?_)
  show sn_S X 0 [(0, vA (some a)), (1, vA r1), (2, vI x2), (3, vI x3)] [] _
  replace C : sn_Cx X c_Tr_sendBack "SignalNetwork$Transfer" none "sendBack" 4 2 46 := C
  unfold f_Tr_sendBack
  refine r_aload_n (q := 1) (i := 1) (pl := 1) C d_Tr_sendBack_0 rfl rfl rfl ?_
  refine r_gR (q := 4) C d_Tr_sendBack_1 rfl F_Tr_245 rfl (fun v4 => ?_)
  refine r_ifnull (tgt := 30) (q := 7) C d_Tr_sendBack_4 (by decide) rfl ?_ ?_
  · refine r_sub (lv' := [(0, vA (some a)), (1, vA r1)]) [0, 1] rfl ?_
    exact s_Tr_sendBack_30 C a r1
  · refine r_aload_n (q := 8) (i := 0) (pl := 0) C d_Tr_sendBack_7 rfl rfl rfl ?_
    refine r_aload_n (q := 9) (i := 1) (pl := 1) C d_Tr_sendBack_8 rfl rfl rfl ?_
    refine r_gR (q := 12) C d_Tr_sendBack_9 rfl F_Tr_245 rfl (fun v5 => ?_)
    refine r_iconst (q := 13) (v := 3) C d_Tr_sendBack_12 rfl (by decide) ?_
    refine r_iload_n (q := 14) (i := 2) (pl := 2) C d_Tr_sendBack_13 rfl rfl rfl ?_
    refine r_aload_n (q := 15) (i := 1) (pl := 1) C d_Tr_sendBack_14 rfl rfl rfl ?_
    refine r_gI (q := 18) C d_Tr_sendBack_15 rfl F_Tr_76 rfl (fun v6 => ?_)
    refine r_iload_n (q := 19) (i := 3) (pl := 3) C d_Tr_sendBack_18 rfl rfl rfl ?_
    refine r_iload_n (q := 20) (i := 3) (pl := 3) C d_Tr_sendBack_19 rfl rfl rfl ?_
    refine r_aload_n (q := 21) (i := 1) (pl := 1) C d_Tr_sendBack_20 rfl rfl rfl ?_
    refine r_gI (q := 24) C d_Tr_sendBack_21 rfl F_Tr_249 rfl (fun v7 => ?_)
    refine r_csJ (q := 27) (As := [vI (3 : Int32), vI x2, vI v6, vI x3, vI x3, vI v7]) (st := [vA v5, vA (some a)]) C d_Tr_sendBack_24 rfl Y_Ms_of L_Tr_255 St_Ms_of rfl (Nat.le_of_ble_eq_true rfl) (Nat.le_of_ble_eq_true rfl) (Nat.le_of_ble_eq_true rfl) rfl (con_Ms_of (3 : Int32) x2 v6 x3 x3 v7) (fun v8 => ?_)
    refine r_cvV (q := 30) (As := [vA v5, vJ v8]) (st := []) (cy := 7) C d_Tr_sendBack_27 rfl Y_Tr_waitAt L_Tr_231 I_Tr_waitAt Se_Tr_waitAt rfl (by decide) rfl (Nat.le_of_ble_eq_true rfl) (Nat.le_of_ble_eq_true rfl) (Nat.le_of_ble_eq_true rfl) rfl (fun a9 => con_Tr_waitAt a9 v5 v8) ?_
    refine r_sub (lv' := [(0, vA (some a)), (1, vA r1)]) [0, 1] rfl ?_
    exact s_Tr_sendBack_30 C a r1
theorem d_Tr_useBest_0 : decode c_Tr_useBest 0 = .ok (.aload_n 0, 1) := by decide +kernel
theorem d_Tr_useBest_1 : decode c_Tr_useBest 1 = .ok (.iload_n 2, 1) := by decide +kernel
theorem d_Tr_useBest_2 : decode c_Tr_useBest 2 = .ok (.aload_n 1, 1) := by decide +kernel
theorem d_Tr_useBest_3 : decode c_Tr_useBest 3 = .ok (.getfield 76, 3) := by decide +kernel
theorem d_Tr_useBest_6 : decode c_Tr_useBest 6 = .ok (.iload_n 3, 1) := by decide +kernel
theorem d_Tr_useBest_7 : decode c_Tr_useBest 7 = .ok (.invokevirtual 108, 3) := by decide +kernel
theorem d_Tr_useBest_10 : decode c_Tr_useBest 10 = .ok (.astore 4, 2) := by decide +kernel
theorem d_Tr_useBest_12 : decode c_Tr_useBest 12 = .ok (.aload_n 1, 1) := by decide +kernel
theorem d_Tr_useBest_13 : decode c_Tr_useBest 13 = .ok (.getfield 245, 3) := by decide +kernel
theorem d_Tr_useBest_16 : decode c_Tr_useBest 16 = .ok (.ifnonnull 12, 3) := by decide +kernel
theorem d_Tr_useBest_19 : decode c_Tr_useBest 19 = .ok (.aload_n 1, 1) := by decide +kernel
theorem d_Tr_useBest_20 : decode c_Tr_useBest 20 = .ok (.aload 4, 2) := by decide +kernel
theorem d_Tr_useBest_22 : decode c_Tr_useBest 22 = .ok (.putfield 245, 3) := by decide +kernel
theorem d_Tr_useBest_25 : decode c_Tr_useBest 25 = .ok (.goto 38, 3) := by decide +kernel
theorem d_Tr_useBest_28 : decode c_Tr_useBest 28 = .ok (.aload_n 1, 1) := by decide +kernel
theorem d_Tr_useBest_29 : decode c_Tr_useBest 29 = .ok (.getfield 245, 3) := by decide +kernel
theorem d_Tr_useBest_32 : decode c_Tr_useBest 32 = .ok (.aload 4, 2) := by decide +kernel
theorem d_Tr_useBest_34 : decode c_Tr_useBest 34 = .ok (.if_acmp .eq 29, 3) := by decide +kernel
theorem d_Tr_useBest_37 : decode c_Tr_useBest 37 = .ok (.aload_n 1, 1) := by decide +kernel
theorem d_Tr_useBest_38 : decode c_Tr_useBest 38 = .ok (.aload_n 1, 1) := by decide +kernel
theorem d_Tr_useBest_39 : decode c_Tr_useBest 39 = .ok (.getfield 249, 3) := by decide +kernel
theorem d_Tr_useBest_42 : decode c_Tr_useBest 42 = .ok (.iconst 1, 1) := by decide +kernel
theorem d_Tr_useBest_43 : decode c_Tr_useBest 43 = .ok (.iadd, 1) := by decide +kernel
theorem d_Tr_useBest_44 : decode c_Tr_useBest 44 = .ok (.sipush 256, 3) := by decide +kernel
theorem d_Tr_useBest_47 : decode c_Tr_useBest 47 = .ok (.irem, 1) := by decide +kernel
theorem d_Tr_useBest_48 : decode c_Tr_useBest 48 = .ok (.putfield 249, 3) := by decide +kernel
theorem d_Tr_useBest_51 : decode c_Tr_useBest 51 = .ok (.aload_n 0, 1) := by decide +kernel
theorem d_Tr_useBest_52 : decode c_Tr_useBest 52 = .ok (.aload_n 1, 1) := by decide +kernel
theorem d_Tr_useBest_53 : decode c_Tr_useBest 53 = .ok (.iload_n 2, 1) := by decide +kernel
theorem d_Tr_useBest_54 : decode c_Tr_useBest 54 = .ok (.iload_n 3, 1) := by decide +kernel
theorem d_Tr_useBest_55 : decode c_Tr_useBest 55 = .ok (.invokevirtual 252, 3) := by decide +kernel
theorem d_Tr_useBest_58 : decode c_Tr_useBest 58 = .ok (.aload_n 1, 1) := by decide +kernel
theorem d_Tr_useBest_59 : decode c_Tr_useBest 59 = .ok (.iconst 2, 1) := by decide +kernel
theorem d_Tr_useBest_60 : decode c_Tr_useBest 60 = .ok (.putfield 235, 3) := by decide +kernel
theorem d_Tr_useBest_63 : decode c_Tr_useBest 63 = .ok (.return_, 1) := by decide +kernel
def f_Tr_useBest_63 (a : Nat) : sn_M := r_V
set_option maxHeartbeats 4000000 in
set_option maxRecDepth 100000 in
theorem mono_Tr_useBest_63 (a : Nat) : sn_Mono (f_Tr_useBest_63 a) := sn_Mono.rV
set_option maxHeartbeats 4000000 in
set_option maxRecDepth 100000 in
theorem s_Tr_useBest_63 {X : sn_X} (C : sn_Cx X c_Tr_useBest "SignalNetwork$Transfer" none "useBest" 5 3 69) (a : Nat) : sn_S X 63 [(0, vA (some a))] [] (f_Tr_useBest_63 a) := by
  unfold f_Tr_useBest_63
  exact r_vret C d_Tr_useBest_63 rfl
def f_Tr_useBest (a : Nat) (r1 : Option Nat) (x2 : Int32) (x3 : Int32) : sn_M := g_I 3 0 r1 fun v1 => n_n 8 (some a) fun a2 => c_R (f_Tr_best a2 x2 v1 x3) fun v3 => g_R 3 1 r1 fun v4 => (if ¬ v4 = none then g_R 3 1 r1 fun v5 => (if v5 = v3 then f_Tr_useBest_63 a else g_I 3 5 r1 fun v6 => p_I 3 5 r1 ((v6 + (1 : Int32)) % (256 : Int32)) (n_n 8 (some a) fun a7 => c_V (f_Tr_sendBack a7 r1 x2 x3) (p_I 3 2 r1 (2 : Int32) (f_Tr_useBest_63 a)))) else p_R 3 1 r1 v3 (f_Tr_useBest_63 a))
set_option maxHeartbeats 4000000 in
set_option maxRecDepth 100000 in
theorem mono_Tr_useBest (a : Nat) (r1 : Option Nat) (x2 : Int32) (x3 : Int32) : sn_Mono (f_Tr_useBest a r1 x2 x3) := sn_Mono.gI (fun v1 => sn_Mono.nn (fun a2 => sn_Mono.cR (mono_Tr_best a2 x2 v1 x3) (fun v3 => sn_Mono.gR (fun v4 => sn_Mono.ite (sn_Mono.gR (fun v5 => sn_Mono.ite (mono_Tr_useBest_63 a) (sn_Mono.gI (fun v6 => sn_Mono.pI (sn_Mono.nn (fun a7 => sn_Mono.cV (mono_Tr_sendBack a7 r1 x2 x3) (sn_Mono.pI (mono_Tr_useBest_63 a)))))))) (sn_Mono.pR (mono_Tr_useBest_63 a))))))
set_option maxHeartbeats 4000000 in
set_option maxRecDepth 100000 in
theorem con_Tr_useBest (a : Nat) (r1 : Option Nat) (x2 : Int32) (x3 : Int32) : sn_Con y_Tr_useBest c_Tr_useBest 5 none 3 69 [vA (some a), vA r1, vI x2, vI x3] (f_Tr_useBest a r1 x2 x3) := by
  refine sn_Con.of (by decide +kernel) (by show _ ≤ _; exact Nat.le_of_ble_eq_true rfl) (mono_Tr_useBest a r1 x2 x3) (fun X C => ?_)
  show sn_S X 0 [(0, vA (some a)), (1, vA r1), (2, vI x2), (3, vI x3)] [] _
  replace C : sn_Cx X c_Tr_useBest "SignalNetwork$Transfer" none "useBest" 5 3 69 := C
  unfold f_Tr_useBest
  refine r_aload_n (q := 1) (i := 0) (pl := 0) C d_Tr_useBest_0 rfl rfl rfl ?_
  refine r_iload_n (q := 2) (i := 2) (pl := 2) C d_Tr_useBest_1 rfl rfl rfl ?_
  refine r_aload_n (q := 3) (i := 1) (pl := 1) C d_Tr_useBest_2 rfl rfl rfl ?_
  refine r_gI (q := 6) C d_Tr_useBest_3 rfl F_Tr_76 rfl (fun v1 => ?_)
  refine r_iload_n (q := 7) (i := 3) (pl := 3) C d_Tr_useBest_6 rfl rfl rfl ?_
  refine r_cvR (q := 10) (As := [vI x2, vI v1, vI x3]) (st := []) (cy := 7) C d_Tr_useBest_7 rfl Y_Tr_best L_Tr_108 I_Tr_best Se_Tr_best rfl (by decide) rfl (Nat.le_of_ble_eq_true rfl) (Nat.le_of_ble_eq_true rfl) (Nat.le_of_ble_eq_true rfl) rfl (fun a2 => con_Tr_best a2 x2 v1 x3) (fun v3 => ?_)
  refine r_astore (q := 12) (i := 4) (lv' := [(4, vA v3), (0, vA (some a)), (1, vA r1), (2, vI x2), (3, vI x3)]) C d_Tr_useBest_10 rfl (by decide) rfl ?_
  refine r_aload_n (q := 13) (i := 1) (pl := 2) C d_Tr_useBest_12 rfl rfl rfl ?_
  refine r_gR (q := 16) C d_Tr_useBest_13 rfl F_Tr_245 rfl (fun v4 => ?_)
  refine r_ifnonnull (tgt := 28) (q := 19) C d_Tr_useBest_16 (by decide) rfl ?_ ?_
  · refine r_aload_n (q := 29) (i := 1) (pl := 2) C d_Tr_useBest_28 rfl rfl rfl ?_
    refine r_gR (q := 32) C d_Tr_useBest_29 rfl F_Tr_245 rfl (fun v5 => ?_)
    refine r_aload (q := 34) (i := 4) (pl := 0) C d_Tr_useBest_32 rfl rfl ?_
    refine r_acmp_eq (tgt := 63) (q := 37) C d_Tr_useBest_34 (by decide) rfl ?_ ?_
    · refine r_sub (lv' := [(0, vA (some a))]) [1] rfl ?_
      exact s_Tr_useBest_63 C a
    · refine r_aload_n (q := 38) (i := 1) (pl := 2) C d_Tr_useBest_37 rfl rfl rfl ?_
      refine r_aload_n (q := 39) (i := 1) (pl := 2) C d_Tr_useBest_38 rfl rfl rfl ?_
      refine r_gI (q := 42) C d_Tr_useBest_39 rfl F_Tr_249 rfl (fun v6 => ?_)
      refine r_iconst (q := 43) (v := 1) C d_Tr_useBest_42 rfl (by decide) ?_
      refine r_iadd (q := 44) C d_Tr_useBest_43 rfl ?_
      refine r_sipush (q := 47) (v := 256) C d_Tr_useBest_44 rfl (by decide) ?_
      refine r_iremc (q := 48) C d_Tr_useBest_47 rfl (by decide) ?_
      refine r_pI (q := 51) C d_Tr_useBest_48 rfl F_Tr_249 rfl rfl (Or.inl rfl) ?_
      refine r_aload_n (q := 52) (i := 0) (pl := 1) C d_Tr_useBest_51 rfl rfl rfl ?_
      refine r_aload_n (q := 53) (i := 1) (pl := 2) C d_Tr_useBest_52 rfl rfl rfl ?_
      refine r_iload_n (q := 54) (i := 2) (pl := 3) C d_Tr_useBest_53 rfl rfl rfl ?_
      refine r_iload_n (q := 55) (i := 3) (pl := 4) C d_Tr_useBest_54 rfl rfl rfl ?_
      refine r_cvV (q := 58) (As := [vA r1, vI x2, vI x3]) (st := []) (cy := 7) C d_Tr_useBest_55 rfl Y_Tr_sendBack L_Tr_252 I_Tr_sendBack Se_Tr_sendBack rfl (by decide) rfl (Nat.le_of_ble_eq_true rfl) (Nat.le_of_ble_eq_true rfl) (Nat.le_of_ble_eq_true rfl) rfl (fun a7 => con_Tr_sendBack a7 r1 x2 x3) ?_
      refine r_aload_n (q := 59) (i := 1) (pl := 2) C d_Tr_useBest_58 rfl rfl rfl ?_
      refine r_iconst (q := 60) (v := 2) C d_Tr_useBest_59 rfl (by decide) ?_
      refine r_pI (q := 63) C d_Tr_useBest_60 rfl F_Tr_235 rfl rfl (Or.inl rfl) ?_
      refine r_sub (lv' := [(0, vA (some a))]) [1] rfl ?_
      exact s_Tr_useBest_63 C a
  · refine r_aload_n (q := 20) (i := 1) (pl := 2) C d_Tr_useBest_19 rfl rfl rfl ?_
    refine r_aload (q := 22) (i := 4) (pl := 0) C d_Tr_useBest_20 rfl rfl ?_
    refine r_pR (q := 25) C d_Tr_useBest_22 rfl F_Tr_245 rfl (Or.inl ⟨_, rfl⟩) (Or.inl rfl) ?_
    refine r_goto (tgt := 63) C d_Tr_useBest_25 (by decide) ?_
    refine r_sub (lv' := [(0, vA (some a))]) [1] rfl ?_
    exact s_Tr_useBest_63 C a
theorem d_Tr_comeUp_0 : decode c_Tr_comeUp 0 = .ok (.aload_n 1, 1) := by decide +kernel
theorem d_Tr_comeUp_1 : decode c_Tr_comeUp 1 = .ok (.getfield 104, 3) := by decide +kernel
theorem d_Tr_comeUp_4 : decode c_Tr_comeUp 4 = .ok (.istore_n 2, 1) := by decide +kernel
theorem d_Tr_comeUp_5 : decode c_Tr_comeUp 5 = .ok (.aload_n 1, 1) := by decide +kernel
theorem d_Tr_comeUp_6 : decode c_Tr_comeUp 6 = .ok (.getfield 107, 3) := by decide +kernel
theorem d_Tr_comeUp_9 : decode c_Tr_comeUp 9 = .ok (.istore_n 3, 1) := by decide +kernel
theorem d_Tr_comeUp_10 : decode c_Tr_comeUp 10 = .ok (.iconst 0, 1) := by decide +kernel
theorem d_Tr_comeUp_11 : decode c_Tr_comeUp 11 = .ok (.istore 4, 2) := by decide +kernel
theorem d_Tr_comeUp_13 : decode c_Tr_comeUp 13 = .ok (.iconst 0, 1) := by decide +kernel
theorem d_Tr_comeUp_14 : decode c_Tr_comeUp 14 = .ok (.istore 5, 2) := by decide +kernel
theorem d_Tr_comeUp_16 : decode c_Tr_comeUp 16 = .ok (.iload 5, 2) := by decide +kernel
theorem d_Tr_comeUp_18 : decode c_Tr_comeUp 18 = .ok (.iconst 4, 1) := by decide +kernel
theorem d_Tr_comeUp_19 : decode c_Tr_comeUp 19 = .ok (.if_icmp .ge 42, 3) := by decide +kernel
theorem d_Tr_comeUp_22 : decode c_Tr_comeUp 22 = .ok (.aload_n 0, 1) := by decide +kernel
theorem d_Tr_comeUp_23 : decode c_Tr_comeUp 23 = .ok (.iload_n 2, 1) := by decide +kernel
theorem d_Tr_comeUp_24 : decode c_Tr_comeUp 24 = .ok (.iload_n 3, 1) := by decide +kernel
theorem d_Tr_comeUp_25 : decode c_Tr_comeUp 25 = .ok (.iload 5, 2) := by decide +kernel
theorem d_Tr_comeUp_27 : decode c_Tr_comeUp 27 = .ok (.invokevirtual 210, 3) := by decide +kernel
theorem d_Tr_comeUp_30 : decode c_Tr_comeUp 30 = .ok (.astore 6, 2) := by decide +kernel
theorem d_Tr_comeUp_32 : decode c_Tr_comeUp 32 = .ok (.iload 4, 2) := by decide +kernel
theorem d_Tr_comeUp_34 : decode c_Tr_comeUp 34 = .ok (.aload 6, 2) := by decide +kernel
theorem d_Tr_comeUp_36 : decode c_Tr_comeUp 36 = .ok (.ifnull 15, 3) := by decide +kernel
theorem d_Tr_comeUp_39 : decode c_Tr_comeUp 39 = .ok (.aload 6, 2) := by decide +kernel
theorem d_Tr_comeUp_41 : decode c_Tr_comeUp 41 = .ok (.invokevirtual 214, 3) := by decide +kernel
theorem d_Tr_comeUp_44 : decode c_Tr_comeUp 44 = .ok (.ifCond .eq 7, 3) := by decide +kernel
theorem d_Tr_comeUp_47 : decode c_Tr_comeUp 47 = .ok (.iconst 1, 1) := by decide +kernel
theorem d_Tr_comeUp_48 : decode c_Tr_comeUp 48 = .ok (.goto 4, 3) := by decide +kernel
theorem d_Tr_comeUp_51 : decode c_Tr_comeUp 51 = .ok (.iconst 0, 1) := by decide +kernel
theorem d_Tr_comeUp_52 : decode c_Tr_comeUp 52 = .ok (.ior, 1) := by decide +kernel
theorem d_Tr_comeUp_53 : decode c_Tr_comeUp 53 = .ok (.istore 4, 2) := by decide +kernel
theorem d_Tr_comeUp_55 : decode c_Tr_comeUp 55 = .ok (.iinc 5 1, 3) := by decide +kernel
theorem d_Tr_comeUp_58 : decode c_Tr_comeUp 58 = .ok (.goto (-42), 3) := by decide +kernel
theorem d_Tr_comeUp_61 : decode c_Tr_comeUp 61 = .ok (.iconst 0, 1) := by decide +kernel
theorem d_Tr_comeUp_62 : decode c_Tr_comeUp 62 = .ok (.istore 5, 2) := by decide +kernel
theorem d_Tr_comeUp_64 : decode c_Tr_comeUp 64 = .ok (.iload 5, 2) := by decide +kernel
theorem d_Tr_comeUp_66 : decode c_Tr_comeUp 66 = .ok (.iconst 4, 1) := by decide +kernel
theorem d_Tr_comeUp_67 : decode c_Tr_comeUp 67 = .ok (.if_icmp .ge 41, 3) := by decide +kernel
theorem d_Tr_comeUp_70 : decode c_Tr_comeUp 70 = .ok (.aload_n 0, 1) := by decide +kernel
theorem d_Tr_comeUp_71 : decode c_Tr_comeUp 71 = .ok (.iload_n 2, 1) := by decide +kernel
theorem d_Tr_comeUp_72 : decode c_Tr_comeUp 72 = .ok (.iload_n 3, 1) := by decide +kernel
theorem d_Tr_comeUp_73 : decode c_Tr_comeUp 73 = .ok (.iload 5, 2) := by decide +kernel
theorem d_Tr_comeUp_75 : decode c_Tr_comeUp 75 = .ok (.invokevirtual 210, 3) := by decide +kernel
theorem d_Tr_comeUp_78 : decode c_Tr_comeUp 78 = .ok (.astore 6, 2) := by decide +kernel
theorem d_Tr_comeUp_80 : decode c_Tr_comeUp 80 = .ok (.aload 6, 2) := by decide +kernel
theorem d_Tr_comeUp_82 : decode c_Tr_comeUp 82 = .ok (.ifnull 20, 3) := by decide +kernel
theorem d_Tr_comeUp_85 : decode c_Tr_comeUp 85 = .ok (.aload 6, 2) := by decide +kernel
theorem d_Tr_comeUp_87 : decode c_Tr_comeUp 87 = .ok (.getfield 235, 3) := by decide +kernel
theorem d_Tr_comeUp_90 : decode c_Tr_comeUp 90 = .ok (.ifCond .ne 12, 3) := by decide +kernel
theorem d_Tr_comeUp_93 : decode c_Tr_comeUp 93 = .ok (.aload_n 0, 1) := by decide +kernel
theorem d_Tr_comeUp_94 : decode c_Tr_comeUp 94 = .ok (.aload 6, 2) := by decide +kernel
theorem d_Tr_comeUp_96 : decode c_Tr_comeUp 96 = .ok (.iload_n 2, 1) := by decide +kernel
theorem d_Tr_comeUp_97 : decode c_Tr_comeUp 97 = .ok (.iload 5, 2) := by decide +kernel
theorem d_Tr_comeUp_99 : decode c_Tr_comeUp 99 = .ok (.invokevirtual 238, 3) := by decide +kernel
theorem d_Tr_comeUp_102 : decode c_Tr_comeUp 102 = .ok (.iinc 5 1, 3) := by decide +kernel
theorem d_Tr_comeUp_105 : decode c_Tr_comeUp 105 = .ok (.goto (-41), 3) := by decide +kernel
theorem d_Tr_comeUp_108 : decode c_Tr_comeUp 108 = .ok (.iconst 0, 1) := by decide +kernel
theorem d_Tr_comeUp_109 : decode c_Tr_comeUp 109 = .ok (.istore 5, 2) := by decide +kernel
theorem d_Tr_comeUp_111 : decode c_Tr_comeUp 111 = .ok (.iload 5, 2) := by decide +kernel
theorem d_Tr_comeUp_113 : decode c_Tr_comeUp 113 = .ok (.bipush 6, 2) := by decide +kernel
theorem d_Tr_comeUp_115 : decode c_Tr_comeUp 115 = .ok (.if_icmp .ge 27, 3) := by decide +kernel
theorem d_Tr_comeUp_118 : decode c_Tr_comeUp 118 = .ok (.iload 4, 2) := by decide +kernel
theorem d_Tr_comeUp_120 : decode c_Tr_comeUp 120 = .ok (.ifCond .ne 22, 3) := by decide +kernel
theorem d_Tr_comeUp_123 : decode c_Tr_comeUp 123 = .ok (.aload_n 0, 1) := by decide +kernel
theorem d_Tr_comeUp_124 : decode c_Tr_comeUp 124 = .ok (.getfield 30, 3) := by decide +kernel
theorem d_Tr_comeUp_127 : decode c_Tr_comeUp 127 = .ok (.iload_n 2, 1) := by decide +kernel
theorem d_Tr_comeUp_128 : decode c_Tr_comeUp 128 = .ok (.iload_n 3, 1) := by decide +kernel
theorem d_Tr_comeUp_129 : decode c_Tr_comeUp 129 = .ok (.iload 5, 2) := by decide +kernel
theorem d_Tr_comeUp_131 : decode c_Tr_comeUp 131 = .ok (.invokestatic 83, 3) := by decide +kernel
theorem d_Tr_comeUp_134 : decode c_Tr_comeUp 134 = .ok (.iconst 0, 1) := by decide +kernel
theorem d_Tr_comeUp_135 : decode c_Tr_comeUp 135 = .ok (.iastore, 1) := by decide +kernel
theorem d_Tr_comeUp_136 : decode c_Tr_comeUp 136 = .ok (.iinc 5 1, 3) := by decide +kernel
theorem d_Tr_comeUp_139 : decode c_Tr_comeUp 139 = .ok (.goto (-28), 3) := by decide +kernel
theorem d_Tr_comeUp_142 : decode c_Tr_comeUp 142 = .ok (.aload_n 0, 1) := by decide +kernel
theorem d_Tr_comeUp_143 : decode c_Tr_comeUp 143 = .ok (.iload_n 2, 1) := by decide +kernel
theorem d_Tr_comeUp_144 : decode c_Tr_comeUp 144 = .ok (.invokevirtual 242, 3) := by decide +kernel
theorem d_Tr_comeUp_147 : decode c_Tr_comeUp 147 = .ok (.return_, 1) := by decide +kernel
def f_Tr_comeUp_52 (k16 : Int32 → Int32 → Int32 → Int32 → sn_M) (a : Nat) (x2 : Int32) (x3 : Int32) (x5 : Int32) (t0 : Int32) (t1 : Int32) : sn_M := n_I ((t0 ||| t1)) fun n1 => k16 x2 x3 n1 (x5 + (1 : Int32))
set_option maxHeartbeats 4000000 in
set_option maxRecDepth 100000 in
theorem mono_Tr_comeUp_52 (k16 : Int32 → Int32 → Int32 → Int32 → sn_M) (mk16 : ∀ (x2 : Int32) (x3 : Int32) (x4 : Int32) (x5 : Int32), sn_Mono (k16 x2 x3 x4 x5)) (a : Nat) (x2 : Int32) (x3 : Int32) (x5 : Int32) (t0 : Int32) (t1 : Int32) : sn_Mono (f_Tr_comeUp_52 k16 a x2 x3 x5 t0 t1) := sn_Mono.nI (fun n1 => mk16 x2 x3 n1 (x5 + (1 : Int32)))
set_option maxHeartbeats 4000000 in
set_option maxRecDepth 100000 in
theorem s_Tr_comeUp_52 {X : sn_X} (C : sn_Cx X c_Tr_comeUp "SignalNetwork$Transfer" none "comeUp" 7 4 93) (a : Nat) (k16 : Int32 → Int32 → Int32 → Int32 → sn_M) (hk16 : ∀ (x2 : Int32) (x3 : Int32) (x4 : Int32) (x5 : Int32), sn_S X 16 [(0, vA (some a)), (2, vI x2), (3, vI x3), (4, vI x4), (5, vI x5)] [] (k16 x2 x3 x4 x5)) (x2 : Int32) (x3 : Int32) (x5 : Int32) (t0 : Int32) (t1 : Int32) : sn_S X 52 [(0, vA (some a)), (2, vI x2), (3, vI x3), (5, vI x5)] [vI t1, vI t0] (f_Tr_comeUp_52 k16 a x2 x3 x5 t0 t1) := by
  unfold f_Tr_comeUp_52
  refine r_ior (q := 53) C d_Tr_comeUp_52 rfl ?_
  refine r_nI (fun n1 => ?_)
  refine r_istore (q := 55) (i := 4) (lv' := [(4, vI n1), (0, vA (some a)), (2, vI x2), (3, vI x3), (5, vI x5)]) C d_Tr_comeUp_53 rfl (by decide) rfl ?_
  refine r_iinc (q := 58) (pl := 4) (v := x5 + (1 : Int32)) (lv' := [(5, vI (x5 + (1 : Int32))), (4, vI n1), (0, vA (some a)), (2, vI x2), (3, vI x3)]) C d_Tr_comeUp_55 rfl rfl rfl (by decide) rfl ?_
  refine r_goto (tgt := 16) C d_Tr_comeUp_58 (by decide) ?_
  refine r_sub (lv' := [(0, vA (some a)), (2, vI x2), (3, vI x3), (4, vI n1), (5, vI (x5 + (1 : Int32)))]) [2, 3, 4, 1, 0] rfl ?_
  exact hk16 x2 x3 n1 (x5 + (1 : Int32))
def f_Tr_comeUp_51 (k16 : Int32 → Int32 → Int32 → Int32 → sn_M) (a : Nat) (x2 : Int32) (x3 : Int32) (x5 : Int32) (t0 : Int32) : sn_M := f_Tr_comeUp_52 k16 a x2 x3 x5 t0 (0 : Int32)
set_option maxHeartbeats 4000000 in
set_option maxRecDepth 100000 in
theorem mono_Tr_comeUp_51 (k16 : Int32 → Int32 → Int32 → Int32 → sn_M) (mk16 : ∀ (x2 : Int32) (x3 : Int32) (x4 : Int32) (x5 : Int32), sn_Mono (k16 x2 x3 x4 x5)) (a : Nat) (x2 : Int32) (x3 : Int32) (x5 : Int32) (t0 : Int32) : sn_Mono (f_Tr_comeUp_51 k16 a x2 x3 x5 t0) := mono_Tr_comeUp_52 k16 mk16 a x2 x3 x5 t0 (0 : Int32)
set_option maxHeartbeats 4000000 in
set_option maxRecDepth 100000 in
theorem s_Tr_comeUp_51 {X : sn_X} (C : sn_Cx X c_Tr_comeUp "SignalNetwork$Transfer" none "comeUp" 7 4 93) (a : Nat) (k16 : Int32 → Int32 → Int32 → Int32 → sn_M) (hk16 : ∀ (x2 : Int32) (x3 : Int32) (x4 : Int32) (x5 : Int32), sn_S X 16 [(0, vA (some a)), (2, vI x2), (3, vI x3), (4, vI x4), (5, vI x5)] [] (k16 x2 x3 x4 x5)) (x2 : Int32) (x3 : Int32) (x5 : Int32) (t0 : Int32) : sn_S X 51 [(0, vA (some a)), (2, vI x2), (3, vI x3), (5, vI x5)] [vI t0] (f_Tr_comeUp_51 k16 a x2 x3 x5 t0) := by
  unfold f_Tr_comeUp_51
  refine r_iconst (q := 52) (v := 0) C d_Tr_comeUp_51 rfl (by decide) ?_
  exact s_Tr_comeUp_52 C a k16 hk16 x2 x3 x5 t0 (0 : Int32)
def f_Tr_comeUp_102 (k64 : Int32 → Int32 → Int32 → Int32 → sn_M) (a : Nat) (x2 : Int32) (x3 : Int32) (x4 : Int32) (x5 : Int32) : sn_M := k64 x2 x3 x4 (x5 + (1 : Int32))
set_option maxHeartbeats 4000000 in
set_option maxRecDepth 100000 in
theorem mono_Tr_comeUp_102 (k64 : Int32 → Int32 → Int32 → Int32 → sn_M) (mk64 : ∀ (x2 : Int32) (x3 : Int32) (x4 : Int32) (x5 : Int32), sn_Mono (k64 x2 x3 x4 x5)) (a : Nat) (x2 : Int32) (x3 : Int32) (x4 : Int32) (x5 : Int32) : sn_Mono (f_Tr_comeUp_102 k64 a x2 x3 x4 x5) := mk64 x2 x3 x4 (x5 + (1 : Int32))
set_option maxHeartbeats 4000000 in
set_option maxRecDepth 100000 in
theorem s_Tr_comeUp_102 {X : sn_X} (C : sn_Cx X c_Tr_comeUp "SignalNetwork$Transfer" none "comeUp" 7 4 93) (a : Nat) (k64 : Int32 → Int32 → Int32 → Int32 → sn_M) (hk64 : ∀ (x2 : Int32) (x3 : Int32) (x4 : Int32) (x5 : Int32), sn_S X 64 [(0, vA (some a)), (2, vI x2), (3, vI x3), (4, vI x4), (5, vI x5)] [] (k64 x2 x3 x4 x5)) (x2 : Int32) (x3 : Int32) (x4 : Int32) (x5 : Int32) : sn_S X 102 [(0, vA (some a)), (2, vI x2), (3, vI x3), (4, vI x4), (5, vI x5)] [] (f_Tr_comeUp_102 k64 a x2 x3 x4 x5) := by
  unfold f_Tr_comeUp_102
  refine r_iinc (q := 105) (pl := 4) (v := x5 + (1 : Int32)) (lv' := [(5, vI (x5 + (1 : Int32))), (0, vA (some a)), (2, vI x2), (3, vI x3), (4, vI x4)]) C d_Tr_comeUp_102 rfl rfl rfl (by decide) rfl ?_
  refine r_goto (tgt := 64) C d_Tr_comeUp_105 (by decide) ?_
  refine r_sub (lv' := [(0, vA (some a)), (2, vI x2), (3, vI x3), (4, vI x4), (5, vI (x5 + (1 : Int32)))]) [1, 2, 3, 4, 0] rfl ?_
  exact hk64 x2 x3 x4 (x5 + (1 : Int32))
def f_Tr_comeUp_142 (a : Nat) (x2 : Int32) : sn_M := n_n 8 (some a) fun a2 => c_V (f_Tr_look a2 x2) (r_V)
set_option maxHeartbeats 4000000 in
set_option maxRecDepth 100000 in
theorem mono_Tr_comeUp_142 (a : Nat) (x2 : Int32) : sn_Mono (f_Tr_comeUp_142 a x2) := sn_Mono.nn (fun a2 => sn_Mono.cV (mono_Tr_look a2 x2) (sn_Mono.rV))
set_option maxHeartbeats 4000000 in
set_option maxRecDepth 100000 in
theorem s_Tr_comeUp_142 {X : sn_X} (C : sn_Cx X c_Tr_comeUp "SignalNetwork$Transfer" none "comeUp" 7 4 93) (a : Nat) (x2 : Int32) : sn_S X 142 [(0, vA (some a)), (2, vI x2)] [] (f_Tr_comeUp_142 a x2) := by
  unfold f_Tr_comeUp_142
  refine r_aload_n (q := 143) (i := 0) (pl := 0) C d_Tr_comeUp_142 rfl rfl rfl ?_
  refine r_iload_n (q := 144) (i := 2) (pl := 1) C d_Tr_comeUp_143 rfl rfl rfl ?_
  refine r_cvV (q := 147) (As := [vI x2]) (st := []) (cy := 7) C d_Tr_comeUp_144 rfl Y_Tr_look L_Tr_242 I_Tr_look Se_Tr_look rfl (by decide) rfl (Nat.le_of_ble_eq_true rfl) (Nat.le_of_ble_eq_true rfl) (Nat.le_of_ble_eq_true rfl) rfl (fun a2 => con_Tr_look a2 x2) ?_
  exact r_vret C d_Tr_comeUp_147 rfl
def f_Tr_comeUp_111 (a : Nat) : Nat → Int32 → Int32 → Int32 → Int32 → sn_M
  | 0, _, _, _, _ => r_0
  | n + 1, x2, x3, x4, x5 => (if (6 : Int32) ≤ x5 then f_Tr_comeUp_142 a x2 else (if ¬ x4 = 0 then f_Tr_comeUp_142 a x2 else g_R 8 6 (some a) fun v4 => c_I (f_Tr_placeOf x2 x3 x5) fun v5 => b_I 21 v4 v5 (0 : Int32) (f_Tr_comeUp_111 a n x2 x3 x4 (x5 + (1 : Int32)))))
set_option maxHeartbeats 4000000 in
set_option maxRecDepth 100000 in
theorem mono_Tr_comeUp_111 (a : Nat) : ∀ (n : Nat) (x2 : Int32) (x3 : Int32) (x4 : Int32) (x5 : Int32), sn_Mono (f_Tr_comeUp_111 a n x2 x3 x4 x5)
  | 0, _, _, _, _ => sn_Mono.r0
  | n + 1, x2, x3, x4, x5 => sn_Mono.ite (mono_Tr_comeUp_142 a x2) (sn_Mono.ite (mono_Tr_comeUp_142 a x2) (sn_Mono.gR (fun v4 => sn_Mono.cI (mono_Tr_placeOf x2 x3 x5) (fun v5 => sn_Mono.bI (mono_Tr_comeUp_111 a n x2 x3 x4 (x5 + (1 : Int32)))))))
set_option maxHeartbeats 4000000 in
set_option maxRecDepth 100000 in
theorem s_Tr_comeUp_111 {X : sn_X} (C : sn_Cx X c_Tr_comeUp "SignalNetwork$Transfer" none "comeUp" 7 4 93) (a : Nat) (n : Nat) : ∀ (x2 : Int32) (x3 : Int32) (x4 : Int32) (x5 : Int32), sn_S X 111 [(0, vA (some a)), (2, vI x2), (3, vI x3), (4, vI x4), (5, vI x5)] [] (f_Tr_comeUp_111 a n x2 x3 x4 x5) := by
  induction n with
  | zero => intro x2 x3 x4 x5; exact sn_S.zero
  | succ n ih =>
    intro x2 x3 x4 x5
    unfold f_Tr_comeUp_111
    refine r_iload (q := 113) (i := 5) (pl := 4) C d_Tr_comeUp_111 rfl rfl ?_
    refine r_bipush (q := 115) (v := 6) C d_Tr_comeUp_113 rfl (by decide) ?_
    refine r_icmp_ge (tgt := 142) (q := 118) C d_Tr_comeUp_115 (by decide) rfl ?_ ?_
    · refine r_sub (lv' := [(0, vA (some a)), (2, vI x2)]) [0, 1] rfl ?_
      exact s_Tr_comeUp_142 C a x2
    · refine r_iload (q := 120) (i := 4) (pl := 3) C d_Tr_comeUp_118 rfl rfl ?_
      refine r_if_ne (tgt := 142) (q := 123) C d_Tr_comeUp_120 (by decide) rfl ?_ ?_
      · refine r_sub (lv' := [(0, vA (some a)), (2, vI x2)]) [0, 1] rfl ?_
        exact s_Tr_comeUp_142 C a x2
      · refine r_aload_n (q := 124) (i := 0) (pl := 0) C d_Tr_comeUp_123 rfl rfl rfl ?_
        refine r_gR (q := 127) C d_Tr_comeUp_124 rfl F_Tr_30 rfl (fun v4 => ?_)
        refine r_iload_n (q := 128) (i := 2) (pl := 1) C d_Tr_comeUp_127 rfl rfl rfl ?_
        refine r_iload_n (q := 129) (i := 3) (pl := 2) C d_Tr_comeUp_128 rfl rfl rfl ?_
        refine r_iload (q := 131) (i := 5) (pl := 4) C d_Tr_comeUp_129 rfl rfl ?_
        refine r_csI (q := 134) (As := [vI x2, vI x3, vI x5]) (st := [vA v4]) C d_Tr_comeUp_131 rfl Y_Tr_placeOf L_Tr_83 St_Tr_placeOf rfl (Nat.le_of_ble_eq_true rfl) (Nat.le_of_ble_eq_true rfl) (Nat.le_of_ble_eq_true rfl) rfl (con_Tr_placeOf x2 x3 x5) (fun v5 => ?_)
        refine r_iconst (q := 135) (v := 0) C d_Tr_comeUp_134 rfl (by decide) ?_
        refine r_bI (q := 136) C (Or.inl rfl) d_Tr_comeUp_135 rfl ?_
        refine r_iinc (q := 139) (pl := 4) (v := x5 + (1 : Int32)) (lv' := [(5, vI (x5 + (1 : Int32))), (0, vA (some a)), (2, vI x2), (3, vI x3), (4, vI x4)]) C d_Tr_comeUp_136 rfl rfl rfl (by decide) rfl ?_
        refine r_goto (tgt := 111) C d_Tr_comeUp_139 (by decide) ?_
        refine r_sub (lv' := [(0, vA (some a)), (2, vI x2), (3, vI x3), (4, vI x4), (5, vI (x5 + (1 : Int32)))]) [1, 2, 3, 4, 0] rfl ?_
        exact ih x2 x3 x4 (x5 + (1 : Int32))
def f_Tr_comeUp_64 (a : Nat) : Nat → Int32 → Int32 → Int32 → Int32 → sn_M
  | 0, _, _, _, _ => r_0
  | n + 1, x2, x3, x4, x5 => (if (4 : Int32) ≤ x5 then f_Tr_comeUp_111 a sn_fuel x2 x3 x4 (0 : Int32) else n_n 8 (some a) fun a6 => c_R (f_Tr_flowTo a6 x2 x3 x5) fun v7 => (if v7 = none then f_Tr_comeUp_102 (f_Tr_comeUp_64 a n) a x2 x3 x4 x5 else g_I 3 2 v7 fun v8 => (if ¬ v8 = 0 then f_Tr_comeUp_102 (f_Tr_comeUp_64 a n) a x2 x3 x4 x5 else n_n 8 (some a) fun a9 => c_V (f_Tr_useBest a9 v7 x2 x5) (f_Tr_comeUp_102 (f_Tr_comeUp_64 a n) a x2 x3 x4 x5))))
set_option maxHeartbeats 4000000 in
set_option maxRecDepth 100000 in
theorem mono_Tr_comeUp_64 (a : Nat) : ∀ (n : Nat) (x2 : Int32) (x3 : Int32) (x4 : Int32) (x5 : Int32), sn_Mono (f_Tr_comeUp_64 a n x2 x3 x4 x5)
  | 0, _, _, _, _ => sn_Mono.r0
  | n + 1, x2, x3, x4, x5 => sn_Mono.ite (mono_Tr_comeUp_111 a sn_fuel x2 x3 x4 (0 : Int32)) (sn_Mono.nn (fun a6 => sn_Mono.cR (mono_Tr_flowTo a6 x2 x3 x5) (fun v7 => sn_Mono.ite (mono_Tr_comeUp_102 (f_Tr_comeUp_64 a n) (mono_Tr_comeUp_64 a n) a x2 x3 x4 x5) (sn_Mono.gI (fun v8 => sn_Mono.ite (mono_Tr_comeUp_102 (f_Tr_comeUp_64 a n) (mono_Tr_comeUp_64 a n) a x2 x3 x4 x5) (sn_Mono.nn (fun a9 => sn_Mono.cV (mono_Tr_useBest a9 v7 x2 x5) (mono_Tr_comeUp_102 (f_Tr_comeUp_64 a n) (mono_Tr_comeUp_64 a n) a x2 x3 x4 x5))))))))
set_option maxHeartbeats 4000000 in
set_option maxRecDepth 100000 in
theorem s_Tr_comeUp_64 {X : sn_X} (C : sn_Cx X c_Tr_comeUp "SignalNetwork$Transfer" none "comeUp" 7 4 93) (a : Nat) (n : Nat) : ∀ (x2 : Int32) (x3 : Int32) (x4 : Int32) (x5 : Int32), sn_S X 64 [(0, vA (some a)), (2, vI x2), (3, vI x3), (4, vI x4), (5, vI x5)] [] (f_Tr_comeUp_64 a n x2 x3 x4 x5) := by
  induction n with
  | zero => intro x2 x3 x4 x5; exact sn_S.zero
  | succ n ih =>
    intro x2 x3 x4 x5
    unfold f_Tr_comeUp_64
    refine r_iload (q := 66) (i := 5) (pl := 4) C d_Tr_comeUp_64 rfl rfl ?_
    refine r_iconst (q := 67) (v := 4) C d_Tr_comeUp_66 rfl (by decide) ?_
    refine r_icmp_ge (tgt := 108) (q := 70) C d_Tr_comeUp_67 (by decide) rfl ?_ ?_
    · refine r_iconst (q := 109) (v := 0) C d_Tr_comeUp_108 rfl (by decide) ?_
      refine r_istore (q := 111) (i := 5) (lv' := [(5, vI (0 : Int32)), (0, vA (some a)), (2, vI x2), (3, vI x3), (4, vI x4)]) C d_Tr_comeUp_109 rfl (by decide) rfl ?_
      refine r_sub (lv' := [(0, vA (some a)), (2, vI x2), (3, vI x3), (4, vI x4), (5, vI (0 : Int32))]) [1, 2, 3, 4, 0] rfl ?_
      exact s_Tr_comeUp_111 C a sn_fuel x2 x3 x4 (0 : Int32)
    · refine r_aload_n (q := 71) (i := 0) (pl := 0) C d_Tr_comeUp_70 rfl rfl rfl ?_
      refine r_iload_n (q := 72) (i := 2) (pl := 1) C d_Tr_comeUp_71 rfl rfl rfl ?_
      refine r_iload_n (q := 73) (i := 3) (pl := 2) C d_Tr_comeUp_72 rfl rfl rfl ?_
      refine r_iload (q := 75) (i := 5) (pl := 4) C d_Tr_comeUp_73 rfl rfl ?_
      refine r_cvR (q := 78) (As := [vI x2, vI x3, vI x5]) (st := []) (cy := 7) C d_Tr_comeUp_75 rfl Y_Tr_flowTo L_Tr_210 I_Tr_flowTo Se_Tr_flowTo rfl (by decide) rfl (Nat.le_of_ble_eq_true rfl) (Nat.le_of_ble_eq_true rfl) (Nat.le_of_ble_eq_true rfl) rfl (fun a6 => con_Tr_flowTo a6 x2 x3 x5) (fun v7 => ?_)
      refine r_astore (q := 80) (i := 6) (lv' := [(6, vA v7), (0, vA (some a)), (2, vI x2), (3, vI x3), (4, vI x4), (5, vI x5)]) C d_Tr_comeUp_78 rfl (by decide) rfl ?_
      refine r_aload (q := 82) (i := 6) (pl := 0) C d_Tr_comeUp_80 rfl rfl ?_
      refine r_ifnull (tgt := 102) (q := 85) C d_Tr_comeUp_82 (by decide) rfl ?_ ?_
      · refine r_sub (lv' := [(0, vA (some a)), (2, vI x2), (3, vI x3), (4, vI x4), (5, vI x5)]) [1, 2, 3, 4, 5] rfl ?_
        exact s_Tr_comeUp_102 C a (f_Tr_comeUp_64 a n) ih x2 x3 x4 x5
      · refine r_aload (q := 87) (i := 6) (pl := 0) C d_Tr_comeUp_85 rfl rfl ?_
        refine r_gI (q := 90) C d_Tr_comeUp_87 rfl F_Tr_235 rfl (fun v8 => ?_)
        refine r_if_ne (tgt := 102) (q := 93) C d_Tr_comeUp_90 (by decide) rfl ?_ ?_
        · refine r_sub (lv' := [(0, vA (some a)), (2, vI x2), (3, vI x3), (4, vI x4), (5, vI x5)]) [1, 2, 3, 4, 5] rfl ?_
          exact s_Tr_comeUp_102 C a (f_Tr_comeUp_64 a n) ih x2 x3 x4 x5
        · refine r_aload_n (q := 94) (i := 0) (pl := 1) C d_Tr_comeUp_93 rfl rfl rfl ?_
          refine r_aload (q := 96) (i := 6) (pl := 0) C d_Tr_comeUp_94 rfl rfl ?_
          refine r_iload_n (q := 97) (i := 2) (pl := 2) C d_Tr_comeUp_96 rfl rfl rfl ?_
          refine r_iload (q := 99) (i := 5) (pl := 5) C d_Tr_comeUp_97 rfl rfl ?_
          refine r_cvV (q := 102) (As := [vA v7, vI x2, vI x5]) (st := []) (cy := 7) C d_Tr_comeUp_99 rfl Y_Tr_useBest L_Tr_238 I_Tr_useBest Se_Tr_useBest rfl (by decide) rfl (Nat.le_of_ble_eq_true rfl) (Nat.le_of_ble_eq_true rfl) (Nat.le_of_ble_eq_true rfl) rfl (fun a9 => con_Tr_useBest a9 v7 x2 x5) ?_
          refine r_sub (lv' := [(0, vA (some a)), (2, vI x2), (3, vI x3), (4, vI x4), (5, vI x5)]) [1, 2, 3, 4, 5] rfl ?_
          exact s_Tr_comeUp_102 C a (f_Tr_comeUp_64 a n) ih x2 x3 x4 x5
def f_Tr_comeUp_16 (a : Nat) : Nat → Int32 → Int32 → Int32 → Int32 → sn_M
  | 0, _, _, _, _ => r_0
  | n + 1, x2, x3, x4, x5 => (if (4 : Int32) ≤ x5 then f_Tr_comeUp_64 a sn_fuel x2 x3 x4 (0 : Int32) else n_n 8 (some a) fun a11 => c_R (f_Tr_flowTo a11 x2 x3 x5) fun v12 => (if v12 = none then f_Tr_comeUp_51 (f_Tr_comeUp_16 a n) a x2 x3 x5 x4 else n_n 3 v12 fun a13 => c_I (f_Fl_isOpen a13) fun v14 => (if v14 = 0 then f_Tr_comeUp_51 (f_Tr_comeUp_16 a n) a x2 x3 x5 x4 else f_Tr_comeUp_52 (f_Tr_comeUp_16 a n) a x2 x3 x5 x4 (1 : Int32))))
set_option maxHeartbeats 4000000 in
set_option maxRecDepth 100000 in
theorem mono_Tr_comeUp_16 (a : Nat) : ∀ (n : Nat) (x2 : Int32) (x3 : Int32) (x4 : Int32) (x5 : Int32), sn_Mono (f_Tr_comeUp_16 a n x2 x3 x4 x5)
  | 0, _, _, _, _ => sn_Mono.r0
  | n + 1, x2, x3, x4, x5 => sn_Mono.ite (mono_Tr_comeUp_64 a sn_fuel x2 x3 x4 (0 : Int32)) (sn_Mono.nn (fun a11 => sn_Mono.cR (mono_Tr_flowTo a11 x2 x3 x5) (fun v12 => sn_Mono.ite (mono_Tr_comeUp_51 (f_Tr_comeUp_16 a n) (mono_Tr_comeUp_16 a n) a x2 x3 x5 x4) (sn_Mono.nn (fun a13 => sn_Mono.cI (mono_Fl_isOpen a13) (fun v14 => sn_Mono.ite (mono_Tr_comeUp_51 (f_Tr_comeUp_16 a n) (mono_Tr_comeUp_16 a n) a x2 x3 x5 x4) (mono_Tr_comeUp_52 (f_Tr_comeUp_16 a n) (mono_Tr_comeUp_16 a n) a x2 x3 x5 x4 (1 : Int32))))))))
set_option maxHeartbeats 4000000 in
set_option maxRecDepth 100000 in
theorem s_Tr_comeUp_16 {X : sn_X} (C : sn_Cx X c_Tr_comeUp "SignalNetwork$Transfer" none "comeUp" 7 4 93) (a : Nat) (n : Nat) : ∀ (x2 : Int32) (x3 : Int32) (x4 : Int32) (x5 : Int32), sn_S X 16 [(0, vA (some a)), (2, vI x2), (3, vI x3), (4, vI x4), (5, vI x5)] [] (f_Tr_comeUp_16 a n x2 x3 x4 x5) := by
  induction n with
  | zero => intro x2 x3 x4 x5; exact sn_S.zero
  | succ n ih =>
    intro x2 x3 x4 x5
    unfold f_Tr_comeUp_16
    refine r_iload (q := 18) (i := 5) (pl := 4) C d_Tr_comeUp_16 rfl rfl ?_
    refine r_iconst (q := 19) (v := 4) C d_Tr_comeUp_18 rfl (by decide) ?_
    refine r_icmp_ge (tgt := 61) (q := 22) C d_Tr_comeUp_19 (by decide) rfl ?_ ?_
    · refine r_iconst (q := 62) (v := 0) C d_Tr_comeUp_61 rfl (by decide) ?_
      refine r_istore (q := 64) (i := 5) (lv' := [(5, vI (0 : Int32)), (0, vA (some a)), (2, vI x2), (3, vI x3), (4, vI x4)]) C d_Tr_comeUp_62 rfl (by decide) rfl ?_
      refine r_sub (lv' := [(0, vA (some a)), (2, vI x2), (3, vI x3), (4, vI x4), (5, vI (0 : Int32))]) [1, 2, 3, 4, 0] rfl ?_
      exact s_Tr_comeUp_64 C a sn_fuel x2 x3 x4 (0 : Int32)
    · refine r_aload_n (q := 23) (i := 0) (pl := 0) C d_Tr_comeUp_22 rfl rfl rfl ?_
      refine r_iload_n (q := 24) (i := 2) (pl := 1) C d_Tr_comeUp_23 rfl rfl rfl ?_
      refine r_iload_n (q := 25) (i := 3) (pl := 2) C d_Tr_comeUp_24 rfl rfl rfl ?_
      refine r_iload (q := 27) (i := 5) (pl := 4) C d_Tr_comeUp_25 rfl rfl ?_
      refine r_cvR (q := 30) (As := [vI x2, vI x3, vI x5]) (st := []) (cy := 7) C d_Tr_comeUp_27 rfl Y_Tr_flowTo L_Tr_210 I_Tr_flowTo Se_Tr_flowTo rfl (by decide) rfl (Nat.le_of_ble_eq_true rfl) (Nat.le_of_ble_eq_true rfl) (Nat.le_of_ble_eq_true rfl) rfl (fun a11 => con_Tr_flowTo a11 x2 x3 x5) (fun v12 => ?_)
      refine r_astore (q := 32) (i := 6) (lv' := [(6, vA v12), (0, vA (some a)), (2, vI x2), (3, vI x3), (4, vI x4), (5, vI x5)]) C d_Tr_comeUp_30 rfl (by decide) rfl ?_
      refine r_iload (q := 34) (i := 4) (pl := 4) C d_Tr_comeUp_32 rfl rfl ?_
      refine r_aload (q := 36) (i := 6) (pl := 0) C d_Tr_comeUp_34 rfl rfl ?_
      refine r_ifnull (tgt := 51) (q := 39) C d_Tr_comeUp_36 (by decide) rfl ?_ ?_
      · refine r_sub (lv' := [(0, vA (some a)), (2, vI x2), (3, vI x3), (5, vI x5)]) [1, 2, 3, 5] rfl ?_
        exact s_Tr_comeUp_51 C a (f_Tr_comeUp_16 a n) ih x2 x3 x5 x4
      · refine r_aload (q := 41) (i := 6) (pl := 0) C d_Tr_comeUp_39 rfl rfl ?_
        refine r_cvI (q := 44) (As := []) (st := [vI x4]) (cy := 2) C d_Tr_comeUp_41 rfl Y_Fl_isOpen L_Tr_214 I_Fl_isOpen Se_Fl_isOpen rfl (by decide) rfl (Nat.le_of_ble_eq_true rfl) (Nat.le_of_ble_eq_true rfl) (Nat.le_of_ble_eq_true rfl) rfl (fun a13 => con_Fl_isOpen a13) (fun v14 => ?_)
        refine r_if_eq (tgt := 51) (q := 47) C d_Tr_comeUp_44 (by decide) rfl ?_ ?_
        · refine r_sub (lv' := [(0, vA (some a)), (2, vI x2), (3, vI x3), (5, vI x5)]) [1, 2, 3, 5] rfl ?_
          exact s_Tr_comeUp_51 C a (f_Tr_comeUp_16 a n) ih x2 x3 x5 x4
        · refine r_iconst (q := 48) (v := 1) C d_Tr_comeUp_47 rfl (by decide) ?_
          refine r_goto (tgt := 52) C d_Tr_comeUp_48 (by decide) ?_
          refine r_sub (lv' := [(0, vA (some a)), (2, vI x2), (3, vI x3), (5, vI x5)]) [1, 2, 3, 5] rfl ?_
          exact s_Tr_comeUp_52 C a (f_Tr_comeUp_16 a n) ih x2 x3 x5 x4 (1 : Int32)
def f_Tr_comeUp (a : Nat) (r1 : Option Nat) : sn_M := g_I 2 2 r1 fun v15 => g_I 2 3 r1 fun v16 => f_Tr_comeUp_16 a sn_fuel v15 v16 (0 : Int32) (0 : Int32)
set_option maxHeartbeats 4000000 in
set_option maxRecDepth 100000 in
theorem mono_Tr_comeUp (a : Nat) (r1 : Option Nat) : sn_Mono (f_Tr_comeUp a r1) := sn_Mono.gI (fun v15 => sn_Mono.gI (fun v16 => mono_Tr_comeUp_16 a sn_fuel v15 v16 (0 : Int32) (0 : Int32)))
set_option maxHeartbeats 4000000 in
set_option maxRecDepth 100000 in
theorem con_Tr_comeUp (a : Nat) (r1 : Option Nat) : sn_Con y_Tr_comeUp c_Tr_comeUp 7 none 4 93 [vA (some a), vA r1] (f_Tr_comeUp a r1) := by
  refine sn_Con.of (by decide +kernel) (by show _ ≤ _; exact Nat.le_of_ble_eq_true rfl) (mono_Tr_comeUp a r1) (fun X C => ?_)
  show sn_S X 0 [(0, vA (some a)), (1, vA r1)] [] _
  replace C : sn_Cx X c_Tr_comeUp "SignalNetwork$Transfer" none "comeUp" 7 4 93 := C
  unfold f_Tr_comeUp
  refine r_aload_n (q := 1) (i := 1) (pl := 1) C d_Tr_comeUp_0 rfl rfl rfl ?_
  refine r_gI (q := 4) C d_Tr_comeUp_1 rfl F_Tr_104 rfl (fun v15 => ?_)
  refine r_istore_n (q := 5) (i := 2) (lv' := [(2, vI v15), (0, vA (some a)), (1, vA r1)]) C d_Tr_comeUp_4 rfl rfl (by decide) rfl ?_
  refine r_aload_n (q := 6) (i := 1) (pl := 2) C d_Tr_comeUp_5 rfl rfl rfl ?_
  refine r_gI (q := 9) C d_Tr_comeUp_6 rfl F_Tr_107 rfl (fun v16 => ?_)
  refine r_istore_n (q := 10) (i := 3) (lv' := [(3, vI v16), (2, vI v15), (0, vA (some a)), (1, vA r1)]) C d_Tr_comeUp_9 rfl rfl (by decide) rfl ?_
  refine r_iconst (q := 11) (v := 0) C d_Tr_comeUp_10 rfl (by decide) ?_
  refine r_istore (q := 13) (i := 4) (lv' := [(4, vI (0 : Int32)), (3, vI v16), (2, vI v15), (0, vA (some a)), (1, vA r1)]) C d_Tr_comeUp_11 rfl (by decide) rfl ?_
  refine r_iconst (q := 14) (v := 0) C d_Tr_comeUp_13 rfl (by decide) ?_
  refine r_istore (q := 16) (i := 5) (lv' := [(5, vI (0 : Int32)), (4, vI (0 : Int32)), (3, vI v16), (2, vI v15), (0, vA (some a)), (1, vA r1)]) C d_Tr_comeUp_14 rfl (by decide) rfl ?_
  refine r_sub (lv' := [(0, vA (some a)), (2, vI v15), (3, vI v16), (4, vI (0 : Int32)), (5, vI (0 : Int32))]) [4, 3, 2, 1, 0] rfl ?_
  exact s_Tr_comeUp_16 C a sn_fuel v15 v16 (0 : Int32) (0 : Int32)
theorem d_Tr_receive_0 : decode c_Tr_receive 0 = .ok (.aload_n 0, 1) := by decide +kernel
theorem d_Tr_receive_1 : decode c_Tr_receive 1 = .ok (.iload_n 1, 1) := by decide +kernel
theorem d_Tr_receive_2 : decode c_Tr_receive 2 = .ok (.iconst 2, 1) := by decide +kernel
theorem d_Tr_receive_3 : decode c_Tr_receive 3 = .ok (.idiv, 1) := by decide +kernel
theorem d_Tr_receive_4 : decode c_Tr_receive 4 = .ok (.iload_n 1, 1) := by decide +kernel
theorem d_Tr_receive_5 : decode c_Tr_receive 5 = .ok (.iconst 2, 1) := by decide +kernel
theorem d_Tr_receive_6 : decode c_Tr_receive 6 = .ok (.irem, 1) := by decide +kernel
theorem d_Tr_receive_7 : decode c_Tr_receive 7 = .ok (.invokevirtual 87, 3) := by decide +kernel
theorem d_Tr_receive_10 : decode c_Tr_receive 10 = .ok (.astore_n 2, 1) := by decide +kernel
theorem d_Tr_receive_11 : decode c_Tr_receive 11 = .ok (.aload_n 0, 1) := by decide +kernel
theorem d_Tr_receive_12 : decode c_Tr_receive 12 = .ok (.iload_n 1, 1) := by decide +kernel
theorem d_Tr_receive_13 : decode c_Tr_receive 13 = .ok (.iconst 2, 1) := by decide +kernel
theorem d_Tr_receive_14 : decode c_Tr_receive 14 = .ok (.idiv, 1) := by decide +kernel
theorem d_Tr_receive_15 : decode c_Tr_receive 15 = .ok (.iconst 1, 1) := by decide +kernel
theorem d_Tr_receive_16 : decode c_Tr_receive 16 = .ok (.iload_n 1, 1) := by decide +kernel
theorem d_Tr_receive_17 : decode c_Tr_receive 17 = .ok (.iconst 2, 1) := by decide +kernel
theorem d_Tr_receive_18 : decode c_Tr_receive 18 = .ok (.irem, 1) := by decide +kernel
theorem d_Tr_receive_19 : decode c_Tr_receive 19 = .ok (.isub, 1) := by decide +kernel
theorem d_Tr_receive_20 : decode c_Tr_receive 20 = .ok (.invokevirtual 87, 3) := by decide +kernel
theorem d_Tr_receive_23 : decode c_Tr_receive 23 = .ok (.astore_n 3, 1) := by decide +kernel
theorem d_Tr_receive_24 : decode c_Tr_receive 24 = .ok (.aload_n 2, 1) := by decide +kernel
theorem d_Tr_receive_25 : decode c_Tr_receive 25 = .ok (.ifnull 7, 3) := by decide +kernel
theorem d_Tr_receive_28 : decode c_Tr_receive 28 = .ok (.aload_n 3, 1) := by decide +kernel
theorem d_Tr_receive_29 : decode c_Tr_receive 29 = .ok (.ifnonnull 5, 3) := by decide +kernel
theorem d_Tr_receive_32 : decode c_Tr_receive 32 = .ok (.lconst 0, 1) := by decide +kernel
theorem d_Tr_receive_33 : decode c_Tr_receive 33 = .ok (.lreturn, 1) := by decide +kernel
theorem d_Tr_receive_34 : decode c_Tr_receive 34 = .ok (.aload_n 2, 1) := by decide +kernel
theorem d_Tr_receive_35 : decode c_Tr_receive 35 = .ok (.invokevirtual 117, 3) := by decide +kernel
theorem d_Tr_receive_38 : decode c_Tr_receive 38 = .ok (.istore 4, 2) := by decide +kernel
theorem d_Tr_receive_40 : decode c_Tr_receive 40 = .ok (.iload 4, 2) := by decide +kernel
theorem d_Tr_receive_42 : decode c_Tr_receive 42 = .ok (.ifCond .ne 18, 3) := by decide +kernel
theorem d_Tr_receive_45 : decode c_Tr_receive 45 = .ok (.aload_n 0, 1) := by decide +kernel
theorem d_Tr_receive_46 : decode c_Tr_receive 46 = .ok (.getfield 34, 3) := by decide +kernel
theorem d_Tr_receive_49 : decode c_Tr_receive 49 = .ok (.getfield 121, 3) := by decide +kernel
theorem d_Tr_receive_52 : decode c_Tr_receive 52 = .ok (.aload_n 2, 1) := by decide +kernel
theorem d_Tr_receive_53 : decode c_Tr_receive 53 = .ok (.getfield 124, 3) := by decide +kernel
theorem d_Tr_receive_56 : decode c_Tr_receive 56 = .ok (.baload, 1) := by decide +kernel
theorem d_Tr_receive_57 : decode c_Tr_receive 57 = .ok (.ifCond .eq 8, 3) := by decide +kernel
theorem d_Tr_receive_60 : decode c_Tr_receive 60 = .ok (.bipush 6, 2) := by decide +kernel
theorem d_Tr_receive_62 : decode c_Tr_receive 62 = .ok (.goto 10, 3) := by decide +kernel
theorem d_Tr_receive_65 : decode c_Tr_receive 65 = .ok (.aload_n 3, 1) := by decide +kernel
theorem d_Tr_receive_66 : decode c_Tr_receive 66 = .ok (.getfield 127, 3) := by decide +kernel
theorem d_Tr_receive_69 : decode c_Tr_receive 69 = .ok (.getfield 131, 3) := by decide +kernel
theorem d_Tr_receive_72 : decode c_Tr_receive 72 = .ok (.istore 5, 2) := by decide +kernel
theorem d_Tr_receive_74 : decode c_Tr_receive 74 = .ok (.aload_n 2, 1) := by decide +kernel
theorem d_Tr_receive_75 : decode c_Tr_receive 75 = .ok (.iload 5, 2) := by decide +kernel
theorem d_Tr_receive_77 : decode c_Tr_receive 77 = .ok (.aload_n 3, 1) := by decide +kernel
theorem d_Tr_receive_78 : decode c_Tr_receive 78 = .ok (.getfield 127, 3) := by decide +kernel
theorem d_Tr_receive_81 : decode c_Tr_receive 81 = .ok (.getfield 136, 3) := by decide +kernel
theorem d_Tr_receive_84 : decode c_Tr_receive 84 = .ok (.invokevirtual 139, 3) := by decide +kernel
theorem d_Tr_receive_87 : decode c_Tr_receive 87 = .ok (.istore 6, 2) := by decide +kernel
theorem d_Tr_receive_89 : decode c_Tr_receive 89 = .ok (.iload 6, 2) := by decide +kernel
theorem d_Tr_receive_91 : decode c_Tr_receive 91 = .ok (.iconst 1, 1) := by decide +kernel
theorem d_Tr_receive_92 : decode c_Tr_receive 92 = .ok (.if_icmp .ne 8, 3) := by decide +kernel
theorem d_Tr_receive_95 : decode c_Tr_receive 95 = .ok (.aload_n 0, 1) := by decide +kernel
theorem d_Tr_receive_96 : decode c_Tr_receive 96 = .ok (.aload_n 2, 1) := by decide +kernel
theorem d_Tr_receive_97 : decode c_Tr_receive 97 = .ok (.invokevirtual 101, 3) := by decide +kernel
theorem d_Tr_receive_100 : decode c_Tr_receive 100 = .ok (.iload 6, 2) := by decide +kernel
theorem d_Tr_receive_102 : decode c_Tr_receive 102 = .ok (.iconst 2, 1) := by decide +kernel
theorem d_Tr_receive_103 : decode c_Tr_receive 103 = .ok (.if_icmp .ne 8, 3) := by decide +kernel
theorem d_Tr_receive_106 : decode c_Tr_receive 106 = .ok (.aload_n 0, 1) := by decide +kernel
theorem d_Tr_receive_107 : decode c_Tr_receive 107 = .ok (.aload_n 2, 1) := by decide +kernel
theorem d_Tr_receive_108 : decode c_Tr_receive 108 = .ok (.invokevirtual 142, 3) := by decide +kernel
theorem d_Tr_receive_111 : decode c_Tr_receive 111 = .ok (.iload 6, 2) := by decide +kernel
theorem d_Tr_receive_113 : decode c_Tr_receive 113 = .ok (.iconst 2, 1) := by decide +kernel
theorem d_Tr_receive_114 : decode c_Tr_receive 114 = .ok (.if_icmp .eq 9, 3) := by decide +kernel
theorem d_Tr_receive_117 : decode c_Tr_receive 117 = .ok (.iload 6, 2) := by decide +kernel
theorem d_Tr_receive_119 : decode c_Tr_receive 119 = .ok (.iconst 3, 1) := by decide +kernel
theorem d_Tr_receive_120 : decode c_Tr_receive 120 = .ok (.if_icmp .ne 7, 3) := by decide +kernel
theorem d_Tr_receive_123 : decode c_Tr_receive 123 = .ok (.iconst 1, 1) := by decide +kernel
theorem d_Tr_receive_124 : decode c_Tr_receive 124 = .ok (.goto 4, 3) := by decide +kernel
theorem d_Tr_receive_127 : decode c_Tr_receive 127 = .ok (.iconst 0, 1) := by decide +kernel
theorem d_Tr_receive_128 : decode c_Tr_receive 128 = .ok (.istore 7, 2) := by decide +kernel
theorem d_Tr_receive_130 : decode c_Tr_receive 130 = .ok (.iload 7, 2) := by decide +kernel
theorem d_Tr_receive_132 : decode c_Tr_receive 132 = .ok (.ifCond .eq 27, 3) := by decide +kernel
theorem d_Tr_receive_135 : decode c_Tr_receive 135 = .ok (.aload_n 2, 1) := by decide +kernel
theorem d_Tr_receive_136 : decode c_Tr_receive 136 = .ok (.getfield 145, 3) := by decide +kernel
theorem d_Tr_receive_139 : decode c_Tr_receive 139 = .ok (.aload_n 3, 1) := by decide +kernel
theorem d_Tr_receive_140 : decode c_Tr_receive 140 = .ok (.getfield 127, 3) := by decide +kernel
theorem d_Tr_receive_143 : decode c_Tr_receive 143 = .ok (.invokevirtual 149, 3) := by decide +kernel
theorem d_Tr_receive_146 : decode c_Tr_receive 146 = .ok (.ifCond .eq 13, 3) := by decide +kernel
theorem d_Tr_receive_149 : decode c_Tr_receive 149 = .ok (.aload_n 3, 1) := by decide +kernel
theorem d_Tr_receive_150 : decode c_Tr_receive 150 = .ok (.getfield 127, 3) := by decide +kernel
theorem d_Tr_receive_153 : decode c_Tr_receive 153 = .ok (.getfield 155, 3) := by decide +kernel
theorem d_Tr_receive_156 : decode c_Tr_receive 156 = .ok (.goto 4, 3) := by decide +kernel
theorem d_Tr_receive_159 : decode c_Tr_receive 159 = .ok (.lconst 0, 1) := by decide +kernel
theorem d_Tr_receive_160 : decode c_Tr_receive 160 = .ok (.lreturn, 1) := by decide +kernel
def f_Tr_receive_32 (a : Nat) : sn_M := r_J (0 : Int64)
set_option maxHeartbeats 4000000 in
set_option maxRecDepth 100000 in
theorem mono_Tr_receive_32 (a : Nat) : sn_Mono (f_Tr_receive_32 a) := sn_Mono.rJ
set_option maxHeartbeats 4000000 in
set_option maxRecDepth 100000 in
theorem s_Tr_receive_32 {X : sn_X} (C : sn_Cx X c_Tr_receive "SignalNetwork$Transfer" (some .long) "receive" 8 5 119) (a : Nat) : sn_S X 32 [(0, vA (some a))] [] (f_Tr_receive_32 a) := by
  unfold f_Tr_receive_32
  refine r_lconst (q := 33) (v := 0) C d_Tr_receive_32 rfl (by decide) ?_
  exact r_lret C d_Tr_receive_33 rfl
def f_Tr_receive_160 (a : Nat) (t0 : Int64) : sn_M := r_J t0
set_option maxHeartbeats 4000000 in
set_option maxRecDepth 100000 in
theorem mono_Tr_receive_160 (a : Nat) (t0 : Int64) : sn_Mono (f_Tr_receive_160 a t0) := sn_Mono.rJ
set_option maxHeartbeats 4000000 in
set_option maxRecDepth 100000 in
theorem s_Tr_receive_160 {X : sn_X} (C : sn_Cx X c_Tr_receive "SignalNetwork$Transfer" (some .long) "receive" 8 5 119) (a : Nat) (t0 : Int64) : sn_S X 160 [(0, vA (some a))] [vJ t0] (f_Tr_receive_160 a t0) := by
  unfold f_Tr_receive_160
  exact r_lret C d_Tr_receive_160 rfl
def f_Tr_receive_159 (a : Nat) : sn_M := f_Tr_receive_160 a (0 : Int64)
set_option maxHeartbeats 4000000 in
set_option maxRecDepth 100000 in
theorem mono_Tr_receive_159 (a : Nat) : sn_Mono (f_Tr_receive_159 a) := mono_Tr_receive_160 a (0 : Int64)
set_option maxHeartbeats 4000000 in
set_option maxRecDepth 100000 in
theorem s_Tr_receive_159 {X : sn_X} (C : sn_Cx X c_Tr_receive "SignalNetwork$Transfer" (some .long) "receive" 8 5 119) (a : Nat) : sn_S X 159 [(0, vA (some a))] [] (f_Tr_receive_159 a) := by
  unfold f_Tr_receive_159
  refine r_lconst (q := 160) (v := 0) C d_Tr_receive_159 rfl (by decide) ?_
  exact s_Tr_receive_160 C a (0 : Int64)
def f_Tr_receive_128 (a : Nat) (r2 : Option Nat) (r3 : Option Nat) (t0 : Int32) : sn_M := (if t0 = 0 then f_Tr_receive_159 a else g_R 2 4 r2 fun v1 => g_R 2 5 r3 fun v2 => n_n 10 v1 fun a3 => c_I (f_Wi_treat a3 v2) fun v4 => (if v4 = 0 then f_Tr_receive_159 a else g_R 2 5 r3 fun v5 => g_J 9 6 v5 fun v6 => f_Tr_receive_160 a v6))
set_option maxHeartbeats 4000000 in
set_option maxRecDepth 100000 in
theorem mono_Tr_receive_128 (a : Nat) (r2 : Option Nat) (r3 : Option Nat) (t0 : Int32) : sn_Mono (f_Tr_receive_128 a r2 r3 t0) := sn_Mono.ite (mono_Tr_receive_159 a) (sn_Mono.gR (fun v1 => sn_Mono.gR (fun v2 => sn_Mono.nn (fun a3 => sn_Mono.cI (mono_Wi_treat a3 v2) (fun v4 => sn_Mono.ite (mono_Tr_receive_159 a) (sn_Mono.gR (fun v5 => sn_Mono.gJ (fun v6 => mono_Tr_receive_160 a v6))))))))
set_option maxHeartbeats 4000000 in
set_option maxRecDepth 100000 in
theorem s_Tr_receive_128 {X : sn_X} (C : sn_Cx X c_Tr_receive "SignalNetwork$Transfer" (some .long) "receive" 8 5 119) (a : Nat) (r2 : Option Nat) (r3 : Option Nat) (t0 : Int32) : sn_S X 128 [(0, vA (some a)), (2, vA r2), (3, vA r3)] [vI t0] (f_Tr_receive_128 a r2 r3 t0) := by
  unfold f_Tr_receive_128
  refine r_istore (q := 130) (i := 7) (lv' := [(7, vI t0), (0, vA (some a)), (2, vA r2), (3, vA r3)]) C d_Tr_receive_128 rfl (by decide) rfl ?_
  refine r_iload (q := 132) (i := 7) (pl := 0) C d_Tr_receive_130 rfl rfl ?_
  refine r_if_eq (tgt := 159) (q := 135) C d_Tr_receive_132 (by decide) rfl ?_ ?_
  · refine r_sub (lv' := [(0, vA (some a))]) [1] rfl ?_
    exact s_Tr_receive_159 C a
  · refine r_aload_n (q := 136) (i := 2) (pl := 2) C d_Tr_receive_135 rfl rfl rfl ?_
    refine r_gR (q := 139) C d_Tr_receive_136 rfl F_Tr_145 rfl (fun v1 => ?_)
    refine r_aload_n (q := 140) (i := 3) (pl := 3) C d_Tr_receive_139 rfl rfl rfl ?_
    refine r_gR (q := 143) C d_Tr_receive_140 rfl F_Tr_127 rfl (fun v2 => ?_)
    refine r_cvI (q := 146) (As := [vA v2]) (st := []) (cy := 9) C d_Tr_receive_143 rfl Y_Wi_treat L_Tr_149 I_Wi_treat Se_Wi_treat rfl (by decide) rfl (Nat.le_of_ble_eq_true rfl) (Nat.le_of_ble_eq_true rfl) (Nat.le_of_ble_eq_true rfl) rfl (fun a3 => con_Wi_treat a3 v2) (fun v4 => ?_)
    refine r_if_eq (tgt := 159) (q := 149) C d_Tr_receive_146 (by decide) rfl ?_ ?_
    · refine r_sub (lv' := [(0, vA (some a))]) [1] rfl ?_
      exact s_Tr_receive_159 C a
    · refine r_aload_n (q := 150) (i := 3) (pl := 3) C d_Tr_receive_149 rfl rfl rfl ?_
      refine r_gR (q := 153) C d_Tr_receive_150 rfl F_Tr_127 rfl (fun v5 => ?_)
      refine r_gJ (q := 156) C d_Tr_receive_153 rfl F_Tr_155 rfl (fun v6 => ?_)
      refine r_goto (tgt := 160) C d_Tr_receive_156 (by decide) ?_
      refine r_sub (lv' := [(0, vA (some a))]) [1] rfl ?_
      exact s_Tr_receive_160 C a v6
def f_Tr_receive_123 (a : Nat) (r2 : Option Nat) (r3 : Option Nat) : sn_M := f_Tr_receive_128 a r2 r3 (1 : Int32)
set_option maxHeartbeats 4000000 in
set_option maxRecDepth 100000 in
theorem mono_Tr_receive_123 (a : Nat) (r2 : Option Nat) (r3 : Option Nat) : sn_Mono (f_Tr_receive_123 a r2 r3) := mono_Tr_receive_128 a r2 r3 (1 : Int32)
set_option maxHeartbeats 4000000 in
set_option maxRecDepth 100000 in
theorem s_Tr_receive_123 {X : sn_X} (C : sn_Cx X c_Tr_receive "SignalNetwork$Transfer" (some .long) "receive" 8 5 119) (a : Nat) (r2 : Option Nat) (r3 : Option Nat) : sn_S X 123 [(0, vA (some a)), (2, vA r2), (3, vA r3)] [] (f_Tr_receive_123 a r2 r3) := by
  unfold f_Tr_receive_123
  refine r_iconst (q := 124) (v := 1) C d_Tr_receive_123 rfl (by decide) ?_
  refine r_goto (tgt := 128) C d_Tr_receive_124 (by decide) ?_
  exact s_Tr_receive_128 C a r2 r3 (1 : Int32)
def f_Tr_receive_111 (a : Nat) (r2 : Option Nat) (r3 : Option Nat) (x6 : Int32) : sn_M := (if x6 = (2 : Int32) then f_Tr_receive_123 a r2 r3 else (if ¬ x6 = (3 : Int32) then f_Tr_receive_128 a r2 r3 (0 : Int32) else f_Tr_receive_123 a r2 r3))
set_option maxHeartbeats 4000000 in
set_option maxRecDepth 100000 in
theorem mono_Tr_receive_111 (a : Nat) (r2 : Option Nat) (r3 : Option Nat) (x6 : Int32) : sn_Mono (f_Tr_receive_111 a r2 r3 x6) := sn_Mono.ite (mono_Tr_receive_123 a r2 r3) (sn_Mono.ite (mono_Tr_receive_128 a r2 r3 (0 : Int32)) (mono_Tr_receive_123 a r2 r3))
set_option maxHeartbeats 4000000 in
set_option maxRecDepth 100000 in
theorem s_Tr_receive_111 {X : sn_X} (C : sn_Cx X c_Tr_receive "SignalNetwork$Transfer" (some .long) "receive" 8 5 119) (a : Nat) (r2 : Option Nat) (r3 : Option Nat) (x6 : Int32) : sn_S X 111 [(0, vA (some a)), (2, vA r2), (3, vA r3), (6, vI x6)] [] (f_Tr_receive_111 a r2 r3 x6) := by
  unfold f_Tr_receive_111
  refine r_iload (q := 113) (i := 6) (pl := 3) C d_Tr_receive_111 rfl rfl ?_
  refine r_iconst (q := 114) (v := 2) C d_Tr_receive_113 rfl (by decide) ?_
  refine r_icmp_eq (tgt := 123) (q := 117) C d_Tr_receive_114 (by decide) rfl ?_ ?_
  · refine r_sub (lv' := [(0, vA (some a)), (2, vA r2), (3, vA r3)]) [0, 1, 2] rfl ?_
    exact s_Tr_receive_123 C a r2 r3
  · refine r_iload (q := 119) (i := 6) (pl := 3) C d_Tr_receive_117 rfl rfl ?_
    refine r_iconst (q := 120) (v := 3) C d_Tr_receive_119 rfl (by decide) ?_
    refine r_icmp_ne (tgt := 127) (q := 123) C d_Tr_receive_120 (by decide) rfl ?_ ?_
    · refine r_iconst (q := 128) (v := 0) C d_Tr_receive_127 rfl (by decide) ?_
      refine r_sub (lv' := [(0, vA (some a)), (2, vA r2), (3, vA r3)]) [0, 1, 2] rfl ?_
      exact s_Tr_receive_128 C a r2 r3 (0 : Int32)
    · refine r_sub (lv' := [(0, vA (some a)), (2, vA r2), (3, vA r3)]) [0, 1, 2] rfl ?_
      exact s_Tr_receive_123 C a r2 r3
def f_Tr_receive_100 (a : Nat) (r2 : Option Nat) (r3 : Option Nat) (x6 : Int32) : sn_M := (if ¬ x6 = (2 : Int32) then f_Tr_receive_111 a r2 r3 x6 else n_n 8 (some a) fun a7 => c_V (f_Tr_comeUp a7 r2) (f_Tr_receive_111 a r2 r3 x6))
set_option maxHeartbeats 4000000 in
set_option maxRecDepth 100000 in
theorem mono_Tr_receive_100 (a : Nat) (r2 : Option Nat) (r3 : Option Nat) (x6 : Int32) : sn_Mono (f_Tr_receive_100 a r2 r3 x6) := sn_Mono.ite (mono_Tr_receive_111 a r2 r3 x6) (sn_Mono.nn (fun a7 => sn_Mono.cV (mono_Tr_comeUp a7 r2) (mono_Tr_receive_111 a r2 r3 x6)))
set_option maxHeartbeats 4000000 in
set_option maxRecDepth 100000 in
theorem s_Tr_receive_100 {X : sn_X} (C : sn_Cx X c_Tr_receive "SignalNetwork$Transfer" (some .long) "receive" 8 5 119) (a : Nat) (r2 : Option Nat) (r3 : Option Nat) (x6 : Int32) : sn_S X 100 [(0, vA (some a)), (2, vA r2), (3, vA r3), (6, vI x6)] [] (f_Tr_receive_100 a r2 r3 x6) := by
  unfold f_Tr_receive_100
  refine r_iload (q := 102) (i := 6) (pl := 3) C d_Tr_receive_100 rfl rfl ?_
  refine r_iconst (q := 103) (v := 2) C d_Tr_receive_102 rfl (by decide) ?_
  refine r_icmp_ne (tgt := 111) (q := 106) C d_Tr_receive_103 (by decide) rfl ?_ ?_
  · exact s_Tr_receive_111 C a r2 r3 x6
  · refine r_aload_n (q := 107) (i := 0) (pl := 0) C d_Tr_receive_106 rfl rfl rfl ?_
    refine r_aload_n (q := 108) (i := 2) (pl := 1) C d_Tr_receive_107 rfl rfl rfl ?_
    refine r_cvV (q := 111) (As := [vA r2]) (st := []) (cy := 7) C d_Tr_receive_108 rfl Y_Tr_comeUp L_Tr_142 I_Tr_comeUp Se_Tr_comeUp rfl (by decide) rfl (Nat.le_of_ble_eq_true rfl) (Nat.le_of_ble_eq_true rfl) (Nat.le_of_ble_eq_true rfl) rfl (fun a7 => con_Tr_comeUp a7 r2) ?_
    exact s_Tr_receive_111 C a r2 r3 x6
def f_Tr_receive_72 (a : Nat) (r2 : Option Nat) (r3 : Option Nat) (t0 : Int32) : sn_M := g_R 2 5 r3 fun v9 => g_I 9 5 v9 fun v10 => n_n 2 r2 fun a11 => c_I (f_En_hear a11 t0 v10) fun v12 => (if ¬ v12 = (1 : Int32) then f_Tr_receive_100 a r2 r3 v12 else n_n 8 (some a) fun a13 => c_V (f_Tr_fail a13 r2) (f_Tr_receive_100 a r2 r3 v12))
set_option maxHeartbeats 4000000 in
set_option maxRecDepth 100000 in
theorem mono_Tr_receive_72 (a : Nat) (r2 : Option Nat) (r3 : Option Nat) (t0 : Int32) : sn_Mono (f_Tr_receive_72 a r2 r3 t0) := sn_Mono.gR (fun v9 => sn_Mono.gI (fun v10 => sn_Mono.nn (fun a11 => sn_Mono.cI (mono_En_hear a11 t0 v10) (fun v12 => sn_Mono.ite (mono_Tr_receive_100 a r2 r3 v12) (sn_Mono.nn (fun a13 => sn_Mono.cV (mono_Tr_fail a13 r2) (mono_Tr_receive_100 a r2 r3 v12)))))))
set_option maxHeartbeats 4000000 in
set_option maxRecDepth 100000 in
theorem s_Tr_receive_72 {X : sn_X} (C : sn_Cx X c_Tr_receive "SignalNetwork$Transfer" (some .long) "receive" 8 5 119) (a : Nat) (r2 : Option Nat) (r3 : Option Nat) (t0 : Int32) : sn_S X 72 [(0, vA (some a)), (2, vA r2), (3, vA r3)] [vI t0] (f_Tr_receive_72 a r2 r3 t0) := by
  unfold f_Tr_receive_72
  refine r_istore (q := 74) (i := 5) (lv' := [(5, vI t0), (0, vA (some a)), (2, vA r2), (3, vA r3)]) C d_Tr_receive_72 rfl (by decide) rfl ?_
  refine r_aload_n (q := 75) (i := 2) (pl := 2) C d_Tr_receive_74 rfl rfl rfl ?_
  refine r_iload (q := 77) (i := 5) (pl := 0) C d_Tr_receive_75 rfl rfl ?_
  refine r_aload_n (q := 78) (i := 3) (pl := 3) C d_Tr_receive_77 rfl rfl rfl ?_
  refine r_gR (q := 81) C d_Tr_receive_78 rfl F_Tr_127 rfl (fun v9 => ?_)
  refine r_gI (q := 84) C d_Tr_receive_81 rfl F_Tr_136 rfl (fun v10 => ?_)
  refine r_cvI (q := 87) (As := [vI t0, vI v10]) (st := []) (cy := 1) C d_Tr_receive_84 rfl Y_En_hear L_Tr_139 I_En_hear Se_En_hear rfl (by decide) rfl (Nat.le_of_ble_eq_true rfl) (Nat.le_of_ble_eq_true rfl) (Nat.le_of_ble_eq_true rfl) rfl (fun a11 => con_En_hear a11 t0 v10) (fun v12 => ?_)
  refine r_istore (q := 89) (i := 6) (lv' := [(6, vI v12), (5, vI t0), (0, vA (some a)), (2, vA r2), (3, vA r3)]) C d_Tr_receive_87 rfl (by decide) rfl ?_
  refine r_iload (q := 91) (i := 6) (pl := 0) C d_Tr_receive_89 rfl rfl ?_
  refine r_iconst (q := 92) (v := 1) C d_Tr_receive_91 rfl (by decide) ?_
  refine r_icmp_ne (tgt := 100) (q := 95) C d_Tr_receive_92 (by decide) rfl ?_ ?_
  · refine r_sub (lv' := [(0, vA (some a)), (2, vA r2), (3, vA r3), (6, vI v12)]) [2, 3, 4, 0] rfl ?_
    exact s_Tr_receive_100 C a r2 r3 v12
  · refine r_aload_n (q := 96) (i := 0) (pl := 2) C d_Tr_receive_95 rfl rfl rfl ?_
    refine r_aload_n (q := 97) (i := 2) (pl := 3) C d_Tr_receive_96 rfl rfl rfl ?_
    refine r_cvV (q := 100) (As := [vA r2]) (st := []) (cy := 7) C d_Tr_receive_97 rfl Y_Tr_fail L_Tr_101 I_Tr_fail Se_Tr_fail rfl (by decide) rfl (Nat.le_of_ble_eq_true rfl) (Nat.le_of_ble_eq_true rfl) (Nat.le_of_ble_eq_true rfl) rfl (fun a13 => con_Tr_fail a13 r2) ?_
    refine r_sub (lv' := [(0, vA (some a)), (2, vA r2), (3, vA r3), (6, vI v12)]) [2, 3, 4, 0] rfl ?_
    exact s_Tr_receive_100 C a r2 r3 v12
def f_Tr_receive_60 (a : Nat) (r2 : Option Nat) (r3 : Option Nat) : sn_M := f_Tr_receive_72 a r2 r3 (6 : Int32)
set_option maxHeartbeats 4000000 in
set_option maxRecDepth 100000 in
theorem mono_Tr_receive_60 (a : Nat) (r2 : Option Nat) (r3 : Option Nat) : sn_Mono (f_Tr_receive_60 a r2 r3) := mono_Tr_receive_72 a r2 r3 (6 : Int32)
set_option maxHeartbeats 4000000 in
set_option maxRecDepth 100000 in
theorem s_Tr_receive_60 {X : sn_X} (C : sn_Cx X c_Tr_receive "SignalNetwork$Transfer" (some .long) "receive" 8 5 119) (a : Nat) (r2 : Option Nat) (r3 : Option Nat) : sn_S X 60 [(0, vA (some a)), (2, vA r2), (3, vA r3)] [] (f_Tr_receive_60 a r2 r3) := by
  unfold f_Tr_receive_60
  refine r_bipush (q := 62) (v := 6) C d_Tr_receive_60 rfl (by decide) ?_
  refine r_goto (tgt := 72) C d_Tr_receive_62 (by decide) ?_
  exact s_Tr_receive_72 C a r2 r3 (6 : Int32)
def f_Tr_receive (a : Nat) (x1 : Int32) : sn_M := n_n 8 (some a) fun a15 => c_R (f_Tr_endOf a15 (x1 / (2 : Int32)) (x1 % (2 : Int32))) fun v16 => n_n 8 (some a) fun a17 => c_R (f_Tr_endOf a17 (x1 / (2 : Int32)) ((1 : Int32) - (x1 % (2 : Int32)))) fun v18 => (if v16 = none then f_Tr_receive_32 a else (if ¬ v18 = none then n_n 2 v16 fun a19 => c_I (f_En_isDamagedNow a19) fun v20 => (if ¬ v20 = 0 then f_Tr_receive_60 a v16 v18 else g_R 8 0 (some a) fun v21 => g_R 5 4 v21 fun v22 => g_I 2 1 v16 fun v23 => a_I 23 v22 v23 fun v24 => (if v24 = 0 then g_R 2 5 v18 fun v25 => g_I 9 0 v25 fun v26 => f_Tr_receive_72 a v16 v18 v26 else f_Tr_receive_60 a v16 v18)) else f_Tr_receive_32 a))
set_option maxHeartbeats 4000000 in
set_option maxRecDepth 100000 in
theorem mono_Tr_receive (a : Nat) (x1 : Int32) : sn_Mono (f_Tr_receive a x1) := sn_Mono.nn (fun a15 => sn_Mono.cR (mono_Tr_endOf a15 (x1 / (2 : Int32)) (x1 % (2 : Int32))) (fun v16 => sn_Mono.nn (fun a17 => sn_Mono.cR (mono_Tr_endOf a17 (x1 / (2 : Int32)) ((1 : Int32) - (x1 % (2 : Int32)))) (fun v18 => sn_Mono.ite (mono_Tr_receive_32 a) (sn_Mono.ite (sn_Mono.nn (fun a19 => sn_Mono.cI (mono_En_isDamagedNow a19) (fun v20 => sn_Mono.ite (mono_Tr_receive_60 a v16 v18) (sn_Mono.gR (fun v21 => sn_Mono.gR (fun v22 => sn_Mono.gI (fun v23 => sn_Mono.aI (fun v24 => sn_Mono.ite (sn_Mono.gR (fun v25 => sn_Mono.gI (fun v26 => mono_Tr_receive_72 a v16 v18 v26))) (mono_Tr_receive_60 a v16 v18))))))))) (mono_Tr_receive_32 a))))))
set_option maxHeartbeats 4000000 in
set_option maxRecDepth 100000 in
theorem con_Tr_receive (a : Nat) (x1 : Int32) : sn_Con y_Tr_receive c_Tr_receive 8 (some .long) 5 119 [vA (some a), vI x1] (f_Tr_receive a x1) := by
  refine sn_Con.of (by decide +kernel) (by show _ ≤ _; exact Nat.le_of_ble_eq_true rfl) (mono_Tr_receive a x1) (fun X C => ?_)
  show sn_S X 0 [(0, vA (some a)), (1, vI x1)] [] _
  replace C : sn_Cx X c_Tr_receive "SignalNetwork$Transfer" (some .long) "receive" 8 5 119 := C
  unfold f_Tr_receive
  refine r_aload_n (q := 1) (i := 0) (pl := 0) C d_Tr_receive_0 rfl rfl rfl ?_
  refine r_iload_n (q := 2) (i := 1) (pl := 1) C d_Tr_receive_1 rfl rfl rfl ?_
  refine r_iconst (q := 3) (v := 2) C d_Tr_receive_2 rfl (by decide) ?_
  refine r_idivc (q := 4) C d_Tr_receive_3 rfl (by decide) ?_
  refine r_iload_n (q := 5) (i := 1) (pl := 1) C d_Tr_receive_4 rfl rfl rfl ?_
  refine r_iconst (q := 6) (v := 2) C d_Tr_receive_5 rfl (by decide) ?_
  refine r_iremc (q := 7) C d_Tr_receive_6 rfl (by decide) ?_
  refine r_cvR (q := 10) (As := [vI (x1 / (2 : Int32)), vI (x1 % (2 : Int32))]) (st := []) (cy := 7) C d_Tr_receive_7 rfl Y_Tr_endOf L_Tr_87 I_Tr_endOf Se_Tr_endOf rfl (by decide) rfl (Nat.le_of_ble_eq_true rfl) (Nat.le_of_ble_eq_true rfl) (Nat.le_of_ble_eq_true rfl) rfl (fun a15 => con_Tr_endOf a15 (x1 / (2 : Int32)) (x1 % (2 : Int32))) (fun v16 => ?_)
  refine r_astore_n (q := 11) (i := 2) (lv' := [(2, vA v16), (0, vA (some a)), (1, vI x1)]) C d_Tr_receive_10 rfl rfl (by decide) rfl ?_
  refine r_aload_n (q := 12) (i := 0) (pl := 1) C d_Tr_receive_11 rfl rfl rfl ?_
  refine r_iload_n (q := 13) (i := 1) (pl := 2) C d_Tr_receive_12 rfl rfl rfl ?_
  refine r_iconst (q := 14) (v := 2) C d_Tr_receive_13 rfl (by decide) ?_
  refine r_idivc (q := 15) C d_Tr_receive_14 rfl (by decide) ?_
  refine r_iconst (q := 16) (v := 1) C d_Tr_receive_15 rfl (by decide) ?_
  refine r_iload_n (q := 17) (i := 1) (pl := 2) C d_Tr_receive_16 rfl rfl rfl ?_
  refine r_iconst (q := 18) (v := 2) C d_Tr_receive_17 rfl (by decide) ?_
  refine r_iremc (q := 19) C d_Tr_receive_18 rfl (by decide) ?_
  refine r_isub (q := 20) C d_Tr_receive_19 rfl ?_
  refine r_cvR (q := 23) (As := [vI (x1 / (2 : Int32)), vI ((1 : Int32) - (x1 % (2 : Int32)))]) (st := []) (cy := 7) C d_Tr_receive_20 rfl Y_Tr_endOf L_Tr_87 I_Tr_endOf Se_Tr_endOf rfl (by decide) rfl (Nat.le_of_ble_eq_true rfl) (Nat.le_of_ble_eq_true rfl) (Nat.le_of_ble_eq_true rfl) rfl (fun a17 => con_Tr_endOf a17 (x1 / (2 : Int32)) ((1 : Int32) - (x1 % (2 : Int32)))) (fun v18 => ?_)
  refine r_astore_n (q := 24) (i := 3) (lv' := [(3, vA v18), (2, vA v16), (0, vA (some a)), (1, vI x1)]) C d_Tr_receive_23 rfl rfl (by decide) rfl ?_
  refine r_aload_n (q := 25) (i := 2) (pl := 1) C d_Tr_receive_24 rfl rfl rfl ?_
  refine r_ifnull (tgt := 32) (q := 28) C d_Tr_receive_25 (by decide) rfl ?_ ?_
  · refine r_sub (lv' := [(0, vA (some a))]) [2] rfl ?_
    exact s_Tr_receive_32 C a
  · refine r_aload_n (q := 29) (i := 3) (pl := 0) C d_Tr_receive_28 rfl rfl rfl ?_
    refine r_ifnonnull (tgt := 34) (q := 32) C d_Tr_receive_29 (by decide) rfl ?_ ?_
    · refine r_aload_n (q := 35) (i := 2) (pl := 1) C d_Tr_receive_34 rfl rfl rfl ?_
      refine r_cvI (q := 38) (As := []) (st := []) (cy := 1) C d_Tr_receive_35 rfl Y_En_isDamagedNow L_Tr_117 I_En_isDamagedNow Se_En_isDamagedNow rfl (by decide) rfl (Nat.le_of_ble_eq_true rfl) (Nat.le_of_ble_eq_true rfl) (Nat.le_of_ble_eq_true rfl) rfl (fun a19 => con_En_isDamagedNow a19) (fun v20 => ?_)
      refine r_istore (q := 40) (i := 4) (lv' := [(4, vI v20), (3, vA v18), (2, vA v16), (0, vA (some a)), (1, vI x1)]) C d_Tr_receive_38 rfl (by decide) rfl ?_
      refine r_iload (q := 42) (i := 4) (pl := 0) C d_Tr_receive_40 rfl rfl ?_
      refine r_if_ne (tgt := 60) (q := 45) C d_Tr_receive_42 (by decide) rfl ?_ ?_
      · refine r_sub (lv' := [(0, vA (some a)), (2, vA v16), (3, vA v18)]) [3, 2, 1] rfl ?_
        exact s_Tr_receive_60 C a v16 v18
      · refine r_aload_n (q := 46) (i := 0) (pl := 3) C d_Tr_receive_45 rfl rfl rfl ?_
        refine r_gR (q := 49) C d_Tr_receive_46 rfl F_Tr_34 rfl (fun v21 => ?_)
        refine r_gR (q := 52) C d_Tr_receive_49 rfl F_Tr_121 rfl (fun v22 => ?_)
        refine r_aload_n (q := 53) (i := 2) (pl := 2) C d_Tr_receive_52 rfl rfl rfl ?_
        refine r_gI (q := 56) C d_Tr_receive_53 rfl F_Tr_124 rfl (fun v23 => ?_)
        refine r_aZ (q := 57) C (Or.inl rfl) d_Tr_receive_56 rfl (fun v24 => ?_)
        refine r_if_eq (tgt := 65) (q := 60) C d_Tr_receive_57 (by decide) rfl ?_ ?_
        · refine r_aload_n (q := 66) (i := 3) (pl := 1) C d_Tr_receive_65 rfl rfl rfl ?_
          refine r_gR (q := 69) C d_Tr_receive_66 rfl F_Tr_127 rfl (fun v25 => ?_)
          refine r_gI (q := 72) C d_Tr_receive_69 rfl F_Tr_131 rfl (fun v26 => ?_)
          refine r_sub (lv' := [(0, vA (some a)), (2, vA v16), (3, vA v18)]) [3, 2, 1] rfl ?_
          exact s_Tr_receive_72 C a v16 v18 v26
        · refine r_sub (lv' := [(0, vA (some a)), (2, vA v16), (3, vA v18)]) [3, 2, 1] rfl ?_
          exact s_Tr_receive_60 C a v16 v18
    · refine r_sub (lv' := [(0, vA (some a))]) [2] rfl ?_
      exact s_Tr_receive_32 C a
theorem d_Tr_changeBack_0 : decode c_Tr_changeBack 0 = .ok (.lload_n 2, 1) := by decide +kernel
theorem d_Tr_changeBack_1 : decode c_Tr_changeBack 1 = .ok (.invokestatic 291, 3) := by decide +kernel
theorem d_Tr_changeBack_4 : decode c_Tr_changeBack 4 = .ok (.istore 4, 2) := by decide +kernel
theorem d_Tr_changeBack_6 : decode c_Tr_changeBack 6 = .ok (.aload_n 0, 1) := by decide +kernel
theorem d_Tr_changeBack_7 : decode c_Tr_changeBack 7 = .ok (.iload_n 1, 1) := by decide +kernel
theorem d_Tr_changeBack_8 : decode c_Tr_changeBack 8 = .ok (.lload_n 2, 1) := by decide +kernel
theorem d_Tr_changeBack_9 : decode c_Tr_changeBack 9 = .ok (.invokestatic 205, 3) := by decide +kernel
theorem d_Tr_changeBack_12 : decode c_Tr_changeBack 12 = .ok (.iload 4, 2) := by decide +kernel
theorem d_Tr_changeBack_14 : decode c_Tr_changeBack 14 = .ok (.invokevirtual 210, 3) := by decide +kernel
theorem d_Tr_changeBack_17 : decode c_Tr_changeBack 17 = .ok (.astore 5, 2) := by decide +kernel
theorem d_Tr_changeBack_19 : decode c_Tr_changeBack 19 = .ok (.aload 5, 2) := by decide +kernel
theorem d_Tr_changeBack_21 : decode c_Tr_changeBack 21 = .ok (.ifnull 24, 3) := by decide +kernel
theorem d_Tr_changeBack_24 : decode c_Tr_changeBack 24 = .ok (.aload 5, 2) := by decide +kernel
theorem d_Tr_changeBack_26 : decode c_Tr_changeBack 26 = .ok (.getfield 235, 3) := by decide +kernel
theorem d_Tr_changeBack_29 : decode c_Tr_changeBack 29 = .ok (.iconst 2, 1) := by decide +kernel
theorem d_Tr_changeBack_30 : decode c_Tr_changeBack 30 = .ok (.if_icmp .ne 15, 3) := by decide +kernel
theorem d_Tr_changeBack_33 : decode c_Tr_changeBack 33 = .ok (.aload 5, 2) := by decide +kernel
theorem d_Tr_changeBack_35 : decode c_Tr_changeBack 35 = .ok (.getfield 249, 3) := by decide +kernel
theorem d_Tr_changeBack_38 : decode c_Tr_changeBack 38 = .ok (.lload_n 2, 1) := by decide +kernel
theorem d_Tr_changeBack_39 : decode c_Tr_changeBack 39 = .ok (.invokestatic 297, 3) := by decide +kernel
theorem d_Tr_changeBack_42 : decode c_Tr_changeBack 42 = .ok (.if_icmp .eq 4, 3) := by decide +kernel
theorem d_Tr_changeBack_45 : decode c_Tr_changeBack 45 = .ok (.return_, 1) := by decide +kernel
theorem d_Tr_changeBack_46 : decode c_Tr_changeBack 46 = .ok (.aload 5, 2) := by decide +kernel
theorem d_Tr_changeBack_48 : decode c_Tr_changeBack 48 = .ok (.aload_n 0, 1) := by decide +kernel
theorem d_Tr_changeBack_49 : decode c_Tr_changeBack 49 = .ok (.iload_n 1, 1) := by decide +kernel
theorem d_Tr_changeBack_50 : decode c_Tr_changeBack 50 = .ok (.aload 5, 2) := by decide +kernel
theorem d_Tr_changeBack_52 : decode c_Tr_changeBack 52 = .ok (.getfield 76, 3) := by decide +kernel
theorem d_Tr_changeBack_55 : decode c_Tr_changeBack 55 = .ok (.iload 4, 2) := by decide +kernel
theorem d_Tr_changeBack_57 : decode c_Tr_changeBack 57 = .ok (.invokevirtual 108, 3) := by decide +kernel
theorem d_Tr_changeBack_60 : decode c_Tr_changeBack 60 = .ok (.invokevirtual 322, 3) := by decide +kernel
theorem d_Tr_changeBack_63 : decode c_Tr_changeBack 63 = .ok (.aload 5, 2) := by decide +kernel
theorem d_Tr_changeBack_65 : decode c_Tr_changeBack 65 = .ok (.getfield 329, 3) := by decide +kernel
theorem d_Tr_changeBack_68 : decode c_Tr_changeBack 68 = .ok (.getfield 307, 3) := by decide +kernel
theorem d_Tr_changeBack_71 : decode c_Tr_changeBack 71 = .ok (.istore 6, 2) := by decide +kernel
theorem d_Tr_changeBack_73 : decode c_Tr_changeBack 73 = .ok (.iload 6, 2) := by decide +kernel
theorem d_Tr_changeBack_75 : decode c_Tr_changeBack 75 = .ok (.ifCond .le 23, 3) := by decide +kernel
theorem d_Tr_changeBack_78 : decode c_Tr_changeBack 78 = .ok (.aload_n 0, 1) := by decide +kernel
theorem d_Tr_changeBack_79 : decode c_Tr_changeBack 79 = .ok (.aload 5, 2) := by decide +kernel
theorem d_Tr_changeBack_81 : decode c_Tr_changeBack 81 = .ok (.aload 5, 2) := by decide +kernel
theorem d_Tr_changeBack_83 : decode c_Tr_changeBack 83 = .ok (.getfield 329, 3) := by decide +kernel
theorem d_Tr_changeBack_86 : decode c_Tr_changeBack 86 = .ok (.invokevirtual 332, 3) := by decide +kernel
theorem d_Tr_changeBack_89 : decode c_Tr_changeBack 89 = .ok (.invokevirtual 201, 3) := by decide +kernel
theorem d_Tr_changeBack_92 : decode c_Tr_changeBack 92 = .ok (.iinc 6 (-1), 3) := by decide +kernel
theorem d_Tr_changeBack_95 : decode c_Tr_changeBack 95 = .ok (.goto (-22), 3) := by decide +kernel
theorem d_Tr_changeBack_98 : decode c_Tr_changeBack 98 = .ok (.return_, 1) := by decide +kernel
def f_Tr_changeBack_45 (a : Nat) : sn_M := r_V
set_option maxHeartbeats 4000000 in
set_option maxRecDepth 100000 in
theorem mono_Tr_changeBack_45 (a : Nat) : sn_Mono (f_Tr_changeBack_45 a) := sn_Mono.rV
set_option maxHeartbeats 4000000 in
set_option maxRecDepth 100000 in
theorem s_Tr_changeBack_45 {X : sn_X} (C : sn_Cx X c_Tr_changeBack "SignalNetwork$Transfer" none "changeBack" 7 2 49) (a : Nat) : sn_S X 45 [(0, vA (some a))] [] (f_Tr_changeBack_45 a) := by
  unfold f_Tr_changeBack_45
  exact r_vret C d_Tr_changeBack_45 rfl
def f_Tr_changeBack_73 (a : Nat) : Nat → Option Nat → Int32 → sn_M
  | 0, _, _ => r_0
  | n + 1, r5, x6 => (if x6 ≤ 0 then r_V else g_R 3 6 r5 fun v1 => n_n 6 v1 fun a2 => c_J (f_Qu_takeFirst a2) fun v3 => n_n 8 (some a) fun a4 => c_V (f_Tr_give a4 r5 v3) (f_Tr_changeBack_73 a n r5 (x6 + (-1 : Int32))))
set_option maxHeartbeats 4000000 in
set_option maxRecDepth 100000 in
theorem mono_Tr_changeBack_73 (a : Nat) : ∀ (n : Nat) (r5 : Option Nat) (x6 : Int32), sn_Mono (f_Tr_changeBack_73 a n r5 x6)
  | 0, _, _ => sn_Mono.r0
  | n + 1, r5, x6 => sn_Mono.ite (sn_Mono.rV) (sn_Mono.gR (fun v1 => sn_Mono.nn (fun a2 => sn_Mono.cJ (mono_Qu_takeFirst a2) (fun v3 => sn_Mono.nn (fun a4 => sn_Mono.cV (mono_Tr_give a4 r5 v3) (mono_Tr_changeBack_73 a n r5 (x6 + (-1 : Int32))))))))
set_option maxHeartbeats 4000000 in
set_option maxRecDepth 100000 in
theorem s_Tr_changeBack_73 {X : sn_X} (C : sn_Cx X c_Tr_changeBack "SignalNetwork$Transfer" none "changeBack" 7 2 49) (a : Nat) (n : Nat) : ∀ (r5 : Option Nat) (x6 : Int32), sn_S X 73 [(0, vA (some a)), (5, vA r5), (6, vI x6)] [] (f_Tr_changeBack_73 a n r5 x6) := by
  induction n with
  | zero => intro r5 x6; exact sn_S.zero
  | succ n ih =>
    intro r5 x6
    unfold f_Tr_changeBack_73
    refine r_iload (q := 75) (i := 6) (pl := 2) C d_Tr_changeBack_73 rfl rfl ?_
    refine r_if_le (tgt := 98) (q := 78) C d_Tr_changeBack_75 (by decide) rfl ?_ ?_
    · exact r_vret C d_Tr_changeBack_98 rfl
    · refine r_aload_n (q := 79) (i := 0) (pl := 0) C d_Tr_changeBack_78 rfl rfl rfl ?_
      refine r_aload (q := 81) (i := 5) (pl := 1) C d_Tr_changeBack_79 rfl rfl ?_
      refine r_aload (q := 83) (i := 5) (pl := 1) C d_Tr_changeBack_81 rfl rfl ?_
      refine r_gR (q := 86) C d_Tr_changeBack_83 rfl F_Tr_329 rfl (fun v1 => ?_)
      refine r_cvJ (q := 89) (As := []) (st := [vA r5, vA (some a)]) (cy := 5) C d_Tr_changeBack_86 rfl Y_Qu_takeFirst L_Tr_332 I_Qu_takeFirst Se_Qu_takeFirst rfl (by decide) rfl (Nat.le_of_ble_eq_true rfl) (Nat.le_of_ble_eq_true rfl) (Nat.le_of_ble_eq_true rfl) rfl (fun a2 => con_Qu_takeFirst a2) (fun v3 => ?_)
      refine r_cvV (q := 92) (As := [vA r5, vJ v3]) (st := []) (cy := 7) C d_Tr_changeBack_89 rfl Y_Tr_give L_Tr_201 I_Tr_give Se_Tr_give rfl (by decide) rfl (Nat.le_of_ble_eq_true rfl) (Nat.le_of_ble_eq_true rfl) (Nat.le_of_ble_eq_true rfl) rfl (fun a4 => con_Tr_give a4 r5 v3) ?_
      refine r_iinc (q := 95) (pl := 2) (v := x6 + (-1 : Int32)) (lv' := [(6, vI (x6 + (-1 : Int32))), (0, vA (some a)), (5, vA r5)]) C d_Tr_changeBack_92 rfl rfl rfl (by decide) rfl ?_
      refine r_goto (tgt := 73) C d_Tr_changeBack_95 (by decide) ?_
      refine r_sub (lv' := [(0, vA (some a)), (5, vA r5), (6, vI (x6 + (-1 : Int32)))]) [1, 2, 0] rfl ?_
      exact ih r5 (x6 + (-1 : Int32))
def f_Tr_changeBack (a : Nat) (x1 : Int32) (l2 : Int64) : sn_M := c_I (f_Ms_first l2) fun v6 => c_I (f_Ms_from l2) fun v7 => n_n 8 (some a) fun a8 => c_R (f_Tr_flowTo a8 x1 v7 v6) fun v9 => (if v9 = none then f_Tr_changeBack_45 a else g_I 3 2 v9 fun v10 => (if ¬ v10 = (2 : Int32) then f_Tr_changeBack_45 a else g_I 3 5 v9 fun v11 => c_I (f_Ms_second l2) fun v12 => (if v11 = v12 then g_I 3 0 v9 fun v13 => n_n 8 (some a) fun a14 => c_R (f_Tr_best a14 x1 v13 v6) fun v15 => n_n 3 v9 fun a16 => c_V (f_Fl_free a16 v15) (g_R 3 6 v9 fun v18 => g_I 6 2 v18 fun v19 => f_Tr_changeBack_73 a sn_fuel v9 v19) else f_Tr_changeBack_45 a)))
set_option maxHeartbeats 4000000 in
set_option maxRecDepth 100000 in
theorem mono_Tr_changeBack (a : Nat) (x1 : Int32) (l2 : Int64) : sn_Mono (f_Tr_changeBack a x1 l2) := sn_Mono.cI (mono_Ms_first l2) (fun v6 => sn_Mono.cI (mono_Ms_from l2) (fun v7 => sn_Mono.nn (fun a8 => sn_Mono.cR (mono_Tr_flowTo a8 x1 v7 v6) (fun v9 => sn_Mono.ite (mono_Tr_changeBack_45 a) (sn_Mono.gI (fun v10 => sn_Mono.ite (mono_Tr_changeBack_45 a) (sn_Mono.gI (fun v11 => sn_Mono.cI (mono_Ms_second l2) (fun v12 => sn_Mono.ite (sn_Mono.gI (fun v13 => sn_Mono.nn (fun a14 => sn_Mono.cR (mono_Tr_best a14 x1 v13 v6) (fun v15 => sn_Mono.nn (fun a16 => sn_Mono.cV (mono_Fl_free a16 v15) (sn_Mono.gR (fun v18 => sn_Mono.gI (fun v19 => mono_Tr_changeBack_73 a sn_fuel v9 v19)))))))) (mono_Tr_changeBack_45 a))))))))))
set_option maxHeartbeats 4000000 in
set_option maxRecDepth 100000 in
theorem con_Tr_changeBack (a : Nat) (x1 : Int32) (l2 : Int64) : sn_Con y_Tr_changeBack c_Tr_changeBack 7 none 2 49 [vA (some a), vI x1, vJ l2] (f_Tr_changeBack a x1 l2) := by
  refine sn_Con.of (by decide +kernel) (by show _ ≤ _; exact Nat.le_of_ble_eq_true rfl) (mono_Tr_changeBack a x1 l2) (fun X C => ?_)
  show sn_S X 0 [(0, vA (some a)), (1, vI x1), (2, vJ l2)] [] _
  replace C : sn_Cx X c_Tr_changeBack "SignalNetwork$Transfer" none "changeBack" 7 2 49 := C
  unfold f_Tr_changeBack
  refine r_lload_n (q := 1) (i := 2) (pl := 2) C d_Tr_changeBack_0 rfl rfl rfl ?_
  refine r_csI (q := 4) (As := [vJ l2]) (st := []) C d_Tr_changeBack_1 rfl Y_Ms_first L_Tr_291 St_Ms_first rfl (Nat.le_of_ble_eq_true rfl) (Nat.le_of_ble_eq_true rfl) (Nat.le_of_ble_eq_true rfl) rfl (con_Ms_first l2) (fun v6 => ?_)
  refine r_istore (q := 6) (i := 4) (lv' := [(4, vI v6), (0, vA (some a)), (1, vI x1), (2, vJ l2)]) C d_Tr_changeBack_4 rfl (by decide) rfl ?_
  refine r_aload_n (q := 7) (i := 0) (pl := 1) C d_Tr_changeBack_6 rfl rfl rfl ?_
  refine r_iload_n (q := 8) (i := 1) (pl := 2) C d_Tr_changeBack_7 rfl rfl rfl ?_
  refine r_lload_n (q := 9) (i := 2) (pl := 3) C d_Tr_changeBack_8 rfl rfl rfl ?_
  refine r_csI (q := 12) (As := [vJ l2]) (st := [vI x1, vA (some a)]) C d_Tr_changeBack_9 rfl Y_Ms_from L_Tr_205 St_Ms_from rfl (Nat.le_of_ble_eq_true rfl) (Nat.le_of_ble_eq_true rfl) (Nat.le_of_ble_eq_true rfl) rfl (con_Ms_from l2) (fun v7 => ?_)
  refine r_iload (q := 14) (i := 4) (pl := 0) C d_Tr_changeBack_12 rfl rfl ?_
  refine r_cvR (q := 17) (As := [vI x1, vI v7, vI v6]) (st := []) (cy := 7) C d_Tr_changeBack_14 rfl Y_Tr_flowTo L_Tr_210 I_Tr_flowTo Se_Tr_flowTo rfl (by decide) rfl (Nat.le_of_ble_eq_true rfl) (Nat.le_of_ble_eq_true rfl) (Nat.le_of_ble_eq_true rfl) rfl (fun a8 => con_Tr_flowTo a8 x1 v7 v6) (fun v9 => ?_)
  refine r_astore (q := 19) (i := 5) (lv' := [(5, vA v9), (4, vI v6), (0, vA (some a)), (1, vI x1), (2, vJ l2)]) C d_Tr_changeBack_17 rfl (by decide) rfl ?_
  refine r_aload (q := 21) (i := 5) (pl := 0) C d_Tr_changeBack_19 rfl rfl ?_
  refine r_ifnull (tgt := 45) (q := 24) C d_Tr_changeBack_21 (by decide) rfl ?_ ?_
  · refine r_sub (lv' := [(0, vA (some a))]) [2] rfl ?_
    exact s_Tr_changeBack_45 C a
  · refine r_aload (q := 26) (i := 5) (pl := 0) C d_Tr_changeBack_24 rfl rfl ?_
    refine r_gI (q := 29) C d_Tr_changeBack_26 rfl F_Tr_235 rfl (fun v10 => ?_)
    refine r_iconst (q := 30) (v := 2) C d_Tr_changeBack_29 rfl (by decide) ?_
    refine r_icmp_ne (tgt := 45) (q := 33) C d_Tr_changeBack_30 (by decide) rfl ?_ ?_
    · refine r_sub (lv' := [(0, vA (some a))]) [2] rfl ?_
      exact s_Tr_changeBack_45 C a
    · refine r_aload (q := 35) (i := 5) (pl := 0) C d_Tr_changeBack_33 rfl rfl ?_
      refine r_gI (q := 38) C d_Tr_changeBack_35 rfl F_Tr_249 rfl (fun v11 => ?_)
      refine r_lload_n (q := 39) (i := 2) (pl := 4) C d_Tr_changeBack_38 rfl rfl rfl ?_
      refine r_csI (q := 42) (As := [vJ l2]) (st := [vI v11]) C d_Tr_changeBack_39 rfl Y_Ms_second L_Tr_297 St_Ms_second rfl (Nat.le_of_ble_eq_true rfl) (Nat.le_of_ble_eq_true rfl) (Nat.le_of_ble_eq_true rfl) rfl (con_Ms_second l2) (fun v12 => ?_)
      refine r_icmp_eq (tgt := 46) (q := 45) C d_Tr_changeBack_42 (by decide) rfl ?_ ?_
      · refine r_aload (q := 48) (i := 5) (pl := 0) C d_Tr_changeBack_46 rfl rfl ?_
        refine r_aload_n (q := 49) (i := 0) (pl := 2) C d_Tr_changeBack_48 rfl rfl rfl ?_
        refine r_iload_n (q := 50) (i := 1) (pl := 3) C d_Tr_changeBack_49 rfl rfl rfl ?_
        refine r_aload (q := 52) (i := 5) (pl := 0) C d_Tr_changeBack_50 rfl rfl ?_
        refine r_gI (q := 55) C d_Tr_changeBack_52 rfl F_Tr_76 rfl (fun v13 => ?_)
        refine r_iload (q := 57) (i := 4) (pl := 1) C d_Tr_changeBack_55 rfl rfl ?_
        refine r_cvR (q := 60) (As := [vI x1, vI v13, vI v6]) (st := [vA v9]) (cy := 7) C d_Tr_changeBack_57 rfl Y_Tr_best L_Tr_108 I_Tr_best Se_Tr_best rfl (by decide) rfl (Nat.le_of_ble_eq_true rfl) (Nat.le_of_ble_eq_true rfl) (Nat.le_of_ble_eq_true rfl) rfl (fun a14 => con_Tr_best a14 x1 v13 v6) (fun v15 => ?_)
        refine r_cvV (q := 63) (As := [vA v15]) (st := []) (cy := 2) C d_Tr_changeBack_60 rfl Y_Fl_free L_Tr_322 I_Fl_free Se_Fl_free rfl (by decide) rfl (Nat.le_of_ble_eq_true rfl) (Nat.le_of_ble_eq_true rfl) (Nat.le_of_ble_eq_true rfl) rfl (fun a16 => con_Fl_free a16 v15) ?_
        refine r_aload (q := 65) (i := 5) (pl := 0) C d_Tr_changeBack_63 rfl rfl ?_
        refine r_gR (q := 68) C d_Tr_changeBack_65 rfl F_Tr_329 rfl (fun v18 => ?_)
        refine r_gI (q := 71) C d_Tr_changeBack_68 rfl F_Tr_307 rfl (fun v19 => ?_)
        refine r_istore (q := 73) (i := 6) (lv' := [(6, vI v19), (5, vA v9), (4, vI v6), (0, vA (some a)), (1, vI x1), (2, vJ l2)]) C d_Tr_changeBack_71 rfl (by decide) rfl ?_
        refine r_sub (lv' := [(0, vA (some a)), (5, vA v9), (6, vI v19)]) [3, 1, 0] rfl ?_
        exact s_Tr_changeBack_73 C a sn_fuel v9 v19
      · refine r_sub (lv' := [(0, vA (some a))]) [2] rfl ?_
        exact s_Tr_changeBack_45 C a
theorem d_Tr_giveAgain_0 : decode c_Tr_giveAgain 0 = .ok (.aload_n 2, 1) := by decide +kernel
theorem d_Tr_giveAgain_1 : decode c_Tr_giveAgain 1 = .ok (.getfield 307, 3) := by decide +kernel
theorem d_Tr_giveAgain_4 : decode c_Tr_giveAgain 4 = .ok (.istore_n 3, 1) := by decide +kernel
theorem d_Tr_giveAgain_5 : decode c_Tr_giveAgain 5 = .ok (.iload_n 3, 1) := by decide +kernel
theorem d_Tr_giveAgain_6 : decode c_Tr_giveAgain 6 = .ok (.ifCond .le 106, 3) := by decide +kernel
theorem d_Tr_giveAgain_9 : decode c_Tr_giveAgain 9 = .ok (.aload_n 2, 1) := by decide +kernel
theorem d_Tr_giveAgain_10 : decode c_Tr_giveAgain 10 = .ok (.invokevirtual 332, 3) := by decide +kernel
theorem d_Tr_giveAgain_13 : decode c_Tr_giveAgain 13 = .ok (.lstore 4, 2) := by decide +kernel
theorem d_Tr_giveAgain_15 : decode c_Tr_giveAgain 15 = .ok (.lload 4, 2) := by decide +kernel
theorem d_Tr_giveAgain_17 : decode c_Tr_giveAgain 17 = .ok (.invokestatic 170, 3) := by decide +kernel
theorem d_Tr_giveAgain_20 : decode c_Tr_giveAgain 20 = .ok (.istore 6, 2) := by decide +kernel
theorem d_Tr_giveAgain_22 : decode c_Tr_giveAgain 22 = .ok (.iload 6, 2) := by decide +kernel
theorem d_Tr_giveAgain_24 : decode c_Tr_giveAgain 24 = .ok (.iconst 3, 1) := by decide +kernel
theorem d_Tr_giveAgain_25 : decode c_Tr_giveAgain 25 = .ok (.if_icmp .eq 81, 3) := by decide +kernel
theorem d_Tr_giveAgain_28 : decode c_Tr_giveAgain 28 = .ok (.iload 6, 2) := by decide +kernel
theorem d_Tr_giveAgain_30 : decode c_Tr_giveAgain 30 = .ok (.iconst 4, 1) := by decide +kernel
theorem d_Tr_giveAgain_31 : decode c_Tr_giveAgain 31 = .ok (.if_icmp .ne 6, 3) := by decide +kernel
theorem d_Tr_giveAgain_34 : decode c_Tr_giveAgain 34 = .ok (.goto 72, 3) := by decide +kernel
theorem d_Tr_giveAgain_37 : decode c_Tr_giveAgain 37 = .ok (.lload 4, 2) := by decide +kernel
theorem d_Tr_giveAgain_39 : decode c_Tr_giveAgain 39 = .ok (.invokestatic 198, 3) := by decide +kernel
theorem d_Tr_giveAgain_42 : decode c_Tr_giveAgain 42 = .ok (.istore 7, 2) := by decide +kernel
theorem d_Tr_giveAgain_44 : decode c_Tr_giveAgain 44 = .ok (.aload_n 0, 1) := by decide +kernel
theorem d_Tr_giveAgain_45 : decode c_Tr_giveAgain 45 = .ok (.aload_n 1, 1) := by decide +kernel
theorem d_Tr_giveAgain_46 : decode c_Tr_giveAgain 46 = .ok (.getfield 104, 3) := by decide +kernel
theorem d_Tr_giveAgain_49 : decode c_Tr_giveAgain 49 = .ok (.aload_n 1, 1) := by decide +kernel
theorem d_Tr_giveAgain_50 : decode c_Tr_giveAgain 50 = .ok (.getfield 107, 3) := by decide +kernel
theorem d_Tr_giveAgain_53 : decode c_Tr_giveAgain 53 = .ok (.iload 7, 2) := by decide +kernel
theorem d_Tr_giveAgain_55 : decode c_Tr_giveAgain 55 = .ok (.invokevirtual 210, 3) := by decide +kernel
theorem d_Tr_giveAgain_58 : decode c_Tr_giveAgain 58 = .ok (.astore 8, 2) := by decide +kernel
theorem d_Tr_giveAgain_60 : decode c_Tr_giveAgain 60 = .ok (.iload 6, 2) := by decide +kernel
theorem d_Tr_giveAgain_62 : decode c_Tr_giveAgain 62 = .ok (.bipush 7, 2) := by decide +kernel
theorem d_Tr_giveAgain_64 : decode c_Tr_giveAgain 64 = .ok (.if_icmp .lt 34, 3) := by decide +kernel
theorem d_Tr_giveAgain_67 : decode c_Tr_giveAgain 67 = .ok (.aload 8, 2) := by decide +kernel
theorem d_Tr_giveAgain_69 : decode c_Tr_giveAgain 69 = .ok (.ifnull 29, 3) := by decide +kernel
theorem d_Tr_giveAgain_72 : decode c_Tr_giveAgain 72 = .ok (.aload 8, 2) := by decide +kernel
theorem d_Tr_giveAgain_74 : decode c_Tr_giveAgain 74 = .ok (.invokevirtual 214, 3) := by decide +kernel
theorem d_Tr_giveAgain_77 : decode c_Tr_giveAgain 77 = .ok (.ifCond .ne 21, 3) := by decide +kernel
theorem d_Tr_giveAgain_80 : decode c_Tr_giveAgain 80 = .ok (.aload_n 0, 1) := by decide +kernel
theorem d_Tr_giveAgain_81 : decode c_Tr_giveAgain 81 = .ok (.aload_n 1, 1) := by decide +kernel
theorem d_Tr_giveAgain_82 : decode c_Tr_giveAgain 82 = .ok (.getfield 104, 3) := by decide +kernel
theorem d_Tr_giveAgain_85 : decode c_Tr_giveAgain 85 = .ok (.lload 4, 2) := by decide +kernel
theorem d_Tr_giveAgain_87 : decode c_Tr_giveAgain 87 = .ok (.invokestatic 159, 3) := by decide +kernel
theorem d_Tr_giveAgain_90 : decode c_Tr_giveAgain 90 = .ok (.iload 7, 2) := by decide +kernel
theorem d_Tr_giveAgain_92 : decode c_Tr_giveAgain 92 = .ok (.iconst (-1), 1) := by decide +kernel
theorem d_Tr_giveAgain_93 : decode c_Tr_giveAgain 93 = .ok (.invokevirtual 72, 3) := by decide +kernel
theorem d_Tr_giveAgain_96 : decode c_Tr_giveAgain 96 = .ok (.astore 8, 2) := by decide +kernel
theorem d_Tr_giveAgain_98 : decode c_Tr_giveAgain 98 = .ok (.aload_n 0, 1) := by decide +kernel
theorem d_Tr_giveAgain_99 : decode c_Tr_giveAgain 99 = .ok (.aload 8, 2) := by decide +kernel
theorem d_Tr_giveAgain_101 : decode c_Tr_giveAgain 101 = .ok (.lload 4, 2) := by decide +kernel
theorem d_Tr_giveAgain_103 : decode c_Tr_giveAgain 103 = .ok (.invokevirtual 201, 3) := by decide +kernel
theorem d_Tr_giveAgain_106 : decode c_Tr_giveAgain 106 = .ok (.iinc 3 (-1), 3) := by decide +kernel
theorem d_Tr_giveAgain_109 : decode c_Tr_giveAgain 109 = .ok (.goto (-104), 3) := by decide +kernel
theorem d_Tr_giveAgain_112 : decode c_Tr_giveAgain 112 = .ok (.return_, 1) := by decide +kernel
def f_Tr_giveAgain_106 (k5 : Option Nat → Option Nat → Int32 → sn_M) (a : Nat) (r1 : Option Nat) (r2 : Option Nat) (x3 : Int32) : sn_M := k5 r1 r2 (x3 + (-1 : Int32))
set_option maxHeartbeats 4000000 in
set_option maxRecDepth 100000 in
theorem mono_Tr_giveAgain_106 (k5 : Option Nat → Option Nat → Int32 → sn_M) (mk5 : ∀ (r1 : Option Nat) (r2 : Option Nat) (x3 : Int32), sn_Mono (k5 r1 r2 x3)) (a : Nat) (r1 : Option Nat) (r2 : Option Nat) (x3 : Int32) : sn_Mono (f_Tr_giveAgain_106 k5 a r1 r2 x3) := mk5 r1 r2 (x3 + (-1 : Int32))
set_option maxHeartbeats 4000000 in
set_option maxRecDepth 100000 in
theorem s_Tr_giveAgain_106 {X : sn_X} (C : sn_Cx X c_Tr_giveAgain "SignalNetwork$Transfer" none "giveAgain" 9 2 52) (a : Nat) (k5 : Option Nat → Option Nat → Int32 → sn_M) (hk5 : ∀ (r1 : Option Nat) (r2 : Option Nat) (x3 : Int32), sn_S X 5 [(0, vA (some a)), (1, vA r1), (2, vA r2), (3, vI x3)] [] (k5 r1 r2 x3)) (r1 : Option Nat) (r2 : Option Nat) (x3 : Int32) : sn_S X 106 [(0, vA (some a)), (1, vA r1), (2, vA r2), (3, vI x3)] [] (f_Tr_giveAgain_106 k5 a r1 r2 x3) := by
  unfold f_Tr_giveAgain_106
  refine r_iinc (q := 109) (pl := 3) (v := x3 + (-1 : Int32)) (lv' := [(3, vI (x3 + (-1 : Int32))), (0, vA (some a)), (1, vA r1), (2, vA r2)]) C d_Tr_giveAgain_106 rfl rfl rfl (by decide) rfl ?_
  refine r_goto (tgt := 5) C d_Tr_giveAgain_109 (by decide) ?_
  refine r_sub (lv' := [(0, vA (some a)), (1, vA r1), (2, vA r2), (3, vI (x3 + (-1 : Int32)))]) [1, 2, 3, 0] rfl ?_
  exact hk5 r1 r2 (x3 + (-1 : Int32))
def f_Tr_giveAgain_98 (k5 : Option Nat → Option Nat → Int32 → sn_M) (a : Nat) (r1 : Option Nat) (r2 : Option Nat) (x3 : Int32) (l4 : Int64) (r8 : Option Nat) : sn_M := n_n 8 (some a) fun a1 => c_V (f_Tr_give a1 r8 l4) (f_Tr_giveAgain_106 k5 a r1 r2 x3)
set_option maxHeartbeats 4000000 in
set_option maxRecDepth 100000 in
theorem mono_Tr_giveAgain_98 (k5 : Option Nat → Option Nat → Int32 → sn_M) (mk5 : ∀ (r1 : Option Nat) (r2 : Option Nat) (x3 : Int32), sn_Mono (k5 r1 r2 x3)) (a : Nat) (r1 : Option Nat) (r2 : Option Nat) (x3 : Int32) (l4 : Int64) (r8 : Option Nat) : sn_Mono (f_Tr_giveAgain_98 k5 a r1 r2 x3 l4 r8) := sn_Mono.nn (fun a1 => sn_Mono.cV (mono_Tr_give a1 r8 l4) (mono_Tr_giveAgain_106 k5 mk5 a r1 r2 x3))
set_option maxHeartbeats 4000000 in
set_option maxRecDepth 100000 in
theorem s_Tr_giveAgain_98 {X : sn_X} (C : sn_Cx X c_Tr_giveAgain "SignalNetwork$Transfer" none "giveAgain" 9 2 52) (a : Nat) (k5 : Option Nat → Option Nat → Int32 → sn_M) (hk5 : ∀ (r1 : Option Nat) (r2 : Option Nat) (x3 : Int32), sn_S X 5 [(0, vA (some a)), (1, vA r1), (2, vA r2), (3, vI x3)] [] (k5 r1 r2 x3)) (r1 : Option Nat) (r2 : Option Nat) (x3 : Int32) (l4 : Int64) (r8 : Option Nat) : sn_S X 98 [(0, vA (some a)), (1, vA r1), (2, vA r2), (3, vI x3), (4, vJ l4), (8, vA r8)] [] (f_Tr_giveAgain_98 k5 a r1 r2 x3 l4 r8) := by
  unfold f_Tr_giveAgain_98
  refine r_aload_n (q := 99) (i := 0) (pl := 0) C d_Tr_giveAgain_98 rfl rfl rfl ?_
  refine r_aload (q := 101) (i := 8) (pl := 5) C d_Tr_giveAgain_99 rfl rfl ?_
  refine r_lload (q := 103) (i := 4) (pl := 4) C d_Tr_giveAgain_101 rfl rfl ?_
  refine r_cvV (q := 106) (As := [vA r8, vJ l4]) (st := []) (cy := 7) C d_Tr_giveAgain_103 rfl Y_Tr_give L_Tr_201 I_Tr_give Se_Tr_give rfl (by decide) rfl (Nat.le_of_ble_eq_true rfl) (Nat.le_of_ble_eq_true rfl) (Nat.le_of_ble_eq_true rfl) rfl (fun a1 => con_Tr_give a1 r8 l4) ?_
  refine r_sub (lv' := [(0, vA (some a)), (1, vA r1), (2, vA r2), (3, vI x3)]) [0, 1, 2, 3] rfl ?_
  exact s_Tr_giveAgain_106 C a k5 hk5 r1 r2 x3
def f_Tr_giveAgain_5 (a : Nat) : Nat → Option Nat → Option Nat → Int32 → sn_M
  | 0, _, _, _ => r_0
  | n + 1, r1, r2, x3 => (if x3 ≤ 0 then r_V else n_n 6 r2 fun a3 => c_J (f_Qu_takeFirst a3) fun v4 => c_I (f_Ms_kind v4) fun v5 => (if v5 = (3 : Int32) then f_Tr_giveAgain_106 (f_Tr_giveAgain_5 a n) a r1 r2 x3 else (if ¬ v5 = (4 : Int32) then c_I (f_Ms_lane v4) fun v6 => g_I 2 2 r1 fun v7 => g_I 2 3 r1 fun v8 => n_n 8 (some a) fun a9 => c_R (f_Tr_flowTo a9 v7 v8 v6) fun v10 => (if v5 < (7 : Int32) then f_Tr_giveAgain_98 (f_Tr_giveAgain_5 a n) a r1 r2 x3 v4 v10 else (if v10 = none then f_Tr_giveAgain_98 (f_Tr_giveAgain_5 a n) a r1 r2 x3 v4 v10 else n_n 3 v10 fun a11 => c_I (f_Fl_isOpen a11) fun v12 => (if ¬ v12 = 0 then f_Tr_giveAgain_98 (f_Tr_giveAgain_5 a n) a r1 r2 x3 v4 v10 else g_I 2 2 r1 fun v13 => c_I (f_Ms_to v4) fun v14 => n_n 8 (some a) fun a15 => c_R (f_Tr_wayTo a15 v13 v14 v6 (-1 : Int32)) fun v16 => f_Tr_giveAgain_98 (f_Tr_giveAgain_5 a n) a r1 r2 x3 v4 v16))) else f_Tr_giveAgain_106 (f_Tr_giveAgain_5 a n) a r1 r2 x3)))
set_option maxHeartbeats 4000000 in
set_option maxRecDepth 100000 in
theorem mono_Tr_giveAgain_5 (a : Nat) : ∀ (n : Nat) (r1 : Option Nat) (r2 : Option Nat) (x3 : Int32), sn_Mono (f_Tr_giveAgain_5 a n r1 r2 x3)
  | 0, _, _, _ => sn_Mono.r0
  | n + 1, r1, r2, x3 => sn_Mono.ite (sn_Mono.rV) (sn_Mono.nn (fun a3 => sn_Mono.cJ (mono_Qu_takeFirst a3) (fun v4 => sn_Mono.cI (mono_Ms_kind v4) (fun v5 => sn_Mono.ite (mono_Tr_giveAgain_106 (f_Tr_giveAgain_5 a n) (mono_Tr_giveAgain_5 a n) a r1 r2 x3) (sn_Mono.ite (sn_Mono.cI (mono_Ms_lane v4) (fun v6 => sn_Mono.gI (fun v7 => sn_Mono.gI (fun v8 => sn_Mono.nn (fun a9 => sn_Mono.cR (mono_Tr_flowTo a9 v7 v8 v6) (fun v10 => sn_Mono.ite (mono_Tr_giveAgain_98 (f_Tr_giveAgain_5 a n) (mono_Tr_giveAgain_5 a n) a r1 r2 x3 v4 v10) (sn_Mono.ite (mono_Tr_giveAgain_98 (f_Tr_giveAgain_5 a n) (mono_Tr_giveAgain_5 a n) a r1 r2 x3 v4 v10) (sn_Mono.nn (fun a11 => sn_Mono.cI (mono_Fl_isOpen a11) (fun v12 => sn_Mono.ite (mono_Tr_giveAgain_98 (f_Tr_giveAgain_5 a n) (mono_Tr_giveAgain_5 a n) a r1 r2 x3 v4 v10) (sn_Mono.gI (fun v13 => sn_Mono.cI (mono_Ms_to v4) (fun v14 => sn_Mono.nn (fun a15 => sn_Mono.cR (mono_Tr_wayTo a15 v13 v14 v6 (-1 : Int32)) (fun v16 => mono_Tr_giveAgain_98 (f_Tr_giveAgain_5 a n) (mono_Tr_giveAgain_5 a n) a r1 r2 x3 v4 v16))))))))))))))) (mono_Tr_giveAgain_106 (f_Tr_giveAgain_5 a n) (mono_Tr_giveAgain_5 a n) a r1 r2 x3))))))
set_option maxHeartbeats 4000000 in
set_option maxRecDepth 100000 in
theorem s_Tr_giveAgain_5 {X : sn_X} (C : sn_Cx X c_Tr_giveAgain "SignalNetwork$Transfer" none "giveAgain" 9 2 52) (a : Nat) (n : Nat) : ∀ (r1 : Option Nat) (r2 : Option Nat) (x3 : Int32), sn_S X 5 [(0, vA (some a)), (1, vA r1), (2, vA r2), (3, vI x3)] [] (f_Tr_giveAgain_5 a n r1 r2 x3) := by
  induction n with
  | zero => intro r1 r2 x3; exact sn_S.zero
  | succ n ih =>
    intro r1 r2 x3
    unfold f_Tr_giveAgain_5
    refine r_iload_n (q := 6) (i := 3) (pl := 3) C d_Tr_giveAgain_5 rfl rfl rfl ?_
    refine r_if_le (tgt := 112) (q := 9) C d_Tr_giveAgain_6 (by decide) rfl ?_ ?_
    · exact r_vret C d_Tr_giveAgain_112 rfl
    · refine r_aload_n (q := 10) (i := 2) (pl := 2) C d_Tr_giveAgain_9 rfl rfl rfl ?_
      refine r_cvJ (q := 13) (As := []) (st := []) (cy := 5) C d_Tr_giveAgain_10 rfl Y_Qu_takeFirst L_Tr_332 I_Qu_takeFirst Se_Qu_takeFirst rfl (by decide) rfl (Nat.le_of_ble_eq_true rfl) (Nat.le_of_ble_eq_true rfl) (Nat.le_of_ble_eq_true rfl) rfl (fun a3 => con_Qu_takeFirst a3) (fun v4 => ?_)
      refine r_lstore (q := 15) (i := 4) (lv' := [(4, vJ v4), (0, vA (some a)), (1, vA r1), (2, vA r2), (3, vI x3)]) C d_Tr_giveAgain_13 rfl (by decide) rfl ?_
      refine r_lload (q := 17) (i := 4) (pl := 0) C d_Tr_giveAgain_15 rfl rfl ?_
      refine r_csI (q := 20) (As := [vJ v4]) (st := []) C d_Tr_giveAgain_17 rfl Y_Ms_kind L_Tr_170 St_Ms_kind rfl (Nat.le_of_ble_eq_true rfl) (Nat.le_of_ble_eq_true rfl) (Nat.le_of_ble_eq_true rfl) rfl (con_Ms_kind v4) (fun v5 => ?_)
      refine r_istore (q := 22) (i := 6) (lv' := [(6, vI v5), (4, vJ v4), (0, vA (some a)), (1, vA r1), (2, vA r2), (3, vI x3)]) C d_Tr_giveAgain_20 rfl (by decide) rfl ?_
      refine r_iload (q := 24) (i := 6) (pl := 0) C d_Tr_giveAgain_22 rfl rfl ?_
      refine r_iconst (q := 25) (v := 3) C d_Tr_giveAgain_24 rfl (by decide) ?_
      refine r_icmp_eq (tgt := 106) (q := 28) C d_Tr_giveAgain_25 (by decide) rfl ?_ ?_
      · refine r_sub (lv' := [(0, vA (some a)), (1, vA r1), (2, vA r2), (3, vI x3)]) [2, 3, 4, 5] rfl ?_
        exact s_Tr_giveAgain_106 C a (f_Tr_giveAgain_5 a n) ih r1 r2 x3
      · refine r_iload (q := 30) (i := 6) (pl := 0) C d_Tr_giveAgain_28 rfl rfl ?_
        refine r_iconst (q := 31) (v := 4) C d_Tr_giveAgain_30 rfl (by decide) ?_
        refine r_icmp_ne (tgt := 37) (q := 34) C d_Tr_giveAgain_31 (by decide) rfl ?_ ?_
        · refine r_lload (q := 39) (i := 4) (pl := 1) C d_Tr_giveAgain_37 rfl rfl ?_
          refine r_csI (q := 42) (As := [vJ v4]) (st := []) C d_Tr_giveAgain_39 rfl Y_Ms_lane L_Tr_198 St_Ms_lane rfl (Nat.le_of_ble_eq_true rfl) (Nat.le_of_ble_eq_true rfl) (Nat.le_of_ble_eq_true rfl) rfl (con_Ms_lane v4) (fun v6 => ?_)
          refine r_istore (q := 44) (i := 7) (lv' := [(7, vI v6), (6, vI v5), (4, vJ v4), (0, vA (some a)), (1, vA r1), (2, vA r2), (3, vI x3)]) C d_Tr_giveAgain_42 rfl (by decide) rfl ?_
          refine r_aload_n (q := 45) (i := 0) (pl := 3) C d_Tr_giveAgain_44 rfl rfl rfl ?_
          refine r_aload_n (q := 46) (i := 1) (pl := 4) C d_Tr_giveAgain_45 rfl rfl rfl ?_
          refine r_gI (q := 49) C d_Tr_giveAgain_46 rfl F_Tr_104 rfl (fun v7 => ?_)
          refine r_aload_n (q := 50) (i := 1) (pl := 4) C d_Tr_giveAgain_49 rfl rfl rfl ?_
          refine r_gI (q := 53) C d_Tr_giveAgain_50 rfl F_Tr_107 rfl (fun v8 => ?_)
          refine r_iload (q := 55) (i := 7) (pl := 0) C d_Tr_giveAgain_53 rfl rfl ?_
          refine r_cvR (q := 58) (As := [vI v7, vI v8, vI v6]) (st := []) (cy := 7) C d_Tr_giveAgain_55 rfl Y_Tr_flowTo L_Tr_210 I_Tr_flowTo Se_Tr_flowTo rfl (by decide) rfl (Nat.le_of_ble_eq_true rfl) (Nat.le_of_ble_eq_true rfl) (Nat.le_of_ble_eq_true rfl) rfl (fun a9 => con_Tr_flowTo a9 v7 v8 v6) (fun v10 => ?_)
          refine r_astore (q := 60) (i := 8) (lv' := [(8, vA v10), (7, vI v6), (6, vI v5), (4, vJ v4), (0, vA (some a)), (1, vA r1), (2, vA r2), (3, vI x3)]) C d_Tr_giveAgain_58 rfl (by decide) rfl ?_
          refine r_iload (q := 62) (i := 6) (pl := 2) C d_Tr_giveAgain_60 rfl rfl ?_
          refine r_bipush (q := 64) (v := 7) C d_Tr_giveAgain_62 rfl (by decide) ?_
          refine r_icmp_lt (tgt := 98) (q := 67) C d_Tr_giveAgain_64 (by decide) rfl ?_ ?_
          · refine r_sub (lv' := [(0, vA (some a)), (1, vA r1), (2, vA r2), (3, vI x3), (4, vJ v4), (8, vA v10)]) [4, 5, 6, 7, 3, 0] rfl ?_
            exact s_Tr_giveAgain_98 C a (f_Tr_giveAgain_5 a n) ih r1 r2 x3 v4 v10
          · refine r_aload (q := 69) (i := 8) (pl := 0) C d_Tr_giveAgain_67 rfl rfl ?_
            refine r_ifnull (tgt := 98) (q := 72) C d_Tr_giveAgain_69 (by decide) rfl ?_ ?_
            · refine r_sub (lv' := [(0, vA (some a)), (1, vA r1), (2, vA r2), (3, vI x3), (4, vJ v4), (8, vA v10)]) [4, 5, 6, 7, 3, 0] rfl ?_
              exact s_Tr_giveAgain_98 C a (f_Tr_giveAgain_5 a n) ih r1 r2 x3 v4 v10
            · refine r_aload (q := 74) (i := 8) (pl := 0) C d_Tr_giveAgain_72 rfl rfl ?_
              refine r_cvI (q := 77) (As := []) (st := []) (cy := 2) C d_Tr_giveAgain_74 rfl Y_Fl_isOpen L_Tr_214 I_Fl_isOpen Se_Fl_isOpen rfl (by decide) rfl (Nat.le_of_ble_eq_true rfl) (Nat.le_of_ble_eq_true rfl) (Nat.le_of_ble_eq_true rfl) rfl (fun a11 => con_Fl_isOpen a11) (fun v12 => ?_)
              refine r_if_ne (tgt := 98) (q := 80) C d_Tr_giveAgain_77 (by decide) rfl ?_ ?_
              · refine r_sub (lv' := [(0, vA (some a)), (1, vA r1), (2, vA r2), (3, vI x3), (4, vJ v4), (8, vA v10)]) [4, 5, 6, 7, 3, 0] rfl ?_
                exact s_Tr_giveAgain_98 C a (f_Tr_giveAgain_5 a n) ih r1 r2 x3 v4 v10
              · refine r_aload_n (q := 81) (i := 0) (pl := 4) C d_Tr_giveAgain_80 rfl rfl rfl ?_
                refine r_aload_n (q := 82) (i := 1) (pl := 5) C d_Tr_giveAgain_81 rfl rfl rfl ?_
                refine r_gI (q := 85) C d_Tr_giveAgain_82 rfl F_Tr_104 rfl (fun v13 => ?_)
                refine r_lload (q := 87) (i := 4) (pl := 3) C d_Tr_giveAgain_85 rfl rfl ?_
                refine r_csI (q := 90) (As := [vJ v4]) (st := [vI v13, vA (some a)]) C d_Tr_giveAgain_87 rfl Y_Ms_to L_Tr_159 St_Ms_to rfl (Nat.le_of_ble_eq_true rfl) (Nat.le_of_ble_eq_true rfl) (Nat.le_of_ble_eq_true rfl) rfl (con_Ms_to v4) (fun v14 => ?_)
                refine r_iload (q := 92) (i := 7) (pl := 1) C d_Tr_giveAgain_90 rfl rfl ?_
                refine r_iconst (q := 93) (v := -1) C d_Tr_giveAgain_92 rfl (by decide) ?_
                refine r_cvR (q := 96) (As := [vI v13, vI v14, vI v6, vI (-1 : Int32)]) (st := []) (cy := 7) C d_Tr_giveAgain_93 rfl Y_Tr_wayTo L_Tr_72 I_Tr_wayTo Se_Tr_wayTo rfl (by decide) rfl (Nat.le_of_ble_eq_true rfl) (Nat.le_of_ble_eq_true rfl) (Nat.le_of_ble_eq_true rfl) rfl (fun a15 => con_Tr_wayTo a15 v13 v14 v6 (-1 : Int32)) (fun v16 => ?_)
                refine r_astore (q := 98) (i := 8) (lv' := [(8, vA v16), (7, vI v6), (6, vI v5), (4, vJ v4), (0, vA (some a)), (1, vA r1), (2, vA r2), (3, vI x3)]) C d_Tr_giveAgain_96 rfl (by decide) rfl ?_
                refine r_sub (lv' := [(0, vA (some a)), (1, vA r1), (2, vA r2), (3, vI x3), (4, vJ v4), (8, vA v16)]) [4, 5, 6, 7, 3, 0] rfl ?_
                exact s_Tr_giveAgain_98 C a (f_Tr_giveAgain_5 a n) ih r1 r2 x3 v4 v16
        · refine r_goto (tgt := 106) C d_Tr_giveAgain_34 (by decide) ?_
          refine r_sub (lv' := [(0, vA (some a)), (1, vA r1), (2, vA r2), (3, vI x3)]) [2, 3, 4, 5] rfl ?_
          exact s_Tr_giveAgain_106 C a (f_Tr_giveAgain_5 a n) ih r1 r2 x3
def f_Tr_giveAgain (a : Nat) (r1 : Option Nat) (r2 : Option Nat) : sn_M := g_I 6 2 r2 fun v17 => f_Tr_giveAgain_5 a sn_fuel r1 r2 v17
set_option maxHeartbeats 4000000 in
set_option maxRecDepth 100000 in
theorem mono_Tr_giveAgain (a : Nat) (r1 : Option Nat) (r2 : Option Nat) : sn_Mono (f_Tr_giveAgain a r1 r2) := sn_Mono.gI (fun v17 => mono_Tr_giveAgain_5 a sn_fuel r1 r2 v17)
set_option maxHeartbeats 4000000 in
set_option maxRecDepth 100000 in
theorem con_Tr_giveAgain (a : Nat) (r1 : Option Nat) (r2 : Option Nat) : sn_Con y_Tr_giveAgain c_Tr_giveAgain 9 none 2 52 [vA (some a), vA r1, vA r2] (f_Tr_giveAgain a r1 r2) := by
  refine sn_Con.of (by decide +kernel) (by show _ ≤ _; exact Nat.le_of_ble_eq_true rfl) (mono_Tr_giveAgain a r1 r2) (fun X C => ?_)
  show sn_S X 0 [(0, vA (some a)), (1, vA r1), (2, vA r2)] [] _
  replace C : sn_Cx X c_Tr_giveAgain "SignalNetwork$Transfer" none "giveAgain" 9 2 52 := C
  unfold f_Tr_giveAgain
  refine r_aload_n (q := 1) (i := 2) (pl := 2) C d_Tr_giveAgain_0 rfl rfl rfl ?_
  refine r_gI (q := 4) C d_Tr_giveAgain_1 rfl F_Tr_307 rfl (fun v17 => ?_)
  refine r_istore_n (q := 5) (i := 3) (lv' := [(3, vI v17), (0, vA (some a)), (1, vA r1), (2, vA r2)]) C d_Tr_giveAgain_4 rfl rfl (by decide) rfl ?_
  refine r_sub (lv' := [(0, vA (some a)), (1, vA r1), (2, vA r2), (3, vI v17)]) [1, 2, 3, 0] rfl ?_
  exact s_Tr_giveAgain_5 C a sn_fuel r1 r2 v17
theorem d_Tr_endChangeover_0 : decode c_Tr_endChangeover 0 = .ok (.aload_n 1, 1) := by decide +kernel
theorem d_Tr_endChangeover_1 : decode c_Tr_endChangeover 1 = .ok (.getfield 281, 3) := by decide +kernel
theorem d_Tr_endChangeover_4 : decode c_Tr_endChangeover 4 = .ok (.ifCond .ne 4, 3) := by decide +kernel
theorem d_Tr_endChangeover_7 : decode c_Tr_endChangeover 7 = .ok (.return_, 1) := by decide +kernel
theorem d_Tr_endChangeover_8 : decode c_Tr_endChangeover 8 = .ok (.aload_n 1, 1) := by decide +kernel
theorem d_Tr_endChangeover_9 : decode c_Tr_endChangeover 9 = .ok (.iconst 0, 1) := by decide +kernel
theorem d_Tr_endChangeover_10 : decode c_Tr_endChangeover 10 = .ok (.putfield 281, 3) := by decide +kernel
theorem d_Tr_endChangeover_13 : decode c_Tr_endChangeover 13 = .ok (.aload_n 1, 1) := by decide +kernel
theorem d_Tr_endChangeover_14 : decode c_Tr_endChangeover 14 = .ok (.getfield 145, 3) := by decide +kernel
theorem d_Tr_endChangeover_17 : decode c_Tr_endChangeover 17 = .ok (.getfield 304, 3) := by decide +kernel
theorem d_Tr_endChangeover_20 : decode c_Tr_endChangeover 20 = .ok (.astore_n 3, 1) := by decide +kernel
theorem d_Tr_endChangeover_21 : decode c_Tr_endChangeover 21 = .ok (.iload_n 2, 1) := by decide +kernel
theorem d_Tr_endChangeover_22 : decode c_Tr_endChangeover 22 = .ok (.iconst (-1), 1) := by decide +kernel
theorem d_Tr_endChangeover_23 : decode c_Tr_endChangeover 23 = .ok (.if_icmp .ne 27, 3) := by decide +kernel
theorem d_Tr_endChangeover_26 : decode c_Tr_endChangeover 26 = .ok (.aload_n 0, 1) := by decide +kernel
theorem d_Tr_endChangeover_27 : decode c_Tr_endChangeover 27 = .ok (.dup, 1) := by decide +kernel
theorem d_Tr_endChangeover_28 : decode c_Tr_endChangeover 28 = .ok (.getfield 195, 3) := by decide +kernel
theorem d_Tr_endChangeover_31 : decode c_Tr_endChangeover 31 = .ok (.aload_n 3, 1) := by decide +kernel
theorem d_Tr_endChangeover_32 : decode c_Tr_endChangeover 32 = .ok (.getfield 307, 3) := by decide +kernel
theorem d_Tr_endChangeover_35 : decode c_Tr_endChangeover 35 = .ok (.iadd, 1) := by decide +kernel
theorem d_Tr_endChangeover_36 : decode c_Tr_endChangeover 36 = .ok (.putfield 195, 3) := by decide +kernel
theorem d_Tr_endChangeover_39 : decode c_Tr_endChangeover 39 = .ok (.aload_n 3, 1) := by decide +kernel
theorem d_Tr_endChangeover_40 : decode c_Tr_endChangeover 40 = .ok (.aload_n 3, 1) := by decide +kernel
theorem d_Tr_endChangeover_41 : decode c_Tr_endChangeover 41 = .ok (.getfield 307, 3) := by decide +kernel
theorem d_Tr_endChangeover_44 : decode c_Tr_endChangeover 44 = .ok (.invokevirtual 310, 3) := by decide +kernel
theorem d_Tr_endChangeover_47 : decode c_Tr_endChangeover 47 = .ok (.goto 11, 3) := by decide +kernel
theorem d_Tr_endChangeover_50 : decode c_Tr_endChangeover 50 = .ok (.aload_n 1, 1) := by decide +kernel
theorem d_Tr_endChangeover_51 : decode c_Tr_endChangeover 51 = .ok (.getfield 145, 3) := by decide +kernel
theorem d_Tr_endChangeover_54 : decode c_Tr_endChangeover 54 = .ok (.iload_n 2, 1) := by decide +kernel
theorem d_Tr_endChangeover_55 : decode c_Tr_endChangeover 55 = .ok (.invokevirtual 313, 3) := by decide +kernel
theorem d_Tr_endChangeover_58 : decode c_Tr_endChangeover 58 = .ok (.aload_n 1, 1) := by decide +kernel
theorem d_Tr_endChangeover_59 : decode c_Tr_endChangeover 59 = .ok (.getfield 145, 3) := by decide +kernel
theorem d_Tr_endChangeover_62 : decode c_Tr_endChangeover 62 = .ok (.invokevirtual 316, 3) := by decide +kernel
theorem d_Tr_endChangeover_65 : decode c_Tr_endChangeover 65 = .ok (.iconst 0, 1) := by decide +kernel
theorem d_Tr_endChangeover_66 : decode c_Tr_endChangeover 66 = .ok (.istore 4, 2) := by decide +kernel
theorem d_Tr_endChangeover_68 : decode c_Tr_endChangeover 68 = .ok (.iload 4, 2) := by decide +kernel
theorem d_Tr_endChangeover_70 : decode c_Tr_endChangeover 70 = .ok (.iconst 4, 1) := by decide +kernel
theorem d_Tr_endChangeover_71 : decode c_Tr_endChangeover 71 = .ok (.if_icmp .ge 58, 3) := by decide +kernel
theorem d_Tr_endChangeover_74 : decode c_Tr_endChangeover 74 = .ok (.aload_n 0, 1) := by decide +kernel
theorem d_Tr_endChangeover_75 : decode c_Tr_endChangeover 75 = .ok (.aload_n 1, 1) := by decide +kernel
theorem d_Tr_endChangeover_76 : decode c_Tr_endChangeover 76 = .ok (.getfield 104, 3) := by decide +kernel
theorem d_Tr_endChangeover_79 : decode c_Tr_endChangeover 79 = .ok (.aload_n 1, 1) := by decide +kernel
theorem d_Tr_endChangeover_80 : decode c_Tr_endChangeover 80 = .ok (.getfield 107, 3) := by decide +kernel
theorem d_Tr_endChangeover_83 : decode c_Tr_endChangeover 83 = .ok (.iload 4, 2) := by decide +kernel
theorem d_Tr_endChangeover_85 : decode c_Tr_endChangeover 85 = .ok (.invokevirtual 210, 3) := by decide +kernel
theorem d_Tr_endChangeover_88 : decode c_Tr_endChangeover 88 = .ok (.astore 5, 2) := by decide +kernel
theorem d_Tr_endChangeover_90 : decode c_Tr_endChangeover 90 = .ok (.aload 5, 2) := by decide +kernel
theorem d_Tr_endChangeover_92 : decode c_Tr_endChangeover 92 = .ok (.ifnull 31, 3) := by decide +kernel
theorem d_Tr_endChangeover_95 : decode c_Tr_endChangeover 95 = .ok (.aload 5, 2) := by decide +kernel
theorem d_Tr_endChangeover_97 : decode c_Tr_endChangeover 97 = .ok (.getfield 319, 3) := by decide +kernel
theorem d_Tr_endChangeover_100 : decode c_Tr_endChangeover 100 = .ok (.aload_n 1, 1) := by decide +kernel
theorem d_Tr_endChangeover_101 : decode c_Tr_endChangeover 101 = .ok (.if_acmp .ne 22, 3) := by decide +kernel
theorem d_Tr_endChangeover_104 : decode c_Tr_endChangeover 104 = .ok (.aload 5, 2) := by decide +kernel
theorem d_Tr_endChangeover_106 : decode c_Tr_endChangeover 106 = .ok (.aload_n 0, 1) := by decide +kernel
theorem d_Tr_endChangeover_107 : decode c_Tr_endChangeover 107 = .ok (.aload_n 1, 1) := by decide +kernel
theorem d_Tr_endChangeover_108 : decode c_Tr_endChangeover 108 = .ok (.getfield 104, 3) := by decide +kernel
theorem d_Tr_endChangeover_111 : decode c_Tr_endChangeover 111 = .ok (.aload_n 1, 1) := by decide +kernel
theorem d_Tr_endChangeover_112 : decode c_Tr_endChangeover 112 = .ok (.getfield 107, 3) := by decide +kernel
theorem d_Tr_endChangeover_115 : decode c_Tr_endChangeover 115 = .ok (.iload 4, 2) := by decide +kernel
theorem d_Tr_endChangeover_117 : decode c_Tr_endChangeover 117 = .ok (.invokevirtual 108, 3) := by decide +kernel
theorem d_Tr_endChangeover_120 : decode c_Tr_endChangeover 120 = .ok (.invokevirtual 322, 3) := by decide +kernel
theorem d_Tr_endChangeover_123 : decode c_Tr_endChangeover 123 = .ok (.iinc 4 1, 3) := by decide +kernel
theorem d_Tr_endChangeover_126 : decode c_Tr_endChangeover 126 = .ok (.goto (-58), 3) := by decide +kernel
theorem d_Tr_endChangeover_129 : decode c_Tr_endChangeover 129 = .ok (.aload_n 0, 1) := by decide +kernel
theorem d_Tr_endChangeover_130 : decode c_Tr_endChangeover 130 = .ok (.aload_n 1, 1) := by decide +kernel
theorem d_Tr_endChangeover_131 : decode c_Tr_endChangeover 131 = .ok (.aload_n 3, 1) := by decide +kernel
theorem d_Tr_endChangeover_132 : decode c_Tr_endChangeover 132 = .ok (.invokevirtual 325, 3) := by decide +kernel
theorem d_Tr_endChangeover_135 : decode c_Tr_endChangeover 135 = .ok (.aload_n 0, 1) := by decide +kernel
theorem d_Tr_endChangeover_136 : decode c_Tr_endChangeover 136 = .ok (.aload_n 1, 1) := by decide +kernel
theorem d_Tr_endChangeover_137 : decode c_Tr_endChangeover 137 = .ok (.aload_n 1, 1) := by decide +kernel
theorem d_Tr_endChangeover_138 : decode c_Tr_endChangeover 138 = .ok (.getfield 145, 3) := by decide +kernel
theorem d_Tr_endChangeover_141 : decode c_Tr_endChangeover 141 = .ok (.getfield 227, 3) := by decide +kernel
theorem d_Tr_endChangeover_144 : decode c_Tr_endChangeover 144 = .ok (.invokevirtual 325, 3) := by decide +kernel
theorem d_Tr_endChangeover_147 : decode c_Tr_endChangeover 147 = .ok (.iconst 0, 1) := by decide +kernel
theorem d_Tr_endChangeover_148 : decode c_Tr_endChangeover 148 = .ok (.istore 4, 2) := by decide +kernel
theorem d_Tr_endChangeover_150 : decode c_Tr_endChangeover 150 = .ok (.iload 4, 2) := by decide +kernel
theorem d_Tr_endChangeover_152 : decode c_Tr_endChangeover 152 = .ok (.iconst 4, 1) := by decide +kernel
theorem d_Tr_endChangeover_153 : decode c_Tr_endChangeover 153 = .ok (.if_icmp .ge 48, 3) := by decide +kernel
theorem d_Tr_endChangeover_156 : decode c_Tr_endChangeover 156 = .ok (.aload_n 0, 1) := by decide +kernel
theorem d_Tr_endChangeover_157 : decode c_Tr_endChangeover 157 = .ok (.aload_n 1, 1) := by decide +kernel
theorem d_Tr_endChangeover_158 : decode c_Tr_endChangeover 158 = .ok (.getfield 104, 3) := by decide +kernel
theorem d_Tr_endChangeover_161 : decode c_Tr_endChangeover 161 = .ok (.aload_n 1, 1) := by decide +kernel
theorem d_Tr_endChangeover_162 : decode c_Tr_endChangeover 162 = .ok (.getfield 107, 3) := by decide +kernel
theorem d_Tr_endChangeover_165 : decode c_Tr_endChangeover 165 = .ok (.iload 4, 2) := by decide +kernel
theorem d_Tr_endChangeover_167 : decode c_Tr_endChangeover 167 = .ok (.invokevirtual 210, 3) := by decide +kernel
theorem d_Tr_endChangeover_170 : decode c_Tr_endChangeover 170 = .ok (.astore 5, 2) := by decide +kernel
theorem d_Tr_endChangeover_172 : decode c_Tr_endChangeover 172 = .ok (.aload 5, 2) := by decide +kernel
theorem d_Tr_endChangeover_174 : decode c_Tr_endChangeover 174 = .ok (.ifnull 21, 3) := by decide +kernel
theorem d_Tr_endChangeover_177 : decode c_Tr_endChangeover 177 = .ok (.aload 5, 2) := by decide +kernel
theorem d_Tr_endChangeover_179 : decode c_Tr_endChangeover 179 = .ok (.getfield 235, 3) := by decide +kernel
theorem d_Tr_endChangeover_182 : decode c_Tr_endChangeover 182 = .ok (.ifCond .ne 13, 3) := by decide +kernel
theorem d_Tr_endChangeover_185 : decode c_Tr_endChangeover 185 = .ok (.aload_n 0, 1) := by decide +kernel
theorem d_Tr_endChangeover_186 : decode c_Tr_endChangeover 186 = .ok (.aload_n 1, 1) := by decide +kernel
theorem d_Tr_endChangeover_187 : decode c_Tr_endChangeover 187 = .ok (.aload 5, 2) := by decide +kernel
theorem d_Tr_endChangeover_189 : decode c_Tr_endChangeover 189 = .ok (.getfield 329, 3) := by decide +kernel
theorem d_Tr_endChangeover_192 : decode c_Tr_endChangeover 192 = .ok (.invokevirtual 325, 3) := by decide +kernel
theorem d_Tr_endChangeover_195 : decode c_Tr_endChangeover 195 = .ok (.iinc 4 1, 3) := by decide +kernel
theorem d_Tr_endChangeover_198 : decode c_Tr_endChangeover 198 = .ok (.goto (-48), 3) := by decide +kernel
theorem d_Tr_endChangeover_201 : decode c_Tr_endChangeover 201 = .ok (.aload_n 0, 1) := by decide +kernel
theorem d_Tr_endChangeover_202 : decode c_Tr_endChangeover 202 = .ok (.aload_n 1, 1) := by decide +kernel
theorem d_Tr_endChangeover_203 : decode c_Tr_endChangeover 203 = .ok (.getfield 104, 3) := by decide +kernel
theorem d_Tr_endChangeover_206 : decode c_Tr_endChangeover 206 = .ok (.invokevirtual 242, 3) := by decide +kernel
theorem d_Tr_endChangeover_209 : decode c_Tr_endChangeover 209 = .ok (.return_, 1) := by decide +kernel
def f_Tr_endChangeover_123 (k68 : Option Nat → Option Nat → Int32 → sn_M) (a : Nat) (r1 : Option Nat) (r3 : Option Nat) (x4 : Int32) : sn_M := k68 r1 r3 (x4 + (1 : Int32))
set_option maxHeartbeats 4000000 in
set_option maxRecDepth 100000 in
theorem mono_Tr_endChangeover_123 (k68 : Option Nat → Option Nat → Int32 → sn_M) (mk68 : ∀ (r1 : Option Nat) (r3 : Option Nat) (x4 : Int32), sn_Mono (k68 r1 r3 x4)) (a : Nat) (r1 : Option Nat) (r3 : Option Nat) (x4 : Int32) : sn_Mono (f_Tr_endChangeover_123 k68 a r1 r3 x4) := mk68 r1 r3 (x4 + (1 : Int32))
set_option maxHeartbeats 4000000 in
set_option maxRecDepth 100000 in
theorem s_Tr_endChangeover_123 {X : sn_X} (C : sn_Cx X c_Tr_endChangeover "SignalNetwork$Transfer" none "endChangeover" 6 3 80) (a : Nat) (k68 : Option Nat → Option Nat → Int32 → sn_M) (hk68 : ∀ (r1 : Option Nat) (r3 : Option Nat) (x4 : Int32), sn_S X 68 [(0, vA (some a)), (1, vA r1), (3, vA r3), (4, vI x4)] [] (k68 r1 r3 x4)) (r1 : Option Nat) (r3 : Option Nat) (x4 : Int32) : sn_S X 123 [(0, vA (some a)), (1, vA r1), (3, vA r3), (4, vI x4)] [] (f_Tr_endChangeover_123 k68 a r1 r3 x4) := by
  unfold f_Tr_endChangeover_123
  refine r_iinc (q := 126) (pl := 3) (v := x4 + (1 : Int32)) (lv' := [(4, vI (x4 + (1 : Int32))), (0, vA (some a)), (1, vA r1), (3, vA r3)]) C d_Tr_endChangeover_123 rfl rfl rfl (by decide) rfl ?_
  refine r_goto (tgt := 68) C d_Tr_endChangeover_126 (by decide) ?_
  refine r_sub (lv' := [(0, vA (some a)), (1, vA r1), (3, vA r3), (4, vI (x4 + (1 : Int32)))]) [1, 2, 3, 0] rfl ?_
  exact hk68 r1 r3 (x4 + (1 : Int32))
def f_Tr_endChangeover_195 (k150 : Option Nat → Int32 → sn_M) (a : Nat) (r1 : Option Nat) (x4 : Int32) : sn_M := k150 r1 (x4 + (1 : Int32))
set_option maxHeartbeats 4000000 in
set_option maxRecDepth 100000 in
theorem mono_Tr_endChangeover_195 (k150 : Option Nat → Int32 → sn_M) (mk150 : ∀ (r1 : Option Nat) (x4 : Int32), sn_Mono (k150 r1 x4)) (a : Nat) (r1 : Option Nat) (x4 : Int32) : sn_Mono (f_Tr_endChangeover_195 k150 a r1 x4) := mk150 r1 (x4 + (1 : Int32))
set_option maxHeartbeats 4000000 in
set_option maxRecDepth 100000 in
theorem s_Tr_endChangeover_195 {X : sn_X} (C : sn_Cx X c_Tr_endChangeover "SignalNetwork$Transfer" none "endChangeover" 6 3 80) (a : Nat) (k150 : Option Nat → Int32 → sn_M) (hk150 : ∀ (r1 : Option Nat) (x4 : Int32), sn_S X 150 [(0, vA (some a)), (1, vA r1), (4, vI x4)] [] (k150 r1 x4)) (r1 : Option Nat) (x4 : Int32) : sn_S X 195 [(0, vA (some a)), (1, vA r1), (4, vI x4)] [] (f_Tr_endChangeover_195 k150 a r1 x4) := by
  unfold f_Tr_endChangeover_195
  refine r_iinc (q := 198) (pl := 2) (v := x4 + (1 : Int32)) (lv' := [(4, vI (x4 + (1 : Int32))), (0, vA (some a)), (1, vA r1)]) C d_Tr_endChangeover_195 rfl rfl rfl (by decide) rfl ?_
  refine r_goto (tgt := 150) C d_Tr_endChangeover_198 (by decide) ?_
  refine r_sub (lv' := [(0, vA (some a)), (1, vA r1), (4, vI (x4 + (1 : Int32)))]) [1, 2, 0] rfl ?_
  exact hk150 r1 (x4 + (1 : Int32))
def f_Tr_endChangeover_150 (a : Nat) : Nat → Option Nat → Int32 → sn_M
  | 0, _, _ => r_0
  | n + 1, r1, x4 => (if (4 : Int32) ≤ x4 then g_I 2 2 r1 fun v1 => n_n 8 (some a) fun a2 => c_V (f_Tr_look a2 v1) (r_V) else g_I 2 2 r1 fun v4 => g_I 2 3 r1 fun v5 => n_n 8 (some a) fun a6 => c_R (f_Tr_flowTo a6 v4 v5 x4) fun v7 => (if v7 = none then f_Tr_endChangeover_195 (f_Tr_endChangeover_150 a n) a r1 x4 else g_I 3 2 v7 fun v8 => (if ¬ v8 = 0 then f_Tr_endChangeover_195 (f_Tr_endChangeover_150 a n) a r1 x4 else g_R 3 6 v7 fun v9 => n_n 8 (some a) fun a10 => c_V (f_Tr_giveAgain a10 r1 v9) (f_Tr_endChangeover_195 (f_Tr_endChangeover_150 a n) a r1 x4))))
set_option maxHeartbeats 4000000 in
set_option maxRecDepth 100000 in
theorem mono_Tr_endChangeover_150 (a : Nat) : ∀ (n : Nat) (r1 : Option Nat) (x4 : Int32), sn_Mono (f_Tr_endChangeover_150 a n r1 x4)
  | 0, _, _ => sn_Mono.r0
  | n + 1, r1, x4 => sn_Mono.ite (sn_Mono.gI (fun v1 => sn_Mono.nn (fun a2 => sn_Mono.cV (mono_Tr_look a2 v1) (sn_Mono.rV)))) (sn_Mono.gI (fun v4 => sn_Mono.gI (fun v5 => sn_Mono.nn (fun a6 => sn_Mono.cR (mono_Tr_flowTo a6 v4 v5 x4) (fun v7 => sn_Mono.ite (mono_Tr_endChangeover_195 (f_Tr_endChangeover_150 a n) (mono_Tr_endChangeover_150 a n) a r1 x4) (sn_Mono.gI (fun v8 => sn_Mono.ite (mono_Tr_endChangeover_195 (f_Tr_endChangeover_150 a n) (mono_Tr_endChangeover_150 a n) a r1 x4) (sn_Mono.gR (fun v9 => sn_Mono.nn (fun a10 => sn_Mono.cV (mono_Tr_giveAgain a10 r1 v9) (mono_Tr_endChangeover_195 (f_Tr_endChangeover_150 a n) (mono_Tr_endChangeover_150 a n) a r1 x4)))))))))))
set_option maxHeartbeats 4000000 in
set_option maxRecDepth 100000 in
theorem s_Tr_endChangeover_150 {X : sn_X} (C : sn_Cx X c_Tr_endChangeover "SignalNetwork$Transfer" none "endChangeover" 6 3 80) (a : Nat) (n : Nat) : ∀ (r1 : Option Nat) (x4 : Int32), sn_S X 150 [(0, vA (some a)), (1, vA r1), (4, vI x4)] [] (f_Tr_endChangeover_150 a n r1 x4) := by
  induction n with
  | zero => intro r1 x4; exact sn_S.zero
  | succ n ih =>
    intro r1 x4
    unfold f_Tr_endChangeover_150
    refine r_iload (q := 152) (i := 4) (pl := 2) C d_Tr_endChangeover_150 rfl rfl ?_
    refine r_iconst (q := 153) (v := 4) C d_Tr_endChangeover_152 rfl (by decide) ?_
    refine r_icmp_ge (tgt := 201) (q := 156) C d_Tr_endChangeover_153 (by decide) rfl ?_ ?_
    · refine r_aload_n (q := 202) (i := 0) (pl := 0) C d_Tr_endChangeover_201 rfl rfl rfl ?_
      refine r_aload_n (q := 203) (i := 1) (pl := 1) C d_Tr_endChangeover_202 rfl rfl rfl ?_
      refine r_gI (q := 206) C d_Tr_endChangeover_203 rfl F_Tr_104 rfl (fun v1 => ?_)
      refine r_cvV (q := 209) (As := [vI v1]) (st := []) (cy := 7) C d_Tr_endChangeover_206 rfl Y_Tr_look L_Tr_242 I_Tr_look Se_Tr_look rfl (by decide) rfl (Nat.le_of_ble_eq_true rfl) (Nat.le_of_ble_eq_true rfl) (Nat.le_of_ble_eq_true rfl) rfl (fun a2 => con_Tr_look a2 v1) ?_
      exact r_vret C d_Tr_endChangeover_209 rfl
    · refine r_aload_n (q := 157) (i := 0) (pl := 0) C d_Tr_endChangeover_156 rfl rfl rfl ?_
      refine r_aload_n (q := 158) (i := 1) (pl := 1) C d_Tr_endChangeover_157 rfl rfl rfl ?_
      refine r_gI (q := 161) C d_Tr_endChangeover_158 rfl F_Tr_104 rfl (fun v4 => ?_)
      refine r_aload_n (q := 162) (i := 1) (pl := 1) C d_Tr_endChangeover_161 rfl rfl rfl ?_
      refine r_gI (q := 165) C d_Tr_endChangeover_162 rfl F_Tr_107 rfl (fun v5 => ?_)
      refine r_iload (q := 167) (i := 4) (pl := 2) C d_Tr_endChangeover_165 rfl rfl ?_
      refine r_cvR (q := 170) (As := [vI v4, vI v5, vI x4]) (st := []) (cy := 7) C d_Tr_endChangeover_167 rfl Y_Tr_flowTo L_Tr_210 I_Tr_flowTo Se_Tr_flowTo rfl (by decide) rfl (Nat.le_of_ble_eq_true rfl) (Nat.le_of_ble_eq_true rfl) (Nat.le_of_ble_eq_true rfl) rfl (fun a6 => con_Tr_flowTo a6 v4 v5 x4) (fun v7 => ?_)
      refine r_astore (q := 172) (i := 5) (lv' := [(5, vA v7), (0, vA (some a)), (1, vA r1), (4, vI x4)]) C d_Tr_endChangeover_170 rfl (by decide) rfl ?_
      refine r_aload (q := 174) (i := 5) (pl := 0) C d_Tr_endChangeover_172 rfl rfl ?_
      refine r_ifnull (tgt := 195) (q := 177) C d_Tr_endChangeover_174 (by decide) rfl ?_ ?_
      · refine r_sub (lv' := [(0, vA (some a)), (1, vA r1), (4, vI x4)]) [1, 2, 3] rfl ?_
        exact s_Tr_endChangeover_195 C a (f_Tr_endChangeover_150 a n) ih r1 x4
      · refine r_aload (q := 179) (i := 5) (pl := 0) C d_Tr_endChangeover_177 rfl rfl ?_
        refine r_gI (q := 182) C d_Tr_endChangeover_179 rfl F_Tr_235 rfl (fun v8 => ?_)
        refine r_if_ne (tgt := 195) (q := 185) C d_Tr_endChangeover_182 (by decide) rfl ?_ ?_
        · refine r_sub (lv' := [(0, vA (some a)), (1, vA r1), (4, vI x4)]) [1, 2, 3] rfl ?_
          exact s_Tr_endChangeover_195 C a (f_Tr_endChangeover_150 a n) ih r1 x4
        · refine r_aload_n (q := 186) (i := 0) (pl := 1) C d_Tr_endChangeover_185 rfl rfl rfl ?_
          refine r_aload_n (q := 187) (i := 1) (pl := 2) C d_Tr_endChangeover_186 rfl rfl rfl ?_
          refine r_aload (q := 189) (i := 5) (pl := 0) C d_Tr_endChangeover_187 rfl rfl ?_
          refine r_gR (q := 192) C d_Tr_endChangeover_189 rfl F_Tr_329 rfl (fun v9 => ?_)
          refine r_cvV (q := 195) (As := [vA r1, vA v9]) (st := []) (cy := 7) C d_Tr_endChangeover_192 rfl Y_Tr_giveAgain L_Tr_325 I_Tr_giveAgain Se_Tr_giveAgain rfl (by decide) rfl (Nat.le_of_ble_eq_true rfl) (Nat.le_of_ble_eq_true rfl) (Nat.le_of_ble_eq_true rfl) rfl (fun a10 => con_Tr_giveAgain a10 r1 v9) ?_
          refine r_sub (lv' := [(0, vA (some a)), (1, vA r1), (4, vI x4)]) [1, 2, 3] rfl ?_
          exact s_Tr_endChangeover_195 C a (f_Tr_endChangeover_150 a n) ih r1 x4
def f_Tr_endChangeover_68 (a : Nat) : Nat → Option Nat → Option Nat → Int32 → sn_M
  | 0, _, _, _ => r_0
  | n + 1, r1, r3, x4 => (if (4 : Int32) ≤ x4 then n_n 8 (some a) fun a12 => c_V (f_Tr_giveAgain a12 r1 r3) (g_R 2 4 r1 fun v14 => g_R 10 8 v14 fun v15 => n_n 8 (some a) fun a16 => c_V (f_Tr_giveAgain a16 r1 v15) (f_Tr_endChangeover_150 a sn_fuel r1 (0 : Int32))) else g_I 2 2 r1 fun v18 => g_I 2 3 r1 fun v19 => n_n 8 (some a) fun a20 => c_R (f_Tr_flowTo a20 v18 v19 x4) fun v21 => (if v21 = none then f_Tr_endChangeover_123 (f_Tr_endChangeover_68 a n) a r1 r3 x4 else g_R 3 3 v21 fun v22 => (if ¬ v22 = r1 then f_Tr_endChangeover_123 (f_Tr_endChangeover_68 a n) a r1 r3 x4 else g_I 2 2 r1 fun v23 => g_I 2 3 r1 fun v24 => n_n 8 (some a) fun a25 => c_R (f_Tr_best a25 v23 v24 x4) fun v26 => n_n 3 v21 fun a27 => c_V (f_Fl_free a27 v26) (f_Tr_endChangeover_123 (f_Tr_endChangeover_68 a n) a r1 r3 x4))))
set_option maxHeartbeats 4000000 in
set_option maxRecDepth 100000 in
theorem mono_Tr_endChangeover_68 (a : Nat) : ∀ (n : Nat) (r1 : Option Nat) (r3 : Option Nat) (x4 : Int32), sn_Mono (f_Tr_endChangeover_68 a n r1 r3 x4)
  | 0, _, _, _ => sn_Mono.r0
  | n + 1, r1, r3, x4 => sn_Mono.ite (sn_Mono.nn (fun a12 => sn_Mono.cV (mono_Tr_giveAgain a12 r1 r3) (sn_Mono.gR (fun v14 => sn_Mono.gR (fun v15 => sn_Mono.nn (fun a16 => sn_Mono.cV (mono_Tr_giveAgain a16 r1 v15) (mono_Tr_endChangeover_150 a sn_fuel r1 (0 : Int32)))))))) (sn_Mono.gI (fun v18 => sn_Mono.gI (fun v19 => sn_Mono.nn (fun a20 => sn_Mono.cR (mono_Tr_flowTo a20 v18 v19 x4) (fun v21 => sn_Mono.ite (mono_Tr_endChangeover_123 (f_Tr_endChangeover_68 a n) (mono_Tr_endChangeover_68 a n) a r1 r3 x4) (sn_Mono.gR (fun v22 => sn_Mono.ite (mono_Tr_endChangeover_123 (f_Tr_endChangeover_68 a n) (mono_Tr_endChangeover_68 a n) a r1 r3 x4) (sn_Mono.gI (fun v23 => sn_Mono.gI (fun v24 => sn_Mono.nn (fun a25 => sn_Mono.cR (mono_Tr_best a25 v23 v24 x4) (fun v26 => sn_Mono.nn (fun a27 => sn_Mono.cV (mono_Fl_free a27 v26) (mono_Tr_endChangeover_123 (f_Tr_endChangeover_68 a n) (mono_Tr_endChangeover_68 a n) a r1 r3 x4))))))))))))))
set_option maxHeartbeats 4000000 in
set_option maxRecDepth 100000 in
theorem s_Tr_endChangeover_68 {X : sn_X} (C : sn_Cx X c_Tr_endChangeover "SignalNetwork$Transfer" none "endChangeover" 6 3 80) (a : Nat) (n : Nat) : ∀ (r1 : Option Nat) (r3 : Option Nat) (x4 : Int32), sn_S X 68 [(0, vA (some a)), (1, vA r1), (3, vA r3), (4, vI x4)] [] (f_Tr_endChangeover_68 a n r1 r3 x4) := by
  induction n with
  | zero => intro r1 r3 x4; exact sn_S.zero
  | succ n ih =>
    intro r1 r3 x4
    unfold f_Tr_endChangeover_68
    refine r_iload (q := 70) (i := 4) (pl := 3) C d_Tr_endChangeover_68 rfl rfl ?_
    refine r_iconst (q := 71) (v := 4) C d_Tr_endChangeover_70 rfl (by decide) ?_
    refine r_icmp_ge (tgt := 129) (q := 74) C d_Tr_endChangeover_71 (by decide) rfl ?_ ?_
    · refine r_aload_n (q := 130) (i := 0) (pl := 0) C d_Tr_endChangeover_129 rfl rfl rfl ?_
      refine r_aload_n (q := 131) (i := 1) (pl := 1) C d_Tr_endChangeover_130 rfl rfl rfl ?_
      refine r_aload_n (q := 132) (i := 3) (pl := 2) C d_Tr_endChangeover_131 rfl rfl rfl ?_
      refine r_cvV (q := 135) (As := [vA r1, vA r3]) (st := []) (cy := 7) C d_Tr_endChangeover_132 rfl Y_Tr_giveAgain L_Tr_325 I_Tr_giveAgain Se_Tr_giveAgain rfl (by decide) rfl (Nat.le_of_ble_eq_true rfl) (Nat.le_of_ble_eq_true rfl) (Nat.le_of_ble_eq_true rfl) rfl (fun a12 => con_Tr_giveAgain a12 r1 r3) ?_
      refine r_aload_n (q := 136) (i := 0) (pl := 0) C d_Tr_endChangeover_135 rfl rfl rfl ?_
      refine r_aload_n (q := 137) (i := 1) (pl := 1) C d_Tr_endChangeover_136 rfl rfl rfl ?_
      refine r_aload_n (q := 138) (i := 1) (pl := 1) C d_Tr_endChangeover_137 rfl rfl rfl ?_
      refine r_gR (q := 141) C d_Tr_endChangeover_138 rfl F_Tr_145 rfl (fun v14 => ?_)
      refine r_gR (q := 144) C d_Tr_endChangeover_141 rfl F_Tr_227 rfl (fun v15 => ?_)
      refine r_cvV (q := 147) (As := [vA r1, vA v15]) (st := []) (cy := 7) C d_Tr_endChangeover_144 rfl Y_Tr_giveAgain L_Tr_325 I_Tr_giveAgain Se_Tr_giveAgain rfl (by decide) rfl (Nat.le_of_ble_eq_true rfl) (Nat.le_of_ble_eq_true rfl) (Nat.le_of_ble_eq_true rfl) rfl (fun a16 => con_Tr_giveAgain a16 r1 v15) ?_
      refine r_iconst (q := 148) (v := 0) C d_Tr_endChangeover_147 rfl (by decide) ?_
      refine r_istore (q := 150) (i := 4) (lv' := [(4, vI (0 : Int32)), (0, vA (some a)), (1, vA r1), (3, vA r3)]) C d_Tr_endChangeover_148 rfl (by decide) rfl ?_
      refine r_sub (lv' := [(0, vA (some a)), (1, vA r1), (4, vI (0 : Int32))]) [1, 2, 0] rfl ?_
      exact s_Tr_endChangeover_150 C a sn_fuel r1 (0 : Int32)
    · refine r_aload_n (q := 75) (i := 0) (pl := 0) C d_Tr_endChangeover_74 rfl rfl rfl ?_
      refine r_aload_n (q := 76) (i := 1) (pl := 1) C d_Tr_endChangeover_75 rfl rfl rfl ?_
      refine r_gI (q := 79) C d_Tr_endChangeover_76 rfl F_Tr_104 rfl (fun v18 => ?_)
      refine r_aload_n (q := 80) (i := 1) (pl := 1) C d_Tr_endChangeover_79 rfl rfl rfl ?_
      refine r_gI (q := 83) C d_Tr_endChangeover_80 rfl F_Tr_107 rfl (fun v19 => ?_)
      refine r_iload (q := 85) (i := 4) (pl := 3) C d_Tr_endChangeover_83 rfl rfl ?_
      refine r_cvR (q := 88) (As := [vI v18, vI v19, vI x4]) (st := []) (cy := 7) C d_Tr_endChangeover_85 rfl Y_Tr_flowTo L_Tr_210 I_Tr_flowTo Se_Tr_flowTo rfl (by decide) rfl (Nat.le_of_ble_eq_true rfl) (Nat.le_of_ble_eq_true rfl) (Nat.le_of_ble_eq_true rfl) rfl (fun a20 => con_Tr_flowTo a20 v18 v19 x4) (fun v21 => ?_)
      refine r_astore (q := 90) (i := 5) (lv' := [(5, vA v21), (0, vA (some a)), (1, vA r1), (3, vA r3), (4, vI x4)]) C d_Tr_endChangeover_88 rfl (by decide) rfl ?_
      refine r_aload (q := 92) (i := 5) (pl := 0) C d_Tr_endChangeover_90 rfl rfl ?_
      refine r_ifnull (tgt := 123) (q := 95) C d_Tr_endChangeover_92 (by decide) rfl ?_ ?_
      · refine r_sub (lv' := [(0, vA (some a)), (1, vA r1), (3, vA r3), (4, vI x4)]) [1, 2, 3, 4] rfl ?_
        exact s_Tr_endChangeover_123 C a (f_Tr_endChangeover_68 a n) ih r1 r3 x4
      · refine r_aload (q := 97) (i := 5) (pl := 0) C d_Tr_endChangeover_95 rfl rfl ?_
        refine r_gR (q := 100) C d_Tr_endChangeover_97 rfl F_Tr_319 rfl (fun v22 => ?_)
        refine r_aload_n (q := 101) (i := 1) (pl := 2) C d_Tr_endChangeover_100 rfl rfl rfl ?_
        refine r_acmp_ne (tgt := 123) (q := 104) C d_Tr_endChangeover_101 (by decide) rfl ?_ ?_
        · refine r_sub (lv' := [(0, vA (some a)), (1, vA r1), (3, vA r3), (4, vI x4)]) [1, 2, 3, 4] rfl ?_
          exact s_Tr_endChangeover_123 C a (f_Tr_endChangeover_68 a n) ih r1 r3 x4
        · refine r_aload (q := 106) (i := 5) (pl := 0) C d_Tr_endChangeover_104 rfl rfl ?_
          refine r_aload_n (q := 107) (i := 0) (pl := 1) C d_Tr_endChangeover_106 rfl rfl rfl ?_
          refine r_aload_n (q := 108) (i := 1) (pl := 2) C d_Tr_endChangeover_107 rfl rfl rfl ?_
          refine r_gI (q := 111) C d_Tr_endChangeover_108 rfl F_Tr_104 rfl (fun v23 => ?_)
          refine r_aload_n (q := 112) (i := 1) (pl := 2) C d_Tr_endChangeover_111 rfl rfl rfl ?_
          refine r_gI (q := 115) C d_Tr_endChangeover_112 rfl F_Tr_107 rfl (fun v24 => ?_)
          refine r_iload (q := 117) (i := 4) (pl := 4) C d_Tr_endChangeover_115 rfl rfl ?_
          refine r_cvR (q := 120) (As := [vI v23, vI v24, vI x4]) (st := [vA v21]) (cy := 7) C d_Tr_endChangeover_117 rfl Y_Tr_best L_Tr_108 I_Tr_best Se_Tr_best rfl (by decide) rfl (Nat.le_of_ble_eq_true rfl) (Nat.le_of_ble_eq_true rfl) (Nat.le_of_ble_eq_true rfl) rfl (fun a25 => con_Tr_best a25 v23 v24 x4) (fun v26 => ?_)
          refine r_cvV (q := 123) (As := [vA v26]) (st := []) (cy := 2) C d_Tr_endChangeover_120 rfl Y_Fl_free L_Tr_322 I_Fl_free Se_Fl_free rfl (by decide) rfl (Nat.le_of_ble_eq_true rfl) (Nat.le_of_ble_eq_true rfl) (Nat.le_of_ble_eq_true rfl) rfl (fun a27 => con_Fl_free a27 v26) ?_
          refine r_sub (lv' := [(0, vA (some a)), (1, vA r1), (3, vA r3), (4, vI x4)]) [1, 2, 3, 4] rfl ?_
          exact s_Tr_endChangeover_123 C a (f_Tr_endChangeover_68 a n) ih r1 r3 x4
def f_Tr_endChangeover_58 (a : Nat) (r1 : Option Nat) (r3 : Option Nat) : sn_M := g_R 2 4 r1 fun v29 => n_n 10 v29 fun a30 => c_V (f_Wi_stop a30) (f_Tr_endChangeover_68 a sn_fuel r1 r3 (0 : Int32))
set_option maxHeartbeats 4000000 in
set_option maxRecDepth 100000 in
theorem mono_Tr_endChangeover_58 (a : Nat) (r1 : Option Nat) (r3 : Option Nat) : sn_Mono (f_Tr_endChangeover_58 a r1 r3) := sn_Mono.gR (fun v29 => sn_Mono.nn (fun a30 => sn_Mono.cV (mono_Wi_stop a30) (mono_Tr_endChangeover_68 a sn_fuel r1 r3 (0 : Int32))))
set_option maxHeartbeats 4000000 in
set_option maxRecDepth 100000 in
theorem s_Tr_endChangeover_58 {X : sn_X} (C : sn_Cx X c_Tr_endChangeover "SignalNetwork$Transfer" none "endChangeover" 6 3 80) (a : Nat) (r1 : Option Nat) (r3 : Option Nat) : sn_S X 58 [(0, vA (some a)), (1, vA r1), (3, vA r3)] [] (f_Tr_endChangeover_58 a r1 r3) := by
  unfold f_Tr_endChangeover_58
  refine r_aload_n (q := 59) (i := 1) (pl := 1) C d_Tr_endChangeover_58 rfl rfl rfl ?_
  refine r_gR (q := 62) C d_Tr_endChangeover_59 rfl F_Tr_145 rfl (fun v29 => ?_)
  refine r_cvV (q := 65) (As := []) (st := []) (cy := 9) C d_Tr_endChangeover_62 rfl Y_Wi_stop L_Tr_316 I_Wi_stop Se_Wi_stop rfl (by decide) rfl (Nat.le_of_ble_eq_true rfl) (Nat.le_of_ble_eq_true rfl) (Nat.le_of_ble_eq_true rfl) rfl (fun a30 => con_Wi_stop a30) ?_
  refine r_iconst (q := 66) (v := 0) C d_Tr_endChangeover_65 rfl (by decide) ?_
  refine r_istore (q := 68) (i := 4) (lv' := [(4, vI (0 : Int32)), (0, vA (some a)), (1, vA r1), (3, vA r3)]) C d_Tr_endChangeover_66 rfl (by decide) rfl ?_
  refine r_sub (lv' := [(0, vA (some a)), (1, vA r1), (3, vA r3), (4, vI (0 : Int32))]) [1, 2, 3, 0] rfl ?_
  exact s_Tr_endChangeover_68 C a sn_fuel r1 r3 (0 : Int32)
def f_Tr_endChangeover (a : Nat) (r1 : Option Nat) (x2 : Int32) : sn_M := g_I 2 12 r1 fun v32 => (if ¬ v32 = 0 then p_I 2 12 r1 (0 : Int32) (g_R 2 4 r1 fun v33 => g_R 10 7 v33 fun v34 => (if ¬ x2 = (-1 : Int32) then g_R 2 4 r1 fun v35 => n_n 10 v35 fun a36 => c_V (f_Wi_acknowledge a36 x2) (f_Tr_endChangeover_58 a r1 v34) else g_I 8 7 (some a) fun v38 => g_I 6 2 v34 fun v39 => p_I 8 7 (some a) (v38 + v39) (g_I 6 2 v34 fun v40 => n_n 6 v34 fun a41 => c_V (f_Qu_drop a41 v40) (f_Tr_endChangeover_58 a r1 v34)))) else r_V)
set_option maxHeartbeats 4000000 in
set_option maxRecDepth 100000 in
theorem mono_Tr_endChangeover (a : Nat) (r1 : Option Nat) (x2 : Int32) : sn_Mono (f_Tr_endChangeover a r1 x2) := sn_Mono.gI (fun v32 => sn_Mono.ite (sn_Mono.pI (sn_Mono.gR (fun v33 => sn_Mono.gR (fun v34 => sn_Mono.ite (sn_Mono.gR (fun v35 => sn_Mono.nn (fun a36 => sn_Mono.cV (mono_Wi_acknowledge a36 x2) (mono_Tr_endChangeover_58 a r1 v34)))) (sn_Mono.gI (fun v38 => sn_Mono.gI (fun v39 => sn_Mono.pI (sn_Mono.gI (fun v40 => sn_Mono.nn (fun a41 => sn_Mono.cV (mono_Qu_drop a41 v40) (mono_Tr_endChangeover_58 a r1 v34))))))))))) (sn_Mono.rV))
set_option maxHeartbeats 4000000 in
set_option maxRecDepth 100000 in
theorem con_Tr_endChangeover (a : Nat) (r1 : Option Nat) (x2 : Int32) : sn_Con y_Tr_endChangeover c_Tr_endChangeover 6 none 3 80 [vA (some a), vA r1, vI x2] (f_Tr_endChangeover a r1 x2) := by
  refine sn_Con.of (by decide +kernel) (by show _ ≤ _; exact Nat.le_of_ble_eq_true rfl) (mono_Tr_endChangeover a r1 x2) (fun X C => ?_)
  show sn_S X 0 [(0, vA (some a)), (1, vA r1), (2, vI x2)] [] _
  replace C : sn_Cx X c_Tr_endChangeover "SignalNetwork$Transfer" none "endChangeover" 6 3 80 := C
  unfold f_Tr_endChangeover
  refine r_aload_n (q := 1) (i := 1) (pl := 1) C d_Tr_endChangeover_0 rfl rfl rfl ?_
  refine r_gI (q := 4) C d_Tr_endChangeover_1 rfl F_Tr_281 rfl (fun v32 => ?_)
  refine r_if_ne (tgt := 8) (q := 7) C d_Tr_endChangeover_4 (by decide) rfl ?_ ?_
  · refine r_aload_n (q := 9) (i := 1) (pl := 1) C d_Tr_endChangeover_8 rfl rfl rfl ?_
    refine r_iconst (q := 10) (v := 0) C d_Tr_endChangeover_9 rfl (by decide) ?_
    refine r_pI (q := 13) C d_Tr_endChangeover_10 rfl F_Tr_281 rfl rfl (Or.inl rfl) ?_
    refine r_aload_n (q := 14) (i := 1) (pl := 1) C d_Tr_endChangeover_13 rfl rfl rfl ?_
    refine r_gR (q := 17) C d_Tr_endChangeover_14 rfl F_Tr_145 rfl (fun v33 => ?_)
    refine r_gR (q := 20) C d_Tr_endChangeover_17 rfl F_Tr_304 rfl (fun v34 => ?_)
    refine r_astore_n (q := 21) (i := 3) (lv' := [(3, vA v34), (0, vA (some a)), (1, vA r1), (2, vI x2)]) C d_Tr_endChangeover_20 rfl rfl (by decide) rfl ?_
    refine r_iload_n (q := 22) (i := 2) (pl := 3) C d_Tr_endChangeover_21 rfl rfl rfl ?_
    refine r_iconst (q := 23) (v := -1) C d_Tr_endChangeover_22 rfl (by decide) ?_
    refine r_icmp_ne (tgt := 50) (q := 26) C d_Tr_endChangeover_23 (by decide) rfl ?_ ?_
    · refine r_aload_n (q := 51) (i := 1) (pl := 2) C d_Tr_endChangeover_50 rfl rfl rfl ?_
      refine r_gR (q := 54) C d_Tr_endChangeover_51 rfl F_Tr_145 rfl (fun v35 => ?_)
      refine r_iload_n (q := 55) (i := 2) (pl := 3) C d_Tr_endChangeover_54 rfl rfl rfl ?_
      refine r_cvV (q := 58) (As := [vI x2]) (st := []) (cy := 9) C d_Tr_endChangeover_55 rfl Y_Wi_acknowledge L_Tr_313 I_Wi_acknowledge Se_Wi_acknowledge rfl (by decide) rfl (Nat.le_of_ble_eq_true rfl) (Nat.le_of_ble_eq_true rfl) (Nat.le_of_ble_eq_true rfl) rfl (fun a36 => con_Wi_acknowledge a36 x2) ?_
      refine r_sub (lv' := [(0, vA (some a)), (1, vA r1), (3, vA v34)]) [1, 2, 0] rfl ?_
      exact s_Tr_endChangeover_58 C a r1 v34
    · refine r_aload_n (q := 27) (i := 0) (pl := 1) C d_Tr_endChangeover_26 rfl rfl rfl ?_
      refine r_dup (q := 28) C d_Tr_endChangeover_27 rfl rfl ?_
      refine r_gI (q := 31) C d_Tr_endChangeover_28 rfl F_Tr_195 rfl (fun v38 => ?_)
      refine r_aload_n (q := 32) (i := 3) (pl := 0) C d_Tr_endChangeover_31 rfl rfl rfl ?_
      refine r_gI (q := 35) C d_Tr_endChangeover_32 rfl F_Tr_307 rfl (fun v39 => ?_)
      refine r_iadd (q := 36) C d_Tr_endChangeover_35 rfl ?_
      refine r_pI (q := 39) C d_Tr_endChangeover_36 rfl F_Tr_195 rfl rfl (Or.inl rfl) ?_
      refine r_aload_n (q := 40) (i := 3) (pl := 0) C d_Tr_endChangeover_39 rfl rfl rfl ?_
      refine r_aload_n (q := 41) (i := 3) (pl := 0) C d_Tr_endChangeover_40 rfl rfl rfl ?_
      refine r_gI (q := 44) C d_Tr_endChangeover_41 rfl F_Tr_307 rfl (fun v40 => ?_)
      refine r_cvV (q := 47) (As := [vI v40]) (st := []) (cy := 5) C d_Tr_endChangeover_44 rfl Y_Qu_drop L_Tr_310 I_Qu_drop Se_Qu_drop rfl (by decide) rfl (Nat.le_of_ble_eq_true rfl) (Nat.le_of_ble_eq_true rfl) (Nat.le_of_ble_eq_true rfl) rfl (fun a41 => con_Qu_drop a41 v40) ?_
      refine r_goto (tgt := 58) C d_Tr_endChangeover_47 (by decide) ?_
      refine r_sub (lv' := [(0, vA (some a)), (1, vA r1), (3, vA v34)]) [1, 2, 0] rfl ?_
      exact s_Tr_endChangeover_58 C a r1 v34
  · exact r_vret C d_Tr_endChangeover_7 rfl
theorem d_Tr_changeOver_0 : decode c_Tr_changeOver 0 = .ok (.lload_n 2, 1) := by decide +kernel
theorem d_Tr_changeOver_1 : decode c_Tr_changeOver 1 = .ok (.invokestatic 291, 3) := by decide +kernel
theorem d_Tr_changeOver_4 : decode c_Tr_changeOver 4 = .ok (.bipush 16, 2) := by decide +kernel
theorem d_Tr_changeOver_6 : decode c_Tr_changeOver 6 = .ok (.irem, 1) := by decide +kernel
theorem d_Tr_changeOver_7 : decode c_Tr_changeOver 7 = .ok (.istore 4, 2) := by decide +kernel
theorem d_Tr_changeOver_9 : decode c_Tr_changeOver 9 = .ok (.lload_n 2, 1) := by decide +kernel
theorem d_Tr_changeOver_10 : decode c_Tr_changeOver 10 = .ok (.invokestatic 291, 3) := by decide +kernel
theorem d_Tr_changeOver_13 : decode c_Tr_changeOver 13 = .ok (.bipush 16, 2) := by decide +kernel
theorem d_Tr_changeOver_15 : decode c_Tr_changeOver 15 = .ok (.idiv, 1) := by decide +kernel
theorem d_Tr_changeOver_16 : decode c_Tr_changeOver 16 = .ok (.istore 5, 2) := by decide +kernel
theorem d_Tr_changeOver_18 : decode c_Tr_changeOver 18 = .ok (.aload_n 0, 1) := by decide +kernel
theorem d_Tr_changeOver_19 : decode c_Tr_changeOver 19 = .ok (.iload 4, 2) := by decide +kernel
theorem d_Tr_changeOver_21 : decode c_Tr_changeOver 21 = .ok (.lload_n 2, 1) := by decide +kernel
theorem d_Tr_changeOver_22 : decode c_Tr_changeOver 22 = .ok (.invokestatic 205, 3) := by decide +kernel
theorem d_Tr_changeOver_25 : decode c_Tr_changeOver 25 = .ok (.iload_n 1, 1) := by decide +kernel
theorem d_Tr_changeOver_26 : decode c_Tr_changeOver 26 = .ok (.if_icmp .ge 7, 3) := by decide +kernel
theorem d_Tr_changeOver_29 : decode c_Tr_changeOver 29 = .ok (.iconst 1, 1) := by decide +kernel
theorem d_Tr_changeOver_30 : decode c_Tr_changeOver 30 = .ok (.goto 4, 3) := by decide +kernel
theorem d_Tr_changeOver_33 : decode c_Tr_changeOver 33 = .ok (.iconst 0, 1) := by decide +kernel
theorem d_Tr_changeOver_34 : decode c_Tr_changeOver 34 = .ok (.invokevirtual 87, 3) := by decide +kernel
theorem d_Tr_changeOver_37 : decode c_Tr_changeOver 37 = .ok (.astore 6, 2) := by decide +kernel
theorem d_Tr_changeOver_39 : decode c_Tr_changeOver 39 = .ok (.aload 6, 2) := by decide +kernel
theorem d_Tr_changeOver_41 : decode c_Tr_changeOver 41 = .ok (.ifnull 22, 3) := by decide +kernel
theorem d_Tr_changeOver_44 : decode c_Tr_changeOver 44 = .ok (.aload 6, 2) := by decide +kernel
theorem d_Tr_changeOver_46 : decode c_Tr_changeOver 46 = .ok (.getfield 104, 3) := by decide +kernel
theorem d_Tr_changeOver_49 : decode c_Tr_changeOver 49 = .ok (.iload_n 1, 1) := by decide +kernel
theorem d_Tr_changeOver_50 : decode c_Tr_changeOver 50 = .ok (.if_icmp .ne 13, 3) := by decide +kernel
theorem d_Tr_changeOver_53 : decode c_Tr_changeOver 53 = .ok (.aload 6, 2) := by decide +kernel
theorem d_Tr_changeOver_55 : decode c_Tr_changeOver 55 = .ok (.getfield 294, 3) := by decide +kernel
theorem d_Tr_changeOver_58 : decode c_Tr_changeOver 58 = .ok (.iload 5, 2) := by decide +kernel
theorem d_Tr_changeOver_60 : decode c_Tr_changeOver 60 = .ok (.if_icmp .eq 4, 3) := by decide +kernel
theorem d_Tr_changeOver_63 : decode c_Tr_changeOver 63 = .ok (.return_, 1) := by decide +kernel
theorem d_Tr_changeOver_64 : decode c_Tr_changeOver 64 = .ok (.lload_n 2, 1) := by decide +kernel
theorem d_Tr_changeOver_65 : decode c_Tr_changeOver 65 = .ok (.invokestatic 170, 3) := by decide +kernel
theorem d_Tr_changeOver_68 : decode c_Tr_changeOver 68 = .ok (.iconst 1, 1) := by decide +kernel
theorem d_Tr_changeOver_69 : decode c_Tr_changeOver 69 = .ok (.if_icmp .ne 40, 3) := by decide +kernel
theorem d_Tr_changeOver_72 : decode c_Tr_changeOver 72 = .ok (.aload 6, 2) := by decide +kernel
theorem d_Tr_changeOver_74 : decode c_Tr_changeOver 74 = .ok (.getfield 91, 3) := by decide +kernel
theorem d_Tr_changeOver_77 : decode c_Tr_changeOver 77 = .ok (.iconst 5, 1) := by decide +kernel
theorem d_Tr_changeOver_78 : decode c_Tr_changeOver 78 = .ok (.if_icmp .ne 15, 3) := by decide +kernel
theorem d_Tr_changeOver_81 : decode c_Tr_changeOver 81 = .ok (.aload_n 0, 1) := by decide +kernel
theorem d_Tr_changeOver_82 : decode c_Tr_changeOver 82 = .ok (.aload 6, 2) := by decide +kernel
theorem d_Tr_changeOver_84 : decode c_Tr_changeOver 84 = .ok (.invokevirtual 266, 3) := by decide +kernel
theorem d_Tr_changeOver_87 : decode c_Tr_changeOver 87 = .ok (.pop, 1) := by decide +kernel
theorem d_Tr_changeOver_88 : decode c_Tr_changeOver 88 = .ok (.aload_n 0, 1) := by decide +kernel
theorem d_Tr_changeOver_89 : decode c_Tr_changeOver 89 = .ok (.iload_n 1, 1) := by decide +kernel
theorem d_Tr_changeOver_90 : decode c_Tr_changeOver 90 = .ok (.invokevirtual 242, 3) := by decide +kernel
theorem d_Tr_changeOver_93 : decode c_Tr_changeOver 93 = .ok (.aload_n 0, 1) := by decide +kernel
theorem d_Tr_changeOver_94 : decode c_Tr_changeOver 94 = .ok (.iload_n 1, 1) := by decide +kernel
theorem d_Tr_changeOver_95 : decode c_Tr_changeOver 95 = .ok (.aload 6, 2) := by decide +kernel
theorem d_Tr_changeOver_97 : decode c_Tr_changeOver 97 = .ok (.getfield 107, 3) := by decide +kernel
theorem d_Tr_changeOver_100 : decode c_Tr_changeOver 100 = .ok (.aload 6, 2) := by decide +kernel
theorem d_Tr_changeOver_102 : decode c_Tr_changeOver 102 = .ok (.iconst 2, 1) := by decide +kernel
theorem d_Tr_changeOver_103 : decode c_Tr_changeOver 103 = .ok (.invokestatic 270, 3) := by decide +kernel
theorem d_Tr_changeOver_106 : decode c_Tr_changeOver 106 = .ok (.invokevirtual 274, 3) := by decide +kernel
theorem d_Tr_changeOver_109 : decode c_Tr_changeOver 109 = .ok (.aload_n 0, 1) := by decide +kernel
theorem d_Tr_changeOver_110 : decode c_Tr_changeOver 110 = .ok (.aload 6, 2) := by decide +kernel
theorem d_Tr_changeOver_112 : decode c_Tr_changeOver 112 = .ok (.lload_n 2, 1) := by decide +kernel
theorem d_Tr_changeOver_113 : decode c_Tr_changeOver 113 = .ok (.invokestatic 297, 3) := by decide +kernel
theorem d_Tr_changeOver_116 : decode c_Tr_changeOver 116 = .ok (.invokevirtual 300, 3) := by decide +kernel
theorem d_Tr_changeOver_119 : decode c_Tr_changeOver 119 = .ok (.return_, 1) := by decide +kernel
def f_Tr_changeOver_63 (a : Nat) : sn_M := r_V
set_option maxHeartbeats 4000000 in
set_option maxRecDepth 100000 in
theorem mono_Tr_changeOver_63 (a : Nat) : sn_Mono (f_Tr_changeOver_63 a) := sn_Mono.rV
set_option maxHeartbeats 4000000 in
set_option maxRecDepth 100000 in
theorem s_Tr_changeOver_63 {X : sn_X} (C : sn_Cx X c_Tr_changeOver "SignalNetwork$Transfer" none "changeOver" 7 4 105) (a : Nat) : sn_S X 63 [(0, vA (some a))] [] (f_Tr_changeOver_63 a) := by
  unfold f_Tr_changeOver_63
  exact r_vret C d_Tr_changeOver_63 rfl
def f_Tr_changeOver_109 (a : Nat) (l2 : Int64) (r6 : Option Nat) : sn_M := c_I (f_Ms_second l2) fun v1 => n_n 8 (some a) fun a2 => c_V (f_Tr_endChangeover a2 r6 v1) (r_V)
set_option maxHeartbeats 4000000 in
set_option maxRecDepth 100000 in
theorem mono_Tr_changeOver_109 (a : Nat) (l2 : Int64) (r6 : Option Nat) : sn_Mono (f_Tr_changeOver_109 a l2 r6) := sn_Mono.cI (mono_Ms_second l2) (fun v1 => sn_Mono.nn (fun a2 => sn_Mono.cV (mono_Tr_endChangeover a2 r6 v1) (sn_Mono.rV)))
set_option maxHeartbeats 4000000 in
set_option maxRecDepth 100000 in
theorem s_Tr_changeOver_109 {X : sn_X} (C : sn_Cx X c_Tr_changeOver "SignalNetwork$Transfer" none "changeOver" 7 4 105) (a : Nat) (l2 : Int64) (r6 : Option Nat) : sn_S X 109 [(0, vA (some a)), (2, vJ l2), (6, vA r6)] [] (f_Tr_changeOver_109 a l2 r6) := by
  unfold f_Tr_changeOver_109
  refine r_aload_n (q := 110) (i := 0) (pl := 0) C d_Tr_changeOver_109 rfl rfl rfl ?_
  refine r_aload (q := 112) (i := 6) (pl := 2) C d_Tr_changeOver_110 rfl rfl ?_
  refine r_lload_n (q := 113) (i := 2) (pl := 1) C d_Tr_changeOver_112 rfl rfl rfl ?_
  refine r_csI (q := 116) (As := [vJ l2]) (st := [vA r6, vA (some a)]) C d_Tr_changeOver_113 rfl Y_Ms_second L_Tr_297 St_Ms_second rfl (Nat.le_of_ble_eq_true rfl) (Nat.le_of_ble_eq_true rfl) (Nat.le_of_ble_eq_true rfl) rfl (con_Ms_second l2) (fun v1 => ?_)
  refine r_cvV (q := 119) (As := [vA r6, vI v1]) (st := []) (cy := 7) C d_Tr_changeOver_116 rfl Y_Tr_endChangeover L_Tr_300 I_Tr_endChangeover Se_Tr_endChangeover rfl (by decide) rfl (Nat.le_of_ble_eq_true rfl) (Nat.le_of_ble_eq_true rfl) (Nat.le_of_ble_eq_true rfl) rfl (fun a2 => con_Tr_endChangeover a2 r6 v1) ?_
  exact r_vret C d_Tr_changeOver_119 rfl
def f_Tr_changeOver_93 (a : Nat) (x1 : Int32) (l2 : Int64) (r6 : Option Nat) : sn_M := g_I 2 3 r6 fun v4 => c_J (f_Tr_overOf r6 (2 : Int32)) fun v5 => n_n 8 (some a) fun a6 => c_V (f_Tr_goOtherWay a6 x1 v4 v5) (f_Tr_changeOver_109 a l2 r6)
set_option maxHeartbeats 4000000 in
set_option maxRecDepth 100000 in
theorem mono_Tr_changeOver_93 (a : Nat) (x1 : Int32) (l2 : Int64) (r6 : Option Nat) : sn_Mono (f_Tr_changeOver_93 a x1 l2 r6) := sn_Mono.gI (fun v4 => sn_Mono.cJ (mono_Tr_overOf r6 (2 : Int32)) (fun v5 => sn_Mono.nn (fun a6 => sn_Mono.cV (mono_Tr_goOtherWay a6 x1 v4 v5) (mono_Tr_changeOver_109 a l2 r6))))
set_option maxHeartbeats 4000000 in
set_option maxRecDepth 100000 in
theorem s_Tr_changeOver_93 {X : sn_X} (C : sn_Cx X c_Tr_changeOver "SignalNetwork$Transfer" none "changeOver" 7 4 105) (a : Nat) (x1 : Int32) (l2 : Int64) (r6 : Option Nat) : sn_S X 93 [(0, vA (some a)), (1, vI x1), (2, vJ l2), (6, vA r6)] [] (f_Tr_changeOver_93 a x1 l2 r6) := by
  unfold f_Tr_changeOver_93
  refine r_aload_n (q := 94) (i := 0) (pl := 0) C d_Tr_changeOver_93 rfl rfl rfl ?_
  refine r_iload_n (q := 95) (i := 1) (pl := 1) C d_Tr_changeOver_94 rfl rfl rfl ?_
  refine r_aload (q := 97) (i := 6) (pl := 3) C d_Tr_changeOver_95 rfl rfl ?_
  refine r_gI (q := 100) C d_Tr_changeOver_97 rfl F_Tr_107 rfl (fun v4 => ?_)
  refine r_aload (q := 102) (i := 6) (pl := 3) C d_Tr_changeOver_100 rfl rfl ?_
  refine r_iconst (q := 103) (v := 2) C d_Tr_changeOver_102 rfl (by decide) ?_
  refine r_csJ (q := 106) (As := [vA r6, vI (2 : Int32)]) (st := [vI v4, vI x1, vA (some a)]) C d_Tr_changeOver_103 rfl Y_Tr_overOf L_Tr_270 St_Tr_overOf rfl (Nat.le_of_ble_eq_true rfl) (Nat.le_of_ble_eq_true rfl) (Nat.le_of_ble_eq_true rfl) rfl (con_Tr_overOf r6 (2 : Int32)) (fun v5 => ?_)
  refine r_cvV (q := 109) (As := [vI x1, vI v4, vJ v5]) (st := []) (cy := 7) C d_Tr_changeOver_106 rfl Y_Tr_goOtherWay L_Tr_274 I_Tr_goOtherWay Se_Tr_goOtherWay rfl (by decide) rfl (Nat.le_of_ble_eq_true rfl) (Nat.le_of_ble_eq_true rfl) (Nat.le_of_ble_eq_true rfl) rfl (fun a6 => con_Tr_goOtherWay a6 x1 v4 v5) ?_
  refine r_sub (lv' := [(0, vA (some a)), (2, vJ l2), (6, vA r6)]) [0, 2, 3] rfl ?_
  exact s_Tr_changeOver_109 C a l2 r6
def f_Tr_changeOver_34 (a : Nat) (x1 : Int32) (l2 : Int64) (x5 : Int32) (t0 : Option Nat) (t1 : Int32) (t2 : Int32) : sn_M := n_n 8 t0 fun a8 => c_R (f_Tr_endOf a8 t1 t2) fun v9 => (if v9 = none then f_Tr_changeOver_63 a else g_I 2 2 v9 fun v10 => (if ¬ v10 = x1 then f_Tr_changeOver_63 a else g_I 2 10 v9 fun v11 => (if v11 = x5 then c_I (f_Ms_kind l2) fun v12 => (if ¬ v12 = (1 : Int32) then f_Tr_changeOver_109 a l2 v9 else g_I 2 7 v9 fun v13 => (if ¬ v13 = (5 : Int32) then f_Tr_changeOver_93 a x1 l2 v9 else n_n 8 (some a) fun a14 => c_I (f_Tr_takeOut a14 v9) fun v15 => n_n 8 (some a) fun a16 => c_V (f_Tr_look a16 x1) (f_Tr_changeOver_93 a x1 l2 v9))) else f_Tr_changeOver_63 a)))
set_option maxHeartbeats 4000000 in
set_option maxRecDepth 100000 in
theorem mono_Tr_changeOver_34 (a : Nat) (x1 : Int32) (l2 : Int64) (x5 : Int32) (t0 : Option Nat) (t1 : Int32) (t2 : Int32) : sn_Mono (f_Tr_changeOver_34 a x1 l2 x5 t0 t1 t2) := sn_Mono.nn (fun a8 => sn_Mono.cR (mono_Tr_endOf a8 t1 t2) (fun v9 => sn_Mono.ite (mono_Tr_changeOver_63 a) (sn_Mono.gI (fun v10 => sn_Mono.ite (mono_Tr_changeOver_63 a) (sn_Mono.gI (fun v11 => sn_Mono.ite (sn_Mono.cI (mono_Ms_kind l2) (fun v12 => sn_Mono.ite (mono_Tr_changeOver_109 a l2 v9) (sn_Mono.gI (fun v13 => sn_Mono.ite (mono_Tr_changeOver_93 a x1 l2 v9) (sn_Mono.nn (fun a14 => sn_Mono.cI (mono_Tr_takeOut a14 v9) (fun v15 => sn_Mono.nn (fun a16 => sn_Mono.cV (mono_Tr_look a16 x1) (mono_Tr_changeOver_93 a x1 l2 v9))))))))) (mono_Tr_changeOver_63 a)))))))
set_option maxHeartbeats 4000000 in
set_option maxRecDepth 100000 in
theorem s_Tr_changeOver_34 {X : sn_X} (C : sn_Cx X c_Tr_changeOver "SignalNetwork$Transfer" none "changeOver" 7 4 105) (a : Nat) (x1 : Int32) (l2 : Int64) (x5 : Int32) (t0 : Option Nat) (t1 : Int32) (t2 : Int32) : sn_S X 34 [(0, vA (some a)), (1, vI x1), (2, vJ l2), (5, vI x5)] [vI t2, vI t1, vA t0] (f_Tr_changeOver_34 a x1 l2 x5 t0 t1 t2) := by
  unfold f_Tr_changeOver_34
  refine r_cvR (q := 37) (As := [vI t1, vI t2]) (st := []) (cy := 7) C d_Tr_changeOver_34 rfl Y_Tr_endOf L_Tr_87 I_Tr_endOf Se_Tr_endOf rfl (by decide) rfl (Nat.le_of_ble_eq_true rfl) (Nat.le_of_ble_eq_true rfl) (Nat.le_of_ble_eq_true rfl) rfl (fun a8 => con_Tr_endOf a8 t1 t2) (fun v9 => ?_)
  refine r_astore (q := 39) (i := 6) (lv' := [(6, vA v9), (0, vA (some a)), (1, vI x1), (2, vJ l2), (5, vI x5)]) C d_Tr_changeOver_37 rfl (by decide) rfl ?_
  refine r_aload (q := 41) (i := 6) (pl := 0) C d_Tr_changeOver_39 rfl rfl ?_
  refine r_ifnull (tgt := 63) (q := 44) C d_Tr_changeOver_41 (by decide) rfl ?_ ?_
  · refine r_sub (lv' := [(0, vA (some a))]) [1] rfl ?_
    exact s_Tr_changeOver_63 C a
  · refine r_aload (q := 46) (i := 6) (pl := 0) C d_Tr_changeOver_44 rfl rfl ?_
    refine r_gI (q := 49) C d_Tr_changeOver_46 rfl F_Tr_104 rfl (fun v10 => ?_)
    refine r_iload_n (q := 50) (i := 1) (pl := 2) C d_Tr_changeOver_49 rfl rfl rfl ?_
    refine r_icmp_ne (tgt := 63) (q := 53) C d_Tr_changeOver_50 (by decide) rfl ?_ ?_
    · refine r_sub (lv' := [(0, vA (some a))]) [1] rfl ?_
      exact s_Tr_changeOver_63 C a
    · refine r_aload (q := 55) (i := 6) (pl := 0) C d_Tr_changeOver_53 rfl rfl ?_
      refine r_gI (q := 58) C d_Tr_changeOver_55 rfl F_Tr_294 rfl (fun v11 => ?_)
      refine r_iload (q := 60) (i := 5) (pl := 4) C d_Tr_changeOver_58 rfl rfl ?_
      refine r_icmp_eq (tgt := 64) (q := 63) C d_Tr_changeOver_60 (by decide) rfl ?_ ?_
      · refine r_lload_n (q := 65) (i := 2) (pl := 3) C d_Tr_changeOver_64 rfl rfl rfl ?_
        refine r_csI (q := 68) (As := [vJ l2]) (st := []) C d_Tr_changeOver_65 rfl Y_Ms_kind L_Tr_170 St_Ms_kind rfl (Nat.le_of_ble_eq_true rfl) (Nat.le_of_ble_eq_true rfl) (Nat.le_of_ble_eq_true rfl) rfl (con_Ms_kind l2) (fun v12 => ?_)
        refine r_iconst (q := 69) (v := 1) C d_Tr_changeOver_68 rfl (by decide) ?_
        refine r_icmp_ne (tgt := 109) (q := 72) C d_Tr_changeOver_69 (by decide) rfl ?_ ?_
        · refine r_sub (lv' := [(0, vA (some a)), (2, vJ l2), (6, vA v9)]) [1, 3, 0] rfl ?_
          exact s_Tr_changeOver_109 C a l2 v9
        · refine r_aload (q := 74) (i := 6) (pl := 0) C d_Tr_changeOver_72 rfl rfl ?_
          refine r_gI (q := 77) C d_Tr_changeOver_74 rfl F_Tr_91 rfl (fun v13 => ?_)
          refine r_iconst (q := 78) (v := 5) C d_Tr_changeOver_77 rfl (by decide) ?_
          refine r_icmp_ne (tgt := 93) (q := 81) C d_Tr_changeOver_78 (by decide) rfl ?_ ?_
          · refine r_sub (lv' := [(0, vA (some a)), (1, vI x1), (2, vJ l2), (6, vA v9)]) [1, 2, 3, 0] rfl ?_
            exact s_Tr_changeOver_93 C a x1 l2 v9
          · refine r_aload_n (q := 82) (i := 0) (pl := 1) C d_Tr_changeOver_81 rfl rfl rfl ?_
            refine r_aload (q := 84) (i := 6) (pl := 0) C d_Tr_changeOver_82 rfl rfl ?_
            refine r_cvI (q := 87) (As := [vA v9]) (st := []) (cy := 7) C d_Tr_changeOver_84 rfl Y_Tr_takeOut L_Tr_266 I_Tr_takeOut Se_Tr_takeOut rfl (by decide) rfl (Nat.le_of_ble_eq_true rfl) (Nat.le_of_ble_eq_true rfl) (Nat.le_of_ble_eq_true rfl) rfl (fun a14 => con_Tr_takeOut a14 v9) (fun v15 => ?_)
            refine r_pop (q := 88) C d_Tr_changeOver_87 rfl rfl ?_
            refine r_aload_n (q := 89) (i := 0) (pl := 1) C d_Tr_changeOver_88 rfl rfl rfl ?_
            refine r_iload_n (q := 90) (i := 1) (pl := 2) C d_Tr_changeOver_89 rfl rfl rfl ?_
            refine r_cvV (q := 93) (As := [vI x1]) (st := []) (cy := 7) C d_Tr_changeOver_90 rfl Y_Tr_look L_Tr_242 I_Tr_look Se_Tr_look rfl (by decide) rfl (Nat.le_of_ble_eq_true rfl) (Nat.le_of_ble_eq_true rfl) (Nat.le_of_ble_eq_true rfl) rfl (fun a16 => con_Tr_look a16 x1) ?_
            refine r_sub (lv' := [(0, vA (some a)), (1, vI x1), (2, vJ l2), (6, vA v9)]) [1, 2, 3, 0] rfl ?_
            exact s_Tr_changeOver_93 C a x1 l2 v9
      · refine r_sub (lv' := [(0, vA (some a))]) [1] rfl ?_
        exact s_Tr_changeOver_63 C a
def f_Tr_changeOver (a : Nat) (x1 : Int32) (l2 : Int64) : sn_M := c_I (f_Ms_first l2) fun v18 => n_I ((v18 % (16 : Int32))) fun n19 => c_I (f_Ms_first l2) fun v20 => n_I ((v20 / (16 : Int32))) fun n21 => c_I (f_Ms_from l2) fun v22 => (if x1 ≤ v22 then f_Tr_changeOver_34 a x1 l2 n21 (some a) n19 (0 : Int32) else f_Tr_changeOver_34 a x1 l2 n21 (some a) n19 (1 : Int32))
set_option maxHeartbeats 4000000 in
set_option maxRecDepth 100000 in
theorem mono_Tr_changeOver (a : Nat) (x1 : Int32) (l2 : Int64) : sn_Mono (f_Tr_changeOver a x1 l2) := sn_Mono.cI (mono_Ms_first l2) (fun v18 => sn_Mono.nI (fun n19 => sn_Mono.cI (mono_Ms_first l2) (fun v20 => sn_Mono.nI (fun n21 => sn_Mono.cI (mono_Ms_from l2) (fun v22 => sn_Mono.ite (mono_Tr_changeOver_34 a x1 l2 n21 (some a) n19 (0 : Int32)) (mono_Tr_changeOver_34 a x1 l2 n21 (some a) n19 (1 : Int32)))))))
set_option maxHeartbeats 4000000 in
set_option maxRecDepth 100000 in
theorem con_Tr_changeOver (a : Nat) (x1 : Int32) (l2 : Int64) : sn_Con y_Tr_changeOver c_Tr_changeOver 7 none 4 105 [vA (some a), vI x1, vJ l2] (f_Tr_changeOver a x1 l2) := by
  refine sn_Con.of (by decide +kernel) (by show _ ≤ _; exact Nat.le_of_ble_eq_true rfl) (mono_Tr_changeOver a x1 l2) (fun X C => ?_)
  show sn_S X 0 [(0, vA (some a)), (1, vI x1), (2, vJ l2)] [] _
  replace C : sn_Cx X c_Tr_changeOver "SignalNetwork$Transfer" none "changeOver" 7 4 105 := C
  unfold f_Tr_changeOver
  refine r_lload_n (q := 1) (i := 2) (pl := 2) C d_Tr_changeOver_0 rfl rfl rfl ?_
  refine r_csI (q := 4) (As := [vJ l2]) (st := []) C d_Tr_changeOver_1 rfl Y_Ms_first L_Tr_291 St_Ms_first rfl (Nat.le_of_ble_eq_true rfl) (Nat.le_of_ble_eq_true rfl) (Nat.le_of_ble_eq_true rfl) rfl (con_Ms_first l2) (fun v18 => ?_)
  refine r_bipush (q := 6) (v := 16) C d_Tr_changeOver_4 rfl (by decide) ?_
  refine r_iremc (q := 7) C d_Tr_changeOver_6 rfl (by decide) ?_
  refine r_nI (fun n19 => ?_)
  refine r_istore (q := 9) (i := 4) (lv' := [(4, vI n19), (0, vA (some a)), (1, vI x1), (2, vJ l2)]) C d_Tr_changeOver_7 rfl (by decide) rfl ?_
  refine r_lload_n (q := 10) (i := 2) (pl := 3) C d_Tr_changeOver_9 rfl rfl rfl ?_
  refine r_csI (q := 13) (As := [vJ l2]) (st := []) C d_Tr_changeOver_10 rfl Y_Ms_first L_Tr_291 St_Ms_first rfl (Nat.le_of_ble_eq_true rfl) (Nat.le_of_ble_eq_true rfl) (Nat.le_of_ble_eq_true rfl) rfl (con_Ms_first l2) (fun v20 => ?_)
  refine r_bipush (q := 15) (v := 16) C d_Tr_changeOver_13 rfl (by decide) ?_
  refine r_idivc (q := 16) C d_Tr_changeOver_15 rfl (by decide) ?_
  refine r_nI (fun n21 => ?_)
  refine r_istore (q := 18) (i := 5) (lv' := [(5, vI n21), (4, vI n19), (0, vA (some a)), (1, vI x1), (2, vJ l2)]) C d_Tr_changeOver_16 rfl (by decide) rfl ?_
  refine r_aload_n (q := 19) (i := 0) (pl := 2) C d_Tr_changeOver_18 rfl rfl rfl ?_
  refine r_iload (q := 21) (i := 4) (pl := 1) C d_Tr_changeOver_19 rfl rfl ?_
  refine r_lload_n (q := 22) (i := 2) (pl := 4) C d_Tr_changeOver_21 rfl rfl rfl ?_
  refine r_csI (q := 25) (As := [vJ l2]) (st := [vI n19, vA (some a)]) C d_Tr_changeOver_22 rfl Y_Ms_from L_Tr_205 St_Ms_from rfl (Nat.le_of_ble_eq_true rfl) (Nat.le_of_ble_eq_true rfl) (Nat.le_of_ble_eq_true rfl) rfl (con_Ms_from l2) (fun v22 => ?_)
  refine r_iload_n (q := 26) (i := 1) (pl := 3) C d_Tr_changeOver_25 rfl rfl rfl ?_
  refine r_icmp_ge (tgt := 33) (q := 29) C d_Tr_changeOver_26 (by decide) rfl ?_ ?_
  · refine r_iconst (q := 34) (v := 0) C d_Tr_changeOver_33 rfl (by decide) ?_
    refine r_sub (lv' := [(0, vA (some a)), (1, vI x1), (2, vJ l2), (5, vI n21)]) [2, 3, 4, 0] rfl ?_
    exact s_Tr_changeOver_34 C a x1 l2 n21 (some a) n19 (0 : Int32)
  · refine r_iconst (q := 30) (v := 1) C d_Tr_changeOver_29 rfl (by decide) ?_
    refine r_goto (tgt := 34) C d_Tr_changeOver_30 (by decide) ?_
    refine r_sub (lv' := [(0, vA (some a)), (1, vI x1), (2, vJ l2), (5, vI n21)]) [2, 3, 4, 0] rfl ?_
    exact s_Tr_changeOver_34 C a x1 l2 n21 (some a) n19 (1 : Int32)
theorem d_Tr_confirmBack_0 : decode c_Tr_confirmBack 0 = .ok (.lload_n 2, 1) := by decide +kernel
theorem d_Tr_confirmBack_1 : decode c_Tr_confirmBack 1 = .ok (.invokestatic 205, 3) := by decide +kernel
theorem d_Tr_confirmBack_4 : decode c_Tr_confirmBack 4 = .ok (.istore 4, 2) := by decide +kernel
theorem d_Tr_confirmBack_6 : decode c_Tr_confirmBack 6 = .ok (.lload_n 2, 1) := by decide +kernel
theorem d_Tr_confirmBack_7 : decode c_Tr_confirmBack 7 = .ok (.invokestatic 291, 3) := by decide +kernel
theorem d_Tr_confirmBack_10 : decode c_Tr_confirmBack 10 = .ok (.istore 5, 2) := by decide +kernel
theorem d_Tr_confirmBack_12 : decode c_Tr_confirmBack 12 = .ok (.aload_n 0, 1) := by decide +kernel
theorem d_Tr_confirmBack_13 : decode c_Tr_confirmBack 13 = .ok (.iload_n 1, 1) := by decide +kernel
theorem d_Tr_confirmBack_14 : decode c_Tr_confirmBack 14 = .ok (.iload 4, 2) := by decide +kernel
theorem d_Tr_confirmBack_16 : decode c_Tr_confirmBack 16 = .ok (.iconst 4, 1) := by decide +kernel
theorem d_Tr_confirmBack_17 : decode c_Tr_confirmBack 17 = .ok (.iload_n 1, 1) := by decide +kernel
theorem d_Tr_confirmBack_18 : decode c_Tr_confirmBack 18 = .ok (.iload 4, 2) := by decide +kernel
theorem d_Tr_confirmBack_20 : decode c_Tr_confirmBack 20 = .ok (.iload 5, 2) := by decide +kernel
theorem d_Tr_confirmBack_22 : decode c_Tr_confirmBack 22 = .ok (.iload 5, 2) := by decide +kernel
theorem d_Tr_confirmBack_24 : decode c_Tr_confirmBack 24 = .ok (.lload_n 2, 1) := by decide +kernel
theorem d_Tr_confirmBack_25 : decode c_Tr_confirmBack 25 = .ok (.invokestatic 297, 3) := by decide +kernel
theorem d_Tr_confirmBack_28 : decode c_Tr_confirmBack 28 = .ok (.invokestatic 255, 3) := by decide +kernel
theorem d_Tr_confirmBack_31 : decode c_Tr_confirmBack 31 = .ok (.invokevirtual 274, 3) := by decide +kernel
theorem d_Tr_confirmBack_34 : decode c_Tr_confirmBack 34 = .ok (.return_, 1) := by decide +kernel
def f_Tr_confirmBack (a : Nat) (x1 : Int32) (l2 : Int64) : sn_M := c_I (f_Ms_from l2) fun v1 => c_I (f_Ms_first l2) fun v2 => c_I (f_Ms_second l2) fun v3 => c_J (f_Ms_of (4 : Int32) x1 v1 v2 v2 v3) fun v4 => n_n 8 (some a) fun a5 => c_V (f_Tr_goOtherWay a5 x1 v1 v4) (r_V)
set_option maxHeartbeats 4000000 in
set_option maxRecDepth 100000 in
theorem mono_Tr_confirmBack (a : Nat) (x1 : Int32) (l2 : Int64) : sn_Mono (f_Tr_confirmBack a x1 l2) := sn_Mono.cI (mono_Ms_from l2) (fun v1 => sn_Mono.cI (mono_Ms_first l2) (fun v2 => sn_Mono.cI (mono_Ms_second l2) (fun v3 => sn_Mono.cJ (mono_Ms_of (4 : Int32) x1 v1 v2 v2 v3) (fun v4 => sn_Mono.nn (fun a5 => sn_Mono.cV (mono_Tr_goOtherWay a5 x1 v1 v4) (sn_Mono.rV))))))
set_option maxHeartbeats 4000000 in
set_option maxRecDepth 100000 in
theorem con_Tr_confirmBack (a : Nat) (x1 : Int32) (l2 : Int64) : sn_Con y_Tr_confirmBack c_Tr_confirmBack 6 none 3 77 [vA (some a), vI x1, vJ l2] (f_Tr_confirmBack a x1 l2) := by
  refine sn_Con.of (by decide +kernel) (by show _ ≤ _; exact Nat.le_of_ble_eq_true rfl) (mono_Tr_confirmBack a x1 l2) (fun X C => ?_)
  show sn_S X 0 [(0, vA (some a)), (1, vI x1), (2, vJ l2)] [] _
  replace C : sn_Cx X c_Tr_confirmBack "SignalNetwork$Transfer" none "confirmBack" 6 3 77 := C
  unfold f_Tr_confirmBack
  refine r_lload_n (q := 1) (i := 2) (pl := 2) C d_Tr_confirmBack_0 rfl rfl rfl ?_
  refine r_csI (q := 4) (As := [vJ l2]) (st := []) C d_Tr_confirmBack_1 rfl Y_Ms_from L_Tr_205 St_Ms_from rfl (Nat.le_of_ble_eq_true rfl) (Nat.le_of_ble_eq_true rfl) (Nat.le_of_ble_eq_true rfl) rfl (con_Ms_from l2) (fun v1 => ?_)
  refine r_istore (q := 6) (i := 4) (lv' := [(4, vI v1), (0, vA (some a)), (1, vI x1), (2, vJ l2)]) C d_Tr_confirmBack_4 rfl (by decide) rfl ?_
  refine r_lload_n (q := 7) (i := 2) (pl := 3) C d_Tr_confirmBack_6 rfl rfl rfl ?_
  refine r_csI (q := 10) (As := [vJ l2]) (st := []) C d_Tr_confirmBack_7 rfl Y_Ms_first L_Tr_291 St_Ms_first rfl (Nat.le_of_ble_eq_true rfl) (Nat.le_of_ble_eq_true rfl) (Nat.le_of_ble_eq_true rfl) rfl (con_Ms_first l2) (fun v2 => ?_)
  refine r_istore (q := 12) (i := 5) (lv' := [(5, vI v2), (4, vI v1), (0, vA (some a)), (1, vI x1), (2, vJ l2)]) C d_Tr_confirmBack_10 rfl (by decide) rfl ?_
  refine r_aload_n (q := 13) (i := 0) (pl := 2) C d_Tr_confirmBack_12 rfl rfl rfl ?_
  refine r_iload_n (q := 14) (i := 1) (pl := 3) C d_Tr_confirmBack_13 rfl rfl rfl ?_
  refine r_iload (q := 16) (i := 4) (pl := 1) C d_Tr_confirmBack_14 rfl rfl ?_
  refine r_iconst (q := 17) (v := 4) C d_Tr_confirmBack_16 rfl (by decide) ?_
  refine r_iload_n (q := 18) (i := 1) (pl := 3) C d_Tr_confirmBack_17 rfl rfl rfl ?_
  refine r_iload (q := 20) (i := 4) (pl := 1) C d_Tr_confirmBack_18 rfl rfl ?_
  refine r_iload (q := 22) (i := 5) (pl := 0) C d_Tr_confirmBack_20 rfl rfl ?_
  refine r_iload (q := 24) (i := 5) (pl := 0) C d_Tr_confirmBack_22 rfl rfl ?_
  refine r_lload_n (q := 25) (i := 2) (pl := 4) C d_Tr_confirmBack_24 rfl rfl rfl ?_
  refine r_csI (q := 28) (As := [vJ l2]) (st := [vI v2, vI v2, vI v1, vI x1, vI (4 : Int32), vI v1, vI x1, vA (some a)]) C d_Tr_confirmBack_25 rfl Y_Ms_second L_Tr_297 St_Ms_second rfl (Nat.le_of_ble_eq_true rfl) (Nat.le_of_ble_eq_true rfl) (Nat.le_of_ble_eq_true rfl) rfl (con_Ms_second l2) (fun v3 => ?_)
  refine r_csJ (q := 31) (As := [vI (4 : Int32), vI x1, vI v1, vI v2, vI v2, vI v3]) (st := [vI v1, vI x1, vA (some a)]) C d_Tr_confirmBack_28 rfl Y_Ms_of L_Tr_255 St_Ms_of rfl (Nat.le_of_ble_eq_true rfl) (Nat.le_of_ble_eq_true rfl) (Nat.le_of_ble_eq_true rfl) rfl (con_Ms_of (4 : Int32) x1 v1 v2 v2 v3) (fun v4 => ?_)
  refine r_cvV (q := 34) (As := [vI x1, vI v1, vJ v4]) (st := []) (cy := 7) C d_Tr_confirmBack_31 rfl Y_Tr_goOtherWay L_Tr_274 I_Tr_goOtherWay Se_Tr_goOtherWay rfl (by decide) rfl (Nat.le_of_ble_eq_true rfl) (Nat.le_of_ble_eq_true rfl) (Nat.le_of_ble_eq_true rfl) rfl (fun a5 => con_Tr_goOtherWay a5 x1 v1 v4) ?_
  exact r_vret C d_Tr_confirmBack_34 rfl
theorem d_Tr_passOn_0 : decode c_Tr_passOn 0 = .ok (.lload_n 2, 1) := by decide +kernel
theorem d_Tr_passOn_1 : decode c_Tr_passOn 1 = .ok (.invokestatic 188, 3) := by decide +kernel
theorem d_Tr_passOn_4 : decode c_Tr_passOn 4 = .ok (.lstore 4, 2) := by decide +kernel
theorem d_Tr_passOn_6 : decode c_Tr_passOn 6 = .ok (.lload 4, 2) := by decide +kernel
theorem d_Tr_passOn_8 : decode c_Tr_passOn 8 = .ok (.invokestatic 192, 3) := by decide +kernel
theorem d_Tr_passOn_11 : decode c_Tr_passOn 11 = .ok (.bipush 8, 2) := by decide +kernel
theorem d_Tr_passOn_13 : decode c_Tr_passOn 13 = .ok (.if_icmp .lt 14, 3) := by decide +kernel
theorem d_Tr_passOn_16 : decode c_Tr_passOn 16 = .ok (.aload_n 0, 1) := by decide +kernel
theorem d_Tr_passOn_17 : decode c_Tr_passOn 17 = .ok (.dup, 1) := by decide +kernel
theorem d_Tr_passOn_18 : decode c_Tr_passOn 18 = .ok (.getfield 195, 3) := by decide +kernel
theorem d_Tr_passOn_21 : decode c_Tr_passOn 21 = .ok (.iconst 1, 1) := by decide +kernel
theorem d_Tr_passOn_22 : decode c_Tr_passOn 22 = .ok (.iadd, 1) := by decide +kernel
theorem d_Tr_passOn_23 : decode c_Tr_passOn 23 = .ok (.putfield 195, 3) := by decide +kernel
theorem d_Tr_passOn_26 : decode c_Tr_passOn 26 = .ok (.return_, 1) := by decide +kernel
theorem d_Tr_passOn_27 : decode c_Tr_passOn 27 = .ok (.aload_n 0, 1) := by decide +kernel
theorem d_Tr_passOn_28 : decode c_Tr_passOn 28 = .ok (.aload_n 0, 1) := by decide +kernel
theorem d_Tr_passOn_29 : decode c_Tr_passOn 29 = .ok (.iload_n 1, 1) := by decide +kernel
theorem d_Tr_passOn_30 : decode c_Tr_passOn 30 = .ok (.lload_n 2, 1) := by decide +kernel
theorem d_Tr_passOn_31 : decode c_Tr_passOn 31 = .ok (.invokestatic 159, 3) := by decide +kernel
theorem d_Tr_passOn_34 : decode c_Tr_passOn 34 = .ok (.lload_n 2, 1) := by decide +kernel
theorem d_Tr_passOn_35 : decode c_Tr_passOn 35 = .ok (.invokestatic 198, 3) := by decide +kernel
theorem d_Tr_passOn_38 : decode c_Tr_passOn 38 = .ok (.iconst (-1), 1) := by decide +kernel
theorem d_Tr_passOn_39 : decode c_Tr_passOn 39 = .ok (.invokevirtual 72, 3) := by decide +kernel
theorem d_Tr_passOn_42 : decode c_Tr_passOn 42 = .ok (.lload 4, 2) := by decide +kernel
theorem d_Tr_passOn_44 : decode c_Tr_passOn 44 = .ok (.invokevirtual 201, 3) := by decide +kernel
theorem d_Tr_passOn_47 : decode c_Tr_passOn 47 = .ok (.return_, 1) := by decide +kernel
def f_Tr_passOn (a : Nat) (x1 : Int32) (l2 : Int64) : sn_M := c_J (f_Ms_hopped l2) fun v1 => c_I (f_Ms_hops v1) fun v2 => (if v2 < (8 : Int32) then c_I (f_Ms_to l2) fun v3 => c_I (f_Ms_lane l2) fun v4 => n_n 8 (some a) fun a5 => c_R (f_Tr_wayTo a5 x1 v3 v4 (-1 : Int32)) fun v6 => n_n 8 (some a) fun a7 => c_V (f_Tr_give a7 v6 v1) (r_V) else g_I 8 7 (some a) fun v9 => p_I 8 7 (some a) (v9 + (1 : Int32)) (r_V))
set_option maxHeartbeats 4000000 in
set_option maxRecDepth 100000 in
theorem mono_Tr_passOn (a : Nat) (x1 : Int32) (l2 : Int64) : sn_Mono (f_Tr_passOn a x1 l2) := sn_Mono.cJ (mono_Ms_hopped l2) (fun v1 => sn_Mono.cI (mono_Ms_hops v1) (fun v2 => sn_Mono.ite (sn_Mono.cI (mono_Ms_to l2) (fun v3 => sn_Mono.cI (mono_Ms_lane l2) (fun v4 => sn_Mono.nn (fun a5 => sn_Mono.cR (mono_Tr_wayTo a5 x1 v3 v4 (-1 : Int32)) (fun v6 => sn_Mono.nn (fun a7 => sn_Mono.cV (mono_Tr_give a7 v6 v1) (sn_Mono.rV))))))) (sn_Mono.gI (fun v9 => sn_Mono.pI (sn_Mono.rV)))))
set_option maxHeartbeats 4000000 in
set_option maxRecDepth 100000 in
theorem con_Tr_passOn (a : Nat) (x1 : Int32) (l2 : Int64) : sn_Con y_Tr_passOn c_Tr_passOn 6 none 2 52 [vA (some a), vI x1, vJ l2] (f_Tr_passOn a x1 l2) := by
  refine sn_Con.of (by decide +kernel) (by show _ ≤ _; exact Nat.le_of_ble_eq_true rfl) (mono_Tr_passOn a x1 l2) (fun X C => ?_)
  show sn_S X 0 [(0, vA (some a)), (1, vI x1), (2, vJ l2)] [] _
  replace C : sn_Cx X c_Tr_passOn "SignalNetwork$Transfer" none "passOn" 6 2 52 := C
  unfold f_Tr_passOn
  refine r_lload_n (q := 1) (i := 2) (pl := 2) C d_Tr_passOn_0 rfl rfl rfl ?_
  refine r_csJ (q := 4) (As := [vJ l2]) (st := []) C d_Tr_passOn_1 rfl Y_Ms_hopped L_Tr_188 St_Ms_hopped rfl (Nat.le_of_ble_eq_true rfl) (Nat.le_of_ble_eq_true rfl) (Nat.le_of_ble_eq_true rfl) rfl (con_Ms_hopped l2) (fun v1 => ?_)
  refine r_lstore (q := 6) (i := 4) (lv' := [(4, vJ v1), (0, vA (some a)), (1, vI x1), (2, vJ l2)]) C d_Tr_passOn_4 rfl (by decide) rfl ?_
  refine r_lload (q := 8) (i := 4) (pl := 0) C d_Tr_passOn_6 rfl rfl ?_
  refine r_csI (q := 11) (As := [vJ v1]) (st := []) C d_Tr_passOn_8 rfl Y_Ms_hops L_Tr_192 St_Ms_hops rfl (Nat.le_of_ble_eq_true rfl) (Nat.le_of_ble_eq_true rfl) (Nat.le_of_ble_eq_true rfl) rfl (con_Ms_hops v1) (fun v2 => ?_)
  refine r_bipush (q := 13) (v := 8) C d_Tr_passOn_11 rfl (by decide) ?_
  refine r_icmp_lt (tgt := 27) (q := 16) C d_Tr_passOn_13 (by decide) rfl ?_ ?_
  · refine r_aload_n (q := 28) (i := 0) (pl := 1) C d_Tr_passOn_27 rfl rfl rfl ?_
    refine r_aload_n (q := 29) (i := 0) (pl := 1) C d_Tr_passOn_28 rfl rfl rfl ?_
    refine r_iload_n (q := 30) (i := 1) (pl := 2) C d_Tr_passOn_29 rfl rfl rfl ?_
    refine r_lload_n (q := 31) (i := 2) (pl := 3) C d_Tr_passOn_30 rfl rfl rfl ?_
    refine r_csI (q := 34) (As := [vJ l2]) (st := [vI x1, vA (some a), vA (some a)]) C d_Tr_passOn_31 rfl Y_Ms_to L_Tr_159 St_Ms_to rfl (Nat.le_of_ble_eq_true rfl) (Nat.le_of_ble_eq_true rfl) (Nat.le_of_ble_eq_true rfl) rfl (con_Ms_to l2) (fun v3 => ?_)
    refine r_lload_n (q := 35) (i := 2) (pl := 3) C d_Tr_passOn_34 rfl rfl rfl ?_
    refine r_csI (q := 38) (As := [vJ l2]) (st := [vI v3, vI x1, vA (some a), vA (some a)]) C d_Tr_passOn_35 rfl Y_Ms_lane L_Tr_198 St_Ms_lane rfl (Nat.le_of_ble_eq_true rfl) (Nat.le_of_ble_eq_true rfl) (Nat.le_of_ble_eq_true rfl) rfl (con_Ms_lane l2) (fun v4 => ?_)
    refine r_iconst (q := 39) (v := -1) C d_Tr_passOn_38 rfl (by decide) ?_
    refine r_cvR (q := 42) (As := [vI x1, vI v3, vI v4, vI (-1 : Int32)]) (st := [vA (some a)]) (cy := 7) C d_Tr_passOn_39 rfl Y_Tr_wayTo L_Tr_72 I_Tr_wayTo Se_Tr_wayTo rfl (by decide) rfl (Nat.le_of_ble_eq_true rfl) (Nat.le_of_ble_eq_true rfl) (Nat.le_of_ble_eq_true rfl) rfl (fun a5 => con_Tr_wayTo a5 x1 v3 v4 (-1 : Int32)) (fun v6 => ?_)
    refine r_lload (q := 44) (i := 4) (pl := 0) C d_Tr_passOn_42 rfl rfl ?_
    refine r_cvV (q := 47) (As := [vA v6, vJ v1]) (st := []) (cy := 7) C d_Tr_passOn_44 rfl Y_Tr_give L_Tr_201 I_Tr_give Se_Tr_give rfl (by decide) rfl (Nat.le_of_ble_eq_true rfl) (Nat.le_of_ble_eq_true rfl) (Nat.le_of_ble_eq_true rfl) rfl (fun a7 => con_Tr_give a7 v6 v1) ?_
    exact r_vret C d_Tr_passOn_47 rfl
  · refine r_aload_n (q := 17) (i := 0) (pl := 1) C d_Tr_passOn_16 rfl rfl rfl ?_
    refine r_dup (q := 18) C d_Tr_passOn_17 rfl rfl ?_
    refine r_gI (q := 21) C d_Tr_passOn_18 rfl F_Tr_195 rfl (fun v9 => ?_)
    refine r_iconst (q := 22) (v := 1) C d_Tr_passOn_21 rfl (by decide) ?_
    refine r_iadd (q := 23) C d_Tr_passOn_22 rfl ?_
    refine r_pI (q := 26) C d_Tr_passOn_23 rfl F_Tr_195 rfl rfl (Or.inl rfl) ?_
    exact r_vret C d_Tr_passOn_26 rfl
theorem d_Tr_prohibit_0 : decode c_Tr_prohibit 0 = .ok (.lload_n 2, 1) := by decide +kernel
theorem d_Tr_prohibit_1 : decode c_Tr_prohibit 1 = .ok (.invokestatic 291, 3) := by decide +kernel
theorem d_Tr_prohibit_4 : decode c_Tr_prohibit 4 = .ok (.istore 4, 2) := by decide +kernel
theorem d_Tr_prohibit_6 : decode c_Tr_prohibit 6 = .ok (.lload_n 2, 1) := by decide +kernel
theorem d_Tr_prohibit_7 : decode c_Tr_prohibit 7 = .ok (.invokestatic 205, 3) := by decide +kernel
theorem d_Tr_prohibit_10 : decode c_Tr_prohibit 10 = .ok (.istore 5, 2) := by decide +kernel
theorem d_Tr_prohibit_12 : decode c_Tr_prohibit 12 = .ok (.aload_n 0, 1) := by decide +kernel
theorem d_Tr_prohibit_13 : decode c_Tr_prohibit 13 = .ok (.getfield 34, 3) := by decide +kernel
theorem d_Tr_prohibit_16 : decode c_Tr_prohibit 16 = .ok (.iload_n 1, 1) := by decide +kernel
theorem d_Tr_prohibit_17 : decode c_Tr_prohibit 17 = .ok (.iload 5, 2) := by decide +kernel
theorem d_Tr_prohibit_19 : decode c_Tr_prohibit 19 = .ok (.invokevirtual 80, 3) := by decide +kernel
theorem d_Tr_prohibit_22 : decode c_Tr_prohibit 22 = .ok (.ifCond .eq 42, 3) := by decide +kernel
theorem d_Tr_prohibit_25 : decode c_Tr_prohibit 25 = .ok (.iload 4, 2) := by decide +kernel
theorem d_Tr_prohibit_27 : decode c_Tr_prohibit 27 = .ok (.invokestatic 336, 3) := by decide +kernel
theorem d_Tr_prohibit_30 : decode c_Tr_prohibit 30 = .ok (.ifCond .eq 34, 3) := by decide +kernel
theorem d_Tr_prohibit_33 : decode c_Tr_prohibit 33 = .ok (.aload_n 0, 1) := by decide +kernel
theorem d_Tr_prohibit_34 : decode c_Tr_prohibit 34 = .ok (.getfield 26, 3) := by decide +kernel
theorem d_Tr_prohibit_37 : decode c_Tr_prohibit 37 = .ok (.iload_n 1, 1) := by decide +kernel
theorem d_Tr_prohibit_38 : decode c_Tr_prohibit 38 = .ok (.iload 5, 2) := by decide +kernel
theorem d_Tr_prohibit_40 : decode c_Tr_prohibit 40 = .ok (.iload 4, 2) := by decide +kernel
theorem d_Tr_prohibit_42 : decode c_Tr_prohibit 42 = .ok (.invokestatic 83, 3) := by decide +kernel
theorem d_Tr_prohibit_45 : decode c_Tr_prohibit 45 = .ok (.lload_n 2, 1) := by decide +kernel
theorem d_Tr_prohibit_46 : decode c_Tr_prohibit 46 = .ok (.invokestatic 170, 3) := by decide +kernel
theorem d_Tr_prohibit_49 : decode c_Tr_prohibit 49 = .ok (.iconst 5, 1) := by decide +kernel
theorem d_Tr_prohibit_50 : decode c_Tr_prohibit 50 = .ok (.if_icmp .ne 7, 3) := by decide +kernel
theorem d_Tr_prohibit_53 : decode c_Tr_prohibit 53 = .ok (.iconst 1, 1) := by decide +kernel
theorem d_Tr_prohibit_54 : decode c_Tr_prohibit 54 = .ok (.goto 4, 3) := by decide +kernel
theorem d_Tr_prohibit_57 : decode c_Tr_prohibit 57 = .ok (.iconst 0, 1) := by decide +kernel
theorem d_Tr_prohibit_58 : decode c_Tr_prohibit 58 = .ok (.bastore, 1) := by decide +kernel
theorem d_Tr_prohibit_59 : decode c_Tr_prohibit 59 = .ok (.aload_n 0, 1) := by decide +kernel
theorem d_Tr_prohibit_60 : decode c_Tr_prohibit 60 = .ok (.iload_n 1, 1) := by decide +kernel
theorem d_Tr_prohibit_61 : decode c_Tr_prohibit 61 = .ok (.invokevirtual 242, 3) := by decide +kernel
theorem d_Tr_prohibit_64 : decode c_Tr_prohibit 64 = .ok (.return_, 1) := by decide +kernel
def f_Tr_prohibit_64 (a : Nat) : sn_M := r_V
set_option maxHeartbeats 4000000 in
set_option maxRecDepth 100000 in
theorem mono_Tr_prohibit_64 (a : Nat) : sn_Mono (f_Tr_prohibit_64 a) := sn_Mono.rV
set_option maxHeartbeats 4000000 in
set_option maxRecDepth 100000 in
theorem s_Tr_prohibit_64 {X : sn_X} (C : sn_Cx X c_Tr_prohibit "SignalNetwork$Transfer" none "prohibit" 6 3 80) (a : Nat) : sn_S X 64 [(0, vA (some a))] [] (f_Tr_prohibit_64 a) := by
  unfold f_Tr_prohibit_64
  exact r_vret C d_Tr_prohibit_64 rfl
def f_Tr_prohibit_58 (a : Nat) (x1 : Int32) (t0 : Option Nat) (t1 : Int32) (t2 : Int32) : sn_M := b_Z 23 t0 t1 t2 (n_n 8 (some a) fun a1 => c_V (f_Tr_look a1 x1) (f_Tr_prohibit_64 a))
set_option maxHeartbeats 4000000 in
set_option maxRecDepth 100000 in
theorem mono_Tr_prohibit_58 (a : Nat) (x1 : Int32) (t0 : Option Nat) (t1 : Int32) (t2 : Int32) : sn_Mono (f_Tr_prohibit_58 a x1 t0 t1 t2) := sn_Mono.bZ (sn_Mono.nn (fun a1 => sn_Mono.cV (mono_Tr_look a1 x1) (mono_Tr_prohibit_64 a)))
set_option maxHeartbeats 4000000 in
set_option maxRecDepth 100000 in
theorem s_Tr_prohibit_58 {X : sn_X} (C : sn_Cx X c_Tr_prohibit "SignalNetwork$Transfer" none "prohibit" 6 3 80) (a : Nat) (x1 : Int32) (t0 : Option Nat) (t1 : Int32) (t2 : Int32) : sn_S X 58 [(0, vA (some a)), (1, vI x1)] [vI t2, vI t1, vA t0] (f_Tr_prohibit_58 a x1 t0 t1 t2) := by
  unfold f_Tr_prohibit_58
  refine r_bZ (q := 59) C (Or.inl rfl) d_Tr_prohibit_58 rfl ?_
  refine r_aload_n (q := 60) (i := 0) (pl := 0) C d_Tr_prohibit_59 rfl rfl rfl ?_
  refine r_iload_n (q := 61) (i := 1) (pl := 1) C d_Tr_prohibit_60 rfl rfl rfl ?_
  refine r_cvV (q := 64) (As := [vI x1]) (st := []) (cy := 7) C d_Tr_prohibit_61 rfl Y_Tr_look L_Tr_242 I_Tr_look Se_Tr_look rfl (by decide) rfl (Nat.le_of_ble_eq_true rfl) (Nat.le_of_ble_eq_true rfl) (Nat.le_of_ble_eq_true rfl) rfl (fun a1 => con_Tr_look a1 x1) ?_
  refine r_sub (lv' := [(0, vA (some a))]) [0] rfl ?_
  exact s_Tr_prohibit_64 C a
def f_Tr_prohibit (a : Nat) (x1 : Int32) (l2 : Int64) : sn_M := c_I (f_Ms_first l2) fun v3 => c_I (f_Ms_from l2) fun v4 => g_R 8 0 (some a) fun v5 => n_n 5 v5 fun a6 => c_I (f_Pl_areNeighbours a6 x1 v4) fun v7 => (if v7 = 0 then f_Tr_prohibit_64 a else c_I (f_Pl_isExchange v3) fun v8 => (if v8 = 0 then f_Tr_prohibit_64 a else g_R 8 5 (some a) fun v9 => c_I (f_Tr_placeOf x1 v4 v3) fun v10 => c_I (f_Ms_kind l2) fun v11 => (if ¬ v11 = (5 : Int32) then f_Tr_prohibit_58 a x1 v9 v10 (0 : Int32) else f_Tr_prohibit_58 a x1 v9 v10 (1 : Int32))))
set_option maxHeartbeats 4000000 in
set_option maxRecDepth 100000 in
theorem mono_Tr_prohibit (a : Nat) (x1 : Int32) (l2 : Int64) : sn_Mono (f_Tr_prohibit a x1 l2) := sn_Mono.cI (mono_Ms_first l2) (fun v3 => sn_Mono.cI (mono_Ms_from l2) (fun v4 => sn_Mono.gR (fun v5 => sn_Mono.nn (fun a6 => sn_Mono.cI (mono_Pl_areNeighbours a6 x1 v4) (fun v7 => sn_Mono.ite (mono_Tr_prohibit_64 a) (sn_Mono.cI (mono_Pl_isExchange v3) (fun v8 => sn_Mono.ite (mono_Tr_prohibit_64 a) (sn_Mono.gR (fun v9 => sn_Mono.cI (mono_Tr_placeOf x1 v4 v3) (fun v10 => sn_Mono.cI (mono_Ms_kind l2) (fun v11 => sn_Mono.ite (mono_Tr_prohibit_58 a x1 v9 v10 (0 : Int32)) (mono_Tr_prohibit_58 a x1 v9 v10 (1 : Int32)))))))))))))
set_option maxHeartbeats 4000000 in
set_option maxRecDepth 100000 in
theorem con_Tr_prohibit (a : Nat) (x1 : Int32) (l2 : Int64) : sn_Con y_Tr_prohibit c_Tr_prohibit 6 none 3 80 [vA (some a), vI x1, vJ l2] (f_Tr_prohibit a x1 l2) := by
  refine sn_Con.of (by decide +kernel) (by show _ ≤ _; exact Nat.le_of_ble_eq_true rfl) (mono_Tr_prohibit a x1 l2) (fun X C => ?_)
  show sn_S X 0 [(0, vA (some a)), (1, vI x1), (2, vJ l2)] [] _
  replace C : sn_Cx X c_Tr_prohibit "SignalNetwork$Transfer" none "prohibit" 6 3 80 := C
  unfold f_Tr_prohibit
  refine r_lload_n (q := 1) (i := 2) (pl := 2) C d_Tr_prohibit_0 rfl rfl rfl ?_
  refine r_csI (q := 4) (As := [vJ l2]) (st := []) C d_Tr_prohibit_1 rfl Y_Ms_first L_Tr_291 St_Ms_first rfl (Nat.le_of_ble_eq_true rfl) (Nat.le_of_ble_eq_true rfl) (Nat.le_of_ble_eq_true rfl) rfl (con_Ms_first l2) (fun v3 => ?_)
  refine r_istore (q := 6) (i := 4) (lv' := [(4, vI v3), (0, vA (some a)), (1, vI x1), (2, vJ l2)]) C d_Tr_prohibit_4 rfl (by decide) rfl ?_
  refine r_lload_n (q := 7) (i := 2) (pl := 3) C d_Tr_prohibit_6 rfl rfl rfl ?_
  refine r_csI (q := 10) (As := [vJ l2]) (st := []) C d_Tr_prohibit_7 rfl Y_Ms_from L_Tr_205 St_Ms_from rfl (Nat.le_of_ble_eq_true rfl) (Nat.le_of_ble_eq_true rfl) (Nat.le_of_ble_eq_true rfl) rfl (con_Ms_from l2) (fun v4 => ?_)
  refine r_istore (q := 12) (i := 5) (lv' := [(5, vI v4), (4, vI v3), (0, vA (some a)), (1, vI x1), (2, vJ l2)]) C d_Tr_prohibit_10 rfl (by decide) rfl ?_
  refine r_aload_n (q := 13) (i := 0) (pl := 2) C d_Tr_prohibit_12 rfl rfl rfl ?_
  refine r_gR (q := 16) C d_Tr_prohibit_13 rfl F_Tr_34 rfl (fun v5 => ?_)
  refine r_iload_n (q := 17) (i := 1) (pl := 3) C d_Tr_prohibit_16 rfl rfl rfl ?_
  refine r_iload (q := 19) (i := 5) (pl := 0) C d_Tr_prohibit_17 rfl rfl ?_
  refine r_cvI (q := 22) (As := [vI x1, vI v4]) (st := []) (cy := 4) C d_Tr_prohibit_19 rfl Y_Pl_areNeighbours L_Tr_80 I_Pl_areNeighbours Se_Pl_areNeighbours rfl (by decide) rfl (Nat.le_of_ble_eq_true rfl) (Nat.le_of_ble_eq_true rfl) (Nat.le_of_ble_eq_true rfl) rfl (fun a6 => con_Pl_areNeighbours a6 x1 v4) (fun v7 => ?_)
  refine r_if_eq (tgt := 64) (q := 25) C d_Tr_prohibit_22 (by decide) rfl ?_ ?_
  · refine r_sub (lv' := [(0, vA (some a))]) [2] rfl ?_
    exact s_Tr_prohibit_64 C a
  · refine r_iload (q := 27) (i := 4) (pl := 1) C d_Tr_prohibit_25 rfl rfl ?_
    refine r_csI (q := 30) (As := [vI v3]) (st := []) C d_Tr_prohibit_27 rfl Y_Pl_isExchange L_Tr_336 St_Pl_isExchange rfl (Nat.le_of_ble_eq_true rfl) (Nat.le_of_ble_eq_true rfl) (Nat.le_of_ble_eq_true rfl) rfl (con_Pl_isExchange v3) (fun v8 => ?_)
    refine r_if_eq (tgt := 64) (q := 33) C d_Tr_prohibit_30 (by decide) rfl ?_ ?_
    · refine r_sub (lv' := [(0, vA (some a))]) [2] rfl ?_
      exact s_Tr_prohibit_64 C a
    · refine r_aload_n (q := 34) (i := 0) (pl := 2) C d_Tr_prohibit_33 rfl rfl rfl ?_
      refine r_gR (q := 37) C d_Tr_prohibit_34 rfl F_Tr_26 rfl (fun v9 => ?_)
      refine r_iload_n (q := 38) (i := 1) (pl := 3) C d_Tr_prohibit_37 rfl rfl rfl ?_
      refine r_iload (q := 40) (i := 5) (pl := 0) C d_Tr_prohibit_38 rfl rfl ?_
      refine r_iload (q := 42) (i := 4) (pl := 1) C d_Tr_prohibit_40 rfl rfl ?_
      refine r_csI (q := 45) (As := [vI x1, vI v4, vI v3]) (st := [vA v9]) C d_Tr_prohibit_42 rfl Y_Tr_placeOf L_Tr_83 St_Tr_placeOf rfl (Nat.le_of_ble_eq_true rfl) (Nat.le_of_ble_eq_true rfl) (Nat.le_of_ble_eq_true rfl) rfl (con_Tr_placeOf x1 v4 v3) (fun v10 => ?_)
      refine r_lload_n (q := 46) (i := 2) (pl := 4) C d_Tr_prohibit_45 rfl rfl rfl ?_
      refine r_csI (q := 49) (As := [vJ l2]) (st := [vI v10, vA v9]) C d_Tr_prohibit_46 rfl Y_Ms_kind L_Tr_170 St_Ms_kind rfl (Nat.le_of_ble_eq_true rfl) (Nat.le_of_ble_eq_true rfl) (Nat.le_of_ble_eq_true rfl) rfl (con_Ms_kind l2) (fun v11 => ?_)
      refine r_iconst (q := 50) (v := 5) C d_Tr_prohibit_49 rfl (by decide) ?_
      refine r_icmp_ne (tgt := 57) (q := 53) C d_Tr_prohibit_50 (by decide) rfl ?_ ?_
      · refine r_iconst (q := 58) (v := 0) C d_Tr_prohibit_57 rfl (by decide) ?_
        refine r_sub (lv' := [(0, vA (some a)), (1, vI x1)]) [2, 3] rfl ?_
        exact s_Tr_prohibit_58 C a x1 v9 v10 (0 : Int32)
      · refine r_iconst (q := 54) (v := 1) C d_Tr_prohibit_53 rfl (by decide) ?_
        refine r_goto (tgt := 58) C d_Tr_prohibit_54 (by decide) ?_
        refine r_sub (lv' := [(0, vA (some a)), (1, vI x1)]) [2, 3] rfl ?_
        exact s_Tr_prohibit_58 C a x1 v9 v10 (1 : Int32)
theorem d_Tr_get_0 : decode c_Tr_get 0 = .ok (.aload_n 0, 1) := by decide +kernel
theorem d_Tr_get_1 : decode c_Tr_get 1 = .ok (.iload_n 1, 1) := by decide +kernel
theorem d_Tr_get_2 : decode c_Tr_get 2 = .ok (.iconst 2, 1) := by decide +kernel
theorem d_Tr_get_3 : decode c_Tr_get 3 = .ok (.idiv, 1) := by decide +kernel
theorem d_Tr_get_4 : decode c_Tr_get 4 = .ok (.iload_n 1, 1) := by decide +kernel
theorem d_Tr_get_5 : decode c_Tr_get 5 = .ok (.iconst 2, 1) := by decide +kernel
theorem d_Tr_get_6 : decode c_Tr_get 6 = .ok (.irem, 1) := by decide +kernel
theorem d_Tr_get_7 : decode c_Tr_get 7 = .ok (.invokevirtual 87, 3) := by decide +kernel
theorem d_Tr_get_10 : decode c_Tr_get 10 = .ok (.astore 4, 2) := by decide +kernel
theorem d_Tr_get_12 : decode c_Tr_get 12 = .ok (.aload 4, 2) := by decide +kernel
theorem d_Tr_get_14 : decode c_Tr_get 14 = .ok (.ifnonnull 7, 3) := by decide +kernel
theorem d_Tr_get_17 : decode c_Tr_get 17 = .ok (.iconst (-1), 1) := by decide +kernel
theorem d_Tr_get_18 : decode c_Tr_get 18 = .ok (.goto 8, 3) := by decide +kernel
theorem d_Tr_get_21 : decode c_Tr_get 21 = .ok (.aload 4, 2) := by decide +kernel
theorem d_Tr_get_23 : decode c_Tr_get 23 = .ok (.getfield 104, 3) := by decide +kernel
theorem d_Tr_get_26 : decode c_Tr_get 26 = .ok (.istore 5, 2) := by decide +kernel
theorem d_Tr_get_28 : decode c_Tr_get 28 = .ok (.lload_n 2, 1) := by decide +kernel
theorem d_Tr_get_29 : decode c_Tr_get 29 = .ok (.invokestatic 159, 3) := by decide +kernel
theorem d_Tr_get_32 : decode c_Tr_get 32 = .ok (.iload 5, 2) := by decide +kernel
theorem d_Tr_get_34 : decode c_Tr_get 34 = .ok (.if_icmp .eq 12, 3) := by decide +kernel
theorem d_Tr_get_37 : decode c_Tr_get 37 = .ok (.aload_n 0, 1) := by decide +kernel
theorem d_Tr_get_38 : decode c_Tr_get 38 = .ok (.iload 5, 2) := by decide +kernel
theorem d_Tr_get_40 : decode c_Tr_get 40 = .ok (.lload_n 2, 1) := by decide +kernel
theorem d_Tr_get_41 : decode c_Tr_get 41 = .ok (.invokevirtual 163, 3) := by decide +kernel
theorem d_Tr_get_44 : decode c_Tr_get 44 = .ok (.iconst 0, 1) := by decide +kernel
theorem d_Tr_get_45 : decode c_Tr_get 45 = .ok (.ireturn, 1) := by decide +kernel
theorem d_Tr_get_46 : decode c_Tr_get 46 = .ok (.aload_n 0, 1) := by decide +kernel
theorem d_Tr_get_47 : decode c_Tr_get 47 = .ok (.dup, 1) := by decide +kernel
theorem d_Tr_get_48 : decode c_Tr_get 48 = .ok (.getfield 167, 3) := by decide +kernel
theorem d_Tr_get_51 : decode c_Tr_get 51 = .ok (.iconst 1, 1) := by decide +kernel
theorem d_Tr_get_52 : decode c_Tr_get 52 = .ok (.iadd, 1) := by decide +kernel
theorem d_Tr_get_53 : decode c_Tr_get 53 = .ok (.putfield 167, 3) := by decide +kernel
theorem d_Tr_get_56 : decode c_Tr_get 56 = .ok (.aload_n 0, 1) := by decide +kernel
theorem d_Tr_get_57 : decode c_Tr_get 57 = .ok (.lload_n 2, 1) := by decide +kernel
theorem d_Tr_get_58 : decode c_Tr_get 58 = .ok (.invokestatic 170, 3) := by decide +kernel
theorem d_Tr_get_61 : decode c_Tr_get 61 = .ok (.putfield 173, 3) := by decide +kernel
theorem d_Tr_get_64 : decode c_Tr_get 64 = .ok (.aload_n 0, 1) := by decide +kernel
theorem d_Tr_get_65 : decode c_Tr_get 65 = .ok (.getfield 173, 3) := by decide +kernel
theorem d_Tr_get_68 : decode c_Tr_get 68 = .ok (.tableswitch 76 1 6 #[40, 40, 49, 58, 67, 67], 40) := by decide +kernel
theorem d_Tr_get_108 : decode c_Tr_get 108 = .ok (.aload_n 0, 1) := by decide +kernel
theorem d_Tr_get_109 : decode c_Tr_get 109 = .ok (.iload 5, 2) := by decide +kernel
theorem d_Tr_get_111 : decode c_Tr_get 111 = .ok (.lload_n 2, 1) := by decide +kernel
theorem d_Tr_get_112 : decode c_Tr_get 112 = .ok (.invokevirtual 176, 3) := by decide +kernel
theorem d_Tr_get_115 : decode c_Tr_get 115 = .ok (.iconst 0, 1) := by decide +kernel
theorem d_Tr_get_116 : decode c_Tr_get 116 = .ok (.ireturn, 1) := by decide +kernel
theorem d_Tr_get_117 : decode c_Tr_get 117 = .ok (.aload_n 0, 1) := by decide +kernel
theorem d_Tr_get_118 : decode c_Tr_get 118 = .ok (.iload 5, 2) := by decide +kernel
theorem d_Tr_get_120 : decode c_Tr_get 120 = .ok (.lload_n 2, 1) := by decide +kernel
theorem d_Tr_get_121 : decode c_Tr_get 121 = .ok (.invokevirtual 179, 3) := by decide +kernel
theorem d_Tr_get_124 : decode c_Tr_get 124 = .ok (.iconst 0, 1) := by decide +kernel
theorem d_Tr_get_125 : decode c_Tr_get 125 = .ok (.ireturn, 1) := by decide +kernel
theorem d_Tr_get_126 : decode c_Tr_get 126 = .ok (.aload_n 0, 1) := by decide +kernel
theorem d_Tr_get_127 : decode c_Tr_get 127 = .ok (.iload 5, 2) := by decide +kernel
theorem d_Tr_get_129 : decode c_Tr_get 129 = .ok (.lload_n 2, 1) := by decide +kernel
theorem d_Tr_get_130 : decode c_Tr_get 130 = .ok (.invokevirtual 182, 3) := by decide +kernel
theorem d_Tr_get_133 : decode c_Tr_get 133 = .ok (.iconst 0, 1) := by decide +kernel
theorem d_Tr_get_134 : decode c_Tr_get 134 = .ok (.ireturn, 1) := by decide +kernel
theorem d_Tr_get_135 : decode c_Tr_get 135 = .ok (.aload_n 0, 1) := by decide +kernel
theorem d_Tr_get_136 : decode c_Tr_get 136 = .ok (.iload 5, 2) := by decide +kernel
theorem d_Tr_get_138 : decode c_Tr_get 138 = .ok (.lload_n 2, 1) := by decide +kernel
theorem d_Tr_get_139 : decode c_Tr_get 139 = .ok (.invokevirtual 185, 3) := by decide +kernel
theorem d_Tr_get_142 : decode c_Tr_get 142 = .ok (.iconst 0, 1) := by decide +kernel
theorem d_Tr_get_143 : decode c_Tr_get 143 = .ok (.ireturn, 1) := by decide +kernel
theorem d_Tr_get_144 : decode c_Tr_get 144 = .ok (.iconst 1, 1) := by decide +kernel
theorem d_Tr_get_145 : decode c_Tr_get 145 = .ok (.ireturn, 1) := by decide +kernel
def f_Tr_get_108 (a : Nat) (l2 : Int64) (x5 : Int32) : sn_M := n_n 8 (some a) fun a1 => c_V (f_Tr_changeOver a1 x5 l2) (r_Z (0 : Int32))
set_option maxHeartbeats 4000000 in
set_option maxRecDepth 100000 in
theorem mono_Tr_get_108 (a : Nat) (l2 : Int64) (x5 : Int32) : sn_Mono (f_Tr_get_108 a l2 x5) := sn_Mono.nn (fun a1 => sn_Mono.cV (mono_Tr_changeOver a1 x5 l2) (sn_Mono.rZ))
set_option maxHeartbeats 4000000 in
set_option maxRecDepth 100000 in
theorem s_Tr_get_108 {X : sn_X} (C : sn_Cx X c_Tr_get "SignalNetwork$Transfer" (some .boolean) "get" 6 5 131) (a : Nat) (l2 : Int64) (x5 : Int32) : sn_S X 108 [(0, vA (some a)), (2, vJ l2), (5, vI x5)] [] (f_Tr_get_108 a l2 x5) := by
  unfold f_Tr_get_108
  refine r_aload_n (q := 109) (i := 0) (pl := 0) C d_Tr_get_108 rfl rfl rfl ?_
  refine r_iload (q := 111) (i := 5) (pl := 2) C d_Tr_get_109 rfl rfl ?_
  refine r_lload_n (q := 112) (i := 2) (pl := 1) C d_Tr_get_111 rfl rfl rfl ?_
  refine r_cvV (q := 115) (As := [vI x5, vJ l2]) (st := []) (cy := 7) C d_Tr_get_112 rfl Y_Tr_changeOver L_Tr_176 I_Tr_changeOver Se_Tr_changeOver rfl (by decide) rfl (Nat.le_of_ble_eq_true rfl) (Nat.le_of_ble_eq_true rfl) (Nat.le_of_ble_eq_true rfl) rfl (fun a1 => con_Tr_changeOver a1 x5 l2) ?_
  refine r_iconst (q := 116) (v := 0) C d_Tr_get_115 rfl (by decide) ?_
  exact r_zret C d_Tr_get_116 rfl
def f_Tr_get_135 (a : Nat) (l2 : Int64) (x5 : Int32) : sn_M := n_n 8 (some a) fun a3 => c_V (f_Tr_prohibit a3 x5 l2) (r_Z (0 : Int32))
set_option maxHeartbeats 4000000 in
set_option maxRecDepth 100000 in
theorem mono_Tr_get_135 (a : Nat) (l2 : Int64) (x5 : Int32) : sn_Mono (f_Tr_get_135 a l2 x5) := sn_Mono.nn (fun a3 => sn_Mono.cV (mono_Tr_prohibit a3 x5 l2) (sn_Mono.rZ))
set_option maxHeartbeats 4000000 in
set_option maxRecDepth 100000 in
theorem s_Tr_get_135 {X : sn_X} (C : sn_Cx X c_Tr_get "SignalNetwork$Transfer" (some .boolean) "get" 6 5 131) (a : Nat) (l2 : Int64) (x5 : Int32) : sn_S X 135 [(0, vA (some a)), (2, vJ l2), (5, vI x5)] [] (f_Tr_get_135 a l2 x5) := by
  unfold f_Tr_get_135
  refine r_aload_n (q := 136) (i := 0) (pl := 0) C d_Tr_get_135 rfl rfl rfl ?_
  refine r_iload (q := 138) (i := 5) (pl := 2) C d_Tr_get_136 rfl rfl ?_
  refine r_lload_n (q := 139) (i := 2) (pl := 1) C d_Tr_get_138 rfl rfl rfl ?_
  refine r_cvV (q := 142) (As := [vI x5, vJ l2]) (st := []) (cy := 7) C d_Tr_get_139 rfl Y_Tr_prohibit L_Tr_185 I_Tr_prohibit Se_Tr_prohibit rfl (by decide) rfl (Nat.le_of_ble_eq_true rfl) (Nat.le_of_ble_eq_true rfl) (Nat.le_of_ble_eq_true rfl) rfl (fun a3 => con_Tr_prohibit a3 x5 l2) ?_
  refine r_iconst (q := 143) (v := 0) C d_Tr_get_142 rfl (by decide) ?_
  exact r_zret C d_Tr_get_143 rfl
def f_Tr_get_26 (a : Nat) (l2 : Int64) (t0 : Int32) : sn_M := c_I (f_Ms_to l2) fun v5 => (if v5 = t0 then g_I 8 8 (some a) fun v6 => p_I 8 8 (some a) (v6 + (1 : Int32)) (c_I (f_Ms_kind l2) fun v7 => p_I 8 9 (some a) v7 (g_I 8 9 (some a) fun v8 => (sn_sw v8 [1, 2, 3, 4, 5, 6] [(f_Tr_get_108 a l2 t0), (f_Tr_get_108 a l2 t0), (n_n 8 (some a) fun a9 => c_V (f_Tr_confirmBack a9 t0 l2) (r_Z (0 : Int32))), (n_n 8 (some a) fun a11 => c_V (f_Tr_changeBack a11 t0 l2) (r_Z (0 : Int32))), (f_Tr_get_135 a l2 t0), (f_Tr_get_135 a l2 t0)] (r_Z (1 : Int32))))) else n_n 8 (some a) fun a13 => c_V (f_Tr_passOn a13 t0 l2) (r_Z (0 : Int32)))
set_option maxHeartbeats 4000000 in
set_option maxRecDepth 100000 in
theorem mono_Tr_get_26 (a : Nat) (l2 : Int64) (t0 : Int32) : sn_Mono (f_Tr_get_26 a l2 t0) := sn_Mono.cI (mono_Ms_to l2) (fun v5 => sn_Mono.ite (sn_Mono.gI (fun v6 => sn_Mono.pI (sn_Mono.cI (mono_Ms_kind l2) (fun v7 => sn_Mono.pI (sn_Mono.gI (fun v8 => sn_sw_mono (sn_Mono.rZ) _ _ (List.forall_mem_cons.mpr ⟨mono_Tr_get_108 a l2 t0, (List.forall_mem_cons.mpr ⟨mono_Tr_get_108 a l2 t0, (List.forall_mem_cons.mpr ⟨sn_Mono.nn (fun a9 => sn_Mono.cV (mono_Tr_confirmBack a9 t0 l2) (sn_Mono.rZ)), (List.forall_mem_cons.mpr ⟨sn_Mono.nn (fun a11 => sn_Mono.cV (mono_Tr_changeBack a11 t0 l2) (sn_Mono.rZ)), (List.forall_mem_cons.mpr ⟨mono_Tr_get_135 a l2 t0, (List.forall_mem_cons.mpr ⟨mono_Tr_get_135 a l2 t0, (fun _ h => absurd h List.not_mem_nil)⟩)⟩)⟩)⟩)⟩)⟩))))))) (sn_Mono.nn (fun a13 => sn_Mono.cV (mono_Tr_passOn a13 t0 l2) (sn_Mono.rZ))))
set_option maxHeartbeats 4000000 in
set_option maxRecDepth 100000 in
theorem s_Tr_get_26 {X : sn_X} (C : sn_Cx X c_Tr_get "SignalNetwork$Transfer" (some .boolean) "get" 6 5 131) (a : Nat) (l2 : Int64) (t0 : Int32) : sn_S X 26 [(0, vA (some a)), (2, vJ l2)] [vI t0] (f_Tr_get_26 a l2 t0) := by
  unfold f_Tr_get_26
  refine r_istore (q := 28) (i := 5) (lv' := [(5, vI t0), (0, vA (some a)), (2, vJ l2)]) C d_Tr_get_26 rfl (by decide) rfl ?_
  refine r_lload_n (q := 29) (i := 2) (pl := 2) C d_Tr_get_28 rfl rfl rfl ?_
  refine r_csI (q := 32) (As := [vJ l2]) (st := []) C d_Tr_get_29 rfl Y_Ms_to L_Tr_159 St_Ms_to rfl (Nat.le_of_ble_eq_true rfl) (Nat.le_of_ble_eq_true rfl) (Nat.le_of_ble_eq_true rfl) rfl (con_Ms_to l2) (fun v5 => ?_)
  refine r_iload (q := 34) (i := 5) (pl := 0) C d_Tr_get_32 rfl rfl ?_
  refine r_icmp_eq (tgt := 46) (q := 37) C d_Tr_get_34 (by decide) rfl ?_ ?_
  · refine r_aload_n (q := 47) (i := 0) (pl := 1) C d_Tr_get_46 rfl rfl rfl ?_
    refine r_dup (q := 48) C d_Tr_get_47 rfl rfl ?_
    refine r_gI (q := 51) C d_Tr_get_48 rfl F_Tr_167 rfl (fun v6 => ?_)
    refine r_iconst (q := 52) (v := 1) C d_Tr_get_51 rfl (by decide) ?_
    refine r_iadd (q := 53) C d_Tr_get_52 rfl ?_
    refine r_pI (q := 56) C d_Tr_get_53 rfl F_Tr_167 rfl rfl (Or.inl rfl) ?_
    refine r_aload_n (q := 57) (i := 0) (pl := 1) C d_Tr_get_56 rfl rfl rfl ?_
    refine r_lload_n (q := 58) (i := 2) (pl := 2) C d_Tr_get_57 rfl rfl rfl ?_
    refine r_csI (q := 61) (As := [vJ l2]) (st := [vA (some a)]) C d_Tr_get_58 rfl Y_Ms_kind L_Tr_170 St_Ms_kind rfl (Nat.le_of_ble_eq_true rfl) (Nat.le_of_ble_eq_true rfl) (Nat.le_of_ble_eq_true rfl) rfl (con_Ms_kind l2) (fun v7 => ?_)
    refine r_pI (q := 64) C d_Tr_get_61 rfl F_Tr_173 rfl rfl (Or.inl rfl) ?_
    refine r_aload_n (q := 65) (i := 0) (pl := 1) C d_Tr_get_64 rfl rfl rfl ?_
    refine r_gI (q := 68) C d_Tr_get_65 rfl F_Tr_173 rfl (fun v8 => ?_)
    refine r_table (tD := 144) (ks := [1, 2, 3, 4, 5, 6]) (ts := [108, 108, 117, 126, 135, 135]) C d_Tr_get_68 (by decide) (by decide) rfl ?_ ⟨?_, ?_, ?_, ?_, ?_, ?_, trivial⟩
    · refine r_iconst (q := 145) (v := 1) C d_Tr_get_144 rfl (by decide) ?_
      exact r_zret C d_Tr_get_145 rfl
    · refine r_sub (lv' := [(0, vA (some a)), (2, vJ l2), (5, vI t0)]) [1, 2, 0] rfl ?_
      exact s_Tr_get_108 C a l2 t0
    · refine r_sub (lv' := [(0, vA (some a)), (2, vJ l2), (5, vI t0)]) [1, 2, 0] rfl ?_
      exact s_Tr_get_108 C a l2 t0
    · refine r_aload_n (q := 118) (i := 0) (pl := 1) C d_Tr_get_117 rfl rfl rfl ?_
      refine r_iload (q := 120) (i := 5) (pl := 0) C d_Tr_get_118 rfl rfl ?_
      refine r_lload_n (q := 121) (i := 2) (pl := 2) C d_Tr_get_120 rfl rfl rfl ?_
      refine r_cvV (q := 124) (As := [vI t0, vJ l2]) (st := []) (cy := 7) C d_Tr_get_121 rfl Y_Tr_confirmBack L_Tr_179 I_Tr_confirmBack Se_Tr_confirmBack rfl (by decide) rfl (Nat.le_of_ble_eq_true rfl) (Nat.le_of_ble_eq_true rfl) (Nat.le_of_ble_eq_true rfl) rfl (fun a9 => con_Tr_confirmBack a9 t0 l2) ?_
      refine r_iconst (q := 125) (v := 0) C d_Tr_get_124 rfl (by decide) ?_
      exact r_zret C d_Tr_get_125 rfl
    · refine r_aload_n (q := 127) (i := 0) (pl := 1) C d_Tr_get_126 rfl rfl rfl ?_
      refine r_iload (q := 129) (i := 5) (pl := 0) C d_Tr_get_127 rfl rfl ?_
      refine r_lload_n (q := 130) (i := 2) (pl := 2) C d_Tr_get_129 rfl rfl rfl ?_
      refine r_cvV (q := 133) (As := [vI t0, vJ l2]) (st := []) (cy := 7) C d_Tr_get_130 rfl Y_Tr_changeBack L_Tr_182 I_Tr_changeBack Se_Tr_changeBack rfl (by decide) rfl (Nat.le_of_ble_eq_true rfl) (Nat.le_of_ble_eq_true rfl) (Nat.le_of_ble_eq_true rfl) rfl (fun a11 => con_Tr_changeBack a11 t0 l2) ?_
      refine r_iconst (q := 134) (v := 0) C d_Tr_get_133 rfl (by decide) ?_
      exact r_zret C d_Tr_get_134 rfl
    · refine r_sub (lv' := [(0, vA (some a)), (2, vJ l2), (5, vI t0)]) [1, 2, 0] rfl ?_
      exact s_Tr_get_135 C a l2 t0
    · refine r_sub (lv' := [(0, vA (some a)), (2, vJ l2), (5, vI t0)]) [1, 2, 0] rfl ?_
      exact s_Tr_get_135 C a l2 t0
  · refine r_aload_n (q := 38) (i := 0) (pl := 1) C d_Tr_get_37 rfl rfl rfl ?_
    refine r_iload (q := 40) (i := 5) (pl := 0) C d_Tr_get_38 rfl rfl ?_
    refine r_lload_n (q := 41) (i := 2) (pl := 2) C d_Tr_get_40 rfl rfl rfl ?_
    refine r_cvV (q := 44) (As := [vI t0, vJ l2]) (st := []) (cy := 7) C d_Tr_get_41 rfl Y_Tr_passOn L_Tr_163 I_Tr_passOn Se_Tr_passOn rfl (by decide) rfl (Nat.le_of_ble_eq_true rfl) (Nat.le_of_ble_eq_true rfl) (Nat.le_of_ble_eq_true rfl) rfl (fun a13 => con_Tr_passOn a13 t0 l2) ?_
    refine r_iconst (q := 45) (v := 0) C d_Tr_get_44 rfl (by decide) ?_
    exact r_zret C d_Tr_get_45 rfl
def f_Tr_get (a : Nat) (x1 : Int32) (l2 : Int64) : sn_M := n_n 8 (some a) fun a15 => c_R (f_Tr_endOf a15 (x1 / (2 : Int32)) (x1 % (2 : Int32))) fun v16 => (if ¬ v16 = none then g_I 2 2 v16 fun v17 => f_Tr_get_26 a l2 v17 else f_Tr_get_26 a l2 (-1 : Int32))
set_option maxHeartbeats 4000000 in
set_option maxRecDepth 100000 in
theorem mono_Tr_get (a : Nat) (x1 : Int32) (l2 : Int64) : sn_Mono (f_Tr_get a x1 l2) := sn_Mono.nn (fun a15 => sn_Mono.cR (mono_Tr_endOf a15 (x1 / (2 : Int32)) (x1 % (2 : Int32))) (fun v16 => sn_Mono.ite (sn_Mono.gI (fun v17 => mono_Tr_get_26 a l2 v17)) (mono_Tr_get_26 a l2 (-1 : Int32))))
set_option maxHeartbeats 4000000 in
set_option maxRecDepth 100000 in
theorem con_Tr_get (a : Nat) (x1 : Int32) (l2 : Int64) : sn_Con y_Tr_get c_Tr_get 6 (some .boolean) 5 131 [vA (some a), vI x1, vJ l2] (f_Tr_get a x1 l2) := by
  refine sn_Con.of (by decide +kernel) (by show _ ≤ _; exact Nat.le_of_ble_eq_true rfl) (mono_Tr_get a x1 l2) (fun X C => ?_)
  show sn_S X 0 [(0, vA (some a)), (1, vI x1), (2, vJ l2)] [] _
  replace C : sn_Cx X c_Tr_get "SignalNetwork$Transfer" (some .boolean) "get" 6 5 131 := C
  unfold f_Tr_get
  refine r_aload_n (q := 1) (i := 0) (pl := 0) C d_Tr_get_0 rfl rfl rfl ?_
  refine r_iload_n (q := 2) (i := 1) (pl := 1) C d_Tr_get_1 rfl rfl rfl ?_
  refine r_iconst (q := 3) (v := 2) C d_Tr_get_2 rfl (by decide) ?_
  refine r_idivc (q := 4) C d_Tr_get_3 rfl (by decide) ?_
  refine r_iload_n (q := 5) (i := 1) (pl := 1) C d_Tr_get_4 rfl rfl rfl ?_
  refine r_iconst (q := 6) (v := 2) C d_Tr_get_5 rfl (by decide) ?_
  refine r_iremc (q := 7) C d_Tr_get_6 rfl (by decide) ?_
  refine r_cvR (q := 10) (As := [vI (x1 / (2 : Int32)), vI (x1 % (2 : Int32))]) (st := []) (cy := 7) C d_Tr_get_7 rfl Y_Tr_endOf L_Tr_87 I_Tr_endOf Se_Tr_endOf rfl (by decide) rfl (Nat.le_of_ble_eq_true rfl) (Nat.le_of_ble_eq_true rfl) (Nat.le_of_ble_eq_true rfl) rfl (fun a15 => con_Tr_endOf a15 (x1 / (2 : Int32)) (x1 % (2 : Int32))) (fun v16 => ?_)
  refine r_astore (q := 12) (i := 4) (lv' := [(4, vA v16), (0, vA (some a)), (1, vI x1), (2, vJ l2)]) C d_Tr_get_10 rfl (by decide) rfl ?_
  refine r_aload (q := 14) (i := 4) (pl := 0) C d_Tr_get_12 rfl rfl ?_
  refine r_ifnonnull (tgt := 21) (q := 17) C d_Tr_get_14 (by decide) rfl ?_ ?_
  · refine r_aload (q := 23) (i := 4) (pl := 0) C d_Tr_get_21 rfl rfl ?_
    refine r_gI (q := 26) C d_Tr_get_23 rfl F_Tr_104 rfl (fun v17 => ?_)
    refine r_sub (lv' := [(0, vA (some a)), (2, vJ l2)]) [1, 3] rfl ?_
    exact s_Tr_get_26 C a l2 v17
  · refine r_iconst (q := 18) (v := -1) C d_Tr_get_17 rfl (by decide) ?_
    refine r_goto (tgt := 26) C d_Tr_get_18 (by decide) ?_
    refine r_sub (lv' := [(0, vA (some a)), (2, vJ l2)]) [1, 3] rfl ?_
    exact s_Tr_get_26 C a l2 (-1 : Int32)
theorem d_Tr_send_0 : decode c_Tr_send 0 = .ok (.aload_n 0, 1) := by decide +kernel
theorem d_Tr_send_1 : decode c_Tr_send 1 = .ok (.aload_n 0, 1) := by decide +kernel
theorem d_Tr_send_2 : decode c_Tr_send 2 = .ok (.lload_n 1, 1) := by decide +kernel
theorem d_Tr_send_3 : decode c_Tr_send 3 = .ok (.invokestatic 205, 3) := by decide +kernel
theorem d_Tr_send_6 : decode c_Tr_send 6 = .ok (.lload_n 1, 1) := by decide +kernel
theorem d_Tr_send_7 : decode c_Tr_send 7 = .ok (.invokestatic 159, 3) := by decide +kernel
theorem d_Tr_send_10 : decode c_Tr_send 10 = .ok (.lload_n 1, 1) := by decide +kernel
theorem d_Tr_send_11 : decode c_Tr_send 11 = .ok (.invokestatic 198, 3) := by decide +kernel
theorem d_Tr_send_14 : decode c_Tr_send 14 = .ok (.iconst (-1), 1) := by decide +kernel
theorem d_Tr_send_15 : decode c_Tr_send 15 = .ok (.invokevirtual 72, 3) := by decide +kernel
theorem d_Tr_send_18 : decode c_Tr_send 18 = .ok (.lload_n 1, 1) := by decide +kernel
theorem d_Tr_send_19 : decode c_Tr_send 19 = .ok (.invokevirtual 201, 3) := by decide +kernel
theorem d_Tr_send_22 : decode c_Tr_send 22 = .ok (.return_, 1) := by decide +kernel
def f_Tr_send (a : Nat) (l1 : Int64) : sn_M := c_I (f_Ms_from l1) fun v1 => c_I (f_Ms_to l1) fun v2 => c_I (f_Ms_lane l1) fun v3 => n_n 8 (some a) fun a4 => c_R (f_Tr_wayTo a4 v1 v2 v3 (-1 : Int32)) fun v5 => n_n 8 (some a) fun a6 => c_V (f_Tr_give a6 v5 l1) (r_V)
set_option maxHeartbeats 4000000 in
set_option maxRecDepth 100000 in
theorem mono_Tr_send (a : Nat) (l1 : Int64) : sn_Mono (f_Tr_send a l1) := sn_Mono.cI (mono_Ms_from l1) (fun v1 => sn_Mono.cI (mono_Ms_to l1) (fun v2 => sn_Mono.cI (mono_Ms_lane l1) (fun v3 => sn_Mono.nn (fun a4 => sn_Mono.cR (mono_Tr_wayTo a4 v1 v2 v3 (-1 : Int32)) (fun v5 => sn_Mono.nn (fun a6 => sn_Mono.cV (mono_Tr_give a6 v5 l1) (sn_Mono.rV)))))))
set_option maxHeartbeats 4000000 in
set_option maxRecDepth 100000 in
theorem con_Tr_send (a : Nat) (l1 : Int64) : sn_Con y_Tr_send c_Tr_send 3 none 2 52 [vA (some a), vJ l1] (f_Tr_send a l1) := by
  refine sn_Con.of (by decide +kernel) (by show _ ≤ _; exact Nat.le_of_ble_eq_true rfl) (mono_Tr_send a l1) (fun X C => ?_)
  show sn_S X 0 [(0, vA (some a)), (1, vJ l1)] [] _
  replace C : sn_Cx X c_Tr_send "SignalNetwork$Transfer" none "send" 3 2 52 := C
  unfold f_Tr_send
  refine r_aload_n (q := 1) (i := 0) (pl := 0) C d_Tr_send_0 rfl rfl rfl ?_
  refine r_aload_n (q := 2) (i := 0) (pl := 0) C d_Tr_send_1 rfl rfl rfl ?_
  refine r_lload_n (q := 3) (i := 1) (pl := 1) C d_Tr_send_2 rfl rfl rfl ?_
  refine r_csI (q := 6) (As := [vJ l1]) (st := [vA (some a), vA (some a)]) C d_Tr_send_3 rfl Y_Ms_from L_Tr_205 St_Ms_from rfl (Nat.le_of_ble_eq_true rfl) (Nat.le_of_ble_eq_true rfl) (Nat.le_of_ble_eq_true rfl) rfl (con_Ms_from l1) (fun v1 => ?_)
  refine r_lload_n (q := 7) (i := 1) (pl := 1) C d_Tr_send_6 rfl rfl rfl ?_
  refine r_csI (q := 10) (As := [vJ l1]) (st := [vI v1, vA (some a), vA (some a)]) C d_Tr_send_7 rfl Y_Ms_to L_Tr_159 St_Ms_to rfl (Nat.le_of_ble_eq_true rfl) (Nat.le_of_ble_eq_true rfl) (Nat.le_of_ble_eq_true rfl) rfl (con_Ms_to l1) (fun v2 => ?_)
  refine r_lload_n (q := 11) (i := 1) (pl := 1) C d_Tr_send_10 rfl rfl rfl ?_
  refine r_csI (q := 14) (As := [vJ l1]) (st := [vI v2, vI v1, vA (some a), vA (some a)]) C d_Tr_send_11 rfl Y_Ms_lane L_Tr_198 St_Ms_lane rfl (Nat.le_of_ble_eq_true rfl) (Nat.le_of_ble_eq_true rfl) (Nat.le_of_ble_eq_true rfl) rfl (con_Ms_lane l1) (fun v3 => ?_)
  refine r_iconst (q := 15) (v := -1) C d_Tr_send_14 rfl (by decide) ?_
  refine r_cvR (q := 18) (As := [vI v1, vI v2, vI v3, vI (-1 : Int32)]) (st := [vA (some a)]) (cy := 7) C d_Tr_send_15 rfl Y_Tr_wayTo L_Tr_72 I_Tr_wayTo Se_Tr_wayTo rfl (by decide) rfl (Nat.le_of_ble_eq_true rfl) (Nat.le_of_ble_eq_true rfl) (Nat.le_of_ble_eq_true rfl) rfl (fun a4 => con_Tr_wayTo a4 v1 v2 v3 (-1 : Int32)) (fun v5 => ?_)
  refine r_lload_n (q := 19) (i := 1) (pl := 1) C d_Tr_send_18 rfl rfl rfl ?_
  refine r_cvV (q := 22) (As := [vA v5, vJ l1]) (st := []) (cy := 7) C d_Tr_send_19 rfl Y_Tr_give L_Tr_201 I_Tr_give Se_Tr_give rfl (by decide) rfl (Nat.le_of_ble_eq_true rfl) (Nat.le_of_ble_eq_true rfl) (Nat.le_of_ble_eq_true rfl) rfl (fun a6 => con_Tr_give a6 v5 l1) ?_
  exact r_vret C d_Tr_send_22 rfl
theorem d_Tr_runChangebackTimers_0 : decode c_Tr_runChangebackTimers 0 = .ok (.iconst 0, 1) := by decide +kernel
theorem d_Tr_runChangebackTimers_1 : decode c_Tr_runChangebackTimers 1 = .ok (.istore_n 2, 1) := by decide +kernel
theorem d_Tr_runChangebackTimers_2 : decode c_Tr_runChangebackTimers 2 = .ok (.iload_n 2, 1) := by decide +kernel
theorem d_Tr_runChangebackTimers_3 : decode c_Tr_runChangebackTimers 3 = .ok (.bipush 6, 2) := by decide +kernel
theorem d_Tr_runChangebackTimers_5 : decode c_Tr_runChangebackTimers 5 = .ok (.if_icmp .ge 59, 3) := by decide +kernel
theorem d_Tr_runChangebackTimers_8 : decode c_Tr_runChangebackTimers 8 = .ok (.iconst 0, 1) := by decide +kernel
theorem d_Tr_runChangebackTimers_9 : decode c_Tr_runChangebackTimers 9 = .ok (.istore_n 3, 1) := by decide +kernel
theorem d_Tr_runChangebackTimers_10 : decode c_Tr_runChangebackTimers 10 = .ok (.iload_n 3, 1) := by decide +kernel
theorem d_Tr_runChangebackTimers_11 : decode c_Tr_runChangebackTimers 11 = .ok (.iconst 4, 1) := by decide +kernel
theorem d_Tr_runChangebackTimers_12 : decode c_Tr_runChangebackTimers 12 = .ok (.if_icmp .ge 46, 3) := by decide +kernel
theorem d_Tr_runChangebackTimers_15 : decode c_Tr_runChangebackTimers 15 = .ok (.aload_n 0, 1) := by decide +kernel
theorem d_Tr_runChangebackTimers_16 : decode c_Tr_runChangebackTimers 16 = .ok (.iload_n 1, 1) := by decide +kernel
theorem d_Tr_runChangebackTimers_17 : decode c_Tr_runChangebackTimers 17 = .ok (.iload_n 2, 1) := by decide +kernel
theorem d_Tr_runChangebackTimers_18 : decode c_Tr_runChangebackTimers 18 = .ok (.iload_n 3, 1) := by decide +kernel
theorem d_Tr_runChangebackTimers_19 : decode c_Tr_runChangebackTimers 19 = .ok (.invokevirtual 210, 3) := by decide +kernel
theorem d_Tr_runChangebackTimers_22 : decode c_Tr_runChangebackTimers 22 = .ok (.astore 4, 2) := by decide +kernel
theorem d_Tr_runChangebackTimers_24 : decode c_Tr_runChangebackTimers 24 = .ok (.aload 4, 2) := by decide +kernel
theorem d_Tr_runChangebackTimers_26 : decode c_Tr_runChangebackTimers 26 = .ok (.ifnull 26, 3) := by decide +kernel
theorem d_Tr_runChangebackTimers_29 : decode c_Tr_runChangebackTimers 29 = .ok (.aload_n 0, 1) := by decide +kernel
theorem d_Tr_runChangebackTimers_30 : decode c_Tr_runChangebackTimers 30 = .ok (.getfield 38, 3) := by decide +kernel
theorem d_Tr_runChangebackTimers_33 : decode c_Tr_runChangebackTimers 33 = .ok (.aload 4, 2) := by decide +kernel
theorem d_Tr_runChangebackTimers_35 : decode c_Tr_runChangebackTimers 35 = .ok (.getfield 265, 3) := by decide +kernel
theorem d_Tr_runChangebackTimers_38 : decode c_Tr_runChangebackTimers 38 = .ok (.invokevirtual 351, 3) := by decide +kernel
theorem d_Tr_runChangebackTimers_41 : decode c_Tr_runChangebackTimers 41 = .ok (.ifCond .eq 11, 3) := by decide +kernel
theorem d_Tr_runChangebackTimers_44 : decode c_Tr_runChangebackTimers 44 = .ok (.aload_n 0, 1) := by decide +kernel
theorem d_Tr_runChangebackTimers_45 : decode c_Tr_runChangebackTimers 45 = .ok (.aload 4, 2) := by decide +kernel
theorem d_Tr_runChangebackTimers_47 : decode c_Tr_runChangebackTimers 47 = .ok (.iload_n 1, 1) := by decide +kernel
theorem d_Tr_runChangebackTimers_48 : decode c_Tr_runChangebackTimers 48 = .ok (.iload_n 3, 1) := by decide +kernel
theorem d_Tr_runChangebackTimers_49 : decode c_Tr_runChangebackTimers 49 = .ok (.invokevirtual 252, 3) := by decide +kernel
theorem d_Tr_runChangebackTimers_52 : decode c_Tr_runChangebackTimers 52 = .ok (.iinc 3 1, 3) := by decide +kernel
theorem d_Tr_runChangebackTimers_55 : decode c_Tr_runChangebackTimers 55 = .ok (.goto (-45), 3) := by decide +kernel
theorem d_Tr_runChangebackTimers_58 : decode c_Tr_runChangebackTimers 58 = .ok (.iinc 2 1, 3) := by decide +kernel
theorem d_Tr_runChangebackTimers_61 : decode c_Tr_runChangebackTimers 61 = .ok (.goto (-59), 3) := by decide +kernel
theorem d_Tr_runChangebackTimers_64 : decode c_Tr_runChangebackTimers 64 = .ok (.return_, 1) := by decide +kernel
def f_Tr_runChangebackTimers_52 (k10 : Int32 → Int32 → Int32 → sn_M) (a : Nat) (x1 : Int32) (x2 : Int32) (x3 : Int32) : sn_M := k10 x1 x2 (x3 + (1 : Int32))
set_option maxHeartbeats 4000000 in
set_option maxRecDepth 100000 in
theorem mono_Tr_runChangebackTimers_52 (k10 : Int32 → Int32 → Int32 → sn_M) (mk10 : ∀ (x1 : Int32) (x2 : Int32) (x3 : Int32), sn_Mono (k10 x1 x2 x3)) (a : Nat) (x1 : Int32) (x2 : Int32) (x3 : Int32) : sn_Mono (f_Tr_runChangebackTimers_52 k10 a x1 x2 x3) := mk10 x1 x2 (x3 + (1 : Int32))
set_option maxHeartbeats 4000000 in
set_option maxRecDepth 100000 in
theorem s_Tr_runChangebackTimers_52 {X : sn_X} (C : sn_Cx X c_Tr_runChangebackTimers "SignalNetwork$Transfer" none "runChangebackTimers" 5 3 69) (a : Nat) (k10 : Int32 → Int32 → Int32 → sn_M) (hk10 : ∀ (x1 : Int32) (x2 : Int32) (x3 : Int32), sn_S X 10 [(0, vA (some a)), (1, vI x1), (2, vI x2), (3, vI x3)] [] (k10 x1 x2 x3)) (x1 : Int32) (x2 : Int32) (x3 : Int32) : sn_S X 52 [(0, vA (some a)), (1, vI x1), (2, vI x2), (3, vI x3)] [] (f_Tr_runChangebackTimers_52 k10 a x1 x2 x3) := by
  unfold f_Tr_runChangebackTimers_52
  refine r_iinc (q := 55) (pl := 3) (v := x3 + (1 : Int32)) (lv' := [(3, vI (x3 + (1 : Int32))), (0, vA (some a)), (1, vI x1), (2, vI x2)]) C d_Tr_runChangebackTimers_52 rfl rfl rfl (by decide) rfl ?_
  refine r_goto (tgt := 10) C d_Tr_runChangebackTimers_55 (by decide) ?_
  refine r_sub (lv' := [(0, vA (some a)), (1, vI x1), (2, vI x2), (3, vI (x3 + (1 : Int32)))]) [1, 2, 3, 0] rfl ?_
  exact hk10 x1 x2 (x3 + (1 : Int32))
def f_Tr_runChangebackTimers_10 (k2 : Int32 → Int32 → sn_M) (a : Nat) : Nat → Int32 → Int32 → Int32 → sn_M
  | 0, _, _, _ => r_0
  | n + 1, x1, x2, x3 => (if (4 : Int32) ≤ x3 then k2 x1 (x2 + (1 : Int32)) else n_n 8 (some a) fun a1 => c_R (f_Tr_flowTo a1 x1 x2 x3) fun v2 => (if v2 = none then f_Tr_runChangebackTimers_52 (f_Tr_runChangebackTimers_10 k2 a n) a x1 x2 x3 else g_R 8 1 (some a) fun v3 => g_I 3 4 v2 fun v4 => n_n 1 v3 fun a5 => c_I (f_Ck_isOut a5 v4) fun v6 => (if v6 = 0 then f_Tr_runChangebackTimers_52 (f_Tr_runChangebackTimers_10 k2 a n) a x1 x2 x3 else n_n 8 (some a) fun a7 => c_V (f_Tr_sendBack a7 v2 x1 x3) (f_Tr_runChangebackTimers_52 (f_Tr_runChangebackTimers_10 k2 a n) a x1 x2 x3))))
set_option maxHeartbeats 4000000 in
set_option maxRecDepth 100000 in
theorem mono_Tr_runChangebackTimers_10 (k2 : Int32 → Int32 → sn_M) (mk2 : ∀ (x1 : Int32) (x2 : Int32), sn_Mono (k2 x1 x2)) (a : Nat) : ∀ (n : Nat) (x1 : Int32) (x2 : Int32) (x3 : Int32), sn_Mono (f_Tr_runChangebackTimers_10 k2 a n x1 x2 x3)
  | 0, _, _, _ => sn_Mono.r0
  | n + 1, x1, x2, x3 => sn_Mono.ite (mk2 x1 (x2 + (1 : Int32))) (sn_Mono.nn (fun a1 => sn_Mono.cR (mono_Tr_flowTo a1 x1 x2 x3) (fun v2 => sn_Mono.ite (mono_Tr_runChangebackTimers_52 (f_Tr_runChangebackTimers_10 k2 a n) (mono_Tr_runChangebackTimers_10 k2 mk2 a n) a x1 x2 x3) (sn_Mono.gR (fun v3 => sn_Mono.gI (fun v4 => sn_Mono.nn (fun a5 => sn_Mono.cI (mono_Ck_isOut a5 v4) (fun v6 => sn_Mono.ite (mono_Tr_runChangebackTimers_52 (f_Tr_runChangebackTimers_10 k2 a n) (mono_Tr_runChangebackTimers_10 k2 mk2 a n) a x1 x2 x3) (sn_Mono.nn (fun a7 => sn_Mono.cV (mono_Tr_sendBack a7 v2 x1 x3) (mono_Tr_runChangebackTimers_52 (f_Tr_runChangebackTimers_10 k2 a n) (mono_Tr_runChangebackTimers_10 k2 mk2 a n) a x1 x2 x3)))))))))))
set_option maxHeartbeats 4000000 in
set_option maxRecDepth 100000 in
theorem s_Tr_runChangebackTimers_10 {X : sn_X} (C : sn_Cx X c_Tr_runChangebackTimers "SignalNetwork$Transfer" none "runChangebackTimers" 5 3 69) (a : Nat) (k2 : Int32 → Int32 → sn_M) (hk2 : ∀ (x1 : Int32) (x2 : Int32), sn_S X 2 [(0, vA (some a)), (1, vI x1), (2, vI x2)] [] (k2 x1 x2)) (n : Nat) : ∀ (x1 : Int32) (x2 : Int32) (x3 : Int32), sn_S X 10 [(0, vA (some a)), (1, vI x1), (2, vI x2), (3, vI x3)] [] (f_Tr_runChangebackTimers_10 k2 a n x1 x2 x3) := by
  induction n with
  | zero => intro x1 x2 x3; exact sn_S.zero
  | succ n ih =>
    intro x1 x2 x3
    unfold f_Tr_runChangebackTimers_10
    refine r_iload_n (q := 11) (i := 3) (pl := 3) C d_Tr_runChangebackTimers_10 rfl rfl rfl ?_
    refine r_iconst (q := 12) (v := 4) C d_Tr_runChangebackTimers_11 rfl (by decide) ?_
    refine r_icmp_ge (tgt := 58) (q := 15) C d_Tr_runChangebackTimers_12 (by decide) rfl ?_ ?_
    · refine r_iinc (q := 61) (pl := 2) (v := x2 + (1 : Int32)) (lv' := [(2, vI (x2 + (1 : Int32))), (0, vA (some a)), (1, vI x1), (3, vI x3)]) C d_Tr_runChangebackTimers_58 rfl rfl rfl (by decide) rfl ?_
      refine r_goto (tgt := 2) C d_Tr_runChangebackTimers_61 (by decide) ?_
      refine r_sub (lv' := [(0, vA (some a)), (1, vI x1), (2, vI (x2 + (1 : Int32)))]) [1, 2, 0] rfl ?_
      exact hk2 x1 (x2 + (1 : Int32))
    · refine r_aload_n (q := 16) (i := 0) (pl := 0) C d_Tr_runChangebackTimers_15 rfl rfl rfl ?_
      refine r_iload_n (q := 17) (i := 1) (pl := 1) C d_Tr_runChangebackTimers_16 rfl rfl rfl ?_
      refine r_iload_n (q := 18) (i := 2) (pl := 2) C d_Tr_runChangebackTimers_17 rfl rfl rfl ?_
      refine r_iload_n (q := 19) (i := 3) (pl := 3) C d_Tr_runChangebackTimers_18 rfl rfl rfl ?_
      refine r_cvR (q := 22) (As := [vI x1, vI x2, vI x3]) (st := []) (cy := 7) C d_Tr_runChangebackTimers_19 rfl Y_Tr_flowTo L_Tr_210 I_Tr_flowTo Se_Tr_flowTo rfl (by decide) rfl (Nat.le_of_ble_eq_true rfl) (Nat.le_of_ble_eq_true rfl) (Nat.le_of_ble_eq_true rfl) rfl (fun a1 => con_Tr_flowTo a1 x1 x2 x3) (fun v2 => ?_)
      refine r_astore (q := 24) (i := 4) (lv' := [(4, vA v2), (0, vA (some a)), (1, vI x1), (2, vI x2), (3, vI x3)]) C d_Tr_runChangebackTimers_22 rfl (by decide) rfl ?_
      refine r_aload (q := 26) (i := 4) (pl := 0) C d_Tr_runChangebackTimers_24 rfl rfl ?_
      refine r_ifnull (tgt := 52) (q := 29) C d_Tr_runChangebackTimers_26 (by decide) rfl ?_ ?_
      · refine r_sub (lv' := [(0, vA (some a)), (1, vI x1), (2, vI x2), (3, vI x3)]) [1, 2, 3, 4] rfl ?_
        exact s_Tr_runChangebackTimers_52 C a (f_Tr_runChangebackTimers_10 k2 a n) ih x1 x2 x3
      · refine r_aload_n (q := 30) (i := 0) (pl := 1) C d_Tr_runChangebackTimers_29 rfl rfl rfl ?_
        refine r_gR (q := 33) C d_Tr_runChangebackTimers_30 rfl F_Tr_38 rfl (fun v3 => ?_)
        refine r_aload (q := 35) (i := 4) (pl := 0) C d_Tr_runChangebackTimers_33 rfl rfl ?_
        refine r_gI (q := 38) C d_Tr_runChangebackTimers_35 rfl F_Tr_265 rfl (fun v4 => ?_)
        refine r_cvI (q := 41) (As := [vI v4]) (st := []) (cy := 0) C d_Tr_runChangebackTimers_38 rfl Y_Ck_isOut L_Tr_351 I_Ck_isOut Se_Ck_isOut rfl (by decide) rfl (Nat.le_of_ble_eq_true rfl) (Nat.le_of_ble_eq_true rfl) (Nat.le_of_ble_eq_true rfl) rfl (fun a5 => con_Ck_isOut a5 v4) (fun v6 => ?_)
        refine r_if_eq (tgt := 52) (q := 44) C d_Tr_runChangebackTimers_41 (by decide) rfl ?_ ?_
        · refine r_sub (lv' := [(0, vA (some a)), (1, vI x1), (2, vI x2), (3, vI x3)]) [1, 2, 3, 4] rfl ?_
          exact s_Tr_runChangebackTimers_52 C a (f_Tr_runChangebackTimers_10 k2 a n) ih x1 x2 x3
        · refine r_aload_n (q := 45) (i := 0) (pl := 1) C d_Tr_runChangebackTimers_44 rfl rfl rfl ?_
          refine r_aload (q := 47) (i := 4) (pl := 0) C d_Tr_runChangebackTimers_45 rfl rfl ?_
          refine r_iload_n (q := 48) (i := 1) (pl := 2) C d_Tr_runChangebackTimers_47 rfl rfl rfl ?_
          refine r_iload_n (q := 49) (i := 3) (pl := 4) C d_Tr_runChangebackTimers_48 rfl rfl rfl ?_
          refine r_cvV (q := 52) (As := [vA v2, vI x1, vI x3]) (st := []) (cy := 7) C d_Tr_runChangebackTimers_49 rfl Y_Tr_sendBack L_Tr_252 I_Tr_sendBack Se_Tr_sendBack rfl (by decide) rfl (Nat.le_of_ble_eq_true rfl) (Nat.le_of_ble_eq_true rfl) (Nat.le_of_ble_eq_true rfl) rfl (fun a7 => con_Tr_sendBack a7 v2 x1 x3) ?_
          refine r_sub (lv' := [(0, vA (some a)), (1, vI x1), (2, vI x2), (3, vI x3)]) [1, 2, 3, 4] rfl ?_
          exact s_Tr_runChangebackTimers_52 C a (f_Tr_runChangebackTimers_10 k2 a n) ih x1 x2 x3
def f_Tr_runChangebackTimers_2 (a : Nat) : Nat → Int32 → Int32 → sn_M
  | 0, _, _ => r_0
  | n + 1, x1, x2 => (if (6 : Int32) ≤ x2 then r_V else f_Tr_runChangebackTimers_10 (f_Tr_runChangebackTimers_2 a n) a sn_fuel x1 x2 (0 : Int32))
set_option maxHeartbeats 4000000 in
set_option maxRecDepth 100000 in
theorem mono_Tr_runChangebackTimers_2 (a : Nat) : ∀ (n : Nat) (x1 : Int32) (x2 : Int32), sn_Mono (f_Tr_runChangebackTimers_2 a n x1 x2)
  | 0, _, _ => sn_Mono.r0
  | n + 1, x1, x2 => sn_Mono.ite (sn_Mono.rV) (mono_Tr_runChangebackTimers_10 (f_Tr_runChangebackTimers_2 a n) (mono_Tr_runChangebackTimers_2 a n) a sn_fuel x1 x2 (0 : Int32))
set_option maxHeartbeats 4000000 in
set_option maxRecDepth 100000 in
theorem s_Tr_runChangebackTimers_2 {X : sn_X} (C : sn_Cx X c_Tr_runChangebackTimers "SignalNetwork$Transfer" none "runChangebackTimers" 5 3 69) (a : Nat) (n : Nat) : ∀ (x1 : Int32) (x2 : Int32), sn_S X 2 [(0, vA (some a)), (1, vI x1), (2, vI x2)] [] (f_Tr_runChangebackTimers_2 a n x1 x2) := by
  induction n with
  | zero => intro x1 x2; exact sn_S.zero
  | succ n ih =>
    intro x1 x2
    unfold f_Tr_runChangebackTimers_2
    refine r_iload_n (q := 3) (i := 2) (pl := 2) C d_Tr_runChangebackTimers_2 rfl rfl rfl ?_
    refine r_bipush (q := 5) (v := 6) C d_Tr_runChangebackTimers_3 rfl (by decide) ?_
    refine r_icmp_ge (tgt := 64) (q := 8) C d_Tr_runChangebackTimers_5 (by decide) rfl ?_ ?_
    · exact r_vret C d_Tr_runChangebackTimers_64 rfl
    · refine r_iconst (q := 9) (v := 0) C d_Tr_runChangebackTimers_8 rfl (by decide) ?_
      refine r_istore_n (q := 10) (i := 3) (lv' := [(3, vI (0 : Int32)), (0, vA (some a)), (1, vI x1), (2, vI x2)]) C d_Tr_runChangebackTimers_9 rfl rfl (by decide) rfl ?_
      refine r_sub (lv' := [(0, vA (some a)), (1, vI x1), (2, vI x2), (3, vI (0 : Int32))]) [1, 2, 3, 0] rfl ?_
      exact s_Tr_runChangebackTimers_10 C a (f_Tr_runChangebackTimers_2 a n) ih sn_fuel x1 x2 (0 : Int32)
def f_Tr_runChangebackTimers (a : Nat) (x1 : Int32) : sn_M := f_Tr_runChangebackTimers_2 a sn_fuel x1 (0 : Int32)
set_option maxHeartbeats 4000000 in
set_option maxRecDepth 100000 in
theorem mono_Tr_runChangebackTimers (a : Nat) (x1 : Int32) : sn_Mono (f_Tr_runChangebackTimers a x1) := mono_Tr_runChangebackTimers_2 a sn_fuel x1 (0 : Int32)
set_option maxHeartbeats 4000000 in
set_option maxRecDepth 100000 in
theorem con_Tr_runChangebackTimers (a : Nat) (x1 : Int32) : sn_Con y_Tr_runChangebackTimers c_Tr_runChangebackTimers 5 none 3 69 [vA (some a), vI x1] (f_Tr_runChangebackTimers a x1) := by
  refine sn_Con.of (by decide +kernel) (by show _ ≤ _; exact Nat.le_of_ble_eq_true rfl) (mono_Tr_runChangebackTimers a x1) (fun X C => ?_)
  show sn_S X 0 [(0, vA (some a)), (1, vI x1)] [] _
  replace C : sn_Cx X c_Tr_runChangebackTimers "SignalNetwork$Transfer" none "runChangebackTimers" 5 3 69 := C
  unfold f_Tr_runChangebackTimers
  refine r_iconst (q := 1) (v := 0) C d_Tr_runChangebackTimers_0 rfl (by decide) ?_
  refine r_istore_n (q := 2) (i := 2) (lv' := [(2, vI (0 : Int32)), (0, vA (some a)), (1, vI x1)]) C d_Tr_runChangebackTimers_1 rfl rfl (by decide) rfl ?_
  refine r_sub (lv' := [(0, vA (some a)), (1, vI x1), (2, vI (0 : Int32))]) [1, 2, 0] rfl ?_
  exact s_Tr_runChangebackTimers_2 C a sn_fuel x1 (0 : Int32)
theorem d_Tr_runChangeoverTimers_0 : decode c_Tr_runChangeoverTimers 0 = .ok (.iconst 0, 1) := by decide +kernel
theorem d_Tr_runChangeoverTimers_1 : decode c_Tr_runChangeoverTimers 1 = .ok (.istore_n 2, 1) := by decide +kernel
theorem d_Tr_runChangeoverTimers_2 : decode c_Tr_runChangeoverTimers 2 = .ok (.iload_n 2, 1) := by decide +kernel
theorem d_Tr_runChangeoverTimers_3 : decode c_Tr_runChangeoverTimers 3 = .ok (.iconst 2, 1) := by decide +kernel
theorem d_Tr_runChangeoverTimers_4 : decode c_Tr_runChangeoverTimers 4 = .ok (.aload_n 0, 1) := by decide +kernel
theorem d_Tr_runChangeoverTimers_5 : decode c_Tr_runChangeoverTimers 5 = .ok (.getfield 34, 3) := by decide +kernel
theorem d_Tr_runChangeoverTimers_8 : decode c_Tr_runChangeoverTimers 8 = .ok (.getfield 339, 3) := by decide +kernel
theorem d_Tr_runChangeoverTimers_11 : decode c_Tr_runChangeoverTimers 11 = .ok (.imul, 1) := by decide +kernel
theorem d_Tr_runChangeoverTimers_12 : decode c_Tr_runChangeoverTimers 12 = .ok (.if_icmp .ge 48, 3) := by decide +kernel
theorem d_Tr_runChangeoverTimers_15 : decode c_Tr_runChangeoverTimers 15 = .ok (.aload_n 0, 1) := by decide +kernel
theorem d_Tr_runChangeoverTimers_16 : decode c_Tr_runChangeoverTimers 16 = .ok (.getfield 11, 3) := by decide +kernel
theorem d_Tr_runChangeoverTimers_19 : decode c_Tr_runChangeoverTimers 19 = .ok (.iload_n 2, 1) := by decide +kernel
theorem d_Tr_runChangeoverTimers_20 : decode c_Tr_runChangeoverTimers 20 = .ok (.aaload, 1) := by decide +kernel
theorem d_Tr_runChangeoverTimers_21 : decode c_Tr_runChangeoverTimers 21 = .ok (.astore_n 3, 1) := by decide +kernel
theorem d_Tr_runChangeoverTimers_22 : decode c_Tr_runChangeoverTimers 22 = .ok (.aload_n 3, 1) := by decide +kernel
theorem d_Tr_runChangeoverTimers_23 : decode c_Tr_runChangeoverTimers 23 = .ok (.ifnull 31, 3) := by decide +kernel
theorem d_Tr_runChangeoverTimers_26 : decode c_Tr_runChangeoverTimers 26 = .ok (.aload_n 3, 1) := by decide +kernel
theorem d_Tr_runChangeoverTimers_27 : decode c_Tr_runChangeoverTimers 27 = .ok (.getfield 104, 3) := by decide +kernel
theorem d_Tr_runChangeoverTimers_30 : decode c_Tr_runChangeoverTimers 30 = .ok (.iload_n 1, 1) := by decide +kernel
theorem d_Tr_runChangeoverTimers_31 : decode c_Tr_runChangeoverTimers 31 = .ok (.if_icmp .ne 23, 3) := by decide +kernel
theorem d_Tr_runChangeoverTimers_34 : decode c_Tr_runChangeoverTimers 34 = .ok (.aload_n 0, 1) := by decide +kernel
theorem d_Tr_runChangeoverTimers_35 : decode c_Tr_runChangeoverTimers 35 = .ok (.getfield 38, 3) := by decide +kernel
theorem d_Tr_runChangeoverTimers_38 : decode c_Tr_runChangeoverTimers 38 = .ok (.aload_n 3, 1) := by decide +kernel
theorem d_Tr_runChangeoverTimers_39 : decode c_Tr_runChangeoverTimers 39 = .ok (.getfield 281, 3) := by decide +kernel
theorem d_Tr_runChangeoverTimers_42 : decode c_Tr_runChangeoverTimers 42 = .ok (.invokevirtual 351, 3) := by decide +kernel
theorem d_Tr_runChangeoverTimers_45 : decode c_Tr_runChangeoverTimers 45 = .ok (.ifCond .eq 9, 3) := by decide +kernel
theorem d_Tr_runChangeoverTimers_48 : decode c_Tr_runChangeoverTimers 48 = .ok (.aload_n 0, 1) := by decide +kernel
theorem d_Tr_runChangeoverTimers_49 : decode c_Tr_runChangeoverTimers 49 = .ok (.aload_n 3, 1) := by decide +kernel
theorem d_Tr_runChangeoverTimers_50 : decode c_Tr_runChangeoverTimers 50 = .ok (.iconst (-1), 1) := by decide +kernel
theorem d_Tr_runChangeoverTimers_51 : decode c_Tr_runChangeoverTimers 51 = .ok (.invokevirtual 300, 3) := by decide +kernel
theorem d_Tr_runChangeoverTimers_54 : decode c_Tr_runChangeoverTimers 54 = .ok (.iinc 2 1, 3) := by decide +kernel
theorem d_Tr_runChangeoverTimers_57 : decode c_Tr_runChangeoverTimers 57 = .ok (.goto (-55), 3) := by decide +kernel
theorem d_Tr_runChangeoverTimers_60 : decode c_Tr_runChangeoverTimers 60 = .ok (.return_, 1) := by decide +kernel
def f_Tr_runChangeoverTimers_54 (k2 : Int32 → Int32 → sn_M) (a : Nat) (x1 : Int32) (x2 : Int32) : sn_M := k2 x1 (x2 + (1 : Int32))
set_option maxHeartbeats 4000000 in
set_option maxRecDepth 100000 in
theorem mono_Tr_runChangeoverTimers_54 (k2 : Int32 → Int32 → sn_M) (mk2 : ∀ (x1 : Int32) (x2 : Int32), sn_Mono (k2 x1 x2)) (a : Nat) (x1 : Int32) (x2 : Int32) : sn_Mono (f_Tr_runChangeoverTimers_54 k2 a x1 x2) := mk2 x1 (x2 + (1 : Int32))
set_option maxHeartbeats 4000000 in
set_option maxRecDepth 100000 in
theorem s_Tr_runChangeoverTimers_54 {X : sn_X} (C : sn_Cx X c_Tr_runChangeoverTimers "SignalNetwork$Transfer" none "runChangeoverTimers" 4 4 105) (a : Nat) (k2 : Int32 → Int32 → sn_M) (hk2 : ∀ (x1 : Int32) (x2 : Int32), sn_S X 2 [(0, vA (some a)), (1, vI x1), (2, vI x2)] [] (k2 x1 x2)) (x1 : Int32) (x2 : Int32) : sn_S X 54 [(0, vA (some a)), (1, vI x1), (2, vI x2)] [] (f_Tr_runChangeoverTimers_54 k2 a x1 x2) := by
  unfold f_Tr_runChangeoverTimers_54
  refine r_iinc (q := 57) (pl := 2) (v := x2 + (1 : Int32)) (lv' := [(2, vI (x2 + (1 : Int32))), (0, vA (some a)), (1, vI x1)]) C d_Tr_runChangeoverTimers_54 rfl rfl rfl (by decide) rfl ?_
  refine r_goto (tgt := 2) C d_Tr_runChangeoverTimers_57 (by decide) ?_
  refine r_sub (lv' := [(0, vA (some a)), (1, vI x1), (2, vI (x2 + (1 : Int32)))]) [1, 2, 0] rfl ?_
  exact hk2 x1 (x2 + (1 : Int32))
def f_Tr_runChangeoverTimers_2 (a : Nat) : Nat → Int32 → Int32 → sn_M
  | 0, _, _ => r_0
  | n + 1, x1, x2 => g_R 8 0 (some a) fun v1 => g_I 5 0 v1 fun v2 => (if ((2 : Int32) * v2) ≤ x2 then r_V else g_R 8 2 (some a) fun v3 => a_R 24 v3 x2 fun v4 => (if v4 = none then f_Tr_runChangeoverTimers_54 (f_Tr_runChangeoverTimers_2 a n) a x1 x2 else g_I 2 2 v4 fun v5 => (if ¬ v5 = x1 then f_Tr_runChangeoverTimers_54 (f_Tr_runChangeoverTimers_2 a n) a x1 x2 else g_R 8 1 (some a) fun v6 => g_I 2 12 v4 fun v7 => n_n 1 v6 fun a8 => c_I (f_Ck_isOut a8 v7) fun v9 => (if v9 = 0 then f_Tr_runChangeoverTimers_54 (f_Tr_runChangeoverTimers_2 a n) a x1 x2 else n_n 8 (some a) fun a10 => c_V (f_Tr_endChangeover a10 v4 (-1 : Int32)) (f_Tr_runChangeoverTimers_54 (f_Tr_runChangeoverTimers_2 a n) a x1 x2)))))
set_option maxHeartbeats 4000000 in
set_option maxRecDepth 100000 in
theorem mono_Tr_runChangeoverTimers_2 (a : Nat) : ∀ (n : Nat) (x1 : Int32) (x2 : Int32), sn_Mono (f_Tr_runChangeoverTimers_2 a n x1 x2)
  | 0, _, _ => sn_Mono.r0
  | n + 1, x1, x2 => sn_Mono.gR (fun v1 => sn_Mono.gI (fun v2 => sn_Mono.ite (sn_Mono.rV) (sn_Mono.gR (fun v3 => sn_Mono.aR (fun v4 => sn_Mono.ite (mono_Tr_runChangeoverTimers_54 (f_Tr_runChangeoverTimers_2 a n) (mono_Tr_runChangeoverTimers_2 a n) a x1 x2) (sn_Mono.gI (fun v5 => sn_Mono.ite (mono_Tr_runChangeoverTimers_54 (f_Tr_runChangeoverTimers_2 a n) (mono_Tr_runChangeoverTimers_2 a n) a x1 x2) (sn_Mono.gR (fun v6 => sn_Mono.gI (fun v7 => sn_Mono.nn (fun a8 => sn_Mono.cI (mono_Ck_isOut a8 v7) (fun v9 => sn_Mono.ite (mono_Tr_runChangeoverTimers_54 (f_Tr_runChangeoverTimers_2 a n) (mono_Tr_runChangeoverTimers_2 a n) a x1 x2) (sn_Mono.nn (fun a10 => sn_Mono.cV (mono_Tr_endChangeover a10 v4 (-1 : Int32)) (mono_Tr_runChangeoverTimers_54 (f_Tr_runChangeoverTimers_2 a n) (mono_Tr_runChangeoverTimers_2 a n) a x1 x2)))))))))))))))
set_option maxHeartbeats 4000000 in
set_option maxRecDepth 100000 in
theorem s_Tr_runChangeoverTimers_2 {X : sn_X} (C : sn_Cx X c_Tr_runChangeoverTimers "SignalNetwork$Transfer" none "runChangeoverTimers" 4 4 105) (a : Nat) (n : Nat) : ∀ (x1 : Int32) (x2 : Int32), sn_S X 2 [(0, vA (some a)), (1, vI x1), (2, vI x2)] [] (f_Tr_runChangeoverTimers_2 a n x1 x2) := by
  induction n with
  | zero => intro x1 x2; exact sn_S.zero
  | succ n ih =>
    intro x1 x2
    unfold f_Tr_runChangeoverTimers_2
    refine r_iload_n (q := 3) (i := 2) (pl := 2) C d_Tr_runChangeoverTimers_2 rfl rfl rfl ?_
    refine r_iconst (q := 4) (v := 2) C d_Tr_runChangeoverTimers_3 rfl (by decide) ?_
    refine r_aload_n (q := 5) (i := 0) (pl := 0) C d_Tr_runChangeoverTimers_4 rfl rfl rfl ?_
    refine r_gR (q := 8) C d_Tr_runChangeoverTimers_5 rfl F_Tr_34 rfl (fun v1 => ?_)
    refine r_gI (q := 11) C d_Tr_runChangeoverTimers_8 rfl F_Tr_339 rfl (fun v2 => ?_)
    refine r_imul (q := 12) C d_Tr_runChangeoverTimers_11 rfl ?_
    refine r_icmp_ge (tgt := 60) (q := 15) C d_Tr_runChangeoverTimers_12 (by decide) rfl ?_ ?_
    · exact r_vret C d_Tr_runChangeoverTimers_60 rfl
    · refine r_aload_n (q := 16) (i := 0) (pl := 0) C d_Tr_runChangeoverTimers_15 rfl rfl rfl ?_
      refine r_gR (q := 19) C d_Tr_runChangeoverTimers_16 rfl F_Tr_11 rfl (fun v3 => ?_)
      refine r_iload_n (q := 20) (i := 2) (pl := 2) C d_Tr_runChangeoverTimers_19 rfl rfl rfl ?_
      refine r_aR (q := 21) (kd := 24) (tyi := 3) C (by decide) (fun _ => rfl) d_Tr_runChangeoverTimers_20 rfl (fun v4 => ?_)
      refine r_astore_n (q := 22) (i := 3) (lv' := [(3, vA v4), (0, vA (some a)), (1, vI x1), (2, vI x2)]) C d_Tr_runChangeoverTimers_21 rfl rfl (by decide) rfl ?_
      refine r_aload_n (q := 23) (i := 3) (pl := 0) C d_Tr_runChangeoverTimers_22 rfl rfl rfl ?_
      refine r_ifnull (tgt := 54) (q := 26) C d_Tr_runChangeoverTimers_23 (by decide) rfl ?_ ?_
      · refine r_sub (lv' := [(0, vA (some a)), (1, vI x1), (2, vI x2)]) [1, 2, 3] rfl ?_
        exact s_Tr_runChangeoverTimers_54 C a (f_Tr_runChangeoverTimers_2 a n) ih x1 x2
      · refine r_aload_n (q := 27) (i := 3) (pl := 0) C d_Tr_runChangeoverTimers_26 rfl rfl rfl ?_
        refine r_gI (q := 30) C d_Tr_runChangeoverTimers_27 rfl F_Tr_104 rfl (fun v5 => ?_)
        refine r_iload_n (q := 31) (i := 1) (pl := 2) C d_Tr_runChangeoverTimers_30 rfl rfl rfl ?_
        refine r_icmp_ne (tgt := 54) (q := 34) C d_Tr_runChangeoverTimers_31 (by decide) rfl ?_ ?_
        · refine r_sub (lv' := [(0, vA (some a)), (1, vI x1), (2, vI x2)]) [1, 2, 3] rfl ?_
          exact s_Tr_runChangeoverTimers_54 C a (f_Tr_runChangeoverTimers_2 a n) ih x1 x2
        · refine r_aload_n (q := 35) (i := 0) (pl := 1) C d_Tr_runChangeoverTimers_34 rfl rfl rfl ?_
          refine r_gR (q := 38) C d_Tr_runChangeoverTimers_35 rfl F_Tr_38 rfl (fun v6 => ?_)
          refine r_aload_n (q := 39) (i := 3) (pl := 0) C d_Tr_runChangeoverTimers_38 rfl rfl rfl ?_
          refine r_gI (q := 42) C d_Tr_runChangeoverTimers_39 rfl F_Tr_281 rfl (fun v7 => ?_)
          refine r_cvI (q := 45) (As := [vI v7]) (st := []) (cy := 0) C d_Tr_runChangeoverTimers_42 rfl Y_Ck_isOut L_Tr_351 I_Ck_isOut Se_Ck_isOut rfl (by decide) rfl (Nat.le_of_ble_eq_true rfl) (Nat.le_of_ble_eq_true rfl) (Nat.le_of_ble_eq_true rfl) rfl (fun a8 => con_Ck_isOut a8 v7) (fun v9 => ?_)
          refine r_if_eq (tgt := 54) (q := 48) C d_Tr_runChangeoverTimers_45 (by decide) rfl ?_ ?_
          · refine r_sub (lv' := [(0, vA (some a)), (1, vI x1), (2, vI x2)]) [1, 2, 3] rfl ?_
            exact s_Tr_runChangeoverTimers_54 C a (f_Tr_runChangeoverTimers_2 a n) ih x1 x2
          · refine r_aload_n (q := 49) (i := 0) (pl := 1) C d_Tr_runChangeoverTimers_48 rfl rfl rfl ?_
            refine r_aload_n (q := 50) (i := 3) (pl := 0) C d_Tr_runChangeoverTimers_49 rfl rfl rfl ?_
            refine r_iconst (q := 51) (v := -1) C d_Tr_runChangeoverTimers_50 rfl (by decide) ?_
            refine r_cvV (q := 54) (As := [vA v4, vI (-1 : Int32)]) (st := []) (cy := 7) C d_Tr_runChangeoverTimers_51 rfl Y_Tr_endChangeover L_Tr_300 I_Tr_endChangeover Se_Tr_endChangeover rfl (by decide) rfl (Nat.le_of_ble_eq_true rfl) (Nat.le_of_ble_eq_true rfl) (Nat.le_of_ble_eq_true rfl) rfl (fun a10 => con_Tr_endChangeover a10 v4 (-1 : Int32)) ?_
            refine r_sub (lv' := [(0, vA (some a)), (1, vI x1), (2, vI x2)]) [1, 2, 3] rfl ?_
            exact s_Tr_runChangeoverTimers_54 C a (f_Tr_runChangeoverTimers_2 a n) ih x1 x2
def f_Tr_runChangeoverTimers (a : Nat) (x1 : Int32) : sn_M := f_Tr_runChangeoverTimers_2 a sn_fuel x1 (0 : Int32)
set_option maxHeartbeats 4000000 in
set_option maxRecDepth 100000 in
theorem mono_Tr_runChangeoverTimers (a : Nat) (x1 : Int32) : sn_Mono (f_Tr_runChangeoverTimers a x1) := mono_Tr_runChangeoverTimers_2 a sn_fuel x1 (0 : Int32)
set_option maxHeartbeats 4000000 in
set_option maxRecDepth 100000 in
theorem con_Tr_runChangeoverTimers (a : Nat) (x1 : Int32) : sn_Con y_Tr_runChangeoverTimers c_Tr_runChangeoverTimers 4 none 4 105 [vA (some a), vI x1] (f_Tr_runChangeoverTimers a x1) := by
  refine sn_Con.of (by decide +kernel) (by show _ ≤ _; exact Nat.le_of_ble_eq_true rfl) (mono_Tr_runChangeoverTimers a x1) (fun X C => ?_)
  show sn_S X 0 [(0, vA (some a)), (1, vI x1)] [] _
  replace C : sn_Cx X c_Tr_runChangeoverTimers "SignalNetwork$Transfer" none "runChangeoverTimers" 4 4 105 := C
  unfold f_Tr_runChangeoverTimers
  refine r_iconst (q := 1) (v := 0) C d_Tr_runChangeoverTimers_0 rfl (by decide) ?_
  refine r_istore_n (q := 2) (i := 2) (lv' := [(2, vI (0 : Int32)), (0, vA (some a)), (1, vI x1)]) C d_Tr_runChangeoverTimers_1 rfl rfl (by decide) rfl ?_
  refine r_sub (lv' := [(0, vA (some a)), (1, vI x1), (2, vI (0 : Int32))]) [1, 2, 0] rfl ?_
  exact s_Tr_runChangeoverTimers_2 C a sn_fuel x1 (0 : Int32)
theorem d_Tr_runEndTimers_0 : decode c_Tr_runEndTimers 0 = .ok (.aload_n 1, 1) := by decide +kernel
theorem d_Tr_runEndTimers_1 : decode c_Tr_runEndTimers 1 = .ok (.ifnonnull 4, 3) := by decide +kernel
theorem d_Tr_runEndTimers_4 : decode c_Tr_runEndTimers 4 = .ok (.return_, 1) := by decide +kernel
theorem d_Tr_runEndTimers_5 : decode c_Tr_runEndTimers 5 = .ok (.aload_n 0, 1) := by decide +kernel
theorem d_Tr_runEndTimers_6 : decode c_Tr_runEndTimers 6 = .ok (.getfield 38, 3) := by decide +kernel
theorem d_Tr_runEndTimers_9 : decode c_Tr_runEndTimers 9 = .ok (.aload_n 1, 1) := by decide +kernel
theorem d_Tr_runEndTimers_10 : decode c_Tr_runEndTimers 10 = .ok (.getfield 94, 3) := by decide +kernel
theorem d_Tr_runEndTimers_13 : decode c_Tr_runEndTimers 13 = .ok (.invokevirtual 351, 3) := by decide +kernel
theorem d_Tr_runEndTimers_16 : decode c_Tr_runEndTimers 16 = .ok (.ifCond .eq 58, 3) := by decide +kernel
theorem d_Tr_runEndTimers_19 : decode c_Tr_runEndTimers 19 = .ok (.aload_n 1, 1) := by decide +kernel
theorem d_Tr_runEndTimers_20 : decode c_Tr_runEndTimers 20 = .ok (.iconst 0, 1) := by decide +kernel
theorem d_Tr_runEndTimers_21 : decode c_Tr_runEndTimers 21 = .ok (.putfield 94, 3) := by decide +kernel
theorem d_Tr_runEndTimers_24 : decode c_Tr_runEndTimers 24 = .ok (.aload_n 1, 1) := by decide +kernel
theorem d_Tr_runEndTimers_25 : decode c_Tr_runEndTimers 25 = .ok (.getfield 91, 3) := by decide +kernel
theorem d_Tr_runEndTimers_28 : decode c_Tr_runEndTimers 28 = .ok (.iconst 3, 1) := by decide +kernel
theorem d_Tr_runEndTimers_29 : decode c_Tr_runEndTimers 29 = .ok (.if_icmp .ne 10, 3) := by decide +kernel
theorem d_Tr_runEndTimers_32 : decode c_Tr_runEndTimers 32 = .ok (.aload_n 1, 1) := by decide +kernel
theorem d_Tr_runEndTimers_33 : decode c_Tr_runEndTimers 33 = .ok (.invokevirtual 354, 3) := by decide +kernel
theorem d_Tr_runEndTimers_36 : decode c_Tr_runEndTimers 36 = .ok (.goto 38, 3) := by decide +kernel
theorem d_Tr_runEndTimers_39 : decode c_Tr_runEndTimers 39 = .ok (.aload_n 1, 1) := by decide +kernel
theorem d_Tr_runEndTimers_40 : decode c_Tr_runEndTimers 40 = .ok (.getfield 91, 3) := by decide +kernel
theorem d_Tr_runEndTimers_43 : decode c_Tr_runEndTimers 43 = .ok (.ifCond .eq 11, 3) := by decide +kernel
theorem d_Tr_runEndTimers_46 : decode c_Tr_runEndTimers 46 = .ok (.aload_n 0, 1) := by decide +kernel
theorem d_Tr_runEndTimers_47 : decode c_Tr_runEndTimers 47 = .ok (.aload_n 1, 1) := by decide +kernel
theorem d_Tr_runEndTimers_48 : decode c_Tr_runEndTimers 48 = .ok (.invokevirtual 101, 3) := by decide +kernel
theorem d_Tr_runEndTimers_51 : decode c_Tr_runEndTimers 51 = .ok (.goto 23, 3) := by decide +kernel
theorem d_Tr_runEndTimers_54 : decode c_Tr_runEndTimers 54 = .ok (.aload_n 0, 1) := by decide +kernel
theorem d_Tr_runEndTimers_55 : decode c_Tr_runEndTimers 55 = .ok (.getfield 34, 3) := by decide +kernel
theorem d_Tr_runEndTimers_58 : decode c_Tr_runEndTimers 58 = .ok (.getfield 357, 3) := by decide +kernel
theorem d_Tr_runEndTimers_61 : decode c_Tr_runEndTimers 61 = .ok (.aload_n 1, 1) := by decide +kernel
theorem d_Tr_runEndTimers_62 : decode c_Tr_runEndTimers 62 = .ok (.getfield 124, 3) := by decide +kernel
theorem d_Tr_runEndTimers_65 : decode c_Tr_runEndTimers 65 = .ok (.baload, 1) := by decide +kernel
theorem d_Tr_runEndTimers_66 : decode c_Tr_runEndTimers 66 = .ok (.ifCond .eq 8, 3) := by decide +kernel
theorem d_Tr_runEndTimers_69 : decode c_Tr_runEndTimers 69 = .ok (.aload_n 0, 1) := by decide +kernel
theorem d_Tr_runEndTimers_70 : decode c_Tr_runEndTimers 70 = .ok (.aload_n 1, 1) := by decide +kernel
theorem d_Tr_runEndTimers_71 : decode c_Tr_runEndTimers 71 = .ok (.invokevirtual 97, 3) := by decide +kernel
theorem d_Tr_runEndTimers_74 : decode c_Tr_runEndTimers 74 = .ok (.aload_n 0, 1) := by decide +kernel
theorem d_Tr_runEndTimers_75 : decode c_Tr_runEndTimers 75 = .ok (.getfield 38, 3) := by decide +kernel
theorem d_Tr_runEndTimers_78 : decode c_Tr_runEndTimers 78 = .ok (.aload_n 1, 1) := by decide +kernel
theorem d_Tr_runEndTimers_79 : decode c_Tr_runEndTimers 79 = .ok (.getfield 145, 3) := by decide +kernel
theorem d_Tr_runEndTimers_82 : decode c_Tr_runEndTimers 82 = .ok (.getfield 360, 3) := by decide +kernel
theorem d_Tr_runEndTimers_85 : decode c_Tr_runEndTimers 85 = .ok (.invokevirtual 351, 3) := by decide +kernel
theorem d_Tr_runEndTimers_88 : decode c_Tr_runEndTimers 88 = .ok (.ifCond .eq 8, 3) := by decide +kernel
theorem d_Tr_runEndTimers_91 : decode c_Tr_runEndTimers 91 = .ok (.aload_n 0, 1) := by decide +kernel
theorem d_Tr_runEndTimers_92 : decode c_Tr_runEndTimers 92 = .ok (.aload_n 1, 1) := by decide +kernel
theorem d_Tr_runEndTimers_93 : decode c_Tr_runEndTimers 93 = .ok (.invokevirtual 101, 3) := by decide +kernel
theorem d_Tr_runEndTimers_96 : decode c_Tr_runEndTimers 96 = .ok (.return_, 1) := by decide +kernel
def f_Tr_runEndTimers_96 (a : Nat) : sn_M := r_V
set_option maxHeartbeats 4000000 in
set_option maxRecDepth 100000 in
theorem mono_Tr_runEndTimers_96 (a : Nat) : sn_Mono (f_Tr_runEndTimers_96 a) := sn_Mono.rV
set_option maxHeartbeats 4000000 in
set_option maxRecDepth 100000 in
theorem s_Tr_runEndTimers_96 {X : sn_X} (C : sn_Cx X c_Tr_runEndTimers "SignalNetwork$Transfer" none "runEndTimers" 2 4 101) (a : Nat) : sn_S X 96 [(0, vA (some a))] [] (f_Tr_runEndTimers_96 a) := by
  unfold f_Tr_runEndTimers_96
  exact r_vret C d_Tr_runEndTimers_96 rfl
def f_Tr_runEndTimers_74 (a : Nat) (r1 : Option Nat) : sn_M := g_R 8 1 (some a) fun v1 => g_R 2 4 r1 fun v2 => g_I 10 6 v2 fun v3 => n_n 1 v1 fun a4 => c_I (f_Ck_isOut a4 v3) fun v5 => (if v5 = 0 then f_Tr_runEndTimers_96 a else n_n 8 (some a) fun a6 => c_V (f_Tr_fail a6 r1) (f_Tr_runEndTimers_96 a))
set_option maxHeartbeats 4000000 in
set_option maxRecDepth 100000 in
theorem mono_Tr_runEndTimers_74 (a : Nat) (r1 : Option Nat) : sn_Mono (f_Tr_runEndTimers_74 a r1) := sn_Mono.gR (fun v1 => sn_Mono.gR (fun v2 => sn_Mono.gI (fun v3 => sn_Mono.nn (fun a4 => sn_Mono.cI (mono_Ck_isOut a4 v3) (fun v5 => sn_Mono.ite (mono_Tr_runEndTimers_96 a) (sn_Mono.nn (fun a6 => sn_Mono.cV (mono_Tr_fail a6 r1) (mono_Tr_runEndTimers_96 a))))))))
set_option maxHeartbeats 4000000 in
set_option maxRecDepth 100000 in
theorem s_Tr_runEndTimers_74 {X : sn_X} (C : sn_Cx X c_Tr_runEndTimers "SignalNetwork$Transfer" none "runEndTimers" 2 4 101) (a : Nat) (r1 : Option Nat) : sn_S X 74 [(0, vA (some a)), (1, vA r1)] [] (f_Tr_runEndTimers_74 a r1) := by
  unfold f_Tr_runEndTimers_74
  refine r_aload_n (q := 75) (i := 0) (pl := 0) C d_Tr_runEndTimers_74 rfl rfl rfl ?_
  refine r_gR (q := 78) C d_Tr_runEndTimers_75 rfl F_Tr_38 rfl (fun v1 => ?_)
  refine r_aload_n (q := 79) (i := 1) (pl := 1) C d_Tr_runEndTimers_78 rfl rfl rfl ?_
  refine r_gR (q := 82) C d_Tr_runEndTimers_79 rfl F_Tr_145 rfl (fun v2 => ?_)
  refine r_gI (q := 85) C d_Tr_runEndTimers_82 rfl F_Tr_360 rfl (fun v3 => ?_)
  refine r_cvI (q := 88) (As := [vI v3]) (st := []) (cy := 0) C d_Tr_runEndTimers_85 rfl Y_Ck_isOut L_Tr_351 I_Ck_isOut Se_Ck_isOut rfl (by decide) rfl (Nat.le_of_ble_eq_true rfl) (Nat.le_of_ble_eq_true rfl) (Nat.le_of_ble_eq_true rfl) rfl (fun a4 => con_Ck_isOut a4 v3) (fun v5 => ?_)
  refine r_if_eq (tgt := 96) (q := 91) C d_Tr_runEndTimers_88 (by decide) rfl ?_ ?_
  · refine r_sub (lv' := [(0, vA (some a))]) [0] rfl ?_
    exact s_Tr_runEndTimers_96 C a
  · refine r_aload_n (q := 92) (i := 0) (pl := 0) C d_Tr_runEndTimers_91 rfl rfl rfl ?_
    refine r_aload_n (q := 93) (i := 1) (pl := 1) C d_Tr_runEndTimers_92 rfl rfl rfl ?_
    refine r_cvV (q := 96) (As := [vA r1]) (st := []) (cy := 7) C d_Tr_runEndTimers_93 rfl Y_Tr_fail L_Tr_101 I_Tr_fail Se_Tr_fail rfl (by decide) rfl (Nat.le_of_ble_eq_true rfl) (Nat.le_of_ble_eq_true rfl) (Nat.le_of_ble_eq_true rfl) rfl (fun a6 => con_Tr_fail a6 r1) ?_
    refine r_sub (lv' := [(0, vA (some a))]) [0] rfl ?_
    exact s_Tr_runEndTimers_96 C a
def f_Tr_runEndTimers (a : Nat) (r1 : Option Nat) : sn_M := (if ¬ r1 = none then g_R 8 1 (some a) fun v8 => g_I 2 8 r1 fun v9 => n_n 1 v8 fun a10 => c_I (f_Ck_isOut a10 v9) fun v11 => (if v11 = 0 then f_Tr_runEndTimers_74 a r1 else p_I 2 8 r1 (0 : Int32) (g_I 2 7 r1 fun v12 => (if ¬ v12 = (3 : Int32) then g_I 2 7 r1 fun v13 => (if v13 = 0 then g_R 8 0 (some a) fun v14 => g_R 5 3 v14 fun v15 => g_I 2 1 r1 fun v16 => a_I 23 v15 v16 fun v17 => (if v17 = 0 then f_Tr_runEndTimers_74 a r1 else n_n 8 (some a) fun a18 => c_V (f_Tr_start a18 r1) (f_Tr_runEndTimers_74 a r1)) else n_n 8 (some a) fun a20 => c_V (f_Tr_fail a20 r1) (f_Tr_runEndTimers_74 a r1)) else n_n 2 r1 fun a22 => c_V (f_En_becomeReady a22) (f_Tr_runEndTimers_74 a r1)))) else r_V)
set_option maxHeartbeats 4000000 in
set_option maxRecDepth 100000 in
theorem mono_Tr_runEndTimers (a : Nat) (r1 : Option Nat) : sn_Mono (f_Tr_runEndTimers a r1) := sn_Mono.ite (sn_Mono.gR (fun v8 => sn_Mono.gI (fun v9 => sn_Mono.nn (fun a10 => sn_Mono.cI (mono_Ck_isOut a10 v9) (fun v11 => sn_Mono.ite (mono_Tr_runEndTimers_74 a r1) (sn_Mono.pI (sn_Mono.gI (fun v12 => sn_Mono.ite (sn_Mono.gI (fun v13 => sn_Mono.ite (sn_Mono.gR (fun v14 => sn_Mono.gR (fun v15 => sn_Mono.gI (fun v16 => sn_Mono.aI (fun v17 => sn_Mono.ite (mono_Tr_runEndTimers_74 a r1) (sn_Mono.nn (fun a18 => sn_Mono.cV (mono_Tr_start a18 r1) (mono_Tr_runEndTimers_74 a r1)))))))) (sn_Mono.nn (fun a20 => sn_Mono.cV (mono_Tr_fail a20 r1) (mono_Tr_runEndTimers_74 a r1))))) (sn_Mono.nn (fun a22 => sn_Mono.cV (mono_En_becomeReady a22) (mono_Tr_runEndTimers_74 a r1))))))))))) (sn_Mono.rV)
set_option maxHeartbeats 4000000 in
set_option maxRecDepth 100000 in
theorem con_Tr_runEndTimers (a : Nat) (r1 : Option Nat) : sn_Con y_Tr_runEndTimers c_Tr_runEndTimers 2 none 4 101 [vA (some a), vA r1] (f_Tr_runEndTimers a r1) := by
  refine sn_Con.of (by decide +kernel) (by show _ ≤ _; exact Nat.le_of_ble_eq_true rfl) (mono_Tr_runEndTimers a r1) (fun X C => ?_)
  show sn_S X 0 [(0, vA (some a)), (1, vA r1)] [] _
  replace C : sn_Cx X c_Tr_runEndTimers "SignalNetwork$Transfer" none "runEndTimers" 2 4 101 := C
  unfold f_Tr_runEndTimers
  refine r_aload_n (q := 1) (i := 1) (pl := 1) C d_Tr_runEndTimers_0 rfl rfl rfl ?_
  refine r_ifnonnull (tgt := 5) (q := 4) C d_Tr_runEndTimers_1 (by decide) rfl ?_ ?_
  · refine r_aload_n (q := 6) (i := 0) (pl := 0) C d_Tr_runEndTimers_5 rfl rfl rfl ?_
    refine r_gR (q := 9) C d_Tr_runEndTimers_6 rfl F_Tr_38 rfl (fun v8 => ?_)
    refine r_aload_n (q := 10) (i := 1) (pl := 1) C d_Tr_runEndTimers_9 rfl rfl rfl ?_
    refine r_gI (q := 13) C d_Tr_runEndTimers_10 rfl F_Tr_94 rfl (fun v9 => ?_)
    refine r_cvI (q := 16) (As := [vI v9]) (st := []) (cy := 0) C d_Tr_runEndTimers_13 rfl Y_Ck_isOut L_Tr_351 I_Ck_isOut Se_Ck_isOut rfl (by decide) rfl (Nat.le_of_ble_eq_true rfl) (Nat.le_of_ble_eq_true rfl) (Nat.le_of_ble_eq_true rfl) rfl (fun a10 => con_Ck_isOut a10 v9) (fun v11 => ?_)
    refine r_if_eq (tgt := 74) (q := 19) C d_Tr_runEndTimers_16 (by decide) rfl ?_ ?_
    · exact s_Tr_runEndTimers_74 C a r1
    · refine r_aload_n (q := 20) (i := 1) (pl := 1) C d_Tr_runEndTimers_19 rfl rfl rfl ?_
      refine r_iconst (q := 21) (v := 0) C d_Tr_runEndTimers_20 rfl (by decide) ?_
      refine r_pI (q := 24) C d_Tr_runEndTimers_21 rfl F_Tr_94 rfl rfl (Or.inl rfl) ?_
      refine r_aload_n (q := 25) (i := 1) (pl := 1) C d_Tr_runEndTimers_24 rfl rfl rfl ?_
      refine r_gI (q := 28) C d_Tr_runEndTimers_25 rfl F_Tr_91 rfl (fun v12 => ?_)
      refine r_iconst (q := 29) (v := 3) C d_Tr_runEndTimers_28 rfl (by decide) ?_
      refine r_icmp_ne (tgt := 39) (q := 32) C d_Tr_runEndTimers_29 (by decide) rfl ?_ ?_
      · refine r_aload_n (q := 40) (i := 1) (pl := 1) C d_Tr_runEndTimers_39 rfl rfl rfl ?_
        refine r_gI (q := 43) C d_Tr_runEndTimers_40 rfl F_Tr_91 rfl (fun v13 => ?_)
        refine r_if_eq (tgt := 54) (q := 46) C d_Tr_runEndTimers_43 (by decide) rfl ?_ ?_
        · refine r_aload_n (q := 55) (i := 0) (pl := 0) C d_Tr_runEndTimers_54 rfl rfl rfl ?_
          refine r_gR (q := 58) C d_Tr_runEndTimers_55 rfl F_Tr_34 rfl (fun v14 => ?_)
          refine r_gR (q := 61) C d_Tr_runEndTimers_58 rfl F_Tr_357 rfl (fun v15 => ?_)
          refine r_aload_n (q := 62) (i := 1) (pl := 1) C d_Tr_runEndTimers_61 rfl rfl rfl ?_
          refine r_gI (q := 65) C d_Tr_runEndTimers_62 rfl F_Tr_124 rfl (fun v16 => ?_)
          refine r_aZ (q := 66) C (Or.inl rfl) d_Tr_runEndTimers_65 rfl (fun v17 => ?_)
          refine r_if_eq (tgt := 74) (q := 69) C d_Tr_runEndTimers_66 (by decide) rfl ?_ ?_
          · exact s_Tr_runEndTimers_74 C a r1
          · refine r_aload_n (q := 70) (i := 0) (pl := 0) C d_Tr_runEndTimers_69 rfl rfl rfl ?_
            refine r_aload_n (q := 71) (i := 1) (pl := 1) C d_Tr_runEndTimers_70 rfl rfl rfl ?_
            refine r_cvV (q := 74) (As := [vA r1]) (st := []) (cy := 7) C d_Tr_runEndTimers_71 rfl Y_Tr_start L_Tr_97 I_Tr_start Se_Tr_start rfl (by decide) rfl (Nat.le_of_ble_eq_true rfl) (Nat.le_of_ble_eq_true rfl) (Nat.le_of_ble_eq_true rfl) rfl (fun a18 => con_Tr_start a18 r1) ?_
            exact s_Tr_runEndTimers_74 C a r1
        · refine r_aload_n (q := 47) (i := 0) (pl := 0) C d_Tr_runEndTimers_46 rfl rfl rfl ?_
          refine r_aload_n (q := 48) (i := 1) (pl := 1) C d_Tr_runEndTimers_47 rfl rfl rfl ?_
          refine r_cvV (q := 51) (As := [vA r1]) (st := []) (cy := 7) C d_Tr_runEndTimers_48 rfl Y_Tr_fail L_Tr_101 I_Tr_fail Se_Tr_fail rfl (by decide) rfl (Nat.le_of_ble_eq_true rfl) (Nat.le_of_ble_eq_true rfl) (Nat.le_of_ble_eq_true rfl) rfl (fun a20 => con_Tr_fail a20 r1) ?_
          refine r_goto (tgt := 74) C d_Tr_runEndTimers_51 (by decide) ?_
          exact s_Tr_runEndTimers_74 C a r1
      · refine r_aload_n (q := 33) (i := 1) (pl := 1) C d_Tr_runEndTimers_32 rfl rfl rfl ?_
        refine r_cvV (q := 36) (As := []) (st := []) (cy := 1) C d_Tr_runEndTimers_33 rfl Y_En_becomeReady L_Tr_354 I_En_becomeReady Se_En_becomeReady rfl (by decide) rfl (Nat.le_of_ble_eq_true rfl) (Nat.le_of_ble_eq_true rfl) (Nat.le_of_ble_eq_true rfl) rfl (fun a22 => con_En_becomeReady a22) ?_
        refine r_goto (tgt := 74) C d_Tr_runEndTimers_36 (by decide) ?_
        exact s_Tr_runEndTimers_74 C a r1
  · exact r_vret C d_Tr_runEndTimers_4 rfl
theorem d_Tr_runTimers_0 : decode c_Tr_runTimers 0 = .ok (.iconst 0, 1) := by decide +kernel
theorem d_Tr_runTimers_1 : decode c_Tr_runTimers 1 = .ok (.istore_n 1, 1) := by decide +kernel
theorem d_Tr_runTimers_2 : decode c_Tr_runTimers 2 = .ok (.iload_n 1, 1) := by decide +kernel
theorem d_Tr_runTimers_3 : decode c_Tr_runTimers 3 = .ok (.iconst 2, 1) := by decide +kernel
theorem d_Tr_runTimers_4 : decode c_Tr_runTimers 4 = .ok (.aload_n 0, 1) := by decide +kernel
theorem d_Tr_runTimers_5 : decode c_Tr_runTimers 5 = .ok (.getfield 34, 3) := by decide +kernel
theorem d_Tr_runTimers_8 : decode c_Tr_runTimers 8 = .ok (.getfield 339, 3) := by decide +kernel
theorem d_Tr_runTimers_11 : decode c_Tr_runTimers 11 = .ok (.imul, 1) := by decide +kernel
theorem d_Tr_runTimers_12 : decode c_Tr_runTimers 12 = .ok (.if_icmp .ge 19, 3) := by decide +kernel
theorem d_Tr_runTimers_15 : decode c_Tr_runTimers 15 = .ok (.aload_n 0, 1) := by decide +kernel
theorem d_Tr_runTimers_16 : decode c_Tr_runTimers 16 = .ok (.aload_n 0, 1) := by decide +kernel
theorem d_Tr_runTimers_17 : decode c_Tr_runTimers 17 = .ok (.getfield 11, 3) := by decide +kernel
theorem d_Tr_runTimers_20 : decode c_Tr_runTimers 20 = .ok (.iload_n 1, 1) := by decide +kernel
theorem d_Tr_runTimers_21 : decode c_Tr_runTimers 21 = .ok (.aaload, 1) := by decide +kernel
theorem d_Tr_runTimers_22 : decode c_Tr_runTimers 22 = .ok (.invokevirtual 342, 3) := by decide +kernel
theorem d_Tr_runTimers_25 : decode c_Tr_runTimers 25 = .ok (.iinc 1 1, 3) := by decide +kernel
theorem d_Tr_runTimers_28 : decode c_Tr_runTimers 28 = .ok (.goto (-26), 3) := by decide +kernel
theorem d_Tr_runTimers_31 : decode c_Tr_runTimers 31 = .ok (.iconst 0, 1) := by decide +kernel
theorem d_Tr_runTimers_32 : decode c_Tr_runTimers 32 = .ok (.istore_n 1, 1) := by decide +kernel
theorem d_Tr_runTimers_33 : decode c_Tr_runTimers 33 = .ok (.iload_n 1, 1) := by decide +kernel
theorem d_Tr_runTimers_34 : decode c_Tr_runTimers 34 = .ok (.bipush 6, 2) := by decide +kernel
theorem d_Tr_runTimers_36 : decode c_Tr_runTimers 36 = .ok (.if_icmp .ge 19, 3) := by decide +kernel
theorem d_Tr_runTimers_39 : decode c_Tr_runTimers 39 = .ok (.aload_n 0, 1) := by decide +kernel
theorem d_Tr_runTimers_40 : decode c_Tr_runTimers 40 = .ok (.iload_n 1, 1) := by decide +kernel
theorem d_Tr_runTimers_41 : decode c_Tr_runTimers 41 = .ok (.invokevirtual 345, 3) := by decide +kernel
theorem d_Tr_runTimers_44 : decode c_Tr_runTimers 44 = .ok (.aload_n 0, 1) := by decide +kernel
theorem d_Tr_runTimers_45 : decode c_Tr_runTimers 45 = .ok (.iload_n 1, 1) := by decide +kernel
theorem d_Tr_runTimers_46 : decode c_Tr_runTimers 46 = .ok (.invokevirtual 348, 3) := by decide +kernel
theorem d_Tr_runTimers_49 : decode c_Tr_runTimers 49 = .ok (.iinc 1 1, 3) := by decide +kernel
theorem d_Tr_runTimers_52 : decode c_Tr_runTimers 52 = .ok (.goto (-19), 3) := by decide +kernel
theorem d_Tr_runTimers_55 : decode c_Tr_runTimers 55 = .ok (.return_, 1) := by decide +kernel
def f_Tr_runTimers_33 (a : Nat) : Nat → Int32 → sn_M
  | 0, _ => r_0
  | n + 1, x1 => (if (6 : Int32) ≤ x1 then r_V else n_n 8 (some a) fun a1 => c_V (f_Tr_runChangeoverTimers a1 x1) (n_n 8 (some a) fun a3 => c_V (f_Tr_runChangebackTimers a3 x1) (f_Tr_runTimers_33 a n (x1 + (1 : Int32)))))
set_option maxHeartbeats 4000000 in
set_option maxRecDepth 100000 in
theorem mono_Tr_runTimers_33 (a : Nat) : ∀ (n : Nat) (x1 : Int32), sn_Mono (f_Tr_runTimers_33 a n x1)
  | 0, _ => sn_Mono.r0
  | n + 1, x1 => sn_Mono.ite (sn_Mono.rV) (sn_Mono.nn (fun a1 => sn_Mono.cV (mono_Tr_runChangeoverTimers a1 x1) (sn_Mono.nn (fun a3 => sn_Mono.cV (mono_Tr_runChangebackTimers a3 x1) (mono_Tr_runTimers_33 a n (x1 + (1 : Int32)))))))
set_option maxHeartbeats 4000000 in
set_option maxRecDepth 100000 in
theorem s_Tr_runTimers_33 {X : sn_X} (C : sn_Cx X c_Tr_runTimers "SignalNetwork$Transfer" none "runTimers" 2 5 128) (a : Nat) (n : Nat) : ∀ (x1 : Int32), sn_S X 33 [(0, vA (some a)), (1, vI x1)] [] (f_Tr_runTimers_33 a n x1) := by
  induction n with
  | zero => intro x1; exact sn_S.zero
  | succ n ih =>
    intro x1
    unfold f_Tr_runTimers_33
    refine r_iload_n (q := 34) (i := 1) (pl := 1) C d_Tr_runTimers_33 rfl rfl rfl ?_
    refine r_bipush (q := 36) (v := 6) C d_Tr_runTimers_34 rfl (by decide) ?_
    refine r_icmp_ge (tgt := 55) (q := 39) C d_Tr_runTimers_36 (by decide) rfl ?_ ?_
    · exact r_vret C d_Tr_runTimers_55 rfl
    · refine r_aload_n (q := 40) (i := 0) (pl := 0) C d_Tr_runTimers_39 rfl rfl rfl ?_
      refine r_iload_n (q := 41) (i := 1) (pl := 1) C d_Tr_runTimers_40 rfl rfl rfl ?_
      refine r_cvV (q := 44) (As := [vI x1]) (st := []) (cy := 7) C d_Tr_runTimers_41 rfl Y_Tr_runChangeoverTimers L_Tr_345 I_Tr_runChangeoverTimers Se_Tr_runChangeoverTimers rfl (by decide) rfl (Nat.le_of_ble_eq_true rfl) (Nat.le_of_ble_eq_true rfl) (Nat.le_of_ble_eq_true rfl) rfl (fun a1 => con_Tr_runChangeoverTimers a1 x1) ?_
      refine r_aload_n (q := 45) (i := 0) (pl := 0) C d_Tr_runTimers_44 rfl rfl rfl ?_
      refine r_iload_n (q := 46) (i := 1) (pl := 1) C d_Tr_runTimers_45 rfl rfl rfl ?_
      refine r_cvV (q := 49) (As := [vI x1]) (st := []) (cy := 7) C d_Tr_runTimers_46 rfl Y_Tr_runChangebackTimers L_Tr_348 I_Tr_runChangebackTimers Se_Tr_runChangebackTimers rfl (by decide) rfl (Nat.le_of_ble_eq_true rfl) (Nat.le_of_ble_eq_true rfl) (Nat.le_of_ble_eq_true rfl) rfl (fun a3 => con_Tr_runChangebackTimers a3 x1) ?_
      refine r_iinc (q := 52) (pl := 1) (v := x1 + (1 : Int32)) (lv' := [(1, vI (x1 + (1 : Int32))), (0, vA (some a))]) C d_Tr_runTimers_49 rfl rfl rfl (by decide) rfl ?_
      refine r_goto (tgt := 33) C d_Tr_runTimers_52 (by decide) ?_
      refine r_sub (lv' := [(0, vA (some a)), (1, vI (x1 + (1 : Int32)))]) [1, 0] rfl ?_
      exact ih (x1 + (1 : Int32))
def f_Tr_runTimers_2 (a : Nat) : Nat → Int32 → sn_M
  | 0, _ => r_0
  | n + 1, x1 => g_R 8 0 (some a) fun v5 => g_I 5 0 v5 fun v6 => (if ((2 : Int32) * v6) ≤ x1 then f_Tr_runTimers_33 a sn_fuel (0 : Int32) else g_R 8 2 (some a) fun v7 => a_R 24 v7 x1 fun v8 => n_n 8 (some a) fun a9 => c_V (f_Tr_runEndTimers a9 v8) (f_Tr_runTimers_2 a n (x1 + (1 : Int32))))
set_option maxHeartbeats 4000000 in
set_option maxRecDepth 100000 in
theorem mono_Tr_runTimers_2 (a : Nat) : ∀ (n : Nat) (x1 : Int32), sn_Mono (f_Tr_runTimers_2 a n x1)
  | 0, _ => sn_Mono.r0
  | n + 1, x1 => sn_Mono.gR (fun v5 => sn_Mono.gI (fun v6 => sn_Mono.ite (mono_Tr_runTimers_33 a sn_fuel (0 : Int32)) (sn_Mono.gR (fun v7 => sn_Mono.aR (fun v8 => sn_Mono.nn (fun a9 => sn_Mono.cV (mono_Tr_runEndTimers a9 v8) (mono_Tr_runTimers_2 a n (x1 + (1 : Int32)))))))))
set_option maxHeartbeats 4000000 in
set_option maxRecDepth 100000 in
theorem s_Tr_runTimers_2 {X : sn_X} (C : sn_Cx X c_Tr_runTimers "SignalNetwork$Transfer" none "runTimers" 2 5 128) (a : Nat) (n : Nat) : ∀ (x1 : Int32), sn_S X 2 [(0, vA (some a)), (1, vI x1)] [] (f_Tr_runTimers_2 a n x1) := by
  induction n with
  | zero => intro x1; exact sn_S.zero
  | succ n ih =>
    intro x1
    unfold f_Tr_runTimers_2
    refine r_iload_n (q := 3) (i := 1) (pl := 1) C d_Tr_runTimers_2 rfl rfl rfl ?_
    refine r_iconst (q := 4) (v := 2) C d_Tr_runTimers_3 rfl (by decide) ?_
    refine r_aload_n (q := 5) (i := 0) (pl := 0) C d_Tr_runTimers_4 rfl rfl rfl ?_
    refine r_gR (q := 8) C d_Tr_runTimers_5 rfl F_Tr_34 rfl (fun v5 => ?_)
    refine r_gI (q := 11) C d_Tr_runTimers_8 rfl F_Tr_339 rfl (fun v6 => ?_)
    refine r_imul (q := 12) C d_Tr_runTimers_11 rfl ?_
    refine r_icmp_ge (tgt := 31) (q := 15) C d_Tr_runTimers_12 (by decide) rfl ?_ ?_
    · refine r_iconst (q := 32) (v := 0) C d_Tr_runTimers_31 rfl (by decide) ?_
      refine r_istore_n (q := 33) (i := 1) (lv' := [(1, vI (0 : Int32)), (0, vA (some a))]) C d_Tr_runTimers_32 rfl rfl (by decide) rfl ?_
      refine r_sub (lv' := [(0, vA (some a)), (1, vI (0 : Int32))]) [1, 0] rfl ?_
      exact s_Tr_runTimers_33 C a sn_fuel (0 : Int32)
    · refine r_aload_n (q := 16) (i := 0) (pl := 0) C d_Tr_runTimers_15 rfl rfl rfl ?_
      refine r_aload_n (q := 17) (i := 0) (pl := 0) C d_Tr_runTimers_16 rfl rfl rfl ?_
      refine r_gR (q := 20) C d_Tr_runTimers_17 rfl F_Tr_11 rfl (fun v7 => ?_)
      refine r_iload_n (q := 21) (i := 1) (pl := 1) C d_Tr_runTimers_20 rfl rfl rfl ?_
      refine r_aR (q := 22) (kd := 24) (tyi := 3) C (by decide) (fun _ => rfl) d_Tr_runTimers_21 rfl (fun v8 => ?_)
      refine r_cvV (q := 25) (As := [vA v8]) (st := []) (cy := 7) C d_Tr_runTimers_22 rfl Y_Tr_runEndTimers L_Tr_342 I_Tr_runEndTimers Se_Tr_runEndTimers rfl (by decide) rfl (Nat.le_of_ble_eq_true rfl) (Nat.le_of_ble_eq_true rfl) (Nat.le_of_ble_eq_true rfl) rfl (fun a9 => con_Tr_runEndTimers a9 v8) ?_
      refine r_iinc (q := 28) (pl := 1) (v := x1 + (1 : Int32)) (lv' := [(1, vI (x1 + (1 : Int32))), (0, vA (some a))]) C d_Tr_runTimers_25 rfl rfl rfl (by decide) rfl ?_
      refine r_goto (tgt := 2) C d_Tr_runTimers_28 (by decide) ?_
      refine r_sub (lv' := [(0, vA (some a)), (1, vI (x1 + (1 : Int32)))]) [1, 0] rfl ?_
      exact ih (x1 + (1 : Int32))
def f_Tr_runTimers (a : Nat) : sn_M := f_Tr_runTimers_2 a sn_fuel (0 : Int32)
set_option maxHeartbeats 4000000 in
set_option maxRecDepth 100000 in
theorem mono_Tr_runTimers (a : Nat) : sn_Mono (f_Tr_runTimers a) := mono_Tr_runTimers_2 a sn_fuel (0 : Int32)
set_option maxHeartbeats 4000000 in
set_option maxRecDepth 100000 in
theorem con_Tr_runTimers (a : Nat) : sn_Con y_Tr_runTimers c_Tr_runTimers 2 none 5 128 [vA (some a)] (f_Tr_runTimers a) := by
  refine sn_Con.of (by decide +kernel) (by show _ ≤ _; exact Nat.le_of_ble_eq_true rfl) (mono_Tr_runTimers a) (fun X C => ?_)
  show sn_S X 0 [(0, vA (some a))] [] _
  replace C : sn_Cx X c_Tr_runTimers "SignalNetwork$Transfer" none "runTimers" 2 5 128 := C
  unfold f_Tr_runTimers
  refine r_iconst (q := 1) (v := 0) C d_Tr_runTimers_0 rfl (by decide) ?_
  refine r_istore_n (q := 2) (i := 1) (lv' := [(1, vI (0 : Int32)), (0, vA (some a))]) C d_Tr_runTimers_1 rfl rfl (by decide) rfl ?_
  refine r_sub (lv' := [(0, vA (some a)), (1, vI (0 : Int32))]) [1, 0] rfl ?_
  exact s_Tr_runTimers_2 C a sn_fuel (0 : Int32)
theorem d_Tr_sendUnits_0 : decode c_Tr_sendUnits 0 = .ok (.iconst 0, 1) := by decide +kernel
theorem d_Tr_sendUnits_1 : decode c_Tr_sendUnits 1 = .ok (.istore_n 1, 1) := by decide +kernel
theorem d_Tr_sendUnits_2 : decode c_Tr_sendUnits 2 = .ok (.iload_n 1, 1) := by decide +kernel
theorem d_Tr_sendUnits_3 : decode c_Tr_sendUnits 3 = .ok (.iconst 2, 1) := by decide +kernel
theorem d_Tr_sendUnits_4 : decode c_Tr_sendUnits 4 = .ok (.aload_n 0, 1) := by decide +kernel
theorem d_Tr_sendUnits_5 : decode c_Tr_sendUnits 5 = .ok (.getfield 34, 3) := by decide +kernel
theorem d_Tr_sendUnits_8 : decode c_Tr_sendUnits 8 = .ok (.getfield 339, 3) := by decide +kernel
theorem d_Tr_sendUnits_11 : decode c_Tr_sendUnits 11 = .ok (.imul, 1) := by decide +kernel
theorem d_Tr_sendUnits_12 : decode c_Tr_sendUnits 12 = .ok (.if_icmp .ge 27, 3) := by decide +kernel
theorem d_Tr_sendUnits_15 : decode c_Tr_sendUnits 15 = .ok (.aload_n 0, 1) := by decide +kernel
theorem d_Tr_sendUnits_16 : decode c_Tr_sendUnits 16 = .ok (.getfield 11, 3) := by decide +kernel
theorem d_Tr_sendUnits_19 : decode c_Tr_sendUnits 19 = .ok (.iload_n 1, 1) := by decide +kernel
theorem d_Tr_sendUnits_20 : decode c_Tr_sendUnits 20 = .ok (.aaload, 1) := by decide +kernel
theorem d_Tr_sendUnits_21 : decode c_Tr_sendUnits 21 = .ok (.ifnull 12, 3) := by decide +kernel
theorem d_Tr_sendUnits_24 : decode c_Tr_sendUnits 24 = .ok (.aload_n 0, 1) := by decide +kernel
theorem d_Tr_sendUnits_25 : decode c_Tr_sendUnits 25 = .ok (.getfield 11, 3) := by decide +kernel
theorem d_Tr_sendUnits_28 : decode c_Tr_sendUnits 28 = .ok (.iload_n 1, 1) := by decide +kernel
theorem d_Tr_sendUnits_29 : decode c_Tr_sendUnits 29 = .ok (.aaload, 1) := by decide +kernel
theorem d_Tr_sendUnits_30 : decode c_Tr_sendUnits 30 = .ok (.invokevirtual 361, 3) := by decide +kernel
theorem d_Tr_sendUnits_33 : decode c_Tr_sendUnits 33 = .ok (.iinc 1 1, 3) := by decide +kernel
theorem d_Tr_sendUnits_36 : decode c_Tr_sendUnits 36 = .ok (.goto (-34), 3) := by decide +kernel
theorem d_Tr_sendUnits_39 : decode c_Tr_sendUnits 39 = .ok (.return_, 1) := by decide +kernel
def f_Tr_sendUnits_33 (k2 : Int32 → sn_M) (a : Nat) (x1 : Int32) : sn_M := k2 (x1 + (1 : Int32))
set_option maxHeartbeats 4000000 in
set_option maxRecDepth 100000 in
theorem mono_Tr_sendUnits_33 (k2 : Int32 → sn_M) (mk2 : ∀ (x1 : Int32), sn_Mono (k2 x1)) (a : Nat) (x1 : Int32) : sn_Mono (f_Tr_sendUnits_33 k2 a x1) := mk2 (x1 + (1 : Int32))
set_option maxHeartbeats 4000000 in
set_option maxRecDepth 100000 in
theorem s_Tr_sendUnits_33 {X : sn_X} (C : sn_Cx X c_Tr_sendUnits "SignalNetwork$Transfer" none "sendUnits" 2 5 106) (a : Nat) (k2 : Int32 → sn_M) (hk2 : ∀ (x1 : Int32), sn_S X 2 [(0, vA (some a)), (1, vI x1)] [] (k2 x1)) (x1 : Int32) : sn_S X 33 [(0, vA (some a)), (1, vI x1)] [] (f_Tr_sendUnits_33 k2 a x1) := by
  unfold f_Tr_sendUnits_33
  refine r_iinc (q := 36) (pl := 1) (v := x1 + (1 : Int32)) (lv' := [(1, vI (x1 + (1 : Int32))), (0, vA (some a))]) C d_Tr_sendUnits_33 rfl rfl rfl (by decide) rfl ?_
  refine r_goto (tgt := 2) C d_Tr_sendUnits_36 (by decide) ?_
  refine r_sub (lv' := [(0, vA (some a)), (1, vI (x1 + (1 : Int32)))]) [1, 0] rfl ?_
  exact hk2 (x1 + (1 : Int32))
def f_Tr_sendUnits_2 (a : Nat) : Nat → Int32 → sn_M
  | 0, _ => r_0
  | n + 1, x1 => g_R 8 0 (some a) fun v1 => g_I 5 0 v1 fun v2 => (if ((2 : Int32) * v2) ≤ x1 then r_V else g_R 8 2 (some a) fun v3 => a_R 24 v3 x1 fun v4 => (if v4 = none then f_Tr_sendUnits_33 (f_Tr_sendUnits_2 a n) a x1 else g_R 8 2 (some a) fun v5 => a_R 24 v5 x1 fun v6 => n_n 2 v6 fun a7 => c_V (f_En_sendUnit a7) (f_Tr_sendUnits_33 (f_Tr_sendUnits_2 a n) a x1)))
set_option maxHeartbeats 4000000 in
set_option maxRecDepth 100000 in
theorem mono_Tr_sendUnits_2 (a : Nat) : ∀ (n : Nat) (x1 : Int32), sn_Mono (f_Tr_sendUnits_2 a n x1)
  | 0, _ => sn_Mono.r0
  | n + 1, x1 => sn_Mono.gR (fun v1 => sn_Mono.gI (fun v2 => sn_Mono.ite (sn_Mono.rV) (sn_Mono.gR (fun v3 => sn_Mono.aR (fun v4 => sn_Mono.ite (mono_Tr_sendUnits_33 (f_Tr_sendUnits_2 a n) (mono_Tr_sendUnits_2 a n) a x1) (sn_Mono.gR (fun v5 => sn_Mono.aR (fun v6 => sn_Mono.nn (fun a7 => sn_Mono.cV (mono_En_sendUnit a7) (mono_Tr_sendUnits_33 (f_Tr_sendUnits_2 a n) (mono_Tr_sendUnits_2 a n) a x1))))))))))
set_option maxHeartbeats 4000000 in
set_option maxRecDepth 100000 in
theorem s_Tr_sendUnits_2 {X : sn_X} (C : sn_Cx X c_Tr_sendUnits "SignalNetwork$Transfer" none "sendUnits" 2 5 106) (a : Nat) (n : Nat) : ∀ (x1 : Int32), sn_S X 2 [(0, vA (some a)), (1, vI x1)] [] (f_Tr_sendUnits_2 a n x1) := by
  induction n with
  | zero => intro x1; exact sn_S.zero
  | succ n ih =>
    intro x1
    unfold f_Tr_sendUnits_2
    refine r_iload_n (q := 3) (i := 1) (pl := 1) C d_Tr_sendUnits_2 rfl rfl rfl ?_
    refine r_iconst (q := 4) (v := 2) C d_Tr_sendUnits_3 rfl (by decide) ?_
    refine r_aload_n (q := 5) (i := 0) (pl := 0) C d_Tr_sendUnits_4 rfl rfl rfl ?_
    refine r_gR (q := 8) C d_Tr_sendUnits_5 rfl F_Tr_34 rfl (fun v1 => ?_)
    refine r_gI (q := 11) C d_Tr_sendUnits_8 rfl F_Tr_339 rfl (fun v2 => ?_)
    refine r_imul (q := 12) C d_Tr_sendUnits_11 rfl ?_
    refine r_icmp_ge (tgt := 39) (q := 15) C d_Tr_sendUnits_12 (by decide) rfl ?_ ?_
    · exact r_vret C d_Tr_sendUnits_39 rfl
    · refine r_aload_n (q := 16) (i := 0) (pl := 0) C d_Tr_sendUnits_15 rfl rfl rfl ?_
      refine r_gR (q := 19) C d_Tr_sendUnits_16 rfl F_Tr_11 rfl (fun v3 => ?_)
      refine r_iload_n (q := 20) (i := 1) (pl := 1) C d_Tr_sendUnits_19 rfl rfl rfl ?_
      refine r_aR (q := 21) (kd := 24) (tyi := 3) C (by decide) (fun _ => rfl) d_Tr_sendUnits_20 rfl (fun v4 => ?_)
      refine r_ifnull (tgt := 33) (q := 24) C d_Tr_sendUnits_21 (by decide) rfl ?_ ?_
      · exact s_Tr_sendUnits_33 C a (f_Tr_sendUnits_2 a n) ih x1
      · refine r_aload_n (q := 25) (i := 0) (pl := 0) C d_Tr_sendUnits_24 rfl rfl rfl ?_
        refine r_gR (q := 28) C d_Tr_sendUnits_25 rfl F_Tr_11 rfl (fun v5 => ?_)
        refine r_iload_n (q := 29) (i := 1) (pl := 1) C d_Tr_sendUnits_28 rfl rfl rfl ?_
        refine r_aR (q := 30) (kd := 24) (tyi := 3) C (by decide) (fun _ => rfl) d_Tr_sendUnits_29 rfl (fun v6 => ?_)
        refine r_cvV (q := 33) (As := []) (st := []) (cy := 1) C d_Tr_sendUnits_30 rfl Y_En_sendUnit L_Tr_361 I_En_sendUnit Se_En_sendUnit rfl (by decide) rfl (Nat.le_of_ble_eq_true rfl) (Nat.le_of_ble_eq_true rfl) (Nat.le_of_ble_eq_true rfl) rfl (fun a7 => con_En_sendUnit a7) ?_
        exact s_Tr_sendUnits_33 C a (f_Tr_sendUnits_2 a n) ih x1
def f_Tr_sendUnits (a : Nat) : sn_M := f_Tr_sendUnits_2 a sn_fuel (0 : Int32)
set_option maxHeartbeats 4000000 in
set_option maxRecDepth 100000 in
theorem mono_Tr_sendUnits (a : Nat) : sn_Mono (f_Tr_sendUnits a) := mono_Tr_sendUnits_2 a sn_fuel (0 : Int32)
set_option maxHeartbeats 4000000 in
set_option maxRecDepth 100000 in
theorem con_Tr_sendUnits (a : Nat) : sn_Con y_Tr_sendUnits c_Tr_sendUnits 2 none 5 106 [vA (some a)] (f_Tr_sendUnits a) := by
  refine sn_Con.of (by decide +kernel) (by show _ ≤ _; exact Nat.le_of_ble_eq_true rfl) (mono_Tr_sendUnits a) (fun X C => ?_)
  show sn_S X 0 [(0, vA (some a))] [] _
  replace C : sn_Cx X c_Tr_sendUnits "SignalNetwork$Transfer" none "sendUnits" 2 5 106 := C
  unfold f_Tr_sendUnits
  refine r_iconst (q := 1) (v := 0) C d_Tr_sendUnits_0 rfl (by decide) ?_
  refine r_istore_n (q := 2) (i := 1) (lv' := [(1, vI (0 : Int32)), (0, vA (some a))]) C d_Tr_sendUnits_1 rfl rfl (by decide) rfl ?_
  refine r_sub (lv' := [(0, vA (some a)), (1, vI (0 : Int32))]) [1, 0] rfl ?_
  exact s_Tr_sendUnits_2 C a sn_fuel (0 : Int32)
