theorem d_Qu_init_0 : decode c_Qu_init 0 = .ok (.aload_n 0, 1) := by decide +kernel
theorem d_Qu_init_1 : decode c_Qu_init 1 = .ok (.invokespecial 1, 3) := by decide +kernel
theorem d_Qu_init_4 : decode c_Qu_init 4 = .ok (.aload_n 0, 1) := by decide +kernel
theorem d_Qu_init_5 : decode c_Qu_init 5 = .ok (.iload_n 1, 1) := by decide +kernel
theorem d_Qu_init_6 : decode c_Qu_init 6 = .ok (.iconst 1, 1) := by decide +kernel
theorem d_Qu_init_7 : decode c_Qu_init 7 = .ok (.invokestatic 7, 3) := by decide +kernel
theorem d_Qu_init_10 : decode c_Qu_init 10 = .ok (.newarray .long, 2) := by decide +kernel
theorem d_Qu_init_12 : decode c_Qu_init 12 = .ok (.putfield 13, 3) := by decide +kernel
theorem d_Qu_init_15 : decode c_Qu_init 15 = .ok (.return_, 1) := by decide +kernel
def f_Qu_init (a : Nat) (x1 : Int32) : sn_M := c_I (f_Ma_max x1 (1 : Int32)) fun v1 => n_A 22 v1 fun v2 => p_R 6 0 (some a) v2 (r_V)
set_option maxHeartbeats 4000000 in
set_option maxRecDepth 100000 in
theorem mono_Qu_init (a : Nat) (x1 : Int32) : sn_Mono (f_Qu_init a x1) := sn_Mono.cI (mono_Ma_max x1 (1 : Int32)) (fun v1 => sn_Mono.nA (fun v2 => sn_Mono.pR (sn_Mono.rV)))
set_option maxHeartbeats 4000000 in
set_option maxRecDepth 100000 in
theorem con_Qu_init (a : Nat) (x1 : Int32) : sn_Con y_Qu_init c_Qu_init 2 none 1 21 [vA (some a), vI x1] (f_Qu_init a x1) := by
  refine sn_Con.of (by decide +kernel) (by show _ ≤ _; exact Nat.le_of_ble_eq_true rfl) (mono_Qu_init a x1) (fun X C => ?_)
  show sn_S X 0 [(0, vA (some a)), (1, vI x1)] [] _
  replace C : sn_Cx X c_Qu_init "SignalNetwork$Queue" none "<init>" 2 1 21 := C
  unfold f_Qu_init
  refine r_aload_n (q := 1) (i := 0) (pl := 0) C d_Qu_init_0 rfl rfl rfl ?_
  refine r_objInit (q := 4) C d_Qu_init_1 rfl LO_Qu_1 W_oi W_oc (by decide) (by decide) a rfl ?_
  refine r_aload_n (q := 5) (i := 0) (pl := 0) C d_Qu_init_4 rfl rfl rfl ?_
  refine r_iload_n (q := 6) (i := 1) (pl := 1) C d_Qu_init_5 rfl rfl rfl ?_
  refine r_iconst (q := 7) (v := 1) C d_Qu_init_6 rfl (by decide) ?_
  refine r_csI (q := 10) (As := [vI x1, vI (1 : Int32)]) (st := [vA (some a)]) C d_Qu_init_7 rfl Y_Ma_max L_Qu_7 St_Ma_max rfl (Nat.le_of_ble_eq_true rfl) (Nat.le_of_ble_eq_true rfl) (Nat.le_of_ble_eq_true rfl) rfl (con_Ma_max x1 (1 : Int32)) (fun v1 => ?_)
  refine r_newa (q := 12) (aty := .long) (kd := 22) (tyi := 1) (ty := .long) C (by decide) rfl (fun _ => rfl) (Or.inr (Or.inl ⟨rfl, (Or.inl rfl)⟩)) AC_22 d_Qu_init_10 rfl (fun v2 => ?_)
  refine r_pR (q := 15) C d_Qu_init_12 rfl F_Qu_13 rfl (Or.inr ⟨_, rfl⟩) (Or.inr ⟨rfl, _, _, rfl⟩) ?_
  exact r_vret C d_Qu_init_15 rfl
theorem d_Qu_at_0 : decode c_Qu_at 0 = .ok (.iload_n 1, 1) := by decide +kernel
theorem d_Qu_at_1 : decode c_Qu_at 1 = .ok (.ifCond .lt 11, 3) := by decide +kernel
theorem d_Qu_at_4 : decode c_Qu_at 4 = .ok (.iload_n 1, 1) := by decide +kernel
theorem d_Qu_at_5 : decode c_Qu_at 5 = .ok (.aload_n 0, 1) := by decide +kernel
theorem d_Qu_at_6 : decode c_Qu_at 6 = .ok (.getfield 19, 3) := by decide +kernel
theorem d_Qu_at_9 : decode c_Qu_at 9 = .ok (.if_icmp .lt 5, 3) := by decide +kernel
theorem d_Qu_at_12 : decode c_Qu_at 12 = .ok (.lconst 0, 1) := by decide +kernel
theorem d_Qu_at_13 : decode c_Qu_at 13 = .ok (.lreturn, 1) := by decide +kernel
theorem d_Qu_at_14 : decode c_Qu_at 14 = .ok (.aload_n 0, 1) := by decide +kernel
theorem d_Qu_at_15 : decode c_Qu_at 15 = .ok (.getfield 23, 3) := by decide +kernel
theorem d_Qu_at_18 : decode c_Qu_at 18 = .ok (.iload_n 1, 1) := by decide +kernel
theorem d_Qu_at_19 : decode c_Qu_at 19 = .ok (.iadd, 1) := by decide +kernel
theorem d_Qu_at_20 : decode c_Qu_at 20 = .ok (.istore_n 2, 1) := by decide +kernel
theorem d_Qu_at_21 : decode c_Qu_at 21 = .ok (.aload_n 0, 1) := by decide +kernel
theorem d_Qu_at_22 : decode c_Qu_at 22 = .ok (.getfield 13, 3) := by decide +kernel
theorem d_Qu_at_25 : decode c_Qu_at 25 = .ok (.iload_n 2, 1) := by decide +kernel
theorem d_Qu_at_26 : decode c_Qu_at 26 = .ok (.aload_n 0, 1) := by decide +kernel
theorem d_Qu_at_27 : decode c_Qu_at 27 = .ok (.getfield 13, 3) := by decide +kernel
theorem d_Qu_at_30 : decode c_Qu_at 30 = .ok (.arraylength, 1) := by decide +kernel
theorem d_Qu_at_31 : decode c_Qu_at 31 = .ok (.if_icmp .ge 7, 3) := by decide +kernel
theorem d_Qu_at_34 : decode c_Qu_at 34 = .ok (.iload_n 2, 1) := by decide +kernel
theorem d_Qu_at_35 : decode c_Qu_at 35 = .ok (.goto 10, 3) := by decide +kernel
theorem d_Qu_at_38 : decode c_Qu_at 38 = .ok (.iload_n 2, 1) := by decide +kernel
theorem d_Qu_at_39 : decode c_Qu_at 39 = .ok (.aload_n 0, 1) := by decide +kernel
theorem d_Qu_at_40 : decode c_Qu_at 40 = .ok (.getfield 13, 3) := by decide +kernel
theorem d_Qu_at_43 : decode c_Qu_at 43 = .ok (.arraylength, 1) := by decide +kernel
theorem d_Qu_at_44 : decode c_Qu_at 44 = .ok (.isub, 1) := by decide +kernel
theorem d_Qu_at_45 : decode c_Qu_at 45 = .ok (.laload, 1) := by decide +kernel
theorem d_Qu_at_46 : decode c_Qu_at 46 = .ok (.lreturn, 1) := by decide +kernel
def f_Qu_at_12 (a : Nat) : sn_M := r_J (0 : Int64)
set_option maxHeartbeats 4000000 in
set_option maxRecDepth 100000 in
theorem mono_Qu_at_12 (a : Nat) : sn_Mono (f_Qu_at_12 a) := sn_Mono.rJ
set_option maxHeartbeats 4000000 in
set_option maxRecDepth 100000 in
theorem s_Qu_at_12 {X : sn_X} (C : sn_Cx X c_Qu_at "SignalNetwork$Queue" (some .long) "at" 3 0 0) (a : Nat) : sn_S X 12 [(0, vA (some a))] [] (f_Qu_at_12 a) := by
  unfold f_Qu_at_12
  refine r_lconst (q := 13) (v := 0) C d_Qu_at_12 rfl (by decide) ?_
  exact r_lret C d_Qu_at_13 rfl
def f_Qu_at_45 (a : Nat) (t0 : Option Nat) (t1 : Int32) : sn_M := a_J 22 t0 t1 fun v1 => r_J v1
set_option maxHeartbeats 4000000 in
set_option maxRecDepth 100000 in
theorem mono_Qu_at_45 (a : Nat) (t0 : Option Nat) (t1 : Int32) : sn_Mono (f_Qu_at_45 a t0 t1) := sn_Mono.aJ (fun v1 => sn_Mono.rJ)
set_option maxHeartbeats 4000000 in
set_option maxRecDepth 100000 in
theorem s_Qu_at_45 {X : sn_X} (C : sn_Cx X c_Qu_at "SignalNetwork$Queue" (some .long) "at" 3 0 0) (a : Nat) (t0 : Option Nat) (t1 : Int32) : sn_S X 45 [(0, vA (some a))] [vI t1, vA t0] (f_Qu_at_45 a t0 t1) := by
  unfold f_Qu_at_45
  refine r_aJ (q := 46) C (Or.inl rfl) d_Qu_at_45 rfl (fun v1 => ?_)
  exact r_lret C d_Qu_at_46 rfl
def f_Qu_at (a : Nat) (x1 : Int32) : sn_M := (if x1 < 0 then f_Qu_at_12 a else g_I 6 2 (some a) fun v2 => (if x1 < v2 then g_I 6 1 (some a) fun v3 => n_I ((v3 + x1)) fun n4 => g_R 6 0 (some a) fun v5 => g_R 6 0 (some a) fun v6 => a_len 22 v6 fun v7 => (if v7 ≤ n4 then g_R 6 0 (some a) fun v8 => a_len 22 v8 fun v9 => f_Qu_at_45 a v5 (n4 - v9) else f_Qu_at_45 a v5 n4) else f_Qu_at_12 a))
set_option maxHeartbeats 4000000 in
set_option maxRecDepth 100000 in
theorem mono_Qu_at (a : Nat) (x1 : Int32) : sn_Mono (f_Qu_at a x1) := sn_Mono.ite (mono_Qu_at_12 a) (sn_Mono.gI (fun v2 => sn_Mono.ite (sn_Mono.gI (fun v3 => sn_Mono.nI (fun n4 => sn_Mono.gR (fun v5 => sn_Mono.gR (fun v6 => sn_Mono.alen (fun v7 => sn_Mono.ite (sn_Mono.gR (fun v8 => sn_Mono.alen (fun v9 => mono_Qu_at_45 a v5 (n4 - v9)))) (mono_Qu_at_45 a v5 n4))))))) (mono_Qu_at_12 a)))
set_option maxHeartbeats 4000000 in
set_option maxRecDepth 100000 in
theorem con_Qu_at (a : Nat) (x1 : Int32) : sn_Con y_Qu_at c_Qu_at 3 (some .long) 0 0 [vA (some a), vI x1] (f_Qu_at a x1) := by
  refine sn_Con.of (by decide +kernel) (by show _ ≤ _; exact Nat.le_of_ble_eq_true rfl) (mono_Qu_at a x1) (fun X C => ?_)
  show sn_S X 0 [(0, vA (some a)), (1, vI x1)] [] _
  replace C : sn_Cx X c_Qu_at "SignalNetwork$Queue" (some .long) "at" 3 0 0 := C
  unfold f_Qu_at
  refine r_iload_n (q := 1) (i := 1) (pl := 1) C d_Qu_at_0 rfl rfl rfl ?_
  refine r_if_lt (tgt := 12) (q := 4) C d_Qu_at_1 (by decide) rfl ?_ ?_
  · refine r_sub (lv' := [(0, vA (some a))]) [0] rfl ?_
    exact s_Qu_at_12 C a
  · refine r_iload_n (q := 5) (i := 1) (pl := 1) C d_Qu_at_4 rfl rfl rfl ?_
    refine r_aload_n (q := 6) (i := 0) (pl := 0) C d_Qu_at_5 rfl rfl rfl ?_
    refine r_gI (q := 9) C d_Qu_at_6 rfl F_Qu_19 rfl (fun v2 => ?_)
    refine r_icmp_lt (tgt := 14) (q := 12) C d_Qu_at_9 (by decide) rfl ?_ ?_
    · refine r_aload_n (q := 15) (i := 0) (pl := 0) C d_Qu_at_14 rfl rfl rfl ?_
      refine r_gI (q := 18) C d_Qu_at_15 rfl F_Qu_23 rfl (fun v3 => ?_)
      refine r_iload_n (q := 19) (i := 1) (pl := 1) C d_Qu_at_18 rfl rfl rfl ?_
      refine r_iadd (q := 20) C d_Qu_at_19 rfl ?_
      refine r_nI (fun n4 => ?_)
      refine r_istore_n (q := 21) (i := 2) (lv' := [(2, vI n4), (0, vA (some a)), (1, vI x1)]) C d_Qu_at_20 rfl rfl (by decide) rfl ?_
      refine r_aload_n (q := 22) (i := 0) (pl := 1) C d_Qu_at_21 rfl rfl rfl ?_
      refine r_gR (q := 25) C d_Qu_at_22 rfl F_Qu_13 rfl (fun v5 => ?_)
      refine r_iload_n (q := 26) (i := 2) (pl := 0) C d_Qu_at_25 rfl rfl rfl ?_
      refine r_aload_n (q := 27) (i := 0) (pl := 1) C d_Qu_at_26 rfl rfl rfl ?_
      refine r_gR (q := 30) C d_Qu_at_27 rfl F_Qu_13 rfl (fun v6 => ?_)
      refine r_alen (q := 31) (kd := 22) (tyi := 1) C (by decide) (fun _ => rfl) d_Qu_at_30 rfl (fun v7 => ?_)
      refine r_icmp_ge (tgt := 38) (q := 34) C d_Qu_at_31 (by decide) rfl ?_ ?_
      · refine r_iload_n (q := 39) (i := 2) (pl := 0) C d_Qu_at_38 rfl rfl rfl ?_
        refine r_aload_n (q := 40) (i := 0) (pl := 1) C d_Qu_at_39 rfl rfl rfl ?_
        refine r_gR (q := 43) C d_Qu_at_40 rfl F_Qu_13 rfl (fun v8 => ?_)
        refine r_alen (q := 44) (kd := 22) (tyi := 1) C (by decide) (fun _ => rfl) d_Qu_at_43 rfl (fun v9 => ?_)
        refine r_isub (q := 45) C d_Qu_at_44 rfl ?_
        refine r_sub (lv' := [(0, vA (some a))]) [1] rfl ?_
        exact s_Qu_at_45 C a v5 (n4 - v9)
      · refine r_iload_n (q := 35) (i := 2) (pl := 0) C d_Qu_at_34 rfl rfl rfl ?_
        refine r_goto (tgt := 45) C d_Qu_at_35 (by decide) ?_
        refine r_sub (lv' := [(0, vA (some a))]) [1] rfl ?_
        exact s_Qu_at_45 C a v5 n4
    · refine r_sub (lv' := [(0, vA (some a))]) [0] rfl ?_
      exact s_Qu_at_12 C a
theorem d_Qu_add_0 : decode c_Qu_add 0 = .ok (.aload_n 0, 1) := by decide +kernel
theorem d_Qu_add_1 : decode c_Qu_add 1 = .ok (.getfield 19, 3) := by decide +kernel
theorem d_Qu_add_4 : decode c_Qu_add 4 = .ok (.aload_n 0, 1) := by decide +kernel
theorem d_Qu_add_5 : decode c_Qu_add 5 = .ok (.getfield 13, 3) := by decide +kernel
theorem d_Qu_add_8 : decode c_Qu_add 8 = .ok (.arraylength, 1) := by decide +kernel
theorem d_Qu_add_9 : decode c_Qu_add 9 = .ok (.if_icmp .lt 5, 3) := by decide +kernel
theorem d_Qu_add_12 : decode c_Qu_add 12 = .ok (.iconst 0, 1) := by decide +kernel
theorem d_Qu_add_13 : decode c_Qu_add 13 = .ok (.ireturn, 1) := by decide +kernel
theorem d_Qu_add_14 : decode c_Qu_add 14 = .ok (.aload_n 0, 1) := by decide +kernel
theorem d_Qu_add_15 : decode c_Qu_add 15 = .ok (.getfield 23, 3) := by decide +kernel
theorem d_Qu_add_18 : decode c_Qu_add 18 = .ok (.aload_n 0, 1) := by decide +kernel
theorem d_Qu_add_19 : decode c_Qu_add 19 = .ok (.getfield 19, 3) := by decide +kernel
theorem d_Qu_add_22 : decode c_Qu_add 22 = .ok (.iadd, 1) := by decide +kernel
theorem d_Qu_add_23 : decode c_Qu_add 23 = .ok (.istore_n 3, 1) := by decide +kernel
theorem d_Qu_add_24 : decode c_Qu_add 24 = .ok (.aload_n 0, 1) := by decide +kernel
theorem d_Qu_add_25 : decode c_Qu_add 25 = .ok (.getfield 13, 3) := by decide +kernel
theorem d_Qu_add_28 : decode c_Qu_add 28 = .ok (.iload_n 3, 1) := by decide +kernel
theorem d_Qu_add_29 : decode c_Qu_add 29 = .ok (.aload_n 0, 1) := by decide +kernel
theorem d_Qu_add_30 : decode c_Qu_add 30 = .ok (.getfield 13, 3) := by decide +kernel
theorem d_Qu_add_33 : decode c_Qu_add 33 = .ok (.arraylength, 1) := by decide +kernel
theorem d_Qu_add_34 : decode c_Qu_add 34 = .ok (.if_icmp .ge 7, 3) := by decide +kernel
theorem d_Qu_add_37 : decode c_Qu_add 37 = .ok (.iload_n 3, 1) := by decide +kernel
theorem d_Qu_add_38 : decode c_Qu_add 38 = .ok (.goto 10, 3) := by decide +kernel
theorem d_Qu_add_41 : decode c_Qu_add 41 = .ok (.iload_n 3, 1) := by decide +kernel
theorem d_Qu_add_42 : decode c_Qu_add 42 = .ok (.aload_n 0, 1) := by decide +kernel
theorem d_Qu_add_43 : decode c_Qu_add 43 = .ok (.getfield 13, 3) := by decide +kernel
theorem d_Qu_add_46 : decode c_Qu_add 46 = .ok (.arraylength, 1) := by decide +kernel
theorem d_Qu_add_47 : decode c_Qu_add 47 = .ok (.isub, 1) := by decide +kernel
theorem d_Qu_add_48 : decode c_Qu_add 48 = .ok (.lload_n 1, 1) := by decide +kernel
theorem d_Qu_add_49 : decode c_Qu_add 49 = .ok (.lastore, 1) := by decide +kernel
theorem d_Qu_add_50 : decode c_Qu_add 50 = .ok (.aload_n 0, 1) := by decide +kernel
theorem d_Qu_add_51 : decode c_Qu_add 51 = .ok (.dup, 1) := by decide +kernel
theorem d_Qu_add_52 : decode c_Qu_add 52 = .ok (.getfield 19, 3) := by decide +kernel
theorem d_Qu_add_55 : decode c_Qu_add 55 = .ok (.iconst 1, 1) := by decide +kernel
theorem d_Qu_add_56 : decode c_Qu_add 56 = .ok (.iadd, 1) := by decide +kernel
theorem d_Qu_add_57 : decode c_Qu_add 57 = .ok (.putfield 19, 3) := by decide +kernel
theorem d_Qu_add_60 : decode c_Qu_add 60 = .ok (.iconst 1, 1) := by decide +kernel
theorem d_Qu_add_61 : decode c_Qu_add 61 = .ok (.ireturn, 1) := by decide +kernel
def f_Qu_add_48 (a : Nat) (l1 : Int64) (t0 : Option Nat) (t1 : Int32) : sn_M := b_J 22 t0 t1 l1 (g_I 6 2 (some a) fun v1 => p_I 6 2 (some a) (v1 + (1 : Int32)) (r_Z (1 : Int32)))
set_option maxHeartbeats 4000000 in
set_option maxRecDepth 100000 in
theorem mono_Qu_add_48 (a : Nat) (l1 : Int64) (t0 : Option Nat) (t1 : Int32) : sn_Mono (f_Qu_add_48 a l1 t0 t1) := sn_Mono.bJ (sn_Mono.gI (fun v1 => sn_Mono.pI (sn_Mono.rZ)))
set_option maxHeartbeats 4000000 in
set_option maxRecDepth 100000 in
theorem s_Qu_add_48 {X : sn_X} (C : sn_Cx X c_Qu_add "SignalNetwork$Queue" (some .boolean) "add" 4 0 0) (a : Nat) (l1 : Int64) (t0 : Option Nat) (t1 : Int32) : sn_S X 48 [(0, vA (some a)), (1, vJ l1)] [vI t1, vA t0] (f_Qu_add_48 a l1 t0 t1) := by
  unfold f_Qu_add_48
  refine r_lload_n (q := 49) (i := 1) (pl := 1) C d_Qu_add_48 rfl rfl rfl ?_
  refine r_bJ (q := 50) C (Or.inl rfl) d_Qu_add_49 rfl ?_
  refine r_aload_n (q := 51) (i := 0) (pl := 0) C d_Qu_add_50 rfl rfl rfl ?_
  refine r_dup (q := 52) C d_Qu_add_51 rfl rfl ?_
  refine r_gI (q := 55) C d_Qu_add_52 rfl F_Qu_19 rfl (fun v1 => ?_)
  refine r_iconst (q := 56) (v := 1) C d_Qu_add_55 rfl (by decide) ?_
  refine r_iadd (q := 57) C d_Qu_add_56 rfl ?_
  refine r_pI (q := 60) C d_Qu_add_57 rfl F_Qu_19 rfl rfl (Or.inl rfl) ?_
  refine r_iconst (q := 61) (v := 1) C d_Qu_add_60 rfl (by decide) ?_
  exact r_zret C d_Qu_add_61 rfl
def f_Qu_add (a : Nat) (l1 : Int64) : sn_M := g_I 6 2 (some a) fun v2 => g_R 6 0 (some a) fun v3 => a_len 22 v3 fun v4 => (if v2 < v4 then g_I 6 1 (some a) fun v5 => g_I 6 2 (some a) fun v6 => n_I ((v5 + v6)) fun n7 => g_R 6 0 (some a) fun v8 => g_R 6 0 (some a) fun v9 => a_len 22 v9 fun v10 => (if v10 ≤ n7 then g_R 6 0 (some a) fun v11 => a_len 22 v11 fun v12 => f_Qu_add_48 a l1 v8 (n7 - v12) else f_Qu_add_48 a l1 v8 n7) else r_Z (0 : Int32))
set_option maxHeartbeats 4000000 in
set_option maxRecDepth 100000 in
theorem mono_Qu_add (a : Nat) (l1 : Int64) : sn_Mono (f_Qu_add a l1) := sn_Mono.gI (fun v2 => sn_Mono.gR (fun v3 => sn_Mono.alen (fun v4 => sn_Mono.ite (sn_Mono.gI (fun v5 => sn_Mono.gI (fun v6 => sn_Mono.nI (fun n7 => sn_Mono.gR (fun v8 => sn_Mono.gR (fun v9 => sn_Mono.alen (fun v10 => sn_Mono.ite (sn_Mono.gR (fun v11 => sn_Mono.alen (fun v12 => mono_Qu_add_48 a l1 v8 (n7 - v12)))) (mono_Qu_add_48 a l1 v8 n7)))))))) (sn_Mono.rZ))))
set_option maxHeartbeats 4000000 in
set_option maxRecDepth 100000 in
theorem con_Qu_add (a : Nat) (l1 : Int64) : sn_Con y_Qu_add c_Qu_add 4 (some .boolean) 0 0 [vA (some a), vJ l1] (f_Qu_add a l1) := by
  refine sn_Con.of (by decide +kernel) (by show _ ≤ _; exact Nat.le_of_ble_eq_true rfl) (mono_Qu_add a l1) (fun X C => ?_)
  show sn_S X 0 [(0, vA (some a)), (1, vJ l1)] [] _
  replace C : sn_Cx X c_Qu_add "SignalNetwork$Queue" (some .boolean) "add" 4 0 0 := C
  unfold f_Qu_add
  refine r_aload_n (q := 1) (i := 0) (pl := 0) C d_Qu_add_0 rfl rfl rfl ?_
  refine r_gI (q := 4) C d_Qu_add_1 rfl F_Qu_19 rfl (fun v2 => ?_)
  refine r_aload_n (q := 5) (i := 0) (pl := 0) C d_Qu_add_4 rfl rfl rfl ?_
  refine r_gR (q := 8) C d_Qu_add_5 rfl F_Qu_13 rfl (fun v3 => ?_)
  refine r_alen (q := 9) (kd := 22) (tyi := 1) C (by decide) (fun _ => rfl) d_Qu_add_8 rfl (fun v4 => ?_)
  refine r_icmp_lt (tgt := 14) (q := 12) C d_Qu_add_9 (by decide) rfl ?_ ?_
  · refine r_aload_n (q := 15) (i := 0) (pl := 0) C d_Qu_add_14 rfl rfl rfl ?_
    refine r_gI (q := 18) C d_Qu_add_15 rfl F_Qu_23 rfl (fun v5 => ?_)
    refine r_aload_n (q := 19) (i := 0) (pl := 0) C d_Qu_add_18 rfl rfl rfl ?_
    refine r_gI (q := 22) C d_Qu_add_19 rfl F_Qu_19 rfl (fun v6 => ?_)
    refine r_iadd (q := 23) C d_Qu_add_22 rfl ?_
    refine r_nI (fun n7 => ?_)
    refine r_istore_n (q := 24) (i := 3) (lv' := [(3, vI n7), (0, vA (some a)), (1, vJ l1)]) C d_Qu_add_23 rfl rfl (by decide) rfl ?_
    refine r_aload_n (q := 25) (i := 0) (pl := 1) C d_Qu_add_24 rfl rfl rfl ?_
    refine r_gR (q := 28) C d_Qu_add_25 rfl F_Qu_13 rfl (fun v8 => ?_)
    refine r_iload_n (q := 29) (i := 3) (pl := 0) C d_Qu_add_28 rfl rfl rfl ?_
    refine r_aload_n (q := 30) (i := 0) (pl := 1) C d_Qu_add_29 rfl rfl rfl ?_
    refine r_gR (q := 33) C d_Qu_add_30 rfl F_Qu_13 rfl (fun v9 => ?_)
    refine r_alen (q := 34) (kd := 22) (tyi := 1) C (by decide) (fun _ => rfl) d_Qu_add_33 rfl (fun v10 => ?_)
    refine r_icmp_ge (tgt := 41) (q := 37) C d_Qu_add_34 (by decide) rfl ?_ ?_
    · refine r_iload_n (q := 42) (i := 3) (pl := 0) C d_Qu_add_41 rfl rfl rfl ?_
      refine r_aload_n (q := 43) (i := 0) (pl := 1) C d_Qu_add_42 rfl rfl rfl ?_
      refine r_gR (q := 46) C d_Qu_add_43 rfl F_Qu_13 rfl (fun v11 => ?_)
      refine r_alen (q := 47) (kd := 22) (tyi := 1) C (by decide) (fun _ => rfl) d_Qu_add_46 rfl (fun v12 => ?_)
      refine r_isub (q := 48) C d_Qu_add_47 rfl ?_
      refine r_sub (lv' := [(0, vA (some a)), (1, vJ l1)]) [1, 2] rfl ?_
      exact s_Qu_add_48 C a l1 v8 (n7 - v12)
    · refine r_iload_n (q := 38) (i := 3) (pl := 0) C d_Qu_add_37 rfl rfl rfl ?_
      refine r_goto (tgt := 48) C d_Qu_add_38 (by decide) ?_
      refine r_sub (lv' := [(0, vA (some a)), (1, vJ l1)]) [1, 2] rfl ?_
      exact s_Qu_add_48 C a l1 v8 n7
  · refine r_iconst (q := 13) (v := 0) C d_Qu_add_12 rfl (by decide) ?_
    exact r_zret C d_Qu_add_13 rfl
theorem d_Qu_drop_0 : decode c_Qu_drop 0 = .ok (.iload_n 1, 1) := by decide +kernel
theorem d_Qu_drop_1 : decode c_Qu_drop 1 = .ok (.aload_n 0, 1) := by decide +kernel
theorem d_Qu_drop_2 : decode c_Qu_drop 2 = .ok (.getfield 19, 3) := by decide +kernel
theorem d_Qu_drop_5 : decode c_Qu_drop 5 = .ok (.if_icmp .ge 7, 3) := by decide +kernel
theorem d_Qu_drop_8 : decode c_Qu_drop 8 = .ok (.iload_n 1, 1) := by decide +kernel
theorem d_Qu_drop_9 : decode c_Qu_drop 9 = .ok (.goto 7, 3) := by decide +kernel
theorem d_Qu_drop_12 : decode c_Qu_drop 12 = .ok (.aload_n 0, 1) := by decide +kernel
theorem d_Qu_drop_13 : decode c_Qu_drop 13 = .ok (.getfield 19, 3) := by decide +kernel
theorem d_Qu_drop_16 : decode c_Qu_drop 16 = .ok (.istore_n 2, 1) := by decide +kernel
theorem d_Qu_drop_17 : decode c_Qu_drop 17 = .ok (.aload_n 0, 1) := by decide +kernel
theorem d_Qu_drop_18 : decode c_Qu_drop 18 = .ok (.dup, 1) := by decide +kernel
theorem d_Qu_drop_19 : decode c_Qu_drop 19 = .ok (.getfield 23, 3) := by decide +kernel
theorem d_Qu_drop_22 : decode c_Qu_drop 22 = .ok (.iload_n 2, 1) := by decide +kernel
theorem d_Qu_drop_23 : decode c_Qu_drop 23 = .ok (.iadd, 1) := by decide +kernel
theorem d_Qu_drop_24 : decode c_Qu_drop 24 = .ok (.putfield 23, 3) := by decide +kernel
theorem d_Qu_drop_27 : decode c_Qu_drop 27 = .ok (.aload_n 0, 1) := by decide +kernel
theorem d_Qu_drop_28 : decode c_Qu_drop 28 = .ok (.aload_n 0, 1) := by decide +kernel
theorem d_Qu_drop_29 : decode c_Qu_drop 29 = .ok (.getfield 23, 3) := by decide +kernel
theorem d_Qu_drop_32 : decode c_Qu_drop 32 = .ok (.aload_n 0, 1) := by decide +kernel
theorem d_Qu_drop_33 : decode c_Qu_drop 33 = .ok (.getfield 13, 3) := by decide +kernel
theorem d_Qu_drop_36 : decode c_Qu_drop 36 = .ok (.arraylength, 1) := by decide +kernel
theorem d_Qu_drop_37 : decode c_Qu_drop 37 = .ok (.if_icmp .ge 10, 3) := by decide +kernel
theorem d_Qu_drop_40 : decode c_Qu_drop 40 = .ok (.aload_n 0, 1) := by decide +kernel
theorem d_Qu_drop_41 : decode c_Qu_drop 41 = .ok (.getfield 23, 3) := by decide +kernel
theorem d_Qu_drop_44 : decode c_Qu_drop 44 = .ok (.goto 13, 3) := by decide +kernel
theorem d_Qu_drop_47 : decode c_Qu_drop 47 = .ok (.aload_n 0, 1) := by decide +kernel
theorem d_Qu_drop_48 : decode c_Qu_drop 48 = .ok (.getfield 23, 3) := by decide +kernel
theorem d_Qu_drop_51 : decode c_Qu_drop 51 = .ok (.aload_n 0, 1) := by decide +kernel
theorem d_Qu_drop_52 : decode c_Qu_drop 52 = .ok (.getfield 13, 3) := by decide +kernel
theorem d_Qu_drop_55 : decode c_Qu_drop 55 = .ok (.arraylength, 1) := by decide +kernel
theorem d_Qu_drop_56 : decode c_Qu_drop 56 = .ok (.isub, 1) := by decide +kernel
theorem d_Qu_drop_57 : decode c_Qu_drop 57 = .ok (.putfield 23, 3) := by decide +kernel
theorem d_Qu_drop_60 : decode c_Qu_drop 60 = .ok (.aload_n 0, 1) := by decide +kernel
theorem d_Qu_drop_61 : decode c_Qu_drop 61 = .ok (.dup, 1) := by decide +kernel
theorem d_Qu_drop_62 : decode c_Qu_drop 62 = .ok (.getfield 19, 3) := by decide +kernel
theorem d_Qu_drop_65 : decode c_Qu_drop 65 = .ok (.iload_n 2, 1) := by decide +kernel
theorem d_Qu_drop_66 : decode c_Qu_drop 66 = .ok (.isub, 1) := by decide +kernel
theorem d_Qu_drop_67 : decode c_Qu_drop 67 = .ok (.putfield 19, 3) := by decide +kernel
theorem d_Qu_drop_70 : decode c_Qu_drop 70 = .ok (.return_, 1) := by decide +kernel
def f_Qu_drop_57 (a : Nat) (x2 : Int32) (t0 : Option Nat) (t1 : Int32) : sn_M := p_I 6 1 t0 t1 (g_I 6 2 (some a) fun v1 => p_I 6 2 (some a) (v1 - x2) (r_V))
set_option maxHeartbeats 4000000 in
set_option maxRecDepth 100000 in
theorem mono_Qu_drop_57 (a : Nat) (x2 : Int32) (t0 : Option Nat) (t1 : Int32) : sn_Mono (f_Qu_drop_57 a x2 t0 t1) := sn_Mono.pI (sn_Mono.gI (fun v1 => sn_Mono.pI (sn_Mono.rV)))
set_option maxHeartbeats 4000000 in
set_option maxRecDepth 100000 in
theorem s_Qu_drop_57 {X : sn_X} (C : sn_Cx X c_Qu_drop "SignalNetwork$Queue" none "drop" 3 0 0) (a : Nat) (x2 : Int32) (t0 : Option Nat) (t1 : Int32) : sn_S X 57 [(0, vA (some a)), (2, vI x2)] [vI t1, vA t0] (f_Qu_drop_57 a x2 t0 t1) := by
  unfold f_Qu_drop_57
  refine r_pI (q := 60) C d_Qu_drop_57 rfl F_Qu_23 rfl rfl (Or.inl rfl) ?_
  refine r_aload_n (q := 61) (i := 0) (pl := 0) C d_Qu_drop_60 rfl rfl rfl ?_
  refine r_dup (q := 62) C d_Qu_drop_61 rfl rfl ?_
  refine r_gI (q := 65) C d_Qu_drop_62 rfl F_Qu_19 rfl (fun v1 => ?_)
  refine r_iload_n (q := 66) (i := 2) (pl := 1) C d_Qu_drop_65 rfl rfl rfl ?_
  refine r_isub (q := 67) C d_Qu_drop_66 rfl ?_
  refine r_pI (q := 70) C d_Qu_drop_67 rfl F_Qu_19 rfl rfl (Or.inl rfl) ?_
  exact r_vret C d_Qu_drop_70 rfl
def f_Qu_drop_16 (a : Nat) (t0 : Int32) : sn_M := g_I 6 1 (some a) fun v2 => p_I 6 1 (some a) (v2 + t0) (g_I 6 1 (some a) fun v3 => g_R 6 0 (some a) fun v4 => a_len 22 v4 fun v5 => (if v5 ≤ v3 then g_I 6 1 (some a) fun v6 => g_R 6 0 (some a) fun v7 => a_len 22 v7 fun v8 => f_Qu_drop_57 a t0 (some a) (v6 - v8) else g_I 6 1 (some a) fun v9 => f_Qu_drop_57 a t0 (some a) v9))
set_option maxHeartbeats 4000000 in
set_option maxRecDepth 100000 in
theorem mono_Qu_drop_16 (a : Nat) (t0 : Int32) : sn_Mono (f_Qu_drop_16 a t0) := sn_Mono.gI (fun v2 => sn_Mono.pI (sn_Mono.gI (fun v3 => sn_Mono.gR (fun v4 => sn_Mono.alen (fun v5 => sn_Mono.ite (sn_Mono.gI (fun v6 => sn_Mono.gR (fun v7 => sn_Mono.alen (fun v8 => mono_Qu_drop_57 a t0 (some a) (v6 - v8))))) (sn_Mono.gI (fun v9 => mono_Qu_drop_57 a t0 (some a) v9)))))))
set_option maxHeartbeats 4000000 in
set_option maxRecDepth 100000 in
theorem s_Qu_drop_16 {X : sn_X} (C : sn_Cx X c_Qu_drop "SignalNetwork$Queue" none "drop" 3 0 0) (a : Nat) (t0 : Int32) : sn_S X 16 [(0, vA (some a))] [vI t0] (f_Qu_drop_16 a t0) := by
  unfold f_Qu_drop_16
  refine r_istore_n (q := 17) (i := 2) (lv' := [(2, vI t0), (0, vA (some a))]) C d_Qu_drop_16 rfl rfl (by decide) rfl ?_
  refine r_aload_n (q := 18) (i := 0) (pl := 1) C d_Qu_drop_17 rfl rfl rfl ?_
  refine r_dup (q := 19) C d_Qu_drop_18 rfl rfl ?_
  refine r_gI (q := 22) C d_Qu_drop_19 rfl F_Qu_23 rfl (fun v2 => ?_)
  refine r_iload_n (q := 23) (i := 2) (pl := 0) C d_Qu_drop_22 rfl rfl rfl ?_
  refine r_iadd (q := 24) C d_Qu_drop_23 rfl ?_
  refine r_pI (q := 27) C d_Qu_drop_24 rfl F_Qu_23 rfl rfl (Or.inl rfl) ?_
  refine r_aload_n (q := 28) (i := 0) (pl := 1) C d_Qu_drop_27 rfl rfl rfl ?_
  refine r_aload_n (q := 29) (i := 0) (pl := 1) C d_Qu_drop_28 rfl rfl rfl ?_
  refine r_gI (q := 32) C d_Qu_drop_29 rfl F_Qu_23 rfl (fun v3 => ?_)
  refine r_aload_n (q := 33) (i := 0) (pl := 1) C d_Qu_drop_32 rfl rfl rfl ?_
  refine r_gR (q := 36) C d_Qu_drop_33 rfl F_Qu_13 rfl (fun v4 => ?_)
  refine r_alen (q := 37) (kd := 22) (tyi := 1) C (by decide) (fun _ => rfl) d_Qu_drop_36 rfl (fun v5 => ?_)
  refine r_icmp_ge (tgt := 47) (q := 40) C d_Qu_drop_37 (by decide) rfl ?_ ?_
  · refine r_aload_n (q := 48) (i := 0) (pl := 1) C d_Qu_drop_47 rfl rfl rfl ?_
    refine r_gI (q := 51) C d_Qu_drop_48 rfl F_Qu_23 rfl (fun v6 => ?_)
    refine r_aload_n (q := 52) (i := 0) (pl := 1) C d_Qu_drop_51 rfl rfl rfl ?_
    refine r_gR (q := 55) C d_Qu_drop_52 rfl F_Qu_13 rfl (fun v7 => ?_)
    refine r_alen (q := 56) (kd := 22) (tyi := 1) C (by decide) (fun _ => rfl) d_Qu_drop_55 rfl (fun v8 => ?_)
    refine r_isub (q := 57) C d_Qu_drop_56 rfl ?_
    refine r_sub (lv' := [(0, vA (some a)), (2, vI t0)]) [1, 0] rfl ?_
    exact s_Qu_drop_57 C a t0 (some a) (v6 - v8)
  · refine r_aload_n (q := 41) (i := 0) (pl := 1) C d_Qu_drop_40 rfl rfl rfl ?_
    refine r_gI (q := 44) C d_Qu_drop_41 rfl F_Qu_23 rfl (fun v9 => ?_)
    refine r_goto (tgt := 57) C d_Qu_drop_44 (by decide) ?_
    refine r_sub (lv' := [(0, vA (some a)), (2, vI t0)]) [1, 0] rfl ?_
    exact s_Qu_drop_57 C a t0 (some a) v9
def f_Qu_drop (a : Nat) (x1 : Int32) : sn_M := g_I 6 2 (some a) fun v10 => (if v10 ≤ x1 then g_I 6 2 (some a) fun v11 => f_Qu_drop_16 a v11 else f_Qu_drop_16 a x1)
set_option maxHeartbeats 4000000 in
set_option maxRecDepth 100000 in
theorem mono_Qu_drop (a : Nat) (x1 : Int32) : sn_Mono (f_Qu_drop a x1) := sn_Mono.gI (fun v10 => sn_Mono.ite (sn_Mono.gI (fun v11 => mono_Qu_drop_16 a v11)) (mono_Qu_drop_16 a x1))
set_option maxHeartbeats 4000000 in
set_option maxRecDepth 100000 in
theorem con_Qu_drop (a : Nat) (x1 : Int32) : sn_Con y_Qu_drop c_Qu_drop 3 none 0 0 [vA (some a), vI x1] (f_Qu_drop a x1) := by
  refine sn_Con.of (by decide +kernel) (by show _ ≤ _; exact Nat.le_of_ble_eq_true rfl) (mono_Qu_drop a x1) (fun X C => ?_)
  show sn_S X 0 [(0, vA (some a)), (1, vI x1)] [] _
  replace C : sn_Cx X c_Qu_drop "SignalNetwork$Queue" none "drop" 3 0 0 := C
  unfold f_Qu_drop
  refine r_iload_n (q := 1) (i := 1) (pl := 1) C d_Qu_drop_0 rfl rfl rfl ?_
  refine r_aload_n (q := 2) (i := 0) (pl := 0) C d_Qu_drop_1 rfl rfl rfl ?_
  refine r_gI (q := 5) C d_Qu_drop_2 rfl F_Qu_19 rfl (fun v10 => ?_)
  refine r_icmp_ge (tgt := 12) (q := 8) C d_Qu_drop_5 (by decide) rfl ?_ ?_
  · refine r_aload_n (q := 13) (i := 0) (pl := 0) C d_Qu_drop_12 rfl rfl rfl ?_
    refine r_gI (q := 16) C d_Qu_drop_13 rfl F_Qu_19 rfl (fun v11 => ?_)
    refine r_sub (lv' := [(0, vA (some a))]) [0] rfl ?_
    exact s_Qu_drop_16 C a v11
  · refine r_iload_n (q := 9) (i := 1) (pl := 1) C d_Qu_drop_8 rfl rfl rfl ?_
    refine r_goto (tgt := 16) C d_Qu_drop_9 (by decide) ?_
    refine r_sub (lv' := [(0, vA (some a))]) [0] rfl ?_
    exact s_Qu_drop_16 C a x1
theorem d_Qu_takeFirst_0 : decode c_Qu_takeFirst 0 = .ok (.aload_n 0, 1) := by decide +kernel
theorem d_Qu_takeFirst_1 : decode c_Qu_takeFirst 1 = .ok (.iconst 0, 1) := by decide +kernel
theorem d_Qu_takeFirst_2 : decode c_Qu_takeFirst 2 = .ok (.invokevirtual 28, 3) := by decide +kernel
theorem d_Qu_takeFirst_5 : decode c_Qu_takeFirst 5 = .ok (.lstore_n 1, 1) := by decide +kernel
theorem d_Qu_takeFirst_6 : decode c_Qu_takeFirst 6 = .ok (.aload_n 0, 1) := by decide +kernel
theorem d_Qu_takeFirst_7 : decode c_Qu_takeFirst 7 = .ok (.iconst 1, 1) := by decide +kernel
theorem d_Qu_takeFirst_8 : decode c_Qu_takeFirst 8 = .ok (.invokevirtual 32, 3) := by decide +kernel
theorem d_Qu_takeFirst_11 : decode c_Qu_takeFirst 11 = .ok (.lload_n 1, 1) := by decide +kernel
theorem d_Qu_takeFirst_12 : decode c_Qu_takeFirst 12 = .ok (.lreturn, 1) := by decide +kernel
def f_Qu_takeFirst (a : Nat) : sn_M := n_n 6 (some a) fun a1 => c_J (f_Qu_at a1 (0 : Int32)) fun v2 => n_n 6 (some a) fun a3 => c_V (f_Qu_drop a3 (1 : Int32)) (r_J v2)
set_option maxHeartbeats 4000000 in
set_option maxRecDepth 100000 in
theorem mono_Qu_takeFirst (a : Nat) : sn_Mono (f_Qu_takeFirst a) := sn_Mono.nn (fun a1 => sn_Mono.cJ (mono_Qu_at a1 (0 : Int32)) (fun v2 => sn_Mono.nn (fun a3 => sn_Mono.cV (mono_Qu_drop a3 (1 : Int32)) (sn_Mono.rJ))))
set_option maxHeartbeats 4000000 in
set_option maxRecDepth 100000 in
theorem con_Qu_takeFirst (a : Nat) : sn_Con y_Qu_takeFirst c_Qu_takeFirst 3 (some .long) 1 22 [vA (some a)] (f_Qu_takeFirst a) := by
  refine sn_Con.of (by decide +kernel) (by show _ ≤ _; exact Nat.le_of_ble_eq_true rfl) (mono_Qu_takeFirst a) (fun X C => ?_)
  show sn_S X 0 [(0, vA (some a))] [] _
  replace C : sn_Cx X c_Qu_takeFirst "SignalNetwork$Queue" (some .long) "takeFirst" 3 1 22 := C
  unfold f_Qu_takeFirst
  refine r_aload_n (q := 1) (i := 0) (pl := 0) C d_Qu_takeFirst_0 rfl rfl rfl ?_
  refine r_iconst (q := 2) (v := 0) C d_Qu_takeFirst_1 rfl (by decide) ?_
  refine r_cvJ (q := 5) (As := [vI (0 : Int32)]) (st := []) (cy := 5) C d_Qu_takeFirst_2 rfl Y_Qu_at L_Qu_28 I_Qu_at Se_Qu_at rfl (by decide) rfl (Nat.le_of_ble_eq_true rfl) (Nat.le_of_ble_eq_true rfl) (Nat.le_of_ble_eq_true rfl) rfl (fun a1 => con_Qu_at a1 (0 : Int32)) (fun v2 => ?_)
  refine r_lstore_n (q := 6) (i := 1) (lv' := [(1, vJ v2), (0, vA (some a))]) C d_Qu_takeFirst_5 rfl rfl (by decide) rfl ?_
  refine r_aload_n (q := 7) (i := 0) (pl := 1) C d_Qu_takeFirst_6 rfl rfl rfl ?_
  refine r_iconst (q := 8) (v := 1) C d_Qu_takeFirst_7 rfl (by decide) ?_
  refine r_cvV (q := 11) (As := [vI (1 : Int32)]) (st := []) (cy := 5) C d_Qu_takeFirst_8 rfl Y_Qu_drop L_Qu_32 I_Qu_drop Se_Qu_drop rfl (by decide) rfl (Nat.le_of_ble_eq_true rfl) (Nat.le_of_ble_eq_true rfl) (Nat.le_of_ble_eq_true rfl) rfl (fun a3 => con_Qu_drop a3 (1 : Int32)) ?_
  refine r_lload_n (q := 12) (i := 1) (pl := 0) C d_Qu_takeFirst_11 rfl rfl rfl ?_
  exact r_lret C d_Qu_takeFirst_12 rfl
