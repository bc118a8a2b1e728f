theorem d_Ck_init_0 : decode c_Ck_init 0 = .ok (.aload_n 0, 1) := by decide +kernel
theorem d_Ck_init_1 : decode c_Ck_init 1 = .ok (.invokespecial 1, 3) := by decide +kernel
theorem d_Ck_init_4 : decode c_Ck_init 4 = .ok (.return_, 1) := by decide +kernel
def f_Ck_init (a : Nat) : sn_M := r_V
set_option maxHeartbeats 4000000 in
set_option maxRecDepth 100000 in
theorem mono_Ck_init (a : Nat) : sn_Mono (f_Ck_init a) := sn_Mono.rV
set_option maxHeartbeats 4000000 in
set_option maxRecDepth 100000 in
theorem con_Ck_init (a : Nat) : sn_Con y_Ck_init c_Ck_init 1 none 1 12 [vA (some a)] (f_Ck_init a) := by
  refine sn_Con.of (by decide +kernel) (by show _ ≤ _; exact Nat.le_of_ble_eq_true rfl) (mono_Ck_init a) (fun X C => ?_)
  show sn_S X 0 [(0, vA (some a))] [] _
  replace C : sn_Cx X c_Ck_init "SignalNetwork$Clock" none "<init>" 1 1 12 := C
  unfold f_Ck_init
  refine r_aload_n (q := 1) (i := 0) (pl := 0) C d_Ck_init_0 rfl rfl rfl ?_
  refine r_objInit (q := 4) C d_Ck_init_1 rfl LO_Ck_1 W_oi W_oc (by decide) (by decide) a rfl ?_
  exact r_vret C d_Ck_init_4 rfl
theorem d_Ck_beginLooking_0 : decode c_Ck_beginLooking 0 = .ok (.aload_n 0, 1) := by decide +kernel
theorem d_Ck_beginLooking_1 : decode c_Ck_beginLooking 1 = .ok (.dup, 1) := by decide +kernel
theorem d_Ck_beginLooking_2 : decode c_Ck_beginLooking 2 = .ok (.getfield 7, 3) := by decide +kernel
theorem d_Ck_beginLooking_5 : decode c_Ck_beginLooking 5 = .ok (.iconst 1, 1) := by decide +kernel
theorem d_Ck_beginLooking_6 : decode c_Ck_beginLooking 6 = .ok (.iadd, 1) := by decide +kernel
theorem d_Ck_beginLooking_7 : decode c_Ck_beginLooking 7 = .ok (.putfield 7, 3) := by decide +kernel
theorem d_Ck_beginLooking_10 : decode c_Ck_beginLooking 10 = .ok (.return_, 1) := by decide +kernel
def f_Ck_beginLooking (a : Nat) : sn_M := g_I 1 0 (some a) fun v1 => p_I 1 0 (some a) (v1 + (1 : Int32)) (r_V)
set_option maxHeartbeats 4000000 in
set_option maxRecDepth 100000 in
theorem mono_Ck_beginLooking (a : Nat) : sn_Mono (f_Ck_beginLooking a) := sn_Mono.gI (fun v1 => sn_Mono.pI (sn_Mono.rV))
set_option maxHeartbeats 4000000 in
set_option maxRecDepth 100000 in
theorem con_Ck_beginLooking (a : Nat) : sn_Con y_Ck_beginLooking c_Ck_beginLooking 1 none 0 0 [vA (some a)] (f_Ck_beginLooking a) := by
  refine sn_Con.of (by decide +kernel) (by show _ ≤ _; exact Nat.le_of_ble_eq_true rfl) (mono_Ck_beginLooking a) (fun X C => ?_)
  show sn_S X 0 [(0, vA (some a))] [] _
  replace C : sn_Cx X c_Ck_beginLooking "SignalNetwork$Clock" none "beginLooking" 1 0 0 := C
  unfold f_Ck_beginLooking
  refine r_aload_n (q := 1) (i := 0) (pl := 0) C d_Ck_beginLooking_0 rfl rfl rfl ?_
  refine r_dup (q := 2) C d_Ck_beginLooking_1 rfl rfl ?_
  refine r_gI (q := 5) C d_Ck_beginLooking_2 rfl F_Ck_7 rfl (fun v1 => ?_)
  refine r_iconst (q := 6) (v := 1) C d_Ck_beginLooking_5 rfl (by decide) ?_
  refine r_iadd (q := 7) C d_Ck_beginLooking_6 rfl ?_
  refine r_pI (q := 10) C d_Ck_beginLooking_7 rfl F_Ck_7 rfl rfl (Or.inl rfl) ?_
  exact r_vret C d_Ck_beginLooking_10 rfl
theorem d_Ck_after_0 : decode c_Ck_after 0 = .ok (.aload_n 0, 1) := by decide +kernel
theorem d_Ck_after_1 : decode c_Ck_after 1 = .ok (.getfield 7, 3) := by decide +kernel
theorem d_Ck_after_4 : decode c_Ck_after 4 = .ok (.iload_n 1, 1) := by decide +kernel
theorem d_Ck_after_5 : decode c_Ck_after 5 = .ok (.iadd, 1) := by decide +kernel
theorem d_Ck_after_6 : decode c_Ck_after 6 = .ok (.ireturn, 1) := by decide +kernel
def f_Ck_after (a : Nat) (x1 : Int32) : sn_M := g_I 1 0 (some a) fun v1 => r_I (v1 + x1)
set_option maxHeartbeats 4000000 in
set_option maxRecDepth 100000 in
theorem mono_Ck_after (a : Nat) (x1 : Int32) : sn_Mono (f_Ck_after a x1) := sn_Mono.gI (fun v1 => sn_Mono.rI)
set_option maxHeartbeats 4000000 in
set_option maxRecDepth 100000 in
theorem con_Ck_after (a : Nat) (x1 : Int32) : sn_Con y_Ck_after c_Ck_after 2 (some .int) 0 0 [vA (some a), vI x1] (f_Ck_after a x1) := by
  refine sn_Con.of (by decide +kernel) (by show _ ≤ _; exact Nat.le_of_ble_eq_true rfl) (mono_Ck_after a x1) (fun X C => ?_)
  show sn_S X 0 [(0, vA (some a)), (1, vI x1)] [] _
  replace C : sn_Cx X c_Ck_after "SignalNetwork$Clock" (some .int) "after" 2 0 0 := C
  unfold f_Ck_after
  refine r_aload_n (q := 1) (i := 0) (pl := 0) C d_Ck_after_0 rfl rfl rfl ?_
  refine r_gI (q := 4) C d_Ck_after_1 rfl F_Ck_7 rfl (fun v1 => ?_)
  refine r_iload_n (q := 5) (i := 1) (pl := 1) C d_Ck_after_4 rfl rfl rfl ?_
  refine r_iadd (q := 6) C d_Ck_after_5 rfl ?_
  exact r_iret C d_Ck_after_6 rfl
theorem d_Ck_isOut_0 : decode c_Ck_isOut 0 = .ok (.iload_n 1, 1) := by decide +kernel
theorem d_Ck_isOut_1 : decode c_Ck_isOut 1 = .ok (.ifCond .eq 15, 3) := by decide +kernel
theorem d_Ck_isOut_4 : decode c_Ck_isOut 4 = .ok (.iload_n 1, 1) := by decide +kernel
theorem d_Ck_isOut_5 : decode c_Ck_isOut 5 = .ok (.aload_n 0, 1) := by decide +kernel
theorem d_Ck_isOut_6 : decode c_Ck_isOut 6 = .ok (.getfield 7, 3) := by decide +kernel
theorem d_Ck_isOut_9 : decode c_Ck_isOut 9 = .ok (.if_icmp .gt 7, 3) := by decide +kernel
theorem d_Ck_isOut_12 : decode c_Ck_isOut 12 = .ok (.iconst 1, 1) := by decide +kernel
theorem d_Ck_isOut_13 : decode c_Ck_isOut 13 = .ok (.goto 4, 3) := by decide +kernel
theorem d_Ck_isOut_16 : decode c_Ck_isOut 16 = .ok (.iconst 0, 1) := by decide +kernel
theorem d_Ck_isOut_17 : decode c_Ck_isOut 17 = .ok (.ireturn, 1) := by decide +kernel
def f_Ck_isOut_17 (a : Nat) (t0 : Int32) : sn_M := r_Z t0
set_option maxHeartbeats 4000000 in
set_option maxRecDepth 100000 in
theorem mono_Ck_isOut_17 (a : Nat) (t0 : Int32) : sn_Mono (f_Ck_isOut_17 a t0) := sn_Mono.rZ
set_option maxHeartbeats 4000000 in
set_option maxRecDepth 100000 in
theorem s_Ck_isOut_17 {X : sn_X} (C : sn_Cx X c_Ck_isOut "SignalNetwork$Clock" (some .boolean) "isOut" 2 0 0) (a : Nat) (t0 : Int32) : sn_S X 17 [(0, vA (some a))] [vI t0] (f_Ck_isOut_17 a t0) := by
  unfold f_Ck_isOut_17
  exact r_zret C d_Ck_isOut_17 rfl
def f_Ck_isOut_16 (a : Nat) : sn_M := f_Ck_isOut_17 a (0 : Int32)
set_option maxHeartbeats 4000000 in
set_option maxRecDepth 100000 in
theorem mono_Ck_isOut_16 (a : Nat) : sn_Mono (f_Ck_isOut_16 a) := mono_Ck_isOut_17 a (0 : Int32)
set_option maxHeartbeats 4000000 in
set_option maxRecDepth 100000 in
theorem s_Ck_isOut_16 {X : sn_X} (C : sn_Cx X c_Ck_isOut "SignalNetwork$Clock" (some .boolean) "isOut" 2 0 0) (a : Nat) : sn_S X 16 [(0, vA (some a))] [] (f_Ck_isOut_16 a) := by
  unfold f_Ck_isOut_16
  refine r_iconst (q := 17) (v := 0) C d_Ck_isOut_16 rfl (by decide) ?_
  exact s_Ck_isOut_17 C a (0 : Int32)
def f_Ck_isOut (a : Nat) (x1 : Int32) : sn_M := (if x1 = 0 then f_Ck_isOut_16 a else g_I 1 0 (some a) fun v1 => (if v1 < x1 then f_Ck_isOut_16 a else f_Ck_isOut_17 a (1 : Int32)))
set_option maxHeartbeats 4000000 in
set_option maxRecDepth 100000 in
theorem mono_Ck_isOut (a : Nat) (x1 : Int32) : sn_Mono (f_Ck_isOut a x1) := sn_Mono.ite (mono_Ck_isOut_16 a) (sn_Mono.gI (fun v1 => sn_Mono.ite (mono_Ck_isOut_16 a) (mono_Ck_isOut_17 a (1 : Int32))))
set_option maxHeartbeats 4000000 in
set_option maxRecDepth 100000 in
theorem con_Ck_isOut (a : Nat) (x1 : Int32) : sn_Con y_Ck_isOut c_Ck_isOut 2 (some .boolean) 0 0 [vA (some a), vI x1] (f_Ck_isOut a x1) := by
  refine sn_Con.of (by decide +kernel) (by show _ ≤ _; exact Nat.le_of_ble_eq_true rfl) (mono_Ck_isOut a x1) (fun X C => ?_)
  show sn_S X 0 [(0, vA (some a)), (1, vI x1)] [] _
  replace C : sn_Cx X c_Ck_isOut "SignalNetwork$Clock" (some .boolean) "isOut" 2 0 0 := C
  unfold f_Ck_isOut
  refine r_iload_n (q := 1) (i := 1) (pl := 1) C d_Ck_isOut_0 rfl rfl rfl ?_
  refine r_if_eq (tgt := 16) (q := 4) C d_Ck_isOut_1 (by decide) rfl ?_ ?_
  · refine r_sub (lv' := [(0, vA (some a))]) [0] rfl ?_
    exact s_Ck_isOut_16 C a
  · refine r_iload_n (q := 5) (i := 1) (pl := 1) C d_Ck_isOut_4 rfl rfl rfl ?_
    refine r_aload_n (q := 6) (i := 0) (pl := 0) C d_Ck_isOut_5 rfl rfl rfl ?_
    refine r_gI (q := 9) C d_Ck_isOut_6 rfl F_Ck_7 rfl (fun v1 => ?_)
    refine r_icmp_gt (tgt := 16) (q := 12) C d_Ck_isOut_9 (by decide) rfl ?_ ?_
    · refine r_sub (lv' := [(0, vA (some a))]) [0] rfl ?_
      exact s_Ck_isOut_16 C a
    · refine r_iconst (q := 13) (v := 1) C d_Ck_isOut_12 rfl (by decide) ?_
      refine r_goto (tgt := 17) C d_Ck_isOut_13 (by decide) ?_
      refine r_sub (lv' := [(0, vA (some a))]) [0] rfl ?_
      exact s_Ck_isOut_17 C a (1 : Int32)
theorem d_Ck_left_0 : decode c_Ck_left 0 = .ok (.iload_n 1, 1) := by decide +kernel
theorem d_Ck_left_1 : decode c_Ck_left 1 = .ok (.ifCond .ne 7, 3) := by decide +kernel
theorem d_Ck_left_4 : decode c_Ck_left 4 = .ok (.iconst 0, 1) := by decide +kernel
theorem d_Ck_left_5 : decode c_Ck_left 5 = .ok (.goto 9, 3) := by decide +kernel
theorem d_Ck_left_8 : decode c_Ck_left 8 = .ok (.iload_n 1, 1) := by decide +kernel
theorem d_Ck_left_9 : decode c_Ck_left 9 = .ok (.aload_n 0, 1) := by decide +kernel
theorem d_Ck_left_10 : decode c_Ck_left 10 = .ok (.getfield 7, 3) := by decide +kernel
theorem d_Ck_left_13 : decode c_Ck_left 13 = .ok (.isub, 1) := by decide +kernel
theorem d_Ck_left_14 : decode c_Ck_left 14 = .ok (.ireturn, 1) := by decide +kernel
def f_Ck_left_14 (a : Nat) (t0 : Int32) : sn_M := r_I t0
set_option maxHeartbeats 4000000 in
set_option maxRecDepth 100000 in
theorem mono_Ck_left_14 (a : Nat) (t0 : Int32) : sn_Mono (f_Ck_left_14 a t0) := sn_Mono.rI
set_option maxHeartbeats 4000000 in
set_option maxRecDepth 100000 in
theorem s_Ck_left_14 {X : sn_X} (C : sn_Cx X c_Ck_left "SignalNetwork$Clock" (some .int) "left" 2 0 0) (a : Nat) (t0 : Int32) : sn_S X 14 [(0, vA (some a))] [vI t0] (f_Ck_left_14 a t0) := by
  unfold f_Ck_left_14
  exact r_iret C d_Ck_left_14 rfl
def f_Ck_left (a : Nat) (x1 : Int32) : sn_M := (if ¬ x1 = 0 then g_I 1 0 (some a) fun v1 => f_Ck_left_14 a (x1 - v1) else f_Ck_left_14 a (0 : Int32))
set_option maxHeartbeats 4000000 in
set_option maxRecDepth 100000 in
theorem mono_Ck_left (a : Nat) (x1 : Int32) : sn_Mono (f_Ck_left a x1) := sn_Mono.ite (sn_Mono.gI (fun v1 => mono_Ck_left_14 a (x1 - v1))) (mono_Ck_left_14 a (0 : Int32))
set_option maxHeartbeats 4000000 in
set_option maxRecDepth 100000 in
theorem con_Ck_left (a : Nat) (x1 : Int32) : sn_Con y_Ck_left c_Ck_left 2 (some .int) 0 0 [vA (some a), vI x1] (f_Ck_left a x1) := by
  refine sn_Con.of (by decide +kernel) (by show _ ≤ _; exact Nat.le_of_ble_eq_true rfl) (mono_Ck_left a x1) (fun X C => ?_)
  show sn_S X 0 [(0, vA (some a)), (1, vI x1)] [] _
  replace C : sn_Cx X c_Ck_left "SignalNetwork$Clock" (some .int) "left" 2 0 0 := C
  unfold f_Ck_left
  refine r_iload_n (q := 1) (i := 1) (pl := 1) C d_Ck_left_0 rfl rfl rfl ?_
  refine r_if_ne (tgt := 8) (q := 4) C d_Ck_left_1 (by decide) rfl ?_ ?_
  · refine r_iload_n (q := 9) (i := 1) (pl := 1) C d_Ck_left_8 rfl rfl rfl ?_
    refine r_aload_n (q := 10) (i := 0) (pl := 0) C d_Ck_left_9 rfl rfl rfl ?_
    refine r_gI (q := 13) C d_Ck_left_10 rfl F_Ck_7 rfl (fun v1 => ?_)
    refine r_isub (q := 14) C d_Ck_left_13 rfl ?_
    refine r_sub (lv' := [(0, vA (some a))]) [0] rfl ?_
    exact s_Ck_left_14 C a (x1 - v1)
  · refine r_iconst (q := 5) (v := 0) C d_Ck_left_4 rfl (by decide) ?_
    refine r_goto (tgt := 14) C d_Ck_left_5 (by decide) ?_
    refine r_sub (lv' := [(0, vA (some a))]) [0] rfl ?_
    exact s_Ck_left_14 C a (0 : Int32)
