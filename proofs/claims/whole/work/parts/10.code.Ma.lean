theorem d_Ma_max_0 : decode c_Ma_max 0 = .ok (.iload_n 0, 1) := by decide +kernel
theorem d_Ma_max_1 : decode c_Ma_max 1 = .ok (.iload_n 1, 1) := by decide +kernel
theorem d_Ma_max_2 : decode c_Ma_max 2 = .ok (.if_icmp .lt 7, 3) := by decide +kernel
theorem d_Ma_max_5 : decode c_Ma_max 5 = .ok (.iload_n 0, 1) := by decide +kernel
theorem d_Ma_max_6 : decode c_Ma_max 6 = .ok (.goto 4, 3) := by decide +kernel
theorem d_Ma_max_9 : decode c_Ma_max 9 = .ok (.iload_n 1, 1) := by decide +kernel
theorem d_Ma_max_10 : decode c_Ma_max 10 = .ok (.ireturn, 1) := by decide +kernel
def f_Ma_max_10 (t0 : Int32) : sn_M := r_I t0
set_option maxHeartbeats 4000000 in
set_option maxRecDepth 100000 in
theorem mono_Ma_max_10 (t0 : Int32) : sn_Mono (f_Ma_max_10 t0) := sn_Mono.rI
set_option maxHeartbeats 4000000 in
set_option maxRecDepth 100000 in
theorem s_Ma_max_10 {X : sn_X} (C : sn_Cx X c_Ma_max "java/lang/Math" (some .int) "max" 2 0 0) (t0 : Int32) : sn_S X 10 [] [vI t0] (f_Ma_max_10 t0) := by
  unfold f_Ma_max_10
  exact r_iret C d_Ma_max_10 rfl
def f_Ma_max (x0 : Int32) (x1 : Int32) : sn_M := (if x0 < x1 then f_Ma_max_10 x1 else f_Ma_max_10 x0)
set_option maxHeartbeats 4000000 in
set_option maxRecDepth 100000 in
theorem mono_Ma_max (x0 : Int32) (x1 : Int32) : sn_Mono (f_Ma_max x0 x1) := sn_Mono.ite (mono_Ma_max_10 x1) (mono_Ma_max_10 x0)
set_option maxHeartbeats 4000000 in
set_option maxRecDepth 100000 in
theorem con_Ma_max (x0 : Int32) (x1 : Int32) : sn_Con y_Ma_max c_Ma_max 2 (some .int) 0 0 [vI x0, vI x1] (f_Ma_max x0 x1) := by
  refine sn_Con.ofF (by decide +kernel) (by show _ ≤ _; exact Nat.le_of_ble_eq_true rfl) (mono_Ma_max x0 x1) (fun X C => ?_)
  show sn_S X 0 [(0, vI x0), (1, vI x1)] [] _
  replace C : sn_Cx X c_Ma_max "java/lang/Math" (some .int) "max" 2 0 0 := C
  unfold f_Ma_max
  refine r_iload_n (q := 1) (i := 0) (pl := 0) C d_Ma_max_0 rfl rfl rfl ?_
  refine r_iload_n (q := 2) (i := 1) (pl := 1) C d_Ma_max_1 rfl rfl rfl ?_
  refine r_icmp_lt (tgt := 9) (q := 5) C d_Ma_max_2 (by decide) rfl ?_ ?_
  · refine r_iload_n (q := 10) (i := 1) (pl := 1) C d_Ma_max_9 rfl rfl rfl ?_
    refine r_sub (lv' := []) [] rfl ?_
    exact s_Ma_max_10 C x1
  · refine r_iload_n (q := 6) (i := 0) (pl := 0) C d_Ma_max_5 rfl rfl rfl ?_
    refine r_goto (tgt := 10) C d_Ma_max_6 (by decide) ?_
    refine r_sub (lv' := []) [] rfl ?_
    exact s_Ma_max_10 C x0
theorem d_Ma_floorMod_0 : decode c_Ma_floorMod 0 = .ok (.iload_n 0, 1) := by decide +kernel
theorem d_Ma_floorMod_1 : decode c_Ma_floorMod 1 = .ok (.iload_n 1, 1) := by decide +kernel
theorem d_Ma_floorMod_2 : decode c_Ma_floorMod 2 = .ok (.irem, 1) := by decide +kernel
theorem d_Ma_floorMod_3 : decode c_Ma_floorMod 3 = .ok (.istore_n 2, 1) := by decide +kernel
theorem d_Ma_floorMod_4 : decode c_Ma_floorMod 4 = .ok (.iload_n 0, 1) := by decide +kernel
theorem d_Ma_floorMod_5 : decode c_Ma_floorMod 5 = .ok (.iload_n 1, 1) := by decide +kernel
theorem d_Ma_floorMod_6 : decode c_Ma_floorMod 6 = .ok (.ixor, 1) := by decide +kernel
theorem d_Ma_floorMod_7 : decode c_Ma_floorMod 7 = .ok (.ifCond .ge 11, 3) := by decide +kernel
theorem d_Ma_floorMod_10 : decode c_Ma_floorMod 10 = .ok (.iload_n 2, 1) := by decide +kernel
theorem d_Ma_floorMod_11 : decode c_Ma_floorMod 11 = .ok (.ifCond .eq 7, 3) := by decide +kernel
theorem d_Ma_floorMod_14 : decode c_Ma_floorMod 14 = .ok (.iload_n 2, 1) := by decide +kernel
theorem d_Ma_floorMod_15 : decode c_Ma_floorMod 15 = .ok (.iload_n 1, 1) := by decide +kernel
theorem d_Ma_floorMod_16 : decode c_Ma_floorMod 16 = .ok (.iadd, 1) := by decide +kernel
theorem d_Ma_floorMod_17 : decode c_Ma_floorMod 17 = .ok (.ireturn, 1) := by decide +kernel
theorem d_Ma_floorMod_18 : decode c_Ma_floorMod 18 = .ok (.iload_n 2, 1) := by decide +kernel
theorem d_Ma_floorMod_19 : decode c_Ma_floorMod 19 = .ok (.ireturn, 1) := by decide +kernel
def f_Ma_floorMod_18 (x2 : Int32) : sn_M := r_I x2
set_option maxHeartbeats 4000000 in
set_option maxRecDepth 100000 in
theorem mono_Ma_floorMod_18 (x2 : Int32) : sn_Mono (f_Ma_floorMod_18 x2) := sn_Mono.rI
set_option maxHeartbeats 4000000 in
set_option maxRecDepth 100000 in
theorem s_Ma_floorMod_18 {X : sn_X} (C : sn_Cx X c_Ma_floorMod "java/lang/Math" (some .int) "floorMod" 3 0 0) (x2 : Int32) : sn_S X 18 [(2, vI x2)] [] (f_Ma_floorMod_18 x2) := by
  unfold f_Ma_floorMod_18
  refine r_iload_n (q := 19) (i := 2) (pl := 0) C d_Ma_floorMod_18 rfl rfl rfl ?_
  exact r_iret C d_Ma_floorMod_19 rfl
def f_Ma_floorMod (x0 : Int32) (x1 : Int32) : sn_M := n_D x1 (n_I ((x0 % x1)) fun n1 => (if 0 ≤ (x0 ^^^ x1) then f_Ma_floorMod_18 n1 else (if n1 = 0 then f_Ma_floorMod_18 n1 else r_I (n1 + x1))))
set_option maxHeartbeats 4000000 in
set_option maxRecDepth 100000 in
theorem mono_Ma_floorMod (x0 : Int32) (x1 : Int32) : sn_Mono (f_Ma_floorMod x0 x1) := sn_Mono.D (sn_Mono.nI (fun n1 => sn_Mono.ite (mono_Ma_floorMod_18 n1) (sn_Mono.ite (mono_Ma_floorMod_18 n1) (sn_Mono.rI))))
set_option maxHeartbeats 4000000 in
set_option maxRecDepth 100000 in
theorem con_Ma_floorMod (x0 : Int32) (x1 : Int32) : sn_Con y_Ma_floorMod c_Ma_floorMod 3 (some .int) 0 0 [vI x0, vI x1] (f_Ma_floorMod x0 x1) := by
  refine sn_Con.ofF (by decide +kernel) (by show _ ≤ _; exact Nat.le_of_ble_eq_true rfl) (mono_Ma_floorMod x0 x1) (fun X C => ?_)
  show sn_S X 0 [(0, vI x0), (1, vI x1)] [] _
  replace C : sn_Cx X c_Ma_floorMod "java/lang/Math" (some .int) "floorMod" 3 0 0 := C
  unfold f_Ma_floorMod
  refine r_iload_n (q := 1) (i := 0) (pl := 0) C d_Ma_floorMod_0 rfl rfl rfl ?_
  refine r_iload_n (q := 2) (i := 1) (pl := 1) C d_Ma_floorMod_1 rfl rfl rfl ?_
  refine r_irem (q := 3) C d_Ma_floorMod_2 rfl ?_
  refine r_nI (fun n1 => ?_)
  refine r_istore_n (q := 4) (i := 2) (lv' := [(2, vI n1), (0, vI x0), (1, vI x1)]) C d_Ma_floorMod_3 rfl rfl (by decide) rfl ?_
  refine r_iload_n (q := 5) (i := 0) (pl := 1) C d_Ma_floorMod_4 rfl rfl rfl ?_
  refine r_iload_n (q := 6) (i := 1) (pl := 2) C d_Ma_floorMod_5 rfl rfl rfl ?_
  refine r_ixor (q := 7) C d_Ma_floorMod_6 rfl ?_
  refine r_if_ge (tgt := 18) (q := 10) C d_Ma_floorMod_7 (by decide) rfl ?_ ?_
  · refine r_sub (lv' := [(2, vI n1)]) [0] rfl ?_
    exact s_Ma_floorMod_18 C n1
  · refine r_iload_n (q := 11) (i := 2) (pl := 0) C d_Ma_floorMod_10 rfl rfl rfl ?_
    refine r_if_eq (tgt := 18) (q := 14) C d_Ma_floorMod_11 (by decide) rfl ?_ ?_
    · refine r_sub (lv' := [(2, vI n1)]) [0] rfl ?_
      exact s_Ma_floorMod_18 C n1
    · refine r_iload_n (q := 15) (i := 2) (pl := 0) C d_Ma_floorMod_14 rfl rfl rfl ?_
      refine r_iload_n (q := 16) (i := 1) (pl := 2) C d_Ma_floorMod_15 rfl rfl rfl ?_
      refine r_iadd (q := 17) C d_Ma_floorMod_16 rfl ?_
      exact r_iret C d_Ma_floorMod_17 rfl
theorem d_Ma_min_0 : decode c_Ma_min 0 = .ok (.iload_n 0, 1) := by decide +kernel
theorem d_Ma_min_1 : decode c_Ma_min 1 = .ok (.iload_n 1, 1) := by decide +kernel
theorem d_Ma_min_2 : decode c_Ma_min 2 = .ok (.if_icmp .gt 7, 3) := by decide +kernel
theorem d_Ma_min_5 : decode c_Ma_min 5 = .ok (.iload_n 0, 1) := by decide +kernel
theorem d_Ma_min_6 : decode c_Ma_min 6 = .ok (.goto 4, 3) := by decide +kernel
theorem d_Ma_min_9 : decode c_Ma_min 9 = .ok (.iload_n 1, 1) := by decide +kernel
theorem d_Ma_min_10 : decode c_Ma_min 10 = .ok (.ireturn, 1) := by decide +kernel
def f_Ma_min_10 (t0 : Int32) : sn_M := r_I t0
set_option maxHeartbeats 4000000 in
set_option maxRecDepth 100000 in
theorem mono_Ma_min_10 (t0 : Int32) : sn_Mono (f_Ma_min_10 t0) := sn_Mono.rI
set_option maxHeartbeats 4000000 in
set_option maxRecDepth 100000 in
theorem s_Ma_min_10 {X : sn_X} (C : sn_Cx X c_Ma_min "java/lang/Math" (some .int) "min" 2 0 0) (t0 : Int32) : sn_S X 10 [] [vI t0] (f_Ma_min_10 t0) := by
  unfold f_Ma_min_10
  exact r_iret C d_Ma_min_10 rfl
def f_Ma_min (x0 : Int32) (x1 : Int32) : sn_M := (if x1 < x0 then f_Ma_min_10 x1 else f_Ma_min_10 x0)
set_option maxHeartbeats 4000000 in
set_option maxRecDepth 100000 in
theorem mono_Ma_min (x0 : Int32) (x1 : Int32) : sn_Mono (f_Ma_min x0 x1) := sn_Mono.ite (mono_Ma_min_10 x1) (mono_Ma_min_10 x0)
set_option maxHeartbeats 4000000 in
set_option maxRecDepth 100000 in
theorem con_Ma_min (x0 : Int32) (x1 : Int32) : sn_Con y_Ma_min c_Ma_min 2 (some .int) 0 0 [vI x0, vI x1] (f_Ma_min x0 x1) := by
  refine sn_Con.ofF (by decide +kernel) (by show _ ≤ _; exact Nat.le_of_ble_eq_true rfl) (mono_Ma_min x0 x1) (fun X C => ?_)
  show sn_S X 0 [(0, vI x0), (1, vI x1)] [] _
  replace C : sn_Cx X c_Ma_min "java/lang/Math" (some .int) "min" 2 0 0 := C
  unfold f_Ma_min
  refine r_iload_n (q := 1) (i := 0) (pl := 0) C d_Ma_min_0 rfl rfl rfl ?_
  refine r_iload_n (q := 2) (i := 1) (pl := 1) C d_Ma_min_1 rfl rfl rfl ?_
  refine r_icmp_gt (tgt := 9) (q := 5) C d_Ma_min_2 (by decide) rfl ?_ ?_
  · refine r_iload_n (q := 10) (i := 1) (pl := 1) C d_Ma_min_9 rfl rfl rfl ?_
    refine r_sub (lv' := []) [] rfl ?_
    exact s_Ma_min_10 C x1
  · refine r_iload_n (q := 6) (i := 0) (pl := 0) C d_Ma_min_5 rfl rfl rfl ?_
    refine r_goto (tgt := 10) C d_Ma_min_6 (by decide) ?_
    refine r_sub (lv' := []) [] rfl ?_
    exact s_Ma_min_10 C x0
