theorem d_Ms_of_0 : decode c_Ms_of 0 = .ok (.iload 4, 2) := by decide +kernel
theorem d_Ms_of_2 : decode c_Ms_of 2 = .ok (.sipush 255, 3) := by decide +kernel
theorem d_Ms_of_5 : decode c_Ms_of 5 = .ok (.iand, 1) := by decide +kernel
theorem d_Ms_of_6 : decode c_Ms_of 6 = .ok (.i2l, 1) := by decide +kernel
theorem d_Ms_of_7 : decode c_Ms_of 7 = .ok (.bipush 12, 2) := by decide +kernel
theorem d_Ms_of_9 : decode c_Ms_of 9 = .ok (.lshl, 1) := by decide +kernel
theorem d_Ms_of_10 : decode c_Ms_of 10 = .ok (.iload 5, 2) := by decide +kernel
theorem d_Ms_of_12 : decode c_Ms_of 12 = .ok (.ldc 7, 2) := by decide +kernel
theorem d_Ms_of_14 : decode c_Ms_of 14 = .ok (.iand, 1) := by decide +kernel
theorem d_Ms_of_15 : decode c_Ms_of 15 = .ok (.i2l, 1) := by decide +kernel
theorem d_Ms_of_16 : decode c_Ms_of 16 = .ok (.bipush 20, 2) := by decide +kernel
theorem d_Ms_of_18 : decode c_Ms_of 18 = .ok (.lshl, 1) := by decide +kernel
theorem d_Ms_of_19 : decode c_Ms_of 19 = .ok (.lor, 1) := by decide +kernel
theorem d_Ms_of_20 : decode c_Ms_of 20 = .ok (.lstore 6, 2) := by decide +kernel
theorem d_Ms_of_22 : decode c_Ms_of 22 = .ok (.lload 6, 2) := by decide +kernel
theorem d_Ms_of_24 : decode c_Ms_of 24 = .ok (.iload_n 0, 1) := by decide +kernel
theorem d_Ms_of_25 : decode c_Ms_of 25 = .ok (.i2l, 1) := by decide +kernel
theorem d_Ms_of_26 : decode c_Ms_of 26 = .ok (.lor, 1) := by decide +kernel
theorem d_Ms_of_27 : decode c_Ms_of 27 = .ok (.iload_n 1, 1) := by decide +kernel
theorem d_Ms_of_28 : decode c_Ms_of 28 = .ok (.iconst 4, 1) := by decide +kernel
theorem d_Ms_of_29 : decode c_Ms_of 29 = .ok (.ishl, 1) := by decide +kernel
theorem d_Ms_of_30 : decode c_Ms_of 30 = .ok (.i2l, 1) := by decide +kernel
theorem d_Ms_of_31 : decode c_Ms_of 31 = .ok (.lor, 1) := by decide +kernel
theorem d_Ms_of_32 : decode c_Ms_of 32 = .ok (.iload_n 2, 1) := by decide +kernel
theorem d_Ms_of_33 : decode c_Ms_of 33 = .ok (.bipush 7, 2) := by decide +kernel
theorem d_Ms_of_35 : decode c_Ms_of 35 = .ok (.ishl, 1) := by decide +kernel
theorem d_Ms_of_36 : decode c_Ms_of 36 = .ok (.i2l, 1) := by decide +kernel
theorem d_Ms_of_37 : decode c_Ms_of 37 = .ok (.lor, 1) := by decide +kernel
theorem d_Ms_of_38 : decode c_Ms_of 38 = .ok (.iload_n 3, 1) := by decide +kernel
theorem d_Ms_of_39 : decode c_Ms_of 39 = .ok (.bipush 10, 2) := by decide +kernel
theorem d_Ms_of_41 : decode c_Ms_of 41 = .ok (.ishl, 1) := by decide +kernel
theorem d_Ms_of_42 : decode c_Ms_of 42 = .ok (.i2l, 1) := by decide +kernel
theorem d_Ms_of_43 : decode c_Ms_of 43 = .ok (.lor, 1) := by decide +kernel
theorem d_Ms_of_44 : decode c_Ms_of 44 = .ok (.lreturn, 1) := by decide +kernel
def f_Ms_of (x0 : Int32) (x1 : Int32) (x2 : Int32) (x3 : Int32) (x4 : Int32) (x5 : Int32) : sn_M := n_J ((((Int32.toInt64 (x4 &&& (255 : Int32))) <<< (Int32.toInt64 (12 : Int32) &&& 63)) ||| ((Int32.toInt64 (x5 &&& (65535 : Int32))) <<< (Int32.toInt64 (20 : Int32) &&& 63)))) fun n1 => r_J ((((n1 ||| (Int32.toInt64 x0)) ||| (Int32.toInt64 (x1 <<< ((4 : Int32) &&& 31)))) ||| (Int32.toInt64 (x2 <<< ((7 : Int32) &&& 31)))) ||| (Int32.toInt64 (x3 <<< ((10 : Int32) &&& 31))))
set_option maxHeartbeats 4000000 in
set_option maxRecDepth 100000 in
theorem mono_Ms_of (x0 : Int32) (x1 : Int32) (x2 : Int32) (x3 : Int32) (x4 : Int32) (x5 : Int32) : sn_Mono (f_Ms_of x0 x1 x2 x3 x4 x5) := sn_Mono.nJ (fun n1 => sn_Mono.rJ)
set_option maxHeartbeats 4000000 in
set_option maxRecDepth 100000 in
theorem con_Ms_of (x0 : Int32) (x1 : Int32) (x2 : Int32) (x3 : Int32) (x4 : Int32) (x5 : Int32) : sn_Con y_Ms_of c_Ms_of 8 (some .long) 0 0 [vI x0, vI x1, vI x2, vI x3, vI x4, vI x5] (f_Ms_of x0 x1 x2 x3 x4 x5) := by
  refine sn_Con.of (by decide +kernel) (by show _ ≤ _; exact Nat.le_of_ble_eq_true rfl) (mono_Ms_of x0 x1 x2 x3 x4 x5) (fun X C => ?_)
  show sn_S X 0 [(0, vI x0), (1, vI x1), (2, vI x2), (3, vI x3), (4, vI x4), (5, vI x5)] [] _
  replace C : sn_Cx X c_Ms_of "SignalNetwork$Message" (some .long) "of" 8 0 0 := C
  unfold f_Ms_of
  refine r_iload (q := 2) (i := 4) (pl := 4) C d_Ms_of_0 rfl rfl ?_
  refine r_sipush (q := 5) (v := 255) C d_Ms_of_2 rfl (by decide) ?_
  refine r_iand (q := 6) C d_Ms_of_5 rfl ?_
  refine r_i2l (q := 7) C d_Ms_of_6 rfl ?_
  refine r_bipush (q := 9) (v := 12) C d_Ms_of_7 rfl (by decide) ?_
  refine r_lshl (q := 10) C d_Ms_of_9 rfl ?_
  refine r_iload (q := 12) (i := 5) (pl := 5) C d_Ms_of_10 rfl rfl ?_
  refine r_ldc (q := 14) C d_Ms_of_12 rfl K_Ms_7 ?_
  refine r_iand (q := 15) C d_Ms_of_14 rfl ?_
  refine r_i2l (q := 16) C d_Ms_of_15 rfl ?_
  refine r_bipush (q := 18) (v := 20) C d_Ms_of_16 rfl (by decide) ?_
  refine r_lshl (q := 19) C d_Ms_of_18 rfl ?_
  refine r_lor (q := 20) C d_Ms_of_19 rfl ?_
  refine r_nJ (fun n1 => ?_)
  refine r_lstore (q := 22) (i := 6) (lv' := [(6, vJ n1), (0, vI x0), (1, vI x1), (2, vI x2), (3, vI x3), (4, vI x4), (5, vI x5)]) C d_Ms_of_20 rfl (by decide) rfl ?_
  refine r_lload (q := 24) (i := 6) (pl := 0) C d_Ms_of_22 rfl rfl ?_
  refine r_iload_n (q := 25) (i := 0) (pl := 1) C d_Ms_of_24 rfl rfl rfl ?_
  refine r_i2l (q := 26) C d_Ms_of_25 rfl ?_
  refine r_lor (q := 27) C d_Ms_of_26 rfl ?_
  refine r_iload_n (q := 28) (i := 1) (pl := 2) C d_Ms_of_27 rfl rfl rfl ?_
  refine r_iconst (q := 29) (v := 4) C d_Ms_of_28 rfl (by decide) ?_
  refine r_ishl (q := 30) C d_Ms_of_29 rfl ?_
  refine r_i2l (q := 31) C d_Ms_of_30 rfl ?_
  refine r_lor (q := 32) C d_Ms_of_31 rfl ?_
  refine r_iload_n (q := 33) (i := 2) (pl := 3) C d_Ms_of_32 rfl rfl rfl ?_
  refine r_bipush (q := 35) (v := 7) C d_Ms_of_33 rfl (by decide) ?_
  refine r_ishl (q := 36) C d_Ms_of_35 rfl ?_
  refine r_i2l (q := 37) C d_Ms_of_36 rfl ?_
  refine r_lor (q := 38) C d_Ms_of_37 rfl ?_
  refine r_iload_n (q := 39) (i := 3) (pl := 4) C d_Ms_of_38 rfl rfl rfl ?_
  refine r_bipush (q := 41) (v := 10) C d_Ms_of_39 rfl (by decide) ?_
  refine r_ishl (q := 42) C d_Ms_of_41 rfl ?_
  refine r_i2l (q := 43) C d_Ms_of_42 rfl ?_
  refine r_lor (q := 44) C d_Ms_of_43 rfl ?_
  exact r_lret C d_Ms_of_44 rfl
theorem d_Ms_kind_0 : decode c_Ms_kind 0 = .ok (.lload_n 0, 1) := by decide +kernel
theorem d_Ms_kind_1 : decode c_Ms_kind 1 = .ok (.l2i, 1) := by decide +kernel
theorem d_Ms_kind_2 : decode c_Ms_kind 2 = .ok (.bipush 15, 2) := by decide +kernel
theorem d_Ms_kind_4 : decode c_Ms_kind 4 = .ok (.iand, 1) := by decide +kernel
theorem d_Ms_kind_5 : decode c_Ms_kind 5 = .ok (.ireturn, 1) := by decide +kernel
def f_Ms_kind (l0 : Int64) : sn_M := r_I ((Int64.toInt32 l0) &&& (15 : Int32))
set_option maxHeartbeats 4000000 in
set_option maxRecDepth 100000 in
theorem mono_Ms_kind (l0 : Int64) : sn_Mono (f_Ms_kind l0) := sn_Mono.rI
set_option maxHeartbeats 4000000 in
set_option maxRecDepth 100000 in
theorem con_Ms_kind (l0 : Int64) : sn_Con y_Ms_kind c_Ms_kind 2 (some .int) 0 0 [vJ l0] (f_Ms_kind l0) := by
  refine sn_Con.of (by decide +kernel) (by show _ ≤ _; exact Nat.le_of_ble_eq_true rfl) (mono_Ms_kind l0) (fun X C => ?_)
  show sn_S X 0 [(0, vJ l0)] [] _
  replace C : sn_Cx X c_Ms_kind "SignalNetwork$Message" (some .int) "kind" 2 0 0 := C
  unfold f_Ms_kind
  refine r_lload_n (q := 1) (i := 0) (pl := 0) C d_Ms_kind_0 rfl rfl rfl ?_
  refine r_l2i (q := 2) C d_Ms_kind_1 rfl ?_
  refine r_bipush (q := 4) (v := 15) C d_Ms_kind_2 rfl (by decide) ?_
  refine r_iand (q := 5) C d_Ms_kind_4 rfl ?_
  exact r_iret C d_Ms_kind_5 rfl
theorem d_Ms_from_0 : decode c_Ms_from 0 = .ok (.lload_n 0, 1) := by decide +kernel
theorem d_Ms_from_1 : decode c_Ms_from 1 = .ok (.iconst 4, 1) := by decide +kernel
theorem d_Ms_from_2 : decode c_Ms_from 2 = .ok (.lshr, 1) := by decide +kernel
theorem d_Ms_from_3 : decode c_Ms_from 3 = .ok (.l2i, 1) := by decide +kernel
theorem d_Ms_from_4 : decode c_Ms_from 4 = .ok (.bipush 7, 2) := by decide +kernel
theorem d_Ms_from_6 : decode c_Ms_from 6 = .ok (.iand, 1) := by decide +kernel
theorem d_Ms_from_7 : decode c_Ms_from 7 = .ok (.ireturn, 1) := by decide +kernel
def f_Ms_from (l0 : Int64) : sn_M := r_I ((Int64.toInt32 (l0 >>> (Int32.toInt64 (4 : Int32) &&& 63))) &&& (7 : Int32))
set_option maxHeartbeats 4000000 in
set_option maxRecDepth 100000 in
theorem mono_Ms_from (l0 : Int64) : sn_Mono (f_Ms_from l0) := sn_Mono.rI
set_option maxHeartbeats 4000000 in
set_option maxRecDepth 100000 in
theorem con_Ms_from (l0 : Int64) : sn_Con y_Ms_from c_Ms_from 2 (some .int) 0 0 [vJ l0] (f_Ms_from l0) := by
  refine sn_Con.of (by decide +kernel) (by show _ ≤ _; exact Nat.le_of_ble_eq_true rfl) (mono_Ms_from l0) (fun X C => ?_)
  show sn_S X 0 [(0, vJ l0)] [] _
  replace C : sn_Cx X c_Ms_from "SignalNetwork$Message" (some .int) "from" 2 0 0 := C
  unfold f_Ms_from
  refine r_lload_n (q := 1) (i := 0) (pl := 0) C d_Ms_from_0 rfl rfl rfl ?_
  refine r_iconst (q := 2) (v := 4) C d_Ms_from_1 rfl (by decide) ?_
  refine r_lshr (q := 3) C d_Ms_from_2 rfl ?_
  refine r_l2i (q := 4) C d_Ms_from_3 rfl ?_
  refine r_bipush (q := 6) (v := 7) C d_Ms_from_4 rfl (by decide) ?_
  refine r_iand (q := 7) C d_Ms_from_6 rfl ?_
  exact r_iret C d_Ms_from_7 rfl
theorem d_Ms_to_0 : decode c_Ms_to 0 = .ok (.lload_n 0, 1) := by decide +kernel
theorem d_Ms_to_1 : decode c_Ms_to 1 = .ok (.bipush 7, 2) := by decide +kernel
theorem d_Ms_to_3 : decode c_Ms_to 3 = .ok (.lshr, 1) := by decide +kernel
theorem d_Ms_to_4 : decode c_Ms_to 4 = .ok (.l2i, 1) := by decide +kernel
theorem d_Ms_to_5 : decode c_Ms_to 5 = .ok (.bipush 7, 2) := by decide +kernel
theorem d_Ms_to_7 : decode c_Ms_to 7 = .ok (.iand, 1) := by decide +kernel
theorem d_Ms_to_8 : decode c_Ms_to 8 = .ok (.ireturn, 1) := by decide +kernel
def f_Ms_to (l0 : Int64) : sn_M := r_I ((Int64.toInt32 (l0 >>> (Int32.toInt64 (7 : Int32) &&& 63))) &&& (7 : Int32))
set_option maxHeartbeats 4000000 in
set_option maxRecDepth 100000 in
theorem mono_Ms_to (l0 : Int64) : sn_Mono (f_Ms_to l0) := sn_Mono.rI
set_option maxHeartbeats 4000000 in
set_option maxRecDepth 100000 in
theorem con_Ms_to (l0 : Int64) : sn_Con y_Ms_to c_Ms_to 2 (some .int) 0 0 [vJ l0] (f_Ms_to l0) := by
  refine sn_Con.of (by decide +kernel) (by show _ ≤ _; exact Nat.le_of_ble_eq_true rfl) (mono_Ms_to l0) (fun X C => ?_)
  show sn_S X 0 [(0, vJ l0)] [] _
  replace C : sn_Cx X c_Ms_to "SignalNetwork$Message" (some .int) "to" 2 0 0 := C
  unfold f_Ms_to
  refine r_lload_n (q := 1) (i := 0) (pl := 0) C d_Ms_to_0 rfl rfl rfl ?_
  refine r_bipush (q := 3) (v := 7) C d_Ms_to_1 rfl (by decide) ?_
  refine r_lshr (q := 4) C d_Ms_to_3 rfl ?_
  refine r_l2i (q := 5) C d_Ms_to_4 rfl ?_
  refine r_bipush (q := 7) (v := 7) C d_Ms_to_5 rfl (by decide) ?_
  refine r_iand (q := 8) C d_Ms_to_7 rfl ?_
  exact r_iret C d_Ms_to_8 rfl
theorem d_Ms_lane_0 : decode c_Ms_lane 0 = .ok (.lload_n 0, 1) := by decide +kernel
theorem d_Ms_lane_1 : decode c_Ms_lane 1 = .ok (.bipush 10, 2) := by decide +kernel
theorem d_Ms_lane_3 : decode c_Ms_lane 3 = .ok (.lshr, 1) := by decide +kernel
theorem d_Ms_lane_4 : decode c_Ms_lane 4 = .ok (.l2i, 1) := by decide +kernel
theorem d_Ms_lane_5 : decode c_Ms_lane 5 = .ok (.iconst 3, 1) := by decide +kernel
theorem d_Ms_lane_6 : decode c_Ms_lane 6 = .ok (.iand, 1) := by decide +kernel
theorem d_Ms_lane_7 : decode c_Ms_lane 7 = .ok (.ireturn, 1) := by decide +kernel
def f_Ms_lane (l0 : Int64) : sn_M := r_I ((Int64.toInt32 (l0 >>> (Int32.toInt64 (10 : Int32) &&& 63))) &&& (3 : Int32))
set_option maxHeartbeats 4000000 in
set_option maxRecDepth 100000 in
theorem mono_Ms_lane (l0 : Int64) : sn_Mono (f_Ms_lane l0) := sn_Mono.rI
set_option maxHeartbeats 4000000 in
set_option maxRecDepth 100000 in
theorem con_Ms_lane (l0 : Int64) : sn_Con y_Ms_lane c_Ms_lane 2 (some .int) 0 0 [vJ l0] (f_Ms_lane l0) := by
  refine sn_Con.of (by decide +kernel) (by show _ ≤ _; exact Nat.le_of_ble_eq_true rfl) (mono_Ms_lane l0) (fun X C => ?_)
  show sn_S X 0 [(0, vJ l0)] [] _
  replace C : sn_Cx X c_Ms_lane "SignalNetwork$Message" (some .int) "lane" 2 0 0 := C
  unfold f_Ms_lane
  refine r_lload_n (q := 1) (i := 0) (pl := 0) C d_Ms_lane_0 rfl rfl rfl ?_
  refine r_bipush (q := 3) (v := 10) C d_Ms_lane_1 rfl (by decide) ?_
  refine r_lshr (q := 4) C d_Ms_lane_3 rfl ?_
  refine r_l2i (q := 5) C d_Ms_lane_4 rfl ?_
  refine r_iconst (q := 6) (v := 3) C d_Ms_lane_5 rfl (by decide) ?_
  refine r_iand (q := 7) C d_Ms_lane_6 rfl ?_
  exact r_iret C d_Ms_lane_7 rfl
theorem d_Ms_first_0 : decode c_Ms_first 0 = .ok (.lload_n 0, 1) := by decide +kernel
theorem d_Ms_first_1 : decode c_Ms_first 1 = .ok (.bipush 12, 2) := by decide +kernel
theorem d_Ms_first_3 : decode c_Ms_first 3 = .ok (.lshr, 1) := by decide +kernel
theorem d_Ms_first_4 : decode c_Ms_first 4 = .ok (.l2i, 1) := by decide +kernel
theorem d_Ms_first_5 : decode c_Ms_first 5 = .ok (.sipush 255, 3) := by decide +kernel
theorem d_Ms_first_8 : decode c_Ms_first 8 = .ok (.iand, 1) := by decide +kernel
theorem d_Ms_first_9 : decode c_Ms_first 9 = .ok (.ireturn, 1) := by decide +kernel
def f_Ms_first (l0 : Int64) : sn_M := r_I ((Int64.toInt32 (l0 >>> (Int32.toInt64 (12 : Int32) &&& 63))) &&& (255 : Int32))
set_option maxHeartbeats 4000000 in
set_option maxRecDepth 100000 in
theorem mono_Ms_first (l0 : Int64) : sn_Mono (f_Ms_first l0) := sn_Mono.rI
set_option maxHeartbeats 4000000 in
set_option maxRecDepth 100000 in
theorem con_Ms_first (l0 : Int64) : sn_Con y_Ms_first c_Ms_first 2 (some .int) 0 0 [vJ l0] (f_Ms_first l0) := by
  refine sn_Con.of (by decide +kernel) (by show _ ≤ _; exact Nat.le_of_ble_eq_true rfl) (mono_Ms_first l0) (fun X C => ?_)
  show sn_S X 0 [(0, vJ l0)] [] _
  replace C : sn_Cx X c_Ms_first "SignalNetwork$Message" (some .int) "first" 2 0 0 := C
  unfold f_Ms_first
  refine r_lload_n (q := 1) (i := 0) (pl := 0) C d_Ms_first_0 rfl rfl rfl ?_
  refine r_bipush (q := 3) (v := 12) C d_Ms_first_1 rfl (by decide) ?_
  refine r_lshr (q := 4) C d_Ms_first_3 rfl ?_
  refine r_l2i (q := 5) C d_Ms_first_4 rfl ?_
  refine r_sipush (q := 8) (v := 255) C d_Ms_first_5 rfl (by decide) ?_
  refine r_iand (q := 9) C d_Ms_first_8 rfl ?_
  exact r_iret C d_Ms_first_9 rfl
theorem d_Ms_second_0 : decode c_Ms_second 0 = .ok (.lload_n 0, 1) := by decide +kernel
theorem d_Ms_second_1 : decode c_Ms_second 1 = .ok (.bipush 20, 2) := by decide +kernel
theorem d_Ms_second_3 : decode c_Ms_second 3 = .ok (.lshr, 1) := by decide +kernel
theorem d_Ms_second_4 : decode c_Ms_second 4 = .ok (.l2i, 1) := by decide +kernel
theorem d_Ms_second_5 : decode c_Ms_second 5 = .ok (.ldc 7, 2) := by decide +kernel
theorem d_Ms_second_7 : decode c_Ms_second 7 = .ok (.iand, 1) := by decide +kernel
theorem d_Ms_second_8 : decode c_Ms_second 8 = .ok (.ireturn, 1) := by decide +kernel
def f_Ms_second (l0 : Int64) : sn_M := r_I ((Int64.toInt32 (l0 >>> (Int32.toInt64 (20 : Int32) &&& 63))) &&& (65535 : Int32))
set_option maxHeartbeats 4000000 in
set_option maxRecDepth 100000 in
theorem mono_Ms_second (l0 : Int64) : sn_Mono (f_Ms_second l0) := sn_Mono.rI
set_option maxHeartbeats 4000000 in
set_option maxRecDepth 100000 in
theorem con_Ms_second (l0 : Int64) : sn_Con y_Ms_second c_Ms_second 2 (some .int) 0 0 [vJ l0] (f_Ms_second l0) := by
  refine sn_Con.of (by decide +kernel) (by show _ ≤ _; exact Nat.le_of_ble_eq_true rfl) (mono_Ms_second l0) (fun X C => ?_)
  show sn_S X 0 [(0, vJ l0)] [] _
  replace C : sn_Cx X c_Ms_second "SignalNetwork$Message" (some .int) "second" 2 0 0 := C
  unfold f_Ms_second
  refine r_lload_n (q := 1) (i := 0) (pl := 0) C d_Ms_second_0 rfl rfl rfl ?_
  refine r_bipush (q := 3) (v := 20) C d_Ms_second_1 rfl (by decide) ?_
  refine r_lshr (q := 4) C d_Ms_second_3 rfl ?_
  refine r_l2i (q := 5) C d_Ms_second_4 rfl ?_
  refine r_ldc (q := 7) C d_Ms_second_5 rfl K_Ms_7 ?_
  refine r_iand (q := 8) C d_Ms_second_7 rfl ?_
  exact r_iret C d_Ms_second_8 rfl
theorem d_Ms_hops_0 : decode c_Ms_hops 0 = .ok (.lload_n 0, 1) := by decide +kernel
theorem d_Ms_hops_1 : decode c_Ms_hops 1 = .ok (.bipush 36, 2) := by decide +kernel
theorem d_Ms_hops_3 : decode c_Ms_hops 3 = .ok (.lshr, 1) := by decide +kernel
theorem d_Ms_hops_4 : decode c_Ms_hops 4 = .ok (.l2i, 1) := by decide +kernel
theorem d_Ms_hops_5 : decode c_Ms_hops 5 = .ok (.bipush 15, 2) := by decide +kernel
theorem d_Ms_hops_7 : decode c_Ms_hops 7 = .ok (.iand, 1) := by decide +kernel
theorem d_Ms_hops_8 : decode c_Ms_hops 8 = .ok (.ireturn, 1) := by decide +kernel
def f_Ms_hops (l0 : Int64) : sn_M := r_I ((Int64.toInt32 (l0 >>> (Int32.toInt64 (36 : Int32) &&& 63))) &&& (15 : Int32))
set_option maxHeartbeats 4000000 in
set_option maxRecDepth 100000 in
theorem mono_Ms_hops (l0 : Int64) : sn_Mono (f_Ms_hops l0) := sn_Mono.rI
set_option maxHeartbeats 4000000 in
set_option maxRecDepth 100000 in
theorem con_Ms_hops (l0 : Int64) : sn_Con y_Ms_hops c_Ms_hops 2 (some .int) 0 0 [vJ l0] (f_Ms_hops l0) := by
  refine sn_Con.of (by decide +kernel) (by show _ ≤ _; exact Nat.le_of_ble_eq_true rfl) (mono_Ms_hops l0) (fun X C => ?_)
  show sn_S X 0 [(0, vJ l0)] [] _
  replace C : sn_Cx X c_Ms_hops "SignalNetwork$Message" (some .int) "hops" 2 0 0 := C
  unfold f_Ms_hops
  refine r_lload_n (q := 1) (i := 0) (pl := 0) C d_Ms_hops_0 rfl rfl rfl ?_
  refine r_bipush (q := 3) (v := 36) C d_Ms_hops_1 rfl (by decide) ?_
  refine r_lshr (q := 4) C d_Ms_hops_3 rfl ?_
  refine r_l2i (q := 5) C d_Ms_hops_4 rfl ?_
  refine r_bipush (q := 7) (v := 15) C d_Ms_hops_5 rfl (by decide) ?_
  refine r_iand (q := 8) C d_Ms_hops_7 rfl ?_
  exact r_iret C d_Ms_hops_8 rfl
theorem d_Ms_hopped_0 : decode c_Ms_hopped 0 = .ok (.lload_n 0, 1) := by decide +kernel
theorem d_Ms_hopped_1 : decode c_Ms_hopped 1 = .ok (.ldc2_w 8, 3) := by decide +kernel
theorem d_Ms_hopped_4 : decode c_Ms_hopped 4 = .ok (.ladd, 1) := by decide +kernel
theorem d_Ms_hopped_5 : decode c_Ms_hopped 5 = .ok (.lreturn, 1) := by decide +kernel
def f_Ms_hopped (l0 : Int64) : sn_M := r_J (l0 + (68719476736 : Int64))
set_option maxHeartbeats 4000000 in
set_option maxRecDepth 100000 in
theorem mono_Ms_hopped (l0 : Int64) : sn_Mono (f_Ms_hopped l0) := sn_Mono.rJ
set_option maxHeartbeats 4000000 in
set_option maxRecDepth 100000 in
theorem con_Ms_hopped (l0 : Int64) : sn_Con y_Ms_hopped c_Ms_hopped 2 (some .long) 0 0 [vJ l0] (f_Ms_hopped l0) := by
  refine sn_Con.of (by decide +kernel) (by show _ ≤ _; exact Nat.le_of_ble_eq_true rfl) (mono_Ms_hopped l0) (fun X C => ?_)
  show sn_S X 0 [(0, vJ l0)] [] _
  replace C : sn_Cx X c_Ms_hopped "SignalNetwork$Message" (some .long) "hopped" 2 0 0 := C
  unfold f_Ms_hopped
  refine r_lload_n (q := 1) (i := 0) (pl := 0) C d_Ms_hopped_0 rfl rfl rfl ?_
  refine r_ldc2_w (q := 4) C d_Ms_hopped_1 rfl KL_Ms_8 ?_
  refine r_ladd (q := 5) C d_Ms_hopped_4 rfl ?_
  exact r_lret C d_Ms_hopped_5 rfl
