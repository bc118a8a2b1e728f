theorem d_Lg_init_0 : decode c_Lg_init 0 = .ok (.aload_n 0, 1) := by decide +kernel
theorem d_Lg_init_1 : decode c_Lg_init 1 = .ok (.invokespecial 3, 3) := by decide +kernel
theorem d_Lg_init_4 : decode c_Lg_init 4 = .ok (.aload_n 0, 1) := by decide +kernel
theorem d_Lg_init_5 : decode c_Lg_init 5 = .ok (.iconst 0, 1) := by decide +kernel
theorem d_Lg_init_6 : decode c_Lg_init 6 = .ok (.putfield 11, 3) := by decide +kernel
theorem d_Lg_init_9 : decode c_Lg_init 9 = .ok (.aload_n 0, 1) := by decide +kernel
theorem d_Lg_init_10 : decode c_Lg_init 10 = .ok (.iconst (-1), 1) := by decide +kernel
theorem d_Lg_init_11 : decode c_Lg_init 11 = .ok (.putfield 15, 3) := by decide +kernel
theorem d_Lg_init_14 : decode c_Lg_init 14 = .ok (.aload_n 0, 1) := by decide +kernel
theorem d_Lg_init_15 : decode c_Lg_init 15 = .ok (.iload_n 1, 1) := by decide +kernel
theorem d_Lg_init_16 : decode c_Lg_init 16 = .ok (.putfield 18, 3) := by decide +kernel
theorem d_Lg_init_19 : decode c_Lg_init 19 = .ok (.aload_n 0, 1) := by decide +kernel
theorem d_Lg_init_20 : decode c_Lg_init 20 = .ok (.iload_n 2, 1) := by decide +kernel
theorem d_Lg_init_21 : decode c_Lg_init 21 = .ok (.putfield 21, 3) := by decide +kernel
theorem d_Lg_init_24 : decode c_Lg_init 24 = .ok (.aload_n 0, 1) := by decide +kernel
theorem d_Lg_init_25 : decode c_Lg_init 25 = .ok (.iload_n 3, 1) := by decide +kernel
theorem d_Lg_init_26 : decode c_Lg_init 26 = .ok (.putfield 24, 3) := by decide +kernel
theorem d_Lg_init_29 : decode c_Lg_init 29 = .ok (.return_, 1) := by decide +kernel
def f_Lg_init (a : Nat) (x1 : Int32) (x2 : Int32) (x3 : Int32) : sn_M := p_I 4 3 (some a) (0 : Int32) (p_I 4 9 (some a) (-1 : Int32) (p_I 4 0 (some a) x1 (p_I 4 1 (some a) x2 (p_I 4 2 (some a) x3 (r_V)))))
set_option maxHeartbeats 4000000 in
set_option maxRecDepth 100000 in
theorem mono_Lg_init (a : Nat) (x1 : Int32) (x2 : Int32) (x3 : Int32) : sn_Mono (f_Lg_init a x1 x2 x3) := sn_Mono.pI (sn_Mono.pI (sn_Mono.pI (sn_Mono.pI (sn_Mono.pI (sn_Mono.rV)))))
set_option maxHeartbeats 4000000 in
set_option maxRecDepth 100000 in
theorem con_Lg_init (a : Nat) (x1 : Int32) (x2 : Int32) (x3 : Int32) : sn_Con y_Lg_init c_Lg_init 4 none 1 12 [vA (some a), vI x1, vI x2, vI x3] (f_Lg_init a x1 x2 x3) := by
  refine sn_Con.of (by decide +kernel) (by show _ ≤ _; exact Nat.le_of_ble_eq_true rfl) (mono_Lg_init a x1 x2 x3) (fun X C => ?_)
  show sn_S X 0 [(0, vA (some a)), (1, vI x1), (2, vI x2), (3, vI x3)] [] _
  replace C : sn_Cx X c_Lg_init "SignalNetwork$Leg" none "<init>" 4 1 12 := C
  unfold f_Lg_init
  refine r_aload_n (q := 1) (i := 0) (pl := 0) C d_Lg_init_0 rfl rfl rfl ?_
  refine r_objInit (q := 4) C d_Lg_init_1 rfl LO_Lg_3 W_oi W_oc (by decide) (by decide) a rfl ?_
  refine r_aload_n (q := 5) (i := 0) (pl := 0) C d_Lg_init_4 rfl rfl rfl ?_
  refine r_iconst (q := 6) (v := 0) C d_Lg_init_5 rfl (by decide) ?_
  refine r_pI (q := 9) C d_Lg_init_6 rfl F_Lg_11 rfl rfl (Or.inl rfl) ?_
  refine r_aload_n (q := 10) (i := 0) (pl := 0) C d_Lg_init_9 rfl rfl rfl ?_
  refine r_iconst (q := 11) (v := -1) C d_Lg_init_10 rfl (by decide) ?_
  refine r_pI (q := 14) C d_Lg_init_11 rfl F_Lg_15 rfl rfl (Or.inl rfl) ?_
  refine r_aload_n (q := 15) (i := 0) (pl := 0) C d_Lg_init_14 rfl rfl rfl ?_
  refine r_iload_n (q := 16) (i := 1) (pl := 1) C d_Lg_init_15 rfl rfl rfl ?_
  refine r_pI (q := 19) C d_Lg_init_16 rfl F_Lg_18 rfl rfl (Or.inr ⟨rfl, _, _, rfl⟩) ?_
  refine r_aload_n (q := 20) (i := 0) (pl := 0) C d_Lg_init_19 rfl rfl rfl ?_
  refine r_iload_n (q := 21) (i := 2) (pl := 2) C d_Lg_init_20 rfl rfl rfl ?_
  refine r_pI (q := 24) C d_Lg_init_21 rfl F_Lg_21 rfl rfl (Or.inr ⟨rfl, _, _, rfl⟩) ?_
  refine r_aload_n (q := 25) (i := 0) (pl := 0) C d_Lg_init_24 rfl rfl rfl ?_
  refine r_iload_n (q := 26) (i := 3) (pl := 3) C d_Lg_init_25 rfl rfl rfl ?_
  refine r_pI (q := 29) C d_Lg_init_26 rfl F_Lg_24 rfl rfl (Or.inr ⟨rfl, _, _, rfl⟩) ?_
  exact r_vret C d_Lg_init_29 rfl
theorem d_Lg_isSubscriber_0 : decode c_Lg_isSubscriber 0 = .ok (.aload_n 0, 1) := by decide +kernel
theorem d_Lg_isSubscriber_1 : decode c_Lg_isSubscriber 1 = .ok (.getfield 21, 3) := by decide +kernel
theorem d_Lg_isSubscriber_4 : decode c_Lg_isSubscriber 4 = .ok (.iconst (-1), 1) := by decide +kernel
theorem d_Lg_isSubscriber_5 : decode c_Lg_isSubscriber 5 = .ok (.if_icmp .ne 7, 3) := by decide +kernel
theorem d_Lg_isSubscriber_8 : decode c_Lg_isSubscriber 8 = .ok (.iconst 1, 1) := by decide +kernel
theorem d_Lg_isSubscriber_9 : decode c_Lg_isSubscriber 9 = .ok (.goto 4, 3) := by decide +kernel
theorem d_Lg_isSubscriber_12 : decode c_Lg_isSubscriber 12 = .ok (.iconst 0, 1) := by decide +kernel
theorem d_Lg_isSubscriber_13 : decode c_Lg_isSubscriber 13 = .ok (.ireturn, 1) := by decide +kernel
def f_Lg_isSubscriber_13 (a : Nat) (t0 : Int32) : sn_M := r_Z t0
set_option maxHeartbeats 4000000 in
set_option maxRecDepth 100000 in
theorem mono_Lg_isSubscriber_13 (a : Nat) (t0 : Int32) : sn_Mono (f_Lg_isSubscriber_13 a t0) := sn_Mono.rZ
set_option maxHeartbeats 4000000 in
set_option maxRecDepth 100000 in
theorem s_Lg_isSubscriber_13 {X : sn_X} (C : sn_Cx X c_Lg_isSubscriber "SignalNetwork$Leg" (some .boolean) "isSubscriber" 1 0 0) (a : Nat) (t0 : Int32) : sn_S X 13 [(0, vA (some a))] [vI t0] (f_Lg_isSubscriber_13 a t0) := by
  unfold f_Lg_isSubscriber_13
  exact r_zret C d_Lg_isSubscriber_13 rfl
def f_Lg_isSubscriber (a : Nat) : sn_M := g_I 4 1 (some a) fun v1 => (if ¬ v1 = (-1 : Int32) then f_Lg_isSubscriber_13 a (0 : Int32) else f_Lg_isSubscriber_13 a (1 : Int32))
set_option maxHeartbeats 4000000 in
set_option maxRecDepth 100000 in
theorem mono_Lg_isSubscriber (a : Nat) : sn_Mono (f_Lg_isSubscriber a) := sn_Mono.gI (fun v1 => sn_Mono.ite (mono_Lg_isSubscriber_13 a (0 : Int32)) (mono_Lg_isSubscriber_13 a (1 : Int32)))
set_option maxHeartbeats 4000000 in
set_option maxRecDepth 100000 in
theorem con_Lg_isSubscriber (a : Nat) : sn_Con y_Lg_isSubscriber c_Lg_isSubscriber 1 (some .boolean) 0 0 [vA (some a)] (f_Lg_isSubscriber a) := by
  refine sn_Con.of (by decide +kernel) (by show _ ≤ _; exact Nat.le_of_ble_eq_true rfl) (mono_Lg_isSubscriber a) (fun X C => ?_)
  show sn_S X 0 [(0, vA (some a))] [] _
  replace C : sn_Cx X c_Lg_isSubscriber "SignalNetwork$Leg" (some .boolean) "isSubscriber" 1 0 0 := C
  unfold f_Lg_isSubscriber
  refine r_aload_n (q := 1) (i := 0) (pl := 0) C d_Lg_isSubscriber_0 rfl rfl rfl ?_
  refine r_gI (q := 4) C d_Lg_isSubscriber_1 rfl F_Lg_21 rfl (fun v1 => ?_)
  refine r_iconst (q := 5) (v := -1) C d_Lg_isSubscriber_4 rfl (by decide) ?_
  refine r_icmp_ne (tgt := 12) (q := 8) C d_Lg_isSubscriber_5 (by decide) rfl ?_ ?_
  · refine r_iconst (q := 13) (v := 0) C d_Lg_isSubscriber_12 rfl (by decide) ?_
    exact s_Lg_isSubscriber_13 C a (0 : Int32)
  · refine r_iconst (q := 9) (v := 1) C d_Lg_isSubscriber_8 rfl (by decide) ?_
    refine r_goto (tgt := 13) C d_Lg_isSubscriber_9 (by decide) ?_
    exact s_Lg_isSubscriber_13 C a (1 : Int32)
theorem d_Lg_isFree_0 : decode c_Lg_isFree 0 = .ok (.aload_n 0, 1) := by decide +kernel
theorem d_Lg_isFree_1 : decode c_Lg_isFree 1 = .ok (.getfield 11, 3) := by decide +kernel
theorem d_Lg_isFree_4 : decode c_Lg_isFree 4 = .ok (.ifCond .ne 21, 3) := by decide +kernel
theorem d_Lg_isFree_7 : decode c_Lg_isFree 7 = .ok (.aload_n 0, 1) := by decide +kernel
theorem d_Lg_isFree_8 : decode c_Lg_isFree 8 = .ok (.getfield 27, 3) := by decide +kernel
theorem d_Lg_isFree_11 : decode c_Lg_isFree 11 = .ok (.ifCond .ne 14, 3) := by decide +kernel
theorem d_Lg_isFree_14 : decode c_Lg_isFree 14 = .ok (.aload_n 0, 1) := by decide +kernel
theorem d_Lg_isFree_15 : decode c_Lg_isFree 15 = .ok (.getfield 31, 3) := by decide +kernel
theorem d_Lg_isFree_18 : decode c_Lg_isFree 18 = .ok (.ifCond .ne 7, 3) := by decide +kernel
theorem d_Lg_isFree_21 : decode c_Lg_isFree 21 = .ok (.iconst 1, 1) := by decide +kernel
theorem d_Lg_isFree_22 : decode c_Lg_isFree 22 = .ok (.goto 4, 3) := by decide +kernel
theorem d_Lg_isFree_25 : decode c_Lg_isFree 25 = .ok (.iconst 0, 1) := by decide +kernel
theorem d_Lg_isFree_26 : decode c_Lg_isFree 26 = .ok (.ireturn, 1) := by decide +kernel
def f_Lg_isFree_26 (a : Nat) (t0 : Int32) : sn_M := r_Z t0
set_option maxHeartbeats 4000000 in
set_option maxRecDepth 100000 in
theorem mono_Lg_isFree_26 (a : Nat) (t0 : Int32) : sn_Mono (f_Lg_isFree_26 a t0) := sn_Mono.rZ
set_option maxHeartbeats 4000000 in
set_option maxRecDepth 100000 in
theorem s_Lg_isFree_26 {X : sn_X} (C : sn_Cx X c_Lg_isFree "SignalNetwork$Leg" (some .boolean) "isFree" 1 0 0) (a : Nat) (t0 : Int32) : sn_S X 26 [(0, vA (some a))] [vI t0] (f_Lg_isFree_26 a t0) := by
  unfold f_Lg_isFree_26
  exact r_zret C d_Lg_isFree_26 rfl
def f_Lg_isFree_25 (a : Nat) : sn_M := f_Lg_isFree_26 a (0 : Int32)
set_option maxHeartbeats 4000000 in
set_option maxRecDepth 100000 in
theorem mono_Lg_isFree_25 (a : Nat) : sn_Mono (f_Lg_isFree_25 a) := mono_Lg_isFree_26 a (0 : Int32)
set_option maxHeartbeats 4000000 in
set_option maxRecDepth 100000 in
theorem s_Lg_isFree_25 {X : sn_X} (C : sn_Cx X c_Lg_isFree "SignalNetwork$Leg" (some .boolean) "isFree" 1 0 0) (a : Nat) : sn_S X 25 [(0, vA (some a))] [] (f_Lg_isFree_25 a) := by
  unfold f_Lg_isFree_25
  refine r_iconst (q := 26) (v := 0) C d_Lg_isFree_25 rfl (by decide) ?_
  exact s_Lg_isFree_26 C a (0 : Int32)
def f_Lg_isFree (a : Nat) : sn_M := g_I 4 3 (some a) fun v1 => (if ¬ v1 = 0 then f_Lg_isFree_25 a else g_I 4 7 (some a) fun v2 => (if ¬ v2 = 0 then f_Lg_isFree_25 a else g_I 4 8 (some a) fun v3 => (if ¬ v3 = 0 then f_Lg_isFree_25 a else f_Lg_isFree_26 a (1 : Int32))))
set_option maxHeartbeats 4000000 in
set_option maxRecDepth 100000 in
theorem mono_Lg_isFree (a : Nat) : sn_Mono (f_Lg_isFree a) := sn_Mono.gI (fun v1 => sn_Mono.ite (mono_Lg_isFree_25 a) (sn_Mono.gI (fun v2 => sn_Mono.ite (mono_Lg_isFree_25 a) (sn_Mono.gI (fun v3 => sn_Mono.ite (mono_Lg_isFree_25 a) (mono_Lg_isFree_26 a (1 : Int32)))))))
set_option maxHeartbeats 4000000 in
set_option maxRecDepth 100000 in
theorem con_Lg_isFree (a : Nat) : sn_Con y_Lg_isFree c_Lg_isFree 1 (some .boolean) 0 0 [vA (some a)] (f_Lg_isFree a) := by
  refine sn_Con.of (by decide +kernel) (by show _ ≤ _; exact Nat.le_of_ble_eq_true rfl) (mono_Lg_isFree a) (fun X C => ?_)
  show sn_S X 0 [(0, vA (some a))] [] _
  replace C : sn_Cx X c_Lg_isFree "SignalNetwork$Leg" (some .boolean) "isFree" 1 0 0 := C
  unfold f_Lg_isFree
  refine r_aload_n (q := 1) (i := 0) (pl := 0) C d_Lg_isFree_0 rfl rfl rfl ?_
  refine r_gI (q := 4) C d_Lg_isFree_1 rfl F_Lg_11 rfl (fun v1 => ?_)
  refine r_if_ne (tgt := 25) (q := 7) C d_Lg_isFree_4 (by decide) rfl ?_ ?_
  · exact s_Lg_isFree_25 C a
  · refine r_aload_n (q := 8) (i := 0) (pl := 0) C d_Lg_isFree_7 rfl rfl rfl ?_
    refine r_gI (q := 11) C d_Lg_isFree_8 rfl F_Lg_27 rfl (fun v2 => ?_)
    refine r_if_ne (tgt := 25) (q := 14) C d_Lg_isFree_11 (by decide) rfl ?_ ?_
    · exact s_Lg_isFree_25 C a
    · refine r_aload_n (q := 15) (i := 0) (pl := 0) C d_Lg_isFree_14 rfl rfl rfl ?_
      refine r_gI (q := 18) C d_Lg_isFree_15 rfl F_Lg_31 rfl (fun v3 => ?_)
      refine r_if_ne (tgt := 25) (q := 21) C d_Lg_isFree_18 (by decide) rfl ?_ ?_
      · exact s_Lg_isFree_25 C a
      · refine r_iconst (q := 22) (v := 1) C d_Lg_isFree_21 rfl (by decide) ?_
        refine r_goto (tgt := 26) C d_Lg_isFree_22 (by decide) ?_
        exact s_Lg_isFree_26 C a (1 : Int32)
theorem d_Lg_isInCall_0 : decode c_Lg_isInCall 0 = .ok (.aload_n 0, 1) := by decide +kernel
theorem d_Lg_isInCall_1 : decode c_Lg_isInCall 1 = .ok (.getfield 11, 3) := by decide +kernel
theorem d_Lg_isInCall_4 : decode c_Lg_isInCall 4 = .ok (.iconst 1, 1) := by decide +kernel
theorem d_Lg_isInCall_5 : decode c_Lg_isInCall 5 = .ok (.if_icmp .lt 16, 3) := by decide +kernel
theorem d_Lg_isInCall_8 : decode c_Lg_isInCall 8 = .ok (.aload_n 0, 1) := by decide +kernel
theorem d_Lg_isInCall_9 : decode c_Lg_isInCall 9 = .ok (.getfield 11, 3) := by decide +kernel
theorem d_Lg_isInCall_12 : decode c_Lg_isInCall 12 = .ok (.bipush 6, 2) := by decide +kernel
theorem d_Lg_isInCall_14 : decode c_Lg_isInCall 14 = .ok (.if_icmp .gt 7, 3) := by decide +kernel
theorem d_Lg_isInCall_17 : decode c_Lg_isInCall 17 = .ok (.iconst 1, 1) := by decide +kernel
theorem d_Lg_isInCall_18 : decode c_Lg_isInCall 18 = .ok (.goto 4, 3) := by decide +kernel
theorem d_Lg_isInCall_21 : decode c_Lg_isInCall 21 = .ok (.iconst 0, 1) := by decide +kernel
theorem d_Lg_isInCall_22 : decode c_Lg_isInCall 22 = .ok (.ireturn, 1) := by decide +kernel
def f_Lg_isInCall_22 (a : Nat) (t0 : Int32) : sn_M := r_Z t0
set_option maxHeartbeats 4000000 in
set_option maxRecDepth 100000 in
theorem mono_Lg_isInCall_22 (a : Nat) (t0 : Int32) : sn_Mono (f_Lg_isInCall_22 a t0) := sn_Mono.rZ
set_option maxHeartbeats 4000000 in
set_option maxRecDepth 100000 in
theorem s_Lg_isInCall_22 {X : sn_X} (C : sn_Cx X c_Lg_isInCall "SignalNetwork$Leg" (some .boolean) "isInCall" 1 0 0) (a : Nat) (t0 : Int32) : sn_S X 22 [(0, vA (some a))] [vI t0] (f_Lg_isInCall_22 a t0) := by
  unfold f_Lg_isInCall_22
  exact r_zret C d_Lg_isInCall_22 rfl
def f_Lg_isInCall_21 (a : Nat) : sn_M := f_Lg_isInCall_22 a (0 : Int32)
set_option maxHeartbeats 4000000 in
set_option maxRecDepth 100000 in
theorem mono_Lg_isInCall_21 (a : Nat) : sn_Mono (f_Lg_isInCall_21 a) := mono_Lg_isInCall_22 a (0 : Int32)
set_option maxHeartbeats 4000000 in
set_option maxRecDepth 100000 in
theorem s_Lg_isInCall_21 {X : sn_X} (C : sn_Cx X c_Lg_isInCall "SignalNetwork$Leg" (some .boolean) "isInCall" 1 0 0) (a : Nat) : sn_S X 21 [(0, vA (some a))] [] (f_Lg_isInCall_21 a) := by
  unfold f_Lg_isInCall_21
  refine r_iconst (q := 22) (v := 0) C d_Lg_isInCall_21 rfl (by decide) ?_
  exact s_Lg_isInCall_22 C a (0 : Int32)
def f_Lg_isInCall (a : Nat) : sn_M := g_I 4 3 (some a) fun v1 => (if v1 < (1 : Int32) then f_Lg_isInCall_21 a else g_I 4 3 (some a) fun v2 => (if (6 : Int32) < v2 then f_Lg_isInCall_21 a else f_Lg_isInCall_22 a (1 : Int32)))
set_option maxHeartbeats 4000000 in
set_option maxRecDepth 100000 in
theorem mono_Lg_isInCall (a : Nat) : sn_Mono (f_Lg_isInCall a) := sn_Mono.gI (fun v1 => sn_Mono.ite (mono_Lg_isInCall_21 a) (sn_Mono.gI (fun v2 => sn_Mono.ite (mono_Lg_isInCall_21 a) (mono_Lg_isInCall_22 a (1 : Int32)))))
set_option maxHeartbeats 4000000 in
set_option maxRecDepth 100000 in
theorem con_Lg_isInCall (a : Nat) : sn_Con y_Lg_isInCall c_Lg_isInCall 1 (some .boolean) 0 0 [vA (some a)] (f_Lg_isInCall a) := by
  refine sn_Con.of (by decide +kernel) (by show _ ≤ _; exact Nat.le_of_ble_eq_true rfl) (mono_Lg_isInCall a) (fun X C => ?_)
  show sn_S X 0 [(0, vA (some a))] [] _
  replace C : sn_Cx X c_Lg_isInCall "SignalNetwork$Leg" (some .boolean) "isInCall" 1 0 0 := C
  unfold f_Lg_isInCall
  refine r_aload_n (q := 1) (i := 0) (pl := 0) C d_Lg_isInCall_0 rfl rfl rfl ?_
  refine r_gI (q := 4) C d_Lg_isInCall_1 rfl F_Lg_11 rfl (fun v1 => ?_)
  refine r_iconst (q := 5) (v := 1) C d_Lg_isInCall_4 rfl (by decide) ?_
  refine r_icmp_lt (tgt := 21) (q := 8) C d_Lg_isInCall_5 (by decide) rfl ?_ ?_
  · exact s_Lg_isInCall_21 C a
  · refine r_aload_n (q := 9) (i := 0) (pl := 0) C d_Lg_isInCall_8 rfl rfl rfl ?_
    refine r_gI (q := 12) C d_Lg_isInCall_9 rfl F_Lg_11 rfl (fun v2 => ?_)
    refine r_bipush (q := 14) (v := 6) C d_Lg_isInCall_12 rfl (by decide) ?_
    refine r_icmp_gt (tgt := 21) (q := 17) C d_Lg_isInCall_14 (by decide) rfl ?_ ?_
    · exact s_Lg_isInCall_21 C a
    · refine r_iconst (q := 18) (v := 1) C d_Lg_isInCall_17 rfl (by decide) ?_
      refine r_goto (tgt := 22) C d_Lg_isInCall_18 (by decide) ?_
      exact s_Lg_isInCall_22 C a (1 : Int32)
theorem d_Lg_isAnswered_0 : decode c_Lg_isAnswered 0 = .ok (.aload_n 0, 1) := by decide +kernel
theorem d_Lg_isAnswered_1 : decode c_Lg_isAnswered 1 = .ok (.getfield 11, 3) := by decide +kernel
theorem d_Lg_isAnswered_4 : decode c_Lg_isAnswered 4 = .ok (.iconst 3, 1) := by decide +kernel
theorem d_Lg_isAnswered_5 : decode c_Lg_isAnswered 5 = .ok (.if_icmp .eq 12, 3) := by decide +kernel
theorem d_Lg_isAnswered_8 : decode c_Lg_isAnswered 8 = .ok (.aload_n 0, 1) := by decide +kernel
theorem d_Lg_isAnswered_9 : decode c_Lg_isAnswered 9 = .ok (.getfield 11, 3) := by decide +kernel
theorem d_Lg_isAnswered_12 : decode c_Lg_isAnswered 12 = .ok (.bipush 6, 2) := by decide +kernel
theorem d_Lg_isAnswered_14 : decode c_Lg_isAnswered 14 = .ok (.if_icmp .ne 7, 3) := by decide +kernel
theorem d_Lg_isAnswered_17 : decode c_Lg_isAnswered 17 = .ok (.iconst 1, 1) := by decide +kernel
theorem d_Lg_isAnswered_18 : decode c_Lg_isAnswered 18 = .ok (.goto 4, 3) := by decide +kernel
theorem d_Lg_isAnswered_21 : decode c_Lg_isAnswered 21 = .ok (.iconst 0, 1) := by decide +kernel
theorem d_Lg_isAnswered_22 : decode c_Lg_isAnswered 22 = .ok (.ireturn, 1) := by decide +kernel
def f_Lg_isAnswered_22 (a : Nat) (t0 : Int32) : sn_M := r_Z t0
set_option maxHeartbeats 4000000 in
set_option maxRecDepth 100000 in
theorem mono_Lg_isAnswered_22 (a : Nat) (t0 : Int32) : sn_Mono (f_Lg_isAnswered_22 a t0) := sn_Mono.rZ
set_option maxHeartbeats 4000000 in
set_option maxRecDepth 100000 in
theorem s_Lg_isAnswered_22 {X : sn_X} (C : sn_Cx X c_Lg_isAnswered "SignalNetwork$Leg" (some .boolean) "isAnswered" 1 0 0) (a : Nat) (t0 : Int32) : sn_S X 22 [(0, vA (some a))] [vI t0] (f_Lg_isAnswered_22 a t0) := by
  unfold f_Lg_isAnswered_22
  exact r_zret C d_Lg_isAnswered_22 rfl
def f_Lg_isAnswered_17 (a : Nat) : sn_M := f_Lg_isAnswered_22 a (1 : Int32)
set_option maxHeartbeats 4000000 in
set_option maxRecDepth 100000 in
theorem mono_Lg_isAnswered_17 (a : Nat) : sn_Mono (f_Lg_isAnswered_17 a) := mono_Lg_isAnswered_22 a (1 : Int32)
set_option maxHeartbeats 4000000 in
set_option maxRecDepth 100000 in
theorem s_Lg_isAnswered_17 {X : sn_X} (C : sn_Cx X c_Lg_isAnswered "SignalNetwork$Leg" (some .boolean) "isAnswered" 1 0 0) (a : Nat) : sn_S X 17 [(0, vA (some a))] [] (f_Lg_isAnswered_17 a) := by
  unfold f_Lg_isAnswered_17
  refine r_iconst (q := 18) (v := 1) C d_Lg_isAnswered_17 rfl (by decide) ?_
  refine r_goto (tgt := 22) C d_Lg_isAnswered_18 (by decide) ?_
  exact s_Lg_isAnswered_22 C a (1 : Int32)
def f_Lg_isAnswered (a : Nat) : sn_M := g_I 4 3 (some a) fun v1 => (if v1 = (3 : Int32) then f_Lg_isAnswered_17 a else g_I 4 3 (some a) fun v2 => (if ¬ v2 = (6 : Int32) then f_Lg_isAnswered_22 a (0 : Int32) else f_Lg_isAnswered_17 a))
set_option maxHeartbeats 4000000 in
set_option maxRecDepth 100000 in
theorem mono_Lg_isAnswered (a : Nat) : sn_Mono (f_Lg_isAnswered a) := sn_Mono.gI (fun v1 => sn_Mono.ite (mono_Lg_isAnswered_17 a) (sn_Mono.gI (fun v2 => sn_Mono.ite (mono_Lg_isAnswered_22 a (0 : Int32)) (mono_Lg_isAnswered_17 a))))
set_option maxHeartbeats 4000000 in
set_option maxRecDepth 100000 in
theorem con_Lg_isAnswered (a : Nat) : sn_Con y_Lg_isAnswered c_Lg_isAnswered 1 (some .boolean) 0 0 [vA (some a)] (f_Lg_isAnswered a) := by
  refine sn_Con.of (by decide +kernel) (by show _ ≤ _; exact Nat.le_of_ble_eq_true rfl) (mono_Lg_isAnswered a) (fun X C => ?_)
  show sn_S X 0 [(0, vA (some a))] [] _
  replace C : sn_Cx X c_Lg_isAnswered "SignalNetwork$Leg" (some .boolean) "isAnswered" 1 0 0 := C
  unfold f_Lg_isAnswered
  refine r_aload_n (q := 1) (i := 0) (pl := 0) C d_Lg_isAnswered_0 rfl rfl rfl ?_
  refine r_gI (q := 4) C d_Lg_isAnswered_1 rfl F_Lg_11 rfl (fun v1 => ?_)
  refine r_iconst (q := 5) (v := 3) C d_Lg_isAnswered_4 rfl (by decide) ?_
  refine r_icmp_eq (tgt := 17) (q := 8) C d_Lg_isAnswered_5 (by decide) rfl ?_ ?_
  · exact s_Lg_isAnswered_17 C a
  · refine r_aload_n (q := 9) (i := 0) (pl := 0) C d_Lg_isAnswered_8 rfl rfl rfl ?_
    refine r_gI (q := 12) C d_Lg_isAnswered_9 rfl F_Lg_11 rfl (fun v2 => ?_)
    refine r_bipush (q := 14) (v := 6) C d_Lg_isAnswered_12 rfl (by decide) ?_
    refine r_icmp_ne (tgt := 21) (q := 17) C d_Lg_isAnswered_14 (by decide) rfl ?_ ?_
    · refine r_iconst (q := 22) (v := 0) C d_Lg_isAnswered_21 rfl (by decide) ?_
      exact s_Lg_isAnswered_22 C a (0 : Int32)
    · exact s_Lg_isAnswered_17 C a
theorem d_Lg_controls_0 : decode c_Lg_controls 0 = .ok (.aload_n 0, 1) := by decide +kernel
theorem d_Lg_controls_1 : decode c_Lg_controls 1 = .ok (.getfield 18, 3) := by decide +kernel
theorem d_Lg_controls_4 : decode c_Lg_controls 4 = .ok (.aload_n 0, 1) := by decide +kernel
theorem d_Lg_controls_5 : decode c_Lg_controls 5 = .ok (.getfield 21, 3) := by decide +kernel
theorem d_Lg_controls_8 : decode c_Lg_controls 8 = .ok (.if_icmp .le 7, 3) := by decide +kernel
theorem d_Lg_controls_11 : decode c_Lg_controls 11 = .ok (.iconst 1, 1) := by decide +kernel
theorem d_Lg_controls_12 : decode c_Lg_controls 12 = .ok (.goto 4, 3) := by decide +kernel
theorem d_Lg_controls_15 : decode c_Lg_controls 15 = .ok (.iconst 0, 1) := by decide +kernel
theorem d_Lg_controls_16 : decode c_Lg_controls 16 = .ok (.istore_n 1, 1) := by decide +kernel
theorem d_Lg_controls_17 : decode c_Lg_controls 17 = .ok (.iload_n 1, 1) := by decide +kernel
theorem d_Lg_controls_18 : decode c_Lg_controls 18 = .ok (.aload_n 0, 1) := by decide +kernel
theorem d_Lg_controls_19 : decode c_Lg_controls 19 = .ok (.getfield 24, 3) := by decide +kernel
theorem d_Lg_controls_22 : decode c_Lg_controls 22 = .ok (.iconst 2, 1) := by decide +kernel
theorem d_Lg_controls_23 : decode c_Lg_controls 23 = .ok (.irem, 1) := by decide +kernel
theorem d_Lg_controls_24 : decode c_Lg_controls 24 = .ok (.ifCond .ne 7, 3) := by decide +kernel
theorem d_Lg_controls_27 : decode c_Lg_controls 27 = .ok (.iconst 1, 1) := by decide +kernel
theorem d_Lg_controls_28 : decode c_Lg_controls 28 = .ok (.goto 4, 3) := by decide +kernel
theorem d_Lg_controls_31 : decode c_Lg_controls 31 = .ok (.iconst 0, 1) := by decide +kernel
theorem d_Lg_controls_32 : decode c_Lg_controls 32 = .ok (.if_icmp .ne 7, 3) := by decide +kernel
theorem d_Lg_controls_35 : decode c_Lg_controls 35 = .ok (.iconst 1, 1) := by decide +kernel
theorem d_Lg_controls_36 : decode c_Lg_controls 36 = .ok (.goto 4, 3) := by decide +kernel
theorem d_Lg_controls_39 : decode c_Lg_controls 39 = .ok (.iconst 0, 1) := by decide +kernel
theorem d_Lg_controls_40 : decode c_Lg_controls 40 = .ok (.ireturn, 1) := by decide +kernel
def f_Lg_controls_40 (a : Nat) (t0 : Int32) : sn_M := r_Z t0
set_option maxHeartbeats 4000000 in
set_option maxRecDepth 100000 in
theorem mono_Lg_controls_40 (a : Nat) (t0 : Int32) : sn_Mono (f_Lg_controls_40 a t0) := sn_Mono.rZ
set_option maxHeartbeats 4000000 in
set_option maxRecDepth 100000 in
theorem s_Lg_controls_40 {X : sn_X} (C : sn_Cx X c_Lg_controls "SignalNetwork$Leg" (some .boolean) "controls" 2 0 0) (a : Nat) (t0 : Int32) : sn_S X 40 [(0, vA (some a))] [vI t0] (f_Lg_controls_40 a t0) := by
  unfold f_Lg_controls_40
  exact r_zret C d_Lg_controls_40 rfl
def f_Lg_controls_32 (a : Nat) (t0 : Int32) (t1 : Int32) : sn_M := (if ¬ t0 = t1 then f_Lg_controls_40 a (0 : Int32) else f_Lg_controls_40 a (1 : Int32))
set_option maxHeartbeats 4000000 in
set_option maxRecDepth 100000 in
theorem mono_Lg_controls_32 (a : Nat) (t0 : Int32) (t1 : Int32) : sn_Mono (f_Lg_controls_32 a t0 t1) := sn_Mono.ite (mono_Lg_controls_40 a (0 : Int32)) (mono_Lg_controls_40 a (1 : Int32))
set_option maxHeartbeats 4000000 in
set_option maxRecDepth 100000 in
theorem s_Lg_controls_32 {X : sn_X} (C : sn_Cx X c_Lg_controls "SignalNetwork$Leg" (some .boolean) "controls" 2 0 0) (a : Nat) (t0 : Int32) (t1 : Int32) : sn_S X 32 [(0, vA (some a))] [vI t1, vI t0] (f_Lg_controls_32 a t0 t1) := by
  unfold f_Lg_controls_32
  refine r_icmp_ne (tgt := 39) (q := 35) C d_Lg_controls_32 (by decide) rfl ?_ ?_
  · refine r_iconst (q := 40) (v := 0) C d_Lg_controls_39 rfl (by decide) ?_
    exact s_Lg_controls_40 C a (0 : Int32)
  · refine r_iconst (q := 36) (v := 1) C d_Lg_controls_35 rfl (by decide) ?_
    refine r_goto (tgt := 40) C d_Lg_controls_36 (by decide) ?_
    exact s_Lg_controls_40 C a (1 : Int32)
def f_Lg_controls_16 (a : Nat) (t0 : Int32) : sn_M := g_I 4 2 (some a) fun v1 => (if ¬ (v1 % (2 : Int32)) = 0 then f_Lg_controls_32 a t0 (0 : Int32) else f_Lg_controls_32 a t0 (1 : Int32))
set_option maxHeartbeats 4000000 in
set_option maxRecDepth 100000 in
theorem mono_Lg_controls_16 (a : Nat) (t0 : Int32) : sn_Mono (f_Lg_controls_16 a t0) := sn_Mono.gI (fun v1 => sn_Mono.ite (mono_Lg_controls_32 a t0 (0 : Int32)) (mono_Lg_controls_32 a t0 (1 : Int32)))
set_option maxHeartbeats 4000000 in
set_option maxRecDepth 100000 in
theorem s_Lg_controls_16 {X : sn_X} (C : sn_Cx X c_Lg_controls "SignalNetwork$Leg" (some .boolean) "controls" 2 0 0) (a : Nat) (t0 : Int32) : sn_S X 16 [(0, vA (some a))] [vI t0] (f_Lg_controls_16 a t0) := by
  unfold f_Lg_controls_16
  refine r_istore_n (q := 17) (i := 1) (lv' := [(1, vI t0), (0, vA (some a))]) C d_Lg_controls_16 rfl rfl (by decide) rfl ?_
  refine r_iload_n (q := 18) (i := 1) (pl := 0) C d_Lg_controls_17 rfl rfl rfl ?_
  refine r_aload_n (q := 19) (i := 0) (pl := 1) C d_Lg_controls_18 rfl rfl rfl ?_
  refine r_gI (q := 22) C d_Lg_controls_19 rfl F_Lg_24 rfl (fun v1 => ?_)
  refine r_iconst (q := 23) (v := 2) C d_Lg_controls_22 rfl (by decide) ?_
  refine r_iremc (q := 24) C d_Lg_controls_23 rfl (by decide) ?_
  refine r_if_ne (tgt := 31) (q := 27) C d_Lg_controls_24 (by decide) rfl ?_ ?_
  · refine r_iconst (q := 32) (v := 0) C d_Lg_controls_31 rfl (by decide) ?_
    refine r_sub (lv' := [(0, vA (some a))]) [1] rfl ?_
    exact s_Lg_controls_32 C a t0 (0 : Int32)
  · refine r_iconst (q := 28) (v := 1) C d_Lg_controls_27 rfl (by decide) ?_
    refine r_goto (tgt := 32) C d_Lg_controls_28 (by decide) ?_
    refine r_sub (lv' := [(0, vA (some a))]) [1] rfl ?_
    exact s_Lg_controls_32 C a t0 (1 : Int32)
def f_Lg_controls (a : Nat) : sn_M := g_I 4 0 (some a) fun v2 => g_I 4 1 (some a) fun v3 => (if v2 ≤ v3 then f_Lg_controls_16 a (0 : Int32) else f_Lg_controls_16 a (1 : Int32))
set_option maxHeartbeats 4000000 in
set_option maxRecDepth 100000 in
theorem mono_Lg_controls (a : Nat) : sn_Mono (f_Lg_controls a) := sn_Mono.gI (fun v2 => sn_Mono.gI (fun v3 => sn_Mono.ite (mono_Lg_controls_16 a (0 : Int32)) (mono_Lg_controls_16 a (1 : Int32))))
set_option maxHeartbeats 4000000 in
set_option maxRecDepth 100000 in
theorem con_Lg_controls (a : Nat) : sn_Con y_Lg_controls c_Lg_controls 2 (some .boolean) 0 0 [vA (some a)] (f_Lg_controls a) := by
  refine sn_Con.of (by decide +kernel) (by show _ ≤ _; exact Nat.le_of_ble_eq_true rfl) (mono_Lg_controls a) (fun X C => ?_)
  show sn_S X 0 [(0, vA (some a))] [] _
  replace C : sn_Cx X c_Lg_controls "SignalNetwork$Leg" (some .boolean) "controls" 2 0 0 := C
  unfold f_Lg_controls
  refine r_aload_n (q := 1) (i := 0) (pl := 0) C d_Lg_controls_0 rfl rfl rfl ?_
  refine r_gI (q := 4) C d_Lg_controls_1 rfl F_Lg_18 rfl (fun v2 => ?_)
  refine r_aload_n (q := 5) (i := 0) (pl := 0) C d_Lg_controls_4 rfl rfl rfl ?_
  refine r_gI (q := 8) C d_Lg_controls_5 rfl F_Lg_21 rfl (fun v3 => ?_)
  refine r_icmp_le (tgt := 15) (q := 11) C d_Lg_controls_8 (by decide) rfl ?_ ?_
  · refine r_iconst (q := 16) (v := 0) C d_Lg_controls_15 rfl (by decide) ?_
    exact s_Lg_controls_16 C a (0 : Int32)
  · refine r_iconst (q := 12) (v := 1) C d_Lg_controls_11 rfl (by decide) ?_
    refine r_goto (tgt := 16) C d_Lg_controls_12 (by decide) ?_
    exact s_Lg_controls_16 C a (1 : Int32)
theorem d_Lg_code_0 : decode c_Lg_code 0 = .ok (.aload_n 0, 1) := by decide +kernel
theorem d_Lg_code_1 : decode c_Lg_code 1 = .ok (.invokevirtual 34, 3) := by decide +kernel
theorem d_Lg_code_4 : decode c_Lg_code 4 = .ok (.ifCond .eq 18, 3) := by decide +kernel
theorem d_Lg_code_7 : decode c_Lg_code 7 = .ok (.bipush 10, 2) := by decide +kernel
theorem d_Lg_code_9 : decode c_Lg_code 9 = .ok (.aload_n 0, 1) := by decide +kernel
theorem d_Lg_code_10 : decode c_Lg_code 10 = .ok (.getfield 18, 3) := by decide +kernel
theorem d_Lg_code_13 : decode c_Lg_code 13 = .ok (.imul, 1) := by decide +kernel
theorem d_Lg_code_14 : decode c_Lg_code 14 = .ok (.aload_n 0, 1) := by decide +kernel
theorem d_Lg_code_15 : decode c_Lg_code 15 = .ok (.getfield 24, 3) := by decide +kernel
theorem d_Lg_code_18 : decode c_Lg_code 18 = .ok (.iadd, 1) := by decide +kernel
theorem d_Lg_code_19 : decode c_Lg_code 19 = .ok (.goto 18, 3) := by decide +kernel
theorem d_Lg_code_22 : decode c_Lg_code 22 = .ok (.bipush 100, 2) := by decide +kernel
theorem d_Lg_code_24 : decode c_Lg_code 24 = .ok (.bipush 10, 2) := by decide +kernel
theorem d_Lg_code_26 : decode c_Lg_code 26 = .ok (.aload_n 0, 1) := by decide +kernel
theorem d_Lg_code_27 : decode c_Lg_code 27 = .ok (.getfield 21, 3) := by decide +kernel
theorem d_Lg_code_30 : decode c_Lg_code 30 = .ok (.imul, 1) := by decide +kernel
theorem d_Lg_code_31 : decode c_Lg_code 31 = .ok (.iadd, 1) := by decide +kernel
theorem d_Lg_code_32 : decode c_Lg_code 32 = .ok (.aload_n 0, 1) := by decide +kernel
theorem d_Lg_code_33 : decode c_Lg_code 33 = .ok (.getfield 24, 3) := by decide +kernel
theorem d_Lg_code_36 : decode c_Lg_code 36 = .ok (.iadd, 1) := by decide +kernel
theorem d_Lg_code_37 : decode c_Lg_code 37 = .ok (.ireturn, 1) := by decide +kernel
def f_Lg_code_37 (a : Nat) (t0 : Int32) : sn_M := r_I t0
set_option maxHeartbeats 4000000 in
set_option maxRecDepth 100000 in
theorem mono_Lg_code_37 (a : Nat) (t0 : Int32) : sn_Mono (f_Lg_code_37 a t0) := sn_Mono.rI
set_option maxHeartbeats 4000000 in
set_option maxRecDepth 100000 in
theorem s_Lg_code_37 {X : sn_X} (C : sn_Cx X c_Lg_code "SignalNetwork$Leg" (some .int) "code" 1 1 20) (a : Nat) (t0 : Int32) : sn_S X 37 [(0, vA (some a))] [vI t0] (f_Lg_code_37 a t0) := by
  unfold f_Lg_code_37
  exact r_iret C d_Lg_code_37 rfl
def f_Lg_code (a : Nat) : sn_M := n_n 4 (some a) fun a1 => c_I (f_Lg_isSubscriber a1) fun v2 => (if v2 = 0 then g_I 4 1 (some a) fun v3 => g_I 4 2 (some a) fun v4 => f_Lg_code_37 a (((100 : Int32) + ((10 : Int32) * v3)) + v4) else g_I 4 0 (some a) fun v5 => g_I 4 2 (some a) fun v6 => f_Lg_code_37 a (((10 : Int32) * v5) + v6))
set_option maxHeartbeats 4000000 in
set_option maxRecDepth 100000 in
theorem mono_Lg_code (a : Nat) : sn_Mono (f_Lg_code a) := sn_Mono.nn (fun a1 => sn_Mono.cI (mono_Lg_isSubscriber a1) (fun v2 => sn_Mono.ite (sn_Mono.gI (fun v3 => sn_Mono.gI (fun v4 => mono_Lg_code_37 a (((100 : Int32) + ((10 : Int32) * v3)) + v4)))) (sn_Mono.gI (fun v5 => sn_Mono.gI (fun v6 => mono_Lg_code_37 a (((10 : Int32) * v5) + v6))))))
set_option maxHeartbeats 4000000 in
set_option maxRecDepth 100000 in
theorem con_Lg_code (a : Nat) : sn_Con y_Lg_code c_Lg_code 1 (some .int) 1 20 [vA (some a)] (f_Lg_code a) := by
  refine sn_Con.of (by decide +kernel) (by show _ ≤ _; exact Nat.le_of_ble_eq_true rfl) (mono_Lg_code a) (fun X C => ?_)
  show sn_S X 0 [(0, vA (some a))] [] _
  replace C : sn_Cx X c_Lg_code "SignalNetwork$Leg" (some .int) "code" 1 1 20 := C
  unfold f_Lg_code
  refine r_aload_n (q := 1) (i := 0) (pl := 0) C d_Lg_code_0 rfl rfl rfl ?_
  refine r_cvI (q := 4) (As := []) (st := []) (cy := 3) C d_Lg_code_1 rfl Y_Lg_isSubscriber L_Lg_34 I_Lg_isSubscriber Se_Lg_isSubscriber rfl (by decide) rfl (Nat.le_of_ble_eq_true rfl) (Nat.le_of_ble_eq_true rfl) (Nat.le_of_ble_eq_true rfl) rfl (fun a1 => con_Lg_isSubscriber a1) (fun v2 => ?_)
  refine r_if_eq (tgt := 22) (q := 7) C d_Lg_code_4 (by decide) rfl ?_ ?_
  · refine r_bipush (q := 24) (v := 100) C d_Lg_code_22 rfl (by decide) ?_
    refine r_bipush (q := 26) (v := 10) C d_Lg_code_24 rfl (by decide) ?_
    refine r_aload_n (q := 27) (i := 0) (pl := 0) C d_Lg_code_26 rfl rfl rfl ?_
    refine r_gI (q := 30) C d_Lg_code_27 rfl F_Lg_21 rfl (fun v3 => ?_)
    refine r_imul (q := 31) C d_Lg_code_30 rfl ?_
    refine r_iadd (q := 32) C d_Lg_code_31 rfl ?_
    refine r_aload_n (q := 33) (i := 0) (pl := 0) C d_Lg_code_32 rfl rfl rfl ?_
    refine r_gI (q := 36) C d_Lg_code_33 rfl F_Lg_24 rfl (fun v4 => ?_)
    refine r_iadd (q := 37) C d_Lg_code_36 rfl ?_
    exact s_Lg_code_37 C a (((100 : Int32) + ((10 : Int32) * v3)) + v4)
  · refine r_bipush (q := 9) (v := 10) C d_Lg_code_7 rfl (by decide) ?_
    refine r_aload_n (q := 10) (i := 0) (pl := 0) C d_Lg_code_9 rfl rfl rfl ?_
    refine r_gI (q := 13) C d_Lg_code_10 rfl F_Lg_18 rfl (fun v5 => ?_)
    refine r_imul (q := 14) C d_Lg_code_13 rfl ?_
    refine r_aload_n (q := 15) (i := 0) (pl := 0) C d_Lg_code_14 rfl rfl rfl ?_
    refine r_gI (q := 18) C d_Lg_code_15 rfl F_Lg_24 rfl (fun v6 => ?_)
    refine r_iadd (q := 19) C d_Lg_code_18 rfl ?_
    refine r_goto (tgt := 37) C d_Lg_code_19 (by decide) ?_
    exact s_Lg_code_37 C a (((10 : Int32) * v5) + v6)
theorem d_Lg_joinedCode_0 : decode c_Lg_joinedCode 0 = .ok (.aload_n 0, 1) := by decide +kernel
theorem d_Lg_joinedCode_1 : decode c_Lg_joinedCode 1 = .ok (.getfield 38, 3) := by decide +kernel
theorem d_Lg_joinedCode_4 : decode c_Lg_joinedCode 4 = .ok (.ifnonnull 7, 3) := by decide +kernel
theorem d_Lg_joinedCode_7 : decode c_Lg_joinedCode 7 = .ok (.iconst (-1), 1) := by decide +kernel
theorem d_Lg_joinedCode_8 : decode c_Lg_joinedCode 8 = .ok (.goto 10, 3) := by decide +kernel
theorem d_Lg_joinedCode_11 : decode c_Lg_joinedCode 11 = .ok (.aload_n 0, 1) := by decide +kernel
theorem d_Lg_joinedCode_12 : decode c_Lg_joinedCode 12 = .ok (.getfield 38, 3) := by decide +kernel
theorem d_Lg_joinedCode_15 : decode c_Lg_joinedCode 15 = .ok (.invokevirtual 42, 3) := by decide +kernel
theorem d_Lg_joinedCode_18 : decode c_Lg_joinedCode 18 = .ok (.ireturn, 1) := by decide +kernel
def f_Lg_joinedCode_18 (a : Nat) (t0 : Int32) : sn_M := r_I t0
set_option maxHeartbeats 4000000 in
set_option maxRecDepth 100000 in
theorem mono_Lg_joinedCode_18 (a : Nat) (t0 : Int32) : sn_Mono (f_Lg_joinedCode_18 a t0) := sn_Mono.rI
set_option maxHeartbeats 4000000 in
set_option maxRecDepth 100000 in
theorem s_Lg_joinedCode_18 {X : sn_X} (C : sn_Cx X c_Lg_joinedCode "SignalNetwork$Leg" (some .int) "joinedCode" 1 2 40) (a : Nat) (t0 : Int32) : sn_S X 18 [(0, vA (some a))] [vI t0] (f_Lg_joinedCode_18 a t0) := by
  unfold f_Lg_joinedCode_18
  exact r_iret C d_Lg_joinedCode_18 rfl
def f_Lg_joinedCode (a : Nat) : sn_M := g_R 4 4 (some a) fun v1 => (if ¬ v1 = none then g_R 4 4 (some a) fun v2 => n_n 4 v2 fun a3 => c_I (f_Lg_code a3) fun v4 => f_Lg_joinedCode_18 a v4 else f_Lg_joinedCode_18 a (-1 : Int32))
set_option maxHeartbeats 4000000 in
set_option maxRecDepth 100000 in
theorem mono_Lg_joinedCode (a : Nat) : sn_Mono (f_Lg_joinedCode a) := sn_Mono.gR (fun v1 => sn_Mono.ite (sn_Mono.gR (fun v2 => sn_Mono.nn (fun a3 => sn_Mono.cI (mono_Lg_code a3) (fun v4 => mono_Lg_joinedCode_18 a v4)))) (mono_Lg_joinedCode_18 a (-1 : Int32)))
set_option maxHeartbeats 4000000 in
set_option maxRecDepth 100000 in
theorem con_Lg_joinedCode (a : Nat) : sn_Con y_Lg_joinedCode c_Lg_joinedCode 1 (some .int) 2 40 [vA (some a)] (f_Lg_joinedCode a) := by
  refine sn_Con.of (by decide +kernel) (by show _ ≤ _; exact Nat.le_of_ble_eq_true rfl) (mono_Lg_joinedCode a) (fun X C => ?_)
  show sn_S X 0 [(0, vA (some a))] [] _
  replace C : sn_Cx X c_Lg_joinedCode "SignalNetwork$Leg" (some .int) "joinedCode" 1 2 40 := C
  unfold f_Lg_joinedCode
  refine r_aload_n (q := 1) (i := 0) (pl := 0) C d_Lg_joinedCode_0 rfl rfl rfl ?_
  refine r_gR (q := 4) C d_Lg_joinedCode_1 rfl F_Lg_38 rfl (fun v1 => ?_)
  refine r_ifnonnull (tgt := 11) (q := 7) C d_Lg_joinedCode_4 (by decide) rfl ?_ ?_
  · refine r_aload_n (q := 12) (i := 0) (pl := 0) C d_Lg_joinedCode_11 rfl rfl rfl ?_
    refine r_gR (q := 15) C d_Lg_joinedCode_12 rfl F_Lg_38 rfl (fun v2 => ?_)
    refine r_cvI (q := 18) (As := []) (st := []) (cy := 3) C d_Lg_joinedCode_15 rfl Y_Lg_code L_Lg_42 I_Lg_code Se_Lg_code rfl (by decide) rfl (Nat.le_of_ble_eq_true rfl) (Nat.le_of_ble_eq_true rfl) (Nat.le_of_ble_eq_true rfl) rfl (fun a3 => con_Lg_code a3) (fun v4 => ?_)
    exact s_Lg_joinedCode_18 C a v4
  · refine r_iconst (q := 8) (v := -1) C d_Lg_joinedCode_7 rfl (by decide) ?_
    refine r_goto (tgt := 18) C d_Lg_joinedCode_8 (by decide) ?_
    exact s_Lg_joinedCode_18 C a (-1 : Int32)
theorem d_Lg_part_0 : decode c_Lg_part 0 = .ok (.aload_n 0, 1) := by decide +kernel
theorem d_Lg_part_1 : decode c_Lg_part 1 = .ok (.getfield 38, 3) := by decide +kernel
theorem d_Lg_part_4 : decode c_Lg_part 4 = .ok (.astore_n 1, 1) := by decide +kernel
theorem d_Lg_part_5 : decode c_Lg_part 5 = .ok (.aload_n 1, 1) := by decide +kernel
theorem d_Lg_part_6 : decode c_Lg_part 6 = .ok (.ifnull 8, 3) := by decide +kernel
theorem d_Lg_part_9 : decode c_Lg_part 9 = .ok (.aload_n 1, 1) := by decide +kernel
theorem d_Lg_part_10 : decode c_Lg_part 10 = .ok (.aconst_null, 1) := by decide +kernel
theorem d_Lg_part_11 : decode c_Lg_part 11 = .ok (.putfield 38, 3) := by decide +kernel
theorem d_Lg_part_14 : decode c_Lg_part 14 = .ok (.aload_n 0, 1) := by decide +kernel
theorem d_Lg_part_15 : decode c_Lg_part 15 = .ok (.aconst_null, 1) := by decide +kernel
theorem d_Lg_part_16 : decode c_Lg_part 16 = .ok (.putfield 38, 3) := by decide +kernel
theorem d_Lg_part_19 : decode c_Lg_part 19 = .ok (.aload_n 1, 1) := by decide +kernel
theorem d_Lg_part_20 : decode c_Lg_part 20 = .ok (.areturn, 1) := by decide +kernel
def f_Lg_part_14 (a : Nat) (r1 : Option Nat) : sn_M := p_R 4 4 (some a) none (r_R r1)
set_option maxHeartbeats 4000000 in
set_option maxRecDepth 100000 in
theorem mono_Lg_part_14 (a : Nat) (r1 : Option Nat) : sn_Mono (f_Lg_part_14 a r1) := sn_Mono.pR (sn_Mono.rR)
set_option maxHeartbeats 4000000 in
set_option maxRecDepth 100000 in
theorem s_Lg_part_14 {X : sn_X} (C : sn_Cx X c_Lg_part "SignalNetwork$Leg" (some (.object "SignalNetwork$Leg")) "part" 2 0 0) (a : Nat) (r1 : Option Nat) : sn_S X 14 [(0, vA (some a)), (1, vA r1)] [] (f_Lg_part_14 a r1) := by
  unfold f_Lg_part_14
  refine r_aload_n (q := 15) (i := 0) (pl := 0) C d_Lg_part_14 rfl rfl rfl ?_
  refine r_null (q := 16) C d_Lg_part_15 rfl ?_
  refine r_pR (q := 19) C d_Lg_part_16 rfl F_Lg_38 rfl (Or.inl ⟨_, rfl⟩) (Or.inl rfl) ?_
  refine r_aload_n (q := 20) (i := 1) (pl := 1) C d_Lg_part_19 rfl rfl rfl ?_
  exact r_aret C d_Lg_part_20 rfl (Or.inl ⟨_, rfl⟩)
def f_Lg_part (a : Nat) : sn_M := g_R 4 4 (some a) fun v1 => (if v1 = none then f_Lg_part_14 a v1 else p_R 4 4 v1 none (f_Lg_part_14 a v1))
set_option maxHeartbeats 4000000 in
set_option maxRecDepth 100000 in
theorem mono_Lg_part (a : Nat) : sn_Mono (f_Lg_part a) := sn_Mono.gR (fun v1 => sn_Mono.ite (mono_Lg_part_14 a v1) (sn_Mono.pR (mono_Lg_part_14 a v1)))
set_option maxHeartbeats 4000000 in
set_option maxRecDepth 100000 in
theorem con_Lg_part (a : Nat) : sn_Con y_Lg_part c_Lg_part 2 (some (.object "SignalNetwork$Leg")) 0 0 [vA (some a)] (f_Lg_part a) := by
  refine sn_Con.of (by decide +kernel) (by show _ ≤ _; exact Nat.le_of_ble_eq_true rfl) (mono_Lg_part a) (fun X C => ?_)
  show sn_S X 0 [(0, vA (some a))] [] _
  replace C : sn_Cx X c_Lg_part "SignalNetwork$Leg" (some (.object "SignalNetwork$Leg")) "part" 2 0 0 := C
  unfold f_Lg_part
  refine r_aload_n (q := 1) (i := 0) (pl := 0) C d_Lg_part_0 rfl rfl rfl ?_
  refine r_gR (q := 4) C d_Lg_part_1 rfl F_Lg_38 rfl (fun v1 => ?_)
  refine r_astore_n (q := 5) (i := 1) (lv' := [(1, vA v1), (0, vA (some a))]) C d_Lg_part_4 rfl rfl (by decide) rfl ?_
  refine r_aload_n (q := 6) (i := 1) (pl := 0) C d_Lg_part_5 rfl rfl rfl ?_
  refine r_ifnull (tgt := 14) (q := 9) C d_Lg_part_6 (by decide) rfl ?_ ?_
  · refine r_sub (lv' := [(0, vA (some a)), (1, vA v1)]) [1, 0] rfl ?_
    exact s_Lg_part_14 C a v1
  · refine r_aload_n (q := 10) (i := 1) (pl := 0) C d_Lg_part_9 rfl rfl rfl ?_
    refine r_null (q := 11) C d_Lg_part_10 rfl ?_
    refine r_pR (q := 14) C d_Lg_part_11 rfl F_Lg_38 rfl (Or.inl ⟨_, rfl⟩) (Or.inl rfl) ?_
    refine r_sub (lv' := [(0, vA (some a)), (1, vA v1)]) [1, 0] rfl ?_
    exact s_Lg_part_14 C a v1
theorem d_Lg_leaveCall_0 : decode c_Lg_leaveCall 0 = .ok (.aload_n 0, 1) := by decide +kernel
theorem d_Lg_leaveCall_1 : decode c_Lg_leaveCall 1 = .ok (.iload_n 1, 1) := by decide +kernel
theorem d_Lg_leaveCall_2 : decode c_Lg_leaveCall 2 = .ok (.putfield 11, 3) := by decide +kernel
theorem d_Lg_leaveCall_5 : decode c_Lg_leaveCall 5 = .ok (.aload_n 0, 1) := by decide +kernel
theorem d_Lg_leaveCall_6 : decode c_Lg_leaveCall 6 = .ok (.iconst 0, 1) := by decide +kernel
theorem d_Lg_leaveCall_7 : decode c_Lg_leaveCall 7 = .ok (.putfield 46, 3) := by decide +kernel
theorem d_Lg_leaveCall_10 : decode c_Lg_leaveCall 10 = .ok (.aload_n 0, 1) := by decide +kernel
theorem d_Lg_leaveCall_11 : decode c_Lg_leaveCall 11 = .ok (.iconst 0, 1) := by decide +kernel
theorem d_Lg_leaveCall_12 : decode c_Lg_leaveCall 12 = .ok (.putfield 49, 3) := by decide +kernel
theorem d_Lg_leaveCall_15 : decode c_Lg_leaveCall 15 = .ok (.aload_n 0, 1) := by decide +kernel
theorem d_Lg_leaveCall_16 : decode c_Lg_leaveCall 16 = .ok (.iconst (-1), 1) := by decide +kernel
theorem d_Lg_leaveCall_17 : decode c_Lg_leaveCall 17 = .ok (.putfield 15, 3) := by decide +kernel
theorem d_Lg_leaveCall_20 : decode c_Lg_leaveCall 20 = .ok (.aload_n 0, 1) := by decide +kernel
theorem d_Lg_leaveCall_21 : decode c_Lg_leaveCall 21 = .ok (.iconst 0, 1) := by decide +kernel
theorem d_Lg_leaveCall_22 : decode c_Lg_leaveCall 22 = .ok (.putfield 52, 3) := by decide +kernel
theorem d_Lg_leaveCall_25 : decode c_Lg_leaveCall 25 = .ok (.return_, 1) := by decide +kernel
def f_Lg_leaveCall (a : Nat) (x1 : Int32) : sn_M := p_I 4 3 (some a) x1 (p_I 4 5 (some a) (0 : Int32) (p_I 4 6 (some a) (0 : Int32) (p_I 4 9 (some a) (-1 : Int32) (p_I 4 11 (some a) (0 : Int32) (r_V)))))
set_option maxHeartbeats 4000000 in
set_option maxRecDepth 100000 in
theorem mono_Lg_leaveCall (a : Nat) (x1 : Int32) : sn_Mono (f_Lg_leaveCall a x1) := sn_Mono.pI (sn_Mono.pI (sn_Mono.pI (sn_Mono.pI (sn_Mono.pI (sn_Mono.rV)))))
set_option maxHeartbeats 4000000 in
set_option maxRecDepth 100000 in
theorem con_Lg_leaveCall (a : Nat) (x1 : Int32) : sn_Con y_Lg_leaveCall c_Lg_leaveCall 2 none 0 0 [vA (some a), vI x1] (f_Lg_leaveCall a x1) := by
  refine sn_Con.of (by decide +kernel) (by show _ ≤ _; exact Nat.le_of_ble_eq_true rfl) (mono_Lg_leaveCall a x1) (fun X C => ?_)
  show sn_S X 0 [(0, vA (some a)), (1, vI x1)] [] _
  replace C : sn_Cx X c_Lg_leaveCall "SignalNetwork$Leg" none "leaveCall" 2 0 0 := C
  unfold f_Lg_leaveCall
  refine r_aload_n (q := 1) (i := 0) (pl := 0) C d_Lg_leaveCall_0 rfl rfl rfl ?_
  refine r_iload_n (q := 2) (i := 1) (pl := 1) C d_Lg_leaveCall_1 rfl rfl rfl ?_
  refine r_pI (q := 5) C d_Lg_leaveCall_2 rfl F_Lg_11 rfl rfl (Or.inl rfl) ?_
  refine r_aload_n (q := 6) (i := 0) (pl := 0) C d_Lg_leaveCall_5 rfl rfl rfl ?_
  refine r_iconst (q := 7) (v := 0) C d_Lg_leaveCall_6 rfl (by decide) ?_
  refine r_pI (q := 10) C d_Lg_leaveCall_7 rfl F_Lg_46 rfl rfl (Or.inl rfl) ?_
  refine r_aload_n (q := 11) (i := 0) (pl := 0) C d_Lg_leaveCall_10 rfl rfl rfl ?_
  refine r_iconst (q := 12) (v := 0) C d_Lg_leaveCall_11 rfl (by decide) ?_
  refine r_pI (q := 15) C d_Lg_leaveCall_12 rfl F_Lg_49 rfl rfl (Or.inl rfl) ?_
  refine r_aload_n (q := 16) (i := 0) (pl := 0) C d_Lg_leaveCall_15 rfl rfl rfl ?_
  refine r_iconst (q := 17) (v := -1) C d_Lg_leaveCall_16 rfl (by decide) ?_
  refine r_pI (q := 20) C d_Lg_leaveCall_17 rfl F_Lg_15 rfl rfl (Or.inl rfl) ?_
  refine r_aload_n (q := 21) (i := 0) (pl := 0) C d_Lg_leaveCall_20 rfl rfl rfl ?_
  refine r_iconst (q := 22) (v := 0) C d_Lg_leaveCall_21 rfl (by decide) ?_
  refine r_pI (q := 25) C d_Lg_leaveCall_22 rfl F_Lg_52 rfl rfl (Or.inl rfl) ?_
  exact r_vret C d_Lg_leaveCall_25 rfl
theorem d_Lg_tellCircuit_0 : decode c_Lg_tellCircuit 0 = .ok (.iload_n 1, 1) := by decide +kernel
theorem d_Lg_tellCircuit_1 : decode c_Lg_tellCircuit 1 = .ok (.tableswitch 107 0 7 #[47, 52, 61, 74, 87, 92, 97, 102], 47) := by decide +kernel
theorem d_Lg_tellCircuit_48 : decode c_Lg_tellCircuit 48 = .ok (.aload_n 0, 1) := by decide +kernel
theorem d_Lg_tellCircuit_49 : decode c_Lg_tellCircuit 49 = .ok (.getfield 11, 3) := by decide +kernel
theorem d_Lg_tellCircuit_52 : decode c_Lg_tellCircuit 52 = .ok (.ireturn, 1) := by decide +kernel
theorem d_Lg_tellCircuit_53 : decode c_Lg_tellCircuit 53 = .ok (.aload_n 2, 1) := by decide +kernel
theorem d_Lg_tellCircuit_54 : decode c_Lg_tellCircuit 54 = .ok (.aload_n 0, 1) := by decide +kernel
theorem d_Lg_tellCircuit_55 : decode c_Lg_tellCircuit 55 = .ok (.getfield 46, 3) := by decide +kernel
theorem d_Lg_tellCircuit_58 : decode c_Lg_tellCircuit 58 = .ok (.invokevirtual 55, 3) := by decide +kernel
theorem d_Lg_tellCircuit_61 : decode c_Lg_tellCircuit 61 = .ok (.ireturn, 1) := by decide +kernel
theorem d_Lg_tellCircuit_62 : decode c_Lg_tellCircuit 62 = .ok (.aload_n 0, 1) := by decide +kernel
theorem d_Lg_tellCircuit_63 : decode c_Lg_tellCircuit 63 = .ok (.getfield 27, 3) := by decide +kernel
theorem d_Lg_tellCircuit_66 : decode c_Lg_tellCircuit 66 = .ok (.ifCond .eq 7, 3) := by decide +kernel
theorem d_Lg_tellCircuit_69 : decode c_Lg_tellCircuit 69 = .ok (.iconst 1, 1) := by decide +kernel
theorem d_Lg_tellCircuit_70 : decode c_Lg_tellCircuit 70 = .ok (.goto 4, 3) := by decide +kernel
theorem d_Lg_tellCircuit_73 : decode c_Lg_tellCircuit 73 = .ok (.iconst 0, 1) := by decide +kernel
theorem d_Lg_tellCircuit_74 : decode c_Lg_tellCircuit 74 = .ok (.ireturn, 1) := by decide +kernel
theorem d_Lg_tellCircuit_75 : decode c_Lg_tellCircuit 75 = .ok (.aload_n 0, 1) := by decide +kernel
theorem d_Lg_tellCircuit_76 : decode c_Lg_tellCircuit 76 = .ok (.getfield 31, 3) := by decide +kernel
theorem d_Lg_tellCircuit_79 : decode c_Lg_tellCircuit 79 = .ok (.ifCond .eq 7, 3) := by decide +kernel
theorem d_Lg_tellCircuit_82 : decode c_Lg_tellCircuit 82 = .ok (.iconst 1, 1) := by decide +kernel
theorem d_Lg_tellCircuit_83 : decode c_Lg_tellCircuit 83 = .ok (.goto 4, 3) := by decide +kernel
theorem d_Lg_tellCircuit_86 : decode c_Lg_tellCircuit 86 = .ok (.iconst 0, 1) := by decide +kernel
theorem d_Lg_tellCircuit_87 : decode c_Lg_tellCircuit 87 = .ok (.ireturn, 1) := by decide +kernel
theorem d_Lg_tellCircuit_88 : decode c_Lg_tellCircuit 88 = .ok (.aload_n 0, 1) := by decide +kernel
theorem d_Lg_tellCircuit_89 : decode c_Lg_tellCircuit 89 = .ok (.invokevirtual 61, 3) := by decide +kernel
theorem d_Lg_tellCircuit_92 : decode c_Lg_tellCircuit 92 = .ok (.ireturn, 1) := by decide +kernel
theorem d_Lg_tellCircuit_93 : decode c_Lg_tellCircuit 93 = .ok (.aload_n 0, 1) := by decide +kernel
theorem d_Lg_tellCircuit_94 : decode c_Lg_tellCircuit 94 = .ok (.getfield 15, 3) := by decide +kernel
theorem d_Lg_tellCircuit_97 : decode c_Lg_tellCircuit 97 = .ok (.ireturn, 1) := by decide +kernel
theorem d_Lg_tellCircuit_98 : decode c_Lg_tellCircuit 98 = .ok (.aload_n 0, 1) := by decide +kernel
theorem d_Lg_tellCircuit_99 : decode c_Lg_tellCircuit 99 = .ok (.getfield 64, 3) := by decide +kernel
theorem d_Lg_tellCircuit_102 : decode c_Lg_tellCircuit 102 = .ok (.ireturn, 1) := by decide +kernel
theorem d_Lg_tellCircuit_103 : decode c_Lg_tellCircuit 103 = .ok (.aload_n 0, 1) := by decide +kernel
theorem d_Lg_tellCircuit_104 : decode c_Lg_tellCircuit 104 = .ok (.getfield 52, 3) := by decide +kernel
theorem d_Lg_tellCircuit_107 : decode c_Lg_tellCircuit 107 = .ok (.ireturn, 1) := by decide +kernel
theorem d_Lg_tellCircuit_108 : decode c_Lg_tellCircuit 108 = .ok (.iconst (-1), 1) := by decide +kernel
theorem d_Lg_tellCircuit_109 : decode c_Lg_tellCircuit 109 = .ok (.ireturn, 1) := by decide +kernel
def f_Lg_tellCircuit_87 (a : Nat) (t0 : Int32) : sn_M := r_I t0
set_option maxHeartbeats 4000000 in
set_option maxRecDepth 100000 in
theorem mono_Lg_tellCircuit_87 (a : Nat) (t0 : Int32) : sn_Mono (f_Lg_tellCircuit_87 a t0) := sn_Mono.rI
set_option maxHeartbeats 4000000 in
set_option maxRecDepth 100000 in
theorem s_Lg_tellCircuit_87 {X : sn_X} (C : sn_Cx X c_Lg_tellCircuit "SignalNetwork$Leg" (some .int) "tellCircuit" 3 3 60) (a : Nat) (t0 : Int32) : sn_S X 87 [(0, vA (some a))] [vI t0] (f_Lg_tellCircuit_87 a t0) := by
  unfold f_Lg_tellCircuit_87
  exact r_iret C d_Lg_tellCircuit_87 rfl
def f_Lg_tellCircuit_74 (a : Nat) (t0 : Int32) : sn_M := r_I t0
set_option maxHeartbeats 4000000 in
set_option maxRecDepth 100000 in
theorem mono_Lg_tellCircuit_74 (a : Nat) (t0 : Int32) : sn_Mono (f_Lg_tellCircuit_74 a t0) := sn_Mono.rI
set_option maxHeartbeats 4000000 in
set_option maxRecDepth 100000 in
theorem s_Lg_tellCircuit_74 {X : sn_X} (C : sn_Cx X c_Lg_tellCircuit "SignalNetwork$Leg" (some .int) "tellCircuit" 3 3 60) (a : Nat) (t0 : Int32) : sn_S X 74 [(0, vA (some a))] [vI t0] (f_Lg_tellCircuit_74 a t0) := by
  unfold f_Lg_tellCircuit_74
  exact r_iret C d_Lg_tellCircuit_74 rfl
def f_Lg_tellCircuit (a : Nat) (x1 : Int32) (r2 : Option Nat) : sn_M := (sn_sw x1 [0, 1, 2, 3, 4, 5, 6, 7] [(g_I 4 3 (some a) fun v1 => r_I v1), (g_I 4 5 (some a) fun v2 => n_n 1 r2 fun a3 => c_I (f_Ck_left a3 v2) fun v4 => r_I v4), (g_I 4 7 (some a) fun v5 => (if v5 = 0 then f_Lg_tellCircuit_74 a (0 : Int32) else f_Lg_tellCircuit_74 a (1 : Int32))), (g_I 4 8 (some a) fun v6 => (if v6 = 0 then f_Lg_tellCircuit_87 a (0 : Int32) else f_Lg_tellCircuit_87 a (1 : Int32))), (n_n 4 (some a) fun a7 => c_I (f_Lg_joinedCode a7) fun v8 => r_I v8), (g_I 4 9 (some a) fun v9 => r_I v9), (g_I 4 10 (some a) fun v10 => r_I v10), (g_I 4 11 (some a) fun v11 => r_I v11)] (r_I (-1 : Int32)))
set_option maxHeartbeats 4000000 in
set_option maxRecDepth 100000 in
theorem mono_Lg_tellCircuit (a : Nat) (x1 : Int32) (r2 : Option Nat) : sn_Mono (f_Lg_tellCircuit a x1 r2) := sn_sw_mono (sn_Mono.rI) _ _ (List.forall_mem_cons.mpr ⟨sn_Mono.gI (fun v1 => sn_Mono.rI), (List.forall_mem_cons.mpr ⟨sn_Mono.gI (fun v2 => sn_Mono.nn (fun a3 => sn_Mono.cI (mono_Ck_left a3 v2) (fun v4 => sn_Mono.rI))), (List.forall_mem_cons.mpr ⟨sn_Mono.gI (fun v5 => sn_Mono.ite (mono_Lg_tellCircuit_74 a (0 : Int32)) (mono_Lg_tellCircuit_74 a (1 : Int32))), (List.forall_mem_cons.mpr ⟨sn_Mono.gI (fun v6 => sn_Mono.ite (mono_Lg_tellCircuit_87 a (0 : Int32)) (mono_Lg_tellCircuit_87 a (1 : Int32))), (List.forall_mem_cons.mpr ⟨sn_Mono.nn (fun a7 => sn_Mono.cI (mono_Lg_joinedCode a7) (fun v8 => sn_Mono.rI)), (List.forall_mem_cons.mpr ⟨sn_Mono.gI (fun v9 => sn_Mono.rI), (List.forall_mem_cons.mpr ⟨sn_Mono.gI (fun v10 => sn_Mono.rI), (List.forall_mem_cons.mpr ⟨sn_Mono.gI (fun v11 => sn_Mono.rI), (fun _ h => absurd h List.not_mem_nil)⟩)⟩)⟩)⟩)⟩)⟩)⟩)⟩)
set_option maxHeartbeats 4000000 in
set_option maxRecDepth 100000 in
theorem con_Lg_tellCircuit (a : Nat) (x1 : Int32) (r2 : Option Nat) : sn_Con y_Lg_tellCircuit c_Lg_tellCircuit 3 (some .int) 3 60 [vA (some a), vI x1, vA r2] (f_Lg_tellCircuit a x1 r2) := by
  refine sn_Con.of (by decide +kernel) (by show _ ≤ _; exact Nat.le_of_ble_eq_true rfl) (mono_Lg_tellCircuit a x1 r2) (fun X C => ?_)
  show sn_S X 0 [(0, vA (some a)), (1, vI x1), (2, vA r2)] [] _
  replace C : sn_Cx X c_Lg_tellCircuit "SignalNetwork$Leg" (some .int) "tellCircuit" 3 3 60 := C
  unfold f_Lg_tellCircuit
  refine r_iload_n (q := 1) (i := 1) (pl := 1) C d_Lg_tellCircuit_0 rfl rfl rfl ?_
  refine r_table (tD := 108) (ks := [0, 1, 2, 3, 4, 5, 6, 7]) (ts := [48, 53, 62, 75, 88, 93, 98, 103]) C d_Lg_tellCircuit_1 (by decide) (by decide) rfl ?_ ⟨?_, ?_, ?_, ?_, ?_, ?_, ?_, ?_, trivial⟩
  · refine r_iconst (q := 109) (v := -1) C d_Lg_tellCircuit_108 rfl (by decide) ?_
    exact r_iret C d_Lg_tellCircuit_109 rfl
  · refine r_aload_n (q := 49) (i := 0) (pl := 0) C d_Lg_tellCircuit_48 rfl rfl rfl ?_
    refine r_gI (q := 52) C d_Lg_tellCircuit_49 rfl F_Lg_11 rfl (fun v1 => ?_)
    exact r_iret C d_Lg_tellCircuit_52 rfl
  · refine r_aload_n (q := 54) (i := 2) (pl := 2) C d_Lg_tellCircuit_53 rfl rfl rfl ?_
    refine r_aload_n (q := 55) (i := 0) (pl := 0) C d_Lg_tellCircuit_54 rfl rfl rfl ?_
    refine r_gI (q := 58) C d_Lg_tellCircuit_55 rfl F_Lg_46 rfl (fun v2 => ?_)
    refine r_cvI (q := 61) (As := [vI v2]) (st := []) (cy := 0) C d_Lg_tellCircuit_58 rfl Y_Ck_left L_Lg_55 I_Ck_left Se_Ck_left rfl (by decide) rfl (Nat.le_of_ble_eq_true rfl) (Nat.le_of_ble_eq_true rfl) (Nat.le_of_ble_eq_true rfl) rfl (fun a3 => con_Ck_left a3 v2) (fun v4 => ?_)
    exact r_iret C d_Lg_tellCircuit_61 rfl
  · refine r_aload_n (q := 63) (i := 0) (pl := 0) C d_Lg_tellCircuit_62 rfl rfl rfl ?_
    refine r_gI (q := 66) C d_Lg_tellCircuit_63 rfl F_Lg_27 rfl (fun v5 => ?_)
    refine r_if_eq (tgt := 73) (q := 69) C d_Lg_tellCircuit_66 (by decide) rfl ?_ ?_
    · refine r_iconst (q := 74) (v := 0) C d_Lg_tellCircuit_73 rfl (by decide) ?_
      refine r_sub (lv' := [(0, vA (some a))]) [0] rfl ?_
      exact s_Lg_tellCircuit_74 C a (0 : Int32)
    · refine r_iconst (q := 70) (v := 1) C d_Lg_tellCircuit_69 rfl (by decide) ?_
      refine r_goto (tgt := 74) C d_Lg_tellCircuit_70 (by decide) ?_
      refine r_sub (lv' := [(0, vA (some a))]) [0] rfl ?_
      exact s_Lg_tellCircuit_74 C a (1 : Int32)
  · refine r_aload_n (q := 76) (i := 0) (pl := 0) C d_Lg_tellCircuit_75 rfl rfl rfl ?_
    refine r_gI (q := 79) C d_Lg_tellCircuit_76 rfl F_Lg_31 rfl (fun v6 => ?_)
    refine r_if_eq (tgt := 86) (q := 82) C d_Lg_tellCircuit_79 (by decide) rfl ?_ ?_
    · refine r_iconst (q := 87) (v := 0) C d_Lg_tellCircuit_86 rfl (by decide) ?_
      refine r_sub (lv' := [(0, vA (some a))]) [0] rfl ?_
      exact s_Lg_tellCircuit_87 C a (0 : Int32)
    · refine r_iconst (q := 83) (v := 1) C d_Lg_tellCircuit_82 rfl (by decide) ?_
      refine r_goto (tgt := 87) C d_Lg_tellCircuit_83 (by decide) ?_
      refine r_sub (lv' := [(0, vA (some a))]) [0] rfl ?_
      exact s_Lg_tellCircuit_87 C a (1 : Int32)
  · refine r_aload_n (q := 89) (i := 0) (pl := 0) C d_Lg_tellCircuit_88 rfl rfl rfl ?_
    refine r_cvI (q := 92) (As := []) (st := []) (cy := 3) C d_Lg_tellCircuit_89 rfl Y_Lg_joinedCode L_Lg_61 I_Lg_joinedCode Se_Lg_joinedCode rfl (by decide) rfl (Nat.le_of_ble_eq_true rfl) (Nat.le_of_ble_eq_true rfl) (Nat.le_of_ble_eq_true rfl) rfl (fun a7 => con_Lg_joinedCode a7) (fun v8 => ?_)
    exact r_iret C d_Lg_tellCircuit_92 rfl
  · refine r_aload_n (q := 94) (i := 0) (pl := 0) C d_Lg_tellCircuit_93 rfl rfl rfl ?_
    refine r_gI (q := 97) C d_Lg_tellCircuit_94 rfl F_Lg_15 rfl (fun v9 => ?_)
    exact r_iret C d_Lg_tellCircuit_97 rfl
  · refine r_aload_n (q := 99) (i := 0) (pl := 0) C d_Lg_tellCircuit_98 rfl rfl rfl ?_
    refine r_gI (q := 102) C d_Lg_tellCircuit_99 rfl F_Lg_64 rfl (fun v10 => ?_)
    exact r_iret C d_Lg_tellCircuit_102 rfl
  · refine r_aload_n (q := 104) (i := 0) (pl := 0) C d_Lg_tellCircuit_103 rfl rfl rfl ?_
    refine r_gI (q := 107) C d_Lg_tellCircuit_104 rfl F_Lg_52 rfl (fun v11 => ?_)
    exact r_iret C d_Lg_tellCircuit_107 rfl
