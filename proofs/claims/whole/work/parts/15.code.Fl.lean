theorem d_Fl_init_0 : decode c_Fl_init 0 = .ok (.aload_n 0, 1) := by decide +kernel
theorem d_Fl_init_1 : decode c_Fl_init 1 = .ok (.invokespecial 3, 3) := by decide +kernel
theorem d_Fl_init_4 : decode c_Fl_init 4 = .ok (.aload_n 0, 1) := by decide +kernel
theorem d_Fl_init_5 : decode c_Fl_init 5 = .ok (.iconst 0, 1) := by decide +kernel
theorem d_Fl_init_6 : decode c_Fl_init 6 = .ok (.putfield 11, 3) := by decide +kernel
theorem d_Fl_init_9 : decode c_Fl_init 9 = .ok (.aload_n 0, 1) := by decide +kernel
theorem d_Fl_init_10 : decode c_Fl_init 10 = .ok (.new 15, 3) := by decide +kernel
theorem d_Fl_init_13 : decode c_Fl_init 13 = .ok (.dup, 1) := by decide +kernel
theorem d_Fl_init_14 : decode c_Fl_init 14 = .ok (.bipush 64, 2) := by decide +kernel
theorem d_Fl_init_16 : decode c_Fl_init 16 = .ok (.invokespecial 17, 3) := by decide +kernel
theorem d_Fl_init_19 : decode c_Fl_init 19 = .ok (.putfield 20, 3) := by decide +kernel
theorem d_Fl_init_22 : decode c_Fl_init 22 = .ok (.aload_n 0, 1) := by decide +kernel
theorem d_Fl_init_23 : decode c_Fl_init 23 = .ok (.iload_n 1, 1) := by decide +kernel
theorem d_Fl_init_24 : decode c_Fl_init 24 = .ok (.putfield 24, 3) := by decide +kernel
theorem d_Fl_init_27 : decode c_Fl_init 27 = .ok (.return_, 1) := by decide +kernel
def f_Fl_init (a : Nat) (x1 : Int32) : sn_M := p_I 3 2 (some a) (0 : Int32) (n_O 6 3 fun v1 => n_n 6 v1 fun o2 => c_V (f_Qu_init o2 (64 : Int32)) (p_R 3 6 (some a) v1 (p_I 3 0 (some a) x1 (r_V))))
set_option maxHeartbeats 4000000 in
set_option maxRecDepth 100000 in
theorem mono_Fl_init (a : Nat) (x1 : Int32) : sn_Mono (f_Fl_init a x1) := sn_Mono.pI (sn_Mono.nO (fun v1 => sn_Mono.nn (fun o2 => sn_Mono.cV (mono_Qu_init o2 (64 : Int32)) (sn_Mono.pR (sn_Mono.pI (sn_Mono.rV))))))
set_option maxHeartbeats 4000000 in
set_option maxRecDepth 100000 in
theorem con_Fl_init (a : Nat) (x1 : Int32) : sn_Con y_Fl_init c_Fl_init 2 none 2 42 [vA (some a), vI x1] (f_Fl_init a x1) := by
  refine sn_Con.of (by decide +kernel) (by show _ ≤ _; exact Nat.le_of_ble_eq_true rfl) (mono_Fl_init a x1) (fun X C => ?_)
  show sn_S X 0 [(0, vA (some a)), (1, vI x1)] [] _
  replace C : sn_Cx X c_Fl_init "SignalNetwork$Flow" none "<init>" 2 2 42 := C
  unfold f_Fl_init
  refine r_aload_n (q := 1) (i := 0) (pl := 0) C d_Fl_init_0 rfl rfl rfl ?_
  refine r_objInit (q := 4) C d_Fl_init_1 rfl LO_Fl_3 W_oi W_oc (by decide) (by decide) a rfl ?_
  refine r_aload_n (q := 5) (i := 0) (pl := 0) C d_Fl_init_4 rfl rfl rfl ?_
  refine r_iconst (q := 6) (v := 0) C d_Fl_init_5 rfl (by decide) ?_
  refine r_pI (q := 9) C d_Fl_init_6 rfl F_Fl_11 rfl rfl (Or.inl rfl) ?_
  refine r_aload_n (q := 10) (i := 0) (pl := 0) C d_Fl_init_9 rfl rfl rfl ?_
  refine r_new (q := 13) C d_Fl_init_10 rfl CF6 C_Fl_15 In_Qu Ii_Qu (fun v1 => ?_)
  refine r_dup (q := 14) C d_Fl_init_13 rfl rfl ?_
  refine r_bipush (q := 16) (v := 64) C d_Fl_init_14 rfl (by decide) ?_
  refine r_ciV (q := 19) (As := [vI (64 : Int32)]) (st := [vA v1, vA (some a)]) (cy := 5) C d_Fl_init_16 rfl Y_Qu_init L_Fl_17 I_Qu_init rfl rfl rfl (Nat.le_of_ble_eq_true rfl) (Nat.le_of_ble_eq_true rfl) (Nat.le_of_ble_eq_true rfl) rfl (fun o2 => con_Qu_init o2 (64 : Int32)) ?_
  refine r_pR (q := 22) C d_Fl_init_19 rfl F_Fl_20 rfl (Or.inl ⟨_, rfl⟩) (Or.inr ⟨rfl, _, _, rfl⟩) ?_
  refine r_aload_n (q := 23) (i := 0) (pl := 0) C d_Fl_init_22 rfl rfl rfl ?_
  refine r_iload_n (q := 24) (i := 1) (pl := 1) C d_Fl_init_23 rfl rfl rfl ?_
  refine r_pI (q := 27) C d_Fl_init_24 rfl F_Fl_24 rfl rfl (Or.inr ⟨rfl, _, _, rfl⟩) ?_
  exact r_vret C d_Fl_init_27 rfl
theorem d_Fl_isOpen_0 : decode c_Fl_isOpen 0 = .ok (.aload_n 0, 1) := by decide +kernel
theorem d_Fl_isOpen_1 : decode c_Fl_isOpen 1 = .ok (.getfield 27, 3) := by decide +kernel
theorem d_Fl_isOpen_4 : decode c_Fl_isOpen 4 = .ok (.ifnonnull 10, 3) := by decide +kernel
theorem d_Fl_isOpen_7 : decode c_Fl_isOpen 7 = .ok (.aload_n 0, 1) := by decide +kernel
theorem d_Fl_isOpen_8 : decode c_Fl_isOpen 8 = .ok (.getfield 11, 3) := by decide +kernel
theorem d_Fl_isOpen_11 : decode c_Fl_isOpen 11 = .ok (.ifCond .eq 7, 3) := by decide +kernel
theorem d_Fl_isOpen_14 : decode c_Fl_isOpen 14 = .ok (.iconst 1, 1) := by decide +kernel
theorem d_Fl_isOpen_15 : decode c_Fl_isOpen 15 = .ok (.goto 4, 3) := by decide +kernel
theorem d_Fl_isOpen_18 : decode c_Fl_isOpen 18 = .ok (.iconst 0, 1) := by decide +kernel
theorem d_Fl_isOpen_19 : decode c_Fl_isOpen 19 = .ok (.ireturn, 1) := by decide +kernel
def f_Fl_isOpen_19 (a : Nat) (t0 : Int32) : sn_M := r_Z t0
set_option maxHeartbeats 4000000 in
set_option maxRecDepth 100000 in
theorem mono_Fl_isOpen_19 (a : Nat) (t0 : Int32) : sn_Mono (f_Fl_isOpen_19 a t0) := sn_Mono.rZ
set_option maxHeartbeats 4000000 in
set_option maxRecDepth 100000 in
theorem s_Fl_isOpen_19 {X : sn_X} (C : sn_Cx X c_Fl_isOpen "SignalNetwork$Flow" (some .boolean) "isOpen" 1 0 0) (a : Nat) (t0 : Int32) : sn_S X 19 [(0, vA (some a))] [vI t0] (f_Fl_isOpen_19 a t0) := by
  unfold f_Fl_isOpen_19
  exact r_zret C d_Fl_isOpen_19 rfl
def f_Fl_isOpen_14 (a : Nat) : sn_M := f_Fl_isOpen_19 a (1 : Int32)
set_option maxHeartbeats 4000000 in
set_option maxRecDepth 100000 in
theorem mono_Fl_isOpen_14 (a : Nat) : sn_Mono (f_Fl_isOpen_14 a) := mono_Fl_isOpen_19 a (1 : Int32)
set_option maxHeartbeats 4000000 in
set_option maxRecDepth 100000 in
theorem s_Fl_isOpen_14 {X : sn_X} (C : sn_Cx X c_Fl_isOpen "SignalNetwork$Flow" (some .boolean) "isOpen" 1 0 0) (a : Nat) : sn_S X 14 [(0, vA (some a))] [] (f_Fl_isOpen_14 a) := by
  unfold f_Fl_isOpen_14
  refine r_iconst (q := 15) (v := 1) C d_Fl_isOpen_14 rfl (by decide) ?_
  refine r_goto (tgt := 19) C d_Fl_isOpen_15 (by decide) ?_
  exact s_Fl_isOpen_19 C a (1 : Int32)
def f_Fl_isOpen (a : Nat) : sn_M := g_R 3 1 (some a) fun v1 => (if ¬ v1 = none then f_Fl_isOpen_14 a else g_I 3 2 (some a) fun v2 => (if v2 = 0 then f_Fl_isOpen_19 a (0 : Int32) else f_Fl_isOpen_14 a))
set_option maxHeartbeats 4000000 in
set_option maxRecDepth 100000 in
theorem mono_Fl_isOpen (a : Nat) : sn_Mono (f_Fl_isOpen a) := sn_Mono.gR (fun v1 => sn_Mono.ite (mono_Fl_isOpen_14 a) (sn_Mono.gI (fun v2 => sn_Mono.ite (mono_Fl_isOpen_19 a (0 : Int32)) (mono_Fl_isOpen_14 a))))
set_option maxHeartbeats 4000000 in
set_option maxRecDepth 100000 in
theorem con_Fl_isOpen (a : Nat) : sn_Con y_Fl_isOpen c_Fl_isOpen 1 (some .boolean) 0 0 [vA (some a)] (f_Fl_isOpen a) := by
  refine sn_Con.of (by decide +kernel) (by show _ ≤ _; exact Nat.le_of_ble_eq_true rfl) (mono_Fl_isOpen a) (fun X C => ?_)
  show sn_S X 0 [(0, vA (some a))] [] _
  replace C : sn_Cx X c_Fl_isOpen "SignalNetwork$Flow" (some .boolean) "isOpen" 1 0 0 := C
  unfold f_Fl_isOpen
  refine r_aload_n (q := 1) (i := 0) (pl := 0) C d_Fl_isOpen_0 rfl rfl rfl ?_
  refine r_gR (q := 4) C d_Fl_isOpen_1 rfl F_Fl_27 rfl (fun v1 => ?_)
  refine r_ifnonnull (tgt := 14) (q := 7) C d_Fl_isOpen_4 (by decide) rfl ?_ ?_
  · exact s_Fl_isOpen_14 C a
  · refine r_aload_n (q := 8) (i := 0) (pl := 0) C d_Fl_isOpen_7 rfl rfl rfl ?_
    refine r_gI (q := 11) C d_Fl_isOpen_8 rfl F_Fl_11 rfl (fun v2 => ?_)
    refine r_if_eq (tgt := 18) (q := 14) C d_Fl_isOpen_11 (by decide) rfl ?_ ?_
    · refine r_iconst (q := 19) (v := 0) C d_Fl_isOpen_18 rfl (by decide) ?_
      exact s_Fl_isOpen_19 C a (0 : Int32)
    · exact s_Fl_isOpen_14 C a
theorem d_Fl_place_0 : decode c_Fl_place 0 = .ok (.aload_n 0, 1) := by decide +kernel
theorem d_Fl_place_1 : decode c_Fl_place 1 = .ok (.getfield 11, 3) := by decide +kernel
theorem d_Fl_place_4 : decode c_Fl_place 4 = .ok (.ifCond .eq 8, 3) := by decide +kernel
theorem d_Fl_place_7 : decode c_Fl_place 7 = .ok (.aload_n 0, 1) := by decide +kernel
theorem d_Fl_place_8 : decode c_Fl_place 8 = .ok (.getfield 20, 3) := by decide +kernel
theorem d_Fl_place_11 : decode c_Fl_place 11 = .ok (.areturn, 1) := by decide +kernel
theorem d_Fl_place_12 : decode c_Fl_place 12 = .ok (.aload_n 0, 1) := by decide +kernel
theorem d_Fl_place_13 : decode c_Fl_place 13 = .ok (.getfield 27, 3) := by decide +kernel
theorem d_Fl_place_16 : decode c_Fl_place 16 = .ok (.ifnonnull 7, 3) := by decide +kernel
theorem d_Fl_place_19 : decode c_Fl_place 19 = .ok (.aconst_null, 1) := by decide +kernel
theorem d_Fl_place_20 : decode c_Fl_place 20 = .ok (.goto 13, 3) := by decide +kernel
theorem d_Fl_place_23 : decode c_Fl_place 23 = .ok (.aload_n 0, 1) := by decide +kernel
theorem d_Fl_place_24 : decode c_Fl_place 24 = .ok (.getfield 27, 3) := by decide +kernel
theorem d_Fl_place_27 : decode c_Fl_place 27 = .ok (.getfield 31, 3) := by decide +kernel
theorem d_Fl_place_30 : decode c_Fl_place 30 = .ok (.getfield 37, 3) := by decide +kernel
theorem d_Fl_place_33 : decode c_Fl_place 33 = .ok (.areturn, 1) := by decide +kernel
def f_Fl_place_33 (a : Nat) (t0 : Option Nat) : sn_M := r_R t0
set_option maxHeartbeats 4000000 in
set_option maxRecDepth 100000 in
theorem mono_Fl_place_33 (a : Nat) (t0 : Option Nat) : sn_Mono (f_Fl_place_33 a t0) := sn_Mono.rR
set_option maxHeartbeats 4000000 in
set_option maxRecDepth 100000 in
theorem s_Fl_place_33 {X : sn_X} (C : sn_Cx X c_Fl_place "SignalNetwork$Flow" (some (.object "SignalNetwork$Queue")) "place" 1 0 0) (a : Nat) (t0 : Option Nat) : sn_S X 33 [(0, vA (some a))] [vA t0] (f_Fl_place_33 a t0) := by
  unfold f_Fl_place_33
  exact r_aret C d_Fl_place_33 rfl (Or.inl ⟨_, rfl⟩)
def f_Fl_place (a : Nat) : sn_M := g_I 3 2 (some a) fun v1 => (if v1 = 0 then g_R 3 1 (some a) fun v2 => (if ¬ v2 = none then g_R 3 1 (some a) fun v3 => g_R 2 4 v3 fun v4 => g_R 10 8 v4 fun v5 => f_Fl_place_33 a v5 else f_Fl_place_33 a none) else g_R 3 6 (some a) fun v6 => r_R v6)
set_option maxHeartbeats 4000000 in
set_option maxRecDepth 100000 in
theorem mono_Fl_place (a : Nat) : sn_Mono (f_Fl_place a) := sn_Mono.gI (fun v1 => sn_Mono.ite (sn_Mono.gR (fun v2 => sn_Mono.ite (sn_Mono.gR (fun v3 => sn_Mono.gR (fun v4 => sn_Mono.gR (fun v5 => mono_Fl_place_33 a v5)))) (mono_Fl_place_33 a none))) (sn_Mono.gR (fun v6 => sn_Mono.rR)))
set_option maxHeartbeats 4000000 in
set_option maxRecDepth 100000 in
theorem con_Fl_place (a : Nat) : sn_Con y_Fl_place c_Fl_place 1 (some (.object "SignalNetwork$Queue")) 0 0 [vA (some a)] (f_Fl_place a) := by
  refine sn_Con.of (by decide +kernel) (by show _ ≤ _; exact Nat.le_of_ble_eq_true rfl) (mono_Fl_place a) (fun X C => ?_)
  show sn_S X 0 [(0, vA (some a))] [] _
  replace C : sn_Cx X c_Fl_place "SignalNetwork$Flow" (some (.object "SignalNetwork$Queue")) "place" 1 0 0 := C
  unfold f_Fl_place
  refine r_aload_n (q := 1) (i := 0) (pl := 0) C d_Fl_place_0 rfl rfl rfl ?_
  refine r_gI (q := 4) C d_Fl_place_1 rfl F_Fl_11 rfl (fun v1 => ?_)
  refine r_if_eq (tgt := 12) (q := 7) C d_Fl_place_4 (by decide) rfl ?_ ?_
  · refine r_aload_n (q := 13) (i := 0) (pl := 0) C d_Fl_place_12 rfl rfl rfl ?_
    refine r_gR (q := 16) C d_Fl_place_13 rfl F_Fl_27 rfl (fun v2 => ?_)
    refine r_ifnonnull (tgt := 23) (q := 19) C d_Fl_place_16 (by decide) rfl ?_ ?_
    · refine r_aload_n (q := 24) (i := 0) (pl := 0) C d_Fl_place_23 rfl rfl rfl ?_
      refine r_gR (q := 27) C d_Fl_place_24 rfl F_Fl_27 rfl (fun v3 => ?_)
      refine r_gR (q := 30) C d_Fl_place_27 rfl F_Fl_31 rfl (fun v4 => ?_)
      refine r_gR (q := 33) C d_Fl_place_30 rfl F_Fl_37 rfl (fun v5 => ?_)
      exact s_Fl_place_33 C a v5
    · refine r_null (q := 20) C d_Fl_place_19 rfl ?_
      refine r_goto (tgt := 33) C d_Fl_place_20 (by decide) ?_
      exact s_Fl_place_33 C a none
  · refine r_aload_n (q := 8) (i := 0) (pl := 0) C d_Fl_place_7 rfl rfl rfl ?_
    refine r_gR (q := 11) C d_Fl_place_8 rfl F_Fl_20 rfl (fun v6 => ?_)
    exact r_aret C d_Fl_place_11 rfl (Or.inl ⟨_, rfl⟩)
theorem d_Fl_holdFor_0 : decode c_Fl_holdFor 0 = .ok (.aload_n 0, 1) := by decide +kernel
theorem d_Fl_holdFor_1 : decode c_Fl_holdFor 1 = .ok (.iconst 1, 1) := by decide +kernel
theorem d_Fl_holdFor_2 : decode c_Fl_holdFor 2 = .ok (.putfield 11, 3) := by decide +kernel
theorem d_Fl_holdFor_5 : decode c_Fl_holdFor 5 = .ok (.aload_n 0, 1) := by decide +kernel
theorem d_Fl_holdFor_6 : decode c_Fl_holdFor 6 = .ok (.aload_n 1, 1) := by decide +kernel
theorem d_Fl_holdFor_7 : decode c_Fl_holdFor 7 = .ok (.putfield 42, 3) := by decide +kernel
theorem d_Fl_holdFor_10 : decode c_Fl_holdFor 10 = .ok (.aload_n 0, 1) := by decide +kernel
theorem d_Fl_holdFor_11 : decode c_Fl_holdFor 11 = .ok (.aconst_null, 1) := by decide +kernel
theorem d_Fl_holdFor_12 : decode c_Fl_holdFor 12 = .ok (.putfield 27, 3) := by decide +kernel
theorem d_Fl_holdFor_15 : decode c_Fl_holdFor 15 = .ok (.aload_n 0, 1) := by decide +kernel
theorem d_Fl_holdFor_16 : decode c_Fl_holdFor 16 = .ok (.iconst 0, 1) := by decide +kernel
theorem d_Fl_holdFor_17 : decode c_Fl_holdFor 17 = .ok (.putfield 45, 3) := by decide +kernel
theorem d_Fl_holdFor_20 : decode c_Fl_holdFor 20 = .ok (.return_, 1) := by decide +kernel
def f_Fl_holdFor (a : Nat) (r1 : Option Nat) : sn_M := p_I 3 2 (some a) (1 : Int32) (p_R 3 3 (some a) r1 (p_R 3 1 (some a) none (p_I 3 4 (some a) (0 : Int32) (r_V))))
set_option maxHeartbeats 4000000 in
set_option maxRecDepth 100000 in
theorem mono_Fl_holdFor (a : Nat) (r1 : Option Nat) : sn_Mono (f_Fl_holdFor a r1) := sn_Mono.pI (sn_Mono.pR (sn_Mono.pR (sn_Mono.pI (sn_Mono.rV))))
set_option maxHeartbeats 4000000 in
set_option maxRecDepth 100000 in
theorem con_Fl_holdFor (a : Nat) (r1 : Option Nat) : sn_Con y_Fl_holdFor c_Fl_holdFor 2 none 0 0 [vA (some a), vA r1] (f_Fl_holdFor a r1) := by
  refine sn_Con.of (by decide +kernel) (by show _ ≤ _; exact Nat.le_of_ble_eq_true rfl) (mono_Fl_holdFor a r1) (fun X C => ?_)
  show sn_S X 0 [(0, vA (some a)), (1, vA r1)] [] _
  replace C : sn_Cx X c_Fl_holdFor "SignalNetwork$Flow" none "holdFor" 2 0 0 := C
  unfold f_Fl_holdFor
  refine r_aload_n (q := 1) (i := 0) (pl := 0) C d_Fl_holdFor_0 rfl rfl rfl ?_
  refine r_iconst (q := 2) (v := 1) C d_Fl_holdFor_1 rfl (by decide) ?_
  refine r_pI (q := 5) C d_Fl_holdFor_2 rfl F_Fl_11 rfl rfl (Or.inl rfl) ?_
  refine r_aload_n (q := 6) (i := 0) (pl := 0) C d_Fl_holdFor_5 rfl rfl rfl ?_
  refine r_aload_n (q := 7) (i := 1) (pl := 1) C d_Fl_holdFor_6 rfl rfl rfl ?_
  refine r_pR (q := 10) C d_Fl_holdFor_7 rfl F_Fl_42 rfl (Or.inl ⟨_, rfl⟩) (Or.inl rfl) ?_
  refine r_aload_n (q := 11) (i := 0) (pl := 0) C d_Fl_holdFor_10 rfl rfl rfl ?_
  refine r_null (q := 12) C d_Fl_holdFor_11 rfl ?_
  refine r_pR (q := 15) C d_Fl_holdFor_12 rfl F_Fl_27 rfl (Or.inl ⟨_, rfl⟩) (Or.inl rfl) ?_
  refine r_aload_n (q := 16) (i := 0) (pl := 0) C d_Fl_holdFor_15 rfl rfl rfl ?_
  refine r_iconst (q := 17) (v := 0) C d_Fl_holdFor_16 rfl (by decide) ?_
  refine r_pI (q := 20) C d_Fl_holdFor_17 rfl F_Fl_45 rfl rfl (Or.inl rfl) ?_
  exact r_vret C d_Fl_holdFor_20 rfl
theorem d_Fl_free_0 : decode c_Fl_free 0 = .ok (.aload_n 0, 1) := by decide +kernel
theorem d_Fl_free_1 : decode c_Fl_free 1 = .ok (.iconst 0, 1) := by decide +kernel
theorem d_Fl_free_2 : decode c_Fl_free 2 = .ok (.putfield 11, 3) := by decide +kernel
theorem d_Fl_free_5 : decode c_Fl_free 5 = .ok (.aload_n 0, 1) := by decide +kernel
theorem d_Fl_free_6 : decode c_Fl_free 6 = .ok (.aconst_null, 1) := by decide +kernel
theorem d_Fl_free_7 : decode c_Fl_free 7 = .ok (.putfield 42, 3) := by decide +kernel
theorem d_Fl_free_10 : decode c_Fl_free 10 = .ok (.aload_n 0, 1) := by decide +kernel
theorem d_Fl_free_11 : decode c_Fl_free 11 = .ok (.aload_n 1, 1) := by decide +kernel
theorem d_Fl_free_12 : decode c_Fl_free 12 = .ok (.putfield 27, 3) := by decide +kernel
theorem d_Fl_free_15 : decode c_Fl_free 15 = .ok (.aload_n 0, 1) := by decide +kernel
theorem d_Fl_free_16 : decode c_Fl_free 16 = .ok (.iconst 0, 1) := by decide +kernel
theorem d_Fl_free_17 : decode c_Fl_free 17 = .ok (.putfield 45, 3) := by decide +kernel
theorem d_Fl_free_20 : decode c_Fl_free 20 = .ok (.return_, 1) := by decide +kernel
def f_Fl_free (a : Nat) (r1 : Option Nat) : sn_M := p_I 3 2 (some a) (0 : Int32) (p_R 3 3 (some a) none (p_R 3 1 (some a) r1 (p_I 3 4 (some a) (0 : Int32) (r_V))))
set_option maxHeartbeats 4000000 in
set_option maxRecDepth 100000 in
theorem mono_Fl_free (a : Nat) (r1 : Option Nat) : sn_Mono (f_Fl_free a r1) := sn_Mono.pI (sn_Mono.pR (sn_Mono.pR (sn_Mono.pI (sn_Mono.rV))))
set_option maxHeartbeats 4000000 in
set_option maxRecDepth 100000 in
theorem con_Fl_free (a : Nat) (r1 : Option Nat) : sn_Con y_Fl_free c_Fl_free 2 none 0 0 [vA (some a), vA r1] (f_Fl_free a r1) := by
  refine sn_Con.of (by decide +kernel) (by show _ ≤ _; exact Nat.le_of_ble_eq_true rfl) (mono_Fl_free a r1) (fun X C => ?_)
  show sn_S X 0 [(0, vA (some a)), (1, vA r1)] [] _
  replace C : sn_Cx X c_Fl_free "SignalNetwork$Flow" none "free" 2 0 0 := C
  unfold f_Fl_free
  refine r_aload_n (q := 1) (i := 0) (pl := 0) C d_Fl_free_0 rfl rfl rfl ?_
  refine r_iconst (q := 2) (v := 0) C d_Fl_free_1 rfl (by decide) ?_
  refine r_pI (q := 5) C d_Fl_free_2 rfl F_Fl_11 rfl rfl (Or.inl rfl) ?_
  refine r_aload_n (q := 6) (i := 0) (pl := 0) C d_Fl_free_5 rfl rfl rfl ?_
  refine r_null (q := 7) C d_Fl_free_6 rfl ?_
  refine r_pR (q := 10) C d_Fl_free_7 rfl F_Fl_42 rfl (Or.inl ⟨_, rfl⟩) (Or.inl rfl) ?_
  refine r_aload_n (q := 11) (i := 0) (pl := 0) C d_Fl_free_10 rfl rfl rfl ?_
  refine r_aload_n (q := 12) (i := 1) (pl := 1) C d_Fl_free_11 rfl rfl rfl ?_
  refine r_pR (q := 15) C d_Fl_free_12 rfl F_Fl_27 rfl (Or.inl ⟨_, rfl⟩) (Or.inl rfl) ?_
  refine r_aload_n (q := 16) (i := 0) (pl := 0) C d_Fl_free_15 rfl rfl rfl ?_
  refine r_iconst (q := 17) (v := 0) C d_Fl_free_16 rfl (by decide) ?_
  refine r_pI (q := 20) C d_Fl_free_17 rfl F_Fl_45 rfl rfl (Or.inl rfl) ?_
  exact r_vret C d_Fl_free_20 rfl
theorem d_Fl_tell_0 : decode c_Fl_tell 0 = .ok (.iload_n 1, 1) := by decide +kernel
theorem d_Fl_tell_1 : decode c_Fl_tell 1 = .ok (.tableswitch 82 0 3 #[31, 50, 55, 63], 31) := by decide +kernel
theorem d_Fl_tell_32 : decode c_Fl_tell 32 = .ok (.aload_n 0, 1) := by decide +kernel
theorem d_Fl_tell_33 : decode c_Fl_tell 33 = .ok (.getfield 27, 3) := by decide +kernel
theorem d_Fl_tell_36 : decode c_Fl_tell 36 = .ok (.ifnonnull 7, 3) := by decide +kernel
theorem d_Fl_tell_39 : decode c_Fl_tell 39 = .ok (.iconst (-1), 1) := by decide +kernel
theorem d_Fl_tell_40 : decode c_Fl_tell 40 = .ok (.goto 10, 3) := by decide +kernel
theorem d_Fl_tell_43 : decode c_Fl_tell 43 = .ok (.aload_n 0, 1) := by decide +kernel
theorem d_Fl_tell_44 : decode c_Fl_tell 44 = .ok (.getfield 27, 3) := by decide +kernel
theorem d_Fl_tell_47 : decode c_Fl_tell 47 = .ok (.getfield 48, 3) := by decide +kernel
theorem d_Fl_tell_50 : decode c_Fl_tell 50 = .ok (.ireturn, 1) := by decide +kernel
theorem d_Fl_tell_51 : decode c_Fl_tell 51 = .ok (.aload_n 0, 1) := by decide +kernel
theorem d_Fl_tell_52 : decode c_Fl_tell 52 = .ok (.getfield 11, 3) := by decide +kernel
theorem d_Fl_tell_55 : decode c_Fl_tell 55 = .ok (.ireturn, 1) := by decide +kernel
theorem d_Fl_tell_56 : decode c_Fl_tell 56 = .ok (.aload_n 0, 1) := by decide +kernel
theorem d_Fl_tell_57 : decode c_Fl_tell 57 = .ok (.getfield 20, 3) := by decide +kernel
theorem d_Fl_tell_60 : decode c_Fl_tell 60 = .ok (.getfield 51, 3) := by decide +kernel
theorem d_Fl_tell_63 : decode c_Fl_tell 63 = .ok (.ireturn, 1) := by decide +kernel
theorem d_Fl_tell_64 : decode c_Fl_tell 64 = .ok (.aload_n 0, 1) := by decide +kernel
theorem d_Fl_tell_65 : decode c_Fl_tell 65 = .ok (.getfield 42, 3) := by decide +kernel
theorem d_Fl_tell_68 : decode c_Fl_tell 68 = .ok (.ifnonnull 7, 3) := by decide +kernel
theorem d_Fl_tell_71 : decode c_Fl_tell 71 = .ok (.iconst (-1), 1) := by decide +kernel
theorem d_Fl_tell_72 : decode c_Fl_tell 72 = .ok (.goto 10, 3) := by decide +kernel
theorem d_Fl_tell_75 : decode c_Fl_tell 75 = .ok (.aload_n 0, 1) := by decide +kernel
theorem d_Fl_tell_76 : decode c_Fl_tell 76 = .ok (.getfield 42, 3) := by decide +kernel
theorem d_Fl_tell_79 : decode c_Fl_tell 79 = .ok (.getfield 48, 3) := by decide +kernel
theorem d_Fl_tell_82 : decode c_Fl_tell 82 = .ok (.ireturn, 1) := by decide +kernel
theorem d_Fl_tell_83 : decode c_Fl_tell 83 = .ok (.iconst (-1), 1) := by decide +kernel
theorem d_Fl_tell_84 : decode c_Fl_tell 84 = .ok (.ireturn, 1) := by decide +kernel
def f_Fl_tell_82 (a : Nat) (t0 : Int32) : sn_M := r_I t0
set_option maxHeartbeats 4000000 in
set_option maxRecDepth 100000 in
theorem mono_Fl_tell_82 (a : Nat) (t0 : Int32) : sn_Mono (f_Fl_tell_82 a t0) := sn_Mono.rI
set_option maxHeartbeats 4000000 in
set_option maxRecDepth 100000 in
theorem s_Fl_tell_82 {X : sn_X} (C : sn_Cx X c_Fl_tell "SignalNetwork$Flow" (some .int) "tell" 2 0 0) (a : Nat) (t0 : Int32) : sn_S X 82 [(0, vA (some a))] [vI t0] (f_Fl_tell_82 a t0) := by
  unfold f_Fl_tell_82
  exact r_iret C d_Fl_tell_82 rfl
def f_Fl_tell_50 (a : Nat) (t0 : Int32) : sn_M := r_I t0
set_option maxHeartbeats 4000000 in
set_option maxRecDepth 100000 in
theorem mono_Fl_tell_50 (a : Nat) (t0 : Int32) : sn_Mono (f_Fl_tell_50 a t0) := sn_Mono.rI
set_option maxHeartbeats 4000000 in
set_option maxRecDepth 100000 in
theorem s_Fl_tell_50 {X : sn_X} (C : sn_Cx X c_Fl_tell "SignalNetwork$Flow" (some .int) "tell" 2 0 0) (a : Nat) (t0 : Int32) : sn_S X 50 [(0, vA (some a))] [vI t0] (f_Fl_tell_50 a t0) := by
  unfold f_Fl_tell_50
  exact r_iret C d_Fl_tell_50 rfl
def f_Fl_tell (a : Nat) (x1 : Int32) : sn_M := (sn_sw x1 [0, 1, 2, 3] [(g_R 3 1 (some a) fun v1 => (if ¬ v1 = none then g_R 3 1 (some a) fun v2 => g_I 2 1 v2 fun v3 => f_Fl_tell_50 a v3 else f_Fl_tell_50 a (-1 : Int32))), (g_I 3 2 (some a) fun v4 => r_I v4), (g_R 3 6 (some a) fun v5 => g_I 6 2 v5 fun v6 => r_I v6), (g_R 3 3 (some a) fun v7 => (if ¬ v7 = none then g_R 3 3 (some a) fun v8 => g_I 2 1 v8 fun v9 => f_Fl_tell_82 a v9 else f_Fl_tell_82 a (-1 : Int32)))] (r_I (-1 : Int32)))
set_option maxHeartbeats 4000000 in
set_option maxRecDepth 100000 in
theorem mono_Fl_tell (a : Nat) (x1 : Int32) : sn_Mono (f_Fl_tell a x1) := sn_sw_mono (sn_Mono.rI) _ _ (List.forall_mem_cons.mpr ⟨sn_Mono.gR (fun v1 => sn_Mono.ite (sn_Mono.gR (fun v2 => sn_Mono.gI (fun v3 => mono_Fl_tell_50 a v3))) (mono_Fl_tell_50 a (-1 : Int32))), (List.forall_mem_cons.mpr ⟨sn_Mono.gI (fun v4 => sn_Mono.rI), (List.forall_mem_cons.mpr ⟨sn_Mono.gR (fun v5 => sn_Mono.gI (fun v6 => sn_Mono.rI)), (List.forall_mem_cons.mpr ⟨sn_Mono.gR (fun v7 => sn_Mono.ite (sn_Mono.gR (fun v8 => sn_Mono.gI (fun v9 => mono_Fl_tell_82 a v9))) (mono_Fl_tell_82 a (-1 : Int32))), (fun _ h => absurd h List.not_mem_nil)⟩)⟩)⟩)⟩)
set_option maxHeartbeats 4000000 in
set_option maxRecDepth 100000 in
theorem con_Fl_tell (a : Nat) (x1 : Int32) : sn_Con y_Fl_tell c_Fl_tell 2 (some .int) 0 0 [vA (some a), vI x1] (f_Fl_tell a x1) := by
  refine sn_Con.of (by decide +kernel) (by show _ ≤ _; exact Nat.le_of_ble_eq_true rfl) (mono_Fl_tell a x1) (fun X C => ?_)
  show sn_S X 0 [(0, vA (some a)), (1, vI x1)] [] _
  replace C : sn_Cx X c_Fl_tell "SignalNetwork$Flow" (some .int) "tell" 2 0 0 := C
  unfold f_Fl_tell
  refine r_iload_n (q := 1) (i := 1) (pl := 1) C d_Fl_tell_0 rfl rfl rfl ?_
  refine r_table (tD := 83) (ks := [0, 1, 2, 3]) (ts := [32, 51, 56, 64]) C d_Fl_tell_1 (by decide) (by decide) rfl ?_ ⟨?_, ?_, ?_, ?_, trivial⟩
  · refine r_iconst (q := 84) (v := -1) C d_Fl_tell_83 rfl (by decide) ?_
    exact r_iret C d_Fl_tell_84 rfl
  · refine r_aload_n (q := 33) (i := 0) (pl := 0) C d_Fl_tell_32 rfl rfl rfl ?_
    refine r_gR (q := 36) C d_Fl_tell_33 rfl F_Fl_27 rfl (fun v1 => ?_)
    refine r_ifnonnull (tgt := 43) (q := 39) C d_Fl_tell_36 (by decide) rfl ?_ ?_
    · refine r_aload_n (q := 44) (i := 0) (pl := 0) C d_Fl_tell_43 rfl rfl rfl ?_
      refine r_gR (q := 47) C d_Fl_tell_44 rfl F_Fl_27 rfl (fun v2 => ?_)
      refine r_gI (q := 50) C d_Fl_tell_47 rfl F_Fl_48 rfl (fun v3 => ?_)
      refine r_sub (lv' := [(0, vA (some a))]) [0] rfl ?_
      exact s_Fl_tell_50 C a v3
    · refine r_iconst (q := 40) (v := -1) C d_Fl_tell_39 rfl (by decide) ?_
      refine r_goto (tgt := 50) C d_Fl_tell_40 (by decide) ?_
      refine r_sub (lv' := [(0, vA (some a))]) [0] rfl ?_
      exact s_Fl_tell_50 C a (-1 : Int32)
  · refine r_aload_n (q := 52) (i := 0) (pl := 0) C d_Fl_tell_51 rfl rfl rfl ?_
    refine r_gI (q := 55) C d_Fl_tell_52 rfl F_Fl_11 rfl (fun v4 => ?_)
    exact r_iret C d_Fl_tell_55 rfl
  · refine r_aload_n (q := 57) (i := 0) (pl := 0) C d_Fl_tell_56 rfl rfl rfl ?_
    refine r_gR (q := 60) C d_Fl_tell_57 rfl F_Fl_20 rfl (fun v5 => ?_)
    refine r_gI (q := 63) C d_Fl_tell_60 rfl F_Fl_51 rfl (fun v6 => ?_)
    exact r_iret C d_Fl_tell_63 rfl
  · refine r_aload_n (q := 65) (i := 0) (pl := 0) C d_Fl_tell_64 rfl rfl rfl ?_
    refine r_gR (q := 68) C d_Fl_tell_65 rfl F_Fl_42 rfl (fun v7 => ?_)
    refine r_ifnonnull (tgt := 75) (q := 71) C d_Fl_tell_68 (by decide) rfl ?_ ?_
    · refine r_aload_n (q := 76) (i := 0) (pl := 0) C d_Fl_tell_75 rfl rfl rfl ?_
      refine r_gR (q := 79) C d_Fl_tell_76 rfl F_Fl_42 rfl (fun v8 => ?_)
      refine r_gI (q := 82) C d_Fl_tell_79 rfl F_Fl_48 rfl (fun v9 => ?_)
      refine r_sub (lv' := [(0, vA (some a))]) [0] rfl ?_
      exact s_Fl_tell_82 C a v9
    · refine r_iconst (q := 72) (v := -1) C d_Fl_tell_71 rfl (by decide) ?_
      refine r_goto (tgt := 82) C d_Fl_tell_72 (by decide) ?_
      refine r_sub (lv' := [(0, vA (some a))]) [0] rfl ?_
      exact s_Fl_tell_82 C a (-1 : Int32)
