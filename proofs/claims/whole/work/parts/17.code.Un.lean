theorem d_Un_init_0 : decode c_Un_init 0 = .ok (.aload_n 0, 1) := by decide +kernel
theorem d_Un_init_1 : decode c_Un_init 1 = .ok (.invokespecial 3, 3) := by decide +kernel
theorem d_Un_init_4 : decode c_Un_init 4 = .ok (.return_, 1) := by decide +kernel
def f_Un_init (a : Nat) : sn_M := r_V
set_option maxHeartbeats 4000000 in
set_option maxRecDepth 100000 in
theorem mono_Un_init (a : Nat) : sn_Mono (f_Un_init a) := sn_Mono.rV
set_option maxHeartbeats 4000000 in
set_option maxRecDepth 100000 in
theorem con_Un_init (a : Nat) : sn_Con y_Un_init c_Un_init 1 none 1 12 [vA (some a)] (f_Un_init a) := by
  refine sn_Con.of (by decide +kernel) (by show _ ≤ _; exact Nat.le_of_ble_eq_true rfl) (mono_Un_init a) (fun X C => ?_)
  show sn_S X 0 [(0, vA (some a))] [] _
  replace C : sn_Cx X c_Un_init "SignalNetwork$Unit" none "<init>" 1 1 12 := C
  unfold f_Un_init
  refine r_aload_n (q := 1) (i := 0) (pl := 0) C d_Un_init_0 rfl rfl rfl ?_
  refine r_objInit (q := 4) C d_Un_init_1 rfl LO_Un_3 W_oi W_oc (by decide) (by decide) a rfl ?_
  exact r_vret C d_Un_init_4 rfl
theorem d_Un_checkOf_0 : decode c_Un_checkOf 0 = .ok (.ldc 69, 2) := by decide +kernel
theorem d_Un_checkOf_2 : decode c_Un_checkOf 2 = .ok (.istore_n 2, 1) := by decide +kernel
theorem d_Un_checkOf_3 : decode c_Un_checkOf 3 = .ok (.iconst 0, 1) := by decide +kernel
theorem d_Un_checkOf_4 : decode c_Un_checkOf 4 = .ok (.istore_n 3, 1) := by decide +kernel
theorem d_Un_checkOf_5 : decode c_Un_checkOf 5 = .ok (.iload_n 3, 1) := by decide +kernel
theorem d_Un_checkOf_6 : decode c_Un_checkOf 6 = .ok (.bipush 8, 2) := by decide +kernel
theorem d_Un_checkOf_8 : decode c_Un_checkOf 8 = .ok (.iload_n 1, 1) := by decide +kernel
theorem d_Un_checkOf_9 : decode c_Un_checkOf 9 = .ok (.imul, 1) := by decide +kernel
theorem d_Un_checkOf_10 : decode c_Un_checkOf 10 = .ok (.if_icmp .ge 45, 3) := by decide +kernel
theorem d_Un_checkOf_13 : decode c_Un_checkOf 13 = .ok (.aload_n 0, 1) := by decide +kernel
theorem d_Un_checkOf_14 : decode c_Un_checkOf 14 = .ok (.iload_n 3, 1) := by decide +kernel
theorem d_Un_checkOf_15 : decode c_Un_checkOf 15 = .ok (.bipush 8, 2) := by decide +kernel
theorem d_Un_checkOf_17 : decode c_Un_checkOf 17 = .ok (.idiv, 1) := by decide +kernel
theorem d_Un_checkOf_18 : decode c_Un_checkOf 18 = .ok (.iaload, 1) := by decide +kernel
theorem d_Un_checkOf_19 : decode c_Un_checkOf 19 = .ok (.iload_n 3, 1) := by decide +kernel
theorem d_Un_checkOf_20 : decode c_Un_checkOf 20 = .ok (.bipush 8, 2) := by decide +kernel
theorem d_Un_checkOf_22 : decode c_Un_checkOf 22 = .ok (.irem, 1) := by decide +kernel
theorem d_Un_checkOf_23 : decode c_Un_checkOf 23 = .ok (.ishr, 1) := by decide +kernel
theorem d_Un_checkOf_24 : decode c_Un_checkOf 24 = .ok (.iconst 1, 1) := by decide +kernel
theorem d_Un_checkOf_25 : decode c_Un_checkOf 25 = .ok (.iand, 1) := by decide +kernel
theorem d_Un_checkOf_26 : decode c_Un_checkOf 26 = .ok (.istore 4, 2) := by decide +kernel
theorem d_Un_checkOf_28 : decode c_Un_checkOf 28 = .ok (.iload 4, 2) := by decide +kernel
theorem d_Un_checkOf_30 : decode c_Un_checkOf 30 = .ok (.iload_n 2, 1) := by decide +kernel
theorem d_Un_checkOf_31 : decode c_Un_checkOf 31 = .ok (.iconst 1, 1) := by decide +kernel
theorem d_Un_checkOf_32 : decode c_Un_checkOf 32 = .ok (.iand, 1) := by decide +kernel
theorem d_Un_checkOf_33 : decode c_Un_checkOf 33 = .ok (.if_icmp .ne 9, 3) := by decide +kernel
theorem d_Un_checkOf_36 : decode c_Un_checkOf 36 = .ok (.iload_n 2, 1) := by decide +kernel
theorem d_Un_checkOf_37 : decode c_Un_checkOf 37 = .ok (.iconst 1, 1) := by decide +kernel
theorem d_Un_checkOf_38 : decode c_Un_checkOf 38 = .ok (.ishr, 1) := by decide +kernel
theorem d_Un_checkOf_39 : decode c_Un_checkOf 39 = .ok (.goto 9, 3) := by decide +kernel
theorem d_Un_checkOf_42 : decode c_Un_checkOf 42 = .ok (.iload_n 2, 1) := by decide +kernel
theorem d_Un_checkOf_43 : decode c_Un_checkOf 43 = .ok (.iconst 1, 1) := by decide +kernel
theorem d_Un_checkOf_44 : decode c_Un_checkOf 44 = .ok (.ishr, 1) := by decide +kernel
theorem d_Un_checkOf_45 : decode c_Un_checkOf 45 = .ok (.ldc 70, 2) := by decide +kernel
theorem d_Un_checkOf_47 : decode c_Un_checkOf 47 = .ok (.ixor, 1) := by decide +kernel
theorem d_Un_checkOf_48 : decode c_Un_checkOf 48 = .ok (.istore_n 2, 1) := by decide +kernel
theorem d_Un_checkOf_49 : decode c_Un_checkOf 49 = .ok (.iinc 3 1, 3) := by decide +kernel
theorem d_Un_checkOf_52 : decode c_Un_checkOf 52 = .ok (.goto (-47), 3) := by decide +kernel
theorem d_Un_checkOf_55 : decode c_Un_checkOf 55 = .ok (.iload_n 2, 1) := by decide +kernel
theorem d_Un_checkOf_56 : decode c_Un_checkOf 56 = .ok (.ldc 69, 2) := by decide +kernel
theorem d_Un_checkOf_58 : decode c_Un_checkOf 58 = .ok (.ixor, 1) := by decide +kernel
theorem d_Un_checkOf_59 : decode c_Un_checkOf 59 = .ok (.ireturn, 1) := by decide +kernel
def f_Un_checkOf_48 (k5 : Option Nat → Int32 → Int32 → Int32 → sn_M) (r0 : Option Nat) (x1 : Int32) (x3 : Int32) (t0 : Int32) : sn_M := k5 r0 x1 t0 (x3 + (1 : Int32))
set_option maxHeartbeats 4000000 in
set_option maxRecDepth 100000 in
theorem mono_Un_checkOf_48 (k5 : Option Nat → Int32 → Int32 → Int32 → sn_M) (mk5 : ∀ (r0 : Option Nat) (x1 : Int32) (x2 : Int32) (x3 : Int32), sn_Mono (k5 r0 x1 x2 x3)) (r0 : Option Nat) (x1 : Int32) (x3 : Int32) (t0 : Int32) : sn_Mono (f_Un_checkOf_48 k5 r0 x1 x3 t0) := mk5 r0 x1 t0 (x3 + (1 : Int32))
set_option maxHeartbeats 4000000 in
set_option maxRecDepth 100000 in
theorem s_Un_checkOf_48 {X : sn_X} (C : sn_Cx X c_Un_checkOf "SignalNetwork$Unit" (some .int) "checkOf" 5 0 0) (k5 : Option Nat → Int32 → Int32 → Int32 → sn_M) (hk5 : ∀ (r0 : Option Nat) (x1 : Int32) (x2 : Int32) (x3 : Int32), sn_S X 5 [(0, vA r0), (1, vI x1), (2, vI x2), (3, vI x3)] [] (k5 r0 x1 x2 x3)) (r0 : Option Nat) (x1 : Int32) (x3 : Int32) (t0 : Int32) : sn_S X 48 [(0, vA r0), (1, vI x1), (3, vI x3)] [vI t0] (f_Un_checkOf_48 k5 r0 x1 x3 t0) := by
  unfold f_Un_checkOf_48
  refine r_istore_n (q := 49) (i := 2) (lv' := [(2, vI t0), (0, vA r0), (1, vI x1), (3, vI x3)]) C d_Un_checkOf_48 rfl rfl (by decide) rfl ?_
  refine r_iinc (q := 52) (pl := 3) (v := x3 + (1 : Int32)) (lv' := [(3, vI (x3 + (1 : Int32))), (2, vI t0), (0, vA r0), (1, vI x1)]) C d_Un_checkOf_49 rfl rfl rfl (by decide) rfl ?_
  refine r_goto (tgt := 5) C d_Un_checkOf_52 (by decide) ?_
  refine r_sub (lv' := [(0, vA r0), (1, vI x1), (2, vI t0), (3, vI (x3 + (1 : Int32)))]) [2, 3, 1, 0] rfl ?_
  exact hk5 r0 x1 t0 (x3 + (1 : Int32))
def f_Un_checkOf_5 : Nat → Option Nat → Int32 → Int32 → Int32 → sn_M
  | 0, _, _, _, _ => r_0
  | n + 1, r0, x1, x2, x3 => (if ((8 : Int32) * x1) ≤ x3 then r_I (x2 ^^^ (65535 : Int32)) else a_I 21 r0 (x3 / (8 : Int32)) fun v1 => n_I (((v1 >>> ((x3 % (8 : Int32)) &&& 31)) &&& (1 : Int32))) fun n2 => (if ¬ n2 = (x2 &&& (1 : Int32)) then f_Un_checkOf_48 (f_Un_checkOf_5 n) r0 x1 x3 ((x2 >>> ((1 : Int32) &&& 31)) ^^^ (33800 : Int32)) else f_Un_checkOf_48 (f_Un_checkOf_5 n) r0 x1 x3 (x2 >>> ((1 : Int32) &&& 31))))
set_option maxHeartbeats 4000000 in
set_option maxRecDepth 100000 in
theorem mono_Un_checkOf_5 : ∀ (n : Nat) (r0 : Option Nat) (x1 : Int32) (x2 : Int32) (x3 : Int32), sn_Mono (f_Un_checkOf_5 n r0 x1 x2 x3)
  | 0, _, _, _, _ => sn_Mono.r0
  | n + 1, r0, x1, x2, x3 => sn_Mono.ite (sn_Mono.rI) (sn_Mono.aI (fun v1 => sn_Mono.nI (fun n2 => sn_Mono.ite (mono_Un_checkOf_48 (f_Un_checkOf_5 n) (mono_Un_checkOf_5 n) r0 x1 x3 ((x2 >>> ((1 : Int32) &&& 31)) ^^^ (33800 : Int32))) (mono_Un_checkOf_48 (f_Un_checkOf_5 n) (mono_Un_checkOf_5 n) r0 x1 x3 (x2 >>> ((1 : Int32) &&& 31))))))
set_option maxHeartbeats 4000000 in
set_option maxRecDepth 100000 in
theorem s_Un_checkOf_5 {X : sn_X} (C : sn_Cx X c_Un_checkOf "SignalNetwork$Unit" (some .int) "checkOf" 5 0 0) (n : Nat) : ∀ (r0 : Option Nat) (x1 : Int32) (x2 : Int32) (x3 : Int32), sn_S X 5 [(0, vA r0), (1, vI x1), (2, vI x2), (3, vI x3)] [] (f_Un_checkOf_5 n r0 x1 x2 x3) := by
  induction n with
  | zero => intro r0 x1 x2 x3; exact sn_S.zero
  | succ n ih =>
    intro r0 x1 x2 x3
    unfold f_Un_checkOf_5
    refine r_iload_n (q := 6) (i := 3) (pl := 3) C d_Un_checkOf_5 rfl rfl rfl ?_
    refine r_bipush (q := 8) (v := 8) C d_Un_checkOf_6 rfl (by decide) ?_
    refine r_iload_n (q := 9) (i := 1) (pl := 1) C d_Un_checkOf_8 rfl rfl rfl ?_
    refine r_imul (q := 10) C d_Un_checkOf_9 rfl ?_
    refine r_icmp_ge (tgt := 55) (q := 13) C d_Un_checkOf_10 (by decide) rfl ?_ ?_
    · refine r_iload_n (q := 56) (i := 2) (pl := 2) C d_Un_checkOf_55 rfl rfl rfl ?_
      refine r_ldc (q := 58) C d_Un_checkOf_56 rfl K_Un_69 ?_
      refine r_ixor (q := 59) C d_Un_checkOf_58 rfl ?_
      exact r_iret C d_Un_checkOf_59 rfl
    · refine r_aload_n (q := 14) (i := 0) (pl := 0) C d_Un_checkOf_13 rfl rfl rfl ?_
      refine r_iload_n (q := 15) (i := 3) (pl := 3) C d_Un_checkOf_14 rfl rfl rfl ?_
      refine r_bipush (q := 17) (v := 8) C d_Un_checkOf_15 rfl (by decide) ?_
      refine r_idivc (q := 18) C d_Un_checkOf_17 rfl (by decide) ?_
      refine r_aI (q := 19) C (Or.inl rfl) d_Un_checkOf_18 rfl (fun v1 => ?_)
      refine r_iload_n (q := 20) (i := 3) (pl := 3) C d_Un_checkOf_19 rfl rfl rfl ?_
      refine r_bipush (q := 22) (v := 8) C d_Un_checkOf_20 rfl (by decide) ?_
      refine r_iremc (q := 23) C d_Un_checkOf_22 rfl (by decide) ?_
      refine r_ishr (q := 24) C d_Un_checkOf_23 rfl ?_
      refine r_iconst (q := 25) (v := 1) C d_Un_checkOf_24 rfl (by decide) ?_
      refine r_iand (q := 26) C d_Un_checkOf_25 rfl ?_
      refine r_nI (fun n2 => ?_)
      refine r_istore (q := 28) (i := 4) (lv' := [(4, vI n2), (0, vA r0), (1, vI x1), (2, vI x2), (3, vI x3)]) C d_Un_checkOf_26 rfl (by decide) rfl ?_
      refine r_iload (q := 30) (i := 4) (pl := 0) C d_Un_checkOf_28 rfl rfl ?_
      refine r_iload_n (q := 31) (i := 2) (pl := 3) C d_Un_checkOf_30 rfl rfl rfl ?_
      refine r_iconst (q := 32) (v := 1) C d_Un_checkOf_31 rfl (by decide) ?_
      refine r_iand (q := 33) C d_Un_checkOf_32 rfl ?_
      refine r_icmp_ne (tgt := 42) (q := 36) C d_Un_checkOf_33 (by decide) rfl ?_ ?_
      · refine r_iload_n (q := 43) (i := 2) (pl := 3) C d_Un_checkOf_42 rfl rfl rfl ?_
        refine r_iconst (q := 44) (v := 1) C d_Un_checkOf_43 rfl (by decide) ?_
        refine r_ishr (q := 45) C d_Un_checkOf_44 rfl ?_
        refine r_ldc (q := 47) C d_Un_checkOf_45 rfl K_Un_70 ?_
        refine r_ixor (q := 48) C d_Un_checkOf_47 rfl ?_
        refine r_sub (lv' := [(0, vA r0), (1, vI x1), (3, vI x3)]) [1, 2, 4] rfl ?_
        exact s_Un_checkOf_48 C (f_Un_checkOf_5 n) ih r0 x1 x3 ((x2 >>> ((1 : Int32) &&& 31)) ^^^ (33800 : Int32))
      · refine r_iload_n (q := 37) (i := 2) (pl := 3) C d_Un_checkOf_36 rfl rfl rfl ?_
        refine r_iconst (q := 38) (v := 1) C d_Un_checkOf_37 rfl (by decide) ?_
        refine r_ishr (q := 39) C d_Un_checkOf_38 rfl ?_
        refine r_goto (tgt := 48) C d_Un_checkOf_39 (by decide) ?_
        refine r_sub (lv' := [(0, vA r0), (1, vI x1), (3, vI x3)]) [1, 2, 4] rfl ?_
        exact s_Un_checkOf_48 C (f_Un_checkOf_5 n) ih r0 x1 x3 (x2 >>> ((1 : Int32) &&& 31))
def f_Un_checkOf (r0 : Option Nat) (x1 : Int32) : sn_M := f_Un_checkOf_5 sn_fuel r0 x1 (65535 : Int32) (0 : Int32)
set_option maxHeartbeats 4000000 in
set_option maxRecDepth 100000 in
theorem mono_Un_checkOf (r0 : Option Nat) (x1 : Int32) : sn_Mono (f_Un_checkOf r0 x1) := mono_Un_checkOf_5 sn_fuel r0 x1 (65535 : Int32) (0 : Int32)
set_option maxHeartbeats 4000000 in
set_option maxRecDepth 100000 in
theorem con_Un_checkOf (r0 : Option Nat) (x1 : Int32) : sn_Con y_Un_checkOf c_Un_checkOf 5 (some .int) 0 0 [vA r0, vI x1] (f_Un_checkOf r0 x1) := by
  refine sn_Con.of (by decide +kernel) (by show _ ≤ _; exact Nat.le_of_ble_eq_true rfl) (mono_Un_checkOf r0 x1) (fun X C => ?_)
  show sn_S X 0 [(0, vA r0), (1, vI x1)] [] _
  replace C : sn_Cx X c_Un_checkOf "SignalNetwork$Unit" (some .int) "checkOf" 5 0 0 := C
  unfold f_Un_checkOf
  refine r_ldc (q := 2) C d_Un_checkOf_0 rfl K_Un_69 ?_
  refine r_istore_n (q := 3) (i := 2) (lv' := [(2, vI (65535 : Int32)), (0, vA r0), (1, vI x1)]) C d_Un_checkOf_2 rfl rfl (by decide) rfl ?_
  refine r_iconst (q := 4) (v := 0) C d_Un_checkOf_3 rfl (by decide) ?_
  refine r_istore_n (q := 5) (i := 3) (lv' := [(3, vI (0 : Int32)), (2, vI (65535 : Int32)), (0, vA r0), (1, vI x1)]) C d_Un_checkOf_4 rfl rfl (by decide) rfl ?_
  refine r_sub (lv' := [(0, vA r0), (1, vI x1), (2, vI (65535 : Int32)), (3, vI (0 : Int32))]) [2, 3, 1, 0] rfl ?_
  exact s_Un_checkOf_5 C sn_fuel r0 x1 (65535 : Int32) (0 : Int32)
theorem d_Un_spellNumbered_0 : decode c_Un_spellNumbered 0 = .ok (.aload_n 1, 1) := by decide +kernel
theorem d_Un_spellNumbered_1 : decode c_Un_spellNumbered 1 = .ok (.iconst 0, 1) := by decide +kernel
theorem d_Un_spellNumbered_2 : decode c_Un_spellNumbered 2 = .ok (.aload_n 0, 1) := by decide +kernel
theorem d_Un_spellNumbered_3 : decode c_Un_spellNumbered 3 = .ok (.getfield 29, 3) := by decide +kernel
theorem d_Un_spellNumbered_6 : decode c_Un_spellNumbered 6 = .ok (.sipush 128, 3) := by decide +kernel
theorem d_Un_spellNumbered_9 : decode c_Un_spellNumbered 9 = .ok (.aload_n 0, 1) := by decide +kernel
theorem d_Un_spellNumbered_10 : decode c_Un_spellNumbered 10 = .ok (.getfield 32, 3) := by decide +kernel
theorem d_Un_spellNumbered_13 : decode c_Un_spellNumbered 13 = .ok (.imul, 1) := by decide +kernel
theorem d_Un_spellNumbered_14 : decode c_Un_spellNumbered 14 = .ok (.iadd, 1) := by decide +kernel
theorem d_Un_spellNumbered_15 : decode c_Un_spellNumbered 15 = .ok (.iastore, 1) := by decide +kernel
theorem d_Un_spellNumbered_16 : decode c_Un_spellNumbered 16 = .ok (.aload_n 1, 1) := by decide +kernel
theorem d_Un_spellNumbered_17 : decode c_Un_spellNumbered 17 = .ok (.iconst 1, 1) := by decide +kernel
theorem d_Un_spellNumbered_18 : decode c_Un_spellNumbered 18 = .ok (.aload_n 0, 1) := by decide +kernel
theorem d_Un_spellNumbered_19 : decode c_Un_spellNumbered 19 = .ok (.getfield 35, 3) := by decide +kernel
theorem d_Un_spellNumbered_22 : decode c_Un_spellNumbered 22 = .ok (.sipush 128, 3) := by decide +kernel
theorem d_Un_spellNumbered_25 : decode c_Un_spellNumbered 25 = .ok (.aload_n 0, 1) := by decide +kernel
theorem d_Un_spellNumbered_26 : decode c_Un_spellNumbered 26 = .ok (.getfield 38, 3) := by decide +kernel
theorem d_Un_spellNumbered_29 : decode c_Un_spellNumbered 29 = .ok (.imul, 1) := by decide +kernel
theorem d_Un_spellNumbered_30 : decode c_Un_spellNumbered 30 = .ok (.iadd, 1) := by decide +kernel
theorem d_Un_spellNumbered_31 : decode c_Un_spellNumbered 31 = .ok (.iastore, 1) := by decide +kernel
theorem d_Un_spellNumbered_32 : decode c_Un_spellNumbered 32 = .ok (.aload_n 1, 1) := by decide +kernel
theorem d_Un_spellNumbered_33 : decode c_Un_spellNumbered 33 = .ok (.iconst 2, 1) := by decide +kernel
theorem d_Un_spellNumbered_34 : decode c_Un_spellNumbered 34 = .ok (.aload_n 0, 1) := by decide +kernel
theorem d_Un_spellNumbered_35 : decode c_Un_spellNumbered 35 = .ok (.getfield 9, 3) := by decide +kernel
theorem d_Un_spellNumbered_38 : decode c_Un_spellNumbered 38 = .ok (.iconst 5, 1) := by decide +kernel
theorem d_Un_spellNumbered_39 : decode c_Un_spellNumbered 39 = .ok (.if_icmp .ne 8, 3) := by decide +kernel
theorem d_Un_spellNumbered_42 : decode c_Un_spellNumbered 42 = .ok (.bipush 8, 2) := by decide +kernel
theorem d_Un_spellNumbered_44 : decode c_Un_spellNumbered 44 = .ok (.goto 4, 3) := by decide +kernel
theorem d_Un_spellNumbered_47 : decode c_Un_spellNumbered 47 = .ok (.iconst 0, 1) := by decide +kernel
theorem d_Un_spellNumbered_48 : decode c_Un_spellNumbered 48 = .ok (.iastore, 1) := by decide +kernel
theorem d_Un_spellNumbered_49 : decode c_Un_spellNumbered 49 = .ok (.aload_n 0, 1) := by decide +kernel
theorem d_Un_spellNumbered_50 : decode c_Un_spellNumbered 50 = .ok (.getfield 9, 3) := by decide +kernel
theorem d_Un_spellNumbered_53 : decode c_Un_spellNumbered 53 = .ok (.iconst 5, 1) := by decide +kernel
theorem d_Un_spellNumbered_54 : decode c_Un_spellNumbered 54 = .ok (.if_icmp .eq 5, 3) := by decide +kernel
theorem d_Un_spellNumbered_57 : decode c_Un_spellNumbered 57 = .ok (.iconst 3, 1) := by decide +kernel
theorem d_Un_spellNumbered_58 : decode c_Un_spellNumbered 58 = .ok (.ireturn, 1) := by decide +kernel
theorem d_Un_spellNumbered_59 : decode c_Un_spellNumbered 59 = .ok (.aload_n 0, 1) := by decide +kernel
theorem d_Un_spellNumbered_60 : decode c_Un_spellNumbered 60 = .ok (.getfield 41, 3) := by decide +kernel
theorem d_Un_spellNumbered_63 : decode c_Un_spellNumbered 63 = .ok (.invokestatic 45, 3) := by decide +kernel
theorem d_Un_spellNumbered_66 : decode c_Un_spellNumbered 66 = .ok (.aload_n 0, 1) := by decide +kernel
theorem d_Un_spellNumbered_67 : decode c_Un_spellNumbered 67 = .ok (.getfield 41, 3) := by decide +kernel
theorem d_Un_spellNumbered_70 : decode c_Un_spellNumbered 70 = .ok (.invokestatic 51, 3) := by decide +kernel
theorem d_Un_spellNumbered_73 : decode c_Un_spellNumbered 73 = .ok (.bipush 14, 2) := by decide +kernel
theorem d_Un_spellNumbered_75 : decode c_Un_spellNumbered 75 = .ok (.ishl, 1) := by decide +kernel
theorem d_Un_spellNumbered_76 : decode c_Un_spellNumbered 76 = .ok (.ior, 1) := by decide +kernel
theorem d_Un_spellNumbered_77 : decode c_Un_spellNumbered 77 = .ok (.aload_n 0, 1) := by decide +kernel
theorem d_Un_spellNumbered_78 : decode c_Un_spellNumbered 78 = .ok (.getfield 41, 3) := by decide +kernel
theorem d_Un_spellNumbered_81 : decode c_Un_spellNumbered 81 = .ok (.invokestatic 54, 3) := by decide +kernel
theorem d_Un_spellNumbered_84 : decode c_Un_spellNumbered 84 = .ok (.bipush 28, 2) := by decide +kernel
theorem d_Un_spellNumbered_86 : decode c_Un_spellNumbered 86 = .ok (.ishl, 1) := by decide +kernel
theorem d_Un_spellNumbered_87 : decode c_Un_spellNumbered 87 = .ok (.ior, 1) := by decide +kernel
theorem d_Un_spellNumbered_88 : decode c_Un_spellNumbered 88 = .ok (.istore_n 2, 1) := by decide +kernel
theorem d_Un_spellNumbered_89 : decode c_Un_spellNumbered 89 = .ok (.aload_n 1, 1) := by decide +kernel
theorem d_Un_spellNumbered_90 : decode c_Un_spellNumbered 90 = .ok (.iconst 3, 1) := by decide +kernel
theorem d_Un_spellNumbered_91 : decode c_Un_spellNumbered 91 = .ok (.aload_n 0, 1) := by decide +kernel
theorem d_Un_spellNumbered_92 : decode c_Un_spellNumbered 92 = .ok (.getfield 41, 3) := by decide +kernel
theorem d_Un_spellNumbered_95 : decode c_Un_spellNumbered 95 = .ok (.invokestatic 57, 3) := by decide +kernel
theorem d_Un_spellNumbered_98 : decode c_Un_spellNumbered 98 = .ok (.iastore, 1) := by decide +kernel
theorem d_Un_spellNumbered_99 : decode c_Un_spellNumbered 99 = .ok (.iconst 0, 1) := by decide +kernel
theorem d_Un_spellNumbered_100 : decode c_Un_spellNumbered 100 = .ok (.istore_n 3, 1) := by decide +kernel
theorem d_Un_spellNumbered_101 : decode c_Un_spellNumbered 101 = .ok (.iload_n 3, 1) := by decide +kernel
theorem d_Un_spellNumbered_102 : decode c_Un_spellNumbered 102 = .ok (.iconst 4, 1) := by decide +kernel
theorem d_Un_spellNumbered_103 : decode c_Un_spellNumbered 103 = .ok (.if_icmp .ge 24, 3) := by decide +kernel
theorem d_Un_spellNumbered_106 : decode c_Un_spellNumbered 106 = .ok (.aload_n 1, 1) := by decide +kernel
theorem d_Un_spellNumbered_107 : decode c_Un_spellNumbered 107 = .ok (.iconst 4, 1) := by decide +kernel
theorem d_Un_spellNumbered_108 : decode c_Un_spellNumbered 108 = .ok (.iload_n 3, 1) := by decide +kernel
theorem d_Un_spellNumbered_109 : decode c_Un_spellNumbered 109 = .ok (.iadd, 1) := by decide +kernel
theorem d_Un_spellNumbered_110 : decode c_Un_spellNumbered 110 = .ok (.iload_n 2, 1) := by decide +kernel
theorem d_Un_spellNumbered_111 : decode c_Un_spellNumbered 111 = .ok (.bipush 8, 2) := by decide +kernel
theorem d_Un_spellNumbered_113 : decode c_Un_spellNumbered 113 = .ok (.iload_n 3, 1) := by decide +kernel
theorem d_Un_spellNumbered_114 : decode c_Un_spellNumbered 114 = .ok (.imul, 1) := by decide +kernel
theorem d_Un_spellNumbered_115 : decode c_Un_spellNumbered 115 = .ok (.ishr, 1) := by decide +kernel
theorem d_Un_spellNumbered_116 : decode c_Un_spellNumbered 116 = .ok (.sipush 255, 3) := by decide +kernel
theorem d_Un_spellNumbered_119 : decode c_Un_spellNumbered 119 = .ok (.iand, 1) := by decide +kernel
theorem d_Un_spellNumbered_120 : decode c_Un_spellNumbered 120 = .ok (.iastore, 1) := by decide +kernel
theorem d_Un_spellNumbered_121 : decode c_Un_spellNumbered 121 = .ok (.iinc 3 1, 3) := by decide +kernel
theorem d_Un_spellNumbered_124 : decode c_Un_spellNumbered 124 = .ok (.goto (-23), 3) := by decide +kernel
theorem d_Un_spellNumbered_127 : decode c_Un_spellNumbered 127 = .ok (.aload_n 1, 1) := by decide +kernel
theorem d_Un_spellNumbered_128 : decode c_Un_spellNumbered 128 = .ok (.bipush 8, 2) := by decide +kernel
theorem d_Un_spellNumbered_130 : decode c_Un_spellNumbered 130 = .ok (.aload_n 0, 1) := by decide +kernel
theorem d_Un_spellNumbered_131 : decode c_Un_spellNumbered 131 = .ok (.getfield 41, 3) := by decide +kernel
theorem d_Un_spellNumbered_134 : decode c_Un_spellNumbered 134 = .ok (.invokestatic 60, 3) := by decide +kernel
theorem d_Un_spellNumbered_137 : decode c_Un_spellNumbered 137 = .ok (.iastore, 1) := by decide +kernel
theorem d_Un_spellNumbered_138 : decode c_Un_spellNumbered 138 = .ok (.aload_n 1, 1) := by decide +kernel
theorem d_Un_spellNumbered_139 : decode c_Un_spellNumbered 139 = .ok (.bipush 9, 2) := by decide +kernel
theorem d_Un_spellNumbered_141 : decode c_Un_spellNumbered 141 = .ok (.aload_n 0, 1) := by decide +kernel
theorem d_Un_spellNumbered_142 : decode c_Un_spellNumbered 142 = .ok (.getfield 41, 3) := by decide +kernel
theorem d_Un_spellNumbered_145 : decode c_Un_spellNumbered 145 = .ok (.invokestatic 63, 3) := by decide +kernel
theorem d_Un_spellNumbered_148 : decode c_Un_spellNumbered 148 = .ok (.sipush 255, 3) := by decide +kernel
theorem d_Un_spellNumbered_151 : decode c_Un_spellNumbered 151 = .ok (.iand, 1) := by decide +kernel
theorem d_Un_spellNumbered_152 : decode c_Un_spellNumbered 152 = .ok (.iastore, 1) := by decide +kernel
theorem d_Un_spellNumbered_153 : decode c_Un_spellNumbered 153 = .ok (.aload_n 1, 1) := by decide +kernel
theorem d_Un_spellNumbered_154 : decode c_Un_spellNumbered 154 = .ok (.bipush 10, 2) := by decide +kernel
theorem d_Un_spellNumbered_156 : decode c_Un_spellNumbered 156 = .ok (.aload_n 0, 1) := by decide +kernel
theorem d_Un_spellNumbered_157 : decode c_Un_spellNumbered 157 = .ok (.getfield 41, 3) := by decide +kernel
theorem d_Un_spellNumbered_160 : decode c_Un_spellNumbered 160 = .ok (.invokestatic 66, 3) := by decide +kernel
theorem d_Un_spellNumbered_163 : decode c_Un_spellNumbered 163 = .ok (.iastore, 1) := by decide +kernel
theorem d_Un_spellNumbered_164 : decode c_Un_spellNumbered 164 = .ok (.bipush 11, 2) := by decide +kernel
theorem d_Un_spellNumbered_166 : decode c_Un_spellNumbered 166 = .ok (.ireturn, 1) := by decide +kernel
def f_Un_spellNumbered_101 (a : Nat) : Nat → Option Nat → Int32 → Int32 → sn_M
  | 0, _, _, _ => r_0
  | n + 1, r1, x2, x3 => (if (4 : Int32) ≤ x3 then g_J 9 6 (some a) fun v1 => c_I (f_Ms_first v1) fun v2 => b_I 21 r1 (8 : Int32) v2 (g_J 9 6 (some a) fun v3 => c_I (f_Ms_second v3) fun v4 => b_I 21 r1 (9 : Int32) (v4 &&& (255 : Int32)) (g_J 9 6 (some a) fun v5 => c_I (f_Ms_hops v5) fun v6 => b_I 21 r1 (10 : Int32) v6 (r_I (11 : Int32)))) else b_I 21 r1 ((4 : Int32) + x3) ((x2 >>> (((8 : Int32) * x3) &&& 31)) &&& (255 : Int32)) (f_Un_spellNumbered_101 a n r1 x2 (x3 + (1 : Int32))))
set_option maxHeartbeats 4000000 in
set_option maxRecDepth 100000 in
theorem mono_Un_spellNumbered_101 (a : Nat) : ∀ (n : Nat) (r1 : Option Nat) (x2 : Int32) (x3 : Int32), sn_Mono (f_Un_spellNumbered_101 a n r1 x2 x3)
  | 0, _, _, _ => sn_Mono.r0
  | n + 1, r1, x2, x3 => sn_Mono.ite (sn_Mono.gJ (fun v1 => sn_Mono.cI (mono_Ms_first v1) (fun v2 => sn_Mono.bI (sn_Mono.gJ (fun v3 => sn_Mono.cI (mono_Ms_second v3) (fun v4 => sn_Mono.bI (sn_Mono.gJ (fun v5 => sn_Mono.cI (mono_Ms_hops v5) (fun v6 => sn_Mono.bI (sn_Mono.rI)))))))))) (sn_Mono.bI (mono_Un_spellNumbered_101 a n r1 x2 (x3 + (1 : Int32))))
set_option maxHeartbeats 4000000 in
set_option maxRecDepth 100000 in
theorem s_Un_spellNumbered_101 {X : sn_X} (C : sn_Cx X c_Un_spellNumbered "SignalNetwork$Unit" (some .int) "spellNumbered" 4 1 21) (a : Nat) (n : Nat) : ∀ (r1 : Option Nat) (x2 : Int32) (x3 : Int32), sn_S X 101 [(0, vA (some a)), (1, vA r1), (2, vI x2), (3, vI x3)] [] (f_Un_spellNumbered_101 a n r1 x2 x3) := by
  induction n with
  | zero => intro r1 x2 x3; exact sn_S.zero
  | succ n ih =>
    intro r1 x2 x3
    unfold f_Un_spellNumbered_101
    refine r_iload_n (q := 102) (i := 3) (pl := 3) C d_Un_spellNumbered_101 rfl rfl rfl ?_
    refine r_iconst (q := 103) (v := 4) C d_Un_spellNumbered_102 rfl (by decide) ?_
    refine r_icmp_ge (tgt := 127) (q := 106) C d_Un_spellNumbered_103 (by decide) rfl ?_ ?_
    · refine r_aload_n (q := 128) (i := 1) (pl := 1) C d_Un_spellNumbered_127 rfl rfl rfl ?_
      refine r_bipush (q := 130) (v := 8) C d_Un_spellNumbered_128 rfl (by decide) ?_
      refine r_aload_n (q := 131) (i := 0) (pl := 0) C d_Un_spellNumbered_130 rfl rfl rfl ?_
      refine r_gJ (q := 134) C d_Un_spellNumbered_131 rfl F_Un_41 rfl (fun v1 => ?_)
      refine r_csI (q := 137) (As := [vJ v1]) (st := [vI (8 : Int32), vA r1]) C d_Un_spellNumbered_134 rfl Y_Ms_first L_Un_60 St_Ms_first rfl (Nat.le_of_ble_eq_true rfl) (Nat.le_of_ble_eq_true rfl) (Nat.le_of_ble_eq_true rfl) rfl (con_Ms_first v1) (fun v2 => ?_)
      refine r_bI (q := 138) C (Or.inl rfl) d_Un_spellNumbered_137 rfl ?_
      refine r_aload_n (q := 139) (i := 1) (pl := 1) C d_Un_spellNumbered_138 rfl rfl rfl ?_
      refine r_bipush (q := 141) (v := 9) C d_Un_spellNumbered_139 rfl (by decide) ?_
      refine r_aload_n (q := 142) (i := 0) (pl := 0) C d_Un_spellNumbered_141 rfl rfl rfl ?_
      refine r_gJ (q := 145) C d_Un_spellNumbered_142 rfl F_Un_41 rfl (fun v3 => ?_)
      refine r_csI (q := 148) (As := [vJ v3]) (st := [vI (9 : Int32), vA r1]) C d_Un_spellNumbered_145 rfl Y_Ms_second L_Un_63 St_Ms_second rfl (Nat.le_of_ble_eq_true rfl) (Nat.le_of_ble_eq_true rfl) (Nat.le_of_ble_eq_true rfl) rfl (con_Ms_second v3) (fun v4 => ?_)
      refine r_sipush (q := 151) (v := 255) C d_Un_spellNumbered_148 rfl (by decide) ?_
      refine r_iand (q := 152) C d_Un_spellNumbered_151 rfl ?_
      refine r_bI (q := 153) C (Or.inl rfl) d_Un_spellNumbered_152 rfl ?_
      refine r_aload_n (q := 154) (i := 1) (pl := 1) C d_Un_spellNumbered_153 rfl rfl rfl ?_
      refine r_bipush (q := 156) (v := 10) C d_Un_spellNumbered_154 rfl (by decide) ?_
      refine r_aload_n (q := 157) (i := 0) (pl := 0) C d_Un_spellNumbered_156 rfl rfl rfl ?_
      refine r_gJ (q := 160) C d_Un_spellNumbered_157 rfl F_Un_41 rfl (fun v5 => ?_)
      refine r_csI (q := 163) (As := [vJ v5]) (st := [vI (10 : Int32), vA r1]) C d_Un_spellNumbered_160 rfl Y_Ms_hops L_Un_66 St_Ms_hops rfl (Nat.le_of_ble_eq_true rfl) (Nat.le_of_ble_eq_true rfl) (Nat.le_of_ble_eq_true rfl) rfl (con_Ms_hops v5) (fun v6 => ?_)
      refine r_bI (q := 164) C (Or.inl rfl) d_Un_spellNumbered_163 rfl ?_
      refine r_bipush (q := 166) (v := 11) C d_Un_spellNumbered_164 rfl (by decide) ?_
      exact r_iret C d_Un_spellNumbered_166 rfl
    · refine r_aload_n (q := 107) (i := 1) (pl := 1) C d_Un_spellNumbered_106 rfl rfl rfl ?_
      refine r_iconst (q := 108) (v := 4) C d_Un_spellNumbered_107 rfl (by decide) ?_
      refine r_iload_n (q := 109) (i := 3) (pl := 3) C d_Un_spellNumbered_108 rfl rfl rfl ?_
      refine r_iadd (q := 110) C d_Un_spellNumbered_109 rfl ?_
      refine r_iload_n (q := 111) (i := 2) (pl := 2) C d_Un_spellNumbered_110 rfl rfl rfl ?_
      refine r_bipush (q := 113) (v := 8) C d_Un_spellNumbered_111 rfl (by decide) ?_
      refine r_iload_n (q := 114) (i := 3) (pl := 3) C d_Un_spellNumbered_113 rfl rfl rfl ?_
      refine r_imul (q := 115) C d_Un_spellNumbered_114 rfl ?_
      refine r_ishr (q := 116) C d_Un_spellNumbered_115 rfl ?_
      refine r_sipush (q := 119) (v := 255) C d_Un_spellNumbered_116 rfl (by decide) ?_
      refine r_iand (q := 120) C d_Un_spellNumbered_119 rfl ?_
      refine r_bI (q := 121) C (Or.inl rfl) d_Un_spellNumbered_120 rfl ?_
      refine r_iinc (q := 124) (pl := 3) (v := x3 + (1 : Int32)) (lv' := [(3, vI (x3 + (1 : Int32))), (0, vA (some a)), (1, vA r1), (2, vI x2)]) C d_Un_spellNumbered_121 rfl rfl rfl (by decide) rfl ?_
      refine r_goto (tgt := 101) C d_Un_spellNumbered_124 (by decide) ?_
      refine r_sub (lv' := [(0, vA (some a)), (1, vA r1), (2, vI x2), (3, vI (x3 + (1 : Int32)))]) [1, 2, 3, 0] rfl ?_
      exact ih r1 x2 (x3 + (1 : Int32))
def f_Un_spellNumbered_48 (a : Nat) (r1 : Option Nat) (t0 : Option Nat) (t1 : Int32) (t2 : Int32) : sn_M := b_I 21 t0 t1 t2 (g_I 9 0 (some a) fun v7 => (if v7 = (5 : Int32) then g_J 9 6 (some a) fun v8 => c_I (f_Ms_to v8) fun v9 => g_J 9 6 (some a) fun v10 => c_I (f_Ms_from v10) fun v11 => g_J 9 6 (some a) fun v12 => c_I (f_Ms_lane v12) fun v13 => n_I (((v9 ||| (v11 <<< ((14 : Int32) &&& 31))) ||| (v13 <<< ((28 : Int32) &&& 31)))) fun n14 => g_J 9 6 (some a) fun v15 => c_I (f_Ms_kind v15) fun v16 => b_I 21 r1 (3 : Int32) v16 (f_Un_spellNumbered_101 a sn_fuel r1 n14 (0 : Int32)) else r_I (3 : Int32)))
set_option maxHeartbeats 4000000 in
set_option maxRecDepth 100000 in
theorem mono_Un_spellNumbered_48 (a : Nat) (r1 : Option Nat) (t0 : Option Nat) (t1 : Int32) (t2 : Int32) : sn_Mono (f_Un_spellNumbered_48 a r1 t0 t1 t2) := sn_Mono.bI (sn_Mono.gI (fun v7 => sn_Mono.ite (sn_Mono.gJ (fun v8 => sn_Mono.cI (mono_Ms_to v8) (fun v9 => sn_Mono.gJ (fun v10 => sn_Mono.cI (mono_Ms_from v10) (fun v11 => sn_Mono.gJ (fun v12 => sn_Mono.cI (mono_Ms_lane v12) (fun v13 => sn_Mono.nI (fun n14 => sn_Mono.gJ (fun v15 => sn_Mono.cI (mono_Ms_kind v15) (fun v16 => sn_Mono.bI (mono_Un_spellNumbered_101 a sn_fuel r1 n14 (0 : Int32)))))))))))) (sn_Mono.rI)))
set_option maxHeartbeats 4000000 in
set_option maxRecDepth 100000 in
theorem s_Un_spellNumbered_48 {X : sn_X} (C : sn_Cx X c_Un_spellNumbered "SignalNetwork$Unit" (some .int) "spellNumbered" 4 1 21) (a : Nat) (r1 : Option Nat) (t0 : Option Nat) (t1 : Int32) (t2 : Int32) : sn_S X 48 [(0, vA (some a)), (1, vA r1)] [vI t2, vI t1, vA t0] (f_Un_spellNumbered_48 a r1 t0 t1 t2) := by
  unfold f_Un_spellNumbered_48
  refine r_bI (q := 49) C (Or.inl rfl) d_Un_spellNumbered_48 rfl ?_
  refine r_aload_n (q := 50) (i := 0) (pl := 0) C d_Un_spellNumbered_49 rfl rfl rfl ?_
  refine r_gI (q := 53) C d_Un_spellNumbered_50 rfl F_Un_9 rfl (fun v7 => ?_)
  refine r_iconst (q := 54) (v := 5) C d_Un_spellNumbered_53 rfl (by decide) ?_
  refine r_icmp_eq (tgt := 59) (q := 57) C d_Un_spellNumbered_54 (by decide) rfl ?_ ?_
  · refine r_aload_n (q := 60) (i := 0) (pl := 0) C d_Un_spellNumbered_59 rfl rfl rfl ?_
    refine r_gJ (q := 63) C d_Un_spellNumbered_60 rfl F_Un_41 rfl (fun v8 => ?_)
    refine r_csI (q := 66) (As := [vJ v8]) (st := []) C d_Un_spellNumbered_63 rfl Y_Ms_to L_Un_45 St_Ms_to rfl (Nat.le_of_ble_eq_true rfl) (Nat.le_of_ble_eq_true rfl) (Nat.le_of_ble_eq_true rfl) rfl (con_Ms_to v8) (fun v9 => ?_)
    refine r_aload_n (q := 67) (i := 0) (pl := 0) C d_Un_spellNumbered_66 rfl rfl rfl ?_
    refine r_gJ (q := 70) C d_Un_spellNumbered_67 rfl F_Un_41 rfl (fun v10 => ?_)
    refine r_csI (q := 73) (As := [vJ v10]) (st := [vI v9]) C d_Un_spellNumbered_70 rfl Y_Ms_from L_Un_51 St_Ms_from rfl (Nat.le_of_ble_eq_true rfl) (Nat.le_of_ble_eq_true rfl) (Nat.le_of_ble_eq_true rfl) rfl (con_Ms_from v10) (fun v11 => ?_)
    refine r_bipush (q := 75) (v := 14) C d_Un_spellNumbered_73 rfl (by decide) ?_
    refine r_ishl (q := 76) C d_Un_spellNumbered_75 rfl ?_
    refine r_ior (q := 77) C d_Un_spellNumbered_76 rfl ?_
    refine r_aload_n (q := 78) (i := 0) (pl := 0) C d_Un_spellNumbered_77 rfl rfl rfl ?_
    refine r_gJ (q := 81) C d_Un_spellNumbered_78 rfl F_Un_41 rfl (fun v12 => ?_)
    refine r_csI (q := 84) (As := [vJ v12]) (st := [vI (v9 ||| (v11 <<< ((14 : Int32) &&& 31)))]) C d_Un_spellNumbered_81 rfl Y_Ms_lane L_Un_54 St_Ms_lane rfl (Nat.le_of_ble_eq_true rfl) (Nat.le_of_ble_eq_true rfl) (Nat.le_of_ble_eq_true rfl) rfl (con_Ms_lane v12) (fun v13 => ?_)
    refine r_bipush (q := 86) (v := 28) C d_Un_spellNumbered_84 rfl (by decide) ?_
    refine r_ishl (q := 87) C d_Un_spellNumbered_86 rfl ?_
    refine r_ior (q := 88) C d_Un_spellNumbered_87 rfl ?_
    refine r_nI (fun n14 => ?_)
    refine r_istore_n (q := 89) (i := 2) (lv' := [(2, vI n14), (0, vA (some a)), (1, vA r1)]) C d_Un_spellNumbered_88 rfl rfl (by decide) rfl ?_
    refine r_aload_n (q := 90) (i := 1) (pl := 2) C d_Un_spellNumbered_89 rfl rfl rfl ?_
    refine r_iconst (q := 91) (v := 3) C d_Un_spellNumbered_90 rfl (by decide) ?_
    refine r_aload_n (q := 92) (i := 0) (pl := 1) C d_Un_spellNumbered_91 rfl rfl rfl ?_
    refine r_gJ (q := 95) C d_Un_spellNumbered_92 rfl F_Un_41 rfl (fun v15 => ?_)
    refine r_csI (q := 98) (As := [vJ v15]) (st := [vI (3 : Int32), vA r1]) C d_Un_spellNumbered_95 rfl Y_Ms_kind L_Un_57 St_Ms_kind rfl (Nat.le_of_ble_eq_true rfl) (Nat.le_of_ble_eq_true rfl) (Nat.le_of_ble_eq_true rfl) rfl (con_Ms_kind v15) (fun v16 => ?_)
    refine r_bI (q := 99) C (Or.inl rfl) d_Un_spellNumbered_98 rfl ?_
    refine r_iconst (q := 100) (v := 0) C d_Un_spellNumbered_99 rfl (by decide) ?_
    refine r_istore_n (q := 101) (i := 3) (lv' := [(3, vI (0 : Int32)), (2, vI n14), (0, vA (some a)), (1, vA r1)]) C d_Un_spellNumbered_100 rfl rfl (by decide) rfl ?_
    refine r_sub (lv' := [(0, vA (some a)), (1, vA r1), (2, vI n14), (3, vI (0 : Int32))]) [2, 3, 1, 0] rfl ?_
    exact s_Un_spellNumbered_101 C a sn_fuel r1 n14 (0 : Int32)
  · refine r_iconst (q := 58) (v := 3) C d_Un_spellNumbered_57 rfl (by decide) ?_
    exact r_iret C d_Un_spellNumbered_58 rfl
def f_Un_spellNumbered (a : Nat) (r1 : Option Nat) : sn_M := g_I 9 3 (some a) fun v17 => g_I 9 4 (some a) fun v18 => b_I 21 r1 (0 : Int32) (v17 + ((128 : Int32) * v18)) (g_I 9 1 (some a) fun v19 => g_I 9 2 (some a) fun v20 => b_I 21 r1 (1 : Int32) (v19 + ((128 : Int32) * v20)) (g_I 9 0 (some a) fun v21 => (if ¬ v21 = (5 : Int32) then f_Un_spellNumbered_48 a r1 r1 (2 : Int32) (0 : Int32) else f_Un_spellNumbered_48 a r1 r1 (2 : Int32) (8 : Int32))))
set_option maxHeartbeats 4000000 in
set_option maxRecDepth 100000 in
theorem mono_Un_spellNumbered (a : Nat) (r1 : Option Nat) : sn_Mono (f_Un_spellNumbered a r1) := sn_Mono.gI (fun v17 => sn_Mono.gI (fun v18 => sn_Mono.bI (sn_Mono.gI (fun v19 => sn_Mono.gI (fun v20 => sn_Mono.bI (sn_Mono.gI (fun v21 => sn_Mono.ite (mono_Un_spellNumbered_48 a r1 r1 (2 : Int32) (0 : Int32)) (mono_Un_spellNumbered_48 a r1 r1 (2 : Int32) (8 : Int32)))))))))
set_option maxHeartbeats 4000000 in
set_option maxRecDepth 100000 in
theorem con_Un_spellNumbered (a : Nat) (r1 : Option Nat) : sn_Con y_Un_spellNumbered c_Un_spellNumbered 4 (some .int) 1 21 [vA (some a), vA r1] (f_Un_spellNumbered a r1) := by
  refine sn_Con.of (by decide +kernel) (by show _ ≤ _; exact Nat.le_of_ble_eq_true rfl) (mono_Un_spellNumbered a r1) (fun X C => ?_)
  show sn_S X 0 [(0, vA (some a)), (1, vA r1)] [] _
  replace C : sn_Cx X c_Un_spellNumbered "SignalNetwork$Unit" (some .int) "spellNumbered" 4 1 21 := C
  unfold f_Un_spellNumbered
  refine r_aload_n (q := 1) (i := 1) (pl := 1) C d_Un_spellNumbered_0 rfl rfl rfl ?_
  refine r_iconst (q := 2) (v := 0) C d_Un_spellNumbered_1 rfl (by decide) ?_
  refine r_aload_n (q := 3) (i := 0) (pl := 0) C d_Un_spellNumbered_2 rfl rfl rfl ?_
  refine r_gI (q := 6) C d_Un_spellNumbered_3 rfl F_Un_29 rfl (fun v17 => ?_)
  refine r_sipush (q := 9) (v := 128) C d_Un_spellNumbered_6 rfl (by decide) ?_
  refine r_aload_n (q := 10) (i := 0) (pl := 0) C d_Un_spellNumbered_9 rfl rfl rfl ?_
  refine r_gI (q := 13) C d_Un_spellNumbered_10 rfl F_Un_32 rfl (fun v18 => ?_)
  refine r_imul (q := 14) C d_Un_spellNumbered_13 rfl ?_
  refine r_iadd (q := 15) C d_Un_spellNumbered_14 rfl ?_
  refine r_bI (q := 16) C (Or.inl rfl) d_Un_spellNumbered_15 rfl ?_
  refine r_aload_n (q := 17) (i := 1) (pl := 1) C d_Un_spellNumbered_16 rfl rfl rfl ?_
  refine r_iconst (q := 18) (v := 1) C d_Un_spellNumbered_17 rfl (by decide) ?_
  refine r_aload_n (q := 19) (i := 0) (pl := 0) C d_Un_spellNumbered_18 rfl rfl rfl ?_
  refine r_gI (q := 22) C d_Un_spellNumbered_19 rfl F_Un_35 rfl (fun v19 => ?_)
  refine r_sipush (q := 25) (v := 128) C d_Un_spellNumbered_22 rfl (by decide) ?_
  refine r_aload_n (q := 26) (i := 0) (pl := 0) C d_Un_spellNumbered_25 rfl rfl rfl ?_
  refine r_gI (q := 29) C d_Un_spellNumbered_26 rfl F_Un_38 rfl (fun v20 => ?_)
  refine r_imul (q := 30) C d_Un_spellNumbered_29 rfl ?_
  refine r_iadd (q := 31) C d_Un_spellNumbered_30 rfl ?_
  refine r_bI (q := 32) C (Or.inl rfl) d_Un_spellNumbered_31 rfl ?_
  refine r_aload_n (q := 33) (i := 1) (pl := 1) C d_Un_spellNumbered_32 rfl rfl rfl ?_
  refine r_iconst (q := 34) (v := 2) C d_Un_spellNumbered_33 rfl (by decide) ?_
  refine r_aload_n (q := 35) (i := 0) (pl := 0) C d_Un_spellNumbered_34 rfl rfl rfl ?_
  refine r_gI (q := 38) C d_Un_spellNumbered_35 rfl F_Un_9 rfl (fun v21 => ?_)
  refine r_iconst (q := 39) (v := 5) C d_Un_spellNumbered_38 rfl (by decide) ?_
  refine r_icmp_ne (tgt := 47) (q := 42) C d_Un_spellNumbered_39 (by decide) rfl ?_ ?_
  · refine r_iconst (q := 48) (v := 0) C d_Un_spellNumbered_47 rfl (by decide) ?_
    exact s_Un_spellNumbered_48 C a r1 r1 (2 : Int32) (0 : Int32)
  · refine r_bipush (q := 44) (v := 8) C d_Un_spellNumbered_42 rfl (by decide) ?_
    refine r_goto (tgt := 48) C d_Un_spellNumbered_44 (by decide) ?_
    exact s_Un_spellNumbered_48 C a r1 r1 (2 : Int32) (8 : Int32)
theorem d_Un_spellState_0 : decode c_Un_spellState 0 = .ok (.aload_n 1, 1) := by decide +kernel
theorem d_Un_spellState_1 : decode c_Un_spellState 1 = .ok (.iconst 0, 1) := by decide +kernel
theorem d_Un_spellState_2 : decode c_Un_spellState 2 = .ok (.sipush 255, 3) := by decide +kernel
theorem d_Un_spellState_5 : decode c_Un_spellState 5 = .ok (.iastore, 1) := by decide +kernel
theorem d_Un_spellState_6 : decode c_Un_spellState 6 = .ok (.aload_n 1, 1) := by decide +kernel
theorem d_Un_spellState_7 : decode c_Un_spellState 7 = .ok (.iconst 1, 1) := by decide +kernel
theorem d_Un_spellState_8 : decode c_Un_spellState 8 = .ok (.sipush 255, 3) := by decide +kernel
theorem d_Un_spellState_11 : decode c_Un_spellState 11 = .ok (.iastore, 1) := by decide +kernel
theorem d_Un_spellState_12 : decode c_Un_spellState 12 = .ok (.aload_n 1, 1) := by decide +kernel
theorem d_Un_spellState_13 : decode c_Un_spellState 13 = .ok (.iconst 2, 1) := by decide +kernel
theorem d_Un_spellState_14 : decode c_Un_spellState 14 = .ok (.iconst 1, 1) := by decide +kernel
theorem d_Un_spellState_15 : decode c_Un_spellState 15 = .ok (.iastore, 1) := by decide +kernel
theorem d_Un_spellState_16 : decode c_Un_spellState 16 = .ok (.aload_n 1, 1) := by decide +kernel
theorem d_Un_spellState_17 : decode c_Un_spellState 17 = .ok (.iconst 3, 1) := by decide +kernel
theorem d_Un_spellState_18 : decode c_Un_spellState 18 = .ok (.aload_n 0, 1) := by decide +kernel
theorem d_Un_spellState_19 : decode c_Un_spellState 19 = .ok (.getfield 9, 3) := by decide +kernel
theorem d_Un_spellState_22 : decode c_Un_spellState 22 = .ok (.iconst 2, 1) := by decide +kernel
theorem d_Un_spellState_23 : decode c_Un_spellState 23 = .ok (.if_icmp .lt 17, 3) := by decide +kernel
theorem d_Un_spellState_26 : decode c_Un_spellState 26 = .ok (.aload_n 0, 1) := by decide +kernel
theorem d_Un_spellState_27 : decode c_Un_spellState 27 = .ok (.getfield 9, 3) := by decide +kernel
theorem d_Un_spellState_30 : decode c_Un_spellState 30 = .ok (.iconst 4, 1) := by decide +kernel
theorem d_Un_spellState_31 : decode c_Un_spellState 31 = .ok (.aload_n 0, 1) := by decide +kernel
theorem d_Un_spellState_32 : decode c_Un_spellState 32 = .ok (.getfield 26, 3) := by decide +kernel
theorem d_Un_spellState_35 : decode c_Un_spellState 35 = .ok (.imul, 1) := by decide +kernel
theorem d_Un_spellState_36 : decode c_Un_spellState 36 = .ok (.iadd, 1) := by decide +kernel
theorem d_Un_spellState_37 : decode c_Un_spellState 37 = .ok (.goto 7, 3) := by decide +kernel
theorem d_Un_spellState_40 : decode c_Un_spellState 40 = .ok (.aload_n 0, 1) := by decide +kernel
theorem d_Un_spellState_41 : decode c_Un_spellState 41 = .ok (.getfield 9, 3) := by decide +kernel
theorem d_Un_spellState_44 : decode c_Un_spellState 44 = .ok (.iastore, 1) := by decide +kernel
theorem d_Un_spellState_45 : decode c_Un_spellState 45 = .ok (.iconst 4, 1) := by decide +kernel
theorem d_Un_spellState_46 : decode c_Un_spellState 46 = .ok (.ireturn, 1) := by decide +kernel
def f_Un_spellState_44 (a : Nat) (t0 : Option Nat) (t1 : Int32) (t2 : Int32) : sn_M := b_I 21 t0 t1 t2 (r_I (4 : Int32))
set_option maxHeartbeats 4000000 in
set_option maxRecDepth 100000 in
theorem mono_Un_spellState_44 (a : Nat) (t0 : Option Nat) (t1 : Int32) (t2 : Int32) : sn_Mono (f_Un_spellState_44 a t0 t1 t2) := sn_Mono.bI (sn_Mono.rI)
set_option maxHeartbeats 4000000 in
set_option maxRecDepth 100000 in
theorem s_Un_spellState_44 {X : sn_X} (C : sn_Cx X c_Un_spellState "SignalNetwork$Unit" (some .int) "spellState" 2 0 0) (a : Nat) (t0 : Option Nat) (t1 : Int32) (t2 : Int32) : sn_S X 44 [(0, vA (some a))] [vI t2, vI t1, vA t0] (f_Un_spellState_44 a t0 t1 t2) := by
  unfold f_Un_spellState_44
  refine r_bI (q := 45) C (Or.inl rfl) d_Un_spellState_44 rfl ?_
  refine r_iconst (q := 46) (v := 4) C d_Un_spellState_45 rfl (by decide) ?_
  exact r_iret C d_Un_spellState_46 rfl
def f_Un_spellState (a : Nat) (r1 : Option Nat) : sn_M := b_I 21 r1 (0 : Int32) (255 : Int32) (b_I 21 r1 (1 : Int32) (255 : Int32) (b_I 21 r1 (2 : Int32) (1 : Int32) (g_I 9 0 (some a) fun v1 => (if v1 < (2 : Int32) then g_I 9 0 (some a) fun v2 => f_Un_spellState_44 a r1 (3 : Int32) v2 else g_I 9 0 (some a) fun v3 => g_I 9 5 (some a) fun v4 => f_Un_spellState_44 a r1 (3 : Int32) (v3 + ((4 : Int32) * v4))))))
set_option maxHeartbeats 4000000 in
set_option maxRecDepth 100000 in
theorem mono_Un_spellState (a : Nat) (r1 : Option Nat) : sn_Mono (f_Un_spellState a r1) := sn_Mono.bI (sn_Mono.bI (sn_Mono.bI (sn_Mono.gI (fun v1 => sn_Mono.ite (sn_Mono.gI (fun v2 => mono_Un_spellState_44 a r1 (3 : Int32) v2)) (sn_Mono.gI (fun v3 => sn_Mono.gI (fun v4 => mono_Un_spellState_44 a r1 (3 : Int32) (v3 + ((4 : Int32) * v4)))))))))
set_option maxHeartbeats 4000000 in
set_option maxRecDepth 100000 in
theorem con_Un_spellState (a : Nat) (r1 : Option Nat) : sn_Con y_Un_spellState c_Un_spellState 2 (some .int) 0 0 [vA (some a), vA r1] (f_Un_spellState a r1) := by
  refine sn_Con.of (by decide +kernel) (by show _ ≤ _; exact Nat.le_of_ble_eq_true rfl) (mono_Un_spellState a r1) (fun X C => ?_)
  show sn_S X 0 [(0, vA (some a)), (1, vA r1)] [] _
  replace C : sn_Cx X c_Un_spellState "SignalNetwork$Unit" (some .int) "spellState" 2 0 0 := C
  unfold f_Un_spellState
  refine r_aload_n (q := 1) (i := 1) (pl := 1) C d_Un_spellState_0 rfl rfl rfl ?_
  refine r_iconst (q := 2) (v := 0) C d_Un_spellState_1 rfl (by decide) ?_
  refine r_sipush (q := 5) (v := 255) C d_Un_spellState_2 rfl (by decide) ?_
  refine r_bI (q := 6) C (Or.inl rfl) d_Un_spellState_5 rfl ?_
  refine r_aload_n (q := 7) (i := 1) (pl := 1) C d_Un_spellState_6 rfl rfl rfl ?_
  refine r_iconst (q := 8) (v := 1) C d_Un_spellState_7 rfl (by decide) ?_
  refine r_sipush (q := 11) (v := 255) C d_Un_spellState_8 rfl (by decide) ?_
  refine r_bI (q := 12) C (Or.inl rfl) d_Un_spellState_11 rfl ?_
  refine r_aload_n (q := 13) (i := 1) (pl := 1) C d_Un_spellState_12 rfl rfl rfl ?_
  refine r_iconst (q := 14) (v := 2) C d_Un_spellState_13 rfl (by decide) ?_
  refine r_iconst (q := 15) (v := 1) C d_Un_spellState_14 rfl (by decide) ?_
  refine r_bI (q := 16) C (Or.inl rfl) d_Un_spellState_15 rfl ?_
  refine r_aload_n (q := 17) (i := 1) (pl := 1) C d_Un_spellState_16 rfl rfl rfl ?_
  refine r_iconst (q := 18) (v := 3) C d_Un_spellState_17 rfl (by decide) ?_
  refine r_aload_n (q := 19) (i := 0) (pl := 0) C d_Un_spellState_18 rfl rfl rfl ?_
  refine r_gI (q := 22) C d_Un_spellState_19 rfl F_Un_9 rfl (fun v1 => ?_)
  refine r_iconst (q := 23) (v := 2) C d_Un_spellState_22 rfl (by decide) ?_
  refine r_icmp_lt (tgt := 40) (q := 26) C d_Un_spellState_23 (by decide) rfl ?_ ?_
  · refine r_aload_n (q := 41) (i := 0) (pl := 0) C d_Un_spellState_40 rfl rfl rfl ?_
    refine r_gI (q := 44) C d_Un_spellState_41 rfl F_Un_9 rfl (fun v2 => ?_)
    refine r_sub (lv' := [(0, vA (some a))]) [0] rfl ?_
    exact s_Un_spellState_44 C a r1 (3 : Int32) v2
  · refine r_aload_n (q := 27) (i := 0) (pl := 0) C d_Un_spellState_26 rfl rfl rfl ?_
    refine r_gI (q := 30) C d_Un_spellState_27 rfl F_Un_9 rfl (fun v3 => ?_)
    refine r_iconst (q := 31) (v := 4) C d_Un_spellState_30 rfl (by decide) ?_
    refine r_aload_n (q := 32) (i := 0) (pl := 0) C d_Un_spellState_31 rfl rfl rfl ?_
    refine r_gI (q := 35) C d_Un_spellState_32 rfl F_Un_26 rfl (fun v4 => ?_)
    refine r_imul (q := 36) C d_Un_spellState_35 rfl ?_
    refine r_iadd (q := 37) C d_Un_spellState_36 rfl ?_
    refine r_goto (tgt := 44) C d_Un_spellState_37 (by decide) ?_
    refine r_sub (lv' := [(0, vA (some a))]) [0] rfl ?_
    exact s_Un_spellState_44 C a r1 (3 : Int32) (v3 + ((4 : Int32) * v4))
theorem d_Un_spell_0 : decode c_Un_spell 0 = .ok (.aload_n 0, 1) := by decide +kernel
theorem d_Un_spell_1 : decode c_Un_spell 1 = .ok (.getfield 9, 3) := by decide +kernel
theorem d_Un_spell_4 : decode c_Un_spell 4 = .ok (.iconst 4, 1) := by decide +kernel
theorem d_Un_spell_5 : decode c_Un_spell 5 = .ok (.if_icmp .ge 11, 3) := by decide +kernel
theorem d_Un_spell_8 : decode c_Un_spell 8 = .ok (.aload_n 0, 1) := by decide +kernel
theorem d_Un_spell_9 : decode c_Un_spell 9 = .ok (.aload_n 1, 1) := by decide +kernel
theorem d_Un_spell_10 : decode c_Un_spell 10 = .ok (.invokevirtual 15, 3) := by decide +kernel
theorem d_Un_spell_13 : decode c_Un_spell 13 = .ok (.goto 8, 3) := by decide +kernel
theorem d_Un_spell_16 : decode c_Un_spell 16 = .ok (.aload_n 0, 1) := by decide +kernel
theorem d_Un_spell_17 : decode c_Un_spell 17 = .ok (.aload_n 1, 1) := by decide +kernel
theorem d_Un_spell_18 : decode c_Un_spell 18 = .ok (.invokevirtual 19, 3) := by decide +kernel
theorem d_Un_spell_21 : decode c_Un_spell 21 = .ok (.istore_n 2, 1) := by decide +kernel
theorem d_Un_spell_22 : decode c_Un_spell 22 = .ok (.aload_n 1, 1) := by decide +kernel
theorem d_Un_spell_23 : decode c_Un_spell 23 = .ok (.iload_n 2, 1) := by decide +kernel
theorem d_Un_spell_24 : decode c_Un_spell 24 = .ok (.invokestatic 22, 3) := by decide +kernel
theorem d_Un_spell_27 : decode c_Un_spell 27 = .ok (.istore_n 3, 1) := by decide +kernel
theorem d_Un_spell_28 : decode c_Un_spell 28 = .ok (.aload_n 1, 1) := by decide +kernel
theorem d_Un_spell_29 : decode c_Un_spell 29 = .ok (.iload_n 2, 1) := by decide +kernel
theorem d_Un_spell_30 : decode c_Un_spell 30 = .ok (.iload_n 3, 1) := by decide +kernel
theorem d_Un_spell_31 : decode c_Un_spell 31 = .ok (.sipush 255, 3) := by decide +kernel
theorem d_Un_spell_34 : decode c_Un_spell 34 = .ok (.iand, 1) := by decide +kernel
theorem d_Un_spell_35 : decode c_Un_spell 35 = .ok (.iastore, 1) := by decide +kernel
theorem d_Un_spell_36 : decode c_Un_spell 36 = .ok (.aload_n 1, 1) := by decide +kernel
theorem d_Un_spell_37 : decode c_Un_spell 37 = .ok (.iload_n 2, 1) := by decide +kernel
theorem d_Un_spell_38 : decode c_Un_spell 38 = .ok (.iconst 1, 1) := by decide +kernel
theorem d_Un_spell_39 : decode c_Un_spell 39 = .ok (.iadd, 1) := by decide +kernel
theorem d_Un_spell_40 : decode c_Un_spell 40 = .ok (.iload_n 3, 1) := by decide +kernel
theorem d_Un_spell_41 : decode c_Un_spell 41 = .ok (.bipush 8, 2) := by decide +kernel
theorem d_Un_spell_43 : decode c_Un_spell 43 = .ok (.ishr, 1) := by decide +kernel
theorem d_Un_spell_44 : decode c_Un_spell 44 = .ok (.iastore, 1) := by decide +kernel
theorem d_Un_spell_45 : decode c_Un_spell 45 = .ok (.iload_n 2, 1) := by decide +kernel
theorem d_Un_spell_46 : decode c_Un_spell 46 = .ok (.iconst 2, 1) := by decide +kernel
theorem d_Un_spell_47 : decode c_Un_spell 47 = .ok (.iadd, 1) := by decide +kernel
theorem d_Un_spell_48 : decode c_Un_spell 48 = .ok (.ireturn, 1) := by decide +kernel
def f_Un_spell_21 (a : Nat) (r1 : Option Nat) (t0 : Int32) : sn_M := c_I (f_Un_checkOf r1 t0) fun v1 => b_I 21 r1 t0 (v1 &&& (255 : Int32)) (b_I 21 r1 (t0 + (1 : Int32)) (v1 >>> ((8 : Int32) &&& 31)) (r_I (t0 + (2 : Int32))))
set_option maxHeartbeats 4000000 in
set_option maxRecDepth 100000 in
theorem mono_Un_spell_21 (a : Nat) (r1 : Option Nat) (t0 : Int32) : sn_Mono (f_Un_spell_21 a r1 t0) := sn_Mono.cI (mono_Un_checkOf r1 t0) (fun v1 => sn_Mono.bI (sn_Mono.bI (sn_Mono.rI)))
set_option maxHeartbeats 4000000 in
set_option maxRecDepth 100000 in
theorem s_Un_spell_21 {X : sn_X} (C : sn_Cx X c_Un_spell "SignalNetwork$Unit" (some .int) "spell" 4 2 44) (a : Nat) (r1 : Option Nat) (t0 : Int32) : sn_S X 21 [(0, vA (some a)), (1, vA r1)] [vI t0] (f_Un_spell_21 a r1 t0) := by
  unfold f_Un_spell_21
  refine r_istore_n (q := 22) (i := 2) (lv' := [(2, vI t0), (0, vA (some a)), (1, vA r1)]) C d_Un_spell_21 rfl rfl (by decide) rfl ?_
  refine r_aload_n (q := 23) (i := 1) (pl := 2) C d_Un_spell_22 rfl rfl rfl ?_
  refine r_iload_n (q := 24) (i := 2) (pl := 0) C d_Un_spell_23 rfl rfl rfl ?_
  refine r_csI (q := 27) (As := [vA r1, vI t0]) (st := []) C d_Un_spell_24 rfl Y_Un_checkOf L_Un_22 St_Un_checkOf rfl (Nat.le_of_ble_eq_true rfl) (Nat.le_of_ble_eq_true rfl) (Nat.le_of_ble_eq_true rfl) rfl (con_Un_checkOf r1 t0) (fun v1 => ?_)
  refine r_istore_n (q := 28) (i := 3) (lv' := [(3, vI v1), (2, vI t0), (0, vA (some a)), (1, vA r1)]) C d_Un_spell_27 rfl rfl (by decide) rfl ?_
  refine r_aload_n (q := 29) (i := 1) (pl := 3) C d_Un_spell_28 rfl rfl rfl ?_
  refine r_iload_n (q := 30) (i := 2) (pl := 1) C d_Un_spell_29 rfl rfl rfl ?_
  refine r_iload_n (q := 31) (i := 3) (pl := 0) C d_Un_spell_30 rfl rfl rfl ?_
  refine r_sipush (q := 34) (v := 255) C d_Un_spell_31 rfl (by decide) ?_
  refine r_iand (q := 35) C d_Un_spell_34 rfl ?_
  refine r_bI (q := 36) C (Or.inl rfl) d_Un_spell_35 rfl ?_
  refine r_aload_n (q := 37) (i := 1) (pl := 3) C d_Un_spell_36 rfl rfl rfl ?_
  refine r_iload_n (q := 38) (i := 2) (pl := 1) C d_Un_spell_37 rfl rfl rfl ?_
  refine r_iconst (q := 39) (v := 1) C d_Un_spell_38 rfl (by decide) ?_
  refine r_iadd (q := 40) C d_Un_spell_39 rfl ?_
  refine r_iload_n (q := 41) (i := 3) (pl := 0) C d_Un_spell_40 rfl rfl rfl ?_
  refine r_bipush (q := 43) (v := 8) C d_Un_spell_41 rfl (by decide) ?_
  refine r_ishr (q := 44) C d_Un_spell_43 rfl ?_
  refine r_bI (q := 45) C (Or.inl rfl) d_Un_spell_44 rfl ?_
  refine r_iload_n (q := 46) (i := 2) (pl := 1) C d_Un_spell_45 rfl rfl rfl ?_
  refine r_iconst (q := 47) (v := 2) C d_Un_spell_46 rfl (by decide) ?_
  refine r_iadd (q := 48) C d_Un_spell_47 rfl ?_
  exact r_iret C d_Un_spell_48 rfl
def f_Un_spell (a : Nat) (r1 : Option Nat) : sn_M := g_I 9 0 (some a) fun v2 => (if (4 : Int32) ≤ v2 then n_n 9 (some a) fun a3 => c_I (f_Un_spellNumbered a3 r1) fun v4 => f_Un_spell_21 a r1 v4 else n_n 9 (some a) fun a5 => c_I (f_Un_spellState a5 r1) fun v6 => f_Un_spell_21 a r1 v6)
set_option maxHeartbeats 4000000 in
set_option maxRecDepth 100000 in
theorem mono_Un_spell (a : Nat) (r1 : Option Nat) : sn_Mono (f_Un_spell a r1) := sn_Mono.gI (fun v2 => sn_Mono.ite (sn_Mono.nn (fun a3 => sn_Mono.cI (mono_Un_spellNumbered a3 r1) (fun v4 => mono_Un_spell_21 a r1 v4))) (sn_Mono.nn (fun a5 => sn_Mono.cI (mono_Un_spellState a5 r1) (fun v6 => mono_Un_spell_21 a r1 v6))))
set_option maxHeartbeats 4000000 in
set_option maxRecDepth 100000 in
theorem con_Un_spell (a : Nat) (r1 : Option Nat) : sn_Con y_Un_spell c_Un_spell 4 (some .int) 2 44 [vA (some a), vA r1] (f_Un_spell a r1) := by
  refine sn_Con.of (by decide +kernel) (by show _ ≤ _; exact Nat.le_of_ble_eq_true rfl) (mono_Un_spell a r1) (fun X C => ?_)
  show sn_S X 0 [(0, vA (some a)), (1, vA r1)] [] _
  replace C : sn_Cx X c_Un_spell "SignalNetwork$Unit" (some .int) "spell" 4 2 44 := C
  unfold f_Un_spell
  refine r_aload_n (q := 1) (i := 0) (pl := 0) C d_Un_spell_0 rfl rfl rfl ?_
  refine r_gI (q := 4) C d_Un_spell_1 rfl F_Un_9 rfl (fun v2 => ?_)
  refine r_iconst (q := 5) (v := 4) C d_Un_spell_4 rfl (by decide) ?_
  refine r_icmp_ge (tgt := 16) (q := 8) C d_Un_spell_5 (by decide) rfl ?_ ?_
  · refine r_aload_n (q := 17) (i := 0) (pl := 0) C d_Un_spell_16 rfl rfl rfl ?_
    refine r_aload_n (q := 18) (i := 1) (pl := 1) C d_Un_spell_17 rfl rfl rfl ?_
    refine r_cvI (q := 21) (As := [vA r1]) (st := []) (cy := 8) C d_Un_spell_18 rfl Y_Un_spellNumbered L_Un_19 I_Un_spellNumbered Se_Un_spellNumbered rfl (by decide) rfl (Nat.le_of_ble_eq_true rfl) (Nat.le_of_ble_eq_true rfl) (Nat.le_of_ble_eq_true rfl) rfl (fun a3 => con_Un_spellNumbered a3 r1) (fun v4 => ?_)
    exact s_Un_spell_21 C a r1 v4
  · refine r_aload_n (q := 9) (i := 0) (pl := 0) C d_Un_spell_8 rfl rfl rfl ?_
    refine r_aload_n (q := 10) (i := 1) (pl := 1) C d_Un_spell_9 rfl rfl rfl ?_
    refine r_cvI (q := 13) (As := [vA r1]) (st := []) (cy := 8) C d_Un_spell_10 rfl Y_Un_spellState L_Un_15 I_Un_spellState Se_Un_spellState rfl (by decide) rfl (Nat.le_of_ble_eq_true rfl) (Nat.le_of_ble_eq_true rfl) (Nat.le_of_ble_eq_true rfl) rfl (fun a5 => con_Un_spellState a5 r1) (fun v6 => ?_)
    refine r_goto (tgt := 21) C d_Un_spell_13 (by decide) ?_
    exact s_Un_spell_21 C a r1 v6
theorem d_Un_bitsOnLine_0 : decode c_Un_bitsOnLine 0 = .ok (.bipush 8, 2) := by decide +kernel
theorem d_Un_bitsOnLine_2 : decode c_Un_bitsOnLine 2 = .ok (.iload_n 1, 1) := by decide +kernel
theorem d_Un_bitsOnLine_3 : decode c_Un_bitsOnLine 3 = .ok (.imul, 1) := by decide +kernel
theorem d_Un_bitsOnLine_4 : decode c_Un_bitsOnLine 4 = .ok (.istore_n 2, 1) := by decide +kernel
theorem d_Un_bitsOnLine_5 : decode c_Un_bitsOnLine 5 = .ok (.iconst 0, 1) := by decide +kernel
theorem d_Un_bitsOnLine_6 : decode c_Un_bitsOnLine 6 = .ok (.istore_n 3, 1) := by decide +kernel
theorem d_Un_bitsOnLine_7 : decode c_Un_bitsOnLine 7 = .ok (.iconst 0, 1) := by decide +kernel
theorem d_Un_bitsOnLine_8 : decode c_Un_bitsOnLine 8 = .ok (.istore 4, 2) := by decide +kernel
theorem d_Un_bitsOnLine_10 : decode c_Un_bitsOnLine 10 = .ok (.iload 4, 2) := by decide +kernel
theorem d_Un_bitsOnLine_12 : decode c_Un_bitsOnLine 12 = .ok (.bipush 8, 2) := by decide +kernel
theorem d_Un_bitsOnLine_14 : decode c_Un_bitsOnLine 14 = .ok (.iload_n 1, 1) := by decide +kernel
theorem d_Un_bitsOnLine_15 : decode c_Un_bitsOnLine 15 = .ok (.imul, 1) := by decide +kernel
theorem d_Un_bitsOnLine_16 : decode c_Un_bitsOnLine 16 = .ok (.if_icmp .ge 46, 3) := by decide +kernel
theorem d_Un_bitsOnLine_19 : decode c_Un_bitsOnLine 19 = .ok (.aload_n 0, 1) := by decide +kernel
theorem d_Un_bitsOnLine_20 : decode c_Un_bitsOnLine 20 = .ok (.iload 4, 2) := by decide +kernel
theorem d_Un_bitsOnLine_22 : decode c_Un_bitsOnLine 22 = .ok (.bipush 8, 2) := by decide +kernel
theorem d_Un_bitsOnLine_24 : decode c_Un_bitsOnLine 24 = .ok (.idiv, 1) := by decide +kernel
theorem d_Un_bitsOnLine_25 : decode c_Un_bitsOnLine 25 = .ok (.iaload, 1) := by decide +kernel
theorem d_Un_bitsOnLine_26 : decode c_Un_bitsOnLine 26 = .ok (.iload 4, 2) := by decide +kernel
theorem d_Un_bitsOnLine_28 : decode c_Un_bitsOnLine 28 = .ok (.bipush 8, 2) := by decide +kernel
theorem d_Un_bitsOnLine_30 : decode c_Un_bitsOnLine 30 = .ok (.irem, 1) := by decide +kernel
theorem d_Un_bitsOnLine_31 : decode c_Un_bitsOnLine 31 = .ok (.ishr, 1) := by decide +kernel
theorem d_Un_bitsOnLine_32 : decode c_Un_bitsOnLine 32 = .ok (.iconst 1, 1) := by decide +kernel
theorem d_Un_bitsOnLine_33 : decode c_Un_bitsOnLine 33 = .ok (.iand, 1) := by decide +kernel
theorem d_Un_bitsOnLine_34 : decode c_Un_bitsOnLine 34 = .ok (.iconst 1, 1) := by decide +kernel
theorem d_Un_bitsOnLine_35 : decode c_Un_bitsOnLine 35 = .ok (.if_icmp .ne 9, 3) := by decide +kernel
theorem d_Un_bitsOnLine_38 : decode c_Un_bitsOnLine 38 = .ok (.iload_n 3, 1) := by decide +kernel
theorem d_Un_bitsOnLine_39 : decode c_Un_bitsOnLine 39 = .ok (.iconst 1, 1) := by decide +kernel
theorem d_Un_bitsOnLine_40 : decode c_Un_bitsOnLine 40 = .ok (.iadd, 1) := by decide +kernel
theorem d_Un_bitsOnLine_41 : decode c_Un_bitsOnLine 41 = .ok (.goto 4, 3) := by decide +kernel
theorem d_Un_bitsOnLine_44 : decode c_Un_bitsOnLine 44 = .ok (.iconst 0, 1) := by decide +kernel
theorem d_Un_bitsOnLine_45 : decode c_Un_bitsOnLine 45 = .ok (.istore_n 3, 1) := by decide +kernel
theorem d_Un_bitsOnLine_46 : decode c_Un_bitsOnLine 46 = .ok (.iload_n 3, 1) := by decide +kernel
theorem d_Un_bitsOnLine_47 : decode c_Un_bitsOnLine 47 = .ok (.iconst 5, 1) := by decide +kernel
theorem d_Un_bitsOnLine_48 : decode c_Un_bitsOnLine 48 = .ok (.if_icmp .ne 8, 3) := by decide +kernel
theorem d_Un_bitsOnLine_51 : decode c_Un_bitsOnLine 51 = .ok (.iinc 2 1, 3) := by decide +kernel
theorem d_Un_bitsOnLine_54 : decode c_Un_bitsOnLine 54 = .ok (.iconst 0, 1) := by decide +kernel
theorem d_Un_bitsOnLine_55 : decode c_Un_bitsOnLine 55 = .ok (.istore_n 3, 1) := by decide +kernel
theorem d_Un_bitsOnLine_56 : decode c_Un_bitsOnLine 56 = .ok (.iinc 4 1, 3) := by decide +kernel
theorem d_Un_bitsOnLine_59 : decode c_Un_bitsOnLine 59 = .ok (.goto (-49), 3) := by decide +kernel
theorem d_Un_bitsOnLine_62 : decode c_Un_bitsOnLine 62 = .ok (.iload_n 2, 1) := by decide +kernel
theorem d_Un_bitsOnLine_63 : decode c_Un_bitsOnLine 63 = .ok (.ireturn, 1) := by decide +kernel
def f_Un_bitsOnLine_56 (k10 : Option Nat → Int32 → Int32 → Int32 → Int32 → sn_M) (r0 : Option Nat) (x1 : Int32) (x2 : Int32) (x3 : Int32) (x4 : Int32) : sn_M := k10 r0 x1 x2 x3 (x4 + (1 : Int32))
set_option maxHeartbeats 4000000 in
set_option maxRecDepth 100000 in
theorem mono_Un_bitsOnLine_56 (k10 : Option Nat → Int32 → Int32 → Int32 → Int32 → sn_M) (mk10 : ∀ (r0 : Option Nat) (x1 : Int32) (x2 : Int32) (x3 : Int32) (x4 : Int32), sn_Mono (k10 r0 x1 x2 x3 x4)) (r0 : Option Nat) (x1 : Int32) (x2 : Int32) (x3 : Int32) (x4 : Int32) : sn_Mono (f_Un_bitsOnLine_56 k10 r0 x1 x2 x3 x4) := mk10 r0 x1 x2 x3 (x4 + (1 : Int32))
set_option maxHeartbeats 4000000 in
set_option maxRecDepth 100000 in
theorem s_Un_bitsOnLine_56 {X : sn_X} (C : sn_Cx X c_Un_bitsOnLine "SignalNetwork$Unit" (some .int) "bitsOnLine" 5 0 0) (k10 : Option Nat → Int32 → Int32 → Int32 → Int32 → sn_M) (hk10 : ∀ (r0 : Option Nat) (x1 : Int32) (x2 : Int32) (x3 : Int32) (x4 : Int32), sn_S X 10 [(0, vA r0), (1, vI x1), (2, vI x2), (3, vI x3), (4, vI x4)] [] (k10 r0 x1 x2 x3 x4)) (r0 : Option Nat) (x1 : Int32) (x2 : Int32) (x3 : Int32) (x4 : Int32) : sn_S X 56 [(0, vA r0), (1, vI x1), (2, vI x2), (3, vI x3), (4, vI x4)] [] (f_Un_bitsOnLine_56 k10 r0 x1 x2 x3 x4) := by
  unfold f_Un_bitsOnLine_56
  refine r_iinc (q := 59) (pl := 4) (v := x4 + (1 : Int32)) (lv' := [(4, vI (x4 + (1 : Int32))), (0, vA r0), (1, vI x1), (2, vI x2), (3, vI x3)]) C d_Un_bitsOnLine_56 rfl rfl rfl (by decide) rfl ?_
  refine r_goto (tgt := 10) C d_Un_bitsOnLine_59 (by decide) ?_
  refine r_sub (lv' := [(0, vA r0), (1, vI x1), (2, vI x2), (3, vI x3), (4, vI (x4 + (1 : Int32)))]) [1, 2, 3, 4, 0] rfl ?_
  exact hk10 r0 x1 x2 x3 (x4 + (1 : Int32))
def f_Un_bitsOnLine_45 (k10 : Option Nat → Int32 → Int32 → Int32 → Int32 → sn_M) (r0 : Option Nat) (x1 : Int32) (x2 : Int32) (x4 : Int32) (t0 : Int32) : sn_M := (if ¬ t0 = (5 : Int32) then f_Un_bitsOnLine_56 k10 r0 x1 x2 t0 x4 else f_Un_bitsOnLine_56 k10 r0 x1 (x2 + (1 : Int32)) (0 : Int32) x4)
set_option maxHeartbeats 4000000 in
set_option maxRecDepth 100000 in
theorem mono_Un_bitsOnLine_45 (k10 : Option Nat → Int32 → Int32 → Int32 → Int32 → sn_M) (mk10 : ∀ (r0 : Option Nat) (x1 : Int32) (x2 : Int32) (x3 : Int32) (x4 : Int32), sn_Mono (k10 r0 x1 x2 x3 x4)) (r0 : Option Nat) (x1 : Int32) (x2 : Int32) (x4 : Int32) (t0 : Int32) : sn_Mono (f_Un_bitsOnLine_45 k10 r0 x1 x2 x4 t0) := sn_Mono.ite (mono_Un_bitsOnLine_56 k10 mk10 r0 x1 x2 t0 x4) (mono_Un_bitsOnLine_56 k10 mk10 r0 x1 (x2 + (1 : Int32)) (0 : Int32) x4)
set_option maxHeartbeats 4000000 in
set_option maxRecDepth 100000 in
theorem s_Un_bitsOnLine_45 {X : sn_X} (C : sn_Cx X c_Un_bitsOnLine "SignalNetwork$Unit" (some .int) "bitsOnLine" 5 0 0) (k10 : Option Nat → Int32 → Int32 → Int32 → Int32 → sn_M) (hk10 : ∀ (r0 : Option Nat) (x1 : Int32) (x2 : Int32) (x3 : Int32) (x4 : Int32), sn_S X 10 [(0, vA r0), (1, vI x1), (2, vI x2), (3, vI x3), (4, vI x4)] [] (k10 r0 x1 x2 x3 x4)) (r0 : Option Nat) (x1 : Int32) (x2 : Int32) (x4 : Int32) (t0 : Int32) : sn_S X 45 [(0, vA r0), (1, vI x1), (2, vI x2), (4, vI x4)] [vI t0] (f_Un_bitsOnLine_45 k10 r0 x1 x2 x4 t0) := by
  unfold f_Un_bitsOnLine_45
  refine r_istore_n (q := 46) (i := 3) (lv' := [(3, vI t0), (0, vA r0), (1, vI x1), (2, vI x2), (4, vI x4)]) C d_Un_bitsOnLine_45 rfl rfl (by decide) rfl ?_
  refine r_iload_n (q := 47) (i := 3) (pl := 0) C d_Un_bitsOnLine_46 rfl rfl rfl ?_
  refine r_iconst (q := 48) (v := 5) C d_Un_bitsOnLine_47 rfl (by decide) ?_
  refine r_icmp_ne (tgt := 56) (q := 51) C d_Un_bitsOnLine_48 (by decide) rfl ?_ ?_
  · refine r_sub (lv' := [(0, vA r0), (1, vI x1), (2, vI x2), (3, vI t0), (4, vI x4)]) [1, 2, 3, 0, 4] rfl ?_
    exact s_Un_bitsOnLine_56 C k10 hk10 r0 x1 x2 t0 x4
  · refine r_iinc (q := 54) (pl := 3) (v := x2 + (1 : Int32)) (lv' := [(2, vI (x2 + (1 : Int32))), (3, vI t0), (0, vA r0), (1, vI x1), (4, vI x4)]) C d_Un_bitsOnLine_51 rfl rfl rfl (by decide) rfl ?_
    refine r_iconst (q := 55) (v := 0) C d_Un_bitsOnLine_54 rfl (by decide) ?_
    refine r_istore_n (q := 56) (i := 3) (lv' := [(3, vI (0 : Int32)), (2, vI (x2 + (1 : Int32))), (0, vA r0), (1, vI x1), (4, vI x4)]) C d_Un_bitsOnLine_55 rfl rfl (by decide) rfl ?_
    refine r_sub (lv' := [(0, vA r0), (1, vI x1), (2, vI (x2 + (1 : Int32))), (3, vI (0 : Int32)), (4, vI x4)]) [2, 3, 1, 0, 4] rfl ?_
    exact s_Un_bitsOnLine_56 C k10 hk10 r0 x1 (x2 + (1 : Int32)) (0 : Int32) x4
def f_Un_bitsOnLine_10 : Nat → Option Nat → Int32 → Int32 → Int32 → Int32 → sn_M
  | 0, _, _, _, _, _ => r_0
  | n + 1, r0, x1, x2, x3, x4 => (if ((8 : Int32) * x1) ≤ x4 then r_I x2 else a_I 21 r0 (x4 / (8 : Int32)) fun v1 => (if ¬ ((v1 >>> ((x4 % (8 : Int32)) &&& 31)) &&& (1 : Int32)) = (1 : Int32) then f_Un_bitsOnLine_45 (f_Un_bitsOnLine_10 n) r0 x1 x2 x4 (0 : Int32) else f_Un_bitsOnLine_45 (f_Un_bitsOnLine_10 n) r0 x1 x2 x4 (x3 + (1 : Int32))))
set_option maxHeartbeats 4000000 in
set_option maxRecDepth 100000 in
theorem mono_Un_bitsOnLine_10 : ∀ (n : Nat) (r0 : Option Nat) (x1 : Int32) (x2 : Int32) (x3 : Int32) (x4 : Int32), sn_Mono (f_Un_bitsOnLine_10 n r0 x1 x2 x3 x4)
  | 0, _, _, _, _, _ => sn_Mono.r0
  | n + 1, r0, x1, x2, x3, x4 => sn_Mono.ite (sn_Mono.rI) (sn_Mono.aI (fun v1 => sn_Mono.ite (mono_Un_bitsOnLine_45 (f_Un_bitsOnLine_10 n) (mono_Un_bitsOnLine_10 n) r0 x1 x2 x4 (0 : Int32)) (mono_Un_bitsOnLine_45 (f_Un_bitsOnLine_10 n) (mono_Un_bitsOnLine_10 n) r0 x1 x2 x4 (x3 + (1 : Int32)))))
set_option maxHeartbeats 4000000 in
set_option maxRecDepth 100000 in
theorem s_Un_bitsOnLine_10 {X : sn_X} (C : sn_Cx X c_Un_bitsOnLine "SignalNetwork$Unit" (some .int) "bitsOnLine" 5 0 0) (n : Nat) : ∀ (r0 : Option Nat) (x1 : Int32) (x2 : Int32) (x3 : Int32) (x4 : Int32), sn_S X 10 [(0, vA r0), (1, vI x1), (2, vI x2), (3, vI x3), (4, vI x4)] [] (f_Un_bitsOnLine_10 n r0 x1 x2 x3 x4) := by
  induction n with
  | zero => intro r0 x1 x2 x3 x4; exact sn_S.zero
  | succ n ih =>
    intro r0 x1 x2 x3 x4
    unfold f_Un_bitsOnLine_10
    refine r_iload (q := 12) (i := 4) (pl := 4) C d_Un_bitsOnLine_10 rfl rfl ?_
    refine r_bipush (q := 14) (v := 8) C d_Un_bitsOnLine_12 rfl (by decide) ?_
    refine r_iload_n (q := 15) (i := 1) (pl := 1) C d_Un_bitsOnLine_14 rfl rfl rfl ?_
    refine r_imul (q := 16) C d_Un_bitsOnLine_15 rfl ?_
    refine r_icmp_ge (tgt := 62) (q := 19) C d_Un_bitsOnLine_16 (by decide) rfl ?_ ?_
    · refine r_iload_n (q := 63) (i := 2) (pl := 2) C d_Un_bitsOnLine_62 rfl rfl rfl ?_
      exact r_iret C d_Un_bitsOnLine_63 rfl
    · refine r_aload_n (q := 20) (i := 0) (pl := 0) C d_Un_bitsOnLine_19 rfl rfl rfl ?_
      refine r_iload (q := 22) (i := 4) (pl := 4) C d_Un_bitsOnLine_20 rfl rfl ?_
      refine r_bipush (q := 24) (v := 8) C d_Un_bitsOnLine_22 rfl (by decide) ?_
      refine r_idivc (q := 25) C d_Un_bitsOnLine_24 rfl (by decide) ?_
      refine r_aI (q := 26) C (Or.inl rfl) d_Un_bitsOnLine_25 rfl (fun v1 => ?_)
      refine r_iload (q := 28) (i := 4) (pl := 4) C d_Un_bitsOnLine_26 rfl rfl ?_
      refine r_bipush (q := 30) (v := 8) C d_Un_bitsOnLine_28 rfl (by decide) ?_
      refine r_iremc (q := 31) C d_Un_bitsOnLine_30 rfl (by decide) ?_
      refine r_ishr (q := 32) C d_Un_bitsOnLine_31 rfl ?_
      refine r_iconst (q := 33) (v := 1) C d_Un_bitsOnLine_32 rfl (by decide) ?_
      refine r_iand (q := 34) C d_Un_bitsOnLine_33 rfl ?_
      refine r_iconst (q := 35) (v := 1) C d_Un_bitsOnLine_34 rfl (by decide) ?_
      refine r_icmp_ne (tgt := 44) (q := 38) C d_Un_bitsOnLine_35 (by decide) rfl ?_ ?_
      · refine r_iconst (q := 45) (v := 0) C d_Un_bitsOnLine_44 rfl (by decide) ?_
        refine r_sub (lv' := [(0, vA r0), (1, vI x1), (2, vI x2), (4, vI x4)]) [0, 1, 2, 4] rfl ?_
        exact s_Un_bitsOnLine_45 C (f_Un_bitsOnLine_10 n) ih r0 x1 x2 x4 (0 : Int32)
      · refine r_iload_n (q := 39) (i := 3) (pl := 3) C d_Un_bitsOnLine_38 rfl rfl rfl ?_
        refine r_iconst (q := 40) (v := 1) C d_Un_bitsOnLine_39 rfl (by decide) ?_
        refine r_iadd (q := 41) C d_Un_bitsOnLine_40 rfl ?_
        refine r_goto (tgt := 45) C d_Un_bitsOnLine_41 (by decide) ?_
        refine r_sub (lv' := [(0, vA r0), (1, vI x1), (2, vI x2), (4, vI x4)]) [0, 1, 2, 4] rfl ?_
        exact s_Un_bitsOnLine_45 C (f_Un_bitsOnLine_10 n) ih r0 x1 x2 x4 (x3 + (1 : Int32))
def f_Un_bitsOnLine (r0 : Option Nat) (x1 : Int32) : sn_M := n_I (((8 : Int32) * x1)) fun n2 => f_Un_bitsOnLine_10 sn_fuel r0 x1 n2 (0 : Int32) (0 : Int32)
set_option maxHeartbeats 4000000 in
set_option maxRecDepth 100000 in
theorem mono_Un_bitsOnLine (r0 : Option Nat) (x1 : Int32) : sn_Mono (f_Un_bitsOnLine r0 x1) := sn_Mono.nI (fun n2 => mono_Un_bitsOnLine_10 sn_fuel r0 x1 n2 (0 : Int32) (0 : Int32))
set_option maxHeartbeats 4000000 in
set_option maxRecDepth 100000 in
theorem con_Un_bitsOnLine (r0 : Option Nat) (x1 : Int32) : sn_Con y_Un_bitsOnLine c_Un_bitsOnLine 5 (some .int) 0 0 [vA r0, vI x1] (f_Un_bitsOnLine r0 x1) := by
  refine sn_Con.of (by decide +kernel) (by show _ ≤ _; exact Nat.le_of_ble_eq_true rfl) (mono_Un_bitsOnLine r0 x1) (fun X C => ?_)
  show sn_S X 0 [(0, vA r0), (1, vI x1)] [] _
  replace C : sn_Cx X c_Un_bitsOnLine "SignalNetwork$Unit" (some .int) "bitsOnLine" 5 0 0 := C
  unfold f_Un_bitsOnLine
  refine r_bipush (q := 2) (v := 8) C d_Un_bitsOnLine_0 rfl (by decide) ?_
  refine r_iload_n (q := 3) (i := 1) (pl := 1) C d_Un_bitsOnLine_2 rfl rfl rfl ?_
  refine r_imul (q := 4) C d_Un_bitsOnLine_3 rfl ?_
  refine r_nI (fun n2 => ?_)
  refine r_istore_n (q := 5) (i := 2) (lv' := [(2, vI n2), (0, vA r0), (1, vI x1)]) C d_Un_bitsOnLine_4 rfl rfl (by decide) rfl ?_
  refine r_iconst (q := 6) (v := 0) C d_Un_bitsOnLine_5 rfl (by decide) ?_
  refine r_istore_n (q := 7) (i := 3) (lv' := [(3, vI (0 : Int32)), (2, vI n2), (0, vA r0), (1, vI x1)]) C d_Un_bitsOnLine_6 rfl rfl (by decide) rfl ?_
  refine r_iconst (q := 8) (v := 0) C d_Un_bitsOnLine_7 rfl (by decide) ?_
  refine r_istore (q := 10) (i := 4) (lv' := [(4, vI (0 : Int32)), (3, vI (0 : Int32)), (2, vI n2), (0, vA r0), (1, vI x1)]) C d_Un_bitsOnLine_8 rfl (by decide) rfl ?_
  refine r_sub (lv' := [(0, vA r0), (1, vI x1), (2, vI n2), (3, vI (0 : Int32)), (4, vI (0 : Int32))]) [3, 4, 2, 1, 0] rfl ?_
  exact s_Un_bitsOnLine_10 C sn_fuel r0 x1 n2 (0 : Int32) (0 : Int32)
