set_option maxHeartbeats 4000000 in
set_option maxRecDepth 100000 in
theorem re_Ck_beginLooking {ρ kk : Nat → Nat} (HI : sn_HI ρ kk) (a : Nat) (ha : kk a ≠ 0) : sn_Re ρ kk (f_Ck_beginLooking (ρ a)) (f_Ck_beginLooking a) := sn_Re.gI (r := (some a)) (by decide) (fun v1 => sn_Re.pI HI (r := (some a)) (by decide) (sn_Re.V))
set_option maxHeartbeats 4000000 in
set_option maxRecDepth 100000 in
theorem re_Ck_after {ρ kk : Nat → Nat} (HI : sn_HI ρ kk) (a : Nat) (ha : kk a ≠ 0) (x1 : Int32) : sn_Re ρ kk (f_Ck_after (ρ a) x1) (f_Ck_after a x1) := sn_Re.gI (r := (some a)) (by decide) (fun v1 => sn_Re.I)
set_option maxHeartbeats 4000000 in
set_option maxRecDepth 100000 in
theorem re_Ck_isOut_17 {ρ kk : Nat → Nat} (HI : sn_HI ρ kk) (a : Nat) (ha : kk a ≠ 0) (t0 : Int32) : sn_Re ρ kk (f_Ck_isOut_17 (ρ a) t0) (f_Ck_isOut_17 a t0) := sn_Re.Z
set_option maxHeartbeats 4000000 in
set_option maxRecDepth 100000 in
theorem re_Ck_isOut_16 {ρ kk : Nat → Nat} (HI : sn_HI ρ kk) (a : Nat) (ha : kk a ≠ 0) : sn_Re ρ kk (f_Ck_isOut_16 (ρ a)) (f_Ck_isOut_16 a) := re_Ck_isOut_17 HI a ha (0 : Int32)
set_option maxHeartbeats 4000000 in
set_option maxRecDepth 100000 in
theorem re_Ck_isOut {ρ kk : Nat → Nat} (HI : sn_HI ρ kk) (a : Nat) (ha : kk a ≠ 0) (x1 : Int32) : sn_Re ρ kk (f_Ck_isOut (ρ a) x1) (f_Ck_isOut a x1) := sn_Re.ite Iff.rfl (re_Ck_isOut_16 HI a ha) (sn_Re.gI (r := (some a)) (by decide) (fun v1 => sn_Re.ite Iff.rfl (re_Ck_isOut_16 HI a ha) (re_Ck_isOut_17 HI a ha (1 : Int32))))
set_option maxHeartbeats 4000000 in
set_option maxRecDepth 100000 in
theorem re_Ck_left_14 {ρ kk : Nat → Nat} (HI : sn_HI ρ kk) (a : Nat) (ha : kk a ≠ 0) (t0 : Int32) : sn_Re ρ kk (f_Ck_left_14 (ρ a) t0) (f_Ck_left_14 a t0) := sn_Re.I
set_option maxHeartbeats 4000000 in
set_option maxRecDepth 100000 in
theorem re_Ck_left {ρ kk : Nat → Nat} (HI : sn_HI ρ kk) (a : Nat) (ha : kk a ≠ 0) (x1 : Int32) : sn_Re ρ kk (f_Ck_left (ρ a) x1) (f_Ck_left a x1) := sn_Re.ite Iff.rfl (sn_Re.gI (r := (some a)) (by decide) (fun v1 => re_Ck_left_14 HI a ha (x1 - v1))) (re_Ck_left_14 HI a ha (0 : Int32))
set_option maxHeartbeats 4000000 in
set_option maxRecDepth 100000 in
theorem re_En_enter {ρ kk : Nat → Nat} (HI : sn_HI ρ kk) (a : Nat) (ha : kk a ≠ 0) (x1 : Int32) (x2 : Int32) : sn_Re ρ kk (f_En_enter (ρ a) x1 x2) (f_En_enter a x1 x2) := sn_Re.pI HI (r := (some a)) (by decide) (sn_Re.gR (r := (some a)) (by decide) (fun v1 hv1 => sn_Re.nn (r := v1) (by decide) (fun a3 ha3 => sn_Re.cI (re_Ck_after HI a3 ha3 x2) (fun v2 => sn_Re.pI HI (r := (some a)) (by decide) (sn_Re.V)))))
set_option maxHeartbeats 4000000 in
set_option maxRecDepth 100000 in
theorem re_En_start {ρ kk : Nat → Nat} (HI : sn_HI ρ kk) (a : Nat) (ha : kk a ≠ 0) (x1 : Int32) : sn_Re ρ kk (f_En_start (ρ a) x1) (f_En_start a x1) := sn_Re.nn (r := (some a)) (by decide) (fun a2 ha2 => sn_Re.cV (re_En_enter HI a2 ha2 (1 : Int32) (30 : Int32)) (sn_Re.pZ HI (r := (some a)) (by decide) (sn_Re.gI (r := (some a)) (by decide) (fun v3 => sn_Re.pI HI (r := (some a)) (by decide) (sn_Re.V)))))
set_option maxHeartbeats 4000000 in
set_option maxRecDepth 100000 in
theorem re_Wi_stop {ρ kk : Nat → Nat} (HI : sn_HI ρ kk) (a : Nat) (ha : kk a ≠ 0) : sn_Re ρ kk (f_Wi_stop (ρ a)) (f_Wi_stop a) := sn_Re.pI HI (r := (some a)) (by decide) (sn_Re.pI HI (r := (some a)) (by decide) (sn_Re.V))
set_option maxHeartbeats 4000000 in
set_option maxRecDepth 100000 in
theorem re_En_fallOut {ρ kk : Nat → Nat} (HI : sn_HI ρ kk) (a : Nat) (ha : kk a ≠ 0) : sn_Re ρ kk (f_En_fallOut (ρ a)) (f_En_fallOut a) := sn_Re.pI HI (r := (some a)) (by decide) (sn_Re.gR (r := (some a)) (by decide) (fun v1 hv1 => sn_Re.nn (r := v1) (by decide) (fun a3 ha3 => sn_Re.cI (re_Ck_after HI a3 ha3 (12 : Int32)) (fun v2 => sn_Re.pI HI (r := (some a)) (by decide) (sn_Re.gR (r := (some a)) (by decide) (fun v4 hv4 => sn_Re.nn (r := v4) (by decide) (fun a6 ha6 => sn_Re.cV (re_Wi_stop HI a6 ha6) (sn_Re.V))))))))
set_option maxHeartbeats 4000000 in
set_option maxRecDepth 100000 in
theorem re_En_isDamagedNow {ρ kk : Nat → Nat} (HI : sn_HI ρ kk) (a : Nat) (ha : kk a ≠ 0) : sn_Re ρ kk (f_En_isDamagedNow (ρ a)) (f_En_isDamagedNow a) := sn_Re.gI (r := (some a)) (by decide) (fun v1 => sn_Re.ite Iff.rfl (sn_Re.gI (r := (some a)) (by decide) (fun v2 => sn_Re.pI HI (r := (some a)) (by decide) (sn_Re.Z))) (sn_Re.Z))
set_option maxHeartbeats 4000000 in
set_option maxRecDepth 100000 in
theorem re_En_isProve_15 {ρ kk : Nat → Nat} (HI : sn_HI ρ kk) (t0 : Int32) : sn_Re ρ kk (f_En_isProve_15 t0) (f_En_isProve_15 t0) := sn_Re.Z
set_option maxHeartbeats 4000000 in
set_option maxRecDepth 100000 in
theorem re_En_isProve_10 {ρ kk : Nat → Nat} (HI : sn_HI ρ kk) : sn_Re ρ kk (f_En_isProve_10) (f_En_isProve_10) := re_En_isProve_15 HI (1 : Int32)
set_option maxHeartbeats 4000000 in
set_option maxRecDepth 100000 in
theorem re_En_isProve {ρ kk : Nat → Nat} (HI : sn_HI ρ kk) (x0 : Int32) : sn_Re ρ kk (f_En_isProve x0) (f_En_isProve x0) := sn_Re.ite Iff.rfl (re_En_isProve_10 HI) (sn_Re.ite Iff.rfl (re_En_isProve_15 HI (0 : Int32)) (re_En_isProve_10 HI))
set_option maxHeartbeats 4000000 in
set_option maxRecDepth 100000 in
theorem re_En_prove {ρ kk : Nat → Nat} (HI : sn_HI ρ kk) (a : Nat) (ha : kk a ≠ 0) (x1 : Int32) : sn_Re ρ kk (f_En_prove (ρ a) x1) (f_En_prove a x1) := sn_Re.pI HI (r := (some a)) (by decide) (sn_Re.gR (r := (some a)) (by decide) (fun v1 hv1 => sn_Re.nn (r := v1) (by decide) (fun a3 ha3 => sn_Re.cI (re_Ck_after HI a3 ha3 x1) (fun v2 => sn_Re.pI HI (r := (some a)) (by decide) (sn_Re.pI HI (r := (some a)) (by decide) (sn_Re.pI HI (r := (some a)) (by decide) (sn_Re.V)))))))
set_option maxHeartbeats 4000000 in
set_option maxRecDepth 100000 in
theorem re_En_hearAligned_43 {ρ kk : Nat → Nat} (HI : sn_HI ρ kk) (a : Nat) (ha : kk a ≠ 0) (t0 : Int32) : sn_Re ρ kk (f_En_hearAligned_43 (ρ a) t0) (f_En_hearAligned_43 a t0) := sn_Re.I
set_option maxHeartbeats 4000000 in
set_option maxRecDepth 100000 in
theorem re_En_hearAligned_34 {ρ kk : Nat → Nat} (HI : sn_HI ρ kk) (a : Nat) (ha : kk a ≠ 0) (x1 : Int32) : sn_Re ρ kk (f_En_hearAligned_34 (ρ a) x1) (f_En_hearAligned_34 a x1) := sn_Re.ite Iff.rfl (re_En_hearAligned_43 HI a ha (0 : Int32)) (re_En_hearAligned_43 HI a ha (1 : Int32))
set_option maxHeartbeats 4000000 in
set_option maxRecDepth 100000 in
theorem re_En_hearAligned_31 {ρ kk : Nat → Nat} (HI : sn_HI ρ kk) (a : Nat) (ha : kk a ≠ 0) (x1 : Int32) (t0 : Option Nat) (ht0 : sn_okr kk t0) (t1 : Int32) : sn_Re ρ kk (f_En_hearAligned_31 (ρ a) x1 (t0.map ρ) t1) (f_En_hearAligned_31 a x1 t0 t1) := sn_Re.nn (r := t0) (by decide) (fun a2 ha2 => sn_Re.cV (re_En_prove HI a2 ha2 t1) (re_En_hearAligned_34 HI a ha x1))
set_option maxHeartbeats 4000000 in
set_option maxRecDepth 100000 in
theorem re_En_hearAligned_25 {ρ kk : Nat → Nat} (HI : sn_HI ρ kk) (a : Nat) (ha : kk a ≠ 0) (x1 : Int32) (t0 : Option Nat) (ht0 : sn_okr kk t0) : sn_Re ρ kk (f_En_hearAligned_25 (ρ a) x1 (t0.map ρ)) (f_En_hearAligned_25 a x1 t0) := re_En_hearAligned_31 HI a ha x1 t0 ht0 (3 : Int32)
set_option maxHeartbeats 4000000 in
set_option maxRecDepth 100000 in
theorem re_En_hearAligned {ρ kk : Nat → Nat} (HI : sn_HI ρ kk) (a : Nat) (ha : kk a ≠ 0) (x1 : Int32) : sn_Re ρ kk (f_En_hearAligned (ρ a) x1) (f_En_hearAligned a x1) := sn_Re.cI (re_En_isProve HI x1) (fun v3 => sn_Re.ite Iff.rfl (re_En_hearAligned_34 HI a ha x1) (sn_Re.pI HI (r := (some a)) (by decide) (sn_Re.gI (r := (some a)) (by decide) (fun v4 => sn_Re.ite Iff.rfl (re_En_hearAligned_25 HI a ha x1 (some a) (sn_okr1 ha)) (sn_Re.ite Iff.rfl (re_En_hearAligned_31 HI a ha x1 (some a) (sn_okr1 ha) (8 : Int32)) (re_En_hearAligned_25 HI a ha x1 (some a) (sn_okr1 ha)))))))
set_option maxHeartbeats 4000000 in
set_option maxRecDepth 100000 in
theorem re_En_err_27 {ρ kk : Nat → Nat} (HI : sn_HI ρ kk) (a : Nat) (ha : kk a ≠ 0) (t0 : Int32) (t1 : Int32) : sn_Re ρ kk (f_En_err_27 (ρ a) t0 t1) (f_En_err_27 a t0 t1) := sn_Re.ite Iff.rfl (sn_Re.gI (r := (some a)) (by decide) (fun v1 => sn_Re.pI HI (r := (some a)) (by decide) (sn_Re.gI (r := (some a)) (by decide) (fun v2 => sn_Re.ite Iff.rfl (sn_Re.gI (r := (some a)) (by decide) (fun v3 => sn_Re.nn (r := (some a)) (by decide) (fun a5 ha5 => sn_Re.cV (re_En_prove HI a5 ha5 v3) (sn_Re.I)))) (sn_Re.I))))) (sn_Re.I)
set_option maxHeartbeats 4000000 in
set_option maxRecDepth 100000 in
theorem re_En_err {ρ kk : Nat → Nat} (HI : sn_HI ρ kk) (a : Nat) (ha : kk a ≠ 0) : sn_Re ρ kk (f_En_err (ρ a)) (f_En_err a) := sn_Re.gI (r := (some a)) (by decide) (fun v6 => sn_Re.pI HI (r := (some a)) (by decide) (sn_Re.gI (r := (some a)) (by decide) (fun v7 => sn_Re.gI (r := (some a)) (by decide) (fun v8 => sn_Re.ite Iff.rfl (re_En_err_27 HI a ha v7 (2 : Int32)) (re_En_err_27 HI a ha v7 (1 : Int32))))))
set_option maxHeartbeats 4000000 in
set_option maxRecDepth 100000 in
theorem re_En_hearProving_76 {ρ kk : Nat → Nat} (HI : sn_HI ρ kk) (a : Nat) (ha : kk a ≠ 0) : sn_Re ρ kk (f_En_hearProving_76 (ρ a)) (f_En_hearProving_76 a) := sn_Re.I
set_option maxHeartbeats 4000000 in
set_option maxRecDepth 100000 in
theorem re_En_hearProving_74 {ρ kk : Nat → Nat} (HI : sn_HI ρ kk) (a : Nat) (ha : kk a ≠ 0) : sn_Re ρ kk (f_En_hearProving_74 (ρ a)) (f_En_hearProving_74 a) := sn_Re.I
set_option maxHeartbeats 4000000 in
set_option maxRecDepth 100000 in
theorem re_En_hearProving {ρ kk : Nat → Nat} (HI : sn_HI ρ kk) (a : Nat) (ha : kk a ≠ 0) (x1 : Int32) : sn_Re ρ kk (f_En_hearProving (ρ a) x1) (f_En_hearProving a x1) := sn_Re.swC (sn_Re.I) (sn_Re.swC (sn_Re.nn (r := (some a)) (by decide) (fun a2 ha2 => sn_Re.cV (re_En_enter HI a2 ha2 (2 : Int32) (15 : Int32)) (sn_Re.I))) (sn_Re.swC (re_En_hearProving_76 HI a ha) (sn_Re.swC (sn_Re.gI (r := (some a)) (by decide) (fun v3 => sn_Re.ite Iff.rfl (re_En_hearProving_74 HI a ha) (sn_Re.nn (r := (some a)) (by decide) (fun a5 ha5 => sn_Re.cV (re_En_prove HI a5 ha5 (3 : Int32)) (re_En_hearProving_74 HI a ha))))) (sn_Re.swC (re_En_hearProving_76 HI a ha) (sn_Re.swC (re_En_hearProving_76 HI a ha) (sn_Re.swC (sn_Re.nn (r := (some a)) (by decide) (fun a7 ha7 => sn_Re.cI (re_En_err HI a7 ha7) (fun v6 => sn_Re.I))) (sn_Re.swN (re_En_hearProving_76 HI a ha))))))))
set_option maxHeartbeats 4000000 in
set_option maxRecDepth 100000 in
theorem re_En_serve {ρ kk : Nat → Nat} (HI : sn_HI ρ kk) (a : Nat) (ha : kk a ≠ 0) : sn_Re ρ kk (f_En_serve (ρ a)) (f_En_serve a) := sn_Re.gI (r := (some a)) (by decide) (fun v1 => sn_Re.ite Iff.rfl (sn_Re.pI HI (r := (some a)) (by decide) (sn_Re.pI HI (r := (some a)) (by decide) (sn_Re.I))) (sn_Re.I))
set_option maxHeartbeats 4000000 in
set_option maxRecDepth 100000 in
theorem re_En_hearReady_115 {ρ kk : Nat → Nat} (HI : sn_HI ρ kk) (a : Nat) (ha : kk a ≠ 0) (t0 : Int32) : sn_Re ρ kk (f_En_hearReady_115 (ρ a) t0) (f_En_hearReady_115 a t0) := sn_Re.I
set_option maxHeartbeats 4000000 in
set_option maxRecDepth 100000 in
theorem re_En_hearReady_102 {ρ kk : Nat → Nat} (HI : sn_HI ρ kk) (a : Nat) (ha : kk a ≠ 0) : sn_Re ρ kk (f_En_hearReady_102 (ρ a)) (f_En_hearReady_102 a) := sn_Re.gI (r := (some a)) (by decide) (fun v1 => sn_Re.ite Iff.rfl (re_En_hearReady_115 HI a ha (0 : Int32)) (re_En_hearReady_115 HI a ha (1 : Int32)))
set_option maxHeartbeats 4000000 in
set_option maxRecDepth 100000 in
theorem re_En_hearReady_97 {ρ kk : Nat → Nat} (HI : sn_HI ρ kk) (a : Nat) (ha : kk a ≠ 0) : sn_Re ρ kk (f_En_hearReady_97 (ρ a)) (f_En_hearReady_97 a) := sn_Re.nn (r := (some a)) (by decide) (fun a3 ha3 => sn_Re.cI (re_En_serve HI a3 ha3) (fun v2 => sn_Re.I))
set_option maxHeartbeats 4000000 in
set_option maxRecDepth 100000 in
theorem re_En_hearReady_96 {ρ kk : Nat → Nat} (HI : sn_HI ρ kk) (a : Nat) (ha : kk a ≠ 0) (t0 : Int32) : sn_Re ρ kk (f_En_hearReady_96 (ρ a) t0) (f_En_hearReady_96 a t0) := sn_Re.I
set_option maxHeartbeats 4000000 in
set_option maxRecDepth 100000 in
theorem re_En_hearReady_37 {ρ kk : Nat → Nat} (HI : sn_HI ρ kk) (a : Nat) (ha : kk a ≠ 0) (x1 : Int32) : sn_Re ρ kk (f_En_hearReady_37 (ρ a) x1) (f_En_hearReady_37 a x1) := sn_Re.swC (re_En_hearReady_102 HI a ha) (sn_Re.swC (re_En_hearReady_102 HI a ha) (sn_Re.swC (re_En_hearReady_97 HI a ha) (sn_Re.swC (re_En_hearReady_97 HI a ha) (sn_Re.swC (sn_Re.gI (r := (some a)) (by decide) (fun v4 => sn_Re.pI HI (r := (some a)) (by decide) (sn_Re.gI (r := (some a)) (by decide) (fun v5 => sn_Re.ite Iff.rfl (re_En_hearReady_96 HI a ha (0 : Int32)) (re_En_hearReady_96 HI a ha (1 : Int32)))))) (sn_Re.swN (sn_Re.I))))))
set_option maxHeartbeats 4000000 in
set_option maxRecDepth 100000 in
theorem re_En_hearReady {ρ kk : Nat → Nat} (HI : sn_HI ρ kk) (a : Nat) (ha : kk a ≠ 0) (x1 : Int32) : sn_Re ρ kk (f_En_hearReady (ρ a) x1) (f_En_hearReady a x1) := sn_Re.gI (r := (some a)) (by decide) (fun v6 => sn_Re.pI HI (r := (some a)) (by decide) (sn_Re.gI (r := (some a)) (by decide) (fun v7 => sn_Re.ite Iff.rfl (re_En_hearReady_37 HI a ha x1) (sn_Re.gI (r := (some a)) (by decide) (fun v8 => sn_Re.ite Iff.rfl (re_En_hearReady_37 HI a ha x1) (sn_Re.gI (r := (some a)) (by decide) (fun v9 => sn_Re.pI HI (r := (some a)) (by decide) (re_En_hearReady_37 HI a ha x1))))))))
set_option maxHeartbeats 4000000 in
set_option maxRecDepth 100000 in
theorem re_En_hearSeeking_19 {ρ kk : Nat → Nat} (HI : sn_HI ρ kk) (a : Nat) (ha : kk a ≠ 0) : sn_Re ρ kk (f_En_hearSeeking_19 (ρ a)) (f_En_hearSeeking_19 a) := sn_Re.I
set_option maxHeartbeats 4000000 in
set_option maxRecDepth 100000 in
theorem re_En_hearSeeking_12 {ρ kk : Nat → Nat} (HI : sn_HI ρ kk) (a : Nat) (ha : kk a ≠ 0) : sn_Re ρ kk (f_En_hearSeeking_12 (ρ a)) (f_En_hearSeeking_12 a) := sn_Re.nn (r := (some a)) (by decide) (fun a2 ha2 => sn_Re.cV (re_En_enter HI a2 ha2 (2 : Int32) (15 : Int32)) (re_En_hearSeeking_19 HI a ha))
set_option maxHeartbeats 4000000 in
set_option maxRecDepth 100000 in
theorem re_En_hearSeeking {ρ kk : Nat → Nat} (HI : sn_HI ρ kk) (a : Nat) (ha : kk a ≠ 0) (x1 : Int32) : sn_Re ρ kk (f_En_hearSeeking (ρ a) x1) (f_En_hearSeeking a x1) := sn_Re.ite Iff.rfl (re_En_hearSeeking_12 HI a ha) (sn_Re.cI (re_En_isProve HI x1) (fun v3 => sn_Re.ite Iff.rfl (re_En_hearSeeking_19 HI a ha) (re_En_hearSeeking_12 HI a ha)))
set_option maxHeartbeats 4000000 in
set_option maxRecDepth 100000 in
theorem re_En_hear_21 {ρ kk : Nat → Nat} (HI : sn_HI ρ kk) (a : Nat) (ha : kk a ≠ 0) (x1 : Int32) : sn_Re ρ kk (f_En_hear_21 (ρ a) x1) (f_En_hear_21 a x1) := sn_Re.gI (r := (some a)) (by decide) (fun v1 => sn_Re.swC (sn_Re.nn (r := (some a)) (by decide) (fun a3 ha3 => sn_Re.cI (re_En_hearSeeking HI a3 ha3 x1) (fun v2 => sn_Re.I))) (sn_Re.swC (sn_Re.nn (r := (some a)) (by decide) (fun a5 ha5 => sn_Re.cI (re_En_hearAligned HI a5 ha5 x1) (fun v4 => sn_Re.I))) (sn_Re.swC (sn_Re.nn (r := (some a)) (by decide) (fun a7 ha7 => sn_Re.cI (re_En_hearProving HI a7 ha7 x1) (fun v6 => sn_Re.I))) (sn_Re.swN (sn_Re.nn (r := (some a)) (by decide) (fun a9 ha9 => sn_Re.cI (re_En_hearReady HI a9 ha9 x1) (fun v8 => sn_Re.I)))))))
set_option maxHeartbeats 4000000 in
set_option maxRecDepth 100000 in
theorem re_En_hear {ρ kk : Nat → Nat} (HI : sn_HI ρ kk) (a : Nat) (ha : kk a ≠ 0) (x1 : Int32) (x2 : Int32) : sn_Re ρ kk (f_En_hear (ρ a) x1 x2) (f_En_hear a x1 x2) := sn_Re.gI (r := (some a)) (by decide) (fun v10 => sn_Re.ite Iff.rfl (sn_Re.cI (re_En_isProve HI x1) (fun v11 => sn_Re.ite Iff.rfl (re_En_hear_21 HI a ha x1) (sn_Re.pI HI (r := (some a)) (by decide) (re_En_hear_21 HI a ha x1)))) (sn_Re.I))
set_option maxHeartbeats 4000000 in
set_option maxRecDepth 100000 in
theorem re_Wi_reset {ρ kk : Nat → Nat} (HI : sn_HI ρ kk) (a : Nat) (ha : kk a ≠ 0) : sn_Re ρ kk (f_Wi_reset (ρ a)) (f_Wi_reset a) := sn_Re.pI HI (r := (some a)) (by decide) (sn_Re.pI HI (r := (some a)) (by decide) (sn_Re.pI HI (r := (some a)) (by decide) (sn_Re.pI HI (r := (some a)) (by decide) (sn_Re.nn (r := (some a)) (by decide) (fun a2 ha2 => sn_Re.cV (re_Wi_stop HI a2 ha2) (sn_Re.V))))))
set_option maxHeartbeats 4000000 in
set_option maxRecDepth 100000 in
theorem re_En_becomeReady {ρ kk : Nat → Nat} (HI : sn_HI ρ kk) (a : Nat) (ha : kk a ≠ 0) : sn_Re ρ kk (f_En_becomeReady (ρ a)) (f_En_becomeReady a) := sn_Re.nn (r := (some a)) (by decide) (fun a2 ha2 => sn_Re.cV (re_En_enter HI a2 ha2 (4 : Int32) (15 : Int32)) (sn_Re.gR (r := (some a)) (by decide) (fun v3 hv3 => sn_Re.nn (r := v3) (by decide) (fun a5 ha5 => sn_Re.cV (re_Wi_reset HI a5 ha5) (sn_Re.pI HI (r := (some a)) (by decide) (sn_Re.pI HI (r := (some a)) (by decide) (sn_Re.V)))))))
set_option maxHeartbeats 4000000 in
set_option maxRecDepth 100000 in
theorem re_Qu_at_12 {ρ kk : Nat → Nat} (HI : sn_HI ρ kk) (a : Nat) (ha : kk a ≠ 0) : sn_Re ρ kk (f_Qu_at_12 (ρ a)) (f_Qu_at_12 a) := sn_Re.J
set_option maxHeartbeats 4000000 in
set_option maxRecDepth 100000 in
theorem re_Qu_at_45 {ρ kk : Nat → Nat} (HI : sn_HI ρ kk) (a : Nat) (ha : kk a ≠ 0) (t0 : Option Nat) (ht0 : sn_okr kk t0) (t1 : Int32) : sn_Re ρ kk (f_Qu_at_45 (ρ a) (t0.map ρ) t1) (f_Qu_at_45 a t0 t1) := sn_Re.aJ (r := t0) (by decide) (fun v1 => sn_Re.J)
set_option maxHeartbeats 4000000 in
set_option maxRecDepth 100000 in
theorem re_Qu_at {ρ kk : Nat → Nat} (HI : sn_HI ρ kk) (a : Nat) (ha : kk a ≠ 0) (x1 : Int32) : sn_Re ρ kk (f_Qu_at (ρ a) x1) (f_Qu_at a x1) := sn_Re.ite Iff.rfl (re_Qu_at_12 HI a ha) (sn_Re.gI (r := (some a)) (by decide) (fun v2 => sn_Re.ite Iff.rfl (sn_Re.gI (r := (some a)) (by decide) (fun v3 => sn_Re.nI (fun n4 => sn_Re.gR (r := (some a)) (by decide) (fun v5 hv5 => sn_Re.gR (r := (some a)) (by decide) (fun v6 hv6 => sn_Re.len (r := v6) (by decide) (fun v7 => sn_Re.ite Iff.rfl (sn_Re.gR (r := (some a)) (by decide) (fun v8 hv8 => sn_Re.len (r := v8) (by decide) (fun v9 => re_Qu_at_45 HI a ha v5 hv5 (n4 - v9)))) (re_Qu_at_45 HI a ha v5 hv5 n4))))))) (re_Qu_at_12 HI a ha)))
set_option maxHeartbeats 4000000 in
set_option maxRecDepth 100000 in
theorem re_Ma_floorMod_18 {ρ kk : Nat → Nat} (HI : sn_HI ρ kk) (x2 : Int32) : sn_Re ρ kk (f_Ma_floorMod_18 x2) (f_Ma_floorMod_18 x2) := sn_Re.I
set_option maxHeartbeats 4000000 in
set_option maxRecDepth 100000 in
theorem re_Ma_floorMod {ρ kk : Nat → Nat} (HI : sn_HI ρ kk) (x0 : Int32) (x1 : Int32) : sn_Re ρ kk (f_Ma_floorMod x0 x1) (f_Ma_floorMod x0 x1) := sn_Re.D (sn_Re.nI (fun n1 => sn_Re.ite Iff.rfl (re_Ma_floorMod_18 HI n1) (sn_Re.ite Iff.rfl (re_Ma_floorMod_18 HI n1) (sn_Re.I))))
set_option maxHeartbeats 4000000 in
set_option maxRecDepth 100000 in
theorem re_Wi_numberOf {ρ kk : Nat → Nat} (HI : sn_HI ρ kk) (a : Nat) (ha : kk a ≠ 0) (x1 : Int32) : sn_Re ρ kk (f_Wi_numberOf (ρ a) x1) (f_Wi_numberOf a x1) := sn_Re.gI (r := (some a)) (by decide) (fun v1 => sn_Re.gR (r := (some a)) (by decide) (fun v2 hv2 => sn_Re.gI (r := v2) (by decide) (fun v3 => sn_Re.cI (re_Ma_floorMod HI (((v1 - v3) + (1 : Int32)) + x1) (128 : Int32)) (fun v4 => sn_Re.I))))
set_option maxHeartbeats 4000000 in
set_option maxRecDepth 100000 in
theorem re_Wi_repeat_54 {ρ kk : Nat → Nat} (HI : sn_HI ρ kk) (a : Nat) (ha : kk a ≠ 0) (t0 : Option Nat) (ht0 : sn_okr kk t0) (t1 : Int32) : sn_Re ρ kk (f_Wi_repeat_54 (ρ a) (t0.map ρ) t1) (f_Wi_repeat_54 a t0 t1) := sn_Re.pI HI (r := t0) (by decide) (sn_Re.V)
set_option maxHeartbeats 4000000 in
set_option maxRecDepth 100000 in
theorem re_Wi_repeat {ρ kk : Nat → Nat} (HI : sn_HI ρ kk) (a : Nat) (ha : kk a ≠ 0) (r1 : Option Nat) (hr1 : sn_okr kk r1) : sn_Re ρ kk (f_Wi_repeat (ρ a) (r1.map ρ)) (f_Wi_repeat a r1) := sn_Re.gI (r := (some a)) (by decide) (fun v1 => sn_Re.nn (r := (some a)) (by decide) (fun a3 ha3 => sn_Re.cI (re_Wi_numberOf HI a3 ha3 v1) (fun v2 => sn_Re.pI HI (r := r1) (by decide) (sn_Re.gR (r := (some a)) (by decide) (fun v4 hv4 => sn_Re.gI (r := (some a)) (by decide) (fun v5 => sn_Re.nn (r := v4) (by decide) (fun a7 ha7 => sn_Re.cJ (re_Qu_at HI a7 ha7 v5) (fun v6 => sn_Re.pJ HI (r := r1) (by decide) (sn_Re.gI (r := (some a)) (by decide) (fun v8 => sn_Re.gR (r := (some a)) (by decide) (fun v9 hv9 => sn_Re.gI (r := v9) (by decide) (fun v10 => sn_Re.ite Iff.rfl (re_Wi_repeat_54 HI a ha (some a) (sn_okr1 ha) (-1 : Int32)) (sn_Re.gI (r := (some a)) (by decide) (fun v11 => re_Wi_repeat_54 HI a ha (some a) (sn_okr1 ha) (v11 + (1 : Int32))))))))))))))))
set_option maxHeartbeats 4000000 in
set_option maxRecDepth 100000 in
theorem re_Qu_add_48 {ρ kk : Nat → Nat} (HI : sn_HI ρ kk) (a : Nat) (ha : kk a ≠ 0) (l1 : Int64) (t0 : Option Nat) (ht0 : sn_okr kk t0) (t1 : Int32) : sn_Re ρ kk (f_Qu_add_48 (ρ a) l1 (t0.map ρ) t1) (f_Qu_add_48 a l1 t0 t1) := sn_Re.bJ HI (r := t0) (by decide) (sn_Re.gI (r := (some a)) (by decide) (fun v1 => sn_Re.pI HI (r := (some a)) (by decide) (sn_Re.Z)))
set_option maxHeartbeats 4000000 in
set_option maxRecDepth 100000 in
theorem re_Qu_add {ρ kk : Nat → Nat} (HI : sn_HI ρ kk) (a : Nat) (ha : kk a ≠ 0) (l1 : Int64) : sn_Re ρ kk (f_Qu_add (ρ a) l1) (f_Qu_add a l1) := sn_Re.gI (r := (some a)) (by decide) (fun v2 => sn_Re.gR (r := (some a)) (by decide) (fun v3 hv3 => sn_Re.len (r := v3) (by decide) (fun v4 => sn_Re.ite Iff.rfl (sn_Re.gI (r := (some a)) (by decide) (fun v5 => sn_Re.gI (r := (some a)) (by decide) (fun v6 => sn_Re.nI (fun n7 => sn_Re.gR (r := (some a)) (by decide) (fun v8 hv8 => sn_Re.gR (r := (some a)) (by decide) (fun v9 hv9 => sn_Re.len (r := v9) (by decide) (fun v10 => sn_Re.ite Iff.rfl (sn_Re.gR (r := (some a)) (by decide) (fun v11 hv11 => sn_Re.len (r := v11) (by decide) (fun v12 => re_Qu_add_48 HI a ha l1 v8 hv8 (n7 - v12)))) (re_Qu_add_48 HI a ha l1 v8 hv8 n7)))))))) (sn_Re.Z))))
set_option maxHeartbeats 4000000 in
set_option maxRecDepth 100000 in
theorem re_Qu_drop_57 {ρ kk : Nat → Nat} (HI : sn_HI ρ kk) (a : Nat) (ha : kk a ≠ 0) (x2 : Int32) (t0 : Option Nat) (ht0 : sn_okr kk t0) (t1 : Int32) : sn_Re ρ kk (f_Qu_drop_57 (ρ a) x2 (t0.map ρ) t1) (f_Qu_drop_57 a x2 t0 t1) := sn_Re.pI HI (r := t0) (by decide) (sn_Re.gI (r := (some a)) (by decide) (fun v1 => sn_Re.pI HI (r := (some a)) (by decide) (sn_Re.V)))
set_option maxHeartbeats 4000000 in
set_option maxRecDepth 100000 in
theorem re_Qu_drop_16 {ρ kk : Nat → Nat} (HI : sn_HI ρ kk) (a : Nat) (ha : kk a ≠ 0) (t0 : Int32) : sn_Re ρ kk (f_Qu_drop_16 (ρ a) t0) (f_Qu_drop_16 a t0) := sn_Re.gI (r := (some a)) (by decide) (fun v2 => sn_Re.pI HI (r := (some a)) (by decide) (sn_Re.gI (r := (some a)) (by decide) (fun v3 => sn_Re.gR (r := (some a)) (by decide) (fun v4 hv4 => sn_Re.len (r := v4) (by decide) (fun v5 => sn_Re.ite Iff.rfl (sn_Re.gI (r := (some a)) (by decide) (fun v6 => sn_Re.gR (r := (some a)) (by decide) (fun v7 hv7 => sn_Re.len (r := v7) (by decide) (fun v8 => re_Qu_drop_57 HI a ha t0 (some a) (sn_okr1 ha) (v6 - v8))))) (sn_Re.gI (r := (some a)) (by decide) (fun v9 => re_Qu_drop_57 HI a ha t0 (some a) (sn_okr1 ha) v9)))))))
set_option maxHeartbeats 4000000 in
set_option maxRecDepth 100000 in
theorem re_Qu_drop {ρ kk : Nat → Nat} (HI : sn_HI ρ kk) (a : Nat) (ha : kk a ≠ 0) (x1 : Int32) : sn_Re ρ kk (f_Qu_drop (ρ a) x1) (f_Qu_drop a x1) := sn_Re.gI (r := (some a)) (by decide) (fun v10 => sn_Re.ite Iff.rfl (sn_Re.gI (r := (some a)) (by decide) (fun v11 => re_Qu_drop_16 HI a ha v11)) (re_Qu_drop_16 HI a ha x1))
set_option maxHeartbeats 4000000 in
set_option maxRecDepth 100000 in
theorem re_Qu_takeFirst {ρ kk : Nat → Nat} (HI : sn_HI ρ kk) (a : Nat) (ha : kk a ≠ 0) : sn_Re ρ kk (f_Qu_takeFirst (ρ a)) (f_Qu_takeFirst a) := sn_Re.nn (r := (some a)) (by decide) (fun a2 ha2 => sn_Re.cJ (re_Qu_at HI a2 ha2 (0 : Int32)) (fun v1 => sn_Re.nn (r := (some a)) (by decide) (fun a4 ha4 => sn_Re.cV (re_Qu_drop HI a4 ha4 (1 : Int32)) (sn_Re.J))))
set_option maxHeartbeats 4000000 in
set_option maxRecDepth 100000 in
theorem re_Wi_sendAnew_23 {ρ kk : Nat → Nat} (HI : sn_HI ρ kk) (a : Nat) (ha : kk a ≠ 0) (r1 : Option Nat) (hr1 : sn_okr kk r1) : sn_Re ρ kk (f_Wi_sendAnew_23 (ρ a) (r1.map ρ)) (f_Wi_sendAnew_23 a r1) := sn_Re.gI (r := (some a)) (by decide) (fun v1 => sn_Re.pI HI (r := (some a)) (by decide) (sn_Re.gI (r := (some a)) (by decide) (fun v2 => sn_Re.pI HI (r := r1) (by decide) (sn_Re.gR (r := (some a)) (by decide) (fun v3 hv3 => sn_Re.nn (r := v3) (by decide) (fun a5 ha5 => sn_Re.cJ (re_Qu_takeFirst HI a5 ha5) (fun v4 => sn_Re.pJ HI (r := r1) (by decide) (sn_Re.gR (r := (some a)) (by decide) (fun v6 hv6 => sn_Re.gJ (r := r1) (by decide) (fun v7 => sn_Re.nn (r := v6) (by decide) (fun a9 ha9 => sn_Re.cI (re_Qu_add HI a9 ha9 v7) (fun v8 => sn_Re.V))))))))))))
set_option maxHeartbeats 4000000 in
set_option maxRecDepth 100000 in
theorem re_Wi_sendAnew {ρ kk : Nat → Nat} (HI : sn_HI ρ kk) (a : Nat) (ha : kk a ≠ 0) (r1 : Option Nat) (hr1 : sn_okr kk r1) : sn_Re ρ kk (f_Wi_sendAnew (ρ a) (r1.map ρ)) (f_Wi_sendAnew a r1) := sn_Re.gR (r := (some a)) (by decide) (fun v10 hv10 => sn_Re.gI (r := v10) (by decide) (fun v11 => sn_Re.ite Iff.rfl (re_Wi_sendAnew_23 HI a ha r1 hr1) (sn_Re.gR (r := (some a)) (by decide) (fun v12 hv12 => sn_Re.nn (r := v12) (by decide) (fun a14 ha14 => sn_Re.cI (re_Ck_after HI a14 ha14 (20 : Int32)) (fun v13 => sn_Re.pI HI (r := (some a)) (by decide) (re_Wi_sendAnew_23 HI a ha r1 hr1)))))))
set_option maxHeartbeats 4000000 in
set_option maxRecDepth 100000 in
theorem re_Wi_fill_69 {ρ kk : Nat → Nat} (HI : sn_HI ρ kk) (a : Nat) (ha : kk a ≠ 0) (r1 : Option Nat) (hr1 : sn_okr kk r1) : sn_Re ρ kk (f_Wi_fill_69 (ρ a) (r1.map ρ)) (f_Wi_fill_69 a r1) := sn_Re.gI (r := (some a)) (by decide) (fun v1 => sn_Re.pI HI (r := r1) (by decide) (sn_Re.gI (r := (some a)) (by decide) (fun v2 => sn_Re.pI HI (r := r1) (by decide) (sn_Re.gI (r := (some a)) (by decide) (fun v3 => sn_Re.pI HI (r := r1) (by decide) (sn_Re.V))))))
set_option maxHeartbeats 4000000 in
set_option maxRecDepth 100000 in
theorem re_Wi_fill_51 {ρ kk : Nat → Nat} (HI : sn_HI ρ kk) (a : Nat) (ha : kk a ≠ 0) (r1 : Option Nat) (hr1 : sn_okr kk r1) : sn_Re ρ kk (f_Wi_fill_51 (ρ a) (r1.map ρ)) (f_Wi_fill_51 a r1) := sn_Re.pI HI (r := r1) (by decide) (sn_Re.gI (r := (some a)) (by decide) (fun v4 => sn_Re.pI HI (r := r1) (by decide) (sn_Re.pJ HI (r := r1) (by decide) (re_Wi_fill_69 HI a ha r1 hr1))))
set_option maxHeartbeats 4000000 in
set_option maxRecDepth 100000 in
theorem re_Wi_fill {ρ kk : Nat → Nat} (HI : sn_HI ρ kk) (a : Nat) (ha : kk a ≠ 0) (r1 : Option Nat) (hr1 : sn_okr kk r1) : sn_Re ρ kk (f_Wi_fill (ρ a) (r1.map ρ)) (f_Wi_fill a r1) := sn_Re.pI HI (r := r1) (by decide) (sn_Re.gI (r := (some a)) (by decide) (fun v5 => sn_Re.ite Iff.rfl (sn_Re.gR (r := (some a)) (by decide) (fun v6 hv6 => sn_Re.gI (r := v6) (by decide) (fun v7 => sn_Re.ite Iff.rfl (re_Wi_fill_51 HI a ha r1 hr1) (sn_Re.gR (r := (some a)) (by decide) (fun v8 hv8 => sn_Re.gI (r := v8) (by decide) (fun v9 => sn_Re.ite Iff.rfl (re_Wi_fill_51 HI a ha r1 hr1) (sn_Re.nn (r := (some a)) (by decide) (fun a11 ha11 => sn_Re.cV (re_Wi_sendAnew HI a11 ha11 r1 hr1) (re_Wi_fill_69 HI a ha r1 hr1))))))))) (sn_Re.nn (r := (some a)) (by decide) (fun a13 ha13 => sn_Re.cV (re_Wi_repeat HI a13 ha13 r1 hr1) (re_Wi_fill_69 HI a ha r1 hr1)))))
set_option maxHeartbeats 4000000 in
set_option maxRecDepth 100000 in
theorem re_En_sendUnit_107 {ρ kk : Nat → Nat} (HI : sn_HI ρ kk) (a : Nat) (ha : kk a ≠ 0) : sn_Re ρ kk (f_En_sendUnit_107 (ρ a)) (f_En_sendUnit_107 a) := sn_Re.V
set_option maxHeartbeats 4000000 in
set_option maxRecDepth 100000 in
theorem re_En_sendUnit_90 {ρ kk : Nat → Nat} (HI : sn_HI ρ kk) (a : Nat) (ha : kk a ≠ 0) (t0 : Option Nat) (ht0 : sn_okr kk t0) (t1 : Int32) : sn_Re ρ kk (f_En_sendUnit_90 (ρ a) (t0.map ρ) t1) (f_En_sendUnit_90 a t0 t1) := sn_Re.pI HI (r := t0) (by decide) (re_En_sendUnit_107 HI a ha)
set_option maxHeartbeats 4000000 in
set_option maxRecDepth 100000 in
theorem re_En_sendUnit_74 {ρ kk : Nat → Nat} (HI : sn_HI ρ kk) (a : Nat) (ha : kk a ≠ 0) : sn_Re ρ kk (f_En_sendUnit_74 (ρ a)) (f_En_sendUnit_74 a) := sn_Re.gR (r := (some a)) (by decide) (fun v1 hv1 => sn_Re.gI (r := (some a)) (by decide) (fun v2 => sn_Re.ite Iff.rfl (re_En_sendUnit_90 HI a ha v1 hv1 (2 : Int32)) (re_En_sendUnit_90 HI a ha v1 hv1 (3 : Int32))))
set_option maxHeartbeats 4000000 in
set_option maxRecDepth 100000 in
theorem re_En_sendUnit {ρ kk : Nat → Nat} (HI : sn_HI ρ kk) (a : Nat) (ha : kk a ≠ 0) : sn_Re ρ kk (f_En_sendUnit (ρ a)) (f_En_sendUnit a) := sn_Re.pZ HI (r := (some a)) (by decide) (sn_Re.gR (r := (some a)) (by decide) (fun v3 hv3 => sn_Re.gI (r := (some a)) (by decide) (fun v4 => sn_Re.pI HI (r := v3) (by decide) (sn_Re.gI (r := (some a)) (by decide) (fun v5 => sn_Re.swC (sn_Re.gR (r := (some a)) (by decide) (fun v6 hv6 => sn_Re.pI HI (r := v6) (by decide) (re_En_sendUnit_107 HI a ha))) (sn_Re.swC (sn_Re.gR (r := (some a)) (by decide) (fun v7 hv7 => sn_Re.pI HI (r := v7) (by decide) (re_En_sendUnit_107 HI a ha))) (sn_Re.swC (re_En_sendUnit_74 HI a ha) (sn_Re.swC (re_En_sendUnit_74 HI a ha) (sn_Re.swN (sn_Re.gR (r := (some a)) (by decide) (fun v8 hv8 => sn_Re.gR (r := (some a)) (by decide) (fun v9 hv9 => sn_Re.nn (r := v8) (by decide) (fun a11 ha11 => sn_Re.cV (re_Wi_fill HI a11 ha11 v9 hv9) (re_En_sendUnit_107 HI a ha))))))))))))))
set_option maxHeartbeats 4000000 in
set_option maxRecDepth 100000 in
theorem re_En_tell_205 {ρ kk : Nat → Nat} (HI : sn_HI ρ kk) (a : Nat) (ha : kk a ≠ 0) (t0 : Int32) : sn_Re ρ kk (f_En_tell_205 (ρ a) t0) (f_En_tell_205 a t0) := sn_Re.I
set_option maxHeartbeats 4000000 in
set_option maxRecDepth 100000 in
theorem re_En_tell_173 {ρ kk : Nat → Nat} (HI : sn_HI ρ kk) (a : Nat) (ha : kk a ≠ 0) (t0 : Int32) : sn_Re ρ kk (f_En_tell_173 (ρ a) t0) (f_En_tell_173 a t0) := sn_Re.I
set_option maxHeartbeats 4000000 in
set_option maxRecDepth 100000 in
theorem re_En_tell {ρ kk : Nat → Nat} (HI : sn_HI ρ kk) (a : Nat) (ha : kk a ≠ 0) (x1 : Int32) : sn_Re ρ kk (f_En_tell (ρ a) x1) (f_En_tell a x1) := sn_Re.swC (sn_Re.gI (r := (some a)) (by decide) (fun v1 => sn_Re.I)) (sn_Re.swC (sn_Re.gR (r := (some a)) (by decide) (fun v2 hv2 => sn_Re.gI (r := (some a)) (by decide) (fun v3 => sn_Re.nn (r := v2) (by decide) (fun a5 ha5 => sn_Re.cI (re_Ck_left HI a5 ha5 v3) (fun v4 => sn_Re.I))))) (sn_Re.swC (sn_Re.gR (r := (some a)) (by decide) (fun v6 hv6 => sn_Re.gI (r := v6) (by decide) (fun v7 => sn_Re.I))) (sn_Re.swC (sn_Re.gR (r := (some a)) (by decide) (fun v8 hv8 => sn_Re.gI (r := v8) (by decide) (fun v9 => sn_Re.I))) (sn_Re.swC (sn_Re.gR (r := (some a)) (by decide) (fun v10 hv10 => sn_Re.gI (r := v10) (by decide) (fun v11 => sn_Re.I))) (sn_Re.swC (sn_Re.gR (r := (some a)) (by decide) (fun v12 hv12 => sn_Re.gI (r := v12) (by decide) (fun v13 => sn_Re.I))) (sn_Re.swC (sn_Re.gR (r := (some a)) (by decide) (fun v14 hv14 => sn_Re.gR (r := v14) (by decide) (fun v15 hv15 => sn_Re.gI (r := v15) (by decide) (fun v16 => sn_Re.I)))) (sn_Re.swC (sn_Re.gR (r := (some a)) (by decide) (fun v17 hv17 => sn_Re.gR (r := v17) (by decide) (fun v18 hv18 => sn_Re.gI (r := v18) (by decide) (fun v19 => sn_Re.I)))) (sn_Re.swC (sn_Re.gI (r := (some a)) (by decide) (fun v20 => sn_Re.I)) (sn_Re.swC (sn_Re.gI (r := (some a)) (by decide) (fun v21 => sn_Re.I)) (sn_Re.swC (sn_Re.gI (r := (some a)) (by decide) (fun v22 => sn_Re.ite Iff.rfl (re_En_tell_173 HI a ha (0 : Int32)) (re_En_tell_173 HI a ha (1 : Int32)))) (sn_Re.swC (sn_Re.gR (r := (some a)) (by decide) (fun v23 hv23 => sn_Re.gR (r := (some a)) (by decide) (fun v24 hv24 => sn_Re.gI (r := v24) (by decide) (fun v25 => sn_Re.nn (r := v23) (by decide) (fun a27 ha27 => sn_Re.cI (re_Ck_left HI a27 ha27 v25) (fun v26 => sn_Re.I)))))) (sn_Re.swC (sn_Re.gR (r := (some a)) (by decide) (fun v28 hv28 => sn_Re.gI (r := v28) (by decide) (fun v29 => sn_Re.ite Iff.rfl (re_En_tell_205 HI a ha (1 : Int32)) (re_En_tell_205 HI a ha (0 : Int32))))) (sn_Re.swC (sn_Re.gI (r := (some a)) (by decide) (fun v30 => sn_Re.I)) (sn_Re.swC (sn_Re.gI (r := (some a)) (by decide) (fun v31 => sn_Re.I)) (sn_Re.swC (sn_Re.gI (r := (some a)) (by decide) (fun v32 => sn_Re.I)) (sn_Re.swN (sn_Re.I)))))))))))))))))
set_option maxHeartbeats 4000000 in
set_option maxRecDepth 100000 in
theorem re_Fl_isOpen_19 {ρ kk : Nat → Nat} (HI : sn_HI ρ kk) (a : Nat) (ha : kk a ≠ 0) (t0 : Int32) : sn_Re ρ kk (f_Fl_isOpen_19 (ρ a) t0) (f_Fl_isOpen_19 a t0) := sn_Re.Z
set_option maxHeartbeats 4000000 in
set_option maxRecDepth 100000 in
theorem re_Fl_isOpen_14 {ρ kk : Nat → Nat} (HI : sn_HI ρ kk) (a : Nat) (ha : kk a ≠ 0) : sn_Re ρ kk (f_Fl_isOpen_14 (ρ a)) (f_Fl_isOpen_14 a) := re_Fl_isOpen_19 HI a ha (1 : Int32)
set_option maxHeartbeats 4000000 in
set_option maxRecDepth 100000 in
theorem re_Fl_isOpen {ρ kk : Nat → Nat} (HI : sn_HI ρ kk) (a : Nat) (ha : kk a ≠ 0) : sn_Re ρ kk (f_Fl_isOpen (ρ a)) (f_Fl_isOpen a) := sn_Re.gR (r := (some a)) (by decide) (fun v1 hv1 => sn_Re.ite sn_nnone (re_Fl_isOpen_14 HI a ha) (sn_Re.gI (r := (some a)) (by decide) (fun v2 => sn_Re.ite Iff.rfl (re_Fl_isOpen_19 HI a ha (0 : Int32)) (re_Fl_isOpen_14 HI a ha))))
set_option maxHeartbeats 4000000 in
set_option maxRecDepth 100000 in
theorem re_Fl_place_33 {ρ kk : Nat → Nat} (HI : sn_HI ρ kk) (a : Nat) (ha : kk a ≠ 0) (t0 : Option Nat) (ht0 : sn_okr kk t0) : sn_Re ρ kk (f_Fl_place_33 (ρ a) (t0.map ρ)) (f_Fl_place_33 a t0) := sn_Re.R (v := t0) ht0
set_option maxHeartbeats 4000000 in
set_option maxRecDepth 100000 in
theorem re_Fl_place {ρ kk : Nat → Nat} (HI : sn_HI ρ kk) (a : Nat) (ha : kk a ≠ 0) : sn_Re ρ kk (f_Fl_place (ρ a)) (f_Fl_place a) := sn_Re.gI (r := (some a)) (by decide) (fun v1 => sn_Re.ite Iff.rfl (sn_Re.gR (r := (some a)) (by decide) (fun v2 hv2 => sn_Re.ite sn_nnone (sn_Re.gR (r := (some a)) (by decide) (fun v3 hv3 => sn_Re.gR (r := v3) (by decide) (fun v4 hv4 => sn_Re.gR (r := v4) (by decide) (fun v5 hv5 => re_Fl_place_33 HI a ha v5 hv5)))) (re_Fl_place_33 HI a ha none sn_okr0))) (sn_Re.gR (r := (some a)) (by decide) (fun v6 hv6 => sn_Re.R (v := v6) hv6)))
set_option maxHeartbeats 4000000 in
set_option maxRecDepth 100000 in
theorem re_Fl_holdFor {ρ kk : Nat → Nat} (HI : sn_HI ρ kk) (a : Nat) (ha : kk a ≠ 0) (r1 : Option Nat) (hr1 : sn_okr kk r1) : sn_Re ρ kk (f_Fl_holdFor (ρ a) (r1.map ρ)) (f_Fl_holdFor a r1) := sn_Re.pI HI (r := (some a)) (by decide) (sn_Re.pR HI (r := (some a)) (v := r1) (by decide) hr1 (sn_Re.pR HI (r := (some a)) (v := none) (by decide) sn_okr0 (sn_Re.pI HI (r := (some a)) (by decide) (sn_Re.V))))
set_option maxHeartbeats 4000000 in
set_option maxRecDepth 100000 in
theorem re_Fl_free {ρ kk : Nat → Nat} (HI : sn_HI ρ kk) (a : Nat) (ha : kk a ≠ 0) (r1 : Option Nat) (hr1 : sn_okr kk r1) : sn_Re ρ kk (f_Fl_free (ρ a) (r1.map ρ)) (f_Fl_free a r1) := sn_Re.pI HI (r := (some a)) (by decide) (sn_Re.pR HI (r := (some a)) (v := none) (by decide) sn_okr0 (sn_Re.pR HI (r := (some a)) (v := r1) (by decide) hr1 (sn_Re.pI HI (r := (some a)) (by decide) (sn_Re.V))))
set_option maxHeartbeats 4000000 in
set_option maxRecDepth 100000 in
theorem re_Fl_tell_82 {ρ kk : Nat → Nat} (HI : sn_HI ρ kk) (a : Nat) (ha : kk a ≠ 0) (t0 : Int32) : sn_Re ρ kk (f_Fl_tell_82 (ρ a) t0) (f_Fl_tell_82 a t0) := sn_Re.I
set_option maxHeartbeats 4000000 in
set_option maxRecDepth 100000 in
theorem re_Fl_tell_50 {ρ kk : Nat → Nat} (HI : sn_HI ρ kk) (a : Nat) (ha : kk a ≠ 0) (t0 : Int32) : sn_Re ρ kk (f_Fl_tell_50 (ρ a) t0) (f_Fl_tell_50 a t0) := sn_Re.I
set_option maxHeartbeats 4000000 in
set_option maxRecDepth 100000 in
theorem re_Fl_tell {ρ kk : Nat → Nat} (HI : sn_HI ρ kk) (a : Nat) (ha : kk a ≠ 0) (x1 : Int32) : sn_Re ρ kk (f_Fl_tell (ρ a) x1) (f_Fl_tell a x1) := sn_Re.swC (sn_Re.gR (r := (some a)) (by decide) (fun v1 hv1 => sn_Re.ite sn_nnone (sn_Re.gR (r := (some a)) (by decide) (fun v2 hv2 => sn_Re.gI (r := v2) (by decide) (fun v3 => re_Fl_tell_50 HI a ha v3))) (re_Fl_tell_50 HI a ha (-1 : Int32)))) (sn_Re.swC (sn_Re.gI (r := (some a)) (by decide) (fun v4 => sn_Re.I)) (sn_Re.swC (sn_Re.gR (r := (some a)) (by decide) (fun v5 hv5 => sn_Re.gI (r := v5) (by decide) (fun v6 => sn_Re.I))) (sn_Re.swC (sn_Re.gR (r := (some a)) (by decide) (fun v7 hv7 => sn_Re.ite sn_nnone (sn_Re.gR (r := (some a)) (by decide) (fun v8 hv8 => sn_Re.gI (r := v8) (by decide) (fun v9 => re_Fl_tell_82 HI a ha v9))) (re_Fl_tell_82 HI a ha (-1 : Int32)))) (sn_Re.swN (sn_Re.I)))))
set_option maxHeartbeats 4000000 in
set_option maxRecDepth 100000 in
theorem re_Lg_isSubscriber_13 {ρ kk : Nat → Nat} (HI : sn_HI ρ kk) (a : Nat) (ha : kk a ≠ 0) (t0 : Int32) : sn_Re ρ kk (f_Lg_isSubscriber_13 (ρ a) t0) (f_Lg_isSubscriber_13 a t0) := sn_Re.Z
set_option maxHeartbeats 4000000 in
set_option maxRecDepth 100000 in
theorem re_Lg_isSubscriber {ρ kk : Nat → Nat} (HI : sn_HI ρ kk) (a : Nat) (ha : kk a ≠ 0) : sn_Re ρ kk (f_Lg_isSubscriber (ρ a)) (f_Lg_isSubscriber a) := sn_Re.gI (r := (some a)) (by decide) (fun v1 => sn_Re.ite Iff.rfl (re_Lg_isSubscriber_13 HI a ha (0 : Int32)) (re_Lg_isSubscriber_13 HI a ha (1 : Int32)))
set_option maxHeartbeats 4000000 in
set_option maxRecDepth 100000 in
theorem re_Lg_isFree_26 {ρ kk : Nat → Nat} (HI : sn_HI ρ kk) (a : Nat) (ha : kk a ≠ 0) (t0 : Int32) : sn_Re ρ kk (f_Lg_isFree_26 (ρ a) t0) (f_Lg_isFree_26 a t0) := sn_Re.Z
set_option maxHeartbeats 4000000 in
set_option maxRecDepth 100000 in
theorem re_Lg_isFree_25 {ρ kk : Nat → Nat} (HI : sn_HI ρ kk) (a : Nat) (ha : kk a ≠ 0) : sn_Re ρ kk (f_Lg_isFree_25 (ρ a)) (f_Lg_isFree_25 a) := re_Lg_isFree_26 HI a ha (0 : Int32)
set_option maxHeartbeats 4000000 in
set_option maxRecDepth 100000 in
theorem re_Lg_isFree {ρ kk : Nat → Nat} (HI : sn_HI ρ kk) (a : Nat) (ha : kk a ≠ 0) : sn_Re ρ kk (f_Lg_isFree (ρ a)) (f_Lg_isFree a) := sn_Re.gI (r := (some a)) (by decide) (fun v1 => sn_Re.ite Iff.rfl (re_Lg_isFree_25 HI a ha) (sn_Re.gI (r := (some a)) (by decide) (fun v2 => sn_Re.ite Iff.rfl (re_Lg_isFree_25 HI a ha) (sn_Re.gI (r := (some a)) (by decide) (fun v3 => sn_Re.ite Iff.rfl (re_Lg_isFree_25 HI a ha) (re_Lg_isFree_26 HI a ha (1 : Int32)))))))
set_option maxHeartbeats 4000000 in
set_option maxRecDepth 100000 in
theorem re_Lg_isInCall_22 {ρ kk : Nat → Nat} (HI : sn_HI ρ kk) (a : Nat) (ha : kk a ≠ 0) (t0 : Int32) : sn_Re ρ kk (f_Lg_isInCall_22 (ρ a) t0) (f_Lg_isInCall_22 a t0) := sn_Re.Z
set_option maxHeartbeats 4000000 in
set_option maxRecDepth 100000 in
theorem re_Lg_isInCall_21 {ρ kk : Nat → Nat} (HI : sn_HI ρ kk) (a : Nat) (ha : kk a ≠ 0) : sn_Re ρ kk (f_Lg_isInCall_21 (ρ a)) (f_Lg_isInCall_21 a) := re_Lg_isInCall_22 HI a ha (0 : Int32)
set_option maxHeartbeats 4000000 in
set_option maxRecDepth 100000 in
theorem re_Lg_isInCall {ρ kk : Nat → Nat} (HI : sn_HI ρ kk) (a : Nat) (ha : kk a ≠ 0) : sn_Re ρ kk (f_Lg_isInCall (ρ a)) (f_Lg_isInCall a) := sn_Re.gI (r := (some a)) (by decide) (fun v1 => sn_Re.ite Iff.rfl (re_Lg_isInCall_21 HI a ha) (sn_Re.gI (r := (some a)) (by decide) (fun v2 => sn_Re.ite Iff.rfl (re_Lg_isInCall_21 HI a ha) (re_Lg_isInCall_22 HI a ha (1 : Int32)))))
set_option maxHeartbeats 4000000 in
set_option maxRecDepth 100000 in
theorem re_Lg_isAnswered_22 {ρ kk : Nat → Nat} (HI : sn_HI ρ kk) (a : Nat) (ha : kk a ≠ 0) (t0 : Int32) : sn_Re ρ kk (f_Lg_isAnswered_22 (ρ a) t0) (f_Lg_isAnswered_22 a t0) := sn_Re.Z
set_option maxHeartbeats 4000000 in
set_option maxRecDepth 100000 in
theorem re_Lg_isAnswered_17 {ρ kk : Nat → Nat} (HI : sn_HI ρ kk) (a : Nat) (ha : kk a ≠ 0) : sn_Re ρ kk (f_Lg_isAnswered_17 (ρ a)) (f_Lg_isAnswered_17 a) := re_Lg_isAnswered_22 HI a ha (1 : Int32)
set_option maxHeartbeats 4000000 in
set_option maxRecDepth 100000 in
theorem re_Lg_isAnswered {ρ kk : Nat → Nat} (HI : sn_HI ρ kk) (a : Nat) (ha : kk a ≠ 0) : sn_Re ρ kk (f_Lg_isAnswered (ρ a)) (f_Lg_isAnswered a) := sn_Re.gI (r := (some a)) (by decide) (fun v1 => sn_Re.ite Iff.rfl (re_Lg_isAnswered_17 HI a ha) (sn_Re.gI (r := (some a)) (by decide) (fun v2 => sn_Re.ite Iff.rfl (re_Lg_isAnswered_22 HI a ha (0 : Int32)) (re_Lg_isAnswered_17 HI a ha))))
set_option maxHeartbeats 4000000 in
set_option maxRecDepth 100000 in
theorem re_Lg_controls_40 {ρ kk : Nat → Nat} (HI : sn_HI ρ kk) (a : Nat) (ha : kk a ≠ 0) (t0 : Int32) : sn_Re ρ kk (f_Lg_controls_40 (ρ a) t0) (f_Lg_controls_40 a t0) := sn_Re.Z
set_option maxHeartbeats 4000000 in
set_option maxRecDepth 100000 in
theorem re_Lg_controls_32 {ρ kk : Nat → Nat} (HI : sn_HI ρ kk) (a : Nat) (ha : kk a ≠ 0) (t0 : Int32) (t1 : Int32) : sn_Re ρ kk (f_Lg_controls_32 (ρ a) t0 t1) (f_Lg_controls_32 a t0 t1) := sn_Re.ite Iff.rfl (re_Lg_controls_40 HI a ha (0 : Int32)) (re_Lg_controls_40 HI a ha (1 : Int32))
set_option maxHeartbeats 4000000 in
set_option maxRecDepth 100000 in
theorem re_Lg_controls_16 {ρ kk : Nat → Nat} (HI : sn_HI ρ kk) (a : Nat) (ha : kk a ≠ 0) (t0 : Int32) : sn_Re ρ kk (f_Lg_controls_16 (ρ a) t0) (f_Lg_controls_16 a t0) := sn_Re.gI (r := (some a)) (by decide) (fun v1 => sn_Re.ite Iff.rfl (re_Lg_controls_32 HI a ha t0 (0 : Int32)) (re_Lg_controls_32 HI a ha t0 (1 : Int32)))
set_option maxHeartbeats 4000000 in
set_option maxRecDepth 100000 in
theorem re_Lg_controls {ρ kk : Nat → Nat} (HI : sn_HI ρ kk) (a : Nat) (ha : kk a ≠ 0) : sn_Re ρ kk (f_Lg_controls (ρ a)) (f_Lg_controls a) := sn_Re.gI (r := (some a)) (by decide) (fun v2 => sn_Re.gI (r := (some a)) (by decide) (fun v3 => sn_Re.ite Iff.rfl (re_Lg_controls_16 HI a ha (0 : Int32)) (re_Lg_controls_16 HI a ha (1 : Int32))))
set_option maxHeartbeats 4000000 in
set_option maxRecDepth 100000 in
theorem re_Lg_code_37 {ρ kk : Nat → Nat} (HI : sn_HI ρ kk) (a : Nat) (ha : kk a ≠ 0) (t0 : Int32) : sn_Re ρ kk (f_Lg_code_37 (ρ a) t0) (f_Lg_code_37 a t0) := sn_Re.I
set_option maxHeartbeats 4000000 in
set_option maxRecDepth 100000 in
theorem re_Lg_code {ρ kk : Nat → Nat} (HI : sn_HI ρ kk) (a : Nat) (ha : kk a ≠ 0) : sn_Re ρ kk (f_Lg_code (ρ a)) (f_Lg_code a) := sn_Re.nn (r := (some a)) (by decide) (fun a2 ha2 => sn_Re.cI (re_Lg_isSubscriber HI a2 ha2) (fun v1 => sn_Re.ite Iff.rfl (sn_Re.gI (r := (some a)) (by decide) (fun v3 => sn_Re.gI (r := (some a)) (by decide) (fun v4 => re_Lg_code_37 HI a ha (((100 : Int32) + ((10 : Int32) * v3)) + v4)))) (sn_Re.gI (r := (some a)) (by decide) (fun v5 => sn_Re.gI (r := (some a)) (by decide) (fun v6 => re_Lg_code_37 HI a ha (((10 : Int32) * v5) + v6))))))
set_option maxHeartbeats 4000000 in
set_option maxRecDepth 100000 in
theorem re_Lg_joinedCode_18 {ρ kk : Nat → Nat} (HI : sn_HI ρ kk) (a : Nat) (ha : kk a ≠ 0) (t0 : Int32) : sn_Re ρ kk (f_Lg_joinedCode_18 (ρ a) t0) (f_Lg_joinedCode_18 a t0) := sn_Re.I
set_option maxHeartbeats 4000000 in
set_option maxRecDepth 100000 in
theorem re_Lg_joinedCode {ρ kk : Nat → Nat} (HI : sn_HI ρ kk) (a : Nat) (ha : kk a ≠ 0) : sn_Re ρ kk (f_Lg_joinedCode (ρ a)) (f_Lg_joinedCode a) := sn_Re.gR (r := (some a)) (by decide) (fun v1 hv1 => sn_Re.ite sn_nnone (sn_Re.gR (r := (some a)) (by decide) (fun v2 hv2 => sn_Re.nn (r := v2) (by decide) (fun a4 ha4 => sn_Re.cI (re_Lg_code HI a4 ha4) (fun v3 => re_Lg_joinedCode_18 HI a ha v3)))) (re_Lg_joinedCode_18 HI a ha (-1 : Int32)))
set_option maxHeartbeats 4000000 in
set_option maxRecDepth 100000 in
theorem re_Lg_part_14 {ρ kk : Nat → Nat} (HI : sn_HI ρ kk) (a : Nat) (ha : kk a ≠ 0) (r1 : Option Nat) (hr1 : sn_okr kk r1) : sn_Re ρ kk (f_Lg_part_14 (ρ a) (r1.map ρ)) (f_Lg_part_14 a r1) := sn_Re.pR HI (r := (some a)) (v := none) (by decide) sn_okr0 (sn_Re.R (v := r1) hr1)
set_option maxHeartbeats 4000000 in
set_option maxRecDepth 100000 in
theorem re_Lg_part {ρ kk : Nat → Nat} (HI : sn_HI ρ kk) (a : Nat) (ha : kk a ≠ 0) : sn_Re ρ kk (f_Lg_part (ρ a)) (f_Lg_part a) := sn_Re.gR (r := (some a)) (by decide) (fun v1 hv1 => sn_Re.ite sn_none (re_Lg_part_14 HI a ha v1 hv1) (sn_Re.pR HI (r := v1) (v := none) (by decide) sn_okr0 (re_Lg_part_14 HI a ha v1 hv1)))
set_option maxHeartbeats 4000000 in
set_option maxRecDepth 100000 in
theorem re_Lg_leaveCall {ρ kk : Nat → Nat} (HI : sn_HI ρ kk) (a : Nat) (ha : kk a ≠ 0) (x1 : Int32) : sn_Re ρ kk (f_Lg_leaveCall (ρ a) x1) (f_Lg_leaveCall a x1) := sn_Re.pI HI (r := (some a)) (by decide) (sn_Re.pI HI (r := (some a)) (by decide) (sn_Re.pI HI (r := (some a)) (by decide) (sn_Re.pI HI (r := (some a)) (by decide) (sn_Re.pI HI (r := (some a)) (by decide) (sn_Re.V)))))
set_option maxHeartbeats 4000000 in
set_option maxRecDepth 100000 in
theorem re_Lg_tellCircuit_87 {ρ kk : Nat → Nat} (HI : sn_HI ρ kk) (a : Nat) (ha : kk a ≠ 0) (t0 : Int32) : sn_Re ρ kk (f_Lg_tellCircuit_87 (ρ a) t0) (f_Lg_tellCircuit_87 a t0) := sn_Re.I
set_option maxHeartbeats 4000000 in
set_option maxRecDepth 100000 in
theorem re_Lg_tellCircuit_74 {ρ kk : Nat → Nat} (HI : sn_HI ρ kk) (a : Nat) (ha : kk a ≠ 0) (t0 : Int32) : sn_Re ρ kk (f_Lg_tellCircuit_74 (ρ a) t0) (f_Lg_tellCircuit_74 a t0) := sn_Re.I
set_option maxHeartbeats 4000000 in
set_option maxRecDepth 100000 in
theorem re_Lg_tellCircuit {ρ kk : Nat → Nat} (HI : sn_HI ρ kk) (a : Nat) (ha : kk a ≠ 0) (x1 : Int32) (r2 : Option Nat) (hr2 : sn_okr kk r2) : sn_Re ρ kk (f_Lg_tellCircuit (ρ a) x1 (r2.map ρ)) (f_Lg_tellCircuit a x1 r2) := sn_Re.swC (sn_Re.gI (r := (some a)) (by decide) (fun v1 => sn_Re.I)) (sn_Re.swC (sn_Re.gI (r := (some a)) (by decide) (fun v2 => sn_Re.nn (r := r2) (by decide) (fun a4 ha4 => sn_Re.cI (re_Ck_left HI a4 ha4 v2) (fun v3 => sn_Re.I)))) (sn_Re.swC (sn_Re.gI (r := (some a)) (by decide) (fun v5 => sn_Re.ite Iff.rfl (re_Lg_tellCircuit_74 HI a ha (0 : Int32)) (re_Lg_tellCircuit_74 HI a ha (1 : Int32)))) (sn_Re.swC (sn_Re.gI (r := (some a)) (by decide) (fun v6 => sn_Re.ite Iff.rfl (re_Lg_tellCircuit_87 HI a ha (0 : Int32)) (re_Lg_tellCircuit_87 HI a ha (1 : Int32)))) (sn_Re.swC (sn_Re.nn (r := (some a)) (by decide) (fun a8 ha8 => sn_Re.cI (re_Lg_joinedCode HI a8 ha8) (fun v7 => sn_Re.I))) (sn_Re.swC (sn_Re.gI (r := (some a)) (by decide) (fun v9 => sn_Re.I)) (sn_Re.swC (sn_Re.gI (r := (some a)) (by decide) (fun v10 => sn_Re.I)) (sn_Re.swC (sn_Re.gI (r := (some a)) (by decide) (fun v11 => sn_Re.I)) (sn_Re.swN (sn_Re.I)))))))))
set_option maxHeartbeats 4000000 in
set_option maxRecDepth 100000 in
theorem re_Ms_of {ρ kk : Nat → Nat} (HI : sn_HI ρ kk) (x0 : Int32) (x1 : Int32) (x2 : Int32) (x3 : Int32) (x4 : Int32) (x5 : Int32) : sn_Re ρ kk (f_Ms_of x0 x1 x2 x3 x4 x5) (f_Ms_of x0 x1 x2 x3 x4 x5) := sn_Re.nJ (fun n1 => sn_Re.J)
set_option maxHeartbeats 4000000 in
set_option maxRecDepth 100000 in
theorem re_Ms_kind {ρ kk : Nat → Nat} (HI : sn_HI ρ kk) (l0 : Int64) : sn_Re ρ kk (f_Ms_kind l0) (f_Ms_kind l0) := sn_Re.I
set_option maxHeartbeats 4000000 in
set_option maxRecDepth 100000 in
theorem re_Ms_from {ρ kk : Nat → Nat} (HI : sn_HI ρ kk) (l0 : Int64) : sn_Re ρ kk (f_Ms_from l0) (f_Ms_from l0) := sn_Re.I
set_option maxHeartbeats 4000000 in
set_option maxRecDepth 100000 in
theorem re_Ms_to {ρ kk : Nat → Nat} (HI : sn_HI ρ kk) (l0 : Int64) : sn_Re ρ kk (f_Ms_to l0) (f_Ms_to l0) := sn_Re.I
set_option maxHeartbeats 4000000 in
set_option maxRecDepth 100000 in
theorem re_Ms_lane {ρ kk : Nat → Nat} (HI : sn_HI ρ kk) (l0 : Int64) : sn_Re ρ kk (f_Ms_lane l0) (f_Ms_lane l0) := sn_Re.I
set_option maxHeartbeats 4000000 in
set_option maxRecDepth 100000 in
theorem re_Ms_first {ρ kk : Nat → Nat} (HI : sn_HI ρ kk) (l0 : Int64) : sn_Re ρ kk (f_Ms_first l0) (f_Ms_first l0) := sn_Re.I
set_option maxHeartbeats 4000000 in
set_option maxRecDepth 100000 in
theorem re_Ms_second {ρ kk : Nat → Nat} (HI : sn_HI ρ kk) (l0 : Int64) : sn_Re ρ kk (f_Ms_second l0) (f_Ms_second l0) := sn_Re.I
set_option maxHeartbeats 4000000 in
set_option maxRecDepth 100000 in
theorem re_Ms_hops {ρ kk : Nat → Nat} (HI : sn_HI ρ kk) (l0 : Int64) : sn_Re ρ kk (f_Ms_hops l0) (f_Ms_hops l0) := sn_Re.I
set_option maxHeartbeats 4000000 in
set_option maxRecDepth 100000 in
theorem re_Ms_hopped {ρ kk : Nat → Nat} (HI : sn_HI ρ kk) (l0 : Int64) : sn_Re ρ kk (f_Ms_hopped l0) (f_Ms_hopped l0) := sn_Re.J
set_option maxHeartbeats 4000000 in
set_option maxRecDepth 100000 in
theorem re_Pl_isExchange_15 {ρ kk : Nat → Nat} (HI : sn_HI ρ kk) (t0 : Int32) : sn_Re ρ kk (f_Pl_isExchange_15 t0) (f_Pl_isExchange_15 t0) := sn_Re.Z
set_option maxHeartbeats 4000000 in
set_option maxRecDepth 100000 in
theorem re_Pl_isExchange_14 {ρ kk : Nat → Nat} (HI : sn_HI ρ kk) : sn_Re ρ kk (f_Pl_isExchange_14) (f_Pl_isExchange_14) := re_Pl_isExchange_15 HI (0 : Int32)
set_option maxHeartbeats 4000000 in
set_option maxRecDepth 100000 in
theorem re_Pl_isExchange {ρ kk : Nat → Nat} (HI : sn_HI ρ kk) (x0 : Int32) : sn_Re ρ kk (f_Pl_isExchange x0) (f_Pl_isExchange x0) := sn_Re.ite Iff.rfl (re_Pl_isExchange_14 HI) (sn_Re.ite Iff.rfl (re_Pl_isExchange_14 HI) (re_Pl_isExchange_15 HI (1 : Int32)))
set_option maxHeartbeats 4000000 in
set_option maxRecDepth 100000 in
theorem re_Pl_areTwo_24 {ρ kk : Nat → Nat} (HI : sn_HI ρ kk) (t0 : Int32) : sn_Re ρ kk (f_Pl_areTwo_24 t0) (f_Pl_areTwo_24 t0) := sn_Re.Z
set_option maxHeartbeats 4000000 in
set_option maxRecDepth 100000 in
theorem re_Pl_areTwo_23 {ρ kk : Nat → Nat} (HI : sn_HI ρ kk) : sn_Re ρ kk (f_Pl_areTwo_23) (f_Pl_areTwo_23) := re_Pl_areTwo_24 HI (0 : Int32)
set_option maxHeartbeats 4000000 in
set_option maxRecDepth 100000 in
theorem re_Pl_areTwo {ρ kk : Nat → Nat} (HI : sn_HI ρ kk) (x0 : Int32) (x1 : Int32) : sn_Re ρ kk (f_Pl_areTwo x0 x1) (f_Pl_areTwo x0 x1) := sn_Re.cI (re_Pl_isExchange HI x0) (fun v1 => sn_Re.ite Iff.rfl (re_Pl_areTwo_23 HI) (sn_Re.cI (re_Pl_isExchange HI x1) (fun v2 => sn_Re.ite Iff.rfl (re_Pl_areTwo_23 HI) (sn_Re.ite Iff.rfl (re_Pl_areTwo_23 HI) (re_Pl_areTwo_24 HI (1 : Int32))))))
set_option maxHeartbeats 4000000 in
set_option maxRecDepth 100000 in
theorem re_Pl_isLink_17 {ρ kk : Nat → Nat} (HI : sn_HI ρ kk) (a : Nat) (ha : kk a ≠ 0) (t0 : Int32) : sn_Re ρ kk (f_Pl_isLink_17 (ρ a) t0) (f_Pl_isLink_17 a t0) := sn_Re.Z
set_option maxHeartbeats 4000000 in
set_option maxRecDepth 100000 in
theorem re_Pl_isLink_16 {ρ kk : Nat → Nat} (HI : sn_HI ρ kk) (a : Nat) (ha : kk a ≠ 0) : sn_Re ρ kk (f_Pl_isLink_16 (ρ a)) (f_Pl_isLink_16 a) := re_Pl_isLink_17 HI a ha (0 : Int32)
set_option maxHeartbeats 4000000 in
set_option maxRecDepth 100000 in
theorem re_Pl_isLink {ρ kk : Nat → Nat} (HI : sn_HI ρ kk) (a : Nat) (ha : kk a ≠ 0) (x1 : Int32) : sn_Re ρ kk (f_Pl_isLink (ρ a) x1) (f_Pl_isLink a x1) := sn_Re.ite Iff.rfl (re_Pl_isLink_16 HI a ha) (sn_Re.gI (r := (some a)) (by decide) (fun v1 => sn_Re.ite Iff.rfl (re_Pl_isLink_16 HI a ha) (re_Pl_isLink_17 HI a ha (1 : Int32))))
set_option maxHeartbeats 4000000 in
set_option maxRecDepth 100000 in
theorem re_Pl_setSize_20 {ρ kk : Nat → Nat} (HI : sn_HI ρ kk) (a : Nat) (ha : kk a ≠ 0) : sn_Re ρ kk (f_Pl_setSize_20 (ρ a)) (f_Pl_setSize_20 a) := sn_Re.I
set_option maxHeartbeats 4000000 in
set_option maxRecDepth 100000 in
theorem re_Pl_setSize {ρ kk : Nat → Nat} (HI : sn_HI ρ kk) (a : Nat) (ha : kk a ≠ 0) (x1 : Int32) (x2 : Int32) : sn_Re ρ kk (f_Pl_setSize (ρ a) x1 x2) (f_Pl_setSize a x1 x2) := sn_Re.ite Iff.rfl (re_Pl_setSize_20 HI a ha) (sn_Re.ite Iff.rfl (re_Pl_setSize_20 HI a ha) (sn_Re.ite Iff.rfl (re_Pl_setSize_20 HI a ha) (sn_Re.ite Iff.rfl (sn_Re.gR (r := (some a)) (by decide) (fun v1 hv1 => sn_Re.aI (r := v1) (by decide) (fun v2 => sn_Re.I))) (re_Pl_setSize_20 HI a ha))))
set_option maxHeartbeats 4000000 in
set_option maxRecDepth 100000 in
theorem re_Pl_areNeighbours_14 {ρ kk : Nat → Nat} (HI : sn_HI ρ kk) (a : Nat) (ha : kk a ≠ 0) (t0 : Int32) : sn_Re ρ kk (f_Pl_areNeighbours_14 (ρ a) t0) (f_Pl_areNeighbours_14 a t0) := sn_Re.Z
set_option maxHeartbeats 4000000 in
set_option maxRecDepth 100000 in
theorem re_Pl_areNeighbours {ρ kk : Nat → Nat} (HI : sn_HI ρ kk) (a : Nat) (ha : kk a ≠ 0) (x1 : Int32) (x2 : Int32) : sn_Re ρ kk (f_Pl_areNeighbours (ρ a) x1 x2) (f_Pl_areNeighbours a x1 x2) := sn_Re.nn (r := (some a)) (by decide) (fun a2 ha2 => sn_Re.cI (re_Pl_setSize HI a2 ha2 x1 x2) (fun v1 => sn_Re.ite Iff.rfl (re_Pl_areNeighbours_14 HI a ha (0 : Int32)) (re_Pl_areNeighbours_14 HI a ha (1 : Int32))))
set_option maxHeartbeats 4000000 in
set_option maxRecDepth 100000 in
theorem re_Ma_max_10 {ρ kk : Nat → Nat} (HI : sn_HI ρ kk) (t0 : Int32) : sn_Re ρ kk (f_Ma_max_10 t0) (f_Ma_max_10 t0) := sn_Re.I
set_option maxHeartbeats 4000000 in
set_option maxRecDepth 100000 in
theorem re_Ma_max {ρ kk : Nat → Nat} (HI : sn_HI ρ kk) (x0 : Int32) (x1 : Int32) : sn_Re ρ kk (f_Ma_max x0 x1) (f_Ma_max x0 x1) := sn_Re.ite Iff.rfl (re_Ma_max_10 HI x1) (re_Ma_max_10 HI x0)
set_option maxHeartbeats 4000000 in
set_option maxRecDepth 100000 in
theorem re_Ma_min_10 {ρ kk : Nat → Nat} (HI : sn_HI ρ kk) (t0 : Int32) : sn_Re ρ kk (f_Ma_min_10 t0) (f_Ma_min_10 t0) := sn_Re.I
set_option maxHeartbeats 4000000 in
set_option maxRecDepth 100000 in
theorem re_Ma_min {ρ kk : Nat → Nat} (HI : sn_HI ρ kk) (x0 : Int32) (x1 : Int32) : sn_Re ρ kk (f_Ma_min x0 x1) (f_Ma_min x0 x1) := sn_Re.ite Iff.rfl (re_Ma_min_10 HI x1) (re_Ma_min_10 HI x0)
set_option maxHeartbeats 4000000 in
set_option maxRecDepth 100000 in
theorem re_Pl_addLink_27 {ρ kk : Nat → Nat} (HI : sn_HI ρ kk) (a : Nat) (ha : kk a ≠ 0) : sn_Re ρ kk (f_Pl_addLink_27 (ρ a)) (f_Pl_addLink_27 a) := sn_Re.I
set_option maxHeartbeats 4000000 in
set_option maxRecDepth 100000 in
theorem re_Pl_addLink {ρ kk : Nat → Nat} (HI : sn_HI ρ kk) (a : Nat) (ha : kk a ≠ 0) (x1 : Int32) (x2 : Int32) : sn_Re ρ kk (f_Pl_addLink (ρ a) x1 x2) (f_Pl_addLink a x1 x2) := sn_Re.cI (re_Pl_areTwo HI x1 x2) (fun v1 => sn_Re.ite Iff.rfl (re_Pl_addLink_27 HI a ha) (sn_Re.gI (r := (some a)) (by decide) (fun v2 => sn_Re.ite Iff.rfl (re_Pl_addLink_27 HI a ha) (sn_Re.nn (r := (some a)) (by decide) (fun a4 ha4 => sn_Re.cI (re_Pl_setSize HI a4 ha4 x1 x2) (fun v3 => sn_Re.ite Iff.rfl (sn_Re.gR (r := (some a)) (by decide) (fun v5 hv5 => sn_Re.gI (r := (some a)) (by decide) (fun v6 => sn_Re.cI (re_Ma_min HI x1 x2) (fun v7 => sn_Re.bI HI (r := v5) (by decide) (sn_Re.gR (r := (some a)) (by decide) (fun v8 hv8 => sn_Re.gI (r := (some a)) (by decide) (fun v9 => sn_Re.cI (re_Ma_max HI x1 x2) (fun v10 => sn_Re.bI HI (r := v8) (by decide) (sn_Re.gR (r := (some a)) (by decide) (fun v11 hv11 => sn_Re.aI (r := v11) (by decide) (fun v12 => sn_Re.bI HI (r := v11) (by decide) (sn_Re.gR (r := (some a)) (by decide) (fun v13 hv13 => sn_Re.aI (r := v13) (by decide) (fun v14 => sn_Re.bI HI (r := v13) (by decide) (sn_Re.gI (r := (some a)) (by decide) (fun v15 => sn_Re.pI HI (r := (some a)) (by decide) (sn_Re.gI (r := (some a)) (by decide) (fun v16 => sn_Re.I)))))))))))))))))) (re_Pl_addLink_27 HI a ha)))))))
set_option maxHeartbeats 4000000 in
set_option maxRecDepth 100000 in
theorem re_Pl_mayBeTold_18 {ρ kk : Nat → Nat} (HI : sn_HI ρ kk) (t0 : Int32) : sn_Re ρ kk (f_Pl_mayBeTold_18 t0) (f_Pl_mayBeTold_18 t0) := sn_Re.Z
set_option maxHeartbeats 4000000 in
set_option maxRecDepth 100000 in
theorem re_Pl_mayBeTold_13 {ρ kk : Nat → Nat} (HI : sn_HI ρ kk) : sn_Re ρ kk (f_Pl_mayBeTold_13) (f_Pl_mayBeTold_13) := re_Pl_mayBeTold_18 HI (1 : Int32)
set_option maxHeartbeats 4000000 in
set_option maxRecDepth 100000 in
theorem re_Pl_mayBeTold {ρ kk : Nat → Nat} (HI : sn_HI ρ kk) (x0 : Int32) (x1 : Int32) : sn_Re ρ kk (f_Pl_mayBeTold x0 x1) (f_Pl_mayBeTold x0 x1) := sn_Re.ite Iff.rfl (re_Pl_mayBeTold_13 HI) (sn_Re.cI (re_Pl_areTwo HI x0 x1) (fun v1 => sn_Re.ite Iff.rfl (re_Pl_mayBeTold_18 HI (0 : Int32)) (re_Pl_mayBeTold_13 HI)))
set_option maxHeartbeats 4000000 in
set_option maxRecDepth 100000 in
theorem re_Pl_tell_25 {ρ kk : Nat → Nat} (HI : sn_HI ρ kk) (a : Nat) (ha : kk a ≠ 0) : sn_Re ρ kk (f_Pl_tell_25 (ρ a)) (f_Pl_tell_25 a) := sn_Re.Z
set_option maxHeartbeats 4000000 in
set_option maxRecDepth 100000 in
theorem re_Pl_tell_40 {ρ kk : Nat → Nat} (HI : sn_HI ρ kk) (a : Nat) (ha : kk a ≠ 0) (x1 : Int32) (x2 : Int32) (x3 : Int32) (x4 : Int32) : sn_Re ρ kk (f_Pl_tell_40 (ρ a) x1 x2 x3 x4) (f_Pl_tell_40 a x1 x2 x3 x4) := sn_Re.gR (r := (some a)) (by decide) (fun v1 hv1 => sn_Re.bI HI (r := v1) (by decide) (sn_Re.gR (r := (some a)) (by decide) (fun v2 hv2 => sn_Re.bI HI (r := v2) (by decide) (sn_Re.Z))))
set_option maxHeartbeats 4000000 in
set_option maxRecDepth 100000 in
theorem re_Pl_tell {ρ kk : Nat → Nat} (HI : sn_HI ρ kk) (a : Nat) (ha : kk a ≠ 0) (x1 : Int32) (x2 : Int32) (x3 : Int32) (x4 : Int32) : sn_Re ρ kk (f_Pl_tell (ρ a) x1 x2 x3 x4) (f_Pl_tell a x1 x2 x3 x4) := sn_Re.cI (re_Pl_areTwo HI x1 x2) (fun v3 => sn_Re.ite Iff.rfl (re_Pl_tell_25 HI a ha) (sn_Re.cI (re_Pl_mayBeTold HI x1 x3) (fun v4 => sn_Re.ite Iff.rfl (re_Pl_tell_25 HI a ha) (sn_Re.cI (re_Pl_mayBeTold HI x1 x4) (fun v5 => sn_Re.ite Iff.rfl (sn_Re.ite Iff.rfl (re_Pl_tell_40 HI a ha x1 x2 x3 x4) (sn_Re.ite Iff.rfl (re_Pl_tell_40 HI a ha x1 x2 x3 x4) (sn_Re.Z))) (re_Pl_tell_25 HI a ha))))))
set_option maxHeartbeats 4000000 in
set_option maxRecDepth 100000 in
theorem re_Pl_told_20 {ρ kk : Nat → Nat} (HI : sn_HI ρ kk) (a : Nat) (ha : kk a ≠ 0) : sn_Re ρ kk (f_Pl_told_20 (ρ a)) (f_Pl_told_20 a) := sn_Re.I
set_option maxHeartbeats 4000000 in
set_option maxRecDepth 100000 in
theorem re_Pl_told_92 {ρ kk : Nat → Nat} (HI : sn_HI ρ kk) (a : Nat) (ha : kk a ≠ 0) (t0 : Int32) : sn_Re ρ kk (f_Pl_told_92 (ρ a) t0) (f_Pl_told_92 a t0) := sn_Re.I
set_option maxHeartbeats 4000000 in
set_option maxRecDepth 100000 in
theorem re_Pl_told_79 {ρ kk : Nat → Nat} (HI : sn_HI ρ kk) (a : Nat) (ha : kk a ≠ 0) (x4 : Int32) (t0 : Int32) : sn_Re ρ kk (f_Pl_told_79 (ρ a) x4 t0) (f_Pl_told_79 a x4 t0) := sn_Re.ite Iff.rfl (re_Pl_told_92 HI a ha (-1 : Int32)) (re_Pl_told_92 HI a ha x4)
set_option maxHeartbeats 4000000 in
set_option maxRecDepth 100000 in
theorem re_Pl_told_78 {ρ kk : Nat → Nat} (HI : sn_HI ρ kk) (a : Nat) (ha : kk a ≠ 0) (x4 : Int32) : sn_Re ρ kk (f_Pl_told_78 (ρ a) x4) (f_Pl_told_78 a x4) := re_Pl_told_79 HI a ha x4 (0 : Int32)
set_option maxHeartbeats 4000000 in
set_option maxRecDepth 100000 in
theorem re_Pl_told_51 {ρ kk : Nat → Nat} (HI : sn_HI ρ kk) (a : Nat) (ha : kk a ≠ 0) (x1 : Int32) (t0 : Int32) : sn_Re ρ kk (f_Pl_told_51 (ρ a) x1 t0) (f_Pl_told_51 a x1 t0) := sn_Re.ite Iff.rfl (re_Pl_told_78 HI a ha t0) (sn_Re.gR (r := (some a)) (by decide) (fun v1 hv1 => sn_Re.aI (r := v1) (by decide) (fun v2 => sn_Re.ite Iff.rfl (re_Pl_told_78 HI a ha t0) (re_Pl_told_79 HI a ha t0 (1 : Int32)))))
set_option maxHeartbeats 4000000 in
set_option maxRecDepth 100000 in
theorem re_Pl_told {ρ kk : Nat → Nat} (HI : sn_HI ρ kk) (a : Nat) (ha : kk a ≠ 0) (x1 : Int32) (x2 : Int32) (x3 : Int32) : sn_Re ρ kk (f_Pl_told (ρ a) x1 x2 x3) (f_Pl_told a x1 x2 x3) := sn_Re.ite Iff.rfl (re_Pl_told_20 HI a ha) (sn_Re.ite Iff.rfl (re_Pl_told_20 HI a ha) (sn_Re.ite Iff.rfl (re_Pl_told_20 HI a ha) (sn_Re.ite Iff.rfl (sn_Re.ite Iff.rfl (sn_Re.gR (r := (some a)) (by decide) (fun v3 hv3 => sn_Re.aI (r := v3) (by decide) (fun v4 => re_Pl_told_51 HI a ha x1 v4))) (sn_Re.gR (r := (some a)) (by decide) (fun v5 hv5 => sn_Re.aI (r := v5) (by decide) (fun v6 => re_Pl_told_51 HI a ha x1 v6)))) (re_Pl_told_20 HI a ha))))
set_option maxHeartbeats 4000000 in
set_option maxRecDepth 100000 in
theorem re_Sw_subscriberAt_48 {ρ kk : Nat → Nat} (HI : sn_HI ρ kk) (a : Nat) (ha : kk a ≠ 0) (t0 : Option Nat) (ht0 : sn_okr kk t0) : sn_Re ρ kk (f_Sw_subscriberAt_48 (ρ a) (t0.map ρ)) (f_Sw_subscriberAt_48 a t0) := sn_Re.R (v := t0) ht0
set_option maxHeartbeats 4000000 in
set_option maxRecDepth 100000 in
theorem re_Sw_subscriberAt_23 {ρ kk : Nat → Nat} (HI : sn_HI ρ kk) (a : Nat) (ha : kk a ≠ 0) (x1 : Int32) (t0 : Int32) : sn_Re ρ kk (f_Sw_subscriberAt_23 (ρ a) x1 t0) (f_Sw_subscriberAt_23 a x1 t0) := sn_Re.ite Iff.rfl (re_Sw_subscriberAt_48 HI a ha none sn_okr0) (sn_Re.gR (r := (some a)) (by decide) (fun v1 hv1 => sn_Re.aR (r := v1) (by decide) (fun v2 hv2 => re_Sw_subscriberAt_48 HI a ha v2 hv2)))
set_option maxHeartbeats 4000000 in
set_option maxRecDepth 100000 in
theorem re_Sw_subscriberAt_22 {ρ kk : Nat → Nat} (HI : sn_HI ρ kk) (a : Nat) (ha : kk a ≠ 0) (x1 : Int32) : sn_Re ρ kk (f_Sw_subscriberAt_22 (ρ a) x1) (f_Sw_subscriberAt_22 a x1) := re_Sw_subscriberAt_23 HI a ha x1 (0 : Int32)
set_option maxHeartbeats 4000000 in
set_option maxRecDepth 100000 in
theorem re_Sw_subscriberAt {ρ kk : Nat → Nat} (HI : sn_HI ρ kk) (a : Nat) (ha : kk a ≠ 0) (x1 : Int32) : sn_Re ρ kk (f_Sw_subscriberAt (ρ a) x1) (f_Sw_subscriberAt a x1) := sn_Re.ite Iff.rfl (re_Sw_subscriberAt_22 HI a ha x1) (sn_Re.ite Iff.rfl (re_Sw_subscriberAt_22 HI a ha x1) (sn_Re.ite Iff.rfl (re_Sw_subscriberAt_22 HI a ha x1) (re_Sw_subscriberAt_23 HI a ha x1 (1 : Int32))))
set_option maxHeartbeats 4000000 in
set_option maxRecDepth 100000 in
theorem re_Sw_circuitAt_29 {ρ kk : Nat → Nat} (HI : sn_HI ρ kk) (a : Nat) (ha : kk a ≠ 0) : sn_Re ρ kk (f_Sw_circuitAt_29 (ρ a)) (f_Sw_circuitAt_29 a) := sn_Re.R (v := none) sn_okr0
set_option maxHeartbeats 4000000 in
set_option maxRecDepth 100000 in
theorem re_Sw_circuitAt {ρ kk : Nat → Nat} (HI : sn_HI ρ kk) (a : Nat) (ha : kk a ≠ 0) (x1 : Int32) (x2 : Int32) (x3 : Int32) : sn_Re ρ kk (f_Sw_circuitAt (ρ a) x1 x2 x3) (f_Sw_circuitAt a x1 x2 x3) := sn_Re.ite Iff.rfl (re_Sw_circuitAt_29 HI a ha) (sn_Re.ite Iff.rfl (re_Sw_circuitAt_29 HI a ha) (sn_Re.ite Iff.rfl (re_Sw_circuitAt_29 HI a ha) (sn_Re.ite Iff.rfl (re_Sw_circuitAt_29 HI a ha) (sn_Re.ite Iff.rfl (re_Sw_circuitAt_29 HI a ha) (sn_Re.ite Iff.rfl (sn_Re.gR (r := (some a)) (by decide) (fun v1 hv1 => sn_Re.aR (r := v1) (by decide) (fun v2 hv2 => sn_Re.R (v := v2) hv2))) (re_Sw_circuitAt_29 HI a ha))))))
set_option maxHeartbeats 4000000 in
set_option maxRecDepth 100000 in
theorem re_Sw_circuitPlaces {ρ kk : Nat → Nat} (HI : sn_HI ρ kk) (a : Nat) (ha : kk a ≠ 0) : sn_Re ρ kk (f_Sw_circuitPlaces (ρ a)) (f_Sw_circuitPlaces a) := sn_Re.gR (r := (some a)) (by decide) (fun v1 hv1 => sn_Re.len (r := v1) (by decide) (fun v2 => sn_Re.I))
set_option maxHeartbeats 4000000 in
set_option maxRecDepth 100000 in
theorem re_Sw_post {ρ kk : Nat → Nat} (HI : sn_HI ρ kk) (a : Nat) (ha : kk a ≠ 0) (r1 : Option Nat) (hr1 : sn_okr kk r1) (x2 : Int32) (x3 : Int32) (x4 : Int32) : sn_Re ρ kk (f_Sw_post (ρ a) (r1.map ρ) x2 x3 x4) (f_Sw_post a r1 x2 x3 x4) := sn_Re.gI (r := r1) (by decide) (fun v1 => sn_Re.nI (fun n2 => sn_Re.gR (r := (some a)) (by decide) (fun v3 hv3 => sn_Re.gI (r := r1) (by decide) (fun v4 => sn_Re.gI (r := r1) (by decide) (fun v5 => sn_Re.gI (r := r1) (by decide) (fun v6 => sn_Re.cJ (re_Ms_of HI x2 v4 v5 v6 n2 x4) (fun v7 => sn_Re.nn (r := v3) (by decide) (fun a9 ha9 => sn_Re.cI (re_Qu_add HI a9 ha9 v7) (fun v8 => sn_Re.V)))))))))
set_option maxHeartbeats 4000000 in
set_option maxRecDepth 100000 in
theorem re_Sw_ask {ρ kk : Nat → Nat} (HI : sn_HI ρ kk) (a : Nat) (ha : kk a ≠ 0) (r1 : Option Nat) (hr1 : sn_okr kk r1) (x2 : Int32) (x3 : Int32) : sn_Re ρ kk (f_Sw_ask (ρ a) (r1.map ρ) x2 x3) (f_Sw_ask a r1 x2 x3) := sn_Re.pI HI (r := r1) (by decide) (sn_Re.gR (r := (some a)) (by decide) (fun v1 hv1 => sn_Re.nn (r := v1) (by decide) (fun a3 ha3 => sn_Re.cI (re_Ck_after HI a3 ha3 (20 : Int32)) (fun v2 => sn_Re.pI HI (r := r1) (by decide) (sn_Re.pI HI (r := r1) (by decide) (sn_Re.pI HI (r := r1) (by decide) (sn_Re.gI (r := r1) (by decide) (fun v4 => sn_Re.pI HI (r := r1) (by decide) (sn_Re.gI (r := r1) (by decide) (fun v5 => sn_Re.nn (r := (some a)) (by decide) (fun a7 ha7 => sn_Re.cV (re_Sw_post HI a7 ha7 r1 hr1 (7 : Int32) v5 (x2 + ((64 : Int32) * x3))) (sn_Re.V))))))))))))
set_option maxHeartbeats 4000000 in
set_option maxRecDepth 100000 in
theorem re_Sw_goBack_97 {ρ kk : Nat → Nat} (HI : sn_HI ρ kk) (a : Nat) (ha : kk a ≠ 0) : sn_Re ρ kk (f_Sw_goBack_97 (ρ a)) (f_Sw_goBack_97 a) := sn_Re.V
set_option maxHeartbeats 4000000 in
set_option maxRecDepth 100000 in
theorem re_Sw_goBack_50 {ρ kk : Nat → Nat} (HI : sn_HI ρ kk) (a : Nat) (ha : kk a ≠ 0) (t0 : Option Nat) (ht0 : sn_okr kk t0) (t1 : Int32) : sn_Re ρ kk (f_Sw_goBack_50 (ρ a) (t0.map ρ) t1) (f_Sw_goBack_50 a t0 t1) := sn_Re.pI HI (r := t0) (by decide) (re_Sw_goBack_97 HI a ha)
set_option maxHeartbeats 4000000 in
set_option maxRecDepth 100000 in
theorem re_Sw_goBack_37 {ρ kk : Nat → Nat} (HI : sn_HI ρ kk) (a : Nat) (ha : kk a ≠ 0) (r1 : Option Nat) (hr1 : sn_okr kk r1) (x3 : Int32) (t0 : Int32) (t1 : Int32) : sn_Re ρ kk (f_Sw_goBack_37 (ρ a) (r1.map ρ) x3 t0 t1) (f_Sw_goBack_37 a r1 x3 t0 t1) := sn_Re.ite Iff.rfl (re_Sw_goBack_97 HI a ha) (sn_Re.ite Iff.rfl (re_Sw_goBack_50 HI a ha r1 hr1 (4 : Int32)) (re_Sw_goBack_50 HI a ha r1 hr1 (2 : Int32)))
set_option maxHeartbeats 4000000 in
set_option maxRecDepth 100000 in
theorem re_Sw_goBack_83 {ρ kk : Nat → Nat} (HI : sn_HI ρ kk) (a : Nat) (ha : kk a ≠ 0) (r1 : Option Nat) (hr1 : sn_okr kk r1) (x2 : Int32) (t0 : Option Nat) (ht0 : sn_okr kk t0) (t1 : Int32) : sn_Re ρ kk (f_Sw_goBack_83 (ρ a) (r1.map ρ) x2 (t0.map ρ) t1) (f_Sw_goBack_83 a r1 x2 t0 t1) := sn_Re.pI HI (r := t0) (by decide) (sn_Re.gI (r := r1) (by decide) (fun v1 => sn_Re.nn (r := (some a)) (by decide) (fun a3 ha3 => sn_Re.cV (re_Sw_post HI a3 ha3 r1 hr1 x2 v1 (0 : Int32)) (re_Sw_goBack_97 HI a ha))))
set_option maxHeartbeats 4000000 in
set_option maxRecDepth 100000 in
theorem re_Sw_goBack_69 {ρ kk : Nat → Nat} (HI : sn_HI ρ kk) (a : Nat) (ha : kk a ≠ 0) (r1 : Option Nat) (hr1 : sn_okr kk r1) (x2 : Int32) (x3 : Int32) (t0 : Int32) (t1 : Int32) : sn_Re ρ kk (f_Sw_goBack_69 (ρ a) (r1.map ρ) x2 x3 t0 t1) (f_Sw_goBack_69 a r1 x2 x3 t0 t1) := sn_Re.ite Iff.rfl (re_Sw_goBack_97 HI a ha) (sn_Re.ite Iff.rfl (re_Sw_goBack_83 HI a ha r1 hr1 x2 r1 hr1 (6 : Int32)) (re_Sw_goBack_83 HI a ha r1 hr1 x2 r1 hr1 (5 : Int32)))
set_option maxHeartbeats 4000000 in
set_option maxRecDepth 100000 in
theorem re_Sw_goBack_16 {ρ kk : Nat → Nat} (HI : sn_HI ρ kk) (a : Nat) (ha : kk a ≠ 0) (r1 : Option Nat) (hr1 : sn_okr kk r1) (x2 : Int32) (t0 : Int32) : sn_Re ρ kk (f_Sw_goBack_16 (ρ a) (r1.map ρ) x2 t0) (f_Sw_goBack_16 a r1 x2 t0) := sn_Re.nn (r := r1) (by decide) (fun a5 ha5 => sn_Re.cI (re_Lg_isSubscriber HI a5 ha5) (fun v4 => sn_Re.ite Iff.rfl (sn_Re.gI (r := r1) (by decide) (fun v6 => sn_Re.ite Iff.rfl (re_Sw_goBack_69 HI a ha r1 hr1 x2 t0 v6 (5 : Int32)) (re_Sw_goBack_69 HI a ha r1 hr1 x2 t0 v6 (4 : Int32)))) (sn_Re.gI (r := r1) (by decide) (fun v7 => sn_Re.ite Iff.rfl (re_Sw_goBack_37 HI a ha r1 hr1 t0 v7 (2 : Int32)) (re_Sw_goBack_37 HI a ha r1 hr1 t0 v7 (1 : Int32))))))
set_option maxHeartbeats 4000000 in
set_option maxRecDepth 100000 in
theorem re_Sw_goBack {ρ kk : Nat → Nat} (HI : sn_HI ρ kk) (a : Nat) (ha : kk a ≠ 0) (r1 : Option Nat) (hr1 : sn_okr kk r1) (x2 : Int32) : sn_Re ρ kk (f_Sw_goBack (ρ a) (r1.map ρ) x2) (f_Sw_goBack a r1 x2) := sn_Re.ite sn_nnone (sn_Re.ite Iff.rfl (re_Sw_goBack_16 HI a ha r1 hr1 x2 (0 : Int32)) (re_Sw_goBack_16 HI a ha r1 hr1 x2 (1 : Int32))) (sn_Re.V)
set_option maxHeartbeats 4000000 in
set_option maxRecDepth 100000 in
theorem re_Sw_idleCircuit_94 {ρ kk : Nat → Nat} (HI : sn_HI ρ kk) (a : Nat) (ha : kk a ≠ 0) (fk15 k15 : Option Nat → Int32 → Int32 → sn_M) (hk15 : ∀ (r1 : Option Nat) (hr1 : sn_okr kk r1) (x2 : Int32) (x3 : Int32), sn_Re ρ kk (fk15 (r1.map ρ) x2 x3) (k15 r1 x2 x3)) (r1 : Option Nat) (hr1 : sn_okr kk r1) (x2 : Int32) (x3 : Int32) : sn_Re ρ kk (f_Sw_idleCircuit_94 fk15 (ρ a) (r1.map ρ) x2 x3) (f_Sw_idleCircuit_94 k15 a r1 x2 x3) := hk15 r1 hr1 x2 (x3 + (1 : Int32))
set_option maxHeartbeats 4000000 in
set_option maxRecDepth 100000 in
theorem re_Sw_idleCircuit_76 {ρ kk : Nat → Nat} (HI : sn_HI ρ kk) (a : Nat) (ha : kk a ≠ 0) (fk15 k15 : Option Nat → Int32 → Int32 → sn_M) (hk15 : ∀ (r1 : Option Nat) (hr1 : sn_okr kk r1) (x2 : Int32) (x3 : Int32), sn_Re ρ kk (fk15 (r1.map ρ) x2 x3) (k15 r1 x2 x3)) (r1 : Option Nat) (hr1 : sn_okr kk r1) (x2 : Int32) (x3 : Int32) (t0 : Option Nat) (ht0 : sn_okr kk t0) : sn_Re ρ kk (f_Sw_idleCircuit_76 fk15 (ρ a) (r1.map ρ) x2 x3 (t0.map ρ)) (f_Sw_idleCircuit_76 k15 a r1 x2 x3 t0) := sn_Re.ite sn_none (re_Sw_idleCircuit_94 HI a ha fk15 k15 hk15 r1 hr1 x2 x3) (sn_Re.nn (r := t0) (by decide) (fun a2 ha2 => sn_Re.cI (re_Lg_isFree HI a2 ha2) (fun v1 => sn_Re.ite Iff.rfl (re_Sw_idleCircuit_94 HI a ha fk15 k15 hk15 r1 hr1 x2 x3) (sn_Re.R (v := t0) ht0))))
set_option maxHeartbeats 4000000 in
set_option maxRecDepth 100000 in
theorem re_Sw_idleCircuit_52 {ρ kk : Nat → Nat} (HI : sn_HI ρ kk) (a : Nat) (ha : kk a ≠ 0) (fk15 k15 : Option Nat → Int32 → Int32 → sn_M) (hk15 : ∀ (r1 : Option Nat) (hr1 : sn_okr kk r1) (x2 : Int32) (x3 : Int32), sn_Re ρ kk (fk15 (r1.map ρ) x2 x3) (k15 r1 x2 x3)) (r1 : Option Nat) (hr1 : sn_okr kk r1) (x2 : Int32) (x3 : Int32) (x4 : Int32) (t0 : Int32) : sn_Re ρ kk (f_Sw_idleCircuit_52 fk15 (ρ a) (r1.map ρ) x2 x3 x4 t0) (f_Sw_idleCircuit_52 k15 a r1 x2 x3 x4 t0) := sn_Re.ite Iff.rfl (re_Sw_idleCircuit_76 HI a ha fk15 k15 hk15 r1 hr1 x2 x3 none sn_okr0) (sn_Re.gI (r := r1) (by decide) (fun v3 => sn_Re.nn (r := (some a)) (by decide) (fun a5 ha5 => sn_Re.cR (re_Sw_circuitAt HI a5 ha5 v3 x4 (x3 % (4 : Int32))) (fun v4 hv4 => re_Sw_idleCircuit_76 HI a ha fk15 k15 hk15 r1 hr1 x2 x3 v4 hv4))))
set_option maxHeartbeats 4000000 in
set_option maxRecDepth 100000 in
theorem re_Sw_idleCircuit_15 {ρ kk : Nat → Nat} (HI : sn_HI ρ kk) (a : Nat) (ha : kk a ≠ 0) : ∀ (n : Nat) (r1 : Option Nat) (hr1 : sn_okr kk r1) (x2 : Int32) (x3 : Int32), sn_Re ρ kk (f_Sw_idleCircuit_15 (ρ a) n (r1.map ρ) x2 x3) (f_Sw_idleCircuit_15 a n r1 x2 x3)
  | 0, _, _, _, _ => sn_Re.z0
  | n + 1, r1, hr1, x2, x3 => sn_Re.ite Iff.rfl (sn_Re.R (v := none) sn_okr0) (sn_Re.gR (r := (some a)) (by decide) (fun v6 hv6 => sn_Re.gI (r := r1) (by decide) (fun v7 => sn_Re.nn (r := v6) (by decide) (fun a9 ha9 => sn_Re.cI (re_Pl_told HI a9 ha9 v7 x2 (x3 / (4 : Int32))) (fun v8 => sn_Re.gI (r := r1) (by decide) (fun v10 => sn_Re.ite Iff.rfl (re_Sw_idleCircuit_52 HI a ha (f_Sw_idleCircuit_15 (ρ a) n) (f_Sw_idleCircuit_15 a n) (re_Sw_idleCircuit_15 HI a ha n) r1 hr1 x2 x3 v8 (0 : Int32)) (re_Sw_idleCircuit_52 HI a ha (f_Sw_idleCircuit_15 (ρ a) n) (f_Sw_idleCircuit_15 a n) (re_Sw_idleCircuit_15 HI a ha n) r1 hr1 x2 x3 v8 (1 : Int32))))))))
set_option maxHeartbeats 4000000 in
set_option maxRecDepth 100000 in
theorem re_Sw_idleCircuit {ρ kk : Nat → Nat} (HI : sn_HI ρ kk) (a : Nat) (ha : kk a ≠ 0) (r1 : Option Nat) (hr1 : sn_okr kk r1) (x2 : Int32) : sn_Re ρ kk (f_Sw_idleCircuit (ρ a) (r1.map ρ) x2) (f_Sw_idleCircuit a r1 x2) := sn_Re.gI (r := r1) (by decide) (fun v11 => sn_Re.ite Iff.rfl (re_Sw_idleCircuit_15 HI a ha sn_fuel r1 hr1 x2 (0 : Int32)) (sn_Re.R (v := none) sn_okr0))
set_option maxHeartbeats 4000000 in
set_option maxRecDepth 100000 in
theorem re_Sw_idleSubscriber_22 {ρ kk : Nat → Nat} (HI : sn_HI ρ kk) (a : Nat) (ha : kk a ≠ 0) (t0 : Option Nat) (ht0 : sn_okr kk t0) : sn_Re ρ kk (f_Sw_idleSubscriber_22 (ρ a) (t0.map ρ)) (f_Sw_idleSubscriber_22 a t0) := sn_Re.R (v := t0) ht0
set_option maxHeartbeats 4000000 in
set_option maxRecDepth 100000 in
theorem re_Sw_idleSubscriber_21 {ρ kk : Nat → Nat} (HI : sn_HI ρ kk) (a : Nat) (ha : kk a ≠ 0) : sn_Re ρ kk (f_Sw_idleSubscriber_21 (ρ a)) (f_Sw_idleSubscriber_21 a) := re_Sw_idleSubscriber_22 HI a ha none sn_okr0
set_option maxHeartbeats 4000000 in
set_option maxRecDepth 100000 in
theorem re_Sw_idleSubscriber {ρ kk : Nat → Nat} (HI : sn_HI ρ kk) (a : Nat) (ha : kk a ≠ 0) (x1 : Int32) : sn_Re ρ kk (f_Sw_idleSubscriber (ρ a) x1) (f_Sw_idleSubscriber a x1) := sn_Re.nn (r := (some a)) (by decide) (fun a2 ha2 => sn_Re.cR (re_Sw_subscriberAt HI a2 ha2 x1) (fun v1 hv1 => sn_Re.ite sn_none (re_Sw_idleSubscriber_21 HI a ha) (sn_Re.gI (r := v1) (by decide) (fun v3 => sn_Re.ite Iff.rfl (re_Sw_idleSubscriber_21 HI a ha) (re_Sw_idleSubscriber_22 HI a ha v1 hv1)))))
set_option maxHeartbeats 4000000 in
set_option maxRecDepth 100000 in
theorem re_Sw_join {ρ kk : Nat → Nat} (HI : sn_HI ρ kk) (r0 : Option Nat) (hr0 : sn_okr kk r0) (r1 : Option Nat) (hr1 : sn_okr kk r1) : sn_Re ρ kk (f_Sw_join (r0.map ρ) (r1.map ρ)) (f_Sw_join r0 r1) := sn_Re.pR HI (r := r0) (v := r1) (by decide) hr1 (sn_Re.pR HI (r := r1) (v := r0) (by decide) hr0 (sn_Re.V))
set_option maxHeartbeats 4000000 in
set_option maxRecDepth 100000 in
theorem re_Sw_letGo_99 {ρ kk : Nat → Nat} (HI : sn_HI ρ kk) (a : Nat) (ha : kk a ≠ 0) : sn_Re ρ kk (f_Sw_letGo_99 (ρ a)) (f_Sw_letGo_99 a) := sn_Re.V
set_option maxHeartbeats 4000000 in
set_option maxRecDepth 100000 in
theorem re_Sw_letGo {ρ kk : Nat → Nat} (HI : sn_HI ρ kk) (a : Nat) (ha : kk a ≠ 0) (r1 : Option Nat) (hr1 : sn_okr kk r1) : sn_Re ρ kk (f_Sw_letGo (ρ a) (r1.map ρ)) (f_Sw_letGo a r1) := sn_Re.ite sn_nnone (sn_Re.nn (r := r1) (by decide) (fun a2 ha2 => sn_Re.cR (re_Lg_part HI a2 ha2) (fun v1 hv1 => sn_Re.nn (r := r1) (by decide) (fun a4 ha4 => sn_Re.cI (re_Lg_isSubscriber HI a4 ha4) (fun v3 => sn_Re.ite Iff.rfl (sn_Re.gI (r := r1) (by decide) (fun v5 => sn_Re.ite Iff.rfl (sn_Re.gI (r := r1) (by decide) (fun v6 => sn_Re.ite Iff.rfl (re_Sw_letGo_99 HI a ha) (sn_Re.pI HI (r := r1) (by decide) (re_Sw_letGo_99 HI a ha)))) (sn_Re.pI HI (r := r1) (by decide) (re_Sw_letGo_99 HI a ha)))) (sn_Re.nn (r := r1) (by decide) (fun a8 ha8 => sn_Re.cI (re_Lg_isInCall HI a8 ha8) (fun v7 => sn_Re.ite Iff.rfl (re_Sw_letGo_99 HI a ha) (sn_Re.nn (r := r1) (by decide) (fun a10 ha10 => sn_Re.cV (re_Lg_leaveCall HI a10 ha10 (7 : Int32)) (sn_Re.gR (r := (some a)) (by decide) (fun v11 hv11 => sn_Re.nn (r := v11) (by decide) (fun a13 ha13 => sn_Re.cI (re_Ck_after HI a13 ha13 (6 : Int32)) (fun v12 => sn_Re.pI HI (r := r1) (by decide) (sn_Re.gR (r := (some a)) (by decide) (fun v14 hv14 => sn_Re.nn (r := v14) (by decide) (fun a16 ha16 => sn_Re.cI (re_Ck_after HI a16 ha16 (30 : Int32)) (fun v15 => sn_Re.pI HI (r := r1) (by decide) (sn_Re.gI (r := r1) (by decide) (fun v17 => sn_Re.nn (r := (some a)) (by decide) (fun a19 ha19 => sn_Re.cV (re_Sw_post HI a19 ha19 r1 hr1 (10 : Int32) v17 (0 : Int32)) (re_Sw_letGo_99 HI a ha)))))))))))))))))))))) (sn_Re.V)
set_option maxHeartbeats 4000000 in
set_option maxRecDepth 100000 in
theorem re_Sw_connect_90 {ρ kk : Nat → Nat} (HI : sn_HI ρ kk) (a : Nat) (ha : kk a ≠ 0) : sn_Re ρ kk (f_Sw_connect_90 (ρ a)) (f_Sw_connect_90 a) := sn_Re.V
set_option maxHeartbeats 4000000 in
set_option maxRecDepth 100000 in
theorem re_Sw_connect_38 {ρ kk : Nat → Nat} (HI : sn_HI ρ kk) (a : Nat) (ha : kk a ≠ 0) (r1 : Option Nat) (hr1 : sn_okr kk r1) (x2 : Int32) (x3 : Int32) (t0 : Option Nat) (ht0 : sn_okr kk t0) : sn_Re ρ kk (f_Sw_connect_38 (ρ a) (r1.map ρ) x2 x3 (t0.map ρ)) (f_Sw_connect_38 a r1 x2 x3 t0) := sn_Re.ite sn_nnone (sn_Re.cV (re_Sw_join HI r1 hr1 t0 ht0) (sn_Re.ite Iff.rfl (sn_Re.gI (r := r1) (by decide) (fun v2 => sn_Re.nn (r := (some a)) (by decide) (fun a4 ha4 => sn_Re.cV (re_Sw_ask HI a4 ha4 t0 ht0 x2 (v2 + (1 : Int32))) (re_Sw_connect_90 HI a ha)))) (sn_Re.pI HI (r := t0) (by decide) (sn_Re.nn (r := (some a)) (by decide) (fun a6 ha6 => sn_Re.cV (re_Sw_goBack HI a6 ha6 r1 hr1 (8 : Int32)) (re_Sw_connect_90 HI a ha)))))) (sn_Re.nn (r := (some a)) (by decide) (fun a8 ha8 => sn_Re.cV (re_Sw_letGo HI a8 ha8 r1 hr1) (sn_Re.V)))
set_option maxHeartbeats 4000000 in
set_option maxRecDepth 100000 in
theorem re_Sw_connect_16 {ρ kk : Nat → Nat} (HI : sn_HI ρ kk) (a : Nat) (ha : kk a ≠ 0) (r1 : Option Nat) (hr1 : sn_okr kk r1) (x2 : Int32) (t0 : Int32) : sn_Re ρ kk (f_Sw_connect_16 (ρ a) (r1.map ρ) x2 t0) (f_Sw_connect_16 a r1 x2 t0) := sn_Re.ite Iff.rfl (sn_Re.nn (r := (some a)) (by decide) (fun a10 ha10 => sn_Re.cR (re_Sw_idleCircuit HI a10 ha10 r1 hr1 (x2 / (10 : Int32))) (fun v9 hv9 => re_Sw_connect_38 HI a ha r1 hr1 x2 t0 v9 hv9))) (sn_Re.nn (r := (some a)) (by decide) (fun a12 ha12 => sn_Re.cR (re_Sw_idleSubscriber HI a12 ha12 x2) (fun v11 hv11 => re_Sw_connect_38 HI a ha r1 hr1 x2 t0 v11 hv11)))
set_option maxHeartbeats 4000000 in
set_option maxRecDepth 100000 in
theorem re_Sw_connect {ρ kk : Nat → Nat} (HI : sn_HI ρ kk) (a : Nat) (ha : kk a ≠ 0) (r1 : Option Nat) (hr1 : sn_okr kk r1) (x2 : Int32) : sn_Re ρ kk (f_Sw_connect (ρ a) (r1.map ρ) x2) (f_Sw_connect a r1 x2) := sn_Re.gI (r := r1) (by decide) (fun v13 => sn_Re.ite Iff.rfl (re_Sw_connect_16 HI a ha r1 hr1 x2 (0 : Int32)) (re_Sw_connect_16 HI a ha r1 hr1 x2 (1 : Int32)))
set_option maxHeartbeats 4000000 in
set_option maxRecDepth 100000 in
theorem re_Sw_call_18 {ρ kk : Nat → Nat} (HI : sn_HI ρ kk) (a : Nat) (ha : kk a ≠ 0) : sn_Re ρ kk (f_Sw_call_18 (ρ a)) (f_Sw_call_18 a) := sn_Re.Z
set_option maxHeartbeats 4000000 in
set_option maxRecDepth 100000 in
theorem re_Sw_call_32 {ρ kk : Nat → Nat} (HI : sn_HI ρ kk) (a : Nat) (ha : kk a ≠ 0) : sn_Re ρ kk (f_Sw_call_32 (ρ a)) (f_Sw_call_32 a) := sn_Re.Z
set_option maxHeartbeats 4000000 in
set_option maxRecDepth 100000 in
theorem re_Sw_call {ρ kk : Nat → Nat} (HI : sn_HI ρ kk) (a : Nat) (ha : kk a ≠ 0) (x1 : Int32) (x2 : Int32) : sn_Re ρ kk (f_Sw_call (ρ a) x1 x2) (f_Sw_call a x1 x2) := sn_Re.nn (r := (some a)) (by decide) (fun a2 ha2 => sn_Re.cR (re_Sw_subscriberAt HI a2 ha2 x1) (fun v1 hv1 => sn_Re.ite sn_none (re_Sw_call_18 HI a ha) (sn_Re.nn (r := (some a)) (by decide) (fun a4 ha4 => sn_Re.cR (re_Sw_subscriberAt HI a4 ha4 x2) (fun v3 hv3 => sn_Re.ite sn_nnone (sn_Re.gI (r := v1) (by decide) (fun v5 => sn_Re.ite Iff.rfl (re_Sw_call_32 HI a ha) (sn_Re.ite Iff.rfl (sn_Re.pI HI (r := v1) (by decide) (sn_Re.nn (r := (some a)) (by decide) (fun a7 ha7 => sn_Re.cV (re_Sw_connect HI a7 ha7 v1 hv1 x2) (sn_Re.Z)))) (re_Sw_call_32 HI a ha)))) (re_Sw_call_18 HI a ha))))))
set_option maxHeartbeats 4000000 in
set_option maxRecDepth 100000 in
theorem re_Sw_pickUp_18 {ρ kk : Nat → Nat} (HI : sn_HI ρ kk) (a : Nat) (ha : kk a ≠ 0) : sn_Re ρ kk (f_Sw_pickUp_18 (ρ a)) (f_Sw_pickUp_18 a) := sn_Re.Z
set_option maxHeartbeats 4000000 in
set_option maxRecDepth 100000 in
theorem re_Sw_pickUp {ρ kk : Nat → Nat} (HI : sn_HI ρ kk) (a : Nat) (ha : kk a ≠ 0) (x1 : Int32) : sn_Re ρ kk (f_Sw_pickUp (ρ a) x1) (f_Sw_pickUp a x1) := sn_Re.nn (r := (some a)) (by decide) (fun a2 ha2 => sn_Re.cR (re_Sw_subscriberAt HI a2 ha2 x1) (fun v1 hv1 => sn_Re.ite sn_none (re_Sw_pickUp_18 HI a ha) (sn_Re.gI (r := v1) (by decide) (fun v3 => sn_Re.ite Iff.rfl (sn_Re.pI HI (r := v1) (by decide) (sn_Re.gR (r := v1) (by decide) (fun v4 hv4 => sn_Re.nn (r := (some a)) (by decide) (fun a6 ha6 => sn_Re.cV (re_Sw_goBack HI a6 ha6 v4 hv4 (9 : Int32)) (sn_Re.Z))))) (re_Sw_pickUp_18 HI a ha)))))
set_option maxHeartbeats 4000000 in
set_option maxRecDepth 100000 in
theorem re_Sw_putDown_25 {ρ kk : Nat → Nat} (HI : sn_HI ρ kk) (a : Nat) (ha : kk a ≠ 0) : sn_Re ρ kk (f_Sw_putDown_25 (ρ a)) (f_Sw_putDown_25 a) := sn_Re.Z
set_option maxHeartbeats 4000000 in
set_option maxRecDepth 100000 in
theorem re_Sw_putDown {ρ kk : Nat → Nat} (HI : sn_HI ρ kk) (a : Nat) (ha : kk a ≠ 0) (x1 : Int32) : sn_Re ρ kk (f_Sw_putDown (ρ a) x1) (f_Sw_putDown a x1) := sn_Re.nn (r := (some a)) (by decide) (fun a2 ha2 => sn_Re.cR (re_Sw_subscriberAt HI a2 ha2 x1) (fun v1 hv1 => sn_Re.ite sn_none (re_Sw_putDown_25 HI a ha) (sn_Re.gI (r := v1) (by decide) (fun v3 => sn_Re.ite Iff.rfl (re_Sw_putDown_25 HI a ha) (sn_Re.gI (r := v1) (by decide) (fun v4 => sn_Re.ite Iff.rfl (sn_Re.pI HI (r := v1) (by decide) (sn_Re.nn (r := v1) (by decide) (fun a6 ha6 => sn_Re.cR (re_Lg_part HI a6 ha6) (fun v5 hv5 => sn_Re.nn (r := (some a)) (by decide) (fun a8 ha8 => sn_Re.cV (re_Sw_letGo HI a8 ha8 v5 hv5) (sn_Re.Z)))))) (re_Sw_putDown_25 HI a ha)))))))
set_option maxHeartbeats 4000000 in
set_option maxRecDepth 100000 in
theorem re_Sw_setBlocked_24 {ρ kk : Nat → Nat} (HI : sn_HI ρ kk) (a : Nat) (ha : kk a ≠ 0) : sn_Re ρ kk (f_Sw_setBlocked_24 (ρ a)) (f_Sw_setBlocked_24 a) := sn_Re.Z
set_option maxHeartbeats 4000000 in
set_option maxRecDepth 100000 in
theorem re_Sw_setBlocked_48 {ρ kk : Nat → Nat} (HI : sn_HI ρ kk) (a : Nat) (ha : kk a ≠ 0) (r5 : Option Nat) (hr5 : sn_okr kk r5) (t0 : Option Nat) (ht0 : sn_okr kk t0) (t1 : Option Nat) (ht1 : sn_okr kk t1) (t2 : Int32) : sn_Re ρ kk (f_Sw_setBlocked_48 (ρ a) (r5.map ρ) (t0.map ρ) (t1.map ρ) t2) (f_Sw_setBlocked_48 a r5 t0 t1 t2) := sn_Re.gI (r := r5) (by decide) (fun v1 => sn_Re.nn (r := t0) (by decide) (fun a3 ha3 => sn_Re.cV (re_Sw_post HI a3 ha3 t1 ht1 t2 v1 (0 : Int32)) (sn_Re.Z)))
set_option maxHeartbeats 4000000 in
set_option maxRecDepth 100000 in
theorem re_Sw_setBlocked {ρ kk : Nat → Nat} (HI : sn_HI ρ kk) (a : Nat) (ha : kk a ≠ 0) (x1 : Int32) (x2 : Int32) (x3 : Int32) (x4 : Int32) : sn_Re ρ kk (f_Sw_setBlocked (ρ a) x1 x2 x3 x4) (f_Sw_setBlocked a x1 x2 x3 x4) := sn_Re.nn (r := (some a)) (by decide) (fun a5 ha5 => sn_Re.cR (re_Sw_circuitAt HI a5 ha5 x1 x2 x3) (fun v4 hv4 => sn_Re.ite sn_none (re_Sw_setBlocked_24 HI a ha) (sn_Re.gI (r := v4) (by decide) (fun v6 => sn_Re.ite Iff.rfl (sn_Re.pZ HI (r := v4) (by decide) (sn_Re.ite Iff.rfl (re_Sw_setBlocked_48 HI a ha v4 hv4 (some a) (sn_okr1 ha) v4 hv4 (14 : Int32)) (re_Sw_setBlocked_48 HI a ha v4 hv4 (some a) (sn_okr1 ha) v4 hv4 (13 : Int32)))) (re_Sw_setBlocked_24 HI a ha)))))
set_option maxHeartbeats 4000000 in
set_option maxRecDepth 100000 in
theorem re_Sw_talksWith_140 {ρ kk : Nat → Nat} (HI : sn_HI ρ kk) (a : Nat) (ha : kk a ≠ 0) (t0 : Int32) : sn_Re ρ kk (f_Sw_talksWith_140 (ρ a) t0) (f_Sw_talksWith_140 a t0) := sn_Re.I
set_option maxHeartbeats 4000000 in
set_option maxRecDepth 100000 in
theorem re_Sw_talksWith_127 {ρ kk : Nat → Nat} (HI : sn_HI ρ kk) (a : Nat) (ha : kk a ≠ 0) (r2 : Option Nat) (hr2 : sn_okr kk r2) (t0 : Int32) : sn_Re ρ kk (f_Sw_talksWith_127 (ρ a) (r2.map ρ) t0) (f_Sw_talksWith_127 a r2 t0) := sn_Re.ite Iff.rfl (re_Sw_talksWith_140 HI a ha (-1 : Int32)) (sn_Re.nn (r := r2) (by decide) (fun a2 ha2 => sn_Re.cI (re_Lg_code HI a2 ha2) (fun v1 => re_Sw_talksWith_140 HI a ha v1)))
set_option maxHeartbeats 4000000 in
set_option maxRecDepth 100000 in
theorem re_Sw_talksWith_126 {ρ kk : Nat → Nat} (HI : sn_HI ρ kk) (a : Nat) (ha : kk a ≠ 0) (r2 : Option Nat) (hr2 : sn_okr kk r2) : sn_Re ρ kk (f_Sw_talksWith_126 (ρ a) (r2.map ρ)) (f_Sw_talksWith_126 a r2) := re_Sw_talksWith_127 HI a ha r2 hr2 (0 : Int32)
set_option maxHeartbeats 4000000 in
set_option maxRecDepth 100000 in
theorem re_Sw_talksWith_103 {ρ kk : Nat → Nat} (HI : sn_HI ρ kk) (a : Nat) (ha : kk a ≠ 0) (r2 : Option Nat) (hr2 : sn_okr kk r2) : sn_Re ρ kk (f_Sw_talksWith_103 (ρ a) (r2.map ρ)) (f_Sw_talksWith_103 a r2) := sn_Re.ite sn_none (re_Sw_talksWith_126 HI a ha r2 hr2) (sn_Re.nn (r := r2) (by decide) (fun a4 ha4 => sn_Re.cI (re_Lg_isSubscriber HI a4 ha4) (fun v3 => sn_Re.ite Iff.rfl (re_Sw_talksWith_126 HI a ha r2 hr2) (sn_Re.gI (r := r2) (by decide) (fun v5 => sn_Re.ite Iff.rfl (re_Sw_talksWith_126 HI a ha r2 hr2) (re_Sw_talksWith_127 HI a ha r2 hr2 (1 : Int32)))))))
set_option maxHeartbeats 4000000 in
set_option maxRecDepth 100000 in
theorem re_Sw_talksWith_96 {ρ kk : Nat → Nat} (HI : sn_HI ρ kk) (a : Nat) (ha : kk a ≠ 0) (fk17 k17 : Option Nat → Int32 → sn_M) (hk17 : ∀ (r2 : Option Nat) (hr2 : sn_okr kk r2) (x3 : Int32), sn_Re ρ kk (fk17 (r2.map ρ) x3) (k17 r2 x3)) (x3 : Int32) (t0 : Option Nat) (ht0 : sn_okr kk t0) : sn_Re ρ kk (f_Sw_talksWith_96 fk17 (ρ a) x3 (t0.map ρ)) (f_Sw_talksWith_96 k17 a x3 t0) := hk17 t0 ht0 (x3 + (1 : Int32))
set_option maxHeartbeats 4000000 in
set_option maxRecDepth 100000 in
theorem re_Sw_talksWith_80 {ρ kk : Nat → Nat} (HI : sn_HI ρ kk) (a : Nat) (ha : kk a ≠ 0) (fk17 k17 : Option Nat → Int32 → sn_M) (hk17 : ∀ (r2 : Option Nat) (hr2 : sn_okr kk r2) (x3 : Int32), sn_Re ρ kk (fk17 (r2.map ρ) x3) (k17 r2 x3)) (x3 : Int32) (r4 : Option Nat) (hr4 : sn_okr kk r4) (t0 : Int32) : sn_Re ρ kk (f_Sw_talksWith_80 fk17 (ρ a) x3 (r4.map ρ) t0) (f_Sw_talksWith_80 k17 a x3 r4 t0) := sn_Re.ite Iff.rfl (re_Sw_talksWith_96 HI a ha fk17 k17 hk17 x3 none sn_okr0) (sn_Re.gR (r := r4) (by decide) (fun v6 hv6 => re_Sw_talksWith_96 HI a ha fk17 k17 hk17 x3 v6 hv6))
set_option maxHeartbeats 4000000 in
set_option maxRecDepth 100000 in
theorem re_Sw_talksWith_79 {ρ kk : Nat → Nat} (HI : sn_HI ρ kk) (a : Nat) (ha : kk a ≠ 0) (fk17 k17 : Option Nat → Int32 → sn_M) (hk17 : ∀ (r2 : Option Nat) (hr2 : sn_okr kk r2) (x3 : Int32), sn_Re ρ kk (fk17 (r2.map ρ) x3) (k17 r2 x3)) (x3 : Int32) (r4 : Option Nat) (hr4 : sn_okr kk r4) : sn_Re ρ kk (f_Sw_talksWith_79 fk17 (ρ a) x3 (r4.map ρ)) (f_Sw_talksWith_79 k17 a x3 r4) := re_Sw_talksWith_80 HI a ha fk17 k17 hk17 x3 r4 hr4 (0 : Int32)
set_option maxHeartbeats 4000000 in
set_option maxRecDepth 100000 in
theorem re_Sw_talksWith_17 {ρ kk : Nat → Nat} (HI : sn_HI ρ kk) (a : Nat) (ha : kk a ≠ 0) : ∀ (n : Nat) (r2 : Option Nat) (hr2 : sn_okr kk r2) (x3 : Int32), sn_Re ρ kk (f_Sw_talksWith_17 (ρ a) n (r2.map ρ) x3) (f_Sw_talksWith_17 a n r2 x3)
  | 0, _, _, _ => sn_Re.z0
  | n + 1, r2, hr2, x3 => sn_Re.gR (r := (some a)) (by decide) (fun v7 hv7 => sn_Re.len (r := v7) (by decide) (fun v8 => sn_Re.ite Iff.rfl (re_Sw_talksWith_103 HI a ha r2 hr2) (sn_Re.ite sn_none (re_Sw_talksWith_103 HI a ha r2 hr2) (sn_Re.nn (r := r2) (by decide) (fun a10 ha10 => sn_Re.cI (re_Lg_isSubscriber HI a10 ha10) (fun v9 => sn_Re.ite Iff.rfl (re_Sw_talksWith_103 HI a ha r2 hr2) (sn_Re.gI (r := r2) (by decide) (fun v11 => sn_Re.gI (r := r2) (by decide) (fun v12 => sn_Re.gI (r := r2) (by decide) (fun v13 => sn_Re.nn (r := (some a)) (by decide) (fun a15 ha15 => sn_Re.cR (re_Sw_circuitAt HI a15 ha15 v11 v12 v13) (fun v14 hv14 => sn_Re.nn (r := r2) (by decide) (fun a17 ha17 => sn_Re.cI (re_Lg_isAnswered HI a17 ha17) (fun v16 => sn_Re.ite Iff.rfl (re_Sw_talksWith_79 HI a ha (f_Sw_talksWith_17 (ρ a) n) (f_Sw_talksWith_17 a n) (re_Sw_talksWith_17 HI a ha n) x3 v14 hv14) (sn_Re.ite sn_none (re_Sw_talksWith_79 HI a ha (f_Sw_talksWith_17 (ρ a) n) (f_Sw_talksWith_17 a n) (re_Sw_talksWith_17 HI a ha n) x3 v14 hv14) (sn_Re.nn (r := v14) (by decide) (fun a19 ha19 => sn_Re.cI (re_Lg_isAnswered HI a19 ha19) (fun v18 => sn_Re.ite Iff.rfl (re_Sw_talksWith_79 HI a ha (f_Sw_talksWith_17 (ρ a) n) (f_Sw_talksWith_17 a n) (re_Sw_talksWith_17 HI a ha n) x3 v14 hv14) (re_Sw_talksWith_80 HI a ha (f_Sw_talksWith_17 (ρ a) n) (f_Sw_talksWith_17 a n) (re_Sw_talksWith_17 HI a ha n) x3 v14 hv14 (1 : Int32))))))))))))))))))))
set_option maxHeartbeats 4000000 in
set_option maxRecDepth 100000 in
theorem re_Sw_talksWith {ρ kk : Nat → Nat} (HI : sn_HI ρ kk) (a : Nat) (ha : kk a ≠ 0) (r1 : Option Nat) (hr1 : sn_okr kk r1) : sn_Re ρ kk (f_Sw_talksWith (ρ a) (r1.map ρ)) (f_Sw_talksWith a r1) := sn_Re.gI (r := r1) (by decide) (fun v20 => sn_Re.ite Iff.rfl (sn_Re.gR (r := r1) (by decide) (fun v21 hv21 => re_Sw_talksWith_17 HI a ha sn_fuel v21 hv21 (0 : Int32))) (sn_Re.I))
set_option maxHeartbeats 4000000 in
set_option maxRecDepth 100000 in
theorem re_Sw_getInitial_95 {ρ kk : Nat → Nat} (HI : sn_HI ρ kk) (a : Nat) (ha : kk a ≠ 0) : sn_Re ρ kk (f_Sw_getInitial_95 (ρ a)) (f_Sw_getInitial_95 a) := sn_Re.V
set_option maxHeartbeats 4000000 in
set_option maxRecDepth 100000 in
theorem re_Sw_getInitial_35 {ρ kk : Nat → Nat} (HI : sn_HI ρ kk) (a : Nat) (ha : kk a ≠ 0) (r1 : Option Nat) (hr1 : sn_okr kk r1) (x2 : Int32) (x3 : Int32) : sn_Re ρ kk (f_Sw_getInitial_35 (ρ a) (r1.map ρ) x2 x3) (f_Sw_getInitial_35 a r1 x2 x3) := sn_Re.gI (r := r1) (by decide) (fun v1 => sn_Re.nn (r := r1) (by decide) (fun a3 ha3 => sn_Re.cR (re_Lg_part HI a3 ha3) (fun v2 hv2 => sn_Re.nn (r := r1) (by decide) (fun a5 ha5 => sn_Re.cV (re_Lg_leaveCall HI a5 ha5 (4 : Int32)) (sn_Re.pI HI (r := r1) (by decide) (sn_Re.pI HI (r := r1) (by decide) (sn_Re.pI HI (r := r1) (by decide) (sn_Re.gI (r := r1) (by decide) (fun v6 => sn_Re.nn (r := (some a)) (by decide) (fun a8 ha8 => sn_Re.cV (re_Sw_connect HI a8 ha8 r1 hr1 v6) (sn_Re.ite sn_none (re_Sw_getInitial_95 HI a ha) (sn_Re.nn (r := (some a)) (by decide) (fun a10 ha10 => sn_Re.cV (re_Sw_connect HI a10 ha10 v2 hv2 v1) (re_Sw_getInitial_95 HI a ha))))))))))))))
set_option maxHeartbeats 4000000 in
set_option maxRecDepth 100000 in
theorem re_Sw_getInitial_20 {ρ kk : Nat → Nat} (HI : sn_HI ρ kk) (a : Nat) (ha : kk a ≠ 0) (r1 : Option Nat) (hr1 : sn_okr kk r1) (x2 : Int32) (x3 : Int32) (t0 : Int32) : sn_Re ρ kk (f_Sw_getInitial_20 (ρ a) (r1.map ρ) x2 x3 t0) (f_Sw_getInitial_20 a r1 x2 x3 t0) := sn_Re.gI (r := r1) (by decide) (fun v11 => sn_Re.ite Iff.rfl (re_Sw_getInitial_35 HI a ha r1 hr1 x2 x3) (sn_Re.ite Iff.rfl (re_Sw_getInitial_35 HI a ha r1 hr1 x2 x3) (sn_Re.V)))
set_option maxHeartbeats 4000000 in
set_option maxRecDepth 100000 in
theorem re_Sw_getInitial_19 {ρ kk : Nat → Nat} (HI : sn_HI ρ kk) (a : Nat) (ha : kk a ≠ 0) (r1 : Option Nat) (hr1 : sn_okr kk r1) (x2 : Int32) (x3 : Int32) : sn_Re ρ kk (f_Sw_getInitial_19 (ρ a) (r1.map ρ) x2 x3) (f_Sw_getInitial_19 a r1 x2 x3) := re_Sw_getInitial_20 HI a ha r1 hr1 x2 x3 (0 : Int32)
set_option maxHeartbeats 4000000 in
set_option maxRecDepth 100000 in
theorem re_Sw_getInitial {ρ kk : Nat → Nat} (HI : sn_HI ρ kk) (a : Nat) (ha : kk a ≠ 0) (r1 : Option Nat) (hr1 : sn_okr kk r1) (x2 : Int32) (x3 : Int32) : sn_Re ρ kk (f_Sw_getInitial (ρ a) (r1.map ρ) x2 x3) (f_Sw_getInitial a r1 x2 x3) := sn_Re.gI (r := r1) (by decide) (fun v12 => sn_Re.ite Iff.rfl (re_Sw_getInitial_19 HI a ha r1 hr1 x2 x3) (sn_Re.nn (r := r1) (by decide) (fun a14 ha14 => sn_Re.cI (re_Lg_controls HI a14 ha14) (fun v13 => sn_Re.ite Iff.rfl (re_Sw_getInitial_19 HI a ha r1 hr1 x2 x3) (re_Sw_getInitial_20 HI a ha r1 hr1 x2 x3 (1 : Int32))))))
set_option maxHeartbeats 4000000 in
set_option maxRecDepth 100000 in
theorem re_Sw_reset {ρ kk : Nat → Nat} (HI : sn_HI ρ kk) (a : Nat) (ha : kk a ≠ 0) (r1 : Option Nat) (hr1 : sn_okr kk r1) : sn_Re ρ kk (f_Sw_reset (ρ a) (r1.map ρ)) (f_Sw_reset a r1) := sn_Re.nn (r := r1) (by decide) (fun a2 ha2 => sn_Re.cV (re_Lg_leaveCall HI a2 ha2 (8 : Int32)) (sn_Re.gR (r := (some a)) (by decide) (fun v3 hv3 => sn_Re.nn (r := v3) (by decide) (fun a5 ha5 => sn_Re.cI (re_Ck_after HI a5 ha5 (30 : Int32)) (fun v4 => sn_Re.pI HI (r := r1) (by decide) (sn_Re.gI (r := r1) (by decide) (fun v6 => sn_Re.nn (r := (some a)) (by decide) (fun a8 ha8 => sn_Re.cV (re_Sw_post HI a8 ha8 r1 hr1 (12 : Int32) v6 (0 : Int32)) (sn_Re.V)))))))))
set_option maxHeartbeats 4000000 in
set_option maxRecDepth 100000 in
theorem re_Sw_getProgress_106 {ρ kk : Nat → Nat} (HI : sn_HI ρ kk) (a : Nat) (ha : kk a ≠ 0) : sn_Re ρ kk (f_Sw_getProgress_106 (ρ a)) (f_Sw_getProgress_106 a) := sn_Re.V
set_option maxHeartbeats 4000000 in
set_option maxRecDepth 100000 in
theorem re_Sw_getProgress_72 {ρ kk : Nat → Nat} (HI : sn_HI ρ kk) (a : Nat) (ha : kk a ≠ 0) (r1 : Option Nat) (hr1 : sn_okr kk r1) (x3 : Int32) : sn_Re ρ kk (f_Sw_getProgress_72 (ρ a) (r1.map ρ) x3) (f_Sw_getProgress_72 a r1 x3) := sn_Re.ite Iff.rfl (re_Sw_getProgress_106 HI a ha) (sn_Re.gI (r := r1) (by decide) (fun v1 => sn_Re.ite Iff.rfl (re_Sw_getProgress_106 HI a ha) (sn_Re.pI HI (r := r1) (by decide) (sn_Re.pI HI (r := r1) (by decide) (sn_Re.gR (r := r1) (by decide) (fun v2 hv2 => sn_Re.nn (r := (some a)) (by decide) (fun a4 ha4 => sn_Re.cV (re_Sw_goBack HI a4 ha4 v2 hv2 (9 : Int32)) (re_Sw_getProgress_106 HI a ha))))))))
set_option maxHeartbeats 4000000 in
set_option maxRecDepth 100000 in
theorem re_Sw_getProgress {ρ kk : Nat → Nat} (HI : sn_HI ρ kk) (a : Nat) (ha : kk a ≠ 0) (r1 : Option Nat) (hr1 : sn_okr kk r1) (x2 : Int32) (x3 : Int32) : sn_Re ρ kk (f_Sw_getProgress (ρ a) (r1.map ρ) x2 x3) (f_Sw_getProgress a r1 x2 x3) := sn_Re.gI (r := r1) (by decide) (fun v5 => sn_Re.ite Iff.rfl (sn_Re.gI (r := r1) (by decide) (fun v6 => sn_Re.ite Iff.rfl (sn_Re.ite Iff.rfl (re_Sw_getProgress_72 HI a ha r1 hr1 x3) (sn_Re.gI (r := r1) (by decide) (fun v7 => sn_Re.ite Iff.rfl (re_Sw_getProgress_72 HI a ha r1 hr1 x3) (sn_Re.pI HI (r := r1) (by decide) (sn_Re.gR (r := (some a)) (by decide) (fun v8 hv8 => sn_Re.nn (r := v8) (by decide) (fun a10 ha10 => sn_Re.cI (re_Ck_after HI a10 ha10 (60 : Int32)) (fun v9 => sn_Re.pI HI (r := r1) (by decide) (sn_Re.gR (r := r1) (by decide) (fun v11 hv11 => sn_Re.nn (r := (some a)) (by decide) (fun a13 ha13 => sn_Re.cV (re_Sw_goBack HI a13 ha13 v11 hv11 (8 : Int32)) (re_Sw_getProgress_106 HI a ha)))))))))))) (sn_Re.V))) (sn_Re.pI HI (r := r1) (by decide) (sn_Re.nn (r := (some a)) (by decide) (fun a15 ha15 => sn_Re.cV (re_Sw_reset HI a15 ha15 r1 hr1) (sn_Re.V)))))
set_option maxHeartbeats 4000000 in
set_option maxRecDepth 100000 in
theorem re_Sw_getRelease_52 {ρ kk : Nat → Nat} (HI : sn_HI ρ kk) (a : Nat) (ha : kk a ≠ 0) : sn_Re ρ kk (f_Sw_getRelease_52 (ρ a)) (f_Sw_getRelease_52 a) := sn_Re.V
set_option maxHeartbeats 4000000 in
set_option maxRecDepth 100000 in
theorem re_Sw_getRelease {ρ kk : Nat → Nat} (HI : sn_HI ρ kk) (a : Nat) (ha : kk a ≠ 0) (r1 : Option Nat) (hr1 : sn_okr kk r1) (x2 : Int32) (x3 : Int32) : sn_Re ρ kk (f_Sw_getRelease (ρ a) (r1.map ρ) x2 x3) (f_Sw_getRelease a r1 x2 x3) := sn_Re.nn (r := (some a)) (by decide) (fun a2 ha2 => sn_Re.cV (re_Sw_post HI a2 ha2 r1 hr1 (11 : Int32) x2 (0 : Int32)) (sn_Re.gI (r := r1) (by decide) (fun v3 => sn_Re.ite Iff.rfl (sn_Re.nn (r := r1) (by decide) (fun a5 ha5 => sn_Re.cI (re_Lg_isInCall HI a5 ha5) (fun v4 => sn_Re.ite Iff.rfl (sn_Re.ite Iff.rfl (re_Sw_getRelease_52 HI a ha) (sn_Re.nn (r := r1) (by decide) (fun a7 ha7 => sn_Re.cV (re_Lg_leaveCall HI a7 ha7 (0 : Int32)) (re_Sw_getRelease_52 HI a ha)))) (sn_Re.nn (r := r1) (by decide) (fun a9 ha9 => sn_Re.cV (re_Lg_leaveCall HI a9 ha9 (0 : Int32)) (sn_Re.nn (r := r1) (by decide) (fun a11 ha11 => sn_Re.cR (re_Lg_part HI a11 ha11) (fun v10 hv10 => sn_Re.nn (r := (some a)) (by decide) (fun a13 ha13 => sn_Re.cV (re_Sw_letGo HI a13 ha13 v10 hv10) (re_Sw_getRelease_52 HI a ha)))))))))) (sn_Re.V))))
set_option maxHeartbeats 4000000 in
set_option maxRecDepth 100000 in
theorem re_Sw_get_182 {ρ kk : Nat → Nat} (HI : sn_HI ρ kk) (a : Nat) (ha : kk a ≠ 0) : sn_Re ρ kk (f_Sw_get_182 (ρ a)) (f_Sw_get_182 a) := sn_Re.V
set_option maxHeartbeats 4000000 in
set_option maxRecDepth 100000 in
theorem re_Sw_get_107 {ρ kk : Nat → Nat} (HI : sn_HI ρ kk) (a : Nat) (ha : kk a ≠ 0) (r4 : Option Nat) (hr4 : sn_okr kk r4) (x5 : Int32) (x6 : Int32) : sn_Re ρ kk (f_Sw_get_107 (ρ a) (r4.map ρ) x5 x6) (f_Sw_get_107 a r4 x5 x6) := sn_Re.nn (r := (some a)) (by decide) (fun a2 ha2 => sn_Re.cV (re_Sw_getProgress HI a2 ha2 r4 hr4 x5 x6) (re_Sw_get_182 HI a ha))
set_option maxHeartbeats 4000000 in
set_option maxRecDepth 100000 in
theorem re_Sw_get_120 {ρ kk : Nat → Nat} (HI : sn_HI ρ kk) (a : Nat) (ha : kk a ≠ 0) (r4 : Option Nat) (hr4 : sn_okr kk r4) (x5 : Int32) (x6 : Int32) : sn_Re ρ kk (f_Sw_get_120 (ρ a) (r4.map ρ) x5 x6) (f_Sw_get_120 a r4 x5 x6) := sn_Re.nn (r := (some a)) (by decide) (fun a4 ha4 => sn_Re.cV (re_Sw_getRelease HI a4 ha4 r4 hr4 x5 x6) (re_Sw_get_182 HI a ha))
set_option maxHeartbeats 4000000 in
set_option maxRecDepth 100000 in
theorem re_Sw_get_176 {ρ kk : Nat → Nat} (HI : sn_HI ρ kk) (a : Nat) (ha : kk a ≠ 0) (t0 : Option Nat) (ht0 : sn_okr kk t0) (t1 : Int32) : sn_Re ρ kk (f_Sw_get_176 (ρ a) (t0.map ρ) t1) (f_Sw_get_176 a t0 t1) := sn_Re.pZ HI (r := t0) (by decide) (re_Sw_get_182 HI a ha)
set_option maxHeartbeats 4000000 in
set_option maxRecDepth 100000 in
theorem re_Sw_get_162 {ρ kk : Nat → Nat} (HI : sn_HI ρ kk) (a : Nat) (ha : kk a ≠ 0) (r4 : Option Nat) (hr4 : sn_okr kk r4) (x6 : Int32) : sn_Re ρ kk (f_Sw_get_162 (ρ a) (r4.map ρ) x6) (f_Sw_get_162 a r4 x6) := sn_Re.ite Iff.rfl (re_Sw_get_176 HI a ha r4 hr4 (0 : Int32)) (re_Sw_get_176 HI a ha r4 hr4 (1 : Int32))
set_option maxHeartbeats 4000000 in
set_option maxRecDepth 100000 in
theorem re_Sw_get {ρ kk : Nat → Nat} (HI : sn_HI ρ kk) (a : Nat) (ha : kk a ≠ 0) (l1 : Int64) : sn_Re ρ kk (f_Sw_get (ρ a) l1) (f_Sw_get a l1) := sn_Re.cI (re_Ms_first HI l1) (fun v5 => sn_Re.nI (fun n6 => sn_Re.cI (re_Ms_to HI l1) (fun v7 => sn_Re.cI (re_Ms_from HI l1) (fun v8 => sn_Re.nn (r := (some a)) (by decide) (fun a10 ha10 => sn_Re.cR (re_Sw_circuitAt HI a10 ha10 v7 v8 n6) (fun v9 hv9 => sn_Re.ite sn_nnone (sn_Re.cI (re_Ms_first HI l1) (fun v11 => sn_Re.nI (fun n12 => sn_Re.cI (re_Ms_kind HI l1) (fun v13 => sn_Re.swC (sn_Re.cI (re_Ms_second HI l1) (fun v14 => sn_Re.nn (r := (some a)) (by decide) (fun a16 ha16 => sn_Re.cV (re_Sw_getInitial HI a16 ha16 v9 hv9 n12 v14) (re_Sw_get_182 HI a ha)))) (sn_Re.swC (re_Sw_get_107 HI a ha v9 hv9 n12 v13) (sn_Re.swC (re_Sw_get_107 HI a ha v9 hv9 n12 v13) (sn_Re.swC (re_Sw_get_120 HI a ha v9 hv9 n12 v13) (sn_Re.swC (sn_Re.gI (r := v9) (by decide) (fun v17 => sn_Re.ite Iff.rfl (re_Sw_get_182 HI a ha) (sn_Re.gI (r := v9) (by decide) (fun v18 => sn_Re.ite Iff.rfl (re_Sw_get_182 HI a ha) (sn_Re.nn (r := v9) (by decide) (fun a20 ha20 => sn_Re.cV (re_Lg_leaveCall HI a20 ha20 (0 : Int32)) (re_Sw_get_182 HI a ha))))))) (sn_Re.swC (re_Sw_get_120 HI a ha v9 hv9 n12 v13) (sn_Re.swC (re_Sw_get_162 HI a ha v9 hv9 v13) (sn_Re.swC (re_Sw_get_162 HI a ha v9 hv9 v13) (sn_Re.swN (re_Sw_get_182 HI a ha))))))))))))) (sn_Re.V)))))))
set_option maxHeartbeats 4000000 in
set_option maxRecDepth 100000 in
theorem re_Sw_timeOut_69 {ρ kk : Nat → Nat} (HI : sn_HI ρ kk) (a : Nat) (ha : kk a ≠ 0) : sn_Re ρ kk (f_Sw_timeOut_69 (ρ a)) (f_Sw_timeOut_69 a) := sn_Re.V
set_option maxHeartbeats 4000000 in
set_option maxRecDepth 100000 in
theorem re_Sw_timeOut {ρ kk : Nat → Nat} (HI : sn_HI ρ kk) (a : Nat) (ha : kk a ≠ 0) (r1 : Option Nat) (hr1 : sn_okr kk r1) : sn_Re ρ kk (f_Sw_timeOut (ρ a) (r1.map ρ)) (f_Sw_timeOut a r1) := sn_Re.gI (r := r1) (by decide) (fun v1 => sn_Re.ite Iff.rfl (sn_Re.gI (r := r1) (by decide) (fun v2 => sn_Re.ite Iff.rfl (sn_Re.nn (r := r1) (by decide) (fun a4 ha4 => sn_Re.cR (re_Lg_part HI a4 ha4) (fun v3 hv3 => sn_Re.nn (r := (some a)) (by decide) (fun a6 ha6 => sn_Re.cV (re_Sw_letGo HI a6 ha6 r1 hr1) (sn_Re.nn (r := (some a)) (by decide) (fun a8 ha8 => sn_Re.cV (re_Sw_letGo HI a8 ha8 v3 hv3) (re_Sw_timeOut_69 HI a ha))))))) (sn_Re.nn (r := (some a)) (by decide) (fun a10 ha10 => sn_Re.cV (re_Sw_reset HI a10 ha10 r1 hr1) (re_Sw_timeOut_69 HI a ha))))) (sn_Re.gR (r := (some a)) (by decide) (fun v11 hv11 => sn_Re.nn (r := v11) (by decide) (fun a13 ha13 => sn_Re.cI (re_Ck_after HI a13 ha13 (6 : Int32)) (fun v12 => sn_Re.pI HI (r := r1) (by decide) (sn_Re.gI (r := r1) (by decide) (fun v14 => sn_Re.nn (r := (some a)) (by decide) (fun a16 ha16 => sn_Re.cV (re_Sw_post HI a16 ha16 r1 hr1 (10 : Int32) v14 (0 : Int32)) (re_Sw_timeOut_69 HI a ha)))))))))
set_option maxHeartbeats 4000000 in
set_option maxRecDepth 100000 in
theorem re_Sw_runTimers_88 {ρ kk : Nat → Nat} (HI : sn_HI ρ kk) (a : Nat) (ha : kk a ≠ 0) (t0 : Int32) : sn_Re ρ kk (f_Sw_runTimers_88 (ρ a) t0) (f_Sw_runTimers_88 a t0) := sn_Re.Z
set_option maxHeartbeats 4000000 in
set_option maxRecDepth 100000 in
theorem re_Sw_runTimers_83 {ρ kk : Nat → Nat} (HI : sn_HI ρ kk) (a : Nat) (ha : kk a ≠ 0) : sn_Re ρ kk (f_Sw_runTimers_83 (ρ a)) (f_Sw_runTimers_83 a) := re_Sw_runTimers_88 HI a ha (1 : Int32)
set_option maxHeartbeats 4000000 in
set_option maxRecDepth 100000 in
theorem re_Sw_runTimers_74 {ρ kk : Nat → Nat} (HI : sn_HI ρ kk) (a : Nat) (ha : kk a ≠ 0) (x3 : Int32) (x4 : Int32) : sn_Re ρ kk (f_Sw_runTimers_74 (ρ a) x3 x4) (f_Sw_runTimers_74 a x3 x4) := sn_Re.ite Iff.rfl (re_Sw_runTimers_83 HI a ha) (sn_Re.ite Iff.rfl (re_Sw_runTimers_88 HI a ha (0 : Int32)) (re_Sw_runTimers_83 HI a ha))
set_option maxHeartbeats 4000000 in
set_option maxRecDepth 100000 in
theorem re_Sw_runTimers_64 {ρ kk : Nat → Nat} (HI : sn_HI ρ kk) (a : Nat) (ha : kk a ≠ 0) (r2 : Option Nat) (hr2 : sn_okr kk r2) (x3 : Int32) (x4 : Int32) : sn_Re ρ kk (f_Sw_runTimers_64 (ρ a) (r2.map ρ) x3 x4) (f_Sw_runTimers_64 a r2 x3 x4) := sn_Re.ite Iff.rfl (re_Sw_runTimers_74 HI a ha x3 x4) (sn_Re.nn (r := (some a)) (by decide) (fun a2 ha2 => sn_Re.cV (re_Sw_reset HI a2 ha2 r2 hr2) (re_Sw_runTimers_74 HI a ha x3 x4)))
set_option maxHeartbeats 4000000 in
set_option maxRecDepth 100000 in
theorem re_Sw_runTimers_23 {ρ kk : Nat → Nat} (HI : sn_HI ρ kk) (a : Nat) (ha : kk a ≠ 0) (t0 : Option Nat) (ht0 : sn_okr kk t0) : sn_Re ρ kk (f_Sw_runTimers_23 (ρ a) (t0.map ρ)) (f_Sw_runTimers_23 a t0) := sn_Re.ite sn_nnone (sn_Re.gR (r := (some a)) (by decide) (fun v3 hv3 => sn_Re.gI (r := t0) (by decide) (fun v4 => sn_Re.nn (r := v3) (by decide) (fun a6 ha6 => sn_Re.cI (re_Ck_isOut HI a6 ha6 v4) (fun v5 => sn_Re.gR (r := (some a)) (by decide) (fun v7 hv7 => sn_Re.gI (r := t0) (by decide) (fun v8 => sn_Re.nn (r := v7) (by decide) (fun a10 ha10 => sn_Re.cI (re_Ck_isOut HI a10 ha10 v8) (fun v9 => sn_Re.ite Iff.rfl (re_Sw_runTimers_64 HI a ha t0 ht0 v5 v9) (sn_Re.nn (r := (some a)) (by decide) (fun a12 ha12 => sn_Re.cV (re_Sw_timeOut HI a12 ha12 t0 ht0) (re_Sw_runTimers_64 HI a ha t0 ht0 v5 v9)))))))))))) (sn_Re.Z)
set_option maxHeartbeats 4000000 in
set_option maxRecDepth 100000 in
theorem re_Sw_runTimers_13 {ρ kk : Nat → Nat} (HI : sn_HI ρ kk) (a : Nat) (ha : kk a ≠ 0) : sn_Re ρ kk (f_Sw_runTimers_13 (ρ a)) (f_Sw_runTimers_13 a) := re_Sw_runTimers_23 HI a ha none sn_okr0
set_option maxHeartbeats 4000000 in
set_option maxRecDepth 100000 in
theorem re_Sw_runTimers {ρ kk : Nat → Nat} (HI : sn_HI ρ kk) (a : Nat) (ha : kk a ≠ 0) (x1 : Int32) : sn_Re ρ kk (f_Sw_runTimers (ρ a) x1) (f_Sw_runTimers a x1) := sn_Re.ite Iff.rfl (re_Sw_runTimers_13 HI a ha) (sn_Re.gR (r := (some a)) (by decide) (fun v13 hv13 => sn_Re.len (r := v13) (by decide) (fun v14 => sn_Re.ite Iff.rfl (sn_Re.gR (r := (some a)) (by decide) (fun v15 hv15 => sn_Re.aR (r := v15) (by decide) (fun v16 hv16 => re_Sw_runTimers_23 HI a ha v16 hv16))) (re_Sw_runTimers_13 HI a ha))))
set_option maxHeartbeats 4000000 in
set_option maxRecDepth 100000 in
theorem re_Tr_endOf_34 {ρ kk : Nat → Nat} (HI : sn_HI ρ kk) (a : Nat) (ha : kk a ≠ 0) (t0 : Option Nat) (ht0 : sn_okr kk t0) : sn_Re ρ kk (f_Tr_endOf_34 (ρ a) (t0.map ρ)) (f_Tr_endOf_34 a t0) := sn_Re.R (v := t0) ht0
set_option maxHeartbeats 4000000 in
set_option maxRecDepth 100000 in
theorem re_Tr_endOf_20 {ρ kk : Nat → Nat} (HI : sn_HI ρ kk) (a : Nat) (ha : kk a ≠ 0) : sn_Re ρ kk (f_Tr_endOf_20 (ρ a)) (f_Tr_endOf_20 a) := re_Tr_endOf_34 HI a ha none sn_okr0
set_option maxHeartbeats 4000000 in
set_option maxRecDepth 100000 in
theorem re_Tr_endOf {ρ kk : Nat → Nat} (HI : sn_HI ρ kk) (a : Nat) (ha : kk a ≠ 0) (x1 : Int32) (x2 : Int32) : sn_Re ρ kk (f_Tr_endOf (ρ a) x1 x2) (f_Tr_endOf a x1 x2) := sn_Re.gR (r := (some a)) (by decide) (fun v1 hv1 => sn_Re.nn (r := v1) (by decide) (fun a3 ha3 => sn_Re.cI (re_Pl_isLink HI a3 ha3 x1) (fun v2 => sn_Re.ite Iff.rfl (re_Tr_endOf_20 HI a ha) (sn_Re.ite Iff.rfl (re_Tr_endOf_20 HI a ha) (sn_Re.ite Iff.rfl (sn_Re.gR (r := (some a)) (by decide) (fun v4 hv4 => sn_Re.aR (r := v4) (by decide) (fun v5 hv5 => re_Tr_endOf_34 HI a ha v5 hv5))) (re_Tr_endOf_20 HI a ha))))))
set_option maxHeartbeats 4000000 in
set_option maxRecDepth 100000 in
theorem re_Tr_flowTo_29 {ρ kk : Nat → Nat} (HI : sn_HI ρ kk) (a : Nat) (ha : kk a ≠ 0) : sn_Re ρ kk (f_Tr_flowTo_29 (ρ a)) (f_Tr_flowTo_29 a) := sn_Re.R (v := none) sn_okr0
set_option maxHeartbeats 4000000 in
set_option maxRecDepth 100000 in
theorem re_Tr_flowTo {ρ kk : Nat → Nat} (HI : sn_HI ρ kk) (a : Nat) (ha : kk a ≠ 0) (x1 : Int32) (x2 : Int32) (x3 : Int32) : sn_Re ρ kk (f_Tr_flowTo (ρ a) x1 x2 x3) (f_Tr_flowTo a x1 x2 x3) := sn_Re.ite Iff.rfl (re_Tr_flowTo_29 HI a ha) (sn_Re.ite Iff.rfl (re_Tr_flowTo_29 HI a ha) (sn_Re.ite Iff.rfl (re_Tr_flowTo_29 HI a ha) (sn_Re.ite Iff.rfl (re_Tr_flowTo_29 HI a ha) (sn_Re.ite Iff.rfl (re_Tr_flowTo_29 HI a ha) (sn_Re.ite Iff.rfl (sn_Re.gR (r := (some a)) (by decide) (fun v1 hv1 => sn_Re.aR (r := v1) (by decide) (fun v2 hv2 => sn_Re.R (v := v2) hv2))) (re_Tr_flowTo_29 HI a ha))))))
set_option maxHeartbeats 4000000 in
set_option maxRecDepth 100000 in
theorem re_Tr_placeOf {ρ kk : Nat → Nat} (HI : sn_HI ρ kk) (x0 : Int32) (x1 : Int32) (x2 : Int32) : sn_Re ρ kk (f_Tr_placeOf x0 x1 x2) (f_Tr_placeOf x0 x1 x2) := sn_Re.I
set_option maxHeartbeats 4000000 in
set_option maxRecDepth 100000 in
theorem re_Tr_wayTo_74 {ρ kk : Nat → Nat} (HI : sn_HI ρ kk) (a : Nat) (ha : kk a ≠ 0) (fk3 k3 : Int32 → Int32 → Int32 → Int32 → Int32 → sn_M) (hk3 : ∀ (x1 : Int32) (x2 : Int32) (x3 : Int32) (x4 : Int32) (x5 : Int32), sn_Re ρ kk (fk3 x1 x2 x3 x4 x5) (k3 x1 x2 x3 x4 x5)) (x1 : Int32) (x2 : Int32) (x3 : Int32) (x4 : Int32) (x5 : Int32) : sn_Re ρ kk (f_Tr_wayTo_74 fk3 (ρ a) x1 x2 x3 x4 x5) (f_Tr_wayTo_74 k3 a x1 x2 x3 x4 x5) := hk3 x1 x2 x3 x4 (x5 + (1 : Int32))
set_option maxHeartbeats 4000000 in
set_option maxRecDepth 100000 in
theorem re_Tr_wayTo_41 {ρ kk : Nat → Nat} (HI : sn_HI ρ kk) (a : Nat) (ha : kk a ≠ 0) (fk3 k3 : Int32 → Int32 → Int32 → Int32 → Int32 → sn_M) (hk3 : ∀ (x1 : Int32) (x2 : Int32) (x3 : Int32) (x4 : Int32) (x5 : Int32), sn_Re ρ kk (fk3 x1 x2 x3 x4 x5) (k3 x1 x2 x3 x4 x5)) (x1 : Int32) (x2 : Int32) (x3 : Int32) (x4 : Int32) (x5 : Int32) (x6 : Int32) (t0 : Option Nat) (ht0 : sn_okr kk t0) : sn_Re ρ kk (f_Tr_wayTo_41 fk3 (ρ a) x1 x2 x3 x4 x5 x6 (t0.map ρ)) (f_Tr_wayTo_41 k3 a x1 x2 x3 x4 x5 x6 t0) := sn_Re.ite sn_none (re_Tr_wayTo_74 HI a ha fk3 k3 hk3 x1 x2 x3 x4 x5) (sn_Re.nn (r := t0) (by decide) (fun a2 ha2 => sn_Re.cI (re_Fl_isOpen HI a2 ha2) (fun v1 => sn_Re.ite Iff.rfl (re_Tr_wayTo_74 HI a ha fk3 k3 hk3 x1 x2 x3 x4 x5) (sn_Re.gR (r := (some a)) (by decide) (fun v3 hv3 => sn_Re.cI (re_Tr_placeOf HI x1 x6 x2) (fun v4 => sn_Re.aI (r := v3) (by decide) (fun v5 => sn_Re.ite Iff.rfl (re_Tr_wayTo_74 HI a ha fk3 k3 hk3 x1 x2 x3 x4 x5) (sn_Re.R (v := t0) ht0))))))))
set_option maxHeartbeats 4000000 in
set_option maxRecDepth 100000 in
theorem re_Tr_wayTo_3 {ρ kk : Nat → Nat} (HI : sn_HI ρ kk) (a : Nat) (ha : kk a ≠ 0) : ∀ (n : Nat) (x1 : Int32) (x2 : Int32) (x3 : Int32) (x4 : Int32) (x5 : Int32), sn_Re ρ kk (f_Tr_wayTo_3 (ρ a) n x1 x2 x3 x4 x5) (f_Tr_wayTo_3 a n x1 x2 x3 x4 x5)
  | 0, _, _, _, _, _ => sn_Re.z0
  | n + 1, x1, x2, x3, x4, x5 => sn_Re.ite Iff.rfl (sn_Re.R (v := none) sn_okr0) (sn_Re.gR (r := (some a)) (by decide) (fun v6 hv6 => sn_Re.nn (r := v6) (by decide) (fun a8 ha8 => sn_Re.cI (re_Pl_told HI a8 ha8 x1 x2 x5) (fun v7 => sn_Re.ite Iff.rfl (sn_Re.nn (r := (some a)) (by decide) (fun a10 ha10 => sn_Re.cR (re_Tr_flowTo HI a10 ha10 x1 v7 x3) (fun v9 hv9 => re_Tr_wayTo_41 HI a ha (f_Tr_wayTo_3 (ρ a) n) (f_Tr_wayTo_3 a n) (re_Tr_wayTo_3 HI a ha n) x1 x2 x3 x4 x5 v7 v9 hv9))) (re_Tr_wayTo_41 HI a ha (f_Tr_wayTo_3 (ρ a) n) (f_Tr_wayTo_3 a n) (re_Tr_wayTo_3 HI a ha n) x1 x2 x3 x4 x5 v7 none sn_okr0)))))
set_option maxHeartbeats 4000000 in
set_option maxRecDepth 100000 in
theorem re_Tr_wayTo {ρ kk : Nat → Nat} (HI : sn_HI ρ kk) (a : Nat) (ha : kk a ≠ 0) (x1 : Int32) (x2 : Int32) (x3 : Int32) (x4 : Int32) : sn_Re ρ kk (f_Tr_wayTo (ρ a) x1 x2 x3 x4) (f_Tr_wayTo a x1 x2 x3 x4) := re_Tr_wayTo_3 HI a ha sn_fuel x1 x2 x3 x4 (0 : Int32)
set_option maxHeartbeats 4000000 in
set_option maxRecDepth 100000 in
theorem re_Tr_tellWay_38 {ρ kk : Nat → Nat} (HI : sn_HI ρ kk) (a : Nat) (ha : kk a ≠ 0) (t0 : Int32) : sn_Re ρ kk (f_Tr_tellWay_38 (ρ a) t0) (f_Tr_tellWay_38 a t0) := sn_Re.I
set_option maxHeartbeats 4000000 in
set_option maxRecDepth 100000 in
theorem re_Tr_tellWay_146 {ρ kk : Nat → Nat} (HI : sn_HI ρ kk) (a : Nat) (ha : kk a ≠ 0) (t0 : Int32) : sn_Re ρ kk (f_Tr_tellWay_146 (ρ a) t0) (f_Tr_tellWay_146 a t0) := sn_Re.I
set_option maxHeartbeats 4000000 in
set_option maxRecDepth 100000 in
theorem re_Tr_tellWay_115 {ρ kk : Nat → Nat} (HI : sn_HI ρ kk) (a : Nat) (ha : kk a ≠ 0) (t0 : Int32) : sn_Re ρ kk (f_Tr_tellWay_115 (ρ a) t0) (f_Tr_tellWay_115 a t0) := sn_Re.I
set_option maxHeartbeats 4000000 in
set_option maxRecDepth 100000 in
theorem re_Tr_tellWay {ρ kk : Nat → Nat} (HI : sn_HI ρ kk) (a : Nat) (ha : kk a ≠ 0) (x1 : Int32) (x2 : Int32) (x3 : Int32) : sn_Re ρ kk (f_Tr_tellWay (ρ a) x1 x2 x3) (f_Tr_tellWay a x1 x2 x3) := sn_Re.cI (re_Pl_areTwo HI x1 x2) (fun v1 => sn_Re.ite Iff.rfl (sn_Re.ite Iff.rfl (sn_Re.nI (fun n2 => sn_Re.gR (r := (some a)) (by decide) (fun v3 hv3 => sn_Re.nn (r := v3) (by decide) (fun a5 ha5 => sn_Re.cI (re_Pl_areNeighbours HI a5 ha5 x1 n2) (fun v4 => sn_Re.ite Iff.rfl (sn_Re.cI (re_Tr_placeOf HI x1 n2 x2) (fun v6 => sn_Re.swC (sn_Re.gR (r := (some a)) (by decide) (fun v7 hv7 => sn_Re.aI (r := v7) (by decide) (fun v8 => sn_Re.ite Iff.rfl (re_Tr_tellWay_115 HI a ha (0 : Int32)) (re_Tr_tellWay_115 HI a ha (1 : Int32))))) (sn_Re.swC (sn_Re.gR (r := (some a)) (by decide) (fun v9 hv9 => sn_Re.aI (r := v9) (by decide) (fun v10 => sn_Re.ite Iff.rfl (sn_Re.gR (r := (some a)) (by decide) (fun v11 hv11 => sn_Re.aI (r := v11) (by decide) (fun v12 => sn_Re.ite Iff.rfl (re_Tr_tellWay_146 HI a ha (0 : Int32)) (re_Tr_tellWay_146 HI a ha (1 : Int32))))) (re_Tr_tellWay_146 HI a ha (-1 : Int32))))) (sn_Re.swN (sn_Re.I))))) (sn_Re.I)))))) (sn_Re.nn (r := (some a)) (by decide) (fun a14 ha14 => sn_Re.cR (re_Tr_wayTo HI a14 ha14 x1 x2 (0 : Int32) (-1 : Int32)) (fun v13 hv13 => sn_Re.ite sn_nnone (sn_Re.gI (r := v13) (by decide) (fun v15 => re_Tr_tellWay_38 HI a ha v15)) (re_Tr_tellWay_38 HI a ha (-1 : Int32)))))) (sn_Re.I))
set_option maxHeartbeats 4000000 in
set_option maxRecDepth 100000 in
theorem re_Tr_best_65 {ρ kk : Nat → Nat} (HI : sn_HI ρ kk) (a : Nat) (ha : kk a ≠ 0) (fk24 k24 : Int32 → Int32 → Int32 → Int32 → sn_M) (hk24 : ∀ (x3 : Int32) (x4 : Int32) (x5 : Int32) (x6 : Int32), sn_Re ρ kk (fk24 x3 x4 x5 x6) (k24 x3 x4 x5 x6)) (x3 : Int32) (x4 : Int32) (x5 : Int32) (x6 : Int32) : sn_Re ρ kk (f_Tr_best_65 fk24 (ρ a) x3 x4 x5 x6) (f_Tr_best_65 k24 a x3 x4 x5 x6) := hk24 x3 x4 x5 (x6 + (1 : Int32))
set_option maxHeartbeats 4000000 in
set_option maxRecDepth 100000 in
theorem re_Tr_best_24 {ρ kk : Nat → Nat} (HI : sn_HI ρ kk) (a : Nat) (ha : kk a ≠ 0) : ∀ (n : Nat) (x3 : Int32) (x4 : Int32) (x5 : Int32) (x6 : Int32), sn_Re ρ kk (f_Tr_best_24 (ρ a) n x3 x4 x5 x6) (f_Tr_best_24 a n x3 x4 x5 x6)
  | 0, _, _, _, _ => sn_Re.z0
  | n + 1, x3, x4, x5, x6 => sn_Re.ite Iff.rfl (sn_Re.R (v := none) sn_okr0) (sn_Re.gR (r := (some a)) (by decide) (fun v1 hv1 => sn_Re.D (sn_Re.aR (r := v1) (by decide) (fun v2 hv2 => sn_Re.ite sn_none (re_Tr_best_65 HI a ha (f_Tr_best_24 (ρ a) n) (f_Tr_best_24 a n) (re_Tr_best_24 HI a ha n) x3 x4 x5 x6) (sn_Re.gI (r := v2) (by decide) (fun v3 => sn_Re.ite Iff.rfl (re_Tr_best_65 HI a ha (f_Tr_best_24 (ρ a) n) (f_Tr_best_24 a n) (re_Tr_best_24 HI a ha n) x3 x4 x5 x6) (sn_Re.R (v := v2) hv2)))))))
set_option maxHeartbeats 4000000 in
set_option maxRecDepth 100000 in
theorem re_Tr_best {ρ kk : Nat → Nat} (HI : sn_HI ρ kk) (a : Nat) (ha : kk a ≠ 0) (x1 : Int32) (x2 : Int32) (x3 : Int32) : sn_Re ρ kk (f_Tr_best (ρ a) x1 x2 x3) (f_Tr_best a x1 x2 x3) := sn_Re.gR (r := (some a)) (by decide) (fun v4 hv4 => sn_Re.nn (r := v4) (by decide) (fun a6 ha6 => sn_Re.cI (re_Pl_setSize HI a6 ha6 x1 x2) (fun v5 => sn_Re.nI (fun n7 => re_Tr_best_24 HI a ha sn_fuel x3 v5 n7 (0 : Int32)))))
set_option maxHeartbeats 4000000 in
set_option maxRecDepth 100000 in
theorem re_Tr_give_38 {ρ kk : Nat → Nat} (HI : sn_HI ρ kk) (a : Nat) (ha : kk a ≠ 0) : sn_Re ρ kk (f_Tr_give_38 (ρ a)) (f_Tr_give_38 a) := sn_Re.V
set_option maxHeartbeats 4000000 in
set_option maxRecDepth 100000 in
theorem re_Tr_give_28 {ρ kk : Nat → Nat} (HI : sn_HI ρ kk) (a : Nat) (ha : kk a ≠ 0) : sn_Re ρ kk (f_Tr_give_28 (ρ a)) (f_Tr_give_28 a) := sn_Re.gI (r := (some a)) (by decide) (fun v1 => sn_Re.pI HI (r := (some a)) (by decide) (re_Tr_give_38 HI a ha))
set_option maxHeartbeats 4000000 in
set_option maxRecDepth 100000 in
theorem re_Tr_give_12 {ρ kk : Nat → Nat} (HI : sn_HI ρ kk) (a : Nat) (ha : kk a ≠ 0) (l2 : Int64) (t0 : Option Nat) (ht0 : sn_okr kk t0) : sn_Re ρ kk (f_Tr_give_12 (ρ a) l2 (t0.map ρ)) (f_Tr_give_12 a l2 t0) := sn_Re.ite sn_none (re_Tr_give_28 HI a ha) (sn_Re.nn (r := t0) (by decide) (fun a3 ha3 => sn_Re.cI (re_Qu_add HI a3 ha3 l2) (fun v2 => sn_Re.ite Iff.rfl (re_Tr_give_38 HI a ha) (re_Tr_give_28 HI a ha))))
set_option maxHeartbeats 4000000 in
set_option maxRecDepth 100000 in
theorem re_Tr_give {ρ kk : Nat → Nat} (HI : sn_HI ρ kk) (a : Nat) (ha : kk a ≠ 0) (r1 : Option Nat) (hr1 : sn_okr kk r1) (l2 : Int64) : sn_Re ρ kk (f_Tr_give (ρ a) (r1.map ρ) l2) (f_Tr_give a r1 l2) := sn_Re.ite sn_nnone (sn_Re.nn (r := r1) (by decide) (fun a5 ha5 => sn_Re.cR (re_Fl_place HI a5 ha5) (fun v4 hv4 => re_Tr_give_12 HI a ha l2 v4 hv4))) (re_Tr_give_12 HI a ha l2 none sn_okr0)
set_option maxHeartbeats 4000000 in
set_option maxRecDepth 100000 in
theorem re_Tr_waitAt_24 {ρ kk : Nat → Nat} (HI : sn_HI ρ kk) (a : Nat) (ha : kk a ≠ 0) : sn_Re ρ kk (f_Tr_waitAt_24 (ρ a)) (f_Tr_waitAt_24 a) := sn_Re.V
set_option maxHeartbeats 4000000 in
set_option maxRecDepth 100000 in
theorem re_Tr_waitAt {ρ kk : Nat → Nat} (HI : sn_HI ρ kk) (a : Nat) (ha : kk a ≠ 0) (r1 : Option Nat) (hr1 : sn_okr kk r1) (l2 : Int64) : sn_Re ρ kk (f_Tr_waitAt (ρ a) (r1.map ρ) l2) (f_Tr_waitAt a r1 l2) := sn_Re.gR (r := r1) (by decide) (fun v1 hv1 => sn_Re.gR (r := v1) (by decide) (fun v2 hv2 => sn_Re.nn (r := v2) (by decide) (fun a4 ha4 => sn_Re.cI (re_Qu_add HI a4 ha4 l2) (fun v3 => sn_Re.ite Iff.rfl (re_Tr_waitAt_24 HI a ha) (sn_Re.gI (r := (some a)) (by decide) (fun v5 => sn_Re.pI HI (r := (some a)) (by decide) (re_Tr_waitAt_24 HI a ha)))))))
set_option maxHeartbeats 4000000 in
set_option maxRecDepth 100000 in
theorem re_Tr_goOtherWay_40 {ρ kk : Nat → Nat} (HI : sn_HI ρ kk) (a : Nat) (ha : kk a ≠ 0) : sn_Re ρ kk (f_Tr_goOtherWay_40 (ρ a)) (f_Tr_goOtherWay_40 a) := sn_Re.V
set_option maxHeartbeats 4000000 in
set_option maxRecDepth 100000 in
theorem re_Tr_goOtherWay {ρ kk : Nat → Nat} (HI : sn_HI ρ kk) (a : Nat) (ha : kk a ≠ 0) (x1 : Int32) (x2 : Int32) (l3 : Int64) : sn_Re ρ kk (f_Tr_goOtherWay (ρ a) x1 x2 l3) (f_Tr_goOtherWay a x1 x2 l3) := sn_Re.nn (r := (some a)) (by decide) (fun a2 ha2 => sn_Re.cR (re_Tr_best HI a2 ha2 x1 x2 (0 : Int32)) (fun v1 hv1 => sn_Re.ite sn_none (sn_Re.cI (re_Ms_lane HI l3) (fun v3 => sn_Re.nn (r := (some a)) (by decide) (fun a5 ha5 => sn_Re.cR (re_Tr_wayTo HI a5 ha5 x1 x2 v3 x2) (fun v4 hv4 => sn_Re.nn (r := (some a)) (by decide) (fun a7 ha7 => sn_Re.cV (re_Tr_give HI a7 ha7 v4 hv4 l3) (re_Tr_goOtherWay_40 HI a ha)))))) (sn_Re.nn (r := (some a)) (by decide) (fun a9 ha9 => sn_Re.cV (re_Tr_waitAt HI a9 ha9 v1 hv1 l3) (re_Tr_goOtherWay_40 HI a ha)))))
set_option maxHeartbeats 4000000 in
set_option maxRecDepth 100000 in
theorem re_Tr_look_133 {ρ kk : Nat → Nat} (HI : sn_HI ρ kk) (a : Nat) (ha : kk a ≠ 0) (fk2 k2 : Int32 → Int32 → sn_M) (hk2 : ∀ (x1 : Int32) (x2 : Int32), sn_Re ρ kk (fk2 x1 x2) (k2 x1 x2)) (x1 : Int32) (x2 : Int32) : sn_Re ρ kk (f_Tr_look_133 fk2 (ρ a) x1 x2) (f_Tr_look_133 k2 a x1 x2) := hk2 x1 (x2 + (1 : Int32))
set_option maxHeartbeats 4000000 in
set_option maxRecDepth 100000 in
theorem re_Tr_look_84 {ρ kk : Nat → Nat} (HI : sn_HI ρ kk) (a : Nat) (ha : kk a ≠ 0) (fk2 k2 : Int32 → Int32 → sn_M) (hk2 : ∀ (x1 : Int32) (x2 : Int32), sn_Re ρ kk (fk2 x1 x2) (k2 x1 x2)) (x1 : Int32) (x2 : Int32) (x3 : Int32) (x4 : Int32) (r5 : Option Nat) (hr5 : sn_okr kk r5) (t0 : Int32) : sn_Re ρ kk (f_Tr_look_84 fk2 (ρ a) x1 x2 x3 x4 (r5.map ρ) t0) (f_Tr_look_84 k2 a x1 x2 x3 x4 r5 t0) := sn_Re.cI (re_Tr_placeOf HI x1 x4 x3) (fun v1 => sn_Re.gR (r := (some a)) (by decide) (fun v2 hv2 => sn_Re.aI (r := v2) (by decide) (fun v3 => sn_Re.ite Iff.rfl (re_Tr_look_133 HI a ha fk2 k2 hk2 x1 x2) (sn_Re.gR (r := (some a)) (by decide) (fun v4 hv4 => sn_Re.bI HI (r := v4) (by decide) (sn_Re.cJ (re_Ms_of HI t0 x1 x4 (0 : Int32) x3 (0 : Int32)) (fun v5 => sn_Re.nn (r := (some a)) (by decide) (fun a7 ha7 => sn_Re.cV (re_Tr_give HI a7 ha7 r5 hr5 v5) (re_Tr_look_133 HI a ha fk2 k2 hk2 x1 x2)))))))))
set_option maxHeartbeats 4000000 in
set_option maxRecDepth 100000 in
theorem re_Tr_look_78 {ρ kk : Nat → Nat} (HI : sn_HI ρ kk) (a : Nat) (ha : kk a ≠ 0) (fk2 k2 : Int32 → Int32 → sn_M) (hk2 : ∀ (x1 : Int32) (x2 : Int32), sn_Re ρ kk (fk2 x1 x2) (k2 x1 x2)) (x1 : Int32) (x2 : Int32) (x3 : Int32) (x4 : Int32) (r5 : Option Nat) (hr5 : sn_okr kk r5) : sn_Re ρ kk (f_Tr_look_78 fk2 (ρ a) x1 x2 x3 x4 (r5.map ρ)) (f_Tr_look_78 k2 a x1 x2 x3 x4 r5) := re_Tr_look_84 HI a ha fk2 k2 hk2 x1 x2 x3 x4 r5 hr5 (5 : Int32)
set_option maxHeartbeats 4000000 in
set_option maxRecDepth 100000 in
theorem re_Tr_look_2 {ρ kk : Nat → Nat} (HI : sn_HI ρ kk) (a : Nat) (ha : kk a ≠ 0) : ∀ (n : Nat) (x1 : Int32) (x2 : Int32), sn_Re ρ kk (f_Tr_look_2 (ρ a) n x1 x2) (f_Tr_look_2 a n x1 x2)
  | 0, _, _ => sn_Re.z0
  | n + 1, x1, x2 => sn_Re.ite Iff.rfl (sn_Re.V) (sn_Re.nI (fun n8 => sn_Re.nI (fun n9 => sn_Re.nn (r := (some a)) (by decide) (fun a11 ha11 => sn_Re.cR (re_Tr_flowTo HI a11 ha11 x1 n9 (0 : Int32)) (fun v10 hv10 => sn_Re.ite sn_none (re_Tr_look_133 HI a ha (f_Tr_look_2 (ρ a) n) (f_Tr_look_2 a n) (re_Tr_look_2 HI a ha n) x1 x2) (sn_Re.nn (r := v10) (by decide) (fun a13 ha13 => sn_Re.cI (re_Fl_isOpen HI a13 ha13) (fun v12 => sn_Re.ite Iff.rfl (re_Tr_look_133 HI a ha (f_Tr_look_2 (ρ a) n) (f_Tr_look_2 a n) (re_Tr_look_2 HI a ha n) x1 x2) (sn_Re.ite Iff.rfl (re_Tr_look_133 HI a ha (f_Tr_look_2 (ρ a) n) (f_Tr_look_2 a n) (re_Tr_look_2 HI a ha n) x1 x2) (sn_Re.ite Iff.rfl (sn_Re.nn (r := (some a)) (by decide) (fun a15 ha15 => sn_Re.cR (re_Tr_wayTo HI a15 ha15 x1 n8 (0 : Int32) (-1 : Int32)) (fun v14 hv14 => sn_Re.ite sn_none (re_Tr_look_78 HI a ha (f_Tr_look_2 (ρ a) n) (f_Tr_look_2 a n) (re_Tr_look_2 HI a ha n) x1 x2 n8 n9 v10 hv10) (sn_Re.ite (sn_neqv HI hv14 hv10) (re_Tr_look_84 HI a ha (f_Tr_look_2 (ρ a) n) (f_Tr_look_2 a n) (re_Tr_look_2 HI a ha n) x1 x2 n8 n9 v10 hv10 (6 : Int32)) (re_Tr_look_78 HI a ha (f_Tr_look_2 (ρ a) n) (f_Tr_look_2 a n) (re_Tr_look_2 HI a ha n) x1 x2 n8 n9 v10 hv10))))) (re_Tr_look_133 HI a ha (f_Tr_look_2 (ρ a) n) (f_Tr_look_2 a n) (re_Tr_look_2 HI a ha n) x1 x2)))))))))))
set_option maxHeartbeats 4000000 in
set_option maxRecDepth 100000 in
theorem re_Tr_look {ρ kk : Nat → Nat} (HI : sn_HI ρ kk) (a : Nat) (ha : kk a ≠ 0) (x1 : Int32) : sn_Re ρ kk (f_Tr_look (ρ a) x1) (f_Tr_look a x1) := re_Tr_look_2 HI a ha sn_fuel x1 (0 : Int32)
set_option maxHeartbeats 4000000 in
set_option maxRecDepth 100000 in
theorem re_Tr_overOf {ρ kk : Nat → Nat} (HI : sn_HI ρ kk) (r0 : Option Nat) (hr0 : sn_okr kk r0) (x1 : Int32) : sn_Re ρ kk (f_Tr_overOf (r0.map ρ) x1) (f_Tr_overOf r0 x1) := sn_Re.gI (r := r0) (by decide) (fun v1 => sn_Re.gI (r := r0) (by decide) (fun v2 => sn_Re.nI (fun n3 => sn_Re.gI (r := r0) (by decide) (fun v4 => sn_Re.gI (r := r0) (by decide) (fun v5 => sn_Re.gR (r := r0) (by decide) (fun v6 hv6 => sn_Re.gI (r := v6) (by decide) (fun v7 => sn_Re.cJ (re_Ms_of HI x1 v4 v5 (0 : Int32) n3 v7) (fun v8 => sn_Re.J))))))))
set_option maxHeartbeats 4000000 in
set_option maxRecDepth 100000 in
theorem re_Tr_takeOut_79 {ρ kk : Nat → Nat} (HI : sn_HI ρ kk) (a : Nat) (ha : kk a ≠ 0) (fk39 k39 : Option Nat → Int32 → sn_M) (hk39 : ∀ (r1 : Option Nat) (hr1 : sn_okr kk r1) (x3 : Int32), sn_Re ρ kk (fk39 (r1.map ρ) x3) (k39 r1 x3)) (r1 : Option Nat) (hr1 : sn_okr kk r1) (x3 : Int32) : sn_Re ρ kk (f_Tr_takeOut_79 fk39 (ρ a) (r1.map ρ) x3) (f_Tr_takeOut_79 k39 a r1 x3) := hk39 r1 hr1 (x3 + (1 : Int32))
set_option maxHeartbeats 4000000 in
set_option maxRecDepth 100000 in
theorem re_Tr_takeOut_39 {ρ kk : Nat → Nat} (HI : sn_HI ρ kk) (a : Nat) (ha : kk a ≠ 0) : ∀ (n : Nat) (r1 : Option Nat) (hr1 : sn_okr kk r1) (x3 : Int32), sn_Re ρ kk (f_Tr_takeOut_39 (ρ a) n (r1.map ρ) x3) (f_Tr_takeOut_39 a n r1 x3)
  | 0, _, _, _ => sn_Re.z0
  | n + 1, r1, hr1, x3 => sn_Re.ite Iff.rfl (sn_Re.Z) (sn_Re.gI (r := r1) (by decide) (fun v1 => sn_Re.gI (r := r1) (by decide) (fun v2 => sn_Re.nn (r := (some a)) (by decide) (fun a4 ha4 => sn_Re.cR (re_Tr_flowTo HI a4 ha4 v1 v2 x3) (fun v3 hv3 => sn_Re.ite sn_none (re_Tr_takeOut_79 HI a ha (f_Tr_takeOut_39 (ρ a) n) (f_Tr_takeOut_39 a n) (re_Tr_takeOut_39 HI a ha n) r1 hr1 x3) (sn_Re.gR (r := v3) (by decide) (fun v5 hv5 => sn_Re.ite (sn_neqv HI hv5 hr1) (re_Tr_takeOut_79 HI a ha (f_Tr_takeOut_39 (ρ a) n) (f_Tr_takeOut_39 a n) (re_Tr_takeOut_39 HI a ha n) r1 hr1 x3) (sn_Re.nn (r := v3) (by decide) (fun a7 ha7 => sn_Re.cV (re_Fl_holdFor HI a7 ha7 r1 hr1) (re_Tr_takeOut_79 HI a ha (f_Tr_takeOut_39 (ρ a) n) (f_Tr_takeOut_39 a n) (re_Tr_takeOut_39 HI a ha n) r1 hr1 x3))))))))))
set_option maxHeartbeats 4000000 in
set_option maxRecDepth 100000 in
theorem re_Tr_takeOut_13 {ρ kk : Nat → Nat} (HI : sn_HI ρ kk) (a : Nat) (ha : kk a ≠ 0) (r1 : Option Nat) (hr1 : sn_okr kk r1) (t0 : Int32) : sn_Re ρ kk (f_Tr_takeOut_13 (ρ a) (r1.map ρ) t0) (f_Tr_takeOut_13 a r1 t0) := sn_Re.nn (r := r1) (by decide) (fun a9 ha9 => sn_Re.cV (re_En_fallOut HI a9 ha9) (sn_Re.ite Iff.rfl (sn_Re.gR (r := (some a)) (by decide) (fun v10 hv10 => sn_Re.nn (r := v10) (by decide) (fun a12 ha12 => sn_Re.cI (re_Ck_after HI a12 ha12 (10 : Int32)) (fun v11 => sn_Re.pI HI (r := r1) (by decide) (re_Tr_takeOut_39 HI a ha sn_fuel r1 hr1 (0 : Int32)))))) (sn_Re.Z)))
set_option maxHeartbeats 4000000 in
set_option maxRecDepth 100000 in
theorem re_Tr_takeOut {ρ kk : Nat → Nat} (HI : sn_HI ρ kk) (a : Nat) (ha : kk a ≠ 0) (r1 : Option Nat) (hr1 : sn_okr kk r1) : sn_Re ρ kk (f_Tr_takeOut (ρ a) (r1.map ρ)) (f_Tr_takeOut a r1) := sn_Re.gI (r := r1) (by decide) (fun v13 => sn_Re.ite Iff.rfl (re_Tr_takeOut_13 HI a ha r1 hr1 (0 : Int32)) (re_Tr_takeOut_13 HI a ha r1 hr1 (1 : Int32)))
set_option maxHeartbeats 4000000 in
set_option maxRecDepth 100000 in
theorem re_Tr_fail_33 {ρ kk : Nat → Nat} (HI : sn_HI ρ kk) (a : Nat) (ha : kk a ≠ 0) : sn_Re ρ kk (f_Tr_fail_33 (ρ a)) (f_Tr_fail_33 a) := sn_Re.V
set_option maxHeartbeats 4000000 in
set_option maxRecDepth 100000 in
theorem re_Tr_fail {ρ kk : Nat → Nat} (HI : sn_HI ρ kk) (a : Nat) (ha : kk a ≠ 0) (r1 : Option Nat) (hr1 : sn_okr kk r1) : sn_Re ρ kk (f_Tr_fail (ρ a) (r1.map ρ)) (f_Tr_fail a r1) := sn_Re.nn (r := (some a)) (by decide) (fun a2 ha2 => sn_Re.cI (re_Tr_takeOut HI a2 ha2 r1 hr1) (fun v1 => sn_Re.ite Iff.rfl (re_Tr_fail_33 HI a ha) (sn_Re.gI (r := r1) (by decide) (fun v3 => sn_Re.gI (r := r1) (by decide) (fun v4 => sn_Re.cJ (re_Tr_overOf HI r1 hr1 (1 : Int32)) (fun v5 => sn_Re.nn (r := (some a)) (by decide) (fun a7 ha7 => sn_Re.cV (re_Tr_goOtherWay HI a7 ha7 v3 v4 v5) (sn_Re.gI (r := r1) (by decide) (fun v8 => sn_Re.nn (r := (some a)) (by decide) (fun a10 ha10 => sn_Re.cV (re_Tr_look HI a10 ha10 v8) (re_Tr_fail_33 HI a ha)))))))))))
set_option maxHeartbeats 4000000 in
set_option maxRecDepth 100000 in
theorem re_Tr_start_22 {ρ kk : Nat → Nat} (HI : sn_HI ρ kk) (a : Nat) (ha : kk a ≠ 0) (t0 : Option Nat) (ht0 : sn_okr kk t0) (t1 : Int32) : sn_Re ρ kk (f_Tr_start_22 (ρ a) (t0.map ρ) t1) (f_Tr_start_22 a t0 t1) := sn_Re.nn (r := t0) (by decide) (fun a2 ha2 => sn_Re.cV (re_En_start HI a2 ha2 t1) (sn_Re.V))
set_option maxHeartbeats 4000000 in
set_option maxRecDepth 100000 in
theorem re_Tr_start {ρ kk : Nat → Nat} (HI : sn_HI ρ kk) (a : Nat) (ha : kk a ≠ 0) (r1 : Option Nat) (hr1 : sn_okr kk r1) : sn_Re ρ kk (f_Tr_start (ρ a) (r1.map ρ)) (f_Tr_start a r1) := sn_Re.gI (r := r1) (by decide) (fun v3 => sn_Re.gI (r := r1) (by decide) (fun v4 => sn_Re.nn (r := (some a)) (by decide) (fun a6 ha6 => sn_Re.cR (re_Tr_best HI a6 ha6 v3 v4 (0 : Int32)) (fun v5 hv5 => sn_Re.ite sn_nnone (re_Tr_start_22 HI a ha r1 hr1 (0 : Int32)) (re_Tr_start_22 HI a ha r1 hr1 (1 : Int32))))))
set_option maxHeartbeats 4000000 in
set_option maxRecDepth 100000 in
theorem re_Tr_switchEnds_70 {ρ kk : Nat → Nat} (HI : sn_HI ρ kk) (a : Nat) (ha : kk a ≠ 0) (fk2 k2 : Int32 → Int32 → Int32 → sn_M) (hk2 : ∀ (x1 : Int32) (x2 : Int32) (x3 : Int32), sn_Re ρ kk (fk2 x1 x2 x3) (k2 x1 x2 x3)) (x1 : Int32) (x2 : Int32) (x3 : Int32) : sn_Re ρ kk (f_Tr_switchEnds_70 fk2 (ρ a) x1 x2 x3) (f_Tr_switchEnds_70 k2 a x1 x2 x3) := hk2 x1 x2 (x3 + (1 : Int32))
set_option maxHeartbeats 4000000 in
set_option maxRecDepth 100000 in
theorem re_Tr_switchEnds_52 {ρ kk : Nat → Nat} (HI : sn_HI ρ kk) (a : Nat) (ha : kk a ≠ 0) (fk2 k2 : Int32 → Int32 → Int32 → sn_M) (hk2 : ∀ (x1 : Int32) (x2 : Int32) (x3 : Int32), sn_Re ρ kk (fk2 x1 x2 x3) (k2 x1 x2 x3)) (x1 : Int32) (x2 : Int32) (x3 : Int32) (r4 : Option Nat) (hr4 : sn_okr kk r4) : sn_Re ρ kk (f_Tr_switchEnds_52 fk2 (ρ a) x1 x2 x3 (r4.map ρ)) (f_Tr_switchEnds_52 k2 a x1 x2 x3 r4) := sn_Re.ite Iff.rfl (re_Tr_switchEnds_70 HI a ha fk2 k2 hk2 x1 x2 x3) (sn_Re.gI (r := r4) (by decide) (fun v1 => sn_Re.ite Iff.rfl (re_Tr_switchEnds_70 HI a ha fk2 k2 hk2 x1 x2 x3) (sn_Re.nn (r := (some a)) (by decide) (fun a3 ha3 => sn_Re.cV (re_Tr_fail HI a3 ha3 r4 hr4) (re_Tr_switchEnds_70 HI a ha fk2 k2 hk2 x1 x2 x3)))))
set_option maxHeartbeats 4000000 in
set_option maxRecDepth 100000 in
theorem re_Tr_switchEnds_2 {ρ kk : Nat → Nat} (HI : sn_HI ρ kk) (a : Nat) (ha : kk a ≠ 0) : ∀ (n : Nat) (x1 : Int32) (x2 : Int32) (x3 : Int32), sn_Re ρ kk (f_Tr_switchEnds_2 (ρ a) n x1 x2 x3) (f_Tr_switchEnds_2 a n x1 x2 x3)
  | 0, _, _, _ => sn_Re.z0
  | n + 1, x1, x2, x3 => sn_Re.ite Iff.rfl (sn_Re.V) (sn_Re.nn (r := (some a)) (by decide) (fun a5 ha5 => sn_Re.cR (re_Tr_endOf HI a5 ha5 x1 x3) (fun v4 hv4 => sn_Re.ite sn_nnone (sn_Re.ite Iff.rfl (re_Tr_switchEnds_52 HI a ha (f_Tr_switchEnds_2 (ρ a) n) (f_Tr_switchEnds_2 a n) (re_Tr_switchEnds_2 HI a ha n) x1 x2 x3 v4 hv4) (sn_Re.gI (r := v4) (by decide) (fun v6 => sn_Re.ite Iff.rfl (re_Tr_switchEnds_52 HI a ha (f_Tr_switchEnds_2 (ρ a) n) (f_Tr_switchEnds_2 a n) (re_Tr_switchEnds_2 HI a ha n) x1 x2 x3 v4 hv4) (sn_Re.gI (r := v4) (by decide) (fun v7 => sn_Re.ite Iff.rfl (re_Tr_switchEnds_52 HI a ha (f_Tr_switchEnds_2 (ρ a) n) (f_Tr_switchEnds_2 a n) (re_Tr_switchEnds_2 HI a ha n) x1 x2 x3 v4 hv4) (sn_Re.nn (r := (some a)) (by decide) (fun a9 ha9 => sn_Re.cV (re_Tr_start HI a9 ha9 v4 hv4) (re_Tr_switchEnds_70 HI a ha (f_Tr_switchEnds_2 (ρ a) n) (f_Tr_switchEnds_2 a n) (re_Tr_switchEnds_2 HI a ha n) x1 x2 x3)))))))) (re_Tr_switchEnds_70 HI a ha (f_Tr_switchEnds_2 (ρ a) n) (f_Tr_switchEnds_2 a n) (re_Tr_switchEnds_2 HI a ha n) x1 x2 x3))))
set_option maxHeartbeats 4000000 in
set_option maxRecDepth 100000 in
theorem re_Tr_switchEnds {ρ kk : Nat → Nat} (HI : sn_HI ρ kk) (a : Nat) (ha : kk a ≠ 0) (x1 : Int32) (x2 : Int32) : sn_Re ρ kk (f_Tr_switchEnds (ρ a) x1 x2) (f_Tr_switchEnds a x1 x2) := re_Tr_switchEnds_2 HI a ha sn_fuel x1 x2 (0 : Int32)
set_option maxHeartbeats 4000000 in
set_option maxRecDepth 100000 in
theorem re_Tr_sendBack_30 {ρ kk : Nat → Nat} (HI : sn_HI ρ kk) (a : Nat) (ha : kk a ≠ 0) (r1 : Option Nat) (hr1 : sn_okr kk r1) : sn_Re ρ kk (f_Tr_sendBack_30 (ρ a) (r1.map ρ)) (f_Tr_sendBack_30 a r1) := sn_Re.gR (r := (some a)) (by decide) (fun v1 hv1 => sn_Re.nn (r := v1) (by decide) (fun a3 ha3 => sn_Re.cI (re_Ck_after HI a3 ha3 (20 : Int32)) (fun v2 => sn_Re.pI HI (r := r1) (by decide) (sn_Re.V))))
set_option maxHeartbeats 4000000 in
set_option maxRecDepth 100000 in
theorem re_Tr_sendBack {ρ kk : Nat → Nat} (HI : sn_HI ρ kk) (a : Nat) (ha : kk a ≠ 0) (r1 : Option Nat) (hr1 : sn_okr kk r1) (x2 : Int32) (x3 : Int32) : sn_Re ρ kk (f_Tr_sendBack (ρ a) (r1.map ρ) x2 x3) (f_Tr_sendBack a r1 x2 x3) := sn_Re.gR (r := r1) (by decide) (fun v4 hv4 => sn_Re.ite sn_none (re_Tr_sendBack_30 HI a ha r1 hr1) (sn_Re.gR (r := r1) (by decide) (fun v5 hv5 => sn_Re.gI (r := r1) (by decide) (fun v6 => sn_Re.gI (r := r1) (by decide) (fun v7 => sn_Re.cJ (re_Ms_of HI (3 : Int32) x2 v6 x3 x3 v7) (fun v8 => sn_Re.nn (r := (some a)) (by decide) (fun a10 ha10 => sn_Re.cV (re_Tr_waitAt HI a10 ha10 v5 hv5 v8) (re_Tr_sendBack_30 HI a ha r1 hr1))))))))
set_option maxHeartbeats 4000000 in
set_option maxRecDepth 100000 in
theorem re_Tr_useBest_63 {ρ kk : Nat → Nat} (HI : sn_HI ρ kk) (a : Nat) (ha : kk a ≠ 0) : sn_Re ρ kk (f_Tr_useBest_63 (ρ a)) (f_Tr_useBest_63 a) := sn_Re.V
set_option maxHeartbeats 4000000 in
set_option maxRecDepth 100000 in
theorem re_Tr_useBest {ρ kk : Nat → Nat} (HI : sn_HI ρ kk) (a : Nat) (ha : kk a ≠ 0) (r1 : Option Nat) (hr1 : sn_okr kk r1) (x2 : Int32) (x3 : Int32) : sn_Re ρ kk (f_Tr_useBest (ρ a) (r1.map ρ) x2 x3) (f_Tr_useBest a r1 x2 x3) := sn_Re.gI (r := r1) (by decide) (fun v1 => sn_Re.nn (r := (some a)) (by decide) (fun a3 ha3 => sn_Re.cR (re_Tr_best HI a3 ha3 x2 v1 x3) (fun v2 hv2 => sn_Re.gR (r := r1) (by decide) (fun v4 hv4 => sn_Re.ite sn_nnone (sn_Re.gR (r := r1) (by decide) (fun v5 hv5 => sn_Re.ite (sn_eqv HI hv5 hv2) (re_Tr_useBest_63 HI a ha) (sn_Re.gI (r := r1) (by decide) (fun v6 => sn_Re.pI HI (r := r1) (by decide) (sn_Re.nn (r := (some a)) (by decide) (fun a8 ha8 => sn_Re.cV (re_Tr_sendBack HI a8 ha8 r1 hr1 x2 x3) (sn_Re.pI HI (r := r1) (by decide) (re_Tr_useBest_63 HI a ha)))))))) (sn_Re.pR HI (r := r1) (v := v2) (by decide) hv2 (re_Tr_useBest_63 HI a ha))))))
set_option maxHeartbeats 4000000 in
set_option maxRecDepth 100000 in
theorem re_Tr_comeUp_52 {ρ kk : Nat → Nat} (HI : sn_HI ρ kk) (a : Nat) (ha : kk a ≠ 0) (fk16 k16 : Int32 → Int32 → Int32 → Int32 → sn_M) (hk16 : ∀ (x2 : Int32) (x3 : Int32) (x4 : Int32) (x5 : Int32), sn_Re ρ kk (fk16 x2 x3 x4 x5) (k16 x2 x3 x4 x5)) (x2 : Int32) (x3 : Int32) (x5 : Int32) (t0 : Int32) (t1 : Int32) : sn_Re ρ kk (f_Tr_comeUp_52 fk16 (ρ a) x2 x3 x5 t0 t1) (f_Tr_comeUp_52 k16 a x2 x3 x5 t0 t1) := sn_Re.nI (fun n1 => hk16 x2 x3 n1 (x5 + (1 : Int32)))
set_option maxHeartbeats 4000000 in
set_option maxRecDepth 100000 in
theorem re_Tr_comeUp_51 {ρ kk : Nat → Nat} (HI : sn_HI ρ kk) (a : Nat) (ha : kk a ≠ 0) (fk16 k16 : Int32 → Int32 → Int32 → Int32 → sn_M) (hk16 : ∀ (x2 : Int32) (x3 : Int32) (x4 : Int32) (x5 : Int32), sn_Re ρ kk (fk16 x2 x3 x4 x5) (k16 x2 x3 x4 x5)) (x2 : Int32) (x3 : Int32) (x5 : Int32) (t0 : Int32) : sn_Re ρ kk (f_Tr_comeUp_51 fk16 (ρ a) x2 x3 x5 t0) (f_Tr_comeUp_51 k16 a x2 x3 x5 t0) := re_Tr_comeUp_52 HI a ha fk16 k16 hk16 x2 x3 x5 t0 (0 : Int32)
set_option maxHeartbeats 4000000 in
set_option maxRecDepth 100000 in
theorem re_Tr_comeUp_102 {ρ kk : Nat → Nat} (HI : sn_HI ρ kk) (a : Nat) (ha : kk a ≠ 0) (fk64 k64 : Int32 → Int32 → Int32 → Int32 → sn_M) (hk64 : ∀ (x2 : Int32) (x3 : Int32) (x4 : Int32) (x5 : Int32), sn_Re ρ kk (fk64 x2 x3 x4 x5) (k64 x2 x3 x4 x5)) (x2 : Int32) (x3 : Int32) (x4 : Int32) (x5 : Int32) : sn_Re ρ kk (f_Tr_comeUp_102 fk64 (ρ a) x2 x3 x4 x5) (f_Tr_comeUp_102 k64 a x2 x3 x4 x5) := hk64 x2 x3 x4 (x5 + (1 : Int32))
set_option maxHeartbeats 4000000 in
set_option maxRecDepth 100000 in
theorem re_Tr_comeUp_142 {ρ kk : Nat → Nat} (HI : sn_HI ρ kk) (a : Nat) (ha : kk a ≠ 0) (x2 : Int32) : sn_Re ρ kk (f_Tr_comeUp_142 (ρ a) x2) (f_Tr_comeUp_142 a x2) := sn_Re.nn (r := (some a)) (by decide) (fun a3 ha3 => sn_Re.cV (re_Tr_look HI a3 ha3 x2) (sn_Re.V))
set_option maxHeartbeats 4000000 in
set_option maxRecDepth 100000 in
theorem re_Tr_comeUp_111 {ρ kk : Nat → Nat} (HI : sn_HI ρ kk) (a : Nat) (ha : kk a ≠ 0) : ∀ (n : Nat) (x2 : Int32) (x3 : Int32) (x4 : Int32) (x5 : Int32), sn_Re ρ kk (f_Tr_comeUp_111 (ρ a) n x2 x3 x4 x5) (f_Tr_comeUp_111 a n x2 x3 x4 x5)
  | 0, _, _, _, _ => sn_Re.z0
  | n + 1, x2, x3, x4, x5 => sn_Re.ite Iff.rfl (re_Tr_comeUp_142 HI a ha x2) (sn_Re.ite Iff.rfl (re_Tr_comeUp_142 HI a ha x2) (sn_Re.gR (r := (some a)) (by decide) (fun v4 hv4 => sn_Re.cI (re_Tr_placeOf HI x2 x3 x5) (fun v5 => sn_Re.bI HI (r := v4) (by decide) (re_Tr_comeUp_111 HI a ha n x2 x3 x4 (x5 + (1 : Int32)))))))
set_option maxHeartbeats 4000000 in
set_option maxRecDepth 100000 in
theorem re_Tr_comeUp_64 {ρ kk : Nat → Nat} (HI : sn_HI ρ kk) (a : Nat) (ha : kk a ≠ 0) : ∀ (n : Nat) (x2 : Int32) (x3 : Int32) (x4 : Int32) (x5 : Int32), sn_Re ρ kk (f_Tr_comeUp_64 (ρ a) n x2 x3 x4 x5) (f_Tr_comeUp_64 a n x2 x3 x4 x5)
  | 0, _, _, _, _ => sn_Re.z0
  | n + 1, x2, x3, x4, x5 => sn_Re.ite Iff.rfl (re_Tr_comeUp_111 HI a ha sn_fuel x2 x3 x4 (0 : Int32)) (sn_Re.nn (r := (some a)) (by decide) (fun a7 ha7 => sn_Re.cR (re_Tr_flowTo HI a7 ha7 x2 x3 x5) (fun v6 hv6 => sn_Re.ite sn_none (re_Tr_comeUp_102 HI a ha (f_Tr_comeUp_64 (ρ a) n) (f_Tr_comeUp_64 a n) (re_Tr_comeUp_64 HI a ha n) x2 x3 x4 x5) (sn_Re.gI (r := v6) (by decide) (fun v8 => sn_Re.ite Iff.rfl (re_Tr_comeUp_102 HI a ha (f_Tr_comeUp_64 (ρ a) n) (f_Tr_comeUp_64 a n) (re_Tr_comeUp_64 HI a ha n) x2 x3 x4 x5) (sn_Re.nn (r := (some a)) (by decide) (fun a10 ha10 => sn_Re.cV (re_Tr_useBest HI a10 ha10 v6 hv6 x2 x5) (re_Tr_comeUp_102 HI a ha (f_Tr_comeUp_64 (ρ a) n) (f_Tr_comeUp_64 a n) (re_Tr_comeUp_64 HI a ha n) x2 x3 x4 x5))))))))
set_option maxHeartbeats 4000000 in
set_option maxRecDepth 100000 in
theorem re_Tr_comeUp_16 {ρ kk : Nat → Nat} (HI : sn_HI ρ kk) (a : Nat) (ha : kk a ≠ 0) : ∀ (n : Nat) (x2 : Int32) (x3 : Int32) (x4 : Int32) (x5 : Int32), sn_Re ρ kk (f_Tr_comeUp_16 (ρ a) n x2 x3 x4 x5) (f_Tr_comeUp_16 a n x2 x3 x4 x5)
  | 0, _, _, _, _ => sn_Re.z0
  | n + 1, x2, x3, x4, x5 => sn_Re.ite Iff.rfl (re_Tr_comeUp_64 HI a ha sn_fuel x2 x3 x4 (0 : Int32)) (sn_Re.nn (r := (some a)) (by decide) (fun a12 ha12 => sn_Re.cR (re_Tr_flowTo HI a12 ha12 x2 x3 x5) (fun v11 hv11 => sn_Re.ite sn_none (re_Tr_comeUp_51 HI a ha (f_Tr_comeUp_16 (ρ a) n) (f_Tr_comeUp_16 a n) (re_Tr_comeUp_16 HI a ha n) x2 x3 x5 x4) (sn_Re.nn (r := v11) (by decide) (fun a14 ha14 => sn_Re.cI (re_Fl_isOpen HI a14 ha14) (fun v13 => sn_Re.ite Iff.rfl (re_Tr_comeUp_51 HI a ha (f_Tr_comeUp_16 (ρ a) n) (f_Tr_comeUp_16 a n) (re_Tr_comeUp_16 HI a ha n) x2 x3 x5 x4) (re_Tr_comeUp_52 HI a ha (f_Tr_comeUp_16 (ρ a) n) (f_Tr_comeUp_16 a n) (re_Tr_comeUp_16 HI a ha n) x2 x3 x5 x4 (1 : Int32))))))))
set_option maxHeartbeats 4000000 in
set_option maxRecDepth 100000 in
theorem re_Tr_comeUp {ρ kk : Nat → Nat} (HI : sn_HI ρ kk) (a : Nat) (ha : kk a ≠ 0) (r1 : Option Nat) (hr1 : sn_okr kk r1) : sn_Re ρ kk (f_Tr_comeUp (ρ a) (r1.map ρ)) (f_Tr_comeUp a r1) := sn_Re.gI (r := r1) (by decide) (fun v15 => sn_Re.gI (r := r1) (by decide) (fun v16 => re_Tr_comeUp_16 HI a ha sn_fuel v15 v16 (0 : Int32) (0 : Int32)))
set_option maxHeartbeats 4000000 in
set_option maxRecDepth 100000 in
theorem re_Wi_acknowledge_88 {ρ kk : Nat → Nat} (HI : sn_HI ρ kk) (a : Nat) (ha : kk a ≠ 0) : sn_Re ρ kk (f_Wi_acknowledge_88 (ρ a)) (f_Wi_acknowledge_88 a) := sn_Re.V
set_option maxHeartbeats 4000000 in
set_option maxRecDepth 100000 in
theorem re_Wi_acknowledge {ρ kk : Nat → Nat} (HI : sn_HI ρ kk) (a : Nat) (ha : kk a ≠ 0) (x1 : Int32) : sn_Re ρ kk (f_Wi_acknowledge (ρ a) x1) (f_Wi_acknowledge a x1) := sn_Re.nn (r := (some a)) (by decide) (fun a2 ha2 => sn_Re.cI (re_Wi_numberOf HI a2 ha2 (0 : Int32)) (fun v1 => sn_Re.cI (re_Ma_floorMod HI (x1 - v1) (128 : Int32)) (fun v3 => sn_Re.gR (r := (some a)) (by decide) (fun v4 hv4 => sn_Re.gI (r := v4) (by decide) (fun v5 => sn_Re.ite Iff.rfl (sn_Re.gR (r := (some a)) (by decide) (fun v6 hv6 => sn_Re.nn (r := v6) (by decide) (fun a8 ha8 => sn_Re.cV (re_Qu_drop HI a8 ha8 (v3 + (1 : Int32))) (sn_Re.gR (r := (some a)) (by decide) (fun v9 hv9 => sn_Re.gI (r := v9) (by decide) (fun v10 => sn_Re.ite Iff.rfl (sn_Re.gR (r := (some a)) (by decide) (fun v11 hv11 => sn_Re.nn (r := v11) (by decide) (fun a13 ha13 => sn_Re.cI (re_Ck_after HI a13 ha13 (20 : Int32)) (fun v12 => sn_Re.pI HI (r := (some a)) (by decide) (sn_Re.gI (r := (some a)) (by decide) (fun v14 => sn_Re.ite Iff.rfl (re_Wi_acknowledge_88 HI a ha) (sn_Re.gI (r := (some a)) (by decide) (fun v15 => sn_Re.cI (re_Ma_max HI (0 : Int32) ((v15 - v3) - (1 : Int32))) (fun v16 => sn_Re.pI HI (r := (some a)) (by decide) (re_Wi_acknowledge_88 HI a ha)))))))))) (sn_Re.nn (r := (some a)) (by decide) (fun a18 ha18 => sn_Re.cV (re_Wi_stop HI a18 ha18) (sn_Re.V))))))))) (sn_Re.V))))))
set_option maxHeartbeats 4000000 in
set_option maxRecDepth 100000 in
theorem re_Wi_treat_68 {ρ kk : Nat → Nat} (HI : sn_HI ρ kk) (a : Nat) (ha : kk a ≠ 0) : sn_Re ρ kk (f_Wi_treat_68 (ρ a)) (f_Wi_treat_68 a) := sn_Re.Z
set_option maxHeartbeats 4000000 in
set_option maxRecDepth 100000 in
theorem re_Wi_treat_105 {ρ kk : Nat → Nat} (HI : sn_HI ρ kk) (a : Nat) (ha : kk a ≠ 0) : sn_Re ρ kk (f_Wi_treat_105 (ρ a)) (f_Wi_treat_105 a) := sn_Re.gI (r := (some a)) (by decide) (fun v1 => sn_Re.pI HI (r := (some a)) (by decide) (sn_Re.Z))
set_option maxHeartbeats 4000000 in
set_option maxRecDepth 100000 in
theorem re_Wi_treat_46 {ρ kk : Nat → Nat} (HI : sn_HI ρ kk) (a : Nat) (ha : kk a ≠ 0) (r1 : Option Nat) (hr1 : sn_okr kk r1) : sn_Re ρ kk (f_Wi_treat_46 (ρ a) (r1.map ρ)) (f_Wi_treat_46 a r1) := sn_Re.gI (r := r1) (by decide) (fun v2 => sn_Re.gI (r := (some a)) (by decide) (fun v3 => sn_Re.ite Iff.rfl (re_Wi_treat_68 HI a ha) (sn_Re.gI (r := r1) (by decide) (fun v4 => sn_Re.gI (r := (some a)) (by decide) (fun v5 => sn_Re.ite Iff.rfl (sn_Re.gI (r := r1) (by decide) (fun v6 => sn_Re.ite Iff.rfl (re_Wi_treat_105 HI a ha) (sn_Re.gI (r := r1) (by decide) (fun v7 => sn_Re.gI (r := (some a)) (by decide) (fun v8 => sn_Re.ite Iff.rfl (re_Wi_treat_105 HI a ha) (sn_Re.gI (r := r1) (by decide) (fun v9 => sn_Re.pI HI (r := (some a)) (by decide) (sn_Re.Z)))))))) (re_Wi_treat_68 HI a ha))))))
set_option maxHeartbeats 4000000 in
set_option maxRecDepth 100000 in
theorem re_Wi_treat_43 {ρ kk : Nat → Nat} (HI : sn_HI ρ kk) (a : Nat) (ha : kk a ≠ 0) (r1 : Option Nat) (hr1 : sn_okr kk r1) (t0 : Option Nat) (ht0 : sn_okr kk t0) (t1 : Int32) : sn_Re ρ kk (f_Wi_treat_43 (ρ a) (r1.map ρ) (t0.map ρ) t1) (f_Wi_treat_43 a r1 t0 t1) := sn_Re.pI HI (r := t0) (by decide) (re_Wi_treat_46 HI a ha r1 hr1)
set_option maxHeartbeats 4000000 in
set_option maxRecDepth 100000 in
theorem re_Wi_treat {ρ kk : Nat → Nat} (HI : sn_HI ρ kk) (a : Nat) (ha : kk a ≠ 0) (r1 : Option Nat) (hr1 : sn_okr kk r1) : sn_Re ρ kk (f_Wi_treat (ρ a) (r1.map ρ)) (f_Wi_treat a r1) := sn_Re.gI (r := r1) (by decide) (fun v10 => sn_Re.nn (r := (some a)) (by decide) (fun a12 ha12 => sn_Re.cV (re_Wi_acknowledge HI a12 ha12 v10) (sn_Re.gI (r := r1) (by decide) (fun v13 => sn_Re.gI (r := (some a)) (by decide) (fun v14 => sn_Re.ite Iff.rfl (re_Wi_treat_46 HI a ha r1 hr1) (sn_Re.gI (r := r1) (by decide) (fun v15 => sn_Re.pI HI (r := (some a)) (by decide) (sn_Re.gR (r := (some a)) (by decide) (fun v16 hv16 => sn_Re.gI (r := v16) (by decide) (fun v17 => sn_Re.ite Iff.rfl (re_Wi_treat_43 HI a ha r1 hr1 (some a) (sn_okr1 ha) (-1 : Int32)) (re_Wi_treat_43 HI a ha r1 hr1 (some a) (sn_okr1 ha) (0 : Int32))))))))))))
set_option maxHeartbeats 4000000 in
set_option maxRecDepth 100000 in
theorem re_Tr_receive_32 {ρ kk : Nat → Nat} (HI : sn_HI ρ kk) (a : Nat) (ha : kk a ≠ 0) : sn_Re ρ kk (f_Tr_receive_32 (ρ a)) (f_Tr_receive_32 a) := sn_Re.J
set_option maxHeartbeats 4000000 in
set_option maxRecDepth 100000 in
theorem re_Tr_receive_160 {ρ kk : Nat → Nat} (HI : sn_HI ρ kk) (a : Nat) (ha : kk a ≠ 0) (t0 : Int64) : sn_Re ρ kk (f_Tr_receive_160 (ρ a) t0) (f_Tr_receive_160 a t0) := sn_Re.J
set_option maxHeartbeats 4000000 in
set_option maxRecDepth 100000 in
theorem re_Tr_receive_159 {ρ kk : Nat → Nat} (HI : sn_HI ρ kk) (a : Nat) (ha : kk a ≠ 0) : sn_Re ρ kk (f_Tr_receive_159 (ρ a)) (f_Tr_receive_159 a) := re_Tr_receive_160 HI a ha (0 : Int64)
set_option maxHeartbeats 4000000 in
set_option maxRecDepth 100000 in
theorem re_Tr_receive_128 {ρ kk : Nat → Nat} (HI : sn_HI ρ kk) (a : Nat) (ha : kk a ≠ 0) (r2 : Option Nat) (hr2 : sn_okr kk r2) (r3 : Option Nat) (hr3 : sn_okr kk r3) (t0 : Int32) : sn_Re ρ kk (f_Tr_receive_128 (ρ a) (r2.map ρ) (r3.map ρ) t0) (f_Tr_receive_128 a r2 r3 t0) := sn_Re.ite Iff.rfl (re_Tr_receive_159 HI a ha) (sn_Re.gR (r := r2) (by decide) (fun v1 hv1 => sn_Re.gR (r := r3) (by decide) (fun v2 hv2 => sn_Re.nn (r := v1) (by decide) (fun a4 ha4 => sn_Re.cI (re_Wi_treat HI a4 ha4 v2 hv2) (fun v3 => sn_Re.ite Iff.rfl (re_Tr_receive_159 HI a ha) (sn_Re.gR (r := r3) (by decide) (fun v5 hv5 => sn_Re.gJ (r := v5) (by decide) (fun v6 => re_Tr_receive_160 HI a ha v6))))))))
set_option maxHeartbeats 4000000 in
set_option maxRecDepth 100000 in
theorem re_Tr_receive_123 {ρ kk : Nat → Nat} (HI : sn_HI ρ kk) (a : Nat) (ha : kk a ≠ 0) (r2 : Option Nat) (hr2 : sn_okr kk r2) (r3 : Option Nat) (hr3 : sn_okr kk r3) : sn_Re ρ kk (f_Tr_receive_123 (ρ a) (r2.map ρ) (r3.map ρ)) (f_Tr_receive_123 a r2 r3) := re_Tr_receive_128 HI a ha r2 hr2 r3 hr3 (1 : Int32)
set_option maxHeartbeats 4000000 in
set_option maxRecDepth 100000 in
theorem re_Tr_receive_111 {ρ kk : Nat → Nat} (HI : sn_HI ρ kk) (a : Nat) (ha : kk a ≠ 0) (r2 : Option Nat) (hr2 : sn_okr kk r2) (r3 : Option Nat) (hr3 : sn_okr kk r3) (x6 : Int32) : sn_Re ρ kk (f_Tr_receive_111 (ρ a) (r2.map ρ) (r3.map ρ) x6) (f_Tr_receive_111 a r2 r3 x6) := sn_Re.ite Iff.rfl (re_Tr_receive_123 HI a ha r2 hr2 r3 hr3) (sn_Re.ite Iff.rfl (re_Tr_receive_128 HI a ha r2 hr2 r3 hr3 (0 : Int32)) (re_Tr_receive_123 HI a ha r2 hr2 r3 hr3))
set_option maxHeartbeats 4000000 in
set_option maxRecDepth 100000 in
theorem re_Tr_receive_100 {ρ kk : Nat → Nat} (HI : sn_HI ρ kk) (a : Nat) (ha : kk a ≠ 0) (r2 : Option Nat) (hr2 : sn_okr kk r2) (r3 : Option Nat) (hr3 : sn_okr kk r3) (x6 : Int32) : sn_Re ρ kk (f_Tr_receive_100 (ρ a) (r2.map ρ) (r3.map ρ) x6) (f_Tr_receive_100 a r2 r3 x6) := sn_Re.ite Iff.rfl (re_Tr_receive_111 HI a ha r2 hr2 r3 hr3 x6) (sn_Re.nn (r := (some a)) (by decide) (fun a8 ha8 => sn_Re.cV (re_Tr_comeUp HI a8 ha8 r2 hr2) (re_Tr_receive_111 HI a ha r2 hr2 r3 hr3 x6)))
set_option maxHeartbeats 4000000 in
set_option maxRecDepth 100000 in
theorem re_Tr_receive_72 {ρ kk : Nat → Nat} (HI : sn_HI ρ kk) (a : Nat) (ha : kk a ≠ 0) (r2 : Option Nat) (hr2 : sn_okr kk r2) (r3 : Option Nat) (hr3 : sn_okr kk r3) (t0 : Int32) : sn_Re ρ kk (f_Tr_receive_72 (ρ a) (r2.map ρ) (r3.map ρ) t0) (f_Tr_receive_72 a r2 r3 t0) := sn_Re.gR (r := r3) (by decide) (fun v9 hv9 => sn_Re.gI (r := v9) (by decide) (fun v10 => sn_Re.nn (r := r2) (by decide) (fun a12 ha12 => sn_Re.cI (re_En_hear HI a12 ha12 t0 v10) (fun v11 => sn_Re.ite Iff.rfl (re_Tr_receive_100 HI a ha r2 hr2 r3 hr3 v11) (sn_Re.nn (r := (some a)) (by decide) (fun a14 ha14 => sn_Re.cV (re_Tr_fail HI a14 ha14 r2 hr2) (re_Tr_receive_100 HI a ha r2 hr2 r3 hr3 v11)))))))
set_option maxHeartbeats 4000000 in
set_option maxRecDepth 100000 in
theorem re_Tr_receive_60 {ρ kk : Nat → Nat} (HI : sn_HI ρ kk) (a : Nat) (ha : kk a ≠ 0) (r2 : Option Nat) (hr2 : sn_okr kk r2) (r3 : Option Nat) (hr3 : sn_okr kk r3) : sn_Re ρ kk (f_Tr_receive_60 (ρ a) (r2.map ρ) (r3.map ρ)) (f_Tr_receive_60 a r2 r3) := re_Tr_receive_72 HI a ha r2 hr2 r3 hr3 (6 : Int32)
set_option maxHeartbeats 4000000 in
set_option maxRecDepth 100000 in
theorem re_Tr_receive {ρ kk : Nat → Nat} (HI : sn_HI ρ kk) (a : Nat) (ha : kk a ≠ 0) (x1 : Int32) : sn_Re ρ kk (f_Tr_receive (ρ a) x1) (f_Tr_receive a x1) := sn_Re.nn (r := (some a)) (by decide) (fun a16 ha16 => sn_Re.cR (re_Tr_endOf HI a16 ha16 (x1 / (2 : Int32)) (x1 % (2 : Int32))) (fun v15 hv15 => sn_Re.nn (r := (some a)) (by decide) (fun a18 ha18 => sn_Re.cR (re_Tr_endOf HI a18 ha18 (x1 / (2 : Int32)) ((1 : Int32) - (x1 % (2 : Int32)))) (fun v17 hv17 => sn_Re.ite sn_none (re_Tr_receive_32 HI a ha) (sn_Re.ite sn_nnone (sn_Re.nn (r := v15) (by decide) (fun a20 ha20 => sn_Re.cI (re_En_isDamagedNow HI a20 ha20) (fun v19 => sn_Re.ite Iff.rfl (re_Tr_receive_60 HI a ha v15 hv15 v17 hv17) (sn_Re.gR (r := (some a)) (by decide) (fun v21 hv21 => sn_Re.gR (r := v21) (by decide) (fun v22 hv22 => sn_Re.gI (r := v15) (by decide) (fun v23 => sn_Re.aI (r := v22) (by decide) (fun v24 => sn_Re.ite Iff.rfl (sn_Re.gR (r := v17) (by decide) (fun v25 hv25 => sn_Re.gI (r := v25) (by decide) (fun v26 => re_Tr_receive_72 HI a ha v15 hv15 v17 hv17 v26))) (re_Tr_receive_60 HI a ha v15 hv15 v17 hv17))))))))) (re_Tr_receive_32 HI a ha))))))
set_option maxHeartbeats 4000000 in
set_option maxRecDepth 100000 in
theorem re_Tr_changeBack_45 {ρ kk : Nat → Nat} (HI : sn_HI ρ kk) (a : Nat) (ha : kk a ≠ 0) : sn_Re ρ kk (f_Tr_changeBack_45 (ρ a)) (f_Tr_changeBack_45 a) := sn_Re.V
set_option maxHeartbeats 4000000 in
set_option maxRecDepth 100000 in
theorem re_Tr_changeBack_73 {ρ kk : Nat → Nat} (HI : sn_HI ρ kk) (a : Nat) (ha : kk a ≠ 0) : ∀ (n : Nat) (r5 : Option Nat) (hr5 : sn_okr kk r5) (x6 : Int32), sn_Re ρ kk (f_Tr_changeBack_73 (ρ a) n (r5.map ρ) x6) (f_Tr_changeBack_73 a n r5 x6)
  | 0, _, _, _ => sn_Re.z0
  | n + 1, r5, hr5, x6 => sn_Re.ite Iff.rfl (sn_Re.V) (sn_Re.gR (r := r5) (by decide) (fun v1 hv1 => sn_Re.nn (r := v1) (by decide) (fun a3 ha3 => sn_Re.cJ (re_Qu_takeFirst HI a3 ha3) (fun v2 => sn_Re.nn (r := (some a)) (by decide) (fun a5 ha5 => sn_Re.cV (re_Tr_give HI a5 ha5 r5 hr5 v2) (re_Tr_changeBack_73 HI a ha n r5 hr5 (x6 + (-1 : Int32))))))))
set_option maxHeartbeats 4000000 in
set_option maxRecDepth 100000 in
theorem re_Tr_changeBack {ρ kk : Nat → Nat} (HI : sn_HI ρ kk) (a : Nat) (ha : kk a ≠ 0) (x1 : Int32) (l2 : Int64) : sn_Re ρ kk (f_Tr_changeBack (ρ a) x1 l2) (f_Tr_changeBack a x1 l2) := sn_Re.cI (re_Ms_first HI l2) (fun v6 => sn_Re.cI (re_Ms_from HI l2) (fun v7 => sn_Re.nn (r := (some a)) (by decide) (fun a9 ha9 => sn_Re.cR (re_Tr_flowTo HI a9 ha9 x1 v7 v6) (fun v8 hv8 => sn_Re.ite sn_none (re_Tr_changeBack_45 HI a ha) (sn_Re.gI (r := v8) (by decide) (fun v10 => sn_Re.ite Iff.rfl (re_Tr_changeBack_45 HI a ha) (sn_Re.gI (r := v8) (by decide) (fun v11 => sn_Re.cI (re_Ms_second HI l2) (fun v12 => sn_Re.ite Iff.rfl (sn_Re.gI (r := v8) (by decide) (fun v13 => sn_Re.nn (r := (some a)) (by decide) (fun a15 ha15 => sn_Re.cR (re_Tr_best HI a15 ha15 x1 v13 v6) (fun v14 hv14 => sn_Re.nn (r := v8) (by decide) (fun a17 ha17 => sn_Re.cV (re_Fl_free HI a17 ha17 v14 hv14) (sn_Re.gR (r := v8) (by decide) (fun v18 hv18 => sn_Re.gI (r := v18) (by decide) (fun v19 => re_Tr_changeBack_73 HI a ha sn_fuel v8 hv8 v19)))))))) (re_Tr_changeBack_45 HI a ha))))))))))
set_option maxHeartbeats 4000000 in
set_option maxRecDepth 100000 in
theorem re_Tr_giveAgain_106 {ρ kk : Nat → Nat} (HI : sn_HI ρ kk) (a : Nat) (ha : kk a ≠ 0) (fk5 k5 : Option Nat → Option Nat → Int32 → sn_M) (hk5 : ∀ (r1 : Option Nat) (hr1 : sn_okr kk r1) (r2 : Option Nat) (hr2 : sn_okr kk r2) (x3 : Int32), sn_Re ρ kk (fk5 (r1.map ρ) (r2.map ρ) x3) (k5 r1 r2 x3)) (r1 : Option Nat) (hr1 : sn_okr kk r1) (r2 : Option Nat) (hr2 : sn_okr kk r2) (x3 : Int32) : sn_Re ρ kk (f_Tr_giveAgain_106 fk5 (ρ a) (r1.map ρ) (r2.map ρ) x3) (f_Tr_giveAgain_106 k5 a r1 r2 x3) := hk5 r1 hr1 r2 hr2 (x3 + (-1 : Int32))
set_option maxHeartbeats 4000000 in
set_option maxRecDepth 100000 in
theorem re_Tr_giveAgain_98 {ρ kk : Nat → Nat} (HI : sn_HI ρ kk) (a : Nat) (ha : kk a ≠ 0) (fk5 k5 : Option Nat → Option Nat → Int32 → sn_M) (hk5 : ∀ (r1 : Option Nat) (hr1 : sn_okr kk r1) (r2 : Option Nat) (hr2 : sn_okr kk r2) (x3 : Int32), sn_Re ρ kk (fk5 (r1.map ρ) (r2.map ρ) x3) (k5 r1 r2 x3)) (r1 : Option Nat) (hr1 : sn_okr kk r1) (r2 : Option Nat) (hr2 : sn_okr kk r2) (x3 : Int32) (l4 : Int64) (r8 : Option Nat) (hr8 : sn_okr kk r8) : sn_Re ρ kk (f_Tr_giveAgain_98 fk5 (ρ a) (r1.map ρ) (r2.map ρ) x3 l4 (r8.map ρ)) (f_Tr_giveAgain_98 k5 a r1 r2 x3 l4 r8) := sn_Re.nn (r := (some a)) (by decide) (fun a2 ha2 => sn_Re.cV (re_Tr_give HI a2 ha2 r8 hr8 l4) (re_Tr_giveAgain_106 HI a ha fk5 k5 hk5 r1 hr1 r2 hr2 x3))
set_option maxHeartbeats 4000000 in
set_option maxRecDepth 100000 in
theorem re_Tr_giveAgain_5 {ρ kk : Nat → Nat} (HI : sn_HI ρ kk) (a : Nat) (ha : kk a ≠ 0) : ∀ (n : Nat) (r1 : Option Nat) (hr1 : sn_okr kk r1) (r2 : Option Nat) (hr2 : sn_okr kk r2) (x3 : Int32), sn_Re ρ kk (f_Tr_giveAgain_5 (ρ a) n (r1.map ρ) (r2.map ρ) x3) (f_Tr_giveAgain_5 a n r1 r2 x3)
  | 0, _, _, _, _, _ => sn_Re.z0
  | n + 1, r1, hr1, r2, hr2, x3 => sn_Re.ite Iff.rfl (sn_Re.V) (sn_Re.nn (r := r2) (by decide) (fun a4 ha4 => sn_Re.cJ (re_Qu_takeFirst HI a4 ha4) (fun v3 => sn_Re.cI (re_Ms_kind HI v3) (fun v5 => sn_Re.ite Iff.rfl (re_Tr_giveAgain_106 HI a ha (f_Tr_giveAgain_5 (ρ a) n) (f_Tr_giveAgain_5 a n) (re_Tr_giveAgain_5 HI a ha n) r1 hr1 r2 hr2 x3) (sn_Re.ite Iff.rfl (sn_Re.cI (re_Ms_lane HI v3) (fun v6 => sn_Re.gI (r := r1) (by decide) (fun v7 => sn_Re.gI (r := r1) (by decide) (fun v8 => sn_Re.nn (r := (some a)) (by decide) (fun a10 ha10 => sn_Re.cR (re_Tr_flowTo HI a10 ha10 v7 v8 v6) (fun v9 hv9 => sn_Re.ite Iff.rfl (re_Tr_giveAgain_98 HI a ha (f_Tr_giveAgain_5 (ρ a) n) (f_Tr_giveAgain_5 a n) (re_Tr_giveAgain_5 HI a ha n) r1 hr1 r2 hr2 x3 v3 v9 hv9) (sn_Re.ite sn_none (re_Tr_giveAgain_98 HI a ha (f_Tr_giveAgain_5 (ρ a) n) (f_Tr_giveAgain_5 a n) (re_Tr_giveAgain_5 HI a ha n) r1 hr1 r2 hr2 x3 v3 v9 hv9) (sn_Re.nn (r := v9) (by decide) (fun a12 ha12 => sn_Re.cI (re_Fl_isOpen HI a12 ha12) (fun v11 => sn_Re.ite Iff.rfl (re_Tr_giveAgain_98 HI a ha (f_Tr_giveAgain_5 (ρ a) n) (f_Tr_giveAgain_5 a n) (re_Tr_giveAgain_5 HI a ha n) r1 hr1 r2 hr2 x3 v3 v9 hv9) (sn_Re.gI (r := r1) (by decide) (fun v13 => sn_Re.cI (re_Ms_to HI v3) (fun v14 => sn_Re.nn (r := (some a)) (by decide) (fun a16 ha16 => sn_Re.cR (re_Tr_wayTo HI a16 ha16 v13 v14 v6 (-1 : Int32)) (fun v15 hv15 => re_Tr_giveAgain_98 HI a ha (f_Tr_giveAgain_5 (ρ a) n) (f_Tr_giveAgain_5 a n) (re_Tr_giveAgain_5 HI a ha n) r1 hr1 r2 hr2 x3 v3 v15 hv15))))))))))))))) (re_Tr_giveAgain_106 HI a ha (f_Tr_giveAgain_5 (ρ a) n) (f_Tr_giveAgain_5 a n) (re_Tr_giveAgain_5 HI a ha n) r1 hr1 r2 hr2 x3))))))
set_option maxHeartbeats 4000000 in
set_option maxRecDepth 100000 in
theorem re_Tr_giveAgain {ρ kk : Nat → Nat} (HI : sn_HI ρ kk) (a : Nat) (ha : kk a ≠ 0) (r1 : Option Nat) (hr1 : sn_okr kk r1) (r2 : Option Nat) (hr2 : sn_okr kk r2) : sn_Re ρ kk (f_Tr_giveAgain (ρ a) (r1.map ρ) (r2.map ρ)) (f_Tr_giveAgain a r1 r2) := sn_Re.gI (r := r2) (by decide) (fun v17 => re_Tr_giveAgain_5 HI a ha sn_fuel r1 hr1 r2 hr2 v17)
set_option maxHeartbeats 4000000 in
set_option maxRecDepth 100000 in
theorem re_Tr_endChangeover_123 {ρ kk : Nat → Nat} (HI : sn_HI ρ kk) (a : Nat) (ha : kk a ≠ 0) (fk68 k68 : Option Nat → Option Nat → Int32 → sn_M) (hk68 : ∀ (r1 : Option Nat) (hr1 : sn_okr kk r1) (r3 : Option Nat) (hr3 : sn_okr kk r3) (x4 : Int32), sn_Re ρ kk (fk68 (r1.map ρ) (r3.map ρ) x4) (k68 r1 r3 x4)) (r1 : Option Nat) (hr1 : sn_okr kk r1) (r3 : Option Nat) (hr3 : sn_okr kk r3) (x4 : Int32) : sn_Re ρ kk (f_Tr_endChangeover_123 fk68 (ρ a) (r1.map ρ) (r3.map ρ) x4) (f_Tr_endChangeover_123 k68 a r1 r3 x4) := hk68 r1 hr1 r3 hr3 (x4 + (1 : Int32))
set_option maxHeartbeats 4000000 in
set_option maxRecDepth 100000 in
theorem re_Tr_endChangeover_195 {ρ kk : Nat → Nat} (HI : sn_HI ρ kk) (a : Nat) (ha : kk a ≠ 0) (fk150 k150 : Option Nat → Int32 → sn_M) (hk150 : ∀ (r1 : Option Nat) (hr1 : sn_okr kk r1) (x4 : Int32), sn_Re ρ kk (fk150 (r1.map ρ) x4) (k150 r1 x4)) (r1 : Option Nat) (hr1 : sn_okr kk r1) (x4 : Int32) : sn_Re ρ kk (f_Tr_endChangeover_195 fk150 (ρ a) (r1.map ρ) x4) (f_Tr_endChangeover_195 k150 a r1 x4) := hk150 r1 hr1 (x4 + (1 : Int32))
set_option maxHeartbeats 4000000 in
set_option maxRecDepth 100000 in
theorem re_Tr_endChangeover_150 {ρ kk : Nat → Nat} (HI : sn_HI ρ kk) (a : Nat) (ha : kk a ≠ 0) : ∀ (n : Nat) (r1 : Option Nat) (hr1 : sn_okr kk r1) (x4 : Int32), sn_Re ρ kk (f_Tr_endChangeover_150 (ρ a) n (r1.map ρ) x4) (f_Tr_endChangeover_150 a n r1 x4)
  | 0, _, _, _ => sn_Re.z0
  | n + 1, r1, hr1, x4 => sn_Re.ite Iff.rfl (sn_Re.gI (r := r1) (by decide) (fun v1 => sn_Re.nn (r := (some a)) (by decide) (fun a3 ha3 => sn_Re.cV (re_Tr_look HI a3 ha3 v1) (sn_Re.V)))) (sn_Re.gI (r := r1) (by decide) (fun v4 => sn_Re.gI (r := r1) (by decide) (fun v5 => sn_Re.nn (r := (some a)) (by decide) (fun a7 ha7 => sn_Re.cR (re_Tr_flowTo HI a7 ha7 v4 v5 x4) (fun v6 hv6 => sn_Re.ite sn_none (re_Tr_endChangeover_195 HI a ha (f_Tr_endChangeover_150 (ρ a) n) (f_Tr_endChangeover_150 a n) (re_Tr_endChangeover_150 HI a ha n) r1 hr1 x4) (sn_Re.gI (r := v6) (by decide) (fun v8 => sn_Re.ite Iff.rfl (re_Tr_endChangeover_195 HI a ha (f_Tr_endChangeover_150 (ρ a) n) (f_Tr_endChangeover_150 a n) (re_Tr_endChangeover_150 HI a ha n) r1 hr1 x4) (sn_Re.gR (r := v6) (by decide) (fun v9 hv9 => sn_Re.nn (r := (some a)) (by decide) (fun a11 ha11 => sn_Re.cV (re_Tr_giveAgain HI a11 ha11 r1 hr1 v9 hv9) (re_Tr_endChangeover_195 HI a ha (f_Tr_endChangeover_150 (ρ a) n) (f_Tr_endChangeover_150 a n) (re_Tr_endChangeover_150 HI a ha n) r1 hr1 x4)))))))))))
set_option maxHeartbeats 4000000 in
set_option maxRecDepth 100000 in
theorem re_Tr_endChangeover_68 {ρ kk : Nat → Nat} (HI : sn_HI ρ kk) (a : Nat) (ha : kk a ≠ 0) : ∀ (n : Nat) (r1 : Option Nat) (hr1 : sn_okr kk r1) (r3 : Option Nat) (hr3 : sn_okr kk r3) (x4 : Int32), sn_Re ρ kk (f_Tr_endChangeover_68 (ρ a) n (r1.map ρ) (r3.map ρ) x4) (f_Tr_endChangeover_68 a n r1 r3 x4)
  | 0, _, _, _, _, _ => sn_Re.z0
  | n + 1, r1, hr1, r3, hr3, x4 => sn_Re.ite Iff.rfl (sn_Re.nn (r := (some a)) (by decide) (fun a13 ha13 => sn_Re.cV (re_Tr_giveAgain HI a13 ha13 r1 hr1 r3 hr3) (sn_Re.gR (r := r1) (by decide) (fun v14 hv14 => sn_Re.gR (r := v14) (by decide) (fun v15 hv15 => sn_Re.nn (r := (some a)) (by decide) (fun a17 ha17 => sn_Re.cV (re_Tr_giveAgain HI a17 ha17 r1 hr1 v15 hv15) (re_Tr_endChangeover_150 HI a ha sn_fuel r1 hr1 (0 : Int32)))))))) (sn_Re.gI (r := r1) (by decide) (fun v18 => sn_Re.gI (r := r1) (by decide) (fun v19 => sn_Re.nn (r := (some a)) (by decide) (fun a21 ha21 => sn_Re.cR (re_Tr_flowTo HI a21 ha21 v18 v19 x4) (fun v20 hv20 => sn_Re.ite sn_none (re_Tr_endChangeover_123 HI a ha (f_Tr_endChangeover_68 (ρ a) n) (f_Tr_endChangeover_68 a n) (re_Tr_endChangeover_68 HI a ha n) r1 hr1 r3 hr3 x4) (sn_Re.gR (r := v20) (by decide) (fun v22 hv22 => sn_Re.ite (sn_neqv HI hv22 hr1) (re_Tr_endChangeover_123 HI a ha (f_Tr_endChangeover_68 (ρ a) n) (f_Tr_endChangeover_68 a n) (re_Tr_endChangeover_68 HI a ha n) r1 hr1 r3 hr3 x4) (sn_Re.gI (r := r1) (by decide) (fun v23 => sn_Re.gI (r := r1) (by decide) (fun v24 => sn_Re.nn (r := (some a)) (by decide) (fun a26 ha26 => sn_Re.cR (re_Tr_best HI a26 ha26 v23 v24 x4) (fun v25 hv25 => sn_Re.nn (r := v20) (by decide) (fun a28 ha28 => sn_Re.cV (re_Fl_free HI a28 ha28 v25 hv25) (re_Tr_endChangeover_123 HI a ha (f_Tr_endChangeover_68 (ρ a) n) (f_Tr_endChangeover_68 a n) (re_Tr_endChangeover_68 HI a ha n) r1 hr1 r3 hr3 x4))))))))))))))
set_option maxHeartbeats 4000000 in
set_option maxRecDepth 100000 in
theorem re_Tr_endChangeover_58 {ρ kk : Nat → Nat} (HI : sn_HI ρ kk) (a : Nat) (ha : kk a ≠ 0) (r1 : Option Nat) (hr1 : sn_okr kk r1) (r3 : Option Nat) (hr3 : sn_okr kk r3) : sn_Re ρ kk (f_Tr_endChangeover_58 (ρ a) (r1.map ρ) (r3.map ρ)) (f_Tr_endChangeover_58 a r1 r3) := sn_Re.gR (r := r1) (by decide) (fun v29 hv29 => sn_Re.nn (r := v29) (by decide) (fun a31 ha31 => sn_Re.cV (re_Wi_stop HI a31 ha31) (re_Tr_endChangeover_68 HI a ha sn_fuel r1 hr1 r3 hr3 (0 : Int32))))
set_option maxHeartbeats 4000000 in
set_option maxRecDepth 100000 in
theorem re_Tr_endChangeover {ρ kk : Nat → Nat} (HI : sn_HI ρ kk) (a : Nat) (ha : kk a ≠ 0) (r1 : Option Nat) (hr1 : sn_okr kk r1) (x2 : Int32) : sn_Re ρ kk (f_Tr_endChangeover (ρ a) (r1.map ρ) x2) (f_Tr_endChangeover a r1 x2) := sn_Re.gI (r := r1) (by decide) (fun v32 => sn_Re.ite Iff.rfl (sn_Re.pI HI (r := r1) (by decide) (sn_Re.gR (r := r1) (by decide) (fun v33 hv33 => sn_Re.gR (r := v33) (by decide) (fun v34 hv34 => sn_Re.ite Iff.rfl (sn_Re.gR (r := r1) (by decide) (fun v35 hv35 => sn_Re.nn (r := v35) (by decide) (fun a37 ha37 => sn_Re.cV (re_Wi_acknowledge HI a37 ha37 x2) (re_Tr_endChangeover_58 HI a ha r1 hr1 v34 hv34)))) (sn_Re.gI (r := (some a)) (by decide) (fun v38 => sn_Re.gI (r := v34) (by decide) (fun v39 => sn_Re.pI HI (r := (some a)) (by decide) (sn_Re.gI (r := v34) (by decide) (fun v40 => sn_Re.nn (r := v34) (by decide) (fun a42 ha42 => sn_Re.cV (re_Qu_drop HI a42 ha42 v40) (re_Tr_endChangeover_58 HI a ha r1 hr1 v34 hv34))))))))))) (sn_Re.V))
set_option maxHeartbeats 4000000 in
set_option maxRecDepth 100000 in
theorem re_Tr_changeOver_63 {ρ kk : Nat → Nat} (HI : sn_HI ρ kk) (a : Nat) (ha : kk a ≠ 0) : sn_Re ρ kk (f_Tr_changeOver_63 (ρ a)) (f_Tr_changeOver_63 a) := sn_Re.V
set_option maxHeartbeats 4000000 in
set_option maxRecDepth 100000 in
theorem re_Tr_changeOver_109 {ρ kk : Nat → Nat} (HI : sn_HI ρ kk) (a : Nat) (ha : kk a ≠ 0) (l2 : Int64) (r6 : Option Nat) (hr6 : sn_okr kk r6) : sn_Re ρ kk (f_Tr_changeOver_109 (ρ a) l2 (r6.map ρ)) (f_Tr_changeOver_109 a l2 r6) := sn_Re.cI (re_Ms_second HI l2) (fun v1 => sn_Re.nn (r := (some a)) (by decide) (fun a3 ha3 => sn_Re.cV (re_Tr_endChangeover HI a3 ha3 r6 hr6 v1) (sn_Re.V)))
set_option maxHeartbeats 4000000 in
set_option maxRecDepth 100000 in
theorem re_Tr_changeOver_93 {ρ kk : Nat → Nat} (HI : sn_HI ρ kk) (a : Nat) (ha : kk a ≠ 0) (x1 : Int32) (l2 : Int64) (r6 : Option Nat) (hr6 : sn_okr kk r6) : sn_Re ρ kk (f_Tr_changeOver_93 (ρ a) x1 l2 (r6.map ρ)) (f_Tr_changeOver_93 a x1 l2 r6) := sn_Re.gI (r := r6) (by decide) (fun v4 => sn_Re.cJ (re_Tr_overOf HI r6 hr6 (2 : Int32)) (fun v5 => sn_Re.nn (r := (some a)) (by decide) (fun a7 ha7 => sn_Re.cV (re_Tr_goOtherWay HI a7 ha7 x1 v4 v5) (re_Tr_changeOver_109 HI a ha l2 r6 hr6))))
set_option maxHeartbeats 4000000 in
set_option maxRecDepth 100000 in
theorem re_Tr_changeOver_34 {ρ kk : Nat → Nat} (HI : sn_HI ρ kk) (a : Nat) (ha : kk a ≠ 0) (x1 : Int32) (l2 : Int64) (x5 : Int32) (t0 : Option Nat) (ht0 : sn_okr kk t0) (t1 : Int32) (t2 : Int32) : sn_Re ρ kk (f_Tr_changeOver_34 (ρ a) x1 l2 x5 (t0.map ρ) t1 t2) (f_Tr_changeOver_34 a x1 l2 x5 t0 t1 t2) := sn_Re.nn (r := t0) (by decide) (fun a9 ha9 => sn_Re.cR (re_Tr_endOf HI a9 ha9 t1 t2) (fun v8 hv8 => sn_Re.ite sn_none (re_Tr_changeOver_63 HI a ha) (sn_Re.gI (r := v8) (by decide) (fun v10 => sn_Re.ite Iff.rfl (re_Tr_changeOver_63 HI a ha) (sn_Re.gI (r := v8) (by decide) (fun v11 => sn_Re.ite Iff.rfl (sn_Re.cI (re_Ms_kind HI l2) (fun v12 => sn_Re.ite Iff.rfl (re_Tr_changeOver_109 HI a ha l2 v8 hv8) (sn_Re.gI (r := v8) (by decide) (fun v13 => sn_Re.ite Iff.rfl (re_Tr_changeOver_93 HI a ha x1 l2 v8 hv8) (sn_Re.nn (r := (some a)) (by decide) (fun a15 ha15 => sn_Re.cI (re_Tr_takeOut HI a15 ha15 v8 hv8) (fun v14 => sn_Re.nn (r := (some a)) (by decide) (fun a17 ha17 => sn_Re.cV (re_Tr_look HI a17 ha17 x1) (re_Tr_changeOver_93 HI a ha x1 l2 v8 hv8))))))))) (re_Tr_changeOver_63 HI a ha)))))))
set_option maxHeartbeats 4000000 in
set_option maxRecDepth 100000 in
theorem re_Tr_changeOver {ρ kk : Nat → Nat} (HI : sn_HI ρ kk) (a : Nat) (ha : kk a ≠ 0) (x1 : Int32) (l2 : Int64) : sn_Re ρ kk (f_Tr_changeOver (ρ a) x1 l2) (f_Tr_changeOver a x1 l2) := sn_Re.cI (re_Ms_first HI l2) (fun v18 => sn_Re.nI (fun n19 => sn_Re.cI (re_Ms_first HI l2) (fun v20 => sn_Re.nI (fun n21 => sn_Re.cI (re_Ms_from HI l2) (fun v22 => sn_Re.ite Iff.rfl (re_Tr_changeOver_34 HI a ha x1 l2 n21 (some a) (sn_okr1 ha) n19 (0 : Int32)) (re_Tr_changeOver_34 HI a ha x1 l2 n21 (some a) (sn_okr1 ha) n19 (1 : Int32)))))))
set_option maxHeartbeats 4000000 in
set_option maxRecDepth 100000 in
theorem re_Tr_confirmBack {ρ kk : Nat → Nat} (HI : sn_HI ρ kk) (a : Nat) (ha : kk a ≠ 0) (x1 : Int32) (l2 : Int64) : sn_Re ρ kk (f_Tr_confirmBack (ρ a) x1 l2) (f_Tr_confirmBack a x1 l2) := sn_Re.cI (re_Ms_from HI l2) (fun v1 => sn_Re.cI (re_Ms_first HI l2) (fun v2 => sn_Re.cI (re_Ms_second HI l2) (fun v3 => sn_Re.cJ (re_Ms_of HI (4 : Int32) x1 v1 v2 v2 v3) (fun v4 => sn_Re.nn (r := (some a)) (by decide) (fun a6 ha6 => sn_Re.cV (re_Tr_goOtherWay HI a6 ha6 x1 v1 v4) (sn_Re.V))))))
set_option maxHeartbeats 4000000 in
set_option maxRecDepth 100000 in
theorem re_Tr_passOn {ρ kk : Nat → Nat} (HI : sn_HI ρ kk) (a : Nat) (ha : kk a ≠ 0) (x1 : Int32) (l2 : Int64) : sn_Re ρ kk (f_Tr_passOn (ρ a) x1 l2) (f_Tr_passOn a x1 l2) := sn_Re.cJ (re_Ms_hopped HI l2) (fun v1 => sn_Re.cI (re_Ms_hops HI v1) (fun v2 => sn_Re.ite Iff.rfl (sn_Re.cI (re_Ms_to HI l2) (fun v3 => sn_Re.cI (re_Ms_lane HI l2) (fun v4 => sn_Re.nn (r := (some a)) (by decide) (fun a6 ha6 => sn_Re.cR (re_Tr_wayTo HI a6 ha6 x1 v3 v4 (-1 : Int32)) (fun v5 hv5 => sn_Re.nn (r := (some a)) (by decide) (fun a8 ha8 => sn_Re.cV (re_Tr_give HI a8 ha8 v5 hv5 v1) (sn_Re.V))))))) (sn_Re.gI (r := (some a)) (by decide) (fun v9 => sn_Re.pI HI (r := (some a)) (by decide) (sn_Re.V)))))
set_option maxHeartbeats 4000000 in
set_option maxRecDepth 100000 in
theorem re_Tr_prohibit_64 {ρ kk : Nat → Nat} (HI : sn_HI ρ kk) (a : Nat) (ha : kk a ≠ 0) : sn_Re ρ kk (f_Tr_prohibit_64 (ρ a)) (f_Tr_prohibit_64 a) := sn_Re.V
set_option maxHeartbeats 4000000 in
set_option maxRecDepth 100000 in
theorem re_Tr_prohibit_58 {ρ kk : Nat → Nat} (HI : sn_HI ρ kk) (a : Nat) (ha : kk a ≠ 0) (x1 : Int32) (t0 : Option Nat) (ht0 : sn_okr kk t0) (t1 : Int32) (t2 : Int32) : sn_Re ρ kk (f_Tr_prohibit_58 (ρ a) x1 (t0.map ρ) t1 t2) (f_Tr_prohibit_58 a x1 t0 t1 t2) := sn_Re.bZ HI (r := t0) (by decide) (sn_Re.nn (r := (some a)) (by decide) (fun a2 ha2 => sn_Re.cV (re_Tr_look HI a2 ha2 x1) (re_Tr_prohibit_64 HI a ha)))
set_option maxHeartbeats 4000000 in
set_option maxRecDepth 100000 in
theorem re_Tr_prohibit {ρ kk : Nat → Nat} (HI : sn_HI ρ kk) (a : Nat) (ha : kk a ≠ 0) (x1 : Int32) (l2 : Int64) : sn_Re ρ kk (f_Tr_prohibit (ρ a) x1 l2) (f_Tr_prohibit a x1 l2) := sn_Re.cI (re_Ms_first HI l2) (fun v3 => sn_Re.cI (re_Ms_from HI l2) (fun v4 => sn_Re.gR (r := (some a)) (by decide) (fun v5 hv5 => sn_Re.nn (r := v5) (by decide) (fun a7 ha7 => sn_Re.cI (re_Pl_areNeighbours HI a7 ha7 x1 v4) (fun v6 => sn_Re.ite Iff.rfl (re_Tr_prohibit_64 HI a ha) (sn_Re.cI (re_Pl_isExchange HI v3) (fun v8 => sn_Re.ite Iff.rfl (re_Tr_prohibit_64 HI a ha) (sn_Re.gR (r := (some a)) (by decide) (fun v9 hv9 => sn_Re.cI (re_Tr_placeOf HI x1 v4 v3) (fun v10 => sn_Re.cI (re_Ms_kind HI l2) (fun v11 => sn_Re.ite Iff.rfl (re_Tr_prohibit_58 HI a ha x1 v9 hv9 v10 (0 : Int32)) (re_Tr_prohibit_58 HI a ha x1 v9 hv9 v10 (1 : Int32)))))))))))))
set_option maxHeartbeats 4000000 in
set_option maxRecDepth 100000 in
theorem re_Tr_get_108 {ρ kk : Nat → Nat} (HI : sn_HI ρ kk) (a : Nat) (ha : kk a ≠ 0) (l2 : Int64) (x5 : Int32) : sn_Re ρ kk (f_Tr_get_108 (ρ a) l2 x5) (f_Tr_get_108 a l2 x5) := sn_Re.nn (r := (some a)) (by decide) (fun a2 ha2 => sn_Re.cV (re_Tr_changeOver HI a2 ha2 x5 l2) (sn_Re.Z))
set_option maxHeartbeats 4000000 in
set_option maxRecDepth 100000 in
theorem re_Tr_get_135 {ρ kk : Nat → Nat} (HI : sn_HI ρ kk) (a : Nat) (ha : kk a ≠ 0) (l2 : Int64) (x5 : Int32) : sn_Re ρ kk (f_Tr_get_135 (ρ a) l2 x5) (f_Tr_get_135 a l2 x5) := sn_Re.nn (r := (some a)) (by decide) (fun a4 ha4 => sn_Re.cV (re_Tr_prohibit HI a4 ha4 x5 l2) (sn_Re.Z))
set_option maxHeartbeats 4000000 in
set_option maxRecDepth 100000 in
theorem re_Tr_get_26 {ρ kk : Nat → Nat} (HI : sn_HI ρ kk) (a : Nat) (ha : kk a ≠ 0) (l2 : Int64) (t0 : Int32) : sn_Re ρ kk (f_Tr_get_26 (ρ a) l2 t0) (f_Tr_get_26 a l2 t0) := sn_Re.cI (re_Ms_to HI l2) (fun v5 => sn_Re.ite Iff.rfl (sn_Re.gI (r := (some a)) (by decide) (fun v6 => sn_Re.pI HI (r := (some a)) (by decide) (sn_Re.cI (re_Ms_kind HI l2) (fun v7 => sn_Re.pI HI (r := (some a)) (by decide) (sn_Re.gI (r := (some a)) (by decide) (fun v8 => sn_Re.swC (re_Tr_get_108 HI a ha l2 t0) (sn_Re.swC (re_Tr_get_108 HI a ha l2 t0) (sn_Re.swC (sn_Re.nn (r := (some a)) (by decide) (fun a10 ha10 => sn_Re.cV (re_Tr_confirmBack HI a10 ha10 t0 l2) (sn_Re.Z))) (sn_Re.swC (sn_Re.nn (r := (some a)) (by decide) (fun a12 ha12 => sn_Re.cV (re_Tr_changeBack HI a12 ha12 t0 l2) (sn_Re.Z))) (sn_Re.swC (re_Tr_get_135 HI a ha l2 t0) (sn_Re.swC (re_Tr_get_135 HI a ha l2 t0) (sn_Re.swN (sn_Re.Z))))))))))))) (sn_Re.nn (r := (some a)) (by decide) (fun a14 ha14 => sn_Re.cV (re_Tr_passOn HI a14 ha14 t0 l2) (sn_Re.Z))))
set_option maxHeartbeats 4000000 in
set_option maxRecDepth 100000 in
theorem re_Tr_get {ρ kk : Nat → Nat} (HI : sn_HI ρ kk) (a : Nat) (ha : kk a ≠ 0) (x1 : Int32) (l2 : Int64) : sn_Re ρ kk (f_Tr_get (ρ a) x1 l2) (f_Tr_get a x1 l2) := sn_Re.nn (r := (some a)) (by decide) (fun a16 ha16 => sn_Re.cR (re_Tr_endOf HI a16 ha16 (x1 / (2 : Int32)) (x1 % (2 : Int32))) (fun v15 hv15 => sn_Re.ite sn_nnone (sn_Re.gI (r := v15) (by decide) (fun v17 => re_Tr_get_26 HI a ha l2 v17)) (re_Tr_get_26 HI a ha l2 (-1 : Int32))))
set_option maxHeartbeats 4000000 in
set_option maxRecDepth 100000 in
theorem re_Tr_send {ρ kk : Nat → Nat} (HI : sn_HI ρ kk) (a : Nat) (ha : kk a ≠ 0) (l1 : Int64) : sn_Re ρ kk (f_Tr_send (ρ a) l1) (f_Tr_send a l1) := sn_Re.cI (re_Ms_from HI l1) (fun v1 => sn_Re.cI (re_Ms_to HI l1) (fun v2 => sn_Re.cI (re_Ms_lane HI l1) (fun v3 => sn_Re.nn (r := (some a)) (by decide) (fun a5 ha5 => sn_Re.cR (re_Tr_wayTo HI a5 ha5 v1 v2 v3 (-1 : Int32)) (fun v4 hv4 => sn_Re.nn (r := (some a)) (by decide) (fun a7 ha7 => sn_Re.cV (re_Tr_give HI a7 ha7 v4 hv4 l1) (sn_Re.V)))))))
set_option maxHeartbeats 4000000 in
set_option maxRecDepth 100000 in
theorem re_Tr_runChangebackTimers_52 {ρ kk : Nat → Nat} (HI : sn_HI ρ kk) (a : Nat) (ha : kk a ≠ 0) (fk10 k10 : Int32 → Int32 → Int32 → sn_M) (hk10 : ∀ (x1 : Int32) (x2 : Int32) (x3 : Int32), sn_Re ρ kk (fk10 x1 x2 x3) (k10 x1 x2 x3)) (x1 : Int32) (x2 : Int32) (x3 : Int32) : sn_Re ρ kk (f_Tr_runChangebackTimers_52 fk10 (ρ a) x1 x2 x3) (f_Tr_runChangebackTimers_52 k10 a x1 x2 x3) := hk10 x1 x2 (x3 + (1 : Int32))
set_option maxHeartbeats 4000000 in
set_option maxRecDepth 100000 in
theorem re_Tr_runChangebackTimers_10 {ρ kk : Nat → Nat} (HI : sn_HI ρ kk) (a : Nat) (ha : kk a ≠ 0) (fk2 k2 : Int32 → Int32 → sn_M) (hk2 : ∀ (x1 : Int32) (x2 : Int32), sn_Re ρ kk (fk2 x1 x2) (k2 x1 x2)) : ∀ (n : Nat) (x1 : Int32) (x2 : Int32) (x3 : Int32), sn_Re ρ kk (f_Tr_runChangebackTimers_10 fk2 (ρ a) n x1 x2 x3) (f_Tr_runChangebackTimers_10 k2 a n x1 x2 x3)
  | 0, _, _, _ => sn_Re.z0
  | n + 1, x1, x2, x3 => sn_Re.ite Iff.rfl (hk2 x1 (x2 + (1 : Int32))) (sn_Re.nn (r := (some a)) (by decide) (fun a2 ha2 => sn_Re.cR (re_Tr_flowTo HI a2 ha2 x1 x2 x3) (fun v1 hv1 => sn_Re.ite sn_none (re_Tr_runChangebackTimers_52 HI a ha (f_Tr_runChangebackTimers_10 fk2 (ρ a) n) (f_Tr_runChangebackTimers_10 k2 a n) (re_Tr_runChangebackTimers_10 HI a ha fk2 k2 hk2 n) x1 x2 x3) (sn_Re.gR (r := (some a)) (by decide) (fun v3 hv3 => sn_Re.gI (r := v1) (by decide) (fun v4 => sn_Re.nn (r := v3) (by decide) (fun a6 ha6 => sn_Re.cI (re_Ck_isOut HI a6 ha6 v4) (fun v5 => sn_Re.ite Iff.rfl (re_Tr_runChangebackTimers_52 HI a ha (f_Tr_runChangebackTimers_10 fk2 (ρ a) n) (f_Tr_runChangebackTimers_10 k2 a n) (re_Tr_runChangebackTimers_10 HI a ha fk2 k2 hk2 n) x1 x2 x3) (sn_Re.nn (r := (some a)) (by decide) (fun a8 ha8 => sn_Re.cV (re_Tr_sendBack HI a8 ha8 v1 hv1 x1 x3) (re_Tr_runChangebackTimers_52 HI a ha (f_Tr_runChangebackTimers_10 fk2 (ρ a) n) (f_Tr_runChangebackTimers_10 k2 a n) (re_Tr_runChangebackTimers_10 HI a ha fk2 k2 hk2 n) x1 x2 x3)))))))))))
set_option maxHeartbeats 4000000 in
set_option maxRecDepth 100000 in
theorem re_Tr_runChangebackTimers_2 {ρ kk : Nat → Nat} (HI : sn_HI ρ kk) (a : Nat) (ha : kk a ≠ 0) : ∀ (n : Nat) (x1 : Int32) (x2 : Int32), sn_Re ρ kk (f_Tr_runChangebackTimers_2 (ρ a) n x1 x2) (f_Tr_runChangebackTimers_2 a n x1 x2)
  | 0, _, _ => sn_Re.z0
  | n + 1, x1, x2 => sn_Re.ite Iff.rfl (sn_Re.V) (re_Tr_runChangebackTimers_10 HI a ha (f_Tr_runChangebackTimers_2 (ρ a) n) (f_Tr_runChangebackTimers_2 a n) (re_Tr_runChangebackTimers_2 HI a ha n) sn_fuel x1 x2 (0 : Int32))
set_option maxHeartbeats 4000000 in
set_option maxRecDepth 100000 in
theorem re_Tr_runChangebackTimers {ρ kk : Nat → Nat} (HI : sn_HI ρ kk) (a : Nat) (ha : kk a ≠ 0) (x1 : Int32) : sn_Re ρ kk (f_Tr_runChangebackTimers (ρ a) x1) (f_Tr_runChangebackTimers a x1) := re_Tr_runChangebackTimers_2 HI a ha sn_fuel x1 (0 : Int32)
set_option maxHeartbeats 4000000 in
set_option maxRecDepth 100000 in
theorem re_Tr_runChangeoverTimers_54 {ρ kk : Nat → Nat} (HI : sn_HI ρ kk) (a : Nat) (ha : kk a ≠ 0) (fk2 k2 : Int32 → Int32 → sn_M) (hk2 : ∀ (x1 : Int32) (x2 : Int32), sn_Re ρ kk (fk2 x1 x2) (k2 x1 x2)) (x1 : Int32) (x2 : Int32) : sn_Re ρ kk (f_Tr_runChangeoverTimers_54 fk2 (ρ a) x1 x2) (f_Tr_runChangeoverTimers_54 k2 a x1 x2) := hk2 x1 (x2 + (1 : Int32))
set_option maxHeartbeats 4000000 in
set_option maxRecDepth 100000 in
theorem re_Tr_runChangeoverTimers_2 {ρ kk : Nat → Nat} (HI : sn_HI ρ kk) (a : Nat) (ha : kk a ≠ 0) : ∀ (n : Nat) (x1 : Int32) (x2 : Int32), sn_Re ρ kk (f_Tr_runChangeoverTimers_2 (ρ a) n x1 x2) (f_Tr_runChangeoverTimers_2 a n x1 x2)
  | 0, _, _ => sn_Re.z0
  | n + 1, x1, x2 => sn_Re.gR (r := (some a)) (by decide) (fun v1 hv1 => sn_Re.gI (r := v1) (by decide) (fun v2 => sn_Re.ite Iff.rfl (sn_Re.V) (sn_Re.gR (r := (some a)) (by decide) (fun v3 hv3 => sn_Re.aR (r := v3) (by decide) (fun v4 hv4 => sn_Re.ite sn_none (re_Tr_runChangeoverTimers_54 HI a ha (f_Tr_runChangeoverTimers_2 (ρ a) n) (f_Tr_runChangeoverTimers_2 a n) (re_Tr_runChangeoverTimers_2 HI a ha n) x1 x2) (sn_Re.gI (r := v4) (by decide) (fun v5 => sn_Re.ite Iff.rfl (re_Tr_runChangeoverTimers_54 HI a ha (f_Tr_runChangeoverTimers_2 (ρ a) n) (f_Tr_runChangeoverTimers_2 a n) (re_Tr_runChangeoverTimers_2 HI a ha n) x1 x2) (sn_Re.gR (r := (some a)) (by decide) (fun v6 hv6 => sn_Re.gI (r := v4) (by decide) (fun v7 => sn_Re.nn (r := v6) (by decide) (fun a9 ha9 => sn_Re.cI (re_Ck_isOut HI a9 ha9 v7) (fun v8 => sn_Re.ite Iff.rfl (re_Tr_runChangeoverTimers_54 HI a ha (f_Tr_runChangeoverTimers_2 (ρ a) n) (f_Tr_runChangeoverTimers_2 a n) (re_Tr_runChangeoverTimers_2 HI a ha n) x1 x2) (sn_Re.nn (r := (some a)) (by decide) (fun a11 ha11 => sn_Re.cV (re_Tr_endChangeover HI a11 ha11 v4 hv4 (-1 : Int32)) (re_Tr_runChangeoverTimers_54 HI a ha (f_Tr_runChangeoverTimers_2 (ρ a) n) (f_Tr_runChangeoverTimers_2 a n) (re_Tr_runChangeoverTimers_2 HI a ha n) x1 x2)))))))))))))))
set_option maxHeartbeats 4000000 in
set_option maxRecDepth 100000 in
theorem re_Tr_runChangeoverTimers {ρ kk : Nat → Nat} (HI : sn_HI ρ kk) (a : Nat) (ha : kk a ≠ 0) (x1 : Int32) : sn_Re ρ kk (f_Tr_runChangeoverTimers (ρ a) x1) (f_Tr_runChangeoverTimers a x1) := re_Tr_runChangeoverTimers_2 HI a ha sn_fuel x1 (0 : Int32)
set_option maxHeartbeats 4000000 in
set_option maxRecDepth 100000 in
theorem re_Tr_runEndTimers_96 {ρ kk : Nat → Nat} (HI : sn_HI ρ kk) (a : Nat) (ha : kk a ≠ 0) : sn_Re ρ kk (f_Tr_runEndTimers_96 (ρ a)) (f_Tr_runEndTimers_96 a) := sn_Re.V
set_option maxHeartbeats 4000000 in
set_option maxRecDepth 100000 in
theorem re_Tr_runEndTimers_74 {ρ kk : Nat → Nat} (HI : sn_HI ρ kk) (a : Nat) (ha : kk a ≠ 0) (r1 : Option Nat) (hr1 : sn_okr kk r1) : sn_Re ρ kk (f_Tr_runEndTimers_74 (ρ a) (r1.map ρ)) (f_Tr_runEndTimers_74 a r1) := sn_Re.gR (r := (some a)) (by decide) (fun v1 hv1 => sn_Re.gR (r := r1) (by decide) (fun v2 hv2 => sn_Re.gI (r := v2) (by decide) (fun v3 => sn_Re.nn (r := v1) (by decide) (fun a5 ha5 => sn_Re.cI (re_Ck_isOut HI a5 ha5 v3) (fun v4 => sn_Re.ite Iff.rfl (re_Tr_runEndTimers_96 HI a ha) (sn_Re.nn (r := (some a)) (by decide) (fun a7 ha7 => sn_Re.cV (re_Tr_fail HI a7 ha7 r1 hr1) (re_Tr_runEndTimers_96 HI a ha))))))))
set_option maxHeartbeats 4000000 in
set_option maxRecDepth 100000 in
theorem re_Tr_runEndTimers {ρ kk : Nat → Nat} (HI : sn_HI ρ kk) (a : Nat) (ha : kk a ≠ 0) (r1 : Option Nat) (hr1 : sn_okr kk r1) : sn_Re ρ kk (f_Tr_runEndTimers (ρ a) (r1.map ρ)) (f_Tr_runEndTimers a r1) := sn_Re.ite sn_nnone (sn_Re.gR (r := (some a)) (by decide) (fun v8 hv8 => sn_Re.gI (r := r1) (by decide) (fun v9 => sn_Re.nn (r := v8) (by decide) (fun a11 ha11 => sn_Re.cI (re_Ck_isOut HI a11 ha11 v9) (fun v10 => sn_Re.ite Iff.rfl (re_Tr_runEndTimers_74 HI a ha r1 hr1) (sn_Re.pI HI (r := r1) (by decide) (sn_Re.gI (r := r1) (by decide) (fun v12 => sn_Re.ite Iff.rfl (sn_Re.gI (r := r1) (by decide) (fun v13 => sn_Re.ite Iff.rfl (sn_Re.gR (r := (some a)) (by decide) (fun v14 hv14 => sn_Re.gR (r := v14) (by decide) (fun v15 hv15 => sn_Re.gI (r := r1) (by decide) (fun v16 => sn_Re.aI (r := v15) (by decide) (fun v17 => sn_Re.ite Iff.rfl (re_Tr_runEndTimers_74 HI a ha r1 hr1) (sn_Re.nn (r := (some a)) (by decide) (fun a19 ha19 => sn_Re.cV (re_Tr_start HI a19 ha19 r1 hr1) (re_Tr_runEndTimers_74 HI a ha r1 hr1)))))))) (sn_Re.nn (r := (some a)) (by decide) (fun a21 ha21 => sn_Re.cV (re_Tr_fail HI a21 ha21 r1 hr1) (re_Tr_runEndTimers_74 HI a ha r1 hr1))))) (sn_Re.nn (r := r1) (by decide) (fun a23 ha23 => sn_Re.cV (re_En_becomeReady HI a23 ha23) (re_Tr_runEndTimers_74 HI a ha r1 hr1))))))))))) (sn_Re.V)
set_option maxHeartbeats 4000000 in
set_option maxRecDepth 100000 in
theorem re_Tr_runTimers_33 {ρ kk : Nat → Nat} (HI : sn_HI ρ kk) (a : Nat) (ha : kk a ≠ 0) : ∀ (n : Nat) (x1 : Int32), sn_Re ρ kk (f_Tr_runTimers_33 (ρ a) n x1) (f_Tr_runTimers_33 a n x1)
  | 0, _ => sn_Re.z0
  | n + 1, x1 => sn_Re.ite Iff.rfl (sn_Re.V) (sn_Re.nn (r := (some a)) (by decide) (fun a2 ha2 => sn_Re.cV (re_Tr_runChangeoverTimers HI a2 ha2 x1) (sn_Re.nn (r := (some a)) (by decide) (fun a4 ha4 => sn_Re.cV (re_Tr_runChangebackTimers HI a4 ha4 x1) (re_Tr_runTimers_33 HI a ha n (x1 + (1 : Int32)))))))
set_option maxHeartbeats 4000000 in
set_option maxRecDepth 100000 in
theorem re_Tr_runTimers_2 {ρ kk : Nat → Nat} (HI : sn_HI ρ kk) (a : Nat) (ha : kk a ≠ 0) : ∀ (n : Nat) (x1 : Int32), sn_Re ρ kk (f_Tr_runTimers_2 (ρ a) n x1) (f_Tr_runTimers_2 a n x1)
  | 0, _ => sn_Re.z0
  | n + 1, x1 => sn_Re.gR (r := (some a)) (by decide) (fun v5 hv5 => sn_Re.gI (r := v5) (by decide) (fun v6 => sn_Re.ite Iff.rfl (re_Tr_runTimers_33 HI a ha sn_fuel (0 : Int32)) (sn_Re.gR (r := (some a)) (by decide) (fun v7 hv7 => sn_Re.aR (r := v7) (by decide) (fun v8 hv8 => sn_Re.nn (r := (some a)) (by decide) (fun a10 ha10 => sn_Re.cV (re_Tr_runEndTimers HI a10 ha10 v8 hv8) (re_Tr_runTimers_2 HI a ha n (x1 + (1 : Int32)))))))))
set_option maxHeartbeats 4000000 in
set_option maxRecDepth 100000 in
theorem re_Tr_runTimers {ρ kk : Nat → Nat} (HI : sn_HI ρ kk) (a : Nat) (ha : kk a ≠ 0) : sn_Re ρ kk (f_Tr_runTimers (ρ a)) (f_Tr_runTimers a) := re_Tr_runTimers_2 HI a ha sn_fuel (0 : Int32)
set_option maxHeartbeats 4000000 in
set_option maxRecDepth 100000 in
theorem re_Tr_sendUnits_33 {ρ kk : Nat → Nat} (HI : sn_HI ρ kk) (a : Nat) (ha : kk a ≠ 0) (fk2 k2 : Int32 → sn_M) (hk2 : ∀ (x1 : Int32), sn_Re ρ kk (fk2 x1) (k2 x1)) (x1 : Int32) : sn_Re ρ kk (f_Tr_sendUnits_33 fk2 (ρ a) x1) (f_Tr_sendUnits_33 k2 a x1) := hk2 (x1 + (1 : Int32))
set_option maxHeartbeats 4000000 in
set_option maxRecDepth 100000 in
theorem re_Tr_sendUnits_2 {ρ kk : Nat → Nat} (HI : sn_HI ρ kk) (a : Nat) (ha : kk a ≠ 0) : ∀ (n : Nat) (x1 : Int32), sn_Re ρ kk (f_Tr_sendUnits_2 (ρ a) n x1) (f_Tr_sendUnits_2 a n x1)
  | 0, _ => sn_Re.z0
  | n + 1, x1 => sn_Re.gR (r := (some a)) (by decide) (fun v1 hv1 => sn_Re.gI (r := v1) (by decide) (fun v2 => sn_Re.ite Iff.rfl (sn_Re.V) (sn_Re.gR (r := (some a)) (by decide) (fun v3 hv3 => sn_Re.aR (r := v3) (by decide) (fun v4 hv4 => sn_Re.ite sn_none (re_Tr_sendUnits_33 HI a ha (f_Tr_sendUnits_2 (ρ a) n) (f_Tr_sendUnits_2 a n) (re_Tr_sendUnits_2 HI a ha n) x1) (sn_Re.gR (r := (some a)) (by decide) (fun v5 hv5 => sn_Re.aR (r := v5) (by decide) (fun v6 hv6 => sn_Re.nn (r := v6) (by decide) (fun a8 ha8 => sn_Re.cV (re_En_sendUnit HI a8 ha8) (re_Tr_sendUnits_33 HI a ha (f_Tr_sendUnits_2 (ρ a) n) (f_Tr_sendUnits_2 a n) (re_Tr_sendUnits_2 HI a ha n) x1))))))))))
set_option maxHeartbeats 4000000 in
set_option maxRecDepth 100000 in
theorem re_Tr_sendUnits {ρ kk : Nat → Nat} (HI : sn_HI ρ kk) (a : Nat) (ha : kk a ≠ 0) : sn_Re ρ kk (f_Tr_sendUnits (ρ a)) (f_Tr_sendUnits a) := re_Tr_sendUnits_2 HI a ha sn_fuel (0 : Int32)
set_option maxHeartbeats 4000000 in
set_option maxRecDepth 100000 in
theorem re_Un_checkOf_48 {ρ kk : Nat → Nat} (HI : sn_HI ρ kk) (fk5 k5 : Option Nat → Int32 → Int32 → Int32 → sn_M) (hk5 : ∀ (r0 : Option Nat) (hr0 : sn_okr kk r0) (x1 : Int32) (x2 : Int32) (x3 : Int32), sn_Re ρ kk (fk5 (r0.map ρ) x1 x2 x3) (k5 r0 x1 x2 x3)) (r0 : Option Nat) (hr0 : sn_okr kk r0) (x1 : Int32) (x3 : Int32) (t0 : Int32) : sn_Re ρ kk (f_Un_checkOf_48 fk5 (r0.map ρ) x1 x3 t0) (f_Un_checkOf_48 k5 r0 x1 x3 t0) := hk5 r0 hr0 x1 t0 (x3 + (1 : Int32))
set_option maxHeartbeats 4000000 in
set_option maxRecDepth 100000 in
theorem re_Un_checkOf_5 {ρ kk : Nat → Nat} (HI : sn_HI ρ kk) : ∀ (n : Nat) (r0 : Option Nat) (hr0 : sn_okr kk r0) (x1 : Int32) (x2 : Int32) (x3 : Int32), sn_Re ρ kk (f_Un_checkOf_5 n (r0.map ρ) x1 x2 x3) (f_Un_checkOf_5 n r0 x1 x2 x3)
  | 0, _, _, _, _, _ => sn_Re.z0
  | n + 1, r0, hr0, x1, x2, x3 => sn_Re.ite Iff.rfl (sn_Re.I) (sn_Re.aI (r := r0) (by decide) (fun v1 => sn_Re.nI (fun n2 => sn_Re.ite Iff.rfl (re_Un_checkOf_48 HI (f_Un_checkOf_5 n) (f_Un_checkOf_5 n) (re_Un_checkOf_5 HI n) r0 hr0 x1 x3 ((x2 >>> ((1 : Int32) &&& 31)) ^^^ (33800 : Int32))) (re_Un_checkOf_48 HI (f_Un_checkOf_5 n) (f_Un_checkOf_5 n) (re_Un_checkOf_5 HI n) r0 hr0 x1 x3 (x2 >>> ((1 : Int32) &&& 31))))))
set_option maxHeartbeats 4000000 in
set_option maxRecDepth 100000 in
theorem re_Un_checkOf {ρ kk : Nat → Nat} (HI : sn_HI ρ kk) (r0 : Option Nat) (hr0 : sn_okr kk r0) (x1 : Int32) : sn_Re ρ kk (f_Un_checkOf (r0.map ρ) x1) (f_Un_checkOf r0 x1) := re_Un_checkOf_5 HI sn_fuel r0 hr0 x1 (65535 : Int32) (0 : Int32)
set_option maxHeartbeats 4000000 in
set_option maxRecDepth 100000 in
theorem re_Un_spellNumbered_101 {ρ kk : Nat → Nat} (HI : sn_HI ρ kk) (a : Nat) (ha : kk a ≠ 0) : ∀ (n : Nat) (r1 : Option Nat) (hr1 : sn_okr kk r1) (x2 : Int32) (x3 : Int32), sn_Re ρ kk (f_Un_spellNumbered_101 (ρ a) n (r1.map ρ) x2 x3) (f_Un_spellNumbered_101 a n r1 x2 x3)
  | 0, _, _, _, _ => sn_Re.z0
  | n + 1, r1, hr1, x2, x3 => sn_Re.ite Iff.rfl (sn_Re.gJ (r := (some a)) (by decide) (fun v1 => sn_Re.cI (re_Ms_first HI v1) (fun v2 => sn_Re.bI HI (r := r1) (by decide) (sn_Re.gJ (r := (some a)) (by decide) (fun v3 => sn_Re.cI (re_Ms_second HI v3) (fun v4 => sn_Re.bI HI (r := r1) (by decide) (sn_Re.gJ (r := (some a)) (by decide) (fun v5 => sn_Re.cI (re_Ms_hops HI v5) (fun v6 => sn_Re.bI HI (r := r1) (by decide) (sn_Re.I)))))))))) (sn_Re.bI HI (r := r1) (by decide) (re_Un_spellNumbered_101 HI a ha n r1 hr1 x2 (x3 + (1 : Int32))))
set_option maxHeartbeats 4000000 in
set_option maxRecDepth 100000 in
theorem re_Un_spellNumbered_48 {ρ kk : Nat → Nat} (HI : sn_HI ρ kk) (a : Nat) (ha : kk a ≠ 0) (r1 : Option Nat) (hr1 : sn_okr kk r1) (t0 : Option Nat) (ht0 : sn_okr kk t0) (t1 : Int32) (t2 : Int32) : sn_Re ρ kk (f_Un_spellNumbered_48 (ρ a) (r1.map ρ) (t0.map ρ) t1 t2) (f_Un_spellNumbered_48 a r1 t0 t1 t2) := sn_Re.bI HI (r := t0) (by decide) (sn_Re.gI (r := (some a)) (by decide) (fun v7 => sn_Re.ite Iff.rfl (sn_Re.gJ (r := (some a)) (by decide) (fun v8 => sn_Re.cI (re_Ms_to HI v8) (fun v9 => sn_Re.gJ (r := (some a)) (by decide) (fun v10 => sn_Re.cI (re_Ms_from HI v10) (fun v11 => sn_Re.gJ (r := (some a)) (by decide) (fun v12 => sn_Re.cI (re_Ms_lane HI v12) (fun v13 => sn_Re.nI (fun n14 => sn_Re.gJ (r := (some a)) (by decide) (fun v15 => sn_Re.cI (re_Ms_kind HI v15) (fun v16 => sn_Re.bI HI (r := r1) (by decide) (re_Un_spellNumbered_101 HI a ha sn_fuel r1 hr1 n14 (0 : Int32)))))))))))) (sn_Re.I)))
set_option maxHeartbeats 4000000 in
set_option maxRecDepth 100000 in
theorem re_Un_spellNumbered {ρ kk : Nat → Nat} (HI : sn_HI ρ kk) (a : Nat) (ha : kk a ≠ 0) (r1 : Option Nat) (hr1 : sn_okr kk r1) : sn_Re ρ kk (f_Un_spellNumbered (ρ a) (r1.map ρ)) (f_Un_spellNumbered a r1) := sn_Re.gI (r := (some a)) (by decide) (fun v17 => sn_Re.gI (r := (some a)) (by decide) (fun v18 => sn_Re.bI HI (r := r1) (by decide) (sn_Re.gI (r := (some a)) (by decide) (fun v19 => sn_Re.gI (r := (some a)) (by decide) (fun v20 => sn_Re.bI HI (r := r1) (by decide) (sn_Re.gI (r := (some a)) (by decide) (fun v21 => sn_Re.ite Iff.rfl (re_Un_spellNumbered_48 HI a ha r1 hr1 r1 hr1 (2 : Int32) (0 : Int32)) (re_Un_spellNumbered_48 HI a ha r1 hr1 r1 hr1 (2 : Int32) (8 : Int32)))))))))
set_option maxHeartbeats 4000000 in
set_option maxRecDepth 100000 in
theorem re_Un_spellState_44 {ρ kk : Nat → Nat} (HI : sn_HI ρ kk) (a : Nat) (ha : kk a ≠ 0) (t0 : Option Nat) (ht0 : sn_okr kk t0) (t1 : Int32) (t2 : Int32) : sn_Re ρ kk (f_Un_spellState_44 (ρ a) (t0.map ρ) t1 t2) (f_Un_spellState_44 a t0 t1 t2) := sn_Re.bI HI (r := t0) (by decide) (sn_Re.I)
set_option maxHeartbeats 4000000 in
set_option maxRecDepth 100000 in
theorem re_Un_spellState {ρ kk : Nat → Nat} (HI : sn_HI ρ kk) (a : Nat) (ha : kk a ≠ 0) (r1 : Option Nat) (hr1 : sn_okr kk r1) : sn_Re ρ kk (f_Un_spellState (ρ a) (r1.map ρ)) (f_Un_spellState a r1) := sn_Re.bI HI (r := r1) (by decide) (sn_Re.bI HI (r := r1) (by decide) (sn_Re.bI HI (r := r1) (by decide) (sn_Re.gI (r := (some a)) (by decide) (fun v1 => sn_Re.ite Iff.rfl (sn_Re.gI (r := (some a)) (by decide) (fun v2 => re_Un_spellState_44 HI a ha r1 hr1 (3 : Int32) v2)) (sn_Re.gI (r := (some a)) (by decide) (fun v3 => sn_Re.gI (r := (some a)) (by decide) (fun v4 => re_Un_spellState_44 HI a ha r1 hr1 (3 : Int32) (v3 + ((4 : Int32) * v4)))))))))
set_option maxHeartbeats 4000000 in
set_option maxRecDepth 100000 in
theorem re_Un_spell_21 {ρ kk : Nat → Nat} (HI : sn_HI ρ kk) (a : Nat) (ha : kk a ≠ 0) (r1 : Option Nat) (hr1 : sn_okr kk r1) (t0 : Int32) : sn_Re ρ kk (f_Un_spell_21 (ρ a) (r1.map ρ) t0) (f_Un_spell_21 a r1 t0) := sn_Re.cI (re_Un_checkOf HI r1 hr1 t0) (fun v1 => sn_Re.bI HI (r := r1) (by decide) (sn_Re.bI HI (r := r1) (by decide) (sn_Re.I)))
set_option maxHeartbeats 4000000 in
set_option maxRecDepth 100000 in
theorem re_Un_spell {ρ kk : Nat → Nat} (HI : sn_HI ρ kk) (a : Nat) (ha : kk a ≠ 0) (r1 : Option Nat) (hr1 : sn_okr kk r1) : sn_Re ρ kk (f_Un_spell (ρ a) (r1.map ρ)) (f_Un_spell a r1) := sn_Re.gI (r := (some a)) (by decide) (fun v2 => sn_Re.ite Iff.rfl (sn_Re.nn (r := (some a)) (by decide) (fun a4 ha4 => sn_Re.cI (re_Un_spellNumbered HI a4 ha4 r1 hr1) (fun v3 => re_Un_spell_21 HI a ha r1 hr1 v3))) (sn_Re.nn (r := (some a)) (by decide) (fun a6 ha6 => sn_Re.cI (re_Un_spellState HI a6 ha6 r1 hr1) (fun v5 => re_Un_spell_21 HI a ha r1 hr1 v5))))
set_option maxHeartbeats 4000000 in
set_option maxRecDepth 100000 in
theorem re_Un_bitsOnLine_56 {ρ kk : Nat → Nat} (HI : sn_HI ρ kk) (fk10 k10 : Option Nat → Int32 → Int32 → Int32 → Int32 → sn_M) (hk10 : ∀ (r0 : Option Nat) (hr0 : sn_okr kk r0) (x1 : Int32) (x2 : Int32) (x3 : Int32) (x4 : Int32), sn_Re ρ kk (fk10 (r0.map ρ) x1 x2 x3 x4) (k10 r0 x1 x2 x3 x4)) (r0 : Option Nat) (hr0 : sn_okr kk r0) (x1 : Int32) (x2 : Int32) (x3 : Int32) (x4 : Int32) : sn_Re ρ kk (f_Un_bitsOnLine_56 fk10 (r0.map ρ) x1 x2 x3 x4) (f_Un_bitsOnLine_56 k10 r0 x1 x2 x3 x4) := hk10 r0 hr0 x1 x2 x3 (x4 + (1 : Int32))
set_option maxHeartbeats 4000000 in
set_option maxRecDepth 100000 in
theorem re_Un_bitsOnLine_45 {ρ kk : Nat → Nat} (HI : sn_HI ρ kk) (fk10 k10 : Option Nat → Int32 → Int32 → Int32 → Int32 → sn_M) (hk10 : ∀ (r0 : Option Nat) (hr0 : sn_okr kk r0) (x1 : Int32) (x2 : Int32) (x3 : Int32) (x4 : Int32), sn_Re ρ kk (fk10 (r0.map ρ) x1 x2 x3 x4) (k10 r0 x1 x2 x3 x4)) (r0 : Option Nat) (hr0 : sn_okr kk r0) (x1 : Int32) (x2 : Int32) (x4 : Int32) (t0 : Int32) : sn_Re ρ kk (f_Un_bitsOnLine_45 fk10 (r0.map ρ) x1 x2 x4 t0) (f_Un_bitsOnLine_45 k10 r0 x1 x2 x4 t0) := sn_Re.ite Iff.rfl (re_Un_bitsOnLine_56 HI fk10 k10 hk10 r0 hr0 x1 x2 t0 x4) (re_Un_bitsOnLine_56 HI fk10 k10 hk10 r0 hr0 x1 (x2 + (1 : Int32)) (0 : Int32) x4)
set_option maxHeartbeats 4000000 in
set_option maxRecDepth 100000 in
theorem re_Un_bitsOnLine_10 {ρ kk : Nat → Nat} (HI : sn_HI ρ kk) : ∀ (n : Nat) (r0 : Option Nat) (hr0 : sn_okr kk r0) (x1 : Int32) (x2 : Int32) (x3 : Int32) (x4 : Int32), sn_Re ρ kk (f_Un_bitsOnLine_10 n (r0.map ρ) x1 x2 x3 x4) (f_Un_bitsOnLine_10 n r0 x1 x2 x3 x4)
  | 0, _, _, _, _, _, _ => sn_Re.z0
  | n + 1, r0, hr0, x1, x2, x3, x4 => sn_Re.ite Iff.rfl (sn_Re.I) (sn_Re.aI (r := r0) (by decide) (fun v1 => sn_Re.ite Iff.rfl (re_Un_bitsOnLine_45 HI (f_Un_bitsOnLine_10 n) (f_Un_bitsOnLine_10 n) (re_Un_bitsOnLine_10 HI n) r0 hr0 x1 x2 x4 (0 : Int32)) (re_Un_bitsOnLine_45 HI (f_Un_bitsOnLine_10 n) (f_Un_bitsOnLine_10 n) (re_Un_bitsOnLine_10 HI n) r0 hr0 x1 x2 x4 (x3 + (1 : Int32)))))
set_option maxHeartbeats 4000000 in
set_option maxRecDepth 100000 in
theorem re_Un_bitsOnLine {ρ kk : Nat → Nat} (HI : sn_HI ρ kk) (r0 : Option Nat) (hr0 : sn_okr kk r0) (x1 : Int32) : sn_Re ρ kk (f_Un_bitsOnLine (r0.map ρ) x1) (f_Un_bitsOnLine r0 x1) := sn_Re.nI (fun n2 => re_Un_bitsOnLine_10 HI sn_fuel r0 hr0 x1 n2 (0 : Int32) (0 : Int32))
set_option maxHeartbeats 4000000 in
set_option maxRecDepth 100000 in
theorem re_Sn_route {ρ kk : Nat → Nat} (HI : sn_HI ρ kk) (a : Nat) (ha : kk a ≠ 0) (x1 : Int32) (x2 : Int32) (x3 : Int32) (x4 : Int32) : sn_Re ρ kk (f_Sn_route (ρ a) x1 x2 x3 x4) (f_Sn_route a x1 x2 x3 x4) := sn_Re.gR (r := (some a)) (by decide) (fun v1 hv1 => sn_Re.nn (r := v1) (by decide) (fun a3 ha3 => sn_Re.cI (re_Pl_tell HI a3 ha3 x1 x2 x3 x4) (fun v2 => sn_Re.ite Iff.rfl (sn_Re.gR (r := (some a)) (by decide) (fun v4 hv4 => sn_Re.nn (r := v4) (by decide) (fun a6 ha6 => sn_Re.cV (re_Tr_look HI a6 ha6 x1) (sn_Re.Z)))) (sn_Re.Z))))
set_option maxHeartbeats 4000000 in
set_option maxRecDepth 100000 in
theorem re_Sn_activate_24 {ρ kk : Nat → Nat} (HI : sn_HI ρ kk) (a : Nat) (ha : kk a ≠ 0) : sn_Re ρ kk (f_Sn_activate_24 (ρ a)) (f_Sn_activate_24 a) := sn_Re.Z
set_option maxHeartbeats 4000000 in
set_option maxRecDepth 100000 in
theorem re_Sn_activate {ρ kk : Nat → Nat} (HI : sn_HI ρ kk) (a : Nat) (ha : kk a ≠ 0) (x1 : Int32) (x2 : Int32) : sn_Re ρ kk (f_Sn_activate (ρ a) x1 x2) (f_Sn_activate a x1 x2) := sn_Re.gR (r := (some a)) (by decide) (fun v1 hv1 => sn_Re.nn (r := v1) (by decide) (fun a3 ha3 => sn_Re.cI (re_Pl_isLink HI a3 ha3 x1) (fun v2 => sn_Re.ite Iff.rfl (re_Sn_activate_24 HI a ha) (sn_Re.gR (r := (some a)) (by decide) (fun v4 hv4 => sn_Re.gR (r := v4) (by decide) (fun v5 hv5 => sn_Re.aI (r := v5) (by decide) (fun v6 => sn_Re.ite Iff.rfl (sn_Re.gR (r := (some a)) (by decide) (fun v7 hv7 => sn_Re.gR (r := v7) (by decide) (fun v8 hv8 => sn_Re.bZ HI (r := v8) (by decide) (sn_Re.gR (r := (some a)) (by decide) (fun v9 hv9 => sn_Re.nn (r := v9) (by decide) (fun a11 ha11 => sn_Re.cV (re_Tr_switchEnds HI a11 ha11 x1 x2) (sn_Re.Z))))))) (re_Sn_activate_24 HI a ha))))))))
set_option maxHeartbeats 4000000 in
set_option maxRecDepth 100000 in
theorem re_Sn_cut {ρ kk : Nat → Nat} (HI : sn_HI ρ kk) (a : Nat) (ha : kk a ≠ 0) (x1 : Int32) (x2 : Int32) : sn_Re ρ kk (f_Sn_cut (ρ a) x1 x2) (f_Sn_cut a x1 x2) := sn_Re.gR (r := (some a)) (by decide) (fun v1 hv1 => sn_Re.nn (r := v1) (by decide) (fun a3 ha3 => sn_Re.cI (re_Pl_isLink HI a3 ha3 x1) (fun v2 => sn_Re.ite Iff.rfl (sn_Re.gR (r := (some a)) (by decide) (fun v4 hv4 => sn_Re.gR (r := v4) (by decide) (fun v5 hv5 => sn_Re.bZ HI (r := v5) (by decide) (sn_Re.Z)))) (sn_Re.Z))))
set_option maxHeartbeats 4000000 in
set_option maxRecDepth 100000 in
theorem re_Sn_damage_26 {ρ kk : Nat → Nat} (HI : sn_HI ρ kk) (a : Nat) (ha : kk a ≠ 0) : sn_Re ρ kk (f_Sn_damage_26 (ρ a)) (f_Sn_damage_26 a) := sn_Re.Z
set_option maxHeartbeats 4000000 in
set_option maxRecDepth 100000 in
theorem re_Sn_damage {ρ kk : Nat → Nat} (HI : sn_HI ρ kk) (a : Nat) (ha : kk a ≠ 0) (x1 : Int32) (x2 : Int32) (x3 : Int32) : sn_Re ρ kk (f_Sn_damage (ρ a) x1 x2 x3) (f_Sn_damage a x1 x2 x3) := sn_Re.gR (r := (some a)) (by decide) (fun v1 hv1 => sn_Re.nn (r := v1) (by decide) (fun a3 ha3 => sn_Re.cR (re_Tr_endOf HI a3 ha3 x1 x2) (fun v2 hv2 => sn_Re.ite sn_none (re_Sn_damage_26 HI a ha) (sn_Re.ite Iff.rfl (re_Sn_damage_26 HI a ha) (sn_Re.ite Iff.rfl (sn_Re.pI HI (r := v2) (by decide) (sn_Re.Z)) (re_Sn_damage_26 HI a ha))))))
set_option maxHeartbeats 4000000 in
set_option maxRecDepth 100000 in
theorem re_Sn_sendPosted_11 {ρ kk : Nat → Nat} (HI : sn_HI ρ kk) (a : Nat) (ha : kk a ≠ 0) : ∀ (n : Nat) (x1 : Int32), sn_Re ρ kk (f_Sn_sendPosted_11 (ρ a) n x1) (f_Sn_sendPosted_11 a n x1)
  | 0, _ => sn_Re.z0
  | n + 1, x1 => sn_Re.ite Iff.rfl (sn_Re.V) (sn_Re.gR (r := (some a)) (by decide) (fun v1 hv1 => sn_Re.gR (r := (some a)) (by decide) (fun v2 hv2 => sn_Re.gR (r := v2) (by decide) (fun v3 hv3 => sn_Re.nn (r := v3) (by decide) (fun a5 ha5 => sn_Re.cJ (re_Qu_takeFirst HI a5 ha5) (fun v4 => sn_Re.nn (r := v1) (by decide) (fun a7 ha7 => sn_Re.cV (re_Tr_send HI a7 ha7 v4) (re_Sn_sendPosted_11 HI a ha n (x1 + (-1 : Int32))))))))))
set_option maxHeartbeats 4000000 in
set_option maxRecDepth 100000 in
theorem re_Sn_sendPosted {ρ kk : Nat → Nat} (HI : sn_HI ρ kk) (a : Nat) (ha : kk a ≠ 0) : sn_Re ρ kk (f_Sn_sendPosted (ρ a)) (f_Sn_sendPosted a) := sn_Re.gR (r := (some a)) (by decide) (fun v8 hv8 => sn_Re.gR (r := v8) (by decide) (fun v9 hv9 => sn_Re.gI (r := v9) (by decide) (fun v10 => re_Sn_sendPosted_11 HI a ha sn_fuel v10)))
set_option maxHeartbeats 4000000 in
set_option maxRecDepth 100000 in
theorem re_Sn_runCircuitTimers_28 {ρ kk : Nat → Nat} (HI : sn_HI ρ kk) (a : Nat) (ha : kk a ≠ 0) (fk2 k2 : Int32 → sn_M) (hk2 : ∀ (x1 : Int32), sn_Re ρ kk (fk2 x1) (k2 x1)) (x1 : Int32) : sn_Re ρ kk (f_Sn_runCircuitTimers_28 fk2 (ρ a) x1) (f_Sn_runCircuitTimers_28 k2 a x1) := hk2 (x1 + (1 : Int32))
set_option maxHeartbeats 4000000 in
set_option maxRecDepth 100000 in
theorem re_Sn_runCircuitTimers_2 {ρ kk : Nat → Nat} (HI : sn_HI ρ kk) (a : Nat) (ha : kk a ≠ 0) : ∀ (n : Nat) (x1 : Int32), sn_Re ρ kk (f_Sn_runCircuitTimers_2 (ρ a) n x1) (f_Sn_runCircuitTimers_2 a n x1)
  | 0, _ => sn_Re.z0
  | n + 1, x1 => sn_Re.gR (r := (some a)) (by decide) (fun v1 hv1 => sn_Re.nn (r := v1) (by decide) (fun a3 ha3 => sn_Re.cI (re_Sw_circuitPlaces HI a3 ha3) (fun v2 => sn_Re.ite Iff.rfl (sn_Re.V) (sn_Re.gR (r := (some a)) (by decide) (fun v4 hv4 => sn_Re.nn (r := v4) (by decide) (fun a6 ha6 => sn_Re.cI (re_Sw_runTimers HI a6 ha6 x1) (fun v5 => sn_Re.ite Iff.rfl (re_Sn_runCircuitTimers_28 HI a ha (f_Sn_runCircuitTimers_2 (ρ a) n) (f_Sn_runCircuitTimers_2 a n) (re_Sn_runCircuitTimers_2 HI a ha n) x1) (sn_Re.nn (r := (some a)) (by decide) (fun a8 ha8 => sn_Re.cV (re_Sn_sendPosted HI a8 ha8) (re_Sn_runCircuitTimers_28 HI a ha (f_Sn_runCircuitTimers_2 (ρ a) n) (f_Sn_runCircuitTimers_2 a n) (re_Sn_runCircuitTimers_2 HI a ha n) x1))))))))))
set_option maxHeartbeats 4000000 in
set_option maxRecDepth 100000 in
theorem re_Sn_runCircuitTimers {ρ kk : Nat → Nat} (HI : sn_HI ρ kk) (a : Nat) (ha : kk a ≠ 0) : sn_Re ρ kk (f_Sn_runCircuitTimers (ρ a)) (f_Sn_runCircuitTimers a) := re_Sn_runCircuitTimers_2 HI a ha sn_fuel (0 : Int32)
set_option maxHeartbeats 4000000 in
set_option maxRecDepth 100000 in
theorem re_Sn_tick_11 {ρ kk : Nat → Nat} (HI : sn_HI ρ kk) (a : Nat) (ha : kk a ≠ 0) : sn_Re ρ kk (f_Sn_tick_11 (ρ a)) (f_Sn_tick_11 a) := sn_Re.I
set_option maxHeartbeats 4000000 in
set_option maxRecDepth 100000 in
theorem re_Sn_tick_78 {ρ kk : Nat → Nat} (HI : sn_HI ρ kk) (a : Nat) (ha : kk a ≠ 0) (fk22 k22 : Int32 → Int32 → Int32 → sn_M) (hk22 : ∀ (x1 : Int32) (x2 : Int32) (x3 : Int32), sn_Re ρ kk (fk22 x1 x2 x3) (k22 x1 x2 x3)) (x1 : Int32) (x2 : Int32) (x3 : Int32) : sn_Re ρ kk (f_Sn_tick_78 fk22 (ρ a) x1 x2 x3) (f_Sn_tick_78 k22 a x1 x2 x3) := hk22 x1 x2 (x3 + (1 : Int32))
set_option maxHeartbeats 4000000 in
set_option maxRecDepth 100000 in
theorem re_Sn_tick_22 {ρ kk : Nat → Nat} (HI : sn_HI ρ kk) (a : Nat) (ha : kk a ≠ 0) (fk15 k15 : Int32 → Int32 → sn_M) (hk15 : ∀ (x1 : Int32) (x2 : Int32), sn_Re ρ kk (fk15 x1 x2) (k15 x1 x2)) : ∀ (n : Nat) (x1 : Int32) (x2 : Int32) (x3 : Int32), sn_Re ρ kk (f_Sn_tick_22 fk15 (ρ a) n x1 x2 x3) (f_Sn_tick_22 k15 a n x1 x2 x3)
  | 0, _, _, _ => sn_Re.z0
  | n + 1, x1, x2, x3 => sn_Re.gR (r := (some a)) (by decide) (fun v1 hv1 => sn_Re.gI (r := v1) (by decide) (fun v2 => sn_Re.ite Iff.rfl (sn_Re.gR (r := (some a)) (by decide) (fun v3 hv3 => sn_Re.nn (r := v3) (by decide) (fun a5 ha5 => sn_Re.cV (re_Ck_beginLooking HI a5 ha5) (sn_Re.gR (r := (some a)) (by decide) (fun v6 hv6 => sn_Re.nn (r := v6) (by decide) (fun a8 ha8 => sn_Re.cV (re_Tr_runTimers HI a8 ha8) (sn_Re.nn (r := (some a)) (by decide) (fun a10 ha10 => sn_Re.cV (re_Sn_runCircuitTimers HI a10 ha10) (sn_Re.gR (r := (some a)) (by decide) (fun v11 hv11 => sn_Re.nn (r := v11) (by decide) (fun a13 ha13 => sn_Re.cV (re_Tr_sendUnits HI a13 ha13) (hk15 x1 (x2 + (1 : Int32)))))))))))))) (sn_Re.gR (r := (some a)) (by decide) (fun v14 hv14 => sn_Re.nn (r := v14) (by decide) (fun a16 ha16 => sn_Re.cJ (re_Tr_receive HI a16 ha16 x3) (fun v15 => sn_Re.ite Iff.rfl (re_Sn_tick_78 HI a ha (f_Sn_tick_22 fk15 (ρ a) n) (f_Sn_tick_22 k15 a n) (re_Sn_tick_22 HI a ha fk15 k15 hk15 n) x1 x2 x3) (sn_Re.gR (r := (some a)) (by decide) (fun v17 hv17 => sn_Re.nn (r := v17) (by decide) (fun a19 ha19 => sn_Re.cI (re_Tr_get HI a19 ha19 x3 v15) (fun v18 => sn_Re.ite Iff.rfl (re_Sn_tick_78 HI a ha (f_Sn_tick_22 fk15 (ρ a) n) (f_Sn_tick_22 k15 a n) (re_Sn_tick_22 HI a ha fk15 k15 hk15 n) x1 x2 x3) (sn_Re.gR (r := (some a)) (by decide) (fun v20 hv20 => sn_Re.nn (r := v20) (by decide) (fun a22 ha22 => sn_Re.cV (re_Sw_get HI a22 ha22 v15) (sn_Re.nn (r := (some a)) (by decide) (fun a24 ha24 => sn_Re.cV (re_Sn_sendPosted HI a24 ha24) (re_Sn_tick_78 HI a ha (f_Sn_tick_22 fk15 (ρ a) n) (f_Sn_tick_22 k15 a n) (re_Sn_tick_22 HI a ha fk15 k15 hk15 n) x1 x2 x3))))))))))))))))
set_option maxHeartbeats 4000000 in
set_option maxRecDepth 100000 in
theorem re_Sn_tick_15 {ρ kk : Nat → Nat} (HI : sn_HI ρ kk) (a : Nat) (ha : kk a ≠ 0) : ∀ (n : Nat) (x1 : Int32) (x2 : Int32), sn_Re ρ kk (f_Sn_tick_15 (ρ a) n x1 x2) (f_Sn_tick_15 a n x1 x2)
  | 0, _, _ => sn_Re.z0
  | n + 1, x1, x2 => sn_Re.ite Iff.rfl (sn_Re.gR (r := (some a)) (by decide) (fun v25 hv25 => sn_Re.gI (r := v25) (by decide) (fun v26 => sn_Re.I))) (re_Sn_tick_22 HI a ha (f_Sn_tick_15 (ρ a) n) (f_Sn_tick_15 a n) (re_Sn_tick_15 HI a ha n) sn_fuel x1 x2 (0 : Int32))
set_option maxHeartbeats 4000000 in
set_option maxRecDepth 100000 in
theorem re_Sn_tick {ρ kk : Nat → Nat} (HI : sn_HI ρ kk) (a : Nat) (ha : kk a ≠ 0) (x1 : Int32) : sn_Re ρ kk (f_Sn_tick (ρ a) x1) (f_Sn_tick a x1) := sn_Re.ite Iff.rfl (re_Sn_tick_11 HI a ha) (sn_Re.ite Iff.rfl (re_Sn_tick_15 HI a ha sn_fuel x1 (0 : Int32)) (re_Sn_tick_11 HI a ha))
set_option maxHeartbeats 4000000 in
set_option maxRecDepth 100000 in
theorem re_Sn_dial {ρ kk : Nat → Nat} (HI : sn_HI ρ kk) (a : Nat) (ha : kk a ≠ 0) (x1 : Int32) (x2 : Int32) : sn_Re ρ kk (f_Sn_dial (ρ a) x1 x2) (f_Sn_dial a x1 x2) := sn_Re.gR (r := (some a)) (by decide) (fun v1 hv1 => sn_Re.nn (r := v1) (by decide) (fun a3 ha3 => sn_Re.cI (re_Sw_call HI a3 ha3 x1 x2) (fun v2 => sn_Re.nn (r := (some a)) (by decide) (fun a5 ha5 => sn_Re.cV (re_Sn_sendPosted HI a5 ha5) (sn_Re.Z)))))
set_option maxHeartbeats 4000000 in
set_option maxRecDepth 100000 in
theorem re_Sn_answer {ρ kk : Nat → Nat} (HI : sn_HI ρ kk) (a : Nat) (ha : kk a ≠ 0) (x1 : Int32) : sn_Re ρ kk (f_Sn_answer (ρ a) x1) (f_Sn_answer a x1) := sn_Re.gR (r := (some a)) (by decide) (fun v1 hv1 => sn_Re.nn (r := v1) (by decide) (fun a3 ha3 => sn_Re.cI (re_Sw_pickUp HI a3 ha3 x1) (fun v2 => sn_Re.nn (r := (some a)) (by decide) (fun a5 ha5 => sn_Re.cV (re_Sn_sendPosted HI a5 ha5) (sn_Re.Z)))))
set_option maxHeartbeats 4000000 in
set_option maxRecDepth 100000 in
theorem re_Sn_hang {ρ kk : Nat → Nat} (HI : sn_HI ρ kk) (a : Nat) (ha : kk a ≠ 0) (x1 : Int32) : sn_Re ρ kk (f_Sn_hang (ρ a) x1) (f_Sn_hang a x1) := sn_Re.gR (r := (some a)) (by decide) (fun v1 hv1 => sn_Re.nn (r := v1) (by decide) (fun a3 ha3 => sn_Re.cI (re_Sw_putDown HI a3 ha3 x1) (fun v2 => sn_Re.nn (r := (some a)) (by decide) (fun a5 ha5 => sn_Re.cV (re_Sn_sendPosted HI a5 ha5) (sn_Re.Z)))))
set_option maxHeartbeats 4000000 in
set_option maxRecDepth 100000 in
theorem re_Sn_block {ρ kk : Nat → Nat} (HI : sn_HI ρ kk) (a : Nat) (ha : kk a ≠ 0) (x1 : Int32) (x2 : Int32) (x3 : Int32) (x4 : Int32) : sn_Re ρ kk (f_Sn_block (ρ a) x1 x2 x3 x4) (f_Sn_block a x1 x2 x3 x4) := sn_Re.gR (r := (some a)) (by decide) (fun v1 hv1 => sn_Re.nn (r := v1) (by decide) (fun a3 ha3 => sn_Re.cI (re_Sw_setBlocked HI a3 ha3 x1 x2 x3 x4) (fun v2 => sn_Re.nn (r := (some a)) (by decide) (fun a5 ha5 => sn_Re.cV (re_Sn_sendPosted HI a5 ha5) (sn_Re.Z)))))
set_option maxHeartbeats 4000000 in
set_option maxRecDepth 100000 in
theorem re_Sn_end_26 {ρ kk : Nat → Nat} (HI : sn_HI ρ kk) (a : Nat) (ha : kk a ≠ 0) (t0 : Int32) : sn_Re ρ kk (f_Sn_end_26 (ρ a) t0) (f_Sn_end_26 a t0) := sn_Re.I
set_option maxHeartbeats 4000000 in
set_option maxRecDepth 100000 in
theorem re_Sn_end {ρ kk : Nat → Nat} (HI : sn_HI ρ kk) (a : Nat) (ha : kk a ≠ 0) (x1 : Int32) (x2 : Int32) (x3 : Int32) : sn_Re ρ kk (f_Sn_end (ρ a) x1 x2 x3) (f_Sn_end a x1 x2 x3) := sn_Re.gR (r := (some a)) (by decide) (fun v1 hv1 => sn_Re.nn (r := v1) (by decide) (fun a3 ha3 => sn_Re.cR (re_Tr_endOf HI a3 ha3 x1 x2) (fun v2 hv2 => sn_Re.ite sn_nnone (sn_Re.nn (r := v2) (by decide) (fun a5 ha5 => sn_Re.cI (re_En_tell HI a5 ha5 x3) (fun v4 => re_Sn_end_26 HI a ha v4))) (re_Sn_end_26 HI a ha (-1 : Int32)))))
set_option maxHeartbeats 4000000 in
set_option maxRecDepth 100000 in
theorem re_Sn_spellLatest_36 {ρ kk : Nat → Nat} (HI : sn_HI ρ kk) (a : Nat) (ha : kk a ≠ 0) (t0 : Int32) : sn_Re ρ kk (f_Sn_spellLatest_36 (ρ a) t0) (f_Sn_spellLatest_36 a t0) := sn_Re.I
set_option maxHeartbeats 4000000 in
set_option maxRecDepth 100000 in
theorem re_Sn_spellLatest_21 {ρ kk : Nat → Nat} (HI : sn_HI ρ kk) (a : Nat) (ha : kk a ≠ 0) : sn_Re ρ kk (f_Sn_spellLatest_21 (ρ a)) (f_Sn_spellLatest_21 a) := re_Sn_spellLatest_36 HI a ha (0 : Int32)
set_option maxHeartbeats 4000000 in
set_option maxRecDepth 100000 in
theorem re_Sn_spellLatest {ρ kk : Nat → Nat} (HI : sn_HI ρ kk) (a : Nat) (ha : kk a ≠ 0) (x1 : Int32) (x2 : Int32) : sn_Re ρ kk (f_Sn_spellLatest (ρ a) x1 x2) (f_Sn_spellLatest a x1 x2) := sn_Re.gR (r := (some a)) (by decide) (fun v1 hv1 => sn_Re.nn (r := v1) (by decide) (fun a3 ha3 => sn_Re.cR (re_Tr_endOf HI a3 ha3 x1 x2) (fun v2 hv2 => sn_Re.ite sn_none (re_Sn_spellLatest_21 HI a ha) (sn_Re.gI (r := v2) (by decide) (fun v4 => sn_Re.ite Iff.rfl (sn_Re.gR (r := v2) (by decide) (fun v5 hv5 => sn_Re.gR (r := (some a)) (by decide) (fun v6 hv6 => sn_Re.nn (r := v5) (by decide) (fun a8 ha8 => sn_Re.cI (re_Un_spell HI a8 ha8 v6 hv6) (fun v7 => re_Sn_spellLatest_36 HI a ha v7))))) (re_Sn_spellLatest_21 HI a ha))))))
set_option maxHeartbeats 4000000 in
set_option maxRecDepth 100000 in
theorem re_Sn_octet_28 {ρ kk : Nat → Nat} (HI : sn_HI ρ kk) (a : Nat) (ha : kk a ≠ 0) (t0 : Int32) : sn_Re ρ kk (f_Sn_octet_28 (ρ a) t0) (f_Sn_octet_28 a t0) := sn_Re.I
set_option maxHeartbeats 4000000 in
set_option maxRecDepth 100000 in
theorem re_Sn_octet_18 {ρ kk : Nat → Nat} (HI : sn_HI ρ kk) (a : Nat) (ha : kk a ≠ 0) : sn_Re ρ kk (f_Sn_octet_18 (ρ a)) (f_Sn_octet_18 a) := re_Sn_octet_28 HI a ha (-1 : Int32)
set_option maxHeartbeats 4000000 in
set_option maxRecDepth 100000 in
theorem re_Sn_octet {ρ kk : Nat → Nat} (HI : sn_HI ρ kk) (a : Nat) (ha : kk a ≠ 0) (x1 : Int32) (x2 : Int32) (x3 : Int32) : sn_Re ρ kk (f_Sn_octet (ρ a) x1 x2 x3) (f_Sn_octet a x1 x2 x3) := sn_Re.nn (r := (some a)) (by decide) (fun a2 ha2 => sn_Re.cI (re_Sn_spellLatest HI a2 ha2 x1 x2) (fun v1 => sn_Re.ite Iff.rfl (re_Sn_octet_18 HI a ha) (sn_Re.ite Iff.rfl (sn_Re.gR (r := (some a)) (by decide) (fun v3 hv3 => sn_Re.aI (r := v3) (by decide) (fun v4 => re_Sn_octet_28 HI a ha v4))) (re_Sn_octet_18 HI a ha))))
set_option maxHeartbeats 4000000 in
set_option maxRecDepth 100000 in
theorem re_Sn_bits_23 {ρ kk : Nat → Nat} (HI : sn_HI ρ kk) (a : Nat) (ha : kk a ≠ 0) (t0 : Int32) : sn_Re ρ kk (f_Sn_bits_23 (ρ a) t0) (f_Sn_bits_23 a t0) := sn_Re.I
set_option maxHeartbeats 4000000 in
set_option maxRecDepth 100000 in
theorem re_Sn_bits {ρ kk : Nat → Nat} (HI : sn_HI ρ kk) (a : Nat) (ha : kk a ≠ 0) (x1 : Int32) (x2 : Int32) : sn_Re ρ kk (f_Sn_bits (ρ a) x1 x2) (f_Sn_bits a x1 x2) := sn_Re.nn (r := (some a)) (by decide) (fun a2 ha2 => sn_Re.cI (re_Sn_spellLatest HI a2 ha2 x1 x2) (fun v1 => sn_Re.ite Iff.rfl (sn_Re.gR (r := (some a)) (by decide) (fun v3 hv3 => sn_Re.cI (re_Un_bitsOnLine HI v3 hv3 v1) (fun v4 => re_Sn_bits_23 HI a ha v4))) (re_Sn_bits_23 HI a ha (-1 : Int32))))
set_option maxHeartbeats 4000000 in
set_option maxRecDepth 100000 in
theorem re_Sn_flow_28 {ρ kk : Nat → Nat} (HI : sn_HI ρ kk) (a : Nat) (ha : kk a ≠ 0) (t0 : Int32) : sn_Re ρ kk (f_Sn_flow_28 (ρ a) t0) (f_Sn_flow_28 a t0) := sn_Re.I
set_option maxHeartbeats 4000000 in
set_option maxRecDepth 100000 in
theorem re_Sn_flow {ρ kk : Nat → Nat} (HI : sn_HI ρ kk) (a : Nat) (ha : kk a ≠ 0) (x1 : Int32) (x2 : Int32) (x3 : Int32) (x4 : Int32) : sn_Re ρ kk (f_Sn_flow (ρ a) x1 x2 x3 x4) (f_Sn_flow a x1 x2 x3 x4) := sn_Re.gR (r := (some a)) (by decide) (fun v1 hv1 => sn_Re.nn (r := v1) (by decide) (fun a3 ha3 => sn_Re.cR (re_Tr_flowTo HI a3 ha3 x1 x2 x3) (fun v2 hv2 => sn_Re.ite sn_nnone (sn_Re.nn (r := v2) (by decide) (fun a5 ha5 => sn_Re.cI (re_Fl_tell HI a5 ha5 x4) (fun v4 => re_Sn_flow_28 HI a ha v4))) (re_Sn_flow_28 HI a ha (-1 : Int32)))))
set_option maxHeartbeats 4000000 in
set_option maxRecDepth 100000 in
theorem re_Sn_next {ρ kk : Nat → Nat} (HI : sn_HI ρ kk) (a : Nat) (ha : kk a ≠ 0) (x1 : Int32) (x2 : Int32) (x3 : Int32) : sn_Re ρ kk (f_Sn_next (ρ a) x1 x2 x3) (f_Sn_next a x1 x2 x3) := sn_Re.gR (r := (some a)) (by decide) (fun v1 hv1 => sn_Re.nn (r := v1) (by decide) (fun a3 ha3 => sn_Re.cI (re_Tr_tellWay HI a3 ha3 x1 x2 x3) (fun v2 => sn_Re.I)))
set_option maxHeartbeats 4000000 in
set_option maxRecDepth 100000 in
theorem re_Sn_circuit_32 {ρ kk : Nat → Nat} (HI : sn_HI ρ kk) (a : Nat) (ha : kk a ≠ 0) (t0 : Int32) : sn_Re ρ kk (f_Sn_circuit_32 (ρ a) t0) (f_Sn_circuit_32 a t0) := sn_Re.I
set_option maxHeartbeats 4000000 in
set_option maxRecDepth 100000 in
theorem re_Sn_circuit {ρ kk : Nat → Nat} (HI : sn_HI ρ kk) (a : Nat) (ha : kk a ≠ 0) (x1 : Int32) (x2 : Int32) (x3 : Int32) (x4 : Int32) : sn_Re ρ kk (f_Sn_circuit (ρ a) x1 x2 x3 x4) (f_Sn_circuit a x1 x2 x3 x4) := sn_Re.gR (r := (some a)) (by decide) (fun v1 hv1 => sn_Re.nn (r := v1) (by decide) (fun a3 ha3 => sn_Re.cR (re_Sw_circuitAt HI a3 ha3 x1 x2 x3) (fun v2 hv2 => sn_Re.ite sn_nnone (sn_Re.gR (r := (some a)) (by decide) (fun v4 hv4 => sn_Re.nn (r := v2) (by decide) (fun a6 ha6 => sn_Re.cI (re_Lg_tellCircuit HI a6 ha6 x4 v4 hv4) (fun v5 => re_Sn_circuit_32 HI a ha v5)))) (re_Sn_circuit_32 HI a ha (-1 : Int32)))))
