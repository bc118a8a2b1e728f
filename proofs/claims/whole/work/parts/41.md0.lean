def g_Md_fresh (x1 : Int32) : sn_G := w_I 12 x1 (127 : Int32) (w_I 13 x1 (127 : Int32) (w_I 14 x1 (1 : Int32) (w_I 15 x1 (1 : Int32) (w_I 16 x1 (0 : Int32) (w_I 19 x1 (0 : Int32) (w_I 21 x1 (-1 : Int32) (z_V)))))))
set_option maxHeartbeats 4000000 in
set_option maxRecDepth 100000 in
theorem lf_Md_fresh (M : Nat) (x1 : Int32) : sn_Lf M (f_Md_fresh M x1) (g_Md_fresh x1) := sn_Lf.gR (k := 12) (by decide) (sn_Lf.bI (k := 12) (by decide) (sn_Lf.gR (k := 13) (by decide) (sn_Lf.bI (k := 13) (by decide) (sn_Lf.gR (k := 14) (by decide) (sn_Lf.bI (k := 14) (by decide) (sn_Lf.gR (k := 15) (by decide) (sn_Lf.bI (k := 15) (by decide) (sn_Lf.gR (k := 16) (by decide) (sn_Lf.bI (k := 16) (by decide) (sn_Lf.gR (k := 19) (by decide) (sn_Lf.bI (k := 19) (by decide) (sn_Lf.gR (k := 21) (by decide) (sn_Lf.bI (k := 21) (by decide) (sn_Lf.V))))))))))))))
def g_Md_message (x0 : Int32) (x1 : Int32) (x2 : Int32) (x3 : Int32) (x4 : Int32) (x5 : Int32) : sn_G := z_J ((((((Int32.toInt64 x0) ||| ((Int32.toInt64 x1) <<< (Int32.toInt64 (4 : Int32) &&& 63))) ||| ((Int32.toInt64 x2) <<< (Int32.toInt64 (8 : Int32) &&& 63))) ||| ((Int32.toInt64 x3) <<< (Int32.toInt64 (12 : Int32) &&& 63))) ||| ((Int32.toInt64 x4) <<< (Int32.toInt64 (16 : Int32) &&& 63))) ||| ((Int32.toInt64 x5) <<< (Int32.toInt64 (24 : Int32) &&& 63)))
set_option maxHeartbeats 4000000 in
set_option maxRecDepth 100000 in
theorem lf_Md_message (M : Nat) (x0 : Int32) (x1 : Int32) (x2 : Int32) (x3 : Int32) (x4 : Int32) (x5 : Int32) : sn_Lf M (f_Md_message x0 x1 x2 x3 x4 x5) (g_Md_message x0 x1 x2 x3 x4 x5) := sn_Lf.J
def g_Md_kindOf (l0 : Int64) : sn_G := z_I (Int64.toInt32 (l0 &&& (15 : Int64)))
set_option maxHeartbeats 4000000 in
set_option maxRecDepth 100000 in
theorem lf_Md_kindOf (M : Nat) (l0 : Int64) : sn_Lf M (f_Md_kindOf l0) (g_Md_kindOf l0) := sn_Lf.I
def g_Md_fromOf (l0 : Int64) : sn_G := z_I (Int64.toInt32 ((l0 >>> (Int32.toInt64 (4 : Int32) &&& 63)) &&& (15 : Int64)))
set_option maxHeartbeats 4000000 in
set_option maxRecDepth 100000 in
theorem lf_Md_fromOf (M : Nat) (l0 : Int64) : sn_Lf M (f_Md_fromOf l0) (g_Md_fromOf l0) := sn_Lf.I
def g_Md_toOf (l0 : Int64) : sn_G := z_I (Int64.toInt32 ((l0 >>> (Int32.toInt64 (8 : Int32) &&& 63)) &&& (15 : Int64)))
set_option maxHeartbeats 4000000 in
set_option maxRecDepth 100000 in
theorem lf_Md_toOf (M : Nat) (l0 : Int64) : sn_Lf M (f_Md_toOf l0) (g_Md_toOf l0) := sn_Lf.I
def g_Md_flowOf (l0 : Int64) : sn_G := z_I (Int64.toInt32 ((l0 >>> (Int32.toInt64 (12 : Int32) &&& 63)) &&& (15 : Int64)))
set_option maxHeartbeats 4000000 in
set_option maxRecDepth 100000 in
theorem lf_Md_flowOf (M : Nat) (l0 : Int64) : sn_Lf M (f_Md_flowOf l0) (g_Md_flowOf l0) := sn_Lf.I
def g_Md_oneOf (l0 : Int64) : sn_G := z_I (Int64.toInt32 ((l0 >>> (Int32.toInt64 (16 : Int32) &&& 63)) &&& (255 : Int64)))
set_option maxHeartbeats 4000000 in
set_option maxRecDepth 100000 in
theorem lf_Md_oneOf (M : Nat) (l0 : Int64) : sn_Lf M (f_Md_oneOf l0) (g_Md_oneOf l0) := sn_Lf.I
def g_Md_twoOf (l0 : Int64) : sn_G := z_I (Int64.toInt32 ((l0 >>> (Int32.toInt64 (24 : Int32) &&& 63)) &&& (65535 : Int64)))
set_option maxHeartbeats 4000000 in
set_option maxRecDepth 100000 in
theorem lf_Md_twoOf (M : Nat) (l0 : Int64) : sn_Lf M (f_Md_twoOf l0) (g_Md_twoOf l0) := sn_Lf.I
def g_Md_hopsOf (l0 : Int64) : sn_G := z_I (Int64.toInt32 (l0 >>> (Int32.toInt64 (40 : Int32) &&& 63)))
set_option maxHeartbeats 4000000 in
set_option maxRecDepth 100000 in
theorem lf_Md_hopsOf (M : Nat) (l0 : Int64) : sn_Lf M (f_Md_hopsOf l0) (g_Md_hopsOf l0) := sn_Lf.I
def g_Md_isExchange_15 (t0 : Int32) : sn_G := z_Z t0
set_option maxHeartbeats 4000000 in
set_option maxRecDepth 100000 in
theorem lf_Md_isExchange_15 (M : Nat) (t0 : Int32) : sn_Lf M (f_Md_isExchange_15 t0) (g_Md_isExchange_15 t0) := sn_Lf.Z
def g_Md_isExchange_14 : sn_G := g_Md_isExchange_15 (0 : Int32)
set_option maxHeartbeats 4000000 in
set_option maxRecDepth 100000 in
theorem lf_Md_isExchange_14 (M : Nat) : sn_Lf M (f_Md_isExchange_14) (g_Md_isExchange_14) := lf_Md_isExchange_15 M (0 : Int32)
def g_Md_isExchange (x0 : Int32) : sn_G := (if x0 < 0 then g_Md_isExchange_14 else (if (6 : Int32) ≤ x0 then g_Md_isExchange_14 else g_Md_isExchange_15 (1 : Int32)))
set_option maxHeartbeats 4000000 in
set_option maxRecDepth 100000 in
theorem lf_Md_isExchange (M : Nat) (x0 : Int32) : sn_Lf M (f_Md_isExchange x0) (g_Md_isExchange x0) := sn_Lf.ite (lf_Md_isExchange_14 M) (sn_Lf.ite (lf_Md_isExchange_14 M) (lf_Md_isExchange_15 M (1 : Int32)))
def g_Md_isOf_43 (t0 : Int32) : sn_G := z_Z t0
set_option maxHeartbeats 4000000 in
set_option maxRecDepth 100000 in
theorem lf_Md_isOf_43 (M : Nat) (t0 : Int32) : sn_Lf M (f_Md_isOf_43 M t0) (g_Md_isOf_43 t0) := sn_Lf.Z
def g_Md_isOf_42 : sn_G := g_Md_isOf_43 (0 : Int32)
set_option maxHeartbeats 4000000 in
set_option maxRecDepth 100000 in
theorem lf_Md_isOf_42 (M : Nat) : sn_Lf M (f_Md_isOf_42 M) (g_Md_isOf_42) := lf_Md_isOf_43 M (0 : Int32)
def g_Md_isOf_35 (t0 : Int32) (t1 : Int32) : sn_G := (if ¬ t0 = t1 then g_Md_isOf_42 else g_Md_isOf_43 (1 : Int32))
set_option maxHeartbeats 4000000 in
set_option maxRecDepth 100000 in
theorem lf_Md_isOf_35 (M : Nat) (t0 : Int32) (t1 : Int32) : sn_Lf M (f_Md_isOf_35 M t0 t1) (g_Md_isOf_35 t0 t1) := sn_Lf.ite (lf_Md_isOf_42 M) (lf_Md_isOf_43 M (1 : Int32))
def g_Md_isOf_16 (x1 : Int32) (x2 : Int32) (x3 : Int32) (t0 : Int32) (t1 : Int32) : sn_G := (if ¬ t0 = t1 then g_Md_isOf_42 else q_I 1 x1 fun v1 => (if x3 ≤ x2 then g_Md_isOf_35 v1 x2 else g_Md_isOf_35 v1 x3))
set_option maxHeartbeats 4000000 in
set_option maxRecDepth 100000 in
theorem lf_Md_isOf_16 (M : Nat) (x1 : Int32) (x2 : Int32) (x3 : Int32) (t0 : Int32) (t1 : Int32) : sn_Lf M (f_Md_isOf_16 M x1 x2 x3 t0 t1) (g_Md_isOf_16 x1 x2 x3 t0 t1) := sn_Lf.ite (lf_Md_isOf_42 M) (sn_Lf.gR (k := 1) (by decide) (sn_Lf.aI (k := 1) (by decide) (fun v1 => sn_Lf.ite (lf_Md_isOf_35 M v1 x2) (lf_Md_isOf_35 M v1 x3))))
def g_Md_isOf (x1 : Int32) (x2 : Int32) (x3 : Int32) : sn_G := q_I 0 x1 fun v2 => (if x3 ≤ x2 then g_Md_isOf_16 x1 x2 x3 v2 x3 else g_Md_isOf_16 x1 x2 x3 v2 x2)
set_option maxHeartbeats 4000000 in
set_option maxRecDepth 100000 in
theorem lf_Md_isOf (M : Nat) (x1 : Int32) (x2 : Int32) (x3 : Int32) : sn_Lf M (f_Md_isOf M x1 x2 x3) (g_Md_isOf x1 x2 x3) := sn_Lf.gR (k := 0) (by decide) (sn_Lf.aI (k := 0) (by decide) (fun v2 => sn_Lf.ite (lf_Md_isOf_16 M x1 x2 x3 v2 x3) (lf_Md_isOf_16 M x1 x2 x3 v2 x2)))
def g_Md_setSize_31 (k5 : Int32 → Int32 → Int32 → Int32 → sn_G) (x1 : Int32) (x2 : Int32) (x4 : Int32) (t0 : Int32) (t1 : Int32) : sn_G := y_nI ((t0 + t1)) fun n1 => k5 x1 x2 n1 (x4 + (1 : Int32))
set_option maxHeartbeats 4000000 in
set_option maxRecDepth 100000 in
theorem lf_Md_setSize_31 (M : Nat) (fk5 : Int32 → Int32 → Int32 → Int32 → sn_M) (k5 : Int32 → Int32 → Int32 → Int32 → sn_G) (hk5 : ∀ (x1 : Int32) (x2 : Int32) (x3 : Int32) (x4 : Int32), sn_Lf M (fk5 x1 x2 x3 x4) (k5 x1 x2 x3 x4)) (x1 : Int32) (x2 : Int32) (x4 : Int32) (t0 : Int32) (t1 : Int32) : sn_Lf M (f_Md_setSize_31 fk5 M x1 x2 x4 t0 t1) (g_Md_setSize_31 k5 x1 x2 x4 t0 t1) := sn_Lf.nI (fun n1 => hk5 x1 x2 n1 (x4 + (1 : Int32)))
def g_Md_setSize_5 : Nat → Int32 → Int32 → Int32 → Int32 → sn_G
  | 0, _, _, _, _ => z_0
  | n + 1, x1, x2, x3, x4 => q_S 4 fun v2 => (if v2 ≤ x4 then z_I x3 else y_I (g_Md_isOf x4 x1 x2) fun v3 => (if v3 = 0 then g_Md_setSize_31 (g_Md_setSize_5 n) x1 x2 x4 x3 (0 : Int32) else g_Md_setSize_31 (g_Md_setSize_5 n) x1 x2 x4 x3 (1 : Int32)))
set_option maxHeartbeats 4000000 in
set_option maxRecDepth 100000 in
theorem lf_Md_setSize_5 (M : Nat) : ∀ (n : Nat) (x1 : Int32) (x2 : Int32) (x3 : Int32) (x4 : Int32), sn_Lf M (f_Md_setSize_5 M n x1 x2 x3 x4) (g_Md_setSize_5 n x1 x2 x3 x4)
  | 0, _, _, _, _ => sn_Lf.z0
  | n + 1, x1, x2, x3, x4 => sn_Lf.gS (k := 4) rfl (fun v2 => sn_Lf.ite (sn_Lf.I) (sn_Lf.nn (sn_Lf.cI (lf_Md_isOf M x4 x1 x2) (fun v3 => sn_Lf.ite (lf_Md_setSize_31 M (f_Md_setSize_5 M n) (g_Md_setSize_5 n) (lf_Md_setSize_5 M n) x1 x2 x4 x3 (0 : Int32)) (lf_Md_setSize_31 M (f_Md_setSize_5 M n) (g_Md_setSize_5 n) (lf_Md_setSize_5 M n) x1 x2 x4 x3 (1 : Int32))))))
def g_Md_setSize (x1 : Int32) (x2 : Int32) : sn_G := g_Md_setSize_5 sn_fuel x1 x2 (0 : Int32) (0 : Int32)
set_option maxHeartbeats 4000000 in
set_option maxRecDepth 100000 in
theorem lf_Md_setSize (M : Nat) (x1 : Int32) (x2 : Int32) : sn_Lf M (f_Md_setSize M x1 x2) (g_Md_setSize x1 x2) := lf_Md_setSize_5 M sn_fuel x1 x2 (0 : Int32) (0 : Int32)
def g_Md_areNeighbours_33 (t0 : Int32) : sn_G := z_Z t0
set_option maxHeartbeats 4000000 in
set_option maxRecDepth 100000 in
theorem lf_Md_areNeighbours_33 (M : Nat) (t0 : Int32) : sn_Lf M (f_Md_areNeighbours_33 M t0) (g_Md_areNeighbours_33 t0) := sn_Lf.Z
def g_Md_areNeighbours_32 : sn_G := g_Md_areNeighbours_33 (0 : Int32)
set_option maxHeartbeats 4000000 in
set_option maxRecDepth 100000 in
theorem lf_Md_areNeighbours_32 (M : Nat) : sn_Lf M (f_Md_areNeighbours_32 M) (g_Md_areNeighbours_32) := lf_Md_areNeighbours_33 M (0 : Int32)
def g_Md_areNeighbours (x1 : Int32) (x2 : Int32) : sn_G := y_I (g_Md_isExchange x1) fun v1 => (if v1 = 0 then g_Md_areNeighbours_32 else y_I (g_Md_isExchange x2) fun v2 => (if v2 = 0 then g_Md_areNeighbours_32 else (if x1 = x2 then g_Md_areNeighbours_32 else y_I (g_Md_setSize x1 x2) fun v3 => (if v3 ≤ 0 then g_Md_areNeighbours_32 else g_Md_areNeighbours_33 (1 : Int32)))))
set_option maxHeartbeats 4000000 in
set_option maxRecDepth 100000 in
theorem lf_Md_areNeighbours (M : Nat) (x1 : Int32) (x2 : Int32) : sn_Lf M (f_Md_areNeighbours M x1 x2) (g_Md_areNeighbours x1 x2) := sn_Lf.cI (lf_Md_isExchange M x1) (fun v1 => sn_Lf.ite (lf_Md_areNeighbours_32 M) (sn_Lf.cI (lf_Md_isExchange M x2) (fun v2 => sn_Lf.ite (lf_Md_areNeighbours_32 M) (sn_Lf.ite (lf_Md_areNeighbours_32 M) (sn_Lf.nn (sn_Lf.cI (lf_Md_setSize M x1 x2) (fun v3 => sn_Lf.ite (lf_Md_areNeighbours_32 M) (lf_Md_areNeighbours_33 M (1 : Int32)))))))))
def g_Md_endAt_18 (t0 : Int32) (t1 : Int32) : sn_G := z_I (t0 + t1)
set_option maxHeartbeats 4000000 in
set_option maxRecDepth 100000 in
theorem lf_Md_endAt_18 (M : Nat) (t0 : Int32) (t1 : Int32) : sn_Lf M (f_Md_endAt_18 M t0 t1) (g_Md_endAt_18 t0 t1) := sn_Lf.I
def g_Md_endAt (x1 : Int32) (x2 : Int32) : sn_G := q_I 0 x1 fun v1 => (if ¬ v1 = x2 then g_Md_endAt_18 ((2 : Int32) * x1) (1 : Int32) else g_Md_endAt_18 ((2 : Int32) * x1) (0 : Int32))
set_option maxHeartbeats 4000000 in
set_option maxRecDepth 100000 in
theorem lf_Md_endAt (M : Nat) (x1 : Int32) (x2 : Int32) : sn_Lf M (f_Md_endAt M x1 x2) (g_Md_endAt x1 x2) := sn_Lf.gR (k := 0) (by decide) (sn_Lf.aI (k := 0) (by decide) (fun v1 => sn_Lf.ite (lf_Md_endAt_18 M ((2 : Int32) * x1) (1 : Int32)) (lf_Md_endAt_18 M ((2 : Int32) * x1) (0 : Int32))))
def g_Md_exchangeOf_25 (t0 : Int32) : sn_G := z_I t0
set_option maxHeartbeats 4000000 in
set_option maxRecDepth 100000 in
theorem lf_Md_exchangeOf_25 (M : Nat) (t0 : Int32) : sn_Lf M (f_Md_exchangeOf_25 M t0) (g_Md_exchangeOf_25 t0) := sn_Lf.I
def g_Md_exchangeOf (x1 : Int32) : sn_G := (if ¬ (x1 &&& (1 : Int32)) = 0 then q_I 1 (x1 >>> ((1 : Int32) &&& 31)) fun v1 => g_Md_exchangeOf_25 v1 else q_I 0 (x1 >>> ((1 : Int32) &&& 31)) fun v2 => g_Md_exchangeOf_25 v2)
set_option maxHeartbeats 4000000 in
set_option maxRecDepth 100000 in
theorem lf_Md_exchangeOf (M : Nat) (x1 : Int32) : sn_Lf M (f_Md_exchangeOf M x1) (g_Md_exchangeOf x1) := sn_Lf.ite (sn_Lf.gR (k := 1) (by decide) (sn_Lf.aI (k := 1) (by decide) (fun v1 => lf_Md_exchangeOf_25 M v1))) (sn_Lf.gR (k := 0) (by decide) (sn_Lf.aI (k := 0) (by decide) (fun v2 => lf_Md_exchangeOf_25 M v2)))
def g_Md_otherOf_25 (t0 : Int32) : sn_G := z_I t0
set_option maxHeartbeats 4000000 in
set_option maxRecDepth 100000 in
theorem lf_Md_otherOf_25 (M : Nat) (t0 : Int32) : sn_Lf M (f_Md_otherOf_25 M t0) (g_Md_otherOf_25 t0) := sn_Lf.I
def g_Md_otherOf (x1 : Int32) : sn_G := (if ¬ (x1 &&& (1 : Int32)) = 0 then q_I 0 (x1 >>> ((1 : Int32) &&& 31)) fun v1 => g_Md_otherOf_25 v1 else q_I 1 (x1 >>> ((1 : Int32) &&& 31)) fun v2 => g_Md_otherOf_25 v2)
set_option maxHeartbeats 4000000 in
set_option maxRecDepth 100000 in
theorem lf_Md_otherOf (M : Nat) (x1 : Int32) : sn_Lf M (f_Md_otherOf M x1) (g_Md_otherOf x1) := sn_Lf.ite (sn_Lf.gR (k := 0) (by decide) (sn_Lf.aI (k := 0) (by decide) (fun v1 => lf_Md_otherOf_25 M v1))) (sn_Lf.gR (k := 1) (by decide) (sn_Lf.aI (k := 1) (by decide) (fun v2 => lf_Md_otherOf_25 M v2)))
def g_Md_flowAt (x1 : Int32) (x2 : Int32) (x3 : Int32) : sn_G := z_I ((((24 : Int32) * x1) + ((4 : Int32) * x2)) + x3)
set_option maxHeartbeats 4000000 in
set_option maxRecDepth 100000 in
theorem lf_Md_flowAt (M : Nat) (x1 : Int32) (x2 : Int32) (x3 : Int32) : sn_Lf M (f_Md_flowAt M x1 x2 x3) (g_Md_flowAt x1 x2 x3) := sn_Lf.I
def g_Md_isOpen_36 (t0 : Int32) : sn_G := z_Z t0
set_option maxHeartbeats 4000000 in
set_option maxRecDepth 100000 in
theorem lf_Md_isOpen_36 (M : Nat) (t0 : Int32) : sn_Lf M (f_Md_isOpen_36 M t0) (g_Md_isOpen_36 t0) := sn_Lf.Z
def g_Md_isOpen_31 : sn_G := g_Md_isOpen_36 (1 : Int32)
set_option maxHeartbeats 4000000 in
set_option maxRecDepth 100000 in
theorem lf_Md_isOpen_31 (M : Nat) : sn_Lf M (f_Md_isOpen_31 M) (g_Md_isOpen_31) := lf_Md_isOpen_36 M (1 : Int32)
def g_Md_isOpen (x1 : Int32) (x2 : Int32) (x3 : Int32) : sn_G := y_I (g_Md_flowAt x1 x2 x3) fun v1 => q_I 41 v1 fun v2 => (if ¬ v2 = (-1 : Int32) then g_Md_isOpen_31 else y_I (g_Md_flowAt x1 x2 x3) fun v3 => q_I 42 v3 fun v4 => (if v4 = 0 then g_Md_isOpen_36 (0 : Int32) else g_Md_isOpen_31))
set_option maxHeartbeats 4000000 in
set_option maxRecDepth 100000 in
theorem lf_Md_isOpen (M : Nat) (x1 : Int32) (x2 : Int32) (x3 : Int32) : sn_Lf M (f_Md_isOpen M x1 x2 x3) (g_Md_isOpen x1 x2 x3) := sn_Lf.gR (k := 41) (by decide) (sn_Lf.nn (sn_Lf.cI (lf_Md_flowAt M x1 x2 x3) (fun v1 => sn_Lf.aI (k := 41) (by decide) (fun v2 => sn_Lf.ite (lf_Md_isOpen_31 M) (sn_Lf.gR (k := 42) (by decide) (sn_Lf.nn (sn_Lf.cI (lf_Md_flowAt M x1 x2 x3) (fun v3 => sn_Lf.aI (k := 42) (by decide) (fun v4 => sn_Lf.ite (lf_Md_isOpen_36 M (0 : Int32)) (lf_Md_isOpen_31 M))))))))))
def g_Md_bestOf_80 (k30 : Int32 → Int32 → Int32 → Int32 → Int32 → Int32 → Int32 → sn_G) (x1 : Int32) (x2 : Int32) (x3 : Int32) (x4 : Int32) (x5 : Int32) (x6 : Int32) (x7 : Int32) : sn_G := k30 x1 x2 x3 x4 x5 x6 (x7 + (1 : Int32))
set_option maxHeartbeats 4000000 in
set_option maxRecDepth 100000 in
theorem lf_Md_bestOf_80 (M : Nat) (fk30 : Int32 → Int32 → Int32 → Int32 → Int32 → Int32 → Int32 → sn_M) (k30 : Int32 → Int32 → Int32 → Int32 → Int32 → Int32 → Int32 → sn_G) (hk30 : ∀ (x1 : Int32) (x2 : Int32) (x3 : Int32) (x4 : Int32) (x5 : Int32) (x6 : Int32) (x7 : Int32), sn_Lf M (fk30 x1 x2 x3 x4 x5 x6 x7) (k30 x1 x2 x3 x4 x5 x6 x7)) (x1 : Int32) (x2 : Int32) (x3 : Int32) (x4 : Int32) (x5 : Int32) (x6 : Int32) (x7 : Int32) : sn_Lf M (f_Md_bestOf_80 fk30 M x1 x2 x3 x4 x5 x6 x7) (g_Md_bestOf_80 k30 x1 x2 x3 x4 x5 x6 x7) := hk30 x1 x2 x3 x4 x5 x6 (x7 + (1 : Int32))
def g_Md_bestOf_77 (k30 : Int32 → Int32 → Int32 → Int32 → Int32 → Int32 → Int32 → sn_G) (x1 : Int32) (x2 : Int32) (x3 : Int32) (x4 : Int32) (x5 : Int32) (x6 : Int32) (x7 : Int32) : sn_G := g_Md_bestOf_80 k30 x1 x2 x3 x4 x5 (x6 + (-1 : Int32)) x7
set_option maxHeartbeats 4000000 in
set_option maxRecDepth 100000 in
theorem lf_Md_bestOf_77 (M : Nat) (fk30 : Int32 → Int32 → Int32 → Int32 → Int32 → Int32 → Int32 → sn_M) (k30 : Int32 → Int32 → Int32 → Int32 → Int32 → Int32 → Int32 → sn_G) (hk30 : ∀ (x1 : Int32) (x2 : Int32) (x3 : Int32) (x4 : Int32) (x5 : Int32) (x6 : Int32) (x7 : Int32), sn_Lf M (fk30 x1 x2 x3 x4 x5 x6 x7) (k30 x1 x2 x3 x4 x5 x6 x7)) (x1 : Int32) (x2 : Int32) (x3 : Int32) (x4 : Int32) (x5 : Int32) (x6 : Int32) (x7 : Int32) : sn_Lf M (f_Md_bestOf_77 fk30 M x1 x2 x3 x4 x5 x6 x7) (g_Md_bestOf_77 k30 x1 x2 x3 x4 x5 x6 x7) := lf_Md_bestOf_80 M fk30 k30 hk30 x1 x2 x3 x4 x5 (x6 + (-1 : Int32)) x7
def g_Md_bestOf_30 (k11 : Int32 → Int32 → Int32 → Int32 → Int32 → sn_G) : Nat → Int32 → Int32 → Int32 → Int32 → Int32 → Int32 → Int32 → sn_G
  | 0, _, _, _, _, _, _, _ => z_0
  | n + 1, x1, x2, x3, x4, x5, x6, x7 => q_S 4 fun v1 => (if v1 ≤ x7 then k11 x1 x2 x3 x4 (x5 + (1 : Int32)) else y_I (g_Md_isOf x7 x1 x2) fun v2 => (if ¬ v2 = 0 then (if ¬ x6 = 0 then g_Md_bestOf_77 (g_Md_bestOf_30 k11 n) x1 x2 x3 x4 x5 x6 x7 else y_I (g_Md_endAt x7 x1) fun v3 => q_I 10 v3 fun v4 => (if ¬ v4 = (5 : Int32) then g_Md_bestOf_77 (g_Md_bestOf_30 k11 n) x1 x2 x3 x4 x5 x6 x7 else z_I x7)) else g_Md_bestOf_80 (g_Md_bestOf_30 k11 n) x1 x2 x3 x4 x5 x6 x7))
set_option maxHeartbeats 4000000 in
set_option maxRecDepth 100000 in
theorem lf_Md_bestOf_30 (M : Nat) (fk11 : Int32 → Int32 → Int32 → Int32 → Int32 → sn_M) (k11 : Int32 → Int32 → Int32 → Int32 → Int32 → sn_G) (hk11 : ∀ (x1 : Int32) (x2 : Int32) (x3 : Int32) (x4 : Int32) (x5 : Int32), sn_Lf M (fk11 x1 x2 x3 x4 x5) (k11 x1 x2 x3 x4 x5)) : ∀ (n : Nat) (x1 : Int32) (x2 : Int32) (x3 : Int32) (x4 : Int32) (x5 : Int32) (x6 : Int32) (x7 : Int32), sn_Lf M (f_Md_bestOf_30 fk11 M n x1 x2 x3 x4 x5 x6 x7) (g_Md_bestOf_30 k11 n x1 x2 x3 x4 x5 x6 x7)
  | 0, _, _, _, _, _, _, _ => sn_Lf.z0
  | n + 1, x1, x2, x3, x4, x5, x6, x7 => sn_Lf.gS (k := 4) rfl (fun v1 => sn_Lf.ite (hk11 x1 x2 x3 x4 (x5 + (1 : Int32))) (sn_Lf.nn (sn_Lf.cI (lf_Md_isOf M x7 x1 x2) (fun v2 => sn_Lf.ite (sn_Lf.ite (lf_Md_bestOf_77 M (f_Md_bestOf_30 fk11 M n) (g_Md_bestOf_30 k11 n) (lf_Md_bestOf_30 M fk11 k11 hk11 n) x1 x2 x3 x4 x5 x6 x7) (sn_Lf.gR (k := 10) (by decide) (sn_Lf.nn (sn_Lf.cI (lf_Md_endAt M x7 x1) (fun v3 => sn_Lf.aI (k := 10) (by decide) (fun v4 => sn_Lf.ite (lf_Md_bestOf_77 M (f_Md_bestOf_30 fk11 M n) (g_Md_bestOf_30 k11 n) (lf_Md_bestOf_30 M fk11 k11 hk11 n) x1 x2 x3 x4 x5 x6 x7) (sn_Lf.I))))))) (lf_Md_bestOf_80 M (f_Md_bestOf_30 fk11 M n) (g_Md_bestOf_30 k11 n) (lf_Md_bestOf_30 M fk11 k11 hk11 n) x1 x2 x3 x4 x5 x6 x7)))))
def g_Md_bestOf_11 : Nat → Int32 → Int32 → Int32 → Int32 → Int32 → sn_G
  | 0, _, _, _, _, _ => z_0
  | n + 1, x1, x2, x3, x4, x5 => (if x4 ≤ x5 then z_I (-1 : Int32) else y_D x4 (y_nI (((x3 + x5) % x4)) fun n5 => g_Md_bestOf_30 (g_Md_bestOf_11 n) sn_fuel x1 x2 x3 x4 x5 n5 (0 : Int32)))
set_option maxHeartbeats 4000000 in
set_option maxRecDepth 100000 in
theorem lf_Md_bestOf_11 (M : Nat) : ∀ (n : Nat) (x1 : Int32) (x2 : Int32) (x3 : Int32) (x4 : Int32) (x5 : Int32), sn_Lf M (f_Md_bestOf_11 M n x1 x2 x3 x4 x5) (g_Md_bestOf_11 n x1 x2 x3 x4 x5)
  | 0, _, _, _, _, _ => sn_Lf.z0
  | n + 1, x1, x2, x3, x4, x5 => sn_Lf.ite (sn_Lf.I) (sn_Lf.D (sn_Lf.nI (fun n5 => lf_Md_bestOf_30 M (f_Md_bestOf_11 M n) (g_Md_bestOf_11 n) (lf_Md_bestOf_11 M n) sn_fuel x1 x2 x3 x4 x5 n5 (0 : Int32))))
def g_Md_bestOf (x1 : Int32) (x2 : Int32) (x3 : Int32) : sn_G := y_I (g_Md_setSize x1 x2) fun v6 => g_Md_bestOf_11 sn_fuel x1 x2 x3 v6 (0 : Int32)
set_option maxHeartbeats 4000000 in
set_option maxRecDepth 100000 in
theorem lf_Md_bestOf (M : Nat) (x1 : Int32) (x2 : Int32) (x3 : Int32) : sn_Lf M (f_Md_bestOf M x1 x2 x3) (g_Md_bestOf x1 x2 x3) := sn_Lf.nn (sn_Lf.cI (lf_Md_setSize M x1 x2) (fun v6 => lf_Md_bestOf_11 M sn_fuel x1 x2 x3 v6 (0 : Int32)))
def g_Md_waitAt (x1 : Int32) (l2 : Int64) : sn_G := q_I 29 x1 fun v1 => (if ¬ v1 = (64 : Int32) then q_I 29 x1 fun v2 => w_J 28 (((64 : Int32) * x1) + v2) l2 (q_I 29 x1 fun v3 => w_I 29 x1 (v3 + (1 : Int32)) (z_V)) else q_S 7 fun v4 => w_S 7 (v4 + (1 : Int32)) (z_V))
set_option maxHeartbeats 4000000 in
set_option maxRecDepth 100000 in
theorem lf_Md_waitAt (M : Nat) (x1 : Int32) (l2 : Int64) : sn_Lf M (f_Md_waitAt M x1 l2) (g_Md_waitAt x1 l2) := sn_Lf.gR (k := 29) (by decide) (sn_Lf.aI (k := 29) (by decide) (fun v1 => sn_Lf.ite (sn_Lf.gR (k := 28) (by decide) (sn_Lf.gR (k := 29) (by decide) (sn_Lf.aI (k := 29) (by decide) (fun v2 => sn_Lf.bJ (k := 28) (by decide) (sn_Lf.gR (k := 29) (by decide) (sn_Lf.aI (k := 29) (by decide) (fun v3 => sn_Lf.bI (k := 29) (by decide) (sn_Lf.V)))))))) (sn_Lf.gS (k := 7) rfl (fun v4 => sn_Lf.pS (k := 7) rfl (sn_Lf.V)))))
def g_Md_give_96 : sn_G := z_V
set_option maxHeartbeats 4000000 in
set_option maxRecDepth 100000 in
theorem lf_Md_give_96 (M : Nat) : sn_Lf M (f_Md_give_96 M) (g_Md_give_96) := sn_Lf.V
def g_Md_give (x1 : Int32) (x2 : Int32) (x3 : Int32) (l4 : Int64) : sn_G := y_I (g_Md_flowAt x1 x2 x3) fun v1 => q_I 42 v1 fun v2 => (if ¬ v2 = 0 then q_I 47 v1 fun v3 => (if ¬ v3 = (64 : Int32) then q_I 47 v1 fun v4 => w_J 46 (((64 : Int32) * v1) + v4) l4 (q_I 47 v1 fun v5 => w_I 47 v1 (v5 + (1 : Int32)) (g_Md_give_96)) else q_S 7 fun v6 => w_S 7 (v6 + (1 : Int32)) (g_Md_give_96)) else q_I 41 v1 fun v7 => y_I (g_Md_endAt v7 x1) fun v8 => y_V (g_Md_waitAt v8 l4) (g_Md_give_96))
set_option maxHeartbeats 4000000 in
set_option maxRecDepth 100000 in
theorem lf_Md_give (M : Nat) (x1 : Int32) (x2 : Int32) (x3 : Int32) (l4 : Int64) : sn_Lf M (f_Md_give M x1 x2 x3 l4) (g_Md_give x1 x2 x3 l4) := sn_Lf.nn (sn_Lf.cI (lf_Md_flowAt M x1 x2 x3) (fun v1 => sn_Lf.gR (k := 42) (by decide) (sn_Lf.aI (k := 42) (by decide) (fun v2 => sn_Lf.ite (sn_Lf.gR (k := 47) (by decide) (sn_Lf.aI (k := 47) (by decide) (fun v3 => sn_Lf.ite (sn_Lf.gR (k := 46) (by decide) (sn_Lf.gR (k := 47) (by decide) (sn_Lf.aI (k := 47) (by decide) (fun v4 => sn_Lf.bJ (k := 46) (by decide) (sn_Lf.gR (k := 47) (by decide) (sn_Lf.aI (k := 47) (by decide) (fun v5 => sn_Lf.bI (k := 47) (by decide) (lf_Md_give_96 M)))))))) (sn_Lf.gS (k := 7) rfl (fun v6 => sn_Lf.pS (k := 7) rfl (lf_Md_give_96 M)))))) (sn_Lf.gR (k := 41) (by decide) (sn_Lf.aI (k := 41) (by decide) (fun v7 => sn_Lf.nn (sn_Lf.cI (lf_Md_endAt M v7 x1) (fun v8 => sn_Lf.nn (sn_Lf.cV (lf_Md_waitAt M v8 l4) (lf_Md_give_96 M)))))))))))
def g_Md_route_114 (k3 : Int32 → Int32 → Int64 → Int32 → Int32 → sn_G) (x1 : Int32) (x2 : Int32) (l3 : Int64) (x5 : Int32) (x6 : Int32) : sn_G := k3 x1 x2 l3 x5 (x6 + (1 : Int32))
set_option maxHeartbeats 4000000 in
set_option maxRecDepth 100000 in
theorem lf_Md_route_114 (M : Nat) (fk3 : Int32 → Int32 → Int64 → Int32 → Int32 → sn_M) (k3 : Int32 → Int32 → Int64 → Int32 → Int32 → sn_G) (hk3 : ∀ (x1 : Int32) (x2 : Int32) (l3 : Int64) (x5 : Int32) (x6 : Int32), sn_Lf M (fk3 x1 x2 l3 x5 x6) (k3 x1 x2 l3 x5 x6)) (x1 : Int32) (x2 : Int32) (l3 : Int64) (x5 : Int32) (x6 : Int32) : sn_Lf M (f_Md_route_114 fk3 M x1 x2 l3 x5 x6) (g_Md_route_114 k3 x1 x2 l3 x5 x6) := hk3 x1 x2 l3 x5 (x6 + (1 : Int32))
def g_Md_route_39 (k3 : Int32 → Int32 → Int64 → Int32 → Int32 → sn_G) (x1 : Int32) (x2 : Int32) (l3 : Int64) (x5 : Int32) (x6 : Int32) (t0 : Int32) : sn_G := (if t0 = (-1 : Int32) then g_Md_route_114 k3 x1 x2 l3 x5 x6 else (if t0 = x5 then g_Md_route_114 k3 x1 x2 l3 x5 x6 else y_I (g_Md_areNeighbours x1 t0) fun v1 => (if ¬ v1 = 0 then q_I 48 ((((36 : Int32) * x1) + ((6 : Int32) * t0)) + x2) fun v2 => (if ¬ v2 = 0 then g_Md_route_114 k3 x1 x2 l3 x5 x6 else y_I (g_Md_flowOf l3) fun v3 => y_I (g_Md_isOpen x1 t0 v3) fun v4 => (if v4 = 0 then g_Md_route_114 k3 x1 x2 l3 x5 x6 else y_I (g_Md_flowOf l3) fun v5 => y_V (g_Md_give x1 t0 v5 l3) (z_V))) else g_Md_route_114 k3 x1 x2 l3 x5 x6)))
set_option maxHeartbeats 4000000 in
set_option maxRecDepth 100000 in
theorem lf_Md_route_39 (M : Nat) (fk3 : Int32 → Int32 → Int64 → Int32 → Int32 → sn_M) (k3 : Int32 → Int32 → Int64 → Int32 → Int32 → sn_G) (hk3 : ∀ (x1 : Int32) (x2 : Int32) (l3 : Int64) (x5 : Int32) (x6 : Int32), sn_Lf M (fk3 x1 x2 l3 x5 x6) (k3 x1 x2 l3 x5 x6)) (x1 : Int32) (x2 : Int32) (l3 : Int64) (x5 : Int32) (x6 : Int32) (t0 : Int32) : sn_Lf M (f_Md_route_39 fk3 M x1 x2 l3 x5 x6 t0) (g_Md_route_39 k3 x1 x2 l3 x5 x6 t0) := sn_Lf.ite (lf_Md_route_114 M fk3 k3 hk3 x1 x2 l3 x5 x6) (sn_Lf.ite (lf_Md_route_114 M fk3 k3 hk3 x1 x2 l3 x5 x6) (sn_Lf.nn (sn_Lf.cI (lf_Md_areNeighbours M x1 t0) (fun v1 => sn_Lf.ite (sn_Lf.gR (k := 48) (by decide) (sn_Lf.aI (k := 48) (by decide) (fun v2 => sn_Lf.ite (lf_Md_route_114 M fk3 k3 hk3 x1 x2 l3 x5 x6) (sn_Lf.cI (lf_Md_flowOf M l3) (fun v3 => sn_Lf.nn (sn_Lf.cI (lf_Md_isOpen M x1 t0 v3) (fun v4 => sn_Lf.ite (lf_Md_route_114 M fk3 k3 hk3 x1 x2 l3 x5 x6) (sn_Lf.cI (lf_Md_flowOf M l3) (fun v5 => sn_Lf.nn (sn_Lf.cV (lf_Md_give M x1 t0 v5 l3) (sn_Lf.V))))))))))) (lf_Md_route_114 M fk3 k3 hk3 x1 x2 l3 x5 x6)))))
def g_Md_route_3 : Nat → Int32 → Int32 → Int64 → Int32 → Int32 → sn_G
  | 0, _, _, _, _, _ => z_0
  | n + 1, x1, x2, l3, x5, x6 => (if (2 : Int32) ≤ x6 then q_S 7 fun v7 => w_S 7 (v7 + (1 : Int32)) (z_V) else (if ¬ x6 = 0 then q_I 51 (((6 : Int32) * x1) + x2) fun v8 => g_Md_route_39 (g_Md_route_3 n) x1 x2 l3 x5 x6 v8 else q_I 50 (((6 : Int32) * x1) + x2) fun v9 => g_Md_route_39 (g_Md_route_3 n) x1 x2 l3 x5 x6 v9))
set_option maxHeartbeats 4000000 in
set_option maxRecDepth 100000 in
theorem lf_Md_route_3 (M : Nat) : ∀ (n : Nat) (x1 : Int32) (x2 : Int32) (l3 : Int64) (x5 : Int32) (x6 : Int32), sn_Lf M (f_Md_route_3 M n x1 x2 l3 x5 x6) (g_Md_route_3 n x1 x2 l3 x5 x6)
  | 0, _, _, _, _, _ => sn_Lf.z0
  | n + 1, x1, x2, l3, x5, x6 => sn_Lf.ite (sn_Lf.gS (k := 7) rfl (fun v7 => sn_Lf.pS (k := 7) rfl (sn_Lf.V))) (sn_Lf.ite (sn_Lf.gR (k := 51) (by decide) (sn_Lf.aI (k := 51) (by decide) (fun v8 => lf_Md_route_39 M (f_Md_route_3 M n) (g_Md_route_3 n) (lf_Md_route_3 M n) x1 x2 l3 x5 x6 v8))) (sn_Lf.gR (k := 50) (by decide) (sn_Lf.aI (k := 50) (by decide) (fun v9 => lf_Md_route_39 M (f_Md_route_3 M n) (g_Md_route_3 n) (lf_Md_route_3 M n) x1 x2 l3 x5 x6 v9))))
def g_Md_route (x1 : Int32) (x2 : Int32) (l3 : Int64) (x5 : Int32) : sn_G := g_Md_route_3 sn_fuel x1 x2 l3 x5 (0 : Int32)
set_option maxHeartbeats 4000000 in
set_option maxRecDepth 100000 in
theorem lf_Md_route (M : Nat) (x1 : Int32) (x2 : Int32) (l3 : Int64) (x5 : Int32) : sn_Lf M (f_Md_route M x1 x2 l3 x5) (g_Md_route x1 x2 l3 x5) := lf_Md_route_3 M sn_fuel x1 x2 l3 x5 (0 : Int32)
def g_Md_otherWay_52 (k3 : Int32 → Int32 → Int64 → Int32 → sn_G) (x1 : Int32) (x2 : Int32) (l3 : Int64) (x5 : Int32) : sn_G := k3 x1 x2 l3 (x5 + (1 : Int32))
set_option maxHeartbeats 4000000 in
set_option maxRecDepth 100000 in
theorem lf_Md_otherWay_52 (M : Nat) (fk3 : Int32 → Int32 → Int64 → Int32 → sn_M) (k3 : Int32 → Int32 → Int64 → Int32 → sn_G) (hk3 : ∀ (x1 : Int32) (x2 : Int32) (l3 : Int64) (x5 : Int32), sn_Lf M (fk3 x1 x2 l3 x5) (k3 x1 x2 l3 x5)) (x1 : Int32) (x2 : Int32) (l3 : Int64) (x5 : Int32) : sn_Lf M (f_Md_otherWay_52 fk3 M x1 x2 l3 x5) (g_Md_otherWay_52 k3 x1 x2 l3 x5) := hk3 x1 x2 l3 (x5 + (1 : Int32))
def g_Md_otherWay_3 : Nat → Int32 → Int32 → Int64 → Int32 → sn_G
  | 0, _, _, _, _ => z_0
  | n + 1, x1, x2, l3, x5 => q_S 4 fun v1 => (if v1 ≤ x5 then y_V (g_Md_route x1 x2 l3 x2) (z_V) else y_I (g_Md_isOf x5 x1 x2) fun v3 => (if v3 = 0 then g_Md_otherWay_52 (g_Md_otherWay_3 n) x1 x2 l3 x5 else y_I (g_Md_endAt x5 x1) fun v4 => q_I 10 v4 fun v5 => (if ¬ v5 = (5 : Int32) then g_Md_otherWay_52 (g_Md_otherWay_3 n) x1 x2 l3 x5 else y_I (g_Md_endAt x5 x1) fun v6 => y_V (g_Md_waitAt v6 l3) (z_V))))
set_option maxHeartbeats 4000000 in
set_option maxRecDepth 100000 in
theorem lf_Md_otherWay_3 (M : Nat) : ∀ (n : Nat) (x1 : Int32) (x2 : Int32) (l3 : Int64) (x5 : Int32), sn_Lf M (f_Md_otherWay_3 M n x1 x2 l3 x5) (g_Md_otherWay_3 n x1 x2 l3 x5)
  | 0, _, _, _, _ => sn_Lf.z0
  | n + 1, x1, x2, l3, x5 => sn_Lf.gS (k := 4) rfl (fun v1 => sn_Lf.ite (sn_Lf.nn (sn_Lf.cV (lf_Md_route M x1 x2 l3 x2) (sn_Lf.V))) (sn_Lf.nn (sn_Lf.cI (lf_Md_isOf M x5 x1 x2) (fun v3 => sn_Lf.ite (lf_Md_otherWay_52 M (f_Md_otherWay_3 M n) (g_Md_otherWay_3 n) (lf_Md_otherWay_3 M n) x1 x2 l3 x5) (sn_Lf.gR (k := 10) (by decide) (sn_Lf.nn (sn_Lf.cI (lf_Md_endAt M x5 x1) (fun v4 => sn_Lf.aI (k := 10) (by decide) (fun v5 => sn_Lf.ite (lf_Md_otherWay_52 M (f_Md_otherWay_3 M n) (g_Md_otherWay_3 n) (lf_Md_otherWay_3 M n) x1 x2 l3 x5) (sn_Lf.nn (sn_Lf.cI (lf_Md_endAt M x5 x1) (fun v6 => sn_Lf.nn (sn_Lf.cV (lf_Md_waitAt M v6 l3) (sn_Lf.V))))))))))))))
def g_Md_otherWay (x1 : Int32) (x2 : Int32) (l3 : Int64) : sn_G := g_Md_otherWay_3 sn_fuel x1 x2 l3 (0 : Int32)
set_option maxHeartbeats 4000000 in
set_option maxRecDepth 100000 in
theorem lf_Md_otherWay (M : Nat) (x1 : Int32) (x2 : Int32) (l3 : Int64) : sn_Lf M (f_Md_otherWay M x1 x2 l3) (g_Md_otherWay x1 x2 l3) := lf_Md_otherWay_3 M sn_fuel x1 x2 l3 (0 : Int32)
def g_Md_nextOf_88 (k2 : Int32 → Int32 → Int32 → sn_G) (x1 : Int32) (x2 : Int32) (x3 : Int32) : sn_G := k2 x1 x2 (x3 + (1 : Int32))
set_option maxHeartbeats 4000000 in
set_option maxRecDepth 100000 in
theorem lf_Md_nextOf_88 (M : Nat) (fk2 : Int32 → Int32 → Int32 → sn_M) (k2 : Int32 → Int32 → Int32 → sn_G) (hk2 : ∀ (x1 : Int32) (x2 : Int32) (x3 : Int32), sn_Lf M (fk2 x1 x2 x3) (k2 x1 x2 x3)) (x1 : Int32) (x2 : Int32) (x3 : Int32) : sn_Lf M (f_Md_nextOf_88 fk2 M x1 x2 x3) (g_Md_nextOf_88 k2 x1 x2 x3) := hk2 x1 x2 (x3 + (1 : Int32))
def g_Md_nextOf_36 (k2 : Int32 → Int32 → Int32 → sn_G) (x1 : Int32) (x2 : Int32) (x3 : Int32) (t0 : Int32) : sn_G := (if t0 = (-1 : Int32) then g_Md_nextOf_88 k2 x1 x2 x3 else y_I (g_Md_areNeighbours x1 t0) fun v1 => (if v1 = 0 then g_Md_nextOf_88 k2 x1 x2 x3 else q_I 48 ((((36 : Int32) * x1) + ((6 : Int32) * t0)) + x2) fun v2 => (if ¬ v2 = 0 then g_Md_nextOf_88 k2 x1 x2 x3 else y_I (g_Md_isOpen x1 t0 (0 : Int32)) fun v3 => (if v3 = 0 then g_Md_nextOf_88 k2 x1 x2 x3 else z_I t0))))
set_option maxHeartbeats 4000000 in
set_option maxRecDepth 100000 in
theorem lf_Md_nextOf_36 (M : Nat) (fk2 : Int32 → Int32 → Int32 → sn_M) (k2 : Int32 → Int32 → Int32 → sn_G) (hk2 : ∀ (x1 : Int32) (x2 : Int32) (x3 : Int32), sn_Lf M (fk2 x1 x2 x3) (k2 x1 x2 x3)) (x1 : Int32) (x2 : Int32) (x3 : Int32) (t0 : Int32) : sn_Lf M (f_Md_nextOf_36 fk2 M x1 x2 x3 t0) (g_Md_nextOf_36 k2 x1 x2 x3 t0) := sn_Lf.ite (lf_Md_nextOf_88 M fk2 k2 hk2 x1 x2 x3) (sn_Lf.nn (sn_Lf.cI (lf_Md_areNeighbours M x1 t0) (fun v1 => sn_Lf.ite (lf_Md_nextOf_88 M fk2 k2 hk2 x1 x2 x3) (sn_Lf.gR (k := 48) (by decide) (sn_Lf.aI (k := 48) (by decide) (fun v2 => sn_Lf.ite (lf_Md_nextOf_88 M fk2 k2 hk2 x1 x2 x3) (sn_Lf.nn (sn_Lf.cI (lf_Md_isOpen M x1 t0 (0 : Int32)) (fun v3 => sn_Lf.ite (lf_Md_nextOf_88 M fk2 k2 hk2 x1 x2 x3) (sn_Lf.I))))))))))
def g_Md_nextOf_2 : Nat → Int32 → Int32 → Int32 → sn_G
  | 0, _, _, _ => z_0
  | n + 1, x1, x2, x3 => (if (2 : Int32) ≤ x3 then z_I (-1 : Int32) else (if ¬ x3 = 0 then q_I 51 (((6 : Int32) * x1) + x2) fun v4 => g_Md_nextOf_36 (g_Md_nextOf_2 n) x1 x2 x3 v4 else q_I 50 (((6 : Int32) * x1) + x2) fun v5 => g_Md_nextOf_36 (g_Md_nextOf_2 n) x1 x2 x3 v5))
set_option maxHeartbeats 4000000 in
set_option maxRecDepth 100000 in
theorem lf_Md_nextOf_2 (M : Nat) : ∀ (n : Nat) (x1 : Int32) (x2 : Int32) (x3 : Int32), sn_Lf M (f_Md_nextOf_2 M n x1 x2 x3) (g_Md_nextOf_2 n x1 x2 x3)
  | 0, _, _, _ => sn_Lf.z0
  | n + 1, x1, x2, x3 => sn_Lf.ite (sn_Lf.I) (sn_Lf.ite (sn_Lf.gR (k := 51) (by decide) (sn_Lf.aI (k := 51) (by decide) (fun v4 => lf_Md_nextOf_36 M (f_Md_nextOf_2 M n) (g_Md_nextOf_2 n) (lf_Md_nextOf_2 M n) x1 x2 x3 v4))) (sn_Lf.gR (k := 50) (by decide) (sn_Lf.aI (k := 50) (by decide) (fun v5 => lf_Md_nextOf_36 M (f_Md_nextOf_2 M n) (g_Md_nextOf_2 n) (lf_Md_nextOf_2 M n) x1 x2 x3 v5))))
def g_Md_nextOf (x1 : Int32) (x2 : Int32) : sn_G := g_Md_nextOf_2 sn_fuel x1 x2 (0 : Int32)
set_option maxHeartbeats 4000000 in
set_option maxRecDepth 100000 in
theorem lf_Md_nextOf (M : Nat) (x1 : Int32) (x2 : Int32) : sn_Lf M (f_Md_nextOf M x1 x2) (g_Md_nextOf x1 x2) := lf_Md_nextOf_2 M sn_fuel x1 x2 (0 : Int32)
def g_Md_look_166 (k2 : Int32 → Int32 → sn_G) (x1 : Int32) (x2 : Int32) : sn_G := k2 x1 (x2 + (1 : Int32))
set_option maxHeartbeats 4000000 in
set_option maxRecDepth 100000 in
theorem lf_Md_look_166 (M : Nat) (fk2 : Int32 → Int32 → sn_M) (k2 : Int32 → Int32 → sn_G) (hk2 : ∀ (x1 : Int32) (x2 : Int32), sn_Lf M (fk2 x1 x2) (k2 x1 x2)) (x1 : Int32) (x2 : Int32) : sn_Lf M (f_Md_look_166 fk2 M x1 x2) (g_Md_look_166 k2 x1 x2) := hk2 x1 (x2 + (1 : Int32))
def g_Md_look_160 (k26 : Int32 → Int32 → Int32 → Int32 → sn_G) (x1 : Int32) (x2 : Int32) (x3 : Int32) (x4 : Int32) : sn_G := k26 x1 x2 x3 (x4 + (1 : Int32))
set_option maxHeartbeats 4000000 in
set_option maxRecDepth 100000 in
theorem lf_Md_look_160 (M : Nat) (fk26 : Int32 → Int32 → Int32 → Int32 → sn_M) (k26 : Int32 → Int32 → Int32 → Int32 → sn_G) (hk26 : ∀ (x1 : Int32) (x2 : Int32) (x3 : Int32) (x4 : Int32), sn_Lf M (fk26 x1 x2 x3 x4) (k26 x1 x2 x3 x4)) (x1 : Int32) (x2 : Int32) (x3 : Int32) (x4 : Int32) : sn_Lf M (f_Md_look_160 fk26 M x1 x2 x3 x4) (g_Md_look_160 k26 x1 x2 x3 x4) := hk26 x1 x2 x3 (x4 + (1 : Int32))
def g_Md_look_148 (k26 : Int32 → Int32 → Int32 → Int32 → sn_G) (x1 : Int32) (x2 : Int32) (x3 : Int32) (x4 : Int32) (t1 : Int32) (t2 : Int32) (t3 : Int32) (t4 : Int32) : sn_G := y_J (g_Md_message t4 x1 x4 (0 : Int32) x2 (0 : Int32)) fun v1 => y_V (g_Md_give t1 t2 t3 v1) (g_Md_look_160 k26 x1 x2 x3 x4)
set_option maxHeartbeats 4000000 in
set_option maxRecDepth 100000 in
theorem lf_Md_look_148 (M : Nat) (fk26 : Int32 → Int32 → Int32 → Int32 → sn_M) (k26 : Int32 → Int32 → Int32 → Int32 → sn_G) (hk26 : ∀ (x1 : Int32) (x2 : Int32) (x3 : Int32) (x4 : Int32), sn_Lf M (fk26 x1 x2 x3 x4) (k26 x1 x2 x3 x4)) (x1 : Int32) (x2 : Int32) (x3 : Int32) (x4 : Int32) (t1 : Int32) (t2 : Int32) (t3 : Int32) (t4 : Int32) : sn_Lf M (f_Md_look_148 fk26 M x1 x2 x3 x4 (some M) t1 t2 t3 t4) (g_Md_look_148 k26 x1 x2 x3 x4 t1 t2 t3 t4) := sn_Lf.cJ (lf_Md_message M t4 x1 x4 (0 : Int32) x2 (0 : Int32)) (fun v1 => sn_Lf.nn (sn_Lf.cV (lf_Md_give M t1 t2 t3 v1) (lf_Md_look_160 M fk26 k26 hk26 x1 x2 x3 x4)))
def g_Md_look_85 (k26 : Int32 → Int32 → Int32 → Int32 → sn_G) (x1 : Int32) (x2 : Int32) (x3 : Int32) (x4 : Int32) (t0 : Int32) : sn_G := q_I 49 ((((36 : Int32) * x1) + ((6 : Int32) * x4)) + x2) fun v3 => (if ¬ v3 = t0 then w_I 49 ((((36 : Int32) * x1) + ((6 : Int32) * x4)) + x2) t0 ((if ¬ t0 = (1 : Int32) then g_Md_look_148 k26 x1 x2 x3 x4 x1 x4 (0 : Int32) (6 : Int32) else g_Md_look_148 k26 x1 x2 x3 x4 x1 x4 (0 : Int32) (5 : Int32))) else g_Md_look_160 k26 x1 x2 x3 x4)
set_option maxHeartbeats 4000000 in
set_option maxRecDepth 100000 in
theorem lf_Md_look_85 (M : Nat) (fk26 : Int32 → Int32 → Int32 → Int32 → sn_M) (k26 : Int32 → Int32 → Int32 → Int32 → sn_G) (hk26 : ∀ (x1 : Int32) (x2 : Int32) (x3 : Int32) (x4 : Int32), sn_Lf M (fk26 x1 x2 x3 x4) (k26 x1 x2 x3 x4)) (x1 : Int32) (x2 : Int32) (x3 : Int32) (x4 : Int32) (t0 : Int32) : sn_Lf M (f_Md_look_85 fk26 M x1 x2 x3 x4 t0) (g_Md_look_85 k26 x1 x2 x3 x4 t0) := sn_Lf.gR (k := 49) (by decide) (sn_Lf.aI (k := 49) (by decide) (fun v3 => sn_Lf.ite (sn_Lf.gR (k := 49) (by decide) (sn_Lf.bI (k := 49) (by decide) (sn_Lf.ite (lf_Md_look_148 M fk26 k26 hk26 x1 x2 x3 x4 x1 x4 (0 : Int32) (6 : Int32)) (lf_Md_look_148 M fk26 k26 hk26 x1 x2 x3 x4 x1 x4 (0 : Int32) (5 : Int32))))) (lf_Md_look_160 M fk26 k26 hk26 x1 x2 x3 x4)))
def g_Md_look_80 (k26 : Int32 → Int32 → Int32 → Int32 → sn_G) (x1 : Int32) (x2 : Int32) (x3 : Int32) (x4 : Int32) : sn_G := g_Md_look_85 k26 x1 x2 x3 x4 (1 : Int32)
set_option maxHeartbeats 4000000 in
set_option maxRecDepth 100000 in
theorem lf_Md_look_80 (M : Nat) (fk26 : Int32 → Int32 → Int32 → Int32 → sn_M) (k26 : Int32 → Int32 → Int32 → Int32 → sn_G) (hk26 : ∀ (x1 : Int32) (x2 : Int32) (x3 : Int32) (x4 : Int32), sn_Lf M (fk26 x1 x2 x3 x4) (k26 x1 x2 x3 x4)) (x1 : Int32) (x2 : Int32) (x3 : Int32) (x4 : Int32) : sn_Lf M (f_Md_look_80 fk26 M x1 x2 x3 x4) (g_Md_look_80 k26 x1 x2 x3 x4) := lf_Md_look_85 M fk26 k26 hk26 x1 x2 x3 x4 (1 : Int32)
def g_Md_look_26 (k2 : Int32 → Int32 → sn_G) : Nat → Int32 → Int32 → Int32 → Int32 → sn_G
  | 0, _, _, _, _ => z_0
  | n + 1, x1, x2, x3, x4 => (if (6 : Int32) ≤ x4 then g_Md_look_166 k2 x1 x2 else (if x4 = x2 then g_Md_look_160 (g_Md_look_26 k2 n) x1 x2 x3 x4 else (if x4 = x1 then g_Md_look_160 (g_Md_look_26 k2 n) x1 x2 x3 x4 else y_I (g_Md_areNeighbours x1 x4) fun v4 => (if v4 = 0 then g_Md_look_160 (g_Md_look_26 k2 n) x1 x2 x3 x4 else y_I (g_Md_isOpen x1 x4 (0 : Int32)) fun v5 => (if ¬ v5 = 0 then (if x3 = (-1 : Int32) then g_Md_look_80 (g_Md_look_26 k2 n) x1 x2 x3 x4 else (if ¬ x3 = x4 then g_Md_look_85 (g_Md_look_26 k2 n) x1 x2 x3 x4 (2 : Int32) else g_Md_look_80 (g_Md_look_26 k2 n) x1 x2 x3 x4)) else g_Md_look_160 (g_Md_look_26 k2 n) x1 x2 x3 x4)))))
set_option maxHeartbeats 4000000 in
set_option maxRecDepth 100000 in
theorem lf_Md_look_26 (M : Nat) (fk2 : Int32 → Int32 → sn_M) (k2 : Int32 → Int32 → sn_G) (hk2 : ∀ (x1 : Int32) (x2 : Int32), sn_Lf M (fk2 x1 x2) (k2 x1 x2)) : ∀ (n : Nat) (x1 : Int32) (x2 : Int32) (x3 : Int32) (x4 : Int32), sn_Lf M (f_Md_look_26 fk2 M n x1 x2 x3 x4) (g_Md_look_26 k2 n x1 x2 x3 x4)
  | 0, _, _, _, _ => sn_Lf.z0
  | n + 1, x1, x2, x3, x4 => sn_Lf.ite (lf_Md_look_166 M fk2 k2 hk2 x1 x2) (sn_Lf.ite (lf_Md_look_160 M (f_Md_look_26 fk2 M n) (g_Md_look_26 k2 n) (lf_Md_look_26 M fk2 k2 hk2 n) x1 x2 x3 x4) (sn_Lf.ite (lf_Md_look_160 M (f_Md_look_26 fk2 M n) (g_Md_look_26 k2 n) (lf_Md_look_26 M fk2 k2 hk2 n) x1 x2 x3 x4) (sn_Lf.nn (sn_Lf.cI (lf_Md_areNeighbours M x1 x4) (fun v4 => sn_Lf.ite (lf_Md_look_160 M (f_Md_look_26 fk2 M n) (g_Md_look_26 k2 n) (lf_Md_look_26 M fk2 k2 hk2 n) x1 x2 x3 x4) (sn_Lf.nn (sn_Lf.cI (lf_Md_isOpen M x1 x4 (0 : Int32)) (fun v5 => sn_Lf.ite (sn_Lf.ite (lf_Md_look_80 M (f_Md_look_26 fk2 M n) (g_Md_look_26 k2 n) (lf_Md_look_26 M fk2 k2 hk2 n) x1 x2 x3 x4) (sn_Lf.ite (lf_Md_look_85 M (f_Md_look_26 fk2 M n) (g_Md_look_26 k2 n) (lf_Md_look_26 M fk2 k2 hk2 n) x1 x2 x3 x4 (2 : Int32)) (lf_Md_look_80 M (f_Md_look_26 fk2 M n) (g_Md_look_26 k2 n) (lf_Md_look_26 M fk2 k2 hk2 n) x1 x2 x3 x4))) (lf_Md_look_160 M (f_Md_look_26 fk2 M n) (g_Md_look_26 k2 n) (lf_Md_look_26 M fk2 k2 hk2 n) x1 x2 x3 x4)))))))))
def g_Md_look_2 : Nat → Int32 → Int32 → sn_G
  | 0, _, _ => z_0
  | n + 1, x1, x2 => (if (6 : Int32) ≤ x2 then z_V else (if ¬ x2 = x1 then y_I (g_Md_nextOf x1 x2) fun v6 => g_Md_look_26 (g_Md_look_2 n) sn_fuel x1 x2 v6 (0 : Int32) else g_Md_look_166 (g_Md_look_2 n) x1 x2))
set_option maxHeartbeats 4000000 in
set_option maxRecDepth 100000 in
theorem lf_Md_look_2 (M : Nat) : ∀ (n : Nat) (x1 : Int32) (x2 : Int32), sn_Lf M (f_Md_look_2 M n x1 x2) (g_Md_look_2 n x1 x2)
  | 0, _, _ => sn_Lf.z0
  | n + 1, x1, x2 => sn_Lf.ite (sn_Lf.V) (sn_Lf.ite (sn_Lf.nn (sn_Lf.cI (lf_Md_nextOf M x1 x2) (fun v6 => lf_Md_look_26 M (f_Md_look_2 M n) (g_Md_look_2 n) (lf_Md_look_2 M n) sn_fuel x1 x2 v6 (0 : Int32)))) (lf_Md_look_166 M (f_Md_look_2 M n) (g_Md_look_2 n) (lf_Md_look_2 M n) x1 x2))
def g_Md_look (x1 : Int32) : sn_G := g_Md_look_2 sn_fuel x1 (0 : Int32)
set_option maxHeartbeats 4000000 in
set_option maxRecDepth 100000 in
theorem lf_Md_look (M : Nat) (x1 : Int32) : sn_Lf M (f_Md_look M x1) (g_Md_look x1) := lf_Md_look_2 M sn_fuel x1 (0 : Int32)
def g_Md_start_103 (k52 : Int32 → Int32 → Int32 → sn_G) (x1 : Int32) (x2 : Int32) (x3 : Int32) : sn_G := k52 x1 x2 (x3 + (1 : Int32))
set_option maxHeartbeats 4000000 in
set_option maxRecDepth 100000 in
theorem lf_Md_start_103 (M : Nat) (fk52 : Int32 → Int32 → Int32 → sn_M) (k52 : Int32 → Int32 → Int32 → sn_G) (hk52 : ∀ (x1 : Int32) (x2 : Int32) (x3 : Int32), sn_Lf M (fk52 x1 x2 x3) (k52 x1 x2 x3)) (x1 : Int32) (x2 : Int32) (x3 : Int32) : sn_Lf M (f_Md_start_103 fk52 M x1 x2 x3) (g_Md_start_103 k52 x1 x2 x3) := hk52 x1 x2 (x3 + (1 : Int32))
def g_Md_start_52 : Nat → Int32 → Int32 → Int32 → sn_G
  | 0, _, _, _ => z_0
  | n + 1, x1, x2, x3 => q_S 4 fun v1 => (if v1 ≤ x3 then z_V else (if x3 = (x1 >>> ((1 : Int32) &&& 31)) then g_Md_start_103 (g_Md_start_52 n) x1 x2 x3 else y_I (g_Md_otherOf x1) fun v2 => y_I (g_Md_isOf x3 x2 v2) fun v3 => (if v3 = 0 then g_Md_start_103 (g_Md_start_52 n) x1 x2 x3 else y_I (g_Md_endAt x3 x2) fun v4 => q_I 10 v4 fun v5 => (if ¬ v5 = (5 : Int32) then g_Md_start_103 (g_Md_start_52 n) x1 x2 x3 else w_Z 23 x1 (0 : Int32) (g_Md_start_103 (g_Md_start_52 n) x1 x2 x3)))))
set_option maxHeartbeats 4000000 in
set_option maxRecDepth 100000 in
theorem lf_Md_start_52 (M : Nat) : ∀ (n : Nat) (x1 : Int32) (x2 : Int32) (x3 : Int32), sn_Lf M (f_Md_start_52 M n x1 x2 x3) (g_Md_start_52 n x1 x2 x3)
  | 0, _, _, _ => sn_Lf.z0
  | n + 1, x1, x2, x3 => sn_Lf.gS (k := 4) rfl (fun v1 => sn_Lf.ite (sn_Lf.V) (sn_Lf.ite (lf_Md_start_103 M (f_Md_start_52 M n) (g_Md_start_52 n) (lf_Md_start_52 M n) x1 x2 x3) (sn_Lf.nn (sn_Lf.cI (lf_Md_otherOf M x1) (fun v2 => sn_Lf.nn (sn_Lf.cI (lf_Md_isOf M x3 x2 v2) (fun v3 => sn_Lf.ite (lf_Md_start_103 M (f_Md_start_52 M n) (g_Md_start_52 n) (lf_Md_start_52 M n) x1 x2 x3) (sn_Lf.gR (k := 10) (by decide) (sn_Lf.nn (sn_Lf.cI (lf_Md_endAt M x3 x2) (fun v4 => sn_Lf.aI (k := 10) (by decide) (fun v5 => sn_Lf.ite (lf_Md_start_103 M (f_Md_start_52 M n) (g_Md_start_52 n) (lf_Md_start_52 M n) x1 x2 x3) (sn_Lf.gR (k := 23) (by decide) (sn_Lf.bZ (k := 23) (by decide) (lf_Md_start_103 M (f_Md_start_52 M n) (g_Md_start_52 n) (lf_Md_start_52 M n) x1 x2 x3)))))))))))))))
def g_Md_start (x1 : Int32) : sn_G := y_I (g_Md_exchangeOf x1) fun v6 => w_I 10 x1 (1 : Int32) (q_S 6 fun v7 => w_I 11 x1 (v7 + (30 : Int32)) (q_I 37 x1 fun v8 => w_I 37 x1 ((v8 + (1 : Int32)) &&& (15 : Int32)) (w_Z 23 x1 (1 : Int32) (g_Md_start_52 sn_fuel x1 v6 (0 : Int32)))))
set_option maxHeartbeats 4000000 in
set_option maxRecDepth 100000 in
theorem lf_Md_start (M : Nat) (x1 : Int32) : sn_Lf M (f_Md_start M x1) (g_Md_start x1) := sn_Lf.nn (sn_Lf.cI (lf_Md_exchangeOf M x1) (fun v6 => sn_Lf.gR (k := 10) (by decide) (sn_Lf.bI (k := 10) (by decide) (sn_Lf.gR (k := 11) (by decide) (sn_Lf.gS (k := 6) rfl (fun v7 => sn_Lf.bI (k := 11) (by decide) (sn_Lf.gR (k := 37) (by decide) (sn_Lf.gR (k := 37) (by decide) (sn_Lf.aI (k := 37) (by decide) (fun v8 => sn_Lf.bI (k := 37) (by decide) (sn_Lf.gR (k := 23) (by decide) (sn_Lf.bZ (k := 23) (by decide) (lf_Md_start_52 M sn_fuel x1 v6 (0 : Int32))))))))))))))
def g_Md_fail_196 (x3 : Int32) : sn_G := y_V (g_Md_look x3) (z_V)
set_option maxHeartbeats 4000000 in
set_option maxRecDepth 100000 in
theorem lf_Md_fail_196 (M : Nat) (x3 : Int32) : sn_Lf M (f_Md_fail_196 M x3) (g_Md_fail_196 x3) := sn_Lf.nn (sn_Lf.cV (lf_Md_look M x3) (sn_Lf.V))
def g_Md_fail_152 (k85 : Int32 → Int32 → Int32 → Int32 → Int32 → sn_G) (x1 : Int32) (x2 : Int32) (x3 : Int32) (x4 : Int32) (x6 : Int32) : sn_G := k85 x1 x2 x3 x4 (x6 + (1 : Int32))
set_option maxHeartbeats 4000000 in
set_option maxRecDepth 100000 in
theorem lf_Md_fail_152 (M : Nat) (fk85 : Int32 → Int32 → Int32 → Int32 → Int32 → sn_M) (k85 : Int32 → Int32 → Int32 → Int32 → Int32 → sn_G) (hk85 : ∀ (x1 : Int32) (x2 : Int32) (x3 : Int32) (x4 : Int32) (x6 : Int32), sn_Lf M (fk85 x1 x2 x3 x4 x6) (k85 x1 x2 x3 x4 x6)) (x1 : Int32) (x2 : Int32) (x3 : Int32) (x4 : Int32) (x6 : Int32) : sn_Lf M (f_Md_fail_152 fk85 M x1 x2 x3 x4 x6) (g_Md_fail_152 k85 x1 x2 x3 x4 x6) := hk85 x1 x2 x3 x4 (x6 + (1 : Int32))
def g_Md_fail_85 : Nat → Int32 → Int32 → Int32 → Int32 → Int32 → sn_G
  | 0, _, _, _, _, _ => z_0
  | n + 1, x1, x2, x3, x4, x6 => (if (4 : Int32) ≤ x6 then (if ¬ x2 = 0 then g_Md_fail_196 x3 else q_I 37 x1 fun v2 => q_I 13 x1 fun v3 => y_J (g_Md_message (1 : Int32) x3 x4 (0 : Int32) ((x1 >>> ((1 : Int32) &&& 31)) + ((16 : Int32) * v2)) v3) fun v4 => y_V (g_Md_otherWay x3 x4 v4) (g_Md_fail_196 x3)) else y_I (g_Md_flowAt x3 x4 x6) fun v6 => q_I 41 v6 fun v7 => (if v7 = (x1 >>> ((1 : Int32) &&& 31)) then w_I 41 v6 (-1 : Int32) (w_I 42 v6 (1 : Int32) (w_I 43 v6 (x1 >>> ((1 : Int32) &&& 31)) (w_I 44 v6 (0 : Int32) (g_Md_fail_152 (g_Md_fail_85 n) x1 x2 x3 x4 x6)))) else g_Md_fail_152 (g_Md_fail_85 n) x1 x2 x3 x4 x6))
set_option maxHeartbeats 4000000 in
set_option maxRecDepth 100000 in
theorem lf_Md_fail_85 (M : Nat) : ∀ (n : Nat) (x1 : Int32) (x2 : Int32) (x3 : Int32) (x4 : Int32) (x6 : Int32), sn_Lf M (f_Md_fail_85 M n x1 x2 x3 x4 x6) (g_Md_fail_85 n x1 x2 x3 x4 x6)
  | 0, _, _, _, _, _ => sn_Lf.z0
  | n + 1, x1, x2, x3, x4, x6 => sn_Lf.ite (sn_Lf.ite (lf_Md_fail_196 M x3) (sn_Lf.gR (k := 37) (by decide) (sn_Lf.aI (k := 37) (by decide) (fun v2 => sn_Lf.gR (k := 13) (by decide) (sn_Lf.aI (k := 13) (by decide) (fun v3 => sn_Lf.cJ (lf_Md_message M (1 : Int32) x3 x4 (0 : Int32) ((x1 >>> ((1 : Int32) &&& 31)) + ((16 : Int32) * v2)) v3) (fun v4 => sn_Lf.nn (sn_Lf.cV (lf_Md_otherWay M x3 x4 v4) (lf_Md_fail_196 M x3))))))))) (sn_Lf.nn (sn_Lf.cI (lf_Md_flowAt M x3 x4 x6) (fun v6 => sn_Lf.gR (k := 41) (by decide) (sn_Lf.aI (k := 41) (by decide) (fun v7 => sn_Lf.ite (sn_Lf.gR (k := 41) (by decide) (sn_Lf.bI (k := 41) (by decide) (sn_Lf.gR (k := 42) (by decide) (sn_Lf.bI (k := 42) (by decide) (sn_Lf.gR (k := 43) (by decide) (sn_Lf.bI (k := 43) (by decide) (sn_Lf.gR (k := 44) (by decide) (sn_Lf.bI (k := 44) (by decide) (lf_Md_fail_152 M (f_Md_fail_85 M n) (g_Md_fail_85 n) (lf_Md_fail_85 M n) x1 x2 x3 x4 x6))))))))) (lf_Md_fail_152 M (f_Md_fail_85 M n) (g_Md_fail_85 n) (lf_Md_fail_85 M n) x1 x2 x3 x4 x6))))))
def g_Md_fail_28 (x1 : Int32) (x2 : Int32) (x3 : Int32) (x4 : Int32) (t0 : Int32) : sn_G := w_I 10 x1 (0 : Int32) (q_S 6 fun v8 => w_I 11 x1 (v8 + (12 : Int32)) (w_I 20 x1 (0 : Int32) (w_I 21 x1 (-1 : Int32) ((if t0 = 0 then g_Md_fail_196 x3 else q_S 6 fun v9 => w_I 40 x1 (v9 + (10 : Int32)) (g_Md_fail_85 sn_fuel x1 x2 x3 x4 (0 : Int32)))))))
set_option maxHeartbeats 4000000 in
set_option maxRecDepth 100000 in
theorem lf_Md_fail_28 (M : Nat) (x1 : Int32) (x2 : Int32) (x3 : Int32) (x4 : Int32) (t0 : Int32) : sn_Lf M (f_Md_fail_28 M x1 x2 x3 x4 t0) (g_Md_fail_28 x1 x2 x3 x4 t0) := sn_Lf.gR (k := 10) (by decide) (sn_Lf.bI (k := 10) (by decide) (sn_Lf.gR (k := 11) (by decide) (sn_Lf.gS (k := 6) rfl (fun v8 => sn_Lf.bI (k := 11) (by decide) (sn_Lf.gR (k := 20) (by decide) (sn_Lf.bI (k := 20) (by decide) (sn_Lf.gR (k := 21) (by decide) (sn_Lf.bI (k := 21) (by decide) (sn_Lf.ite (lf_Md_fail_196 M x3) (sn_Lf.gR (k := 40) (by decide) (sn_Lf.gS (k := 6) rfl (fun v9 => sn_Lf.bI (k := 40) (by decide) (lf_Md_fail_85 M sn_fuel x1 x2 x3 x4 (0 : Int32))))))))))))))
def g_Md_fail (x1 : Int32) (x2 : Int32) : sn_G := y_I (g_Md_exchangeOf x1) fun v10 => y_I (g_Md_otherOf x1) fun v11 => q_I 10 x1 fun v12 => (if ¬ v12 = (5 : Int32) then g_Md_fail_28 x1 x2 v10 v11 (0 : Int32) else g_Md_fail_28 x1 x2 v10 v11 (1 : Int32))
set_option maxHeartbeats 4000000 in
set_option maxRecDepth 100000 in
theorem lf_Md_fail (M : Nat) (x1 : Int32) (x2 : Int32) : sn_Lf M (f_Md_fail M x1 x2) (g_Md_fail x1 x2) := sn_Lf.nn (sn_Lf.cI (lf_Md_exchangeOf M x1) (fun v10 => sn_Lf.nn (sn_Lf.cI (lf_Md_otherOf M x1) (fun v11 => sn_Lf.gR (k := 10) (by decide) (sn_Lf.aI (k := 10) (by decide) (fun v12 => sn_Lf.ite (lf_Md_fail_28 M x1 x2 v10 v11 (0 : Int32)) (lf_Md_fail_28 M x1 x2 v10 v11 (1 : Int32))))))))
def g_Md_up_45 (k18 : Int32 → Int32 → Int32 → Int32 → sn_G) (x2 : Int32) (x3 : Int32) (x5 : Int32) (t0 : Int32) : sn_G := k18 x2 x3 t0 (x5 + (1 : Int32))
set_option maxHeartbeats 4000000 in
set_option maxRecDepth 100000 in
theorem lf_Md_up_45 (M : Nat) (fk18 : Int32 → Int32 → Int32 → Int32 → sn_M) (k18 : Int32 → Int32 → Int32 → Int32 → sn_G) (hk18 : ∀ (x2 : Int32) (x3 : Int32) (x4 : Int32) (x5 : Int32), sn_Lf M (fk18 x2 x3 x4 x5) (k18 x2 x3 x4 x5)) (x2 : Int32) (x3 : Int32) (x5 : Int32) (t0 : Int32) : sn_Lf M (f_Md_up_45 fk18 M x2 x3 x5 t0) (g_Md_up_45 k18 x2 x3 x5 t0) := hk18 x2 x3 t0 (x5 + (1 : Int32))
def g_Md_up_40 (k18 : Int32 → Int32 → Int32 → Int32 → sn_G) (x2 : Int32) (x3 : Int32) (x5 : Int32) : sn_G := g_Md_up_45 k18 x2 x3 x5 (1 : Int32)
set_option maxHeartbeats 4000000 in
set_option maxRecDepth 100000 in
theorem lf_Md_up_40 (M : Nat) (fk18 : Int32 → Int32 → Int32 → Int32 → sn_M) (k18 : Int32 → Int32 → Int32 → Int32 → sn_G) (hk18 : ∀ (x2 : Int32) (x3 : Int32) (x4 : Int32) (x5 : Int32), sn_Lf M (fk18 x2 x3 x4 x5) (k18 x2 x3 x4 x5)) (x2 : Int32) (x3 : Int32) (x5 : Int32) : sn_Lf M (f_Md_up_40 fk18 M x2 x3 x5) (g_Md_up_40 k18 x2 x3 x5) := lf_Md_up_45 M fk18 k18 hk18 x2 x3 x5 (1 : Int32)
def g_Md_up_197 (k56 : Int32 → Int32 → Int32 → Int32 → sn_G) (x2 : Int32) (x3 : Int32) (x4 : Int32) (x5 : Int32) : sn_G := k56 x2 x3 x4 (x5 + (1 : Int32))
set_option maxHeartbeats 4000000 in
set_option maxRecDepth 100000 in
theorem lf_Md_up_197 (M : Nat) (fk56 : Int32 → Int32 → Int32 → Int32 → sn_M) (k56 : Int32 → Int32 → Int32 → Int32 → sn_G) (hk56 : ∀ (x2 : Int32) (x3 : Int32) (x4 : Int32) (x5 : Int32), sn_Lf M (fk56 x2 x3 x4 x5) (k56 x2 x3 x4 x5)) (x2 : Int32) (x3 : Int32) (x4 : Int32) (x5 : Int32) : sn_Lf M (f_Md_up_197 fk56 M x2 x3 x4 x5) (g_Md_up_197 k56 x2 x3 x4 x5) := hk56 x2 x3 x4 (x5 + (1 : Int32))
def g_Md_up_242 (x2 : Int32) : sn_G := y_V (g_Md_look x2) (z_V)
set_option maxHeartbeats 4000000 in
set_option maxRecDepth 100000 in
theorem lf_Md_up_242 (M : Nat) (x2 : Int32) : sn_Lf M (f_Md_up_242 M x2) (g_Md_up_242 x2) := sn_Lf.nn (sn_Lf.cV (lf_Md_look M x2) (sn_Lf.V))
def g_Md_up_206 : Nat → Int32 → Int32 → Int32 → Int32 → sn_G
  | 0, _, _, _, _ => z_0
  | n + 1, x2, x3, x4, x5 => (if (6 : Int32) ≤ x5 then g_Md_up_242 x2 else (if ¬ x4 = 0 then g_Md_up_242 x2 else w_I 49 ((((36 : Int32) * x2) + ((6 : Int32) * x3)) + x5) (0 : Int32) (g_Md_up_206 n x2 x3 x4 (x5 + (1 : Int32)))))
set_option maxHeartbeats 4000000 in
set_option maxRecDepth 100000 in
theorem lf_Md_up_206 (M : Nat) : ∀ (n : Nat) (x2 : Int32) (x3 : Int32) (x4 : Int32) (x5 : Int32), sn_Lf M (f_Md_up_206 M n x2 x3 x4 x5) (g_Md_up_206 n x2 x3 x4 x5)
  | 0, _, _, _, _ => sn_Lf.z0
  | n + 1, x2, x3, x4, x5 => sn_Lf.ite (lf_Md_up_242 M x2) (sn_Lf.ite (lf_Md_up_242 M x2) (sn_Lf.gR (k := 49) (by decide) (sn_Lf.bI (k := 49) (by decide) (lf_Md_up_206 M n x2 x3 x4 (x5 + (1 : Int32))))))
def g_Md_up_56 : Nat → Int32 → Int32 → Int32 → Int32 → sn_G
  | 0, _, _, _, _ => z_0
  | n + 1, x2, x3, x4, x5 => (if (4 : Int32) ≤ x5 then g_Md_up_206 sn_fuel x2 x3 x4 (0 : Int32) else y_I (g_Md_flowAt x2 x3 x5) fun v2 => q_I 42 v2 fun v3 => (if v3 = 0 then y_I (g_Md_bestOf x2 x3 x5) fun v4 => q_I 41 v2 fun v5 => (if ¬ v5 = (-1 : Int32) then q_I 41 v2 fun v6 => (if v4 = v6 then g_Md_up_197 (g_Md_up_56 n) x2 x3 x4 x5 else q_I 45 v2 fun v7 => w_I 45 v2 ((v7 + (1 : Int32)) &&& (255 : Int32)) (q_I 45 v2 fun v8 => y_J (g_Md_message (3 : Int32) x2 x3 x5 x5 v8) fun v9 => y_V (g_Md_give x2 x3 x5 v9) (w_I 42 v2 (2 : Int32) (q_S 6 fun v11 => w_I 44 v2 (v11 + (20 : Int32)) (g_Md_up_197 (g_Md_up_56 n) x2 x3 x4 x5))))) else w_I 41 v2 v4 (g_Md_up_197 (g_Md_up_56 n) x2 x3 x4 x5)) else g_Md_up_197 (g_Md_up_56 n) x2 x3 x4 x5))
set_option maxHeartbeats 4000000 in
set_option maxRecDepth 100000 in
theorem lf_Md_up_56 (M : Nat) : ∀ (n : Nat) (x2 : Int32) (x3 : Int32) (x4 : Int32) (x5 : Int32), sn_Lf M (f_Md_up_56 M n x2 x3 x4 x5) (g_Md_up_56 n x2 x3 x4 x5)
  | 0, _, _, _, _ => sn_Lf.z0
  | n + 1, x2, x3, x4, x5 => sn_Lf.ite (lf_Md_up_206 M sn_fuel x2 x3 x4 (0 : Int32)) (sn_Lf.nn (sn_Lf.cI (lf_Md_flowAt M x2 x3 x5) (fun v2 => sn_Lf.gR (k := 42) (by decide) (sn_Lf.aI (k := 42) (by decide) (fun v3 => sn_Lf.ite (sn_Lf.nn (sn_Lf.cI (lf_Md_bestOf M x2 x3 x5) (fun v4 => sn_Lf.gR (k := 41) (by decide) (sn_Lf.aI (k := 41) (by decide) (fun v5 => sn_Lf.ite (sn_Lf.gR (k := 41) (by decide) (sn_Lf.aI (k := 41) (by decide) (fun v6 => sn_Lf.ite (lf_Md_up_197 M (f_Md_up_56 M n) (g_Md_up_56 n) (lf_Md_up_56 M n) x2 x3 x4 x5) (sn_Lf.gR (k := 45) (by decide) (sn_Lf.gR (k := 45) (by decide) (sn_Lf.aI (k := 45) (by decide) (fun v7 => sn_Lf.bI (k := 45) (by decide) (sn_Lf.gR (k := 45) (by decide) (sn_Lf.aI (k := 45) (by decide) (fun v8 => sn_Lf.cJ (lf_Md_message M (3 : Int32) x2 x3 x5 x5 v8) (fun v9 => sn_Lf.nn (sn_Lf.cV (lf_Md_give M x2 x3 x5 v9) (sn_Lf.gR (k := 42) (by decide) (sn_Lf.bI (k := 42) (by decide) (sn_Lf.gR (k := 44) (by decide) (sn_Lf.gS (k := 6) rfl (fun v11 => sn_Lf.bI (k := 44) (by decide) (lf_Md_up_197 M (f_Md_up_56 M n) (g_Md_up_56 n) (lf_Md_up_56 M n) x2 x3 x4 x5)))))))))))))))))) (sn_Lf.gR (k := 41) (by decide) (sn_Lf.bI (k := 41) (by decide) (lf_Md_up_197 M (f_Md_up_56 M n) (g_Md_up_56 n) (lf_Md_up_56 M n) x2 x3 x4 x5)))))))) (lf_Md_up_197 M (f_Md_up_56 M n) (g_Md_up_56 n) (lf_Md_up_56 M n) x2 x3 x4 x5))))))
def g_Md_up_18 : Nat → Int32 → Int32 → Int32 → Int32 → sn_G
  | 0, _, _, _, _ => z_0
  | n + 1, x2, x3, x4, x5 => (if (4 : Int32) ≤ x5 then g_Md_up_56 sn_fuel x2 x3 x4 (0 : Int32) else (if ¬ x4 = 0 then g_Md_up_40 (g_Md_up_18 n) x2 x3 x5 else y_I (g_Md_isOpen x2 x3 x5) fun v12 => (if v12 = 0 then g_Md_up_45 (g_Md_up_18 n) x2 x3 x5 (0 : Int32) else g_Md_up_40 (g_Md_up_18 n) x2 x3 x5)))
set_option maxHeartbeats 4000000 in
set_option maxRecDepth 100000 in
theorem lf_Md_up_18 (M : Nat) : ∀ (n : Nat) (x2 : Int32) (x3 : Int32) (x4 : Int32) (x5 : Int32), sn_Lf M (f_Md_up_18 M n x2 x3 x4 x5) (g_Md_up_18 n x2 x3 x4 x5)
  | 0, _, _, _, _ => sn_Lf.z0
  | n + 1, x2, x3, x4, x5 => sn_Lf.ite (lf_Md_up_56 M sn_fuel x2 x3 x4 (0 : Int32)) (sn_Lf.ite (lf_Md_up_40 M (f_Md_up_18 M n) (g_Md_up_18 n) (lf_Md_up_18 M n) x2 x3 x5) (sn_Lf.nn (sn_Lf.cI (lf_Md_isOpen M x2 x3 x5) (fun v12 => sn_Lf.ite (lf_Md_up_45 M (f_Md_up_18 M n) (g_Md_up_18 n) (lf_Md_up_18 M n) x2 x3 x5 (0 : Int32)) (lf_Md_up_40 M (f_Md_up_18 M n) (g_Md_up_18 n) (lf_Md_up_18 M n) x2 x3 x5)))))
def g_Md_up (x1 : Int32) : sn_G := y_I (g_Md_exchangeOf x1) fun v13 => y_I (g_Md_otherOf x1) fun v14 => g_Md_up_18 sn_fuel v13 v14 (0 : Int32) (0 : Int32)
set_option maxHeartbeats 4000000 in
set_option maxRecDepth 100000 in
theorem lf_Md_up (M : Nat) (x1 : Int32) : sn_Lf M (f_Md_up M x1) (g_Md_up x1) := sn_Lf.nn (sn_Lf.cI (lf_Md_exchangeOf M x1) (fun v13 => sn_Lf.nn (sn_Lf.cI (lf_Md_otherOf M x1) (fun v14 => lf_Md_up_18 M sn_fuel v13 v14 (0 : Int32) (0 : Int32)))))
def g_Md_align (x1 : Int32) : sn_G := w_I 10 x1 (2 : Int32) (q_S 6 fun v1 => w_I 11 x1 (v1 + (15 : Int32)) (z_V))
set_option maxHeartbeats 4000000 in
set_option maxRecDepth 100000 in
theorem lf_Md_align (M : Nat) (x1 : Int32) : sn_Lf M (f_Md_align M x1) (g_Md_align x1) := sn_Lf.gR (k := 10) (by decide) (sn_Lf.bI (k := 10) (by decide) (sn_Lf.gR (k := 11) (by decide) (sn_Lf.gS (k := 6) rfl (fun v1 => sn_Lf.bI (k := 11) (by decide) (sn_Lf.V)))))
def g_Md_prove_33 (t1 : Int32) (t2 : Int32) (t3 : Int32) : sn_G := w_I 11 t1 (t2 + t3) (z_V)
set_option maxHeartbeats 4000000 in
set_option maxRecDepth 100000 in
theorem lf_Md_prove_33 (M : Nat) (t1 : Int32) (t2 : Int32) (t3 : Int32) : sn_Lf M (f_Md_prove_33 M (some (md_ad M 11)) t1 t2 t3) (g_Md_prove_33 t1 t2 t3) := sn_Lf.bI (k := 11) (by decide) (sn_Lf.V)
def g_Md_prove (x1 : Int32) (x2 : Int32) : sn_G := w_Z 24 x1 x2 (w_I 18 x1 (0 : Int32) (q_S 6 fun v1 => (if x2 = 0 then g_Md_prove_33 x1 v1 (8 : Int32) else g_Md_prove_33 x1 v1 (3 : Int32))))
set_option maxHeartbeats 4000000 in
set_option maxRecDepth 100000 in
theorem lf_Md_prove (M : Nat) (x1 : Int32) (x2 : Int32) : sn_Lf M (f_Md_prove M x1 x2) (g_Md_prove x1 x2) := sn_Lf.gR (k := 24) (by decide) (sn_Lf.bZ (k := 24) (by decide) (sn_Lf.gR (k := 18) (by decide) (sn_Lf.bI (k := 18) (by decide) (sn_Lf.gR (k := 11) (by decide) (sn_Lf.gS (k := 6) rfl (fun v1 => sn_Lf.ite (lf_Md_prove_33 M x1 v1 (8 : Int32)) (lf_Md_prove_33 M x1 v1 (3 : Int32))))))))
def g_Md_proving_127 : sn_G := z_V
set_option maxHeartbeats 4000000 in
set_option maxRecDepth 100000 in
theorem lf_Md_proving_127 (M : Nat) : sn_Lf M (f_Md_proving_127 M) (g_Md_proving_127) := sn_Lf.V
def g_Md_proving_34 (x1 : Int32) (t0 : Int32) (t1 : Int32) : sn_G := (if t1 ≤ t0 then q_I 17 x1 fun v1 => w_I 17 x1 (v1 + (1 : Int32)) (q_I 17 x1 fun v2 => (if ¬ v2 = (5 : Int32) then q_I 24 x1 fun v3 => y_V (g_Md_prove x1 v3) (g_Md_proving_127) else y_V (g_Md_fail x1 (0 : Int32)) (g_Md_proving_127))) else z_V)
set_option maxHeartbeats 4000000 in
set_option maxRecDepth 100000 in
theorem lf_Md_proving_34 (M : Nat) (x1 : Int32) (t0 : Int32) (t1 : Int32) : sn_Lf M (f_Md_proving_34 M x1 t0 t1) (g_Md_proving_34 x1 t0 t1) := sn_Lf.ite (sn_Lf.gR (k := 17) (by decide) (sn_Lf.aI (k := 17) (by decide) (fun v1 => sn_Lf.bI (k := 17) (by decide) (sn_Lf.gR (k := 17) (by decide) (sn_Lf.aI (k := 17) (by decide) (fun v2 => sn_Lf.ite (sn_Lf.gR (k := 24) (by decide) (sn_Lf.aI (k := 24) (by decide) (fun v3 => sn_Lf.nn (sn_Lf.cV (lf_Md_prove M x1 v3) (lf_Md_proving_127 M))))) (sn_Lf.nn (sn_Lf.cV (lf_Md_fail M x1 (0 : Int32)) (lf_Md_proving_127 M))))))))) (sn_Lf.V)
def g_Md_proving_117 (x1 : Int32) (x3 : Int32) : sn_G := (if ¬ x3 = 0 then g_Md_proving_127 else y_V (g_Md_fail x1 (0 : Int32)) (g_Md_proving_127))
set_option maxHeartbeats 4000000 in
set_option maxRecDepth 100000 in
theorem lf_Md_proving_117 (M : Nat) (x1 : Int32) (x3 : Int32) : sn_Lf M (f_Md_proving_117 M x1 x3) (g_Md_proving_117 x1 x3) := sn_Lf.ite (lf_Md_proving_127 M) (sn_Lf.nn (sn_Lf.cV (lf_Md_fail M x1 (0 : Int32)) (lf_Md_proving_127 M)))
def g_Md_proving (x1 : Int32) (x2 : Int32) (x3 : Int32) : sn_G := (if x2 = 0 then (if ¬ x3 = (1 : Int32) then (if ¬ x3 = (3 : Int32) then g_Md_proving_117 x1 x3 else q_I 24 x1 fun v7 => (if ¬ v7 = 0 then g_Md_proving_117 x1 x3 else y_V (g_Md_prove x1 (1 : Int32)) (g_Md_proving_127))) else y_V (g_Md_align x1) (g_Md_proving_127)) else q_I 18 x1 fun v10 => w_I 18 x1 (v10 + (1 : Int32)) (q_I 18 x1 fun v11 => q_I 24 x1 fun v12 => (if v12 = 0 then g_Md_proving_34 x1 v11 (2 : Int32) else g_Md_proving_34 x1 v11 (1 : Int32))))
set_option maxHeartbeats 4000000 in
set_option maxRecDepth 100000 in
theorem lf_Md_proving (M : Nat) (x1 : Int32) (x2 : Int32) (x3 : Int32) : sn_Lf M (f_Md_proving M x1 x2 x3) (g_Md_proving x1 x2 x3) := sn_Lf.ite (sn_Lf.ite (sn_Lf.ite (lf_Md_proving_117 M x1 x3) (sn_Lf.gR (k := 24) (by decide) (sn_Lf.aI (k := 24) (by decide) (fun v7 => sn_Lf.ite (lf_Md_proving_117 M x1 x3) (sn_Lf.nn (sn_Lf.cV (lf_Md_prove M x1 (1 : Int32)) (lf_Md_proving_127 M))))))) (sn_Lf.nn (sn_Lf.cV (lf_Md_align M x1) (lf_Md_proving_127 M)))) (sn_Lf.gR (k := 18) (by decide) (sn_Lf.aI (k := 18) (by decide) (fun v10 => sn_Lf.bI (k := 18) (by decide) (sn_Lf.gR (k := 18) (by decide) (sn_Lf.aI (k := 18) (by decide) (fun v11 => sn_Lf.gR (k := 24) (by decide) (sn_Lf.aI (k := 24) (by decide) (fun v12 => sn_Lf.ite (lf_Md_proving_34 M x1 v11 (2 : Int32)) (lf_Md_proving_34 M x1 v11 (1 : Int32))))))))))
def g_Md_acknowledge_136 : sn_G := z_V
set_option maxHeartbeats 4000000 in
set_option maxRecDepth 100000 in
theorem lf_Md_acknowledge_136 (M : Nat) : sn_Lf M (f_Md_acknowledge_136 M) (g_Md_acknowledge_136) := sn_Lf.V
def g_Md_acknowledge_114 (x1 : Int32) : sn_G := q_I 21 x1 fun v1 => q_I 27 x1 fun v2 => (if v1 < v2 then g_Md_acknowledge_136 else w_I 21 x1 (-1 : Int32) (g_Md_acknowledge_136))
set_option maxHeartbeats 4000000 in
set_option maxRecDepth 100000 in
theorem lf_Md_acknowledge_114 (M : Nat) (x1 : Int32) : sn_Lf M (f_Md_acknowledge_114 M x1) (g_Md_acknowledge_114 x1) := sn_Lf.gR (k := 21) (by decide) (sn_Lf.aI (k := 21) (by decide) (fun v1 => sn_Lf.gR (k := 27) (by decide) (sn_Lf.aI (k := 27) (by decide) (fun v2 => sn_Lf.ite (lf_Md_acknowledge_136 M) (sn_Lf.gR (k := 21) (by decide) (sn_Lf.bI (k := 21) (by decide) (lf_Md_acknowledge_136 M)))))))
def g_Md_acknowledge_113 (x1 : Int32) (t1 : Int32) (t2 : Int32) : sn_G := w_I 21 t1 t2 (g_Md_acknowledge_114 x1)
set_option maxHeartbeats 4000000 in
set_option maxRecDepth 100000 in
theorem lf_Md_acknowledge_113 (M : Nat) (x1 : Int32) (t1 : Int32) (t2 : Int32) : sn_Lf M (f_Md_acknowledge_113 M x1 (some (md_ad M 21)) t1 t2) (g_Md_acknowledge_113 x1 t1 t2) := sn_Lf.bI (k := 21) (by decide) (lf_Md_acknowledge_114 M x1)
def g_Md_acknowledge_2 : Nat → Int32 → Int32 → Int32 → sn_G
  | 0, _, _, _ => z_0
  | n + 1, x1, x2, x3 => q_I 27 x1 fun v3 => (if v3 ≤ x3 then q_I 27 x1 fun v4 => w_I 27 x1 (v4 - x2) (q_I 21 x1 fun v5 => (if v5 = (-1 : Int32) then g_Md_acknowledge_114 x1 else q_I 21 x1 fun v6 => (if v6 ≤ x2 then g_Md_acknowledge_113 x1 x1 (0 : Int32) else q_I 21 x1 fun v7 => g_Md_acknowledge_113 x1 x1 (v7 - x2)))) else q_J 25 (((32 : Int32) * x1) + x3) fun v8 => w_J 25 ((((32 : Int32) * x1) + x3) - x2) v8 (q_I 26 (((32 : Int32) * x1) + x3) fun v9 => w_I 26 ((((32 : Int32) * x1) + x3) - x2) v9 (g_Md_acknowledge_2 n x1 x2 (x3 + (1 : Int32)))))
set_option maxHeartbeats 4000000 in
set_option maxRecDepth 100000 in
theorem lf_Md_acknowledge_2 (M : Nat) : ∀ (n : Nat) (x1 : Int32) (x2 : Int32) (x3 : Int32), sn_Lf M (f_Md_acknowledge_2 M n x1 x2 x3) (g_Md_acknowledge_2 n x1 x2 x3)
  | 0, _, _, _ => sn_Lf.z0
  | n + 1, x1, x2, x3 => sn_Lf.gR (k := 27) (by decide) (sn_Lf.aI (k := 27) (by decide) (fun v3 => sn_Lf.ite (sn_Lf.gR (k := 27) (by decide) (sn_Lf.aI (k := 27) (by decide) (fun v4 => sn_Lf.bI (k := 27) (by decide) (sn_Lf.gR (k := 21) (by decide) (sn_Lf.aI (k := 21) (by decide) (fun v5 => sn_Lf.ite (lf_Md_acknowledge_114 M x1) (sn_Lf.gR (k := 21) (by decide) (sn_Lf.gR (k := 21) (by decide) (sn_Lf.aI (k := 21) (by decide) (fun v6 => sn_Lf.ite (lf_Md_acknowledge_113 M x1 x1 (0 : Int32)) (sn_Lf.gR (k := 21) (by decide) (sn_Lf.aI (k := 21) (by decide) (fun v7 => lf_Md_acknowledge_113 M x1 x1 (v7 - x2)))))))))))))) (sn_Lf.gR (k := 25) (by decide) (sn_Lf.gR (k := 25) (by decide) (sn_Lf.aJ (k := 25) (by decide) (fun v8 => sn_Lf.bJ (k := 25) (by decide) (sn_Lf.gR (k := 26) (by decide) (sn_Lf.gR (k := 26) (by decide) (sn_Lf.aI (k := 26) (by decide) (fun v9 => sn_Lf.bI (k := 26) (by decide) (lf_Md_acknowledge_2 M n x1 x2 (x3 + (1 : Int32)))))))))))))
def g_Md_acknowledge (x1 : Int32) (x2 : Int32) : sn_G := g_Md_acknowledge_2 sn_fuel x1 x2 x2
set_option maxHeartbeats 4000000 in
set_option maxRecDepth 100000 in
theorem lf_Md_acknowledge (M : Nat) (x1 : Int32) (x2 : Int32) : sn_Lf M (f_Md_acknowledge M x1 x2) (g_Md_acknowledge x1 x2) := lf_Md_acknowledge_2 M sn_fuel x1 x2 x2
def g_Md_backEnds_140 (k95 : Int32 → Int32 → Int32 → Int32 → Int32 → Int32 → sn_G) (x1 : Int32) (x2 : Int32) (x3 : Int32) (x4 : Int32) (x5 : Int32) (x6 : Int32) : sn_G := k95 x1 x2 x3 x4 x5 (x6 + (1 : Int32))
set_option maxHeartbeats 4000000 in
set_option maxRecDepth 100000 in
theorem lf_Md_backEnds_140 (M : Nat) (fk95 : Int32 → Int32 → Int32 → Int32 → Int32 → Int32 → sn_M) (k95 : Int32 → Int32 → Int32 → Int32 → Int32 → Int32 → sn_G) (hk95 : ∀ (x1 : Int32) (x2 : Int32) (x3 : Int32) (x4 : Int32) (x5 : Int32) (x6 : Int32), sn_Lf M (fk95 x1 x2 x3 x4 x5 x6) (k95 x1 x2 x3 x4 x5 x6)) (x1 : Int32) (x2 : Int32) (x3 : Int32) (x4 : Int32) (x5 : Int32) (x6 : Int32) : sn_Lf M (f_Md_backEnds_140 fk95 M x1 x2 x3 x4 x5 x6) (g_Md_backEnds_140 k95 x1 x2 x3 x4 x5 x6) := hk95 x1 x2 x3 x4 x5 (x6 + (1 : Int32))
def g_Md_backEnds_95 : Nat → Int32 → Int32 → Int32 → Int32 → Int32 → Int32 → sn_G
  | 0, _, _, _, _, _, _ => z_0
  | n + 1, x1, x2, x3, x4, x5, x6 => (if x5 ≤ x6 then z_V else q_I 41 x4 fun v1 => (if ¬ v1 = (-1 : Int32) then q_J 63 x6 fun v2 => y_V (g_Md_give x1 x2 x3 v2) (g_Md_backEnds_140 (g_Md_backEnds_95 n) x1 x2 x3 x4 x5 x6) else q_S 7 fun v4 => w_S 7 (v4 + (1 : Int32)) (g_Md_backEnds_140 (g_Md_backEnds_95 n) x1 x2 x3 x4 x5 x6)))
set_option maxHeartbeats 4000000 in
set_option maxRecDepth 100000 in
theorem lf_Md_backEnds_95 (M : Nat) : ∀ (n : Nat) (x1 : Int32) (x2 : Int32) (x3 : Int32) (x4 : Int32) (x5 : Int32) (x6 : Int32), sn_Lf M (f_Md_backEnds_95 M n x1 x2 x3 x4 x5 x6) (g_Md_backEnds_95 n x1 x2 x3 x4 x5 x6)
  | 0, _, _, _, _, _, _ => sn_Lf.z0
  | n + 1, x1, x2, x3, x4, x5, x6 => sn_Lf.ite (sn_Lf.V) (sn_Lf.gR (k := 41) (by decide) (sn_Lf.aI (k := 41) (by decide) (fun v1 => sn_Lf.ite (sn_Lf.gR (k := 63) (by decide) (sn_Lf.aJ (k := 63) (by decide) (fun v2 => sn_Lf.nn (sn_Lf.cV (lf_Md_give M x1 x2 x3 v2) (lf_Md_backEnds_140 M (f_Md_backEnds_95 M n) (g_Md_backEnds_95 n) (lf_Md_backEnds_95 M n) x1 x2 x3 x4 x5 x6))))) (sn_Lf.gS (k := 7) rfl (fun v4 => sn_Lf.pS (k := 7) rfl (lf_Md_backEnds_140 M (f_Md_backEnds_95 M n) (g_Md_backEnds_95 n) (lf_Md_backEnds_95 M n) x1 x2 x3 x4 x5 x6))))))
def g_Md_backEnds_59 : Nat → Int32 → Int32 → Int32 → Int32 → Int32 → Int32 → sn_G
  | 0, _, _, _, _, _, _ => z_0
  | n + 1, x1, x2, x3, x4, x5, x6 => (if x5 ≤ x6 then g_Md_backEnds_95 sn_fuel x1 x2 x3 x4 x5 (0 : Int32) else q_J 46 (((64 : Int32) * x4) + x6) fun v5 => w_J 63 x6 v5 (g_Md_backEnds_59 n x1 x2 x3 x4 x5 (x6 + (1 : Int32))))
set_option maxHeartbeats 4000000 in
set_option maxRecDepth 100000 in
theorem lf_Md_backEnds_59 (M : Nat) : ∀ (n : Nat) (x1 : Int32) (x2 : Int32) (x3 : Int32) (x4 : Int32) (x5 : Int32) (x6 : Int32), sn_Lf M (f_Md_backEnds_59 M n x1 x2 x3 x4 x5 x6) (g_Md_backEnds_59 n x1 x2 x3 x4 x5 x6)
  | 0, _, _, _, _, _, _ => sn_Lf.z0
  | n + 1, x1, x2, x3, x4, x5, x6 => sn_Lf.ite (lf_Md_backEnds_95 M sn_fuel x1 x2 x3 x4 x5 (0 : Int32)) (sn_Lf.gR (k := 63) (by decide) (sn_Lf.gR (k := 46) (by decide) (sn_Lf.aJ (k := 46) (by decide) (fun v5 => sn_Lf.bJ (k := 63) (by decide) (lf_Md_backEnds_59 M n x1 x2 x3 x4 x5 (x6 + (1 : Int32)))))))
def g_Md_backEnds (x1 : Int32) (x2 : Int32) (x3 : Int32) : sn_G := y_I (g_Md_flowAt x1 x2 x3) fun v6 => q_I 47 v6 fun v7 => w_I 42 v6 (0 : Int32) (w_I 44 v6 (0 : Int32) (y_I (g_Md_bestOf x1 x2 x3) fun v8 => w_I 41 v6 v8 (w_I 47 v6 (0 : Int32) (g_Md_backEnds_59 sn_fuel x1 x2 x3 v6 v7 (0 : Int32)))))
set_option maxHeartbeats 4000000 in
set_option maxRecDepth 100000 in
theorem lf_Md_backEnds (M : Nat) (x1 : Int32) (x2 : Int32) (x3 : Int32) : sn_Lf M (f_Md_backEnds M x1 x2 x3) (g_Md_backEnds x1 x2 x3) := sn_Lf.nn (sn_Lf.cI (lf_Md_flowAt M x1 x2 x3) (fun v6 => sn_Lf.gR (k := 47) (by decide) (sn_Lf.aI (k := 47) (by decide) (fun v7 => sn_Lf.gR (k := 42) (by decide) (sn_Lf.bI (k := 42) (by decide) (sn_Lf.gR (k := 44) (by decide) (sn_Lf.bI (k := 44) (by decide) (sn_Lf.gR (k := 41) (by decide) (sn_Lf.nn (sn_Lf.cI (lf_Md_bestOf M x1 x2 x3) (fun v8 => sn_Lf.bI (k := 41) (by decide) (sn_Lf.gR (k := 47) (by decide) (sn_Lf.bI (k := 47) (by decide) (lf_Md_backEnds_59 M sn_fuel x1 x2 x3 v6 v7 (0 : Int32)))))))))))))))
def g_Md_says (x1 : Int32) (x2 : Int32) (x3 : Int32) (x4 : Int32) : sn_G := y_nI ((x1 / (24 : Int32))) fun n1 => y_nI (((x1 % (24 : Int32)) / (4 : Int32))) fun n2 => y_J (g_Md_message x2 n1 n2 (x1 % (4 : Int32)) ((x1 % (4 : Int32)) + ((4 : Int32) * x3)) x4) fun v3 => y_V (g_Md_route n1 n2 v3 (-1 : Int32)) (z_V)
set_option maxHeartbeats 4000000 in
set_option maxRecDepth 100000 in
theorem lf_Md_says (M : Nat) (x1 : Int32) (x2 : Int32) (x3 : Int32) (x4 : Int32) : sn_Lf M (f_Md_says M x1 x2 x3 x4) (g_Md_says x1 x2 x3 x4) := sn_Lf.nI (fun n1 => sn_Lf.nI (fun n2 => sn_Lf.cJ (lf_Md_message M x2 n1 n2 (x1 % (4 : Int32)) ((x1 % (4 : Int32)) + ((4 : Int32) * x3)) x4) (fun v3 => sn_Lf.nn (sn_Lf.cV (lf_Md_route M n1 n2 v3 (-1 : Int32)) (sn_Lf.V)))))
def g_Md_say (x1 : Int32) (x2 : Int32) (x3 : Int32) : sn_G := q_I 59 x1 fun v1 => y_V (g_Md_says x1 x2 v1 x3) (z_V)
set_option maxHeartbeats 4000000 in
set_option maxRecDepth 100000 in
theorem lf_Md_say (M : Nat) (x1 : Int32) (x2 : Int32) (x3 : Int32) : sn_Lf M (f_Md_say M x1 x2 x3) (g_Md_say x1 x2 x3) := sn_Lf.gR (k := 59) (by decide) (sn_Lf.aI (k := 59) (by decide) (fun v1 => sn_Lf.nn (sn_Lf.cV (lf_Md_says M x1 x2 v1 x3) (sn_Lf.V))))
def g_Md_back_61 : sn_G := z_V
set_option maxHeartbeats 4000000 in
set_option maxRecDepth 100000 in
theorem lf_Md_back_61 (M : Nat) : sn_Lf M (f_Md_back_61 M) (g_Md_back_61) := sn_Lf.V
def g_Md_back_38 (x1 : Int32) (x2 : Int32) : sn_G := (if ¬ x2 = (9 : Int32) then g_Md_back_61 else q_I 61 x1 fun v1 => (if ¬ v1 = (2 : Int32) then g_Md_back_61 else w_I 61 x1 (4 : Int32) (g_Md_back_61)))
set_option maxHeartbeats 4000000 in
set_option maxRecDepth 100000 in
theorem lf_Md_back_38 (M : Nat) (x1 : Int32) (x2 : Int32) : sn_Lf M (f_Md_back_38 M x1 x2) (g_Md_back_38 x1 x2) := sn_Lf.ite (lf_Md_back_61 M) (sn_Lf.gR (k := 61) (by decide) (sn_Lf.aI (k := 61) (by decide) (fun v1 => sn_Lf.ite (lf_Md_back_61 M) (sn_Lf.gR (k := 61) (by decide) (sn_Lf.bI (k := 61) (by decide) (lf_Md_back_61 M))))))
def g_Md_back_116 : sn_G := z_V
set_option maxHeartbeats 4000000 in
set_option maxRecDepth 100000 in
theorem lf_Md_back_116 (M : Nat) : sn_Lf M (f_Md_back_116 M) (g_Md_back_116) := sn_Lf.V
def g_Md_back_99 (x2 : Int32) (x3 : Int32) : sn_G := y_V (g_Md_say x3 x2 (0 : Int32)) (q_I 52 x3 fun v3 => w_I 52 x3 (v3 + (1 : Int32)) (g_Md_back_116))
set_option maxHeartbeats 4000000 in
set_option maxRecDepth 100000 in
theorem lf_Md_back_99 (M : Nat) (x2 : Int32) (x3 : Int32) : sn_Lf M (f_Md_back_99 M x2 x3) (g_Md_back_99 x2 x3) := sn_Lf.nn (sn_Lf.cV (lf_Md_say M x3 x2 (0 : Int32)) (sn_Lf.gR (k := 52) (by decide) (sn_Lf.aI (k := 52) (by decide) (fun v3 => sn_Lf.bI (k := 52) (by decide) (lf_Md_back_116 M)))))
def g_Md_back_83 (x2 : Int32) (x3 : Int32) : sn_G := (if ¬ x2 = (9 : Int32) then g_Md_back_116 else q_I 52 x3 fun v4 => (if ¬ v4 = (5 : Int32) then g_Md_back_116 else g_Md_back_99 x2 x3))
set_option maxHeartbeats 4000000 in
set_option maxRecDepth 100000 in
theorem lf_Md_back_83 (M : Nat) (x2 : Int32) (x3 : Int32) : sn_Lf M (f_Md_back_83 M x2 x3) (g_Md_back_83 x2 x3) := sn_Lf.ite (lf_Md_back_116 M) (sn_Lf.gR (k := 52) (by decide) (sn_Lf.aI (k := 52) (by decide) (fun v4 => sn_Lf.ite (lf_Md_back_116 M) (lf_Md_back_99 M x2 x3))))
def g_Md_back (x1 : Int32) (x2 : Int32) : sn_G := (if ¬ x1 = (-1 : Int32) then (if (100 : Int32) ≤ x1 then y_nI ((x1 - (100 : Int32))) fun n5 => (if ¬ x2 = (8 : Int32) then g_Md_back_83 x2 n5 else q_I 52 n5 fun v6 => (if v6 = (4 : Int32) then g_Md_back_99 x2 n5 else g_Md_back_83 x2 n5)) else (if ¬ x2 = (8 : Int32) then g_Md_back_38 x1 x2 else q_I 61 x1 fun v7 => (if ¬ v7 = (1 : Int32) then g_Md_back_38 x1 x2 else w_I 61 x1 (2 : Int32) (g_Md_back_61)))) else z_V)
set_option maxHeartbeats 4000000 in
set_option maxRecDepth 100000 in
theorem lf_Md_back (M : Nat) (x1 : Int32) (x2 : Int32) : sn_Lf M (f_Md_back M x1 x2) (g_Md_back x1 x2) := sn_Lf.ite (sn_Lf.ite (sn_Lf.nI (fun n5 => sn_Lf.ite (lf_Md_back_83 M x2 n5) (sn_Lf.gR (k := 52) (by decide) (sn_Lf.aI (k := 52) (by decide) (fun v6 => sn_Lf.ite (lf_Md_back_99 M x2 n5) (lf_Md_back_83 M x2 n5)))))) (sn_Lf.ite (lf_Md_back_38 M x1 x2) (sn_Lf.gR (k := 61) (by decide) (sn_Lf.aI (k := 61) (by decide) (fun v7 => sn_Lf.ite (lf_Md_back_38 M x1 x2) (sn_Lf.gR (k := 61) (by decide) (sn_Lf.bI (k := 61) (by decide) (lf_Md_back_61 M)))))))) (sn_Lf.V)
def g_Md_becomes_83 : sn_G := z_V
set_option maxHeartbeats 4000000 in
set_option maxRecDepth 100000 in
theorem lf_Md_becomes_83 (M : Nat) : sn_Lf M (f_Md_becomes_83 M) (g_Md_becomes_83) := sn_Lf.V
def g_Md_becomes_76 (x1 : Int32) : sn_G := w_I 60 x1 (0 : Int32) (g_Md_becomes_83)
set_option maxHeartbeats 4000000 in
set_option maxRecDepth 100000 in
theorem lf_Md_becomes_76 (M : Nat) (x1 : Int32) : sn_Lf M (f_Md_becomes_76 M x1) (g_Md_becomes_76 x1) := sn_Lf.gR (k := 60) (by decide) (sn_Lf.bI (k := 60) (by decide) (lf_Md_becomes_83 M))
def g_Md_becomes_66 (x1 : Int32) (x2 : Int32) : sn_G := (if x2 = 0 then g_Md_becomes_76 x1 else (if x2 < (7 : Int32) then g_Md_becomes_83 else g_Md_becomes_76 x1))
set_option maxHeartbeats 4000000 in
set_option maxRecDepth 100000 in
theorem lf_Md_becomes_66 (M : Nat) (x1 : Int32) (x2 : Int32) : sn_Lf M (f_Md_becomes_66 M x1 x2) (g_Md_becomes_66 x1 x2) := sn_Lf.ite (lf_Md_becomes_76 M x1) (sn_Lf.ite (lf_Md_becomes_83 M) (lf_Md_becomes_76 M x1))
def g_Md_becomes_59 (x1 : Int32) (x2 : Int32) : sn_G := w_I 58 x1 (-1 : Int32) (g_Md_becomes_66 x1 x2)
set_option maxHeartbeats 4000000 in
set_option maxRecDepth 100000 in
theorem lf_Md_becomes_59 (M : Nat) (x1 : Int32) (x2 : Int32) : sn_Lf M (f_Md_becomes_59 M x1 x2) (g_Md_becomes_59 x1 x2) := sn_Lf.gR (k := 58) (by decide) (sn_Lf.bI (k := 58) (by decide) (lf_Md_becomes_66 M x1 x2))
def g_Md_becomes_48 (x1 : Int32) (x2 : Int32) (t1 : Int32) (t2 : Int32) : sn_G := w_I 54 t1 t2 ((if x2 = 0 then g_Md_becomes_59 x1 x2 else (if x2 < (7 : Int32) then g_Md_becomes_66 x1 x2 else g_Md_becomes_59 x1 x2)))
set_option maxHeartbeats 4000000 in
set_option maxRecDepth 100000 in
theorem lf_Md_becomes_48 (M : Nat) (x1 : Int32) (x2 : Int32) (t1 : Int32) (t2 : Int32) : sn_Lf M (f_Md_becomes_48 M x1 x2 (some (md_ad M 54)) t1 t2) (g_Md_becomes_48 x1 x2 t1 t2) := sn_Lf.bI (k := 54) (by decide) (sn_Lf.ite (lf_Md_becomes_59 M x1 x2) (sn_Lf.ite (lf_Md_becomes_66 M x1 x2) (lf_Md_becomes_59 M x1 x2)))
def g_Md_becomes_26 (x1 : Int32) (x2 : Int32) (x4 : Int32) (t1 : Int32) (t2 : Int32) : sn_G := w_I 53 t1 t2 ((if ¬ x4 = 0 then q_S 6 fun v1 => g_Md_becomes_48 x1 x2 x1 (v1 + x4) else g_Md_becomes_48 x1 x2 x1 (0 : Int32)))
set_option maxHeartbeats 4000000 in
set_option maxRecDepth 100000 in
theorem lf_Md_becomes_26 (M : Nat) (x1 : Int32) (x2 : Int32) (x4 : Int32) (t1 : Int32) (t2 : Int32) : sn_Lf M (f_Md_becomes_26 M x1 x2 x4 (some (md_ad M 53)) t1 t2) (g_Md_becomes_26 x1 x2 x4 t1 t2) := sn_Lf.bI (k := 53) (by decide) (sn_Lf.gR (k := 54) (by decide) (sn_Lf.ite (sn_Lf.gS (k := 6) rfl (fun v1 => lf_Md_becomes_48 M x1 x2 x1 (v1 + x4))) (lf_Md_becomes_48 M x1 x2 x1 (0 : Int32))))
def g_Md_becomes (x1 : Int32) (x2 : Int32) (x3 : Int32) (x4 : Int32) : sn_G := w_I 52 x1 x2 ((if ¬ x3 = 0 then q_S 6 fun v2 => g_Md_becomes_26 x1 x2 x4 x1 (v2 + x3) else g_Md_becomes_26 x1 x2 x4 x1 (0 : Int32)))
set_option maxHeartbeats 4000000 in
set_option maxRecDepth 100000 in
theorem lf_Md_becomes (M : Nat) (x1 : Int32) (x2 : Int32) (x3 : Int32) (x4 : Int32) : sn_Lf M (f_Md_becomes M x1 x2 x3 x4) (g_Md_becomes x1 x2 x3 x4) := sn_Lf.gR (k := 52) (by decide) (sn_Lf.bI (k := 52) (by decide) (sn_Lf.gR (k := 53) (by decide) (sn_Lf.ite (sn_Lf.gS (k := 6) rfl (fun v2 => lf_Md_becomes_26 M x1 x2 x4 x1 (v2 + x3))) (lf_Md_becomes_26 M x1 x2 x4 x1 (0 : Int32)))))
def g_Md_setLeg_26 : sn_G := z_V
set_option maxHeartbeats 4000000 in
set_option maxRecDepth 100000 in
theorem lf_Md_setLeg_26 (M : Nat) : sn_Lf M (f_Md_setLeg_26 M) (g_Md_setLeg_26) := sn_Lf.V
def g_Md_setLeg (x1 : Int32) (x2 : Int32) : sn_G := (if x1 < (100 : Int32) then w_I 62 x1 x2 (g_Md_setLeg_26) else w_I 57 (x1 - (100 : Int32)) x2 (g_Md_setLeg_26))
set_option maxHeartbeats 4000000 in
set_option maxRecDepth 100000 in
theorem lf_Md_setLeg (M : Nat) (x1 : Int32) (x2 : Int32) : sn_Lf M (f_Md_setLeg M x1 x2) (g_Md_setLeg x1 x2) := sn_Lf.ite (sn_Lf.gR (k := 62) (by decide) (sn_Lf.bI (k := 62) (by decide) (lf_Md_setLeg_26 M))) (sn_Lf.gR (k := 57) (by decide) (sn_Lf.bI (k := 57) (by decide) (lf_Md_setLeg_26 M)))
def g_Md_join (x1 : Int32) (x2 : Int32) : sn_G := y_V (g_Md_setLeg x1 x2) (y_V (g_Md_setLeg x2 x1) (z_V))
set_option maxHeartbeats 4000000 in
set_option maxRecDepth 100000 in
theorem lf_Md_join (M : Nat) (x1 : Int32) (x2 : Int32) : sn_Lf M (f_Md_join M x1 x2) (g_Md_join x1 x2) := sn_Lf.nn (sn_Lf.cV (lf_Md_setLeg M x1 x2) (sn_Lf.nn (sn_Lf.cV (lf_Md_setLeg M x2 x1) (sn_Lf.V))))
def g_Md_legOf_24 (t0 : Int32) : sn_G := z_I t0
set_option maxHeartbeats 4000000 in
set_option maxRecDepth 100000 in
theorem lf_Md_legOf_24 (M : Nat) (t0 : Int32) : sn_Lf M (f_Md_legOf_24 M t0) (g_Md_legOf_24 t0) := sn_Lf.I
def g_Md_legOf (x1 : Int32) : sn_G := (if x1 < (100 : Int32) then q_I 62 x1 fun v1 => g_Md_legOf_24 v1 else q_I 57 (x1 - (100 : Int32)) fun v2 => g_Md_legOf_24 v2)
set_option maxHeartbeats 4000000 in
set_option maxRecDepth 100000 in
theorem lf_Md_legOf (M : Nat) (x1 : Int32) : sn_Lf M (f_Md_legOf M x1) (g_Md_legOf x1) := sn_Lf.ite (sn_Lf.gR (k := 62) (by decide) (sn_Lf.aI (k := 62) (by decide) (fun v1 => lf_Md_legOf_24 M v1))) (sn_Lf.gR (k := 57) (by decide) (sn_Lf.aI (k := 57) (by decide) (fun v2 => lf_Md_legOf_24 M v2)))
def g_Md_part_17 (x1 : Int32) : sn_G := y_V (g_Md_setLeg x1 (-1 : Int32)) (z_V)
set_option maxHeartbeats 4000000 in
set_option maxRecDepth 100000 in
theorem lf_Md_part_17 (M : Nat) (x1 : Int32) : sn_Lf M (f_Md_part_17 M x1) (g_Md_part_17 x1) := sn_Lf.nn (sn_Lf.cV (lf_Md_setLeg M x1 (-1 : Int32)) (sn_Lf.V))
def g_Md_part (x1 : Int32) : sn_G := y_I (g_Md_legOf x1) fun v2 => (if v2 = (-1 : Int32) then g_Md_part_17 x1 else y_V (g_Md_setLeg v2 (-1 : Int32)) (g_Md_part_17 x1))
set_option maxHeartbeats 4000000 in
set_option maxRecDepth 100000 in
theorem lf_Md_part (M : Nat) (x1 : Int32) : sn_Lf M (f_Md_part M x1) (g_Md_part x1) := sn_Lf.nn (sn_Lf.cI (lf_Md_legOf M x1) (fun v2 => sn_Lf.ite (lf_Md_part_17 M x1) (sn_Lf.nn (sn_Lf.cV (lf_Md_setLeg M v2 (-1 : Int32)) (lf_Md_part_17 M x1)))))
def g_Md_letGo_132 : sn_G := z_V
set_option maxHeartbeats 4000000 in
set_option maxRecDepth 100000 in
theorem lf_Md_letGo_132 (M : Nat) : sn_Lf M (f_Md_letGo_132 M) (g_Md_letGo_132) := sn_Lf.V
def g_Md_letGo_76 (t1 : Int32) (t2 : Int32) : sn_G := w_I 61 t1 t2 (g_Md_letGo_132)
set_option maxHeartbeats 4000000 in
set_option maxRecDepth 100000 in
theorem lf_Md_letGo_76 (M : Nat) (t1 : Int32) (t2 : Int32) : sn_Lf M (f_Md_letGo_76 M (some (md_ad M 61)) t1 t2) (g_Md_letGo_76 t1 t2) := sn_Lf.bI (k := 61) (by decide) (lf_Md_letGo_132 M)
def g_Md_letGo_66 (t1 : Int32) : sn_G := g_Md_letGo_76 t1 (5 : Int32)
set_option maxHeartbeats 4000000 in
set_option maxRecDepth 100000 in
theorem lf_Md_letGo_66 (M : Nat) (t1 : Int32) : sn_Lf M (f_Md_letGo_66 M (some (md_ad M 61)) t1) (g_Md_letGo_66 t1) := lf_Md_letGo_76 M t1 (5 : Int32)
def g_Md_letGo (x1 : Int32) : sn_G := (if ¬ x1 = (-1 : Int32) then y_V (g_Md_part x1) ((if (100 : Int32) ≤ x1 then q_I 52 (x1 - (100 : Int32)) fun v2 => (if v2 < (1 : Int32) then g_Md_letGo_132 else q_I 52 (x1 - (100 : Int32)) fun v3 => (if (6 : Int32) < v3 then g_Md_letGo_132 else y_V (g_Md_say (x1 - (100 : Int32)) (10 : Int32) (0 : Int32)) (y_V (g_Md_becomes (x1 - (100 : Int32)) (7 : Int32) (6 : Int32) (30 : Int32)) (g_Md_letGo_132)))) else q_I 61 x1 fun v6 => (if ¬ v6 = (3 : Int32) then q_I 61 x1 fun v7 => (if v7 = (1 : Int32) then g_Md_letGo_66 x1 else q_I 61 x1 fun v8 => (if v8 = (2 : Int32) then g_Md_letGo_66 x1 else q_I 61 x1 fun v9 => (if ¬ v9 = (4 : Int32) then q_I 61 x1 fun v10 => g_Md_letGo_76 x1 v10 else g_Md_letGo_66 x1))) else g_Md_letGo_76 x1 (0 : Int32)))) else z_V)
set_option maxHeartbeats 4000000 in
set_option maxRecDepth 100000 in
theorem lf_Md_letGo (M : Nat) (x1 : Int32) : sn_Lf M (f_Md_letGo M x1) (g_Md_letGo x1) := sn_Lf.ite (sn_Lf.nn (sn_Lf.cV (lf_Md_part M x1) (sn_Lf.ite (sn_Lf.gR (k := 52) (by decide) (sn_Lf.aI (k := 52) (by decide) (fun v2 => sn_Lf.ite (lf_Md_letGo_132 M) (sn_Lf.gR (k := 52) (by decide) (sn_Lf.aI (k := 52) (by decide) (fun v3 => sn_Lf.ite (lf_Md_letGo_132 M) (sn_Lf.nn (sn_Lf.cV (lf_Md_say M (x1 - (100 : Int32)) (10 : Int32) (0 : Int32)) (sn_Lf.nn (sn_Lf.cV (lf_Md_becomes M (x1 - (100 : Int32)) (7 : Int32) (6 : Int32) (30 : Int32)) (lf_Md_letGo_132 M))))))))))) (sn_Lf.gR (k := 61) (by decide) (sn_Lf.gR (k := 61) (by decide) (sn_Lf.aI (k := 61) (by decide) (fun v6 => sn_Lf.ite (sn_Lf.gR (k := 61) (by decide) (sn_Lf.aI (k := 61) (by decide) (fun v7 => sn_Lf.ite (lf_Md_letGo_66 M x1) (sn_Lf.gR (k := 61) (by decide) (sn_Lf.aI (k := 61) (by decide) (fun v8 => sn_Lf.ite (lf_Md_letGo_66 M x1) (sn_Lf.gR (k := 61) (by decide) (sn_Lf.aI (k := 61) (by decide) (fun v9 => sn_Lf.ite (sn_Lf.gR (k := 61) (by decide) (sn_Lf.aI (k := 61) (by decide) (fun v10 => lf_Md_letGo_76 M x1 v10))) (lf_Md_letGo_66 M x1)))))))))) (lf_Md_letGo_76 M x1 (0 : Int32))))))))) (sn_Lf.V)
def g_Md_connect_310 (x2 : Int32) : sn_G := y_V (g_Md_letGo x2) (z_V)
set_option maxHeartbeats 4000000 in
set_option maxRecDepth 100000 in
theorem lf_Md_connect_310 (M : Nat) (x2 : Int32) : sn_Lf M (f_Md_connect_310 M x2) (g_Md_connect_310 x2) := sn_Lf.nn (sn_Lf.cV (lf_Md_letGo M x2) (sn_Lf.V))
def g_Md_connect_304 (k87 : Int32 → Int32 → Int32 → Int32 → Int32 → Int32 → sn_G) (x1 : Int32) (x2 : Int32) (x3 : Int32) (x4 : Int32) (x5 : Int32) (x6 : Int32) : sn_G := k87 x1 x2 x3 x4 x5 (x6 + (1 : Int32))
set_option maxHeartbeats 4000000 in
set_option maxRecDepth 100000 in
theorem lf_Md_connect_304 (M : Nat) (fk87 : Int32 → Int32 → Int32 → Int32 → Int32 → Int32 → sn_M) (k87 : Int32 → Int32 → Int32 → Int32 → Int32 → Int32 → sn_G) (hk87 : ∀ (x1 : Int32) (x2 : Int32) (x3 : Int32) (x4 : Int32) (x5 : Int32) (x6 : Int32), sn_Lf M (fk87 x1 x2 x3 x4 x5 x6) (k87 x1 x2 x3 x4 x5 x6)) (x1 : Int32) (x2 : Int32) (x3 : Int32) (x4 : Int32) (x5 : Int32) (x6 : Int32) : sn_Lf M (f_Md_connect_304 fk87 M x1 x2 x3 x4 x5 x6) (g_Md_connect_304 k87 x1 x2 x3 x4 x5 x6) := hk87 x1 x2 x3 x4 x5 (x6 + (1 : Int32))
def g_Md_connect_298 (k176 : Int32 → Int32 → Int32 → Int32 → Int32 → Int32 → Int32 → Int32 → sn_G) (x1 : Int32) (x2 : Int32) (x3 : Int32) (x4 : Int32) (x5 : Int32) (x6 : Int32) (x7 : Int32) (x8 : Int32) : sn_G := k176 x1 x2 x3 x4 x5 x6 x7 (x8 + (1 : Int32))
set_option maxHeartbeats 4000000 in
set_option maxRecDepth 100000 in
theorem lf_Md_connect_298 (M : Nat) (fk176 : Int32 → Int32 → Int32 → Int32 → Int32 → Int32 → Int32 → Int32 → sn_M) (k176 : Int32 → Int32 → Int32 → Int32 → Int32 → Int32 → Int32 → Int32 → sn_G) (hk176 : ∀ (x1 : Int32) (x2 : Int32) (x3 : Int32) (x4 : Int32) (x5 : Int32) (x6 : Int32) (x7 : Int32) (x8 : Int32), sn_Lf M (fk176 x1 x2 x3 x4 x5 x6 x7 x8) (k176 x1 x2 x3 x4 x5 x6 x7 x8)) (x1 : Int32) (x2 : Int32) (x3 : Int32) (x4 : Int32) (x5 : Int32) (x6 : Int32) (x7 : Int32) (x8 : Int32) : sn_Lf M (f_Md_connect_298 fk176 M x1 x2 x3 x4 x5 x6 x7 x8) (g_Md_connect_298 k176 x1 x2 x3 x4 x5 x6 x7 x8) := hk176 x1 x2 x3 x4 x5 x6 x7 (x8 + (1 : Int32))
def g_Md_connect_176 (k87 : Int32 → Int32 → Int32 → Int32 → Int32 → Int32 → sn_G) : Nat → Int32 → Int32 → Int32 → Int32 → Int32 → Int32 → Int32 → Int32 → sn_G
  | 0, _, _, _, _, _, _, _, _ => z_0
  | n + 1, x1, x2, x3, x4, x5, x6, x7, x8 => (if (4 : Int32) ≤ x8 then g_Md_connect_304 k87 x1 x2 x3 x4 x5 x6 else y_I (g_Md_flowAt x1 x7 x8) fun v2 => q_I 52 v2 fun v3 => (if ¬ v3 = 0 then g_Md_connect_298 (g_Md_connect_176 k87 n) x1 x2 x3 x4 x5 x6 x7 x8 else q_I 55 v2 fun v4 => (if ¬ v4 = 0 then g_Md_connect_298 (g_Md_connect_176 k87 n) x1 x2 x3 x4 x5 x6 x7 x8 else q_I 56 v2 fun v5 => (if v5 = 0 then y_V (g_Md_join x2 ((100 : Int32) + v2)) (y_V (g_Md_becomes v2 (1 : Int32) (20 : Int32) (0 : Int32)) (w_I 58 v2 x3 (q_I 59 v2 fun v8 => w_I 59 v2 ((v8 + (1 : Int32)) &&& (63 : Int32)) (w_I 60 v2 x5 (y_V (g_Md_say v2 (7 : Int32) (x3 + ((64 : Int32) * x5))) (z_V)))))) else g_Md_connect_298 (g_Md_connect_176 k87 n) x1 x2 x3 x4 x5 x6 x7 x8))))
set_option maxHeartbeats 4000000 in
set_option maxRecDepth 100000 in
theorem lf_Md_connect_176 (M : Nat) (fk87 : Int32 → Int32 → Int32 → Int32 → Int32 → Int32 → sn_M) (k87 : Int32 → Int32 → Int32 → Int32 → Int32 → Int32 → sn_G) (hk87 : ∀ (x1 : Int32) (x2 : Int32) (x3 : Int32) (x4 : Int32) (x5 : Int32) (x6 : Int32), sn_Lf M (fk87 x1 x2 x3 x4 x5 x6) (k87 x1 x2 x3 x4 x5 x6)) : ∀ (n : Nat) (x1 : Int32) (x2 : Int32) (x3 : Int32) (x4 : Int32) (x5 : Int32) (x6 : Int32) (x7 : Int32) (x8 : Int32), sn_Lf M (f_Md_connect_176 fk87 M n x1 x2 x3 x4 x5 x6 x7 x8) (g_Md_connect_176 k87 n x1 x2 x3 x4 x5 x6 x7 x8)
  | 0, _, _, _, _, _, _, _, _ => sn_Lf.z0
  | n + 1, x1, x2, x3, x4, x5, x6, x7, x8 => sn_Lf.ite (lf_Md_connect_304 M fk87 k87 hk87 x1 x2 x3 x4 x5 x6) (sn_Lf.nn (sn_Lf.cI (lf_Md_flowAt M x1 x7 x8) (fun v2 => sn_Lf.gR (k := 52) (by decide) (sn_Lf.aI (k := 52) (by decide) (fun v3 => sn_Lf.ite (lf_Md_connect_298 M (f_Md_connect_176 fk87 M n) (g_Md_connect_176 k87 n) (lf_Md_connect_176 M fk87 k87 hk87 n) x1 x2 x3 x4 x5 x6 x7 x8) (sn_Lf.gR (k := 55) (by decide) (sn_Lf.aI (k := 55) (by decide) (fun v4 => sn_Lf.ite (lf_Md_connect_298 M (f_Md_connect_176 fk87 M n) (g_Md_connect_176 k87 n) (lf_Md_connect_176 M fk87 k87 hk87 n) x1 x2 x3 x4 x5 x6 x7 x8) (sn_Lf.gR (k := 56) (by decide) (sn_Lf.aI (k := 56) (by decide) (fun v5 => sn_Lf.ite (sn_Lf.nn (sn_Lf.cV (lf_Md_join M x2 ((100 : Int32) + v2)) (sn_Lf.nn (sn_Lf.cV (lf_Md_becomes M v2 (1 : Int32) (20 : Int32) (0 : Int32)) (sn_Lf.gR (k := 58) (by decide) (sn_Lf.bI (k := 58) (by decide) (sn_Lf.gR (k := 59) (by decide) (sn_Lf.gR (k := 59) (by decide) (sn_Lf.aI (k := 59) (by decide) (fun v8 => sn_Lf.bI (k := 59) (by decide) (sn_Lf.gR (k := 60) (by decide) (sn_Lf.bI (k := 60) (by decide) (sn_Lf.nn (sn_Lf.cV (lf_Md_say M v2 (7 : Int32) (x3 + ((64 : Int32) * x5))) (sn_Lf.V))))))))))))))) (lf_Md_connect_298 M (f_Md_connect_176 fk87 M n) (g_Md_connect_176 k87 n) (lf_Md_connect_176 M fk87 k87 hk87 n) x1 x2 x3 x4 x5 x6 x7 x8))))))))))))
def g_Md_connect_173 (k87 : Int32 → Int32 → Int32 → Int32 → Int32 → Int32 → sn_G) (x1 : Int32) (x2 : Int32) (x3 : Int32) (x4 : Int32) (x5 : Int32) (x6 : Int32) (x7 : Int32) : sn_G := g_Md_connect_176 k87 sn_fuel x1 x2 x3 x4 x5 x6 x7 (0 : Int32)
set_option maxHeartbeats 4000000 in
set_option maxRecDepth 100000 in
theorem lf_Md_connect_173 (M : Nat) (fk87 : Int32 → Int32 → Int32 → Int32 → Int32 → Int32 → sn_M) (k87 : Int32 → Int32 → Int32 → Int32 → Int32 → Int32 → sn_G) (hk87 : ∀ (x1 : Int32) (x2 : Int32) (x3 : Int32) (x4 : Int32) (x5 : Int32) (x6 : Int32), sn_Lf M (fk87 x1 x2 x3 x4 x5 x6) (k87 x1 x2 x3 x4 x5 x6)) (x1 : Int32) (x2 : Int32) (x3 : Int32) (x4 : Int32) (x5 : Int32) (x6 : Int32) (x7 : Int32) : sn_Lf M (f_Md_connect_173 fk87 M x1 x2 x3 x4 x5 x6 x7) (g_Md_connect_173 k87 x1 x2 x3 x4 x5 x6 x7) := lf_Md_connect_176 M fk87 k87 hk87 sn_fuel x1 x2 x3 x4 x5 x6 x7 (0 : Int32)
def g_Md_connect_132 (k87 : Int32 → Int32 → Int32 → Int32 → Int32 → Int32 → sn_G) (x1 : Int32) (x2 : Int32) (x3 : Int32) (x4 : Int32) (x5 : Int32) (x6 : Int32) (t0 : Int32) : sn_G := (if t0 = (-1 : Int32) then g_Md_connect_304 k87 x1 x2 x3 x4 x5 x6 else y_I (g_Md_areNeighbours x1 t0) fun v10 => (if v10 = 0 then g_Md_connect_304 k87 x1 x2 x3 x4 x5 x6 else (if x2 < (100 : Int32) then g_Md_connect_173 k87 x1 x2 x3 x4 x5 x6 t0 else (if ¬ (((x2 - (100 : Int32)) % (24 : Int32)) / (4 : Int32)) = t0 then g_Md_connect_173 k87 x1 x2 x3 x4 x5 x6 t0 else g_Md_connect_304 k87 x1 x2 x3 x4 x5 x6))))
set_option maxHeartbeats 4000000 in
set_option maxRecDepth 100000 in
theorem lf_Md_connect_132 (M : Nat) (fk87 : Int32 → Int32 → Int32 → Int32 → Int32 → Int32 → sn_M) (k87 : Int32 → Int32 → Int32 → Int32 → Int32 → Int32 → sn_G) (hk87 : ∀ (x1 : Int32) (x2 : Int32) (x3 : Int32) (x4 : Int32) (x5 : Int32) (x6 : Int32), sn_Lf M (fk87 x1 x2 x3 x4 x5 x6) (k87 x1 x2 x3 x4 x5 x6)) (x1 : Int32) (x2 : Int32) (x3 : Int32) (x4 : Int32) (x5 : Int32) (x6 : Int32) (t0 : Int32) : sn_Lf M (f_Md_connect_132 fk87 M x1 x2 x3 x4 x5 x6 t0) (g_Md_connect_132 k87 x1 x2 x3 x4 x5 x6 t0) := sn_Lf.ite (lf_Md_connect_304 M fk87 k87 hk87 x1 x2 x3 x4 x5 x6) (sn_Lf.nn (sn_Lf.cI (lf_Md_areNeighbours M x1 t0) (fun v10 => sn_Lf.ite (lf_Md_connect_304 M fk87 k87 hk87 x1 x2 x3 x4 x5 x6) (sn_Lf.ite (lf_Md_connect_173 M fk87 k87 hk87 x1 x2 x3 x4 x5 x6 t0) (sn_Lf.ite (lf_Md_connect_173 M fk87 k87 hk87 x1 x2 x3 x4 x5 x6 t0) (lf_Md_connect_304 M fk87 k87 hk87 x1 x2 x3 x4 x5 x6))))))
def g_Md_connect_87 : Nat → Int32 → Int32 → Int32 → Int32 → Int32 → Int32 → sn_G
  | 0, _, _, _, _, _, _ => z_0
  | n + 1, x1, x2, x3, x4, x5, x6 => (if (2 : Int32) ≤ x6 then g_Md_connect_310 x2 else (if (7 : Int32) ≤ x5 then g_Md_connect_310 x2 else (if ¬ x6 = 0 then q_I 51 (((6 : Int32) * x1) + x4) fun v11 => g_Md_connect_132 (g_Md_connect_87 n) x1 x2 x3 x4 x5 x6 v11 else q_I 50 (((6 : Int32) * x1) + x4) fun v12 => g_Md_connect_132 (g_Md_connect_87 n) x1 x2 x3 x4 x5 x6 v12)))
set_option maxHeartbeats 4000000 in
set_option maxRecDepth 100000 in
theorem lf_Md_connect_87 (M : Nat) : ∀ (n : Nat) (x1 : Int32) (x2 : Int32) (x3 : Int32) (x4 : Int32) (x5 : Int32) (x6 : Int32), sn_Lf M (f_Md_connect_87 M n x1 x2 x3 x4 x5 x6) (g_Md_connect_87 n x1 x2 x3 x4 x5 x6)
  | 0, _, _, _, _, _, _ => sn_Lf.z0
  | n + 1, x1, x2, x3, x4, x5, x6 => sn_Lf.ite (lf_Md_connect_310 M x2) (sn_Lf.ite (lf_Md_connect_310 M x2) (sn_Lf.ite (sn_Lf.gR (k := 51) (by decide) (sn_Lf.aI (k := 51) (by decide) (fun v11 => lf_Md_connect_132 M (f_Md_connect_87 M n) (g_Md_connect_87 n) (lf_Md_connect_87 M n) x1 x2 x3 x4 x5 x6 v11))) (sn_Lf.gR (k := 50) (by decide) (sn_Lf.aI (k := 50) (by decide) (fun v12 => lf_Md_connect_132 M (f_Md_connect_87 M n) (g_Md_connect_87 n) (lf_Md_connect_87 M n) x1 x2 x3 x4 x5 x6 v12)))))
def g_Md_connect_82 (x1 : Int32) (x2 : Int32) (x3 : Int32) (x4 : Int32) (t0 : Int32) : sn_G := g_Md_connect_87 sn_fuel x1 x2 x3 x4 t0 (0 : Int32)
set_option maxHeartbeats 4000000 in
set_option maxRecDepth 100000 in
theorem lf_Md_connect_82 (M : Nat) (x1 : Int32) (x2 : Int32) (x3 : Int32) (x4 : Int32) (t0 : Int32) : sn_Lf M (f_Md_connect_82 M x1 x2 x3 x4 t0) (g_Md_connect_82 x1 x2 x3 x4 t0) := lf_Md_connect_87 M sn_fuel x1 x2 x3 x4 t0 (0 : Int32)
def g_Md_connect (x1 : Int32) (x2 : Int32) (x3 : Int32) : sn_G := y_nI ((x3 / (10 : Int32))) fun n13 => (if ¬ n13 = x1 then (if (100 : Int32) ≤ x2 then q_I 60 (x2 - (100 : Int32)) fun v14 => g_Md_connect_82 x1 x2 x3 n13 (v14 + (1 : Int32)) else g_Md_connect_82 x1 x2 x3 n13 (1 : Int32)) else y_nI ((((4 : Int32) * x1) + (x3 % (10 : Int32)))) fun n15 => q_I 61 n15 fun v16 => (if v16 = 0 then w_I 61 n15 (3 : Int32) (y_V (g_Md_join x2 n15) (y_V (g_Md_back x2 (8 : Int32)) (z_V))) else y_V (g_Md_letGo x2) (z_V)))
set_option maxHeartbeats 4000000 in
set_option maxRecDepth 100000 in
theorem lf_Md_connect (M : Nat) (x1 : Int32) (x2 : Int32) (x3 : Int32) : sn_Lf M (f_Md_connect M x1 x2 x3) (g_Md_connect x1 x2 x3) := sn_Lf.nI (fun n13 => sn_Lf.ite (sn_Lf.ite (sn_Lf.gR (k := 60) (by decide) (sn_Lf.aI (k := 60) (by decide) (fun v14 => lf_Md_connect_82 M x1 x2 x3 n13 (v14 + (1 : Int32))))) (lf_Md_connect_82 M x1 x2 x3 n13 (1 : Int32))) (sn_Lf.nI (fun n15 => sn_Lf.gR (k := 61) (by decide) (sn_Lf.aI (k := 61) (by decide) (fun v16 => sn_Lf.ite (sn_Lf.gR (k := 61) (by decide) (sn_Lf.bI (k := 61) (by decide) (sn_Lf.nn (sn_Lf.cV (lf_Md_join M x2 n15) (sn_Lf.nn (sn_Lf.cV (lf_Md_back M x2 (8 : Int32)) (sn_Lf.V))))))) (sn_Lf.nn (sn_Lf.cV (lf_Md_letGo M x2) (sn_Lf.V))))))))
def g_Md_controls_29 (t0 : Int32) : sn_G := z_Z t0
set_option maxHeartbeats 4000000 in
set_option maxRecDepth 100000 in
theorem lf_Md_controls_29 (M : Nat) (t0 : Int32) : sn_Lf M (f_Md_controls_29 M t0) (g_Md_controls_29 t0) := sn_Lf.Z
def g_Md_controls (x1 : Int32) (x2 : Int32) (x3 : Int32) : sn_G := (if ¬ (x3 &&& (1 : Int32)) = 0 then (if x2 ≤ x1 then g_Md_controls_29 (0 : Int32) else g_Md_controls_29 (1 : Int32)) else (if x1 ≤ x2 then g_Md_controls_29 (0 : Int32) else g_Md_controls_29 (1 : Int32)))
set_option maxHeartbeats 4000000 in
set_option maxRecDepth 100000 in
theorem lf_Md_controls (M : Nat) (x1 : Int32) (x2 : Int32) (x3 : Int32) : sn_Lf M (f_Md_controls M x1 x2 x3) (g_Md_controls x1 x2 x3) := sn_Lf.ite (sn_Lf.ite (lf_Md_controls_29 M (0 : Int32)) (lf_Md_controls_29 M (1 : Int32))) (sn_Lf.ite (lf_Md_controls_29 M (0 : Int32)) (lf_Md_controls_29 M (1 : Int32)))
def g_Md_takeCall (x1 : Int32) (x2 : Int32) (x3 : Int32) : sn_G := y_nI ((x2 &&& (63 : Int32))) fun n1 => y_V (g_Md_becomes x1 (4 : Int32) (0 : Int32) (0 : Int32)) (w_I 60 x1 (x2 >>> ((6 : Int32) &&& 31)) (w_I 59 x1 x3 (w_I 58 x1 n1 (y_V (g_Md_connect (x1 / (24 : Int32)) ((100 : Int32) + x1) n1) (z_V)))))
set_option maxHeartbeats 4000000 in
set_option maxRecDepth 100000 in
theorem lf_Md_takeCall (M : Nat) (x1 : Int32) (x2 : Int32) (x3 : Int32) : sn_Lf M (f_Md_takeCall M x1 x2 x3) (g_Md_takeCall x1 x2 x3) := sn_Lf.nI (fun n1 => sn_Lf.nn (sn_Lf.cV (lf_Md_becomes M x1 (4 : Int32) (0 : Int32) (0 : Int32)) (sn_Lf.gR (k := 60) (by decide) (sn_Lf.bI (k := 60) (by decide) (sn_Lf.gR (k := 59) (by decide) (sn_Lf.bI (k := 59) (by decide) (sn_Lf.gR (k := 58) (by decide) (sn_Lf.bI (k := 58) (by decide) (sn_Lf.nn (sn_Lf.cV (lf_Md_connect M (x1 / (24 : Int32)) ((100 : Int32) + x1) n1) (sn_Lf.V)))))))))))
def g_Md_circuitGets_406 : sn_G := z_V
set_option maxHeartbeats 4000000 in
set_option maxRecDepth 100000 in
theorem lf_Md_circuitGets_406 (M : Nat) : sn_Lf M (f_Md_circuitGets_406 M) (g_Md_circuitGets_406) := sn_Lf.V
def g_Md_circuitGets_255 (x7 : Int32) (x8 : Int32) (x10 : Int32) : sn_G := (if ¬ x10 = 0 then g_Md_circuitGets_406 else w_I 59 x8 x7 (y_V (g_Md_say x8 (12 : Int32) (0 : Int32)) (y_V (g_Md_becomes x8 (8 : Int32) (30 : Int32) (0 : Int32)) (g_Md_circuitGets_406))))
set_option maxHeartbeats 4000000 in
set_option maxRecDepth 100000 in
theorem lf_Md_circuitGets_255 (M : Nat) (x7 : Int32) (x8 : Int32) (x10 : Int32) : sn_Lf M (f_Md_circuitGets_255 M x7 x8 x10) (g_Md_circuitGets_255 x7 x8 x10) := sn_Lf.ite (lf_Md_circuitGets_406 M) (sn_Lf.gR (k := 59) (by decide) (sn_Lf.bI (k := 59) (by decide) (sn_Lf.nn (sn_Lf.cV (lf_Md_say M x8 (12 : Int32) (0 : Int32)) (sn_Lf.nn (sn_Lf.cV (lf_Md_becomes M x8 (8 : Int32) (30 : Int32) (0 : Int32)) (lf_Md_circuitGets_406 M)))))))
def g_Md_circuitGets_240 (x4 : Int32) (x11 : Int32) (t1 : Int32) (t2 : Int32) (t3 : Int32) : sn_G := y_V (g_Md_becomes t1 t2 t3 (0 : Int32)) (y_V (g_Md_back x11 x4) (g_Md_circuitGets_406))
set_option maxHeartbeats 4000000 in
set_option maxRecDepth 100000 in
theorem lf_Md_circuitGets_240 (M : Nat) (x4 : Int32) (x11 : Int32) (t1 : Int32) (t2 : Int32) (t3 : Int32) : sn_Lf M (f_Md_circuitGets_240 M x4 x11 (some M) t1 t2 t3) (g_Md_circuitGets_240 x4 x11 t1 t2 t3) := sn_Lf.nn (sn_Lf.cV (lf_Md_becomes M t1 t2 t3 (0 : Int32)) (sn_Lf.nn (sn_Lf.cV (lf_Md_back M x11 x4) (lf_Md_circuitGets_406 M))))
def g_Md_circuitGets_205 (x4 : Int32) (x7 : Int32) (x8 : Int32) (x9 : Int32) (x10 : Int32) (x11 : Int32) : sn_G := (if ¬ x10 = (x4 - (7 : Int32)) then g_Md_circuitGets_255 x7 x8 x10 else (if x9 = 0 then g_Md_circuitGets_255 x7 x8 x10 else (if ¬ x4 = (8 : Int32) then g_Md_circuitGets_240 x4 x11 x8 (x10 + (1 : Int32)) (0 : Int32) else g_Md_circuitGets_240 x4 x11 x8 (x10 + (1 : Int32)) (60 : Int32))))
set_option maxHeartbeats 4000000 in
set_option maxRecDepth 100000 in
theorem lf_Md_circuitGets_205 (M : Nat) (x4 : Int32) (x7 : Int32) (x8 : Int32) (x9 : Int32) (x10 : Int32) (x11 : Int32) : sn_Lf M (f_Md_circuitGets_205 M x4 x7 x8 x9 x10 x11) (g_Md_circuitGets_205 x4 x7 x8 x9 x10 x11) := sn_Lf.ite (lf_Md_circuitGets_255 M x7 x8 x10) (sn_Lf.ite (lf_Md_circuitGets_255 M x7 x8 x10) (sn_Lf.ite (lf_Md_circuitGets_240 M x4 x11 x8 (x10 + (1 : Int32)) (0 : Int32)) (lf_Md_circuitGets_240 M x4 x11 x8 (x10 + (1 : Int32)) (60 : Int32))))
def g_Md_circuitGets_346 (x11 : Int32) (x12 : Int32) : sn_G := (if x12 = 0 then g_Md_circuitGets_406 else y_V (g_Md_letGo x11) (g_Md_circuitGets_406))
set_option maxHeartbeats 4000000 in
set_option maxRecDepth 100000 in
theorem lf_Md_circuitGets_346 (M : Nat) (x11 : Int32) (x12 : Int32) : sn_Lf M (f_Md_circuitGets_346 M x11 x12) (g_Md_circuitGets_346 x11 x12) := sn_Lf.ite (lf_Md_circuitGets_406 M) (sn_Lf.nn (sn_Lf.cV (lf_Md_letGo M x11) (lf_Md_circuitGets_406 M)))
def g_Md_circuitGets_337 (x8 : Int32) (x11 : Int32) (x12 : Int32) : sn_G := y_V (g_Md_becomes x8 (0 : Int32) (0 : Int32) (0 : Int32)) (g_Md_circuitGets_346 x11 x12)
set_option maxHeartbeats 4000000 in
set_option maxRecDepth 100000 in
theorem lf_Md_circuitGets_337 (M : Nat) (x8 : Int32) (x11 : Int32) (x12 : Int32) : sn_Lf M (f_Md_circuitGets_337 M x8 x11 x12) (g_Md_circuitGets_337 x8 x11 x12) := sn_Lf.nn (sn_Lf.cV (lf_Md_becomes M x8 (0 : Int32) (0 : Int32) (0 : Int32)) (lf_Md_circuitGets_346 M x11 x12))
def g_Md_circuitGets_325 (x4 : Int32) (x8 : Int32) (x11 : Int32) (x12 : Int32) : sn_G := (if ¬ x12 = 0 then g_Md_circuitGets_337 x8 x11 x12 else (if ¬ x4 = (12 : Int32) then g_Md_circuitGets_346 x11 x12 else g_Md_circuitGets_337 x8 x11 x12))
set_option maxHeartbeats 4000000 in
set_option maxRecDepth 100000 in
theorem lf_Md_circuitGets_325 (M : Nat) (x4 : Int32) (x8 : Int32) (x11 : Int32) (x12 : Int32) : sn_Lf M (f_Md_circuitGets_325 M x4 x8 x11 x12) (g_Md_circuitGets_325 x4 x8 x11 x12) := sn_Lf.ite (lf_Md_circuitGets_337 M x8 x11 x12) (sn_Lf.ite (lf_Md_circuitGets_346 M x11 x12) (lf_Md_circuitGets_337 M x8 x11 x12))
def g_Md_circuitGets_292 (x4 : Int32) (x7 : Int32) (x8 : Int32) (x9 : Int32) (x11 : Int32) (x12 : Int32) : sn_G := y_V (g_Md_says x8 (11 : Int32) x7 (0 : Int32)) ((if ¬ x9 = 0 then (if x12 = 0 then g_Md_circuitGets_325 x4 x8 x11 x12 else y_V (g_Md_part ((100 : Int32) + x8)) (g_Md_circuitGets_325 x4 x8 x11 x12)) else g_Md_circuitGets_406))
set_option maxHeartbeats 4000000 in
set_option maxRecDepth 100000 in
theorem lf_Md_circuitGets_292 (M : Nat) (x4 : Int32) (x7 : Int32) (x8 : Int32) (x9 : Int32) (x11 : Int32) (x12 : Int32) : sn_Lf M (f_Md_circuitGets_292 M x4 x7 x8 x9 x11 x12) (g_Md_circuitGets_292 x4 x7 x8 x9 x11 x12) := sn_Lf.nn (sn_Lf.cV (lf_Md_says M x8 (11 : Int32) x7 (0 : Int32)) (sn_Lf.ite (sn_Lf.ite (lf_Md_circuitGets_325 M x4 x8 x11 x12) (sn_Lf.nn (sn_Lf.cV (lf_Md_part M ((100 : Int32) + x8)) (lf_Md_circuitGets_325 M x4 x8 x11 x12)))) (lf_Md_circuitGets_406 M)))
def g_Md_circuitGets_402 (t1 : Int32) (t2 : Int32) : sn_G := w_Z 56 t1 t2 (g_Md_circuitGets_406)
set_option maxHeartbeats 4000000 in
set_option maxRecDepth 100000 in
theorem lf_Md_circuitGets_402 (M : Nat) (t1 : Int32) (t2 : Int32) : sn_Lf M (f_Md_circuitGets_402 M (some (md_ad M 56)) t1 t2) (g_Md_circuitGets_402 t1 t2) := sn_Lf.bZ (k := 56) (by decide) (lf_Md_circuitGets_406 M)
def g_Md_circuitGets_384 (x4 : Int32) (x8 : Int32) : sn_G := (if ¬ x4 = (13 : Int32) then g_Md_circuitGets_402 x8 (0 : Int32) else g_Md_circuitGets_402 x8 (1 : Int32))
set_option maxHeartbeats 4000000 in
set_option maxRecDepth 100000 in
theorem lf_Md_circuitGets_384 (M : Nat) (x4 : Int32) (x8 : Int32) : sn_Lf M (f_Md_circuitGets_384 M x4 x8) (g_Md_circuitGets_384 x4 x8) := sn_Lf.gR (k := 56) (by decide) (sn_Lf.ite (lf_Md_circuitGets_402 M x8 (0 : Int32)) (lf_Md_circuitGets_402 M x8 (1 : Int32)))
def g_Md_circuitGets_202 : sn_G := g_Md_circuitGets_406
set_option maxHeartbeats 4000000 in
set_option maxRecDepth 100000 in
theorem lf_Md_circuitGets_202 (M : Nat) : sn_Lf M (f_Md_circuitGets_202 M) (g_Md_circuitGets_202) := lf_Md_circuitGets_406 M
def g_Md_circuitGets_75 (x1 : Int32) (x2 : Int32) (x4 : Int32) (x5 : Int32) (x6 : Int32) (x7 : Int32) (x8 : Int32) (x9 : Int32) (x10 : Int32) (x11 : Int32) (t0 : Int32) : sn_G := (y_sw x4 [7, 8, 9, 10, 11, 12, 13, 14] [((if ¬ x10 = 0 then (if ¬ x10 = (1 : Int32) then g_Md_circuitGets_406 else y_I (g_Md_controls x1 x2 x6) fun v9 => (if ¬ v9 = 0 then g_Md_circuitGets_406 else q_I 58 x8 fun v10 => y_V (g_Md_part ((100 : Int32) + x8)) (y_V (g_Md_takeCall x8 x5 x7) ((if x11 = (-1 : Int32) then g_Md_circuitGets_202 else y_V (g_Md_connect x1 x11 v10) (g_Md_circuitGets_202)))))) else y_V (g_Md_takeCall x8 x5 x7) (g_Md_circuitGets_406))), (g_Md_circuitGets_205 x4 x7 x8 x9 x10 x11), (g_Md_circuitGets_205 x4 x7 x8 x9 x10 x11), (g_Md_circuitGets_292 x4 x7 x8 x9 x11 t0), ((if x10 < (7 : Int32) then g_Md_circuitGets_406 else (if x9 = 0 then g_Md_circuitGets_406 else y_V (g_Md_becomes x8 (0 : Int32) (0 : Int32) (0 : Int32)) (g_Md_circuitGets_406)))), (g_Md_circuitGets_292 x4 x7 x8 x9 x11 t0), (g_Md_circuitGets_384 x4 x8), (g_Md_circuitGets_384 x4 x8)] (g_Md_circuitGets_406))
set_option maxHeartbeats 4000000 in
set_option maxRecDepth 100000 in
theorem lf_Md_circuitGets_75 (M : Nat) (x1 : Int32) (x2 : Int32) (x4 : Int32) (x5 : Int32) (x6 : Int32) (x7 : Int32) (x8 : Int32) (x9 : Int32) (x10 : Int32) (x11 : Int32) (t0 : Int32) : sn_Lf M (f_Md_circuitGets_75 M x1 x2 x4 x5 x6 x7 x8 x9 x10 x11 t0) (g_Md_circuitGets_75 x1 x2 x4 x5 x6 x7 x8 x9 x10 x11 t0) := sn_Lf.swC (sn_Lf.ite (sn_Lf.ite (lf_Md_circuitGets_406 M) (sn_Lf.nn (sn_Lf.cI (lf_Md_controls M x1 x2 x6) (fun v9 => sn_Lf.ite (lf_Md_circuitGets_406 M) (sn_Lf.gR (k := 58) (by decide) (sn_Lf.aI (k := 58) (by decide) (fun v10 => sn_Lf.nn (sn_Lf.cV (lf_Md_part M ((100 : Int32) + x8)) (sn_Lf.nn (sn_Lf.cV (lf_Md_takeCall M x8 x5 x7) (sn_Lf.ite (lf_Md_circuitGets_202 M) (sn_Lf.nn (sn_Lf.cV (lf_Md_connect M x1 x11 v10) (lf_Md_circuitGets_202 M)))))))))))))) (sn_Lf.nn (sn_Lf.cV (lf_Md_takeCall M x8 x5 x7) (lf_Md_circuitGets_406 M)))) (sn_Lf.swC (lf_Md_circuitGets_205 M x4 x7 x8 x9 x10 x11) (sn_Lf.swC (lf_Md_circuitGets_205 M x4 x7 x8 x9 x10 x11) (sn_Lf.swC (lf_Md_circuitGets_292 M x4 x7 x8 x9 x11 t0) (sn_Lf.swC (sn_Lf.ite (lf_Md_circuitGets_406 M) (sn_Lf.ite (lf_Md_circuitGets_406 M) (sn_Lf.nn (sn_Lf.cV (lf_Md_becomes M x8 (0 : Int32) (0 : Int32) (0 : Int32)) (lf_Md_circuitGets_406 M))))) (sn_Lf.swC (lf_Md_circuitGets_292 M x4 x7 x8 x9 x11 t0) (sn_Lf.swC (lf_Md_circuitGets_384 M x4 x8) (sn_Lf.swC (lf_Md_circuitGets_384 M x4 x8) (sn_Lf.swN (lf_Md_circuitGets_406 M)))))))))
def g_Md_circuitGets_74 (x1 : Int32) (x2 : Int32) (x4 : Int32) (x5 : Int32) (x6 : Int32) (x7 : Int32) (x8 : Int32) (x9 : Int32) (x10 : Int32) (x11 : Int32) : sn_G := g_Md_circuitGets_75 x1 x2 x4 x5 x6 x7 x8 x9 x10 x11 (0 : Int32)
set_option maxHeartbeats 4000000 in
set_option maxRecDepth 100000 in
theorem lf_Md_circuitGets_74 (M : Nat) (x1 : Int32) (x2 : Int32) (x4 : Int32) (x5 : Int32) (x6 : Int32) (x7 : Int32) (x8 : Int32) (x9 : Int32) (x10 : Int32) (x11 : Int32) : sn_Lf M (f_Md_circuitGets_74 M x1 x2 x4 x5 x6 x7 x8 x9 x10 x11) (g_Md_circuitGets_74 x1 x2 x4 x5 x6 x7 x8 x9 x10 x11) := lf_Md_circuitGets_75 M x1 x2 x4 x5 x6 x7 x8 x9 x10 x11 (0 : Int32)
def g_Md_circuitGets_37 (x1 : Int32) (x2 : Int32) (x4 : Int32) (x5 : Int32) (x6 : Int32) (x7 : Int32) (x8 : Int32) (t0 : Int32) : sn_G := q_I 52 x8 fun v16 => q_I 57 x8 fun v17 => (if v16 < (1 : Int32) then g_Md_circuitGets_74 x1 x2 x4 x5 x6 x7 x8 t0 v16 v17 else (if (6 : Int32) < v16 then g_Md_circuitGets_74 x1 x2 x4 x5 x6 x7 x8 t0 v16 v17 else g_Md_circuitGets_75 x1 x2 x4 x5 x6 x7 x8 t0 v16 v17 (1 : Int32)))
set_option maxHeartbeats 4000000 in
set_option maxRecDepth 100000 in
theorem lf_Md_circuitGets_37 (M : Nat) (x1 : Int32) (x2 : Int32) (x4 : Int32) (x5 : Int32) (x6 : Int32) (x7 : Int32) (x8 : Int32) (t0 : Int32) : sn_Lf M (f_Md_circuitGets_37 M x1 x2 x4 x5 x6 x7 x8 t0) (g_Md_circuitGets_37 x1 x2 x4 x5 x6 x7 x8 t0) := sn_Lf.gR (k := 52) (by decide) (sn_Lf.aI (k := 52) (by decide) (fun v16 => sn_Lf.gR (k := 57) (by decide) (sn_Lf.aI (k := 57) (by decide) (fun v17 => sn_Lf.ite (lf_Md_circuitGets_74 M x1 x2 x4 x5 x6 x7 x8 t0 v16 v17) (sn_Lf.ite (lf_Md_circuitGets_74 M x1 x2 x4 x5 x6 x7 x8 t0 v16 v17) (lf_Md_circuitGets_75 M x1 x2 x4 x5 x6 x7 x8 t0 v16 v17 (1 : Int32)))))))
def g_Md_circuitGets (x1 : Int32) (x2 : Int32) (x3 : Int32) (x4 : Int32) (x5 : Int32) : sn_G := y_nI ((x3 &&& (3 : Int32))) fun n18 => y_nI ((x3 >>> ((2 : Int32) &&& 31))) fun n19 => y_I (g_Md_flowAt x1 x2 n18) fun v20 => q_I 59 v20 fun v21 => (if ¬ n19 = v21 then g_Md_circuitGets_37 x1 x2 x4 x5 n18 n19 v20 (0 : Int32) else g_Md_circuitGets_37 x1 x2 x4 x5 n18 n19 v20 (1 : Int32))
set_option maxHeartbeats 4000000 in
set_option maxRecDepth 100000 in
theorem lf_Md_circuitGets (M : Nat) (x1 : Int32) (x2 : Int32) (x3 : Int32) (x4 : Int32) (x5 : Int32) : sn_Lf M (f_Md_circuitGets M x1 x2 x3 x4 x5) (g_Md_circuitGets x1 x2 x3 x4 x5) := sn_Lf.nI (fun n18 => sn_Lf.nI (fun n19 => sn_Lf.nn (sn_Lf.cI (lf_Md_flowAt M x1 x2 n18) (fun v20 => sn_Lf.gR (k := 59) (by decide) (sn_Lf.aI (k := 59) (by decide) (fun v21 => sn_Lf.ite (lf_Md_circuitGets_37 M x1 x2 x4 x5 n18 n19 v20 (0 : Int32)) (lf_Md_circuitGets_37 M x1 x2 x4 x5 n18 n19 v20 (1 : Int32))))))))
def g_Md_openAt_2 : Nat → Int32 → Int32 → Int32 → sn_G
  | 0, _, _, _ => z_0
  | n + 1, x1, x2, x3 => q_I 27 x1 fun v1 => (if v1 ≤ x3 then z_I (-1 : Int32) else q_I 26 (((32 : Int32) * x1) + x3) fun v2 => (if ¬ v2 = x2 then g_Md_openAt_2 n x1 x2 (x3 + (1 : Int32)) else z_I x3))
set_option maxHeartbeats 4000000 in
set_option maxRecDepth 100000 in
theorem lf_Md_openAt_2 (M : Nat) : ∀ (n : Nat) (x1 : Int32) (x2 : Int32) (x3 : Int32), sn_Lf M (f_Md_openAt_2 M n x1 x2 x3) (g_Md_openAt_2 n x1 x2 x3)
  | 0, _, _, _ => sn_Lf.z0
  | n + 1, x1, x2, x3 => sn_Lf.gR (k := 27) (by decide) (sn_Lf.aI (k := 27) (by decide) (fun v1 => sn_Lf.ite (sn_Lf.I) (sn_Lf.gR (k := 26) (by decide) (sn_Lf.aI (k := 26) (by decide) (fun v2 => sn_Lf.ite (lf_Md_openAt_2 M n x1 x2 (x3 + (1 : Int32))) (sn_Lf.I))))))
def g_Md_openAt (x1 : Int32) (x2 : Int32) : sn_G := g_Md_openAt_2 sn_fuel x1 x2 (0 : Int32)
set_option maxHeartbeats 4000000 in
set_option maxRecDepth 100000 in
theorem lf_Md_openAt (M : Nat) (x1 : Int32) (x2 : Int32) : sn_Lf M (f_Md_openAt M x1 x2) (g_Md_openAt x1 x2) := lf_Md_openAt_2 M sn_fuel x1 x2 (0 : Int32)
def g_Md_overEnds_337 (k211 : Int32 → Int32 → Int32 → Int32 → Int32 → sn_G) (x1 : Int32) (x2 : Int32) (x5 : Int32) (x6 : Int32) (x7 : Int32) : sn_G := k211 x1 x2 x5 x6 (x7 + (1 : Int32))
set_option maxHeartbeats 4000000 in
set_option maxRecDepth 100000 in
theorem lf_Md_overEnds_337 (M : Nat) (fk211 : Int32 → Int32 → Int32 → Int32 → Int32 → sn_M) (k211 : Int32 → Int32 → Int32 → Int32 → Int32 → sn_G) (hk211 : ∀ (x1 : Int32) (x2 : Int32) (x5 : Int32) (x6 : Int32) (x7 : Int32), sn_Lf M (fk211 x1 x2 x5 x6 x7) (k211 x1 x2 x5 x6 x7)) (x1 : Int32) (x2 : Int32) (x5 : Int32) (x6 : Int32) (x7 : Int32) : sn_Lf M (f_Md_overEnds_337 fk211 M x1 x2 x5 x6 x7) (g_Md_overEnds_337 k211 x1 x2 x5 x6 x7) := hk211 x1 x2 x5 x6 (x7 + (1 : Int32))
def g_Md_overEnds_288 (k211 : Int32 → Int32 → Int32 → Int32 → Int32 → sn_G) : Nat → Int32 → Int32 → Int32 → Int32 → Int32 → Int32 → Int32 → sn_G
  | 0, _, _, _, _, _, _, _ => z_0
  | n + 1, x1, x2, x5, x6, x7, x8, x9 => q_I 47 x8 fun v1 => (if v1 ≤ x9 then w_I 47 x8 (0 : Int32) (g_Md_overEnds_337 k211 x1 x2 x5 x6 x7) else q_J 46 (((64 : Int32) * x8) + x9) fun v2 => w_J 63 x6 v2 (g_Md_overEnds_288 k211 n x1 x2 x5 (x6 + (1 : Int32)) x7 x8 (x9 + (1 : Int32))))
set_option maxHeartbeats 4000000 in
set_option maxRecDepth 100000 in
theorem lf_Md_overEnds_288 (M : Nat) (fk211 : Int32 → Int32 → Int32 → Int32 → Int32 → sn_M) (k211 : Int32 → Int32 → Int32 → Int32 → Int32 → sn_G) (hk211 : ∀ (x1 : Int32) (x2 : Int32) (x5 : Int32) (x6 : Int32) (x7 : Int32), sn_Lf M (fk211 x1 x2 x5 x6 x7) (k211 x1 x2 x5 x6 x7)) : ∀ (n : Nat) (x1 : Int32) (x2 : Int32) (x5 : Int32) (x6 : Int32) (x7 : Int32) (x8 : Int32) (x9 : Int32), sn_Lf M (f_Md_overEnds_288 fk211 M n x1 x2 x5 x6 x7 x8 x9) (g_Md_overEnds_288 k211 n x1 x2 x5 x6 x7 x8 x9)
  | 0, _, _, _, _, _, _, _ => sn_Lf.z0
  | n + 1, x1, x2, x5, x6, x7, x8, x9 => sn_Lf.gR (k := 47) (by decide) (sn_Lf.aI (k := 47) (by decide) (fun v1 => sn_Lf.ite (sn_Lf.gR (k := 47) (by decide) (sn_Lf.bI (k := 47) (by decide) (lf_Md_overEnds_337 M fk211 k211 hk211 x1 x2 x5 x6 x7))) (sn_Lf.gR (k := 63) (by decide) (sn_Lf.gR (k := 46) (by decide) (sn_Lf.aJ (k := 46) (by decide) (fun v2 => sn_Lf.bJ (k := 63) (by decide) (lf_Md_overEnds_288 M fk211 k211 hk211 n x1 x2 x5 (x6 + (1 : Int32)) x7 x8 (x9 + (1 : Int32)))))))))
def g_Md_overEnds_451 (k346 : Int32 → Int32 → Int32 → Int32 → sn_G) (x1 : Int32) (x5 : Int32) (x6 : Int32) (x7 : Int32) : sn_G := k346 x1 x5 x6 (x7 + (1 : Int32))
set_option maxHeartbeats 4000000 in
set_option maxRecDepth 100000 in
theorem lf_Md_overEnds_451 (M : Nat) (fk346 : Int32 → Int32 → Int32 → Int32 → sn_M) (k346 : Int32 → Int32 → Int32 → Int32 → sn_G) (hk346 : ∀ (x1 : Int32) (x5 : Int32) (x6 : Int32) (x7 : Int32), sn_Lf M (fk346 x1 x5 x6 x7) (k346 x1 x5 x6 x7)) (x1 : Int32) (x5 : Int32) (x6 : Int32) (x7 : Int32) : sn_Lf M (f_Md_overEnds_451 fk346 M x1 x5 x6 x7) (g_Md_overEnds_451 k346 x1 x5 x6 x7) := hk346 x1 x5 x6 (x7 + (1 : Int32))
def g_Md_overEnds_346 : Nat → Int32 → Int32 → Int32 → Int32 → sn_G
  | 0, _, _, _, _ => z_0
  | n + 1, x1, x5, x6, x7 => (if x6 ≤ x7 then y_V (g_Md_look x1) (z_V) else q_J 63 x7 fun v4 => y_I (g_Md_kindOf v4) fun v5 => (if v5 = (3 : Int32) then g_Md_overEnds_451 (g_Md_overEnds_346 n) x1 x5 x6 x7 else y_I (g_Md_kindOf v4) fun v6 => (if ¬ v6 = (4 : Int32) then y_I (g_Md_flowOf v4) fun v7 => y_I (g_Md_isOpen x1 x5 v7) fun v8 => (if v8 = 0 then y_I (g_Md_kindOf v4) fun v9 => (if v9 < (7 : Int32) then q_S 7 fun v10 => w_S 7 (v10 + (1 : Int32)) (g_Md_overEnds_451 (g_Md_overEnds_346 n) x1 x5 x6 x7) else y_I (g_Md_toOf v4) fun v11 => y_V (g_Md_route x1 v11 v4 (-1 : Int32)) (g_Md_overEnds_451 (g_Md_overEnds_346 n) x1 x5 x6 x7)) else y_I (g_Md_flowOf v4) fun v13 => y_V (g_Md_give x1 x5 v13 v4) (g_Md_overEnds_451 (g_Md_overEnds_346 n) x1 x5 x6 x7)) else g_Md_overEnds_451 (g_Md_overEnds_346 n) x1 x5 x6 x7)))
set_option maxHeartbeats 4000000 in
set_option maxRecDepth 100000 in
theorem lf_Md_overEnds_346 (M : Nat) : ∀ (n : Nat) (x1 : Int32) (x5 : Int32) (x6 : Int32) (x7 : Int32), sn_Lf M (f_Md_overEnds_346 M n x1 x5 x6 x7) (g_Md_overEnds_346 n x1 x5 x6 x7)
  | 0, _, _, _, _ => sn_Lf.z0
  | n + 1, x1, x5, x6, x7 => sn_Lf.ite (sn_Lf.nn (sn_Lf.cV (lf_Md_look M x1) (sn_Lf.V))) (sn_Lf.gR (k := 63) (by decide) (sn_Lf.aJ (k := 63) (by decide) (fun v4 => sn_Lf.cI (lf_Md_kindOf M v4) (fun v5 => sn_Lf.ite (lf_Md_overEnds_451 M (f_Md_overEnds_346 M n) (g_Md_overEnds_346 n) (lf_Md_overEnds_346 M n) x1 x5 x6 x7) (sn_Lf.cI (lf_Md_kindOf M v4) (fun v6 => sn_Lf.ite (sn_Lf.cI (lf_Md_flowOf M v4) (fun v7 => sn_Lf.nn (sn_Lf.cI (lf_Md_isOpen M x1 x5 v7) (fun v8 => sn_Lf.ite (sn_Lf.cI (lf_Md_kindOf M v4) (fun v9 => sn_Lf.ite (sn_Lf.gS (k := 7) rfl (fun v10 => sn_Lf.pS (k := 7) rfl (lf_Md_overEnds_451 M (f_Md_overEnds_346 M n) (g_Md_overEnds_346 n) (lf_Md_overEnds_346 M n) x1 x5 x6 x7))) (sn_Lf.cI (lf_Md_toOf M v4) (fun v11 => sn_Lf.nn (sn_Lf.cV (lf_Md_route M x1 v11 v4 (-1 : Int32)) (lf_Md_overEnds_451 M (f_Md_overEnds_346 M n) (g_Md_overEnds_346 n) (lf_Md_overEnds_346 M n) x1 x5 x6 x7)))))) (sn_Lf.cI (lf_Md_flowOf M v4) (fun v13 => sn_Lf.nn (sn_Lf.cV (lf_Md_give M x1 x5 v13 v4) (lf_Md_overEnds_451 M (f_Md_overEnds_346 M n) (g_Md_overEnds_346 n) (lf_Md_overEnds_346 M n) x1 x5 x6 x7)))))))) (lf_Md_overEnds_451 M (f_Md_overEnds_346 M n) (g_Md_overEnds_346 n) (lf_Md_overEnds_346 M n) x1 x5 x6 x7)))))))
def g_Md_overEnds_211 : Nat → Int32 → Int32 → Int32 → Int32 → Int32 → sn_G
  | 0, _, _, _, _, _ => z_0
  | n + 1, x1, x2, x5, x6, x7 => (if (4 : Int32) ≤ x7 then g_Md_overEnds_346 sn_fuel x1 x5 x6 (0 : Int32) else y_I (g_Md_flowAt x1 x5 x7) fun v15 => q_I 42 v15 fun v16 => (if ¬ v16 = (1 : Int32) then g_Md_overEnds_337 (g_Md_overEnds_211 n) x1 x2 x5 x6 x7 else q_I 43 v15 fun v17 => (if v17 = x2 then w_I 42 v15 (0 : Int32) (w_I 43 v15 (-1 : Int32) (y_I (g_Md_bestOf x1 x5 x7) fun v18 => w_I 41 v15 v18 (g_Md_overEnds_288 (g_Md_overEnds_211 n) sn_fuel x1 x2 x5 x6 x7 v15 (0 : Int32)))) else g_Md_overEnds_337 (g_Md_overEnds_211 n) x1 x2 x5 x6 x7)))
set_option maxHeartbeats 4000000 in
set_option maxRecDepth 100000 in
theorem lf_Md_overEnds_211 (M : Nat) : ∀ (n : Nat) (x1 : Int32) (x2 : Int32) (x5 : Int32) (x6 : Int32) (x7 : Int32), sn_Lf M (f_Md_overEnds_211 M n x1 x2 x5 x6 x7) (g_Md_overEnds_211 n x1 x2 x5 x6 x7)
  | 0, _, _, _, _, _ => sn_Lf.z0
  | n + 1, x1, x2, x5, x6, x7 => sn_Lf.ite (lf_Md_overEnds_346 M sn_fuel x1 x5 x6 (0 : Int32)) (sn_Lf.nn (sn_Lf.cI (lf_Md_flowAt M x1 x5 x7) (fun v15 => sn_Lf.gR (k := 42) (by decide) (sn_Lf.aI (k := 42) (by decide) (fun v16 => sn_Lf.ite (lf_Md_overEnds_337 M (f_Md_overEnds_211 M n) (g_Md_overEnds_211 n) (lf_Md_overEnds_211 M n) x1 x2 x5 x6 x7) (sn_Lf.gR (k := 43) (by decide) (sn_Lf.aI (k := 43) (by decide) (fun v17 => sn_Lf.ite (sn_Lf.gR (k := 42) (by decide) (sn_Lf.bI (k := 42) (by decide) (sn_Lf.gR (k := 43) (by decide) (sn_Lf.bI (k := 43) (by decide) (sn_Lf.gR (k := 41) (by decide) (sn_Lf.nn (sn_Lf.cI (lf_Md_bestOf M x1 x5 x7) (fun v18 => sn_Lf.bI (k := 41) (by decide) (lf_Md_overEnds_288 M (f_Md_overEnds_211 M n) (g_Md_overEnds_211 n) (lf_Md_overEnds_211 M n) sn_fuel x1 x2 x5 x6 x7 v15 (0 : Int32)))))))))) (lf_Md_overEnds_337 M (f_Md_overEnds_211 M n) (g_Md_overEnds_211 n) (lf_Md_overEnds_211 M n) x1 x2 x5 x6 x7)))))))))
def g_Md_overEnds_143 : Nat → Int32 → Int32 → Int32 → Int32 → Int32 → Int32 → sn_G
  | 0, _, _, _, _, _, _ => z_0
  | n + 1, x1, x2, x4, x5, x6, x7 => q_I 29 x4 fun v19 => (if v19 ≤ x7 then w_I 27 x4 (0 : Int32) (w_I 29 x4 (0 : Int32) (w_I 21 x4 (-1 : Int32) (g_Md_overEnds_211 sn_fuel x1 x2 x5 x6 (0 : Int32)))) else q_J 28 (((64 : Int32) * x4) + x7) fun v20 => w_J 63 x6 v20 (g_Md_overEnds_143 n x1 x2 x4 x5 (x6 + (1 : Int32)) (x7 + (1 : Int32))))
set_option maxHeartbeats 4000000 in
set_option maxRecDepth 100000 in
theorem lf_Md_overEnds_143 (M : Nat) : ∀ (n : Nat) (x1 : Int32) (x2 : Int32) (x4 : Int32) (x5 : Int32) (x6 : Int32) (x7 : Int32), sn_Lf M (f_Md_overEnds_143 M n x1 x2 x4 x5 x6 x7) (g_Md_overEnds_143 n x1 x2 x4 x5 x6 x7)
  | 0, _, _, _, _, _, _ => sn_Lf.z0
  | n + 1, x1, x2, x4, x5, x6, x7 => sn_Lf.gR (k := 29) (by decide) (sn_Lf.aI (k := 29) (by decide) (fun v19 => sn_Lf.ite (sn_Lf.gR (k := 27) (by decide) (sn_Lf.bI (k := 27) (by decide) (sn_Lf.gR (k := 29) (by decide) (sn_Lf.bI (k := 29) (by decide) (sn_Lf.gR (k := 21) (by decide) (sn_Lf.bI (k := 21) (by decide) (lf_Md_overEnds_211 M sn_fuel x1 x2 x5 x6 (0 : Int32)))))))) (sn_Lf.gR (k := 63) (by decide) (sn_Lf.gR (k := 28) (by decide) (sn_Lf.aJ (k := 28) (by decide) (fun v20 => sn_Lf.bJ (k := 63) (by decide) (lf_Md_overEnds_143 M n x1 x2 x4 x5 (x6 + (1 : Int32)) (x7 + (1 : Int32)))))))))
def g_Md_overEnds_99 : Nat → Int32 → Int32 → Int32 → Int32 → Int32 → Int32 → sn_G
  | 0, _, _, _, _, _, _ => z_0
  | n + 1, x1, x2, x4, x5, x6, x7 => q_I 27 x4 fun v21 => (if v21 ≤ x7 then g_Md_overEnds_143 sn_fuel x1 x2 x4 x5 x6 (0 : Int32) else q_J 25 (((32 : Int32) * x4) + x7) fun v22 => w_J 63 x6 v22 (g_Md_overEnds_99 n x1 x2 x4 x5 (x6 + (1 : Int32)) (x7 + (1 : Int32))))
set_option maxHeartbeats 4000000 in
set_option maxRecDepth 100000 in
theorem lf_Md_overEnds_99 (M : Nat) : ∀ (n : Nat) (x1 : Int32) (x2 : Int32) (x4 : Int32) (x5 : Int32) (x6 : Int32) (x7 : Int32), sn_Lf M (f_Md_overEnds_99 M n x1 x2 x4 x5 x6 x7) (g_Md_overEnds_99 n x1 x2 x4 x5 x6 x7)
  | 0, _, _, _, _, _, _ => sn_Lf.z0
  | n + 1, x1, x2, x4, x5, x6, x7 => sn_Lf.gR (k := 27) (by decide) (sn_Lf.aI (k := 27) (by decide) (fun v21 => sn_Lf.ite (lf_Md_overEnds_143 M sn_fuel x1 x2 x4 x5 x6 (0 : Int32)) (sn_Lf.gR (k := 63) (by decide) (sn_Lf.gR (k := 25) (by decide) (sn_Lf.aJ (k := 25) (by decide) (fun v22 => sn_Lf.bJ (k := 63) (by decide) (lf_Md_overEnds_99 M n x1 x2 x4 x5 (x6 + (1 : Int32)) (x7 + (1 : Int32)))))))))
def g_Md_overEnds_93 (x1 : Int32) (x2 : Int32) (x4 : Int32) (x5 : Int32) : sn_G := g_Md_overEnds_99 sn_fuel x1 x2 x4 x5 (0 : Int32) (0 : Int32)
set_option maxHeartbeats 4000000 in
set_option maxRecDepth 100000 in
theorem lf_Md_overEnds_93 (M : Nat) (x1 : Int32) (x2 : Int32) (x4 : Int32) (x5 : Int32) : sn_Lf M (f_Md_overEnds_93 M x1 x2 x4 x5) (g_Md_overEnds_93 x1 x2 x4 x5) := lf_Md_overEnds_99 M sn_fuel x1 x2 x4 x5 (0 : Int32) (0 : Int32)
def g_Md_overEnds (x1 : Int32) (x2 : Int32) (x3 : Int32) : sn_G := y_I (g_Md_endAt x2 x1) fun v23 => q_I 40 v23 fun v24 => (if ¬ v24 = 0 then y_I (g_Md_otherOf v23) fun v25 => w_I 40 v23 (0 : Int32) ((if ¬ x3 = (-1 : Int32) then y_I (g_Md_openAt v23 x3) fun v26 => (if v26 = (-1 : Int32) then g_Md_overEnds_93 x1 x2 v23 v25 else y_I (g_Md_openAt v23 x3) fun v27 => y_V (g_Md_acknowledge v23 (v27 + (1 : Int32))) (g_Md_overEnds_93 x1 x2 v23 v25)) else q_S 7 fun v29 => q_I 27 v23 fun v30 => w_S 7 (v29 + v30) (w_I 27 v23 (0 : Int32) (g_Md_overEnds_93 x1 x2 v23 v25)))) else z_V)
set_option maxHeartbeats 4000000 in
set_option maxRecDepth 100000 in
theorem lf_Md_overEnds (M : Nat) (x1 : Int32) (x2 : Int32) (x3 : Int32) : sn_Lf M (f_Md_overEnds M x1 x2 x3) (g_Md_overEnds x1 x2 x3) := sn_Lf.nn (sn_Lf.cI (lf_Md_endAt M x2 x1) (fun v23 => sn_Lf.gR (k := 40) (by decide) (sn_Lf.aI (k := 40) (by decide) (fun v24 => sn_Lf.ite (sn_Lf.nn (sn_Lf.cI (lf_Md_otherOf M v23) (fun v25 => sn_Lf.gR (k := 40) (by decide) (sn_Lf.bI (k := 40) (by decide) (sn_Lf.ite (sn_Lf.nn (sn_Lf.cI (lf_Md_openAt M v23 x3) (fun v26 => sn_Lf.ite (lf_Md_overEnds_93 M x1 x2 v23 v25) (sn_Lf.nn (sn_Lf.cI (lf_Md_openAt M v23 x3) (fun v27 => sn_Lf.nn (sn_Lf.cV (lf_Md_acknowledge M v23 (v27 + (1 : Int32))) (lf_Md_overEnds_93 M x1 x2 v23 v25)))))))) (sn_Lf.gS (k := 7) rfl (fun v29 => sn_Lf.gR (k := 27) (by decide) (sn_Lf.aI (k := 27) (by decide) (fun v30 => sn_Lf.pS (k := 7) rfl (sn_Lf.gR (k := 27) (by decide) (sn_Lf.bI (k := 27) (by decide) (lf_Md_overEnds_93 M x1 x2 v23 v25)))))))))))) (sn_Lf.V)))))
def g_Md_over_47 (x1 : Int32) (x2 : Int32) (x4 : Int32) (x5 : Int32) (x6 : Int32) : sn_G := q_I 37 x6 fun v1 => q_I 13 x6 fun v2 => y_J (g_Md_message (2 : Int32) x1 x2 (0 : Int32) (x5 + ((16 : Int32) * v1)) v2) fun v3 => y_V (g_Md_otherWay x1 x2 v3) (y_V (g_Md_overEnds x1 x5 x4) (z_V))
set_option maxHeartbeats 4000000 in
set_option maxRecDepth 100000 in
theorem lf_Md_over_47 (M : Nat) (x1 : Int32) (x2 : Int32) (x4 : Int32) (x5 : Int32) (x6 : Int32) : sn_Lf M (f_Md_over_47 M x1 x2 x4 x5 x6) (g_Md_over_47 x1 x2 x4 x5 x6) := sn_Lf.gR (k := 37) (by decide) (sn_Lf.aI (k := 37) (by decide) (fun v1 => sn_Lf.gR (k := 13) (by decide) (sn_Lf.aI (k := 13) (by decide) (fun v2 => sn_Lf.cJ (lf_Md_message M (2 : Int32) x1 x2 (0 : Int32) (x5 + ((16 : Int32) * v1)) v2) (fun v3 => sn_Lf.nn (sn_Lf.cV (lf_Md_otherWay M x1 x2 v3) (sn_Lf.nn (sn_Lf.cV (lf_Md_overEnds M x1 x5 x4) (sn_Lf.V)))))))))
def g_Md_over (x1 : Int32) (x2 : Int32) (x3 : Int32) (x4 : Int32) : sn_G := y_nI ((x3 &&& (15 : Int32))) fun n6 => y_I (g_Md_endAt n6 x1) fun v7 => q_I 38 v7 fun v8 => (if (x3 >>> ((4 : Int32) &&& 31)) = v8 then q_I 10 v7 fun v9 => (if ¬ v9 = (5 : Int32) then g_Md_over_47 x1 x2 x4 n6 v7 else y_V (g_Md_fail v7 (1 : Int32)) (g_Md_over_47 x1 x2 x4 n6 v7)) else z_V)
set_option maxHeartbeats 4000000 in
set_option maxRecDepth 100000 in
theorem lf_Md_over (M : Nat) (x1 : Int32) (x2 : Int32) (x3 : Int32) (x4 : Int32) : sn_Lf M (f_Md_over M x1 x2 x3 x4) (g_Md_over x1 x2 x3 x4) := sn_Lf.nI (fun n6 => sn_Lf.nn (sn_Lf.cI (lf_Md_endAt M n6 x1) (fun v7 => sn_Lf.gR (k := 38) (by decide) (sn_Lf.aI (k := 38) (by decide) (fun v8 => sn_Lf.ite (sn_Lf.gR (k := 10) (by decide) (sn_Lf.aI (k := 10) (by decide) (fun v9 => sn_Lf.ite (lf_Md_over_47 M x1 x2 x4 n6 v7) (sn_Lf.nn (sn_Lf.cV (lf_Md_fail M v7 (1 : Int32)) (lf_Md_over_47 M x1 x2 x4 n6 v7)))))) (sn_Lf.V))))))
def g_Md_get_50 : sn_G := z_V
set_option maxHeartbeats 4000000 in
set_option maxRecDepth 100000 in
theorem lf_Md_get_50 (M : Nat) : sn_Lf M (f_Md_get_50 M) (g_Md_get_50) := sn_Lf.V
def g_Md_get_311 : sn_G := z_V
set_option maxHeartbeats 4000000 in
set_option maxRecDepth 100000 in
theorem lf_Md_get_311 (M : Nat) : sn_Lf M (f_Md_get_311 M) (g_Md_get_311) := sn_Lf.V
def g_Md_get_285 (x1 : Int32) (t1 : Int32) (t2 : Int32) : sn_G := w_Z 48 t1 t2 (y_V (g_Md_look x1) (g_Md_get_311))
set_option maxHeartbeats 4000000 in
set_option maxRecDepth 100000 in
theorem lf_Md_get_285 (M : Nat) (x1 : Int32) (t1 : Int32) (t2 : Int32) : sn_Lf M (f_Md_get_285 M x1 (some (md_ad M 48)) t1 t2) (g_Md_get_285 x1 t1 t2) := sn_Lf.bZ (k := 48) (by decide) (sn_Lf.nn (sn_Lf.cV (lf_Md_look M x1) (lf_Md_get_311 M)))
def g_Md_get_255 (x1 : Int32) (l2 : Int64) (x4 : Int32) (x5 : Int32) : sn_G := y_I (g_Md_kindOf l2) fun v2 => (if ¬ v2 = (5 : Int32) then g_Md_get_285 x1 ((((36 : Int32) * x1) + ((6 : Int32) * x4)) + x5) (0 : Int32) else g_Md_get_285 x1 ((((36 : Int32) * x1) + ((6 : Int32) * x4)) + x5) (1 : Int32))
set_option maxHeartbeats 4000000 in
set_option maxRecDepth 100000 in
theorem lf_Md_get_255 (M : Nat) (x1 : Int32) (l2 : Int64) (x4 : Int32) (x5 : Int32) : sn_Lf M (f_Md_get_255 M x1 l2 x4 x5) (g_Md_get_255 x1 l2 x4 x5) := sn_Lf.gR (k := 48) (by decide) (sn_Lf.cI (lf_Md_kindOf M l2) (fun v2 => sn_Lf.ite (lf_Md_get_285 M x1 ((((36 : Int32) * x1) + ((6 : Int32) * x4)) + x5) (0 : Int32)) (lf_Md_get_285 M x1 ((((36 : Int32) * x1) + ((6 : Int32) * x4)) + x5) (1 : Int32))))
def g_Md_get (x1 : Int32) (l2 : Int64) : sn_G := y_I (g_Md_toOf l2) fun v3 => (if v3 = x1 then y_I (g_Md_fromOf l2) fun v4 => y_I (g_Md_oneOf l2) fun v5 => q_S 8 fun v6 => w_S 8 (v6 + (1 : Int32)) (y_I (g_Md_kindOf l2) fun v7 => w_S 9 v7 (y_I (g_Md_kindOf l2) fun v8 => (y_sw v8 [1, 2, 3, 4, 5, 6] [(y_I (g_Md_twoOf l2) fun v9 => y_V (g_Md_over x1 v4 v5 v9) (g_Md_get_311)), (y_I (g_Md_endAt (v5 &&& (15 : Int32)) x1) fun v11 => q_I 38 v11 fun v12 => (if ¬ (v5 >>> ((4 : Int32) &&& 31)) = v12 then g_Md_get_311 else y_I (g_Md_twoOf l2) fun v13 => y_V (g_Md_overEnds x1 (v5 &&& (15 : Int32)) v13) (g_Md_get_311))), (y_I (g_Md_twoOf l2) fun v15 => y_J (g_Md_message (4 : Int32) x1 v4 v5 v5 v15) fun v16 => y_V (g_Md_otherWay x1 v4 v16) (g_Md_get_311)), (y_I (g_Md_flowAt x1 v4 v5) fun v18 => q_I 42 v18 fun v19 => (if ¬ v19 = (2 : Int32) then g_Md_get_311 else y_I (g_Md_flowAt x1 v4 v5) fun v20 => q_I 45 v20 fun v21 => y_I (g_Md_twoOf l2) fun v22 => (if ¬ v21 = v22 then g_Md_get_311 else y_V (g_Md_backEnds x1 v4 v5) (g_Md_get_311)))), (g_Md_get_255 x1 l2 v4 v5), (g_Md_get_255 x1 l2 v4 v5)] (y_I (g_Md_kindOf l2) fun v24 => y_I (g_Md_twoOf l2) fun v25 => y_V (g_Md_circuitGets x1 v4 v5 v24 v25) (g_Md_get_311))))) else y_nJ ((l2 + (1099511627776 : Int64))) fun n27 => y_I (g_Md_hopsOf n27) fun v28 => (if ¬ v28 = (8 : Int32) then y_I (g_Md_toOf l2) fun v29 => y_V (g_Md_route x1 v29 n27 (-1 : Int32)) (g_Md_get_50) else q_S 7 fun v31 => w_S 7 (v31 + (1 : Int32)) (g_Md_get_50)))
set_option maxHeartbeats 4000000 in
set_option maxRecDepth 100000 in
theorem lf_Md_get (M : Nat) (x1 : Int32) (l2 : Int64) : sn_Lf M (f_Md_get M x1 l2) (g_Md_get x1 l2) := sn_Lf.cI (lf_Md_toOf M l2) (fun v3 => sn_Lf.ite (sn_Lf.cI (lf_Md_fromOf M l2) (fun v4 => sn_Lf.cI (lf_Md_oneOf M l2) (fun v5 => sn_Lf.gS (k := 8) rfl (fun v6 => sn_Lf.pS (k := 8) rfl (sn_Lf.cI (lf_Md_kindOf M l2) (fun v7 => sn_Lf.pS (k := 9) rfl (sn_Lf.cI (lf_Md_kindOf M l2) (fun v8 => sn_Lf.swC (sn_Lf.cI (lf_Md_twoOf M l2) (fun v9 => sn_Lf.nn (sn_Lf.cV (lf_Md_over M x1 v4 v5 v9) (lf_Md_get_311 M)))) (sn_Lf.swC (sn_Lf.gR (k := 38) (by decide) (sn_Lf.nn (sn_Lf.cI (lf_Md_endAt M (v5 &&& (15 : Int32)) x1) (fun v11 => sn_Lf.aI (k := 38) (by decide) (fun v12 => sn_Lf.ite (lf_Md_get_311 M) (sn_Lf.cI (lf_Md_twoOf M l2) (fun v13 => sn_Lf.nn (sn_Lf.cV (lf_Md_overEnds M x1 (v5 &&& (15 : Int32)) v13) (lf_Md_get_311 M))))))))) (sn_Lf.swC (sn_Lf.cI (lf_Md_twoOf M l2) (fun v15 => sn_Lf.cJ (lf_Md_message M (4 : Int32) x1 v4 v5 v5 v15) (fun v16 => sn_Lf.nn (sn_Lf.cV (lf_Md_otherWay M x1 v4 v16) (lf_Md_get_311 M))))) (sn_Lf.swC (sn_Lf.gR (k := 42) (by decide) (sn_Lf.nn (sn_Lf.cI (lf_Md_flowAt M x1 v4 v5) (fun v18 => sn_Lf.aI (k := 42) (by decide) (fun v19 => sn_Lf.ite (lf_Md_get_311 M) (sn_Lf.gR (k := 45) (by decide) (sn_Lf.nn (sn_Lf.cI (lf_Md_flowAt M x1 v4 v5) (fun v20 => sn_Lf.aI (k := 45) (by decide) (fun v21 => sn_Lf.cI (lf_Md_twoOf M l2) (fun v22 => sn_Lf.ite (lf_Md_get_311 M) (sn_Lf.nn (sn_Lf.cV (lf_Md_backEnds M x1 v4 v5) (lf_Md_get_311 M)))))))))))))) (sn_Lf.swC (lf_Md_get_255 M x1 l2 v4 v5) (sn_Lf.swC (lf_Md_get_255 M x1 l2 v4 v5) (sn_Lf.swN (sn_Lf.cI (lf_Md_kindOf M l2) (fun v24 => sn_Lf.cI (lf_Md_twoOf M l2) (fun v25 => sn_Lf.nn (sn_Lf.cV (lf_Md_circuitGets M x1 v4 v5 v24 v25) (lf_Md_get_311 M))))))))))))))))))) (sn_Lf.nJ (fun n27 => sn_Lf.cI (lf_Md_hopsOf M n27) (fun v28 => sn_Lf.ite (sn_Lf.cI (lf_Md_toOf M l2) (fun v29 => sn_Lf.nn (sn_Lf.cV (lf_Md_route M x1 v29 n27 (-1 : Int32)) (lf_Md_get_50 M)))) (sn_Lf.gS (k := 7) rfl (fun v31 => sn_Lf.pS (k := 7) rfl (lf_Md_get_50 M)))))))
def g_Md_treat_207 : sn_G := z_V
set_option maxHeartbeats 4000000 in
set_option maxRecDepth 100000 in
theorem lf_Md_treat_207 (M : Nat) : sn_Lf M (f_Md_treat_207 M) (g_Md_treat_207) := sn_Lf.V
def g_Md_treat_178 (x1 : Int32) (x2 : Int32) : sn_G := q_I 31 x2 fun v1 => q_I 13 x1 fun v2 => (if v1 = v2 then g_Md_treat_207 else q_I 15 x1 fun v3 => w_I 15 x1 ((1 : Int32) - v3) (g_Md_treat_207))
set_option maxHeartbeats 4000000 in
set_option maxRecDepth 100000 in
theorem lf_Md_treat_178 (M : Nat) (x1 : Int32) (x2 : Int32) : sn_Lf M (f_Md_treat_178 M x1 x2) (g_Md_treat_178 x1 x2) := sn_Lf.gR (k := 31) (by decide) (sn_Lf.aI (k := 31) (by decide) (fun v1 => sn_Lf.gR (k := 13) (by decide) (sn_Lf.aI (k := 13) (by decide) (fun v2 => sn_Lf.ite (lf_Md_treat_207 M) (sn_Lf.gR (k := 15) (by decide) (sn_Lf.gR (k := 15) (by decide) (sn_Lf.aI (k := 15) (by decide) (fun v3 => sn_Lf.bI (k := 15) (by decide) (lf_Md_treat_207 M)))))))))
def g_Md_treat_102 (x1 : Int32) (x2 : Int32) : sn_G := q_I 32 x2 fun v4 => q_I 15 x1 fun v5 => (if v4 = v5 then q_I 30 x2 fun v6 => (if ¬ v6 = (5 : Int32) then g_Md_treat_178 x1 x2 else q_I 31 x2 fun v7 => q_I 13 x1 fun v8 => (if ¬ v7 = ((v8 + (1 : Int32)) &&& (127 : Int32)) then g_Md_treat_178 x1 x2 else q_I 31 x2 fun v9 => w_I 13 x1 v9 (y_I (g_Md_exchangeOf x1) fun v10 => q_J 35 x2 fun v11 => y_V (g_Md_get v10 v11) (g_Md_treat_207)))) else z_V)
set_option maxHeartbeats 4000000 in
set_option maxRecDepth 100000 in
theorem lf_Md_treat_102 (M : Nat) (x1 : Int32) (x2 : Int32) : sn_Lf M (f_Md_treat_102 M x1 x2) (g_Md_treat_102 x1 x2) := sn_Lf.gR (k := 32) (by decide) (sn_Lf.aI (k := 32) (by decide) (fun v4 => sn_Lf.gR (k := 15) (by decide) (sn_Lf.aI (k := 15) (by decide) (fun v5 => sn_Lf.ite (sn_Lf.gR (k := 30) (by decide) (sn_Lf.aI (k := 30) (by decide) (fun v6 => sn_Lf.ite (lf_Md_treat_178 M x1 x2) (sn_Lf.gR (k := 31) (by decide) (sn_Lf.aI (k := 31) (by decide) (fun v7 => sn_Lf.gR (k := 13) (by decide) (sn_Lf.aI (k := 13) (by decide) (fun v8 => sn_Lf.ite (lf_Md_treat_178 M x1 x2) (sn_Lf.gR (k := 13) (by decide) (sn_Lf.gR (k := 31) (by decide) (sn_Lf.aI (k := 31) (by decide) (fun v9 => sn_Lf.bI (k := 13) (by decide) (sn_Lf.nn (sn_Lf.cI (lf_Md_exchangeOf M x1) (fun v10 => sn_Lf.gR (k := 35) (by decide) (sn_Lf.aJ (k := 35) (by decide) (fun v11 => sn_Lf.nn (sn_Lf.cV (lf_Md_get M v10 v11) (lf_Md_treat_207 M))))))))))))))))))) (sn_Lf.V)))))
def g_Md_treat_101 (x1 : Int32) (x2 : Int32) (t1 : Int32) (t2 : Int32) : sn_G := w_I 21 t1 t2 (g_Md_treat_102 x1 x2)
set_option maxHeartbeats 4000000 in
set_option maxRecDepth 100000 in
theorem lf_Md_treat_101 (M : Nat) (x1 : Int32) (x2 : Int32) (t1 : Int32) (t2 : Int32) : sn_Lf M (f_Md_treat_101 M x1 x2 (some (md_ad M 21)) t1 t2) (g_Md_treat_101 x1 x2 t1 t2) := sn_Lf.bI (k := 21) (by decide) (lf_Md_treat_102 M x1 x2)
def g_Md_treat_55 (x1 : Int32) (x2 : Int32) : sn_G := q_I 34 x2 fun v13 => q_I 14 x1 fun v14 => (if v13 = v14 then g_Md_treat_102 x1 x2 else q_I 34 x2 fun v15 => w_I 14 x1 v15 (q_I 27 x1 fun v16 => (if v16 ≤ 0 then g_Md_treat_101 x1 x2 x1 (-1 : Int32) else g_Md_treat_101 x1 x2 x1 (0 : Int32))))
set_option maxHeartbeats 4000000 in
set_option maxRecDepth 100000 in
theorem lf_Md_treat_55 (M : Nat) (x1 : Int32) (x2 : Int32) : sn_Lf M (f_Md_treat_55 M x1 x2) (g_Md_treat_55 x1 x2) := sn_Lf.gR (k := 34) (by decide) (sn_Lf.aI (k := 34) (by decide) (fun v13 => sn_Lf.gR (k := 14) (by decide) (sn_Lf.aI (k := 14) (by decide) (fun v14 => sn_Lf.ite (lf_Md_treat_102 M x1 x2) (sn_Lf.gR (k := 14) (by decide) (sn_Lf.gR (k := 34) (by decide) (sn_Lf.aI (k := 34) (by decide) (fun v15 => sn_Lf.bI (k := 14) (by decide) (sn_Lf.gR (k := 21) (by decide) (sn_Lf.gR (k := 27) (by decide) (sn_Lf.aI (k := 27) (by decide) (fun v16 => sn_Lf.ite (lf_Md_treat_101 M x1 x2 x1 (-1 : Int32)) (lf_Md_treat_101 M x1 x2 x1 (0 : Int32))))))))))))))
def g_Md_treat_54 (x1 : Int32) (x2 : Int32) (t1 : Int32) (t2 : Int32) : sn_G := w_I 20 t1 t2 (g_Md_treat_55 x1 x2)
set_option maxHeartbeats 4000000 in
set_option maxRecDepth 100000 in
theorem lf_Md_treat_54 (M : Nat) (x1 : Int32) (x2 : Int32) (t1 : Int32) (t2 : Int32) : sn_Lf M (f_Md_treat_54 M x1 x2 (some (md_ad M 20)) t1 t2) (g_Md_treat_54 x1 x2 t1 t2) := sn_Lf.bI (k := 20) (by decide) (lf_Md_treat_55 M x1 x2)
def g_Md_treat (x1 : Int32) : sn_G := y_nI ((x1 ^^^ (1 : Int32))) fun n17 => q_I 33 n17 fun v18 => y_I (g_Md_openAt x1 v18) fun v19 => (if v19 = (-1 : Int32) then g_Md_treat_55 x1 n17 else y_V (g_Md_acknowledge x1 (v19 + (1 : Int32))) (q_I 27 x1 fun v21 => (if v21 ≤ 0 then g_Md_treat_54 x1 n17 x1 (0 : Int32) else q_S 6 fun v22 => g_Md_treat_54 x1 n17 x1 (v22 + (20 : Int32)))))
set_option maxHeartbeats 4000000 in
set_option maxRecDepth 100000 in
theorem lf_Md_treat (M : Nat) (x1 : Int32) : sn_Lf M (f_Md_treat M x1) (g_Md_treat x1) := sn_Lf.nI (fun n17 => sn_Lf.gR (k := 33) (by decide) (sn_Lf.aI (k := 33) (by decide) (fun v18 => sn_Lf.nn (sn_Lf.cI (lf_Md_openAt M x1 v18) (fun v19 => sn_Lf.ite (lf_Md_treat_55 M x1 n17) (sn_Lf.nn (sn_Lf.cV (lf_Md_acknowledge M x1 (v19 + (1 : Int32))) (sn_Lf.gR (k := 20) (by decide) (sn_Lf.gR (k := 27) (by decide) (sn_Lf.aI (k := 27) (by decide) (fun v21 => sn_Lf.ite (lf_Md_treat_54 M x1 n17 x1 (0 : Int32)) (sn_Lf.gS (k := 6) rfl (fun v22 => lf_Md_treat_54 M x1 n17 x1 (v22 + (20 : Int32)))))))))))))))
def g_Md_serving_72 : sn_G := z_V
set_option maxHeartbeats 4000000 in
set_option maxRecDepth 100000 in
theorem lf_Md_serving_72 (M : Nat) : sn_Lf M (f_Md_serving_72 M) (g_Md_serving_72) := sn_Lf.V
def g_Md_serving_99 : sn_G := z_V
set_option maxHeartbeats 4000000 in
set_option maxRecDepth 100000 in
theorem lf_Md_serving_99 (M : Nat) : sn_Lf M (f_Md_serving_99 M) (g_Md_serving_99) := sn_Lf.V
def g_Md_serving_93 (x1 : Int32) : sn_G := y_V (g_Md_fail x1 (0 : Int32)) (g_Md_serving_99)
set_option maxHeartbeats 4000000 in
set_option maxRecDepth 100000 in
theorem lf_Md_serving_93 (M : Nat) (x1 : Int32) : sn_Lf M (f_Md_serving_93 M x1) (g_Md_serving_93 x1) := sn_Lf.nn (sn_Lf.cV (lf_Md_fail M x1 (0 : Int32)) (lf_Md_serving_99 M))
def g_Md_serving_129 (x1 : Int32) : sn_G := y_V (g_Md_treat x1) (z_V)
set_option maxHeartbeats 4000000 in
set_option maxRecDepth 100000 in
theorem lf_Md_serving_129 (M : Nat) (x1 : Int32) : sn_Lf M (f_Md_serving_129 M x1) (g_Md_serving_129 x1) := sn_Lf.nn (sn_Lf.cV (lf_Md_treat M x1) (sn_Lf.V))
def g_Md_serving_41 (x1 : Int32) (x2 : Int32) (x3 : Int32) : sn_G := (if x2 = 0 then (if (4 : Int32) ≤ x3 then q_I 10 x1 fun v3 => (if ¬ v3 = (4 : Int32) then g_Md_serving_129 x1 else w_I 10 x1 (5 : Int32) (w_I 11 x1 (0 : Int32) (y_V (g_Md_up x1) (g_Md_serving_129 x1)))) else q_I 10 x1 fun v5 => (if v5 = (5 : Int32) then g_Md_serving_93 x1 else (if (2 : Int32) ≤ x3 then g_Md_serving_99 else g_Md_serving_93 x1))) else q_I 16 x1 fun v6 => w_I 16 x1 (v6 + (1 : Int32)) (q_I 16 x1 fun v7 => (if ¬ v7 = (6 : Int32) then g_Md_serving_72 else y_V (g_Md_fail x1 (0 : Int32)) (g_Md_serving_72))))
set_option maxHeartbeats 4000000 in
set_option maxRecDepth 100000 in
theorem lf_Md_serving_41 (M : Nat) (x1 : Int32) (x2 : Int32) (x3 : Int32) : sn_Lf M (f_Md_serving_41 M x1 x2 x3) (g_Md_serving_41 x1 x2 x3) := sn_Lf.ite (sn_Lf.ite (sn_Lf.gR (k := 10) (by decide) (sn_Lf.aI (k := 10) (by decide) (fun v3 => sn_Lf.ite (lf_Md_serving_129 M x1) (sn_Lf.gR (k := 10) (by decide) (sn_Lf.bI (k := 10) (by decide) (sn_Lf.gR (k := 11) (by decide) (sn_Lf.bI (k := 11) (by decide) (sn_Lf.nn (sn_Lf.cV (lf_Md_up M x1) (lf_Md_serving_129 M x1)))))))))) (sn_Lf.gR (k := 10) (by decide) (sn_Lf.aI (k := 10) (by decide) (fun v5 => sn_Lf.ite (lf_Md_serving_93 M x1) (sn_Lf.ite (lf_Md_serving_99 M) (lf_Md_serving_93 M x1)))))) (sn_Lf.gR (k := 16) (by decide) (sn_Lf.aI (k := 16) (by decide) (fun v6 => sn_Lf.bI (k := 16) (by decide) (sn_Lf.gR (k := 16) (by decide) (sn_Lf.aI (k := 16) (by decide) (fun v7 => sn_Lf.ite (lf_Md_serving_72 M) (sn_Lf.nn (sn_Lf.cV (lf_Md_fail M x1 (0 : Int32)) (lf_Md_serving_72 M)))))))))
def g_Md_serving (x1 : Int32) (x2 : Int32) (x3 : Int32) : sn_G := q_I 19 x1 fun v9 => w_I 19 x1 (v9 + (1 : Int32)) (q_I 19 x1 fun v10 => (if ¬ (v10 % (16 : Int32)) = 0 then g_Md_serving_41 x1 x2 x3 else q_I 16 x1 fun v11 => (if v11 ≤ 0 then g_Md_serving_41 x1 x2 x3 else q_I 16 x1 fun v12 => w_I 16 x1 (v12 - (1 : Int32)) (g_Md_serving_41 x1 x2 x3))))
set_option maxHeartbeats 4000000 in
set_option maxRecDepth 100000 in
theorem lf_Md_serving (M : Nat) (x1 : Int32) (x2 : Int32) (x3 : Int32) : sn_Lf M (f_Md_serving M x1 x2 x3) (g_Md_serving x1 x2 x3) := sn_Lf.gR (k := 19) (by decide) (sn_Lf.aI (k := 19) (by decide) (fun v9 => sn_Lf.bI (k := 19) (by decide) (sn_Lf.gR (k := 19) (by decide) (sn_Lf.aI (k := 19) (by decide) (fun v10 => sn_Lf.ite (lf_Md_serving_41 M x1 x2 x3) (sn_Lf.gR (k := 16) (by decide) (sn_Lf.aI (k := 16) (by decide) (fun v11 => sn_Lf.ite (lf_Md_serving_41 M x1 x2 x3) (sn_Lf.gR (k := 16) (by decide) (sn_Lf.aI (k := 16) (by decide) (fun v12 => sn_Lf.bI (k := 16) (by decide) (lf_Md_serving_41 M x1 x2 x3))))))))))))
def g_Md_arrive_224 : sn_G := z_V
set_option maxHeartbeats 4000000 in
set_option maxRecDepth 100000 in
theorem lf_Md_arrive_224 (M : Nat) : sn_Lf M (f_Md_arrive_224 M) (g_Md_arrive_224) := sn_Lf.V
def g_Md_arrive_181 (t1 : Int32) (t2 : Int32) : sn_G := y_V (g_Md_prove t1 t2) (g_Md_arrive_224)
set_option maxHeartbeats 4000000 in
set_option maxRecDepth 100000 in
theorem lf_Md_arrive_181 (M : Nat) (t1 : Int32) (t2 : Int32) : sn_Lf M (f_Md_arrive_181 M (some M) t1 t2) (g_Md_arrive_181 t1 t2) := sn_Lf.nn (sn_Lf.cV (lf_Md_prove M t1 t2) (lf_Md_arrive_224 M))
def g_Md_arrive_176 (t1 : Int32) : sn_G := g_Md_arrive_181 t1 (1 : Int32)
set_option maxHeartbeats 4000000 in
set_option maxRecDepth 100000 in
theorem lf_Md_arrive_176 (M : Nat) (t1 : Int32) : sn_Lf M (f_Md_arrive_176 M (some M) t1) (g_Md_arrive_176 t1) := lf_Md_arrive_181 M t1 (1 : Int32)
def g_Md_arrive_146 (x1 : Int32) (x3 : Int32) : sn_G := w_I 10 x1 (3 : Int32) (w_I 17 x1 (1 : Int32) (q_I 23 x1 fun v2 => (if ¬ v2 = 0 then g_Md_arrive_176 x1 else (if ¬ x3 = (3 : Int32) then g_Md_arrive_181 x1 (0 : Int32) else g_Md_arrive_176 x1))))
set_option maxHeartbeats 4000000 in
set_option maxRecDepth 100000 in
theorem lf_Md_arrive_146 (M : Nat) (x1 : Int32) (x3 : Int32) : sn_Lf M (f_Md_arrive_146 M x1 x3) (g_Md_arrive_146 x1 x3) := sn_Lf.gR (k := 10) (by decide) (sn_Lf.bI (k := 10) (by decide) (sn_Lf.gR (k := 17) (by decide) (sn_Lf.bI (k := 17) (by decide) (sn_Lf.gR (k := 23) (by decide) (sn_Lf.aI (k := 23) (by decide) (fun v2 => sn_Lf.ite (lf_Md_arrive_176 M x1) (sn_Lf.ite (lf_Md_arrive_181 M x1 (0 : Int32)) (lf_Md_arrive_176 M x1))))))))
def g_Md_arrive_132 (x1 : Int32) (x2 : Int32) (x3 : Int32) : sn_G := (if ¬ x2 = 0 then g_Md_arrive_224 else (if x3 = (2 : Int32) then g_Md_arrive_146 x1 x3 else (if ¬ x3 = (3 : Int32) then g_Md_arrive_224 else g_Md_arrive_146 x1 x3)))
set_option maxHeartbeats 4000000 in
set_option maxRecDepth 100000 in
theorem lf_Md_arrive_132 (M : Nat) (x1 : Int32) (x2 : Int32) (x3 : Int32) : sn_Lf M (f_Md_arrive_132 M x1 x2 x3) (g_Md_arrive_132 x1 x2 x3) := sn_Lf.ite (lf_Md_arrive_224 M) (sn_Lf.ite (lf_Md_arrive_146 M x1 x3) (sn_Lf.ite (lf_Md_arrive_224 M) (lf_Md_arrive_146 M x1 x3)))
def g_Md_arrive_76 (x1 : Int32) (x2 : Int32) (x3 : Int32) : sn_G := q_I 10 x1 fun v3 => (if ¬ v3 = (1 : Int32) then q_I 10 x1 fun v4 => (if ¬ v4 = (2 : Int32) then q_I 10 x1 fun v5 => (if ¬ v5 = (3 : Int32) then q_I 10 x1 fun v6 => (if v6 < (4 : Int32) then g_Md_arrive_224 else y_V (g_Md_serving x1 x2 x3) (g_Md_arrive_224)) else y_V (g_Md_proving x1 x2 x3) (g_Md_arrive_224)) else (if ¬ x2 = 0 then g_Md_arrive_132 x1 x2 x3 else (if ¬ x3 = 0 then g_Md_arrive_132 x1 x2 x3 else y_V (g_Md_fail x1 (0 : Int32)) (g_Md_arrive_132 x1 x2 x3)))) else (if ¬ x2 = 0 then g_Md_arrive_224 else (if x3 < (1 : Int32) then g_Md_arrive_224 else (if (3 : Int32) < x3 then g_Md_arrive_224 else y_V (g_Md_align x1) (g_Md_arrive_224)))))
set_option maxHeartbeats 4000000 in
set_option maxRecDepth 100000 in
theorem lf_Md_arrive_76 (M : Nat) (x1 : Int32) (x2 : Int32) (x3 : Int32) : sn_Lf M (f_Md_arrive_76 M x1 x2 x3) (g_Md_arrive_76 x1 x2 x3) := sn_Lf.gR (k := 10) (by decide) (sn_Lf.aI (k := 10) (by decide) (fun v3 => sn_Lf.ite (sn_Lf.gR (k := 10) (by decide) (sn_Lf.aI (k := 10) (by decide) (fun v4 => sn_Lf.ite (sn_Lf.gR (k := 10) (by decide) (sn_Lf.aI (k := 10) (by decide) (fun v5 => sn_Lf.ite (sn_Lf.gR (k := 10) (by decide) (sn_Lf.aI (k := 10) (by decide) (fun v6 => sn_Lf.ite (lf_Md_arrive_224 M) (sn_Lf.nn (sn_Lf.cV (lf_Md_serving M x1 x2 x3) (lf_Md_arrive_224 M)))))) (sn_Lf.nn (sn_Lf.cV (lf_Md_proving M x1 x2 x3) (lf_Md_arrive_224 M)))))) (sn_Lf.ite (lf_Md_arrive_132 M x1 x2 x3) (sn_Lf.ite (lf_Md_arrive_132 M x1 x2 x3) (sn_Lf.nn (sn_Lf.cV (lf_Md_fail M x1 (0 : Int32)) (lf_Md_arrive_132 M x1 x2 x3)))))))) (sn_Lf.ite (lf_Md_arrive_224 M) (sn_Lf.ite (lf_Md_arrive_224 M) (sn_Lf.ite (lf_Md_arrive_224 M) (sn_Lf.nn (sn_Lf.cV (lf_Md_align M x1) (lf_Md_arrive_224 M))))))))
def g_Md_arrive_62 (x1 : Int32) (x2 : Int32) (x3 : Int32) : sn_G := q_I 39 (x1 ^^^ (1 : Int32)) fun v11 => w_I 38 x1 v11 (g_Md_arrive_76 x1 x2 x3)
set_option maxHeartbeats 4000000 in
set_option maxRecDepth 100000 in
theorem lf_Md_arrive_62 (M : Nat) (x1 : Int32) (x2 : Int32) (x3 : Int32) : sn_Lf M (f_Md_arrive_62 M x1 x2 x3) (g_Md_arrive_62 x1 x2 x3) := sn_Lf.gR (k := 38) (by decide) (sn_Lf.gR (k := 39) (by decide) (sn_Lf.aI (k := 39) (by decide) (fun v11 => sn_Lf.bI (k := 38) (by decide) (lf_Md_arrive_76 M x1 x2 x3))))
def g_Md_arrive_39 (x1 : Int32) (x2 : Int32) (x3 : Int32) : sn_G := (if ¬ x2 = 0 then g_Md_arrive_76 x1 x2 x3 else q_I 10 x1 fun v12 => (if v12 = 0 then g_Md_arrive_76 x1 x2 x3 else (if x3 = (2 : Int32) then g_Md_arrive_62 x1 x2 x3 else (if ¬ x3 = (3 : Int32) then g_Md_arrive_76 x1 x2 x3 else g_Md_arrive_62 x1 x2 x3))))
set_option maxHeartbeats 4000000 in
set_option maxRecDepth 100000 in
theorem lf_Md_arrive_39 (M : Nat) (x1 : Int32) (x2 : Int32) (x3 : Int32) : sn_Lf M (f_Md_arrive_39 M x1 x2 x3) (g_Md_arrive_39 x1 x2 x3) := sn_Lf.ite (lf_Md_arrive_76 M x1 x2 x3) (sn_Lf.gR (k := 10) (by decide) (sn_Lf.aI (k := 10) (by decide) (fun v12 => sn_Lf.ite (lf_Md_arrive_76 M x1 x2 x3) (sn_Lf.ite (lf_Md_arrive_62 M x1 x2 x3) (sn_Lf.ite (lf_Md_arrive_76 M x1 x2 x3) (lf_Md_arrive_62 M x1 x2 x3))))))
def g_Md_arrive (x1 : Int32) : sn_G := q_I 3 (x1 >>> ((1 : Int32) &&& 31)) fun v13 => q_I 30 (x1 ^^^ (1 : Int32)) fun v14 => q_I 22 x1 fun v15 => (if v15 ≤ 0 then g_Md_arrive_39 x1 v13 v14 else q_I 22 x1 fun v16 => w_I 22 x1 (v16 - (1 : Int32)) (g_Md_arrive_39 x1 (1 : Int32) v14))
set_option maxHeartbeats 4000000 in
set_option maxRecDepth 100000 in
theorem lf_Md_arrive (M : Nat) (x1 : Int32) : sn_Lf M (f_Md_arrive M x1) (g_Md_arrive x1) := sn_Lf.gR (k := 3) (by decide) (sn_Lf.aI (k := 3) (by decide) (fun v13 => sn_Lf.gR (k := 30) (by decide) (sn_Lf.aI (k := 30) (by decide) (fun v14 => sn_Lf.gR (k := 22) (by decide) (sn_Lf.aI (k := 22) (by decide) (fun v15 => sn_Lf.ite (lf_Md_arrive_39 M x1 v13 v14) (sn_Lf.gR (k := 22) (by decide) (sn_Lf.aI (k := 22) (by decide) (fun v16 => sn_Lf.bI (k := 22) (by decide) (lf_Md_arrive_39 M x1 (1 : Int32) v14))))))))))
def g_Md_timer_129 : sn_G := z_V
set_option maxHeartbeats 4000000 in
set_option maxRecDepth 100000 in
theorem lf_Md_timer_129 (M : Nat) : sn_Lf M (f_Md_timer_129 M) (g_Md_timer_129) := sn_Lf.V
def g_Md_timer_101 (x1 : Int32) : sn_G := q_I 20 x1 fun v1 => (if v1 ≤ 0 then g_Md_timer_129 else q_I 20 x1 fun v2 => q_S 6 fun v3 => (if ¬ v2 = v3 then g_Md_timer_129 else y_V (g_Md_fail x1 (0 : Int32)) (g_Md_timer_129)))
set_option maxHeartbeats 4000000 in
set_option maxRecDepth 100000 in
theorem lf_Md_timer_101 (M : Nat) (x1 : Int32) : sn_Lf M (f_Md_timer_101 M x1) (g_Md_timer_101 x1) := sn_Lf.gR (k := 20) (by decide) (sn_Lf.aI (k := 20) (by decide) (fun v1 => sn_Lf.ite (lf_Md_timer_129 M) (sn_Lf.gR (k := 20) (by decide) (sn_Lf.aI (k := 20) (by decide) (fun v2 => sn_Lf.gS (k := 6) rfl (fun v3 => sn_Lf.ite (lf_Md_timer_129 M) (sn_Lf.nn (sn_Lf.cV (lf_Md_fail M x1 (0 : Int32)) (lf_Md_timer_129 M)))))))))
def g_Md_timer (x1 : Int32) : sn_G := q_I 11 x1 fun v5 => (if v5 ≤ 0 then g_Md_timer_101 x1 else q_I 11 x1 fun v6 => q_S 6 fun v7 => (if ¬ v6 = v7 then g_Md_timer_101 x1 else w_I 11 x1 (0 : Int32) (q_I 10 x1 fun v8 => (if ¬ v8 = 0 then q_I 10 x1 fun v9 => (if ¬ v9 = (3 : Int32) then y_V (g_Md_fail x1 (0 : Int32)) (g_Md_timer_101 x1) else w_I 10 x1 (4 : Int32) (q_S 6 fun v11 => w_I 11 x1 (v11 + (15 : Int32)) (y_V (g_Md_fresh x1) (g_Md_timer_101 x1)))) else q_I 2 (x1 >>> ((1 : Int32) &&& 31)) fun v13 => (if v13 = 0 then g_Md_timer_101 x1 else y_V (g_Md_start x1) (g_Md_timer_101 x1))))))
set_option maxHeartbeats 4000000 in
set_option maxRecDepth 100000 in
theorem lf_Md_timer (M : Nat) (x1 : Int32) : sn_Lf M (f_Md_timer M x1) (g_Md_timer x1) := sn_Lf.gR (k := 11) (by decide) (sn_Lf.aI (k := 11) (by decide) (fun v5 => sn_Lf.ite (lf_Md_timer_101 M x1) (sn_Lf.gR (k := 11) (by decide) (sn_Lf.aI (k := 11) (by decide) (fun v6 => sn_Lf.gS (k := 6) rfl (fun v7 => sn_Lf.ite (lf_Md_timer_101 M x1) (sn_Lf.gR (k := 11) (by decide) (sn_Lf.bI (k := 11) (by decide) (sn_Lf.gR (k := 10) (by decide) (sn_Lf.aI (k := 10) (by decide) (fun v8 => sn_Lf.ite (sn_Lf.gR (k := 10) (by decide) (sn_Lf.aI (k := 10) (by decide) (fun v9 => sn_Lf.ite (sn_Lf.nn (sn_Lf.cV (lf_Md_fail M x1 (0 : Int32)) (lf_Md_timer_101 M x1))) (sn_Lf.gR (k := 10) (by decide) (sn_Lf.bI (k := 10) (by decide) (sn_Lf.gR (k := 11) (by decide) (sn_Lf.gS (k := 6) rfl (fun v11 => sn_Lf.bI (k := 11) (by decide) (sn_Lf.nn (sn_Lf.cV (lf_Md_fresh M x1) (lf_Md_timer_101 M x1))))))))))) (sn_Lf.gR (k := 2) (by decide) (sn_Lf.aI (k := 2) (by decide) (fun v13 => sn_Lf.ite (lf_Md_timer_101 M x1) (sn_Lf.nn (sn_Lf.cV (lf_Md_start M x1) (lf_Md_timer_101 M x1)))))))))))))))))
def g_Md_send_424 : sn_G := z_V
set_option maxHeartbeats 4000000 in
set_option maxRecDepth 100000 in
theorem lf_Md_send_424 (M : Nat) : sn_Lf M (f_Md_send_424 M) (g_Md_send_424) := sn_Lf.V
def g_Md_send_374 : Nat → Int32 → Int32 → sn_G
  | 0, _, _ => z_0
  | n + 1, x1, x3 => q_I 29 x1 fun v1 => (if v1 ≤ x3 then q_I 29 x1 fun v2 => w_I 29 x1 (v2 - (1 : Int32)) (g_Md_send_424) else q_J 28 (((64 : Int32) * x1) + x3) fun v3 => w_J 28 ((((64 : Int32) * x1) + x3) - (1 : Int32)) v3 (g_Md_send_374 n x1 (x3 + (1 : Int32))))
set_option maxHeartbeats 4000000 in
set_option maxRecDepth 100000 in
theorem lf_Md_send_374 (M : Nat) : ∀ (n : Nat) (x1 : Int32) (x3 : Int32), sn_Lf M (f_Md_send_374 M n x1 x3) (g_Md_send_374 n x1 x3)
  | 0, _, _ => sn_Lf.z0
  | n + 1, x1, x3 => sn_Lf.gR (k := 29) (by decide) (sn_Lf.aI (k := 29) (by decide) (fun v1 => sn_Lf.ite (sn_Lf.gR (k := 29) (by decide) (sn_Lf.aI (k := 29) (by decide) (fun v2 => sn_Lf.bI (k := 29) (by decide) (lf_Md_send_424 M)))) (sn_Lf.gR (k := 28) (by decide) (sn_Lf.gR (k := 28) (by decide) (sn_Lf.aJ (k := 28) (by decide) (fun v3 => sn_Lf.bJ (k := 28) (by decide) (lf_Md_send_374 M n x1 (x3 + (1 : Int32)))))))))
def g_Md_send_315 (x1 : Int32) : sn_G := q_I 27 x1 fun v4 => q_J 28 ((64 : Int32) * x1) fun v5 => w_J 25 (((32 : Int32) * x1) + v4) v5 (q_I 27 x1 fun v6 => q_I 12 x1 fun v7 => w_I 26 (((32 : Int32) * x1) + v6) v7 (q_I 27 x1 fun v8 => w_I 27 x1 (v8 + (1 : Int32)) (g_Md_send_374 sn_fuel x1 (1 : Int32))))
set_option maxHeartbeats 4000000 in
set_option maxRecDepth 100000 in
theorem lf_Md_send_315 (M : Nat) (x1 : Int32) : sn_Lf M (f_Md_send_315 M x1) (g_Md_send_315 x1) := sn_Lf.gR (k := 25) (by decide) (sn_Lf.gR (k := 27) (by decide) (sn_Lf.aI (k := 27) (by decide) (fun v4 => sn_Lf.gR (k := 28) (by decide) (sn_Lf.aJ (k := 28) (by decide) (fun v5 => sn_Lf.bJ (k := 25) (by decide) (sn_Lf.gR (k := 26) (by decide) (sn_Lf.gR (k := 27) (by decide) (sn_Lf.aI (k := 27) (by decide) (fun v6 => sn_Lf.gR (k := 12) (by decide) (sn_Lf.aI (k := 12) (by decide) (fun v7 => sn_Lf.bI (k := 26) (by decide) (sn_Lf.gR (k := 27) (by decide) (sn_Lf.aI (k := 27) (by decide) (fun v8 => sn_Lf.bI (k := 27) (by decide) (lf_Md_send_374 M sn_fuel x1 (1 : Int32))))))))))))))))
def g_Md_send_119 (x1 : Int32) (x2 : Int32) (t1 : Int32) (t2 : Int32) : sn_G := w_I 30 t1 t2 ((if x2 = (5 : Int32) then q_I 21 x1 fun v9 => (if v9 = (-1 : Int32) then q_I 29 x1 fun v10 => (if v10 ≤ 0 then g_Md_send_424 else q_I 27 x1 fun v11 => (if (32 : Int32) ≤ v11 then g_Md_send_424 else q_I 12 x1 fun v12 => w_I 12 x1 ((v12 + (1 : Int32)) &&& (127 : Int32)) (w_I 30 x1 (5 : Int32) (q_I 12 x1 fun v13 => w_I 31 x1 v13 (q_J 28 ((64 : Int32) * x1) fun v14 => w_J 35 x1 v14 (q_I 27 x1 fun v15 => (if ¬ v15 = 0 then g_Md_send_315 x1 else q_S 6 fun v16 => w_I 20 x1 (v16 + (20 : Int32)) (g_Md_send_315 x1)))))))) else w_I 30 x1 (5 : Int32) (q_I 21 x1 fun v17 => q_I 26 (((32 : Int32) * x1) + v17) fun v18 => w_I 31 x1 v18 (q_I 21 x1 fun v19 => q_J 25 (((32 : Int32) * x1) + v19) fun v20 => w_J 35 x1 v20 (q_I 21 x1 fun v21 => w_I 21 x1 (v21 + (1 : Int32)) (q_I 21 x1 fun v22 => q_I 27 x1 fun v23 => (if ¬ v22 = v23 then g_Md_send_424 else w_I 21 x1 (-1 : Int32) (g_Md_send_424))))))) else z_V))
set_option maxHeartbeats 4000000 in
set_option maxRecDepth 100000 in
theorem lf_Md_send_119 (M : Nat) (x1 : Int32) (x2 : Int32) (t1 : Int32) (t2 : Int32) : sn_Lf M (f_Md_send_119 M x1 x2 (some (md_ad M 30)) t1 t2) (g_Md_send_119 x1 x2 t1 t2) := sn_Lf.bI (k := 30) (by decide) (sn_Lf.ite (sn_Lf.gR (k := 21) (by decide) (sn_Lf.aI (k := 21) (by decide) (fun v9 => sn_Lf.ite (sn_Lf.gR (k := 29) (by decide) (sn_Lf.aI (k := 29) (by decide) (fun v10 => sn_Lf.ite (lf_Md_send_424 M) (sn_Lf.gR (k := 27) (by decide) (sn_Lf.aI (k := 27) (by decide) (fun v11 => sn_Lf.ite (lf_Md_send_424 M) (sn_Lf.gR (k := 12) (by decide) (sn_Lf.gR (k := 12) (by decide) (sn_Lf.aI (k := 12) (by decide) (fun v12 => sn_Lf.bI (k := 12) (by decide) (sn_Lf.gR (k := 30) (by decide) (sn_Lf.bI (k := 30) (by decide) (sn_Lf.gR (k := 31) (by decide) (sn_Lf.gR (k := 12) (by decide) (sn_Lf.aI (k := 12) (by decide) (fun v13 => sn_Lf.bI (k := 31) (by decide) (sn_Lf.gR (k := 35) (by decide) (sn_Lf.gR (k := 28) (by decide) (sn_Lf.aJ (k := 28) (by decide) (fun v14 => sn_Lf.bJ (k := 35) (by decide) (sn_Lf.gR (k := 27) (by decide) (sn_Lf.aI (k := 27) (by decide) (fun v15 => sn_Lf.ite (lf_Md_send_315 M x1) (sn_Lf.gR (k := 20) (by decide) (sn_Lf.gS (k := 6) rfl (fun v16 => sn_Lf.bI (k := 20) (by decide) (lf_Md_send_315 M x1))))))))))))))))))))))))))) (sn_Lf.gR (k := 30) (by decide) (sn_Lf.bI (k := 30) (by decide) (sn_Lf.gR (k := 31) (by decide) (sn_Lf.gR (k := 26) (by decide) (sn_Lf.gR (k := 21) (by decide) (sn_Lf.aI (k := 21) (by decide) (fun v17 => sn_Lf.aI (k := 26) (by decide) (fun v18 => sn_Lf.bI (k := 31) (by decide) (sn_Lf.gR (k := 35) (by decide) (sn_Lf.gR (k := 25) (by decide) (sn_Lf.gR (k := 21) (by decide) (sn_Lf.aI (k := 21) (by decide) (fun v19 => sn_Lf.aJ (k := 25) (by decide) (fun v20 => sn_Lf.bJ (k := 35) (by decide) (sn_Lf.gR (k := 21) (by decide) (sn_Lf.aI (k := 21) (by decide) (fun v21 => sn_Lf.bI (k := 21) (by decide) (sn_Lf.gR (k := 21) (by decide) (sn_Lf.aI (k := 21) (by decide) (fun v22 => sn_Lf.gR (k := 27) (by decide) (sn_Lf.aI (k := 27) (by decide) (fun v23 => sn_Lf.ite (lf_Md_send_424 M) (sn_Lf.gR (k := 21) (by decide) (sn_Lf.bI (k := 21) (by decide) (lf_Md_send_424 M)))))))))))))))))))))))))))) (sn_Lf.V))
def g_Md_send (x1 : Int32) : sn_G := q_I 10 x1 fun v24 => w_Z 36 x1 (1 : Int32) (q_I 37 x1 fun v25 => w_I 39 x1 v25 (q_I 12 x1 fun v26 => w_I 31 x1 v26 (q_I 14 x1 fun v27 => w_I 32 x1 v27 (q_I 13 x1 fun v28 => w_I 33 x1 v28 (q_I 15 x1 fun v29 => w_I 34 x1 v29 ((if ¬ v24 = 0 then (if ¬ v24 = (1 : Int32) then (if (4 : Int32) ≤ v24 then g_Md_send_119 x1 v24 x1 (4 : Int32) else q_I 23 x1 fun v30 => (if v30 = 0 then g_Md_send_119 x1 v24 x1 (2 : Int32) else g_Md_send_119 x1 v24 x1 (3 : Int32))) else g_Md_send_119 x1 v24 x1 (1 : Int32)) else g_Md_send_119 x1 v24 x1 (0 : Int32))))))))
set_option maxHeartbeats 4000000 in
set_option maxRecDepth 100000 in
theorem lf_Md_send (M : Nat) (x1 : Int32) : sn_Lf M (f_Md_send M x1) (g_Md_send x1) := sn_Lf.gR (k := 10) (by decide) (sn_Lf.aI (k := 10) (by decide) (fun v24 => sn_Lf.gR (k := 36) (by decide) (sn_Lf.bZ (k := 36) (by decide) (sn_Lf.gR (k := 39) (by decide) (sn_Lf.gR (k := 37) (by decide) (sn_Lf.aI (k := 37) (by decide) (fun v25 => sn_Lf.bI (k := 39) (by decide) (sn_Lf.gR (k := 31) (by decide) (sn_Lf.gR (k := 12) (by decide) (sn_Lf.aI (k := 12) (by decide) (fun v26 => sn_Lf.bI (k := 31) (by decide) (sn_Lf.gR (k := 32) (by decide) (sn_Lf.gR (k := 14) (by decide) (sn_Lf.aI (k := 14) (by decide) (fun v27 => sn_Lf.bI (k := 32) (by decide) (sn_Lf.gR (k := 33) (by decide) (sn_Lf.gR (k := 13) (by decide) (sn_Lf.aI (k := 13) (by decide) (fun v28 => sn_Lf.bI (k := 33) (by decide) (sn_Lf.gR (k := 34) (by decide) (sn_Lf.gR (k := 15) (by decide) (sn_Lf.aI (k := 15) (by decide) (fun v29 => sn_Lf.bI (k := 34) (by decide) (sn_Lf.gR (k := 30) (by decide) (sn_Lf.ite (sn_Lf.ite (sn_Lf.ite (lf_Md_send_119 M x1 v24 x1 (4 : Int32)) (sn_Lf.gR (k := 23) (by decide) (sn_Lf.aI (k := 23) (by decide) (fun v30 => sn_Lf.ite (lf_Md_send_119 M x1 v24 x1 (2 : Int32)) (lf_Md_send_119 M x1 v24 x1 (3 : Int32)))))) (lf_Md_send_119 M x1 v24 x1 (1 : Int32))) (lf_Md_send_119 M x1 v24 x1 (0 : Int32)))))))))))))))))))))))))))
def g_Md_lineTimer_190 : sn_G := z_V
set_option maxHeartbeats 4000000 in
set_option maxRecDepth 100000 in
theorem lf_Md_lineTimer_190 (M : Nat) : sn_Lf M (f_Md_lineTimer_190 M) (g_Md_lineTimer_190) := sn_Lf.V
def g_Md_lineTimer_139 (x1 : Int32) : sn_G := q_I 52 x1 fun v1 => (if ¬ v1 = (7 : Int32) then g_Md_lineTimer_190 else q_I 54 x1 fun v2 => (if v2 ≤ 0 then g_Md_lineTimer_190 else q_I 54 x1 fun v3 => q_S 6 fun v4 => (if ¬ v3 = v4 then g_Md_lineTimer_190 else y_V (g_Md_say x1 (12 : Int32) (0 : Int32)) (y_V (g_Md_becomes x1 (8 : Int32) (30 : Int32) (0 : Int32)) (g_Md_lineTimer_190)))))
set_option maxHeartbeats 4000000 in
set_option maxRecDepth 100000 in
theorem lf_Md_lineTimer_139 (M : Nat) (x1 : Int32) : sn_Lf M (f_Md_lineTimer_139 M x1) (g_Md_lineTimer_139 x1) := sn_Lf.gR (k := 52) (by decide) (sn_Lf.aI (k := 52) (by decide) (fun v1 => sn_Lf.ite (lf_Md_lineTimer_190 M) (sn_Lf.gR (k := 54) (by decide) (sn_Lf.aI (k := 54) (by decide) (fun v2 => sn_Lf.ite (lf_Md_lineTimer_190 M) (sn_Lf.gR (k := 54) (by decide) (sn_Lf.aI (k := 54) (by decide) (fun v3 => sn_Lf.gS (k := 6) rfl (fun v4 => sn_Lf.ite (lf_Md_lineTimer_190 M) (sn_Lf.nn (sn_Lf.cV (lf_Md_say M x1 (12 : Int32) (0 : Int32)) (sn_Lf.nn (sn_Lf.cV (lf_Md_becomes M x1 (8 : Int32) (30 : Int32) (0 : Int32)) (lf_Md_lineTimer_190 M))))))))))))))
def g_Md_lineTimer_49 (x1 : Int32) : sn_G := q_I 57 x1 fun v7 => y_V (g_Md_letGo ((100 : Int32) + x1)) (y_V (g_Md_letGo v7) (g_Md_lineTimer_139 x1))
set_option maxHeartbeats 4000000 in
set_option maxRecDepth 100000 in
theorem lf_Md_lineTimer_49 (M : Nat) (x1 : Int32) : sn_Lf M (f_Md_lineTimer_49 M x1) (g_Md_lineTimer_49 x1) := sn_Lf.gR (k := 57) (by decide) (sn_Lf.aI (k := 57) (by decide) (fun v7 => sn_Lf.nn (sn_Lf.cV (lf_Md_letGo M ((100 : Int32) + x1)) (sn_Lf.nn (sn_Lf.cV (lf_Md_letGo M v7) (lf_Md_lineTimer_139 M x1))))))
def g_Md_lineTimer (x1 : Int32) : sn_G := q_I 53 x1 fun v10 => (if v10 ≤ 0 then g_Md_lineTimer_139 x1 else q_I 53 x1 fun v11 => q_S 6 fun v12 => (if ¬ v11 = v12 then g_Md_lineTimer_139 x1 else w_I 53 x1 (0 : Int32) (q_I 52 x1 fun v13 => (if v13 = (1 : Int32) then g_Md_lineTimer_49 x1 else q_I 52 x1 fun v14 => (if ¬ v14 = (2 : Int32) then q_I 52 x1 fun v15 => (if ¬ v15 = (7 : Int32) then q_I 52 x1 fun v16 => (if ¬ v16 = (8 : Int32) then g_Md_lineTimer_139 x1 else y_V (g_Md_say x1 (12 : Int32) (0 : Int32)) (q_S 6 fun v18 => w_I 53 x1 (v18 + (30 : Int32)) (g_Md_lineTimer_139 x1))) else y_V (g_Md_say x1 (10 : Int32) (0 : Int32)) (q_S 6 fun v20 => w_I 53 x1 (v20 + (6 : Int32)) (g_Md_lineTimer_139 x1))) else g_Md_lineTimer_49 x1)))))
set_option maxHeartbeats 4000000 in
set_option maxRecDepth 100000 in
theorem lf_Md_lineTimer (M : Nat) (x1 : Int32) : sn_Lf M (f_Md_lineTimer M x1) (g_Md_lineTimer x1) := sn_Lf.gR (k := 53) (by decide) (sn_Lf.aI (k := 53) (by decide) (fun v10 => sn_Lf.ite (lf_Md_lineTimer_139 M x1) (sn_Lf.gR (k := 53) (by decide) (sn_Lf.aI (k := 53) (by decide) (fun v11 => sn_Lf.gS (k := 6) rfl (fun v12 => sn_Lf.ite (lf_Md_lineTimer_139 M x1) (sn_Lf.gR (k := 53) (by decide) (sn_Lf.bI (k := 53) (by decide) (sn_Lf.gR (k := 52) (by decide) (sn_Lf.aI (k := 52) (by decide) (fun v13 => sn_Lf.ite (lf_Md_lineTimer_49 M x1) (sn_Lf.gR (k := 52) (by decide) (sn_Lf.aI (k := 52) (by decide) (fun v14 => sn_Lf.ite (sn_Lf.gR (k := 52) (by decide) (sn_Lf.aI (k := 52) (by decide) (fun v15 => sn_Lf.ite (sn_Lf.gR (k := 52) (by decide) (sn_Lf.aI (k := 52) (by decide) (fun v16 => sn_Lf.ite (lf_Md_lineTimer_139 M x1) (sn_Lf.nn (sn_Lf.cV (lf_Md_say M x1 (12 : Int32) (0 : Int32)) (sn_Lf.gR (k := 53) (by decide) (sn_Lf.gS (k := 6) rfl (fun v18 => sn_Lf.bI (k := 53) (by decide) (lf_Md_lineTimer_139 M x1))))))))) (sn_Lf.nn (sn_Lf.cV (lf_Md_say M x1 (10 : Int32) (0 : Int32)) (sn_Lf.gR (k := 53) (by decide) (sn_Lf.gS (k := 6) rfl (fun v20 => sn_Lf.bI (k := 53) (by decide) (lf_Md_lineTimer_139 M x1))))))))) (lf_Md_lineTimer_49 M x1)))))))))))))))
def g_Md_one_136 (k66 : Int32 → Int32 → sn_G) (x1 : Int32) (x2 : Int32) : sn_G := k66 x1 (x2 + (1 : Int32))
set_option maxHeartbeats 4000000 in
set_option maxRecDepth 100000 in
theorem lf_Md_one_136 (M : Nat) (fk66 : Int32 → Int32 → sn_M) (k66 : Int32 → Int32 → sn_G) (hk66 : ∀ (x1 : Int32) (x2 : Int32), sn_Lf M (fk66 x1 x2) (k66 x1 x2)) (x1 : Int32) (x2 : Int32) : sn_Lf M (f_Md_one_136 fk66 M x1 x2) (g_Md_one_136 k66 x1 x2) := hk66 x1 (x2 + (1 : Int32))
def g_Md_one_97 (k66 : Int32 → Int32 → sn_G) (x1 : Int32) (x2 : Int32) : sn_G := y_I (g_Md_endAt x2 x1) fun v1 => q_I 40 v1 fun v2 => (if v2 ≤ 0 then g_Md_one_136 k66 x1 x2 else y_I (g_Md_endAt x2 x1) fun v3 => q_I 40 v3 fun v4 => q_S 6 fun v5 => (if ¬ v4 = v5 then g_Md_one_136 k66 x1 x2 else y_V (g_Md_overEnds x1 x2 (-1 : Int32)) (g_Md_one_136 k66 x1 x2)))
set_option maxHeartbeats 4000000 in
set_option maxRecDepth 100000 in
theorem lf_Md_one_97 (M : Nat) (fk66 : Int32 → Int32 → sn_M) (k66 : Int32 → Int32 → sn_G) (hk66 : ∀ (x1 : Int32) (x2 : Int32), sn_Lf M (fk66 x1 x2) (k66 x1 x2)) (x1 : Int32) (x2 : Int32) : sn_Lf M (f_Md_one_97 fk66 M x1 x2) (g_Md_one_97 k66 x1 x2) := sn_Lf.gR (k := 40) (by decide) (sn_Lf.nn (sn_Lf.cI (lf_Md_endAt M x2 x1) (fun v1 => sn_Lf.aI (k := 40) (by decide) (fun v2 => sn_Lf.ite (lf_Md_one_136 M fk66 k66 hk66 x1 x2) (sn_Lf.gR (k := 40) (by decide) (sn_Lf.nn (sn_Lf.cI (lf_Md_endAt M x2 x1) (fun v3 => sn_Lf.aI (k := 40) (by decide) (fun v4 => sn_Lf.gS (k := 6) rfl (fun v5 => sn_Lf.ite (lf_Md_one_136 M fk66 k66 hk66 x1 x2) (sn_Lf.nn (sn_Lf.cV (lf_Md_overEnds M x1 x2 (-1 : Int32)) (lf_Md_one_136 M fk66 k66 hk66 x1 x2)))))))))))))
def g_Md_one_238 (k152 : Int32 → Int32 → Int32 → sn_G) (x1 : Int32) (x2 : Int32) (x3 : Int32) : sn_G := k152 x1 x2 (x3 + (1 : Int32))
set_option maxHeartbeats 4000000 in
set_option maxRecDepth 100000 in
theorem lf_Md_one_238 (M : Nat) (fk152 : Int32 → Int32 → Int32 → sn_M) (k152 : Int32 → Int32 → Int32 → sn_G) (hk152 : ∀ (x1 : Int32) (x2 : Int32) (x3 : Int32), sn_Lf M (fk152 x1 x2 x3) (k152 x1 x2 x3)) (x1 : Int32) (x2 : Int32) (x3 : Int32) : sn_Lf M (f_Md_one_238 fk152 M x1 x2 x3) (g_Md_one_238 k152 x1 x2 x3) := hk152 x1 x2 (x3 + (1 : Int32))
def g_Md_one_152 (k144 : Int32 → Int32 → sn_G) : Nat → Int32 → Int32 → Int32 → sn_G
  | 0, _, _, _ => z_0
  | n + 1, x1, x2, x3 => (if (4 : Int32) ≤ x3 then k144 x1 (x2 + (1 : Int32)) else y_I (g_Md_flowAt x1 x2 x3) fun v7 => q_I 44 v7 fun v8 => (if v8 = 0 then g_Md_one_238 (g_Md_one_152 k144 n) x1 x2 x3 else q_I 44 v7 fun v9 => q_S 6 fun v10 => (if v9 = v10 then q_I 41 v7 fun v11 => y_I (g_Md_endAt v11 x1) fun v12 => q_I 45 v7 fun v13 => y_J (g_Md_message (3 : Int32) x1 x2 x3 x3 v13) fun v14 => y_V (g_Md_waitAt v12 v14) (q_S 6 fun v16 => w_I 44 v7 (v16 + (20 : Int32)) (g_Md_one_238 (g_Md_one_152 k144 n) x1 x2 x3)) else g_Md_one_238 (g_Md_one_152 k144 n) x1 x2 x3)))
set_option maxHeartbeats 4000000 in
set_option maxRecDepth 100000 in
theorem lf_Md_one_152 (M : Nat) (fk144 : Int32 → Int32 → sn_M) (k144 : Int32 → Int32 → sn_G) (hk144 : ∀ (x1 : Int32) (x2 : Int32), sn_Lf M (fk144 x1 x2) (k144 x1 x2)) : ∀ (n : Nat) (x1 : Int32) (x2 : Int32) (x3 : Int32), sn_Lf M (f_Md_one_152 fk144 M n x1 x2 x3) (g_Md_one_152 k144 n x1 x2 x3)
  | 0, _, _, _ => sn_Lf.z0
  | n + 1, x1, x2, x3 => sn_Lf.ite (hk144 x1 (x2 + (1 : Int32))) (sn_Lf.nn (sn_Lf.cI (lf_Md_flowAt M x1 x2 x3) (fun v7 => sn_Lf.gR (k := 44) (by decide) (sn_Lf.aI (k := 44) (by decide) (fun v8 => sn_Lf.ite (lf_Md_one_238 M (f_Md_one_152 fk144 M n) (g_Md_one_152 k144 n) (lf_Md_one_152 M fk144 k144 hk144 n) x1 x2 x3) (sn_Lf.gR (k := 44) (by decide) (sn_Lf.aI (k := 44) (by decide) (fun v9 => sn_Lf.gS (k := 6) rfl (fun v10 => sn_Lf.ite (sn_Lf.gR (k := 41) (by decide) (sn_Lf.aI (k := 41) (by decide) (fun v11 => sn_Lf.nn (sn_Lf.cI (lf_Md_endAt M v11 x1) (fun v12 => sn_Lf.gR (k := 45) (by decide) (sn_Lf.aI (k := 45) (by decide) (fun v13 => sn_Lf.cJ (lf_Md_message M (3 : Int32) x1 x2 x3 x3 v13) (fun v14 => sn_Lf.nn (sn_Lf.cV (lf_Md_waitAt M v12 v14) (sn_Lf.gR (k := 44) (by decide) (sn_Lf.gS (k := 6) rfl (fun v16 => sn_Lf.bI (k := 44) (by decide) (lf_Md_one_238 M (f_Md_one_152 fk144 M n) (g_Md_one_152 k144 n) (lf_Md_one_152 M fk144 k144 hk144 n) x1 x2 x3))))))))))))) (lf_Md_one_238 M (f_Md_one_152 fk144 M n) (g_Md_one_152 k144 n) (lf_Md_one_152 M fk144 k144 hk144 n) x1 x2 x3))))))))))
def g_Md_one_144 (k58 : Int32 → sn_G) : Nat → Int32 → Int32 → sn_G
  | 0, _, _ => z_0
  | n + 1, x1, x2 => (if (6 : Int32) ≤ x2 then k58 (x1 + (1 : Int32)) else g_Md_one_152 (g_Md_one_144 k58 n) sn_fuel x1 x2 (0 : Int32))
set_option maxHeartbeats 4000000 in
set_option maxRecDepth 100000 in
theorem lf_Md_one_144 (M : Nat) (fk58 : Int32 → sn_M) (k58 : Int32 → sn_G) (hk58 : ∀ (x1 : Int32), sn_Lf M (fk58 x1) (k58 x1)) : ∀ (n : Nat) (x1 : Int32) (x2 : Int32), sn_Lf M (f_Md_one_144 fk58 M n x1 x2) (g_Md_one_144 k58 n x1 x2)
  | 0, _, _ => sn_Lf.z0
  | n + 1, x1, x2 => sn_Lf.ite (hk58 (x1 + (1 : Int32))) (lf_Md_one_152 M (f_Md_one_144 fk58 M n) (g_Md_one_144 k58 n) (lf_Md_one_144 M fk58 k58 hk58 n) sn_fuel x1 x2 (0 : Int32))
def g_Md_one_66 (k58 : Int32 → sn_G) : Nat → Int32 → Int32 → sn_G
  | 0, _, _ => z_0
  | n + 1, x1, x2 => q_S 4 fun v17 => (if v17 ≤ x2 then g_Md_one_144 k58 sn_fuel x1 (0 : Int32) else q_I 0 x2 fun v18 => (if v18 = x1 then g_Md_one_97 (g_Md_one_66 k58 n) x1 x2 else q_I 1 x2 fun v19 => (if v19 = x1 then g_Md_one_97 (g_Md_one_66 k58 n) x1 x2 else g_Md_one_136 (g_Md_one_66 k58 n) x1 x2)))
set_option maxHeartbeats 4000000 in
set_option maxRecDepth 100000 in
theorem lf_Md_one_66 (M : Nat) (fk58 : Int32 → sn_M) (k58 : Int32 → sn_G) (hk58 : ∀ (x1 : Int32), sn_Lf M (fk58 x1) (k58 x1)) : ∀ (n : Nat) (x1 : Int32) (x2 : Int32), sn_Lf M (f_Md_one_66 fk58 M n x1 x2) (g_Md_one_66 k58 n x1 x2)
  | 0, _, _ => sn_Lf.z0
  | n + 1, x1, x2 => sn_Lf.gS (k := 4) rfl (fun v17 => sn_Lf.ite (lf_Md_one_144 M fk58 k58 hk58 sn_fuel x1 (0 : Int32)) (sn_Lf.gR (k := 0) (by decide) (sn_Lf.aI (k := 0) (by decide) (fun v18 => sn_Lf.ite (lf_Md_one_97 M (f_Md_one_66 fk58 M n) (g_Md_one_66 k58 n) (lf_Md_one_66 M fk58 k58 hk58 n) x1 x2) (sn_Lf.gR (k := 1) (by decide) (sn_Lf.aI (k := 1) (by decide) (fun v19 => sn_Lf.ite (lf_Md_one_97 M (f_Md_one_66 fk58 M n) (g_Md_one_66 k58 n) (lf_Md_one_66 M fk58 k58 hk58 n) x1 x2) (lf_Md_one_136 M (f_Md_one_66 fk58 M n) (g_Md_one_66 k58 n) (lf_Md_one_66 M fk58 k58 hk58 n) x1 x2))))))))
def g_Md_one_278 : Nat → Int32 → sn_G
  | 0, _ => z_0
  | n + 1, x1 => q_S 4 fun v20 => (if ((2 : Int32) * v20) ≤ x1 then q_S 5 fun v21 => w_S 5 (v21 + (1 : Int32)) (z_V) else y_V (g_Md_send x1) (g_Md_one_278 n (x1 + (1 : Int32))))
set_option maxHeartbeats 4000000 in
set_option maxRecDepth 100000 in
theorem lf_Md_one_278 (M : Nat) : ∀ (n : Nat) (x1 : Int32), sn_Lf M (f_Md_one_278 M n x1) (g_Md_one_278 n x1)
  | 0, _ => sn_Lf.z0
  | n + 1, x1 => sn_Lf.gS (k := 4) rfl (fun v20 => sn_Lf.ite (sn_Lf.gS (k := 5) rfl (fun v21 => sn_Lf.pS (k := 5) rfl (sn_Lf.V))) (sn_Lf.nn (sn_Lf.cV (lf_Md_send M x1) (lf_Md_one_278 M n (x1 + (1 : Int32))))))
def g_Md_one_258 : Nat → Int32 → sn_G
  | 0, _ => z_0
  | n + 1, x1 => (if (144 : Int32) ≤ x1 then g_Md_one_278 sn_fuel (0 : Int32) else y_V (g_Md_lineTimer x1) (g_Md_one_258 n (x1 + (1 : Int32))))
set_option maxHeartbeats 4000000 in
set_option maxRecDepth 100000 in
theorem lf_Md_one_258 (M : Nat) : ∀ (n : Nat) (x1 : Int32), sn_Lf M (f_Md_one_258 M n x1) (g_Md_one_258 n x1)
  | 0, _ => sn_Lf.z0
  | n + 1, x1 => sn_Lf.ite (lf_Md_one_278 M sn_fuel (0 : Int32)) (sn_Lf.nn (sn_Lf.cV (lf_Md_lineTimer M x1) (lf_Md_one_258 M n (x1 + (1 : Int32)))))
def g_Md_one_58 : Nat → Int32 → sn_G
  | 0, _ => z_0
  | n + 1, x1 => (if (6 : Int32) ≤ x1 then g_Md_one_258 sn_fuel (0 : Int32) else g_Md_one_66 (g_Md_one_58 n) sn_fuel x1 (0 : Int32))
set_option maxHeartbeats 4000000 in
set_option maxRecDepth 100000 in
theorem lf_Md_one_58 (M : Nat) : ∀ (n : Nat) (x1 : Int32), sn_Lf M (f_Md_one_58 M n x1) (g_Md_one_58 n x1)
  | 0, _ => sn_Lf.z0
  | n + 1, x1 => sn_Lf.ite (lf_Md_one_258 M sn_fuel (0 : Int32)) (lf_Md_one_66 M (f_Md_one_58 M n) (g_Md_one_58 n) (lf_Md_one_58 M n) sn_fuel x1 (0 : Int32))
def g_Md_one_35 : Nat → Int32 → sn_G
  | 0, _ => z_0
  | n + 1, x1 => q_S 4 fun v24 => (if ((2 : Int32) * v24) ≤ x1 then g_Md_one_58 sn_fuel (0 : Int32) else y_V (g_Md_timer x1) (g_Md_one_35 n (x1 + (1 : Int32))))
set_option maxHeartbeats 4000000 in
set_option maxRecDepth 100000 in
theorem lf_Md_one_35 (M : Nat) : ∀ (n : Nat) (x1 : Int32), sn_Lf M (f_Md_one_35 M n x1) (g_Md_one_35 n x1)
  | 0, _ => sn_Lf.z0
  | n + 1, x1 => sn_Lf.gS (k := 4) rfl (fun v24 => sn_Lf.ite (lf_Md_one_58 M sn_fuel (0 : Int32)) (sn_Lf.nn (sn_Lf.cV (lf_Md_timer M x1) (lf_Md_one_35 M n (x1 + (1 : Int32))))))
def g_Md_one_2 : Nat → Int32 → sn_G
  | 0, _ => z_0
  | n + 1, x1 => q_S 4 fun v26 => (if ((2 : Int32) * v26) ≤ x1 then q_S 6 fun v27 => w_S 6 (v27 + (1 : Int32)) (g_Md_one_35 sn_fuel (0 : Int32)) else y_V (g_Md_arrive x1) (g_Md_one_2 n (x1 + (1 : Int32))))
set_option maxHeartbeats 4000000 in
set_option maxRecDepth 100000 in
theorem lf_Md_one_2 (M : Nat) : ∀ (n : Nat) (x1 : Int32), sn_Lf M (f_Md_one_2 M n x1) (g_Md_one_2 n x1)
  | 0, _ => sn_Lf.z0
  | n + 1, x1 => sn_Lf.gS (k := 4) rfl (fun v26 => sn_Lf.ite (sn_Lf.gS (k := 6) rfl (fun v27 => sn_Lf.pS (k := 6) rfl (lf_Md_one_35 M sn_fuel (0 : Int32)))) (sn_Lf.nn (sn_Lf.cV (lf_Md_arrive M x1) (lf_Md_one_2 M n (x1 + (1 : Int32))))))
def g_Md_one : sn_G := g_Md_one_2 sn_fuel (0 : Int32)
set_option maxHeartbeats 4000000 in
set_option maxRecDepth 100000 in
theorem lf_Md_one (M : Nat) : sn_Lf M (f_Md_one M) (g_Md_one) := lf_Md_one_2 M sn_fuel (0 : Int32)
def g_Md_link_38 : sn_G := z_I (-1 : Int32)
set_option maxHeartbeats 4000000 in
set_option maxRecDepth 100000 in
theorem lf_Md_link_38 (M : Nat) : sn_Lf M (f_Md_link_38 M) (g_Md_link_38) := sn_Lf.I
def g_Md_link_77 (t1 : Int32) (t2 : Int32) : sn_G := w_I 1 t1 t2 (q_S 4 fun v1 => w_S 4 (v1 + (1 : Int32)) (q_S 4 fun v2 => z_I (v2 - (1 : Int32))))
set_option maxHeartbeats 4000000 in
set_option maxRecDepth 100000 in
theorem lf_Md_link_77 (M : Nat) (t1 : Int32) (t2 : Int32) : sn_Lf M (f_Md_link_77 M (some (md_ad M 1)) t1 t2) (g_Md_link_77 t1 t2) := sn_Lf.bI (k := 1) (by decide) (sn_Lf.gS (k := 4) rfl (fun v1 => sn_Lf.pS (k := 4) rfl (sn_Lf.gS (k := 4) rfl (fun v2 => sn_Lf.I))))
def g_Md_link_58 (x1 : Int32) (x2 : Int32) (t1 : Int32) (t2 : Int32) : sn_G := w_I 0 t1 t2 (q_S 4 fun v3 => (if x2 ≤ x1 then g_Md_link_77 v3 x1 else g_Md_link_77 v3 x2))
set_option maxHeartbeats 4000000 in
set_option maxRecDepth 100000 in
theorem lf_Md_link_58 (M : Nat) (x1 : Int32) (x2 : Int32) (t1 : Int32) (t2 : Int32) : sn_Lf M (f_Md_link_58 M x1 x2 (some (md_ad M 0)) t1 t2) (g_Md_link_58 x1 x2 t1 t2) := sn_Lf.bI (k := 0) (by decide) (sn_Lf.gR (k := 1) (by decide) (sn_Lf.gS (k := 4) rfl (fun v3 => sn_Lf.ite (lf_Md_link_77 M v3 x1) (lf_Md_link_77 M v3 x2))))
def g_Md_link (x1 : Int32) (x2 : Int32) : sn_G := y_I (g_Md_isExchange x1) fun v4 => (if v4 = 0 then g_Md_link_38 else y_I (g_Md_isExchange x2) fun v5 => (if v5 = 0 then g_Md_link_38 else (if x1 = x2 then g_Md_link_38 else q_S 4 fun v6 => (if v6 = (10 : Int32) then g_Md_link_38 else y_I (g_Md_setSize x1 x2) fun v7 => (if ¬ v7 = (4 : Int32) then q_S 4 fun v8 => (if x2 ≤ x1 then g_Md_link_58 x1 x2 v8 x2 else g_Md_link_58 x1 x2 v8 x1) else g_Md_link_38)))))
set_option maxHeartbeats 4000000 in
set_option maxRecDepth 100000 in
theorem lf_Md_link (M : Nat) (x1 : Int32) (x2 : Int32) : sn_Lf M (f_Md_link M x1 x2) (g_Md_link x1 x2) := sn_Lf.cI (lf_Md_isExchange M x1) (fun v4 => sn_Lf.ite (lf_Md_link_38 M) (sn_Lf.cI (lf_Md_isExchange M x2) (fun v5 => sn_Lf.ite (lf_Md_link_38 M) (sn_Lf.ite (lf_Md_link_38 M) (sn_Lf.gS (k := 4) rfl (fun v6 => sn_Lf.ite (lf_Md_link_38 M) (sn_Lf.nn (sn_Lf.cI (lf_Md_setSize M x1 x2) (fun v7 => sn_Lf.ite (sn_Lf.gR (k := 0) (by decide) (sn_Lf.gS (k := 4) rfl (fun v8 => sn_Lf.ite (lf_Md_link_58 M x1 x2 v8 x2) (lf_Md_link_58 M x1 x2 v8 x1)))) (lf_Md_link_38 M))))))))))
def g_Md_canBeTold_22 (t0 : Int32) : sn_G := z_Z t0
set_option maxHeartbeats 4000000 in
set_option maxRecDepth 100000 in
theorem lf_Md_canBeTold_22 (M : Nat) (t0 : Int32) : sn_Lf M (f_Md_canBeTold_22 t0) (g_Md_canBeTold_22 t0) := sn_Lf.Z
def g_Md_canBeTold_17 : sn_G := g_Md_canBeTold_22 (1 : Int32)
set_option maxHeartbeats 4000000 in
set_option maxRecDepth 100000 in
theorem lf_Md_canBeTold_17 (M : Nat) : sn_Lf M (f_Md_canBeTold_17) (g_Md_canBeTold_17) := lf_Md_canBeTold_22 M (1 : Int32)
def g_Md_canBeTold_21 : sn_G := g_Md_canBeTold_22 (0 : Int32)
set_option maxHeartbeats 4000000 in
set_option maxRecDepth 100000 in
theorem lf_Md_canBeTold_21 (M : Nat) : sn_Lf M (f_Md_canBeTold_21) (g_Md_canBeTold_21) := lf_Md_canBeTold_22 M (0 : Int32)
def g_Md_canBeTold (x0 : Int32) (x1 : Int32) : sn_G := (if x1 = (-1 : Int32) then g_Md_canBeTold_17 else y_I (g_Md_isExchange x1) fun v1 => (if v1 = 0 then g_Md_canBeTold_21 else (if x1 = x0 then g_Md_canBeTold_21 else g_Md_canBeTold_17)))
set_option maxHeartbeats 4000000 in
set_option maxRecDepth 100000 in
theorem lf_Md_canBeTold (M : Nat) (x0 : Int32) (x1 : Int32) : sn_Lf M (f_Md_canBeTold x0 x1) (g_Md_canBeTold x0 x1) := sn_Lf.ite (lf_Md_canBeTold_17 M) (sn_Lf.cI (lf_Md_isExchange M x1) (fun v1 => sn_Lf.ite (lf_Md_canBeTold_21 M) (sn_Lf.ite (lf_Md_canBeTold_21 M) (lf_Md_canBeTold_17 M))))
def g_Md_route__47 : sn_G := z_Z (0 : Int32)
set_option maxHeartbeats 4000000 in
set_option maxRecDepth 100000 in
theorem lf_Md_route__47 (M : Nat) : sn_Lf M (f_Md_route__47 M) (g_Md_route__47) := sn_Lf.Z
def g_Md_route__49 (x1 : Int32) (x2 : Int32) (x3 : Int32) (x4 : Int32) : sn_G := w_I 50 (((6 : Int32) * x1) + x2) x3 (w_I 51 (((6 : Int32) * x1) + x2) x4 (y_V (g_Md_look x1) (z_Z (1 : Int32))))
set_option maxHeartbeats 4000000 in
set_option maxRecDepth 100000 in
theorem lf_Md_route__49 (M : Nat) (x1 : Int32) (x2 : Int32) (x3 : Int32) (x4 : Int32) : sn_Lf M (f_Md_route__49 M x1 x2 x3 x4) (g_Md_route__49 x1 x2 x3 x4) := sn_Lf.gR (k := 50) (by decide) (sn_Lf.bI (k := 50) (by decide) (sn_Lf.gR (k := 51) (by decide) (sn_Lf.bI (k := 51) (by decide) (sn_Lf.nn (sn_Lf.cV (lf_Md_look M x1) (sn_Lf.Z))))))
def g_Md_route_ (x1 : Int32) (x2 : Int32) (x3 : Int32) (x4 : Int32) : sn_G := y_I (g_Md_isExchange x1) fun v2 => (if v2 = 0 then g_Md_route__47 else y_I (g_Md_isExchange x2) fun v3 => (if v3 = 0 then g_Md_route__47 else (if x1 = x2 then g_Md_route__47 else y_I (g_Md_canBeTold x1 x3) fun v4 => (if v4 = 0 then g_Md_route__47 else y_I (g_Md_canBeTold x1 x4) fun v5 => (if v5 = 0 then g_Md_route__47 else (if ¬ x3 = x4 then g_Md_route__49 x1 x2 x3 x4 else (if x3 = (-1 : Int32) then g_Md_route__49 x1 x2 x3 x4 else g_Md_route__47)))))))
set_option maxHeartbeats 4000000 in
set_option maxRecDepth 100000 in
theorem lf_Md_route_ (M : Nat) (x1 : Int32) (x2 : Int32) (x3 : Int32) (x4 : Int32) : sn_Lf M (f_Md_route_ M x1 x2 x3 x4) (g_Md_route_ x1 x2 x3 x4) := sn_Lf.cI (lf_Md_isExchange M x1) (fun v2 => sn_Lf.ite (lf_Md_route__47 M) (sn_Lf.cI (lf_Md_isExchange M x2) (fun v3 => sn_Lf.ite (lf_Md_route__47 M) (sn_Lf.ite (lf_Md_route__47 M) (sn_Lf.cI (lf_Md_canBeTold M x1 x3) (fun v4 => sn_Lf.ite (lf_Md_route__47 M) (sn_Lf.cI (lf_Md_canBeTold M x1 x4) (fun v5 => sn_Lf.ite (lf_Md_route__47 M) (sn_Lf.ite (lf_Md_route__49 M x1 x2 x3 x4) (sn_Lf.ite (lf_Md_route__49 M x1 x2 x3 x4) (lf_Md_route__47 M)))))))))))
def g_Md_isLink_17 (t0 : Int32) : sn_G := z_Z t0
set_option maxHeartbeats 4000000 in
set_option maxRecDepth 100000 in
theorem lf_Md_isLink_17 (M : Nat) (t0 : Int32) : sn_Lf M (f_Md_isLink_17 M t0) (g_Md_isLink_17 t0) := sn_Lf.Z
def g_Md_isLink_16 : sn_G := g_Md_isLink_17 (0 : Int32)
set_option maxHeartbeats 4000000 in
set_option maxRecDepth 100000 in
theorem lf_Md_isLink_16 (M : Nat) : sn_Lf M (f_Md_isLink_16 M) (g_Md_isLink_16) := lf_Md_isLink_17 M (0 : Int32)
def g_Md_isLink (x1 : Int32) : sn_G := (if x1 < 0 then g_Md_isLink_16 else q_S 4 fun v1 => (if v1 ≤ x1 then g_Md_isLink_16 else g_Md_isLink_17 (1 : Int32)))
set_option maxHeartbeats 4000000 in
set_option maxRecDepth 100000 in
theorem lf_Md_isLink (M : Nat) (x1 : Int32) : sn_Lf M (f_Md_isLink M x1) (g_Md_isLink x1) := sn_Lf.ite (lf_Md_isLink_16 M) (sn_Lf.gS (k := 4) rfl (fun v1 => sn_Lf.ite (lf_Md_isLink_16 M) (lf_Md_isLink_17 M (1 : Int32))))
def g_Md_isEnd_22 (t0 : Int32) : sn_G := z_Z t0
set_option maxHeartbeats 4000000 in
set_option maxRecDepth 100000 in
theorem lf_Md_isEnd_22 (M : Nat) (t0 : Int32) : sn_Lf M (f_Md_isEnd_22 M t0) (g_Md_isEnd_22 t0) := sn_Lf.Z
def g_Md_isEnd_21 : sn_G := g_Md_isEnd_22 (0 : Int32)
set_option maxHeartbeats 4000000 in
set_option maxRecDepth 100000 in
theorem lf_Md_isEnd_21 (M : Nat) : sn_Lf M (f_Md_isEnd_21 M) (g_Md_isEnd_21) := lf_Md_isEnd_22 M (0 : Int32)
def g_Md_isEnd_17 : sn_G := g_Md_isEnd_22 (1 : Int32)
set_option maxHeartbeats 4000000 in
set_option maxRecDepth 100000 in
theorem lf_Md_isEnd_17 (M : Nat) : sn_Lf M (f_Md_isEnd_17 M) (g_Md_isEnd_17) := lf_Md_isEnd_22 M (1 : Int32)
def g_Md_isEnd (x1 : Int32) (x2 : Int32) : sn_G := y_I (g_Md_isLink x1) fun v1 => (if v1 = 0 then g_Md_isEnd_21 else (if x2 = 0 then g_Md_isEnd_17 else (if ¬ x2 = (1 : Int32) then g_Md_isEnd_21 else g_Md_isEnd_17)))
set_option maxHeartbeats 4000000 in
set_option maxRecDepth 100000 in
theorem lf_Md_isEnd (M : Nat) (x1 : Int32) (x2 : Int32) : sn_Lf M (f_Md_isEnd M x1 x2) (g_Md_isEnd x1 x2) := sn_Lf.nn (sn_Lf.cI (lf_Md_isLink M x1) (fun v1 => sn_Lf.ite (lf_Md_isEnd_21 M) (sn_Lf.ite (lf_Md_isEnd_17 M) (sn_Lf.ite (lf_Md_isEnd_21 M) (lf_Md_isEnd_17 M)))))
def g_Md_activate_18 : sn_G := z_Z (0 : Int32)
set_option maxHeartbeats 4000000 in
set_option maxRecDepth 100000 in
theorem lf_Md_activate_18 (M : Nat) : sn_Lf M (f_Md_activate_18 M) (g_Md_activate_18) := sn_Lf.Z
def g_Md_activate_86 (k31 : Int32 → Int32 → Int32 → sn_G) (x1 : Int32) (x2 : Int32) (x3 : Int32) : sn_G := k31 x1 x2 (x3 + (1 : Int32))
set_option maxHeartbeats 4000000 in
set_option maxRecDepth 100000 in
theorem lf_Md_activate_86 (M : Nat) (fk31 : Int32 → Int32 → Int32 → sn_M) (k31 : Int32 → Int32 → Int32 → sn_G) (hk31 : ∀ (x1 : Int32) (x2 : Int32) (x3 : Int32), sn_Lf M (fk31 x1 x2 x3) (k31 x1 x2 x3)) (x1 : Int32) (x2 : Int32) (x3 : Int32) : sn_Lf M (f_Md_activate_86 fk31 M x1 x2 x3) (g_Md_activate_86 k31 x1 x2 x3) := hk31 x1 x2 (x3 + (1 : Int32))
def g_Md_activate_67 (k31 : Int32 → Int32 → Int32 → sn_G) (x1 : Int32) (x2 : Int32) (x3 : Int32) : sn_G := (if ¬ x2 = 0 then g_Md_activate_86 k31 x1 x2 x3 else q_I 10 x3 fun v1 => (if v1 = 0 then g_Md_activate_86 k31 x1 x2 x3 else y_V (g_Md_fail x3 (0 : Int32)) (g_Md_activate_86 k31 x1 x2 x3)))
set_option maxHeartbeats 4000000 in
set_option maxRecDepth 100000 in
theorem lf_Md_activate_67 (M : Nat) (fk31 : Int32 → Int32 → Int32 → sn_M) (k31 : Int32 → Int32 → Int32 → sn_G) (hk31 : ∀ (x1 : Int32) (x2 : Int32) (x3 : Int32), sn_Lf M (fk31 x1 x2 x3) (k31 x1 x2 x3)) (x1 : Int32) (x2 : Int32) (x3 : Int32) : sn_Lf M (f_Md_activate_67 fk31 M x1 x2 x3) (g_Md_activate_67 k31 x1 x2 x3) := sn_Lf.ite (lf_Md_activate_86 M fk31 k31 hk31 x1 x2 x3) (sn_Lf.gR (k := 10) (by decide) (sn_Lf.aI (k := 10) (by decide) (fun v1 => sn_Lf.ite (lf_Md_activate_86 M fk31 k31 hk31 x1 x2 x3) (sn_Lf.nn (sn_Lf.cV (lf_Md_fail M x3 (0 : Int32)) (lf_Md_activate_86 M fk31 k31 hk31 x1 x2 x3))))))
def g_Md_activate_31 : Nat → Int32 → Int32 → Int32 → sn_G
  | 0, _, _, _ => z_0
  | n + 1, x1, x2, x3 => (if (((2 : Int32) * x1) + (2 : Int32)) ≤ x3 then z_Z (1 : Int32) else (if x2 = 0 then g_Md_activate_67 (g_Md_activate_31 n) x1 x2 x3 else q_I 10 x3 fun v3 => (if ¬ v3 = 0 then g_Md_activate_67 (g_Md_activate_31 n) x1 x2 x3 else q_I 11 x3 fun v4 => (if ¬ v4 = 0 then g_Md_activate_67 (g_Md_activate_31 n) x1 x2 x3 else y_V (g_Md_start x3) (g_Md_activate_67 (g_Md_activate_31 n) x1 x2 x3)))))
set_option maxHeartbeats 4000000 in
set_option maxRecDepth 100000 in
theorem lf_Md_activate_31 (M : Nat) : ∀ (n : Nat) (x1 : Int32) (x2 : Int32) (x3 : Int32), sn_Lf M (f_Md_activate_31 M n x1 x2 x3) (g_Md_activate_31 n x1 x2 x3)
  | 0, _, _, _ => sn_Lf.z0
  | n + 1, x1, x2, x3 => sn_Lf.ite (sn_Lf.Z) (sn_Lf.ite (lf_Md_activate_67 M (f_Md_activate_31 M n) (g_Md_activate_31 n) (lf_Md_activate_31 M n) x1 x2 x3) (sn_Lf.gR (k := 10) (by decide) (sn_Lf.aI (k := 10) (by decide) (fun v3 => sn_Lf.ite (lf_Md_activate_67 M (f_Md_activate_31 M n) (g_Md_activate_31 n) (lf_Md_activate_31 M n) x1 x2 x3) (sn_Lf.gR (k := 11) (by decide) (sn_Lf.aI (k := 11) (by decide) (fun v4 => sn_Lf.ite (lf_Md_activate_67 M (f_Md_activate_31 M n) (g_Md_activate_31 n) (lf_Md_activate_31 M n) x1 x2 x3) (sn_Lf.nn (sn_Lf.cV (lf_Md_start M x3) (lf_Md_activate_67 M (f_Md_activate_31 M n) (g_Md_activate_31 n) (lf_Md_activate_31 M n) x1 x2 x3))))))))))
def g_Md_activate (x1 : Int32) (x2 : Int32) : sn_G := y_I (g_Md_isLink x1) fun v6 => (if v6 = 0 then g_Md_activate_18 else q_I 2 x1 fun v7 => (if ¬ v7 = x2 then w_Z 2 x1 x2 (y_nI (((2 : Int32) * x1)) fun n8 => g_Md_activate_31 sn_fuel x1 x2 n8) else g_Md_activate_18))
set_option maxHeartbeats 4000000 in
set_option maxRecDepth 100000 in
theorem lf_Md_activate (M : Nat) (x1 : Int32) (x2 : Int32) : sn_Lf M (f_Md_activate M x1 x2) (g_Md_activate x1 x2) := sn_Lf.nn (sn_Lf.cI (lf_Md_isLink M x1) (fun v6 => sn_Lf.ite (lf_Md_activate_18 M) (sn_Lf.gR (k := 2) (by decide) (sn_Lf.aI (k := 2) (by decide) (fun v7 => sn_Lf.ite (sn_Lf.gR (k := 2) (by decide) (sn_Lf.bZ (k := 2) (by decide) (sn_Lf.nI (fun n8 => lf_Md_activate_31 M sn_fuel x1 x2 n8)))) (lf_Md_activate_18 M))))))
def g_Md_cut (x1 : Int32) (x2 : Int32) : sn_G := y_I (g_Md_isLink x1) fun v1 => (if ¬ v1 = 0 then w_Z 3 x1 x2 (z_Z (1 : Int32)) else z_Z (0 : Int32))
set_option maxHeartbeats 4000000 in
set_option maxRecDepth 100000 in
theorem lf_Md_cut (M : Nat) (x1 : Int32) (x2 : Int32) : sn_Lf M (f_Md_cut M x1 x2) (g_Md_cut x1 x2) := sn_Lf.nn (sn_Lf.cI (lf_Md_isLink M x1) (fun v1 => sn_Lf.ite (sn_Lf.gR (k := 3) (by decide) (sn_Lf.bZ (k := 3) (by decide) (sn_Lf.Z))) (sn_Lf.Z)))
def g_Md_damage_19 : sn_G := z_Z (0 : Int32)
set_option maxHeartbeats 4000000 in
set_option maxRecDepth 100000 in
theorem lf_Md_damage_19 (M : Nat) : sn_Lf M (f_Md_damage_19 M) (g_Md_damage_19) := sn_Lf.Z
def g_Md_damage (x1 : Int32) (x2 : Int32) (x3 : Int32) : sn_G := y_I (g_Md_isEnd x1 x2) fun v1 => (if v1 = 0 then g_Md_damage_19 else (if x3 < 0 then g_Md_damage_19 else (if x3 ≤ (100 : Int32) then w_I 22 (((2 : Int32) * x1) + x2) x3 (z_Z (1 : Int32)) else g_Md_damage_19)))
set_option maxHeartbeats 4000000 in
set_option maxRecDepth 100000 in
theorem lf_Md_damage (M : Nat) (x1 : Int32) (x2 : Int32) (x3 : Int32) : sn_Lf M (f_Md_damage M x1 x2 x3) (g_Md_damage x1 x2 x3) := sn_Lf.nn (sn_Lf.cI (lf_Md_isEnd M x1 x2) (fun v1 => sn_Lf.ite (lf_Md_damage_19 M) (sn_Lf.ite (lf_Md_damage_19 M) (sn_Lf.ite (sn_Lf.gR (k := 22) (by decide) (sn_Lf.bI (k := 22) (by decide) (sn_Lf.Z))) (lf_Md_damage_19 M)))))
def g_Md_tick_11 : sn_G := z_I (-1 : Int32)
set_option maxHeartbeats 4000000 in
set_option maxRecDepth 100000 in
theorem lf_Md_tick_11 (M : Nat) : sn_Lf M (f_Md_tick_11 M) (g_Md_tick_11) := sn_Lf.I
def g_Md_tick_15 : Nat → Int32 → Int32 → sn_G
  | 0, _, _ => z_0
  | n + 1, x1, x2 => (if x1 ≤ x2 then q_S 5 fun v1 => z_I v1 else y_V (g_Md_one) (g_Md_tick_15 n x1 (x2 + (1 : Int32))))
set_option maxHeartbeats 4000000 in
set_option maxRecDepth 100000 in
theorem lf_Md_tick_15 (M : Nat) : ∀ (n : Nat) (x1 : Int32) (x2 : Int32), sn_Lf M (f_Md_tick_15 M n x1 x2) (g_Md_tick_15 n x1 x2)
  | 0, _, _ => sn_Lf.z0
  | n + 1, x1, x2 => sn_Lf.ite (sn_Lf.gS (k := 5) rfl (fun v1 => sn_Lf.I)) (sn_Lf.nn (sn_Lf.cV (lf_Md_one M) (lf_Md_tick_15 M n x1 (x2 + (1 : Int32)))))
def g_Md_tick (x1 : Int32) : sn_G := (if x1 < 0 then g_Md_tick_11 else (if x1 ≤ (200 : Int32) then g_Md_tick_15 sn_fuel x1 (0 : Int32) else g_Md_tick_11))
set_option maxHeartbeats 4000000 in
set_option maxRecDepth 100000 in
theorem lf_Md_tick (M : Nat) (x1 : Int32) : sn_Lf M (f_Md_tick M x1) (g_Md_tick x1) := sn_Lf.ite (lf_Md_tick_11 M) (sn_Lf.ite (lf_Md_tick_15 M sn_fuel x1 (0 : Int32)) (lf_Md_tick_11 M))
def g_Md_personAt_33 (t0 : Int32) : sn_G := z_I t0
set_option maxHeartbeats 4000000 in
set_option maxRecDepth 100000 in
theorem lf_Md_personAt_33 (M : Nat) (t0 : Int32) : sn_Lf M (f_Md_personAt_33 t0) (g_Md_personAt_33 t0) := sn_Lf.I
def g_Md_personAt_32 : sn_G := g_Md_personAt_33 (-1 : Int32)
set_option maxHeartbeats 4000000 in
set_option maxRecDepth 100000 in
theorem lf_Md_personAt_32 (M : Nat) : sn_Lf M (f_Md_personAt_32) (g_Md_personAt_32) := lf_Md_personAt_33 M (-1 : Int32)
def g_Md_personAt (x0 : Int32) : sn_G := (if x0 < 0 then g_Md_personAt_32 else (if (60 : Int32) ≤ x0 then g_Md_personAt_32 else (if (4 : Int32) ≤ (x0 % (10 : Int32)) then g_Md_personAt_32 else g_Md_personAt_33 (((4 : Int32) * (x0 / (10 : Int32))) + (x0 % (10 : Int32))))))
set_option maxHeartbeats 4000000 in
set_option maxRecDepth 100000 in
theorem lf_Md_personAt (M : Nat) (x0 : Int32) : sn_Lf M (f_Md_personAt x0) (g_Md_personAt x0) := sn_Lf.ite (lf_Md_personAt_32 M) (sn_Lf.ite (lf_Md_personAt_32 M) (sn_Lf.ite (lf_Md_personAt_32 M) (lf_Md_personAt_33 M (((4 : Int32) * (x0 / (10 : Int32))) + (x0 % (10 : Int32))))))
def g_Md_dial_32 : sn_G := z_Z (0 : Int32)
set_option maxHeartbeats 4000000 in
set_option maxRecDepth 100000 in
theorem lf_Md_dial_32 (M : Nat) : sn_Lf M (f_Md_dial_32 M) (g_Md_dial_32) := sn_Lf.Z
def g_Md_dial (x1 : Int32) (x2 : Int32) : sn_G := y_I (g_Md_personAt x1) fun v1 => (if v1 = (-1 : Int32) then g_Md_dial_32 else q_I 61 v1 fun v2 => (if ¬ v2 = 0 then g_Md_dial_32 else y_I (g_Md_personAt x2) fun v3 => (if v3 = (-1 : Int32) then g_Md_dial_32 else (if ¬ x1 = x2 then w_I 61 v1 (1 : Int32) (y_V (g_Md_connect (x1 / (10 : Int32)) v1 x2) (z_Z (1 : Int32))) else g_Md_dial_32))))
set_option maxHeartbeats 4000000 in
set_option maxRecDepth 100000 in
theorem lf_Md_dial (M : Nat) (x1 : Int32) (x2 : Int32) : sn_Lf M (f_Md_dial M x1 x2) (g_Md_dial x1 x2) := sn_Lf.cI (lf_Md_personAt M x1) (fun v1 => sn_Lf.ite (lf_Md_dial_32 M) (sn_Lf.gR (k := 61) (by decide) (sn_Lf.aI (k := 61) (by decide) (fun v2 => sn_Lf.ite (lf_Md_dial_32 M) (sn_Lf.cI (lf_Md_personAt M x2) (fun v3 => sn_Lf.ite (lf_Md_dial_32 M) (sn_Lf.ite (sn_Lf.gR (k := 61) (by decide) (sn_Lf.bI (k := 61) (by decide) (sn_Lf.nn (sn_Lf.cV (lf_Md_connect M (x1 / (10 : Int32)) v1 x2) (sn_Lf.Z))))) (lf_Md_dial_32 M))))))))
def g_Md_answer_20 : sn_G := z_Z (0 : Int32)
set_option maxHeartbeats 4000000 in
set_option maxRecDepth 100000 in
theorem lf_Md_answer_20 (M : Nat) : sn_Lf M (f_Md_answer_20 M) (g_Md_answer_20) := sn_Lf.Z
def g_Md_answer (x1 : Int32) : sn_G := y_I (g_Md_personAt x1) fun v1 => (if v1 = (-1 : Int32) then g_Md_answer_20 else q_I 61 v1 fun v2 => (if v2 = (3 : Int32) then w_I 61 v1 (4 : Int32) (q_I 62 v1 fun v3 => y_V (g_Md_back v3 (9 : Int32)) (z_Z (1 : Int32))) else g_Md_answer_20))
set_option maxHeartbeats 4000000 in
set_option maxRecDepth 100000 in
theorem lf_Md_answer (M : Nat) (x1 : Int32) : sn_Lf M (f_Md_answer M x1) (g_Md_answer x1) := sn_Lf.cI (lf_Md_personAt M x1) (fun v1 => sn_Lf.ite (lf_Md_answer_20 M) (sn_Lf.gR (k := 61) (by decide) (sn_Lf.aI (k := 61) (by decide) (fun v2 => sn_Lf.ite (sn_Lf.gR (k := 61) (by decide) (sn_Lf.bI (k := 61) (by decide) (sn_Lf.gR (k := 62) (by decide) (sn_Lf.aI (k := 62) (by decide) (fun v3 => sn_Lf.nn (sn_Lf.cV (lf_Md_back M v3 (9 : Int32)) (sn_Lf.Z))))))) (lf_Md_answer_20 M)))))
def g_Md_hang_29 : sn_G := z_Z (0 : Int32)
set_option maxHeartbeats 4000000 in
set_option maxRecDepth 100000 in
theorem lf_Md_hang_29 (M : Nat) : sn_Lf M (f_Md_hang_29 M) (g_Md_hang_29) := sn_Lf.Z
def g_Md_hang_77 : sn_G := z_Z (1 : Int32)
set_option maxHeartbeats 4000000 in
set_option maxRecDepth 100000 in
theorem lf_Md_hang_77 (M : Nat) : sn_Lf M (f_Md_hang_77 M) (g_Md_hang_77) := sn_Lf.Z
def g_Md_hang_53 (x2 : Int32) (x3 : Int32) (t0 : Int32) : sn_G := w_I 61 x2 (0 : Int32) ((if ¬ t0 = 0 then g_Md_hang_77 else y_V (g_Md_part x2) (y_V (g_Md_letGo x3) (g_Md_hang_77))))
set_option maxHeartbeats 4000000 in
set_option maxRecDepth 100000 in
theorem lf_Md_hang_53 (M : Nat) (x2 : Int32) (x3 : Int32) (t0 : Int32) : sn_Lf M (f_Md_hang_53 M x2 x3 t0) (g_Md_hang_53 x2 x3 t0) := sn_Lf.gR (k := 61) (by decide) (sn_Lf.bI (k := 61) (by decide) (sn_Lf.ite (lf_Md_hang_77 M) (sn_Lf.nn (sn_Lf.cV (lf_Md_part M x2) (sn_Lf.nn (sn_Lf.cV (lf_Md_letGo M x3) (lf_Md_hang_77 M)))))))
def g_Md_hang (x1 : Int32) : sn_G := y_I (g_Md_personAt x1) fun v3 => (if v3 = (-1 : Int32) then g_Md_hang_29 else q_I 61 v3 fun v4 => (if v4 = 0 then g_Md_hang_29 else q_I 61 v3 fun v5 => (if ¬ v5 = (3 : Int32) then q_I 62 v3 fun v6 => q_I 61 v3 fun v7 => (if ¬ v7 = (5 : Int32) then g_Md_hang_53 v3 v6 (0 : Int32) else g_Md_hang_53 v3 v6 (1 : Int32)) else g_Md_hang_29)))
set_option maxHeartbeats 4000000 in
set_option maxRecDepth 100000 in
theorem lf_Md_hang (M : Nat) (x1 : Int32) : sn_Lf M (f_Md_hang M x1) (g_Md_hang x1) := sn_Lf.cI (lf_Md_personAt M x1) (fun v3 => sn_Lf.ite (lf_Md_hang_29 M) (sn_Lf.gR (k := 61) (by decide) (sn_Lf.aI (k := 61) (by decide) (fun v4 => sn_Lf.ite (lf_Md_hang_29 M) (sn_Lf.gR (k := 61) (by decide) (sn_Lf.aI (k := 61) (by decide) (fun v5 => sn_Lf.ite (sn_Lf.gR (k := 62) (by decide) (sn_Lf.aI (k := 62) (by decide) (fun v6 => sn_Lf.gR (k := 61) (by decide) (sn_Lf.aI (k := 61) (by decide) (fun v7 => sn_Lf.ite (lf_Md_hang_53 M v3 v6 (0 : Int32)) (lf_Md_hang_53 M v3 v6 (1 : Int32))))))) (lf_Md_hang_29 M))))))))
def g_Md_isFlow_23 (t0 : Int32) : sn_G := z_Z t0
set_option maxHeartbeats 4000000 in
set_option maxRecDepth 100000 in
theorem lf_Md_isFlow_23 (M : Nat) (t0 : Int32) : sn_Lf M (f_Md_isFlow_23 M t0) (g_Md_isFlow_23 t0) := sn_Lf.Z
def g_Md_isFlow_22 : sn_G := g_Md_isFlow_23 (0 : Int32)
set_option maxHeartbeats 4000000 in
set_option maxRecDepth 100000 in
theorem lf_Md_isFlow_22 (M : Nat) : sn_Lf M (f_Md_isFlow_22 M) (g_Md_isFlow_22) := lf_Md_isFlow_23 M (0 : Int32)
def g_Md_isFlow (x1 : Int32) (x2 : Int32) (x3 : Int32) : sn_G := y_I (g_Md_areNeighbours x1 x2) fun v1 => (if v1 = 0 then g_Md_isFlow_22 else (if x3 < 0 then g_Md_isFlow_22 else (if (4 : Int32) ≤ x3 then g_Md_isFlow_22 else g_Md_isFlow_23 (1 : Int32))))
set_option maxHeartbeats 4000000 in
set_option maxRecDepth 100000 in
theorem lf_Md_isFlow (M : Nat) (x1 : Int32) (x2 : Int32) (x3 : Int32) : sn_Lf M (f_Md_isFlow M x1 x2 x3) (g_Md_isFlow x1 x2 x3) := sn_Lf.nn (sn_Lf.cI (lf_Md_areNeighbours M x1 x2) (fun v1 => sn_Lf.ite (lf_Md_isFlow_22 M) (sn_Lf.ite (lf_Md_isFlow_22 M) (sn_Lf.ite (lf_Md_isFlow_22 M) (lf_Md_isFlow_23 M (1 : Int32))))))
def g_Md_block_27 : sn_G := z_Z (0 : Int32)
set_option maxHeartbeats 4000000 in
set_option maxRecDepth 100000 in
theorem lf_Md_block_27 (M : Nat) : sn_Lf M (f_Md_block_27 M) (g_Md_block_27) := sn_Lf.Z
def g_Md_block_63 (t1 : Int32) (t2 : Int32) : sn_G := y_V (g_Md_say t1 t2 (0 : Int32)) (z_Z (1 : Int32))
set_option maxHeartbeats 4000000 in
set_option maxRecDepth 100000 in
theorem lf_Md_block_63 (M : Nat) (t1 : Int32) (t2 : Int32) : sn_Lf M (f_Md_block_63 M (some M) t1 t2) (g_Md_block_63 t1 t2) := sn_Lf.nn (sn_Lf.cV (lf_Md_say M t1 t2 (0 : Int32)) (sn_Lf.Z))
def g_Md_block (x1 : Int32) (x2 : Int32) (x3 : Int32) (x4 : Int32) : sn_G := y_I (g_Md_isFlow x1 x2 x3) fun v2 => (if v2 = 0 then g_Md_block_27 else y_I (g_Md_flowAt x1 x2 x3) fun v3 => q_I 55 v3 fun v4 => (if ¬ v4 = x4 then y_I (g_Md_flowAt x1 x2 x3) fun v5 => w_Z 55 v5 x4 (y_I (g_Md_flowAt x1 x2 x3) fun v6 => (if x4 = 0 then g_Md_block_63 v6 (14 : Int32) else g_Md_block_63 v6 (13 : Int32))) else g_Md_block_27))
set_option maxHeartbeats 4000000 in
set_option maxRecDepth 100000 in
theorem lf_Md_block (M : Nat) (x1 : Int32) (x2 : Int32) (x3 : Int32) (x4 : Int32) : sn_Lf M (f_Md_block M x1 x2 x3 x4) (g_Md_block x1 x2 x3 x4) := sn_Lf.nn (sn_Lf.cI (lf_Md_isFlow M x1 x2 x3) (fun v2 => sn_Lf.ite (lf_Md_block_27 M) (sn_Lf.gR (k := 55) (by decide) (sn_Lf.nn (sn_Lf.cI (lf_Md_flowAt M x1 x2 x3) (fun v3 => sn_Lf.aI (k := 55) (by decide) (fun v4 => sn_Lf.ite (sn_Lf.gR (k := 55) (by decide) (sn_Lf.nn (sn_Lf.cI (lf_Md_flowAt M x1 x2 x3) (fun v5 => sn_Lf.bZ (k := 55) (by decide) (sn_Lf.nn (sn_Lf.cI (lf_Md_flowAt M x1 x2 x3) (fun v6 => sn_Lf.ite (lf_Md_block_63 M v6 (14 : Int32)) (lf_Md_block_63 M v6 (13 : Int32))))))))) (lf_Md_block_27 M))))))))
def g_Md_left_14 (t0 : Int32) : sn_G := z_I t0
set_option maxHeartbeats 4000000 in
set_option maxRecDepth 100000 in
theorem lf_Md_left_14 (M : Nat) (t0 : Int32) : sn_Lf M (f_Md_left_14 M t0) (g_Md_left_14 t0) := sn_Lf.I
def g_Md_left (x1 : Int32) : sn_G := (if ¬ x1 = 0 then q_S 6 fun v1 => g_Md_left_14 (x1 - v1) else g_Md_left_14 (0 : Int32))
set_option maxHeartbeats 4000000 in
set_option maxRecDepth 100000 in
theorem lf_Md_left (M : Nat) (x1 : Int32) : sn_Lf M (f_Md_left M x1) (g_Md_left x1) := sn_Lf.ite (sn_Lf.gS (k := 6) rfl (fun v1 => lf_Md_left_14 M (x1 - v1))) (lf_Md_left_14 M (0 : Int32))
def g_Md_end_224 (t0 : Int32) : sn_G := z_I t0
set_option maxHeartbeats 4000000 in
set_option maxRecDepth 100000 in
theorem lf_Md_end_224 (M : Nat) (t0 : Int32) : sn_Lf M (f_Md_end_224 M t0) (g_Md_end_224 t0) := sn_Lf.I
def g_Md_end_195 (t0 : Int32) : sn_G := z_I t0
set_option maxHeartbeats 4000000 in
set_option maxRecDepth 100000 in
theorem lf_Md_end_195 (M : Nat) (t0 : Int32) : sn_Lf M (f_Md_end_195 M t0) (g_Md_end_195 t0) := sn_Lf.I
def g_Md_end (x1 : Int32) (x2 : Int32) (x3 : Int32) : sn_G := y_I (g_Md_isEnd x1 x2) fun v1 => (if ¬ v1 = 0 then y_nI ((((2 : Int32) * x1) + x2)) fun n2 => (y_sw x3 [0, 1, 2, 3, 4, 5, 6, 7, 8, 9, 10, 11, 12, 13, 14, 15] [(q_I 10 n2 fun v3 => z_I v3), (q_I 11 n2 fun v4 => y_I (g_Md_left v4) fun v5 => z_I v5), (q_I 12 n2 fun v6 => z_I v6), (q_I 13 n2 fun v7 => z_I v7), (q_I 14 n2 fun v8 => z_I v8), (q_I 15 n2 fun v9 => z_I v9), (q_I 27 n2 fun v10 => z_I v10), (q_I 29 n2 fun v11 => z_I v11), (q_I 16 n2 fun v12 => z_I v12), (q_I 17 n2 fun v13 => z_I v13), (q_I 23 n2 fun v14 => (if v14 = 0 then g_Md_end_195 (0 : Int32) else g_Md_end_195 (1 : Int32))), (q_I 20 n2 fun v15 => y_I (g_Md_left v15) fun v16 => z_I v16), (q_I 21 n2 fun v17 => (if ¬ v17 = (-1 : Int32) then g_Md_end_224 (1 : Int32) else g_Md_end_224 (0 : Int32))), (q_I 22 n2 fun v18 => z_I v18), (q_I 37 n2 fun v19 => z_I v19), (q_I 38 n2 fun v20 => z_I v20)] (z_I (-1 : Int32))) else z_I (-1 : Int32))
set_option maxHeartbeats 4000000 in
set_option maxRecDepth 100000 in
theorem lf_Md_end (M : Nat) (x1 : Int32) (x2 : Int32) (x3 : Int32) : sn_Lf M (f_Md_end M x1 x2 x3) (g_Md_end x1 x2 x3) := sn_Lf.nn (sn_Lf.cI (lf_Md_isEnd M x1 x2) (fun v1 => sn_Lf.ite (sn_Lf.nI (fun n2 => sn_Lf.swC (sn_Lf.gR (k := 10) (by decide) (sn_Lf.aI (k := 10) (by decide) (fun v3 => sn_Lf.I))) (sn_Lf.swC (sn_Lf.gR (k := 11) (by decide) (sn_Lf.aI (k := 11) (by decide) (fun v4 => sn_Lf.nn (sn_Lf.cI (lf_Md_left M v4) (fun v5 => sn_Lf.I))))) (sn_Lf.swC (sn_Lf.gR (k := 12) (by decide) (sn_Lf.aI (k := 12) (by decide) (fun v6 => sn_Lf.I))) (sn_Lf.swC (sn_Lf.gR (k := 13) (by decide) (sn_Lf.aI (k := 13) (by decide) (fun v7 => sn_Lf.I))) (sn_Lf.swC (sn_Lf.gR (k := 14) (by decide) (sn_Lf.aI (k := 14) (by decide) (fun v8 => sn_Lf.I))) (sn_Lf.swC (sn_Lf.gR (k := 15) (by decide) (sn_Lf.aI (k := 15) (by decide) (fun v9 => sn_Lf.I))) (sn_Lf.swC (sn_Lf.gR (k := 27) (by decide) (sn_Lf.aI (k := 27) (by decide) (fun v10 => sn_Lf.I))) (sn_Lf.swC (sn_Lf.gR (k := 29) (by decide) (sn_Lf.aI (k := 29) (by decide) (fun v11 => sn_Lf.I))) (sn_Lf.swC (sn_Lf.gR (k := 16) (by decide) (sn_Lf.aI (k := 16) (by decide) (fun v12 => sn_Lf.I))) (sn_Lf.swC (sn_Lf.gR (k := 17) (by decide) (sn_Lf.aI (k := 17) (by decide) (fun v13 => sn_Lf.I))) (sn_Lf.swC (sn_Lf.gR (k := 23) (by decide) (sn_Lf.aI (k := 23) (by decide) (fun v14 => sn_Lf.ite (lf_Md_end_195 M (0 : Int32)) (lf_Md_end_195 M (1 : Int32))))) (sn_Lf.swC (sn_Lf.gR (k := 20) (by decide) (sn_Lf.aI (k := 20) (by decide) (fun v15 => sn_Lf.nn (sn_Lf.cI (lf_Md_left M v15) (fun v16 => sn_Lf.I))))) (sn_Lf.swC (sn_Lf.gR (k := 21) (by decide) (sn_Lf.aI (k := 21) (by decide) (fun v17 => sn_Lf.ite (lf_Md_end_224 M (1 : Int32)) (lf_Md_end_224 M (0 : Int32))))) (sn_Lf.swC (sn_Lf.gR (k := 22) (by decide) (sn_Lf.aI (k := 22) (by decide) (fun v18 => sn_Lf.I))) (sn_Lf.swC (sn_Lf.gR (k := 37) (by decide) (sn_Lf.aI (k := 37) (by decide) (fun v19 => sn_Lf.I))) (sn_Lf.swC (sn_Lf.gR (k := 38) (by decide) (sn_Lf.aI (k := 38) (by decide) (fun v20 => sn_Lf.I))) (sn_Lf.swN (sn_Lf.I))))))))))))))))))) (sn_Lf.I)))
def g_Md_octets_31 (t0 : Int32) : sn_G := z_I t0
set_option maxHeartbeats 4000000 in
set_option maxRecDepth 100000 in
theorem lf_Md_octets_31 (M : Nat) (t0 : Int32) : sn_Lf M (f_Md_octets_31 M t0) (g_Md_octets_31 t0) := sn_Lf.I
def g_Md_octets (x1 : Int32) : sn_G := q_I 30 x1 fun v1 => (if ¬ v1 = (5 : Int32) then q_I 30 x1 fun v2 => (if ¬ v2 = (4 : Int32) then g_Md_octets_31 (6 : Int32) else g_Md_octets_31 (5 : Int32)) else g_Md_octets_31 (13 : Int32))
set_option maxHeartbeats 4000000 in
set_option maxRecDepth 100000 in
theorem lf_Md_octets (M : Nat) (x1 : Int32) : sn_Lf M (f_Md_octets M x1) (g_Md_octets x1) := sn_Lf.gR (k := 30) (by decide) (sn_Lf.aI (k := 30) (by decide) (fun v1 => sn_Lf.ite (sn_Lf.gR (k := 30) (by decide) (sn_Lf.aI (k := 30) (by decide) (fun v2 => sn_Lf.ite (lf_Md_octets_31 M (6 : Int32)) (lf_Md_octets_31 M (5 : Int32))))) (lf_Md_octets_31 M (13 : Int32))))
def g_Md_plain_51 (t0 : Int32) : sn_G := z_I t0
set_option maxHeartbeats 4000000 in
set_option maxRecDepth 100000 in
theorem lf_Md_plain_51 (M : Nat) (t0 : Int32) : sn_Lf M (f_Md_plain_51 M t0) (g_Md_plain_51 t0) := sn_Lf.I
def g_Md_plain_113 (t0 : Int32) : sn_G := z_I t0
set_option maxHeartbeats 4000000 in
set_option maxRecDepth 100000 in
theorem lf_Md_plain_113 (M : Nat) (t0 : Int32) : sn_Lf M (f_Md_plain_113 M t0) (g_Md_plain_113 t0) := sn_Lf.I
def g_Md_plain_211 (t0 : Int32) : sn_G := z_I t0
set_option maxHeartbeats 4000000 in
set_option maxRecDepth 100000 in
theorem lf_Md_plain_211 (M : Nat) (t0 : Int32) : sn_Lf M (f_Md_plain_211 M t0) (g_Md_plain_211 t0) := sn_Lf.I
def g_Md_plain (x1 : Int32) (x2 : Int32) : sn_G := q_I 30 x1 fun v1 => (if (4 : Int32) ≤ v1 then (if ¬ x2 = 0 then (if ¬ x2 = (1 : Int32) then (if ¬ x2 = (2 : Int32) then q_J 35 x1 fun v2 => (if ¬ x2 = (3 : Int32) then (if (8 : Int32) ≤ x2 then (if ¬ x2 = (8 : Int32) then (if ¬ x2 = (9 : Int32) then y_I (g_Md_hopsOf v2) fun v3 => g_Md_plain_211 v3 else y_I (g_Md_twoOf v2) fun v4 => g_Md_plain_211 (v4 &&& (255 : Int32))) else y_I (g_Md_oneOf v2) fun v5 => g_Md_plain_211 v5) else y_I (g_Md_toOf v2) fun v6 => y_I (g_Md_fromOf v2) fun v7 => y_I (g_Md_flowOf v2) fun v8 => z_I ((Int32.toUInt32 ((v6 + (v7 <<< ((14 : Int32) &&& 31))) + (v8 <<< ((28 : Int32) &&& 31))) >>> (Int32.toUInt32 ((8 : Int32) * (x2 - (4 : Int32))) &&& Int32.toUInt32 31)).toInt32 &&& (255 : Int32))) else y_I (g_Md_kindOf v2) fun v9 => z_I v9) else (if ¬ v1 = (4 : Int32) then g_Md_plain_113 (8 : Int32) else g_Md_plain_113 (0 : Int32))) else q_I 31 x1 fun v10 => q_I 32 x1 fun v11 => z_I (v10 + ((128 : Int32) * v11))) else q_I 33 x1 fun v12 => q_I 34 x1 fun v13 => z_I (v12 + ((128 : Int32) * v13))) else (if (2 : Int32) ≤ x2 then (if ¬ x2 = (2 : Int32) then (if (2 : Int32) ≤ v1 then q_I 39 x1 fun v14 => g_Md_plain_51 (v1 + ((4 : Int32) * v14)) else g_Md_plain_51 v1) else g_Md_plain_51 (1 : Int32)) else g_Md_plain_51 (255 : Int32)))
set_option maxHeartbeats 4000000 in
set_option maxRecDepth 100000 in
theorem lf_Md_plain (M : Nat) (x1 : Int32) (x2 : Int32) : sn_Lf M (f_Md_plain M x1 x2) (g_Md_plain x1 x2) := sn_Lf.gR (k := 30) (by decide) (sn_Lf.aI (k := 30) (by decide) (fun v1 => sn_Lf.ite (sn_Lf.ite (sn_Lf.ite (sn_Lf.ite (sn_Lf.gR (k := 35) (by decide) (sn_Lf.aJ (k := 35) (by decide) (fun v2 => sn_Lf.ite (sn_Lf.ite (sn_Lf.ite (sn_Lf.ite (sn_Lf.cI (lf_Md_hopsOf M v2) (fun v3 => lf_Md_plain_211 M v3)) (sn_Lf.cI (lf_Md_twoOf M v2) (fun v4 => lf_Md_plain_211 M (v4 &&& (255 : Int32))))) (sn_Lf.cI (lf_Md_oneOf M v2) (fun v5 => lf_Md_plain_211 M v5))) (sn_Lf.cI (lf_Md_toOf M v2) (fun v6 => sn_Lf.cI (lf_Md_fromOf M v2) (fun v7 => sn_Lf.cI (lf_Md_flowOf M v2) (fun v8 => sn_Lf.I))))) (sn_Lf.cI (lf_Md_kindOf M v2) (fun v9 => sn_Lf.I))))) (sn_Lf.ite (lf_Md_plain_113 M (8 : Int32)) (lf_Md_plain_113 M (0 : Int32)))) (sn_Lf.gR (k := 31) (by decide) (sn_Lf.aI (k := 31) (by decide) (fun v10 => sn_Lf.gR (k := 32) (by decide) (sn_Lf.aI (k := 32) (by decide) (fun v11 => sn_Lf.I)))))) (sn_Lf.gR (k := 33) (by decide) (sn_Lf.aI (k := 33) (by decide) (fun v12 => sn_Lf.gR (k := 34) (by decide) (sn_Lf.aI (k := 34) (by decide) (fun v13 => sn_Lf.I)))))) (sn_Lf.ite (sn_Lf.ite (sn_Lf.ite (sn_Lf.gR (k := 39) (by decide) (sn_Lf.aI (k := 39) (by decide) (fun v14 => lf_Md_plain_51 M (v1 + ((4 : Int32) * v14))))) (lf_Md_plain_51 M v1)) (lf_Md_plain_51 M (1 : Int32))) (lf_Md_plain_51 M (255 : Int32)))))
def g_Md_octetOf_84 (k48 : Int32 → Int32 → Int32 → Int32 → Int32 → Int32 → Int32 → sn_G) (x1 : Int32) (x2 : Int32) (x3 : Int32) (x5 : Int32) (x6 : Int32) (x7 : Int32) (t0 : Int32) : sn_G := k48 x1 x2 x3 t0 x5 x6 (x7 + (1 : Int32))
set_option maxHeartbeats 4000000 in
set_option maxRecDepth 100000 in
theorem lf_Md_octetOf_84 (M : Nat) (fk48 : Int32 → Int32 → Int32 → Int32 → Int32 → Int32 → Int32 → sn_M) (k48 : Int32 → Int32 → Int32 → Int32 → Int32 → Int32 → Int32 → sn_G) (hk48 : ∀ (x1 : Int32) (x2 : Int32) (x3 : Int32) (x4 : Int32) (x5 : Int32) (x6 : Int32) (x7 : Int32), sn_Lf M (fk48 x1 x2 x3 x4 x5 x6 x7) (k48 x1 x2 x3 x4 x5 x6 x7)) (x1 : Int32) (x2 : Int32) (x3 : Int32) (x5 : Int32) (x6 : Int32) (x7 : Int32) (t0 : Int32) : sn_Lf M (f_Md_octetOf_84 fk48 M x1 x2 x3 x5 x6 x7 t0) (g_Md_octetOf_84 k48 x1 x2 x3 x5 x6 x7 t0) := hk48 x1 x2 x3 t0 x5 x6 (x7 + (1 : Int32))
def g_Md_octetOf_48 (k28 : Int32 → Int32 → Int32 → Int32 → Int32 → sn_G) : Nat → Int32 → Int32 → Int32 → Int32 → Int32 → Int32 → Int32 → sn_G
  | 0, _, _, _, _, _, _, _ => z_0
  | n + 1, x1, x2, x3, x4, x5, x6, x7 => (if (8 : Int32) ≤ x7 then k28 x1 x2 x3 x4 (x5 + (1 : Int32)) else (if ¬ (((x6 >>> (x7 &&& 31)) ^^^ x4) &&& (1 : Int32)) = (1 : Int32) then g_Md_octetOf_84 (g_Md_octetOf_48 k28 n) x1 x2 x3 x5 x6 x7 (x4 >>> ((1 : Int32) &&& 31)) else g_Md_octetOf_84 (g_Md_octetOf_48 k28 n) x1 x2 x3 x5 x6 x7 ((x4 >>> ((1 : Int32) &&& 31)) ^^^ (33800 : Int32))))
set_option maxHeartbeats 4000000 in
set_option maxRecDepth 100000 in
theorem lf_Md_octetOf_48 (M : Nat) (fk28 : Int32 → Int32 → Int32 → Int32 → Int32 → sn_M) (k28 : Int32 → Int32 → Int32 → Int32 → Int32 → sn_G) (hk28 : ∀ (x1 : Int32) (x2 : Int32) (x3 : Int32) (x4 : Int32) (x5 : Int32), sn_Lf M (fk28 x1 x2 x3 x4 x5) (k28 x1 x2 x3 x4 x5)) : ∀ (n : Nat) (x1 : Int32) (x2 : Int32) (x3 : Int32) (x4 : Int32) (x5 : Int32) (x6 : Int32) (x7 : Int32), sn_Lf M (f_Md_octetOf_48 fk28 M n x1 x2 x3 x4 x5 x6 x7) (g_Md_octetOf_48 k28 n x1 x2 x3 x4 x5 x6 x7)
  | 0, _, _, _, _, _, _, _ => sn_Lf.z0
  | n + 1, x1, x2, x3, x4, x5, x6, x7 => sn_Lf.ite (hk28 x1 x2 x3 x4 (x5 + (1 : Int32))) (sn_Lf.ite (lf_Md_octetOf_84 M (f_Md_octetOf_48 fk28 M n) (g_Md_octetOf_48 k28 n) (lf_Md_octetOf_48 M fk28 k28 hk28 n) x1 x2 x3 x5 x6 x7 (x4 >>> ((1 : Int32) &&& 31))) (lf_Md_octetOf_84 M (f_Md_octetOf_48 fk28 M n) (g_Md_octetOf_48 k28 n) (lf_Md_octetOf_48 M fk28 k28 hk28 n) x1 x2 x3 x5 x6 x7 ((x4 >>> ((1 : Int32) &&& 31)) ^^^ (33800 : Int32))))
def g_Md_octetOf_127 (t0 : Int32) : sn_G := z_I t0
set_option maxHeartbeats 4000000 in
set_option maxRecDepth 100000 in
theorem lf_Md_octetOf_127 (M : Nat) (t0 : Int32) : sn_Lf M (f_Md_octetOf_127 M t0) (g_Md_octetOf_127 t0) := sn_Lf.I
def g_Md_octetOf_28 : Nat → Int32 → Int32 → Int32 → Int32 → Int32 → sn_G
  | 0, _, _, _, _, _ => z_0
  | n + 1, x1, x2, x3, x4, x5 => (if (x3 - (2 : Int32)) ≤ x5 then y_nI ((x4 ^^^ (65535 : Int32))) fun n1 => (if ¬ x2 = (x3 - (2 : Int32)) then g_Md_octetOf_127 (n1 >>> ((8 : Int32) &&& 31)) else g_Md_octetOf_127 (n1 &&& (255 : Int32))) else y_I (g_Md_plain x1 x5) fun v2 => g_Md_octetOf_48 (g_Md_octetOf_28 n) sn_fuel x1 x2 x3 x4 x5 v2 (0 : Int32))
set_option maxHeartbeats 4000000 in
set_option maxRecDepth 100000 in
theorem lf_Md_octetOf_28 (M : Nat) : ∀ (n : Nat) (x1 : Int32) (x2 : Int32) (x3 : Int32) (x4 : Int32) (x5 : Int32), sn_Lf M (f_Md_octetOf_28 M n x1 x2 x3 x4 x5) (g_Md_octetOf_28 n x1 x2 x3 x4 x5)
  | 0, _, _, _, _, _ => sn_Lf.z0
  | n + 1, x1, x2, x3, x4, x5 => sn_Lf.ite (sn_Lf.nI (fun n1 => sn_Lf.ite (lf_Md_octetOf_127 M (n1 >>> ((8 : Int32) &&& 31))) (lf_Md_octetOf_127 M (n1 &&& (255 : Int32))))) (sn_Lf.nn (sn_Lf.cI (lf_Md_plain M x1 x5) (fun v2 => lf_Md_octetOf_48 M (f_Md_octetOf_28 M n) (g_Md_octetOf_28 n) (lf_Md_octetOf_28 M n) sn_fuel x1 x2 x3 x4 x5 v2 (0 : Int32))))
def g_Md_octetOf (x1 : Int32) (x2 : Int32) : sn_G := y_I (g_Md_octets x1) fun v3 => (if (v3 - (2 : Int32)) ≤ x2 then g_Md_octetOf_28 sn_fuel x1 x2 v3 (65535 : Int32) (0 : Int32) else y_I (g_Md_plain x1 x2) fun v4 => z_I v4)
set_option maxHeartbeats 4000000 in
set_option maxRecDepth 100000 in
theorem lf_Md_octetOf (M : Nat) (x1 : Int32) (x2 : Int32) : sn_Lf M (f_Md_octetOf M x1 x2) (g_Md_octetOf x1 x2) := sn_Lf.nn (sn_Lf.cI (lf_Md_octets M x1) (fun v3 => sn_Lf.ite (lf_Md_octetOf_28 M sn_fuel x1 x2 v3 (65535 : Int32) (0 : Int32)) (sn_Lf.nn (sn_Lf.cI (lf_Md_plain M x1 x2) (fun v4 => sn_Lf.I)))))
def g_Md_octet_39 : sn_G := z_I (-1 : Int32)
set_option maxHeartbeats 4000000 in
set_option maxRecDepth 100000 in
theorem lf_Md_octet_39 (M : Nat) : sn_Lf M (f_Md_octet_39 M) (g_Md_octet_39) := sn_Lf.I
def g_Md_octet (x1 : Int32) (x2 : Int32) (x3 : Int32) : sn_G := y_I (g_Md_isEnd x1 x2) fun v1 => (if v1 = 0 then g_Md_octet_39 else q_I 36 (((2 : Int32) * x1) + x2) fun v2 => (if v2 = 0 then g_Md_octet_39 else (if x3 < 0 then g_Md_octet_39 else y_I (g_Md_octets (((2 : Int32) * x1) + x2)) fun v3 => (if x3 < v3 then y_I (g_Md_octetOf (((2 : Int32) * x1) + x2) x3) fun v4 => z_I v4 else g_Md_octet_39))))
set_option maxHeartbeats 4000000 in
set_option maxRecDepth 100000 in
theorem lf_Md_octet (M : Nat) (x1 : Int32) (x2 : Int32) (x3 : Int32) : sn_Lf M (f_Md_octet M x1 x2 x3) (g_Md_octet x1 x2 x3) := sn_Lf.nn (sn_Lf.cI (lf_Md_isEnd M x1 x2) (fun v1 => sn_Lf.ite (lf_Md_octet_39 M) (sn_Lf.gR (k := 36) (by decide) (sn_Lf.aI (k := 36) (by decide) (fun v2 => sn_Lf.ite (lf_Md_octet_39 M) (sn_Lf.ite (lf_Md_octet_39 M) (sn_Lf.nn (sn_Lf.cI (lf_Md_octets M (((2 : Int32) * x1) + x2)) (fun v3 => sn_Lf.ite (sn_Lf.nn (sn_Lf.cI (lf_Md_octetOf M (((2 : Int32) * x1) + x2) x3) (fun v4 => sn_Lf.I))) (lf_Md_octet_39 M))))))))))
def g_Md_bits_22 : sn_G := z_I (-1 : Int32)
set_option maxHeartbeats 4000000 in
set_option maxRecDepth 100000 in
theorem lf_Md_bits_22 (M : Nat) : sn_Lf M (f_Md_bits_22 M) (g_Md_bits_22) := sn_Lf.I
def g_Md_bits_104 (k61 : Int32 → Int32 → Int32 → Int32 → Int32 → Int32 → sn_G) (x3 : Int32) (x4 : Int32) (x5 : Int32) (x6 : Int32) (x7 : Int32) (x8 : Int32) : sn_G := k61 x3 x4 x5 x6 x7 (x8 + (1 : Int32))
set_option maxHeartbeats 4000000 in
set_option maxRecDepth 100000 in
theorem lf_Md_bits_104 (M : Nat) (fk61 : Int32 → Int32 → Int32 → Int32 → Int32 → Int32 → sn_M) (k61 : Int32 → Int32 → Int32 → Int32 → Int32 → Int32 → sn_G) (hk61 : ∀ (x3 : Int32) (x4 : Int32) (x5 : Int32) (x6 : Int32) (x7 : Int32) (x8 : Int32), sn_Lf M (fk61 x3 x4 x5 x6 x7 x8) (k61 x3 x4 x5 x6 x7 x8)) (x3 : Int32) (x4 : Int32) (x5 : Int32) (x6 : Int32) (x7 : Int32) (x8 : Int32) : sn_Lf M (f_Md_bits_104 fk61 M x3 x4 x5 x6 x7 x8) (g_Md_bits_104 k61 x3 x4 x5 x6 x7 x8) := hk61 x3 x4 x5 x6 x7 (x8 + (1 : Int32))
def g_Md_bits_87 (k61 : Int32 → Int32 → Int32 → Int32 → Int32 → Int32 → sn_G) (x3 : Int32) (x4 : Int32) (x6 : Int32) (x7 : Int32) (x8 : Int32) (t0 : Int32) : sn_G := (if ¬ t0 = (5 : Int32) then g_Md_bits_104 k61 x3 (x4 + (1 : Int32)) t0 x6 x7 x8 else g_Md_bits_104 k61 x3 ((x4 + (1 : Int32)) + (1 : Int32)) (0 : Int32) x6 x7 x8)
set_option maxHeartbeats 4000000 in
set_option maxRecDepth 100000 in
theorem lf_Md_bits_87 (M : Nat) (fk61 : Int32 → Int32 → Int32 → Int32 → Int32 → Int32 → sn_M) (k61 : Int32 → Int32 → Int32 → Int32 → Int32 → Int32 → sn_G) (hk61 : ∀ (x3 : Int32) (x4 : Int32) (x5 : Int32) (x6 : Int32) (x7 : Int32) (x8 : Int32), sn_Lf M (fk61 x3 x4 x5 x6 x7 x8) (k61 x3 x4 x5 x6 x7 x8)) (x3 : Int32) (x4 : Int32) (x6 : Int32) (x7 : Int32) (x8 : Int32) (t0 : Int32) : sn_Lf M (f_Md_bits_87 fk61 M x3 x4 x6 x7 x8 t0) (g_Md_bits_87 k61 x3 x4 x6 x7 x8 t0) := sn_Lf.ite (lf_Md_bits_104 M fk61 k61 hk61 x3 (x4 + (1 : Int32)) t0 x6 x7 x8) (lf_Md_bits_104 M fk61 k61 hk61 x3 ((x4 + (1 : Int32)) + (1 : Int32)) (0 : Int32) x6 x7 x8)
def g_Md_bits_61 (k39 : Int32 → Int32 → Int32 → Int32 → sn_G) : Nat → Int32 → Int32 → Int32 → Int32 → Int32 → Int32 → sn_G
  | 0, _, _, _, _, _, _ => z_0
  | n + 1, x3, x4, x5, x6, x7, x8 => (if (8 : Int32) ≤ x8 then k39 x3 x4 x5 (x6 + (1 : Int32)) else (if ¬ ((x7 >>> (x8 &&& 31)) &&& (1 : Int32)) = (1 : Int32) then g_Md_bits_87 (g_Md_bits_61 k39 n) x3 x4 x6 x7 x8 (0 : Int32) else g_Md_bits_87 (g_Md_bits_61 k39 n) x3 x4 x6 x7 x8 (x5 + (1 : Int32))))
set_option maxHeartbeats 4000000 in
set_option maxRecDepth 100000 in
theorem lf_Md_bits_61 (M : Nat) (fk39 : Int32 → Int32 → Int32 → Int32 → sn_M) (k39 : Int32 → Int32 → Int32 → Int32 → sn_G) (hk39 : ∀ (x3 : Int32) (x4 : Int32) (x5 : Int32) (x6 : Int32), sn_Lf M (fk39 x3 x4 x5 x6) (k39 x3 x4 x5 x6)) : ∀ (n : Nat) (x3 : Int32) (x4 : Int32) (x5 : Int32) (x6 : Int32) (x7 : Int32) (x8 : Int32), sn_Lf M (f_Md_bits_61 fk39 M n x3 x4 x5 x6 x7 x8) (g_Md_bits_61 k39 n x3 x4 x5 x6 x7 x8)
  | 0, _, _, _, _, _, _ => sn_Lf.z0
  | n + 1, x3, x4, x5, x6, x7, x8 => sn_Lf.ite (hk39 x3 x4 x5 (x6 + (1 : Int32))) (sn_Lf.ite (lf_Md_bits_87 M (f_Md_bits_61 fk39 M n) (g_Md_bits_61 k39 n) (lf_Md_bits_61 M fk39 k39 hk39 n) x3 x4 x6 x7 x8 (0 : Int32)) (lf_Md_bits_87 M (f_Md_bits_61 fk39 M n) (g_Md_bits_61 k39 n) (lf_Md_bits_61 M fk39 k39 hk39 n) x3 x4 x6 x7 x8 (x5 + (1 : Int32))))
def g_Md_bits_39 : Nat → Int32 → Int32 → Int32 → Int32 → sn_G
  | 0, _, _, _, _ => z_0
  | n + 1, x3, x4, x5, x6 => y_I (g_Md_octets x3) fun v1 => (if v1 ≤ x6 then z_I x4 else y_I (g_Md_octetOf x3 x6) fun v2 => g_Md_bits_61 (g_Md_bits_39 n) sn_fuel x3 x4 x5 x6 v2 (0 : Int32))
set_option maxHeartbeats 4000000 in
set_option maxRecDepth 100000 in
theorem lf_Md_bits_39 (M : Nat) : ∀ (n : Nat) (x3 : Int32) (x4 : Int32) (x5 : Int32) (x6 : Int32), sn_Lf M (f_Md_bits_39 M n x3 x4 x5 x6) (g_Md_bits_39 n x3 x4 x5 x6)
  | 0, _, _, _, _ => sn_Lf.z0
  | n + 1, x3, x4, x5, x6 => sn_Lf.nn (sn_Lf.cI (lf_Md_octets M x3) (fun v1 => sn_Lf.ite (sn_Lf.I) (sn_Lf.nn (sn_Lf.cI (lf_Md_octetOf M x3 x6) (fun v2 => lf_Md_bits_61 M (f_Md_bits_39 M n) (g_Md_bits_39 n) (lf_Md_bits_39 M n) sn_fuel x3 x4 x5 x6 v2 (0 : Int32))))))
def g_Md_bits (x1 : Int32) (x2 : Int32) : sn_G := y_I (g_Md_isEnd x1 x2) fun v3 => (if v3 = 0 then g_Md_bits_22 else q_I 36 (((2 : Int32) * x1) + x2) fun v4 => (if ¬ v4 = 0 then y_nI ((((2 : Int32) * x1) + x2)) fun n5 => g_Md_bits_39 sn_fuel n5 (0 : Int32) (0 : Int32) (0 : Int32) else g_Md_bits_22))
set_option maxHeartbeats 4000000 in
set_option maxRecDepth 100000 in
theorem lf_Md_bits (M : Nat) (x1 : Int32) (x2 : Int32) : sn_Lf M (f_Md_bits M x1 x2) (g_Md_bits x1 x2) := sn_Lf.nn (sn_Lf.cI (lf_Md_isEnd M x1 x2) (fun v3 => sn_Lf.ite (lf_Md_bits_22 M) (sn_Lf.gR (k := 36) (by decide) (sn_Lf.aI (k := 36) (by decide) (fun v4 => sn_Lf.ite (sn_Lf.nI (fun n5 => lf_Md_bits_39 M sn_fuel n5 (0 : Int32) (0 : Int32) (0 : Int32))) (lf_Md_bits_22 M))))))
def g_Md_flow_85 (t0 : Int32) : sn_G := z_I t0
set_option maxHeartbeats 4000000 in
set_option maxRecDepth 100000 in
theorem lf_Md_flow_85 (M : Nat) (t0 : Int32) : sn_Lf M (f_Md_flow_85 M t0) (g_Md_flow_85 t0) := sn_Lf.I
def g_Md_flow (x1 : Int32) (x2 : Int32) (x3 : Int32) (x4 : Int32) : sn_G := y_I (g_Md_isFlow x1 x2 x3) fun v1 => (if ¬ v1 = 0 then y_I (g_Md_flowAt x1 x2 x3) fun v2 => (if ¬ x4 = 0 then (if ¬ x4 = (1 : Int32) then (if ¬ x4 = (2 : Int32) then (if ¬ x4 = (3 : Int32) then g_Md_flow_85 (-1 : Int32) else q_I 43 v2 fun v3 => g_Md_flow_85 v3) else q_I 47 v2 fun v4 => g_Md_flow_85 v4) else q_I 42 v2 fun v5 => g_Md_flow_85 v5) else q_I 41 v2 fun v6 => g_Md_flow_85 v6) else z_I (-1 : Int32))
set_option maxHeartbeats 4000000 in
set_option maxRecDepth 100000 in
theorem lf_Md_flow (M : Nat) (x1 : Int32) (x2 : Int32) (x3 : Int32) (x4 : Int32) : sn_Lf M (f_Md_flow M x1 x2 x3 x4) (g_Md_flow x1 x2 x3 x4) := sn_Lf.nn (sn_Lf.cI (lf_Md_isFlow M x1 x2 x3) (fun v1 => sn_Lf.ite (sn_Lf.nn (sn_Lf.cI (lf_Md_flowAt M x1 x2 x3) (fun v2 => sn_Lf.ite (sn_Lf.ite (sn_Lf.ite (sn_Lf.ite (lf_Md_flow_85 M (-1 : Int32)) (sn_Lf.gR (k := 43) (by decide) (sn_Lf.aI (k := 43) (by decide) (fun v3 => lf_Md_flow_85 M v3)))) (sn_Lf.gR (k := 47) (by decide) (sn_Lf.aI (k := 47) (by decide) (fun v4 => lf_Md_flow_85 M v4)))) (sn_Lf.gR (k := 42) (by decide) (sn_Lf.aI (k := 42) (by decide) (fun v5 => lf_Md_flow_85 M v5)))) (sn_Lf.gR (k := 41) (by decide) (sn_Lf.aI (k := 41) (by decide) (fun v6 => lf_Md_flow_85 M v6)))))) (sn_Lf.I)))
def g_Md_next_19 : sn_G := z_I (-1 : Int32)
set_option maxHeartbeats 4000000 in
set_option maxRecDepth 100000 in
theorem lf_Md_next_19 (M : Nat) : sn_Lf M (f_Md_next_19 M) (g_Md_next_19) := sn_Lf.I
def g_Md_next_66 : sn_G := z_I (-1 : Int32)
set_option maxHeartbeats 4000000 in
set_option maxRecDepth 100000 in
theorem lf_Md_next_66 (M : Nat) : sn_Lf M (f_Md_next_66 M) (g_Md_next_66) := sn_Lf.I
def g_Md_next_103 (t0 : Int32) : sn_G := z_I t0
set_option maxHeartbeats 4000000 in
set_option maxRecDepth 100000 in
theorem lf_Md_next_103 (M : Nat) (t0 : Int32) : sn_Lf M (f_Md_next_103 M t0) (g_Md_next_103 t0) := sn_Lf.I
def g_Md_next_134 (t0 : Int32) : sn_G := z_I t0
set_option maxHeartbeats 4000000 in
set_option maxRecDepth 100000 in
theorem lf_Md_next_134 (M : Nat) (t0 : Int32) : sn_Lf M (f_Md_next_134 M t0) (g_Md_next_134 t0) := sn_Lf.I
def g_Md_next (x1 : Int32) (x2 : Int32) (x3 : Int32) : sn_G := y_I (g_Md_isExchange x1) fun v1 => (if v1 = 0 then g_Md_next_19 else y_I (g_Md_isExchange x2) fun v2 => (if v2 = 0 then g_Md_next_19 else (if ¬ x1 = x2 then (if ¬ x3 = 0 then y_nI ((x3 % (10 : Int32))) fun n3 => (if x3 < (10 : Int32) then g_Md_next_66 else (if (25 : Int32) < x3 then g_Md_next_66 else (if (5 : Int32) < n3 then g_Md_next_66 else y_I (g_Md_areNeighbours x1 n3) fun v4 => (if ¬ v4 = 0 then y_nI (((((36 : Int32) * x1) + ((6 : Int32) * n3)) + x2)) fun n5 => (if (20 : Int32) ≤ x3 then q_I 49 n5 fun v6 => (if ¬ v6 = 0 then q_I 49 n5 fun v7 => (if ¬ v7 = (1 : Int32) then g_Md_next_134 (0 : Int32) else g_Md_next_134 (1 : Int32)) else g_Md_next_134 (-1 : Int32)) else q_I 48 n5 fun v8 => (if v8 = 0 then g_Md_next_103 (0 : Int32) else g_Md_next_103 (1 : Int32))) else g_Md_next_66)))) else y_I (g_Md_nextOf x1 x2) fun v9 => z_I v9) else g_Md_next_19)))
set_option maxHeartbeats 4000000 in
set_option maxRecDepth 100000 in
theorem lf_Md_next (M : Nat) (x1 : Int32) (x2 : Int32) (x3 : Int32) : sn_Lf M (f_Md_next M x1 x2 x3) (g_Md_next x1 x2 x3) := sn_Lf.cI (lf_Md_isExchange M x1) (fun v1 => sn_Lf.ite (lf_Md_next_19 M) (sn_Lf.cI (lf_Md_isExchange M x2) (fun v2 => sn_Lf.ite (lf_Md_next_19 M) (sn_Lf.ite (sn_Lf.ite (sn_Lf.nI (fun n3 => sn_Lf.ite (lf_Md_next_66 M) (sn_Lf.ite (lf_Md_next_66 M) (sn_Lf.ite (lf_Md_next_66 M) (sn_Lf.nn (sn_Lf.cI (lf_Md_areNeighbours M x1 n3) (fun v4 => sn_Lf.ite (sn_Lf.nI (fun n5 => sn_Lf.ite (sn_Lf.gR (k := 49) (by decide) (sn_Lf.aI (k := 49) (by decide) (fun v6 => sn_Lf.ite (sn_Lf.gR (k := 49) (by decide) (sn_Lf.aI (k := 49) (by decide) (fun v7 => sn_Lf.ite (lf_Md_next_134 M (0 : Int32)) (lf_Md_next_134 M (1 : Int32))))) (lf_Md_next_134 M (-1 : Int32))))) (sn_Lf.gR (k := 48) (by decide) (sn_Lf.aI (k := 48) (by decide) (fun v8 => sn_Lf.ite (lf_Md_next_103 M (0 : Int32)) (lf_Md_next_103 M (1 : Int32))))))) (lf_Md_next_66 M)))))))) (sn_Lf.nn (sn_Lf.cI (lf_Md_nextOf M x1 x2) (fun v9 => sn_Lf.I)))) (lf_Md_next_19 M)))))
def g_Md_legTold_50 (t0 : Int32) : sn_G := z_I t0
set_option maxHeartbeats 4000000 in
set_option maxRecDepth 100000 in
theorem lf_Md_legTold_50 (M : Nat) (t0 : Int32) : sn_Lf M (f_Md_legTold_50 M t0) (g_Md_legTold_50 t0) := sn_Lf.I
def g_Md_legTold (x1 : Int32) : sn_G := (if ¬ x1 = (-1 : Int32) then (if (100 : Int32) ≤ x1 then g_Md_legTold_50 (((100 : Int32) + ((10 : Int32) * (((x1 - (100 : Int32)) % (24 : Int32)) / (4 : Int32)))) + ((x1 - (100 : Int32)) % (4 : Int32))) else g_Md_legTold_50 (((10 : Int32) * (x1 / (4 : Int32))) + (x1 % (4 : Int32)))) else g_Md_legTold_50 (-1 : Int32))
set_option maxHeartbeats 4000000 in
set_option maxRecDepth 100000 in
theorem lf_Md_legTold (M : Nat) (x1 : Int32) : sn_Lf M (f_Md_legTold M x1) (g_Md_legTold x1) := sn_Lf.ite (sn_Lf.ite (lf_Md_legTold_50 M (((100 : Int32) + ((10 : Int32) * (((x1 - (100 : Int32)) % (24 : Int32)) / (4 : Int32)))) + ((x1 - (100 : Int32)) % (4 : Int32)))) (lf_Md_legTold_50 M (((10 : Int32) * (x1 / (4 : Int32))) + (x1 % (4 : Int32))))) (lf_Md_legTold_50 M (-1 : Int32))
def g_Md_circuit_119 (t0 : Int32) : sn_G := z_I t0
set_option maxHeartbeats 4000000 in
set_option maxRecDepth 100000 in
theorem lf_Md_circuit_119 (M : Nat) (t0 : Int32) : sn_Lf M (f_Md_circuit_119 M t0) (g_Md_circuit_119 t0) := sn_Lf.I
def g_Md_circuit_103 (t0 : Int32) : sn_G := z_I t0
set_option maxHeartbeats 4000000 in
set_option maxRecDepth 100000 in
theorem lf_Md_circuit_103 (M : Nat) (t0 : Int32) : sn_Lf M (f_Md_circuit_103 M t0) (g_Md_circuit_103 t0) := sn_Lf.I
def g_Md_circuit (x1 : Int32) (x2 : Int32) (x3 : Int32) (x4 : Int32) : sn_G := y_I (g_Md_isFlow x1 x2 x3) fun v1 => (if ¬ v1 = 0 then y_I (g_Md_flowAt x1 x2 x3) fun v2 => (y_sw x4 [0, 1, 2, 3, 4, 5, 6, 7] [(q_I 52 v2 fun v3 => z_I v3), (q_I 53 v2 fun v4 => y_I (g_Md_left v4) fun v5 => z_I v5), (q_I 55 v2 fun v6 => (if v6 = 0 then g_Md_circuit_103 (0 : Int32) else g_Md_circuit_103 (1 : Int32))), (q_I 56 v2 fun v7 => (if v7 = 0 then g_Md_circuit_119 (0 : Int32) else g_Md_circuit_119 (1 : Int32))), (q_I 57 v2 fun v8 => y_I (g_Md_legTold v8) fun v9 => z_I v9), (q_I 58 v2 fun v10 => z_I v10), (q_I 59 v2 fun v11 => z_I v11), (q_I 60 v2 fun v12 => z_I v12)] (z_I (-1 : Int32))) else z_I (-1 : Int32))
set_option maxHeartbeats 4000000 in
set_option maxRecDepth 100000 in
theorem lf_Md_circuit (M : Nat) (x1 : Int32) (x2 : Int32) (x3 : Int32) (x4 : Int32) : sn_Lf M (f_Md_circuit M x1 x2 x3 x4) (g_Md_circuit x1 x2 x3 x4) := sn_Lf.nn (sn_Lf.cI (lf_Md_isFlow M x1 x2 x3) (fun v1 => sn_Lf.ite (sn_Lf.nn (sn_Lf.cI (lf_Md_flowAt M x1 x2 x3) (fun v2 => sn_Lf.swC (sn_Lf.gR (k := 52) (by decide) (sn_Lf.aI (k := 52) (by decide) (fun v3 => sn_Lf.I))) (sn_Lf.swC (sn_Lf.gR (k := 53) (by decide) (sn_Lf.aI (k := 53) (by decide) (fun v4 => sn_Lf.nn (sn_Lf.cI (lf_Md_left M v4) (fun v5 => sn_Lf.I))))) (sn_Lf.swC (sn_Lf.gR (k := 55) (by decide) (sn_Lf.aI (k := 55) (by decide) (fun v6 => sn_Lf.ite (lf_Md_circuit_103 M (0 : Int32)) (lf_Md_circuit_103 M (1 : Int32))))) (sn_Lf.swC (sn_Lf.gR (k := 56) (by decide) (sn_Lf.aI (k := 56) (by decide) (fun v7 => sn_Lf.ite (lf_Md_circuit_119 M (0 : Int32)) (lf_Md_circuit_119 M (1 : Int32))))) (sn_Lf.swC (sn_Lf.gR (k := 57) (by decide) (sn_Lf.aI (k := 57) (by decide) (fun v8 => sn_Lf.nn (sn_Lf.cI (lf_Md_legTold M v8) (fun v9 => sn_Lf.I))))) (sn_Lf.swC (sn_Lf.gR (k := 58) (by decide) (sn_Lf.aI (k := 58) (by decide) (fun v10 => sn_Lf.I))) (sn_Lf.swC (sn_Lf.gR (k := 59) (by decide) (sn_Lf.aI (k := 59) (by decide) (fun v11 => sn_Lf.I))) (sn_Lf.swC (sn_Lf.gR (k := 60) (by decide) (sn_Lf.aI (k := 60) (by decide) (fun v12 => sn_Lf.I))) (sn_Lf.swN (sn_Lf.I)))))))))))) (sn_Lf.I)))
def g_Md_talks_169 (t0 : Int32) : sn_G := z_I t0
set_option maxHeartbeats 4000000 in
set_option maxRecDepth 100000 in
theorem lf_Md_talks_169 (M : Nat) (t0 : Int32) : sn_Lf M (f_Md_talks_169 M t0) (g_Md_talks_169 t0) := sn_Lf.I
def g_Md_talks_168 : sn_G := g_Md_talks_169 (-1 : Int32)
set_option maxHeartbeats 4000000 in
set_option maxRecDepth 100000 in
theorem lf_Md_talks_168 (M : Nat) : sn_Lf M (f_Md_talks_168 M) (g_Md_talks_168) := lf_Md_talks_169 M (-1 : Int32)
def g_Md_talks_140 (x2 : Int32) : sn_G := (if x2 < 0 then g_Md_talks_168 else (if (100 : Int32) ≤ x2 then g_Md_talks_168 else q_I 61 x2 fun v1 => (if ¬ v1 = (4 : Int32) then g_Md_talks_168 else y_I (g_Md_legTold x2) fun v2 => g_Md_talks_169 v2)))
set_option maxHeartbeats 4000000 in
set_option maxRecDepth 100000 in
theorem lf_Md_talks_140 (M : Nat) (x2 : Int32) : sn_Lf M (f_Md_talks_140 M x2) (g_Md_talks_140 x2) := sn_Lf.ite (lf_Md_talks_168 M) (sn_Lf.ite (lf_Md_talks_168 M) (sn_Lf.gR (k := 61) (by decide) (sn_Lf.aI (k := 61) (by decide) (fun v1 => sn_Lf.ite (lf_Md_talks_168 M) (sn_Lf.nn (sn_Lf.cI (lf_Md_legTold M x2) (fun v2 => lf_Md_talks_169 M v2)))))))
def g_Md_talks_133 (k23 : Int32 → Int32 → sn_G) (x3 : Int32) (t0 : Int32) : sn_G := k23 t0 (x3 + (1 : Int32))
set_option maxHeartbeats 4000000 in
set_option maxRecDepth 100000 in
theorem lf_Md_talks_133 (M : Nat) (fk23 : Int32 → Int32 → sn_M) (k23 : Int32 → Int32 → sn_G) (hk23 : ∀ (x2 : Int32) (x3 : Int32), sn_Lf M (fk23 x2 x3) (k23 x2 x3)) (x3 : Int32) (t0 : Int32) : sn_Lf M (f_Md_talks_133 fk23 M x3 t0) (g_Md_talks_133 k23 x3 t0) := hk23 t0 (x3 + (1 : Int32))
def g_Md_talks_115 (k23 : Int32 → Int32 → sn_G) (x3 : Int32) (x5 : Int32) (t0 : Int32) : sn_G := (if t0 = 0 then g_Md_talks_133 k23 x3 (-1 : Int32) else q_I 57 x5 fun v3 => g_Md_talks_133 k23 x3 v3)
set_option maxHeartbeats 4000000 in
set_option maxRecDepth 100000 in
theorem lf_Md_talks_115 (M : Nat) (fk23 : Int32 → Int32 → sn_M) (k23 : Int32 → Int32 → sn_G) (hk23 : ∀ (x2 : Int32) (x3 : Int32), sn_Lf M (fk23 x2 x3) (k23 x2 x3)) (x3 : Int32) (x5 : Int32) (t0 : Int32) : sn_Lf M (f_Md_talks_115 fk23 M x3 x5 t0) (g_Md_talks_115 k23 x3 x5 t0) := sn_Lf.ite (lf_Md_talks_133 M fk23 k23 hk23 x3 (-1 : Int32)) (sn_Lf.gR (k := 57) (by decide) (sn_Lf.aI (k := 57) (by decide) (fun v3 => lf_Md_talks_133 M fk23 k23 hk23 x3 v3)))
def g_Md_talks_110 (k23 : Int32 → Int32 → sn_G) (x3 : Int32) (x5 : Int32) : sn_G := g_Md_talks_115 k23 x3 x5 (1 : Int32)
set_option maxHeartbeats 4000000 in
set_option maxRecDepth 100000 in
theorem lf_Md_talks_110 (M : Nat) (fk23 : Int32 → Int32 → sn_M) (k23 : Int32 → Int32 → sn_G) (hk23 : ∀ (x2 : Int32) (x3 : Int32), sn_Lf M (fk23 x2 x3) (k23 x2 x3)) (x3 : Int32) (x5 : Int32) : sn_Lf M (f_Md_talks_110 fk23 M x3 x5) (g_Md_talks_110 k23 x3 x5) := lf_Md_talks_115 M fk23 k23 hk23 x3 x5 (1 : Int32)
def g_Md_talks_114 (k23 : Int32 → Int32 → sn_G) (x3 : Int32) (x5 : Int32) : sn_G := g_Md_talks_115 k23 x3 x5 (0 : Int32)
set_option maxHeartbeats 4000000 in
set_option maxRecDepth 100000 in
theorem lf_Md_talks_114 (M : Nat) (fk23 : Int32 → Int32 → sn_M) (k23 : Int32 → Int32 → sn_G) (hk23 : ∀ (x2 : Int32) (x3 : Int32), sn_Lf M (fk23 x2 x3) (k23 x2 x3)) (x3 : Int32) (x5 : Int32) : sn_Lf M (f_Md_talks_114 fk23 M x3 x5) (g_Md_talks_114 k23 x3 x5) := lf_Md_talks_115 M fk23 k23 hk23 x3 x5 (0 : Int32)
def g_Md_talks_87 (k23 : Int32 → Int32 → sn_G) (x3 : Int32) (x5 : Int32) : sn_G := q_I 52 x5 fun v4 => (if v4 = (3 : Int32) then g_Md_talks_110 k23 x3 x5 else q_I 52 x5 fun v5 => (if ¬ v5 = (6 : Int32) then g_Md_talks_114 k23 x3 x5 else g_Md_talks_110 k23 x3 x5))
set_option maxHeartbeats 4000000 in
set_option maxRecDepth 100000 in
theorem lf_Md_talks_87 (M : Nat) (fk23 : Int32 → Int32 → sn_M) (k23 : Int32 → Int32 → sn_G) (hk23 : ∀ (x2 : Int32) (x3 : Int32), sn_Lf M (fk23 x2 x3) (k23 x2 x3)) (x3 : Int32) (x5 : Int32) : sn_Lf M (f_Md_talks_87 fk23 M x3 x5) (g_Md_talks_87 k23 x3 x5) := sn_Lf.gR (k := 52) (by decide) (sn_Lf.aI (k := 52) (by decide) (fun v4 => sn_Lf.ite (lf_Md_talks_110 M fk23 k23 hk23 x3 x5) (sn_Lf.gR (k := 52) (by decide) (sn_Lf.aI (k := 52) (by decide) (fun v5 => sn_Lf.ite (lf_Md_talks_114 M fk23 k23 hk23 x3 x5) (lf_Md_talks_110 M fk23 k23 hk23 x3 x5))))))
def g_Md_talks_23 : Nat → Int32 → Int32 → sn_G
  | 0, _, _ => z_0
  | n + 1, x2, x3 => (if (200 : Int32) ≤ x3 then g_Md_talks_140 x2 else (if x2 < (100 : Int32) then g_Md_talks_140 x2 else y_nI ((x2 - (100 : Int32))) fun n6 => y_I (g_Md_flowAt ((n6 % (24 : Int32)) / (4 : Int32)) (n6 / (24 : Int32)) (n6 % (4 : Int32))) fun v7 => q_I 52 n6 fun v8 => (if v8 = (3 : Int32) then g_Md_talks_87 (g_Md_talks_23 n) x3 v7 else q_I 52 n6 fun v9 => (if ¬ v9 = (6 : Int32) then g_Md_talks_114 (g_Md_talks_23 n) x3 v7 else g_Md_talks_87 (g_Md_talks_23 n) x3 v7))))
set_option maxHeartbeats 4000000 in
set_option maxRecDepth 100000 in
theorem lf_Md_talks_23 (M : Nat) : ∀ (n : Nat) (x2 : Int32) (x3 : Int32), sn_Lf M (f_Md_talks_23 M n x2 x3) (g_Md_talks_23 n x2 x3)
  | 0, _, _ => sn_Lf.z0
  | n + 1, x2, x3 => sn_Lf.ite (lf_Md_talks_140 M x2) (sn_Lf.ite (lf_Md_talks_140 M x2) (sn_Lf.nI (fun n6 => sn_Lf.nn (sn_Lf.cI (lf_Md_flowAt M ((n6 % (24 : Int32)) / (4 : Int32)) (n6 / (24 : Int32)) (n6 % (4 : Int32))) (fun v7 => sn_Lf.gR (k := 52) (by decide) (sn_Lf.aI (k := 52) (by decide) (fun v8 => sn_Lf.ite (lf_Md_talks_87 M (f_Md_talks_23 M n) (g_Md_talks_23 n) (lf_Md_talks_23 M n) x3 v7) (sn_Lf.gR (k := 52) (by decide) (sn_Lf.aI (k := 52) (by decide) (fun v9 => sn_Lf.ite (lf_Md_talks_114 M (f_Md_talks_23 M n) (g_Md_talks_23 n) (lf_Md_talks_23 M n) x3 v7) (lf_Md_talks_87 M (f_Md_talks_23 M n) (g_Md_talks_23 n) (lf_Md_talks_23 M n) x3 v7)))))))))))
def g_Md_talks_20 (t0 : Int32) : sn_G := g_Md_talks_23 sn_fuel t0 (0 : Int32)
set_option maxHeartbeats 4000000 in
set_option maxRecDepth 100000 in
theorem lf_Md_talks_20 (M : Nat) (t0 : Int32) : sn_Lf M (f_Md_talks_20 M t0) (g_Md_talks_20 t0) := lf_Md_talks_23 M sn_fuel t0 (0 : Int32)
def g_Md_talks (x1 : Int32) : sn_G := q_I 61 x1 fun v10 => (if ¬ v10 = (4 : Int32) then g_Md_talks_20 (-1 : Int32) else q_I 62 x1 fun v11 => g_Md_talks_20 v11)
set_option maxHeartbeats 4000000 in
set_option maxRecDepth 100000 in
theorem lf_Md_talks (M : Nat) (x1 : Int32) : sn_Lf M (f_Md_talks M x1) (g_Md_talks x1) := sn_Lf.gR (k := 61) (by decide) (sn_Lf.aI (k := 61) (by decide) (fun v10 => sn_Lf.ite (lf_Md_talks_20 M (-1 : Int32)) (sn_Lf.gR (k := 62) (by decide) (sn_Lf.aI (k := 62) (by decide) (fun v11 => lf_Md_talks_20 M v11)))))
def g_Md_subscriber_57 (t0 : Int32) : sn_G := z_I t0
set_option maxHeartbeats 4000000 in
set_option maxRecDepth 100000 in
theorem lf_Md_subscriber_57 (M : Nat) (t0 : Int32) : sn_Lf M (f_Md_subscriber_57 M t0) (g_Md_subscriber_57 t0) := sn_Lf.I
def g_Md_subscriber (x1 : Int32) (x2 : Int32) : sn_G := y_I (g_Md_personAt x1) fun v1 => (if ¬ v1 = (-1 : Int32) then (if ¬ x2 = 0 then (if ¬ x2 = (1 : Int32) then (if ¬ x2 = (2 : Int32) then g_Md_subscriber_57 (-1 : Int32) else y_I (g_Md_talks v1) fun v2 => g_Md_subscriber_57 v2) else q_I 62 v1 fun v3 => y_I (g_Md_legTold v3) fun v4 => g_Md_subscriber_57 v4) else q_I 61 v1 fun v5 => g_Md_subscriber_57 v5) else z_I (-1 : Int32))
set_option maxHeartbeats 4000000 in
set_option maxRecDepth 100000 in
theorem lf_Md_subscriber (M : Nat) (x1 : Int32) (x2 : Int32) : sn_Lf M (f_Md_subscriber M x1 x2) (g_Md_subscriber x1 x2) := sn_Lf.cI (lf_Md_personAt M x1) (fun v1 => sn_Lf.ite (sn_Lf.ite (sn_Lf.ite (sn_Lf.ite (lf_Md_subscriber_57 M (-1 : Int32)) (sn_Lf.nn (sn_Lf.cI (lf_Md_talks M v1) (fun v2 => lf_Md_subscriber_57 M v2)))) (sn_Lf.gR (k := 62) (by decide) (sn_Lf.aI (k := 62) (by decide) (fun v3 => sn_Lf.nn (sn_Lf.cI (lf_Md_legTold M v3) (fun v4 => lf_Md_subscriber_57 M v4)))))) (sn_Lf.gR (k := 61) (by decide) (sn_Lf.aI (k := 61) (by decide) (fun v5 => lf_Md_subscriber_57 M v5)))) (sn_Lf.I))
def g_Md_counted_48 (t0 : Int32) : sn_G := z_I t0
set_option maxHeartbeats 4000000 in
set_option maxRecDepth 100000 in
theorem lf_Md_counted_48 (M : Nat) (t0 : Int32) : sn_Lf M (f_Md_counted_48 M t0) (g_Md_counted_48 t0) := sn_Lf.I
def g_Md_counted (x1 : Int32) : sn_G := (if ¬ x1 = 0 then (if ¬ x1 = (1 : Int32) then (if ¬ x1 = (2 : Int32) then (if ¬ x1 = (3 : Int32) then g_Md_counted_48 (-1 : Int32) else q_S 9 fun v1 => g_Md_counted_48 v1) else q_S 8 fun v2 => g_Md_counted_48 v2) else q_S 7 fun v3 => g_Md_counted_48 v3) else q_S 5 fun v4 => g_Md_counted_48 v4)
set_option maxHeartbeats 4000000 in
set_option maxRecDepth 100000 in
theorem lf_Md_counted (M : Nat) (x1 : Int32) : sn_Lf M (f_Md_counted M x1) (g_Md_counted x1) := sn_Lf.ite (sn_Lf.ite (sn_Lf.ite (sn_Lf.ite (lf_Md_counted_48 M (-1 : Int32)) (sn_Lf.gS (k := 9) rfl (fun v1 => lf_Md_counted_48 M v1))) (sn_Lf.gS (k := 8) rfl (fun v2 => lf_Md_counted_48 M v2))) (sn_Lf.gS (k := 7) rfl (fun v3 => lf_Md_counted_48 M v3))) (sn_Lf.gS (k := 5) rfl (fun v4 => lf_Md_counted_48 M v4))
