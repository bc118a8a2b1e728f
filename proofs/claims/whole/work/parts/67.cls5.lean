/-! LAYER 2, the class: ends start and come up -/
section Ups
variable {kk : Nat → Nat} {σ η : sn_FS}
theorem and15 {v : Nat} (h : v < 2 ^ 31) : (nI v + 1) &&& (15 : Int32) = nI ((v + 1) % 16) := by
  rw [nI_1]
  exact pk_andN (by omega) (m := 15) 4 (by decide)
theorem rem16 {v : Nat} (h : v < 2 ^ 30) : (nI v + 1) % (16 : Int32) = nI ((v + 1) % 16) := by
  rw [nI_1]
  exact nI_mod (d := 16) (by omega) (by omega) (by omega)
theorem rem256 {v : Nat} (h : v < 2 ^ 30) : (nI v + 1) % (256 : Int32) = nI ((v + 1) % 256) := by
  rw [nI_1]
  exact nI_mod (d := 256) (by omega) (by omega) (by omega)
theorem low5_oth (hP : PlanOk σ) {e : Nat} (he : e < 2 * nl σ) (h5 : ¬ σ.1 10 e = 5) : (low5 σ (ex σ e) (ot σ e) 0 = none) ↔ oth5 σ e 0 = false := by
  unfold low5 oth5
  rw [List.find?_eq_none, List.any_eq_false]
  constructor
  · intro h l hl
    have := h l hl
    simp only [decide_eq_true_eq] at this
    simp [this]
  · intro h l hl
    have := h l hl
    simp only [Bool.and_eq_true, decide_eq_true_eq, not_and] at this ⊢
    by_cases c : l = e / 2
    · rw [c, en_ex hP he]; exact h5
    · exact this c
theorem fl_start (hK : KOk kk σ) (hH : HR σ η) (hP : PlanOk σ) (hL : LTOk σ) {e : Nat} (he : e < 2 * nl σ) (h5 : ¬ σ.1 10 e = 5) : Run kk (f_Tr_start 11 (some (aE e))) σ η none (S_start e σ) := by
  obtain ⟨⟨k1, k2, k3, k4, k5, k6, k7, k8, k9, k10, k11, k12, k13, k14, k15, k16, k17, k18, k19, k20, k21, k22⟩, kE, kF, kP, k4s⟩ := id hK
  obtain ⟨e1, e2, e3, e4, e5, e6, e7⟩ := kE e he
  obtain ⟨x1, x2, x3⟩ := hP.ex_lt he
  have hn10 := hP.2.1
  obtain ⟨⟨v, hv, ev⟩, -⟩ := hL e (by omega)
  have hb := fl_best (η := η) hK hP x1 x2 (show 0 < 4 by decide)
  rw [nI_0, bst_low] at hb
  have key : ∀ u : Int32, u = 0 ∨ u = 1 → f_Tr_start_22 11 (some (aE e)) u (Kap kk σ η) = some (none, Kap kk (sI (sI (sI (sI σ 10 e 1) 11 e (σ.1 6 0 + 30)) 37 e ((σ.1 37 e + 1) &&& 15)) 23 e u) η) := by
    intro u hu
    have hst : f_En_start (aE e) u (Kap kk σ η) = some (none, Kap kk (sI (sI (sI (sI σ 10 e 1) 11 e (σ.1 6 0 + 30)) 23 e u) 37 e (nI ((v + 1) % 16))) η) := by
      have hen : f_En_enter (aE e) 1 30 (Kap kk σ η) = some (none, Kap kk (sI (sI σ 10 e 1) 11 e (σ.1 6 0 + 30)) η) := by
        simp only [f_En_enter, x_pI, e1, if_true, wr_E7, x_gR, rr_E0, x_nn, k2, x_after k2, wr_E8, r_V, sn_upE, Nat.reduceEqDiff, reduceIte]
      simp only [f_En_start, x_nn, e1, if_true, x_cV hen, x_pZ, hu, and_self, wr_E13, x_gI, rd_E9, x_pI, wr_E9, r_V, sn_upE, Nat.reduceEqDiff, reduceIte, ev, rem16 (show v < 2 ^ 30 by omega)]
    simp only [f_Tr_start_22, x_nn, e1, if_true, x_cV hst, r_V, ev, and15 (show v < 2 ^ 31 by omega)]
    rw [sI_sw (k := 37) (k' := 23) (by decide)]
  have hH2 : ∀ u, HR (sI (sI (sI (sI σ 10 e 1) 11 e (σ.1 6 0 + 30)) 37 e ((σ.1 37 e + 1) &&& 15)) 23 e u) η := fun u => by
    refine hH.mk' ((((SP.sI (k := 10) (by decide)).tr (SP.sI (k := 11) (by decide))).tr (SP.sI (k := 37) (by decide))).tr (SP.sI (k := 23) (by decide))) (fun k i hk => ?_) (fun i => ?_) rfl
    · rw [sI_ne (by omega), sI_ne (by omega), sI_ne (by omega), sI_ne (by omega)]
    · simp only [sn_upE, Nat.reduceEqDiff, reduceIte]
      split
      · intro q; exact absurd q (by decide)
      · exact id
  cases hl : low5 σ (ex σ e) (ot σ e) 0 with
  | none =>
    have ho := (low5_oth hP he h5).mp hl
    rw [hl] at hb
    have hb : f_Tr_best 11 (nI (ex σ e)) (nI (ot σ e)) 0 (Kap kk σ η) = some (some (va_rf none), Kap kk σ η) := hb
    refine ⟨η, ?_, hH2 _, PE.rf⟩
    simp only [x_ite, f_Tr_start, x_gI, e1, if_true, rd_E2, rd_E3, x_nn, k11, x_cR hb, not_true_eq_false, if_false, key 1 (Or.inr rfl), S_start, ho, Bool.false_eq_true]
  | some l =>
    have ho : oth5 σ e 0 = true := by
      cases q : oth5 σ e 0 with
      | true => rfl
      | false => rw [(low5_oth hP he h5).mpr q] at hl; cases hl
    rw [hl] at hb
    have hb : f_Tr_best 11 (nI (ex σ e)) (nI (ot σ e)) 0 (Kap kk σ η) = some (some (va_rf (some (aE (en σ l (ex σ e))))), Kap kk σ η) := hb
    have o1 : (some (aE (en σ l (ex σ e))) = none) = False := by simp
    refine ⟨η, ?_, hH2 _, PE.rf⟩
    simp only [x_ite, f_Tr_start, x_gI, e1, if_true, rd_E2, rd_E3, x_nn, k11, x_cR hb, o1, not_false_eq_true, key 0 (Or.inl rfl), S_start, ho]
theorem fl_sendBack (hK : KOk kk σ) (hH : HR σ η) (hG : GvOk σ) {x n s l b : Nat} (hx : x < 6) (hn : n < 6) (hs : s < 4) (hnb : nb σ x n = true) (hl : l < nl σ) (hcur : σ.1 41 (fl x n s) = nI l) (hb : b < 256) (hbe : σ.1 45 (fl x n s) = nI b) : Run kk (f_Tr_sendBack 11 (some (aF (fl x n s))) (nI x) (nI s)) σ η none (sI (S_wait (en σ l x) (wR (3, x, n, s, s, b, 0)) σ) 44 (fl x n s) (σ.1 6 0 + 20)) := by
  obtain ⟨⟨k1, k2, k3, k4, k5, k6, k7, k8, k9, k10, k11, k12, k13, k14, k15, k16, k17, k18, k19, k20, k21, k22⟩, kE, kF, kP, k4s⟩ := id hK
  have hn10 := hG.1.2.1
  have hen := en_lt hG.1 (x := x) hl
  obtain ⟨f1, f2, f3, f4⟩ := hK.flow hx hn hs hnb
  obtain ⟨g1, g2, -⟩ := fl_x (x := x) hn hs
  have o1 : (some (aE (en σ l x)) = none) = False := by simp
  have hmk : MOk (3, x, n, s, s, b, 0) := ⟨(by omega : 3 < 16), hx, hn, hs, (by omega : s < 256), (by omega : b < 65536), (by omega : 0 < 9)⟩
  have hmv : MV σ (3, x, n, s, s, b, 0) := ⟨hmk, (by omega : 0 < 8), (by omega : 1 ≤ 3), (by omega : 3 ≤ 14), hnb, (fun (q : 3 ≤ 2) => by omega), (fun _ => rfl), (fun (q : 3 = 5 ∨ 3 = 6) => by omega), (fun (q : 3 = 7) => by omega)⟩
  have hof : f_Ms_of (3 : Int32) (nI x) (nI n) (nI s) (nI s) (nI b) (Kap kk σ η) = some (some (.long (wC (3, x, n, s, s, b, 0))), Kap kk σ η) := fl_of hmk (Kap kk σ η)
  obtain ⟨θ, a1, a2, a3⟩ := fl_waitAt hK hH hG hen.1 hmv
  have e6 : (S_wait (en σ l x) (wR (3, x, n, s, s, b, 0)) σ).1 6 0 = σ.1 6 0 := S_wait_I σ (by decide)
  refine ⟨θ, ?_, a2.mI (by decide), a3⟩
  simp only [x_ite, f_Tr_sendBack, f_Tr_sendBack_30, x_gR, f1, if_true, rr_F1, hcur, g1, k_end_some (show l < 2 ^ 31 by omega), o1, if_false, x_gI, rd_F0, g2, rd_F5, hbe, x_cJ hof, x_nn, k11, x_cV a1, rr_s11_1, k2, x_after k2, e6, x_pI, wr_F4, r_V]
theorem fl_useBest (hK : KOk kk σ) (hH : HR σ η) (hG : GvOk σ) (hB : BegOk σ) {x n s : Nat} (hx : x < 6) (hn : n < 6) (hs : s < 4) (hnb : nb σ x n = true) (h0 : σ.1 42 (fl x n s) = 0) : Run kk (f_Tr_useBest 11 (some (aF (fl x n s))) (nI x) (nI s)) σ η none (S_up1 x n s σ) := by
  obtain ⟨⟨k1, k2, k3, k4, k5, k6, k7, k8, k9, k10, k11, k12, k13, k14, k15, k16, k17, k18, k19, k20, k21, k22⟩, kE, kF, kP, k4s⟩ := id hK
  have hn10 := hG.1.2.1
  have hf := fl_lt hx hn hs
  obtain ⟨f1, f2, f3, f4⟩ := hK.flow hx hn hs hnb
  obtain ⟨g1, g2, -⟩ := fl_x (x := x) hn hs
  obtain ⟨v, hv, ev⟩ := hB _ hf
  have hbe := fl_best (η := η) hK hG.1 hx hn hs
  rcases hG.2.2.2 _ hf h0 with q | ⟨l, hl, q⟩
  · have hS : S_up1 x n s σ = sI σ 41 (fl x n s) (oI (bst σ x n s)) := by unfold S_up1; rw [if_pos h0, if_pos q]
    have hw : u_R (Kap kk σ η) (aF (fl x n s)) 1 (bR σ x (bst σ x n s)) = Kap kk (sI σ 41 (fl x n s) (oI (bst σ x n s))) η := by
      have e1 : bR σ x (bst σ x n s) = k_end σ (fl x n s / 24) (oI (bst σ x n s)) := by
        rw [g1]
        cases hbs : bst σ x n s with
        | none => exact (k_end_none.mpr rfl).symm
        | some l => have := (bst_ok hbs).1; exact (k_end_some (by omega)).symm
      rw [e1]; exact wR_F1
    rw [hS]
    refine ⟨η, ?_, hH.mI (by decide), PE.rf⟩
    simp only [x_ite, f_Tr_useBest, f_Tr_useBest_63, x_gI, x_gR, f1, if_true, rd_F0, g2, x_nn, k11, x_cR hbe, rr_F1, q, k_end_none.mpr, not_true_eq_false, if_false, x_pR, hw, r_V]
  · have c1 : ¬ σ.1 41 (fl x n s) = -1 := by rw [q]; exact nI_m1 (by omega)
    have hke : k_end σ x (nI l) = some (aE (en σ l x)) := k_end_some (by omega)
    have o1 : (some (aE (en σ l x)) = none) = False := by simp
    have hcmp : (some (aE (en σ l x)) = bR σ x (bst σ x n s)) ↔ oI (bst σ x n s) = σ.1 41 (fl x n s) := by
      rw [q]
      cases hbs : bst σ x n s with
      | none => exact ⟨(fun z => by cases z), (fun z => absurd z.symm (nI_m1 (by omega)))⟩
      | some l' =>
        have := (bst_ok hbs).1
        constructor
        · intro z
          have h2 : aE (en σ l x) = aE (en σ l' x) := Option.some.inj z
          have h3 : en σ l x = en σ l' x := by unfold aE at h2; omega
          have h4 : l = l' := by rw [← en_half (σ := σ) (l := l) (x := x), h3, en_half]
          rw [h4]; rfl
        · intro z
          have h4 : l' = l := nI_inj (by omega) (by omega) z
          rw [h4]; rfl
    by_cases c2 : oI (bst σ x n s) = σ.1 41 (fl x n s)
    · have hS : S_up1 x n s σ = σ := by unfold S_up1; rw [if_pos h0, if_neg c1, if_pos c2]
      rw [hS]
      refine ⟨η, ?_, hH, PE.rf⟩
      rw [← hcmp.mpr c2] at hbe
      simp only [x_ite, f_Tr_useBest, f_Tr_useBest_63, x_gI, x_gR, f1, if_true, rd_F0, g2, x_nn, k11, x_cR hbe, rr_F1, q, g1, hke, o1, not_false_eq_true, r_V]
    · have hcl : (σ.1 45 (fl x n s)).toNatClampNeg = v := by rw [ev]; exact nI_clamp (by omega)
      have e45 : (σ.1 45 (fl x n s) + 1) &&& (255 : Int32) = nI ((v + 1) % 256) := by rw [ev]; exact and255 (by omega)
      have hS : S_up1 x n s σ = sI (sI (S_give x n s (wR (3, x, n, s, s, (v + 1) % 256, 0)) (sI σ 45 (fl x n s) (nI ((v + 1) % 256)))) 42 (fl x n s) 2) 44 (fl x n s) (σ.1 6 0 + 20) := by unfold S_up1; rw [if_pos h0, if_neg c1, if_neg c2, hcl, e45]
      have hs2 : SP σ (sI σ 45 (fl x n s) (nI ((v + 1) % 256))) := SP.sI (by decide)
      have hS2 : S_give x n s (wR (3, x, n, s, s, (v + 1) % 256, 0)) (sI σ 45 (fl x n s) (nI ((v + 1) % 256))) = S_wait (en σ l x) (wR (3, x, n, s, s, (v + 1) % 256, 0)) (sI σ 45 (fl x n s) (nI ((v + 1) % 256))) := by
        unfold S_give
        rw [sI_ne (by decide), if_pos h0, sI_ne (by decide), q, nI_clamp (by omega), hs2.enE]
      obtain ⟨θ, a1, a2, a3⟩ := fl_sendBack (hK.sp hs2) (hH.mI (k := 45) (i := fl x n s) (v := nI ((v + 1) % 256)) (by decide)) (hG.sI (by decide)) hx hn hs (by rw [hs2.nbE]; exact hnb) (l := l) (by rw [hs2.nlE]; exact hl) (by rw [sI_ne (by decide)]; exact q) (Nat.mod_lt (v + 1) (by decide)) sI_same
      rw [hs2.enE, sI_ne (by decide)] at a1 a2
      have c3 : (some (aE (en σ l x)) = bR σ x (bst σ x n s)) = False := eq_false (fun z => c2 (hcmp.mp z))
      rw [hS, hS2, sI_sw (k := 44) (k' := 42) (by decide) |>.symm]
      refine ⟨θ, ?_, a2.mI (by decide), a3⟩
      simp only [x_ite, f_Tr_useBest, f_Tr_useBest_63, x_gI, x_gR, f1, if_true, rd_F0, g2, x_nn, k11, x_cR hbe, rr_F1, q, g1, hke, o1, not_false_eq_true, c3, if_false, rd_F5, ev, rem256 (show v < 2 ^ 30 by omega), x_pI, wr_F5, x_cV a1, wr_F2, r_V]
theorem S_up1_SP {x n s : Nat} : SP σ (S_up1 x n s σ) := ⟨fun i => S_up1_I σ (by decide), fun i => S_up1_I σ (by decide), fun i => S_up1_I σ (by decide)⟩
theorem S_upT_SP {x n : Nat} (r : Nat) : SP σ (S_upT x n r σ) := ⟨fun i => S_upT_I (by decide) r σ, fun i => S_upT_I (by decide) r σ, fun i => S_upT_I (by decide) r σ⟩
theorem fl_up_111 {x n : Nat} (hx : x < 6) (hn : n < 6) : ∀ (r fuel : Nat) (σ η : sn_FS), r ≤ 6 → r < fuel → KOk kk σ → HR σ η → GvOk σ → ToldOk σ → Run kk (f_Tr_comeUp_111 11 fuel (nI x) (nI n) 0 (nI (6 - r))) σ η none (S_look x (S_upT x n r σ))
  | 0, fuel + 1, σ, η, _, _, hK, hH, hG, hT => by
    have k11 := hK.1.2.2.2.2.2.2.2.2.2.2.1
    have o1 : ((6 : Int32) ≤ nI (6 - 0)) = True := eq_true (by decide)
    obtain ⟨θ, a1, a2, a3⟩ := fl_look hK hH hG hT hx
    refine ⟨θ, ?_, a2, a3⟩
    simp only [x_ite, f_Tr_comeUp_111, o1, if_true, f_Tr_comeUp_142, x_nn, k11, x_cV a1, r_V, S_upT]
  | r + 1, fuel + 1, σ, η, hr, hf, hK, hH, hG, hT => by
    obtain ⟨⟨k1, k2, k3, k4, k5, k6, k7, k8, k9, k10, k11, k12, k13, k14, k15, k16, k17, k18, k19, k20, k21, k22⟩, kE, kF, kP, k4s⟩ := id hK
    have hd : 6 - (r + 1) < 6 := by omega
    have hdd : 6 - (r + 1) + 1 = 6 - r := by omega
    have hS0 : S_upT x n (r + 1) σ = S_upT x n r (sI σ 49 (36 * x + 6 * n + (6 - (r + 1))) 0) := rfl
    generalize hN : 6 - (r + 1) = d at hd hdd hS0
    have o1 : ((6 : Int32) ≤ nI d) = False := eq_false (nI_ge (b := 6) hd (by omega))
    have hpl := fl_placeOf (x := x) (n := n) (d := d) (Kap kk σ η)
    have hp : 36 * x + 6 * n + d < kL 16 := by show _ < 216; omega
    have hs2 : SP σ (sI σ 49 (36 * x + 6 * n + d) 0) := SP.sI (by decide)
    have hw : u_I (Kap kk σ η) 16 (36 * x + 6 * n + d) 0 = Kap kk (sI σ 49 (36 * x + 6 * n + d) 0) η := wr_a16 _ 0
    obtain ⟨θ, a1, a2, a3⟩ := fl_up_111 hx hn r fuel (sI σ 49 (36 * x + 6 * n + d) 0) η (by omega) (by omega) (hK.sp hs2) (hH.mI (by decide)) (hG.sI (by decide)) (hT.mk' (fun i => sI_ne (by decide)) (fun i => sI_ne (by decide)))
    rw [hS0]
    refine ⟨θ, ?_, a2, a3⟩
    simp only [x_ite, f_Tr_comeUp_111, o1, if_false, not_true_eq_false, x_gR, k11, if_true, rr_s11_6, x_cI hpl, x_bI hp (by decide), k16, hw, nI_1, hdd, a1]
theorem fl_up_111' {x n : Nat} (hx : x < 6) (hK : KOk kk σ) (hH : HR σ η) (hG : GvOk σ) (hT : ToldOk σ) : Run kk (f_Tr_comeUp_111 11 sn_fuel (nI x) (nI n) 1 0) σ η none (S_look x σ) := by
  have k11 := hK.1.2.2.2.2.2.2.2.2.2.2.1
  obtain ⟨k, hk⟩ := fuel3
  have o1 : ((6 : Int32) ≤ 0) = False := eq_false (by decide)
  have o2 : ((1 : Int32) = 0) = False := eq_false (by decide)
  obtain ⟨θ, a1, a2, a3⟩ := fl_look hK hH hG hT hx
  refine ⟨θ, ?_, a2, a3⟩
  rw [hk]
  simp only [x_ite, f_Tr_comeUp_111, o1, o2, if_false, not_false_eq_true, if_true, f_Tr_comeUp_142, x_nn, k11, x_cV a1, r_V]
theorem fl_up_64 {x n : Nat} {w : Int32} (hx : x < 6) (hn : n < 6) : ∀ (r fuel : Nat) (σ η : sn_FS), r ≤ 4 → r < fuel → KOk kk σ → HR σ η → GvOk σ → BegOk σ → nb σ x n = true → ∃ θ, f_Tr_comeUp_64 11 fuel (nI x) (nI n) w (nI (4 - r)) (Kap kk σ η) = f_Tr_comeUp_111 11 sn_fuel (nI x) (nI n) w 0 (Kap kk (S_upF x n r σ) θ) ∧ HR (S_upF x n r σ) θ ∧ PE η θ
  | 0, fuel + 1, σ, η, _, _, hK, hH, hG, hB, _ => by
    have o1 : ((4 : Int32) ≤ nI (4 - 0)) = True := eq_true (by decide)
    refine ⟨η, ?_, hH, PE.rf⟩
    simp only [x_ite, f_Tr_comeUp_64, o1, if_true, S_upF]
  | r + 1, fuel + 1, σ, η, hr, hf, hK, hH, hG, hB, hnb => by
    obtain ⟨⟨k1, k2, k3, k4, k5, k6, k7, k8, k9, k10, k11, k12, k13, k14, k15, k16, k17, k18, k19, k20, k21, k22⟩, kE, kF, kP, k4s⟩ := id hK
    have hs : 4 - (r + 1) < 4 := by omega
    have hss : 4 - (r + 1) + 1 = 4 - r := by omega
    have hok := S_up1_ok hx hn hs hG hB
    have hS0 : S_upF x n (r + 1) σ = S_upF x n r (S_up1 x n (4 - (r + 1)) σ) := rfl
    generalize hN : 4 - (r + 1) = s at hs hss hok hS0
    have o1 : ((4 : Int32) ≤ nI s) = False := eq_false (nI_ge (b := 4) hs (by omega))
    obtain ⟨f1, f2, f3, f4⟩ := hK.flow hx hn hs hnb
    have hfl : f_Tr_flowTo 11 (nI x) (nI n) (nI s) (Kap kk σ η) = some (some (va_rf (some (aF (fl x n s)))), Kap kk σ η) := by rw [fl_flowTo hK hx hn hs, fR, if_pos hnb]
    have o2 : (some (aF (fl x n s)) = none) = False := by simp
    rw [hS0]
    have step : ∃ θ, f_Tr_comeUp_64 11 (fuel + 1) (nI x) (nI n) w (nI s) (Kap kk σ η) = f_Tr_comeUp_64 11 fuel (nI x) (nI n) w (nI (4 - r)) (Kap kk (S_up1 x n s σ) θ) ∧ HR (S_up1 x n s σ) θ ∧ PE η θ := by
      by_cases c0 : σ.1 42 (fl x n s) = 0
      · obtain ⟨θ, a1, a2, a3⟩ := fl_useBest hK hH hG hB hx hn hs hnb c0
        refine ⟨θ, ?_, a2, a3⟩
        simp only [x_ite, f_Tr_comeUp_64, o1, if_false, x_nn, k11, if_true, x_cR hfl, o2, x_gI, f1, rd_F2, c0, not_true_eq_false, x_cV a1, f_Tr_comeUp_102, nI_1, hss]
      · have hS : S_up1 x n s σ = σ := by unfold S_up1; rw [if_neg c0]
        rw [hS]
        refine ⟨η, ?_, hH, PE.rf⟩
        simp only [x_ite, f_Tr_comeUp_64, o1, if_false, x_nn, k11, if_true, x_cR hfl, o2, x_gI, f1, rd_F2, c0, not_false_eq_true, f_Tr_comeUp_102, nI_1, hss]
    obtain ⟨θ, a1, a2, a3⟩ := step
    obtain ⟨θ2, b1, b2, b3⟩ := fl_up_64 (w := w) hx hn r fuel (S_up1 x n s σ) θ (by omega) (by omega) (hK.sp S_up1_SP) a2 hok.1 hok.2 (by rw [S_up1_SP.nbE]; exact hnb)
    exact ⟨θ2, a1.trans b1, b2, a3.tr b3⟩
theorem fl_up_16 {x n : Nat} (hK : KOk kk σ) (hx : x < 6) (hn : n < 6) (hnb : nb σ x n = true) : ∀ (r fuel : Nat) (b : Bool), r ≤ 4 → r < fuel → f_Tr_comeUp_16 11 fuel (nI x) (nI n) (if b then 1 else 0) (nI (4 - r)) (Kap kk σ η) = f_Tr_comeUp_64 11 sn_fuel (nI x) (nI n) (if b || anyOpen σ x n r then 1 else 0) 0 (Kap kk σ η)
  | 0, fuel + 1, b, _, _ => by
    have o1 : ((4 : Int32) ≤ nI (4 - 0)) = True := eq_true (by decide)
    simp only [x_ite, f_Tr_comeUp_16, o1, if_true, anyOpen, Bool.or_false]
  | r + 1, fuel + 1, b, hr, hf => by
    obtain ⟨⟨k1, k2, k3, k4, k5, k6, k7, k8, k9, k10, k11, k12, k13, k14, k15, k16, k17, k18, k19, k20, k21, k22⟩, kE, kF, kP, k4s⟩ := id hK
    have hs : 4 - (r + 1) < 4 := by omega
    have hss : 4 - (r + 1) + 1 = 4 - r := by omega
    have hA : anyOpen σ x n (r + 1) = (opb σ x n (4 - (r + 1)) || anyOpen σ x n r) := rfl
    generalize hN : 4 - (r + 1) = s at hs hss hA
    have o1 : ((4 : Int32) ≤ nI s) = False := eq_false (nI_ge (b := 4) hs (by omega))
    obtain ⟨f1, f2, f3, f4⟩ := hK.flow hx hn hs hnb
    have hfl : f_Tr_flowTo 11 (nI x) (nI n) (nI s) (Kap kk σ η) = some (some (va_rf (some (aF (fl x n s)))), Kap kk σ η) := by rw [fl_flowTo hK hx hn hs, fR, if_pos hnb]
    have o2 : (some (aF (fl x n s)) = none) = False := by simp
    have o3 : ((1 : Int32) = 0) = False := eq_false (by decide)
    have ih := fun b => fl_up_16 hK hx hn hnb r fuel b (by omega) (by omega)
    rw [hA]
    cases ho : opb σ x n s with
    | true =>
      have hio := fl_isOpen (η := η) hK hx hn hs hnb
      rw [ho, if_pos rfl] at hio
      have e1 : (if b = true then (1 : Int32) else 0) ||| 1 = 1 := by cases b <;> decide
      simp only [x_ite, f_Tr_comeUp_16, o1, if_false, x_nn, k11, if_true, x_cR hfl, o2, f1, x_cI hio, o3, f_Tr_comeUp_52, n_I, e1, nI_1, hss]
      have := ih true
      simp only [if_true, Bool.true_or] at this
      simpa using this
    | false =>
      have hio := fl_isOpen (η := η) hK hx hn hs hnb
      rw [ho, if_neg (by decide)] at hio
      have e1 : (if b = true then (1 : Int32) else 0) ||| 0 = if b = true then 1 else 0 := by cases b <;> decide
      simp only [x_ite, f_Tr_comeUp_16, o1, if_false, x_nn, k11, if_true, x_cR hfl, o2, f1, x_cI hio, f_Tr_comeUp_51, f_Tr_comeUp_52, n_I, e1, nI_1, hss, ih, Bool.false_or]
theorem fl_comeUp (hK : KOk kk σ) (hH : HR σ η) (hG : GvOk σ) (hT : ToldOk σ) (hB : BegOk σ) {e : Nat} (he : e < 2 * nl σ) : Run kk (f_Tr_comeUp 11 (some (aE e))) σ η none (S_up e σ) := by
  obtain ⟨⟨k1, k2, k3, k4, k5, k6, k7, k8, k9, k10, k11, k12, k13, k14, k15, k16, k17, k18, k19, k20, k21, k22⟩, kE, kF, kP, k4s⟩ := id hK
  obtain ⟨e1, e2, e3, e4, e5, e6, e7⟩ := kE e he
  obtain ⟨x1, x2, x3⟩ := hG.1.ex_lt he
  have hnb := nb_end hG.1 he
  have h16 := fl_up_16 (η := η) hK x1 x2 hnb 4 sn_fuel false (by omega) (by unfold sn_fuel; omega)
  simp only [Bool.false_eq_true, if_false, Bool.false_or] at h16
  have h16 : f_Tr_comeUp_16 11 sn_fuel (nI (ex σ e)) (nI (ot σ e)) 0 0 (Kap kk σ η) = _ := h16
  obtain ⟨hG2, hB2⟩ := S_upF_ok x1 x2 4 (by omega) hG hB
  have hT2 := hT.mk' (τ := S_upF (ex σ e) (ot σ e) 4 σ) (fun i => S_upF_I (by decide) 4 σ) (fun i => S_upF_I (by decide) 4 σ)
  have hs2 : SP σ (S_upF (ex σ e) (ot σ e) 4 σ) := ⟨fun i => S_upF_I (by decide) 4 σ, fun i => S_upF_I (by decide) 4 σ, fun i => S_upF_I (by decide) 4 σ⟩
  obtain ⟨θ, a1, a2, a3⟩ := fl_up_64 (kk := kk) (w := if anyOpen σ (ex σ e) (ot σ e) 4 = true then 1 else 0) x1 x2 4 sn_fuel σ η (by omega) (by unfold sn_fuel; omega) hK hH hG hB hnb
  have a1 : f_Tr_comeUp_64 11 sn_fuel (nI (ex σ e)) (nI (ot σ e)) (if anyOpen σ (ex σ e) (ot σ e) 4 = true then 1 else 0) 0 (Kap kk σ η) = _ := a1
  unfold S_up
  cases ha : anyOpen σ (ex σ e) (ot σ e) 4 with
  | true =>
    rw [ha, if_pos rfl] at a1
    obtain ⟨θ2, b1, b2, b3⟩ := fl_up_111' (n := ot σ e) x1 (hK.sp hs2) a2 hG2 hT2
    refine ⟨θ2, ?_, b2, a3.tr b3⟩
    rw [ha, if_pos rfl] at h16
    simp only [f_Tr_comeUp, x_gI, e1, if_true, rd_E2, rd_E3, h16, a1, b1]
  | false =>
    rw [ha, if_neg (by decide)] at a1
    obtain ⟨θ2, b1, b2, b3⟩ := fl_up_111 (kk := kk) x1 x2 6 sn_fuel _ θ (by omega) (by unfold sn_fuel; omega) (hK.sp hs2) a2 hG2 hT2
    have b1 : f_Tr_comeUp_111 11 sn_fuel (nI (ex σ e)) (nI (ot σ e)) 0 0 (Kap kk (S_upF (ex σ e) (ot σ e) 4 σ) θ) = _ := b1
    refine ⟨θ2, ?_, b2, a3.tr b3⟩
    rw [ha, if_neg (by decide)] at h16
    simp only [f_Tr_comeUp, x_gI, e1, if_true, rd_E2, rd_E3, h16, a1, b1, Bool.false_eq_true, if_false]
end Ups
