/-! LAYER 2: a tick: what arrives -/
variable {kk : Nat → Nat} {σ η : sn_FS}
def AFT (k15 : Int32 → Int32 → sn_M) (x1 x2 : Int32) : sn_M := g_R 11 0 (some 1) fun v3 => n_n 1 v3 fun a4 => c_V (f_Ck_beginLooking a4) (g_R 11 2 (some 1) fun v6 => n_n 8 v6 fun a7 => c_V (f_Tr_runTimers a7) (n_n 11 (some 1) fun a9 => c_V (f_Sn_runCircuitTimers a9) (g_R 11 2 (some 1) fun v11 => n_n 8 v11 fun a12 => c_V (f_Tr_sendUnits a12) (k15 x1 (x2 + (1 : Int32))))))
theorem wC_ne {m : Msg} (h : MOk m) (h1 : 1 ≤ mK m) : ¬ wC m = 0 := fun q => by
  have e : (wC m).toInt = (eC m : Int) := pf_lI (by have := eC_lt h; omega)
  rw [q] at e
  have e0 : (0 : Int64).toInt = 0 := by decide
  rw [e0] at e
  unfold eC at e
  omega
theorem arr_step (hK : KOk kk σ) (hG : GI σ η) {e : Nat} (he : e < 2 * nl σ) (h3 : σ.1 3 (e / 2) = 0 ∨ σ.1 3 (e / 2) = 1) : ∃ τ θ, g_Md_arrive (nI e) σ = some (none, τ) ∧ (∀ k15 fuel x1 x2, f_Sn_tick_22 k15 1 (fuel + 1) x1 x2 (nI e) (Kap kk σ η) = f_Sn_tick_22 k15 1 fuel x1 x2 (nI (e + 1)) (Kap kk τ θ)) ∧ GI τ θ ∧ TS σ τ ∧ FR1 σ τ := by
  obtain ⟨hI, hR, hC, hP⟩ := hG
  have hPl := hI.2.1.1
  have hn10 := hPl.2.1
  obtain ⟨τ, θ, w, a1, a2, a3, a4, a5, a6, a7⟩ := rc_ok hK hI hR he h3
  have hKo := hK
  obtain ⟨⟨k1, k2, k3, k4, k5, k6, k7, k8, k9, k10, k11, k12, k13, k14, k15, k16, k17, k18, k19, k20, k21, k22⟩, kE, kF, kP, k4s⟩ := id hK
  have e1 : (nI (2 * nl σ) ≤ nI e) = False := eq_false (fun q => by
    have := (nI_leI (a := 2 * nl σ) (b := e) (by omega) (by omega)).mp q
    omega)
  have hpre : ∀ k15 fuel x1 x2, f_Sn_tick_22 k15 1 (fuel + 1) x1 x2 (nI e) (Kap kk σ η) = (if (lg_cmp w (0 : Int64)) = 0 then f_Sn_tick_78 (f_Sn_tick_22 k15 1 fuel) 1 x1 x2 (nI e) else g_R 11 2 (some 1) fun v17 => n_n 8 v17 fun a18 => c_I (f_Tr_get a18 (nI e) w) fun v19 => (if v19 = 0 then f_Sn_tick_78 (f_Sn_tick_22 k15 1 fuel) 1 x1 x2 (nI e) else g_R 11 3 (some 1) fun v20 => n_n 7 v20 fun a21 => c_V (f_Sw_get a21 w) (n_n 11 (some 1) fun a23 => c_V (f_Sn_sendPosted a23) (f_Sn_tick_78 (f_Sn_tick_22 k15 1 fuel) 1 x1 x2 (nI e))))) (Kap kk τ θ) := fun k15 fuel x1 x2 => by
    simp only [f_Sn_tick_22, x_gR, k1, if_true, rr_s1_1, x_gI, k3, rd_s3_0, two_l hPl, e1, if_false, rr_s1_2, x_nn, k11, x_cJ a1]
  have h78 : ∀ (k15 : Int32 → Int32 → sn_M) (fuel : Nat) (x1 x2 : Int32), f_Sn_tick_78 (f_Sn_tick_22 k15 1 fuel) 1 x1 x2 (nI e) = f_Sn_tick_22 k15 1 fuel x1 x2 (nI (e + 1)) := fun k15 fuel x1 x2 => by
    unfold f_Sn_tick_78
    rw [nI_1]
  have hCI : CI τ := hC.eq a5.sp (fun k i h1 h2 => a5.1 k i (by omega))
  have hPQ := hP.eq a3
  rcases a7 with ⟨w0, hg⟩ | ⟨m, wm, hmv, hgm⟩
  · refine ⟨τ, θ, hg, fun k15 fuel x1 x2 => ?_, ⟨a2, a6, hCI, hPQ⟩, a4, a5.f1⟩
    rw [hpre, w0, if_pos ((lg_cmp_eq _ _).mpr rfl), h78]
  · have hne : ¬ lg_cmp w 0 = 0 := fun q => wC_ne hmv.1 hmv.2.2.1 (wm ▸ (lg_cmp_eq _ _).mp q)
    have hKt := hKo.sp a5.sp
    have heT : e < 2 * nl τ := by rw [a5.sp.nlE]; exact he
    have hexT : ex τ e = ex σ e := by rw [a5.sp.exE]
    obtain ⟨s1, s2⟩ := sm_get hKt a2 heT hmv
    rw [hexT] at s1 s2
    by_cases cc : mT m = ex σ e ∧ 7 ≤ mK m
    · obtain ⟨b1, b2⟩ := s2 cc
      have hKc := hKt.sp (S_cnt_fr (k := mK m)).sp
      have hGc : GI (S_cnt (mK m) τ) θ := ⟨S_cnt_inv a2, S_cnt_fr.ri a6, hCI.eq S_cnt_fr.sp (fun k i h1 h2 => S_cnt_I (by omega)), hPQ⟩
      have hmc : MV (S_cnt (mK m) τ) m := by rw [MV.sp S_cnt_fr.sp]; exact hmv
      obtain ⟨σ', new, hct⟩ := ct_gets (hGc.cb hKc) hGc.2.2.1 hmc cc.2
      obtain ⟨θ1, θ2, c1, c2, c3, c4, c5, c6, -⟩ := ct_fin hKc hGc hct (by decide)
      refine ⟨_, θ2, hgm _ ?_, fun k15 fuel x1 x2 => ?_, c4, (a4.tr S_cnt_ts).tr c5, (a5.f1.tr S_cnt_fr.1.f1).tr c6⟩
      · rw [b1, ← cc.1, y_V_at c1]; rfl
      · rw [hpre, if_neg hne, wm]
        simp only [x_gR, k1, if_true, rr_s1_2, x_nn, k11, x_cI b2, show ((1 : Int32) = 0) = False from eq_false (by decide), if_false, rr_s1_3, k17, x_cV c2, x_cV c3, h78]
    · obtain ⟨ω, ζ, b1, b2, b3, b4, b5, b6⟩ := s1 cc
      refine ⟨ω, ζ, hgm _ b1, fun k15 fuel x1 x2 => ?_, ⟨b3, b6.ri a6, hCI.eq b6.sp (fun k i h1 h2 => b6.1.1 k i (by omega)), hPQ.eq b4⟩, a4.tr b5, a5.f1.tr b6.1.f1⟩
      rw [hpre, if_neg hne, wm]
      simp only [x_gR, k1, if_true, rr_s1_2, x_nn, k11, x_cI b2, h78]
theorem arr_loop : ∀ (d fuel fuel' j : Nat) (σ η : sn_FS), 2 * nl σ - j = d → d < fuel → d < fuel' → j ≤ 2 * nl σ → KOk kk σ → GI σ η → (∀ l, l < 10 → σ.1 3 l = 0 ∨ σ.1 3 l = 1) → ∃ τ θ, g_Md_one_2 fuel (nI j) σ = g_Md_one_35 sn_fuel 0 (sS τ 6 (τ.1 6 0 + 1)) ∧ (∀ k15 x1 x2, f_Sn_tick_22 k15 1 fuel' x1 x2 (nI j) (Kap kk σ η) = AFT k15 x1 x2 (Kap kk τ θ)) ∧ GI τ θ ∧ TS σ τ ∧ FR1 σ τ
  | 0, fuel + 1, fuel' + 1, j, σ, η, hd, _, _, hj, hK, hG, h3 => by
    have hPl := hG.1.2.1.1
    have hn10 := hPl.2.1
    have hle : nI (2 * nl σ) ≤ nI j := nI_le (by omega) (by omega)
    refine ⟨σ, η, ?_, fun k15 x1 x2 => ?_, hG, TS.rf, FR1.rf⟩
    · show (if ((2 : Int32) * σ.1 4 0) ≤ nI j then (_ : sn_G) else (_ : sn_G)) σ = _
      rw [two_l hPl, if_pos hle]; rfl
    · have e1 : (nI (2 * nl σ) ≤ nI j) = True := eq_true hle
      obtain ⟨⟨k1, k2, k3, k4, k5, k6, k7, k8, k9, k10, k11, k12, k13, k14, k15, k16, k17, k18, k19, k20, k21, k22⟩, kE, kF, kP, k4s⟩ := id hK
      simp only [f_Sn_tick_22, x_gR, k1, if_true, rr_s1_1, x_gI, k3, rd_s3_0, two_l hPl, e1]
      rw [AFT]
      simp only [x_gR, k1, if_true]
  | d + 1, fuel + 1, fuel' + 1, j, σ, η, hd, hf, hf', hj, hK, hG, h3 => by
    have hPl := hG.1.2.1.1
    have hn10 := hPl.2.1
    have hlt : j < 2 * nl σ := by omega
    obtain ⟨τ, θ, a1, a2, a3, a4, a5⟩ := arr_step hK hG hlt (h3 (j / 2) (by omega))
    have hnl := a5.sp.nlE
    obtain ⟨ω, ζ, b1, b2, b3, b4, b5⟩ := arr_loop d fuel fuel' (j + 1) τ θ (by rw [hnl]; omega) (by omega) (by omega) (by rw [hnl]; omega) (hK.sp a5.sp) a3 (fun l hl => by rw [a5.1 3 l (by omega)]; exact h3 l hl)
    refine ⟨ω, ζ, ?_, fun k15 x1 x2 => by rw [a2, b2], b3, a4.tr b4, a5.tr b5⟩
    show (if ((2 : Int32) * σ.1 4 0) ≤ nI j then (_ : sn_G) else y_V (g_Md_arrive (nI j)) (g_Md_one_2 fuel (nI j + (1 : Int32)))) σ = _
    rw [two_l hPl, if_neg (fun q => by have := (nI_leI (a := 2 * nl σ) (b := j) (by omega) (by omega)).mp q; omega), y_V_at a1, nI_1, b1]
/-! circuits' timers, all -/
theorem ln_step (hK : KOk kk σ) (hG : GI σ η) {c : Nat} (hc : c < 144) (h53 : Tm 0 σ 53 c) (h54 : Tm 0 σ 54 c) : ∃ τ θ, g_Md_lineTimer (nI c) σ = some (none, τ) ∧ (∀ fuel, f_Sn_runCircuitTimers_2 1 (fuel + 1) (nI c) (Kap kk σ η) = f_Sn_runCircuitTimers_2 1 fuel (nI (c + 1)) (Kap kk τ θ)) ∧ GI τ θ ∧ TS σ τ ∧ FR1 σ τ ∧ Tm 1 τ 53 c ∧ Tm 1 τ 54 c := by
  have hKo := hK
  obtain ⟨⟨k1, k2, k3, k4, k5, k6, k7, k8, k9, k10, k11, k12, k13, k14, k15, k16, k17, k18, k19, k20, k21, k22⟩, kE, kF, kP, k4s⟩ := id hK
  have hCl := hG.1.2.2.2.2
  have hL19 : kL 19 = 144 := rfl
  have e0 : (nI 144 ≤ nI c) = False := eq_false (fun q => by
    have := (nI_leI (a := 144) (b := c) (by omega) (by omega)).mp q
    omega)
  have hpl : f_Sw_circuitPlaces 17 (Kap kk σ η) = some (some (.int (nI 144)), Kap kk σ η) := by
    simp only [f_Sw_circuitPlaces, x_gR, k17, if_true, rr_s17_3, x_len, k19, hL19, toI, r_I]
  have h28 : ∀ fuel, f_Sn_runCircuitTimers_28 (f_Sn_runCircuitTimers_2 1 fuel) 1 (nI c) = f_Sn_runCircuitTimers_2 1 fuel (nI (c + 1)) := fun fuel => by
    unfold f_Sn_runCircuitTimers_28
    rw [nI_1]
  have hpre : ∀ fuel r κ, f_Sw_runTimers 17 (nI c) (Kap kk σ η) = some (some (.int r), κ) → f_Sn_runCircuitTimers_2 1 (fuel + 1) (nI c) (Kap kk σ η) = (if r = 0 then f_Sn_runCircuitTimers_2 1 fuel (nI (c + 1)) else n_n 11 (some 1) fun a7 => c_V (f_Sn_sendPosted a7) (f_Sn_runCircuitTimers_2 1 fuel (nI (c + 1)))) κ := fun fuel r κ h => by
    simp only [f_Sn_runCircuitTimers_2, x_gR, k1, if_true, rr_s1_3, x_nn, k17, x_cI hpl, e0, if_false, x_cI h, h28]
  by_cases hnb : nb σ (c / 24) (c % 24 / 4) = true
  · obtain ⟨σ', new, r, a1, a2, a3, a4⟩ := ct_line (hG.cb hKo) hG.2.2.1 hCl hc hnb h53 h54
    obtain ⟨θ1, θ, b1, b2, b3, b4, b5, b6, b7⟩ := ct_fin hKo hG a1 (by decide)
    have hC1 : ClOk σ' := hCl.at a1.2.2.2.2.2.1.1
    have hqc : ∀ k, k ≠ 7 ∧ k ≠ 29 ∧ k ≠ 47 → (Rt new σ').1 k c = σ'.1 k c := fun k hk => Rt_q hk new σ'
    have hcl : cl (Rt new σ') 6 0 = cl σ' 6 0 := by unfold cl; rw [Rt_q (by decide)]
    refine ⟨_, θ, b1, fun fuel => ?_, b4, b5, b6, ?_, ?_⟩
    · rw [hpre fuel r _ b2]
      by_cases cr : r = 0
      · rw [if_pos cr, ← b7 (a4 cr)]
      · rw [if_neg cr]
        simp only [x_nn, k1, if_true, x_cV b3]
    · obtain ⟨v, q1, q2, q3⟩ := a2
      exact ⟨v, q1, by rw [hqc 53 (by decide)]; exact q2, by rw [hcl]; exact q3⟩
    · obtain ⟨v, q1, q2, q3⟩ := a3
      exact ⟨v, q1, by rw [hqc 54 (by decide)]; exact q2, by rw [hcl]; exact q3⟩
  · have hnb : nb σ (c / 24) (c % 24 / 4) = false := by simpa using hnb
    obtain ⟨z1, z2, z3, -⟩ := (hG.2.2.1.2.1 c hc).2.2.2.2.2.2.2.2.2.2 hnb
    have d53 : c < md_len 53 := hc
    have d52 : c < md_len 52 := hc
    have hr19 : kR σ 19 c = none := by rw [rr_a19, if_neg (fun q => by rw [hnb] at q; cases q.2)]
    have e1 : (nI c < nI 144) = True := eq_true ((nI_ltI (a := c) (b := 144) (by omega) (by omega)).mpr hc)
    have e2 : (nI c < 0) = False := eq_false (nI_pos (by omega))
    refine ⟨σ, η, ?_, fun fuel => ?_, hG, TS.rf, FR1.rf, Tm.z z2, Tm.z z3⟩
    · unfold g_Md_lineTimer
      rw [q_I_at d53, z2, if_pos (by decide)]
      unfold g_Md_lineTimer_139
      rw [q_I_at d52, z1, if_pos (by decide)]; rfl
    · have hrt : f_Sw_runTimers 17 (nI c) (Kap kk σ η) = some (some (.int 0), Kap kk σ η) := by
        simp only [f_Sw_runTimers, e2, if_false, x_ite, x_gR, k17, if_true, rr_s17_3, x_len, k19, hL19, toI, e1, x_aR (a := 19) (p := c) hc (by decide), hr19, f_Sw_runTimers_23, not_true_eq_false, r_Z]
        simp
      rw [hpre fuel 0 _ hrt, if_pos rfl]
theorem ln_loop : ∀ (r fuel fuel' : Nat) (σ η : sn_FS), r ≤ 144 → r < fuel → r < fuel' → KOk kk σ → GI σ η → (∀ c, c < 144 → Tm 0 σ 53 c ∧ Tm 0 σ 54 c ∧ (c < 144 - r → Tm 1 σ 53 c ∧ Tm 1 σ 54 c)) → ∃ τ θ, g_Md_one_258 fuel (nI (144 - r)) σ = g_Md_one_278 sn_fuel 0 τ ∧ f_Sn_runCircuitTimers_2 1 fuel' (nI (144 - r)) (Kap kk σ η) = some (none, Kap kk τ θ) ∧ GI τ θ ∧ TS σ τ ∧ FR1 σ τ ∧ ∀ c, c < 144 → Tm 1 τ 53 c ∧ Tm 1 τ 54 c
  | 0, fuel + 1, fuel' + 1, σ, η, _, _, _, hK, hG, hT => by
    have e0 : (nI 144 ≤ nI 144) = True := eq_true (by decide)
    have hL19 : kL 19 = 144 := rfl
    refine ⟨σ, η, ?_, ?_, hG, TS.rf, FR1.rf, fun c hc => (hT c hc).2.2 (by omega)⟩
    · show (if (144 : Int32) ≤ nI 144 then (_ : sn_G) else (_ : sn_G)) σ = _
      rw [if_pos (by decide)]
    · obtain ⟨⟨k1, k2, k3, k4, k5, k6, k7, k8, k9, k10, k11, k12, k13, k14, k15, k16, k17, k18, k19, k20, k21, k22⟩, kE, kF, kP, k4s⟩ := id hK
      have hpl : f_Sw_circuitPlaces 17 (Kap kk σ η) = some (some (.int (nI 144)), Kap kk σ η) := by
        simp only [f_Sw_circuitPlaces, x_gR, k17, if_true, rr_s17_3, x_len, k19, hL19, toI, r_I]
      simp only [f_Sn_runCircuitTimers_2, x_gR, k1, if_true, rr_s1_3, x_nn, k17, x_cI hpl, Nat.sub_zero, e0, r_V]
  | r + 1, fuel + 1, fuel' + 1, σ, η, hr, hf, hf', hK, hG, hT => by
    have hc : 144 - (r + 1) < 144 := by omega
    have hn : 144 - (r + 1) + 1 = 144 - r := by omega
    obtain ⟨h1, h2, -⟩ := hT _ hc
    obtain ⟨τ, θ, a1, a2, a3, a4, a5, a6, a7⟩ := ln_step hK hG hc h1 h2
    have hCl := hG.1.2.2.2.2
    obtain ⟨ω, ζ, b1, b2, b3, b4, b5, b6⟩ := ln_loop r fuel fuel' τ θ (by omega) (by omega) (by omega) (hK.sp a5.sp) a3 (fun c hc' => by
      obtain ⟨q1, q2, q3⟩ := hT c hc'
      refine ⟨q1.ts a4 hCl (by decide) (by decide), q2.ts a4 hCl (by decide) (by decide), fun hlt => ?_⟩
      by_cases ce : c = 144 - (r + 1)
      · rw [ce]; exact ⟨a6, a7⟩
      · obtain ⟨p1, p2⟩ := q3 (by omega)
        exact ⟨p1.ts a4 hCl (by decide) (by decide), p2.ts a4 hCl (by decide) (by decide)⟩)
    refine ⟨ω, ζ, ?_, by rw [a2, hn, b2], b3, a4.tr b4, a5.tr b5, b6⟩
    show (if (144 : Int32) ≤ nI (144 - (r + 1)) then (_ : sn_G) else y_V (g_Md_lineTimer (nI (144 - (r + 1)))) (g_Md_one_258 fuel (nI (144 - (r + 1)) + (1 : Int32)))) σ = _
    rw [if_neg (fun q => by have := (nI_leI (a := 144) (b := 144 - (r + 1)) (by omega) (by omega)).mp q; omega), y_V_at a1, nI_1, hn, b1]
