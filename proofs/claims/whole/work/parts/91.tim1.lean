/-! LAYER 2: the timers, all of them -/
variable {kk : Nat → Nat} {e : Nat}
theorem two_l {σ : sn_FS} (hP : PlanOk σ) : (2 : Int32) * σ.1 4 0 = nI (2 * nl σ) := by
  rw [hP.1]; exact pk_mul 2 _
theorem tm_ends : ∀ (d fuel fuel' j : Nat) (σ η : sn_FS), 2 * nl σ - j = d → d < fuel → d < fuel' → j ≤ 2 * nl σ → KOk kk σ → Inv σ η → RI σ → (∀ i, i < 2 * nl σ → Tm 0 σ 40 i ∧ Tm 0 σ 11 i ∧ Tm 0 σ 20 i ∧ (i < j → Tm 1 σ 11 i ∧ Tm 1 σ 20 i)) → ∃ τ θ, g_Md_one_35 fuel (nI j) σ = g_Md_one_58 sn_fuel 0 τ ∧ f_Tr_runTimers_2 11 fuel' (nI j) (Kap kk σ η) = f_Tr_runTimers_33 11 sn_fuel 0 (Kap kk τ θ) ∧ Inv τ θ ∧ RI τ ∧ PE η θ ∧ TS σ τ ∧ FR0 σ τ ∧ ∀ i, i < 2 * nl σ → Tm 1 τ 11 i ∧ Tm 1 τ 20 i
  | 0, fuel + 1, fuel' + 1, j, σ, η, hd, _, _, hj, hK, hI, hR, hT => by
    obtain ⟨⟨k1, k2, k3, k4, k5, k6, k7, k8, k9, k10, k11, k12, k13, k14, k15, k16, k17, k18, k19, k20, k21, k22⟩, kE, kF, kP, k4s⟩ := id hK
    have hn10 := hI.2.1.1.2.1
    have hjo : j = 2 * nl σ := by omega
    have o1 : (nI (2 * nl σ) ≤ nI j) = True := eq_true (by rw [hjo]; exact nI_le (by omega) (by omega))
    have h2 := two_l hI.2.1.1
    refine ⟨σ, η, ?_, ?_, hI, hR, PE.rf, TS.rf, FR0.rf, fun i hi => (hT i hi).2.2.2 (by omega)⟩
    · simp only [g_Md_one_35, q_S, h2, o1, if_true]
    · simp only [f_Tr_runTimers_2, x_gR, k11, if_true, rr_s11_0, x_gI, k3, rd_s3_0, h2, o1]
  | d + 1, fuel + 1, fuel' + 1, j, σ, η, hd, hf, hf', hj, hK, hI, hR, hT => by
    obtain ⟨⟨k1, k2, k3, k4, k5, k6, k7, k8, k9, k10, k11, k12, k13, k14, k15, k16, k17, k18, k19, k20, k21, k22⟩, kE, kF, kP, k4s⟩ := id hK
    have hn10 := hI.2.1.1.2.1
    have hjo : j < 2 * nl σ := by omega
    have o1 : (nI (2 * nl σ) ≤ nI j) = False := eq_false (nI_ge (by omega) (by omega))
    have h2 := two_l hI.2.1.1
    obtain ⟨t1, t2, t3, t4⟩ := hT j hjo
    obtain ⟨τ, θ, a1, a2, a3, a4, a5, a6, a7, a8, a9⟩ := sn_timer hK hI hR hjo t2 t3 t1
    have hC := hI.2.2.2.2
    have hs := a7.sp
    obtain ⟨ω, ζ, b1, b2, b3, b4, b5, b6, b7, b8⟩ := tm_ends d fuel fuel' (j + 1) τ θ (by rw [hs.nlE]; omega) (by omega) (by omega) (by rw [hs.nlE]; omega) (hK.sp hs) a3 a4 (fun i hi => by
      rw [hs.nlE] at hi
      obtain ⟨u1, u2, u3, u4⟩ := hT i hi
      refine ⟨u1.ts a6 hC (by decide) (by omega), u2.ts a6 hC (by decide) (by omega), u3.ts a6 hC (by decide) (by omega), fun hlt => ?_⟩
      by_cases c : i = j
      · rw [c]; exact ⟨a8, a9⟩
      · obtain ⟨v1, v2⟩ := u4 (by omega)
        exact ⟨v1.ts a6 hC (by decide) (by omega), v2.ts a6 hC (by decide) (by omega)⟩)
    refine ⟨ω, ζ, ?_, ?_, b3, b4, a5.tr b5, a6.tr b6, a7.tr b7, fun i hi => b8 i (by rw [hs.nlE]; exact hi)⟩
    · rw [← b1]
      simp only [g_Md_one_35, q_S, h2, o1, if_false, y_V_at a1, nI_1]
    · rw [← b2]
      have hp : j < kL 12 := by show _ < 20; omega
      have o3 : (j < 2 * nl σ) = True := eq_true hjo
      simp only [f_Tr_runTimers_2, x_gR, k11, if_true, rr_s11_0, x_gI, k3, rd_s3_0, h2, o1, if_false, x_ite, rr_s11_2, x_aR hp (show kL 12 ≤ 1000 by decide), k12, rr_a12, o3, x_nn, x_cV a2, nI_1]
/-- a changeover that has lasted too long -/
theorem sn_end {σ η : sn_FS} (hK : KOk kk σ) (hI : Inv σ η) (hR : RI σ) (he : e < 2 * nl σ) : Sn kk (g_Md_overEnds (nI (ex σ e)) (nI (e / 2)) (-1)) (f_Tr_endChangeover 11 (some (aE e)) (-1)) σ η (fun τ => τ.1 40 e = 0) := by
  obtain ⟨hH, hw, hL, hD, hC⟩ := hI
  obtain ⟨τ, θ, a1, a2, a3, a4, a5, a6, a7, a8, a9⟩ := ec_end hK hH hw hL he (r := none) (fun t h => by cases h)
  have hfr := ec_fr he a7 a8
  exact ⟨τ, θ, a1, a2, ⟨a3, a5, a6, ec_di hD a7 a8 a9, hC.at (a7 6 0 (by decide))⟩, hfr.ri hR, a4, ec_ts a7 a8 a9, hfr.1, a9⟩
theorem fl_co_no {σ η : sn_FS} (hK : KOk kk σ) (hI : Inv σ η) {i x fuel : Nat} (hi : i < 2 * nl σ) (hx : x < 6) (h40 : Tm 0 σ 40 i) (h : ¬ (ex σ i = x ∧ out σ 40 i)) : f_Tr_runChangeoverTimers_2 11 (fuel + 1) (nI x) (nI i) (Kap kk σ η) = f_Tr_runChangeoverTimers_2 11 fuel (nI x) (nI (i + 1)) (Kap kk σ η) := by
  obtain ⟨⟨k1, k2, k3, k4, k5, k6, k7, k8, k9, k10, k11, k12, k13, k14, k15, k16, k17, k18, k19, k20, k21, k22⟩, kE, kF, kP, k4s⟩ := id hK
  obtain ⟨e1, e2, e3, e4, e5, e6, e7⟩ := kE i hi
  have hP := hI.2.1.1
  have hn10 := hP.2.1
  obtain ⟨x1, x2, x3⟩ := hP.ex_lt hi
  have h2 := two_l hP
  have o1 : (nI (2 * nl σ) ≤ nI i) = False := eq_false (nI_ge (by omega) (by omega))
  have hp : i < kL 12 := by show _ < 20; omega
  have o3 : (i < 2 * nl σ) = True := eq_true hi
  have q1 : (some (aE i) = none) = False := by simp
  have hdec : Decidable (out σ 40 i) := Classical.propDecidable _
  have hio := fl_isOut (η := η) k2 hI.2.2.2.2 h40 (d := hdec)
  by_cases c : ex σ i = x
  · have hno : ¬ out σ 40 i := fun q => h ⟨c, q⟩
    rw [if_neg hno] at hio
    simp only [f_Tr_runChangeoverTimers_2, x_gR, k11, if_true, rr_s11_0, x_gI, k3, rd_s3_0, h2, o1, if_false, x_ite, rr_s11_2, x_aR hp (show kL 12 ≤ 1000 by decide), k12, rr_a12, o3, q1, e1, rd_E2, c, not_true_eq_false, rr_s11_1, rd_E12, x_nn, k2, x_cI hio, f_Tr_runChangeoverTimers_54, nI_1]
  · have c' : (nI (ex σ i) = nI x) = False := eq_false (fun q => c (nI_inj (by omega) (by omega) q))
    simp only [f_Tr_runChangeoverTimers_2, x_gR, k11, if_true, rr_s11_0, x_gI, k3, rd_s3_0, h2, o1, if_false, x_ite, rr_s11_2, x_aR hp (show kL 12 ≤ 1000 by decide), k12, rr_a12, o3, q1, e1, rd_E2, c', not_false_eq_true, f_Tr_runChangeoverTimers_54, nI_1]
theorem fl_co_yes {σ η : sn_FS} (hK : KOk kk σ) (hI : Inv σ η) {i x fuel : Nat} (hi : i < 2 * nl σ) (h40 : Tm 0 σ 40 i) (hx : ex σ i = x) (ho : out σ 40 i) {κ : sn_Mem} (hc : f_Tr_endChangeover 11 (some (aE i)) (-1) (Kap kk σ η) = some (none, κ)) : f_Tr_runChangeoverTimers_2 11 (fuel + 1) (nI x) (nI i) (Kap kk σ η) = f_Tr_runChangeoverTimers_2 11 fuel (nI x) (nI (i + 1)) κ := by
  obtain ⟨⟨k1, k2, k3, k4, k5, k6, k7, k8, k9, k10, k11, k12, k13, k14, k15, k16, k17, k18, k19, k20, k21, k22⟩, kE, kF, kP, k4s⟩ := id hK
  obtain ⟨e1, e2, e3, e4, e5, e6, e7⟩ := kE i hi
  have hP := hI.2.1.1
  have hn10 := hP.2.1
  have h2 := two_l hP
  have o1 : (nI (2 * nl σ) ≤ nI i) = False := eq_false (nI_ge (by omega) (by omega))
  have hp : i < kL 12 := by show _ < 20; omega
  have o3 : (i < 2 * nl σ) = True := eq_true hi
  have q1 : (some (aE i) = none) = False := by simp
  have z10 : ((1 : Int32) = 0) = False := eq_false (by decide)
  have hdec : Decidable (out σ 40 i) := Classical.propDecidable _
  have hio := fl_isOut (η := η) k2 hI.2.2.2.2 h40 (d := hdec)
  rw [if_pos ho] at hio
  simp only [f_Tr_runChangeoverTimers_2, x_gR, k11, if_true, rr_s11_0, x_gI, k3, rd_s3_0, h2, o1, if_false, x_ite, rr_s11_2, x_aR hp (show kL 12 ≤ 1000 by decide), k12, rr_a12, o3, q1, e1, rd_E2, hx, not_true_eq_false, rr_s11_1, rd_E12, x_nn, k2, x_cI hio, z10, x_cV hc, f_Tr_runChangeoverTimers_54, nI_1]
theorem tm_over {x : Nat} (hx : x < 6) : ∀ (d fuel fuel' l : Nat) (σ η : sn_FS), nl σ - l = d → d < fuel → 2 * d < fuel' → l ≤ nl σ → KOk kk σ → Inv σ η → RI σ → (∀ i, i < 2 * nl σ → Tm 0 σ 40 i) → ∃ τ θ, (∀ K, g_Md_one_66 K fuel (nI x) (nI l) σ = g_Md_one_144 K sn_fuel (nI x) 0 τ) ∧ f_Tr_runChangeoverTimers_2 11 fuel' (nI x) (nI (2 * l)) (Kap kk σ η) = some (none, Kap kk τ θ) ∧ Inv τ θ ∧ RI τ ∧ PE η θ ∧ TS σ τ ∧ FR0 σ τ ∧ ∀ i, i < 2 * nl σ → l ≤ i / 2 → ex σ i = x → Tm 1 τ 40 i
  | 0, fuel + 1, fuel' + 1, l, σ, η, hd, _, _, hj, hK, hI, hR, hT => by
    obtain ⟨⟨k1, k2, k3, k4, k5, k6, k7, k8, k9, k10, k11, k12, k13, k14, k15, k16, k17, k18, k19, k20, k21, k22⟩, kE, kF, kP, k4s⟩ := id hK
    have hP := hI.2.1.1
    have hn10 := hP.2.1
    have hjo : l = nl σ := by omega
    have h2 := two_l hP
    have o1 : (nI (nl σ) ≤ nI l) = True := eq_true (by rw [hjo]; exact nI_le (by omega) (by omega))
    have o2 : (nI (2 * nl σ) ≤ nI (2 * l)) = True := eq_true (by rw [hjo]; exact nI_le (by omega) (by omega))
    refine ⟨σ, η, fun K => ?_, ?_, hI, hR, PE.rf, TS.rf, FR0.rf, fun i hi hl _ => by omega⟩
    · simp only [g_Md_one_66, q_S, hP.1, o1, if_true]
    · simp only [f_Tr_runChangeoverTimers_2, x_gR, k11, if_true, rr_s11_0, x_gI, k3, rd_s3_0, h2, o2, r_V]
  | d + 1, fuel + 1, fuel' + 1 + 1, l, σ, η, hd, hf, hf', hj, hK, hI, hR, hT => by
    have hP := hI.2.1.1
    have hn10 := hP.2.1
    have hC := hI.2.2.2.2
    have hl : l < nl σ := by omega
    obtain ⟨p1, p2, p3, p4⟩ := hP.2.2 l hl
    have d0 : l < md_len 0 := by show _ < 10; omega
    have d1 : l < md_len 1 := by show _ < 10; omega
    have o1 : (nI (nl σ) ≤ nI l) = False := eq_false (nI_ge (by omega) (by omega))
    have exL : ex σ (2 * l) = lo σ l := by unfold ex; rw [if_pos (by omega)]; congr 1; omega
    have exH : ex σ (2 * l + 1) = hi σ l := by unfold ex; rw [if_neg (by omega)]; congr 1; omega
    have hlx : (σ.1 0 l = nI x) ↔ lo σ l = x := by rw [p1]; exact ⟨fun q => nI_inj (by omega) (by omega) q, fun q => by rw [q]⟩
    have hhx : (σ.1 1 l = nI x) ↔ hi σ l = x := by rw [p2]; exact ⟨fun q => nI_inj (by omega) (by omega) q, fun q => by rw [q]⟩
    -- the end of this link at x, if any, is looked at; then the next link
    have step : ∀ (τ θ : sn_FS), Inv τ θ → RI τ → PE η θ → TS σ τ → FR0 σ τ → (∀ K, g_Md_one_66 K (fuel + 1) (nI x) (nI l) σ = g_Md_one_66 K fuel (nI x) (nI (l + 1)) τ) → f_Tr_runChangeoverTimers_2 11 (fuel' + 1 + 1) (nI x) (nI (2 * l)) (Kap kk σ η) = f_Tr_runChangeoverTimers_2 11 fuel' (nI x) (nI (2 * l + 1 + 1)) (Kap kk τ θ) → (∀ i, i < 2 * nl σ → i / 2 = l → ex σ i = x → Tm 1 τ 40 i) → ∃ τ θ, (∀ K, g_Md_one_66 K (fuel + 1) (nI x) (nI l) σ = g_Md_one_144 K sn_fuel (nI x) 0 τ) ∧ f_Tr_runChangeoverTimers_2 11 (fuel' + 1 + 1) (nI x) (nI (2 * l)) (Kap kk σ η) = some (none, Kap kk τ θ) ∧ Inv τ θ ∧ RI τ ∧ PE η θ ∧ TS σ τ ∧ FR0 σ τ ∧ ∀ i, i < 2 * nl σ → l ≤ i / 2 → ex σ i = x → Tm 1 τ 40 i := by
      intro τ θ iI iR iE iT iF hg hfl hdn
      have hs := iF.sp
      obtain ⟨ω, ζ, b1, b2, b3, b4, b5, b6, b7, b8⟩ := tm_over hx d fuel fuel' (l + 1) τ θ (by rw [hs.nlE]; omega) (by omega) (by omega) (by rw [hs.nlE]; omega) (hK.sp hs) iI iR (fun i hi => (hT i (by rw [hs.nlE] at hi; exact hi)).ts iT hC (by decide) (by omega))
      refine ⟨ω, ζ, fun K => by rw [hg, b1], by rw [hfl]; exact b2, b3, b4, iE.tr b5, iT.tr b6, iF.tr b7, fun i hi hli hxi => ?_⟩
      by_cases c : i / 2 = l
      · exact (hdn i hi c hxi).ts b6 iI.2.2.2.2 (by decide) (by omega)
      · exact b8 i (by rw [hs.nlE]; exact hi) (by omega) (by rw [hs.exE]; exact hxi)
    -- with the end e
    have atE : ∀ e, e < 2 * nl σ → e / 2 = l → ex σ e = x → (e = 2 * l ∨ e = 2 * l + 1) → (∀ K, g_Md_one_66 K (fuel + 1) (nI x) (nI l) σ = g_Md_one_97 (g_Md_one_66 K fuel) (nI x) (nI l) σ) → ∃ τ θ, (∀ K, g_Md_one_66 K (fuel + 1) (nI x) (nI l) σ = g_Md_one_144 K sn_fuel (nI x) 0 τ) ∧ f_Tr_runChangeoverTimers_2 11 (fuel' + 1 + 1) (nI x) (nI (2 * l)) (Kap kk σ η) = some (none, Kap kk τ θ) ∧ Inv τ θ ∧ RI τ ∧ PE η θ ∧ TS σ τ ∧ FR0 σ τ ∧ ∀ i, i < 2 * nl σ → l ≤ i / 2 → ex σ i = x → Tm 1 τ 40 i := by
      intro e he hel hex hee hg66
      have hen := gl_endAt hP (l := l) (x := x) hl hx
      have hene : en σ l x = e := by rw [← hel, ← hex]; exact en_ex hP he
      rw [hene] at hen
      have d40 : e < md_len 40 := by show _ < 20; omega
      have only : ∀ i, i < 2 * nl σ → i / 2 = l → ex σ i = x → i = e := fun i hi hil hxi => by
        have : en σ (i / 2) (ex σ i) = i := en_ex hP hi
        rw [hil, hxi, hene] at this
        exact this.symm
      by_cases co : out σ 40 e
      · obtain ⟨τ, θ, a1, a2, a3, a4, a5, a6, a7, a8⟩ := sn_end hK hI hR he
        rw [hex, hel] at a1
        have hle : ¬ σ.1 40 e ≤ 0 := fun q => co.1 ((hT e he).le.mp q)
        have hs := a7.sp
        refine step τ θ a3 a4 a5 a6 a7 (fun K => ?_) ?_ (fun i hi hil hxi => by rw [only i hi hil hxi]; exact Tm.z a8)
        · rw [hg66]
          unfold g_Md_one_97
          rw [y_I_at hen, q_I_at d40, if_neg hle, y_I_at hen, q_I_at d40]
          show (if ¬ σ.1 40 e = σ.1 6 0 then (_ : sn_G) else _) σ = _
          rw [if_neg (fun z => z co.2), y_V_at a1]
          unfold g_Md_one_136
          rw [nI_1]
        · rcases hee with rfl | rfl
          · rw [fl_co_yes hK hI he (hT _ he) hex co a2]
            refine fl_co_no (hK.sp hs) a3 (by rw [hs.nlE]; omega) hx ((hT (2 * l + 1) (by omega)).ts a6 hC (by decide) (by omega)) (fun q => ?_)
            rw [hs.exE, exH] at q
            rw [exL] at hex
            omega
          · rw [fl_co_no hK hI (by omega) hx (hT (2 * l) (by omega)) (fun q => by rw [exL] at q; rw [exH] at hex; omega)]
            exact fl_co_yes hK hI he (hT _ he) hex co a2
      · refine step σ η hI hR PE.rf TS.rf FR0.rf (fun K => ?_) ?_ (fun i hi hil hxi => by rw [only i hi hil hxi]; exact (hT e he).st hC co)
        · rw [hg66]
          unfold g_Md_one_97
          rw [y_I_at hen, q_I_at d40]
          by_cases c0 : σ.1 40 e = 0
          · rw [if_pos ((hT e he).le.mpr c0)]
            unfold g_Md_one_136
            rw [nI_1]
          · rw [if_neg (fun q => c0 ((hT e he).le.mp q)), y_I_at hen, q_I_at d40]
            show (if ¬ σ.1 40 e = σ.1 6 0 then (_ : sn_G) else _) σ = _
            rw [if_pos (fun z => co ⟨c0, z⟩)]
            unfold g_Md_one_136
            rw [nI_1]
        · rw [fl_co_no hK hI (by omega) hx (hT (2 * l) (by omega)) (fun q => by
            rcases hee with rfl | rfl
            · exact co q.2
            · rw [exL] at q; rw [exH] at hex; omega)]
          exact fl_co_no hK hI (by omega) hx (hT (2 * l + 1) (by omega)) (fun q => by
            rcases hee with rfl | rfl
            · rw [exH] at q; rw [exL] at hex; omega
            · exact co q.2)
    by_cases cl : lo σ l = x
    · refine atE (2 * l) (by omega) (by omega) (by rw [exL]; exact cl) (Or.inl rfl) (fun K => ?_)
      simp only [g_Md_one_66, q_S, hP.1, o1, if_false, q_I_at d0, hlx, cl, if_true]
    · by_cases ch : hi σ l = x
      · refine atE (2 * l + 1) (by omega) (by omega) (by rw [exH]; exact ch) (Or.inr rfl) (fun K => ?_)
        simp only [g_Md_one_66, q_S, hP.1, o1, if_false, q_I_at d0, hlx, cl, q_I_at d1, hhx, ch, if_true]
      · refine step σ η hI hR PE.rf TS.rf FR0.rf (fun K => ?_) ?_ (fun i hi hil hxi => ?_)
        · simp only [g_Md_one_66, q_S, hP.1, o1, if_false, q_I_at d0, hlx, cl, q_I_at d1, hhx, ch, g_Md_one_136, nI_1]
        · rw [fl_co_no hK hI (by omega) hx (hT (2 * l) (by omega)) (fun q => cl (by rw [exL] at q; exact q.1))]
          exact fl_co_no hK hI (by omega) hx (hT (2 * l + 1) (by omega)) (fun q => ch (by rw [exH] at q; exact q.1))
        · rcases (by omega : i = 2 * l ∨ i = 2 * l + 1) with rfl | rfl
          · rw [exL] at hxi; exact absurd hxi cl
          · rw [exH] at hxi; exact absurd hxi ch
