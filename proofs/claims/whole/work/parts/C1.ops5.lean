/-! LAYER 2: dial, answer, hang, block -/
variable {kk : Nat → Nat} {σ η : sn_FS}
theorem GA.ct {τ θ : sn_FS} (hA : GA σ η) (hG : GI τ θ) (hT : TS σ τ) (hF : FR1 σ τ) : GA τ θ := by
  obtain ⟨⟨h1, h2, hC, hP⟩, hFr, hTm, h56⟩ := hA
  refine ⟨hG, hFr.f1 hF, hTm.ts hT h1.2.2.2.2 (by decide), ?_⟩
  rw [hT.1, hF.1 5 0 (by decide)]; exact h56
theorem fl_sp0 (hK : KOk kk σ) (hP : PQ η []) : f_Sn_sendPosted 1 (Kap kk σ η) = some (none, Kap kk σ η) := by
  have hl0 : η.1 20 2 = nI 0 := by obtain ⟨hd, h1, h2, h3, h4, -⟩ := hP; exact h4
  obtain ⟨⟨k1, k2, k3, k4, k5, k6, k7, k8, k9, k10, k11, k12, k13, k14, k15, k16, k17, k18, k19, k20, k21, k22⟩, kE, kF, kP, k4s⟩ := id hK
  have e : (nI 0 ≤ (0 : Int32)) = True := eq_true (by decide)
  obtain ⟨fu, hfu⟩ : ∃ fu, sn_fuel = fu + 1 := ⟨1048575, rfl⟩
  simp only [f_Sn_sendPosted, x_gR, k1, if_true, rr_s1_3, k17, rr_s17_4, x_gI, k20, rd_s20_2, hl0, hfu, f_Sn_sendPosted_11, e, r_V]
theorem p_cases (hK : KOk kk σ) (x : Int32) : (∃ v, numOk v ∧ x = nI v ∧ g_Md_personAt x σ = some (some (.int (nI (4 * (v / 10) + v % 10))), σ)) ∨ (g_Md_personAt x σ = some (some (.int (-1)), σ) ∧ ∀ η, f_Sw_subscriberAt 17 x (Kap kk σ η) = some (some (va_rf none), Kap kk σ η)) := by
  by_cases c0 : x < 0
  · right
    refine ⟨?_, fun η => ?_⟩
    · unfold g_Md_personAt; rw [if_pos c0]; rfl
    · unfold f_Sw_subscriberAt; rw [if_pos c0]; rfl
  · by_cases c6 : (60 : Int32) ≤ x
    · right
      refine ⟨?_, fun η => ?_⟩
      · unfold g_Md_personAt; rw [if_neg c0, if_pos c6]; rfl
      · unfold f_Sw_subscriberAt; rw [if_neg c0, if_pos c6]; rfl
    · obtain ⟨v, hv, rfl⟩ := nat_of c0 (b := 60) (by omega) (le_of (b := 60) c6)
      by_cases c4 : v % 10 < 4
      · left
        refine ⟨v, ⟨hv, c4⟩, rfl, ?_⟩
        have h4 : ¬ (4 : Int32) ≤ nI (v % 10) := fun q => by
          have := (nI_leI (a := 4) (b := v % 10) (by omega) (by omega)).mp q
          omega
        unfold g_Md_personAt g_Md_personAt_33
        rw [if_neg c0, if_neg c6, t1m v hv, if_neg h4, t10 v hv]
        have : (4 : Int32) * nI (v / 10) = nI (4 * (v / 10)) := pk_mul 4 _
        rw [this, nI_add]; rfl
      · right
        have h4 : (4 : Int32) ≤ nI (v % 10) := (nI_leI (a := 4) (b := v % 10) (by omega) (by omega)).mpr (by omega)
        refine ⟨?_, fun η => ?_⟩
        · unfold g_Md_personAt; rw [if_neg c0, if_neg c6, t1m v hv, if_pos h4]; rfl
        · unfold f_Sw_subscriberAt; rw [if_neg c0, if_neg c6, t1m v hv, if_pos h4]; rfl
theorem P1.st61 {s v : Nat} {τ : sn_FS} (hv : v ≤ 5) (h1 : τ.1 61 s = nI v) (h2 : v = 0 ∨ v = 5 → τ.1 62 s = -1) : P1 τ s := by
  refine ⟨⟨v, hv, h1⟩, fun q => h2 ?_⟩
  rw [h1] at q
  rcases q with q | q
  · left; exact nI_inj (a := v) (b := 0) (by omega) (by omega) q
  · right; exact nI_inj (a := v) (b := 5) (by omega) (by omega) q
theorem CI.c61 (hI : CI σ) {s v : Nat} (hv : v ≤ 5) (h2 : v = 0 ∨ v = 5 → σ.1 62 s = -1) : CI (sI σ 61 s (nI v)) := by
  have hcf : CF σ (sI σ 61 s (nI v)) := CF.rf.sI (by decide)
  refine ⟨hI.1.mk' hcf (fun g => by unfold lgv; rw [sI_ne (by decide), sI_ne (by decide)]), fun c hc => (hI.2.1 c hc).mk' hcf (fun k _ _ _ => sI_ne (by omega)) (Or.inl (sI_ne (by decide))), fun p hp => ?_⟩
  by_cases e : p = s
  · subst e
    exact P1.st61 hv sI_same (fun q => by rw [sI_ne (by decide)]; exact h2 q)
  · exact (hI.2.2 p hp).mk' (sI_nk e) (Or.inl (sI_ne (by decide)))
theorem GI.cf {τ : sn_FS} (hG : GI σ η) (hcf : CF σ τ) (hC : CI τ) : GI τ η := ⟨hcf.inv HE.rf hG.1, hG.2.1.eq (fun k i hk => hcf.1 k i (by omega)), hC, hG.2.2.2⟩
theorem leg_s (hI : CI σ) {s : Nat} (hs : s < 24) : σ.1 62 s = -1 ∨ ∃ o, VL σ o ∧ σ.1 62 s = nI o := by
  rcases hI.1 s (Or.inl hs) with q | ⟨o, o1, o2, o3, o4, o5⟩
  · rw [lgv_62 hs] at q; exact Or.inl q
  · rw [lgv_62 hs] at o4; exact Or.inr ⟨o, o1, o4⟩
theorem op_dial (hK : KOk kk σ) (hA : GA σ η) (x1 x2 : Int32) : Op kk (g_Md_dial x1 x2) (f_Sn_dial 1 x1 x2) σ η := by
  have hKo := hK
  obtain ⟨⟨k1, k2, k3, k4, k5, k6, k7, k8, k9, k10, k11, k12, k13, k14, k15, k16, k17, k18, k19, k20, k21, k22⟩, kE, kF, kP, k4s⟩ := id hK
  have zz : ∀ (v : Int32) (κ : sn_Mem), v = 0 ∨ v = 1 → r_Z v κ = some (some (.int v), κ) := fun v κ h => by simp [r_Z, h]
  have zg : ∀ (v : Int32) (τ : sn_FS), v = 0 ∨ v = 1 → z_Z v τ = some (some (.int v), τ) := fun v κ h => by simp [z_Z, h]
  have hPQ := hA.1.2.2.2
  have hCI := hA.1.2.2.1
  have hno : g_Md_dial x1 x2 σ = some (some (.int 0), σ) → f_Sw_call 17 x1 x2 (Kap kk σ η) = some (some (.int 0), Kap kk σ η) → Op kk (g_Md_dial x1 x2) (f_Sn_dial 1 x1 x2) σ η := fun a b => ⟨0, σ, η, a, by
    simp only [f_Sn_dial, x_gR, k1, if_true, rr_s1_3, x_nn, k17, x_cI b, x_cV (fl_sp0 hKo hPQ), zz 0 _ (Or.inl rfl)], hA, SP.rf, by omega⟩
  rcases p_cases (kk := kk) hKo x1 with ⟨v, hv, rfl, hg⟩ | ⟨hg, hf⟩
  · obtain ⟨s, es⟩ : ∃ s, s = 4 * (v / 10) + v % 10 := ⟨_, rfl⟩
    have hv2 := hv
    unfold numOk at hv2
    have hs : s < 24 := by omega
    have hsub := fl_subAt (η := η) hKo hv
    rw [← es] at hg hsub
    have hm1 : ¬ nI s = -1 := nI_m1 (by omega)
    have q1 : (some (aP s) = none) = False := by simp
    have d61 : s < md_len 61 := hs
    have hkp := kP s hs
    rcases p_cases (kk := kk) hKo x2 with ⟨w, hw, rfl, hg2⟩ | ⟨hg2, hf2⟩
    · have hsub2 := fl_subAt (η := η) hKo hw
      have hw2 := hw
      unfold numOk at hw2
      have hm2 : ¬ nI (4 * (w / 10) + w % 10) = -1 := nI_m1 (by omega)
      have q2 : (some (aP (4 * (w / 10) + w % 10)) = none) = False := by simp
      by_cases c0 : σ.1 61 s = 0
      · by_cases ce : nI v = nI w
        · refine hno ?_ ?_
          · unfold g_Md_dial g_Md_dial_32
            rw [y_I_at hg, if_neg hm1, q_I_at d61, if_neg (fun q => q c0), y_I_at hg2, if_neg hm2, if_neg (fun q => q ce)]; exact zg _ _ (Or.inl rfl)
          · simp only [f_Sw_call, x_nn, k17, if_true, x_cR hsub, q1, if_false, x_cR hsub2, q2, not_false_eq_true, x_gI, hkp, rd_P3, c0, not_true_eq_false, eq_true ce, f_Sw_call_32, zz 0 _ (Or.inl rfl)]
        · -- it calls
          have h62 : σ.1 62 s = -1 := (hCI.2.2 s hs).2 (Or.inl c0)
          have hcf : CF σ (sI σ 61 s 1) := CF.rf.sI (by decide)
          have hC1 : CI (sI σ 61 s 1) := hCI.c61 (v := 1) (by decide) (fun q => by omega)
          have hG1 := hA.1.cf hcf hC1
          have hK1 := hKo.sp hcf.sp
          have haL : aL s = aP s := by unfold aL; rw [if_neg (by omega)]
          have hxg : xg s = v / 10 := by unfold xg; rw [if_neg (by omega)]; omega
          have s61 : (sI σ 61 s 1).1 61 s = 1 := sI_same
          obtain ⟨σ', new, hct, -⟩ := ct_conn (hG1.cb hK1) hC1 (g := s) (to := w) (Or.inl hs) (by rw [lgv_62 hs, sI_ne (by decide)]; exact h62) ⟨fun _ => by rw [s61]; decide, fun q => by omega⟩ hw
          rw [hxg, haL] at hct
          obtain ⟨θ1, θ, b1, b2, b3, b4, b5, b6, -⟩ := ct_fin hK1 hG1 hct (by decide)
          have hts : TS σ (Rt new σ') := (CF_ts hcf (fun i => ⟨sI_ne (by decide), sI_ne (by decide)⟩)).tr b5
          refine ⟨1, _, θ, ?_, ?_, hA.ct b4 hts (hcf.f1.tr b6), (hcf.f1.tr b6).sp, ?_⟩
          · unfold g_Md_dial g_Md_dial_32
            rw [y_I_at hg, if_neg hm1, q_I_at d61, if_neg (fun q => q c0), y_I_at hg2, if_neg hm2, if_pos ce, w_I_at d61, t10 v hv2.1, y_V_at b1]; exact zg _ _ (Or.inr rfl)
          · have hcall : f_Sw_call 17 (nI v) (nI w) (Kap kk σ η) = some (some (.int 1), Kap kk σ' θ1) := by
              simp only [f_Sw_call, x_nn, k17, if_true, x_cR hsub, q1, if_false, x_cR hsub2, q2, not_false_eq_true, x_gI, hkp, rd_P3, c0, not_true_eq_false, eq_false ce, x_pI, wr_P3, x_cV b2, zz 1 _ (Or.inr rfl)]
            simp only [f_Sn_dial, x_gR, k1, if_true, rr_s1_3, x_nn, k17, x_cI hcall, x_cV b3, zz 1 _ (Or.inr rfl)]
          · have : cl (Rt new σ') 6 0 = cl σ 6 0 := by unfold cl; rw [hts.1]
            omega
      · refine hno ?_ ?_
        · unfold g_Md_dial g_Md_dial_32
          rw [y_I_at hg, if_neg hm1, q_I_at d61, if_pos c0]; exact zg _ _ (Or.inl rfl)
        · simp only [f_Sw_call, x_nn, k17, if_true, x_cR hsub, q1, if_false, x_cR hsub2, q2, not_false_eq_true, x_gI, hkp, rd_P3, eq_false c0, f_Sw_call_32, zz 0 _ (Or.inl rfl)]
    · refine hno ?_ ?_
      · unfold g_Md_dial g_Md_dial_32
        rw [y_I_at hg, if_neg hm1, q_I_at d61]
        by_cases c0 : σ.1 61 s = 0
        · rw [if_neg (fun q => q c0), y_I_at hg2, if_pos rfl]; exact zg _ _ (Or.inl rfl)
        · rw [if_pos c0]; exact zg _ _ (Or.inl rfl)
      · simp only [f_Sw_call, x_nn, k17, if_true, x_cR hsub, q1, if_false, x_cR (hf2 η), not_true_eq_false, f_Sw_call_18, zz 0 _ (Or.inl rfl)]
  · refine hno ?_ ?_
    · unfold g_Md_dial g_Md_dial_32
      rw [y_I_at hg, if_pos rfl]; exact zg _ _ (Or.inl rfl)
    · simp only [f_Sw_call, x_nn, k17, if_true, x_cR (hf η), f_Sw_call_18, zz 0 _ (Or.inl rfl)]
theorem op_answer (hK : KOk kk σ) (hA : GA σ η) (x1 : Int32) : Op kk (g_Md_answer x1) (f_Sn_answer 1 x1) σ η := by
  have hKo := hK
  obtain ⟨⟨k1, k2, k3, k4, k5, k6, k7, k8, k9, k10, k11, k12, k13, k14, k15, k16, k17, k18, k19, k20, k21, k22⟩, kE, kF, kP, k4s⟩ := id hK
  have zz : ∀ (v : Int32) (κ : sn_Mem), v = 0 ∨ v = 1 → r_Z v κ = some (some (.int v), κ) := fun v κ h => by simp [r_Z, h]
  have zg : ∀ (v : Int32) (τ : sn_FS), v = 0 ∨ v = 1 → z_Z v τ = some (some (.int v), τ) := fun v κ h => by simp [z_Z, h]
  have hPQ := hA.1.2.2.2
  have hCI := hA.1.2.2.1
  have hno : g_Md_answer x1 σ = some (some (.int 0), σ) → f_Sw_pickUp 17 x1 (Kap kk σ η) = some (some (.int 0), Kap kk σ η) → Op kk (g_Md_answer x1) (f_Sn_answer 1 x1) σ η := fun a b => ⟨0, σ, η, a, by
    simp only [f_Sn_answer, x_gR, k1, if_true, rr_s1_3, x_nn, k17, x_cI b, x_cV (fl_sp0 hKo hPQ), zz 0 _ (Or.inl rfl)], hA, SP.rf, by omega⟩
  rcases p_cases (kk := kk) hKo x1 with ⟨v, hv, rfl, hg⟩ | ⟨hg, hf⟩
  · obtain ⟨s, es⟩ : ∃ s, s = 4 * (v / 10) + v % 10 := ⟨_, rfl⟩
    have hv2 := hv
    unfold numOk at hv2
    have hs : s < 24 := by omega
    have hsub := fl_subAt (η := η) hKo hv
    rw [← es] at hg hsub
    have hm1 : ¬ nI s = -1 := nI_m1 (by omega)
    have q1 : (some (aP s) = none) = False := by simp
    have d61 : s < md_len 61 := hs
    have d62 : s < md_len 62 := hs
    have hkp := kP s hs
    by_cases c3 : σ.1 61 s = 3
    · have hcf : CF σ (sI σ 61 s 4) := CF.rf.sI (by decide)
      have hC1 : CI (sI σ 61 s 4) := hCI.c61 (v := 4) (by decide) (fun q => by omega)
      have hG1 := hA.1.cf hcf hC1
      have hK1 := hKo.sp hcf.sp
      have hv1 : σ.1 62 s = -1 ∨ ∃ o, VL (sI σ 61 s 4) o ∧ σ.1 62 s = nI o := by rw [hcf.vl]; exact leg_s hCI hs
      obtain ⟨σ', new, hct⟩ := ct_back' (hG1.cb hK1) hC1 hv1 (kd := 9) (Or.inr rfl)
      have hct : Ct kk (g_Md_back (σ.1 62 s) 9) (f_Sw_goBack 17 (k_leg (σ.1 62 s)) 9) none 1 (sI σ 61 s 4) σ' new := hct
      obtain ⟨θ1, θ, b1, b2, b3, b4, b5, b6, -⟩ := ct_fin hK1 hG1 hct (by decide)
      have hts : TS σ (Rt new σ') := (CF_ts hcf (fun i => ⟨sI_ne (by decide), sI_ne (by decide)⟩)).tr b5
      refine ⟨1, _, θ, ?_, ?_, hA.ct b4 hts (hcf.f1.tr b6), (hcf.f1.tr b6).sp, ?_⟩
      · unfold g_Md_answer g_Md_answer_20
        rw [y_I_at hg, if_neg hm1, q_I_at d61, if_pos c3, w_I_at d61, q_I_at d62, sI_ne (by decide), y_V_at b1]; exact zg _ _ (Or.inr rfl)
      · have hcall : f_Sw_pickUp 17 (nI v) (Kap kk σ η) = some (some (.int 1), Kap kk σ' θ1) := by
          simp only [f_Sw_pickUp, x_nn, k17, if_true, x_cR hsub, q1, if_false, x_gI, hkp, rd_P3, eq_true c3, x_pI, wr_P3, x_gR, rr_P4, sn_upE, Nat.reduceEqDiff, reduceIte, x_cV b2, zz 1 _ (Or.inr rfl)]
        simp only [f_Sn_answer, x_gR, k1, if_true, rr_s1_3, x_nn, k17, x_cI hcall, x_cV b3, zz 1 _ (Or.inr rfl)]
      · have : cl (Rt new σ') 6 0 = cl σ 6 0 := by unfold cl; rw [hts.1]
        omega
    · refine hno ?_ ?_
      · unfold g_Md_answer g_Md_answer_20
        rw [y_I_at hg, if_neg hm1, q_I_at d61, if_neg c3]; exact zg _ _ (Or.inl rfl)
      · simp only [f_Sw_pickUp, x_nn, k17, if_true, x_cR hsub, q1, if_false, x_gI, hkp, rd_P3, eq_false c3, f_Sw_pickUp_18, zz 0 _ (Or.inl rfl)]
  · refine hno ?_ ?_
    · unfold g_Md_answer g_Md_answer_20
      rw [y_I_at hg, if_pos rfl]; exact zg _ _ (Or.inl rfl)
    · simp only [f_Sw_pickUp, x_nn, k17, if_true, x_cR (hf η), f_Sw_pickUp_18, zz 0 _ (Or.inl rfl)]
theorem op_hang (hK : KOk kk σ) (hA : GA σ η) (x1 : Int32) : Op kk (g_Md_hang x1) (f_Sn_hang 1 x1) σ η := by
  have hKo := hK
  obtain ⟨⟨k1, k2, k3, k4, k5, k6, k7, k8, k9, k10, k11, k12, k13, k14, k15, k16, k17, k18, k19, k20, k21, k22⟩, kE, kF, kP, k4s⟩ := id hK
  have zz : ∀ (v : Int32) (κ : sn_Mem), v = 0 ∨ v = 1 → r_Z v κ = some (some (.int v), κ) := fun v κ h => by simp [r_Z, h]
  have zg : ∀ (v : Int32) (τ : sn_FS), v = 0 ∨ v = 1 → z_Z v τ = some (some (.int v), τ) := fun v κ h => by simp [z_Z, h]
  have hPQ := hA.1.2.2.2
  have hCI := hA.1.2.2.1
  have hno : g_Md_hang x1 σ = some (some (.int 0), σ) → f_Sw_putDown 17 x1 (Kap kk σ η) = some (some (.int 0), Kap kk σ η) → Op kk (g_Md_hang x1) (f_Sn_hang 1 x1) σ η := fun a b => ⟨0, σ, η, a, by
    simp only [f_Sn_hang, x_gR, k1, if_true, rr_s1_3, x_nn, k17, x_cI b, x_cV (fl_sp0 hKo hPQ), zz 0 _ (Or.inl rfl)], hA, SP.rf, by omega⟩
  rcases p_cases (kk := kk) hKo x1 with ⟨v, hv, rfl, hg⟩ | ⟨hg, hf⟩
  · obtain ⟨s, es⟩ : ∃ s, s = 4 * (v / 10) + v % 10 := ⟨_, rfl⟩
    have hv2 := hv
    unfold numOk at hv2
    have hs : s < 24 := by omega
    have hsub := fl_subAt (η := η) hKo hv
    rw [← es] at hg hsub
    have hm1 : ¬ nI s = -1 := nI_m1 (by omega)
    have q1 : (some (aP s) = none) = False := by simp
    have d61 : s < md_len 61 := hs
    have d62 : s < md_len 62 := hs
    have hkp := kP s hs
    by_cases c0 : σ.1 61 s = 0
    · refine hno ?_ ?_
      · unfold g_Md_hang g_Md_hang_29
        rw [y_I_at hg, if_neg hm1, q_I_at d61, if_pos c0]; exact zg _ _ (Or.inl rfl)
      · simp only [f_Sw_putDown, x_nn, k17, if_true, x_cR hsub, q1, if_false, x_gI, hkp, rd_P3, eq_true c0, f_Sw_putDown_25, zz 0 _ (Or.inl rfl)]
    · by_cases c3 : σ.1 61 s = 3
      · refine hno ?_ ?_
        · unfold g_Md_hang g_Md_hang_29
          rw [y_I_at hg, if_neg hm1, q_I_at d61, if_neg c0, q_I_at d61, if_neg (fun q => q c3)]; exact zg _ _ (Or.inl rfl)
        · simp only [f_Sw_putDown, x_nn, k17, if_true, x_cR hsub, q1, if_false, x_gI, hkp, rd_P3, eq_false c0, eq_true c3, not_true_eq_false, f_Sw_putDown_25, zz 0 _ (Or.inl rfl)]
      · -- it hangs up
        have hVs : VL σ s := Or.inl hs
        have haL : aL s = aP s := by unfold aL; rw [if_neg (by omega)]
        have hcf0 : CF σ (sI σ 61 s 0) := CF.rf.sI (by decide)
        have hJ0 : JOk (sI σ 61 s 0) := hCI.1.mk' hcf0 (fun g => by unfold lgv; rw [sI_ne (by decide), sI_ne (by decide)])
        have hps : S_part s (sI σ 61 s 0) = sI (S_part s σ) 61 s 0 := part_sI (by decide)
        have hcfp := S_part_CF (σ := σ) (g := s)
        have hcf : CF σ (sI (S_part s σ) 61 s 0) := hcfp.sI (by decide)
        have h62p : (S_part s σ).1 62 s = -1 := by rw [← lgv_62 hs, S_part_lg hCI.1 hVs hVs.vn, if_pos rfl]
        have hC1 : CI (sI (S_part s σ) 61 s 0) := (hCI.part hVs).c61 (v := 0) (by decide) (fun _ => h62p)
        have hG1 := hA.1.cf hcf hC1
        have hK1 := hKo.sp hcf.sp
        have hv1 : σ.1 62 s = -1 ∨ ∃ o, VL (sI (S_part s σ) 61 s 0) o ∧ σ.1 62 s = nI o := by rw [hcf.vl]; exact leg_s hCI hs
        obtain ⟨σ', new, hct, -⟩ := ct_letGo' (hG1.cb hK1) hC1 hv1
        obtain ⟨θ1, θ, b1, b2, b3, b4, b5, b6, -⟩ := ct_fin hK1 hG1 hct (by decide)
        have hts : TS σ (Rt new σ') := (CF_ts hcf (fun i => ⟨by rw [sI_ne (by decide), S_part_I (by decide)], by rw [sI_ne (by decide), S_part_I (by decide)]⟩)).tr b5
        refine ⟨1, _, θ, ?_, ?_, hA.ct b4 hts (hcf.f1.tr b6), (hcf.f1.tr b6).sp, ?_⟩
        · unfold g_Md_hang g_Md_hang_29
          rw [y_I_at hg, if_neg hm1, q_I_at d61, if_neg c0, q_I_at d61, if_pos c3, q_I_at d62, q_I_at d61]
          by_cases c5 : σ.1 61 s = 5
          · have h62 : σ.1 62 s = -1 := (hCI.2.2 s hs).2 (Or.inr c5)
            have hid : sI (S_part s σ) 61 s 0 = sI σ 61 s 0 := by rw [part_id (by rw [lgv_62 hs]; exact h62)]
            rw [if_neg (fun q => q c5)]
            unfold g_Md_hang_53 g_Md_hang_77
            rw [w_I_at d61, if_pos (by decide)]
            rw [h62] at b1
            have b1' : g_Md_letGo (-1) (sI (S_part s σ) 61 s 0) = some (none, sI (S_part s σ) 61 s 0) := by unfold g_Md_letGo; rw [if_neg (fun q => q rfl)]; rfl
            rw [b1'] at b1
            have e := (Prod.mk.inj (Option.some.inj b1)).2
            rw [← e, hid]; exact zg _ _ (Or.inr rfl)
          · rw [if_pos c5]
            unfold g_Md_hang_53 g_Md_hang_77
            have hgp := gl_part hJ0 (g := s) (by rw [hcf0.vl]; exact hVs) []
            have hgp : g_Md_part (nI s) (sI σ 61 s 0) = some (none, S_part s (sI σ 61 s 0)) := hgp
            rw [w_I_at d61, if_neg (fun q => q rfl), y_V_at hgp, hps, y_V_at b1]; exact zg _ _ (Or.inr rfl)
        · have hp := fl_part (kk := kk) (η := η) (hKo.sp hcf0.sp) hJ0 (g := s) (by rw [hcf0.vl]; exact hVs)
          rw [haL, hps] at hp
          have hlg : lgv (sI σ 61 s 0) s = σ.1 62 s := by rw [lgv_62 hs, sI_ne (by decide)]
          rw [hlg] at hp
          have hcall : f_Sw_putDown 17 (nI v) (Kap kk σ η) = some (some (.int 1), Kap kk σ' θ1) := by
            simp only [f_Sw_putDown, x_nn, k17, if_true, x_cR hsub, q1, if_false, x_gI, hkp, rd_P3, eq_false c0, eq_false c3, not_false_eq_true, x_pI, wr_P3, x_cR hp, x_cV b2, zz 1 _ (Or.inr rfl)]
          simp only [f_Sn_hang, x_gR, k1, if_true, rr_s1_3, x_nn, k17, x_cI hcall, x_cV b3, zz 1 _ (Or.inr rfl)]
        · have : cl (Rt new σ') 6 0 = cl σ 6 0 := by unfold cl; rw [hts.1]
          omega
  · refine hno ?_ ?_
    · unfold g_Md_hang g_Md_hang_29
      rw [y_I_at hg, if_pos rfl]; exact zg _ _ (Or.inl rfl)
    · simp only [f_Sw_putDown, x_nn, k17, if_true, x_cR (hf η), f_Sw_putDown_25, zz 0 _ (Or.inl rfl)]
theorem op_block (hK : KOk kk σ) (hA : GA σ η) (x1 x2 x3 : Int32) {x4 : Int32} (hx4 : x4 = 0 ∨ x4 = 1) : Op kk (g_Md_block x1 x2 x3 x4) (f_Sn_block 1 x1 x2 x3 x4) σ η := by
  have hKo := hK
  obtain ⟨⟨k1, k2, k3, k4, k5, k6, k7, k8, k9, k10, k11, k12, k13, k14, k15, k16, k17, k18, k19, k20, k21, k22⟩, kE, kF, kP, k4s⟩ := id hK
  have zz : ∀ (v : Int32) (κ : sn_Mem), v = 0 ∨ v = 1 → r_Z v κ = some (some (.int v), κ) := fun v κ h => by simp [r_Z, h]
  have zg : ∀ (v : Int32) (τ : sn_FS), v = 0 ∨ v = 1 → z_Z v τ = some (some (.int v), τ) := fun v κ h => by simp [z_Z, h]
  have z10 : ((1 : Int32) = 0) = False := eq_false (by decide)
  have hPQ := hA.1.2.2.2
  have hCI := hA.1.2.2.1
  have hP := hA.1.1.2.1.1
  have hno : g_Md_block x1 x2 x3 x4 σ = some (some (.int 0), σ) → f_Sw_setBlocked 17 x1 x2 x3 x4 (Kap kk σ η) = some (some (.int 0), Kap kk σ η) → Op kk (g_Md_block x1 x2 x3 x4) (f_Sn_block 1 x1 x2 x3 x4) σ η := fun a b => ⟨0, σ, η, a, by
    simp only [f_Sn_block, x_gR, k1, if_true, rr_s1_3, x_nn, k17, x_cI b, x_cV (fl_sp0 hKo hPQ), zz 0 _ (Or.inl rfl)], hA, SP.rf, by omega⟩
  rcases flow_cases (kk := kk) hKo hP x1 x2 x3 with ⟨x, n, s, hx, hn, hs, rfl, rfl, rfl, hnb, hg⟩ | ⟨hg, hf⟩
  · obtain ⟨f1, f2, f3, f4⟩ := hKo.flow hx hn hs hnb
    have hfl := fl_cirAt (η := η) hKo hx hn hs
    have hfr : cR σ x n s = some (aC (fl x n s)) := by unfold cR; rw [if_pos hnb]
    rw [hfr] at hfl
    have hc := fl_lt hx hn hs
    obtain ⟨g1, g2, g3⟩ := fl_x (x := x) hn hs
    have hfa := gl_flowAt σ x n s
    obtain ⟨c, ec⟩ : ∃ c, c = fl x n s := ⟨_, rfl⟩
    have hfa' : ∀ τ, g_Md_flowAt (nI x) (nI n) (nI s) τ = some (some (.int (nI c)), τ) := fun τ => by rw [ec]; exact gl_flowAt τ x n s
    rw [← ec] at f1 f2 f3 f4 hfl hc g1 g2 g3
    have hnbc : nb σ (c / 24) (c % 24 / 4) = true := by rw [g1, g2]; exact hnb
    have q1 : (some (aC c) = none) = False := by simp
    have d55 : c < md_len 55 := hc
    have hC1 := hCI.2.1 c hc
    obtain ⟨m, hm64, em⟩ := hC1.2.1
    by_cases cs : σ.1 55 c = x4
    · refine hno ?_ ?_
      · unfold g_Md_block g_Md_block_27
        rw [y_I_at hg, if_neg (by decide), y_I_at (hfa' _), q_I_at d55, if_neg (fun q => q cs)]; exact zg _ _ (Or.inl rfl)
      · simp only [f_Sw_setBlocked, x_nn, k17, if_true, x_cR hfl, q1, if_false, x_gI, f4, rd_C7, eq_true cs, not_true_eq_false, f_Sw_setBlocked_24, zz 0 _ (Or.inl rfl)]
    · have hcf : CF σ (sI σ 55 c x4) := CF.rf.sI (by decide)
      have hI1 : CI (sI σ 55 c x4) := by
        refine CI.one (c := c) hCI hcf (fun k i _ _ h => ?_) (fun _ => ?_)
        · rcases h with h | h
          · exact sI_nk h
          · exact sI_ne (by omega)
        · obtain ⟨a1, a2, a3, a4, a5, a6, a7, a8, a9, a10, a11⟩ := hC1
          have t55 : (sI σ 55 c x4).1 55 c = x4 := sI_same
          unfold C1
          rw [t55, sI_ne (k' := 52) (by decide), sI_ne (k' := 53) (by decide), sI_ne (k' := 54) (by decide), sI_ne (k' := 56) (by decide), sI_ne (k' := 57) (by decide), sI_ne (k' := 58) (by decide), sI_ne (k' := 59) (by decide), sI_ne (k' := 60) (by decide), hcf.sp.nbE]
          exact ⟨a1, a2, a3, a4, a5, a6, a7, a8, hx4, a10, fun q => by rw [hnbc] at q; cases q⟩
      have hG1 := hA.1.cf hcf hI1
      have hK1 := hKo.sp hcf.sp
      obtain ⟨kd, hkd⟩ : ∃ kd, kd = if x4 = 0 then 14 else 13 := ⟨_, rfl⟩
      have hk2 : 7 < kd ∧ kd ≤ 14 := by rw [hkd]; split <;> omega
      have em1 : (sI σ 55 c x4).1 59 c = nI m := by rw [sI_ne (by decide)]; exact em
      have hct0 := ct_says (hG1.cb hK1) hI1 (kd := kd) (b := 0) hk2.1 hk2.2 hc (by rw [hcf.sp.nbE]; exact hnbc) hm64 (by decide)
      have hct : Ct kk (g_Md_say (nI c) (nI kd) 0) (f_Sw_post 17 (some (aC c)) (nI kd) (nI m) 0) none 1 (sI σ 55 c x4) (sI σ 55 c x4) [mS kd c m 0] := by
        refine hct0.pre CF.rf TS.rf (fun ms ρ h => ?_) (fun η κ h => h)
        have hs := gl_say (kd := kd) (b := 0) (hG1.cb hK1).2.1 (hG1.cb hK1).2.2 (by omega) hc hm64 em1 (by decide) ms
        have hs2 := gl_says (kd := kd) (n := m) (b := 0) (hG1.cb hK1).2.1 (hG1.cb hK1).2.2 (by omega) hc hm64 (by decide) ms
        have e := (Prod.mk.inj (Option.some.inj (hs2.symm.trans h))).2
        rw [← e]; exact hs
      obtain ⟨θ1, θ, b1, b2, b3, b4, b5, b6, -⟩ := ct_fin hK1 hG1 hct (by decide)
      have hts : TS σ (Rt [mS kd c m 0] (sI σ 55 c x4)) := (CF_ts hcf (fun i => ⟨sI_ne (by decide), sI_ne (by decide)⟩)).tr b5
      refine ⟨1, _, θ, ?_, ?_, hA.ct b4 hts (hcf.f1.tr b6), (hcf.f1.tr b6).sp, ?_⟩
      · unfold g_Md_block g_Md_block_27
        rw [y_I_at hg, if_neg (by decide), y_I_at (hfa' _), q_I_at d55, if_pos cs, y_I_at (hfa' _), w_Z_at d55 hx4, y_I_at (hfa' _)]
        rcases hx4 with rfl | rfl
        · have hkd : kd = 14 := hkd
          rw [hkd] at b1 ⊢
          have b1 : g_Md_say (nI c) 14 0 _ = _ := b1
          rw [if_pos rfl]
          unfold g_Md_block_63
          rw [y_V_at b1]; exact zg _ _ (Or.inr rfl)
        · have hkd : kd = 13 := hkd
          rw [hkd] at b1 ⊢
          have b1 : g_Md_say (nI c) 13 0 _ = _ := b1
          rw [if_neg (by decide)]
          unfold g_Md_block_63
          rw [y_V_at b1]; exact zg _ _ (Or.inr rfl)
      · have hsb : f_Sw_setBlocked 17 (nI x) (nI n) (nI s) x4 (Kap kk σ η) = some (some (.int 1), Kap kk (sI σ 55 c x4) θ1) := by
          rcases hx4 with rfl | rfl
          · have hkd : kd = 14 := hkd
            rw [hkd] at b2
            have b2 : f_Sw_post 17 (some (aC c)) 14 (nI m) 0 (Kap kk (sI σ 55 c 0) η) = _ := b2
            have o : ((0 : Int32) = 0 ∨ (0 : Int32) = 1) = True := eq_true (Or.inl rfl)
            simp only [f_Sw_setBlocked, x_nn, k17, if_true, x_cR hfl, q1, if_false, x_gI, f4, rd_C7, eq_false cs, not_false_eq_true, x_pZ, true_or, or_true, and_self, wr_C7, f_Sw_setBlocked_48, rd_C10, sn_upE, Nat.reduceEqDiff, reduceIte, em, x_cV b2, zz 1 _ (Or.inr rfl)]
          · have hkd : kd = 13 := hkd
            rw [hkd] at b2
            have b2 : f_Sw_post 17 (some (aC c)) 13 (nI m) 0 (Kap kk (sI σ 55 c 1) η) = _ := b2
            have o : ((1 : Int32) = 0 ∨ (1 : Int32) = 1) = True := eq_true (Or.inr rfl)
            simp only [f_Sw_setBlocked, x_nn, k17, if_true, x_cR hfl, q1, if_false, x_gI, f4, rd_C7, eq_false cs, not_false_eq_true, x_pZ, true_or, or_true, and_self, wr_C7, z10, f_Sw_setBlocked_48, rd_C10, sn_upE, Nat.reduceEqDiff, reduceIte, em, x_cV b2, zz 1 _ (Or.inr rfl)]
        simp only [f_Sn_block, x_gR, k1, if_true, rr_s1_3, x_nn, k17, x_cI hsb, x_cV b3, zz 1 _ (Or.inr rfl)]
      · have : cl (Rt [mS kd c m 0] (sI σ 55 c x4)) 6 0 = cl σ 6 0 := by unfold cl; rw [hts.1]
        omega
  · refine hno ?_ ?_
    · unfold g_Md_block g_Md_block_27
      rw [y_I_at hg, if_pos rfl]; exact zg _ _ (Or.inl rfl)
    · simp only [f_Sw_setBlocked, x_nn, k17, if_true, x_cR (hf η).2, f_Sw_setBlocked_24, zz 0 _ (Or.inl rfl)]
