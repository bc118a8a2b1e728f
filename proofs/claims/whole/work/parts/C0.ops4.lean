/-! LAYER 2: activate -/
variable {kk : Nat → Nat} {σ η : sn_FS}
theorem sn_start (hK : KOk kk σ) (hI : Inv σ η) (hR : RI σ) {e : Nat} (he : e < 2 * nl σ) (h0 : σ.1 10 e = 0) (h40 : σ.1 40 e = 0) : Sn kk (g_Md_start (nI e)) (f_Tr_start 11 (some (aE e))) σ η (fun _ => True) := by
  obtain ⟨hH, hw, hL, hD, hC⟩ := hI
  have h5 : ¬ σ.1 10 e = 5 := by rw [h0]; decide
  obtain ⟨θ, y1, y2, y3⟩ := fl_start hK hH hw.1 hw.lt he h5
  have gS : ∀ k i, (k ≠ 10 ∧ k ≠ 11 ∧ k ≠ 37 ∧ k ≠ 23) ∨ i ≠ e → (S_start e σ).1 k i = σ.1 k i := fun k i hk => by
    unfold S_start
    rcases hk with q | q
    · rw [sI_ne q.2.2.2, sI_ne q.2.2.1, sI_ne q.2.1, sI_ne q.1]
    · rw [sI_nk q, sI_nk q, sI_nk q, sI_nk q]
  have sS10 : (S_start e σ).1 10 e = 1 := by unfold S_start; simp only [sn_upE, Nat.reduceEqDiff, reduceIte]
  have sS11 : (S_start e σ).1 11 e = σ.1 6 0 + 30 := by unfold S_start; simp only [sn_upE, Nat.reduceEqDiff, reduceIte]
  have hT2 : TS σ (S_start e σ) := by
    refine ⟨gS 6 0 (Or.inl (by decide)), fun k i hk => ?_⟩
    by_cases ck : k = 11 ∧ i = e
    · obtain ⟨rfl, rfl⟩ := ck
      exact Or.inr (Or.inr ⟨30, by omega, by omega, by rw [sS11]; rfl⟩)
    · left
      refine gS k i ?_
      by_cases ci : i = e
      · left
        have := tm_of hk
        have : k ≠ 11 := fun q => ck ⟨q, ci⟩
        omega
      · exact Or.inr ci
  have hF2 : FR0 σ (S_start e σ) := ⟨fun k i hk => gS k i (Or.inl (by omega)), fun k i hk hi => gS k i (Or.inr (by omega)), fun x n s _ _ _ => gS 45 _ (Or.inl (by decide))⟩
  refine ⟨S_start e σ, θ, gl_start hw.1 he, y1, ⟨y2, WI_start hw he h0 h40, LkA_start hL, hD.mk' (fun i _ => ?_), hC.at hT2.1⟩, fun i hi => ?_, y3, hT2, hF2, trivial⟩
  · by_cases ci : i = e
    · left; rw [ci, gS 40 e (Or.inl (by decide))]; exact h40
    · right; exact ⟨gS 40 i (Or.inr ci), gS 11 i (Or.inr ci)⟩
  · by_cases ci : i = e
    · exact ⟨fun q => by rw [ci, sS10] at q; exact absurd q (by decide), fun q => by rw [ci, sS10] at q; exact absurd q (by decide)⟩
    · exact ⟨by rw [gS 10 i (Or.inr ci), gS 16 i (Or.inr ci)]; exact (hR i hi).1, by rw [gS 10 i (Or.inr ci), gS 17 i (Or.inr ci)]; exact (hR i hi).2⟩
theorem GA.sn {τ θ : sn_FS} (hA : GA σ η) (hI : Inv τ θ) (hR : RI τ) (hE : PE η θ) (hT : TS σ τ) (hF : FR0 σ τ) : GA τ θ := by
  obtain ⟨⟨h1, h2, hC, hP⟩, hFr, hTm, h56⟩ := hA
  refine ⟨⟨hI, hR, hC.eq hF.sp (fun k i a b => hF.1 k i (by omega)), hP.eq hE⟩, hFr.f1 hF.f1, hTm.ts hT h1.2.2.2.2 (by decide), ?_⟩
  rw [hT.1, hF.1 5 0 (by decide)]; exact h56
theorem due_40 (hA : GA σ η) {e : Nat} (he : e < 20) (h : σ.1 11 e = 0) : σ.1 40 e = 0 := by
  by_cases c : σ.1 40 e = 0
  · exact c
  · exfalso
    have h1 := hA.1.1.2.2.2.1 e he c
    obtain ⟨v, hv, e1, -⟩ := (hA.2.2.1.1 e he).2.2
    rw [h, e1] at h1
    have h2 : nI v + (2 : Int32) = nI (v + 2) := nI_add v 2
    rw [h2] at h1
    have := nI_inj (a := 0) (b := v + 2) (by omega) (by omega) h1
    omega
theorem act_step (hK : KOk kk σ) (hA : GA σ η) {l sd : Nat} (hl : l < nl σ) (hs : sd < 2) {x2 : Int32} (hx2 : x2 = 0 ∨ x2 = 1) : ∃ τ θ, (∀ fuel, g_Md_activate_31 (fuel + 1) (nI l) x2 (nI (2 * l + sd)) σ = g_Md_activate_31 fuel (nI l) x2 (nI (2 * l + sd + 1)) τ) ∧ (∀ fuel, f_Tr_switchEnds_2 11 (fuel + 1) (nI l) x2 (nI sd) (Kap kk σ η) = f_Tr_switchEnds_2 11 fuel (nI l) x2 (nI (sd + 1)) (Kap kk τ θ)) ∧ GA τ θ ∧ SP σ τ ∧ τ.1 6 0 = σ.1 6 0 := by
  have hKo := hK
  obtain ⟨⟨k1, k2, k3, k4, k5, k6, k7, k8, k9, k10, k11, k12, k13, k14, k15, k16, k17, k18, k19, k20, k21, k22⟩, kE, kF, kP, k4s⟩ := id hK
  have hP := hA.1.1.2.1.1
  have hn := hP.2.1
  have he : 2 * l + sd < 2 * nl σ := by omega
  have h20 : 2 * l + sd < 20 := by omega
  have hfe := fl_endOf (η := η) hKo hP hl hs
  obtain ⟨e1, -⟩ := kE _ he
  obtain ⟨e, ee⟩ : ∃ e, e = 2 * l + sd := ⟨_, rfl⟩
  rw [← ee] at he h20 e1 hfe ⊢
  have q1 : (some (aE e) = none) = False := by simp
  have d10 : e < md_len 10 := h20
  have d11 : e < md_len 11 := h20
  have z10 : ((1 : Int32) = 0) = False := eq_false (by decide)
  have hle : ¬ ((2 : Int32) * nI l + (2 : Int32)) ≤ nI e := fun q => by
    have a : (2 : Int32) * nI l + (2 : Int32) = nI (2 * l + 2) := e2l l 2
    rw [a] at q
    have := (nI_leI (a := 2 * l + 2) (b := e) (by omega) (by omega)).mp q
    omega
  have hle2 : ((2 : Int32) ≤ nI sd) = False := eq_false (fun q => by
    have := (nI_leI (a := 2) (b := sd) (by omega) (by omega)).mp q
    omega)
  have h86 : ∀ k : Int32 → Int32 → Int32 → sn_G, g_Md_activate_86 k (nI l) x2 (nI e) = k (nI l) x2 (nI (e + 1)) := fun k => by unfold g_Md_activate_86; rw [nI_1]
  have h70 : ∀ k : Int32 → Int32 → Int32 → sn_M, f_Tr_switchEnds_70 k 11 (nI l) x2 (nI sd) = k (nI l) x2 (nI (sd + 1)) := fun k => by unfold f_Tr_switchEnds_70; rw [nI_1]
  rcases hx2 with rfl | rfl
  · -- off
    have hg0 : ∀ fuel, g_Md_activate_31 (fuel + 1) (nI l) 0 (nI e) σ = (if σ.1 10 e = 0 then g_Md_activate_31 fuel (nI l) 0 (nI (e + 1)) else y_V (g_Md_fail (nI e) (0 : Int32)) (g_Md_activate_31 fuel (nI l) 0 (nI (e + 1)))) σ := fun fuel => by
      rw [g_Md_activate_31, if_neg hle, if_pos rfl]
      unfold g_Md_activate_67
      rw [if_neg (fun q => q rfl), q_I_at d10, h86]
    have hf0 : ∀ fuel, f_Tr_switchEnds_2 11 (fuel + 1) (nI l) 0 (nI sd) (Kap kk σ η) = (if σ.1 10 e = 0 then f_Tr_switchEnds_2 11 fuel (nI l) 0 (nI (sd + 1)) else n_n 8 (some 11) fun a2 => c_V (f_Tr_fail a2 (some (aE e))) (f_Tr_switchEnds_2 11 fuel (nI l) 0 (nI (sd + 1)))) (Kap kk σ η) := fun fuel => by
      simp only [f_Tr_switchEnds_2, hle2, if_false, x_nn, k11, if_true, x_cR hfe, q1, not_false_eq_true, f_Tr_switchEnds_52, not_true_eq_false, x_gI, e1, rd_E7, h70]
    by_cases c : σ.1 10 e = 0
    · exact ⟨σ, η, fun fuel => by rw [hg0, if_pos c], fun fuel => by rw [hf0, if_pos c], hA, SP.rf, rfl⟩
    · obtain ⟨τ, θ, a1, a2, a3, a4, a5, a6, a7, -⟩ := sn_fail hKo hA.1.1 (fun i hi _ => hA.1.2.1 i hi) he c
      refine ⟨τ, θ, fun fuel => by rw [hg0, if_neg c, y_V_at a1], fun fuel => ?_, hA.sn a3 a4 a5 a6 a7, a7.sp, a6.1⟩
      rw [hf0, if_neg c]
      simp only [x_nn, k11, if_true, x_cV a2]
  · -- on
    have hg0 : ∀ fuel, g_Md_activate_31 (fuel + 1) (nI l) 1 (nI e) σ = (if σ.1 10 e = 0 ∧ σ.1 11 e = 0 then y_V (g_Md_start (nI e)) (g_Md_activate_31 fuel (nI l) 1 (nI (e + 1))) else g_Md_activate_31 fuel (nI l) 1 (nI (e + 1))) σ := fun fuel => by
      have h67 : g_Md_activate_67 (g_Md_activate_31 fuel) (nI l) 1 (nI e) = g_Md_activate_31 fuel (nI l) 1 (nI (e + 1)) := by
        unfold g_Md_activate_67
        rw [if_pos (by decide), h86]
      rw [g_Md_activate_31, if_neg hle, if_neg (by decide), q_I_at d10, h67]
      by_cases c : σ.1 10 e = 0
      · rw [if_neg (fun q => q c), q_I_at d11]
        by_cases c2 : σ.1 11 e = 0
        · rw [if_neg (fun q => q c2), if_pos ⟨c, c2⟩]
        · rw [if_pos c2, if_neg (fun q => c2 q.2)]
      · rw [if_pos c, if_neg (fun q => c q.1)]
    have hf0 : ∀ fuel, f_Tr_switchEnds_2 11 (fuel + 1) (nI l) 1 (nI sd) (Kap kk σ η) = (if σ.1 10 e = 0 ∧ σ.1 11 e = 0 then n_n 8 (some 11) fun a8 => c_V (f_Tr_start a8 (some (aE e))) (f_Tr_switchEnds_2 11 fuel (nI l) 1 (nI (sd + 1))) else f_Tr_switchEnds_2 11 fuel (nI l) 1 (nI (sd + 1))) (Kap kk σ η) := fun fuel => by
      by_cases c : σ.1 10 e = 0
      · by_cases c2 : σ.1 11 e = 0
        · rw [if_pos ⟨c, c2⟩]
          simp only [f_Tr_switchEnds_2, hle2, if_false, x_nn, k11, if_true, x_cR hfe, q1, not_false_eq_true, z10, x_gI, e1, rd_E7, c, not_true_eq_false, rd_E8, c2, h70]
        · rw [if_neg (fun q => c2 q.2)]
          simp only [f_Tr_switchEnds_2, hle2, if_false, x_nn, k11, if_true, x_cR hfe, q1, not_false_eq_true, z10, x_gI, e1, rd_E7, c, not_true_eq_false, rd_E8, c2, f_Tr_switchEnds_52, h70]
      · rw [if_neg (fun q => c q.1)]
        simp only [f_Tr_switchEnds_2, hle2, if_false, x_nn, k11, if_true, x_cR hfe, q1, not_false_eq_true, z10, x_gI, e1, rd_E7, c, f_Tr_switchEnds_52, h70]
    by_cases c : σ.1 10 e = 0 ∧ σ.1 11 e = 0
    · obtain ⟨τ, θ, a1, a2, a3, a4, a5, a6, a7, -⟩ := sn_start hKo hA.1.1 hA.1.2.1 he c.1 (due_40 hA h20 c.2)
      refine ⟨τ, θ, fun fuel => by rw [hg0, if_pos c, y_V_at a1], fun fuel => ?_, hA.sn a3 a4 a5 a6 a7, a7.sp, a6.1⟩
      rw [hf0, if_pos c]
      simp only [x_nn, k11, if_true, x_cV a2]
    · exact ⟨σ, η, fun fuel => by rw [hg0, if_neg c], fun fuel => by rw [hf0, if_neg c], hA, SP.rf, rfl⟩
theorem op_activate (hK : KOk kk σ) (hA : GA σ η) (x1 : Int32) {x2 : Int32} (hx2 : x2 = 0 ∨ x2 = 1) : Op kk (g_Md_activate x1 x2) (f_Sn_activate 1 x1 x2) σ η := by
  have hKo := hK
  obtain ⟨⟨k1, k2, k3, k4, k5, k6, k7, k8, k9, k10, k11, k12, k13, k14, k15, k16, k17, k18, k19, k20, k21, k22⟩, kE, kF, kP, k4s⟩ := id hK
  have hP := hA.1.1.2.1.1
  have hn := hP.2.1
  have zz : ∀ (v : Int32) (κ : sn_Mem), v = 0 ∨ v = 1 → r_Z v κ = some (some (.int v), κ) := fun v κ h => by simp [r_Z, h]
  have zg : ∀ (v : Int32) (τ : sn_FS), v = 0 ∨ v = 1 → z_Z v τ = some (some (.int v), τ) := fun v κ h => by simp [z_Z, h]
  have z10 : ((1 : Int32) = 0) = False := eq_false (by decide)
  rcases lk_cases (kk := kk) hKo hP x1 with ⟨l, hl, rfl⟩ | ⟨hg, hf⟩
  · have d2 : l < md_len 2 := by show _ < 10; omega
    have p6 : l < kL 6 := by show _ < 10; omega
    have hfl := fl_isLink (η := η) hKo hP hl
    by_cases cs : σ.1 2 l = x2
    · refine ⟨0, σ, η, ?_, ?_, hA, SP.rf, by omega⟩
      · unfold g_Md_activate g_Md_activate_18
        rw [y_I_at (gl_isLink1 hP hl), if_neg (by decide), q_I_at d2, if_neg (fun q => q cs)]; exact zg _ _ (Or.inl rfl)
      · simp only [f_Sn_activate, x_gR, k1, if_true, rr_s1_1, x_nn, k3, x_cI hfl, z10, if_false, rr_s3_3, x_aI p6 (by decide), k6, rd_a6, eq_true cs, not_true_eq_false, f_Sn_activate_24, zz 0 _ (Or.inl rfl)]
    · have hA0 := hA.m23 (k := 2) (l := l) (Or.inl rfl) hl hx2
      have hs0 : SP σ (sI σ 2 l x2) := SP.sI (by decide)
      have hl0 : l < nl (sI σ 2 l x2) := by rw [hs0.nlE]; exact hl
      obtain ⟨τ1, θ1, a1, a2, a3, a4, a5⟩ := act_step (hKo.sp hs0) hA0 hl0 (sd := 0) (by decide) hx2
      have hl1 : l < nl τ1 := by rw [a4.nlE]; exact hl0
      obtain ⟨τ2, θ2, b1, b2, b3, b4, b5⟩ := act_step ((hKo.sp hs0).sp a4) a3 hl1 (sd := 1) (by decide) hx2
      obtain ⟨fu, hfu⟩ := fuel3
      have h6 : τ2.1 6 0 = σ.1 6 0 := by rw [b5, a5, sI_ne (by decide)]
      refine ⟨1, τ2, θ2, ?_, ?_, b3, (hs0.tr a4).tr b4, ?_⟩
      · have e0 : (2 : Int32) * nI l = nI (2 * l) := pk_mul 2 l
        have hle : ((2 : Int32) * nI l + (2 : Int32)) ≤ nI (2 * l + 1 + 1) := by
          have a : (2 : Int32) * nI l + (2 : Int32) = nI (2 * l + 2) := e2l l 2
          rw [a]; exact nI_le (by omega) (by omega)
        unfold g_Md_activate g_Md_activate_18
        rw [y_I_at (gl_isLink1 hP hl), if_neg (by decide), q_I_at d2, if_pos cs, w_Z_at d2 hx2, e0]
        show g_Md_activate_31 sn_fuel (nI l) x2 (nI (2 * l)) (sI σ 2 l x2) = _
        rw [hfu]
        have a1 : g_Md_activate_31 (fu + 3) (nI l) x2 (nI (2 * l)) (sI σ 2 l x2) = g_Md_activate_31 (fu + 2) (nI l) x2 (nI (2 * l + 1)) τ1 := a1 (fu + 2)
        rw [a1, b1 (fu + 1), g_Md_activate_31, if_pos hle]; exact zg _ _ (Or.inr rfl)
      · have hsw : f_Tr_switchEnds 11 (nI l) x2 (Kap kk (sI σ 2 l x2) η) = some (none, Kap kk τ2 θ2) := by
          unfold f_Tr_switchEnds
          rw [hfu]
          have a2 : f_Tr_switchEnds_2 11 (fu + 2 + 1) (nI l) x2 0 (Kap kk (sI σ 2 l x2) η) = _ := a2 (fu + 2)
          rw [a2]
          have b2 := b2 (fu + 1)
          have b2 : f_Tr_switchEnds_2 11 (fu + 1 + 1) (nI l) x2 (nI (0 + 1)) (Kap kk τ1 θ1) = _ := b2
          rw [b2, f_Tr_switchEnds_2, if_pos (by decide)]; rfl
        simp only [f_Sn_activate, x_gR, k1, if_true, rr_s1_1, x_nn, k3, x_cI hfl, z10, if_false, rr_s3_3, x_aI p6 (by decide), k6, rd_a6, eq_false cs, not_false_eq_true, x_bZ p6 (by decide) hx2, wr_a6, rr_s1_2, k11, x_cV hsw, zz 1 _ (Or.inr rfl)]
      · have : cl τ2 6 0 = cl σ 6 0 := by unfold cl; rw [h6]
        omega
  · refine ⟨0, σ, η, ?_, ?_, hA, SP.rf, by omega⟩
    · unfold g_Md_activate g_Md_activate_18
      rw [y_I_at hg, if_pos rfl]; exact zg _ _ (Or.inl rfl)
    · simp only [f_Sn_activate, x_gR, k1, if_true, rr_s1_1, x_nn, k3, x_cI (hf η), f_Sn_activate_24, zz 0 _ (Or.inl rfl)]
