/-! LAYER 2: an end hears a unit: proving, ready, in service -/
variable {kk : Nat → Nat} {σ η : sn_FS} {e : Nat} {u4 : Prop}
theorem S_prv_17 {r b v : Int32} : S_prv e r b (sI σ 17 e v) = S_prv e r b σ := by
  unfold S_prv
  have h6 : (sI σ 17 e v).1 6 0 = σ.1 6 0 := sI_ne (by decide)
  rw [h6, sI_sw (k := 17) (k' := 10) (by decide), sI_sw (k := 17) (k' := 11) (by decide), sI_sI]
theorem S_prv_18 {r b v : Int32} : S_prv e r b (sI σ 18 e v) = S_prv e r b σ := by
  unfold S_prv
  have h6 : (sI σ 18 e v).1 6 0 = σ.1 6 0 := sI_ne (by decide)
  rw [h6, sI_sw (k := 18) (k' := 10) (by decide), sI_sw (k := 18) (k' := 11) (by decide), sI_sw (k := 18) (k' := 17) (by decide), sI_sI]
theorem hear_3 (hK : KOk kk σ) (hI : Inv σ η) (he : e < 2 * nl σ) (hs : σ.1 10 e = 3) {bad : Bool} {u : Nat} (hu : u ≤ 5) {x2 : Int32} (hR : Rr1 σ e) (hx : x2 = if bad then 1 else 0) : HrOk kk (g_Md_arrive_76 (nI e) x2 (nI u)) (f_En_hear_21 (aE e) (hT bad u)) e u4 σ η := by
  obtain ⟨⟨k1, k2, k3, k4, k5, k6, k7, k8, k9, k10, k11, k12, k13, k14, k15, k16, k17, k18, k19, k20, k21, k22⟩, kE, kF, kP, k4s⟩ := id hK
  obtain ⟨e1, e2, e3, e4, e5, e6, e7⟩ := kE e he
  obtain ⟨hH, hw, hL, hD, hC⟩ := id hI
  have hn10 := hw.1.2.1
  have he20 : e < 20 := by omega
  have d10 : e < md_len 10 := he20
  have d17 : e < md_len 17 := he20
  have d18 : e < md_len 18 := he20
  have d24 : e < md_len 24 := he20
  have h0 : ¬ σ.1 10 e = 0 := by rw [hs]; decide
  have h5 : ¬ σ.1 10 e = 5 := by rw [hs]; decide
  have hE := hw.e1 he20
  have hb24 : σ.1 24 e = 0 ∨ σ.1 24 e = 1 := hE.2.2.2.2.2.2.2.2.2.2.2.2.2
  obtain ⟨r, hr4, er⟩ := hR.2 hs
  have h14 : η.1 (aE e) 14 = if σ.1 24 e = 0 then 8 else 3 := hH.2.2 e he hs
  have o31 : ((3 : Int32) = 1) = False := eq_false (by decide)
  have o32 : ((3 : Int32) = 2) = False := eq_false (by decide)
  have hcl : ∀ t r κ, f_En_hearProving (aE e) t (Kap kk σ η) = some (some (.int r), κ) → f_En_hear_21 (aE e) t (Kap kk σ η) = some (some (.int r), κ) := fun t r κ h => by
    simp only [f_En_hear_21, x_gI, e1, if_true, rd_E7, hs, sn_sw, o31, o32, if_false, x_nn, x_cI h, r_I]
  have hg1 : ∀ x3 ω, g_Md_proving (nI e) x2 x3 σ = some (none, ω) → g_Md_arrive_76 (nI e) x2 x3 σ = some (none, ω) := fun x3 ω h => by
    unfold g_Md_arrive_76
    rw [q_I_at d10, hs, if_pos (by decide), q_I_at d10, hs, if_pos (by decide), q_I_at d10, hs, if_neg (fun q => q rfl), y_V_at h]
    rfl
  cases bad with
  | true =>
    have hx1 : x2 = 1 := hx
    -- one error more
    have hp1 : Inv (sI σ 18 e (σ.1 18 e + 1)) η ∧ PE η η ∧ TS σ (sI σ 18 e (σ.1 18 e + 1)) ∧ FR0 σ (sI σ 18 e (σ.1 18 e + 1)) := by
      have g : ∀ k, k ≠ 18 → (sI σ 18 e (σ.1 18 e + 1)).1 k e = σ.1 k e := fun k hk => sI_ne hk
      refine hear_pack hI he (Hf.rf.sI (by decide)) (Or.inl rfl) (fun _ => ?_) (Or.inl (g 10 (by decide))) (fun q => ?_) (fun _ => ⟨r, by omega, by rw [g 17 (by decide)]; exact er⟩) ?_ ?_ (Or.inl (g 11 (by decide)))
      · rw [g 24 (by decide)]; exact h14
      · rw [g 10 (by decide), hs] at q; exact absurd q (by decide)
      · rw [g 22 (by decide)]; exact hE.2.2.2.2.2.2.2.2.2.1
      · rw [g 24 (by decide)]; exact hb24
    have hf1 : Hf e σ (sI σ 18 e (σ.1 18 e + 1)) := Hf.rf.sI (by decide)
    -- the number of errors that are too many
    obtain ⟨T, hT1, hT2, hT3⟩ : ∃ T : Int32, (σ.1 24 e = 0 → T = 2) ∧ (¬ σ.1 24 e = 0 → T = 1) ∧ (T = 1 ∨ T = 2) := by
      by_cases c : σ.1 24 e = 0
      · exact ⟨2, fun _ => rfl, fun q => absurd c q, Or.inr rfl⟩
      · exact ⟨1, fun q => absurd q c, fun _ => rfl, Or.inl rfl⟩
    have hc1 : f_En_hearProving (aE e) 6 (Kap kk σ η) = c_I (fun κ => f_En_err_27 (aE e) (σ.1 18 e + 1) T κ) (fun v7 => r_I v7) (Kap kk (sI σ 18 e (σ.1 18 e + 1)) η) := by
      have hin : f_En_err (aE e) (Kap kk σ η) = f_En_err_27 (aE e) (σ.1 18 e + 1) T (Kap kk (sI σ 18 e (σ.1 18 e + 1)) η) := by
        by_cases c : σ.1 24 e = 0
        · rw [if_pos c] at h14
          have o8 : ((8 : Int32) = 3) = False := eq_false (by decide)
          simp only [f_En_err, x_gI, e1, if_true, rd_E16, x_pI, wr_E16, sn_upE, Nat.reduceEqDiff, reduceIte, rd_E14, h14, o8, not_false_eq_true, hT1 c, x_ite]
        · rw [if_neg c] at h14
          simp only [f_En_err, x_gI, e1, if_true, rd_E16, x_pI, wr_E16, sn_upE, Nat.reduceEqDiff, reduceIte, rd_E14, h14, not_true_eq_false, if_false, hT2 c, x_ite]
      show (n_n 2 (some (aE e)) fun a6 => c_I (f_En_err a6) fun v7 => r_I v7) _ = _
      simp only [x_nn, e1, if_true]
      unfold c_I
      rw [hin]
    have hg2 : g_Md_proving (nI e) x2 (nI u) σ = g_Md_proving_34 (nI e) (σ.1 18 e + 1) T (sI σ 18 e (σ.1 18 e + 1)) := by
      unfold g_Md_proving
      rw [hx1, if_neg (by decide), q_I_at d18, w_I_at d18, q_I_at d18, q_I_at d24]
      have q1 : (sI σ 18 e (σ.1 18 e + 1)).1 18 e = σ.1 18 e + 1 := by simp only [sn_upE, Nat.reduceEqDiff, reduceIte]
      have q2 : (sI σ 18 e (σ.1 18 e + 1)).1 24 e = σ.1 24 e := sI_ne (by decide)
      rw [q1, q2]
      by_cases c : σ.1 24 e = 0
      · rw [if_pos c, hT1 c]
      · rw [if_neg c, hT2 c]
    by_cases cT : T ≤ σ.1 18 e + 1
    · -- a round more
      have q17 : (sI σ 18 e (σ.1 18 e + 1)).1 17 e = nI r := by rw [sI_ne (by decide)]; exact er
      have q24 : (sI (sI σ 18 e (σ.1 18 e + 1)) 17 e (nI (r + 1))).1 24 e = σ.1 24 e := by rw [sI_ne (by decide), sI_ne (by decide)]
      have q17' : (sI (sI σ 18 e (σ.1 18 e + 1)) 17 e (nI (r + 1))).1 17 e = nI (r + 1) := by simp only [sn_upE, Nat.reduceEqDiff, reduceIte]
      have q10' : (sI (sI σ 18 e (σ.1 18 e + 1)) 17 e (nI (r + 1))).1 10 e = 3 := by rw [sI_ne (by decide), sI_ne (by decide)]; exact hs
      have hf2 : Hf e σ (sI (sI σ 18 e (σ.1 18 e + 1)) 17 e (nI (r + 1))) := hf1.sI (by decide)
      have hc3 : f_En_err_27 (aE e) (σ.1 18 e + 1) T (Kap kk (sI σ 18 e (σ.1 18 e + 1)) η) = (if nI (r + 1) < (5 : Int32) then g_I 2 14 (some (aE e)) fun v3 => n_n 2 (some (aE e)) fun a4 => c_V (f_En_prove a4 v3) (r_I (0 : Int32)) else r_I (1 : Int32)) (Kap kk (sI (sI σ 18 e (σ.1 18 e + 1)) 17 e (nI (r + 1))) η) := by
        simp only [f_En_err_27, cT, if_true, x_gI, e1, rd_E15, sn_upE, Nat.reduceEqDiff, reduceIte, er, x_pI, nI_1, wr_E15]
      have hg3 : g_Md_proving_34 (nI e) (σ.1 18 e + 1) T (sI σ 18 e (σ.1 18 e + 1)) = (if ¬ nI (r + 1) = (5 : Int32) then q_I 24 (nI e) fun v3 => y_V (g_Md_prove (nI e) v3) (g_Md_proving_127) else y_V (g_Md_fail (nI e) (0 : Int32)) (g_Md_proving_127)) (sI (sI σ 18 e (σ.1 18 e + 1)) 17 e (nI (r + 1))) := by
        unfold g_Md_proving_34
        rw [if_pos cT, q_I_at d17, q17, nI_1, w_I_at d17, q_I_at d17, q17']
      by_cases c5 : r = 4
      · subst c5
        have hp2 : Inv (sI (sI σ 18 e (σ.1 18 e + 1)) 17 e (nI (4 + 1))) η ∧ PE η η ∧ TS σ (sI (sI σ 18 e (σ.1 18 e + 1)) 17 e (nI (4 + 1))) ∧ FR0 σ (sI (sI σ 18 e (σ.1 18 e + 1)) 17 e (nI (4 + 1))) := by
          have g : ∀ k, k ≠ 17 → k ≠ 18 → (sI (sI σ 18 e (σ.1 18 e + 1)) 17 e (nI (4 + 1))).1 k e = σ.1 k e := fun k hk hk' => by rw [sI_ne hk, sI_ne hk']
          refine hear_pack hI he hf2 (Or.inl rfl) (fun _ => ?_) (Or.inl (g 10 (by decide) (by decide))) (fun q => ?_) (fun _ => ⟨5, by omega, q17'⟩) ?_ ?_ (Or.inl (g 11 (by decide) (by decide)))
          · rw [g 24 (by decide) (by decide)]; exact h14
          · rw [g 10 (by decide) (by decide), hs] at q; exact absurd q (by decide)
          · rw [g 22 (by decide) (by decide)]; exact hE.2.2.2.2.2.2.2.2.2.1
          · rw [g 24 (by decide) (by decide)]; exact hb24
        refine HrOk.of1 hp2 hf2 (hcl _ 1 _ ?_) (by rw [q10']; decide) (fun ω hω => hg1 _ _ ?_)
        · show f_En_hearProving (aE e) 6 _ = _
          rw [hc1]
          have : (fun κ => f_En_err_27 (aE e) (σ.1 18 e + 1) T κ) (Kap kk (sI σ 18 e (σ.1 18 e + 1)) η) = some (some (.int 1), Kap kk (sI (sI σ 18 e (σ.1 18 e + 1)) 17 e (nI (4 + 1))) η) := by
            show f_En_err_27 (aE e) (σ.1 18 e + 1) T _ = _
            rw [hc3, if_neg (by decide)]; rfl
          rw [x_cI this]; rfl
        · rw [hg2, hg3, if_neg (fun q => q (by decide)), y_V_at hω]; rfl
      · have hS : ∀ b, S_prv e (nI (r + 1)) b (sI (sI σ 18 e (σ.1 18 e + 1)) 17 e (nI (r + 1))) = S_prv e (nI (r + 1)) b σ := fun b => by rw [S_prv_17, S_prv_18]
        obtain ⟨P1, P2⟩ := hear_prv hI he h0 h5 (r := r + 1) (by omega) hb24
        have hpv := fl_prove2 (σ := sI (sI σ 18 e (σ.1 18 e + 1)) 17 e (nI (r + 1))) (η := η) k2 e1 h14 q17'
        rw [hS] at hpv
        have hgv := gl_prove2 (σ := sI (sI σ 18 e (σ.1 18 e + 1)) 17 e (nI (r + 1))) he20 hb24 q17' q10'
        rw [hS] at hgv
        have o5 : nI (r + 1) < (5 : Int32) := nI_lt (b := 5) (by omega) (by omega)
        have o6 : ¬ nI (r + 1) = (5 : Int32) := fun q => by
          have := nI_inj (a := r + 1) (b := 5) (by omega) (by omega) q
          omega
        refine HrOk.of0 P1 P2 (Rr1_prv (by omega)) (hcl _ 0 _ ?_) (hg1 _ _ ?_)
        · show f_En_hearProving (aE e) 6 _ = _
          rw [hc1]
          have : (fun κ => f_En_err_27 (aE e) (σ.1 18 e + 1) T κ) (Kap kk (sI σ 18 e (σ.1 18 e + 1)) η) = some (some (.int 0), Kap kk (S_prv e (nI (r + 1)) (σ.1 24 e) σ) (sI η (aE e) 14 (if σ.1 24 e = 0 then 8 else 3))) := by
            show f_En_err_27 (aE e) (σ.1 18 e + 1) T _ = _
            rw [hc3, if_pos o5]
            simp only [x_gI, e1, if_true, rd_E14, x_nn, x_cV hpv, r_I]
          rw [x_cI this]; rfl
        · rw [hg2, hg3, if_pos o6, q_I_at d24, q24, y_V_at hgv]; rfl
    · refine HrOk.of0 hp1 hf1 ⟨fun q => ?_, fun _ => ⟨r, hr4, by rw [sI_ne (by decide)]; exact er⟩⟩ (hcl _ 0 _ ?_) (hg1 _ _ ?_)
      · rw [sI_ne (by decide), hs] at q; exact absurd q (by decide)
      · show f_En_hearProving (aE e) 6 _ = _
        rw [hc1]
        have : (fun κ => f_En_err_27 (aE e) (σ.1 18 e + 1) T κ) (Kap kk (sI σ 18 e (σ.1 18 e + 1)) η) = some (some (.int 0), Kap kk (sI σ 18 e (σ.1 18 e + 1)) η) := by
          show f_En_err_27 (aE e) (σ.1 18 e + 1) T _ = _
          simp only [f_En_err_27, cT, if_false, r_I]
        rw [x_cI this]; rfl
      · rw [hg2]
        unfold g_Md_proving_34
        rw [if_neg cT]; rfl
  | false =>
    have hx0 : x2 = 0 := hx
    have hg2 : ∀ x3, g_Md_proving (nI e) x2 x3 σ = (if ¬ x3 = (1 : Int32) then (if ¬ x3 = (3 : Int32) then g_Md_proving_117 (nI e) x3 else q_I 24 (nI e) fun v7 => (if ¬ v7 = 0 then g_Md_proving_117 (nI e) x3 else y_V (g_Md_prove (nI e) (1 : Int32)) (g_Md_proving_127))) else y_V (g_Md_align (nI e)) (g_Md_proving_127)) σ := fun x3 => by
      unfold g_Md_proving
      rw [hx0, if_pos rfl]
    have hn117 : ∀ x3, ¬ x3 = 0 → g_Md_proving_117 (nI e) x3 σ = some (none, σ) := fun x3 h => by
      unfold g_Md_proving_117
      rw [if_pos h]; rfl
    obtain rfl | rfl | rfl | rfl | rfl | rfl : u = 0 ∨ u = 1 ∨ u = 2 ∨ u = 3 ∨ u = 4 ∨ u = 5 := by omega
    · refine HrOk.id1 hI (hcl _ 1 _ ?_) h0 (fun ω hω => hg1 _ _ ?_)
      · show r_I 1 _ = _
        rfl
      · rw [hg2, if_pos (by decide), if_pos (by decide)]
        unfold g_Md_proving_117
        rw [if_neg (fun q => q (by decide)), y_V_at hω]; rfl
    · refine HrOk.of0 (hear_al hI he h0 h5) ((Hf.rf.sI (by decide)).sI (by decide)) Rr1_al (hcl _ 0 _ ?_) (hg1 _ _ ?_)
      · show (n_n 2 (some (aE e)) fun a1 => c_V (f_En_enter a1 (2 : Int32) (15 : Int32)) (r_I (0 : Int32))) _ = _
        simp only [x_nn, e1, if_true, x_cV (fl_enter k2 e1), r_I]
      · rw [hg2, if_neg (fun q => q (by decide)), y_V_at (gl_align he20)]; rfl
    · refine HrOk.id0 hI hR (hcl _ 0 _ rfl) (hg1 _ _ ?_)
      rw [hg2, if_pos (by decide), if_pos (by decide)]; exact hn117 _ (by decide)
    · have hc4 : f_En_hearProving (aE e) (nI 3) (Kap kk σ η) = (g_I 2 14 (some (aE e)) fun v3 => (if ¬ v3 = (8 : Int32) then f_En_hearProving_74 (aE e) else n_n 2 (some (aE e)) fun a4 => c_V (f_En_prove a4 (3 : Int32)) (f_En_hearProving_74 (aE e)))) (Kap kk σ η) := rfl
      rcases hb24 with c | c
      · rw [if_pos c] at h14
        obtain ⟨P1, P2⟩ := hear_prv hI he h0 h5 (r := r) (by omega) (Or.inr rfl : (1 : Int32) = 0 ∨ (1 : Int32) = 1)
        have hpv := fl_prove2 (σ := σ) (η := η) k2 e1 (t := 3) (b := 1) (by decide) er
        have hgv := gl_prove2 (σ := σ) he20 (b := 1) (Or.inr rfl) er hs
        refine HrOk.of0 P1 P2 (Rr1_prv (by omega)) (hcl _ 0 _ ?_) (hg1 _ _ ?_)
        · show f_En_hearProving (aE e) (nI 3) _ = _
          rw [hc4]
          simp only [x_gI, e1, if_true, rd_E14, h14, not_true_eq_false, if_false, x_ite, x_nn, x_cV hpv, f_En_hearProving_74, r_I]
        · rw [hg2, if_pos (by decide), if_neg (fun q => q (by decide)), q_I_at d24, c, if_neg (fun q => q rfl), y_V_at hgv]; rfl
      · have c0 : ¬ σ.1 24 e = 0 := by rw [c]; decide
        rw [if_neg c0] at h14
        have o8 : ((3 : Int32) = 8) = False := eq_false (by decide)
        refine HrOk.id0 hI hR (hcl _ 0 _ ?_) (hg1 _ _ ?_)
        · show f_En_hearProving (aE e) (nI 3) _ = _
          rw [hc4]
          simp only [x_gI, e1, if_true, rd_E14, h14, o8, not_false_eq_true, x_ite, f_En_hearProving_74, r_I]
        · rw [hg2, if_pos (by decide), if_neg (fun q => q (by decide)), q_I_at d24, c, if_pos (by decide)]; exact hn117 _ (by decide)
    · refine HrOk.id0 hI hR (hcl _ 0 _ rfl) (hg1 _ _ ?_)
      rw [hg2, if_pos (by decide), if_pos (by decide)]; exact hn117 _ (by decide)
    · refine HrOk.id0 hI hR (hcl _ 0 _ rfl) (hg1 _ _ ?_)
      rw [hg2, if_pos (by decide), if_pos (by decide)]; exact hn117 _ (by decide)
/-- ready or in service, after the counting -/
theorem hear_41 (hK : KOk kk σ) (hI : Inv σ η) (he : e < 2 * nl σ) (hs : σ.1 10 e = 4 ∨ σ.1 10 e = 5) {bad : Bool} {u : Nat} (hu : u ≤ 5) {x2 : Int32} (hR : Rr1 σ e) (hx : x2 = if bad then 1 else 0) : HrOk kk (g_Md_serving_41 (nI e) x2 (nI u)) (f_En_hearReady_37 (aE e) (hT bad u)) e (bad = false ∧ 4 ≤ u) σ η := by
  obtain ⟨⟨k1, k2, k3, k4, k5, k6, k7, k8, k9, k10, k11, k12, k13, k14, k15, k16, k17, k18, k19, k20, k21, k22⟩, kE, kF, kP, k4s⟩ := id hK
  obtain ⟨e1, e2, e3, e4, e5, e6, e7⟩ := kE e he
  obtain ⟨hH, hw, hL, hD, hC⟩ := id hI
  have hn10 := hw.1.2.1
  have he20 : e < 20 := by omega
  have d10 : e < md_len 10 := he20
  have d11 : e < md_len 11 := he20
  have d16 : e < md_len 16 := he20
  have hE := hw.e1 he20
  have h4 : (4 : Int32) ≤ σ.1 10 e := by rcases hs with q | q <;> rw [q] <;> decide
  have h3 : ¬ σ.1 10 e = 3 := by rcases hs with q | q <;> rw [q] <;> decide
  have h0 : ¬ σ.1 10 e = 0 := by rcases hs with q | q <;> rw [q] <;> decide
  obtain ⟨c, hc5, ec⟩ := hR.1 h4
  cases bad with
  | true =>
    have hx1 : x2 = 1 := hx
    have t10 : (sI σ 16 e (nI (c + 1))).1 10 e = σ.1 10 e := sI_ne (by decide)
    have t16 : (sI σ 16 e (nI (c + 1))).1 16 e = nI (c + 1) := by simp only [sn_upE, Nat.reduceEqDiff, reduceIte]
    have hf : Hf e σ (sI σ 16 e (nI (c + 1))) := Hf.rf.sI (by decide)
    have hp : Inv (sI σ 16 e (nI (c + 1))) η ∧ PE η η ∧ TS σ (sI σ 16 e (nI (c + 1))) ∧ FR0 σ (sI σ 16 e (nI (c + 1))) := by
      refine hear_pack hI he hf (Or.inl rfl) (fun q => ?_) (Or.inl t10) (fun _ => ⟨c + 1, by omega, t16⟩) (fun q => ?_) ?_ ?_ (Or.inl (sI_ne (by decide)))
      · rw [t10] at q; exact absurd q h3
      · rw [t10] at q; exact absurd q h3
      · rw [sI_ne (by decide)]; exact hE.2.2.2.2.2.2.2.2.2.1
      · rw [sI_ne (by decide)]; exact hE.2.2.2.2.2.2.2.2.2.2.2.2.2
    have hcl : f_En_hearReady_37 (aE e) 6 (Kap kk σ η) = (if nI (c + 1) < (6 : Int32) then f_En_hearReady_96 (aE e) (0 : Int32) else f_En_hearReady_96 (aE e) (1 : Int32)) (Kap kk (sI σ 16 e (nI (c + 1))) η) := by
      show (g_I 2 17 (some (aE e)) fun v4 => p_I 2 17 (some (aE e)) (v4 + (1 : Int32)) (g_I 2 17 (some (aE e)) fun v5 => (if v5 < (6 : Int32) then f_En_hearReady_96 (aE e) (0 : Int32) else f_En_hearReady_96 (aE e) (1 : Int32)))) _ = _
      simp only [x_gI, e1, if_true, rd_E17, ec, nI_1, x_pI, wr_E17, sn_upE, Nat.reduceEqDiff, reduceIte]
    have hg : g_Md_serving_41 (nI e) x2 (nI u) σ = (if ¬ nI (c + 1) = (6 : Int32) then g_Md_serving_72 else y_V (g_Md_fail (nI e) (0 : Int32)) (g_Md_serving_72)) (sI σ 16 e (nI (c + 1))) := by
      unfold g_Md_serving_41
      rw [hx1, if_neg (by decide), q_I_at d16, ec, nI_1, w_I_at d16, q_I_at d16, t16]
    by_cases c5 : c = 5
    · subst c5
      refine HrOk.of1 hp hf ?_ (by rw [t10]; exact h0) (fun ω hω => ?_)
      · show f_En_hearReady_37 (aE e) 6 _ = _
        rw [hcl, if_neg (by decide)]; rfl
      · rw [hg, if_neg (fun q => q (by decide)), y_V_at hω]; rfl
    · have o5 : nI (c + 1) < (6 : Int32) := nI_lt (b := 6) (by omega) (by omega)
      have o6 : ¬ nI (c + 1) = (6 : Int32) := fun q => by
        have := nI_inj (a := c + 1) (b := 6) (by omega) (by omega) q
        omega
      refine HrOk.of0 hp hf ⟨fun _ => ⟨c + 1, by omega, t16⟩, fun q => absurd (t10 ▸ q) h3⟩ ?_ ?_
      · show f_En_hearReady_37 (aE e) 6 _ = _
        rw [hcl, if_pos o5]; rfl
      · rw [hg, if_pos o6]; rfl
  | false =>
    have hx0 : x2 = 0 := hx
    have hg2 : ∀ x3, g_Md_serving_41 (nI e) x2 x3 σ = (if (4 : Int32) ≤ x3 then q_I 10 (nI e) fun v3 => (if ¬ v3 = (4 : Int32) then g_Md_serving_129 (nI e) else w_I 10 (nI e) (5 : Int32) (w_I 11 (nI e) (0 : Int32) (y_V (g_Md_up (nI e)) (g_Md_serving_129 (nI e))))) else q_I 10 (nI e) fun v5 => (if v5 = (5 : Int32) then g_Md_serving_93 (nI e) else (if (2 : Int32) ≤ x3 then g_Md_serving_99 else g_Md_serving_93 (nI e)))) σ := fun x3 => by
      unfold g_Md_serving_41
      rw [hx0, if_pos rfl]
    have hfl : ∀ x3, ¬ (4 : Int32) ≤ x3 → (σ.1 10 e = 5 ∨ ¬ (2 : Int32) ≤ x3) → ∀ ω, g_Md_fail (nI e) 0 σ = some (none, ω) → g_Md_serving_41 (nI e) x2 x3 σ = some (none, ω) := fun x3 a b ω hω => by
      rw [hg2, if_neg a, q_I_at d10]
      by_cases c5 : σ.1 10 e = 5
      · rw [if_pos c5]; unfold g_Md_serving_93; rw [y_V_at hω]; rfl
      · rw [if_neg c5, if_neg (b.resolve_left c5)]; unfold g_Md_serving_93; rw [y_V_at hω]; rfl
    have hpr : ∀ t, t = 2 ∨ t = 3 → HrOk kk (g_Md_serving_41 (nI e) x2 t) (f_En_hearReady_37 (aE e) t) e ((false : Bool) = false ∧ 4 ≤ u) σ η := by
      intro t ht
      have hc1 : f_En_hearReady_37 (aE e) t (Kap kk σ η) = f_En_hearReady_102 (aE e) (Kap kk σ η) := by rcases ht with rfl | rfl <;> rfl
      have a4 : ¬ (4 : Int32) ≤ t := by rcases ht with rfl | rfl <;> decide
      have a2 : (2 : Int32) ≤ t := by rcases ht with rfl | rfl <;> decide
      rcases hs with q | q
      · refine HrOk.id0 hI hR ?_ ?_
        · rw [hc1]
          have o1 : ((4 : Int32) = 5) = False := eq_false (by decide)
          simp only [f_En_hearReady_102, x_gI, e1, if_true, rd_E7, q, o1, not_false_eq_true, f_En_hearReady_115, r_I, x_ite]
        · rw [hg2, if_neg a4, q_I_at d10, q, if_neg (by decide), if_pos a2]; rfl
      · refine HrOk.id1 hI ?_ h0 (hfl t a4 (Or.inl q))
        rw [hc1]
        simp only [f_En_hearReady_102, x_gI, e1, if_true, rd_E7, q, not_true_eq_false, if_false, f_En_hearReady_115, r_I, x_ite]
    have hms : ∀ t, t = 4 ∨ t = 5 → 4 ≤ u → HrOk kk (g_Md_serving_41 (nI e) x2 t) (f_En_hearReady_37 (aE e) t) e ((false : Bool) = false ∧ 4 ≤ u) σ η := by
      intro t ht h4u
      have hc1 : ∀ r κ, f_En_serve (aE e) (Kap kk σ η) = some (some (.int r), κ) → f_En_hearReady_37 (aE e) t (Kap kk σ η) = some (some (.int r), κ) := fun r κ h => by
        have : f_En_hearReady_37 (aE e) t (Kap kk σ η) = f_En_hearReady_97 (aE e) (Kap kk σ η) := by rcases ht with rfl | rfl <;> rfl
        rw [this]
        simp only [f_En_hearReady_97, x_nn, e1, if_true, x_cI h, r_I]
      have a4 : (4 : Int32) ≤ t := by rcases ht with rfl | rfl <;> decide
      rcases hs with q | q
      · have hf : Hf e σ (sI (sI σ 10 e 5) 11 e 0) := (Hf.rf.sI (by decide)).sI (by decide)
        have t10 : (sI (sI σ 10 e 5) 11 e 0).1 10 e = 5 := by simp only [sn_upE, Nat.reduceEqDiff, reduceIte]
        have t16 : (sI (sI σ 10 e 5) 11 e 0).1 16 e = nI c := by rw [sI_ne (by decide), sI_ne (by decide)]; exact ec
        have hp : Inv (sI (sI σ 10 e 5) 11 e 0) η ∧ PE η η ∧ TS σ (sI (sI σ 10 e 5) 11 e 0) ∧ FR0 σ (sI (sI σ 10 e 5) 11 e 0) := by
          refine hear_pack hI he hf (Or.inl rfl) (fun z => ?_) (Or.inr ⟨by rw [q]; decide, h0, 5, by omega, t10⟩) (fun _ => ⟨c, by omega, t16⟩) (fun z => ?_) ?_ ?_ (Or.inr ⟨h0, Or.inl (by simp only [sn_upE, Nat.reduceEqDiff, reduceIte])⟩)
          · rw [t10] at z; exact absurd z (by decide)
          · rw [t10] at z; exact absurd z (by decide)
          · rw [sI_ne (by decide), sI_ne (by decide)]; exact hE.2.2.2.2.2.2.2.2.2.1
          · rw [sI_ne (by decide), sI_ne (by decide)]; exact hE.2.2.2.2.2.2.2.2.2.2.2.2.2
        refine ⟨_, η, hp, hf, Or.inr (Or.inr (Or.inl ⟨⟨fun _ => ⟨c, hc5, t16⟩, fun z => by rw [t10] at z; exact absurd z (by decide)⟩, ⟨rfl, h4u⟩, hc1 2 _ ?_, t10, fun ω hω => ?_⟩))⟩
        · have o1 : ((4 : Int32) = 5) = False := eq_false (by decide)
          simp only [f_En_serve, x_gI, e1, if_true, rd_E7, q, o1, not_false_eq_true, x_ite, x_pI, wr_E7, wr_E8, r_I]
        · rw [hg2, if_pos a4, q_I_at d10, q, if_neg (fun z => z rfl), w_I_at d10, w_I_at d11]; exact hω
      · refine ⟨σ, η, ⟨hI, PE.rf, TS.rf, FR0.rf⟩, Hf.rf, Or.inr (Or.inr (Or.inr ⟨hR, ⟨rfl, h4u⟩, hc1 3 _ ?_, q, fun ω hω => ?_⟩))⟩
        · simp only [f_En_serve, x_gI, e1, if_true, rd_E7, q, not_true_eq_false, if_false, x_ite, r_I]
        · rw [hg2, if_pos a4, q_I_at d10, q, if_pos (by decide)]; exact hω
    obtain rfl | rfl | rfl | rfl | rfl | rfl : u = 0 ∨ u = 1 ∨ u = 2 ∨ u = 3 ∨ u = 4 ∨ u = 5 := by omega
    · exact HrOk.id1 hI rfl h0 (hfl _ (by decide) (Or.inr (by decide)))
    · exact HrOk.id1 hI rfl h0 (hfl _ (by decide) (Or.inr (by decide)))
    · exact hpr _ (Or.inl rfl)
    · exact hpr _ (Or.inr rfl)
    · exact hms _ (Or.inl rfl) (by omega)
    · exact hms _ (Or.inr rfl) (by omega)
theorem hear_4 (hK : KOk kk σ) (hI : Inv σ η) (he : e < 2 * nl σ) (hs : σ.1 10 e = 4 ∨ σ.1 10 e = 5) {bad : Bool} {u : Nat} (hu : u ≤ 5) {x2 : Int32} (hR : Rr1 σ e) (hx : x2 = if bad then 1 else 0) : HrOk kk (g_Md_arrive_76 (nI e) x2 (nI u)) (f_En_hear_21 (aE e) (hT bad u)) e (bad = false ∧ 4 ≤ u) σ η := by
  obtain ⟨⟨k1, k2, k3, k4, k5, k6, k7, k8, k9, k10, k11, k12, k13, k14, k15, k16, k17, k18, k19, k20, k21, k22⟩, kE, kF, kP, k4s⟩ := id hK
  obtain ⟨e1, e2, e3, e4, e5, e6, e7⟩ := kE e he
  obtain ⟨hH, hw, hL, hD, hC⟩ := id hI
  have hn10 := hw.1.2.1
  have he20 : e < 20 := by omega
  have d10 : e < md_len 10 := he20
  have d16 : e < md_len 16 := he20
  have d19 : e < md_len 19 := he20
  have hE := hw.e1 he20
  have h4 : (4 : Int32) ≤ σ.1 10 e := by rcases hs with q | q <;> rw [q] <;> decide
  have h3 : ¬ σ.1 10 e = 3 := by rcases hs with q | q <;> rw [q] <;> decide
  have h2 : ¬ σ.1 10 e = 2 := by rcases hs with q | q <;> rw [q] <;> decide
  have h1 : ¬ σ.1 10 e = 1 := by rcases hs with q | q <;> rw [q] <;> decide
  have h4' : ¬ σ.1 10 e < 4 := by rcases hs with q | q <;> rw [q] <;> decide
  obtain ⟨c, hc5, ec⟩ := hR.1 h4
  -- any state with another count and another credit
  have pk : ∀ (τ : sn_FS) (c' : Nat), Hf e σ τ → τ.1 10 e = σ.1 10 e → c' ≤ 5 → τ.1 16 e = nI c' → τ.1 11 e = σ.1 11 e → τ.1 22 e = σ.1 22 e → τ.1 24 e = σ.1 24 e → (Inv τ η ∧ PE η η ∧ TS σ τ ∧ FR0 σ τ) ∧ Rr1 τ e := by
    intro τ c' hf t10 hc' t16 t11 t22 t24
    refine ⟨hear_pack hI he hf (Or.inl rfl) (fun q => ?_) (Or.inl t10) (fun _ => ⟨c', by omega, t16⟩) (fun q => ?_) ?_ ?_ (Or.inl t11), fun _ => ⟨c', hc', t16⟩, fun q => ?_⟩
    · rw [t10] at q; exact absurd q h3
    · rw [t10] at q; exact absurd q h3
    · rw [t22]; exact hE.2.2.2.2.2.2.2.2.2.1
    · rw [t24]; exact hE.2.2.2.2.2.2.2.2.2.2.2.2.2
    · rw [t10] at q; exact absurd q h3
  have go : ∀ (τ : sn_FS) (c' : Nat), Hf e σ τ → τ.1 10 e = σ.1 10 e → c' ≤ 5 → τ.1 16 e = nI c' → τ.1 11 e = σ.1 11 e → τ.1 22 e = σ.1 22 e → τ.1 24 e = σ.1 24 e → f_En_hearReady (aE e) (hT bad u) (Kap kk σ η) = f_En_hearReady_37 (aE e) (hT bad u) (Kap kk τ η) → g_Md_serving (nI e) x2 (nI u) σ = g_Md_serving_41 (nI e) x2 (nI u) τ → HrOk kk (g_Md_arrive_76 (nI e) x2 (nI u)) (f_En_hear_21 (aE e) (hT bad u)) e (bad = false ∧ 4 ≤ u) σ η := by
    intro τ c' hf t10 hc' t16 t11 t22 t24 hcl hg
    obtain ⟨⟨p1, p2, p3, p4⟩, p5⟩ := pk τ c' hf t10 hc' t16 t11 t22 t24
    obtain ⟨ω, ζ, ⟨a1, a2, a3, a4⟩, a5, a6⟩ := hear_41 (hK.sp hf.sp) p1 (e := e) (by rw [hf.sp.nlE]; exact he) (by rw [t10]; exact hs) hu p5 hx
    refine ⟨ω, ζ, ⟨a1, p2.tr a2, p3.tr a3, p4.tr a4⟩, hf.tr a5, ?_⟩
    have hcl2 : ∀ r κ, f_En_hearReady_37 (aE e) (hT bad u) (Kap kk τ η) = some (some (.int r), κ) → f_En_hear_21 (aE e) (hT bad u) (Kap kk σ η) = some (some (.int r), κ) := fun r κ h => by
      rw [← hcl] at h
      simp only [f_En_hear_21, x_gI, e1, if_true, rd_E7, sn_sw, h1, h2, h3, if_false, x_nn, x_cI h, r_I]
    have hg2 : ∀ ω, g_Md_serving_41 (nI e) x2 (nI u) τ = some (none, ω) → g_Md_arrive_76 (nI e) x2 (nI u) σ = some (none, ω) := fun ω h => by
      rw [← hg] at h
      unfold g_Md_arrive_76
      rw [q_I_at d10, if_pos h1, q_I_at d10, if_pos h2, q_I_at d10, if_pos h3, q_I_at d10, if_neg h4', y_V_at h]
      rfl
    rcases a6 with ⟨z0, z1, z2⟩ | ⟨z1, z2, z3⟩ | ⟨z0, z1, z2, z3, z4⟩ | ⟨z0, z1, z2, z3, z4⟩
    · exact Or.inl ⟨z0, hcl2 _ _ z1, hg2 _ z2⟩
    · exact Or.inr (Or.inl ⟨hcl2 _ _ z1, z2, fun ω h => hg2 _ (z3 ω h)⟩)
    · exact Or.inr (Or.inr (Or.inl ⟨z0, z1, hcl2 _ _ z2, z3, fun ω h => hg2 _ (z4 ω h)⟩))
    · exact Or.inr (Or.inr (Or.inr ⟨z0, z1, hcl2 _ _ z2, z3, fun ω h => hg2 _ (z4 ω h)⟩))
  have hA : f_En_hearReady (aE e) (hT bad u) (Kap kk σ η) = (if ¬ ccd (σ.1 19 e + 1) = 0 then f_En_hearReady_37 (aE e) (hT bad u) else g_I 2 17 (some (aE e)) fun v8 => (if v8 ≤ 0 then f_En_hearReady_37 (aE e) (hT bad u) else g_I 2 17 (some (aE e)) fun v9 => p_I 2 17 (some (aE e)) (v9 - (1 : Int32)) (f_En_hearReady_37 (aE e) (hT bad u)))) (Kap kk (sI σ 19 e (σ.1 19 e + 1)) η) := by
    simp only [f_En_hearReady, x_gI, e1, if_true, rd_E18, ccd_1, x_pI, wr_E18, sn_upE, Nat.reduceEqDiff, reduceIte]
  have hB : g_Md_serving (nI e) x2 (nI u) σ = (if ¬ (σ.1 19 e + 1) % (16 : Int32) = 0 then g_Md_serving_41 (nI e) x2 (nI u) else q_I 16 (nI e) fun v11 => (if v11 ≤ 0 then g_Md_serving_41 (nI e) x2 (nI u) else q_I 16 (nI e) fun v12 => w_I 16 (nI e) (v12 - (1 : Int32)) (g_Md_serving_41 (nI e) x2 (nI u)))) (sI σ 19 e (σ.1 19 e + 1)) := by
    unfold g_Md_serving
    rw [q_I_at d19, w_I_at d19, q_I_at d19]
    have : (sI σ 19 e (σ.1 19 e + 1)).1 19 e = σ.1 19 e + 1 := by simp only [sn_upE, Nat.reduceEqDiff, reduceIte]
    rw [this]
  have hf1 : Hf e σ (sI σ 19 e (σ.1 19 e + 1)) := Hf.rf.sI (by decide)
  have q16 : (sI σ 19 e (σ.1 19 e + 1)).1 16 e = nI c := by rw [sI_ne (by decide)]; exact ec
  by_cases c0 : (σ.1 19 e + 1) % (16 : Int32) = 0
  · have c0' : ccd (σ.1 19 e + 1) = 0 := (ccd_0 _).mpr c0
    by_cases cz : c = 0
    · subst cz
      have oz : (nI 0 ≤ (0 : Int32)) := by decide
      refine go _ 0 hf1 (sI_ne (by decide)) (by omega) q16 (sI_ne (by decide)) (sI_ne (by decide)) (sI_ne (by decide)) ?_ ?_
      · rw [hA, if_neg (fun z => z c0')]
        simp only [x_gI, e1, if_true, rd_E17, sn_upE, Nat.reduceEqDiff, reduceIte, ec, oz]
      · rw [hB, if_neg (fun z => z c0), q_I_at d16, q16, if_pos oz]
    · have oz : ¬ (nI c ≤ (0 : Int32)) := fun q => by
        have := (nI_leI (a := c) (b := 0) (by omega) (by omega)).mp q
        omega
      have osub : nI c - (1 : Int32) = nI (c - 1) := nI_sub (a := c) (b := 1) (by omega)
      refine go (sI (sI σ 19 e (σ.1 19 e + 1)) 16 e (nI (c - 1))) (c - 1) (hf1.sI (by decide)) (by rw [sI_ne (by decide), sI_ne (by decide)]) (by omega) (by simp only [sn_upE, Nat.reduceEqDiff, reduceIte]) (by rw [sI_ne (by decide), sI_ne (by decide)]) (by rw [sI_ne (by decide), sI_ne (by decide)]) (by rw [sI_ne (by decide), sI_ne (by decide)]) ?_ ?_
      · rw [hA, if_neg (fun z => z c0')]
        simp only [x_gI, e1, if_true, rd_E17, sn_upE, Nat.reduceEqDiff, reduceIte, ec, oz, if_false, x_ite, osub, x_pI, wr_E17]
      · rw [hB, if_neg (fun z => z c0), q_I_at d16, q16, if_neg oz, q_I_at d16, q16, osub, w_I_at d16]
  · have c0' : ¬ ccd (σ.1 19 e + 1) = 0 := fun z => c0 ((ccd_0 _).mp z)
    refine go _ c hf1 (sI_ne (by decide)) hc5 q16 (sI_ne (by decide)) (sI_ne (by decide)) (sI_ne (by decide)) ?_ ?_
    · rw [hA, if_pos c0']
    · rw [hB, if_pos c0]
