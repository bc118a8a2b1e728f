/-! LAYER 2: going back -/
variable {kk : Nat → Nat} {σ : sn_FS}
theorem C1.line {τ : sn_FS} {c l l' : Nat} (h : C1 σ c) (hcf : CF σ τ) (hk : ∀ k, 53 ≤ k → k ≤ 60 → τ.1 k c = σ.1 k c) (hl : σ.1 52 c = nI l) (h52 : τ.1 52 c = nI l') (h1 : 3 ≤ l ∧ l ≤ 6) (h2 : 3 ≤ l' ∧ l' ≤ 6) : C1 τ c := by
  obtain ⟨a1, a2, a3, a4, a5, a6, a7, a8, a9, a10, a11⟩ := h
  have g := fun k (h : 53 ≤ k ∧ k ≤ 60) => hk k h.1 h.2
  have nz : ∀ x l, 3 ≤ l → l ≤ 6 → (x < 3 ∨ 6 < x) → x < 100 → ¬ nI l = nI x := fun x l p q r z w => by
    have := nI_inj (a := l) (b := x) (by omega) (by omega) w
    omega
  unfold C1
  rw [h52, g 53 (by decide), g 54 (by decide), g 55 (by decide), g 56 (by decide), g 57 (by decide), g 58 (by decide), g 59 (by decide), g 60 (by decide), hcf.sp.nbE]
  have e53 : σ.1 53 c = 0 := by
    by_cases z : σ.1 53 c = 0
    · exact z
    · exfalso
      rw [hl] at a8
      rcases a8 z with q | q | q | q
      · exact nz 1 l h1.1 h1.2 (by omega) (by omega) q
      · exact nz 2 l h1.1 h1.2 (by omega) (by omega) q
      · exact nz 7 l h1.1 h1.2 (by omega) (by omega) q
      · exact nz 8 l h1.1 h1.2 (by omega) (by omega) q
  have e54 : σ.1 54 c = 0 := by
    by_cases z : σ.1 54 c = 0
    · exact z
    · exfalso
      rw [hl] at a7
      exact nz 7 l h1.1 h1.2 (by omega) (by omega) (a7 z)
  refine ⟨⟨l', by omega, rfl⟩, a2, a3, a4, fun q => absurd q (nz 1 l' h2.1 h2.2 (by omega) (by omega)), fun q => ?_, fun q => absurd e54 q, fun q => absurd e53 q, a9, a10, fun q => ?_⟩
  · rcases q with q | q
    · exact absurd q (nz 0 l' h2.1 h2.2 (by omega) (by omega))
    · have := (seven_of (by omega)).mp q; omega
  · have := (a11 q).1
    rw [hl] at this
    exact absurd this (nz 0 l h1.1 h1.2 (by omega) (by omega))
/-- the frame of a step that joins nothing and parts nothing -/
def Lq (σ τ : sn_FS) (g : Nat) : Prop := (∀ g', lgv τ g' = lgv σ g') ∧ (∀ g', Vn g' → g' ≠ g → st τ g' = st σ g') ∧ (∀ g', lng τ g' = lng σ g') ∧ ∀ c, τ.1 58 c = σ.1 58 c
theorem ct_back (hB : Cb kk σ) (hI : CI σ) {g : Nat} (h : VL σ g) {kd : Nat} (hkd : kd = 8 ∨ kd = 9) : ∃ σ' new, Ct kk (g_Md_back (nI g) (nI kd)) (f_Sw_goBack 17 (some (aL g)) (nI kd)) none 1 σ σ' new ∧ Lq σ σ' g := by
  obtain ⟨hK, hG, hT⟩ := hB
  have hKo := hK
  obtain ⟨⟨k1, k2, k3, k4, k5, k6, k7, k8, k9, k10, k11, k12, k13, k14, k15, k16, k17, k18, k19, k20, k21, k22⟩, kE, kF, kP, k4s⟩ := id hK
  have hV := h.vn
  have hm1 : ¬ nI g = (-1 : Int32) := hV.m1
  have h4 := hKo.leg h
  have q1 : (some (aL g) = none) = False := by simp
  have his : ∀ η, f_Lg_isSubscriber (aL g) (Kap kk σ η) = some (some (.int (if g < 100 then 1 else 0)), Kap kk σ η) := fun η => fl_isSub hKo h
  have z10 : ((1 : Int32) = 0) = False := eq_false (by decide)
  -- the class, up to the state that it asks for
  have hcl : ∀ η, f_Sw_goBack 17 (some (aL g)) (nI kd) (Kap kk σ η) = f_Sw_goBack_16 17 (some (aL g)) (nI kd) (if kd = 8 then 1 else 0) (Kap kk σ η) := fun η => by
    rcases hkd with rfl | rfl
    · have o8 : ((nI 8 : Int32) = 8) = True := eq_true (by decide)
      simp only [f_Sw_goBack, q1, not_false_eq_true, if_true, o8, not_true_eq_false, if_false]
    · have o8 : ((nI 9 : Int32) = 8) = False := eq_false (by decide)
      simp only [f_Sw_goBack, q1, not_false_eq_true, if_true, o8]
      rfl
  by_cases c : g < 100
  · have hg24 : g < 24 := by unfold Vn at hV; omega
    have d61 : g < md_len 61 := hg24
    have hst : st σ g = σ.1 61 g := by unfold st; rw [if_neg (by omega)]
    have hsS : ∀ x τ, sSt g x τ = sI τ 61 g x := fun x τ => by unfold sSt; rw [if_neg (by omega)]
    have hge : ¬ (100 : Int32) ≤ nI g := fun q => by have := hV.ge.mp q; omega
    have e91 : ((nI 9 : Int32) = 8) = False := eq_false (by decide)
    have e99 : ((nI 9 : Int32) = 9) = True := eq_true (by decide)
    have e89 : ((nI 8 : Int32) = 9) = False := eq_false (by decide)
    have e88 : ((nI 8 : Int32) = 8) = True := eq_true (by decide)
    -- the state changes, or it does not
    have yes : ∀ (w w' : Nat), σ.1 61 g = nI w → w ≠ 0 → w' ≤ 5 → w' ≠ 0 → w' ≠ 5 → (∀ ms, g_Md_back (nI g) (nI kd) (Rt ms σ) = some (none, Rt ms (sI σ 61 g (nI w')))) → (∀ η, f_Sw_goBack 17 (some (aL g)) (nI kd) (Kap kk σ η) = some (none, Kap kk (sI σ 61 g (nI w')) η)) → ∃ σ' new, Ct kk (g_Md_back (nI g) (nI kd)) (f_Sw_goBack 17 (some (aL g)) (nI kd)) none 1 σ σ' new ∧ Lq σ σ' g := by
      intro w w' hw w0 w5 w1 w2 hg hf
      have hcf : CF σ (sI σ 61 g (nI w')) := CF.rf.sI (by decide)
      have hl : ∀ g', lgv (sI σ 61 g (nI w')) g' = lgv σ g' := fun g' => by unfold lgv; rw [sI_ne (by decide), sI_ne (by decide)]
      refine ⟨sI σ 61 g (nI w'), [], ⟨fun ms => by rw [List.append_nil]; exact hg ms, fun η ms hP _ => ⟨η, hf η, by rw [List.append_nil]; exact hP, HE.rf⟩, Nat.zero_le _, (fun m hm => by cases hm), hcf, CF_ts hcf (fun i => ⟨sI_ne (by decide), sI_ne (by decide)⟩), hI.1.mk' hcf hl, fun c' hc' => (hI.2.1 c' hc').mk' hcf (fun k _ _ _ => sI_ne (by omega)) (Or.inl (sI_ne (by decide))), fun p hp' => ?_⟩, hl, fun g' hv' hne => by rw [← hsS, st_sSt, if_neg hne], fun g' => by unfold lng; rw [sI_ne (by decide)], fun c => sI_ne (by decide)⟩
      by_cases e : p = g
      · subst e
        have h61 : (sI σ 61 p (nI w')).1 61 p = nI w' := by simp only [sn_upE, Nat.reduceEqDiff, reduceIte]
        refine ⟨⟨w', w5, h61⟩, fun q => ?_⟩
        rw [h61] at q
        rcases q with q | q
        · exact absurd (nI_inj (a := w') (b := 0) (by omega) (by omega) q) w1
        · exact absurd (nI_inj (a := w') (b := 5) (by omega) (by omega) q) w2
      · exact (hI.2.2 p hp').mk' (sI_nk e) (Or.inl (sI_ne (by decide)))
    have no : (∀ ms, g_Md_back (nI g) (nI kd) (Rt ms σ) = some (none, Rt ms σ)) → (∀ η, f_Sw_goBack 17 (some (aL g)) (nI kd) (Kap kk σ η) = some (none, Kap kk σ η)) → ∃ σ' new, Ct kk (g_Md_back (nI g) (nI kd)) (f_Sw_goBack 17 (some (aL g)) (nI kd)) none 1 σ σ' new ∧ Lq σ σ' g := fun hg hf => ⟨σ, [], Ct.id hI hg hf, fun _ => rfl, fun _ _ _ => rfl, fun _ => rfl, fun _ => rfl⟩
    rcases hkd with rfl | rfl
    · by_cases c1 : σ.1 61 g = 1
      · refine yes 1 2 c1 (by omega) (by omega) (by omega) (by omega) (fun ms => ?_) (fun η => ?_)
        · unfold g_Md_back
          rw [if_pos hm1, if_neg hge, if_neg (fun q => q (by decide)), qR d61 (by decide), c1, if_neg (fun q => q rfl), wRt d61 (by decide)]; rfl
        · have his := his η
          rw [if_pos c] at his
          rw [hcl, if_pos rfl]
          simp only [f_Sw_goBack_16, x_nn, h4, if_true, x_cI his, z10, if_false, x_ite, x_gI, rd_L3, hst, c1, f_Sw_goBack_37, not_true_eq_false, f_Sw_goBack_50, x_pI, wr_L3, hsS, f_Sw_goBack_97, r_V]
          rfl
      · refine no (fun ms => ?_) (fun η => ?_)
        · unfold g_Md_back
          rw [if_pos hm1, if_neg hge, if_neg (fun q => q (by decide)), qR d61 (by decide), if_pos c1]
          unfold g_Md_back_38
          rw [if_pos (by decide)]; rfl
        · have his := his η
          rw [if_pos c] at his
          rw [hcl, if_pos rfl]
          simp only [f_Sw_goBack_16, x_nn, h4, if_true, x_cI his, z10, if_false, x_ite, x_gI, rd_L3, hst, c1, f_Sw_goBack_37, not_false_eq_true, f_Sw_goBack_97, r_V]
    · by_cases c1 : σ.1 61 g = 2
      · refine yes 2 4 c1 (by omega) (by omega) (by omega) (by omega) (fun ms => ?_) (fun η => ?_)
        · unfold g_Md_back
          rw [if_pos hm1, if_neg hge, if_pos (by decide)]
          unfold g_Md_back_38
          rw [if_neg (fun q => q (by decide)), qR d61 (by decide), c1, if_neg (fun q => q rfl), wRt d61 (by decide)]; rfl
        · have his := his η
          rw [if_pos c] at his
          rw [hcl, if_neg (by decide)]
          simp only [f_Sw_goBack_16, x_nn, h4, if_true, x_cI his, z10, if_false, x_ite, x_gI, rd_L3, hst, c1, f_Sw_goBack_37, not_true_eq_false, f_Sw_goBack_50, x_pI, wr_L3, hsS, f_Sw_goBack_97, r_V]
          rfl
      · refine no (fun ms => ?_) (fun η => ?_)
        · unfold g_Md_back
          rw [if_pos hm1, if_neg hge, if_pos (by decide)]
          unfold g_Md_back_38
          rw [if_neg (fun q => q (by decide)), qR d61 (by decide), if_pos c1]; rfl
        · have his := his η
          rw [if_pos c] at his
          rw [hcl, if_neg (by decide)]
          simp only [f_Sw_goBack_16, x_nn, h4, if_true, x_cI his, z10, if_false, x_ite, x_gI, rd_L3, hst, c1, f_Sw_goBack_37, not_false_eq_true, f_Sw_goBack_97, r_V]
  · obtain ⟨hg1, hg2, hnb⟩ : 100 ≤ g ∧ g < 244 ∧ nb σ ((g - 100) / 24) ((g - 100) % 24 / 4) = true := by
      rcases h with q | q
      · omega
      · exact q
    have hc : g - 100 < 144 := by omega
    have haL : aL g = aC (g - 100) := by unfold aL; rw [if_pos hg1]
    have d52 : g - 100 < md_len 52 := hc
    obtain ⟨n, hn64, en⟩ := (hI.2.1 (g - 100) hc).2.1
    have hge : (100 : Int32) ≤ nI g := hV.ge.mpr hg1
    have hst : st σ g = σ.1 52 (g - 100) := by unfold st; rw [if_pos hg1]
    have hsS : ∀ x τ, sSt g x τ = sI τ 52 (g - 100) x := fun x τ => by unfold sSt; rw [if_pos hg1]
    have yes : ∀ (w w' : Nat), σ.1 52 (g - 100) = nI w → (3 ≤ w ∧ w ≤ 5) → w' = w + 1 → (∀ ms, g_Md_back (nI g) (nI kd) (Rt ms σ) = g_Md_back_99 (nI kd) (nI (g - 100)) (Rt ms σ)) → (∀ η, f_Sw_goBack 17 (some (aL g)) (nI kd) (Kap kk σ η) = f_Sw_goBack_83 17 (some (aL g)) (nI kd) (some (aL g)) (nI w') (Kap kk σ η)) → ∃ σ' new, Ct kk (g_Md_back (nI g) (nI kd)) (f_Sw_goBack 17 (some (aL g)) (nI kd)) none 1 σ σ' new ∧ Lq σ σ' g := by
      intro w w' hw w35 hw' hg hf
      have hcf : CF σ (sI σ 52 (g - 100) (nI w')) := CF.rf.sI (by decide)
      have hl : ∀ g', lgv (sI σ 52 (g - 100) (nI w')) g' = lgv σ g' := fun g' => by unfold lgv; rw [sI_ne (by decide), sI_ne (by decide)]
      have h52 : (sI σ 52 (g - 100) (nI w')).1 52 (g - 100) = nI w' := by simp only [sn_upE, Nat.reduceEqDiff, reduceIte]
      refine ⟨sI σ 52 (g - 100) (nI w'), [mS kd (g - 100) n 0], ⟨fun ms => ?_, fun η ms hP hl' => ?_, by simp, fun m hm => ?_, hcf, CF_ts hcf (fun i => ⟨sI_ne (by decide), sI_ne (by decide)⟩), hI.1.mk' hcf hl, fun c' hc' => ?_, fun p hp' => (hI.2.2 p hp').mk' (sI_ne (by decide)) (Or.inl (sI_ne (by decide)))⟩, hl, fun g' hv' hne => by rw [← hsS, st_sSt, if_neg hne], fun g' => by unfold lng; rw [sI_ne (by decide)], fun c => sI_ne (by decide)⟩
      · rw [hg]
        unfold g_Md_back_99
        have hs := gl_say (kd := kd) (b := 0) hG hT (by omega) hc hn64 en (by decide) ms
        have hs : g_Md_say (nI (g - 100)) (nI kd) 0 (Rt ms σ) = _ := hs
        rw [y_V_at hs, qR d52 (by decide), hw, nI_1, wRt d52 (by decide), ← hw']; rfl
      · obtain ⟨θ, t1, t2, t3⟩ := fl_post (kk := kk) (η := η) (σ := sI σ 52 (g - 100) (nI w')) (hKo.sp hcf.sp) (kd := kd) (b := 0) (by omega) hc hn64 (by decide) (by rw [hcf.sp.nbE]; exact hnb) hP (by omega)
        have t1 : f_Sw_post 17 (some (aC (g - 100))) (nI kd) (nI n) 0 _ = _ := t1
        refine ⟨θ, ?_, t2, t3⟩
        rw [hf]
        have e59 : (sI σ 52 (g - 100) (nI w')).1 59 (g - 100) = nI n := by rw [sI_ne (by decide)]; exact en
        rw [haL] at h4 ⊢
        simp only [f_Sw_goBack_83, x_pI, h4, if_true, wr_C3, x_gI, rd_C10, sn_upE, Nat.reduceEqDiff, reduceIte, en, x_nn, k17, x_cV t1, f_Sw_goBack_97, r_V]
      · simp at hm
        subst hm
        exact mS_mv (by omega) (by omega) hc hn64 (by decide) hnb (fun q => by omega)
      · by_cases e : c' = g - 100
        · subst e
          exact (hI.2.1 _ hc').line hcf (fun k h1 h2 => sI_ne (by omega)) hw h52 (by omega) (by omega)
        · exact (hI.2.1 c' hc').mk' hcf (fun k _ _ _ => sI_nk e) (Or.inl (sI_ne (by decide)))
    have no : (∀ ms, g_Md_back (nI g) (nI kd) (Rt ms σ) = some (none, Rt ms σ)) → (∀ η, f_Sw_goBack 17 (some (aL g)) (nI kd) (Kap kk σ η) = some (none, Kap kk σ η)) → ∃ σ' new, Ct kk (g_Md_back (nI g) (nI kd)) (f_Sw_goBack 17 (some (aL g)) (nI kd)) none 1 σ σ' new ∧ Lq σ σ' g := fun hg hf => ⟨σ, [], Ct.id hI hg hf, fun _ => rfl, fun _ _ _ => rfl, fun _ => rfl, fun _ => rfl⟩
    rcases hkd with rfl | rfl
    · by_cases c1 : σ.1 52 (g - 100) = 4
      · refine yes 4 5 c1 (by omega) (by omega) (fun ms => ?_) (fun η => ?_)
        · unfold g_Md_back
          rw [if_pos hm1, if_pos hge, Vn.sub hg1]
          show (if ¬ (nI 8 : Int32) = 8 then g_Md_back_83 (nI 8) (nI (g - 100)) else q_I 52 (nI (g - 100)) fun v6 => if v6 = (4 : Int32) then g_Md_back_99 (nI 8) (nI (g - 100)) else g_Md_back_83 (nI 8) (nI (g - 100))) (Rt ms σ) = _
          rw [if_neg (fun q => q (by decide)), qR d52 (by decide), if_pos c1]
        · have his := his η
          rw [if_neg c] at his
          rw [hcl, if_pos rfl]
          simp only [f_Sw_goBack_16, x_nn, h4, if_true, x_cI his, x_gI, rd_L3, hst, c1, z10, if_false, x_ite, f_Sw_goBack_69, not_true_eq_false]
          rfl
      · refine no (fun ms => ?_) (fun η => ?_)
        · unfold g_Md_back
          rw [if_pos hm1, if_pos hge, Vn.sub hg1]
          show (if ¬ (nI 8 : Int32) = 8 then g_Md_back_83 (nI 8) (nI (g - 100)) else q_I 52 (nI (g - 100)) fun v6 => if v6 = (4 : Int32) then g_Md_back_99 (nI 8) (nI (g - 100)) else g_Md_back_83 (nI 8) (nI (g - 100))) (Rt ms σ) = _
          rw [if_neg (fun q => q (by decide)), qR d52 (by decide), if_neg c1]
          unfold g_Md_back_83
          rw [if_pos (by decide)]; rfl
        · have his := his η
          rw [if_neg c] at his
          rw [hcl, if_pos rfl]
          simp only [f_Sw_goBack_16, x_nn, h4, if_true, x_cI his, x_gI, rd_L3, hst, c1, z10, if_false, x_ite, f_Sw_goBack_69, not_false_eq_true, f_Sw_goBack_97, r_V]
    · by_cases c1 : σ.1 52 (g - 100) = 5
      · refine yes 5 6 c1 (by omega) (by omega) (fun ms => ?_) (fun η => ?_)
        · unfold g_Md_back
          rw [if_pos hm1, if_pos hge, Vn.sub hg1]
          show (if ¬ (nI 9 : Int32) = 8 then g_Md_back_83 (nI 9) (nI (g - 100)) else q_I 52 (nI (g - 100)) fun v6 => if v6 = (4 : Int32) then g_Md_back_99 (nI 9) (nI (g - 100)) else g_Md_back_83 (nI 9) (nI (g - 100))) (Rt ms σ) = _
          rw [if_pos (by decide)]
          unfold g_Md_back_83
          rw [if_neg (fun q => q (by decide)), qR d52 (by decide), if_neg (fun q => q c1)]
        · have his := his η
          rw [if_neg c] at his
          rw [hcl, if_neg (by decide)]
          simp only [f_Sw_goBack_16, x_nn, h4, if_true, x_cI his, x_gI, rd_L3, hst, c1, f_Sw_goBack_69, not_true_eq_false, if_false]
          rfl
      · refine no (fun ms => ?_) (fun η => ?_)
        · unfold g_Md_back
          rw [if_pos hm1, if_pos hge, Vn.sub hg1]
          show (if ¬ (nI 9 : Int32) = 8 then g_Md_back_83 (nI 9) (nI (g - 100)) else q_I 52 (nI (g - 100)) fun v6 => if v6 = (4 : Int32) then g_Md_back_99 (nI 9) (nI (g - 100)) else g_Md_back_83 (nI 9) (nI (g - 100))) (Rt ms σ) = _
          rw [if_pos (by decide)]
          unfold g_Md_back_83
          rw [if_neg (fun q => q (by decide)), qR d52 (by decide), if_pos c1]; rfl
        · have his := his η
          rw [if_neg c] at his
          rw [hcl, if_neg (by decide)]
          simp only [f_Sw_goBack_16, x_nn, h4, if_true, x_cI his, x_gI, rd_L3, hst, c1, f_Sw_goBack_69, not_false_eq_true, f_Sw_goBack_97, r_V]
