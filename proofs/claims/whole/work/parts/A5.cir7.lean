/-! LAYER 2: connecting, whole -/
variable {kk : Nat → Nat} {σ : sn_FS}
theorem Ct.pre {g g' : sn_G} {f f' : sn_M} {rv rv' : Option Value} {b : Nat} {τ ω : sn_FS} {new : List Msg} (h : Ct kk g' f' rv b τ ω new) (hcf : CF σ τ) (hts : TS σ τ) (hg : ∀ ms ρ, g' (Rt ms τ) = some (none, ρ) → g (Rt ms σ) = some (none, ρ)) (hf : ∀ η κ, f' (Kap kk τ η) = some (rv, κ) → f (Kap kk σ η) = some (rv', κ)) : Ct kk g f rv' b σ ω new := by
  obtain ⟨a1, a2, a3, a4, a5, a6, a7⟩ := h
  refine ⟨fun ms => hg ms _ (a1 ms), fun η ms hP hl => ?_, a3, fun m hm => ?_, hcf.tr a5, hts.tr a6, a7⟩
  · obtain ⟨θ, c1, c2, c3⟩ := a2 η ms hP hl
    exact ⟨θ, hf η _ c1, c2, c3⟩
  · have := a4 m hm; rw [MV.sp hcf.sp] at this; exact this
theorem sLg_61 {g s : Nat} {v w : Int32} : sI (sLg g v σ) 61 s w = sLg g v (sI σ 61 s w) := by
  unfold sLg
  split
  · exact (sI_sw (k := 61) (k' := 57) (by decide)).symm
  · exact sI_sw (k := 62) (k' := 61) (by decide)
theorem fk_is (hT : ToldOk σ) {k x e g c : Nat} (hk : k = 50 ∨ k = 51) (hx : x < 6) (he : e < 6) (h : fk σ k x e g = some c) : c < 144 ∧ c / 24 = x ∧ nb σ (c / 24) (c % 24 / 4) = true ∧ σ.1 52 c = 0 := by
  unfold fk at h
  cases ht : tldn σ k x e with
  | none => rw [ht] at h; cases h
  | some n =>
    rw [ht] at h
    have h : (if ng g = nI n then none else fre σ x n 4) = some c := h
    unfold tldn at ht
    obtain ⟨n', t1, t2⟩ := Option.bind_eq_some_iff.mp ht
    have hnl := tld_lt hT hk hx he t1
    have hnb : nb σ x n = true ∧ n' = n := by
      split at t2
      · cases t2; exact ⟨by assumption, rfl⟩
      · cases t2
    split at h
    · cases h
    · obtain ⟨a1, a2, a3, a4⟩ := fre_is hx (by rw [← hnb.2]; exact hnl.1) 4 (by omega) h
      exact ⟨a1, a2, by rw [a2, a3]; exact hnb.1, a4⟩
theorem Cf.lf {τ : sn_FS} {g : Nat} (h : Lf σ τ g) (hl : lgv σ g = -1) : Cf σ τ g := fun g' hv hne _ => by
  obtain ⟨a, b, -⟩ := h g' hv hne
  refine ⟨?_, b⟩
  rw [a, hl, if_neg (fun q => hv.m1 q.symm)]
theorem ct_conn (hB : Cb kk σ) (hI : CI σ) {g to : Nat} (hg : VL σ g) (hlg : lgv σ g = -1) (hin : inC σ g) (hto : numOk to) : ∃ σ' new, Ct kk (g_Md_connect (nI (xg g)) (nI g) (nI to)) (f_Sw_connect 17 (some (aL g)) (nI to)) none 1 σ σ' new ∧ Cf σ σ' g := by
  have hB0 := hB
  obtain ⟨hK, hG, hT⟩ := hB
  have hKo := hK
  obtain ⟨⟨k1, k2, k3, k4, k5, k6, k7, k8, k9, k10, k11, k12, k13, k14, k15, k16, k17, k18, k19, k20, k21, k22⟩, kE, kF, kP, k4s⟩ := id hK
  have hV := hg.vn
  have hx := xg_lt hV
  have h4 := hKo.leg hg
  have hto2 := hto
  unfold numOk at hto2
  have z10 : ((1 : Int32) = 0) = False := eq_false (by decide)
  -- letting go
  obtain ⟨σL, nL, hL, hL1, hL2, -⟩ := ct_letGo hB0 hI hg
  have hfL : ∀ (x3 : Int32) η κ, f_Sw_letGo 17 (some (aL g)) (Kap kk σ η) = some (none, κ) → f_Sw_connect_38 17 (some (aL g)) (nI to) x3 none (Kap kk σ η) = some (none, κ) := fun x3 η κ h => by
    simp only [f_Sw_connect_38, not_true_eq_false, if_false, x_nn, k17, if_true, x_cV h, r_V]
  by_cases ch : to / 10 = xg g
  · -- a subscriber here
    obtain ⟨s, hs⟩ : ∃ s, s = 4 * (to / 10) + to % 10 := ⟨_, rfl⟩
    have hs24 : s < 24 := by omega
    have d61 : s < md_len 61 := hs24
    have hVs : VL σ s := Or.inl hs24
    have haL : aL s = aP s := by unfold aL; rw [if_neg (by omega)]
    have hsub : ∀ η, f_Sw_subscriberAt 17 (nI to) (Kap kk σ η) = some (some (va_rf (some (aP s))), Kap kk σ η) := fun η => by rw [hs]; exact fl_subAt hKo hto
    have hkp := kP s hs24
    have q1 : (some (aP s) = none) = False := by simp
    have hcl : ∀ η, f_Sw_connect 17 (some (aL g)) (nI to) (Kap kk σ η) = f_Sw_connect_38 17 (some (aL g)) (nI to) 1 (if σ.1 61 s = 0 then some (aP s) else none) (Kap kk σ η) := fun η => by
      have hid : f_Sw_idleSubscriber 17 (nI to) (Kap kk σ η) = some (some (va_rf (if σ.1 61 s = 0 then some (aP s) else none)), Kap kk σ η) := by
        by_cases c : σ.1 61 s = 0
        · simp only [f_Sw_idleSubscriber, x_nn, k17, if_true, x_cR (hsub η), q1, if_false, x_ite, x_gI, hkp, rd_P3, c, not_true_eq_false, f_Sw_idleSubscriber_22, r_R]
        · simp only [f_Sw_idleSubscriber, x_nn, k17, if_true, x_cR (hsub η), q1, if_false, x_ite, x_gI, hkp, rd_P3, c, not_false_eq_true, f_Sw_idleSubscriber_21, f_Sw_idleSubscriber_22, r_R]
      have e1 : (nI (xg g) = nI (xg g)) = True := eq_true rfl
      simp only [f_Sw_connect, x_gI, h4, if_true, rd_L0, t10 to hto2.1, ch, not_true_eq_false, if_false, f_Sw_connect_16, z10, x_ite, x_nn, k17, x_cR hid]
    have e15 : ((4 : Int32) * nI (xg g)) + (nI to % (10 : Int32)) = nI s := by
      have : (4 : Int32) * nI (xg g) = nI (4 * xg g) := pk_mul 4 _
      rw [this, t1m to hto2.1, nI_add, ← ch, ← hs]
    have hgl : ∀ ms, g_Md_connect (nI (xg g)) (nI g) (nI to) (Rt ms σ) = (if σ.1 61 s = 0 then w_I 61 (nI s) (3 : Int32) (y_V (g_Md_join (nI g) (nI s)) (y_V (g_Md_back (nI g) (8 : Int32)) (z_V))) else y_V (g_Md_letGo (nI g)) (z_V)) (Rt ms σ) := fun ms => by
      unfold g_Md_connect
      rw [t10 to hto2.1, ch]
      show (if ¬ nI (xg g) = nI (xg g) then _ else y_nI ((((4 : Int32) * nI (xg g)) + (nI to % (10 : Int32)))) fun n15 => q_I 61 n15 fun v16 => (if v16 = 0 then w_I 61 n15 (3 : Int32) (y_V (g_Md_join (nI g) n15) (y_V (g_Md_back (nI g) (8 : Int32)) (z_V))) else y_V (g_Md_letGo (nI g)) (z_V))) (Rt ms σ) = _
      rw [if_neg (fun q => q rfl), e15]
      show (q_I 61 (nI s) fun v16 => (if v16 = 0 then w_I 61 (nI s) (3 : Int32) (y_V (g_Md_join (nI g) (nI s)) (y_V (g_Md_back (nI g) (8 : Int32)) (z_V))) else y_V (g_Md_letGo (nI g)) (z_V))) (Rt ms σ) = _
      rw [qR d61 (by decide)]
    by_cases c0 : σ.1 61 s = 0
    · have hne : g ≠ s := fun q => by
        have := (hin.1 (by omega)).1
        rw [q] at this
        exact this c0
      have hls : lgv σ s = -1 := by rw [lgv_62 hs24]; exact (hI.2.2 s hs24).2 (Or.inl c0)
      have hxs : xg s = xg g := by unfold xg; rw [if_neg (by omega)]; have : s / 4 = to / 10 := by omega
                                   rw [this, ch]; rfl
      have hcfa : CF σ (sI σ 61 s 3) := CF.rf.sI (by decide)
      have hla : ∀ g', lgv (sI σ 61 s 3) g' = lgv σ g' := fun g' => by unfold lgv; rw [sI_ne (by decide), sI_ne (by decide)]
      have hJa := hI.1.mk' hcfa hla
      have hcf1 : CF σ (sLg s (nI g) (sLg g (nI s) (sI σ 61 s 3))) := hcfa.sLg.sLg
      have hJ1 := join_J hJa (a := g) (b := s) (by rw [hcfa.vl]; exact hg) (by rw [hcfa.vl]; exact hVs) hne hxs.symm (by rw [hla]; exact hlg) (by rw [hla]; exact hls)
      have hl1 : ∀ g', lgv (sLg s (nI g) (sLg g (nI s) (sI σ 61 s 3))) g' = if g' = s then nI g else if g' = g then nI s else lgv σ g' := fun g' => by rw [lgv_sLg, lgv_sLg, hla]
      have hI1 : CI (sLg s (nI g) (sLg g (nI s) (sI σ 61 s 3))) := by
        refine ⟨hJ1, fun c' hc' => ?_, fun p hp => ?_⟩
        · refine (hI.2.1 c' hc').mk' hcf1 (fun k _ _ _ => by rw [sLg_I (by omega), sLg_I (by omega), sI_ne (by omega)]) ?_
          have := hl1 (100 + c')
          rw [lgv_57, lgv_57, if_neg (by omega)] at this
          rw [this]
          by_cases eg : 100 + c' = g
          · right; right
            have := hin.2 (by omega)
            rw [← eg, Nat.add_sub_cancel_left] at this
            exact this
          · rw [if_neg eg]; exact Or.inl rfl
        · have h61 : (sLg s (nI g) (sLg g (nI s) (sI σ 61 s 3))).1 61 p = (sI σ 61 s 3).1 61 p := by rw [sLg_I (by decide), sLg_I (by decide)]
          by_cases es : p = s
          · subst es
            refine ⟨⟨3, by omega, ?_⟩, fun q => ?_⟩
            · rw [h61]; simp only [sn_upE, Nat.reduceEqDiff, reduceIte]; rfl
            · rw [h61] at q
              have : (sI σ 61 p 3).1 61 p = 3 := by simp only [sn_upE, Nat.reduceEqDiff, reduceIte]
              rw [this] at q
              rcases q with q | q <;> exact absurd q (by decide)
          · refine (hI.2.2 p hp).mk' (by rw [h61, sI_nk es]) ?_
            have := hl1 p
            rw [lgv_62 hp, lgv_62 hp, if_neg es] at this
            rw [this]
            by_cases eg : p = g
            · right; right; rw [eg]; exact hin.1 (by omega)
            · rw [if_neg eg]; exact Or.inl rfl
      have hts1 : TS σ (sLg s (nI g) (sLg g (nI s) (sI σ 61 s 3))) := CF_ts hcf1 (fun i => ⟨by rw [sLg_I (by decide), sLg_I (by decide), sI_ne (by decide)], by rw [sLg_I (by decide), sLg_I (by decide), sI_ne (by decide)]⟩)
      obtain ⟨ω, new, hb, hq⟩ := ct_back (hcf1.cb hB0) hI1 (g := g) (by rw [hcf1.vl]; exact hg) (kd := 8) (Or.inl rfl)
      refine ⟨ω, new, hb.pre hcf1 hts1 (fun ms ρ h => ?_) (fun η κ h => ?_), fun g' hv' hne' hs0 => ?_⟩
      · have h : g_Md_back (nI g) 8 (Rt ms (sLg s (nI g) (sLg g (nI s) (sI σ 61 s 3)))) = some (none, ρ) := h
        rw [hgl, if_pos c0, wRt d61 (by decide), y_V_at (gl_join hV hVs.vn ms), y_V_at h]; rfl
      · have hjn := fl_join (kk := kk) (η := η) hKo hg hVs
        rw [haL] at hjn
        have hkq : u_I (Kap kk (sLg s (nI g) (sLg g (nI s) σ)) η) (aP s) 3 3 = Kap kk (sLg s (nI g) (sLg g (nI s) (sI σ 61 s 3))) η := by
          rw [wr_P3, sLg_61, sLg_61]
        have h : f_Sw_goBack 17 (some (aL g)) 8 (Kap kk (sLg s (nI g) (sLg g (nI s) (sI σ 61 s 3))) η) = some (none, κ) := h
        rw [hcl, if_pos c0]
        simp only [f_Sw_connect_38, q1, not_false_eq_true, if_true, x_cV hjn, z10, if_false, x_ite, x_pI, hkp, hkq, x_nn, k17, x_cV h, f_Sw_connect_90, r_V]
      · have hne2 : g' ≠ s := fun q => hs0 (by rw [q]; unfold st; rw [if_neg (by omega)]; exact c0)
        refine ⟨by rw [hq.1, hl1, if_neg hne2, if_neg hne'], ?_⟩
        rw [hq.2.1 g' hv' hne', st_sLg, st_sLg]
        have : sI σ 61 s 3 = sSt s 3 σ := by unfold sSt; rw [if_neg (by omega)]
        rw [this, st_sSt, if_neg hne2]
    · refine ⟨σL, nL, hL.pre CF.rf TS.rf (fun ms ρ h => ?_) (fun η κ h => ?_), Cf.lf hL2 hlg⟩
      · rw [hgl, if_neg c0, y_V_at h]; rfl
      · rw [hcl, if_neg c0]; exact hfL _ _ _ h
  · -- on to another exchange
    have he6 : to / 10 < 6 := by omega
    obtain ⟨l0, hl6, el⟩ : ∃ l0, l0 ≤ 6 ∧ lng σ g = nI l0 := by
      unfold lng
      by_cases c : 100 ≤ g
      · rw [if_pos c]; exact (hI.2.1 (g - 100) (by unfold Vn at hV; omega)).2.2.1
      · rw [if_neg c]; exact ⟨0, by omega, rfl⟩
    have hgl : ∀ ms, g_Md_connect (nI (xg g)) (nI g) (nI to) (Rt ms σ) = if 7 ≤ l0 + 1 then g_Md_connect_310 (nI g) (Rt ms σ) else match (fk σ 50 (xg g) (to / 10) g).or (fk σ 51 (xg g) (to / 10) g) with
        | some c => gTk g (l0 + 1) to c (Rt ms σ)
        | none => g_Md_connect_310 (nI g) (Rt ms σ) := fun ms => by
      refine Eq.trans ?_ (gl_c87 hG.1 hT hx he6 hV (len := l0 + 1) (by omega) ms (to := to))
      have hne : ¬ nI (to / 10) = nI (xg g) := fun q => ch (nI_inj (by omega) (by omega) q)
      unfold g_Md_connect
      rw [t10 to hto2.1]
      show (if ¬ nI (to / 10) = nI (xg g) then (if (100 : Int32) ≤ nI g then q_I 60 (nI g - (100 : Int32)) fun v14 => g_Md_connect_82 (nI (xg g)) (nI g) (nI to) (nI (to / 10)) (v14 + (1 : Int32)) else g_Md_connect_82 (nI (xg g)) (nI g) (nI to) (nI (to / 10)) (1 : Int32)) else _) (Rt ms σ) = _
      rw [if_pos hne]
      by_cases c : 100 ≤ g
      · have d60 : g - 100 < md_len 60 := by show _ < 144; unfold Vn at hV; omega
        have : σ.1 60 (g - 100) = nI l0 := by unfold lng at el; rw [if_pos c] at el; exact el
        rw [if_pos (hV.ge.mpr c), Vn.sub c, qR d60 (by decide), this, nI_1]
      · have hl0 : l0 = 0 := by
          unfold lng at el
          rw [if_neg c] at el
          exact (nI_inj (a := 0) (b := l0) (by omega) (by omega) el).symm
        rw [if_neg (fun q => c (hV.ge.mp q)), hl0]; rfl
    have hcl : ∀ η, f_Sw_connect 17 (some (aL g)) (nI to) (Kap kk σ η) = f_Sw_connect_38 17 (some (aL g)) (nI to) 0 (if 7 ≤ l0 + 1 then none else ((fk σ 50 (xg g) (to / 10) g).or (fk σ 51 (xg g) (to / 10) g)).map aC) (Kap kk σ η) := fun η => by
      have hid := fl_idle (η := η) hKo hG.1 hT hg he6 el (by omega)
      have hne : (nI (to / 10) = nI (xg g)) = False := eq_false (fun q => ch (nI_inj (by omega) (by omega) q))
      simp only [f_Sw_connect, x_gI, h4, if_true, rd_L0, t10 to hto2.1, hne, not_false_eq_true, f_Sw_connect_16, x_nn, k17, x_cR hid]
    have hgL : ∀ ms ρ, g_Md_letGo (nI g) (Rt ms σ) = some (none, ρ) → g_Md_connect_310 (nI g) (Rt ms σ) = some (none, ρ) := fun ms ρ h => by
      unfold g_Md_connect_310
      rw [y_V_at h]; rfl
    by_cases c7 : 7 ≤ l0 + 1
    · refine ⟨σL, nL, hL.pre CF.rf TS.rf (fun ms ρ h => ?_) (fun η κ h => ?_), Cf.lf hL2 hlg⟩
      · rw [hgl, if_pos c7]; exact hgL ms ρ h
      · rw [hcl, if_pos c7]; exact hfL _ _ _ h
    · cases hfo : (fk σ 50 (xg g) (to / 10) g).or (fk σ 51 (xg g) (to / 10) g) with
      | none =>
        rw [hfo] at hgl hcl
        refine ⟨σL, nL, hL.pre CF.rf TS.rf (fun ms ρ h => ?_) (fun η κ h => ?_), Cf.lf hL2 hlg⟩
        · rw [hgl, if_neg c7]; exact hgL ms ρ h
        · rw [hcl, if_neg c7]; exact hfL _ _ _ h
      | some c =>
        rw [hfo] at hgl hcl
        have hcc : c < 144 ∧ c / 24 = xg g ∧ nb σ (c / 24) (c % 24 / 4) = true ∧ σ.1 52 c = 0 := by
          cases h5 : fk σ 50 (xg g) (to / 10) g with
          | some c' =>
            rw [h5] at hfo
            have : c' = c := by simpa using hfo
            subst this
            exact fk_is hT (Or.inl rfl) hx he6 h5
          | none =>
            rw [h5] at hfo
            exact fk_is hT (Or.inr rfl) hx he6 (by simpa using hfo)
        obtain ⟨a1, a2, a3, a4⟩ := hcc
        obtain ⟨ω, new, hA, hC⟩ := ct_ask (to := to) (len := l0 + 1) hB0 hI hg hlg hin a1 a2 a3 a4 hto (by omega) (by rw [el, nI_1])
        refine ⟨ω, new, hA.pre CF.rf TS.rf (fun ms ρ h => ?_) (fun η κ h => ?_), hC⟩
        · rw [hgl, if_neg c7]; exact h
        · rw [hcl, if_neg c7, ← h]
          have q1 : (some (aC c) = none) = False := by simp
          have hm : Option.map aC (some c) = some (aC c) := rfl
          rw [hm]
          simp only [f_Sw_connect_38, q1, not_false_eq_true, if_true, f_Sw_connect_90]
