/-! LAYER 2: timers of circuits: all -/
variable {kk : Nat → Nat} {σ : sn_FS}
theorem y_V_use {f K : sn_G} {σ : sn_FS} {x : Option Value × sn_FS} (h : y_V f K σ = some x) : ∃ τ, f σ = some (none, τ) ∧ K τ = some x := by
  unfold y_V at h
  split at h
  · rename_i τ hτ
    exact ⟨τ, hτ, h⟩
  · cases h
theorem CI.c53 (hI : CI σ) {c : Nat} {v : Int32} (hc : c < 144) (hnb : nb σ (c / 24) (c % 24 / 4) = true) (h : v = 0 ∨ σ.1 52 c = 1 ∨ σ.1 52 c = 2 ∨ σ.1 52 c = 7 ∨ σ.1 52 c = 8) : CI (sI σ 53 c v) := by
  have hcf : CF σ (sI σ 53 c v) := CF.rf.sI (by decide)
  refine CI.one (c := c) hI hcf (fun k i _ _ h => ?_) (fun _ => ?_)
  · rcases h with h | h
    · exact sI_nk h
    · exact sI_ne (by omega)
  · obtain ⟨a1, a2, a3, a4, a5, a6, a7, a8, a9, a10, a11⟩ := hI.2.1 c hc
    have t53 : (sI σ 53 c v).1 53 c = v := by simp only [sn_upE, Nat.reduceEqDiff, reduceIte]
    unfold C1
    rw [t53, sI_ne (k' := 52) (by decide), sI_ne (k' := 54) (by decide), sI_ne (k' := 55) (by decide), sI_ne (k' := 56) (by decide), sI_ne (k' := 57) (by decide), sI_ne (k' := 58) (by decide), sI_ne (k' := 59) (by decide), sI_ne (k' := 60) (by decide), hcf.sp.nbE]
    refine ⟨a1, a2, a3, a4, a5, a6, a7, fun q => ?_, a9, a10, fun q => by rw [hnb] at q; cases q⟩
    rcases h with h | h
    · exact absurd h q
    · exact h
theorem ct_first (hB : Cb kk σ) (hI : CI σ) (hC : ClOk σ) {c : Nat} (hc : c < 144) (hnb : nb σ (c / 24) (c % 24 / 4) = true) (h53 : Tm 0 σ 53 c) (h54 : Tm 0 σ 54 c) {d : Decidable (out σ 53 c)} : ∃ σ1 n1 g1, Ct kk g1 (if out σ 53 c then f_Sw_timeOut 17 (some (aC c)) else r_V) none 2 σ σ1 n1 ∧ (∀ ms ρ, g1 (Rt ms σ) = some (none, ρ) → g_Md_lineTimer (nI c) (Rt ms σ) = g_Md_lineTimer_139 (nI c) ρ) ∧ (out σ1 54 c ↔ out σ 54 c) ∧ Tm 1 σ1 53 c ∧ Tm 0 σ1 54 c ∧ (¬ out σ 53 c → n1 = []) := by
  have hB0 := hB
  obtain ⟨hK, hG, hT⟩ := hB
  have hKo := hK
  obtain ⟨⟨k1, k2, k3, k4, k5, k6, k7, k8, k9, k10, k11, k12, k13, k14, k15, k16, k17, k18, k19, k20, k21, k22⟩, kE, kF, kP, k4s⟩ := id hK
  obtain ⟨f1, f2, f3, f4⟩ := kF c hc hnb
  have hC1 := hI.2.1 c hc
  obtain ⟨n, hn64, en⟩ := hC1.2.1
  have d52 : c < md_len 52 := hc
  have d53 : c < md_len 53 := hc
  have d57 : c < md_len 57 := hc
  have up2 : ∀ {g f rv σ' new}, Ct kk g f rv 1 σ σ' new → Ct kk g f rv 2 σ σ' new := fun ⟨a1, a2, a3, a4⟩ => ⟨a1, fun η ms hP hl => a2 η ms hP (by omega), by omega, a4⟩
  have h6 : ∀ (ms : List Msg) (τ : sn_FS), τ.1 6 0 = σ.1 6 0 → ∀ K : Int32 → sn_G, q_S 6 K (Rt ms τ) = K (σ.1 6 0) (Rt ms τ) := fun ms τ h K => by
    show K ((Rt ms τ).1 6 0) (Rt ms τ) = _
    rw [Rt_q (by decide), h]
  by_cases ho : out σ 53 c
  · have hst := hC1.2.2.2.2.2.2.2.1 ho.1
    have h100 : (100 : Int32) + nI c = nI (100 + c) := nI_add 100 c
    have hcf0 : CF σ (sI σ 53 c 0) := CF.rf.sI (by decide)
    have hI0 := hI.c53 (v := 0) hc hnb (Or.inl rfl)
    have hnb0 : nb (sI σ 53 c 0) (c / 24) (c % 24 / 4) = true := by rw [hcf0.sp.nbE]; exact hnb
    have g60 : (sI σ 53 c 0).1 6 0 = σ.1 6 0 := sI_ne (by decide)
    have hg0 : ∀ ms, g_Md_lineTimer (nI c) (Rt ms σ) = (if σ.1 52 c = (1 : Int32) then g_Md_lineTimer_49 (nI c) else q_I 52 (nI c) fun v14 => (if ¬ v14 = (2 : Int32) then q_I 52 (nI c) fun v15 => (if ¬ v15 = (7 : Int32) then q_I 52 (nI c) fun v16 => (if ¬ v16 = (8 : Int32) then g_Md_lineTimer_139 (nI c) else y_V (g_Md_say (nI c) (12 : Int32) (0 : Int32)) (q_S 6 fun v18 => w_I 53 (nI c) (v18 + (30 : Int32)) (g_Md_lineTimer_139 (nI c)))) else y_V (g_Md_say (nI c) (10 : Int32) (0 : Int32)) (q_S 6 fun v20 => w_I 53 (nI c) (v20 + (6 : Int32)) (g_Md_lineTimer_139 (nI c)))) else g_Md_lineTimer_49 (nI c))) (Rt ms (sI σ 53 c 0)) := fun ms => by
      unfold g_Md_lineTimer
      rw [qR d53 (by decide), if_neg (fun q => ho.1 (h53.le.mp q)), qR d53 (by decide), h6 ms σ rfl, if_neg (fun q => q ho.2), wRt d53 (by decide), qR d52 (by decide), sI_ne (k' := 52) (by decide)]
    by_cases c12 : σ.1 52 c = 1 ∨ σ.1 52 c = 2
    · -- in 1 and 2
      obtain ⟨l, hl, el⟩ : ∃ l, (1 ≤ l ∧ l ≤ 6) ∧ σ.1 52 c = nI l := by
        rcases c12 with q | q
        · exact ⟨1, by omega, q⟩
        · exact ⟨2, by omega, q⟩
      have hVc : VL σ (100 + c) := Or.inr ⟨by omega, by omega, by rw [Nat.add_sub_cancel_left]; exact hnb⟩
      have haL : aL (100 + c) = aC c := by unfold aL; rw [if_pos (by omega), Nat.add_sub_cancel_left]
      have hIp := hI.part hVc
      have hcfp := S_part_CF (σ := σ) (g := 100 + c)
      have hlpp : lgv (S_part (100 + c) σ) (100 + c) = -1 := by rw [S_part_lg hI.1 hVc hVc.vn, if_pos rfl]
      have hA := ct_rel7 (hcf0.cb hB0) hI0 hc hnb0 (l := l) (n := n) (by rw [sI_ne (by decide)]; exact el) hl (by rw [sI_ne (by decide)]; exact en) hn64
      rw [part_sI (by decide), bec_over] at hA
      have hP := ct_rel7 (hcfp.cb hB0) hIp hc (by rw [hcfp.sp.nbE]; exact hnb) (l := l) (n := n) (by rw [S_part_I (by decide)]; exact el) hl (by rw [S_part_I (by decide)]; exact en) hn64
      rw [part_id hlpp] at hP
      have htsp : TS σ (S_part (100 + c) σ) := CF_ts hcfp (fun i => ⟨S_part_I (by decide), S_part_I (by decide)⟩)
      obtain ⟨p1, p2, p3, p4, p5, p6, p7⟩ := hP
      have hcf2 := hcfp.tr p5
      have hp : ∀ η, f_Lg_part (aC c) (Kap kk σ η) = some (some (va_rf (k_leg (σ.1 57 c))), Kap kk (S_part (100 + c) σ) η) := fun η => by
        have := fl_part (kk := kk) (η := η) hKo hI.1 hVc
        rw [haL, lgv_57] at this; exact this
      have hCa : Ct kk (w_I 53 (nI c) 0 (g_Md_letGo (nI (100 + c)))) (c_R (f_Lg_part (aC c)) fun _ => f_Sw_letGo 17 (some (aC c))) none 1 σ (S_bec c 7 6 30 (S_part (100 + c) σ)) [mS 10 c n 0] := by
        refine ⟨fun ms => ?_, fun η ms hPQ hl => ?_, p3, fun m hm => ?_, hcf2, htsp.tr p6, p7⟩
        · rw [wRt d53 (by decide)]; exact hA.1 ms
        · rw [x_cR (hp η)]; exact p2 η ms hPQ hl
        · have := p4 m hm; rw [MV.sp hcfp.sp] at this; exact this
      have hv : σ.1 57 c = -1 ∨ ∃ o, VL (S_bec c 7 6 30 (S_part (100 + c) σ)) o ∧ σ.1 57 c = nI o := by
        rw [hcf2.vl]
        rcases leg_of hI hc hnb with q | ⟨o, o1, o2, o3, o4⟩
        · exact Or.inl q
        · exact Or.inr ⟨o, o1, o3⟩
      obtain ⟨σ', n2, h, -⟩ := ct_letGo' (hcf2.cb hB0) p7 hv
      have hC2 : ClOk (S_bec c 7 6 30 (S_part (100 + c) σ)) := hC.at (by rw [S_bec_I (Or.inl (by decide)), S_part_I (by decide)])
      have t53 : Tm 1 (S_bec c 7 6 30 (S_part (100 + c) σ)) 53 c := Tm.new hC2 (v := 6) (by rw [S_bec_at.2.1, S_bec_I (k := 6) (Or.inl (by decide))]; unfold tmv; rw [if_neg (by decide)]) (by decide) (by decide)
      have t54 : Tm 1 (S_bec c 7 6 30 (S_part (100 + c) σ)) 54 c := Tm.new hC2 (v := 30) (by rw [S_bec_at.2.2.1, S_bec_I (k := 6) (Or.inl (by decide))]; unfold tmv; rw [if_neg (by decide)]) (by decide) (by decide)
      obtain ⟨q1, q2, q3, q4, q5, q6, q7⟩ := id h
      have hC3 : ClOk σ' := hC2.at q6.1
      have t54' : Tm 1 σ' 54 c := t54.ts q6 hC2 (by decide) (by decide)
      have h54z : σ.1 54 c = 0 := by
        by_cases q : σ.1 54 c = 0
        · exact q
        · have := hC1.2.2.2.2.2.2.1 q
          rcases c12 with z | z <;> rw [z] at this <;> exact absurd this (by decide)
      refine ⟨σ', _, y_V (w_I 53 (nI c) 0 (g_Md_letGo (nI (100 + c)))) (y_V (g_Md_letGo (σ.1 57 c)) z_V), Ct.bind hCa h (b := 2) (by omega) (fun ms ms' ρ a1 a2 => ?_) (fun η θ κ a1 a2 => ?_), fun ms ρ hh => ?_, ⟨fun q => absurd q (t54'.not hC3), fun q => absurd h54z q.1⟩, t53.ts q6 hC2 (by decide) (by decide), t54'.wk, fun q => absurd ho q⟩
      · rw [y_V_at a1, y_V_at a2]; rfl
      · rw [x_cR (hp η)] at a1
        rw [if_pos ho]
        have m7 : (σ.1 52 c = 7) = False := eq_false (by rcases c12 with z | z <;> rw [z] <;> decide)
        have m8 : (σ.1 52 c = 8) = False := eq_false (by rcases c12 with z | z <;> rw [z] <;> decide)
        simp only [f_Sw_timeOut, x_gI, f4, if_true, rd_C3, m7, m8, not_false_eq_true, x_nn, x_cR (hp η), k17, x_cV a1, x_cV a2, f_Sw_timeOut_69, r_V]
      · obtain ⟨ρ1, a1, a2⟩ := y_V_use hh
        rw [wRt d53 (by decide)] at a1
        obtain ⟨ρ2, b1, b2⟩ := y_V_use a2
        have b2 : some (none, ρ2) = some (none, ρ) := b2
        cases b2
        have h49 : g_Md_lineTimer_49 (nI c) (Rt ms (sI σ 53 c 0)) = g_Md_lineTimer_139 (nI c) ρ := by
          unfold g_Md_lineTimer_49
          rw [qR d57 (by decide), sI_ne (k' := 57) (by decide), h100, y_V_at a1, y_V_at b1]
        rw [hg0]
        by_cases c1 : σ.1 52 c = 1
        · rw [if_pos c1]; exact h49
        · have c2 : σ.1 52 c = 2 := by
            rcases c12 with z | z
            · exact absurd z c1
            · exact z
          rw [if_neg c1, qR d52 (by decide), sI_ne (k' := 52) (by decide), if_neg (fun q => q c2)]; exact h49
    · have n1 : ¬ σ.1 52 c = 1 := fun q => c12 (Or.inl q)
      have n2 : ¬ σ.1 52 c = 2 := fun q => c12 (Or.inr q)
      have e0 : (sI σ 53 c 0).1 59 c = nI n := by rw [sI_ne (by decide)]; exact en
      have hsi : ∀ v, sI (sI σ 53 c 0) 53 c v = sI σ 53 c v := fun v => sI_sI
      by_cases c7 : σ.1 52 c = 7
      · -- in 7
        have hcf1 : CF σ (sI σ 53 c (σ.1 6 0 + 6)) := CF.rf.sI (by decide)
        have hI1 := hI.c53 (v := σ.1 6 0 + 6) hc hnb (Or.inr (Or.inr (Or.inr (Or.inl c7))))
        have hC2 : ClOk (sI σ 53 c (σ.1 6 0 + 6)) := hC.at (sI_ne (by decide))
        have hs := fun ms => gl_say (kd := 10) (b := 0) hG hT (by decide) hc hn64 en (by decide) ms
        have hs : ∀ ms, g_Md_say (nI c) 10 0 (Rt ms σ) = _ := hs
        have hs0 := fun ms => gl_say (kd := 10) (b := 0) (hcf0.gv hG) (hcf0.told hT) (by decide) hc hn64 e0 (by decide) ms
        have hs0 : ∀ ms, g_Md_say (nI c) 10 0 (Rt ms (sI σ 53 c 0)) = _ := hs0
        have hg1 : ∀ ms, (y_V (g_Md_say (nI c) 10 0) (w_I 53 (nI c) (σ.1 6 0 + 6) z_V)) (Rt ms σ) = some (none, Rt (ms ++ [mS 10 c n 0]) (sI σ 53 c (σ.1 6 0 + 6))) := fun ms => by
          rw [y_V_at (hs ms), wRt d53 (by decide)]; rfl
        have hts : TS σ (sI σ 53 c (σ.1 6 0 + 6)) := ⟨sI_ne (by decide), fun k i hk => by
          by_cases z : k = 53 ∧ i = c
          · obtain ⟨rfl, rfl⟩ := z
            exact Or.inr (Or.inr ⟨6, by decide, by decide, by simp only [sn_upE, Nat.reduceEqDiff, reduceIte]; rfl⟩)
          · left
            by_cases z1 : k = 53
            · exact sI_nk (fun q => z ⟨z1, q⟩)
            · exact sI_ne z1⟩
        refine ⟨sI σ 53 c (σ.1 6 0 + 6), [mS 10 c n 0], y_V (g_Md_say (nI c) 10 0) (w_I 53 (nI c) (σ.1 6 0 + 6) z_V), ⟨hg1, fun η ms hP hl => ?_, by simp, fun m hm => ?_, hcf1, hts, hI1⟩, fun ms ρ hh => ?_, ?_, Tm.new hC2 (v := 6) (by rw [sI_ne (k' := 6) (by decide)]; simp only [sn_upE, Nat.reduceEqDiff, reduceIte]; rfl) (by decide) (by decide), ?_, fun q => absurd ho q⟩
        · rw [if_pos ho]
          obtain ⟨θ, t1, t2, t3⟩ := fl_post (kk := kk) (η := η) (σ := sI σ 53 c (σ.1 6 0 + 6)) (hKo.sp hcf1.sp) (kd := 10) (b := 0) (by decide) hc hn64 (by decide) (by rw [hcf1.sp.nbE]; exact hnb) hP (by omega)
          have t1 : f_Sw_post 17 (some (aC c)) 10 (nI n) 0 _ = _ := t1
          refine ⟨θ, ?_, t2, t3⟩
          have e59 : (sI σ 53 c (σ.1 6 0 + 6)).1 59 c = nI n := by rw [sI_ne (by decide)]; exact en
          simp only [f_Sw_timeOut, x_gI, f4, if_true, rd_C3, c7, not_true_eq_false, if_false, x_gR, k17, rr_s17_1, x_nn, k2, x_after k2, x_pI, wr_C5, rd_C10, sn_upE, Nat.reduceEqDiff, reduceIte, en, x_cV t1, f_Sw_timeOut_69, r_V]
        · simp at hm
          subst hm
          exact mS_mv (by omega) (by omega) hc hn64 (by decide) hnb (fun q => by omega)
        · rw [hg1] at hh
          cases hh
          rw [hg0, if_neg n1, qR d52 (by decide), sI_ne (k' := 52) (by decide), if_pos n2, qR d52 (by decide), sI_ne (k' := 52) (by decide), if_neg (fun q => q c7), y_V_at (hs0 ms), h6 _ _ g60, wRt d53 (by decide), hsi]
        · unfold out
          rw [sI_ne (k' := 54) (by decide), sI_ne (k' := 6) (by decide)]
        · obtain ⟨v, a, b, e⟩ := h54
          refine ⟨v, a, by rw [sI_ne (by decide)]; exact b, ?_⟩
          have : cl (sI σ 53 c (σ.1 6 0 + 6)) 6 0 = cl σ 6 0 := by unfold cl; rw [sI_ne (by decide)]
          rw [this]; exact e
      · have c8 : σ.1 52 c = 8 := by
          rcases hst with z | z | z | z
          · exact absurd z n1
          · exact absurd z n2
          · exact absurd z c7
          · exact z
        obtain ⟨b1, b2, b3⟩ := hC1.2.2.2.2.2.1 (Or.inr (by rw [c8]; decide))
        have h54z : σ.1 54 c = 0 := by
          by_cases q : σ.1 54 c = 0
          · exact q
          · have := hC1.2.2.2.2.2.2.1 q
            rw [c8] at this; exact absurd this (by decide)
        obtain ⟨new, h⟩ := ct_reset hB0 hI hc hnb b1
        have hC2 : ClOk (S_bec c 8 30 0 σ) := hC.at (S_bec_I (Or.inl (by decide)))
        have hfin : S_bec c 8 30 0 σ = sI σ 53 c (σ.1 6 0 + 30) := by
          unfold S_bec
          rw [if_pos (by decide)]
          have t30 : tmv σ 30 = σ.1 6 0 + 30 := by unfold tmv; rw [if_neg (by decide)]; rfl
          have t0 : tmv σ 0 = 0 := rfl
          have i52 : sI σ 52 c (nI 8) = σ := sI_id c8
          rw [t30, t0, i52]
          rw [sI_id (σ := sI σ 53 c (σ.1 6 0 + 30)) (k := 54) (v := 0) (by rw [sI_ne (by decide)]; exact h54z), sI_id (σ := sI σ 53 c (σ.1 6 0 + 30)) (k := 58) (v := -1) (by rw [sI_ne (by decide)]; exact b2), sI_id (σ := sI σ 53 c (σ.1 6 0 + 30)) (k := 60) (v := 0) (by rw [sI_ne (by decide)]; exact b3)]
        have hs := fun ms => gl_say (kd := 12) (b := 0) hG hT (by decide) hc hn64 en (by decide) ms
        have hs : ∀ ms, g_Md_say (nI c) 12 0 (Rt ms σ) = _ := hs
        have hs0 := fun ms => gl_say (kd := 12) (b := 0) (hcf0.gv hG) (hcf0.told hT) (by decide) hc hn64 e0 (by decide) ms
        have hs0 : ∀ ms, g_Md_say (nI c) 12 0 (Rt ms (sI σ 53 c 0)) = _ := hs0
        refine ⟨_, new, _, up2 (h.pre CF.rf TS.rf (fun ms ρ hh => hh) (fun η κ hh => ?_)), fun ms ρ hh => ?_, ⟨fun q => ?_, fun q => absurd h54z q.1⟩, Tm.new hC2 (v := 30) (by rw [S_bec_at.2.1, S_bec_I (k := 6) (Or.inl (by decide))]; unfold tmv; rw [if_neg (by decide)]) (by decide) (by decide), Tm.z S_bec_at.2.2.1, fun q => absurd ho q⟩
        · rw [if_pos ho]
          simp only [f_Sw_timeOut, x_gI, f4, if_true, rd_C3, c8, not_true_eq_false, if_false, show ((8 : Int32) = 7) = False from eq_false (by decide), not_false_eq_true, x_nn, k17, x_cV hh, f_Sw_timeOut_69, r_V]
        · have hbc := gl_becomes (σ := σ) (s := 8) (n := 30) (l := 0) hc (by decide) (by decide) (by decide) (ms ++ [mS 12 c n 0])
          have hbc : g_Md_becomes (nI c) 8 30 0 _ = _ := hbc
          rw [y_V_at (hs ms), y_V_at hbc, hfin] at hh
          have hh : some (none, Rt (ms ++ [mS 12 c n 0]) (sI σ 53 c (σ.1 6 0 + 30))) = some (none, ρ) := hh
          cases hh
          rw [hg0, if_neg n1, qR d52 (by decide), sI_ne (k' := 52) (by decide), if_pos n2, qR d52 (by decide), sI_ne (k' := 52) (by decide), if_pos c7, qR d52 (by decide), sI_ne (k' := 52) (by decide), if_neg (fun q => q c8), y_V_at (hs0 ms), h6 _ _ g60, wRt d53 (by decide), hsi]
        · exact absurd S_bec_at.2.2.1 q.1
  · refine ⟨σ, [], z_V, Ct.id hI (fun ms => rfl) (fun η => by rw [if_neg ho]; rfl), fun ms ρ hh => ?_, Iff.rfl, h53.st hC ho, h54, fun _ => rfl⟩
    have hh : some (none, Rt ms σ) = some (none, ρ) := hh
    cases hh
    unfold g_Md_lineTimer
    rw [qR d53 (by decide)]
    by_cases c0 : σ.1 53 c = 0
    · rw [if_pos (h53.le.mpr c0)]
    · rw [if_neg (fun q => c0 (h53.le.mp q)), qR d53 (by decide), h6 ms σ rfl, if_pos (fun q => ho ⟨c0, q⟩)]
/-- the timers of a circuit's end -/
theorem ct_line (hB : Cb kk σ) (hI : CI σ) (hC : ClOk σ) {c : Nat} (hc : c < 144) (hnb : nb σ (c / 24) (c % 24 / 4) = true) (h53 : Tm 0 σ 53 c) (h54 : Tm 0 σ 54 c) : ∃ σ' new r, Ct kk (g_Md_lineTimer (nI c)) (f_Sw_runTimers 17 (nI c)) (some (.int r)) 3 σ σ' new ∧ Tm 1 σ' 53 c ∧ Tm 1 σ' 54 c ∧ (r = 0 → new = []) := by
  have hB0 := hB
  obtain ⟨hK, hG, hT⟩ := hB
  have hKo := hK
  obtain ⟨⟨k1, k2, k3, k4, k5, k6, k7, k8, k9, k10, k11, k12, k13, k14, k15, k16, k17, k18, k19, k20, k21, k22⟩, kE, kF, kP, k4s⟩ := id hK
  obtain ⟨f1, f2, f3, f4⟩ := kF c hc hnb
  obtain ⟨d3, -⟩ : ∃ d : Decidable (out σ 53 c), True := ⟨Classical.propDecidable _, trivial⟩
  obtain ⟨d4, -⟩ : ∃ d : Decidable (out σ 54 c), True := ⟨Classical.propDecidable _, trivial⟩
  obtain ⟨σ1, n1, g1, hCt1, hgg, hio, t53, t54, hn1⟩ := ct_first hB0 hI hC hc hnb h53 h54 (d := d3)
  obtain ⟨p1, p2, p3, p4, p5, p6, p7⟩ := id hCt1
  obtain ⟨d5, -⟩ : ∃ d : Decidable (out σ1 54 c), True := ⟨Classical.propDecidable _, trivial⟩
  obtain ⟨σ2, n2, hCt2, u54, u53, hn2⟩ := ct_139 (p5.cb hB0) p7 (hC.at p6.1) hc (by rw [p5.sp.nbE]; exact hnb) t54 (d := d5)
  have hr19 : kR σ 19 c = some (aC c) := by rw [rr_a19, if_pos ⟨hc, hnb⟩]
  have e0 : (nI c < 0) = False := eq_false (nI_pos (by omega))
  have e1 : (nI c < nI 144) = True := eq_true ((nI_ltI (a := c) (b := 144) (by omega) (by omega)).mpr hc)
  have hL19 : kL 19 = 144 := rfl
  have q1 : (some (aC c) = none) = False := by simp
  have z10 : ((1 : Int32) = 0) = False := eq_false (by decide)
  have hcl : ∀ η, f_Sw_runTimers 17 (nI c) (Kap kk σ η) = f_Sw_runTimers_23 17 (some (aC c)) (Kap kk σ η) := fun η => by
    simp only [f_Sw_runTimers, e0, if_false, x_ite, x_gR, k17, if_true, rr_s17_3, x_len, k19, hL19, toI, e1, x_aR (a := 19) (p := c) hc (by decide), hr19]
  have b53 := fun η => fl_isOut (kk := kk) (η := η) k2 hC h53 (d := d3)
  have b54 := fun η => fl_isOut (kk := kk) (η := η) k2 hC h54 (d := d4)
  refine ⟨σ2, n1 ++ n2, if out σ 53 c ∨ out σ 54 c then 1 else 0, Ct.bind hCt1 hCt2 (b := 3) (by omega) (fun ms ms' ρ a1 a2 => by rw [hgg ms _ a1]; exact a2) (fun η θ κ a1 a2 => ?_), u53 t53, u54, fun hr => ?_⟩
  · have b53 := b53 η
    have b54 := b54 η
    rw [hcl]
    by_cases o3 : out σ 53 c
    · rw [if_pos o3] at a1 b53
      rw [if_pos (Or.inl o3)]
      by_cases o4 : out σ 54 c
      · rw [if_pos o4] at b54
        rw [if_pos (hio.mpr o4)] at a2
        simp only [f_Sw_runTimers_23, q1, not_false_eq_true, if_true, x_gR, k17, rr_s17_1, x_gI, f4, rd_C5, x_nn, k2, x_cI b53, rd_C6, x_cI b54, z10, if_false, x_cV a1, f_Sw_runTimers_64, x_cV a2, f_Sw_runTimers_74, f_Sw_runTimers_83, f_Sw_runTimers_88, r_Z]
        simp
      · rw [if_neg o4] at b54
        rw [if_neg (fun q => o4 (hio.mp q))] at a2
        have a2 : some (none, Kap kk σ1 θ) = some (none, κ) := a2
        cases a2
        simp only [f_Sw_runTimers_23, q1, not_false_eq_true, if_true, x_gR, k17, rr_s17_1, x_gI, f4, rd_C5, x_nn, k2, x_cI b53, rd_C6, x_cI b54, z10, if_false, x_cV a1, f_Sw_runTimers_64, f_Sw_runTimers_74, f_Sw_runTimers_83, f_Sw_runTimers_88, r_Z]
        simp
    · rw [if_neg o3] at a1 b53
      have a1 : some (none, Kap kk σ η) = some (none, Kap kk σ1 θ) := a1
      by_cases o4 : out σ 54 c
      · rw [if_pos o4] at b54
        rw [if_pos (hio.mpr o4)] at a2
        rw [if_pos (Or.inr o4)]
        have e : Kap kk σ1 θ = Kap kk σ η := (Prod.mk.inj (Option.some.inj a1)).2.symm
        rw [e] at a2
        simp only [f_Sw_runTimers_23, q1, not_false_eq_true, if_true, x_gR, k17, rr_s17_1, x_gI, f4, rd_C5, x_nn, k2, x_cI b53, rd_C6, x_cI b54, z10, if_false, f_Sw_runTimers_64, x_cV a2, f_Sw_runTimers_74, f_Sw_runTimers_83, f_Sw_runTimers_88, not_true_eq_false, r_Z]
        simp
      · rw [if_neg o4] at b54
        rw [if_neg (fun q => o4 (hio.mp q))] at a2
        rw [if_neg (fun q => by rcases q with q | q; exact o3 q; exact o4 q)]
        have a2 : some (none, Kap kk σ1 θ) = some (none, κ) := a2
        have e : κ = Kap kk σ η := (Prod.mk.inj (Option.some.inj a2)).2.symm.trans (Prod.mk.inj (Option.some.inj a1)).2.symm
        rw [e]
        simp only [f_Sw_runTimers_23, q1, not_false_eq_true, if_true, x_gR, k17, rr_s17_1, x_gI, f4, rd_C5, x_nn, k2, x_cI b53, rd_C6, x_cI b54, if_false, f_Sw_runTimers_64, f_Sw_runTimers_74, f_Sw_runTimers_88, not_true_eq_false, r_Z]
        simp
  · by_cases o3 : out σ 53 c
    · rw [if_pos (Or.inl o3)] at hr; exact absurd hr (by decide)
    · by_cases o4 : out σ 54 c
      · rw [if_pos (Or.inr o4)] at hr; exact absurd hr (by decide)
      · rw [hn1 o3, hn2 (fun q => o4 (hio.mp q))]; rfl
