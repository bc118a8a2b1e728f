/-! LAYER 2: a circuit's end gets a message: COMPLETE, ANSWER, RELEASE, RESET, RELEASED, BLOCK, UNBLOCK -/
variable {kk : Nat → Nat} {σ : sn_FS}
theorem leg_of (hI : CI σ) {c : Nat} (hc : c < 144) (hnb : nb σ (c / 24) (c % 24 / 4) = true) : σ.1 57 c = -1 ∨ ∃ o, VL σ o ∧ o ≠ 100 + c ∧ σ.1 57 c = nI o ∧ lgv σ o = nI (100 + c) := by
  have hVc : VL σ (100 + c) := Or.inr ⟨by omega, by omega, by rw [Nat.add_sub_cancel_left]; exact hnb⟩
  rcases hI.1 (100 + c) hVc with q | ⟨o, o1, o2, o3, o4, o5⟩
  · rw [lgv_57] at q; exact Or.inl q
  · rw [lgv_57] at o4; exact Or.inr ⟨o, o1, o2, o4, o5⟩
theorem bec_23 {c s n : Nat} (hs : s = 2 ∨ s = 3) (h54 : σ.1 54 c = 0) : S_bec c s n 0 σ = sI (sI σ 52 c (nI s)) 53 c (tmv σ n) := by
  unfold S_bec
  rw [if_neg (by omega)]
  have : tmv σ 0 = 0 := rfl
  rw [this]
  exact sI_id (by rw [sI_ne (by decide), sI_ne (by decide)]; exact h54)
theorem CI.p23 (hI : CI σ) {c s n : Nat} (hc : c < 144) (hnb : nb σ (c / 24) (c % 24 / 4) = true) (hs : s = 2 ∨ (s = 3 ∧ n = 0)) (h58 : σ.1 52 c = 1 ∨ σ.1 52 c = 2) : CI (S_bec c s n 0 σ) := by
  have hcf : CF σ (S_bec c s n 0 σ) := S_bec_CF
  refine CI.one (c := c) hI hcf (fun k i _ _ h => ?_) (fun _ => ?_)
  · rcases h with h | h
    · exact S_bec_I (Or.inr h)
    · exact S_bec_I (Or.inl (by omega))
  · obtain ⟨a1, a2, a3, a4, a5, a6, a7, a8, a9, a10, a11⟩ := hI.2.1 c hc
    obtain ⟨b1, b2, b3, -, b4⟩ := S_bec_at (σ := σ) (c := c) (s := s) (n := n) (l := 0)
    obtain ⟨b5, b6⟩ := b4 (by omega)
    unfold C1
    rw [b1, b2, b3, b5, b6, S_bec_I (k := 55) (Or.inl (by decide)), S_bec_I (k := 56) (Or.inl (by decide)), S_bec_I (k := 57) (Or.inl (by decide)), S_bec_I (k := 59) (Or.inl (by decide)), hcf.sp.nbE]
    refine ⟨⟨s, by omega, rfl⟩, a2, a3, a4, fun q => ?_, fun q => ?_, fun q => absurd rfl q, fun q => ?_, a9, a10, fun q => ?_⟩
    · rcases hs with rfl | ⟨rfl, -⟩ <;> exact absurd q (by decide)
    · rcases hs with rfl | ⟨rfl, -⟩ <;> exact absurd q (by decide)
    · rcases hs with rfl | ⟨-, rfl⟩
      · exact Or.inr (Or.inl rfl)
      · exact absurd rfl q
    · rw [hnb] at q; cases q
/-- COMPLETE, ANSWER -/
theorem ct_prog (hB : Cb kk σ) (hI : CI σ) {c n kd : Nat} {x9 : Int32} (hkd : kd = 8 ∨ kd = 9) (hc : c < 144) (hnb : nb σ (c / 24) (c % 24 / 4) = true) (hn : n < 64) (hx9 : x9 = if nI n = σ.1 59 c then 1 else 0) : ∃ σ' new, Ct kk (g_Md_circuitGets_205 (nI kd) (nI n) (nI c) x9 (σ.1 52 c) (σ.1 57 c)) (f_Sw_getProgress 17 (some (aC c)) (nI n) (nI kd)) none 2 σ σ' new := by
  have hB0 := hB
  obtain ⟨hK, hG, hT⟩ := hB
  have hKo := hK
  obtain ⟨⟨k1, k2, k3, k4, k5, k6, k7, k8, k9, k10, k11, k12, k13, k14, k15, k16, k17, k18, k19, k20, k21, k22⟩, kE, kF, kP, k4s⟩ := id hK
  obtain ⟨f1, f2, f3, f4⟩ := kF c hc hnb
  obtain ⟨l, hl8, el⟩ := (hI.2.1 c hc).1
  have hC1 := hI.2.1 c hc
  have d59 : c < md_len 59 := hc
  have up2 : ∀ {g f rv σ' new}, Ct kk g f rv 1 σ σ' new → Ct kk g f rv 2 σ σ' new := fun ⟨a1, a2, a3, a4⟩ => ⟨a1, fun η ms hP hl => a2 η ms hP (by omega), by omega, a4⟩
  have e7 : nI kd - (7 : Int32) = nI (kd - 7) := nI_sub (a := kd) (b := 7) (by omega)
  have z10 : ((1 : Int32) = 0) = False := eq_false (by decide)
  have z98 : ((9 : Int32) = 8) = False := eq_false (by decide)
  have z89 : ((8 : Int32) = 9) = False := eq_false (by decide)
  by_cases c0 : l = 0
  · -- idle
    have e0 : σ.1 52 c = 0 := by rw [el, c0]; rfl
    have h57 : σ.1 57 c = -1 := (hC1.2.2.2.2.2.1 (Or.inl e0)).1
    have hcf : CF σ (sI σ 59 c (nI n)) := CF.rf.sI (by decide)
    have hI1 : CI (sI σ 59 c (nI n)) := by
      refine CI.one (c := c) hI hcf (fun k i _ _ h => ?_) (fun _ => ?_)
      · rcases h with h | h
        · exact sI_nk h
        · exact sI_ne (by omega)
      · obtain ⟨a1, a2, a3, a4, a5, a6, a7, a8, a9, a10, a11⟩ := hC1
        have t59 : (sI σ 59 c (nI n)).1 59 c = nI n := by simp only [sn_upE, Nat.reduceEqDiff, reduceIte]
        unfold C1
        rw [t59, sI_ne (k' := 52) (by decide), sI_ne (k' := 53) (by decide), sI_ne (k' := 54) (by decide), sI_ne (k' := 55) (by decide), sI_ne (k' := 56) (by decide), sI_ne (k' := 57) (by decide), sI_ne (k' := 58) (by decide), sI_ne (k' := 60) (by decide), hcf.sp.nbE]
        exact ⟨a1, ⟨n, hn, rfl⟩, a3, a4, a5, a6, a7, a8, a9, a10, fun q => by rw [hnb] at q; cases q⟩
    obtain ⟨new, h⟩ := ct_reset (hcf.cb hB0) hI1 hc (by rw [hcf.sp.nbE]; exact hnb) (by rw [sI_ne (by decide)]; exact h57)
    refine ⟨_, new, up2 (h.pre hcf (CF_ts hcf (fun i => ⟨sI_ne (by decide), sI_ne (by decide)⟩)) (fun ms ρ hh => ?_) (fun η κ hh => ?_))⟩
    · unfold g_Md_circuitGets_205
      rw [e7, e0, if_pos (fun q => by have := nI_inj (a := 0) (b := kd - 7) (by omega) (by omega) q; omega)]
      unfold g_Md_circuitGets_255
      rw [if_neg (fun q => q rfl), wRt d59 (by decide)]
      exact hh
    · simp only [f_Sw_getProgress, x_gI, f4, if_true, rd_C3, e0, not_true_eq_false, if_false, x_pI, wr_C10, x_nn, k17, x_cV hh, r_V]
  · have n0 : ¬ σ.1 52 c = 0 := by rw [el]; exact fun q => c0 (nI_inj (a := l) (b := 0) (by omega) (by omega) q)
    have m0 : (σ.1 52 c = 0) = False := eq_false n0
    have h255 : ∀ ms, g_Md_circuitGets_255 (nI n) (nI c) (σ.1 52 c) (Rt ms σ) = some (none, Rt ms σ) := fun ms => by
      unfold g_Md_circuitGets_255
      rw [if_pos n0]; rfl
    by_cases cw : l = kd - 7 ∧ nI n = σ.1 59 c
    · -- what was waited for
      obtain ⟨cl1, cown⟩ := cw
      have hx1 : x9 = 1 := by rw [hx9, if_pos cown]
      have es : σ.1 52 c = nI (kd - 7) := by rw [el, cl1]
      have h54 : σ.1 54 c = 0 := by
        by_cases q : σ.1 54 c = 0
        · exact q
        · have := hC1.2.2.2.2.2.2.1 q
          rw [el] at this
          have := nI_inj (a := l) (b := 7) (by omega) (by omega) this
          omega
      have hv : σ.1 57 c = -1 ∨ ∃ o, VL σ o ∧ σ.1 57 c = nI o := by
        rcases leg_of hI hc hnb with q | ⟨o, o1, o2, o3, o4⟩
        · exact Or.inl q
        · exact Or.inr ⟨o, o1, o3⟩
      have hcf : CF σ (S_bec c (kd - 6) (if kd = 8 then 60 else 0) 0 σ) := S_bec_CF
      have hts : TS σ (S_bec c (kd - 6) (if kd = 8 then 60 else 0) 0 σ) := S_bec_ts (by split <;> omega) (by omega)
      have hI1 : CI (S_bec c (kd - 6) (if kd = 8 then 60 else 0) 0 σ) := by
        refine hI.p23 hc hnb ?_ ?_
        · rcases hkd with rfl | rfl
          · exact Or.inl rfl
          · exact Or.inr ⟨rfl, rfl⟩
        · rcases hkd with rfl | rfl
          · exact Or.inl es
          · exact Or.inr es
      have hv1 : σ.1 57 c = -1 ∨ ∃ o, VL (S_bec c (kd - 6) (if kd = 8 then 60 else 0) 0 σ) o ∧ σ.1 57 c = nI o := by rw [hcf.vl]; exact hv
      obtain ⟨σ', new, h⟩ := ct_back' (hcf.cb hB0) hI1 hv1 hkd
      refine ⟨σ', new, up2 (h.pre hcf hts (fun ms ρ hh => ?_) (fun η κ hh => ?_))⟩
      · have hbc := gl_becomes (σ := σ) (s := kd - 6) (n := if kd = 8 then 60 else 0) (l := 0) hc (by omega) (by split <;> omega) (by decide) ms
        unfold g_Md_circuitGets_205
        rw [e7, es, if_neg (fun q => q rfl), hx1, if_neg (by decide)]
        have e6 : nI (kd - 7) + (1 : Int32) = nI (kd - 6) := by rw [nI_1]; congr 1; omega
        rw [e6]
        rcases hkd with rfl | rfl
        · have hbc : g_Md_becomes (nI c) (nI (8 - 6)) (60 : Int32) (0 : Int32) (Rt ms σ) = _ := hbc
          rw [if_neg (fun q => q (by decide))]
          unfold g_Md_circuitGets_240
          rw [y_V_at hbc, y_V_at hh]; rfl
        · have hbc : g_Md_becomes (nI c) (nI (9 - 6)) (0 : Int32) (0 : Int32) (Rt ms σ) = _ := hbc
          rw [if_pos (by decide)]
          unfold g_Md_circuitGets_240
          rw [y_V_at hbc, y_V_at hh]; rfl
      · have hown : (nI n = σ.1 59 c) = True := eq_true cown
        rcases hkd with rfl | rfl
        · have es : σ.1 52 c = 1 := es
          have hfin : sI (sI σ 52 c 2) 53 c (σ.1 6 0 + 60) = S_bec c (8 - 6) (if 8 = 8 then 60 else 0) 0 σ := by
            rw [show S_bec c (8 - 6) (if 8 = 8 then 60 else 0) 0 σ = S_bec c 2 60 0 σ from rfl, bec_23 (Or.inl rfl) h54]; rfl
          have hh : f_Sw_goBack 17 (k_leg (σ.1 57 c)) 8 (Kap kk (S_bec c (8 - 6) (if 8 = 8 then 60 else 0) 0 σ) η) = some (none, κ) := hh
          have e57 : (sI (sI σ 52 c 2) 53 c (σ.1 6 0 + 60)).1 57 c = σ.1 57 c := by rw [sI_ne (by decide), sI_ne (by decide)]
          have e6 : (sI σ 52 c 2).1 6 0 = σ.1 6 0 := sI_ne (by decide)
          rw [← hfin] at hh
          have o8 : (nI 8 = (8 : Int32)) = True := eq_true rfl
          simp only [f_Sw_getProgress, x_gI, f4, if_true, rd_C3, es, z10, not_false_eq_true, rd_C10, hown, o8, not_true_eq_false, if_false, x_ite, x_pI, wr_C3, x_gR, k17, rr_s17_1, x_nn, k2, x_after k2, sn_upE, Nat.reduceEqDiff, reduceIte, wr_C5, rr_C4, x_cV hh, f_Sw_getProgress_106, r_V]
        · have es : σ.1 52 c = 2 := es
          have hfin : sI (sI σ 52 c 3) 53 c 0 = S_bec c (9 - 6) (if 9 = 8 then 60 else 0) 0 σ := by
            rw [show S_bec c (9 - 6) (if 9 = 8 then 60 else 0) 0 σ = S_bec c 3 0 0 σ from rfl, bec_23 (Or.inr rfl) h54]; rfl
          have hh : f_Sw_goBack 17 (k_leg (σ.1 57 c)) 9 (Kap kk (S_bec c (9 - 6) (if 9 = 8 then 60 else 0) 0 σ) η) = some (none, κ) := hh
          have e57 : (sI (sI σ 52 c 3) 53 c 0).1 57 c = σ.1 57 c := by rw [sI_ne (by decide), sI_ne (by decide)]
          rw [← hfin] at hh
          have o8 : (nI 9 = (8 : Int32)) = False := eq_false (by decide)
          have o9 : (nI 9 = (9 : Int32)) = True := eq_true rfl
          have z20 : ((2 : Int32) = 0) = False := eq_false (by decide)
          simp only [f_Sw_getProgress, f_Sw_getProgress_72, x_gI, f4, if_true, rd_C3, es, z20, not_false_eq_true, rd_C10, hown, o8, o9, not_true_eq_false, if_false, x_ite, x_pI, wr_C3, wr_C5, x_gR, rr_C4, sn_upE, Nat.reduceEqDiff, reduceIte, x_nn, k17, x_cV hh, f_Sw_getProgress_106, r_V]
    · -- nothing
      refine ⟨σ, [], Ct.id hI (fun ms => ?_) (fun η => ?_)⟩
      · unfold g_Md_circuitGets_205
        rw [e7]
        by_cases cl1 : l = kd - 7
        · have cown : ¬ nI n = σ.1 59 c := fun q => cw ⟨cl1, q⟩
          rw [if_neg (fun q => q (by rw [el, cl1])), hx9, if_neg cown, if_pos rfl]; exact h255 ms
        · rw [if_pos (fun q => cl1 (nI_inj (by omega) (by omega) (el.symm.trans q)))]; exact h255 ms
      · by_cases cown : nI n = σ.1 59 c
        · have cl1 : ¬ l = kd - 7 := fun q => cw ⟨q, cown⟩
          have hown : (nI n = σ.1 59 c) = True := eq_true cown
          rcases hkd with rfl | rfl
          · have o8 : (nI 8 = (8 : Int32)) = True := eq_true rfl
            have o9 : (nI 8 = (9 : Int32)) = False := eq_false (by decide)
            have m1 : (σ.1 52 c = 1) = False := eq_false (by rw [el]; exact fun q => cl1 (nI_inj (a := l) (b := 1) (by omega) (by omega) q))
            simp only [f_Sw_getProgress, f_Sw_getProgress_72, x_gI, f4, if_true, rd_C3, m0, not_false_eq_true, rd_C10, hown, o8, o9, not_true_eq_false, if_false, x_ite, m1, f_Sw_getProgress_106, r_V]
          · have o8 : (nI 9 = (8 : Int32)) = False := eq_false (by decide)
            have o9 : (nI 9 = (9 : Int32)) = True := eq_true rfl
            have m2 : (σ.1 52 c = 2) = False := eq_false (by rw [el]; exact fun q => cl1 (nI_inj (a := l) (b := 2) (by omega) (by omega) q))
            simp only [f_Sw_getProgress, f_Sw_getProgress_72, x_gI, f4, if_true, rd_C3, m0, not_false_eq_true, rd_C10, hown, o8, o9, not_true_eq_false, if_false, x_ite, m2, f_Sw_getProgress_106, r_V]
        · have hown : (nI n = σ.1 59 c) = False := eq_false cown
          simp only [f_Sw_getProgress, x_gI, f4, if_true, rd_C3, m0, not_false_eq_true, rd_C10, hown, if_false, x_ite, r_V]
theorem fl_inCall {η : sn_FS} (hK : KOk kk σ) {c l : Nat} (hc : c < 144) (hnb : nb σ (c / 24) (c % 24 / 4) = true) (el : σ.1 52 c = nI l) (hl : l ≤ 8) : f_Lg_isInCall (aC c) (Kap kk σ η) = some (some (.int (if 1 ≤ l ∧ l ≤ 6 then 1 else 0)), Kap kk σ η) := by
  obtain ⟨f1, f2, f3, f4⟩ := hK.2.2.1 c hc hnb
  by_cases c0 : l = 0
  · have p1 : (nI l < (1 : Int32)) = True := eq_true ((pos_of (by omega)).mpr c0)
    rw [if_neg (by omega)]
    simp only [f_Lg_isInCall, x_gI, f4, if_true, rd_C3, el, p1, f_Lg_isInCall_21, f_Lg_isInCall_22, r_Z]
    simp
  · have p1 : (nI l < (1 : Int32)) = False := eq_false (fun q => c0 ((pos_of (by omega)).mp q))
    by_cases c7 : 7 ≤ l
    · have p6 : ((6 : Int32) < nI l) = True := eq_true ((six_of (by omega)).mpr c7)
      rw [if_neg (by omega)]
      simp only [f_Lg_isInCall, x_gI, f4, if_true, rd_C3, el, p1, if_false, p6, f_Lg_isInCall_21, f_Lg_isInCall_22, r_Z]
      simp
    · have p6 : ((6 : Int32) < nI l) = False := eq_false (fun q => c7 ((six_of (by omega)).mp q))
      rw [if_pos (by omega)]
      simp only [f_Lg_isInCall, x_gI, f4, if_true, rd_C3, el, p1, if_false, p6, f_Lg_isInCall_22, r_Z]
      simp
/-- RELEASE, RESET -/
theorem ct_release (hB : Cb kk σ) (hI : CI σ) {c n kd l : Nat} {x9 x12 : Int32} (hkd : kd = 10 ∨ kd = 12) (hc : c < 144) (hnb : nb σ (c / 24) (c % 24 / 4) = true) (hn : n < 64) (el : σ.1 52 c = nI l) (hl8 : l ≤ 8) (hx9 : x9 = if nI n = σ.1 59 c then 1 else 0) (hx12 : x12 = if 1 ≤ l ∧ l ≤ 6 then 1 else 0) : ∃ σ' new, Ct kk (g_Md_circuitGets_292 (nI kd) (nI n) (nI c) x9 (σ.1 57 c) x12) (f_Sw_getRelease 17 (some (aC c)) (nI n) (nI kd)) none 2 σ σ' new := by
  have hB0 := hB
  obtain ⟨hK, hG, hT⟩ := hB
  have hKo := hK
  obtain ⟨⟨k1, k2, k3, k4, k5, k6, k7, k8, k9, k10, k11, k12, k13, k14, k15, k16, k17, k18, k19, k20, k21, k22⟩, kE, kF, kP, k4s⟩ := id hK
  obtain ⟨f1, f2, f3, f4⟩ := kF c hc hnb
  have hC1 := hI.2.1 c hc
  have hVc : VL σ (100 + c) := Or.inr ⟨by omega, by omega, by rw [Nat.add_sub_cancel_left]; exact hnb⟩
  have haL : aL (100 + c) = aC c := by unfold aL; rw [if_pos (by omega), Nat.add_sub_cancel_left]
  have h100 : (100 : Int32) + nI c = nI (100 + c) := nI_add 100 c
  have z10 : ((1 : Int32) = 0) = False := eq_false (by decide)
  have h1 := ct_says hB0 hI (kd := 11) (b := 0) (by decide) (by decide) hc hnb hn (by decide)
  have h1 : Ct kk (g_Md_says (nI c) 11 (nI n) 0) (f_Sw_post 17 (some (aC c)) 11 (nI n) 0) none 1 σ σ [mS 11 c n 0] := h1
  obtain ⟨g2, hg2⟩ : ∃ g2 : sn_G, g2 = (if ¬ x9 = 0 then (if x12 = 0 then g_Md_circuitGets_325 (nI kd) (nI c) (σ.1 57 c) x12 else y_V (g_Md_part ((100 : Int32) + nI c)) (g_Md_circuitGets_325 (nI kd) (nI c) (σ.1 57 c) x12)) else g_Md_circuitGets_406) := ⟨_, rfl⟩
  obtain ⟨f2', hf2⟩ : ∃ f2' : sn_M, f2' = (g_I 4 10 (some (aC c)) fun v3 => (if nI n = v3 then n_n 4 (some (aC c)) fun a4 => c_I (f_Lg_isInCall a4) fun v5 => (if v5 = 0 then (if ¬ nI kd = (12 : Int32) then f_Sw_getRelease_52 17 else n_n 4 (some (aC c)) fun a6 => c_V (f_Lg_leaveCall a6 (0 : Int32)) (f_Sw_getRelease_52 17)) else n_n 4 (some (aC c)) fun a8 => c_V (f_Lg_leaveCall a8 (0 : Int32)) (n_n 4 (some (aC c)) fun a10 => c_R (f_Lg_part a10) fun v11 => n_n 7 (some 17) fun a12 => c_V (f_Sw_letGo a12 v11) (f_Sw_getRelease_52 17))) else r_V)) := ⟨_, rfl⟩
  have hin := fun η => fl_inCall (η := η) hKo hc hnb el hl8
  have key : ∃ σ' n2, Ct kk g2 f2' none 1 σ σ' n2 := by
    by_cases cown : nI n = σ.1 59 c
    · have hown : (nI n = σ.1 59 c) = True := eq_true cown
      have hx1 : x9 = 1 := by rw [hx9, if_pos cown]
      have hlv : ∀ η, f_Lg_leaveCall (aC c) 0 (Kap kk σ η) = some (none, Kap kk (S_bec c 0 0 0 σ) η) := fun η => fl_leave (η := η) hKo hc hnb (s := 0) (Or.inl rfl)
      by_cases cin : 1 ≤ l ∧ l ≤ 6
      · have hx2 : x12 = 1 := by rw [hx12, if_pos cin]
        have hIp := hI.part hVc
        have hcfp := S_part_CF (σ := σ) (g := 100 + c)
        have h57p : (S_part (100 + c) σ).1 57 c = -1 := by rw [← lgv_57, S_part_lg hI.1 hVc hVc.vn, if_pos rfl]
        have hI1 := CI.rel (s := 0) (n := 0) (l := 0) hIp hc h57p (Or.inr (Or.inr ⟨rfl, rfl, rfl⟩)) (by rw [hcfp.sp.nbE]; exact hnb)
        have hcfb := S_bec_CF (σ := S_part (100 + c) σ) (c := c) (s := 0) (n := 0) (l := 0)
        have hcf := hcfp.tr hcfb
        have hts : TS σ (S_bec c 0 0 0 (S_part (100 + c) σ)) := (CF_ts hcfp (fun i => ⟨S_part_I (by decide), S_part_I (by decide)⟩)).tr (S_bec_ts (by omega) (by omega))
        have hv : σ.1 57 c = -1 ∨ ∃ o, VL (S_bec c 0 0 0 (S_part (100 + c) σ)) o ∧ σ.1 57 c = nI o := by
          rw [hcf.vl]
          rcases leg_of hI hc hnb with q | ⟨o, o1, o2, o3, o4⟩
          · exact Or.inl q
          · exact Or.inr ⟨o, o1, o3⟩
        obtain ⟨σ', n2, h, -⟩ := ct_letGo' (hcf.cb hB0) hI1 hv
        refine ⟨σ', n2, h.pre hcf hts (fun ms ρ hh => ?_) (fun η κ hh => ?_)⟩
        · have hbc := gl_becomes (σ := S_part (100 + c) σ) (s := 0) (n := 0) (l := 0) hc (by decide) (by decide) (by decide) ms
          have hbc : g_Md_becomes (nI c) 0 0 0 (Rt ms (S_part (100 + c) σ)) = _ := hbc
          rw [hg2, hx1, hx2, if_pos (by decide), if_neg (by decide), h100, y_V_at (gl_part hI.1 hVc ms)]
          unfold g_Md_circuitGets_325
          rw [if_pos (by decide)]
          unfold g_Md_circuitGets_337
          rw [y_V_at hbc]
          unfold g_Md_circuitGets_346
          rw [if_neg (by decide), y_V_at hh]; rfl
        · have hin := hin η
          rw [if_pos cin] at hin
          have hKb := hKo.sp (S_bec_CF (σ := σ) (c := c) (s := 0) (n := 0) (l := 0)).sp
          have hcfb0 := S_bec_CF (σ := σ) (c := c) (s := 0) (n := 0) (l := 0)
          have hJb : JOk (S_bec c 0 0 0 σ) := hI.1.mk' hcfb0 (fun g => by unfold lgv; rw [S_bec_I (Or.inl (by decide)), S_bec_I (Or.inl (by decide))])
          have hp := fl_part (kk := kk) (η := η) hKb hJb (g := 100 + c) (by rw [hcfb0.vl]; exact hVc)
          rw [haL, lgv_57, part_bec, S_bec_I (Or.inl (by decide))] at hp
          rw [hf2]
          simp only [x_gI, f4, if_true, rd_C10, hown, x_nn, x_cI hin, z10, if_false, x_ite, x_cV (hlv η), x_cR hp, k17, x_cV hh, f_Sw_getRelease_52, r_V]
      · have hx2 : x12 = 0 := by rw [hx12, if_neg cin]
        have hidle : σ.1 52 c = 0 ∨ (7 : Int32) ≤ σ.1 52 c := by
          rw [el]
          by_cases c0 : l = 0
          · exact Or.inl (by rw [c0]; rfl)
          · exact Or.inr ((seven_of (by omega)).mpr (by omega))
        have h57 : σ.1 57 c = -1 := (hC1.2.2.2.2.2.1 hidle).1
        rcases hkd with rfl | rfl
        · refine ⟨σ, [], Ct.id hI (fun ms => ?_) (fun η => ?_)⟩
          · rw [hg2, hx1, hx2, if_pos (by decide), if_pos rfl]
            unfold g_Md_circuitGets_325
            rw [if_neg (fun q => q rfl), if_pos (by decide)]
            unfold g_Md_circuitGets_346
            rw [if_pos rfl]; rfl
          · have hin := hin η
            rw [if_neg cin] at hin
            have o12 : (nI 10 = (12 : Int32)) = False := eq_false (by decide)
            rw [hf2]
            simp only [x_gI, f4, if_true, rd_C10, hown, x_nn, x_cI hin, o12, not_false_eq_true, x_ite, f_Sw_getRelease_52, r_V]
        · have hI1 := CI.rel (s := 0) (n := 0) (l := 0) hI hc h57 (Or.inr (Or.inr ⟨rfl, rfl, rfl⟩)) hnb
          refine ⟨S_bec c 0 0 0 σ, [], ⟨fun ms => ?_, fun η ms hP _ => ⟨η, ?_, by rw [List.append_nil]; exact hP, HE.rf⟩, Nat.zero_le _, (fun m hm => by cases hm), S_bec_CF, S_bec_ts (by omega) (by omega), hI1⟩⟩
          · have hbc := gl_becomes (σ := σ) (s := 0) (n := 0) (l := 0) hc (by decide) (by decide) (by decide) ms
            have hbc : g_Md_becomes (nI c) 0 0 0 (Rt ms σ) = _ := hbc
            rw [List.append_nil, hg2, hx1, hx2, if_pos (by decide), if_pos rfl]
            unfold g_Md_circuitGets_325
            rw [if_neg (fun q => q rfl), if_neg (fun q => q (by decide))]
            unfold g_Md_circuitGets_337
            rw [y_V_at hbc]
            unfold g_Md_circuitGets_346
            rw [if_pos rfl]; rfl
          · have hin := hin η
            rw [if_neg cin] at hin
            have o12 : (nI 12 = (12 : Int32)) = True := eq_true rfl
            rw [hf2]
            simp only [x_gI, f4, if_true, rd_C10, hown, x_nn, x_cI hin, o12, not_true_eq_false, if_false, x_ite, x_cV (hlv η), f_Sw_getRelease_52, r_V]
    · have hown : (nI n = σ.1 59 c) = False := eq_false cown
      have hx0 : x9 = 0 := by rw [hx9, if_neg cown]
      refine ⟨σ, [], Ct.id hI (fun ms => ?_) (fun η => ?_)⟩
      · rw [hg2, hx0, if_neg (fun q => q rfl)]; rfl
      · rw [hf2]
        simp only [x_gI, f4, if_true, rd_C10, hown, if_false, x_ite, r_V]
  obtain ⟨σ', n2, h2⟩ := key
  refine ⟨σ', _, Ct.bind h1 h2 (b := 2) (by omega) (fun ms ms' ρ a1 a2 => ?_) (fun η θ κ a1 a2 => ?_)⟩
  · unfold g_Md_circuitGets_292
    rw [y_V_at a1, ← hg2]; exact a2
  · rw [hf2] at a2
    simp only [f_Sw_getRelease, x_nn, k17, if_true, x_cV a1]
    exact a2
