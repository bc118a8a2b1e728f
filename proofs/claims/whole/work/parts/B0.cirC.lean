/-! LAYER 2: timers of circuits -/
variable {kk : Nat → Nat} {σ : sn_FS}
/-- a circuit's end in a call is let go -/
theorem ct_rel7 (hB : Cb kk σ) (hI : CI σ) {c n l : Nat} (hc : c < 144) (hnb : nb σ (c / 24) (c % 24 / 4) = true) (el : σ.1 52 c = nI l) (hl : 1 ≤ l ∧ l ≤ 6) (en : σ.1 59 c = nI n) (hn64 : n < 64) : Ct kk (g_Md_letGo (nI (100 + c))) (f_Sw_letGo 17 (some (aC c))) none 1 σ (S_bec c 7 6 30 (S_part (100 + c) σ)) [mS 10 c n 0] := by
  obtain ⟨hK, hG, hT⟩ := hB
  have hKo := hK
  obtain ⟨⟨k1, k2, k3, k4, k5, k6, k7, k8, k9, k10, k11, k12, k13, k14, k15, k16, k17, k18, k19, k20, k21, k22⟩, kE, kF, kP, k4s⟩ := id hK
  obtain ⟨f1, f2, f3, f4⟩ := kF c hc hnb
  have h : VL σ (100 + c) := Or.inr ⟨by omega, by omega, by rw [Nat.add_sub_cancel_left]; exact hnb⟩
  have haL : aL (100 + c) = aC c := by unfold aL; rw [if_pos (by omega), Nat.add_sub_cancel_left]
  have hV := h.vn
  have hm1 : ¬ nI (100 + c) = (-1 : Int32) := hV.m1
  have hIp := hI.part h
  have hcf := S_part_CF (σ := σ) (g := 100 + c)
  have hp : ∀ η, f_Lg_part (aC c) (Kap kk σ η) = some (some (va_rf (k_leg (lgv σ (100 + c)))), Kap kk (S_part (100 + c) σ) η) := fun η => by
    have := fl_part (kk := kk) (η := η) hKo hI.1 h
    rw [haL] at this; exact this
  have hKp := hKo.sp hcf.sp
  have hnbp : nb (S_part (100 + c) σ) (c / 24) (c % 24 / 4) = true := by rw [hcf.sp.nbE]; exact hnb
  have hstp : (S_part (100 + c) σ).1 52 c = nI l := by rw [S_part_I (by decide)]; exact el
  have enp : (S_part (100 + c) σ).1 59 c = nI n := by rw [S_part_I (by decide)]; exact en
  have h57 : (S_part (100 + c) σ).1 57 c = -1 := by rw [← lgv_57, S_part_lg hI.1 h hV, if_pos rfl]
  have hCI := CI.rel (s := 7) (n := 6) (l := 30) hIp hc h57 (Or.inl rfl) hnbp
  have hcf2 : CF σ (S_bec c 7 6 30 (S_part (100 + c) σ)) := hcf.tr S_bec_CF
  have hp1 : ¬ nI l < (1 : Int32) := fun q => by have := (pos_of (by omega)).mp q; omega
  have hp6 : ¬ (6 : Int32) < nI l := fun q => by have := (six_of (by omega)).mp q; omega
  have d52 : c < md_len 52 := hc
  have hge : (100 : Int32) ≤ nI (100 + c) := hV.ge.mpr (by omega)
  have hsub : nI (100 + c) - (100 : Int32) = nI c := by rw [Vn.sub (by omega), Nat.add_sub_cancel_left]
  refine ⟨fun ms => ?_, fun η ms hP hl' => ?_, by simp, fun m hm => ?_, hcf2, (CF_ts hcf (fun i => ⟨S_part_I (by decide), S_part_I (by decide)⟩)).tr (S_bec_ts (by omega) (by omega)), hCI⟩
  · unfold g_Md_letGo
    rw [if_pos hm1, y_V_at (gl_part hI.1 h ms), if_pos hge, hsub, qR d52 (by decide), hstp, if_neg hp1, qR d52 (by decide), hstp, if_neg hp6]
    have hs := gl_say (kd := 10) (b := 0) (hcf.gv hG) (hcf.told hT) (by decide) hc hn64 enp (by decide) ms
    have hs : g_Md_say (nI c) 10 0 (Rt ms (S_part (100 + c) σ)) = _ := hs
    have hbc := gl_becomes (σ := S_part (100 + c) σ) (s := 7) (n := 6) (l := 30) hc (by decide) (by decide) (by decide) (ms ++ [mS 10 c n 0])
    have hbc : g_Md_becomes (nI c) 7 6 30 _ = _ := hbc
    rw [y_V_at hs, y_V_at hbc]; rfl
  · have his := fl_isSub (kk := kk) (η := η) hKp (g := 100 + c) (by rw [hcf.vl]; exact h)
    rw [haL, if_neg (by omega)] at his
    have hcb := S_bec_CF (σ := S_part (100 + c) σ) (c := c) (s := 7) (n := 6) (l := 30)
    have hlv := fl_leave (σ := S_part (100 + c) σ) (η := η) hKp hc hnbp (s := 7) (Or.inr (by omega))
    have hlv : f_Lg_leaveCall (aC c) 7 (Kap kk (S_part (100 + c) σ) η) = some (none, Kap kk (S_bec c 7 0 0 (S_part (100 + c) σ)) η) := hlv
    have hb7 := S_bec_CF (σ := S_part (100 + c) σ) (c := c) (s := 7) (n := 0) (l := 0)
    have hL6 : (S_bec c 7 0 0 (S_part (100 + c) σ)).1 6 0 = σ.1 6 0 := by rw [hb7.1 6 0 (by decide), S_part_I (by decide)]
    have e59 : (S_bec c 7 6 30 (S_part (100 + c) σ)).1 59 c = nI n := by rw [S_bec_I (Or.inl (by decide))]; exact enp
    have hfin : sI (sI (S_bec c 7 0 0 (S_part (100 + c) σ)) 53 c (σ.1 6 0 + 6)) 54 c (σ.1 6 0 + 30) = S_bec c 7 6 30 (S_part (100 + c) σ) := bec_tm (Or.inr (by omega)) (by unfold tmv; rw [if_neg (by decide), S_part_I (by decide)]; rfl) (by unfold tmv; rw [if_neg (by decide), S_part_I (by decide)]; rfl)
    obtain ⟨θ, t1, t2, t3⟩ := fl_post (kk := kk) (η := η) (σ := S_bec c 7 6 30 (S_part (100 + c) σ)) (hKp.sp hcb.sp) (kd := 10) (b := 0) (by decide) hc hn64 (by decide) (by rw [hcb.sp.nbE]; exact hnbp) hP (by omega)
    have t1 : f_Sw_post 17 (some (aC c)) 10 (nI n) 0 _ = _ := t1
    refine ⟨θ, ?_, t2, t3⟩
    have hin2 := fl_inCall (η := η) hKp hc hnbp hstp (by omega)
    rw [if_pos hl] at hin2
    have z11 : ((1 : Int32) = 0) = False := eq_false (by decide)
    have q1 : (some (aC c) = none) = False := by simp
    have hp := hp η
    simp only [f_Sw_letGo, q1, not_false_eq_true, if_true, x_nn, f4, x_cR hp, x_cI his, not_true_eq_false, if_false, x_ite, x_cI hin2, z11, x_cV hlv, x_gR, k17, rr_s17_1, k2, x_after k2, hL6, x_pI, wr_C5, sn_upE, Nat.reduceEqDiff, reduceIte, wr_C6, hfin, x_gI, rd_C10, e59, x_cV t1, f_Sw_letGo_99, r_V]
  · simp at hm
    subst hm
    exact mS_mv (by omega) (by omega) hc hn64 (by decide) hnb (fun q => by omega)
theorem bec_over {c n l : Nat} {v : Int32} : S_bec c 7 n l (sI σ 53 c v) = S_bec c 7 n l σ := by
  have ht : ∀ n, tmv (sI σ 53 c v) n = tmv σ n := fun n => by unfold tmv; rw [sI_ne (by decide)]
  unfold S_bec
  rw [if_pos (by decide), if_pos (by decide), ht, ht, sI_cm (k := 53) (k' := 52) (by decide), sI_sI]
theorem Tm.not {σ : sn_FS} {k i : Nat} (h : Tm 1 σ k i) (hC : ClOk σ) : ¬ out σ k i := by
  obtain ⟨v, hv, e, q⟩ := h
  obtain ⟨h1, h2⟩ := hC.cl
  rintro ⟨n0, n1⟩
  rw [e] at n0
  rw [e, h2] at n1
  have := nI_inj (by omega) (by omega) n1
  rcases q with q | q
  · subst q; exact n0 rfl
  · omega
theorem Tm.new {σ : sn_FS} {k i v : Nat} (hC : ClOk σ) (h : σ.1 k i = σ.1 6 0 + nI v) (h1 : 0 < v) (h2 : v ≤ 60) : Tm 1 σ k i := by
  obtain ⟨a, b⟩ := hC.cl
  exact ⟨cl σ 6 0 + v, by omega, by rw [h, b, nI_add], Or.inr (by omega)⟩
/-- what both do when the second timer has been looked at -/
theorem ct_139 (hB : Cb kk σ) (hI : CI σ) (hC : ClOk σ) {c : Nat} (hc : c < 144) (hnb : nb σ (c / 24) (c % 24 / 4) = true) (h54 : Tm 0 σ 54 c) {d : Decidable (out σ 54 c)} : ∃ σ' new, Ct kk (g_Md_lineTimer_139 (nI c)) (if out σ 54 c then f_Sw_reset 17 (some (aC c)) else r_V) none 1 σ σ' new ∧ Tm 1 σ' 54 c ∧ (Tm 1 σ 53 c → Tm 1 σ' 53 c) ∧ (¬ out σ 54 c → new = []) := by
  have d52 : c < md_len 52 := hc
  have d54 : c < md_len 54 := hc
  by_cases ho : out σ 54 c
  · have h7 : σ.1 52 c = 7 := (hI.2.1 c hc).2.2.2.2.2.2.1 ho.1
    have h57 : σ.1 57 c = -1 := ((hI.2.1 c hc).2.2.2.2.2.1 (Or.inr (by rw [h7]; decide))).1
    obtain ⟨new, h⟩ := ct_reset hB hI hc hnb h57
    have hC2 : ClOk (S_bec c 8 30 0 σ) := hC.at (S_bec_I (Or.inl (by decide)))
    refine ⟨_, new, h.pre CF.rf TS.rf (fun ms ρ hh => ?_) (fun η κ hh => ?_), Tm.z (S_bec_at.2.2.1), fun _ => Tm.new hC2 (v := 30) ?_ (by decide) (by decide), fun q => absurd ho q⟩
    · unfold g_Md_lineTimer_139
      rw [qR d52 (by decide), h7, if_neg (fun q => q rfl), qR d54 (by decide), if_neg (fun q => ho.1 (h54.le.mp q)), qR d54 (by decide)]
      show (if ¬ σ.1 54 c = (Rt ms σ).1 6 0 then (_ : sn_G) else (_ : sn_G)) (Rt ms σ) = _
      rw [Rt_q (by decide), if_neg (fun q => q ho.2)]
      exact hh
    · rw [if_pos ho]; exact hh
    · rw [S_bec_at.2.1, S_bec_I (k := 6) (Or.inl (by decide))]
      unfold tmv
      rw [if_neg (by decide)]
  · refine ⟨σ, [], Ct.id hI (fun ms => ?_) (fun η => by rw [if_neg ho]; rfl), h54.st hC ho, fun h => h, fun _ => rfl⟩
    unfold g_Md_lineTimer_139
    rw [qR d52 (by decide)]
    by_cases c7 : σ.1 52 c = 7
    · rw [if_neg (fun q => q c7), qR d54 (by decide)]
      by_cases c0 : σ.1 54 c = 0
      · rw [if_pos (h54.le.mpr c0)]; rfl
      · rw [if_neg (fun q => c0 (h54.le.mp q)), qR d54 (by decide)]
        show (if ¬ σ.1 54 c = (Rt ms σ).1 6 0 then g_Md_lineTimer_190 else (_ : sn_G)) (Rt ms σ) = _
        rw [Rt_q (by decide), if_pos (fun q => ho ⟨c0, q⟩)]; rfl
    · rw [if_pos c7]; rfl
