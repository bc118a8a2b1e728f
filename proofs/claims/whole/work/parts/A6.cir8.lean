/-! LAYER 2: a circuit's end gets a message -/
variable {kk : Nat → Nat} {σ : sn_FS}
/-- both reset -/
theorem ct_reset (hB : Cb kk σ) (hI : CI σ) {c : Nat} (hc : c < 144) (hnb : nb σ (c / 24) (c % 24 / 4) = true) (h57 : σ.1 57 c = -1) : ∃ new, Ct kk (y_V (g_Md_say (nI c) (12 : Int32) (0 : Int32)) (y_V (g_Md_becomes (nI c) (8 : Int32) (30 : Int32) (0 : Int32)) (z_V))) (f_Sw_reset 17 (some (aC c))) none 1 σ (S_bec c 8 30 0 σ) new := by
  obtain ⟨hK, hG, hT⟩ := hB
  have hKo := hK
  obtain ⟨⟨k1, k2, k3, k4, k5, k6, k7, k8, k9, k10, k11, k12, k13, k14, k15, k16, k17, k18, k19, k20, k21, k22⟩, kE, kF, kP, k4s⟩ := id hK
  obtain ⟨f1, f2, f3, f4⟩ := kF c hc hnb
  obtain ⟨n, hn64, en⟩ := (hI.2.1 c hc).2.1
  have hcf := S_bec_CF (σ := σ) (c := c) (s := 8) (n := 30) (l := 0)
  refine ⟨[mS 12 c n 0], fun ms => ?_, fun η ms hP hl => ?_, by simp, fun m hm => ?_, hcf, S_bec_ts (by omega) (by omega), CI.rel hI hc h57 (Or.inr (Or.inl ⟨rfl, rfl⟩)) hnb⟩
  · have hs := gl_say (kd := 12) (b := 0) hG hT (by decide) hc hn64 en (by decide) ms
    have hs : g_Md_say (nI c) 12 0 (Rt ms σ) = _ := hs
    have hbc := gl_becomes (σ := σ) (s := 8) (n := 30) (l := 0) hc (by decide) (by decide) (by decide) (ms ++ [mS 12 c n 0])
    have hbc : g_Md_becomes (nI c) 8 30 0 _ = _ := hbc
    rw [y_V_at hs, y_V_at hbc]; rfl
  · obtain ⟨θ, t1, t2, t3⟩ := fl_post (kk := kk) (η := η) (σ := S_bec c 8 30 0 σ) (hKo.sp hcf.sp) (kd := 12) (b := 0) (by decide) hc hn64 (by decide) (by rw [hcf.sp.nbE]; exact hnb) hP (by omega)
    have t1 : f_Sw_post 17 (some (aC c)) 12 (nI n) 0 _ = _ := t1
    refine ⟨θ, ?_, t2, t3⟩
    have hlv := fl_leave (η := η) hKo hc hnb (s := 8) (Or.inr (by omega))
    have hlv : f_Lg_leaveCall (aC c) 8 (Kap kk σ η) = some (none, Kap kk (S_bec c 8 0 0 σ) η) := hlv
    have h6 : (S_bec c 8 0 0 σ).1 6 0 = σ.1 6 0 := S_bec_I (Or.inl (by decide))
    have hfin : sI (S_bec c 8 0 0 σ) 53 c (σ.1 6 0 + 30) = S_bec c 8 30 0 σ := by
      rw [← bec_tm (n := 30) (l := 0) (Or.inr (by omega)) rfl rfl]
      have : tmv σ 30 = σ.1 6 0 + 30 := by unfold tmv; rw [if_neg (by decide)]; rfl
      rw [this]
      symm
      refine sI_id ?_
      rw [sI_ne (by decide), S_bec_at.2.2.1]
    have e59 : (S_bec c 8 30 0 σ).1 59 c = nI n := by rw [S_bec_I (Or.inl (by decide))]; exact en
    simp only [f_Sw_reset, x_nn, f4, if_true, x_cV hlv, x_gR, k17, rr_s17_1, k2, x_after k2, h6, x_pI, wr_C5, hfin, x_gI, rd_C10, e59, x_cV t1, r_V]
  · simp at hm
    subst hm
    exact mS_mv (by omega) (by omega) hc hn64 (by decide) hnb (fun q => by omega)
/-- a call is taken -/
def S_tkc (c to len n : Nat) (σ : sn_FS) : sn_FS := sI (sI (sI (sI (sI (sI σ 52 c 4) 53 c 0) 54 c 0) 58 c (nI to)) 59 c (nI n)) 60 c (nI len)
theorem S_tkc_I {c to len n k i : Nat} (h : (k ≠ 52 ∧ k ≠ 53 ∧ k ≠ 54 ∧ k ≠ 58 ∧ k ≠ 59 ∧ k ≠ 60) ∨ i ≠ c) : (S_tkc c to len n σ).1 k i = σ.1 k i := by
  unfold S_tkc
  rcases h with h | h
  · rw [sI_ne (by omega), sI_ne (by omega), sI_ne (by omega), sI_ne (by omega), sI_ne (by omega), sI_ne (by omega)]
  · rw [sI_nk h, sI_nk h, sI_nk h, sI_nk h, sI_nk h, sI_nk h]
theorem S_tkc_lg {c to len n g : Nat} : lgv (S_tkc c to len n σ) g = lgv σ g := by
  unfold lgv
  rw [S_tkc_I (Or.inl (by decide)), S_tkc_I (Or.inl (by decide))]
theorem S_tkc_CF {c to len n : Nat} : CF σ (S_tkc c to len n σ) := (((((CF.rf.sI (k := 52) (by decide)).sI (k := 53) (by decide)).sI (k := 54) (by decide)).sI (k := 58) (by decide)).sI (k := 59) (by decide)).sI (k := 60) (by decide)
theorem S_tkc_CI (hI : CI σ) {c to len n : Nat} (hc : c < 144) (hnb : nb σ (c / 24) (c % 24 / 4) = true) (hto : numOk to) (hlen : len ≤ 6) (hn : n < 64) : CI (S_tkc c to len n σ) := by
  have hcf := S_tkc_CF (σ := σ) (c := c) (to := to) (len := len) (n := n)
  refine ⟨hI.1.mk' hcf (fun g => S_tkc_lg), fun c' hc' => ?_, fun p hp => (hI.2.2 p hp).mk' (S_tkc_I (Or.inl (by decide))) (Or.inl (S_tkc_I (Or.inl (by decide))))⟩
  by_cases e : c' = c
  · subst e
    obtain ⟨a1, a2, a3, a4, a5, a6, a7, a8, a9, a10, a11⟩ := hI.2.1 c' hc'
    have t52 : (S_tkc c' to len n σ).1 52 c' = 4 := by unfold S_tkc; simp only [sn_upE, Nat.reduceEqDiff, reduceIte]
    have t53 : (S_tkc c' to len n σ).1 53 c' = 0 := by unfold S_tkc; simp only [sn_upE, Nat.reduceEqDiff, reduceIte]
    have t54 : (S_tkc c' to len n σ).1 54 c' = 0 := by unfold S_tkc; simp only [sn_upE, Nat.reduceEqDiff, reduceIte]
    have t58 : (S_tkc c' to len n σ).1 58 c' = nI to := by unfold S_tkc; simp only [sn_upE, Nat.reduceEqDiff, reduceIte]
    have t59 : (S_tkc c' to len n σ).1 59 c' = nI n := by unfold S_tkc; simp only [sn_upE, Nat.reduceEqDiff, reduceIte]
    have t60 : (S_tkc c' to len n σ).1 60 c' = nI len := by unfold S_tkc; simp only [sn_upE, Nat.reduceEqDiff, reduceIte]
    unfold C1
    rw [t52, t53, t54, t58, t59, t60, S_tkc_I (k := 55) (Or.inl (by decide)), S_tkc_I (k := 56) (Or.inl (by decide)), hcf.sp.nbE]
    refine ⟨⟨4, by omega, rfl⟩, ⟨n, hn, rfl⟩, ⟨len, hlen, rfl⟩, Or.inr ⟨to, hto, rfl⟩, fun q => absurd q (by decide), fun q => ?_, fun q => absurd rfl q, fun q => absurd rfl q, a9, a10, fun q => ?_⟩
    · rcases q with q | q <;> exact absurd q (by decide)
    · rw [hnb] at q; cases q
  · exact (hI.2.1 c' hc').mk' hcf (fun k _ _ _ => S_tkc_I (Or.inr e)) (Or.inl (S_tkc_I (Or.inr e)))
theorem S_tkc_ts {c to len n : Nat} : TS σ (S_tkc c to len n σ) := by
  refine ⟨S_tkc_I (Or.inl (by decide)), fun k i hk => ?_⟩
  by_cases ci : i = c
  · rw [ci]
    rcases tm_of hk with rfl | rfl | rfl | rfl | rfl | rfl
    · exact Or.inl (S_tkc_I (Or.inl (by decide)))
    · exact Or.inl (S_tkc_I (Or.inl (by decide)))
    · exact Or.inl (S_tkc_I (Or.inl (by decide)))
    · exact Or.inl (S_tkc_I (Or.inl (by decide)))
    · exact Or.inr (Or.inl (by unfold S_tkc; simp only [sn_upE, Nat.reduceEqDiff, reduceIte]))
    · exact Or.inr (Or.inl (by unfold S_tkc; simp only [sn_upE, Nat.reduceEqDiff, reduceIte]))
  · exact Or.inl (S_tkc_I (Or.inr ci))
theorem b63 : ∀ v, v < 448 → nI v &&& (63 : Int32) = nI (v % 64) := by decide +kernel
theorem b6 : ∀ v, v < 448 → nI v >>> ((6 : Int32) &&& 31) = nI (v / 64) := by decide +kernel
theorem b64m : ∀ v, v < 448 → nI v % (64 : Int32) = nI (v % 64) := by decide +kernel
theorem b64d : ∀ v, v < 448 → nI v / (64 : Int32) = nI (v / 64) := by decide +kernel
theorem part_id {g : Nat} (h : lgv σ g = -1) : S_part g σ = σ := by
  unfold S_part
  rw [if_pos h]
  unfold sLg
  unfold lgv at h
  split
  · rename_i c; rw [if_pos c] at h; exact sI_id h
  · rename_i c; rw [if_neg c] at h; exact sI_id h
theorem joined_inC (hI : CI σ) {g o : Nat} (hg : VL σ g) (ho : VL σ o) (h1 : lgv σ o = nI g) : inC σ o := by
  have hm := hg.vn.m1
  refine ⟨fun c => ?_, fun c => ?_⟩
  · have h24 : o < 24 := by have := ho.vn; unfold Vn at this; omega
    have hp := (hI.2.2 o h24).2
    rw [lgv_62 h24] at h1
    refine ⟨fun q => ?_, fun q => ?_⟩
    · have := hp (Or.inl q); rw [h1] at this; exact hm this
    · have := hp (Or.inr q); rw [h1] at this; exact hm this
  · have h144 : o - 100 < 144 := by have := ho.vn; unfold Vn at this; omega
    have hp := (hI.2.1 (o - 100) h144).2.2.2.2.2.1
    have e1 : 100 + (o - 100) = o := by omega
    rw [← e1, lgv_57] at h1
    refine ⟨fun q => ?_, fun q => ?_⟩
    · have := (hp (Or.inl q)).1; rw [h1] at this; exact hm this
    · have := (hp (Or.inr q)).1; rw [h1] at this; exact hm this
/-- what both do when a call comes in, and perhaps another had been asked for -/
theorem ct_take2 (hB : Cb kk σ) (hI : CI σ) {c b n : Nat} (hc : c < 144) (hnb : nb σ (c / 24) (c % 24 / 4) = true) (hto : numOk (b % 64)) (hlen : b / 64 ≤ 6) (hn : n < 64) (h58 : ¬ σ.1 57 c = -1 → ∃ v, numOk v ∧ σ.1 58 c = nI v) : ∃ σ' new, Ct kk (y_V (g_Md_part ((100 : Int32) + nI c)) (y_V (g_Md_takeCall (nI c) (nI b) (nI n)) ((if σ.1 57 c = (-1 : Int32) then g_Md_circuitGets_202 else y_V (g_Md_connect (nI (c / 24)) (σ.1 57 c) (σ.1 58 c)) (g_Md_circuitGets_202))))) (f_Sw_getInitial_35 17 (some (aC c)) (nI n) (nI b)) none 2 σ σ' new := by
  have hB0 := hB
  obtain ⟨hK, hG, hT⟩ := hB
  have hKo := hK
  obtain ⟨⟨k1, k2, k3, k4, k5, k6, k7, k8, k9, k10, k11, k12, k13, k14, k15, k16, k17, k18, k19, k20, k21, k22⟩, kE, kF, kP, k4s⟩ := id hK
  obtain ⟨f1, f2, f3, f4⟩ := kF c hc hnb
  have hb448 : b < 448 := by omega
  have hVc : VL σ (100 + c) := Or.inr ⟨by omega, by omega, by rw [Nat.add_sub_cancel_left]; exact hnb⟩
  have haL : aL (100 + c) = aC c := by unfold aL; rw [if_pos (by omega), Nat.add_sub_cancel_left]
  have hxc : xg (100 + c) = c / 24 := by unfold xg; rw [if_pos (by omega), Nat.add_sub_cancel_left]
  have h100 : (100 : Int32) + nI c = nI (100 + c) := nI_add 100 c
  have hcfp := S_part_CF (σ := σ) (g := 100 + c)
  have hIp := hI.part hVc
  have htsp : TS σ (S_part (100 + c) σ) := CF_ts hcfp (fun i => ⟨S_part_I (by decide), S_part_I (by decide)⟩)
  have hnbp : nb (S_part (100 + c) σ) (c / 24) (c % 24 / 4) = true := by rw [hcfp.sp.nbE]; exact hnb
  have hcft := S_tkc_CF (σ := S_part (100 + c) σ) (c := c) (to := b % 64) (len := b / 64) (n := n)
  have hIt := S_tkc_CI hIp hc hnbp hto hlen hn
  have htst := S_tkc_ts (σ := S_part (100 + c) σ) (c := c) (to := b % 64) (len := b / 64) (n := n)
  have hcf1 := hcfp.tr hcft
  have hlg1 : ∀ g, lgv (S_tkc c (b % 64) (b / 64) n (S_part (100 + c) σ)) g = lgv (S_part (100 + c) σ) g := fun g => S_tkc_lg
  have t52 : (S_tkc c (b % 64) (b / 64) n (S_part (100 + c) σ)).1 52 c = 4 := by unfold S_tkc; simp only [sn_upE, Nat.reduceEqDiff, reduceIte]
  have hinC : inC (S_tkc c (b % 64) (b / 64) n (S_part (100 + c) σ)) (100 + c) := ⟨fun q => by omega, fun _ => by rw [Nat.add_sub_cancel_left, t52]; decide⟩
  obtain ⟨σ2, n2, hC2, hCf2⟩ := ct_conn (hcf1.cb hB0) hIt (g := 100 + c) (to := b % 64) (by rw [hcf1.vl]; exact hVc) (by rw [hlg1, S_part_lg hI.1 hVc hVc.vn, if_pos rfl]) hinC hto
  rw [hxc, haL] at hC2
  -- the reference's taking, the class's
  have d58 : c < md_len 58 := hc
  have d59 : c < md_len 59 := hc
  have d60 : c < md_len 60 := hc
  have htake : ∀ ms ρ, g_Md_connect (nI (c / 24)) (nI (100 + c)) (nI (b % 64)) (Rt ms (S_tkc c (b % 64) (b / 64) n (S_part (100 + c) σ))) = some (none, ρ) → g_Md_takeCall (nI c) (nI b) (nI n) (Rt ms (S_part (100 + c) σ)) = some (none, ρ) := fun ms ρ h => by
    have hbc := gl_becomes (σ := S_part (100 + c) σ) (s := 4) (n := 0) (l := 0) hc (by decide) (by decide) (by decide) ms
    have hbc : g_Md_becomes (nI c) 4 0 0 _ = _ := hbc
    have hS : S_bec c 4 0 0 (S_part (100 + c) σ) = sI (sI (sI (S_part (100 + c) σ) 52 c 4) 53 c 0) 54 c 0 := by
      unfold S_bec tmv
      rw [if_neg (by decide)]; rfl
    rw [hS] at hbc
    unfold g_Md_takeCall
    rw [b63 b hb448]
    show y_V (g_Md_becomes (nI c) (4 : Int32) (0 : Int32) (0 : Int32)) (w_I 60 (nI c) (nI b >>> ((6 : Int32) &&& 31)) (w_I 59 (nI c) (nI n) (w_I 58 (nI c) (nI (b % 64)) (y_V (g_Md_connect (nI c / (24 : Int32)) ((100 : Int32) + nI c) (nI (b % 64))) (z_V))))) _ = _
    rw [y_V_at hbc, wRt d60 (by decide), wRt d59 (by decide), wRt d58 (by decide), b6 b hb448, c24 c hc, h100]
    have hso : sI (sI (sI (sI (sI (sI (S_part (100 + c) σ) 52 c 4) 53 c 0) 54 c 0) 60 c (nI (b / 64))) 59 c (nI n)) 58 c (nI (b % 64)) = S_tkc c (b % 64) (b / 64) n (S_part (100 + c) σ) := by
      unfold S_tkc
      rw [sI_sw (k := 60) (k' := 59) (by decide), sI_sw (k := 60) (k' := 58) (by decide), sI_sw (k := 59) (k' := 58) (by decide)]
    rw [hso, y_V_at h]; rfl
  have hpre : ∀ η κ, f_Sw_connect 17 (some (aC c)) (nI (b % 64)) (Kap kk (S_tkc c (b % 64) (b / 64) n (S_part (100 + c) σ)) η) = some (none, κ) → f_Sw_getInitial_35 17 (some (aC c)) (nI n) (nI b) (Kap kk σ η) = (if k_leg (σ.1 57 c) = none then f_Sw_getInitial_95 17 else n_n 7 (some 17) fun a9 => c_V (f_Sw_connect a9 (k_leg (σ.1 57 c)) (σ.1 58 c)) (f_Sw_getInitial_95 17)) κ := fun η κ h => by
    have hp := fl_part (kk := kk) (η := η) hKo hI.1 hVc
    rw [haL, lgv_57] at hp
    have hK1 := hKo.sp hcfp.sp
    have hlv : f_Lg_leaveCall (aC c) 4 (Kap kk (S_part (100 + c) σ) η) = some (none, Kap kk (sI (sI (sI (sI (sI (S_part (100 + c) σ) 52 c 4) 53 c 0) 54 c 0) 58 c (-1)) 60 c 0) η) := by
      simp only [f_Lg_leaveCall, x_pI, f4, if_true, wr_C3, wr_C5, wr_C6, wr_C9, wr_C11, r_V]
    have hso : sI (sI (sI (sI (sI (sI (sI (sI (S_part (100 + c) σ) 52 c 4) 53 c 0) 54 c 0) 58 c (-1)) 60 c 0) 58 c (nI (b % 64))) 60 c (nI (b / 64))) 59 c (nI n) = S_tkc c (b % 64) (b / 64) n (S_part (100 + c) σ) := by
      unfold S_tkc
      rw [sI_sw (k := 60) (k' := 58) (by decide), sI_sI, sI_sI, sI_sw (k := 60) (k' := 59) (by decide)]
    have t58 : (S_tkc c (b % 64) (b / 64) n (S_part (100 + c) σ)).1 58 c = nI (b % 64) := by unfold S_tkc; simp only [sn_upE, Nat.reduceEqDiff, reduceIte]
    simp only [f_Sw_getInitial_35, x_gI, f4, if_true, rd_C9, x_nn, x_cR hp, x_cV hlv, x_pI, b64m b hb448, wr_C9, b64d b hb448, wr_C11, wr_C10, hso, t58, k17, x_cV h]
  have hpartg : ∀ ms, g_Md_part ((100 : Int32) + nI c) (Rt ms σ) = some (none, Rt ms (S_part (100 + c) σ)) := fun ms => by rw [h100]; exact gl_part hI.1 hVc ms
  by_cases c57 : σ.1 57 c = -1
  · refine ⟨σ2, n2, ?_⟩
    have h1 := Ct.pre (g := y_V (g_Md_part ((100 : Int32) + nI c)) (y_V (g_Md_takeCall (nI c) (nI b) (nI n)) ((if σ.1 57 c = (-1 : Int32) then g_Md_circuitGets_202 else y_V (g_Md_connect (nI (c / 24)) (σ.1 57 c) (σ.1 58 c)) (g_Md_circuitGets_202))))) (f := f_Sw_getInitial_35 17 (some (aC c)) (nI n) (nI b)) (rv' := none) hC2 hcf1 (htsp.tr htst) (fun ms ρ h => ?_) (fun η κ h => ?_)
    · obtain ⟨a1, a2, a3, a4⟩ := h1
      exact ⟨a1, fun η ms hP hl => a2 η ms hP (by omega), by omega, a4⟩
    · rw [y_V_at (hpartg ms), y_V_at (htake ms ρ h), if_pos c57]; rfl
    · rw [hpre η κ h, c57, k_leg_m, if_pos rfl]; rfl
  · -- the call that had been asked for is connected anew
    obtain ⟨v, hv, ev⟩ := h58 c57
    rcases hI.1 (100 + c) hVc with q | ⟨o, o1, o2, o3, o4, o5⟩
    · rw [lgv_57] at q; exact absurd q c57
    · rw [lgv_57] at o4
      have hVo := o1.vn
      have hinO := joined_inC hI hVc o1 o5
      have hst1 : ∀ g', g' ≠ 100 + c → Vn g' → st (S_tkc c (b % 64) (b / 64) n (S_part (100 + c) σ)) g' = st σ g' := fun g' hne hv' => by
        unfold st
        by_cases cg : 100 ≤ g'
        · rw [if_pos cg, if_pos cg, S_tkc_I (Or.inr (by omega)), S_part_I (by decide)]
        · rw [if_neg cg, if_neg cg, S_tkc_I (Or.inl (by decide)), S_part_I (by decide)]
      obtain ⟨r1, r2⟩ := hCf2 o hVo o2 (by rw [hst1 o o2 hVo]; exact hinO.ns)
      have hlo : lgv σ2 o = -1 := by
        rw [r1, hlg1, S_part_lg hI.1 hVc hVo, if_neg o2, lgv_57, if_pos o4]
      rw [hst1 o o2 hVo] at r2
      have hin2 : inC σ2 o := by
        refine ⟨fun cc => ?_, fun cc => ?_⟩
        · unfold st at r2
          rw [if_neg (by omega), if_neg (by omega)] at r2
          rw [r2]; exact hinO.1 cc
        · unfold st at r2
          rw [if_pos cc, if_pos cc] at r2
          rw [r2]; exact hinO.2 cc
      obtain ⟨b1, b2, b3, b4, b5, b6', b7⟩ := id hC2
      have hcf2 := hcf1.tr b5
      obtain ⟨σ3, n3, hC3, -⟩ := ct_conn (hcf2.cb hB0) b7 (g := o) (to := v) (by rw [hcf2.vl]; exact o1) hlo hin2 hv
      have hxo : xg o = c / 24 := by rw [o3, hxc]
      rw [hxo] at hC3
      refine ⟨σ3, n2 ++ n3, ?_⟩
      refine Ct.pre (g' := y_V (g_Md_connect (nI (c / 24)) (nI (100 + c)) (nI (b % 64))) (y_V (g_Md_connect (nI (c / 24)) (nI o) (nI v)) z_V)) (f' := c_V (f_Sw_connect 17 (some (aC c)) (nI (b % 64))) (n_n 7 (some 17) fun a9 => c_V (f_Sw_connect a9 (some (aL o)) (nI v)) (f_Sw_getInitial_95 17))) (rv := none) (Ct.bind hC2 hC3 (b := 2) (by omega) (fun ms ms' ρ h1 h2 => ?_) (fun η θ κ h1 h2 => ?_)) hcf1 (htsp.tr htst) (fun ms ρ h => ?_) (fun η κ h => ?_)
      · rw [y_V_at h1, y_V_at h2]; rfl
      · rw [x_cV h1]
        simp only [x_nn, k17, if_true, x_cV h2]
        rfl
      · obtain ⟨ρ1, hρ1⟩ : ∃ ρ1, g_Md_connect (nI (c / 24)) (nI (100 + c)) (nI (b % 64)) (Rt ms (S_tkc c (b % 64) (b / 64) n (S_part (100 + c) σ))) = some (none, ρ1) := ⟨_, b1 ms⟩
        rw [y_V_at hρ1] at h
        rw [y_V_at (hpartg ms), y_V_at (htake ms ρ1 hρ1), if_neg c57, o4, ev]
        exact h
      · -- the class
        obtain ⟨κ1, hκ1, h⟩ := c_V_use h
        have q1 : ¬ (some (aL o) = none) := by simp
        rw [hpre η κ1 hκ1, o4, k_leg_n hVo, if_neg q1, ev]
        exact h
