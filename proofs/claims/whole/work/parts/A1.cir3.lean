/-! LAYER 2: letting go, going back: both -/
variable {kk : Nat → Nat} {σ : sn_FS}
theorem pos_of {x : Nat} (h : x < 100) : (nI x < (1 : Int32)) ↔ x = 0 := by
  have := nI_ltI (a := x) (b := 1) (by omega) (by omega)
  constructor
  · intro q; have := this.mp q; omega
  · intro q; exact this.mpr (by omega)
theorem six_of {x : Nat} (h : x < 100) : ((6 : Int32) < nI x) ↔ 7 ≤ x := by
  have := nI_ltI (a := 6) (b := x) (by omega) (by omega)
  constructor
  · intro q; have := this.mp q; omega
  · intro q; exact this.mpr (by omega)
theorem seven_of {x : Nat} (h : x < 100) : ((7 : Int32) ≤ nI x) ↔ 7 ≤ x := nI_leI (a := 7) (b := x) (by omega) (by omega)
/-- a circuit's end that let go -/
theorem CI.rel {c : Nat} (h : CI σ) (hc : c < 144) (h57 : σ.1 57 c = -1) {s n l : Nat} (hs : s = 7 ∨ (s = 8 ∧ l = 0) ∨ (s = 0 ∧ n = 0 ∧ l = 0)) (hnb : nb σ (c / 24) (c % 24 / 4) = true) : CI (S_bec c s n l σ) := by
  have hcf : CF σ (S_bec c s n l σ) := S_bec_CF
  have hlg : ∀ g, lgv (S_bec c s n l σ) g = lgv σ g := fun g => by
    unfold lgv
    rw [S_bec_I (Or.inl (by decide)), S_bec_I (Or.inl (by decide))]
  refine ⟨h.1.mk' hcf hlg, fun c' hc' => ?_, fun p hp => (h.2.2 p hp).mk' (S_bec_I (Or.inl (by decide))) (Or.inl (S_bec_I (Or.inl (by decide))))⟩
  by_cases e : c' = c
  · subst e
    obtain ⟨a1, a2, a3, a4, a5, a6, a7, a8, a9, a10, a11⟩ := h.2.1 c' hc'
    obtain ⟨b1, b2, b3, b4, -⟩ := S_bec_at (σ := σ) (c := c') (s := s) (n := n) (l := l)
    obtain ⟨b5, b6⟩ := b4 (by omega)
    have hv : σ.1 6 0 = σ.1 6 0 := rfl
    unfold C1
    rw [b1, b2, b3, b5, b6, S_bec_I (k := 55) (Or.inl (by decide)), S_bec_I (k := 56) (Or.inl (by decide)), S_bec_I (k := 57) (Or.inl (by decide)), S_bec_I (k := 59) (Or.inl (by decide)), hcf.sp.nbE]
    refine ⟨⟨s, by omega, rfl⟩, a2, ⟨0, by omega, rfl⟩, Or.inl rfl, fun q => ?_, fun _ => ⟨h57, rfl, rfl⟩, fun q => ?_, fun q => ?_, a9, a10, fun q => ?_⟩
    · rcases hs with rfl | ⟨rfl, -⟩ | ⟨rfl, -⟩ <;> exact absurd q (by decide)
    · rcases hs with rfl | ⟨-, rfl⟩ | ⟨-, -, rfl⟩
      · rfl
      · exact absurd (by unfold tmv; rw [if_pos rfl]) q
      · exact absurd (by unfold tmv; rw [if_pos rfl]) q
    · rcases hs with rfl | ⟨rfl, -⟩ | ⟨-, rfl, -⟩
      · exact Or.inr (Or.inr (Or.inl rfl))
      · exact Or.inr (Or.inr (Or.inr rfl))
      · exact absurd (by unfold tmv; rw [if_pos rfl]) q
    · rw [hnb] at q; cases q
  · exact (h.2.1 c' hc').mk' hcf (fun k _ _ _ => S_bec_I (Or.inr e)) (Or.inl (S_bec_I (Or.inr e)))
theorem fl_leave {c s : Nat} {η : sn_FS} (hK : KOk kk σ) (hc : c < 144) (hnb : nb σ (c / 24) (c % 24 / 4) = true) (hs : s = 0 ∨ 7 ≤ s) : f_Lg_leaveCall (aC c) (nI s) (Kap kk σ η) = some (none, Kap kk (S_bec c s 0 0 σ) η) := by
  obtain ⟨⟨k1, k2, k3, k4, k5, k6, k7, k8, k9, k10, k11, k12, k13, k14, k15, k16, k17, k18, k19, k20, k21, k22⟩, kE, kF, kP, k4s⟩ := id hK
  obtain ⟨f1, f2, f3, f4⟩ := kF c hc hnb
  have hS : S_bec c s 0 0 σ = sI (sI (sI (sI (sI σ 52 c (nI s)) 53 c 0) 54 c 0) 58 c (-1)) 60 c 0 := by unfold S_bec tmv; rw [if_pos hs]; rfl
  simp only [f_Lg_leaveCall, x_pI, f4, if_true, wr_C3, wr_C5, wr_C6, wr_C9, wr_C11, r_V, hS]
theorem bec_tm {c s n l : Nat} (hs : s = 0 ∨ 7 ≤ s) {v w : Int32} (hv : v = tmv σ n) (hw : w = tmv σ l) : sI (sI (S_bec c s 0 0 σ) 53 c v) 54 c w = S_bec c s n l σ := by
  subst hv hw
  unfold S_bec
  rw [if_pos hs, if_pos hs]
  rw [sI_sw (k := 60) (k' := 53) (by decide), sI_sw (k := 58) (k' := 53) (by decide), sI_sw (k := 54) (k' := 53) (by decide), sI_sI, sI_sw (k := 60) (k' := 54) (by decide), sI_sw (k := 58) (k' := 54) (by decide), sI_sI]
/-- the frame of a step at one leg -/
def Lf (σ τ : sn_FS) (g : Nat) : Prop := ∀ g', Vn g' → g' ≠ g → (lgv τ g' = if lgv σ g = nI g' then -1 else lgv σ g') ∧ st τ g' = st σ g' ∧ lng τ g' = lng σ g' ∧ (100 ≤ g' → τ.1 58 (g' - 100) = σ.1 58 (g' - 100))
theorem ct_letGo (hB : Cb kk σ) (hI : CI σ) {g : Nat} (h : VL σ g) : ∃ σ' new, Ct kk (g_Md_letGo (nI g)) (f_Sw_letGo 17 (some (aL g))) none 1 σ σ' new ∧ lgv σ' g = -1 ∧ Lf σ σ' g ∧ (100 ≤ g → ¬ σ.1 52 (g - 100) = 0 → (7 : Int32) ≤ σ'.1 52 (g - 100)) := by
  obtain ⟨hK, hG, hT⟩ := hB
  have hKo := hK
  obtain ⟨⟨k1, k2, k3, k4, k5, k6, k7, k8, k9, k10, k11, k12, k13, k14, k15, k16, k17, k18, k19, k20, k21, k22⟩, kE, kF, kP, k4s⟩ := id hK
  have hV := h.vn
  have hm1 : ¬ nI g = (-1 : Int32) := hV.m1
  have h4 := hKo.leg h
  have hIp := hI.part h
  have hcf := S_part_CF (σ := σ) (g := g)
  have hp : ∀ η, f_Lg_part (aL g) (Kap kk σ η) = some (some (va_rf (k_leg (lgv σ g))), Kap kk (S_part g σ) η) := fun η => fl_part hKo hI.1 h
  have hKp := hKo.sp hcf.sp
  have hlp : ∀ g', Vn g' → g' ≠ g → lgv (S_part g σ) g' = if lgv σ g = nI g' then -1 else lgv σ g' := fun g' hv hne => by rw [S_part_lg hI.1 h hv, if_neg hne]
  have hlpg : lgv (S_part g σ) g = -1 := by rw [S_part_lg hI.1 h hV, if_pos rfl]
  have q1 : (some (aL g) = none) = False := by simp
  have his : ∀ η, f_Lg_isSubscriber (aL g) (Kap kk (S_part g σ) η) = some (some (.int (if g < 100 then 1 else 0)), Kap kk (S_part g σ) η) := fun η => fl_isSub hKp (by rw [hcf.vl]; exact h)
  have k17' : kk 17 = 7 := k17
  by_cases c : g < 100
  · -- a subscriber
    have hg24 : g < 24 := by unfold Vn at hV; omega
    have d61 : g < md_len 61 := hg24
    obtain ⟨v, hv, ev⟩ := (hI.2.2 g hg24).1
    obtain ⟨s', hs'⟩ : ∃ s' : Int32, s' = if v = 3 then 0 else if v = 0 then 0 else 5 := ⟨_, rfl⟩
    have hst : st σ g = σ.1 61 g := by unfold st; rw [if_neg (by omega)]
    have hstp : (S_part g σ).1 61 g = nI v := by rw [S_part_I (by decide)]; exact ev
    have hsS : ∀ x τ, sSt g x τ = sI τ 61 g x := fun x τ => by unfold sSt; rw [if_neg (by omega)]
    have hge : ¬ (100 : Int32) ≤ nI g := fun q => by have := hV.ge.mp q; omega
    have hcf2 : CF σ (sI (S_part g σ) 61 g s') := hcf.sI (by decide)
    refine ⟨sI (S_part g σ) 61 g s', [], ⟨fun ms => ?_, fun η ms hP _ => ⟨η, ?_, by rw [List.append_nil]; exact hP, HE.rf⟩, Nat.zero_le _, (fun m hm => by cases hm), hcf2, CF_ts hcf2 (fun i => ⟨by rw [sI_ne (by decide), S_part_I (by decide)], by rw [sI_ne (by decide), S_part_I (by decide)]⟩), ?_⟩, ?_, ?_, fun q => by omega⟩
    · rw [List.append_nil]
      unfold g_Md_letGo
      rw [if_pos hm1, y_V_at (gl_part hI.1 h ms), if_neg hge, qR d61 (by decide), hstp]
      obtain rfl | rfl | rfl | rfl | rfl | rfl : v = 0 ∨ v = 1 ∨ v = 2 ∨ v = 3 ∨ v = 4 ∨ v = 5 := by omega
      · rw [if_pos (by decide), qR d61 (by decide), hstp, if_neg (by decide), qR d61 (by decide), hstp, if_neg (by decide), qR d61 (by decide), hstp, if_pos (by decide), qR d61 (by decide), hstp]
        unfold g_Md_letGo_76
        rw [wRt d61 (by decide), hs']; rfl
      · rw [if_pos (by decide), qR d61 (by decide), hstp, if_pos (by decide)]
        unfold g_Md_letGo_66 g_Md_letGo_76
        rw [wRt d61 (by decide), hs']; rfl
      · rw [if_pos (by decide), qR d61 (by decide), hstp, if_neg (by decide), qR d61 (by decide), hstp, if_pos (by decide)]
        unfold g_Md_letGo_66 g_Md_letGo_76
        rw [wRt d61 (by decide), hs']; rfl
      · rw [if_neg (fun q => q (by decide))]
        unfold g_Md_letGo_76
        rw [wRt d61 (by decide), hs']; rfl
      · rw [if_pos (by decide), qR d61 (by decide), hstp, if_neg (by decide), qR d61 (by decide), hstp, if_neg (by decide), qR d61 (by decide), hstp, if_neg (fun q => q (by decide))]
        unfold g_Md_letGo_66 g_Md_letGo_76
        rw [wRt d61 (by decide), hs']; rfl
      · rw [if_pos (by decide), qR d61 (by decide), hstp, if_neg (by decide), qR d61 (by decide), hstp, if_neg (by decide), qR d61 (by decide), hstp, if_pos (by decide), qR d61 (by decide), hstp]
        unfold g_Md_letGo_76
        rw [wRt d61 (by decide), hs']; rfl
    · have his := his η
      rw [if_pos c] at his
      have z10 : ((1 : Int32) = 0) = False := eq_false (by decide)
      have hstq : st (S_part g σ) g = nI v := by rw [S_part_st, hst]; exact ev
      by_cases c3 : v = 3
      · subst c3
        have hs0 : s' = 0 := by rw [hs', if_pos rfl]
        have o3 : ((nI 3 : Int32) = 3) = True := eq_true (by decide)
        simp only [f_Sw_letGo, q1, not_false_eq_true, if_true, x_nn, h4, x_cR (hp η), x_cI his, z10, if_false, x_ite, x_gI, rd_L3, hstq, o3, not_true_eq_false, x_pI, wr_L3, hsS, f_Sw_letGo_99, r_V, hs0]
      · have o3 : ((nI v : Int32) = 3) = False := eq_false (fun q => c3 (nI_inj (a := v) (b := 3) (by omega) (by omega) q))
        by_cases c0 : v = 0
        · subst c0
          have hs0 : s' = 0 := by rw [hs', if_neg c3, if_pos rfl]
          have o0 : ((nI 0 : Int32) = 0) = True := eq_true (by decide)
          have hid : sI (S_part g σ) 61 g s' = S_part g σ := sI_id (by rw [hs0]; exact hstp)
          rw [hid]
          simp only [f_Sw_letGo, q1, not_false_eq_true, if_true, x_nn, h4, x_cR (hp η), x_cI his, z10, if_false, x_ite, x_gI, rd_L3, hstq, o3, o0, f_Sw_letGo_99, r_V]
        · have hs0 : s' = 5 := by rw [hs', if_neg c3, if_neg c0]
          have o0 : ((nI v : Int32) = 0) = False := eq_false (fun q => c0 (nI_inj (a := v) (b := 0) (by omega) (by omega) q))
          simp only [f_Sw_letGo, q1, not_false_eq_true, if_true, x_nn, h4, x_cR (hp η), x_cI his, z10, if_false, x_ite, x_gI, rd_L3, hstq, o3, o0, x_pI, wr_L3, hsS, f_Sw_letGo_99, r_V, hs0]
    · have hl : ∀ g', lgv (sI (S_part g σ) 61 g s') g' = lgv (S_part g σ) g' := fun g' => by unfold lgv; rw [sI_ne (by decide), sI_ne (by decide)]
      have hcf3 : CF (S_part g σ) (sI (S_part g σ) 61 g s') := CF.rf.sI (by decide)
      refine ⟨hIp.1.mk' hcf3 hl, fun c' hc' => (hIp.2.1 c' hc').mk' hcf3 (fun k _ _ _ => sI_ne (by omega)) (Or.inl (sI_ne (by decide))), fun p hp' => ?_⟩
      by_cases e : p = g
      · subst e
        refine ⟨?_, fun _ => ?_⟩
        · have : (sI (S_part p σ) 61 p s').1 61 p = s' := by simp only [sn_upE, Nat.reduceEqDiff, reduceIte]
          rw [this, hs']
          split
          · exact ⟨0, by omega, rfl⟩
          · split
            · exact ⟨0, by omega, rfl⟩
            · exact ⟨5, by omega, rfl⟩
        · rw [sI_ne (by decide), ← lgv_62 hp']; exact hlpg
      · exact (hIp.2.2 p hp').mk' (sI_nk e) (Or.inl (sI_ne (by decide)))
    · unfold lgv
      rw [sI_ne (by decide), sI_ne (by decide)]; exact hlpg
    · intro g' hv' hne
      refine ⟨?_, ?_, ?_, fun _ => by rw [sI_ne (by decide), S_part_I (by decide)]⟩
      · rw [← hlp g' hv' hne]; unfold lgv; rw [sI_ne (by decide), sI_ne (by decide)]
      · rw [← hsS, st_sSt, if_neg hne, S_part_st]
      · unfold lng; rw [sI_ne (by decide), S_part_I (by decide)]
  · -- a circuit's end
    obtain ⟨hg1, hg2, hnb⟩ : 100 ≤ g ∧ g < 244 ∧ nb σ ((g - 100) / 24) ((g - 100) % 24 / 4) = true := by
      rcases h with q | q
      · omega
      · exact q
    have hc : g - 100 < 144 := by omega
    have hgc : 100 + (g - 100) = g := by omega
    have haL : aL g = aC (g - 100) := by unfold aL; rw [if_pos hg1]
    have d52 : g - 100 < md_len 52 := hc
    obtain ⟨l, hl8, el⟩ := (hI.2.1 (g - 100) hc).1
    obtain ⟨n, hn64, en⟩ := (hI.2.1 (g - 100) hc).2.1
    have hstp : (S_part g σ).1 52 (g - 100) = nI l := by rw [S_part_I (by decide)]; exact el
    have enp : (S_part g σ).1 59 (g - 100) = nI n := by rw [S_part_I (by decide)]; exact en
    have hge : (100 : Int32) ≤ nI g := hV.ge.mpr hg1
    have hnbp : nb (S_part g σ) ((g - 100) / 24) ((g - 100) % 24 / 4) = true := by rw [hcf.sp.nbE]; exact hnb
    have hstq : st (S_part g σ) g = nI l := by unfold st; rw [if_pos hg1]; exact hstp
    have z10 : ((0 : Int32) = 0) = True := eq_true rfl
    have z11 : ((1 : Int32) = 0) = False := eq_false (by decide)
    by_cases hin : 1 ≤ l ∧ l ≤ 6
    · -- in a call
      have h57 : (S_part g σ).1 57 (g - 100) = -1 := by rw [← lgv_57, hgc]; exact hlpg
      have hCI := CI.rel (s := 7) (n := 6) (l := 30) hIp hc h57 (Or.inl rfl) hnbp
      have hcf2 : CF σ (S_bec (g - 100) 7 6 30 (S_part g σ)) := hcf.tr S_bec_CF
      have hp1 : ¬ nI l < (1 : Int32) := fun q => by have := (pos_of (by omega)).mp q; omega
      have hp6 : ¬ (6 : Int32) < nI l := fun q => by have := (six_of (by omega)).mp q; omega
      refine ⟨S_bec (g - 100) 7 6 30 (S_part g σ), [mS 10 (g - 100) n 0], ⟨fun ms => ?_, fun η ms hP hl' => ?_, by simp, fun m hm => ?_, hcf2, (CF_ts hcf (fun i => ⟨S_part_I (by decide), S_part_I (by decide)⟩)).tr (S_bec_ts (by omega) (by omega)), hCI⟩, ?_, ?_, fun _ _ => ?_⟩
      · unfold g_Md_letGo
        rw [if_pos hm1, y_V_at (gl_part hI.1 h ms), if_pos hge, Vn.sub hg1, qR d52 (by decide), hstp, if_neg hp1, qR d52 (by decide), hstp, if_neg hp6]
        have hs := gl_say (kd := 10) (b := 0) (hcf.gv hG) (hcf.told hT) (by decide) hc hn64 enp (by decide) ms
        have hs : g_Md_say (nI (g - 100)) 10 0 (Rt ms (S_part g σ)) = _ := hs
        have hbc := gl_becomes (σ := S_part g σ) (s := 7) (n := 6) (l := 30) hc (by decide) (by decide) (by decide) (ms ++ [mS 10 (g - 100) n 0])
        have hbc : g_Md_becomes (nI (g - 100)) 7 6 30 _ = _ := hbc
        rw [y_V_at hs, y_V_at hbc]; rfl
      · have his := his η
        rw [if_neg c] at his
        have hcb := S_bec_CF (σ := S_part g σ) (c := g - 100) (s := 7) (n := 6) (l := 30)
        have hlv := fl_leave (σ := S_part g σ) (η := η) hKp hc hnbp (s := 7) (Or.inr (by omega))
        have hb7 := S_bec_CF (σ := S_part g σ) (c := g - 100) (s := 7) (n := 0) (l := 0)
        have hL6 : (S_bec (g - 100) 7 0 0 (S_part g σ)).1 6 0 = σ.1 6 0 := by rw [hb7.1 6 0 (by decide), S_part_I (by decide)]
        have e59 : (S_bec (g - 100) 7 6 30 (S_part g σ)).1 59 (g - 100) = nI n := by rw [S_bec_I (Or.inl (by decide))]; exact enp
        have hfin : sI (sI (S_bec (g - 100) 7 0 0 (S_part g σ)) 53 (g - 100) (σ.1 6 0 + 6)) 54 (g - 100) (σ.1 6 0 + 30) = S_bec (g - 100) 7 6 30 (S_part g σ) := bec_tm (Or.inr (by omega)) (by unfold tmv; rw [if_neg (by decide), S_part_I (by decide)]; rfl) (by unfold tmv; rw [if_neg (by decide), S_part_I (by decide)]; rfl)
        obtain ⟨θ, t1, t2, t3⟩ := fl_post (kk := kk) (η := η) (σ := S_bec (g - 100) 7 6 30 (S_part g σ)) (hKp.sp hcb.sp) (kd := 10) (b := 0) (by decide) hc hn64 (by decide) (by rw [hcb.sp.nbE]; exact hnbp) hP (by omega)
        have t1 : f_Sw_post 17 (some (aC (g - 100))) 10 (nI n) 0 _ = _ := t1
        refine ⟨θ, ?_, t2, t3⟩
        have hin2 : f_Lg_isInCall (aC (g - 100)) (Kap kk (S_part g σ) η) = some (some (.int 1), Kap kk (S_part g σ) η) := by
          rw [haL] at h4
          have p1 : (nI l < (1 : Int32)) = False := eq_false hp1
          have p6 : ((6 : Int32) < nI l) = False := eq_false hp6
          simp only [f_Lg_isInCall, x_gI, h4, if_true, rd_C3, hstp, p1, if_false, p6, f_Lg_isInCall_22, r_Z]
          simp
        have hlv : f_Lg_leaveCall (aC (g - 100)) 7 (Kap kk (S_part g σ) η) = some (none, Kap kk (S_bec (g - 100) 7 0 0 (S_part g σ)) η) := hlv
        have hp := hp η
        rw [haL] at h4 hp his q1 ⊢
        simp only [f_Sw_letGo, q1, not_false_eq_true, if_true, x_nn, h4, x_cR hp, x_cI his, not_true_eq_false, if_false, x_ite, x_cI hin2, z11, x_cV hlv, x_gR, k17', rr_s17_1, k2, x_after k2, hL6, x_pI, wr_C5, sn_upE, Nat.reduceEqDiff, reduceIte, wr_C6, hfin, x_gI, rd_C10, e59, x_cV t1, f_Sw_letGo_99, r_V]
      · simp at hm
        subst hm
        exact mS_mv (by omega) (by omega) hc hn64 (by decide) hnb (fun q => by omega)
      · unfold lgv
        rw [S_bec_I (Or.inl (by decide)), S_bec_I (Or.inl (by decide))]; exact hlpg
      · intro g' hv' hne
        refine ⟨?_, ?_, ?_, fun q => by rw [S_bec_I (Or.inr (by unfold Vn at hv'; omega)), S_part_I (by decide)]⟩
        · rw [← hlp g' hv' hne]; unfold lgv; rw [S_bec_I (Or.inl (by decide)), S_bec_I (Or.inl (by decide))]
        · unfold st
          by_cases cg : 100 ≤ g'
          · rw [if_pos cg, if_pos cg, S_bec_I (Or.inr (by omega)), S_part_I (by decide)]
          · rw [if_neg cg, if_neg cg, S_bec_I (Or.inl (by decide)), S_part_I (by decide)]
        · unfold lng
          by_cases cg : 100 ≤ g'
          · rw [if_pos cg, if_pos cg, S_bec_I (Or.inr (by omega)), S_part_I (by decide)]
          · rw [if_neg cg, if_neg cg]
      · rw [S_bec_at.1]; decide
    · refine ⟨S_part g σ, [], ⟨fun ms => ?_, fun η ms hP _ => ⟨η, ?_, by rw [List.append_nil]; exact hP, HE.rf⟩, Nat.zero_le _, (fun m hm => by cases hm), hcf, CF_ts hcf (fun i => ⟨S_part_I (by decide), S_part_I (by decide)⟩), hIp⟩, hlpg, fun g' hv' hne => ⟨hlp g' hv' hne, S_part_st, by unfold lng; rw [S_part_I (by decide)], fun _ => S_part_I (by decide)⟩, fun _ q => ?_⟩
      · rw [List.append_nil]
        unfold g_Md_letGo
        rw [if_pos hm1, y_V_at (gl_part hI.1 h ms), if_pos hge, Vn.sub hg1, qR d52 (by decide), hstp]
        by_cases c0 : l = 0
        · rw [if_pos ((pos_of (by omega)).mpr c0)]; rfl
        · rw [if_neg (fun q => c0 ((pos_of (by omega)).mp q)), qR d52 (by decide), hstp, if_pos ((six_of (by omega)).mpr (by omega))]; rfl
      · have his := his η
        rw [if_neg c] at his
        have hin2 : f_Lg_isInCall (aC (g - 100)) (Kap kk (S_part g σ) η) = some (some (.int 0), Kap kk (S_part g σ) η) := by
          rw [haL] at h4
          by_cases c0 : l = 0
          · have p1 : (nI l < (1 : Int32)) = True := eq_true ((pos_of (by omega)).mpr c0)
            simp only [f_Lg_isInCall, x_gI, h4, if_true, rd_C3, hstp, p1, f_Lg_isInCall_21, f_Lg_isInCall_22, r_Z]
            simp
          · have p1 : (nI l < (1 : Int32)) = False := eq_false (fun q => c0 ((pos_of (by omega)).mp q))
            have p6 : ((6 : Int32) < nI l) = True := eq_true ((six_of (by omega)).mpr (by omega))
            simp only [f_Lg_isInCall, x_gI, h4, if_true, rd_C3, hstp, p1, if_false, p6, f_Lg_isInCall_21, f_Lg_isInCall_22, r_Z]
            simp
        have hp := hp η
        rw [haL] at h4 hp his q1 ⊢
        simp only [f_Sw_letGo, q1, not_false_eq_true, if_true, x_nn, h4, x_cR hp, x_cI his, not_true_eq_false, if_false, x_ite, x_cI hin2, f_Sw_letGo_99, r_V]
      · rw [S_part_I (by decide), el]
        have l0 : l ≠ 0 := fun z => q (by rw [el, z]; rfl)
        exact (seven_of (by omega)).mpr (by omega)
