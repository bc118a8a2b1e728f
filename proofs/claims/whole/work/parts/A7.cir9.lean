/-! LAYER 2: a circuit's end gets a message: kind by kind -/
variable {kk : Nat → Nat} {σ : sn_FS}
theorem sI_cm {k i k' i' : Nat} {v v' : Int32} (h : k ≠ k') : sI (sI σ k i v) k' i' v' = sI (sI σ k' i' v') k i v := by
  rcases Nat.lt_or_gt_of_ne h with q | q
  · exact (sI_sw q).symm
  · exact sI_sw q
theorem sLg_sI {g k i : Nat} {v w : Int32} (h : k ≠ 57 ∧ k ≠ 62) : sI (sLg g v σ) k i w = sLg g v (sI σ k i w) := by
  unfold sLg
  split
  · exact sI_cm (Ne.symm h.1)
  · exact sI_cm (Ne.symm h.2)
theorem part_sI {g k i : Nat} {w : Int32} (h : k ≠ 57 ∧ k ≠ 62) : S_part g (sI σ k i w) = sI (S_part g σ) k i w := by
  have hl : lgv (sI σ k i w) g = lgv σ g := by unfold lgv; rw [sI_ne (Ne.symm h.1), sI_ne (Ne.symm h.2)]
  unfold S_part
  rw [hl]
  by_cases c : lgv σ g = -1
  · rw [if_pos c, if_pos c, sLg_sI h]
  · rw [if_neg c, if_neg c, sLg_sI h, sLg_sI h]
theorem tmv_part {g n : Nat} : tmv (S_part g σ) n = tmv σ n := by unfold tmv; rw [S_part_I (by decide)]
theorem part_bec {g c s n l : Nat} : S_part g (S_bec c s n l σ) = S_bec c s n l (S_part g σ) := by
  unfold S_bec
  rw [tmv_part, tmv_part]
  by_cases h : s = 0 ∨ 7 ≤ s
  · rw [if_pos h, if_pos h, part_sI (by decide), part_sI (by decide), part_sI (by decide), part_sI (by decide), part_sI (by decide)]
  · rw [if_neg h, if_neg h, part_sI (by decide), part_sI (by decide), part_sI (by decide)]
theorem CI.one {τ : sn_FS} {c : Nat} (h : CI σ) (hcf : CF σ τ) (h1 : ∀ k i, 52 ≤ k → k ≤ 62 → (i ≠ c ∨ k = 57 ∨ k = 61 ∨ k = 62) → τ.1 k i = σ.1 k i) (hC : c < 144 → C1 τ c) : CI τ := by
  have hlg : ∀ g, lgv τ g = lgv σ g := fun g => by
    unfold lgv
    rw [h1 57 _ (by decide) (by decide) (by omega), h1 62 _ (by decide) (by decide) (by omega)]
  refine ⟨h.1.mk' hcf hlg, fun c' hc' => ?_, fun p hp => (h.2.2 p hp).mk' (h1 61 p (by decide) (by decide) (by omega)) (Or.inl (h1 62 p (by decide) (by decide) (by omega)))⟩
  by_cases e : c' = c
  · subst e; exact hC hc'
  · exact (h.2.1 c' hc').mk' hcf (fun k a b _ => h1 k c' a (by omega) (Or.inl e)) (Or.inl (h1 57 c' (by decide) (by decide) (Or.inl e)))
theorem ct_back' (hB : Cb kk σ) (hI : CI σ) {v : Int32} (hv : v = -1 ∨ ∃ o, VL σ o ∧ v = nI o) {kd : Nat} (hkd : kd = 8 ∨ kd = 9) : ∃ σ' new, Ct kk (g_Md_back v (nI kd)) (f_Sw_goBack 17 (k_leg v) (nI kd)) none 1 σ σ' new := by
  rcases hv with rfl | ⟨o, ho, rfl⟩
  · refine ⟨σ, [], Ct.id hI (fun ms => ?_) (fun η => ?_)⟩
    · unfold g_Md_back; rw [if_neg (fun q => q rfl)]; rfl
    · rw [k_leg_m]; unfold f_Sw_goBack; rw [if_neg (fun q => q rfl)]; rfl
  · obtain ⟨σ', new, h, -⟩ := ct_back hB hI ho hkd
    rw [k_leg_n ho.vn]
    exact ⟨σ', new, h⟩
theorem ct_letGo' (hB : Cb kk σ) (hI : CI σ) {v : Int32} (hv : v = -1 ∨ ∃ o, VL σ o ∧ v = nI o) : ∃ σ' new, Ct kk (g_Md_letGo v) (f_Sw_letGo 17 (k_leg v)) none 1 σ σ' new ∧ ∀ g, Vn g → ¬ v = nI g → st σ' g = st σ g := by
  rcases hv with rfl | ⟨o, ho, rfl⟩
  · refine ⟨σ, [], Ct.id hI (fun ms => ?_) (fun η => ?_), fun _ _ _ => rfl⟩
    · unfold g_Md_letGo; rw [if_neg (fun q => q rfl)]; rfl
    · rw [k_leg_m]; unfold f_Sw_letGo; rw [if_neg (fun q => q rfl)]; rfl
  · obtain ⟨σ', new, h, -, h2, -⟩ := ct_letGo hB hI ho
    rw [k_leg_n ho.vn]
    exact ⟨σ', new, h, fun g hg hne => (h2 g hg (fun e => hne (by rw [e]))).2.1⟩
theorem ct_says (hB : Cb kk σ) (hI : CI σ) {kd c n b : Nat} (hk : 7 < kd) (hk2 : kd ≤ 14) (hc : c < 144) (hnb : nb σ (c / 24) (c % 24 / 4) = true) (hn : n < 64) (hb : b < 65536) : Ct kk (g_Md_says (nI c) (nI kd) (nI n) (nI b)) (f_Sw_post 17 (some (aC c)) (nI kd) (nI n) (nI b)) none 1 σ σ [mS kd c n b] :=
  ⟨fun ms => gl_says hB.2.1 hB.2.2 (by omega) hc hn hb ms, fun η ms hP hl => fl_post hB.1 (by omega) hc hn hb hnb hP (by omega), by simp, (fun m hm => by
    simp at hm
    subst hm
    exact mS_mv (by omega) hk2 hc hn hb hnb (fun q => by omega)), CF.rf, TS.rf, hI⟩
theorem ctl_g {x n i : Nat} (hx : x < 6) (hn : n < 6) (hi : i < 4) (hne : x ≠ n) (τ : sn_FS) : g_Md_controls (nI x) (nI n) (nI i) τ = some (some (.int (if (n < x ↔ i % 2 = 0) then 1 else 0)), τ) := by
  have e1 : nI i &&& (1 : Int32) = nI (i % 2) := nI_odd i (by omega)
  have l1 : (nI n ≤ nI x) ↔ n ≤ x := nI_leI (by omega) (by omega)
  have l2 : (nI x ≤ nI n) ↔ x ≤ n := nI_leI (by omega) (by omega)
  unfold g_Md_controls g_Md_controls_29
  rw [e1]
  by_cases c : i % 2 = 0
  · rw [c, if_neg (fun q => q rfl)]
    by_cases d : x ≤ n
    · rw [if_pos (l2.mpr d), if_neg (by omega)]; simp [z_Z]
    · rw [if_neg (fun q => d (l2.mp q)), if_pos (by omega)]; simp [z_Z]
  · have c1 : i % 2 = 1 := by omega
    rw [c1, if_pos (by decide)]
    by_cases d : n ≤ x
    · rw [if_pos (l1.mpr d), if_neg (by omega)]; simp [z_Z]
    · rw [if_neg (fun q => d (l1.mp q)), if_pos (by omega)]; simp [z_Z]
theorem i2m : ∀ v, v < 4 → nI v % (2 : Int32) = nI (v % 2) := by decide +kernel
theorem ctl_f {η : sn_FS} (hK : KOk kk σ) {c : Nat} (hc : c < 144) (hnb : nb σ (c / 24) (c % 24 / 4) = true) : f_Lg_controls (aC c) (Kap kk σ η) = some (some (.int (if (c % 24 / 4 < c / 24 ↔ c % 4 % 2 = 0) then 1 else 0)), Kap kk σ η) := by
  obtain ⟨f1, f2, f3, f4⟩ := hK.2.2.1 c hc hnb
  have l2 : (nI (c / 24) ≤ nI (c % 24 / 4)) ↔ c / 24 ≤ c % 24 / 4 := nI_leI (by omega) (by omega)
  have e2 := i2m (c % 4) (by omega)
  have z01 : ((0 : Int32) = 1) = False := eq_false (by decide)
  have z10 : ((1 : Int32) = 0) = False := eq_false (by decide)
  by_cases d : c / 24 ≤ c % 24 / 4
  · have l3 : (nI (c / 24) ≤ nI (c % 24 / 4)) = True := eq_true (l2.mpr d)
    by_cases i : c % 4 % 2 = 0
    · have e0 : (nI (c % 4 % 2) = 0) = True := eq_true (by rw [i]; rfl)
      rw [if_neg (by omega)]
      simp only [f_Lg_controls, x_gI, f4, if_true, rd_C0, rd_C1, l3, x_ite, f_Lg_controls_16, rd_C2, e2, e0, not_true_eq_false, if_false, f_Lg_controls_32, z01, not_false_eq_true, f_Lg_controls_40, r_Z]
      simp
    · have e0 : (nI (c % 4 % 2) = 0) = False := eq_false (by rw [show c % 4 % 2 = 1 by omega]; decide)
      rw [if_pos (by omega)]
      simp only [f_Lg_controls, x_gI, f4, if_true, rd_C0, rd_C1, l3, x_ite, f_Lg_controls_16, rd_C2, e2, e0, not_true_eq_false, if_false, f_Lg_controls_32, not_false_eq_true, f_Lg_controls_40, r_Z]
      simp
  · have l3 : (nI (c / 24) ≤ nI (c % 24 / 4)) = False := eq_false (fun q => d (l2.mp q))
    by_cases i : c % 4 % 2 = 0
    · have e0 : (nI (c % 4 % 2) = 0) = True := eq_true (by rw [i]; rfl)
      rw [if_pos (by omega)]
      simp only [f_Lg_controls, x_gI, f4, if_true, rd_C0, rd_C1, l3, x_ite, f_Lg_controls_16, rd_C2, e2, e0, not_true_eq_false, if_false, f_Lg_controls_32, not_false_eq_true, f_Lg_controls_40, r_Z]
      simp
    · have e0 : (nI (c % 4 % 2) = 0) = False := eq_false (by rw [show c % 4 % 2 = 1 by omega]; decide)
      rw [if_neg (by omega)]
      simp only [f_Lg_controls, x_gI, f4, if_true, rd_C0, rd_C1, l3, x_ite, f_Lg_controls_16, rd_C2, e2, e0, not_true_eq_false, if_false, f_Lg_controls_32, z10, not_false_eq_true, f_Lg_controls_40, r_Z]
      simp
/-- INITIAL -/
def gK7 (σ : sn_FS) (c b n : Nat) : sn_G := (if ¬ σ.1 52 c = 0 then (if ¬ σ.1 52 c = (1 : Int32) then g_Md_circuitGets_406 else y_I (g_Md_controls (nI (c / 24)) (nI (c % 24 / 4)) (nI (c % 4))) fun v9 => (if ¬ v9 = 0 then g_Md_circuitGets_406 else q_I 58 (nI c) fun v10 => y_V (g_Md_part ((100 : Int32) + nI c)) (y_V (g_Md_takeCall (nI c) (nI b) (nI n)) ((if σ.1 57 c = (-1 : Int32) then g_Md_circuitGets_202 else y_V (g_Md_connect (nI (c / 24)) (σ.1 57 c) v10) (g_Md_circuitGets_202)))))) else y_V (g_Md_takeCall (nI c) (nI b) (nI n)) (g_Md_circuitGets_406))
theorem nb_ne {x n : Nat} (h : nb σ x n = true) : x ≠ n := by
  unfold nb at h
  simp at h
  exact h.1
theorem ct_init (hB : Cb kk σ) (hI : CI σ) {c b n : Nat} (hc : c < 144) (hnb : nb σ (c / 24) (c % 24 / 4) = true) (hto : numOk (b % 64)) (hlen : b / 64 ≤ 6) (hn : n < 64) : ∃ σ' new, Ct kk (gK7 σ c b n) (f_Sw_getInitial 17 (some (aC c)) (nI n) (nI b)) none 2 σ σ' new := by
  have hB0 := hB
  obtain ⟨hK, hG, hT⟩ := hB
  have hKo := hK
  obtain ⟨⟨k1, k2, k3, k4, k5, k6, k7, k8, k9, k10, k11, k12, k13, k14, k15, k16, k17, k18, k19, k20, k21, k22⟩, kE, kF, kP, k4s⟩ := id hK
  obtain ⟨f1, f2, f3, f4⟩ := kF c hc hnb
  obtain ⟨l, hl8, el⟩ := (hI.2.1 c hc).1
  have hC1 := hI.2.1 c hc
  have hVc : VL σ (100 + c) := Or.inr ⟨by omega, by omega, by rw [Nat.add_sub_cancel_left]; exact hnb⟩
  have h100 : (100 : Int32) + nI c = nI (100 + c) := nI_add 100 c
  have z01 : ((0 : Int32) = 1) = False := eq_false (by decide)
  have z10 : ((1 : Int32) = 0) = False := eq_false (by decide)
  have d58 : c < md_len 58 := hc
  by_cases c0 : l = 0
  · have e0 : σ.1 52 c = 0 := by rw [el, c0]; rfl
    have h57 : σ.1 57 c = -1 := (hC1.2.2.2.2.2.1 (Or.inl e0)).1
    obtain ⟨σ', new, h⟩ := ct_take2 hB0 hI hc hnb hto hlen hn (fun q => absurd h57 q)
    refine ⟨σ', new, h.pre CF.rf TS.rf (fun ms ρ hh => ?_) (fun η κ hh => ?_)⟩
    · rw [h100, y_V_at (gl_part hI.1 hVc ms), part_id (by rw [lgv_57]; exact h57), if_pos h57] at hh
      unfold gK7
      rw [if_neg (fun q => q e0)]; exact hh
    · simp only [f_Sw_getInitial, f_Sw_getInitial_19, f_Sw_getInitial_20, x_gI, f4, if_true, rd_C3, e0, x_ite, z01, not_false_eq_true]
      exact hh
  · have n0 : ¬ σ.1 52 c = 0 := by rw [el]; exact fun q => c0 (nI_inj (a := l) (b := 0) (by omega) (by omega) q)
    have m0 : (σ.1 52 c = 0) = False := eq_false n0
    by_cases c1 : l = 1
    · have e1 : σ.1 52 c = 1 := by rw [el, c1]; rfl
      have hcg := fun τ => ctl_g (x := c / 24) (n := c % 24 / 4) (i := c % 4) (by omega) (by omega) (by omega) (nb_ne hnb) τ
      have hcf := fun η => ctl_f (η := η) hKo hc hnb
      by_cases cc : (c % 24 / 4 < c / 24 ↔ c % 4 % 2 = 0)
      · refine ⟨σ, [], Ct.id hI (fun ms => ?_) (fun η => ?_)⟩
        · unfold gK7
          rw [if_pos n0, if_neg (fun q => q e1), y_I_at (hcg _), if_pos cc, if_pos (by decide)]; rfl
        · have hcf := hcf η
          rw [if_pos cc] at hcf
          simp only [f_Sw_getInitial, f_Sw_getInitial_19, f_Sw_getInitial_20, x_gI, f4, if_true, rd_C3, e1, not_true_eq_false, if_false, x_nn, x_cI hcf, x_ite, z10, not_false_eq_true, r_V]
      · have h58 : ∃ v, numOk v ∧ σ.1 58 c = nI v := by
          rcases hC1.2.2.2.1 with q | q
          · exact absurd q (hC1.2.2.2.2.1 e1)
          · exact q
        obtain ⟨σ', new, h⟩ := ct_take2 hB0 hI hc hnb hto hlen hn (fun _ => h58)
        refine ⟨σ', new, h.pre CF.rf TS.rf (fun ms ρ hh => ?_) (fun η κ hh => ?_)⟩
        · unfold gK7
          rw [if_pos n0, if_neg (fun q => q e1), y_I_at (hcg _), if_neg cc, if_neg (fun q => q rfl), qR d58 (by decide)]
          exact hh
        · have hcf := hcf η
          rw [if_neg cc] at hcf
          simp only [f_Sw_getInitial, f_Sw_getInitial_19, f_Sw_getInitial_20, x_gI, f4, if_true, rd_C3, e1, not_true_eq_false, if_false, x_nn, x_cI hcf, x_ite, z10, not_false_eq_true]
          exact hh
    · have n1 : ¬ σ.1 52 c = 1 := by rw [el]; exact fun q => c1 (nI_inj (a := l) (b := 1) (by omega) (by omega) q)
      have m1 : (σ.1 52 c = 1) = False := eq_false n1
      refine ⟨σ, [], Ct.id hI (fun ms => ?_) (fun η => ?_)⟩
      · unfold gK7
        rw [if_pos n0, if_pos n1]; rfl
      · simp only [f_Sw_getInitial, f_Sw_getInitial_19, f_Sw_getInitial_20, x_gI, f4, if_true, rd_C3, m1, m0, not_true_eq_false, not_false_eq_true, if_false, x_ite, r_V]
