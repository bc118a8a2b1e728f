/-! LAYER 2: a circuit's end gets a message: all kinds -/
variable {kk : Nat → Nat} {σ : sn_FS}
theorem a3v : ∀ v, v < 256 → nI v &&& (3 : Int32) = nI (v % 4) := by decide +kernel
theorem s2v : ∀ v, v < 256 → nI v >>> ((2 : Int32) &&& 31) = nI (v / 4) := by decide +kernel
theorem m4v : ∀ v, v < 256 → nI v % (4 : Int32) = nI (v % 4) := by decide +kernel
theorem d4v : ∀ v, v < 256 → nI v / (4 : Int32) = nI (v / 4) := by decide +kernel
theorem ct_gets (hB : Cb kk σ) (hI : CI σ) {m : Msg} (hm : MV σ m) (h7 : 7 ≤ mK m) : ∃ σ' new, Ct kk (g_Md_circuitGets (nI (mT m)) (nI (mF m)) (nI (mA m)) (nI (mK m)) (nI (mB m))) (f_Sw_get 17 (wC m)) none 2 σ σ' new := by
  have hB0 := hB
  obtain ⟨hK, hG, hT⟩ := hB
  have hKo := hK
  obtain ⟨⟨k1, k2, k3, k4, k5, k6, k7, k8, k9, k10, k11, k12, k13, k14, k15, k16, k17, k18, k19, k20, k21, k22⟩, kE, kF, kP, k4s⟩ := id hK
  have hmo := hm.1
  have hk14 : mK m ≤ 14 := hm.2.2.2.1
  have hB7 := hm.2.2.2.2.2.2.2.2
  have hnb0 : nb σ (mT m) (mF m) = true := by rw [nb_sy]; exact hm.2.2.2.2.1
  have hA : mA m < 256 := hmo.2.2.2.2.1
  have hTl : mT m < 6 := hmo.2.2.1
  have hFl : mF m < 6 := hmo.2.1
  have hi4 : mA m % 4 < 4 := by omega
  obtain ⟨c, ec⟩ : ∃ c, c = fl (mT m) (mF m) (mA m % 4) := ⟨_, rfl⟩
  obtain ⟨n, en⟩ : ∃ n, n = mA m / 4 := ⟨_, rfl⟩
  have hc : c < 144 := by rw [ec]; exact fl_lt hTl hFl hi4
  obtain ⟨x1, x2, x3⟩ : c / 24 = mT m ∧ c % 24 / 4 = mF m ∧ c % 4 = mA m % 4 := by rw [ec]; exact fl_x hFl hi4
  have hn : n < 64 := by omega
  have hnb : nb σ (c / 24) (c % 24 / 4) = true := by rw [x1, x2]; exact hnb0
  obtain ⟨f1, f2, f3, f4⟩ := kF c hc hnb
  obtain ⟨l, hl8, el⟩ := (hI.2.1 c hc).1
  have hC1 := hI.2.1 c hc
  have d52 : c < md_len 52 := hc
  have d56 : c < md_len 56 := hc
  have d57 : c < md_len 57 := hc
  have d59 : c < md_len 59 := hc
  obtain ⟨x9, hx9⟩ : ∃ x9 : Int32, x9 = if nI n = σ.1 59 c then 1 else 0 := ⟨_, rfl⟩
  obtain ⟨x12, hx12⟩ : ∃ x12 : Int32, x12 = if 1 ≤ l ∧ l ≤ 6 then 1 else 0 := ⟨_, rfl⟩
  have h37 : ∀ ms, g_Md_circuitGets_37 (nI (mT m)) (nI (mF m)) (nI (mK m)) (nI (mB m)) (nI (mA m % 4)) (nI n) (nI c) x9 (Rt ms σ) = g_Md_circuitGets_75 (nI (mT m)) (nI (mF m)) (nI (mK m)) (nI (mB m)) (nI (mA m % 4)) (nI n) (nI c) x9 (σ.1 52 c) (σ.1 57 c) x12 (Rt ms σ) := fun ms => by
    unfold g_Md_circuitGets_37
    rw [qR d52 (by decide), qR d57 (by decide)]
    by_cases c0 : l = 0
    · rw [if_pos (by rw [el]; exact (pos_of (by omega)).mpr c0), hx12, if_neg (by omega)]; rfl
    · rw [if_neg (by rw [el]; exact fun q => c0 ((pos_of (by omega)).mp q))]
      by_cases c7 : 7 ≤ l
      · rw [if_pos (by rw [el]; exact (six_of (by omega)).mpr c7), hx12, if_neg (by omega)]; rfl
      · rw [if_neg (by rw [el]; exact fun q => c7 ((six_of (by omega)).mp q)), hx12, if_pos (by omega)]
  have hgE : ∀ ms, g_Md_circuitGets (nI (mT m)) (nI (mF m)) (nI (mA m)) (nI (mK m)) (nI (mB m)) (Rt ms σ) = g_Md_circuitGets_75 (nI (mT m)) (nI (mF m)) (nI (mK m)) (nI (mB m)) (nI (mA m % 4)) (nI n) (nI c) x9 (σ.1 52 c) (σ.1 57 c) x12 (Rt ms σ) := fun ms => by
    have hfa := gl_flowAt (Rt ms σ) (mT m) (mF m) (mA m % 4)
    rw [← ec] at hfa
    simp only [g_Md_circuitGets, y_nI, a3v _ hA, s2v _ hA, y_I_at hfa]
    rw [qR d59 (by decide), ← en]
    by_cases cown : nI n = σ.1 59 c
    · rw [if_neg (fun q => q cown), ← h37, hx9, if_pos cown]
    · rw [if_pos cown, ← h37, hx9, if_neg cown]
  have hcE : ∀ η, f_Sw_get 17 (wC m) (Kap kk σ η) = (sn_sw (nI (mK m)) [7, 8, 9, 10, 11, 12, 13, 14] [(c_I (f_Ms_second (wC m)) fun v14 => n_n 7 (some 17) fun a15 => c_V (f_Sw_getInitial a15 (some (aC c)) (nI n) v14) (f_Sw_get_182 17)), (f_Sw_get_107 17 (some (aC c)) (nI n) (nI (mK m))), (f_Sw_get_107 17 (some (aC c)) (nI n) (nI (mK m))), (f_Sw_get_120 17 (some (aC c)) (nI n) (nI (mK m))), (g_I 4 10 (some (aC c)) fun v17 => (if ¬ nI n = v17 then f_Sw_get_182 17 else g_I 4 3 (some (aC c)) fun v18 => (if v18 < (7 : Int32) then f_Sw_get_182 17 else n_n 4 (some (aC c)) fun a19 => c_V (f_Lg_leaveCall a19 (0 : Int32)) (f_Sw_get_182 17)))), (f_Sw_get_120 17 (some (aC c)) (nI n) (nI (mK m))), (f_Sw_get_162 17 (some (aC c)) (nI (mK m))), (f_Sw_get_162 17 (some (aC c)) (nI (mK m)))] (f_Sw_get_182 17)) (Kap kk σ η) := fun η => by
    have hca := fl_cirAt (η := η) hKo hTl hFl hi4
    have hcr : cR σ (mT m) (mF m) (mA m % 4) = some (aC c) := by unfold cR; rw [if_pos hnb0, ec]
    rw [hcr] at hca
    have q1 : (some (aC c) = none) = False := by simp
    simp only [f_Sw_get, x_cI (fl_first hmo _), n_I, m4v _ hA, x_cI (fl_to hmo _), x_cI (fl_from hmo _), x_nn, k17, if_true, x_cR hca, q1, not_false_eq_true, d4v _ hA, x_cI (fl_kind hmo _), ← en]
  obtain k | k | k | k | k | k | k | k : mK m = 7 ∨ mK m = 8 ∨ mK m = 9 ∨ mK m = 10 ∨ mK m = 11 ∨ mK m = 12 ∨ mK m = 13 ∨ mK m = 14 := by omega
  · obtain ⟨n1, n2⟩ := hB7 k
    obtain ⟨σ', new, h⟩ := ct_init hB0 hI hc hnb n1 n2 hn
    refine ⟨σ', new, h.pre CF.rf TS.rf (fun ms ρ hh => ?_) (fun η κ hh => ?_)⟩
    · unfold gK7 at hh
      rw [x1, x2, x3] at hh
      rw [hgE, k]; exact hh
    · rw [hcE, k]
      show c_I (f_Ms_second (wC m)) (fun v14 => n_n 7 (some 17) fun a15 => c_V (f_Sw_getInitial a15 (some (aC c)) (nI n) v14) (f_Sw_get_182 17)) _ = _
      simp only [x_cI (fl_second hmo _), x_nn, k17, if_true, x_cV hh]; rfl
  · obtain ⟨σ', new, h⟩ := ct_prog hB0 hI (kd := mK m) (Or.inl k) hc hnb hn hx9
    refine ⟨σ', new, h.pre CF.rf TS.rf (fun ms ρ hh => ?_) (fun η κ hh => ?_)⟩
    · rw [hgE]; rw [k] at hh ⊢; exact hh
    · rw [hcE]; rw [k] at hh ⊢
      show f_Sw_get_107 17 (some (aC c)) (nI n) (nI 8) _ = _
      simp only [f_Sw_get_107, x_nn, k17, if_true, x_cV hh]; rfl
  · obtain ⟨σ', new, h⟩ := ct_prog hB0 hI (kd := mK m) (Or.inr k) hc hnb hn hx9
    refine ⟨σ', new, h.pre CF.rf TS.rf (fun ms ρ hh => ?_) (fun η κ hh => ?_)⟩
    · rw [hgE]; rw [k] at hh ⊢; exact hh
    · rw [hcE]; rw [k] at hh ⊢
      show f_Sw_get_107 17 (some (aC c)) (nI n) (nI 9) _ = _
      simp only [f_Sw_get_107, x_nn, k17, if_true, x_cV hh]; rfl
  · obtain ⟨σ', new, h⟩ := ct_release hB0 hI (kd := mK m) (Or.inl k) hc hnb hn el hl8 hx9 hx12
    refine ⟨σ', new, h.pre CF.rf TS.rf (fun ms ρ hh => ?_) (fun η κ hh => ?_)⟩
    · rw [hgE]; rw [k] at hh ⊢; exact hh
    · rw [hcE]; rw [k] at hh ⊢
      show f_Sw_get_120 17 (some (aC c)) (nI n) (nI 10) _ = _
      simp only [f_Sw_get_120, x_nn, k17, if_true, x_cV hh]; rfl
  · -- RELEASED
    by_cases cw : nI n = σ.1 59 c ∧ 7 ≤ l
    · obtain ⟨cown, c7⟩ := cw
      have hge : (7 : Int32) ≤ σ.1 52 c := by rw [el]; exact (seven_of (by omega)).mpr c7
      have hI1 := CI.rel (s := 0) (n := 0) (l := 0) hI hc ((hC1.2.2.2.2.2.1 (Or.inr hge)).1) (Or.inr (Or.inr ⟨rfl, rfl, rfl⟩)) hnb
      have hlt : ¬ σ.1 52 c < (7 : Int32) := by rw [el]; exact fun q => by have := (nI_ltI (a := l) (b := 7) (by omega) (by omega)).mp q; omega
      refine ⟨S_bec c 0 0 0 σ, [], ⟨fun ms => ?_, fun η ms hP _ => ⟨η, ?_, by rw [List.append_nil]; exact hP, HE.rf⟩, Nat.zero_le _, (fun m hm => by cases hm), S_bec_CF, S_bec_ts (by omega) (by omega), hI1⟩⟩
      · have hbc := gl_becomes (σ := σ) (s := 0) (n := 0) (l := 0) hc (by decide) (by decide) (by decide) ms
        have hbc : g_Md_becomes (nI c) 0 0 0 (Rt ms σ) = _ := hbc
        rw [List.append_nil, hgE, k]
        show (if σ.1 52 c < (7 : Int32) then g_Md_circuitGets_406 else (if x9 = 0 then g_Md_circuitGets_406 else y_V (g_Md_becomes (nI c) (0 : Int32) (0 : Int32) (0 : Int32)) (g_Md_circuitGets_406))) (Rt ms σ) = _
        rw [if_neg hlt, hx9, if_pos cown, if_neg (by decide), y_V_at hbc]; rfl
      · have hlv : f_Lg_leaveCall (aC c) 0 (Kap kk σ η) = some (none, Kap kk (S_bec c 0 0 0 σ) η) := fl_leave (η := η) hKo hc hnb (s := 0) (Or.inl rfl)
        have hown : (nI n = σ.1 59 c) = True := eq_true cown
        have hlt2 : (σ.1 52 c < (7 : Int32)) = False := eq_false hlt
        rw [hcE, k]
        show g_I 4 10 (some (aC c)) (fun v17 => (if ¬ nI n = v17 then f_Sw_get_182 17 else g_I 4 3 (some (aC c)) fun v18 => (if v18 < (7 : Int32) then f_Sw_get_182 17 else n_n 4 (some (aC c)) fun a19 => c_V (f_Lg_leaveCall a19 (0 : Int32)) (f_Sw_get_182 17)))) _ = _
        simp only [x_gI, f4, if_true, rd_C10, hown, not_true_eq_false, if_false, rd_C3, hlt2, x_nn, x_cV hlv, f_Sw_get_182, r_V]
    · refine ⟨σ, [], Ct.id hI (fun ms => ?_) (fun η => ?_)⟩
      · rw [hgE, k]
        show (if σ.1 52 c < (7 : Int32) then g_Md_circuitGets_406 else (if x9 = 0 then g_Md_circuitGets_406 else y_V (g_Md_becomes (nI c) (0 : Int32) (0 : Int32) (0 : Int32)) (g_Md_circuitGets_406))) (Rt ms σ) = _
        by_cases c7 : 7 ≤ l
        · have cown : ¬ nI n = σ.1 59 c := fun q => cw ⟨q, c7⟩
          rw [if_neg (by rw [el]; exact fun q => by have := (nI_ltI (a := l) (b := 7) (by omega) (by omega)).mp q; omega), hx9, if_neg cown, if_pos rfl]; rfl
        · rw [if_pos (by rw [el]; exact (nI_ltI (a := l) (b := 7) (by omega) (by omega)).mpr (by omega))]; rfl
      · rw [hcE, k]
        show g_I 4 10 (some (aC c)) (fun v17 => (if ¬ nI n = v17 then f_Sw_get_182 17 else g_I 4 3 (some (aC c)) fun v18 => (if v18 < (7 : Int32) then f_Sw_get_182 17 else n_n 4 (some (aC c)) fun a19 => c_V (f_Lg_leaveCall a19 (0 : Int32)) (f_Sw_get_182 17)))) _ = _
        by_cases cown : nI n = σ.1 59 c
        · have hown : (nI n = σ.1 59 c) = True := eq_true cown
          have hlt2 : (σ.1 52 c < (7 : Int32)) = True := eq_true (by rw [el]; exact (nI_ltI (a := l) (b := 7) (by omega) (by omega)).mpr (Nat.lt_of_not_le (fun q => cw ⟨cown, q⟩)))
          simp only [x_gI, f4, if_true, rd_C10, hown, not_true_eq_false, if_false, rd_C3, hlt2, f_Sw_get_182, r_V]
        · have hown : (nI n = σ.1 59 c) = False := eq_false cown
          simp only [x_gI, f4, if_true, rd_C10, hown, not_false_eq_true, f_Sw_get_182, r_V]
  · obtain ⟨σ', new, h⟩ := ct_release hB0 hI (kd := mK m) (Or.inr k) hc hnb hn el hl8 hx9 hx12
    refine ⟨σ', new, h.pre CF.rf TS.rf (fun ms ρ hh => ?_) (fun η κ hh => ?_)⟩
    · rw [hgE]; rw [k] at hh ⊢; exact hh
    · rw [hcE]; rw [k] at hh ⊢
      show f_Sw_get_120 17 (some (aC c)) (nI n) (nI 12) _ = _
      simp only [f_Sw_get_120, x_nn, k17, if_true, x_cV hh]; rfl
  all_goals
    obtain ⟨v, hv⟩ : ∃ v : Int32, v = if mK m = 13 then 1 else 0 := ⟨_, rfl⟩
    have hv2 : v = 0 ∨ v = 1 := by rw [hv, k]; decide
    have hcf : CF σ (sI σ 56 c v) := CF.rf.sI (by decide)
    have hI1 : CI (sI σ 56 c v) := by
      refine CI.one (c := c) hI hcf (fun k i _ _ h => ?_) (fun _ => ?_)
      · rcases h with h | h
        · exact sI_nk h
        · exact sI_ne (by omega)
      · obtain ⟨a1, a2, a3, a4, a5, a6, a7, a8, a9, a10, a11⟩ := hC1
        have t56 : (sI σ 56 c v).1 56 c = v := by simp only [sn_upE, Nat.reduceEqDiff, reduceIte]
        unfold C1
        rw [t56, sI_ne (k' := 52) (by decide), sI_ne (k' := 53) (by decide), sI_ne (k' := 54) (by decide), sI_ne (k' := 55) (by decide), sI_ne (k' := 57) (by decide), sI_ne (k' := 58) (by decide), sI_ne (k' := 59) (by decide), sI_ne (k' := 60) (by decide), hcf.sp.nbE]
        exact ⟨a1, a2, a3, a4, a5, a6, a7, a8, a9, hv2, fun q => by rw [hnb] at q; cases q⟩
    refine ⟨sI σ 56 c v, [], ⟨fun ms => ?_, fun η ms hP _ => ⟨η, ?_, by rw [List.append_nil]; exact hP, HE.rf⟩, Nat.zero_le _, (fun m hm => by cases hm), hcf, CF_ts hcf (fun i => ⟨sI_ne (by decide), sI_ne (by decide)⟩), hI1⟩⟩
    · rw [List.append_nil, hgE, hv, k]
      exact wRz (k := 56) (K := z_V) d56 (by decide) (by decide)
    · have hw : ∀ (w : Int32), w = 0 ∨ w = 1 → p_Z 4 8 (some (aC c)) w (f_Sw_get_182 17) (Kap kk σ η) = some (none, Kap kk (sI σ 56 c w) η) := fun w hw => by
        simp only [x_pZ, f4, hw, and_self, if_true, wr_C8, f_Sw_get_182, r_V]
      rw [hcE, hv, k]
      exact hw _ (by decide)
