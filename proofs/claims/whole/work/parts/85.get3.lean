/-! LAYER 2: both get a message -/
theorem hf2 : ∀ e, e < 20 → nI e / (2 : Int32) = nI (e / 2) := by decide +kernel
theorem md2' : ∀ e, e < 20 → nI e % (2 : Int32) = nI (e % 2) := by decide +kernel
variable {kk : Nat → Nat} {σ η : sn_FS}
def S_cnt (k : Nat) (σ : sn_FS) : sn_FS := sS (sS σ 8 (σ.1 8 0 + 1)) 9 (nI k)
theorem S_cnt_I {k k' i : Nat} (h : k' ≠ 8 ∧ k' ≠ 9) : (S_cnt k σ).1 k' i = σ.1 k' i := by unfold S_cnt; rw [sS_ne h.2, sS_ne h.1]
theorem S_cnt_fr {k : Nat} : FR σ (S_cnt k σ) := FR.of (fun k' i hk => S_cnt_I (by omega))
theorem S_cnt_ts {k : Nat} : TS σ (S_cnt k σ) := TS.of (S_cnt_I (by decide)) (fun k' i hk => S_cnt_I (by have := tm_of hk; omega))
theorem S_cnt_inv {k : Nat} (hI : Inv σ η) : Inv (S_cnt k σ) η := by
  obtain ⟨hH, hw, hL, hD, hC⟩ := hI
  exact ⟨(hH.mS (by decide)).mS (by decide), (hw.mS (by decide)).mS (by decide), hL.mk' S_cnt_fr.sp (fun k' i hk => S_cnt_I (by omega)), hD.mk' (fun i _ => Or.inr ⟨S_cnt_I (by decide), S_cnt_I (by decide)⟩), hC.at (S_cnt_I (by decide))⟩
theorem sm_get (hK : KOk kk σ) (hI : Inv σ η) {e : Nat} (he : e < 2 * nl σ) {m : Msg} (hm : MV σ m) : (¬ (mT m = ex σ e ∧ 7 ≤ mK m) → Sm kk (g_Md_get (nI (ex σ e)) (wR m)) (f_Tr_get 11 (nI e) (wC m)) (some (.int 0)) σ η) ∧ (mT m = ex σ e ∧ 7 ≤ mK m → g_Md_get (nI (ex σ e)) (wR m) σ = y_V (g_Md_circuitGets (nI (ex σ e)) (nI (mF m)) (nI (mA m)) (nI (mK m)) (nI (mB m))) z_V (S_cnt (mK m) σ) ∧ f_Tr_get 11 (nI e) (wC m) (Kap kk σ η) = some (some (.int 1), Kap kk (S_cnt (mK m) σ) η)) := by
  obtain ⟨hH, hw, hL, hD, hC⟩ := id hI
  have hP := hw.1
  have hn10 := hP.2.1
  obtain ⟨x1, x2, x3⟩ := hP.ex_lt he
  have he20 : e < 20 := by omega
  obtain ⟨hmo, hh8, hk1, hk14, hnb, -⟩ := id hm
  have hT : mT m < 6 := hmo.2.2.1
  obtain ⟨⟨k1, k2, k3, k4, k5, k6, k7, k8, k9, k10, k11, k12, k13, k14, k15, k16, k17, k18, k19, k20, k21, k22⟩, kE, kF, kP, k4s⟩ := id hK
  obtain ⟨e1, e2, e3, e4, e5, e6, e7⟩ := kE e he
  have u1 := fun μ => fl_to hmo μ
  have u2 := fun μ => fl_kind hmo μ
  have v1 := fun τ => gl_toOf hmo τ
  have v2 := fun τ => gl_fromOf hmo τ
  have v3 := fun τ => gl_oneOf hmo τ
  have v4 := fun τ => gl_kindOf hmo τ
  have v5 := fun τ => gl_twoOf hmo τ
  have heo := fl_endOf (η := η) hK hP (l := e / 2) (sd := e % 2) (by omega) (by omega)
  rw [show 2 * (e / 2) + e % 2 = e by omega] at heo
  have o2 : (some (aE e) = none) = False := by simp
  have hcl : f_Tr_get 11 (nI e) (wC m) (Kap kk σ η) = f_Tr_get_26 11 (wC m) (nI (ex σ e)) (Kap kk σ η) := by
    simp only [f_Tr_get, x_nn, k11, if_true, hf2 _ he20, md2' _ he20, x_cR heo, x_ite, o2, not_false_eq_true, x_gI, e1, rd_E2]
  by_cases c : mT m = ex σ e
  · have hK8 : KOk kk (S_cnt (mK m) σ) := hK.sp S_cnt_fr.sp
    have hI8 : Inv (S_cnt (mK m) σ) η := S_cnt_inv hI
    have hm8 : MV (S_cnt (mK m) σ) m := by rw [MV.sp S_cnt_fr.sp]; exact hm
    have r9 : (S_cnt (mK m) σ).1 9 0 = nI (mK m) := by unfold S_cnt; rfl
    have hw8 : Kap kk (sS (sS σ 8 (σ.1 8 0 + 1)) 9 (nI (mK m))) η = Kap kk (S_cnt (mK m) σ) η := rfl
    have hc2 : f_Tr_get 11 (nI e) (wC m) (Kap kk σ η) = (sn_sw (nI (mK m)) [1, 2, 3, 4, 5, 6] [(f_Tr_get_108 11 (wC m) (nI (ex σ e))), (f_Tr_get_108 11 (wC m) (nI (ex σ e))), (n_n 8 (some 11) fun a9 => c_V (f_Tr_confirmBack a9 (nI (ex σ e)) (wC m)) (r_Z (0 : Int32))), (n_n 8 (some 11) fun a11 => c_V (f_Tr_changeBack a11 (nI (ex σ e)) (wC m)) (r_Z (0 : Int32))), (f_Tr_get_135 11 (wC m) (nI (ex σ e))), (f_Tr_get_135 11 (wC m) (nI (ex σ e)))] (r_Z (1 : Int32))) (Kap kk (S_cnt (mK m) σ) η) := by
      rw [hcl]
      simp only [f_Tr_get_26, x_cI (u1 _), c, if_true, x_ite, x_gI, k11, rd_s11_8, x_pI, wS_8, x_cI (u2 _), wS_9, hw8, rd_s11_9, r9]
    have hg2 : g_Md_get (nI (ex σ e)) (wR m) σ = (y_sw (nI (mK m)) [1, 2, 3, 4, 5, 6] [gOver (nI (ex σ e)) (nI (mF m)) (nI (mA m)) (wR m), gOvered (nI (ex σ e)) (nI (mA m)) (wR m), gCb (nI (ex σ e)) (nI (mF m)) (nI (mA m)) (wR m), gBack (nI (ex σ e)) (nI (mF m)) (nI (mA m)) (wR m), (g_Md_get_255 (nI (ex σ e)) (wR m) (nI (mF m)) (nI (mA m))), (g_Md_get_255 (nI (ex σ e)) (wR m) (nI (mF m)) (nI (mA m)))] (y_I (g_Md_kindOf (wR m)) fun v24 => y_I (g_Md_twoOf (wR m)) fun v25 => y_V (g_Md_circuitGets (nI (ex σ e)) (nI (mF m)) (nI (mA m)) v24 v25) (g_Md_get_311))) (S_cnt (mK m) σ) := by
      unfold g_Md_get
      rw [y_I_at (v1 _), if_pos (by rw [c]), y_I_at (v2 _), y_I_at (v3 _)]
      simp only [q_S, w_S, y_I_at (v4 _)]
      rfl
    refine ⟨fun hne => ?_, fun h7 => ?_⟩
    · have hk : mK m < 7 := by
        by_cases q : mK m < 7
        · exact q
        · exact absurd ⟨c, by omega⟩ hne
      have fin : ∀ g f, Sm kk g f none (S_cnt (mK m) σ) η → (∀ τ, g (S_cnt (mK m) σ) = some (none, τ) → g_Md_get (nI (ex σ e)) (wR m) σ = some (none, τ)) → (∀ κ, f (Kap kk (S_cnt (mK m) σ) η) = some (none, κ) → f_Tr_get 11 (nI e) (wC m) (Kap kk σ η) = some (some (.int 0), κ)) → Sm kk (g_Md_get (nI (ex σ e)) (wR m)) (f_Tr_get 11 (nI e) (wC m)) (some (.int 0)) σ η := fun g f hsm hg hf => Sm.bind hg hf PE.rf S_cnt_ts S_cnt_fr hsm
      rw [← c] at hc2 hg2 fin ⊢
      have zz : ∀ κ : sn_Mem, r_Z 0 κ = some (some (.int 0), κ) := fun κ => by simp [r_Z]
      obtain k | k | k | k | k | k : mK m = 1 ∨ mK m = 2 ∨ mK m = 3 ∨ mK m = 4 ∨ mK m = 5 ∨ mK m = 6 := by omega
      · refine fin _ _ (sm_over hK8 hI8 hm8 k) (fun τ h => ?_) (fun κ h => ?_)
        · rw [hg2]; rw [k] at h ⊢; exact h
        · rw [hc2]; rw [k] at h ⊢
          show f_Tr_get_108 11 (wC m) (nI (mT m)) _ = _
          simp only [f_Tr_get_108, x_nn, k11, if_true, x_cV h, zz]
      · refine fin _ _ (sm_overed hK8 hI8 hm8 k) (fun τ h => ?_) (fun κ h => ?_)
        · rw [hg2]; rw [k] at h ⊢; exact h
        · rw [hc2]; rw [k] at h ⊢
          show f_Tr_get_108 11 (wC m) (nI (mT m)) _ = _
          simp only [f_Tr_get_108, x_nn, k11, if_true, x_cV h, zz]
      · refine fin _ _ (sm_confirm hK8 hI8 hm8 k) (fun τ h => ?_) (fun κ h => ?_)
        · rw [hg2]; rw [k] at h ⊢; exact h
        · rw [hc2]; rw [k] at h ⊢
          show n_n 8 (some 11) (fun a9 => c_V (f_Tr_confirmBack a9 (nI (mT m)) (wC m)) (r_Z (0 : Int32))) _ = _
          simp only [x_nn, k11, if_true, x_cV h, zz]
      · refine fin _ _ (sm_back hK8 hI8 hm8 k) (fun τ h => ?_) (fun κ h => ?_)
        · rw [hg2]; rw [k] at h ⊢; exact h
        · rw [hc2]; rw [k] at h ⊢
          show n_n 8 (some 11) (fun a9 => c_V (f_Tr_changeBack a9 (nI (mT m)) (wC m)) (r_Z (0 : Int32))) _ = _
          simp only [x_nn, k11, if_true, x_cV h, zz]
      · refine fin _ _ (sm_prohibit hK8 hI8 hm8 (Or.inl k)) (fun τ h => ?_) (fun κ h => ?_)
        · rw [hg2]; rw [k] at h ⊢; exact h
        · rw [hc2]; rw [k] at h ⊢
          show f_Tr_get_135 11 (wC m) (nI (mT m)) _ = _
          simp only [f_Tr_get_135, x_nn, k11, if_true, x_cV h, zz]
      · refine fin _ _ (sm_prohibit hK8 hI8 hm8 (Or.inr k)) (fun τ h => ?_) (fun κ h => ?_)
        · rw [hg2]; rw [k] at h ⊢; exact h
        · rw [hc2]; rw [k] at h ⊢
          show f_Tr_get_135 11 (wC m) (nI (mT m)) _ = _
          simp only [f_Tr_get_135, x_nn, k11, if_true, x_cV h, zz]
    · have ho : ∀ k ∈ [(1 : Int32), 2, 3, 4, 5, 6], ¬ nI (mK m) = k := by
        intro k hk q
        have : ∀ j, j < 7 → ¬ nI (mK m) = nI j := fun j hj q2 => by
          have := nI_inj (by omega) (by omega) q2
          omega
        simp only [List.mem_cons, List.not_mem_nil, or_false] at hk
        rcases hk with rfl | rfl | rfl | rfl | rfl | rfl
        · exact this 1 (by decide) q
        · exact this 2 (by decide) q
        · exact this 3 (by decide) q
        · exact this 4 (by decide) q
        · exact this 5 (by decide) q
        · exact this 6 (by decide) q
      constructor
      · rw [hg2]
        have hsw : ∀ (fs : List sn_G) (d : sn_G), fs.length = 6 → y_sw (nI (mK m)) [1, 2, 3, 4, 5, 6] fs d = d := by
          intro fs d hl
          match fs, hl with
          | [a, b, c, d', e', f'], _ =>
            simp only [y_sw, ho 1 (by decide), ho 2 (by decide), ho 3 (by decide), ho 4 (by decide), ho 5 (by decide), ho 6 (by decide), if_false]
        rw [hsw _ _ rfl, y_I_at (v4 _), y_I_at (v5 _)]
        rfl
      · rw [hc2, sn_sw_out _ _ ho]
        simp [r_Z]
  · refine ⟨fun _ => ?_, fun q => absurd q.1 c⟩
    refine ((sm_pass hK hI x1 hm).at_g (fun τ h => ?_)).at_f (fun κ h => ?_)
    · unfold g_Md_get
      rw [y_I_at (v1 _), if_neg (fun q => c (nI_inj (by omega) (by omega) q))]
      exact h
    · rw [hcl]
      have o3 : (nI (mT m) = nI (ex σ e)) = False := eq_false (fun q => c (nI_inj (by omega) (by omega) q))
      have zz : ∀ κ : sn_Mem, r_Z 0 κ = some (some (.int 0), κ) := fun κ => by simp [r_Z]
      simp only [f_Tr_get_26, x_cI (u1 _), o3, if_false, x_ite, x_nn, k11, if_true, x_cV h, zz]
