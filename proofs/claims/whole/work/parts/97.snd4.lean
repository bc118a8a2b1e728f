/-! LAYER 2: all ends send -/
variable {kk : Nat → Nat}
theorem sn_send {σ η : sn_FS} {e : Nat} (hK : KOk kk σ) (hI : Inv σ η) (hR : RI σ) (he : e < 2 * nl σ) : Sn kk (g_Md_send (nI e)) (f_En_sendUnit (aE e)) σ η (fun _ => True) := by
  obtain ⟨⟨k1, k2, k3, k4, k5, k6, k7, k8, k9, k10, k11, k12, k13, k14, k15, k16, k17, k18, k19, k20, k21, k22⟩, kE, kF, kP, k4s⟩ := id hK
  obtain ⟨e1, e2, e3, e4, e5, e6, e7⟩ := kE e he
  obtain ⟨hH, hw, hL, hD, hC⟩ := id hI
  have hn10 := hw.1.2.1
  have he20 : e < 20 := by omega
  have d30 : e < md_len 30 := he20
  have d23 : e < md_len 23 := he20
  have d21 : e < md_len 21 := he20
  have d29 : e < md_len 29 := he20
  have d27 : e < md_len 27 := he20
  have hE := hw.e1 he20
  obtain ⟨s, hs5, es⟩ := hE.1
  have hns : ∀ (x2 : Int32) (u : Nat), ¬ x2 = 5 → g_Md_send_119 (nI e) x2 (nI e) (nI u) (S_sb e σ) = some (none, sI (S_sb e σ) 30 e (nI u)) := fun x2 u h => by
    unfold g_Md_send_119
    rw [w_I_at d30, if_neg h]; rfl
  have s21 : (S_sb e σ).1 21 e = σ.1 21 e := S_sb_I (Or.inl (by decide))
  have s29 : (S_sb e σ).1 29 e = σ.1 29 e := S_sb_I (Or.inl (by decide))
  have s27 : (S_sb e σ).1 27 e = σ.1 27 e := S_sb_I (Or.inl (by decide))
  have s23 : (S_sb e σ).1 23 e = σ.1 23 e := S_sb_I (Or.inl (by decide))
  have b23 : (cb e σ).1 23 e = σ.1 23 e := cb_I (by decide)
  have hfs := fl_su (η := η) hK he
  have hg0 := gl_send0 (σ := σ) he20
  rw [es] at hfs hg0
  have z1 : ((1 : Int32) = 0) = False := eq_false (by decide)
  obtain rfl | rfl | rfl | rfl | rfl | rfl : s = 0 ∨ s = 1 ∨ s = 2 ∨ s = 3 ∨ s = 4 ∨ s = 5 := by omega
  · refine sn_state hK hI hR he (u := 0) (by omega) ?_ ?_
    · rw [hg0, if_neg (fun q => q (by decide))]; exact hns _ 0 (by decide)
    · rw [hfs]
      show (g_R 2 5 (some (aE e)) fun v6 => p_I 9 0 v6 (0 : Int32) (f_En_sendUnit_107 (aE e))) _ = _
      simp only [x_gR, e1, if_true, rr_E5, x_pI, e2, wr_U0, f_En_sendUnit_107, r_V]
      rfl
  · refine sn_state hK hI hR he (u := 1) (by omega) ?_ ?_
    · rw [hg0, if_pos (by decide), if_neg (fun q => q (by decide))]; exact hns _ 1 (by decide)
    · rw [hfs]
      show (g_R 2 5 (some (aE e)) fun v6 => p_I 9 0 v6 (1 : Int32) (f_En_sendUnit_107 (aE e))) _ = _
      simp only [x_gR, e1, if_true, rr_E5, x_pI, e2, wr_U0, f_En_sendUnit_107, r_V]
      rfl
  · by_cases c : σ.1 23 e = 0
    · refine sn_state hK hI hR he (u := 2) (by omega) ?_ ?_
      · rw [hg0, if_pos (by decide), if_pos (by decide), if_neg (by decide), q_I_at d23, s23, if_pos c]; exact hns _ 2 (by decide)
      · rw [hfs]
        show f_En_sendUnit_74 (aE e) _ = _
        simp only [f_En_sendUnit_74, x_gR, e1, if_true, rr_E5, x_gI, rd_E13, b23, c, f_En_sendUnit_90, x_pI, e2, wr_U0, f_En_sendUnit_107, r_V]
        rfl
    · refine sn_state hK hI hR he (u := 3) (by omega) ?_ ?_
      · rw [hg0, if_pos (by decide), if_pos (by decide), if_neg (by decide), q_I_at d23, s23, if_neg c]; exact hns _ 3 (by decide)
      · rw [hfs]
        show f_En_sendUnit_74 (aE e) _ = _
        simp only [f_En_sendUnit_74, x_gR, e1, if_true, rr_E5, x_gI, rd_E13, b23, c, if_false, f_En_sendUnit_90, x_pI, e2, wr_U0, f_En_sendUnit_107, r_V]
        rfl
  · by_cases c : σ.1 23 e = 0
    · refine sn_state hK hI hR he (u := 2) (by omega) ?_ ?_
      · rw [hg0, if_pos (by decide), if_pos (by decide), if_neg (by decide), q_I_at d23, s23, if_pos c]; exact hns _ 2 (by decide)
      · rw [hfs]
        show f_En_sendUnit_74 (aE e) _ = _
        simp only [f_En_sendUnit_74, x_gR, e1, if_true, rr_E5, x_gI, rd_E13, b23, c, f_En_sendUnit_90, x_pI, e2, wr_U0, f_En_sendUnit_107, r_V]
        rfl
    · refine sn_state hK hI hR he (u := 3) (by omega) ?_ ?_
      · rw [hg0, if_pos (by decide), if_pos (by decide), if_neg (by decide), q_I_at d23, s23, if_neg c]; exact hns _ 3 (by decide)
      · rw [hfs]
        show f_En_sendUnit_74 (aE e) _ = _
        simp only [f_En_sendUnit_74, x_gR, e1, if_true, rr_E5, x_gI, rd_E13, b23, c, if_false, f_En_sendUnit_90, x_pI, e2, wr_U0, f_En_sendUnit_107, r_V]
        rfl
  · have h5 : ¬ σ.1 10 e = 5 := by rw [es]; decide
    obtain ⟨b1, b2, b3⟩ := hE.2.2.2.2.2.1 h5
    have h40 : σ.1 40 e = 0 := by
      by_cases z : σ.1 40 e = 0
      · exact z
      · have := hE.2.2.2.2.2.2.1 z; rw [es] at this; exact absurd this (by decide)
    refine sn_fill hK hI hR he (Or.inl es) b1 (Or.inl (by rw [(b3 h40).2]; decide)) ?_
    rw [hg0, if_pos (by decide), if_pos (by decide), if_pos (by decide)]; exact hns _ 4 (by decide)
  · have h5 : σ.1 10 e = 5 := es
    obtain ⟨o, o1, o2, o3, o4⟩ := hE.2.2.2.2.1
    obtain ⟨w, w1, w2⟩ := hw.2.1 e he20
    rcases o3 with q | ⟨r, r1, r2⟩
    · have hg1 : g_Md_send (nI e) σ = (if σ.1 29 e ≤ 0 then g_Md_send_424 else q_I 27 (nI e) fun v11 => (if (32 : Int32) ≤ v11 then g_Md_send_424 else (q_I 12 (nI e) fun v12 => w_I 12 (nI e) ((v12 + (1 : Int32)) &&& (127 : Int32)) (w_I 30 (nI e) (5 : Int32) (q_I 12 (nI e) fun v13 => w_I 31 (nI e) v13 (q_J 28 ((64 : Int32) * (nI e)) fun v14 => w_J 35 (nI e) v14 (q_I 27 (nI e) fun v15 => (if ¬ v15 = 0 then g_Md_send_315 (nI e) else q_S 6 fun v16 => w_I 20 (nI e) (v16 + (20 : Int32)) (g_Md_send_315 (nI e)))))))))) (sI (S_sb e σ) 30 e 4) := by
        rw [hg0, if_pos (by decide), if_pos (by decide), if_pos (by decide)]
        unfold g_Md_send_119
        rw [w_I_at d30, if_pos (by decide), q_I_at d21, sI_ne (by decide), s21, if_pos q, q_I_at d29, sI_ne (by decide), s29]
      by_cases c29 : w = 0
      · have hz : σ.1 29 e ≤ 0 := by rw [w2, c29]; decide
        exact sn_fill hK hI hR he (Or.inr h5) q (Or.inl hz) (by rw [hg1, if_pos hz]; rfl)
      · by_cases c27 : o = 32
        · have hz : ¬ σ.1 29 e ≤ 0 := by rw [w2]; exact nI_ge (b := w) (a := 0) (by omega) (by omega)
          have h32 : (32 : Int32) ≤ σ.1 27 e := by rw [o2, c27]; decide
          exact sn_fill hK hI hR he (Or.inr h5) q (Or.inr h32) (by rw [hg1, if_neg hz, q_I_at d27, sI_ne (by decide), s27, if_pos h32]; rfl)
        · exact sn_anew hK hI hR he h5 q (w := w - 1) (o := o) (by omega) (by rw [w2]; congr 1; omega) (by omega) o2
    · exact sn_repeat hK hI hR he h5 (r := r) (by rw [cl_n o2 (by omega)]; exact r1) r2
theorem snd_ends : ∀ (d fuel fuel' j : Nat) (σ η : sn_FS), 2 * nl σ - j = d → d < fuel → d < fuel' → j ≤ 2 * nl σ → KOk kk σ → Inv σ η → RI σ → ∃ τ θ, g_Md_one_278 fuel (nI j) σ = some (none, sS τ 5 (τ.1 5 0 + 1)) ∧ f_Tr_sendUnits_2 11 fuel' (nI j) (Kap kk σ η) = some (none, Kap kk τ θ) ∧ Inv τ θ ∧ RI τ ∧ PE η θ ∧ TS σ τ ∧ FR0 σ τ
  | 0, fuel + 1, fuel' + 1, j, σ, η, hd, _, _, hj, hK, hI, hR => by
    obtain ⟨⟨k1, k2, k3, k4, k5, k6, k7, k8, k9, k10, k11, k12, k13, k14, k15, k16, k17, k18, k19, k20, k21, k22⟩, kE, kF, kP, k4s⟩ := id hK
    have hn10 := hI.2.1.1.2.1
    have hjo : j = 2 * nl σ := by omega
    have o1 : (nI (2 * nl σ) ≤ nI j) = True := eq_true (by rw [hjo]; exact nI_le (by omega) (by omega))
    have h2 := two_l hI.2.1.1
    refine ⟨σ, η, ?_, ?_, hI, hR, PE.rf, TS.rf, FR0.rf⟩
    · simp only [g_Md_one_278, q_S, h2, o1, if_true, w_S, z_V]
    · simp only [f_Tr_sendUnits_2, x_gR, k11, if_true, rr_s11_0, x_gI, k3, rd_s3_0, h2, o1, r_V]
  | d + 1, fuel + 1, fuel' + 1, j, σ, η, hd, hf, hf', hj, hK, hI, hR => by
    obtain ⟨⟨k1, k2, k3, k4, k5, k6, k7, k8, k9, k10, k11, k12, k13, k14, k15, k16, k17, k18, k19, k20, k21, k22⟩, kE, kF, kP, k4s⟩ := id hK
    have hn10 := hI.2.1.1.2.1
    have hjo : j < 2 * nl σ := by omega
    obtain ⟨e1, e2, e3, e4, e5, e6, e7⟩ := kE j hjo
    have o1 : (nI (2 * nl σ) ≤ nI j) = False := eq_false (nI_ge (by omega) (by omega))
    have h2 := two_l hI.2.1.1
    obtain ⟨τ, θ, a1, a2, a3, a4, a5, a6, a7, -⟩ := sn_send hK hI hR hjo
    have hs := a7.sp
    obtain ⟨ω, ζ, b1, b2, b3, b4, b5, b6, b7⟩ := snd_ends d fuel fuel' (j + 1) τ θ (by rw [hs.nlE]; omega) (by omega) (by omega) (by rw [hs.nlE]; omega) (hK.sp hs) a3 a4
    refine ⟨ω, ζ, ?_, ?_, b3, b4, a5.tr b5, a6.tr b6, a7.tr b7⟩
    · rw [← b1]
      simp only [g_Md_one_278, q_S, h2, o1, if_false, y_V_at a1, nI_1]
    · rw [← b2]
      have hp : j < kL 12 := by show _ < 20; omega
      have o3 : (j < 2 * nl σ) = True := eq_true hjo
      have q1 : (some (aE j) = none) = False := by simp
      simp only [f_Tr_sendUnits_2, x_gR, k11, if_true, rr_s11_0, x_gI, k3, rd_s3_0, h2, o1, if_false, x_ite, rr_s11_2, x_aR hp (show kL 12 ≤ 1000 by decide), k12, rr_a12, o3, q1, x_nn, e1, x_cV a2, f_Tr_sendUnits_33, nI_1]
