/-! LAYER 2: both send: repeating, sending anew -/
variable {kk : Nat → Nat} {σ η : sn_FS} {e : Nat}
theorem sn_repeat (hK : KOk kk σ) (hI : Inv σ η) (hR : RI σ) (he : e < 2 * nl σ) (h5 : σ.1 10 e = 5) {r : Nat} (hr : r < cl σ 27 e) (h21 : σ.1 21 e = nI r) : Sn kk (g_Md_send (nI e)) (f_En_sendUnit (aE e)) σ η (fun _ => True) := by
  obtain ⟨⟨k1, k2, k3, k4, k5, k6, k7, k8, k9, k10, k11, k12, k13, k14, k15, k16, k17, k18, k19, k20, k21, k22⟩, kE, kF, kP, k4s⟩ := id hK
  obtain ⟨e1, e2, e3, e4, e5, e6, e7⟩ := kE e he
  obtain ⟨hH, hw, hL, hD, hC⟩ := id hI
  have hn10 := hw.1.2.1
  have he20 : e < 20 := by omega
  have hE := hw.e1 he20
  obtain ⟨a1, ⟨v, hv, ev⟩, a3, a4, ⟨o, o1, o2, o3, o4⟩, -⟩ := id hE
  have hcl := cl_n o2 (show o < 2 ^ 31 by omega)
  have hc12 := cl_n ev (show v < 2 ^ 31 by omega)
  rw [hcl] at hr
  have hnum := o4 r hr
  rw [hc12] at hnum
  obtain ⟨V, hV⟩ : ∃ V, V = (v + 129 - o + r) % 128 := ⟨_, rfl⟩
  rw [← hV] at hnum
  have hV128 : V < 128 := by rw [hV]; exact Nat.mod_lt _ (by decide)
  have hc := cb_SP (σ := σ) (e := e)
  have hm1 : ¬ nI r = (-1 : Int32) := nI_m1 (by omega)
  -- the message
  obtain ⟨hd, hRQ⟩ := hH.1 0 (by decide) e he
  obtain ⟨m, mv, mw, mc⟩ := hRQ.2.2.2 r (by show r < cl σ 27 e; omega)
  have mw : σ.2 25 (32 * e + r) = wR m := mw
  -- the place that is next
  obtain ⟨p, hp⟩ : ∃ p : Int32, p = if r + 1 = o then -1 else nI (r + 1) := ⟨_, rfl⟩
  have hp2 : p = -1 ∨ ∃ r', r' < o ∧ p = nI r' := by
    rw [hp]
    split
    · exact Or.inl rfl
    · exact Or.inr ⟨r + 1, by omega, rfl⟩
  -- the reference
  have hω : g_Md_send (nI e) σ = some (none, sI (sJ (sI (sI (S_sb e σ) 30 e 5) 31 e (nI V)) 35 e (wR m)) 21 e p) := by
    have d21 : e < md_len 21 := he20
    have d30 : e < md_len 30 := he20
    have d31 : e < md_len 31 := he20
    have d35 : e < md_len 35 := he20
    have d27 : e < md_len 27 := he20
    have d26 : 32 * e + r < md_len 26 := by show _ < 640; omega
    have d25 : 32 * e + r < md_len 25 := by show _ < 640; omega
    have x32 : ((32 : Int32) * nI e) + nI r = nI (32 * e + r) := by
      have : (32 : Int32) * nI e = nI (32 * e) := pk_mul 32 e
      rw [this, nI_add]
    have s21 : (S_sb e σ).1 21 e = nI r := by rw [S_sb_I (Or.inl (by decide))]; exact h21
    have s27 : (S_sb e σ).1 27 e = nI o := by rw [S_sb_I (Or.inl (by decide))]; exact o2
    have s26 : (S_sb e σ).1 26 (32 * e + r) = nI V := by rw [S_sb_I (Or.inl (by decide))]; exact hnum
    have s25 : (S_sb e σ).2 25 (32 * e + r) = wR m := mw
    have z4 : (4 : Int32) ≤ 5 := by decide
    rw [gl_send0 he20, h5, if_pos (by decide), if_pos (by decide), if_pos z4]
    unfold g_Md_send_119
    have q5 : ((5 : Int32) = 5) = True := eq_true rfl
    have hm1' : (nI r = (-1 : Int32)) = False := eq_false hm1
    by_cases c : r + 1 = o
    · have hpe : p = -1 := by rw [hp, if_pos c]
      have qo : (nI (r + 1) = nI o) = True := eq_true (by rw [c])
      simp only [w_I_at d30, if_true, q_I_at d21, sn_upE, Nat.reduceEqDiff, reduceIte, s21, hm1', if_false, x32, q_I_at d26, s26, w_I_at d31, q_J_at d25, s25, w_J_at d35, nI_1, w_I_at d21, q_I_at d27, s27, qo, not_true_eq_false, g_Md_send_424, z_V, sI_sI, hpe]
    · have hpe : p = nI (r + 1) := by rw [hp, if_neg c]
      have qo : (nI (r + 1) = nI o) = False := eq_false (fun q => c (nI_inj (by omega) (by omega) q))
      simp only [w_I_at d30, if_true, q_I_at d21, sn_upE, Nat.reduceEqDiff, reduceIte, s21, hm1', if_false, x32, q_I_at d26, s26, w_I_at d31, q_J_at d25, s25, w_J_at d35, nI_1, w_I_at d21, q_I_at d27, s27, qo, not_false_eq_true, g_Md_send_424, z_V, sI_sI, hpe]
  -- the class
  have hη : ∀ a j, a ≠ aU e → (uset e (sJ (sI η (aU e) 1 (nI V)) (aU e) 6 (wC m)) (σ.1 14 e) (σ.1 13 e) (σ.1 15 e)).1 a j = η.1 a j ∧ (uset e (sJ (sI η (aU e) 1 (nI V)) (aU e) 6 (wC m)) (σ.1 14 e) (σ.1 13 e) (σ.1 15 e)).2 a j = η.2 a j := fun a j h => by
    obtain ⟨u1, u2⟩ := uset_o (η := sJ (sI η (aU e) 1 (nI V)) (aU e) 6 (wC m)) (f := σ.1 14 e) (t := σ.1 13 e) (b := σ.1 15 e) (j := j) h
    refine ⟨u1.trans ?_, u2.trans ?_⟩
    · show (sI η (aU e) 1 (nI V)).1 a j = _
      exact sI_ne h
    · show sn_up η.2 (aU e) 6 (wC m) a j = _
      exact sn_up_ne _ _ _ _ h
  have hs5 : SP σ (sI (cb e σ) 30 e 5) := hc.tr (SP.sI (by decide))
  have hK5 : KOk kk (sI (cb e σ) 30 e 5) := hK.sp hs5
  have he5 : e < 2 * nl (sI (cb e σ) 30 e 5) := by rw [hs5.nlE]; exact he
  have b27 : (cb e σ).1 27 e = nI o := by rw [cb_I (by decide)]; exact o2
  have b12 : (cb e σ).1 12 e = nI v := by rw [cb_I (by decide)]; exact ev
  have b21 : (cb e σ).1 21 e = nI r := by rw [cb_I (by decide)]; exact h21
  have hfill : f_Wi_fill (aW e) (some (aU e)) (Kap kk (cb e σ) η) = some (none, Kap kk (sI (sI (cb e σ) 30 e 5) 21 e p) (uset e (sJ (sI η (aU e) 1 (nI V)) (aU e) 6 (wC m)) (σ.1 14 e) (σ.1 13 e) (σ.1 15 e))) := by
    have hno := fl_numberOf (η := η) hK5 he5 (o := o) (v := v) (i := r) (by rw [sI_ne (by decide)]; exact b27) o1 (by rw [sI_ne (by decide)]; exact b12) hv (by omega)
    rw [← hV] at hno
    have hQ5 : HQ (sI (cb e σ) 30 e 5) η := ((hH.1.mI (k := 36) (i := e) (v := 1) (by decide)).mI (k := 39) (i := e) (v := σ.1 37 e) (by decide)).mI (k := 30) (i := e) (v := 5) (by decide)
    have hQ6 : HQ (sI (cb e σ) 30 e 5) (sI η (aU e) 1 (nI V)) := hQ5.u (e := e) (fun a j h => ⟨sI_ne h, rfl⟩)
    obtain ⟨hd', hR'⟩ := hQ6 0 (by decide) e he5
    have c27 : (sI (cb e σ) 30 e 5).1 (sk 0) e = nI o := by show (sI (cb e σ) 30 e 5).1 27 e = _; rw [sI_ne (by decide)]; exact b27
    have hq := QH_of hK5 (t := 0) (i := e) (by decide) he5 hR' c27 (by show o ≤ 32; exact o1)
    have hat := fl_at hq (i := r) hr
    have hmsg : (sI η (aU e) 1 (nI V)).2 (rA 0 e) ((hd' + r) % cp 0) = wC m := by
      obtain ⟨m', mv', mw', mc'⟩ := hR'.2.2.2 r (by rw [cl_n c27 (by omega)]; exact hr)
      rw [mc']
      have h1 : wR m' = wR m := by rw [← mw', ← mw]; rfl
      have hdd : hd' = hd := by
        have q1 := hR'.2.2.1
        have q2 := hRQ.2.2.1
        have q3 : (sI η (aU e) 1 (nI V)).1 (qA 0 e) 1 = η.1 (qA 0 e) 1 := sI_ne (Ne.symm (aU_q (by decide)).2.1)
        rw [q3, q2] at q1
        have l1 := hR'.1
        have l2 := hRQ.1
        have l3 : cp 0 = 32 := rfl
        exact (nI_inj (by omega) (by omega) q1).symm
      rw [← mc', hdd]
      exact mc
    rw [hmsg] at hat
    have hat : f_Qu_at (aUQ e) (nI r) (Kap kk (sI (cb e σ) 30 e 5) (sI η (aU e) 1 (nI V))) = _ := hat
    have hpc : f_Wi_repeat (aW e) (some (aU e)) (Kap kk (sI (cb e σ) 30 e 5) η) = some (none, Kap kk (sI (sI (cb e σ) 30 e 5) 21 e p) (sJ (sI η (aU e) 1 (nI V)) (aU e) 6 (wC m))) := by
      by_cases c : r + 1 = o
      · have hpe : p = -1 := by rw [hp, if_pos c]
        have qo : (nI o ≤ nI (r + 1)) = True := eq_true (by rw [c]; exact nI_le (by omega) (by omega))
        simp only [f_Wi_repeat, x_gI, e3, if_true, rd_W5, sn_upE, Nat.reduceEqDiff, reduceIte, b21, x_nn, x_cI hno, x_pI, e2, wr_U1, x_gR, rr_W7, e4, x_cJ hat, x_pJ, nI_1, rd_UQ2, b27, qo, f_Wi_repeat_54, wr_W5, r_V, hpe]
      · have hpe : p = nI (r + 1) := by rw [hp, if_neg c]
        have qo : (nI o ≤ nI (r + 1)) = False := eq_false (nI_ge (by omega) (by omega))
        simp only [f_Wi_repeat, x_gI, e3, if_true, rd_W5, sn_upE, Nat.reduceEqDiff, reduceIte, b21, x_nn, x_cI hno, x_pI, e2, wr_U1, x_gR, rr_W7, e4, x_cJ hat, x_pJ, nI_1, rd_UQ2, b27, qo, if_false, x_ite, f_Wi_repeat_54, wr_W5, r_V, hpe]
    have hs6 : SP σ (sI (sI (cb e σ) 30 e 5) 21 e p) := hs5.tr (SP.sI (by decide))
    have h69 := fl_69 (η := sJ (sI η (aU e) 1 (nI V)) (aU e) 6 (wC m)) (hK.sp hs6) (e := e) (by rw [hs6.nlE]; exact he)
    have r14 : (sI (sI (cb e σ) 30 e 5) 21 e p).1 14 e = σ.1 14 e := by rw [sI_ne (by decide), sI_ne (by decide), cb_I (by decide)]
    have r13 : (sI (sI (cb e σ) 30 e 5) 21 e p).1 13 e = σ.1 13 e := by rw [sI_ne (by decide), sI_ne (by decide), cb_I (by decide)]
    have r15 : (sI (sI (cb e σ) 30 e 5) 21 e p).1 15 e = σ.1 15 e := by rw [sI_ne (by decide), sI_ne (by decide), cb_I (by decide)]
    rw [r14, r13, r15] at h69
    have hm1' : (nI r = (-1 : Int32)) = False := eq_false hm1
    simp only [f_Wi_fill, x_pI, e2, if_true, wr_U0, x_gI, e3, rd_W5, sn_upE, Nat.reduceEqDiff, reduceIte, b21, hm1', if_false, x_ite, x_nn, x_cV hpc, h69]
    rfl
  -- together
  have gk : ∀ k i, k ≠ 21 ∧ k ≠ 30 ∧ k ≠ 36 ∧ k ≠ 39 ∧ k ≠ 31 ∧ k ≠ 32 ∧ k ≠ 33 ∧ k ≠ 34 → (sI (sJ (sI (sI (S_sb e σ) 30 e 5) 31 e (nI V)) 35 e (wR m)) 21 e p).1 k i = σ.1 k i := fun k i hk => by
    rw [sI_ne hk.1]
    show (sI (sI (S_sb e σ) 30 e 5) 31 e (nI V)).1 k i = _
    rw [sI_ne (by omega), sI_ne (by omega), S_sb_I (Or.inl (by omega))]
  have gi : ∀ k i, i ≠ e → (sI (sJ (sI (sI (S_sb e σ) 30 e 5) 31 e (nI V)) 35 e (wR m)) 21 e p).1 k i = σ.1 k i := fun k i hi => by
    rw [sI_nk hi]
    show (sI (sI (S_sb e σ) 30 e 5) 31 e (nI V)).1 k i = _
    rw [sI_nk hi, sI_nk hi, S_sb_I (Or.inr hi)]
  have t21 : (sI (sJ (sI (sI (S_sb e σ) 30 e 5) 31 e (nI V)) 35 e (wR m)) 21 e p).1 21 e = p := by simp only [sn_upE, Nat.reduceEqDiff, reduceIte]
  have t30 : (sI (sJ (sI (sI (S_sb e σ) 30 e 5) 31 e (nI V)) 35 e (wR m)) 21 e p).1 30 e = 5 := by simp only [sn_upE, Nat.reduceEqDiff, reduceIte]
  have t31 : (sI (sJ (sI (sI (S_sb e σ) 30 e 5) 31 e (nI V)) 35 e (wR m)) 21 e p).1 31 e = nI V := by simp only [sn_upE, Nat.reduceEqDiff, reduceIte]
  have t32 : (sI (sJ (sI (sI (S_sb e σ) 30 e 5) 31 e (nI V)) 35 e (wR m)) 21 e p).1 32 e = σ.1 14 e := by unfold S_sb; simp only [sn_upE, Nat.reduceEqDiff, reduceIte]
  have t33 : (sI (sJ (sI (sI (S_sb e σ) 30 e 5) 31 e (nI V)) 35 e (wR m)) 21 e p).1 33 e = σ.1 13 e := by unfold S_sb; simp only [sn_upE, Nat.reduceEqDiff, reduceIte]
  have t34 : (sI (sJ (sI (sI (S_sb e σ) 30 e 5) 31 e (nI V)) 35 e (wR m)) 21 e p).1 34 e = σ.1 15 e := by unfold S_sb; simp only [sn_upE, Nat.reduceEqDiff, reduceIte]
  have tJ : ∀ k i, (sI (sJ (sI (sI (S_sb e σ) 30 e 5) 31 e (nI V)) 35 e (wR m)) 21 e p).2 k i = if k = 35 then (if i = e then wR m else σ.2 k i) else σ.2 k i := fun k i => rfl
  have hKω : Kap kk (sI (sI (cb e σ) 30 e 5) 21 e p) (uset e (sJ (sI η (aU e) 1 (nI V)) (aU e) 6 (wC m)) (σ.1 14 e) (σ.1 13 e) (σ.1 15 e)) = Kap kk (sI (sJ (sI (sI (S_sb e σ) 30 e 5) 31 e (nI V)) 35 e (wR m)) 21 e p) (uset e (sJ (sI η (aU e) 1 (nI V)) (aU e) 6 (wC m)) (σ.1 14 e) (σ.1 13 e) (σ.1 15 e)) := by
    refine Kap_of (fun k i hk => ?_)
    simp only [List.mem_cons, List.not_mem_nil, or_false, not_or] at hk
    obtain ⟨k1, k2, k3, k4, k5, k6⟩ := hk
    simp only [S_sb, cb, sn_upE, k3, k4, k5, k6, if_false]
  generalize hΩ : sI (sJ (sI (sI (S_sb e σ) 30 e 5) 31 e (nI V)) 35 e (wR m)) 21 e p = ω at hω gk gi t21 t30 t31 t32 t33 t34 tJ hKω
  have hsp : SP σ ω := ⟨fun i => gk 0 i (by decide), fun i => gk 1 i (by decide), fun i => gk 4 i (by decide)⟩
  have hQω : HQ ω η := hH.1.mk' hsp (fun t ht i _ => by
    rcases t3 ht with rfl | rfl | rfl
    · exact ⟨congrArg Int32.toNatClampNeg (gk 27 i (by decide)), fun j _ => by rw [tJ]; rfl⟩
    · exact ⟨congrArg Int32.toNatClampNeg (gk 29 i (by decide)), fun j _ => by rw [tJ]; rfl⟩
    · exact ⟨congrArg Int32.toNatClampNeg (gk 47 i (by decide)), fun j _ => by rw [tJ]; rfl⟩) (fun t ht i => ⟨rfl, fun j => rfl⟩)
  obtain ⟨u1, u2, u3, u4, u5⟩ := uset_at (e := e) (η := sJ (sI η (aU e) 1 (nI V)) (aU e) 6 (wC m)) (f := σ.1 14 e) (t := σ.1 13 e) (b := σ.1 15 e)
  have hHω : HR ω (uset e (sJ (sI η (aU e) 1 (nI V)) (aU e) 6 (wC m)) (σ.1 14 e) (σ.1 13 e) (σ.1 15 e)) := by
    refine HR_unit (hQω.u hη) hH.2.1 hH.2.2 hsp (fun k i _ _ hi => gi k i hi) (fun i hi => by rw [tJ, if_pos rfl, if_neg hi]) (fun e' j hne => hη _ j (aU_ne hne)) (fun i => gk 10 i (by decide)) (fun i => gk 24 i (by decide)) (fun i => (hη _ 14 aE_aU).1) ⟨fun _ => ⟨?_, by rw [u2, t32], by rw [u3, t33], by rw [u4, t34]⟩, fun _ => ⟨m, by rw [MV.sp hsp]; exact mv, by rw [tJ, if_pos rfl, if_pos rfl], ?_⟩⟩
    · rw [u1, t31]
      show sn_up η.1 (aU e) 1 (nI V) (aU e) 1 = _
      rw [sn_up_same]
    · rw [u5]
      show sn_up η.2 (aU e) 6 (wC m) (aU e) 6 = _
      rw [sn_up_same]
  have gg : ∀ k i, (k ∉ sdL ∨ (i ≠ e ∧ k ≠ 26)) → ω.1 k i = σ.1 k i := fun k i hk => by
    rcases hk with q | q
    · have := sd_of q
      exact gk k i (by omega)
    · exact gi k i q.1
  obtain ⟨p1, p2, p3, p4⟩ := send_pack hI hR he gg (fun e' i _ _ => gk 26 _ (by decide)) (E1_sb hE (fun k hk => gg k e (Or.inl hk)) (gk 12 _ (by decide)) (gk 20 _ (by decide)) (Or.inr ⟨h5, by rw [t21, hcl]; exact hp2⟩) (fun i _ => gk 26 _ (by decide)) (gk 27 _ (by decide)) (gk 29 _ (by decide)) ⟨5, by omega, t30⟩ ⟨V, hV128, t31⟩ (by rw [t33]; exact a3)) (by rw [gk 29 _ (by decide)]; exact hw.2.1 e he20) hHω (Or.inl (gk 20 _ (by decide)))
  refine ⟨ω, _, hω, fl_su4 hK he (Or.inr h5) ?_, p1, p2, PE_u hη, p3, p4, trivial⟩
  rw [hfill, hKω]
