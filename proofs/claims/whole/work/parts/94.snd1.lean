/-! LAYER 2: both send -/
theorem HQ_pop {σ η : sn_FS} (hQ : HQ σ η) {t i r hd : Nat} (ht : t < 3) (hi : exT σ t i) (hn : σ.1 (sk t) i = nI (r + 1)) (hr : r + 1 ≤ cp t) (hR : RQ (MV σ) η (qA t i) (rA t i) (cp t) (cl σ (sk t) i) hd (fun j => σ.2 (jk t) (cp t * i + j))) : HQ (S_pop t i σ) (sI η (qA t i) 1 (nI ((hd + 1) % cp t))) := by
  have hcp := cp_le t
  have hcl := cl_n hn (by omega)
  have hs := S_pop_SP (i := i) ht σ
  have c1 : cl (S_pop t i σ) (sk t) i = r := by
    unfold cl S_pop
    show (sn_up σ.1 (sk t) i _ (sk t) i).toNatClampNeg = r
    rw [sn_up_same, hcl, nI_clamp (by omega)]; omega
  refine hQ.drop hs ht hi hR (by rw [c1, hcl]; exact Nat.le_refl _) (fun j hj => ?_) (fun t' ht' i' hi' hne => ?_)
  · show (if jk t = jk t ∧ cp t * i ≤ cp t * i + j ∧ cp t * i + j < cp t * i + cp t then σ.2 (jk t) (cp t * i + j + 1) else _) = _
    rw [c1] at hj
    rw [if_pos ⟨rfl, by omega, by omega⟩, Nat.add_assoc]
  · obtain ⟨s1, s2⟩ := pop_other (σ := σ) ht ht' hne
    refine ⟨congrArg Int32.toNatClampNeg s1, fun j hj => s2 j ?_⟩
    obtain ⟨hd', hR'⟩ := hQ t' ht' i' hi'
    have := hR'.2.1
    omega
theorem HQ.u {σ η θ : sn_FS} {e : Nat} (h : HQ σ η) (hθ : ∀ a j, a ≠ aU e → θ.1 a j = η.1 a j ∧ θ.2 a j = η.2 a j) : HQ σ θ := h.mk' SP.rf (fun t ht i _ => ⟨rfl, fun j _ => rfl⟩) (fun t ht i => ⟨(hθ _ _ (Ne.symm (aU_q ht).2.1)).1, fun j => (hθ _ _ (Ne.symm (aU_q ht).1)).2⟩)
variable {kk : Nat → Nat} {σ η : sn_FS} {e : Nat}
theorem fl_69 (hK : KOk kk σ) (he : e < 2 * nl σ) : f_Wi_fill_69 (aW e) (some (aU e)) (Kap kk σ η) = some (none, Kap kk σ (sI (sI (sI η (aU e) 2 (σ.1 14 e)) (aU e) 3 (σ.1 13 e)) (aU e) 4 (σ.1 15 e))) := by
  obtain ⟨⟨k1, k2, k3, k4, k5, k6, k7, k8, k9, k10, k11, k12, k13, k14, k15, k16, k17, k18, k19, k20, k21, k22⟩, kE, kF, kP, k4s⟩ := id hK
  obtain ⟨e1, e2, e3, e4, e5, e6, e7⟩ := kE e he
  simp only [f_Wi_fill_69, x_gI, e3, if_true, rd_W3, x_pI, e2, wr_U2, rd_W2, wr_U3, rd_W4, wr_U4, r_V]
/-- the unit as the class has it -/
def uset (e : Nat) (η : sn_FS) (f t b : Int32) : sn_FS := sI (sI (sI η (aU e) 2 f) (aU e) 3 t) (aU e) 4 b
theorem uset_o {f t b : Int32} {a j : Nat} (h : a ≠ aU e) : (uset e η f t b).1 a j = η.1 a j ∧ (uset e η f t b).2 a j = η.2 a j := by
  unfold uset
  exact ⟨by rw [sI_ne h, sI_ne h, sI_ne h], rfl⟩
theorem uset_at {f t b : Int32} : (uset e η f t b).1 (aU e) 1 = η.1 (aU e) 1 ∧ (uset e η f t b).1 (aU e) 2 = f ∧ (uset e η f t b).1 (aU e) 3 = t ∧ (uset e η f t b).1 (aU e) 4 = b ∧ (uset e η f t b).2 (aU e) 6 = η.2 (aU e) 6 := by
  unfold uset
  refine ⟨by simp only [sn_upE, Nat.reduceEqDiff, reduceIte], by simp only [sn_upE, Nat.reduceEqDiff, reduceIte], by simp only [sn_upE, Nat.reduceEqDiff, reduceIte], by simp only [sn_upE, Nat.reduceEqDiff, reduceIte], rfl⟩
theorem aU_ne {e e' : Nat} (h : e' ≠ e) : aU e' ≠ aU e := by unfold aU; omega
theorem aE_aU {i e : Nat} : aE i ≠ aU e := by unfold aE aU; omega
theorem PE_u {θ : sn_FS} (hθ : ∀ a j, a ≠ aU e → θ.1 a j = η.1 a j ∧ θ.2 a j = η.2 a j) : PE η θ := ⟨fun j => (hθ 20 j (by unfold aU; omega)).1, fun j => (hθ 21 j (by unfold aU; omega)).2⟩
/-- what the class writes first -/
def cb (e : Nat) (σ : sn_FS) : sn_FS := sI (sI σ 36 e 1) 39 e (σ.1 37 e)
theorem cb_SP : SP σ (cb e σ) := (SP.sI (k := 36) (by decide)).tr (SP.sI (k := 39) (by decide))
theorem cb_I {k i : Nat} (h : k ≠ 36 ∧ k ≠ 39) : (cb e σ).1 k i = σ.1 k i := by unfold cb; rw [sI_ne h.2, sI_ne h.1]
theorem fl_su (hK : KOk kk σ) (he : e < 2 * nl σ) : f_En_sendUnit (aE e) (Kap kk σ η) = (sn_sw (σ.1 10 e) [0, 1, 2, 3] [(g_R 2 5 (some (aE e)) fun v6 => p_I 9 0 v6 (0 : Int32) (f_En_sendUnit_107 (aE e))), (g_R 2 5 (some (aE e)) fun v7 => p_I 9 0 v7 (1 : Int32) (f_En_sendUnit_107 (aE e))), (f_En_sendUnit_74 (aE e)), (f_En_sendUnit_74 (aE e))] (g_R 2 4 (some (aE e)) fun v8 => g_R 2 5 (some (aE e)) fun v9 => n_n 10 v8 fun a10 => c_V (f_Wi_fill a10 v9) (f_En_sendUnit_107 (aE e)))) (Kap kk (cb e σ) η) := by
  obtain ⟨⟨k1, k2, k3, k4, k5, k6, k7, k8, k9, k10, k11, k12, k13, k14, k15, k16, k17, k18, k19, k20, k21, k22⟩, kE, kF, kP, k4s⟩ := id hK
  obtain ⟨e1, e2, e3, e4, e5, e6, e7⟩ := kE e he
  have o1 : ((1 : Int32) = 0 ∨ (1 : Int32) = 1) = True := eq_true (Or.inr rfl)
  simp only [f_En_sendUnit, x_pZ, e1, o1, and_self, if_true, wr_E6, x_gR, rr_E5, x_gI, rd_E9, sn_upE, Nat.reduceEqDiff, reduceIte, x_pI, e2, wr_U5, rd_E7]
  rfl
theorem fl_su4 (hK : KOk kk σ) (he : e < 2 * nl σ) (h4 : σ.1 10 e = 4 ∨ σ.1 10 e = 5) {κ : sn_Mem} (hf : f_Wi_fill (aW e) (some (aU e)) (Kap kk (cb e σ) η) = some (none, κ)) : f_En_sendUnit (aE e) (Kap kk σ η) = some (none, κ) := by
  obtain ⟨⟨k1, k2, k3, k4, k5, k6, k7, k8, k9, k10, k11, k12, k13, k14, k15, k16, k17, k18, k19, k20, k21, k22⟩, kE, kF, kP, k4s⟩ := id hK
  obtain ⟨e1, e2, e3, e4, e5, e6, e7⟩ := kE e he
  have ho : ∀ k ∈ [(0 : Int32), 1, 2, 3], ¬ σ.1 10 e = k := by
    rcases h4 with q | q <;> rw [q] <;> decide
  rw [fl_su hK he, sn_sw_out _ _ ho]
  simp only [x_gR, e1, if_true, rr_E4, rr_E5, x_nn, e3, x_cV hf, f_En_sendUnit_107, r_V]
/-- a FILL -/
theorem sn_fill (hK : KOk kk σ) (hI : Inv σ η) (hR : RI σ) (he : e < 2 * nl σ) (h4 : σ.1 10 e = 4 ∨ σ.1 10 e = 5) (h21 : σ.1 21 e = -1) (hno : σ.1 29 e ≤ 0 ∨ (32 : Int32) ≤ σ.1 27 e) (hg : g_Md_send (nI e) σ = some (none, sI (S_sb e σ) 30 e 4)) : Sn kk (g_Md_send (nI e)) (f_En_sendUnit (aE e)) σ η (fun _ => True) := by
  obtain ⟨⟨k1, k2, k3, k4, k5, k6, k7, k8, k9, k10, k11, k12, k13, k14, k15, k16, k17, k18, k19, k20, k21, k22⟩, kE, kF, kP, k4s⟩ := id hK
  obtain ⟨e1, e2, e3, e4, e5, e6, e7⟩ := kE e he
  obtain ⟨hH, hw, hL, hD, hC⟩ := id hI
  have hc := cb_SP (σ := σ) (e := e)
  have hη : ∀ a j, a ≠ aU e → (uset e (sJ (sI η (aU e) 1 (σ.1 12 e)) (aU e) 6 0) (σ.1 14 e) (σ.1 13 e) (σ.1 15 e)).1 a j = η.1 a j ∧ (uset e (sJ (sI η (aU e) 1 (σ.1 12 e)) (aU e) 6 0) (σ.1 14 e) (σ.1 13 e) (σ.1 15 e)).2 a j = η.2 a j := fun a j h => by
    obtain ⟨u1, u2⟩ := uset_o (η := sJ (sI η (aU e) 1 (σ.1 12 e)) (aU e) 6 0) (f := σ.1 14 e) (t := σ.1 13 e) (b := σ.1 15 e) (j := j) h
    refine ⟨u1.trans ?_, u2.trans ?_⟩
    · show (sI η (aU e) 1 (σ.1 12 e)).1 a j = _
      exact sI_ne h
    · show sn_up η.2 (aU e) 6 0 a j = _
      exact sn_up_ne _ _ _ _ h
  have gk : ∀ k i, k ≠ 30 ∧ k ≠ 36 ∧ k ≠ 39 ∧ k ≠ 31 ∧ k ≠ 32 ∧ k ≠ 33 ∧ k ≠ 34 → (sI (S_sb e σ) 30 e 4).1 k i = σ.1 k i := fun k i hk => by
    rw [sI_ne hk.1, S_sb_I (Or.inl hk.2)]
  have gi : ∀ k i, i ≠ e → (sI (S_sb e σ) 30 e 4).1 k i = σ.1 k i := fun k i hi => by rw [sI_nk hi, S_sb_I (Or.inr hi)]
  have hsp : SP σ (sI (S_sb e σ) 30 e 4) := ⟨fun i => gk 0 i (by decide), fun i => gk 1 i (by decide), fun i => gk 4 i (by decide)⟩
  have t30 : (sI (S_sb e σ) 30 e 4).1 30 e = 4 := by simp only [sn_upE, Nat.reduceEqDiff, reduceIte]
  obtain ⟨v1, v2, v3, v4⟩ := S_sb_at (σ := σ) (e := e)
  have hHu : HR (sI (S_sb e σ) 30 e 4) (uset e (sJ (sI η (aU e) 1 (σ.1 12 e)) (aU e) 6 0) (σ.1 14 e) (σ.1 13 e) (σ.1 15 e)) := by
    refine HR_unit ((HQ_sb hH.1).u hη) hH.2.1 hH.2.2 hsp (fun k i _ _ hi => gi k i hi) (fun i _ => rfl) (fun e' j hne => hη _ j (aU_ne hne)) (fun i => gk 10 i (by decide)) (fun i => gk 24 i (by decide)) (fun i => (hη _ 14 aE_aU).1) ⟨fun _ => ?_, fun q => by rw [t30] at q; exact absurd q (by decide)⟩
    obtain ⟨u1, u2, u3, u4, u5⟩ := uset_at (e := e) (η := sJ (sI η (aU e) 1 (σ.1 12 e)) (aU e) 6 0) (f := σ.1 14 e) (t := σ.1 13 e) (b := σ.1 15 e)
    refine ⟨?_, ?_, ?_, ?_⟩
    · have q : (sI (S_sb e σ) 30 e 4).1 31 e = σ.1 12 e := by rw [sI_ne (by decide)]; exact v1
      rw [u1, q]
      show sn_up η.1 (aU e) 1 (σ.1 12 e) (aU e) 1 = _
      rw [sn_up_same]
    · have q : (sI (S_sb e σ) 30 e 4).1 32 e = σ.1 14 e := by rw [sI_ne (by decide)]; exact v2
      rw [u2, q]
    · have q : (sI (S_sb e σ) 30 e 4).1 33 e = σ.1 13 e := by rw [sI_ne (by decide)]; exact v3
      rw [u3, q]
    · have q : (sI (S_sb e σ) 30 e 4).1 34 e = σ.1 15 e := by rw [sI_ne (by decide)]; exact v4
      rw [u4, q]
  obtain ⟨p1, p2, p3, p4⟩ := sb_30 hI hR he (u := 4) (by omega) hHu
  refine ⟨sI (S_sb e σ) 30 e 4, _, hg, fl_su4 hK he h4 ?_, p1, p2, PE_u hη, p3, p4, trivial⟩
  have hK5 : KOk kk (sI (cb e σ) 30 e 4) := hK.sp (hc.tr (SP.sI (by decide)))
  have h69 := fl_69 (η := sJ (sI η (aU e) 1 (σ.1 12 e)) (aU e) 6 0) hK5 (e := e) (by rw [(hc.tr (SP.sI (k := 30) (i := e) (v := 4) (by decide))).nlE]; exact he)
  have r14 : (sI (cb e σ) 30 e 4).1 14 e = σ.1 14 e := by rw [sI_ne (by decide), cb_I (by decide)]
  have r13 : (sI (cb e σ) 30 e 4).1 13 e = σ.1 13 e := by rw [sI_ne (by decide), cb_I (by decide)]
  have r15 : (sI (cb e σ) 30 e 4).1 15 e = σ.1 15 e := by rw [sI_ne (by decide), cb_I (by decide)]
  rw [r14, r13, r15] at h69
  have hlast : f_Wi_fill_51 (aW e) (some (aU e)) (Kap kk (sI (cb e σ) 30 e 5) η) = some (none, Kap kk (sI (S_sb e σ) 30 e 4) (uset e (sJ (sI η (aU e) 1 (σ.1 12 e)) (aU e) 6 0) (σ.1 14 e) (σ.1 13 e) (σ.1 15 e))) := by
    have hk1 : Kap kk (sI (S_sb e σ) 30 e 4) (uset e (sJ (sI η (aU e) 1 (σ.1 12 e)) (aU e) 6 0) (σ.1 14 e) (σ.1 13 e) (σ.1 15 e)) = Kap kk (sI (cb e σ) 30 e 4) (uset e (sJ (sI η (aU e) 1 (σ.1 12 e)) (aU e) 6 0) (σ.1 14 e) (σ.1 13 e) (σ.1 15 e)) := Kap_sb30
    have r12 : (cb e σ).1 12 e = σ.1 12 e := cb_I (by decide)
    rw [hk1]
    simp only [f_Wi_fill_51, x_pI, e2, if_true, wr_U0, sI_sI, x_gI, e3, rd_W1, sn_upE, Nat.reduceEqDiff, reduceIte, r12, wr_U1, x_pJ, h69]
    rfl
  have c21 : (cb e σ).1 21 e = -1 := by rw [cb_I (by decide)]; exact h21
  have c29 : (cb e σ).1 29 e = σ.1 29 e := cb_I (by decide)
  have c27 : (cb e σ).1 27 e = σ.1 27 e := cb_I (by decide)
  by_cases c : σ.1 29 e ≤ 0
  · simp only [f_Wi_fill, x_pI, e2, if_true, wr_U0, x_gI, e3, rd_W5, sn_upE, Nat.reduceEqDiff, reduceIte, c21, x_gR, rr_W8, e6, rd_WQ2, c29, c, hlast]
  · have c' : (32 : Int32) ≤ σ.1 27 e := hno.resolve_left c
    simp only [f_Wi_fill, x_pI, e2, if_true, wr_U0, x_gI, e3, rd_W5, sn_upE, Nat.reduceEqDiff, reduceIte, c21, x_gR, rr_W8, e6, rd_WQ2, c29, c, if_false, x_ite, rr_W7, e4, rd_UQ2, c27, c', hlast]
/-- a state unit -/
theorem sn_state (hK : KOk kk σ) (hI : Inv σ η) (hR : RI σ) (he : e < 2 * nl σ) {u : Nat} (hu : u < 4) (hg : g_Md_send (nI e) σ = some (none, sI (S_sb e σ) 30 e (nI u))) (hf : f_En_sendUnit (aE e) (Kap kk σ η) = some (none, Kap kk (sI (cb e σ) 30 e (nI u)) η)) : Sn kk (g_Md_send (nI e)) (f_En_sendUnit (aE e)) σ η (fun _ => True) := by
  obtain ⟨hH, hw, hL, hD, hC⟩ := id hI
  have gk : ∀ k i, k ≠ 30 ∧ k ≠ 36 ∧ k ≠ 39 ∧ k ≠ 31 ∧ k ≠ 32 ∧ k ≠ 33 ∧ k ≠ 34 → (sI (S_sb e σ) 30 e (nI u)).1 k i = σ.1 k i := fun k i hk => by
    rw [sI_ne hk.1, S_sb_I (Or.inl hk.2)]
  have gi : ∀ k i, i ≠ e → (sI (S_sb e σ) 30 e (nI u)).1 k i = σ.1 k i := fun k i hi => by rw [sI_nk hi, S_sb_I (Or.inr hi)]
  have hsp : SP σ (sI (S_sb e σ) 30 e (nI u)) := ⟨fun i => gk 0 i (by decide), fun i => gk 1 i (by decide), fun i => gk 4 i (by decide)⟩
  have t30 : (sI (S_sb e σ) 30 e (nI u)).1 30 e = nI u := by simp only [sn_upE, Nat.reduceEqDiff, reduceIte]
  have hHu : HR (sI (S_sb e σ) 30 e (nI u)) η := HR_unit (HQ_sb hH.1) hH.2.1 hH.2.2 hsp (fun k i _ _ hi => gi k i hi) (fun i _ => rfl) (fun e' j _ => ⟨rfl, rfl⟩) (fun i => gk 10 i (by decide)) (fun i => gk 24 i (by decide)) (fun i => rfl) ⟨fun q => absurd (t30 ▸ q) (nI_ge (b := 4) (by omega) (by omega)), fun q => by
    rw [t30] at q
    have := nI_inj (a := u) (b := 5) (by omega) (by omega) q
    omega⟩
  obtain ⟨p1, p2, p3, p4⟩ := sb_30 hI hR he (by omega) hHu
  refine ⟨_, η, hg, ?_, p1, p2, PE.rf, p3, p4, trivial⟩
  rw [hf]
  have : Kap kk (sI (S_sb e σ) 30 e (nI u)) η = Kap kk (sI (cb e σ) 30 e (nI u)) η := Kap_sb30
  rw [this]
