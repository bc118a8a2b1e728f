/-! LAYER 2: the timers of ends -/
def Tm (d : Nat) (σ : sn_FS) (k i : Nat) : Prop := ∃ v, v < 30000 ∧ σ.1 k i = nI v ∧ (v = 0 ∨ cl σ 6 0 + d ≤ v)
theorem ClOk.cl {σ : sn_FS} (h : ClOk σ) : cl σ 6 0 < 20000 ∧ σ.1 6 0 = nI (cl σ 6 0) := by
  obtain ⟨L, h1, h2⟩ := h
  have := cl_n h2 (by omega)
  rw [this]; exact ⟨h1, h2⟩
theorem Tm.ts {σ τ : sn_FS} {d k i : Nat} (h : Tm d σ k i) (hT : TS σ τ) (hC : ClOk σ) (hk : k ∈ tmL) (hd : d ≤ 1) : Tm d τ k i := by
  obtain ⟨v, v1, v2, v3⟩ := h
  obtain ⟨c1, c2⟩ := hC.cl
  have hcl : cl τ 6 0 = cl σ 6 0 := by unfold cl; rw [hT.1]
  rcases hT.2 k i hk with q | q | ⟨w, w1, w2, q⟩
  · exact ⟨v, v1, by rw [q]; exact v2, by rw [hcl]; exact v3⟩
  · exact ⟨0, by omega, q, Or.inl rfl⟩
  · exact ⟨cl σ 6 0 + w, by omega, by rw [q, c2, nI_add], Or.inr (by rw [hcl]; omega)⟩
theorem Tm.wk {σ : sn_FS} {k i : Nat} (h : Tm 1 σ k i) : Tm 0 σ k i := by
  obtain ⟨v, v1, v2, v3⟩ := h
  exact ⟨v, v1, v2, by omega⟩
def out (σ : sn_FS) (k i : Nat) : Prop := ¬ σ.1 k i = 0 ∧ σ.1 k i = σ.1 6 0
theorem Tm.st {σ : sn_FS} {k i : Nat} (h : Tm 0 σ k i) (hC : ClOk σ) (hn : ¬ out σ k i) : Tm 1 σ k i := by
  obtain ⟨v, v1, v2, v3⟩ := h
  obtain ⟨c1, c2⟩ := hC.cl
  refine ⟨v, v1, v2, ?_⟩
  by_cases c : v = 0
  · exact Or.inl c
  · right
    have : ¬ v = cl σ 6 0 := fun q => hn ⟨by rw [v2]; exact fun z => c (nI_inj (a := v) (b := 0) (by omega) (by omega) z), by rw [v2, c2, q]⟩
    omega
theorem Tm.z {σ : sn_FS} {d k i : Nat} (h : σ.1 k i = 0) : Tm d σ k i := ⟨0, by omega, h, Or.inl rfl⟩
theorem Tm.le {σ : sn_FS} {k i : Nat} (h : Tm 0 σ k i) : (σ.1 k i ≤ 0) ↔ σ.1 k i = 0 := by
  obtain ⟨v, v1, v2, v3⟩ := h
  rw [v2]
  constructor
  · intro q
    have := (nI_leI (a := v) (b := 0) (by omega) (by omega)).mp q
    have : v = 0 := by omega
    rw [this]; rfl
  · intro q; rw [q]; decide
variable {kk : Nat → Nat} {σ η : sn_FS} {e : Nat}
theorem fl_isOut (k2 : kk 2 = 1) (hC : ClOk σ) {k i : Nat} (h : Tm 0 σ k i) {d : Decidable (out σ k i)} : f_Ck_isOut 2 (σ.1 k i) (Kap kk σ η) = some (some (.int (if out σ k i then 1 else 0)), Kap kk σ η) := by
  obtain ⟨v, v1, v2, v3⟩ := id h
  obtain ⟨c1, c2⟩ := hC.cl
  by_cases c0 : σ.1 k i = 0
  · have hn : ¬ out σ k i := fun q => q.1 c0
    rw [if_neg hn]
    simp only [f_Ck_isOut, c0, if_true, f_Ck_isOut_16, f_Ck_isOut_17, r_Z]
    simp
  · have cv : ¬ v = 0 := fun q => c0 (by rw [v2, q]; rfl)
    by_cases cL : v = cl σ 6 0
    · have ho : out σ k i := ⟨c0, by rw [v2, c2, cL]⟩
      have o1 : (σ.1 6 0 < σ.1 k i) = False := eq_false (by rw [← ho.2]; exact fun z => Int32.lt_irrefl z)
      rw [if_pos ho]
      simp only [f_Ck_isOut, c0, if_false, x_gI, k2, if_true, rd_s2_0, o1, f_Ck_isOut_17, r_Z]
      simp
    · have hn : ¬ out σ k i := fun q => cL (by
        have := q.2
        rw [v2, c2] at this
        exact nI_inj (by omega) (by omega) this)
      have o1 : (σ.1 6 0 < σ.1 k i) = True := eq_true (by rw [v2, c2]; exact nI_lt (by omega) (by omega))
      rw [if_neg hn]
      simp only [f_Ck_isOut, c0, if_false, x_gI, k2, if_true, rd_s2_0, o1, f_Ck_isOut_16, f_Ck_isOut_17, r_Z]
      simp
def Sn (kk : Nat → Nat) (g : sn_G) (f : sn_M) (σ η : sn_FS) (Q : sn_FS → Prop) : Prop := ∃ τ θ, g σ = some (none, τ) ∧ f (Kap kk σ η) = some (none, Kap kk τ θ) ∧ Inv τ θ ∧ RI τ ∧ PE η θ ∧ TS σ τ ∧ FR0 σ τ ∧ Q τ
theorem S_takeOut_at {k : Nat} : (k = 20 → (S_takeOut e σ).1 k e = 0) ∧ (k = 11 → (S_takeOut e σ).1 k e = σ.1 6 0 + 12) := by
  constructor
  · rintro rfl
    unfold S_takeOut
    split
    · rw [S_ff_I (by decide), sI_ne (by decide)]; unfold S_out; simp only [sn_upE, Nat.reduceEqDiff, reduceIte]
    · unfold S_out; simp only [sn_upE, Nat.reduceEqDiff, reduceIte]
  · rintro rfl
    unfold S_takeOut
    split
    · rw [S_ff_I (by decide), sI_ne (by decide)]; unfold S_out; simp only [sn_upE, Nat.reduceEqDiff, reduceIte]
    · unfold S_out; simp only [sn_upE, Nat.reduceEqDiff, reduceIte]
/-- both let an end fail -/
theorem sn_fail (hK : KOk kk σ) (hI : Inv σ η) (hR : ∀ i, i < 20 → i ≠ e → Rr1 σ i) (he : e < 2 * nl σ) (h0 : ¬ σ.1 10 e = 0) : Sn kk (g_Md_fail (nI e) 0) (f_Tr_fail 11 (some (aE e))) σ η (fun τ => τ.1 10 e = 0 ∧ τ.1 20 e = 0 ∧ τ.1 11 e = σ.1 6 0 + 12) := by
  obtain ⟨hH, hw, hL, hD, hC⟩ := id hI
  have hn10 := hw.1.2.1
  have he20 : e < 20 := by omega
  have h37 := hw.lt e he20
  have hfl := gl_fail hw.gv hw.told he h37.1 h37.2 false
  have hfl : g_Md_fail (nI e) 0 σ = some (none, S_fail e false σ) := hfl
  obtain ⟨w1, w2, w3, w4, w5, w6⟩ := fail_pack hw hL hD hC he h0 false
  obtain ⟨ζ, y1, y2, y3⟩ := fl_fail hK hH hw.gv hw.told hw.cur hw.lt he (fun _ => hL _ (hw.1.ex_lt he).1)
  have hq := QC_fail hw hC he h0 false
  have h10 : (S_fail e false σ).1 10 e = 0 := by rw [hq.at (by decide), S_takeOut_10, if_pos rfl]
  refine ⟨S_fail e false σ, ζ, hfl, y1, ⟨y2, w1, w2, w3, w4⟩, fun i hi => ?_, y3, w5, w6.1, h10, by rw [hq.at (by decide)]; exact S_takeOut_at.1 rfl, by rw [hq.at (by decide)]; exact S_takeOut_at.2 rfl⟩
  by_cases c : i = e
  · subst c
    exact ⟨by rw [h10]; intro z; exact absurd z (by decide), by rw [h10]; intro z; exact absurd z (by decide)⟩
  · obtain ⟨b1, b2, b3⟩ := w6.2 i
    obtain ⟨c1, c2⟩ := hR i hi c
    rcases b3 with q | q
    · exact ⟨by rw [q, b1]; exact c1, by rw [q, b2]; exact c2⟩
    · exact ⟨by rw [q]; intro z; exact absurd z (by decide), by rw [q]; intro z; exact absurd z (by decide)⟩
theorem Sn.bind {g g' : sn_G} {f f' : sn_M} {τ θ : sn_FS} {Q : sn_FS → Prop} (hg : ∀ ω, g' τ = some (none, ω) → g σ = some (none, ω)) (hf : ∀ κ, f' (Kap kk τ θ) = some (none, κ) → f (Kap kk σ η) = some (none, κ)) (hE : PE η θ) (hT : TS σ τ) (hF : FR0 σ τ) (h : Sn kk g' f' τ θ Q) : Sn kk g f σ η Q := by
  obtain ⟨ω, ζ, a1, a2, a3, a4, a5, a6, a7, a8⟩ := h
  exact ⟨ω, ζ, hg ω a1, hf _ a2, a3, a4, hE.tr a5, hT.tr a6, hF.tr a7, a8⟩
theorem Sn.imp {g : sn_G} {f : sn_M} {Q Q' : sn_FS → Prop} (h : Sn kk g f σ η Q) (hQ : ∀ τ, TS σ τ → Q τ → Q' τ) : Sn kk g f σ η Q' := by
  obtain ⟨ω, ζ, a1, a2, a3, a4, a5, a6, a7, a8⟩ := h
  exact ⟨ω, ζ, a1, a2, a3, a4, a5, a6, a7, hQ ω a6 a8⟩
/-- the timer of what is not acknowledged -/
theorem sn_101 (hK : KOk kk σ) (hI : Inv σ η) (hR : RI σ) (he : e < 2 * nl σ) (h11 : Tm 1 σ 11 e) (h20 : Tm 0 σ 20 e) : Sn kk (g_Md_timer_101 (nI e)) (f_Tr_runEndTimers_74 11 (some (aE e))) σ η (fun τ => Tm 1 τ 11 e ∧ Tm 1 τ 20 e) := by
  obtain ⟨⟨k1, k2, k3, k4, k5, k6, k7, k8, k9, k10, k11, k12, k13, k14, k15, k16, k17, k18, k19, k20, k21, k22⟩, kE, kF, kP, k4s⟩ := id hK
  obtain ⟨e1, e2, e3, e4, e5, e6, e7⟩ := kE e he
  obtain ⟨hH, hw, hL, hD, hC⟩ := id hI
  have hn10 := hw.1.2.1
  have he20 : e < 20 := by omega
  have d20 : e < md_len 20 := he20
  have hdec : Decidable (out σ 20 e) := Classical.propDecidable _
  have hio := fl_isOut (η := η) k2 hC h20 (d := hdec)
  have hcl : f_Tr_runEndTimers_74 11 (some (aE e)) (Kap kk σ η) = (if (if out σ 20 e then (1 : Int32) else 0) = 0 then f_Tr_runEndTimers_96 11 else n_n 8 (some 11) fun a6 => c_V (f_Tr_fail a6 (some (aE e))) (f_Tr_runEndTimers_96 11)) (Kap kk σ η) := by
    simp only [f_Tr_runEndTimers_74, x_gR, k11, if_true, rr_s11_1, e1, rr_E4, x_gI, e3, rd_W6, x_nn, k2, x_cI hio]
  by_cases c : out σ 20 e
  · have h5 : ¬ σ.1 10 e = 0 := fun q => by
      have := ((hw.e1 he20).2.2.2.2.2.1 (by rw [q]; decide)).2.1
      exact c.1 this
    rw [if_pos c, if_neg (by decide)] at hcl
    have hle : ¬ σ.1 20 e ≤ 0 := fun q => c.1 (h20.le.mp q)
    refine (Sn.bind (fun ω h => ?_) (fun κ h => ?_) PE.rf TS.rf FR0.rf (sn_fail hK hI (fun i hi _ => hR i hi) he h5)).imp (fun τ hT q => ⟨h11.ts hT hC (by decide) (by omega), Tm.z q.2.1⟩)
    · unfold g_Md_timer_101
      rw [q_I_at d20, if_neg hle, q_I_at d20]
      show (if ¬ σ.1 20 e = σ.1 6 0 then g_Md_timer_129 else y_V (g_Md_fail (nI e) (0 : Int32)) g_Md_timer_129) σ = _
      rw [if_neg (fun z => z c.2), y_V_at h]; rfl
    · rw [hcl]
      simp only [x_nn, k11, if_true, x_cV h, f_Tr_runEndTimers_96, r_V]
  · rw [if_neg c, if_pos rfl] at hcl
    refine ⟨σ, η, ?_, by rw [hcl]; rfl, hI, hR, PE.rf, TS.rf, FR0.rf, h11, h20.st hC c⟩
    unfold g_Md_timer_101
    rw [q_I_at d20]
    by_cases c0 : σ.1 20 e = 0
    · rw [if_pos (h20.le.mpr c0)]; rfl
    · rw [if_neg (fun q => c0 (h20.le.mp q)), q_I_at d20]
      show (if ¬ σ.1 20 e = σ.1 6 0 then g_Md_timer_129 else y_V (g_Md_fail (nI e) (0 : Int32)) g_Md_timer_129) σ = _
      rw [if_pos (fun z => c ⟨c0, z⟩)]; rfl
/-- a timer that ran out is taken away -/
theorem inv_11 (hI : Inv σ η) (h40 : σ.1 40 e = 0) {v : Int32} : Inv (sI σ 11 e v) η := by
  obtain ⟨hH, hw, hL, hD, hC⟩ := hI
  refine ⟨hH.mI (by decide), hw.mI (by decide), hL.mI (by decide), hD.mk' (fun i _ => ?_), hC.at (sI_ne (by decide))⟩
  by_cases c : i = e
  · left; rw [c, sI_ne (by decide)]; exact h40
  · right; exact ⟨sI_ne (by decide), sI_nk c⟩
/-- an end becomes ready -/
def S_rdy (e : Nat) (σ : sn_FS) : sn_FS := sI (sI (sI (sI (sI (sI (sI (sI (sI σ 10 e 4) 11 e (σ.1 6 0 + 15)) 12 e 127) 13 e 127) 14 e 1) 15 e 1) 16 e 0) 19 e 0) 21 e (-1)
theorem S_rdy_I {k i : Nat} (h : k ∉ [10, 11, 12, 13, 14, 15, 16, 19, 21] ∨ i ≠ e) : (S_rdy e σ).1 k i = σ.1 k i := by
  unfold S_rdy
  rcases h with h | h
  · simp only [List.mem_cons, List.not_mem_nil, or_false, not_or] at h
    rw [sI_ne (by omega), sI_ne (by omega), sI_ne (by omega), sI_ne (by omega), sI_ne (by omega), sI_ne (by omega), sI_ne (by omega), sI_ne (by omega), sI_ne (by omega)]
  · rw [sI_nk h, sI_nk h, sI_nk h, sI_nk h, sI_nk h, sI_nk h, sI_nk h, sI_nk h, sI_nk h]
theorem gl_rdy (he : e < 20) : (w_I 10 (nI e) (4 : Int32) (q_S 6 fun v11 => w_I 11 (nI e) (v11 + (15 : Int32)) (y_V (g_Md_fresh (nI e)) (g_Md_timer_101 (nI e))))) σ = g_Md_timer_101 (nI e) (S_rdy e σ) := by
  have d10 : e < md_len 10 := he
  have d11 : e < md_len 11 := he
  have d12 : e < md_len 12 := he
  have d13 : e < md_len 13 := he
  have d14 : e < md_len 14 := he
  have d15 : e < md_len 15 := he
  have d16 : e < md_len 16 := he
  have d19 : e < md_len 19 := he
  have d21 : e < md_len 21 := he
  have hfr : g_Md_fresh (nI e) (sI (sI σ 10 e 4) 11 e (σ.1 6 0 + 15)) = some (none, S_rdy e σ) := by
    simp only [g_Md_fresh, w_I_at d12, w_I_at d13, w_I_at d14, w_I_at d15, w_I_at d16, w_I_at d19, w_I_at d21, z_V, S_rdy]
  simp only [w_I_at d10, q_S, w_I_at d11, sn_upE, Nat.reduceEqDiff, reduceIte, y_V_at hfr]
theorem fl_rdy (hK : KOk kk σ) (he : e < 2 * nl σ) (h20 : σ.1 20 e = 0) : f_En_becomeReady (aE e) (Kap kk σ η) = some (none, Kap kk (S_rdy e σ) η) := by
  obtain ⟨⟨k1, k2, k3, k4, k5, k6, k7, k8, k9, k10, k11, k12, k13, k14, k15, k16, k17, k18, k19, k20, k21, k22⟩, kE, kF, kP, k4s⟩ := id hK
  obtain ⟨e1, e2, e3, e4, e5, e6, e7⟩ := kE e he
  have hrs : f_Wi_reset (aW e) (Kap kk (sI (sI σ 10 e 4) 11 e (σ.1 6 0 + 15)) η) = some (none, Kap kk (sI (sI (sI (sI (sI (sI (sI σ 10 e 4) 11 e (σ.1 6 0 + 15)) 12 e 127) 13 e 127) 14 e 1) 15 e 1) 21 e (-1)) η) := by
    have hst := fl_stop (kk := kk) (η := η) (σ := sI (sI (sI (sI (sI (sI σ 10 e 4) 11 e (σ.1 6 0 + 15)) 12 e 127) 13 e 127) 14 e 1) 15 e 1) e3
    rw [sI_id (k := 20) (by rw [sI_ne (by decide), sI_ne (by decide), sI_ne (by decide), sI_ne (by decide), sI_ne (by decide), sI_ne (by decide)]; exact h20)] at hst
    simp only [f_Wi_reset, x_pI, e3, if_true, wr_W1, wr_W2, wr_W3, wr_W4, x_nn, x_cV hst, r_V]
  have hc0 : (0 : Int32) = ccd 0 := by decide
  have hw18 : ∀ τ : sn_FS, u_I (Kap kk τ η) (aE e) 18 0 = Kap kk (sI τ 19 e 0) η := fun τ => by
    have := wr_E18 (kk := kk) (σ := τ) (η := η) e 0
    rw [← hc0] at this
    exact this
  simp only [f_En_becomeReady, x_nn, e1, if_true, x_cV (fl_enter k2 e1), x_gR, rr_E4, e3, x_cV hrs, x_pI, wr_E17, hw18, r_V]
  unfold S_rdy
  rw [sI_sw (k := 21) (k' := 16) (by decide), sI_sw (k := 21) (k' := 19) (by decide)]
theorem inv_rdy (hI : Inv σ η) (he : e < 2 * nl σ) (h3 : σ.1 10 e = 3) : Inv (S_rdy e σ) η ∧ TS σ (S_rdy e σ) ∧ FR0 σ (S_rdy e σ) ∧ Rr1 (S_rdy e σ) e := by
  obtain ⟨hH, hw, hL, hD, hC⟩ := hI
  have hn10 := hw.1.2.1
  have he20 : e < 20 := by omega
  obtain ⟨a1, a2, a3, a4, a5, a6, a7, a8, a9, a10, a11, a12, a13, a14⟩ := hw.e1 he20
  have g := fun k (hk : k ∉ [10, 11, 12, 13, 14, 15, 16, 19, 21]) => S_rdy_I (σ := σ) (e := e) (k := k) (i := e) (Or.inl hk)
  have gi := fun k i (hi : i ≠ e) => S_rdy_I (σ := σ) (e := e) (k := k) (i := i) (Or.inr hi)
  have gk := fun k i (hk : k ∉ [10, 11, 12, 13, 14, 15, 16, 19, 21]) => S_rdy_I (σ := σ) (e := e) (k := k) (i := i) (Or.inl hk)
  have t10 : (S_rdy e σ).1 10 e = 4 := by unfold S_rdy; simp only [sn_upE, Nat.reduceEqDiff, reduceIte]
  have t11 : (S_rdy e σ).1 11 e = σ.1 6 0 + 15 := by unfold S_rdy; simp only [sn_upE, Nat.reduceEqDiff, reduceIte]
  have t12 : (S_rdy e σ).1 12 e = 127 := by unfold S_rdy; simp only [sn_upE, Nat.reduceEqDiff, reduceIte]
  have t13 : (S_rdy e σ).1 13 e = 127 := by unfold S_rdy; simp only [sn_upE, Nat.reduceEqDiff, reduceIte]
  have t16 : (S_rdy e σ).1 16 e = 0 := by unfold S_rdy; simp only [sn_upE, Nat.reduceEqDiff, reduceIte]
  have t21 : (S_rdy e σ).1 21 e = -1 := by unfold S_rdy; simp only [sn_upE, Nat.reduceEqDiff, reduceIte]
  have h5 : ¬ σ.1 10 e = 5 := by rw [h3]; decide
  have h40 : σ.1 40 e = 0 := by
    by_cases z : σ.1 40 e = 0
    · exact z
    · have := a7 z; rw [h3] at this; exact absurd this (by decide)
  obtain ⟨b1, b2, b3⟩ := a6 h5
  obtain ⟨b4, b5⟩ := b3 h40
  have hsp : SP σ (S_rdy e σ) := ⟨fun i => gk 0 i (by decide), fun i => gk 1 i (by decide), fun i => gk 4 i (by decide)⟩
  have hts : TS σ (S_rdy e σ) := by
    refine ⟨gk 6 0 (by decide), fun k i hk => ?_⟩
    by_cases c : k = 11 ∧ i = e
    · obtain ⟨rfl, rfl⟩ := c
      exact Or.inr (Or.inr ⟨15, by omega, by omega, t11⟩)
    · left
      by_cases ci : i = e
      · refine gk k i ?_
        have h1 := tm_of hk
        have h2 : k ≠ 11 := fun q => c ⟨q, ci⟩
        simp only [List.mem_cons, List.not_mem_nil, or_false, not_or]; omega
      · exact gi k i ci
  have hwr : WI (S_rdy e σ) := by
    refine hw.mkE he20 (fun k i hk => gk k i (by simp only [List.mem_cons, List.not_mem_nil, or_false, not_or]; omega)) (fun k i hi _ => gi k i hi) (fun e' i _ _ => gk 26 _ (by decide)) ?_ (by rw [g 29 (by decide)]; exact hw.2.1 e he20) (fun q => absurd q h5)
    refine ⟨⟨4, by omega, t10⟩, ⟨127, by omega, t12⟩, ⟨127, by omega, t13⟩, by rw [g 37 (by decide)]; exact a4, ⟨0, by omega, by rw [g 27 (by decide)]; exact b4, Or.inl t21, fun i hi => by omega⟩, fun _ => ⟨t21, by rw [g 20 (by decide)]; exact b2, fun _ => ⟨by rw [g 27 (by decide)]; exact b4, by rw [g 29 (by decide)]; exact b5⟩⟩, fun q => absurd h40 (by rw [← g 40 (by decide)]; exact q), fun _ => ⟨0, by omega, t16⟩, fun q => by rw [t10] at q; exact absurd q (by decide), by rw [g 22 (by decide)]; exact a10, by rw [g 30 (by decide)]; exact a11, by rw [g 31 (by decide)]; exact a12, by rw [g 33 (by decide)]; exact a13, by rw [g 24 (by decide)]; exact a14⟩
  refine ⟨⟨hH.mk' hsp (fun k i hk => gk k i (by simp only [List.mem_cons, List.not_mem_nil, or_false, not_or]; omega)) (fun i q => ?_) rfl, hwr, hL.mk' hsp (fun k i hk => gk k i (by simp only [List.mem_cons, List.not_mem_nil, or_false, not_or]; omega)), hD.mk' (fun i _ => ?_), hC.at hts.1⟩, hts, ⟨fun k i hk => gk k i (by simp only [List.mem_cons, List.not_mem_nil, or_false, not_or]; omega), fun k i _ hi => gi k i (by omega), fun x n s _ _ _ => gk 45 _ (by decide)⟩, fun _ => ⟨0, by omega, t16⟩, fun q => by rw [t10] at q; exact absurd q (by decide)⟩
  · by_cases c : i = e
    · rw [c, t10] at q; exact absurd q (by decide)
    · rw [gi 10 i c] at q; exact q
  · by_cases c : i = e
    · left; rw [c, g 40 (by decide)]; exact h40
    · right; exact ⟨gi 40 i c, gi 11 i c⟩
/-- the timers of an end -/
theorem sn_timer (hK : KOk kk σ) (hI : Inv σ η) (hR : RI σ) (he : e < 2 * nl σ) (h11 : Tm 0 σ 11 e) (h20 : Tm 0 σ 20 e) (h40 : Tm 0 σ 40 e) : Sn kk (g_Md_timer (nI e)) (f_Tr_runEndTimers 11 (some (aE e))) σ η (fun τ => Tm 1 τ 11 e ∧ Tm 1 τ 20 e) := by
  obtain ⟨⟨k1, k2, k3, k4, k5, k6, k7, k8, k9, k10, k11, k12, k13, k14, k15, k16, k17, k18, k19, k20, k21, k22⟩, kE, kF, kP, k4s⟩ := id hK
  obtain ⟨e1, e2, e3, e4, e5, e6, e7⟩ := kE e he
  obtain ⟨hH, hw, hL, hD, hC⟩ := id hI
  have hP := hw.1
  have hn10 := hP.2.1
  have he20 : e < 20 := by omega
  have d11 : e < md_len 11 := he20
  have d10 : e < md_len 10 := he20
  have d2 : e / 2 < md_len 2 := by show _ < 10; omega
  obtain ⟨c1, c2⟩ := hC.cl
  have hdec : Decidable (out σ 11 e) := Classical.propDecidable _
  have hio := fl_isOut (η := η) k2 hC h11 (d := hdec)
  have q1 : (some (aE e) = none) = False := by simp
  by_cases c : out σ 11 e
  · have hle : ¬ σ.1 11 e ≤ 0 := fun q => c.1 (h11.le.mp q)
    rw [if_pos c] at hio
    have z10 : ((1 : Int32) = 0) = False := eq_false (by decide)
    -- a changeover can't be under way
    have h400 : σ.1 40 e = 0 := by
      by_cases z : σ.1 40 e = 0
      · exact z
      · exfalso
        obtain ⟨v, v1, v2, v3⟩ := h40
        have hd := hD e he20 z
        rw [c.2, c2, v2] at hd
        have hd : nI (cl σ 6 0) = nI (v + 2) := by rw [hd, ← nI_add]; rfl
        have := nI_inj (by omega) (by omega) hd
        have vz : ¬ v = 0 := fun q => z (by rw [v2, q]; rfl)
        omega
    have hI1 : Inv (sI σ 11 e 0) η := inv_11 hI h400
    have hs1 : SP σ (sI σ 11 e 0) := SP.sI (by decide)
    have hK1 := hK.sp hs1
    have he1 : e < 2 * nl (sI σ 11 e 0) := by rw [hs1.nlE]; exact he
    have hR1 : RI (sI σ 11 e 0) := fun i hi => ⟨by rw [sI_ne (by decide), sI_ne (by decide)]; exact (hR i hi).1, by rw [sI_ne (by decide), sI_ne (by decide)]; exact (hR i hi).2⟩
    have hT1 : TS σ (sI σ 11 e 0) := by
      refine ⟨sI_ne (by decide), fun k i hk => ?_⟩
      by_cases ck : k = 11
      · subst ck
        by_cases ci : i = e
        · right; left; rw [ci]; simp only [sn_upE, Nat.reduceEqDiff, reduceIte]
        · left; exact sI_nk ci
      · left; exact sI_ne ck
    have hF1 : FR0 σ (sI σ 11 e 0) := ⟨fun k i hk => sI_ne (by omega), fun k i hk hi => sI_nk (by omega), fun x n s _ _ _ => sI_ne (by decide)⟩
    have hC1 : ClOk (sI σ 11 e 0) := hC.at (sI_ne (by decide))
    have t20 : Tm 0 (sI σ 11 e 0) 20 e := h20.ts hT1 hC (by decide) (by omega)
    have t10 : (sI σ 11 e 0).1 10 e = σ.1 10 e := sI_ne (by decide)
    have hg : ∀ ω, (q_I 10 (nI e) fun v8 => (if ¬ v8 = 0 then q_I 10 (nI e) fun v9 => (if ¬ v9 = (3 : Int32) then y_V (g_Md_fail (nI e) (0 : Int32)) (g_Md_timer_101 (nI e)) else w_I 10 (nI e) (4 : Int32) (q_S 6 fun v11 => w_I 11 (nI e) (v11 + (15 : Int32)) (y_V (g_Md_fresh (nI e)) (g_Md_timer_101 (nI e))))) else q_I 2 ((nI e) >>> ((1 : Int32) &&& 31)) fun v13 => (if v13 = 0 then g_Md_timer_101 (nI e) else y_V (g_Md_start (nI e)) (g_Md_timer_101 (nI e))))) (sI σ 11 e 0) = some (none, ω) → g_Md_timer (nI e) σ = some (none, ω) := fun ω h => by
      unfold g_Md_timer
      rw [q_I_at d11, if_neg hle, q_I_at d11]
      show (if ¬ σ.1 11 e = σ.1 6 0 then g_Md_timer_101 (nI e) else w_I 11 (nI e) (0 : Int32) _) σ = _
      rw [if_neg (fun z => z c.2), w_I_at d11]; exact h
    have hf : ∀ κ, (g_I 2 7 (some (aE e)) fun v12 => (if ¬ v12 = (3 : Int32) then g_I 2 7 (some (aE e)) fun v13 => (if v13 = 0 then g_R 8 0 (some 11) fun v14 => g_R 5 3 v14 fun v15 => g_I 2 1 (some (aE e)) fun v16 => a_I 23 v15 v16 fun v17 => (if v17 = 0 then f_Tr_runEndTimers_74 11 (some (aE e)) else n_n 8 (some 11) fun a18 => c_V (f_Tr_start a18 (some (aE e))) (f_Tr_runEndTimers_74 11 (some (aE e)))) else n_n 8 (some 11) fun a20 => c_V (f_Tr_fail a20 (some (aE e))) (f_Tr_runEndTimers_74 11 (some (aE e)))) else n_n 2 (some (aE e)) fun a22 => c_V (f_En_becomeReady a22) (f_Tr_runEndTimers_74 11 (some (aE e))))) (Kap kk (sI σ 11 e 0) η) = some (none, κ) → f_Tr_runEndTimers 11 (some (aE e)) (Kap kk σ η) = some (none, κ) := fun κ h => by
      rw [← h]
      conv => lhs; simp only [f_Tr_runEndTimers, q1, not_false_eq_true, if_true, x_gR, k11, rr_s11_1, x_gI, e1, rd_E8, x_nn, k2, x_cI hio, z10, if_false, x_pI, wr_E8]
      rw [x_gI, if_pos e1]
    by_cases c0 : σ.1 10 e = 0
    · -- it starts again, while the link is active
      have c0' : (sI σ 11 e 0).1 10 e = 0 := by rw [t10]; exact c0
      have hp6 : e / 2 < kL 6 := by show _ < 10; omega
      have e02 : (sI σ 11 e 0).1 2 (e / 2) = σ.1 2 (e / 2) := sI_ne (by decide)
      have z03 : ((0 : Int32) = 3) = False := eq_false (by decide)
      by_cases ca : σ.1 2 (e / 2) = 0
      · refine Sn.bind (fun ω h => hg ω ?_) (fun κ h => hf κ ?_) PE.rf hT1 hF1 (sn_101 hK1 hI1 hR1 he1 (Tm.z (by simp only [sn_upE, Nat.reduceEqDiff, reduceIte])) t20)
        · rw [q_I_at d10, c0', if_neg (fun z => z rfl), nI_half (by omega), q_I_at d2, e02, if_pos ca]; exact h
        · simp only [x_gI, e1, if_true, rd_E7, sn_upE, Nat.reduceEqDiff, reduceIte, c0, z03, not_false_eq_true, x_gR, k11, rr_s11_0, k3, rr_s3_3, rd_E1, x_aI hp6 (show kL 6 ≤ 1000 by decide), k6, rd_a6, ca]; exact h
      · have h5 : ¬ (sI σ 11 e 0).1 10 e = 5 := by rw [c0']; decide
        obtain ⟨hH1, hw1, hL1, hD1, -⟩ := id hI1
        obtain ⟨θ, y1, y2, y3⟩ := fl_start hK1 hH1 hw1.1 hw1.lt he1 h5
        have hgs := gl_start hw1.1 he1
        have s40 : (sI σ 11 e 0).1 40 e = 0 := by rw [sI_ne (by decide)]; exact h400
        have gS : ∀ k i, (k ≠ 10 ∧ k ≠ 11 ∧ k ≠ 37 ∧ k ≠ 23) ∨ i ≠ e → (S_start e (sI σ 11 e 0)).1 k i = (sI σ 11 e 0).1 k i := fun k i hk => by
          unfold S_start
          rcases hk with q | q
          · rw [sI_ne q.2.2.2, sI_ne q.2.2.1, sI_ne q.2.1, sI_ne q.1]
          · rw [sI_nk q, sI_nk q, sI_nk q, sI_nk q]
        have sS10 : (S_start e (sI σ 11 e 0)).1 10 e = 1 := by unfold S_start; simp only [sn_upE, Nat.reduceEqDiff, reduceIte]
        have sS11 : (S_start e (sI σ 11 e 0)).1 11 e = σ.1 6 0 + 30 := by unfold S_start; simp only [sn_upE, Nat.reduceEqDiff, reduceIte]
        have hT2 : TS (sI σ 11 e 0) (S_start e (sI σ 11 e 0)) := by
          refine ⟨gS 6 0 (Or.inl (by decide)), fun k i hk => ?_⟩
          by_cases ck : k = 11 ∧ i = e
          · obtain ⟨rfl, rfl⟩ := ck
            exact Or.inr (Or.inr ⟨30, by omega, by omega, by rw [sS11, sI_ne (by decide)]; rfl⟩)
          · left
            refine gS k i ?_
            by_cases ci : i = e
            · left
              have := tm_of hk
              have : k ≠ 11 := fun q => ck ⟨q, ci⟩
              omega
            · exact Or.inr ci
        have hF2 : FR0 (sI σ 11 e 0) (S_start e (sI σ 11 e 0)) := ⟨fun k i hk => gS k i (Or.inl (by omega)), fun k i hk hi => gS k i (Or.inr (by omega)), fun x n s _ _ _ => gS 45 _ (Or.inl (by decide))⟩
        have hI2 : Inv (S_start e (sI σ 11 e 0)) θ := ⟨y2, WI_start hw1 he1 c0' s40, LkA_start hL1, hD1.mk' (fun i _ => by
          by_cases ci : i = e
          · left; rw [ci, gS 40 e (Or.inl (by decide))]; exact s40
          · right; exact ⟨gS 40 i (Or.inr ci), gS 11 i (Or.inr ci)⟩), hC1.at hT2.1⟩
        have hR2 : RI (S_start e (sI σ 11 e 0)) := fun i hi => by
          by_cases ci : i = e
          · exact ⟨fun q => by rw [ci, sS10] at q; exact absurd q (by decide), fun q => by rw [ci, sS10] at q; exact absurd q (by decide)⟩
          · exact ⟨by rw [gS 10 i (Or.inr ci), gS 16 i (Or.inr ci)]; exact (hR1 i hi).1, by rw [gS 10 i (Or.inr ci), gS 17 i (Or.inr ci)]; exact (hR1 i hi).2⟩
        have t11 : Tm 1 (S_start e (sI σ 11 e 0)) 11 e := by
          refine ⟨cl σ 6 0 + 30, by omega, by rw [sS11, c2]; exact nI_add _ 30, Or.inr ?_⟩
          have : cl (S_start e (sI σ 11 e 0)) 6 0 = cl σ 6 0 := by unfold cl; rw [gS 6 0 (Or.inl (by decide)), sI_ne (by decide)]
          omega
        refine Sn.bind (fun ω h => hg ω ?_) (fun κ h => hf κ ?_) y3 (hT1.tr hT2) (hF1.tr hF2) (sn_101 (hK1.sp hF2.sp) hI2 hR2 (by rw [hF2.sp.nlE]; exact he1) t11 (t20.ts hT2 hC1 (by decide) (by omega)))
        · rw [q_I_at d10, c0', if_neg (fun z => z rfl), nI_half (by omega), q_I_at d2, e02, if_neg ca, y_V_at hgs]; exact h
        · simp only [x_gI, e1, if_true, rd_E7, sn_upE, Nat.reduceEqDiff, reduceIte, c0, z03, not_false_eq_true, x_gR, k11, rr_s11_0, k3, rr_s3_3, rd_E1, x_aI hp6 (show kL 6 ≤ 1000 by decide), k6, rd_a6, ca, if_false, x_nn, x_cV y1]; exact h
    · have c0' : ¬ (sI σ 11 e 0).1 10 e = 0 := by rw [t10]; exact c0
      by_cases c3 : σ.1 10 e = 3
      · have c3' : (sI σ 11 e 0).1 10 e = 3 := by rw [t10]; exact c3
        have r20 : (sI σ 11 e 0).1 20 e = 0 := by
          rw [sI_ne (by decide)]
          exact ((hw.e1 he20).2.2.2.2.2.1 (by rw [c3]; decide)).2.1
        obtain ⟨i1, i2, i3, i4⟩ := inv_rdy hI1 he1 c3'
        have hfl := fl_rdy (η := η) hK1 he1 r20
        have hR2 : RI (S_rdy e (sI σ 11 e 0)) := fun i hi => by
          by_cases ci : i = e
          · rw [ci]; exact i4
          · exact ⟨by rw [S_rdy_I (Or.inr ci), S_rdy_I (Or.inr ci)]; exact (hR1 i hi).1, by rw [S_rdy_I (Or.inr ci), S_rdy_I (Or.inr ci)]; exact (hR1 i hi).2⟩
        have t11 : Tm 1 (S_rdy e (sI σ 11 e 0)) 11 e := by
          refine ⟨cl σ 6 0 + 15, by omega, ?_, Or.inr ?_⟩
          · have : (S_rdy e (sI σ 11 e 0)).1 11 e = σ.1 6 0 + 15 := by unfold S_rdy; simp only [sn_upE, Nat.reduceEqDiff, reduceIte]
            rw [this, c2]; exact nI_add _ 15
          · have : cl (S_rdy e (sI σ 11 e 0)) 6 0 = cl σ 6 0 := by unfold cl; rw [S_rdy_I (Or.inl (by decide)), sI_ne (by decide)]
            omega
        refine Sn.bind (fun ω h => hg ω ?_) (fun κ h => hf κ ?_) PE.rf (hT1.tr i2) (hF1.tr i3) (sn_101 (hK1.sp i3.sp) i1 hR2 (by rw [i3.sp.nlE]; exact he1) t11 (t20.ts i2 hC1 (by decide) (by omega)))
        · rw [q_I_at d10, if_pos c0', q_I_at d10, if_neg (fun z => z c3'), gl_rdy he20]; exact h
        · simp only [x_gI, e1, if_true, rd_E7, sn_upE, Nat.reduceEqDiff, reduceIte, c3, not_true_eq_false, if_false, x_nn, x_cV hfl]; exact h
      · have c3' : ¬ (sI σ 11 e 0).1 10 e = 3 := by rw [t10]; exact c3
        obtain ⟨τ, θ, b1, b2, b3, b4, b5, b6, b7, b8, b9, b10⟩ := sn_fail hK1 hI1 (fun i hi _ => hR1 i hi) he1 c0'
        have t11 : Tm 1 τ 11 e := by
          have h6 : τ.1 6 0 = σ.1 6 0 := (hT1.tr b6).1
          refine ⟨cl σ 6 0 + 12, by omega, by rw [b10, sI_ne (by decide), c2]; exact nI_add _ 12, Or.inr ?_⟩
          have : cl τ 6 0 = cl σ 6 0 := by unfold cl; rw [h6]
          omega
        refine Sn.bind (fun ω h => hg ω ?_) (fun κ h => hf κ ?_) b5 (hT1.tr b6) (hF1.tr b7) (sn_101 (hK1.sp b7.sp) b3 b4 (by rw [b7.sp.nlE]; exact he1) t11 (Tm.z b9))
        · rw [q_I_at d10, if_pos c0', q_I_at d10, if_pos c3', y_V_at b1]; exact h
        · simp only [x_gI, e1, if_true, rd_E7, sn_upE, Nat.reduceEqDiff, reduceIte, c3, not_false_eq_true, c0, if_false, x_nn, k11, x_cV b2]; exact h
  · rw [if_neg c] at hio
    refine Sn.bind (fun ω h => ?_) (fun κ h => ?_) PE.rf TS.rf FR0.rf (sn_101 hK hI hR he (h11.st hC c) h20)
    · unfold g_Md_timer
      rw [q_I_at d11]
      by_cases c0 : σ.1 11 e = 0
      · rw [if_pos (h11.le.mpr c0)]; exact h
      · rw [if_neg (fun q => c0 (h11.le.mp q)), q_I_at d11]
        show (if ¬ σ.1 11 e = σ.1 6 0 then g_Md_timer_101 (nI e) else w_I 11 (nI e) (0 : Int32) _) σ = _
        rw [if_pos (fun z => c ⟨c0, z⟩)]; exact h
    · rw [← h]
      conv => lhs; simp only [f_Tr_runEndTimers, q1, not_false_eq_true, if_true, x_gR, k11, rr_s11_1, x_gI, e1, rd_E8, x_nn, k2, x_cI hio]
