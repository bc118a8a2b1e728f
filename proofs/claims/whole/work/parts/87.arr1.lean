/-! LAYER 2: an end hears a unit, state by state -/
def HrOk (kk : Nat → Nat) (g : sn_G) (f : sn_M) (e : Nat) (u4 : Prop) (σ η : sn_FS) : Prop := ∃ τ θ, (Inv τ θ ∧ PE η θ ∧ TS σ τ ∧ FR0 σ τ) ∧ Hf e σ τ ∧ ((Rr1 τ e ∧ f (Kap kk σ η) = some (some (.int 0), Kap kk τ θ) ∧ g σ = some (none, τ)) ∨ (f (Kap kk σ η) = some (some (.int 1), Kap kk τ θ) ∧ ¬ τ.1 10 e = 0 ∧ ∀ ω, g_Md_fail (nI e) 0 τ = some (none, ω) → g σ = some (none, ω)) ∨ (Rr1 τ e ∧ u4 ∧ f (Kap kk σ η) = some (some (.int 2), Kap kk τ θ) ∧ τ.1 10 e = 5 ∧ ∀ ω, y_V (g_Md_up (nI e)) (g_Md_serving_129 (nI e)) τ = some (none, ω) → g σ = some (none, ω)) ∨ (Rr1 τ e ∧ u4 ∧ f (Kap kk σ η) = some (some (.int 3), Kap kk τ θ) ∧ τ.1 10 e = 5 ∧ ∀ ω, g_Md_serving_129 (nI e) τ = some (none, ω) → g σ = some (none, ω)))
variable {kk : Nat → Nat} {σ η : sn_FS} {e : Nat} {u4 : Prop}
theorem HrOk.of0 {g : sn_G} {f : sn_M} {τ θ : sn_FS} (h : Inv τ θ ∧ PE η θ ∧ TS σ τ ∧ FR0 σ τ) (hf : Hf e σ τ) (hR : Rr1 τ e) (h1 : f (Kap kk σ η) = some (some (.int 0), Kap kk τ θ)) (h2 : g σ = some (none, τ)) : HrOk kk g f e u4 σ η := ⟨τ, θ, h, hf, Or.inl ⟨hR, h1, h2⟩⟩
theorem HrOk.id0 {g : sn_G} {f : sn_M} (h : Inv σ η) (hR : Rr1 σ e) (h1 : f (Kap kk σ η) = some (some (.int 0), Kap kk σ η)) (h2 : g σ = some (none, σ)) : HrOk kk g f e u4 σ η := HrOk.of0 ⟨h, PE.rf, TS.rf, FR0.rf⟩ Hf.rf hR h1 h2
theorem HrOk.of1 {g : sn_G} {f : sn_M} {τ θ : sn_FS} (h : Inv τ θ ∧ PE η θ ∧ TS σ τ ∧ FR0 σ τ) (hf : Hf e σ τ) (h1 : f (Kap kk σ η) = some (some (.int 1), Kap kk τ θ)) (h0 : ¬ τ.1 10 e = 0) (h2 : ∀ ω, g_Md_fail (nI e) 0 τ = some (none, ω) → g σ = some (none, ω)) : HrOk kk g f e u4 σ η := ⟨τ, θ, h, hf, Or.inr (Or.inl ⟨h1, h0, h2⟩)⟩
theorem HrOk.id1 {g : sn_G} {f : sn_M} (h : Inv σ η) (h1 : f (Kap kk σ η) = some (some (.int 1), Kap kk σ η)) (h0 : ¬ σ.1 10 e = 0) (h2 : ∀ ω, g_Md_fail (nI e) 0 σ = some (none, ω) → g σ = some (none, ω)) : HrOk kk g f e u4 σ η := HrOk.of1 ⟨h, PE.rf, TS.rf, FR0.rf⟩ Hf.rf h1 h0 h2
theorem Hf.tr {a b c : sn_FS} (h1 : Hf e a b) (h2 : Hf e b c) : Hf e a c := ⟨fun k i h => (h2.1 k i h).trans (h1.1 k i h), h2.2.trans h1.2⟩
theorem HrOk.bind {g g' : sn_G} {f f' : sn_M} {τ θ : sn_FS} (h : PE η θ ∧ TS σ τ ∧ FR0 σ τ) (hf : Hf e σ τ) (h1 : f (Kap kk σ η) = f' (Kap kk τ θ)) (h2 : g σ = g' τ) (H : HrOk kk g' f' e u4 τ θ) : HrOk kk g f e u4 σ η := by
  obtain ⟨ω, ζ, ⟨a1, a2, a3, a4⟩, a5, a6⟩ := H
  refine ⟨ω, ζ, ⟨a1, h.1.tr a2, h.2.1.tr a3, h.2.2.tr a4⟩, hf.tr a5, ?_⟩
  rw [h1, h2]; exact a6
theorem yV_z {f : sn_G} {τ : sn_FS} (h : f σ = some (none, τ)) : y_V f z_V σ = some (none, τ) := by rw [y_V_at h]; rfl
theorem fl_isProve (t : Int32) (κ : sn_Mem) : f_En_isProve t κ = some (some (.int (if t = 2 ∨ t = 3 then 1 else 0)), κ) := by
  by_cases c2 : t = 2
  · simp only [f_En_isProve, c2, if_true, f_En_isProve_10, f_En_isProve_15, r_Z, true_or]; try simp
  · by_cases c3 : t = 3
    · have o1 : ((3 : Int32) = 2) = False := eq_false (by decide)
      simp only [f_En_isProve, c3, o1, if_false, not_true_eq_false, f_En_isProve_10, f_En_isProve_15, r_Z, or_true, if_true]; try simp
    · simp only [f_En_isProve, c2, c3, if_false, not_false_eq_true, if_true, f_En_isProve_15, r_Z, or_self]; try simp
/-- what is heard: BAD, or the type of the unit -/
def hT (bad : Bool) (u : Nat) : Int32 := if bad then 6 else nI u
/-- aligned: a state that hears SEEK or PROVE -/
theorem hear_al (hI : Inv σ η) (he : e < 2 * nl σ) (h0 : ¬ σ.1 10 e = 0) (h5 : ¬ σ.1 10 e = 5) : Inv (sI (sI σ 10 e 2) 11 e (σ.1 6 0 + 15)) η ∧ PE η η ∧ TS σ (sI (sI σ 10 e 2) 11 e (σ.1 6 0 + 15)) ∧ FR0 σ (sI (sI σ 10 e 2) 11 e (σ.1 6 0 + 15)) := by
  have hn10 := hI.2.1.1.2.1
  have hE := hI.2.1.e1 (show e < 20 by omega)
  have t10 : (sI (sI σ 10 e 2) 11 e (σ.1 6 0 + 15)).1 10 e = 2 := by simp only [sn_upE, Nat.reduceEqDiff, reduceIte]
  refine hear_pack hI he ((Hf.rf.sI (by decide)).sI (by decide)) (Or.inl rfl) (fun q => ?_) (Or.inr ⟨h5, h0, 2, by omega, ?_⟩) (fun q => ?_) (fun q => ?_) ?_ ?_ (Or.inr ⟨h0, Or.inr ⟨15, by omega, by omega, ?_⟩⟩)
  · rw [t10] at q; exact absurd q (by decide)
  · rw [t10]; rfl
  · rw [t10] at q; exact absurd q (by decide)
  · rw [t10] at q; exact absurd q (by decide)
  · rw [sI_ne (by decide), sI_ne (by decide)]; exact hE.2.2.2.2.2.2.2.2.2.1
  · rw [sI_ne (by decide), sI_ne (by decide)]; exact hE.2.2.2.2.2.2.2.2.2.2.2.2.2
  · simp only [sn_upE, Nat.reduceEqDiff, reduceIte]; rfl
theorem Rr1_al {t : Int32} : Rr1 (sI (sI σ 10 e 2) 11 e t) e := by
  have t10 : (sI (sI σ 10 e 2) 11 e t).1 10 e = 2 := by simp only [sn_upE, Nat.reduceEqDiff, reduceIte]
  exact ⟨fun q => by rw [t10] at q; exact absurd q (by decide), fun q => by rw [t10] at q; exact absurd q (by decide)⟩
/-- it proves, in its round -/
def S_prv (e : Nat) (r b : Int32) (σ : sn_FS) : sn_FS := sI (sI (sI (sI (sI σ 10 e 3) 11 e (σ.1 6 0 + (if b = 0 then 8 else 3))) 17 e r) 18 e 0) 24 e b
theorem hear_prv (hI : Inv σ η) (he : e < 2 * nl σ) (h0 : ¬ σ.1 10 e = 0) (h5 : ¬ σ.1 10 e = 5) {r : Nat} (hr : r ≤ 4) {b : Int32} (hb : b = 0 ∨ b = 1) : (Inv (S_prv e (nI r) b σ) (sI η (aE e) 14 (if b = 0 then 8 else 3)) ∧ PE η (sI η (aE e) 14 (if b = 0 then 8 else 3)) ∧ TS σ (S_prv e (nI r) b σ) ∧ FR0 σ (S_prv e (nI r) b σ)) ∧ Hf e σ (S_prv e (nI r) b σ) := by
  have hn10 := hI.2.1.1.2.1
  have hE := hI.2.1.e1 (show e < 20 by omega)
  have t10 : (S_prv e (nI r) b σ).1 10 e = 3 := by unfold S_prv; simp only [sn_upE, Nat.reduceEqDiff, reduceIte]
  have t24 : (S_prv e (nI r) b σ).1 24 e = b := by unfold S_prv; simp only [sn_upE, Nat.reduceEqDiff, reduceIte]
  have t17 : (S_prv e (nI r) b σ).1 17 e = nI r := by unfold S_prv; simp only [sn_upE, Nat.reduceEqDiff, reduceIte]
  have t11 : (S_prv e (nI r) b σ).1 11 e = σ.1 6 0 + (if b = 0 then 8 else 3) := by unfold S_prv; simp only [sn_upE, Nat.reduceEqDiff, reduceIte]
  have t22 : (S_prv e (nI r) b σ).1 22 e = σ.1 22 e := by unfold S_prv; simp only [sn_upE, Nat.reduceEqDiff, reduceIte]
  have hf : Hf e σ (S_prv e (nI r) b σ) := ((((Hf.rf.sI (by decide)).sI (by decide)).sI (by decide)).sI (by decide)).sI (by decide)
  refine ⟨hear_pack hI he hf (Or.inr ⟨_, rfl⟩) (fun _ => ?_) (Or.inr ⟨h5, h0, 3, by omega, ?_⟩) (fun q => ?_) (fun q => ⟨r, by omega, t17⟩) ?_ ?_ (Or.inr ⟨h0, Or.inr ?_⟩), hf⟩
  · rw [t24]
    show sn_up η.1 (aE e) 14 _ (aE e) 14 = _
    rw [sn_up_same]
  · rw [t10]; rfl
  · rw [t10] at q; exact absurd q (by decide)
  · rw [t22]; exact hE.2.2.2.2.2.2.2.2.2.1
  · rw [t24]; exact hb
  · rw [t11]
    rcases hb with rfl | rfl
    · exact ⟨8, by omega, by omega, rfl⟩
    · exact ⟨3, by omega, by omega, rfl⟩
theorem Rr1_prv {r : Nat} {b : Int32} (hr : r ≤ 4) : Rr1 (S_prv e (nI r) b σ) e := by
  have t10 : (S_prv e (nI r) b σ).1 10 e = 3 := by unfold S_prv; simp only [sn_upE, Nat.reduceEqDiff, reduceIte]
  have t17 : (S_prv e (nI r) b σ).1 17 e = nI r := by unfold S_prv; simp only [sn_upE, Nat.reduceEqDiff, reduceIte]
  exact ⟨fun q => by rw [t10] at q; exact absurd q (by decide), fun _ => ⟨r, hr, t17⟩⟩
theorem fl_prove2 (k2 : kk 2 = 1) (e1 : kk (aE e) = 2) {t r b : Int32} (ht : t = if b = 0 then 8 else 3) (hr : σ.1 17 e = r) : f_En_prove (aE e) t (Kap kk σ η) = some (none, Kap kk (S_prv e r b σ) (sI η (aE e) 14 (if b = 0 then 8 else 3))) := by
  rw [fl_prove k2 e1, ht]
  unfold S_prv
  rw [Kap_24, sI_id (k := 17) (by rw [sI_ne (by decide), sI_ne (by decide)]; exact hr)]
theorem gl_prove2 (he : e < 20) {r b : Int32} (hb : b = 0 ∨ b = 1) (hr : σ.1 17 e = r) (h3 : σ.1 10 e = 3) : g_Md_prove (nI e) b σ = some (none, S_prv e r b σ) := by
  rw [gl_prove he hb]
  unfold S_prv
  rw [sI_id (k := 10) h3, sI_id (k := 17) (by rw [sI_ne (by decide)]; exact hr)]
theorem hear_1 (hK : KOk kk σ) (hI : Inv σ η) (he : e < 2 * nl σ) (hs : σ.1 10 e = 1) {bad : Bool} {u : Nat} (hu : u ≤ 5) {x2 : Int32} (hR : Rr1 σ e) (hx : x2 = if bad then 1 else 0) : HrOk kk (g_Md_arrive_76 (nI e) x2 (nI u)) (f_En_hear_21 (aE e) (hT bad u)) e u4 σ η := by
  obtain ⟨⟨k1, k2, k3, k4, k5, k6, k7, k8, k9, k10, k11, k12, k13, k14, k15, k16, k17, k18, k19, k20, k21, k22⟩, kE, kF, kP, k4s⟩ := id hK
  obtain ⟨e1, e2, e3, e4, e5, e6, e7⟩ := kE e he
  have hn10 := hI.2.1.1.2.1
  have he20 : e < 20 := by omega
  have d10 : e < md_len 10 := he20
  have h0 : ¬ σ.1 10 e = 0 := by rw [hs]; decide
  have h5 : ¬ σ.1 10 e = 5 := by rw [hs]; decide
  have hcl : ∀ t, f_En_hear_21 (aE e) t (Kap kk σ η) = (c_I (f_En_hearSeeking (aE e) t) fun v3 => r_I v3) (Kap kk σ η) := fun t => by
    simp only [f_En_hear_21, x_gI, e1, if_true, rd_E7, hs, sn_sw, x_nn]
  have hg1 : ∀ x3, g_Md_arrive_76 (nI e) x2 x3 σ = (if ¬ x2 = 0 then g_Md_arrive_224 else (if x3 < (1 : Int32) then g_Md_arrive_224 else (if (3 : Int32) < x3 then g_Md_arrive_224 else y_V (g_Md_align (nI e)) (g_Md_arrive_224)))) σ := fun x3 => by
    unfold g_Md_arrive_76
    rw [q_I_at d10, hs, if_neg (fun q => q rfl)]
  have non : ∀ t, ¬ t = 1 → ¬ t = 2 → ¬ t = 3 → f_En_hear_21 (aE e) t (Kap kk σ η) = some (some (.int 0), Kap kk σ η) := fun t a b c => by
    have hs2 : f_En_hearSeeking (aE e) t (Kap kk σ η) = some (some (.int 0), Kap kk σ η) := by
      simp only [f_En_hearSeeking, a, if_false, x_cI (fl_isProve t _), b, c, or_self, if_true, f_En_hearSeeking_19, r_I]
    rw [hcl, x_cI hs2]; rfl
  have yes : ∀ t, t = 1 ∨ t = 2 ∨ t = 3 → f_En_hear_21 (aE e) t (Kap kk σ η) = some (some (.int 0), Kap kk (sI (sI σ 10 e 2) 11 e (σ.1 6 0 + 15)) η) := fun t a => by
    have hs2 : f_En_hearSeeking (aE e) t (Kap kk σ η) = some (some (.int 0), Kap kk (sI (sI σ 10 e 2) 11 e (σ.1 6 0 + 15)) η) := by
      have o1 : ((1 : Int32) = 0) = False := eq_false (by decide)
      by_cases c : t = 1
      · simp only [f_En_hearSeeking, c, if_true, f_En_hearSeeking_12, x_nn, e1, x_cV (fl_enter k2 e1), f_En_hearSeeking_19, r_I]
      · have c' : t = 2 ∨ t = 3 := by rcases a with q | q; exact absurd q c; exact q
        simp only [f_En_hearSeeking, c, if_false, x_cI (fl_isProve t _), c', if_true, x_ite, o1, f_En_hearSeeking_12, x_nn, e1, x_cV (fl_enter k2 e1), f_En_hearSeeking_19, r_I]
    rw [hcl, x_cI hs2]; rfl
  cases bad with
  | true =>
    refine HrOk.id0 hI hR (non 6 (by decide) (by decide) (by decide)) ?_
    rw [hg1, hx, if_pos rfl, if_pos (by decide)]; rfl
  | false =>
    have hx0 : x2 = 0 := hx
    have hg2 : ∀ x3, g_Md_arrive_76 (nI e) x2 x3 σ = (if x3 < (1 : Int32) then g_Md_arrive_224 else (if (3 : Int32) < x3 then g_Md_arrive_224 else y_V (g_Md_align (nI e)) (g_Md_arrive_224))) σ := fun x3 => by rw [hg1, hx0, if_neg (fun q => q rfl)]
    have al : ∀ x3, ¬ x3 < (1 : Int32) → ¬ (3 : Int32) < x3 → g_Md_arrive_76 (nI e) x2 x3 σ = some (none, sI (sI σ 10 e 2) 11 e (σ.1 6 0 + 15)) := fun x3 a b => by
      rw [hg2, if_neg a, if_neg b]; exact yV_z (gl_align he20)
    have hf := ((Hf.rf (e := e) (σ := σ)).sI (k := 10) (v := 2) (by decide)).sI (k := 11) (v := σ.1 6 0 + 15) (by decide)
    obtain rfl | rfl | rfl | rfl | rfl | rfl : u = 0 ∨ u = 1 ∨ u = 2 ∨ u = 3 ∨ u = 4 ∨ u = 5 := by omega
    · exact HrOk.id0 hI hR (non _ (by decide) (by decide) (by decide)) (by rw [hg2, if_pos (by decide)]; rfl)
    · exact HrOk.of0 (hear_al hI he h0 h5) hf Rr1_al (yes _ (by decide)) (al _ (by decide) (by decide))
    · exact HrOk.of0 (hear_al hI he h0 h5) hf Rr1_al (yes _ (by decide)) (al _ (by decide) (by decide))
    · exact HrOk.of0 (hear_al hI he h0 h5) hf Rr1_al (yes _ (by decide)) (al _ (by decide) (by decide))
    · exact HrOk.id0 hI hR (non _ (by decide) (by decide) (by decide)) (by rw [hg2, if_neg (by decide), if_pos (by decide)]; rfl)
    · exact HrOk.id0 hI hR (non _ (by decide) (by decide) (by decide)) (by rw [hg2, if_neg (by decide), if_pos (by decide)]; rfl)
theorem hear_2 (hK : KOk kk σ) (hI : Inv σ η) (he : e < 2 * nl σ) (hs : σ.1 10 e = 2) {bad : Bool} {u : Nat} (hu : u ≤ 5) {x2 : Int32} (hR : Rr1 σ e) (hx : x2 = if bad then 1 else 0) : HrOk kk (g_Md_arrive_76 (nI e) x2 (nI u)) (f_En_hear_21 (aE e) (hT bad u)) e u4 σ η := by
  obtain ⟨⟨k1, k2, k3, k4, k5, k6, k7, k8, k9, k10, k11, k12, k13, k14, k15, k16, k17, k18, k19, k20, k21, k22⟩, kE, kF, kP, k4s⟩ := id hK
  obtain ⟨e1, e2, e3, e4, e5, e6, e7⟩ := kE e he
  have hn10 := hI.2.1.1.2.1
  have he20 : e < 20 := by omega
  have d10 : e < md_len 10 := he20
  have d17 : e < md_len 17 := he20
  have d23 : e < md_len 23 := he20
  have h0 : ¬ σ.1 10 e = 0 := by rw [hs]; decide
  have h5 : ¬ σ.1 10 e = 5 := by rw [hs]; decide
  have o21 : ((2 : Int32) = 1) = False := eq_false (by decide)
  have hcl : ∀ t r κ, f_En_hearAligned (aE e) t (Kap kk σ η) = some (some (.int r), κ) → f_En_hear_21 (aE e) t (Kap kk σ η) = some (some (.int r), κ) := fun t r κ h => by
    simp only [f_En_hear_21, x_gI, e1, if_true, rd_E7, hs, sn_sw, o21, if_false, x_nn, x_cI h, r_I]
  have hg1 : ∀ x3, g_Md_arrive_76 (nI e) x2 x3 σ = (if ¬ x2 = 0 then g_Md_arrive_132 (nI e) x2 x3 else (if ¬ x3 = 0 then g_Md_arrive_132 (nI e) x2 x3 else y_V (g_Md_fail (nI e) (0 : Int32)) (g_Md_arrive_132 (nI e) x2 x3))) σ := fun x3 => by
    unfold g_Md_arrive_76
    rw [q_I_at d10, hs, if_pos (by decide), q_I_at d10, hs, if_neg (fun q => q rfl)]
  have non : ∀ t, ¬ t = 0 → ¬ t = 2 → ¬ t = 3 → f_En_hear_21 (aE e) t (Kap kk σ η) = some (some (.int 0), Kap kk σ η) := fun t a b c => by
    refine hcl t 0 _ ?_
    simp only [f_En_hearAligned, x_cI (fl_isProve t _), b, c, or_self, if_false, if_true, f_En_hearAligned_34, a, not_false_eq_true, f_En_hearAligned_43, r_I]
  cases bad with
  | true =>
    refine HrOk.id0 hI hR (non 6 (by decide) (by decide) (by decide)) ?_
    have hx1 : x2 = 1 := hx
    rw [hg1, hx1, if_pos (by decide)]
    unfold g_Md_arrive_132
    rw [if_pos (by decide)]; rfl
  | false =>
    have hx0 : x2 = 0 := hx
    have hg2 : ∀ x3, ¬ x3 = 0 → g_Md_arrive_76 (nI e) x2 x3 σ = (if x3 = (2 : Int32) then g_Md_arrive_146 (nI e) x3 else (if ¬ x3 = (3 : Int32) then g_Md_arrive_224 else g_Md_arrive_146 (nI e) x3)) σ := fun x3 a => by
      rw [hg1, hx0, if_neg (fun q => q rfl), if_pos a]
      unfold g_Md_arrive_132
      rw [if_neg (fun q => q rfl)]
    -- it begins to prove
    have yes : ∀ t, t = 2 ∨ t = 3 → ∀ b : Int32, (b = if ¬ σ.1 23 e = 0 ∨ t = 3 then 1 else 0) → HrOk kk (g_Md_arrive_146 (nI e) t) (f_En_hear_21 (aE e) t) e u4 σ η := by
      intro t ht b hb
      have hb2 : b = 0 ∨ b = 1 := by rw [hb]; split; exact Or.inr rfl; exact Or.inl rfl
      have hb' : (if b = 0 then (8 : Int32) else 3) = if ¬ σ.1 23 e = 0 ∨ t = 3 then 3 else 8 := by
        rw [hb]
        by_cases c : ¬ σ.1 23 e = 0 ∨ t = 3
        · rw [if_pos c, if_pos c, if_neg (by decide)]
        · rw [if_neg c, if_neg c, if_pos rfl]
      obtain ⟨P1, P2⟩ := hear_prv hI he h0 h5 (r := 1) (by omega) hb2
      have P2' := P2
      have hS : S_prv e (nI 1) b (sI (sI σ 10 e 3) 17 e 1) = S_prv e (nI 1) b σ := by
        unfold S_prv
        have h6 : (sI (sI σ 10 e 3) 17 e 1).1 6 0 = σ.1 6 0 := by rw [sI_ne (by decide), sI_ne (by decide)]
        rw [h6, sI_sw (k := 17) (k' := 10) (by decide), sI_sI, sI_sw (k := 17) (k' := 11) (by decide), sI_sI]
      have hS2 : S_prv e (nI 1) b (sI σ 17 e 1) = S_prv e (nI 1) b σ := by
        unfold S_prv
        have h6 : (sI σ 17 e 1).1 6 0 = σ.1 6 0 := by rw [sI_ne (by decide)]
        rw [h6, sI_sw (k := 17) (k' := 10) (by decide), sI_sw (k := 17) (k' := 11) (by decide), sI_sI]
      have h17 : (sI σ 17 e 1).1 17 e = nI 1 := by simp only [sn_upE, Nat.reduceEqDiff, reduceIte]; rfl
      have hp := fl_prove2 (σ := sI σ 17 e 1) (η := η) k2 e1 (t := if b = 0 then 8 else 3) (b := b) rfl h17
      rw [hS2] at hp
      have hpr : ∀ κ : sn_Mem, f_En_isProve t κ = some (some (.int 1), κ) := fun κ => by rw [fl_isProve, if_pos ht]
      have ht0 : ¬ t = 0 := by rcases ht with rfl | rfl <;> decide
      have o1 : ((1 : Int32) = 0) = False := eq_false (by decide)
      have e23 : (sI σ 17 e 1).1 23 e = σ.1 23 e := sI_ne (by decide)
      have hgp := gl_prove2 (σ := sI (sI σ 10 e 3) 17 e 1) he20 hb2 (r := nI 1) (by simp only [sn_upE, Nat.reduceEqDiff, reduceIte]; rfl) (by simp only [sn_upE, Nat.reduceEqDiff, reduceIte])
      rw [hS] at hgp
      generalize (if b = 0 then (8 : Int32) else 3) = T at hb' P1 hp
      refine HrOk.of0 P1 P2 (Rr1_prv (by omega)) (hcl t 0 _ ?_) ?_
      · have hend : f_En_hearAligned_34 (aE e) t (Kap kk (S_prv e (nI 1) b σ) (sI η (aE e) 14 T)) = some (some (.int 0), Kap kk (S_prv e (nI 1) b σ) (sI η (aE e) 14 T)) := by
          simp only [f_En_hearAligned_34, ht0, not_false_eq_true, if_true, f_En_hearAligned_43, r_I]
        have h31 : f_En_hearAligned_31 (aE e) t (some (aE e)) T (Kap kk (sI σ 17 e 1) η) = some (some (.int 0), Kap kk (S_prv e (nI 1) b σ) (sI η (aE e) 14 T)) := by
          simp only [f_En_hearAligned_31, x_nn, e1, if_true, x_cV hp, hend]
        rw [← h31]
        by_cases c : σ.1 23 e = 0
        · by_cases c3 : t = 3
          · rw [if_pos (Or.inr c3)] at hb'
            have o3 : (t = 3) = True := eq_true c3
            rw [hb']
            simp only [f_En_hearAligned, x_cI (hpr _), if_true, x_ite, o1, if_false, x_pI, e1, wr_E15, x_gI, rd_E13, sn_upE, Nat.reduceEqDiff, reduceIte, c, not_true_eq_false, o3, f_En_hearAligned_25]
          · rw [if_neg (fun q => q.elim (fun z => z c) (fun z => c3 z))] at hb'
            rw [hb']
            simp only [f_En_hearAligned, x_cI (hpr _), if_true, x_ite, o1, if_false, x_pI, e1, wr_E15, x_gI, rd_E13, sn_upE, Nat.reduceEqDiff, reduceIte, c, not_true_eq_false, c3, not_false_eq_true]
        · rw [if_pos (Or.inl c)] at hb'
          rw [hb']
          simp only [f_En_hearAligned, x_cI (hpr _), if_true, x_ite, o1, if_false, x_pI, e1, wr_E15, x_gI, rd_E13, sn_upE, Nat.reduceEqDiff, reduceIte, c, not_false_eq_true, f_En_hearAligned_25]
      · have h181 : g_Md_arrive_181 (nI e) b (sI (sI σ 10 e 3) 17 e 1) = some (none, S_prv e (nI 1) b σ) := yV_z hgp
        rw [← h181]
        by_cases c : σ.1 23 e = 0
        · by_cases c3 : t = 3
          · rw [if_pos (Or.inr c3)] at hb
            have o3 : (t = 3) = True := eq_true c3
            simp only [g_Md_arrive_146, w_I_at d10, w_I_at d17, q_I_at d23, sn_upE, Nat.reduceEqDiff, reduceIte, c, not_true_eq_false, y_ite, o3, g_Md_arrive_176, hb]
          · rw [if_neg (fun q => q.elim (fun z => z c) (fun z => c3 z))] at hb
            simp only [g_Md_arrive_146, w_I_at d10, w_I_at d17, q_I_at d23, sn_upE, Nat.reduceEqDiff, reduceIte, c, not_true_eq_false, y_ite, c3, not_false_eq_true, hb]
        · rw [if_pos (Or.inl c)] at hb
          simp only [g_Md_arrive_146, w_I_at d10, w_I_at d17, q_I_at d23, sn_upE, Nat.reduceEqDiff, reduceIte, c, not_false_eq_true, y_ite, g_Md_arrive_176, hb]
    obtain rfl | rfl | rfl | rfl | rfl | rfl : u = 0 ∨ u = 1 ∨ u = 2 ∨ u = 3 ∨ u = 4 ∨ u = 5 := by omega
    · refine HrOk.id1 hI (hcl _ 1 _ ?_) h0 (fun ω hω => ?_)
      · show f_En_hearAligned (aE e) 0 _ = _
        have o2 : ((0 : Int32) = 2 ∨ (0 : Int32) = 3) = False := eq_false (by decide)
        simp only [f_En_hearAligned, x_cI (fl_isProve 0 _), o2, if_false, if_true, f_En_hearAligned_34, not_true_eq_false, f_En_hearAligned_43, r_I]
      · rw [hg1, hx0, if_neg (fun q => q rfl), if_neg (fun q => q (by decide)), y_V_at hω]
        unfold g_Md_arrive_132
        rw [if_neg (fun q => q rfl), if_neg (by decide), if_pos (by decide)]; rfl
    · exact HrOk.id0 hI hR (non _ (by decide) (by decide) (by decide)) (by rw [hg2 _ (by decide), if_neg (by decide), if_pos (by decide)]; rfl)
    · obtain ⟨τ, θ, p, q, z⟩ := yes (nI 2) (by decide) _ rfl
      refine ⟨τ, θ, p, q, ?_⟩
      rw [hg2 _ (by decide), if_pos (by decide)]; exact z
    · obtain ⟨τ, θ, p, q, z⟩ := yes (nI 3) (by decide) _ rfl
      refine ⟨τ, θ, p, q, ?_⟩
      rw [hg2 _ (by decide), if_neg (by decide), if_neg (by decide)]; exact z
    · exact HrOk.id0 hI hR (non _ (by decide) (by decide) (by decide)) (by rw [hg2 _ (by decide), if_neg (by decide), if_pos (by decide)]; rfl)
    · exact HrOk.id0 hI hR (non _ (by decide) (by decide) (by decide)) (by rw [hg2 _ (by decide), if_neg (by decide), if_pos (by decide)]; rfl)
