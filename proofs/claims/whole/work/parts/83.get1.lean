/-! LAYER 2: both get messages about links and ways -/
variable {kk : Nat → Nat} {σ η : sn_FS}
theorem QC_49 {σ : sn_FS} {x n s i : Nat} {m : Int64} : (S_other x n s m σ).1 49 i = σ.1 49 i := S_other_I σ (by decide)
theorem ec_ts {σ τ : sn_FS} {e : Nat} (h : ∀ k i, k ∉ ecM → τ.1 k i = σ.1 k i) (h2 : ∀ i, i ≠ e → τ.1 40 i = σ.1 40 i) (h3 : τ.1 40 e = 0) : TS σ τ := by
  refine ⟨h 6 0 (by decide), fun k i hk => ?_⟩
  by_cases c : k = 40
  · subst c
    by_cases ci : i = e
    · right; left; rw [ci]; exact h3
    · left; exact h2 i ci
  · left
    refine h k i (fun q => c ?_)
    rcases tm_of hk with rfl | rfl | rfl | rfl | rfl | rfl
    · exact absurd q (by decide)
    · exact absurd q (by decide)
    · rfl
    · exact absurd q (by decide)
    · exact absurd q (by decide)
    · exact absurd q (by decide)
theorem ec_fr {σ τ : sn_FS} {e : Nat} (he : e < 2 * nl σ) (h : ∀ k i, k ∉ ecM → τ.1 k i = σ.1 k i) (h2 : ∀ i, i ≠ e → τ.1 40 i = σ.1 40 i) : FR σ τ := by
  refine ⟨⟨fun k i hk => h k i ?_, fun k i hk hi => ?_, fun x n s _ _ _ => h 45 _ (by decide)⟩, fun i => ⟨h 16 i (by decide), h 17 i (by decide), Or.inl (h 10 i (by decide))⟩⟩
  · simp only [ecM, List.mem_cons, List.not_mem_nil, or_false, not_or]; omega
  · by_cases c : k = 40
    · subst c; exact h2 i (by omega)
    · refine h k i ?_
      have := nr_of hk
      simp only [ecM, List.mem_cons, List.not_mem_nil, or_false, not_or]; omega
theorem ec_di {σ τ : sn_FS} {e : Nat} (hD : DI σ) (h : ∀ k i, k ∉ ecM → τ.1 k i = σ.1 k i) (h2 : ∀ i, i ≠ e → τ.1 40 i = σ.1 40 i) (h3 : τ.1 40 e = 0) : DI τ := hD.mk' (fun i _ => by
  by_cases ci : i = e
  · left; rw [ci]; exact h3
  · right; exact ⟨h2 i ci, h 11 i (by decide)⟩)
/-- ending a changeover -/
theorem sm_end (hK : KOk kk σ) (hI : Inv σ η) {e : Nat} (he : e < 2 * nl σ) {r : Option Nat} (hr : ∀ t, r = some t → t < 128) : Sm kk (g_Md_overEnds (nI (ex σ e)) (nI (e / 2)) (bI r)) (f_Tr_endChangeover 11 (some (aE e)) (bI r)) none σ η := by
  obtain ⟨hH, hw, hL, hD, hC⟩ := hI
  obtain ⟨τ, θ, a1, a2, a3, a4, a5, a6, a7, a8, a9⟩ := ec_end hK hH hw hL he hr
  exact ⟨τ, θ, a1, a2, ⟨a3, a5, a6, ec_di hD a7 a8 a9, hC.at (a7 6 0 (by decide))⟩, a4, ec_ts a7 a8 a9, ec_fr he a7 a8⟩
/-- a message about a link -/
theorem over_end {m : Msg} (hP : PlanOk σ) (hm : MV σ m) (hk : mK m ≤ 2) : en σ (mA m % 16) (mT m) < 2 * nl σ ∧ en σ (mA m % 16) (mT m) / 2 = mA m % 16 ∧ ex σ (en σ (mA m % 16) (mT m)) = mT m ∧ ot σ (en σ (mA m % 16) (mT m)) = mF m ∧ (if mT m ≤ mF m then 2 * (mA m % 16) + 0 else 2 * (mA m % 16) + 1) = en σ (mA m % 16) (mT m) := by
  obtain ⟨hmo, -, -, -, hnb, h2, -⟩ := hm
  obtain ⟨a1, a2, a3⟩ := h2 hk
  have his : isof σ (mA m % 16) (mT m) (mF m) = true := by rw [isof_sy]; exact a2
  obtain ⟨b1, b2, b3⟩ := en_is hP a1 his rfl
  have hlt := hP.2.2 _ a1
  have hlo : lo σ (mA m % 16) = min (mT m) (mF m) ∧ hi σ (mA m % 16) = max (mT m) (mF m) := by
    unfold isof at his
    simpa using his
  refine ⟨?_, b1, b2.symm, b3.symm, ?_⟩
  · unfold en; split <;> omega
  · unfold en
    rw [hlo.1]
    by_cases c : mT m ≤ mF m
    · rw [if_pos c, Nat.min_eq_left c, if_pos rfl]
    · rw [if_neg c, Nat.min_eq_right (by omega), if_neg (by omega)]
def gOvered (x1 : Int32) (v5 : Int32) (l2 : Int64) : sn_G := y_I (g_Md_endAt (v5 &&& (15 : Int32)) x1) fun v11 => q_I 38 v11 fun v12 => (if ¬ (v5 >>> ((4 : Int32) &&& 31)) = v12 then g_Md_get_311 else y_I (g_Md_twoOf l2) fun v13 => y_V (g_Md_overEnds x1 (v5 &&& (15 : Int32)) v13) (g_Md_get_311))
def gOver (x1 v4 v5 : Int32) (l2 : Int64) : sn_G := y_I (g_Md_twoOf l2) fun v9 => y_V (g_Md_over x1 v4 v5 v9) (g_Md_get_311)
theorem Sm.at_g {g g' : sn_G} {f : sn_M} {rv : Option Value} (h : Sm kk g f rv σ η) (hg : ∀ τ, g σ = some (none, τ) → g' σ = some (none, τ)) : Sm kk g' f rv σ η := by
  obtain ⟨τ, θ, a1, a2⟩ := h
  exact ⟨τ, θ, hg τ a1, a2⟩
theorem Sm.at_f {g : sn_G} {f f' : sn_M} {rv rv' : Option Value} (h : Sm kk g f rv σ η) (hf : ∀ κ, f (Kap kk σ η) = some (rv, κ) → f' (Kap kk σ η) = some (rv', κ)) : Sm kk g f' rv' σ η := by
  obtain ⟨τ, θ, a1, a2, a3⟩ := h
  exact ⟨τ, θ, a1, hf _ a2, a3⟩
/-- one after the other -/
theorem Sm.bind {g g' : sn_G} {f f' : sn_M} {rv rv' : Option Value} {τ θ : sn_FS} (hg : ∀ ω, g' τ = some (none, ω) → g σ = some (none, ω)) (hf : ∀ κ, f' (Kap kk τ θ) = some (rv', κ) → f (Kap kk σ η) = some (rv, κ)) (hE : PE η θ) (hT : TS σ τ) (hF : FR σ τ) (h : Sm kk g' f' rv' τ θ) : Sm kk g f rv σ η := by
  obtain ⟨ω, ζ, a1, a2, a3, a4, a5, a6⟩ := h
  exact ⟨ω, ζ, hg ω a1, hf _ a2, a3, hE.tr a4, hT.tr a5, hF.tr a6⟩
theorem sm_overed (hK : KOk kk σ) (hI : Inv σ η) {m : Msg} (hm : MV σ m) (hk : mK m = 2) : Sm kk (gOvered (nI (mT m)) (nI (mA m)) (wR m)) (f_Tr_changeOver 11 (nI (mT m)) (wC m)) none σ η := by
  obtain ⟨hH, hw, hL, hD, hC⟩ := id hI
  have hP := hw.1
  have hn10 := hP.2.1
  obtain ⟨hmo, -, -, -, hnb, h2, -⟩ := id hm
  obtain ⟨a1, a2, a3⟩ := h2 (by omega)
  obtain ⟨b1, b2, b3, b4, b5⟩ := over_end hP hm (by omega)
  have hx : mT m < 6 := hmo.2.2.1
  have hn : mF m < 6 := hmo.2.1
  have hA : mA m < 256 := hmo.2.2.2.2.1
  have u1 := fun μ => fl_first hmo μ
  have u2 := fun μ => fl_from hmo μ
  have u3 := fun μ => fl_second hmo μ
  have u5 := fun μ => fl_kind hmo μ
  rw [hk] at u5
  have u4 := fun τ => gl_twoOf hmo τ
  have hen := gl_endAt hP (l := mA m % 16) (x := mT m) a1 hx
  have hso := sm_end hK hI b1 (r := some (mB m)) (fun t h => by cases h; exact a3)
  rw [b2, b3] at hso
  have hs0 := fl_endOf (η := η) hK hP a1 (sd := 0) (by omega)
  have hs1 := fl_endOf (η := η) hK hP a1 (sd := 1) (by omega)
  generalize hE : en σ (mA m % 16) (mT m) = e at b1 b2 b3 b4 b5 hen hso
  have d38 : e < md_len 38 := by show _ < 20; omega
  obtain ⟨⟨k1, k2, k3, k4, k5, k6, k7, k8, k9, k10, k11, k12, k13, k14, k15, k16, k17, k18, k19, k20, k21, k22⟩, kE, kF, kP, k4s⟩ := id hK
  obtain ⟨e1, e2, e3, e4, e5, e6, e7⟩ := kE e b1
  have hq : (nI (mT m) ≤ nI (mF m)) ↔ mT m ≤ mF m := nI_leI (by omega) (by omega)
  have o2 : (some (aE e) = none) = False := by simp
  have o3 : ((nI 2 : Int32) = 1) = False := eq_false (by decide)
  have hcls : f_Tr_changeOver 11 (nI (mT m)) (wC m) (Kap kk σ η) = (if σ.1 38 e = nI (mA m / 16) then f_Tr_endChangeover 11 (some (aE e)) (nI (mB m)) (Kap kk σ η) else some (none, Kap kk σ η)) := by
    have hlast : f_Tr_changeOver_34 11 (nI (mT m)) (wC m) (nI (mA m / 16)) (some 11) (nI (mA m % 16)) (if mT m ≤ mF m then 0 else 1) (Kap kk σ η) = (if σ.1 38 e = nI (mA m / 16) then f_Tr_endChangeover 11 (some (aE e)) (nI (mB m)) (Kap kk σ η) else some (none, Kap kk σ η)) := by
      have hsd : f_Tr_endOf 11 (nI (mA m % 16)) (if mT m ≤ mF m then 0 else 1) (Kap kk σ η) = some (some (va_rf (some (aE e))), Kap kk σ η) := by
        by_cases c : mT m ≤ mF m
        · rw [if_pos c] at b5 ⊢; rw [b5] at hs0; exact hs0
        · rw [if_neg c] at b5 ⊢; rw [b5] at hs1; exact hs1
      obtain ⟨τ, θ, p1, p2, p3⟩ := hso
      have p2 : f_Tr_endChangeover 11 (some (aE e)) (nI (mB m)) (Kap kk σ η) = some (none, Kap kk τ θ) := p2
      simp only [f_Tr_changeOver_34, x_ite, x_nn, k11, if_true, x_cR hsd, o2, if_false, x_gI, e1, rd_E2, b3, not_true_eq_false, rd_E10, x_cI (u5 _), o3, not_false_eq_true, f_Tr_changeOver_109, x_cI (u3 _), x_cV p2, f_Tr_changeOver_63, r_V, p2]
    rw [← hlast]
    by_cases c : mT m ≤ mF m
    · have hq' := eq_true (hq.mpr c)
      simp only [f_Tr_changeOver, x_cI (u1 _), n_I, r16 _ hA, d16 _ hA, x_cI (u2 _), hq', if_true, x_ite, if_pos c]
    · have hq' := eq_false (fun z => c (hq.mp z))
      simp only [f_Tr_changeOver, x_cI (u1 _), n_I, r16 _ hA, d16 _ hA, x_cI (u2 _), hq', if_false, x_ite, if_neg c]
  by_cases c : σ.1 38 e = nI (mA m / 16)
  · rw [if_pos c] at hcls
    refine (hso.at_g (fun τ hg => ?_)).at_f (fun κ hf => by rw [hcls]; exact hf)
    have hg : g_Md_overEnds (nI (mT m)) (nI (mA m % 16)) (nI (mB m)) σ = some (none, τ) := hg
    simp only [gOvered, a15 _ hA, s4 _ hA, y_I_at hen, q_I_at d38, c, not_true_eq_false, if_false, y_I_at (u4 _), y_V_at hg, g_Md_get_311, z_V]
  · rw [if_neg c] at hcls
    have c' : ¬ nI (mA m / 16) = σ.1 38 e := fun q => c q.symm
    refine Sm.id hI ?_ hcls
    simp only [gOvered, a15 _ hA, s4 _ hA, y_I_at hen, q_I_at d38, c', not_false_eq_true, if_true, g_Md_get_311, z_V]
