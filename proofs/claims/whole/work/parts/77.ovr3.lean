/-! LAYER 2: the class ends a changeover -/
theorem SP.sy {σ τ : sn_FS} (h : SP σ τ) : SP τ σ := ⟨fun i => (h.1 i).symm, fun i => (h.2.1 i).symm, fun i => (h.2.2 i).symm⟩
variable {kk : Nat → Nat} {σ η : sn_FS}
theorem bR_k {x n s : Nat} (hP : PlanOk σ) (hn : n < 6) (hs : s < 4) : bR σ x (bst σ x n s) = k_end σ (fl x n s / 24) (oI (bst σ x n s)) := by
  have hn10 := hP.2.1
  obtain ⟨g1, g2, -⟩ := fl_x (x := x) hn hs
  rw [g1]
  cases hbs : bst σ x n s with
  | none => exact (k_end_none.mpr rfl).symm
  | some l => have := (bst_ok hbs).1; exact (k_end_some (by omega)).symm
theorem fl_free {f : Nat} (hf : kk (aF f) = 3) {v : Int32} : f_Fl_free (aF f) (k_end σ (f / 24) v) (Kap kk σ η) = some (none, Kap kk (sI (sI (sI (sI σ 41 f v) 42 f 0) 43 f (-1)) 44 f 0) η) := by
  have h0 : SP σ (sI (sI σ 42 f 0) 43 f (-1)) := (SP.sI (k := 42) (by decide)).tr (SP.sI (k := 43) (by decide))
  have w1 : u_R (Kap kk (sI σ 42 f 0) η) (aF f) 3 none = Kap kk (sI (sI σ 42 f 0) 43 f (-1)) η := by
    rw [← (k_end_none (σ := sI σ 42 f 0) (x := f / 24) (v := -1)).mpr rfl]; exact wR_F3
  have w2 : u_R (Kap kk (sI (sI σ 42 f 0) 43 f (-1)) η) (aF f) 1 (k_end σ (f / 24) v) = Kap kk (sI (sI (sI σ 42 f 0) 43 f (-1)) 41 f v) η := by
    rw [← h0.kend]; exact wR_F1
  simp only [f_Fl_free, x_pI, x_pR, hf, if_true, wr_F2, w1, w2, wr_F4, r_V]
  rw [sI_sw (k := 43) (k' := 41) (by decide), sI_sw (k := 42) (k' := 41) (by decide)]
/-- the class frees flows -/
def C_fr1 (x n l s : Nat) (σ : sn_FS) : sn_FS := if σ.1 43 (fl x n s) = nI l then sI (sI (sI σ 41 (fl x n s) (oI (bst σ x n s))) 42 (fl x n s) 0) 43 (fl x n s) (-1) else σ
def C_fr (x n l : Nat) : Nat → sn_FS → sn_FS
  | 0, σ => σ
  | r + 1, σ => C_fr x n l r (C_fr1 x n l (4 - (r + 1)) σ)
theorem C_fr1_I {x n l s k i : Nat} (σ : sn_FS) (h : k ≠ 41 ∧ k ≠ 42 ∧ k ≠ 43) : (C_fr1 x n l s σ).1 k i = σ.1 k i := by
  unfold C_fr1
  split
  · rw [sI_ne h.2.2, sI_ne h.2.1, sI_ne h.1]
  · rfl
theorem C_fr1_out {x n l s k i : Nat} (σ : sn_FS) (h : i ≠ fl x n s) : (C_fr1 x n l s σ).1 k i = σ.1 k i := by
  unfold C_fr1
  split
  · rw [sI_nk h, sI_nk h, sI_nk h]
  · rfl
theorem C_fr1_SP {x n l s : Nat} (σ : sn_FS) : SP σ (C_fr1 x n l s σ) := ⟨fun i => C_fr1_I σ (by decide), fun i => C_fr1_I σ (by decide), fun i => C_fr1_I σ (by decide)⟩
theorem C_fr1_J {x n l s : Nat} (σ : sn_FS) : (C_fr1 x n l s σ).2 = σ.2 := by
  unfold C_fr1
  split <;> rfl
theorem C_fr_I {x n l k i : Nat} (h : k ≠ 41 ∧ k ≠ 42 ∧ k ≠ 43) : ∀ (r : Nat) (σ : sn_FS), (C_fr x n l r σ).1 k i = σ.1 k i
  | 0, σ => rfl
  | r + 1, σ => (C_fr_I h r _).trans (C_fr1_I σ h)
theorem C_fr_SP {x n l : Nat} (r : Nat) (σ : sn_FS) : SP σ (C_fr x n l r σ) := ⟨fun i => C_fr_I (by decide) r σ, fun i => C_fr_I (by decide) r σ, fun i => C_fr_I (by decide) r σ⟩
theorem C_fr_J {x n l : Nat} : ∀ (r : Nat) (σ : sn_FS), (C_fr x n l r σ).2 = σ.2
  | 0, σ => rfl
  | r + 1, σ => (C_fr_J r _).trans (C_fr1_J σ)
theorem C_fr1_Cur {x n l s : Nat} (h : CurOk σ) : CurOk (C_fr1 x n l s σ) := by
  refine h.mk' (C_fr1_SP σ) (fun f _ => ?_) (fun f _ => ?_)
  · unfold C_fr1
    split
    · by_cases c : f = fl x n s
      · subst c
        rw [sI_ne (by decide), sI_ne (by decide)]
        right
        simp only [sn_upE, Nat.reduceEqDiff, reduceIte]
        cases hbs : bst σ x n s with
        | none => exact Or.inl rfl
        | some l => exact Or.inr ⟨l, (bst_ok hbs).1, rfl⟩
      · left; rw [sI_nk c, sI_nk c, sI_nk c]
    · exact Or.inl rfl
  · unfold C_fr1
    split
    · by_cases c : f = fl x n s
      · subst c
        right; left
        simp only [sn_upE, Nat.reduceEqDiff, reduceIte]
      · left; rw [sI_nk c, sI_nk c, sI_nk c]
    · exact Or.inl rfl
def HF (σ : sn_FS) (x n l r : Nat) : Prop := ∀ s, s < 4 → 4 - r ≤ s → σ.1 43 (fl x n s) = nI l → σ.1 42 (fl x n s) = 1 ∧ σ.1 44 (fl x n s) = 0
theorem HF.st {x n l r : Nat} (h : HF σ x n l (r + 1)) (hr : r + 1 ≤ 4) : HF (C_fr1 x n l (4 - (r + 1)) σ) x n l r := by
  intro s h1 h2 h3
  have hne : fl x n s ≠ fl x n (4 - (r + 1)) := by unfold fl; omega
  rw [C_fr1_out σ hne] at h3 ⊢
  rw [C_fr1_out σ hne]
  exact h s h1 (by omega) h3
theorem fl_ec68 {x n e : Nat} {r3 : Option Nat} (hx : x < 6) (hn : n < 6) : ∀ (r fuel : Nat) (σ : sn_FS), r ≤ 4 → r < fuel → KOk kk σ → PlanOk σ → CurOk σ → e < 2 * nl σ → ex σ e = x → ot σ e = n → HF σ x n (e / 2) r → ∃ fu, f_Tr_endChangeover_68 11 fuel (some (aE e)) r3 (nI (4 - r)) (Kap kk σ η) = f_Tr_endChangeover_68 11 (fu + 1) (some (aE e)) r3 4 (Kap kk (C_fr x n (e / 2) r σ) η)
  | 0, fuel + 1, σ, _, _, _, _, _, _, _, _, _ => ⟨fuel, rfl⟩
  | r + 1, fuel + 1, σ, hr, hf, hK, hP, hC, he, ex1, ot1, hHF => by
    have hs : 4 - (r + 1) < 4 := by omega
    have hss : 4 - (r + 1) + 1 = 4 - r := by omega
    have hX0 : C_fr x n (e / 2) (r + 1) σ = C_fr x n (e / 2) r (C_fr1 x n (e / 2) (4 - (r + 1)) σ) := rfl
    have h44 := hHF (4 - (r + 1)) hs (by omega)
    have hst := hHF.st hr
    generalize hS : 4 - (r + 1) = s at hs hss hX0 h44 hst
    obtain ⟨⟨k1, k2, k3, k4, k5, k6, k7, k8, k9, k10, k11, k12, k13, k14, k15, k16, k17, k18, k19, k20, k21, k22⟩, kE, kF, kP, k4s⟩ := id hK
    obtain ⟨e1, e2, e3, e4, e5, e6, e7⟩ := kE e he
    have o1 : ((4 : Int32) ≤ nI s) = False := eq_false (nI_ge (b := 4) hs (by omega))
    have hb : nb σ x n = true := by rw [← ex1, ← ot1]; exact nb_end hP he
    obtain ⟨f1, f2, f3, f4⟩ := hK.flow hx hn hs hb
    have hf1 := fl_lt hx hn hs
    obtain ⟨g1, g2, -⟩ := fl_x (x := x) hn hs
    have hfl : f_Tr_flowTo 11 (nI x) (nI n) (nI s) (Kap kk σ η) = some (some (va_rf (some (aF (fl x n s)))), Kap kk σ η) := by rw [fl_flowTo hK hx hn hs, fR, if_pos hb]
    have o2 : (some (aF (fl x n s)) = none) = False := by simp
    have hq := k_end_eq hP hC he hf1 (by rw [g1, ex1]) (Or.inr rfl)
    have hs1 := C_fr1_SP (x := x) (n := n) (l := e / 2) (s := s) σ
    obtain ⟨fu, ih⟩ := fl_ec68 (e := e) (r3 := r3) hx hn r fuel (C_fr1 x n (e / 2) s σ) (by omega) (by omega) (hK.sp hs1) (hs1.plan hP) (C_fr1_Cur hC) (by rw [hs1.nlE]; exact he) (by rw [hs1.exE]; exact ex1) (by rw [hs1.otE]; exact ot1) hst
    refine ⟨fu, ?_⟩
    rw [hX0, ← ih]
    conv => lhs; simp only [x_ite, f_Tr_endChangeover_68, o1, if_false, x_gI, e1, if_true, rd_E2, rd_E3, ex1, ot1, x_nn, k11, x_cR hfl, o2, x_gR, f1, rr_F3, hq, f_Tr_endChangeover_123, nI_1, hss]
    by_cases c : σ.1 43 (fl x n s) = nI (e / 2)
    · have hX : C_fr1 x n (e / 2) s σ = sI (sI (sI σ 41 (fl x n s) (oI (bst σ x n s))) 42 (fl x n s) 0) 43 (fl x n s) (-1) := by unfold C_fr1; exact if_pos c
      have hbe := fl_best (η := η) hK hP hx hn hs
      rw [bR_k hP hn hs] at hbe
      have hfr := fl_free (σ := σ) (η := η) f1 (v := oI (bst σ x n s))
      rw [sI_id (k := 44) (by rw [sI_ne (by decide), sI_ne (by decide), sI_ne (by decide)]; exact (h44 c).2)] at hfr
      simp only [c, not_true_eq_false, if_false, x_cR hbe, x_nn, f1, if_true, x_cV hfr, hX]
    · have hX : C_fr1 x n (e / 2) s σ = σ := by unfold C_fr1; exact if_neg c
      simp only [c, not_false_eq_true, if_true, hX]
/-- the kept of the freed flows -/
theorem fl_ag0 (hK : KOk kk σ) {e i : Nat} (hi : exT σ 2 i) (h47 : σ.1 47 i = 0) : f_Tr_giveAgain 11 (some (aE e)) (some (qA 2 i)) (Kap kk σ η) = some (none, Kap kk σ η) := by
  obtain ⟨⟨k1, k2, k3, k4, k5, k6, k7, k8, k9, k10, k11, k12, k13, k14, k15, k16, k17, k18, k19, k20, k21, k22⟩, kE, kF, kP, k4s⟩ := id hK
  have hi' : i < 144 ∧ nb σ (i / 24) (i % 24 / 4) = true := hi
  obtain ⟨f1, f2, f3, f4⟩ := kF i hi'.1 hi'.2
  have hq : qA 2 i = aKQ i := rfl
  have o1 : ((0 : Int32) ≤ 0) = True := eq_true (by decide)
  obtain ⟨u, hu⟩ : ∃ u, sn_fuel = u + 1 := ⟨sn_fuel - 1, by unfold sn_fuel; omega⟩
  rw [hq]
  simp only [f_Tr_giveAgain, x_gI, f2, if_true, rd_KQ2, h47]
  rw [hu]
  simp only [f_Tr_giveAgain_5, o1, if_true, r_V]
theorem fl_ec150 {e x n : Nat} {P : Nat → Prop} {K : Nat → List Msg} (hx : x < 6) (hn : n < 6) : ∀ (r fuel : Nat) (ρ σ η : sn_FS), r ≤ 4 → r < fuel → AG kk e P ρ σ η → WI ρ → ex σ e = x → ot σ e = n → (∀ s, s < 4 → 4 - r ≤ s → P (fl x n s) → σ.1 47 (fl x n s) = nI (K s).length ∧ (K s).length ≤ 64 ∧ (∀ m ∈ K s, MV σ m) ∧ ∀ j (h : j < (K s).length), σ.2 46 (64 * fl x n s + j) = wR (K s)[j]) → (∀ s, s < 4 → ¬ P (fl x n s) → K s = []) → ∃ τ θ fu, f_Tr_endChangeover_150 11 fuel (some (aE e)) (nI (4 - r)) (Kap kk σ η) = f_Tr_endChangeover_150 11 (fu + 1) (some (aE e)) 4 (Kap kk τ θ) ∧ AG kk e P (S_ags x n (KLs K r) ρ) τ θ ∧ PE η θ ∧ SP σ τ ∧ (∀ s, s < 4 → 4 - r ≤ s → P (fl x n s) → τ.1 47 (fl x n s) = 0) ∧ ∀ t' i', t' < 3 → inD e P t' i' → (∀ s, s < 4 → 4 - r ≤ s → ¬ (t' = 2 ∧ i' = fl x n s)) → τ.1 (sk t') i' = σ.1 (sk t') i' ∧ ∀ j, j < cp t' → τ.2 (jk t') (cp t' * i' + j) = σ.2 (jk t') (cp t' * i' + j)
  | 0, fuel + 1, ρ, σ, η, _, _, hA, _, _, _, _, _ => ⟨σ, η, fuel, rfl, hA, PE.rf, SP.rf, (fun s h1 h2 _ => by omega), fun t' i' _ _ _ => ⟨rfl, fun _ _ => rfl⟩⟩
  | r + 1, fuel + 1, ρ, σ, η, hr, hf, hA, hw, ex1, ot1, hKs, hKn => by
    have hs : 4 - (r + 1) < 4 := by omega
    have hss : 4 - (r + 1) + 1 = 4 - r := by omega
    have hL0 : KLs K (r + 1) = K (4 - (r + 1)) ++ KLs K r := rfl
    have hK1 := hKs (4 - (r + 1)) hs (by omega)
    have hlow : ∀ s', s' < 4 → 4 - r ≤ s' → fl x n s' ≠ fl x n (4 - (r + 1)) := fun s' _ _ => by unfold fl; omega
    have hmid : ∀ s', s' < 4 → 4 - (r + 1) ≤ s' → s' = 4 - (r + 1) ∨ 4 - r ≤ s' := fun s' _ _ => by omega
    generalize hS : 4 - (r + 1) = s at hs hss hL0 hK1 hlow hmid
    obtain ⟨hX, hF, hK, hH, hG, hT, he⟩ := id hA
    obtain ⟨⟨k1, k2, k3, k4, k5, k6, k7, k8, k9, k10, k11, k12, k13, k14, k15, k16, k17, k18, k19, k20, k21, k22⟩, kE, kF, kP, k4s⟩ := id hK
    obtain ⟨e1, e2, e3, e4, e5, e6, e7⟩ := kE e he
    have o1 : ((4 : Int32) ≤ nI s) = False := eq_false (nI_ge (b := 4) hs (by omega))
    have hb : nb σ x n = true := by rw [← ex1, ← ot1]; exact nb_end hG.1 he
    obtain ⟨f1, f2, f3, f4⟩ := hK.flow hx hn hs hb
    have hf1 := fl_lt hx hn hs
    obtain ⟨g1, g2, -⟩ := fl_x (x := x) hn hs
    have hfl : f_Tr_flowTo 11 (nI x) (nI n) (nI s) (Kap kk σ η) = some (some (va_rf (some (aF (fl x n s)))), Kap kk σ η) := by rw [fl_flowTo hK hx hn hs, fR, if_pos hb]
    have o2 : (some (aF (fl x n s)) = none) = False := by simp
    have hi : exT σ 2 (fl x n s) := ⟨hf1, by rw [g1, g2]; exact hb⟩
    have hq : some (aKQ (fl x n s)) = some (qA 2 (fl x n s)) := rfl
    have hstep : ∀ (κ : sn_Mem), f_Tr_giveAgain 11 (some (aE e)) (some (qA 2 (fl x n s))) (Kap kk σ η) = some (none, κ) → σ.1 42 (fl x n s) = 0 → f_Tr_endChangeover_150 11 (fuel + 1) (some (aE e)) (nI s) (Kap kk σ η) = f_Tr_endChangeover_150 11 fuel (some (aE e)) (nI (4 - r)) κ := by
      intro κ hκ h42
      conv => lhs; simp only [x_ite, f_Tr_endChangeover_150, o1, if_false, x_gI, e1, if_true, rd_E2, rd_E3, ex1, ot1, x_nn, k11, x_cR hfl, o2, f1, rd_F2, h42, not_true_eq_false, x_gR, rr_F6, hq, x_cV hκ, f_Tr_endChangeover_195, nI_1, hss]
    rw [hL0, S_ags_app]
    by_cases c : P (fl x n s)
    · obtain ⟨q1, q2, q3, q4⟩ := hK1 c
      have h42 : σ.1 42 (fl x n s) = 0 := by rw [hX.at (by decide)]; exact hF.2 _ c
      have hD : inD e P 2 (fl x n s) := by unfold inD; rw [if_pos rfl]; exact c
      obtain ⟨τ1, θ1, a1, a2, a3, a4, a5, a6⟩ := fl_giveAgain (by decide) hD (K s) ρ σ η q2 hA hi ex1 ot1 q1 q3 q4
      have hMO : ∀ m ∈ K s, MOk m := fun m h => (q3 m h).1
      obtain ⟨τ, θ, fu, b1, b2, b3, b4, b5, b6⟩ := fl_ec150 hx hn r fuel (S_ags x n (K s) ρ) τ1 θ1 (by omega) (by omega) a2 ((QC_ags hx hn (K s) ρ hw hMO).wi hw) (by rw [a4.exE]; exact ex1) (by rw [a4.otE]; exact ot1) (fun s' h1 h2 h3 => by
        obtain ⟨p1, p2, p3, p4⟩ := hKs s' h1 (by omega) h3
        have hD' : inD e P 2 (fl x n s') := by unfold inD; rw [if_pos rfl]; exact h3
        obtain ⟨z1, z2⟩ := a6 2 (fl x n s') (by decide) hD' (fun q => hlow s' h1 h2 q.2)
        refine ⟨z1.trans p1, p2, fun m hm => by rw [MV.sp a4]; exact p3 m hm, fun j hj => ?_⟩
        have : τ1.2 46 (64 * fl x n s' + j) = σ.2 46 (64 * fl x n s' + j) := z2 j (by show j < 64; omega)
        rw [this]; exact p4 j hj) hKn
      refine ⟨τ, θ, fu, by rw [hstep _ a1 h42]; exact b1, b2, a3.tr b3, a4.tr b4, fun s' h1 h2 h3 => ?_, fun t' i' ht' hD' hne => ?_⟩
      · rcases hmid s' h1 (by omega) with rfl | h4
        · by_cases h5 : 4 - r ≤ s'
          · exact b5 s' h1 h5 h3
          · have z := (b6 2 (fl x n s') (by decide) hD (fun s2 h6 h7 q => hlow s2 h6 h7 q.2.symm)).1
            exact z.trans a5
        · exact b5 s' h1 h4 h3
      · have z := b6 t' i' ht' hD' (fun s2 h6 h7 => hne s2 h6 (by omega))
        have z2 := a6 t' i' ht' hD' (hne s hs (by omega))
        exact ⟨z.1.trans z2.1, fun j hj => (z.2 j hj).trans (z2.2 j hj)⟩
    · have hnil := hKn s hs c
      rw [hnil]
      show ∃ τ θ fu, _ ∧ AG kk e P (S_ags x n (KLs K r) ρ) τ θ ∧ _
      obtain ⟨τ, θ, fu, b1, b2, b3, b4, b5, b6⟩ := fl_ec150 hx hn r fuel ρ σ η (by omega) (by omega) hA hw ex1 ot1 (fun s' h1 h2 h3 => hKs s' h1 (by omega) h3) hKn
      have hgo : f_Tr_endChangeover_150 11 (fuel + 1) (some (aE e)) (nI s) (Kap kk σ η) = f_Tr_endChangeover_150 11 fuel (some (aE e)) (nI (4 - r)) (Kap kk σ η) := by
        by_cases h42 : σ.1 42 (fl x n s) = 0
        · have h47 : σ.1 47 (fl x n s) = 0 := by
            rw [hX.1 47 _ (fun q => absurd q.1 (by decide)) (fun q => absurd q.1 (by decide)) (fun q => c q.2)]
            have h42' : ρ.1 42 (fl x n s) = 0 := by rw [← hX.at (by decide)]; exact h42
            rcases (hw.f1 hx hn hs).2 with q | q | q
            · exact q.2.1
            · rw [q.1] at h42'; exact absurd h42' (by decide)
            · rw [q.1] at h42'; exact absurd h42' (by decide)
          exact hstep _ (fl_ag0 hK hi h47) h42
        · conv => lhs; simp only [x_ite, f_Tr_endChangeover_150, o1, if_false, x_gI, e1, if_true, rd_E2, rd_E3, ex1, ot1, x_nn, k11, x_cR hfl, o2, f1, rd_F2, h42, not_false_eq_true, f_Tr_endChangeover_195, nI_1, hss]
      refine ⟨τ, θ, fu, by rw [hgo]; exact b1, b2, b3, b4, fun s' h1 h2 h3 => ?_, fun t' i' ht' hD' hne => b6 t' i' ht' hD' (fun s2 h6 h7 => hne s2 h6 (by omega))⟩
      rcases hmid s' h1 (by omega) with rfl | h4
      · exact absurd h3 c
      · exact b5 s' h1 h4 h3
