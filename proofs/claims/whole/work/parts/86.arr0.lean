/-! LAYER 2: an end hears a unit -/
theorem Kap_24 {kk : Nat → Nat} {σ η : sn_FS} {e : Nat} {v : Int32} : Kap kk (sI σ 24 e v) η = Kap kk σ η := by
  have hT : ∀ p ∈ k_T, p.2 ≠ 24 := by decide +kernel
  exact Kap_ext ⟨SP.sI (by decide), fun p hp i => sI_ne (hT p hp), fun i => sI_ne (by decide), fun i => congrArg ccd (sI_ne (by decide)), fun i => sI_ne (by decide), fun i => sI_ne (by decide), fun i => sI_ne (by decide), fun i => sI_ne (by decide)⟩
theorem ccd_1 (v : Int32) : ((ccd v + 1) % (16 : Int32)) = ccd (v + 1) := by
  have h1 : ∀ c, c < 16 → (nI c + 1) % (16 : Int32) = nI ((c + 1) % 16) := by decide +kernel
  unfold ccd
  rw [h1 _ (Nat.mod_lt _ (by decide))]
  congr 1
  have : (v + 1).toBitVec.toNat = (v.toBitVec.toNat + 1) % 2 ^ 32 := by
    show (v.toBitVec + 1#32).toNat = _
    rw [BitVec.toNat_add]; rfl
  rw [this]
  omega
theorem ccd_0 (v : Int32) : (ccd v = 0) ↔ (v % (16 : Int32) = 0) := by
  have h1 : ∀ c, c < 16 → (nI c = (0 : Int32) ↔ c = 0) := by decide +kernel
  unfold ccd
  rw [h1 _ (Nat.mod_lt _ (by decide))]
  have h2 : (v % (16 : Int32) = 0) ↔ (v % (16 : Int32)).toInt = 0 := by
    constructor
    · intro q; rw [q]; rfl
    · intro q; exact Int32.toInt_inj.mp q
  rw [h2, Int32.toInt_mod]
  have h3 : (16 : Int32).toInt = 16 := by decide
  rw [h3]
  have h4 : v.toInt = v.toBitVec.toInt := rfl
  rw [h4, BitVec.toInt_eq_toNat_cond]
  rw [show ∀ x : Int, (x.tmod 16 = 0) ↔ (16 : Int) ∣ x from fun x => ⟨Int.dvd_of_tmod_eq_zero, Int.tmod_eq_zero_of_dvd⟩]
  have h5 := v.toBitVec.isLt
  split
  · omega
  · omega
def hfL : List Nat := [10, 11, 16, 17, 18, 19, 22, 24, 38]
def Hf (e : Nat) (σ τ : sn_FS) : Prop := (∀ k i, (k ∉ hfL ∨ i ≠ e) → τ.1 k i = σ.1 k i) ∧ τ.2 = σ.2
theorem Hf.rf {e : Nat} {σ : sn_FS} : Hf e σ σ := ⟨fun _ _ _ => rfl, rfl⟩
theorem Hf.sI {e : Nat} {σ τ : sn_FS} (h : Hf e σ τ) {k : Nat} {v : Int32} (hk : k ∈ hfL) : Hf e σ (sI τ k e v) := by
  refine ⟨fun k' i h' => ?_, h.2⟩
  rcases h' with q | q
  · have hne : k' ≠ k := fun z => q (by rw [z]; exact hk)
    rw [sI_ne hne]; exact h.1 k' i (Or.inl q)
  · rw [sI_nk q]; exact h.1 k' i (Or.inr q)
theorem Hf.at {e : Nat} {σ τ : sn_FS} (h : Hf e σ τ) {k i : Nat} (hk : k ∉ hfL) : τ.1 k i = σ.1 k i := h.1 k i (Or.inl hk)
theorem Hf.sp {e : Nat} {σ τ : sn_FS} (h : Hf e σ τ) : SP σ τ := ⟨fun i => h.at (by decide), fun i => h.at (by decide), fun i => h.at (by decide)⟩
theorem hear_pack {σ η τ θ : sn_FS} {e : Nat} (hI : Inv σ η) (he : e < 2 * nl σ) (hf : Hf e σ τ) (hθ : θ = η ∨ ∃ t, θ = sI η (aE e) 14 t) (h14 : τ.1 10 e = 3 → θ.1 (aE e) 14 = if τ.1 24 e = 0 then 8 else 3) (s5 : τ.1 10 e = σ.1 10 e ∨ (¬ σ.1 10 e = 5 ∧ ¬ σ.1 10 e = 0 ∧ ∃ s, s ≤ 5 ∧ τ.1 10 e = nI s)) (c16 : (4 : Int32) ≤ τ.1 10 e → ∃ c, c ≤ 6 ∧ τ.1 16 e = nI c) (c17 : τ.1 10 e = 3 → ∃ r, r ≤ 5 ∧ τ.1 17 e = nI r) (c22 : ∃ v, v < 1000 ∧ τ.1 22 e = nI v) (c24 : τ.1 24 e = 0 ∨ τ.1 24 e = 1) (h11 : τ.1 11 e = σ.1 11 e ∨ (¬ σ.1 10 e = 0 ∧ (τ.1 11 e = 0 ∨ ∃ v, 0 < v ∧ v ≤ 60 ∧ τ.1 11 e = σ.1 6 0 + nI v))) : Inv τ θ ∧ PE η θ ∧ TS σ τ ∧ FR0 σ τ := by
  obtain ⟨hH, hw, hL, hD, hC⟩ := hI
  have hP := hw.1
  have hn10 := hP.2.1
  have he20 : e < 20 := by omega
  have hs := hf.sp
  have hai : ∀ e', aE e' = aE e → e' = e := fun e' h => by unfold aE at h; omega
  have hE := hw.e1 he20
  have g : ∀ k, k ∉ hfL → τ.1 k e = σ.1 k e := fun k hk => hf.at hk
  have hwτ : WI τ := by
    refine hw.mkE he20 (fun k i hk => hf.at ?_) (fun k i hi _ => hf.1 k i (Or.inr hi)) (fun e' i _ _ => hf.at (by decide)) ?_ ?_ ?_
    · simp only [hfL, List.mem_cons, List.not_mem_nil, or_false, not_or]; omega
    · obtain ⟨a1, a2, a3, a4, a5, a6, a7, a8, a9, a10, a11, a12, a13, a14⟩ := hE
      have hcl : cl τ 12 e = cl σ 12 e := by unfold cl; rw [g 12 (by decide)]
      refine ⟨?_, ?_, ?_, ?_, ?_, ?_, ?_, c16, c17, c22, ?_, ?_, ?_, c24⟩
      · rcases s5 with q | ⟨-, -, q⟩
        · rw [q]; exact a1
        · exact q
      · rw [g 12 (by decide)]; exact a2
      · rw [g 13 (by decide)]; exact a3
      · rw [g 37 (by decide)]; exact a4
      · obtain ⟨o, o1, o2, o3, o4⟩ := a5
        refine ⟨o, o1, by rw [g 27 (by decide)]; exact o2, by rw [g 21 (by decide)]; exact o3, fun i hi => ?_⟩
        rw [hcl, hf.at (by decide)]; exact o4 i hi
      · intro q5
        rw [g 21 (by decide), g 20 (by decide), g 40 (by decide), g 27 (by decide), g 29 (by decide)]
        rcases s5 with q | ⟨q, -⟩
        · exact a6 (by rw [← q]; exact q5)
        · exact a6 q
      · intro q40
        rw [g 40 (by decide)] at q40
        rcases s5 with q | ⟨-, q, -⟩
        · rw [q]; exact a7 q40
        · exact absurd (a7 q40) q
      · rw [g 30 (by decide)]; exact a11
      · rw [g 31 (by decide)]; exact a12
      · rw [g 33 (by decide)]; exact a13
    · rw [g 29 (by decide)]; exact hw.2.1 e he20
    · intro q
      left
      rcases s5 with z | ⟨z, -⟩
      · rw [z]; exact q
      · exact absurd q z
  have hθ2 : θ.2 = η.2 := by
    rcases hθ with rfl | ⟨t, rfl⟩
    · rfl
    · rfl
  have hθ1 : ∀ a j, a ≠ aE e → θ.1 a j = η.1 a j := by
    intro a j ha
    rcases hθ with rfl | ⟨t, rfl⟩
    · rfl
    · exact sI_ne ha
  have hHτ : HR τ θ := by
    refine ⟨hH.1.mk' hs (fun t ht i _ => ⟨congrArg Int32.toNatClampNeg (hf.at ?_), fun j _ => by rw [hf.2]⟩) (fun t ht i => ⟨hθ1 _ _ (fun q => (aU_q (e := e) (i := i) ht).2.2.1 q.symm), fun j => by rw [hθ2]⟩), hH.2.1.mk' hs (fun k' i h1 h2 => hf.at ?_) (fun i => by rw [hf.2]) (fun e' j => ⟨hθ1 _ _ (fun q => by unfold aU aE at q; omega), by rw [hθ2]⟩), ?_⟩
    · rcases t3 ht with rfl | rfl | rfl <;> decide
    · simp only [hfL, List.mem_cons, List.not_mem_nil, or_false, not_or]; omega
    · intro e' he' h3
      by_cases c : e' = e
      · subst c; exact h14 h3
      · rw [hf.1 10 e' (Or.inr c)] at h3
        rw [hs.nlE] at he'
        rw [hf.1 24 e' (Or.inr c), hθ1 _ _ (fun q => c (hai e' q))]
        exact hH.2.2 e' he' h3
  have hts : TS σ τ := by
    refine ⟨hf.at (by decide), fun k i hk => ?_⟩
    by_cases c : k = 11 ∧ i = e
    · obtain ⟨rfl, rfl⟩ := c
      rcases h11 with q | ⟨-, q⟩
      · exact Or.inl q
      · exact Or.inr q
    · left
      refine hf.1 k i ?_
      by_cases ci : i = e
      · left
        have hk11 : k ≠ 11 := fun q => c ⟨q, ci⟩
        have := tm_of hk
        simp only [hfL, List.mem_cons, List.not_mem_nil, or_false, not_or]; omega
      · exact Or.inr ci
  refine ⟨⟨hHτ, hwτ, hL.mk' hs (fun k i hk => hf.at ?_), ?_, hC.at hts.1⟩, ⟨fun j => hθ1 _ _ (by unfold aE; omega), fun j => by rw [hθ2]⟩, hts, fun k i hk => hf.at ?_, fun k i hk hi => hf.1 k i (Or.inr (by omega)), fun x n s _ _ _ => hf.at (by decide)⟩
  · simp only [hfL, List.mem_cons, List.not_mem_nil, or_false, not_or]; omega
  · refine hD.mk' (fun i hi => ?_)
    by_cases c : i = e
    · rcases h11 with q | ⟨q, -⟩
      · right; rw [c]; exact ⟨hf.at (by decide), q⟩
      · left
        rw [c, hf.at (by decide)]
        by_cases z : σ.1 40 e = 0
        · exact z
        · exact absurd (hE.2.2.2.2.2.2.1 z) q
    · right; exact ⟨hf.at (by decide), hf.1 11 i (Or.inr c)⟩
  · simp only [hfL, List.mem_cons, List.not_mem_nil, or_false, not_or]; omega
variable {kk : Nat → Nat} {σ η : sn_FS}
/-- both enter a state, both prove -/
theorem fl_enter (k2 : kk 2 = 1) {e : Nat} (e1 : kk (aE e) = 2) {v t : Int32} : f_En_enter (aE e) v t (Kap kk σ η) = some (none, Kap kk (sI (sI σ 10 e v) 11 e (σ.1 6 0 + t)) η) := by
  have h6 : (sI σ 10 e v).1 6 0 = σ.1 6 0 := sI_ne (by decide)
  simp only [f_En_enter, x_pI, e1, if_true, wr_E7, x_gR, rr_E0, x_nn, k2, x_after k2, sn_upE, Nat.reduceEqDiff, reduceIte, wr_E8, r_V]
theorem fl_prove (k2 : kk 2 = 1) {e : Nat} (e1 : kk (aE e) = 2) {t : Int32} : f_En_prove (aE e) t (Kap kk σ η) = some (none, Kap kk (sI (sI (sI σ 10 e 3) 11 e (σ.1 6 0 + t)) 18 e 0) (sI η (aE e) 14 t)) := by
  have h6 : (sI σ 10 e 3).1 6 0 = σ.1 6 0 := sI_ne (by decide)
  simp only [f_En_prove, x_pI, e1, if_true, wr_E7, x_gR, rr_E0, x_nn, k2, x_after k2, sn_upE, Nat.reduceEqDiff, reduceIte, wr_E8, wr_E14, wr_E16, r_V]
theorem gl_align {e : Nat} (he : e < 20) : g_Md_align (nI e) σ = some (none, sI (sI σ 10 e 2) 11 e (σ.1 6 0 + 15)) := by
  have d10 : e < md_len 10 := he
  have d11 : e < md_len 11 := he
  have h6 : (sI σ 10 e 2).1 6 0 = σ.1 6 0 := sI_ne (by decide)
  simp only [g_Md_align, w_I_at d10, q_S, sn_upE, Nat.reduceEqDiff, reduceIte, w_I_at d11, z_V]
theorem gl_prove {e : Nat} (he : e < 20) {b : Int32} (hb : b = 0 ∨ b = 1) : g_Md_prove (nI e) b σ = some (none, sI (sI (sI σ 11 e (σ.1 6 0 + (if b = 0 then 8 else 3))) 18 e 0) 24 e b) := by
  have d24 : e < md_len 24 := he
  have d18 : e < md_len 18 := he
  have d11 : e < md_len 11 := he
  have hsw : ∀ t, sI (sI (sI σ 24 e b) 18 e 0) 11 e (σ.1 6 0 + t) = sI (sI (sI σ 11 e (σ.1 6 0 + t)) 18 e 0) 24 e b := fun t => by
    rw [sI_sw (k := 24) (k' := 18) (by decide), sI_sw (k := 24) (k' := 11) (by decide), sI_sw (k := 18) (k' := 11) (by decide)]
  rcases hb with rfl | rfl
  · have o1 : ((0 : Int32) = 0) = True := eq_true rfl
    simp only [g_Md_prove, w_Z_at d24 (Or.inl rfl), w_I_at d18, q_S, sn_upE, Nat.reduceEqDiff, reduceIte, y_ite, o1, if_true, g_Md_prove_33, w_I_at d11, z_V, hsw]
  · have o1 : ((1 : Int32) = 0) = False := eq_false (by decide)
    simp only [g_Md_prove, w_Z_at d24 (Or.inr rfl), w_I_at d18, q_S, sn_upE, Nat.reduceEqDiff, reduceIte, y_ite, o1, if_false, g_Md_prove_33, w_I_at d11, z_V, hsw]
