/-! LAYER 2: cut, damage, route, activate -/
variable {kk : Nat → Nat} {σ η : sn_FS}
theorem FrI.eq {τ : sn_FS} (h : FrI σ) (hs : SP σ τ) (h1 : ∀ k i, k ∈ nrL → 2 * nl σ ≤ i → τ.1 k i = σ.1 k i) (h2 : ∀ i, τ.1 45 i = σ.1 45 i) (h3 : ∀ l, l < 10 → ((τ.1 2 l = 0 ∨ τ.1 2 l = 1) ∧ (τ.1 3 l = 0 ∨ τ.1 3 l = 1)) ∧ (nl σ ≤ l → τ.1 2 l = σ.1 2 l ∧ τ.1 3 l = σ.1 3 l)) : FrI τ := by
  obtain ⟨a1, a2, a3⟩ := h
  refine ⟨fun k e hk he h20 => ?_, fun x n s hx hn hs' hb => ?_, fun l hl => ?_⟩
  · rw [hs.nlE] at he
    rw [h1 k e hk he]; exact a1 k e hk he h20
  · rw [hs.nbE] at hb
    rw [h2]; exact a2 x n s hx hn hs' hb
  · obtain ⟨⟨b1, b2⟩, b3⟩ := h3 l hl
    refine ⟨b1, b2, fun q => ?_⟩
    rw [hs.nlE] at q
    obtain ⟨c1, c2⟩ := b3 q
    rw [c1, c2]; exact (a3 l hl).2.2 q
theorem TmA.eq {τ : sn_FS} {d : Nat} (h : TmA d σ) (h6 : τ.1 6 0 = σ.1 6 0) (hk : ∀ k i, k ∈ tmL → τ.1 k i = σ.1 k i) : TmA d τ :=
  ⟨fun i hi => ⟨(h.1 i hi).1.eq h6 (hk 11 i (by decide)), (h.1 i hi).2.1.eq h6 (hk 20 i (by decide)), (h.1 i hi).2.2.eq h6 (hk 40 i (by decide))⟩, fun f hf => ⟨(h.2 f hf).1.eq h6 (hk 44 f (by decide)), (h.2 f hf).2.1.eq h6 (hk 53 f (by decide)), (h.2 f hf).2.2.eq h6 (hk 54 f (by decide))⟩⟩
theorem GA.m23 {k l : Nat} {v : Int32} (hA : GA σ η) (hk : k = 2 ∨ k = 3) (hl : l < nl σ) (hv : v = 0 ∨ v = 1) : GA (sI σ k l v) η := by
  obtain ⟨⟨⟨h1, h2, h3, h4, h5⟩, hR, hC, hP⟩, hF, hT, h56⟩ := hA
  have hne : ∀ k' i, k' ≠ 2 → k' ≠ 3 → (sI σ k l v).1 k' i = σ.1 k' i := fun k' i a b => sI_ne (by omega)
  have hsp : SP σ (sI σ k l v) := SP.sI (by omega)
  refine ⟨⟨⟨h1.mI (by rcases hk with rfl | rfl <;> decide), h2.mI (by rcases hk with rfl | rfl <;> decide), h3.mI (by rcases hk with rfl | rfl <;> decide), h4.mk' (fun i _ => Or.inr ⟨hne _ _ (by decide) (by decide), hne _ _ (by decide) (by decide)⟩), h5.at (hne _ _ (by decide) (by decide))⟩, hR.eq (fun k' i q => hne k' i (by omega) (by omega)), hC.eq hsp (fun k' i a b => hne k' i (by omega) (by omega)), hP⟩, hF.eq hsp (fun k' i hk' _ => hne k' i (by have := nr_of hk'; omega) (by have := nr_of hk'; omega)) (fun i => hne _ _ (by decide) (by decide)) (fun l' hl' => ?_), hT.eq (hne _ _ (by decide) (by decide)) (fun k' i q => hne k' i (by have := tm_of q; omega) (by have := tm_of q; omega)), ?_⟩
  · obtain ⟨a1, a2, -⟩ := hF.2.2 l' hl'
    have hv' : ∀ k', (σ.1 k' l' = 0 ∨ σ.1 k' l' = 1) → ((sI σ k l v).1 k' l' = 0 ∨ (sI σ k l v).1 k' l' = 1) := fun k' h => by
      by_cases c1 : k' = k
      · by_cases c2 : l' = l
        · rw [c1, c2, sI_same]; exact hv
        · rw [sI_nk c2]; exact h
      · rw [sI_ne c1]; exact h
    exact ⟨⟨hv' 2 a1, hv' 3 a2⟩, fun q => ⟨sI_nk (by omega), sI_nk (by omega)⟩⟩
  · rw [hne 5 0 (by decide) (by decide), hne 6 0 (by decide) (by decide)]; exact h56
theorem lk_cases (hK : KOk kk σ) (hP : PlanOk σ) (x1 : Int32) : (∃ l, l < nl σ ∧ x1 = nI l) ∨ (g_Md_isLink x1 σ = some (some (.int 0), σ) ∧ ∀ η, f_Pl_isLink 3 x1 (Kap kk σ η) = some (some (.int 0), Kap kk σ η)) := by
  have k3 := hK.1.2.2.1
  have hn := hP.2.1
  by_cases c0 : x1 < 0
  · right
    refine ⟨?_, fun η => ?_⟩
    · unfold g_Md_isLink g_Md_isLink_16 g_Md_isLink_17; rw [if_pos c0]; simp [z_Z]
    · unfold f_Pl_isLink f_Pl_isLink_16 f_Pl_isLink_17; rw [if_pos c0]; simp [r_Z]
  · by_cases c1 : nI (nl σ) ≤ x1
    · right
      refine ⟨?_, fun η => ?_⟩
      · unfold g_Md_isLink g_Md_isLink_16 g_Md_isLink_17; rw [if_neg c0]
        show (if σ.1 4 0 ≤ x1 then z_Z 0 else z_Z 1) σ = _
        rw [hP.1, if_pos c1]; simp [z_Z]
      · simp only [f_Pl_isLink, f_Pl_isLink_16, f_Pl_isLink_17, eq_false c0, if_false, x_gI, k3, if_true, rd_s3_0, hP.1, eq_true c1, r_Z]
        simp
    · obtain ⟨l, hl, rfl⟩ := nat_of c0 (b := nl σ) (by omega) (le_of c1)
      exact Or.inl ⟨l, hl, rfl⟩
theorem op_cut (hK : KOk kk σ) (hA : GA σ η) (x1 : Int32) {x2 : Int32} (hx2 : x2 = 0 ∨ x2 = 1) : Op kk (g_Md_cut x1 x2) (f_Sn_cut 1 x1 x2) σ η := by
  have hKo := hK
  obtain ⟨⟨k1, k2, k3, k4, k5, k6, k7, k8, k9, k10, k11, k12, k13, k14, k15, k16, k17, k18, k19, k20, k21, k22⟩, kE, kF, kP, k4s⟩ := id hK
  have hP := hA.1.1.2.1.1
  have hn := hP.2.1
  have z10 : ((1 : Int32) = 0) = False := eq_false (by decide)
  have zz : ∀ (v : Int32) (κ : sn_Mem), v = 0 ∨ v = 1 → r_Z v κ = some (some (.int v), κ) := fun v κ h => by simp [r_Z, h]
  rcases lk_cases (kk := kk) hKo hP x1 with ⟨l, hl, rfl⟩ | ⟨hg, hf⟩
  · have d3 : l < md_len 3 := by show _ < 10; omega
    have p7 : l < kL 7 := by show _ < 10; omega
    refine ⟨1, sI σ 3 l x2, η, ?_, ?_, hA.m23 (Or.inr rfl) hl hx2, SP.sI (by decide), ?_⟩
    · unfold g_Md_cut
      rw [y_I_at (gl_isLink1 hP hl), if_pos (by decide), w_Z_at d3 hx2]; simp [z_Z]
    · simp only [f_Sn_cut, x_gR, k1, if_true, rr_s1_1, x_nn, k3, x_cI (fl_isLink (η := η) hKo hP hl), z10, not_false_eq_true, rr_s3_4, x_bZ p7 (by decide) hx2, k7, wr_a7, zz 1 _ (Or.inr rfl)]
    · have : cl (sI σ 3 l x2) 6 0 = cl σ 6 0 := by unfold cl; rw [sI_ne (by decide)]
      omega
  · refine ⟨0, σ, η, ?_, ?_, hA, SP.rf, by omega⟩
    · unfold g_Md_cut
      rw [y_I_at hg, if_neg (fun q => q rfl)]; simp [z_Z]
    · simp only [f_Sn_cut, x_gR, k1, if_true, rr_s1_1, x_nn, k3, x_cI (hf η), not_true_eq_false, if_false, zz 0 _ (Or.inl rfl)]
theorem op_damage (hK : KOk kk σ) (hA : GA σ η) (x1 x2 x3 : Int32) : Op kk (g_Md_damage x1 x2 x3) (f_Sn_damage 1 x1 x2 x3) σ η := by
  have hKo := hK
  obtain ⟨⟨k1, k2, k3, k4, k5, k6, k7, k8, k9, k10, k11, k12, k13, k14, k15, k16, k17, k18, k19, k20, k21, k22⟩, kE, kF, kP, k4s⟩ := id hK
  have hP := hA.1.1.2.1.1
  have hn := hP.2.1
  have zz : ∀ (v : Int32) (κ : sn_Mem), v = 0 ∨ v = 1 → r_Z v κ = some (some (.int v), κ) := fun v κ h => by simp [r_Z, h]
  have zg : ∀ (v : Int32) (τ : sn_FS), v = 0 ∨ v = 1 → z_Z v τ = some (some (.int v), τ) := fun v κ h => by simp [z_Z, h]
  rcases end_cases (kk := kk) hKo hP x1 x2 with ⟨l, sd, hl, hs, rfl, rfl⟩ | ⟨hg, hf⟩
  · have he : 2 * l + sd < 2 * nl σ := by omega
    have h20 : 2 * l + sd < 20 := by omega
    have hfe := fl_endOf (η := η) hKo hP hl hs
    obtain ⟨e1, -⟩ := kE _ he
    have hl2 := e2l l sd
    obtain ⟨e, ee⟩ : ∃ e, e = 2 * l + sd := ⟨_, rfl⟩
    rw [← ee] at he h20 e1 hfe hl2
    have q1 : (some (aE e) = none) = False := by simp
    have d22 : e < md_len 22 := h20
    by_cases c0 : x3 < 0
    · refine ⟨0, σ, η, ?_, ?_, hA, SP.rf, by omega⟩
      · unfold g_Md_damage g_Md_damage_19
        rw [y_I_at (gl_isEnd1 hP hl hs), if_neg (by decide), if_pos c0]; exact zg _ _ (Or.inl rfl)
      · simp only [f_Sn_damage, x_gR, k1, if_true, rr_s1_2, x_nn, k11, x_cR hfe, q1, if_false, eq_true c0, f_Sn_damage_26, zz 0 _ (Or.inl rfl)]
    · by_cases c1 : x3 ≤ (100 : Int32)
      · obtain ⟨n, hn100, rfl⟩ := nat_of c0 (b := 101) (by omega) (by
          have h1 := Int32.le_iff_toInt_le.mp c1
          apply Int32.lt_iff_toInt_lt.mpr
          have a1 : (100 : Int32).toInt = 100 := by decide
          have a2 : (nI 101).toInt = 101 := by decide
          omega)
        refine ⟨1, sI σ 22 e (nI n), η, ?_, ?_, ?_, SP.sI (by decide), ?_⟩
        · unfold g_Md_damage g_Md_damage_19
          rw [y_I_at (gl_isEnd1 hP hl hs), if_neg (by decide), if_neg c0, if_pos c1, hl2, w_I_at d22]; exact zg _ _ (Or.inr rfl)
        · simp only [f_Sn_damage, x_gR, k1, if_true, rr_s1_2, x_nn, k11, x_cR hfe, q1, if_false, eq_false c0, eq_true c1, x_pI, e1, wr_E11, zz 1 _ (Or.inr rfl)]
        · obtain ⟨⟨⟨h1, h2, h3, h4, h5⟩, hR, hC, hPQ⟩, hF, hT, h56⟩ := hA
          have hne : ∀ k' i, k' ≠ 22 → (sI σ 22 e (nI n)).1 k' i = σ.1 k' i := fun k' i a => sI_ne a
          have hsp : SP σ (sI σ 22 e (nI n)) := SP.sI (by decide)
          have hw2 : WI (sI σ 22 e (nI n)) := by
            refine h2.mkE (e := e) h20 (fun k i hk => hne k i (by omega)) (fun k i hi _ => sI_nk hi) (fun e' i _ _ => hne 26 _ (by decide)) ?_ ?_ (fun q => Or.inl (by rw [hne 10 e (by decide)]; exact q))
            · obtain ⟨b1, b2, b3, b4, b5, b6, b7, b8, b9, b10, b11, b12, b13, b14⟩ := h2.e1 h20
              have hcl : cl (sI σ 22 e (nI n)) 12 e = cl σ 12 e := by unfold cl; rw [hne 12 e (by decide)]
              unfold E1
              rw [hcl, hne 10 e (by decide), hne 12 e (by decide), hne 13 e (by decide), hne 37 e (by decide), hne 27 e (by decide), hne 21 e (by decide), hne 20 e (by decide), hne 40 e (by decide), hne 29 e (by decide), hne 16 e (by decide), hne 17 e (by decide), hne 30 e (by decide), hne 31 e (by decide), hne 33 e (by decide), hne 24 e (by decide), sI_same]
              refine ⟨b1, b2, b3, b4, ?_, b6, b7, b8, b9, ⟨n, by omega, rfl⟩, b11, b12, b13, b14⟩
              obtain ⟨o, o1, o2, o3, o4⟩ := b5
              exact ⟨o, o1, o2, o3, fun i hi => by rw [hne 26 _ (by decide)]; exact o4 i hi⟩
            · rw [hne 29 e (by decide)]; exact h2.2.1 e h20
          refine ⟨⟨⟨h1.mI (by decide), hw2, h3.mI (by decide), h4.mk' (fun i _ => Or.inr ⟨hne _ _ (by decide), hne _ _ (by decide)⟩), h5.at (hne _ _ (by decide))⟩, hR.eq (fun k' i q => hne k' i (by omega)), hC.eq hsp (fun k' i a b => hne k' i (by omega)), hPQ⟩, hF.eq hsp (fun k' i hk' hi => sI_nk (by omega)) (fun i => hne _ _ (by decide)) (fun l' hl' => ?_), hT.eq (hne _ _ (by decide)) (fun k' i q => hne k' i (by have := tm_of q; omega)), ?_⟩
          · rw [hne 2 l' (by decide), hne 3 l' (by decide)]
            obtain ⟨a1, a2, -⟩ := hF.2.2 l' hl'
            exact ⟨⟨a1, a2⟩, fun _ => ⟨rfl, rfl⟩⟩
          · rw [hne 5 0 (by decide), hne 6 0 (by decide)]; exact h56
        · have : cl (sI σ 22 e (nI n)) 6 0 = cl σ 6 0 := by unfold cl; rw [sI_ne (by decide)]
          omega
      · refine ⟨0, σ, η, ?_, ?_, hA, SP.rf, by omega⟩
        · unfold g_Md_damage g_Md_damage_19
          rw [y_I_at (gl_isEnd1 hP hl hs), if_neg (by decide), if_neg c0, if_neg c1]; exact zg _ _ (Or.inl rfl)
        · simp only [f_Sn_damage, x_gR, k1, if_true, rr_s1_2, x_nn, k11, x_cR hfe, q1, if_false, eq_false c0, eq_false c1, f_Sn_damage_26, zz 0 _ (Or.inl rfl)]
  · refine ⟨0, σ, η, ?_, ?_, hA, SP.rf, by omega⟩
    · unfold g_Md_damage g_Md_damage_19
      rw [y_I_at hg, if_pos rfl]; exact zg _ _ (Or.inl rfl)
    · simp only [f_Sn_damage, x_gR, k1, if_true, rr_s1_2, x_nn, k11, x_cR (hf η), f_Sn_damage_26, zz 0 _ (Or.inl rfl)]
/-- route -/
def mbt (x y : Int32) : Bool := decide (y = -1) || (xok y && !(decide (x = y)))
theorem gl_cbt (x y : Int32) (σ : sn_FS) : g_Md_canBeTold x y σ = some (some (.int (if mbt x y then 1 else 0)), σ) := by
  unfold g_Md_canBeTold g_Md_canBeTold_17 g_Md_canBeTold_21 g_Md_canBeTold_22 mbt
  by_cases c : y = -1
  · rw [if_pos c]; simp [c, z_Z]
  · rw [if_neg c, y_I_at (gl_isX y σ)]
    by_cases d : xok y = true
    · rw [if_pos d, if_neg (by decide)]
      by_cases e : y = x
      · rw [if_pos e]; subst e; simp [c, z_Z]
      · rw [if_neg e]; simp [d, Ne.symm e, z_Z]
    · rw [if_neg d, if_pos rfl]; simp [c, d, z_Z]
theorem fl_mbt {x : Int32} (hx : xok x = true) (y : Int32) (κ : sn_Mem) : f_Pl_mayBeTold x y κ = some (some (.int (if mbt x y then 1 else 0)), κ) := by
  unfold f_Pl_mayBeTold f_Pl_mayBeTold_13 f_Pl_mayBeTold_18 mbt
  by_cases c : y = -1
  · rw [if_pos c]; simp [c, r_Z]
  · rw [if_neg c, x_cI (fl_areTwo x y κ)]
    unfold two
    by_cases d : xok y = true
    · by_cases e : x = y
      · subst e; simp [c, r_Z]
      · simp [hx, d, e, r_Z]
    · simp [c, d, r_Z]
theorem mbt_nat {x y : Int32} (h : mbt x y = true) : y = -1 ∨ ∃ n, n < 6 ∧ y = nI n := by
  unfold mbt at h
  by_cases c : y = -1
  · exact Or.inl c
  · right
    simp only [c, decide_false, Bool.false_or, Bool.and_eq_true] at h
    exact xok_nat h.1
theorem op_route (hK : KOk kk σ) (hA : GA σ η) (x1 x2 x3 x4 : Int32) : Op kk (g_Md_route_ x1 x2 x3 x4) (f_Sn_route 1 x1 x2 x3 x4) σ η := by
  have hKo := hK
  obtain ⟨⟨k1, k2, k3, k4, k5, k6, k7, k8, k9, k10, k11, k12, k13, k14, k15, k16, k17, k18, k19, k20, k21, k22⟩, kE, kF, kP, k4s⟩ := id hK
  have zz : ∀ (v : Int32) (κ : sn_Mem), v = 0 ∨ v = 1 → r_Z v κ = some (some (.int v), κ) := fun v κ h => by simp [r_Z, h]
  have zg : ∀ (v : Int32) (τ : sn_FS), v = 0 ∨ v = 1 → z_Z v τ = some (some (.int v), τ) := fun v κ h => by simp [z_Z, h]
  have z10 : ((1 : Int32) = 0) = False := eq_false (by decide)
  have hno : ∀ g f, g σ = some (some (.int 0), σ) → f (Kap kk σ η) = some (some (.int 0), Kap kk σ η) → Op kk g f σ η := fun g f a b => ⟨0, σ, η, a, b, hA, SP.rf, by omega⟩
  have hat := fl_areTwo x1 x2 (Kap kk σ η)
  have hcl0 : f_Pl_tell 3 x1 x2 x3 x4 (Kap kk σ η) = some (some (.int 0), Kap kk σ η) → f_Sn_route 1 x1 x2 x3 x4 (Kap kk σ η) = some (some (.int 0), Kap kk σ η) := fun h => by
    simp only [f_Sn_route, x_gR, k1, if_true, rr_s1_1, x_nn, k3, x_cI h, not_true_eq_false, if_false, zz 0 _ (Or.inl rfl)]
  by_cases h2 : two x1 x2 = true
  · rw [if_pos h2] at hat
    have hx1 : xok x1 = true := by unfold two at h2; simp only [Bool.and_eq_true] at h2; exact h2.1.1
    have hm3 := fl_mbt hx1 x3 (Kap kk σ η)
    have hm4 := fl_mbt hx1 x4 (Kap kk σ η)
    obtain ⟨x, d, hx, hd, hne, rfl, rfl⟩ := two_nat h2
    have hne' : ¬ nI x = nI d := fun q => hne (nI_inj (by omega) (by omega) q)
    have hpre : g_Md_route_ (nI x) (nI d) x3 x4 σ = (y_I (g_Md_canBeTold (nI x) x3) fun v4 => (if v4 = 0 then g_Md_route__47 else y_I (g_Md_canBeTold (nI x) x4) fun v5 => (if v5 = 0 then g_Md_route__47 else (if ¬ x3 = x4 then g_Md_route__49 (nI x) (nI d) x3 x4 else (if x3 = (-1 : Int32) then g_Md_route__49 (nI x) (nI d) x3 x4 else g_Md_route__47))))) σ := by
      unfold g_Md_route_
      rw [y_I_at (gl_isEx hx σ), if_neg (by decide), y_I_at (gl_isEx hd σ), if_neg (by decide), if_neg hne']
    by_cases m3 : mbt (nI x) x3 = true
    · rw [if_pos m3] at hm3
      by_cases m4 : mbt (nI x) x4 = true
      · rw [if_pos m4] at hm4
        by_cases cs : x3 = x4 ∧ ¬ x3 = -1
        · refine hno _ _ ?_ (hcl0 ?_)
          · rw [hpre, y_I_at (gl_cbt _ _ σ), if_pos m3, if_neg (by decide), y_I_at (gl_cbt _ _ σ), if_pos m4, if_neg (by decide), if_neg (fun q => q cs.1), if_neg cs.2]; exact zg _ _ (Or.inl rfl)
          · simp only [f_Pl_tell, x_cI hat, z10, if_false, x_cI hm3, x_cI hm4, not_false_eq_true, if_true, eq_true cs.1, not_true_eq_false, eq_false cs.2, zz 0 _ (Or.inl rfl)]
        · -- told
          have hp : 6 * x + d < 36 := by omega
          have d50 : 6 * x + d < md_len 50 := hp
          have d51 : 6 * x + d < md_len 51 := hp
          have p9 : 6 * x + d < kL 9 := hp
          have p10 : 6 * x + d < kL 10 := hp
          have e6 : (6 : Int32) * nI x + nI d = nI (6 * x + d) := by
            have : (6 : Int32) * nI x = nI (6 * x) := pk_mul 6 x
            rw [this, nI_add]
          have e6' : nI x * (6 : Int32) + nI d = nI (6 * x + d) := by
            have : nI x * (6 : Int32) = nI (x * 6) := pk_mul x 6
            rw [this, nI_add, Nat.mul_comm]
          obtain ⟨⟨⟨h1, hw, h3, h4, h5⟩, hR, hC, hPQ⟩, hF, hT, h56⟩ := id hA
          obtain ⟨τ0, et⟩ : ∃ τ0, τ0 = sI (sI σ 50 (6 * x + d) x3) 51 (6 * x + d) x4 := ⟨_, rfl⟩
          have hne2 : ∀ k i, k ≠ 50 → k ≠ 51 → τ0.1 k i = σ.1 k i := fun k i a b => by rw [et, sI_ne b, sI_ne a]
          have hnk : ∀ k i, i ≠ 6 * x + d → τ0.1 k i = σ.1 k i := fun k i a => by rw [et, sI_nk a, sI_nk a]
          have hsp : SP σ τ0 := ⟨fun i => hne2 _ _ (by decide) (by decide), fun i => hne2 _ _ (by decide) (by decide), fun i => hne2 _ _ (by decide) (by decide)⟩
          have hTo : ToldOk τ0 := fun i hi => by
            by_cases c : i = 6 * x + d
            · have a1 : τ0.1 50 i = x3 := by rw [et, c, sI_ne (by decide), sI_same]
              have a2 : τ0.1 51 i = x4 := by rw [et, c, sI_same]
              rw [a1, a2]
              exact ⟨mbt_nat m3, mbt_nat m4⟩
            · rw [hnk 50 i c, hnk 51 i c]; exact hw.told i hi
          have hw0 : WI τ0 := by
            obtain ⟨w1, w2, w3, w4, w5, w6, w7⟩ := hw
            refine ⟨hsp.plan w1, fun e he => by rw [hne2 29 e (by decide) (by decide)]; exact w2 e he, fun f hf => by rw [hne2 47 f (by decide) (by decide)]; exact w3 f hf, hTo, fun f hf => by rw [hne2 45 f (by decide) (by decide)]; exact w5 f hf, fun e he => ?_, fun a b c ha hb hc => ?_⟩
            · obtain ⟨b1, b2, b3, b4, b5, b6, b7, b8, b9, b10, b11, b12, b13, b14⟩ := w6 e he
              have hcl : cl τ0 12 e = cl σ 12 e := by unfold cl; rw [hne2 12 e (by decide) (by decide)]
              unfold E1
              rw [hcl, hne2 10 e (by decide) (by decide), hne2 12 e (by decide) (by decide), hne2 13 e (by decide) (by decide), hne2 37 e (by decide) (by decide), hne2 27 e (by decide) (by decide), hne2 21 e (by decide) (by decide), hne2 20 e (by decide) (by decide), hne2 40 e (by decide) (by decide), hne2 29 e (by decide) (by decide), hne2 16 e (by decide) (by decide), hne2 17 e (by decide) (by decide), hne2 22 e (by decide) (by decide), hne2 30 e (by decide) (by decide), hne2 31 e (by decide) (by decide), hne2 33 e (by decide) (by decide), hne2 24 e (by decide) (by decide)]
              refine ⟨b1, b2, b3, b4, ?_, b6, b7, b8, b9, b10, b11, b12, b13, b14⟩
              obtain ⟨o, o1, o2, o3, o4⟩ := b5
              exact ⟨o, o1, o2, o3, fun i hi => by rw [hne2 26 _ (by decide) (by decide)]; exact o4 i hi⟩
            · exact (w7 a b c ha hb hc).mk' hsp (fun k q1 q2 _ _ => hne2 k _ (by omega) (by omega)) (fun l hl hi hq h5 => by rw [hne2 10 _ (by decide) (by decide)]; exact h5)
          have hH0 : HR τ0 η := by rw [et]; exact (h1.mI (by decide)).mI (by decide)
          obtain ⟨θ, y1, y2, y3⟩ := fl_look (hKo.sp hsp) hH0 hw0.gv hTo hx
          have hq := QC_look hw0 hx
          have hL : LkA (S_look x τ0) := LkA_look2 h3 hw.told hsp hx (fun k y i hk hy hyx hi => hnk k _ (by omega)) (fun k y i hk hy hyx hi => hne2 k _ (by omega) (by omega)) (fun y n hy hyx hn => opb_at (hne2 41 _ (by decide) (by decide)) (hne2 42 _ (by decide) (by decide)))
          have ht0 : TmA 1 τ0 := hT.eq (hne2 6 0 (by decide) (by decide)) (fun k i q => hne2 k i (by have := tm_of q; omega) (by have := tm_of q; omega))
          have hC0 : ClOk τ0 := h5.at (hne2 6 0 (by decide) (by decide))
          have h6' : (S_look x τ0).1 6 0 = σ.1 6 0 := by rw [hq.at (by decide), hne2 6 0 (by decide) (by decide)]
          have hF0 : FrI τ0 := hF.eq hsp (fun k i hk _ => hne2 k i (by have := nr_of hk; omega) (by have := nr_of hk; omega)) (fun i => hne2 _ _ (by decide) (by decide)) (fun l hl => by
            rw [hne2 2 l (by decide) (by decide), hne2 3 l (by decide) (by decide)]
            obtain ⟨a1, a2, -⟩ := hF.2.2 l hl
            exact ⟨⟨a1, a2⟩, fun _ => ⟨rfl, rfl⟩⟩)
          have hR0 : RI τ0 := hR.eq (fun k i hk => hne2 k i (by omega) (by omega))
          have hCI0 : CI τ0 := hC.eq hsp (fun k i a b => hne2 k i (by omega) (by omega))
          refine ⟨1, S_look x τ0, θ, ?_, ?_, ⟨⟨⟨y2, hq.wi hw0, hL, hq.di (h4.mk' (fun i _ => Or.inr ⟨hne2 40 i (by decide) (by decide), hne2 11 i (by decide) (by decide)⟩)), hC0.at (hq.at (by decide))⟩, hq.fr.ri hR0, hCI0.eq hq.sp (fun k i a b => hq.at (by omega)), hPQ.eq y3⟩, hF0.f1 hq.f1, ht0.ts hq.ts hC0 (by decide), ?_⟩, hsp.tr hq.sp, ?_⟩
          · have h49 : g_Md_route__49 (nI x) (nI d) x3 x4 σ = some (some (.int 1), S_look x τ0) := by
              unfold g_Md_route__49
              rw [e6, w_I_at d50, w_I_at d51, ← et, y_V_at (gl_look hw0.gv hTo hx)]; exact zg _ _ (Or.inr rfl)
            rw [hpre, y_I_at (gl_cbt _ _ σ), if_pos m3, if_neg (by decide), y_I_at (gl_cbt _ _ σ), if_pos m4, if_neg (by decide)]
            by_cases q : x3 = x4
            · have q2 : x3 = -1 := by
                by_cases z : x3 = -1
                · exact z
                · exact absurd ⟨q, z⟩ cs
              rw [if_neg (fun z => z q), if_pos q2]; exact h49
            · rw [if_pos q]; exact h49
          · have h40 : f_Pl_tell_40 3 (nI x) (nI d) x3 x4 (Kap kk σ η) = some (some (.int 1), Kap kk τ0 η) := by
              simp only [f_Pl_tell_40, x_gR, k3, if_true, rr_s3_6, e6', x_bI p9 (by decide), k9, wr_a9, rr_s3_7, x_bI p10 (by decide), k10, wr_a10, ← et, zz 1 _ (Or.inr rfl)]
            have htl : f_Pl_tell 3 (nI x) (nI d) x3 x4 (Kap kk σ η) = some (some (.int 1), Kap kk τ0 η) := by
              by_cases q : x3 = x4
              · have q2 : x3 = -1 := by
                  by_cases z : x3 = -1
                  · exact z
                  · exact absurd ⟨q, z⟩ cs
                have q3 : (x4 = -1) = True := eq_true (by rw [← q]; exact q2)
                simp only [f_Pl_tell, x_cI hat, z10, if_false, x_cI hm3, x_cI hm4, not_false_eq_true, if_true, eq_true q, not_true_eq_false]
                rw [if_pos q2]; exact h40
              · simp only [f_Pl_tell, x_cI hat, z10, if_false, x_cI hm3, x_cI hm4, not_false_eq_true, if_true, eq_false q]
                exact h40
            simp only [f_Sn_route, x_gR, k1, if_true, rr_s1_1, x_nn, k3, x_cI htl, z10, not_false_eq_true, rr_s1_2, k11, x_cV y1, zz 1 _ (Or.inr rfl)]
          · rw [h6', hq.at (by decide), hne2 5 0 (by decide) (by decide)]; exact h56
          · have : cl (S_look x τ0) 6 0 = cl σ 6 0 := by unfold cl; rw [h6']
            omega
      · rw [if_neg m4] at hm4
        refine hno _ _ ?_ (hcl0 ?_)
        · rw [hpre, y_I_at (gl_cbt _ _ σ), if_pos m3, if_neg (by decide), y_I_at (gl_cbt _ _ σ), if_neg m4, if_pos rfl]; exact zg _ _ (Or.inl rfl)
        · simp only [f_Pl_tell, x_cI hat, z10, if_false, x_cI hm3, x_cI hm4, not_true_eq_false, f_Pl_tell_25, zz 0 _ (Or.inl rfl)]
    · rw [if_neg m3] at hm3
      refine hno _ _ ?_ (hcl0 ?_)
      · rw [hpre, y_I_at (gl_cbt _ _ σ), if_neg m3, if_pos rfl]; exact zg _ _ (Or.inl rfl)
      · simp only [f_Pl_tell, x_cI hat, z10, if_false, x_cI hm3, if_true, f_Pl_tell_25, zz 0 _ (Or.inl rfl)]
  · rw [if_neg h2] at hat
    refine hno _ _ ?_ (hcl0 ?_)
    · unfold g_Md_route_
      rw [y_I_at (gl_isX x1 σ)]
      by_cases a1 : xok x1 = true
      · rw [if_pos a1, if_neg (by decide), y_I_at (gl_isX x2 σ)]
        by_cases a2 : xok x2 = true
        · rw [if_pos a2, if_neg (by decide)]
          have a3 : x1 = x2 := by
            by_cases q : x1 = x2
            · exact q
            · exact absurd (by unfold two; simp [a1, a2, q]) h2
          rw [if_pos a3]; exact zg _ _ (Or.inl rfl)
        · rw [if_neg a2, if_pos rfl]; exact zg _ _ (Or.inl rfl)
      · rw [if_neg a1, if_pos rfl]; exact zg _ _ (Or.inl rfl)
    · simp only [f_Pl_tell, x_cI hat, if_true, f_Pl_tell_25, zz 0 _ (Or.inl rfl)]
