/-! LAYER 2: both change back -/
theorem isof_sy {σ : sn_FS} {l a b : Nat} : isof σ l a b = isof σ l b a := by unfold isof; rw [Nat.min_comm, Nat.max_comm]
theorem setOf_sy {σ : sn_FS} {a b : Nat} : setOf σ a b = setOf σ b a := by
  unfold setOf setFrom
  congr 1
  funext l
  exact isof_sy
theorem nb_sy {σ : sn_FS} {a b : Nat} : nb σ a b = nb σ b a := by
  unfold nb
  rw [setOf_sy]
  congr 1
  exact decide_eq_decide.mpr ⟨Ne.symm, Ne.symm⟩
variable {kk : Nat → Nat} {σ η : sn_FS}
theorem Sm.id {g : sn_G} {f : sn_M} {rv : Option Value} (hI : Inv σ η) (hg : g σ = some (none, σ)) (hf : f (Kap kk σ η) = some (rv, Kap kk σ η)) : Sm kk g f rv σ η := ⟨σ, η, hg, hf, hI, PE.rf, TS.rf, FR.rf⟩
def gBack (x1 v4 v5 : Int32) (l2 : Int64) : sn_G := y_I (g_Md_flowAt x1 v4 v5) fun v18 => q_I 42 v18 fun v19 => (if ¬ v19 = (2 : Int32) then g_Md_get_311 else y_I (g_Md_flowAt x1 v4 v5) fun v20 => q_I 45 v20 fun v21 => y_I (g_Md_twoOf l2) fun v22 => (if ¬ v21 = v22 then g_Md_get_311 else y_V (g_Md_backEnds x1 v4 v5) (g_Md_get_311)))
theorem sm_back (hK : KOk kk σ) (hI : Inv σ η) {m : Msg} (hm : MV σ m) (hk : mK m = 4) : Sm kk (gBack (nI (mT m)) (nI (mF m)) (nI (mA m)) (wR m)) (f_Tr_changeBack 11 (nI (mT m)) (wC m)) none σ η := by
  obtain ⟨hH, hw, hL, hD, hC⟩ := id hI
  obtain ⟨hmo, -, -, -, hnb, -, hA, -, -⟩ := id hm
  have hAL := hA (Or.inr hk)
  have hx : mT m < 6 := hmo.2.2.1
  have hn : mF m < 6 := hmo.2.1
  have hs : mA m < 4 := by rw [hAL]; exact hmo.2.2.2.1
  have hB : mB m < 65536 := hmo.2.2.2.2.2.1
  have hb : nb σ (mT m) (mF m) = true := by rw [nb_sy]; exact hnb
  have u1 := fun μ => fl_first hmo μ
  have u2 := fun μ => fl_from hmo μ
  have u3 := fun μ => fl_second hmo μ
  have u4 := fun τ => gl_twoOf hmo τ
  generalize mT m = x at hx hb ⊢
  generalize mF m = n at hn hb u2 ⊢
  generalize mA m = s at hs u1 ⊢
  generalize mB m = b at hB u3 u4 ⊢
  have hf := fl_lt hx hn hs
  have hP := hw.1
  have hn10 := hP.2.1
  obtain ⟨⟨k1, k2, k3, k4, k5, k6, k7, k8, k9, k10, k11, k12, k13, k14, k15, k16, k17, k18, k19, k20, k21, k22⟩, kE, kF, kP, k4s⟩ := id hK
  obtain ⟨f1, f2, f3, f4⟩ := hK.flow hx hn hs hb
  obtain ⟨g1, g2, -⟩ := fl_x (x := x) hn hs
  have hfl : f_Tr_flowTo 11 (nI x) (nI n) (nI s) (Kap kk σ η) = some (some (va_rf (some (aF (fl x n s)))), Kap kk σ η) := by rw [fl_flowTo hK hx hn hs, fR, if_pos hb]
  have o2 : (some (aF (fl x n s)) = none) = False := by simp
  have d42 : fl x n s < md_len 42 := hf
  have d45 : fl x n s < md_len 45 := hf
  by_cases c1 : σ.1 42 (fl x n s) = 2
  · by_cases c2 : σ.1 45 (fl x n s) = nI b
    · -- it changes back
      obtain ⟨q1, q2⟩ := hw.f1 hx hn hs
      have q3 : ¬ σ.1 41 (fl x n s) = -1 ∧ σ.1 43 (fl x n s) = -1 := by
        rcases q2 with q | q | q
        · rw [q.1] at c1; exact absurd c1 (by decide)
        · rw [q.1] at c1; exact absurd c1 (by decide)
        · exact q.2
      obtain ⟨l, l1, l2, l3, l4⟩ : ∃ l, l < nl σ ∧ isof σ l x n = true ∧ σ.1 41 (fl x n s) = nI l ∧ σ.1 10 (en σ l x) = 5 := by
        rcases q1 with q | q
        · exact absurd q q3.1
        · exact q
      obtain ⟨l', hbl⟩ := bst_ne (s := s) l1 l2 l4
      obtain ⟨r1, r2, r3⟩ := bst_ok hbl
      obtain ⟨w, ww, ew⟩ := hw.2.2.1 _ hf
      have hi : exT σ 2 (fl x n s) := ⟨hf, by rw [g1, g2]; exact hb⟩
      obtain ⟨ms, m1, m2, m3⟩ := ms_of hH (t := 2) (by decide) hi ew (by omega)
      obtain ⟨v45, v451, v452⟩ := hw.beg _ hf
      have hsb : SP σ (S_bb x n s σ) := ((SP.sI (k := 41) (by decide)).tr (SP.sI (k := 42) (by decide))).tr (SP.sI (k := 44) (by decide))
      have gb : ∀ k i, k ≠ 41 → k ≠ 42 → k ≠ 44 → (S_bb x n s σ).1 k i = σ.1 k i := fun k i a b c => by unfold S_bb; rw [sI_ne c, sI_ne b, sI_ne a]
      have gbi : ∀ k i, i ≠ fl x n s → (S_bb x n s σ).1 k i = σ.1 k i := fun k i a => by unfold S_bb; rw [sI_nk a, sI_nk a, sI_nk a]
      have b41 : (S_bb x n s σ).1 41 (fl x n s) = nI l' := by unfold S_bb; rw [hbl]; simp only [sn_upE, Nat.reduceEqDiff, reduceIte]; rfl
      have b42 : (S_bb x n s σ).1 42 (fl x n s) = 0 := by unfold S_bb; simp only [sn_upE, Nat.reduceEqDiff, reduceIte]
      have b44 : (S_bb x n s σ).1 44 (fl x n s) = 0 := by unfold S_bb; simp only [sn_upE, Nat.reduceEqDiff, reduceIte]
      have hs47 : SP σ (sI (S_bb x n s σ) 47 (fl x n s) 0) := hsb.tr (SP.sI (by decide))
      have hw1 : WI (sI (S_bb x n s σ) 47 (fl x n s) 0) := by
        refine hw.mkF hx hn hs (fun k i hk => by rw [sI_ne (by omega), gb k i (by omega) (by omega) (by omega)]) (fun k i h => by rw [sI_nk h, gbi k i h]) ⟨Or.inr ⟨l', ?_, ?_, ?_, ?_⟩, Or.inl ⟨?_, ?_, ?_, ?_⟩⟩ ⟨v45, v451, ?_⟩ ⟨0, by omega, ?_⟩
        · rw [hs47.nlE]; exact r1
        · rw [hs47.isofE]; exact r2
        · rw [sI_ne (by decide)]; exact b41
        · rw [hs47.enE, sI_ne (by decide), gb 10 _ (by decide) (by decide) (by decide)]; exact r3
        · rw [sI_ne (by decide)]; exact b42
        · simp only [sn_upE, Nat.reduceEqDiff, reduceIte]
        · rw [sI_ne (by decide), gb 43 _ (by decide) (by decide) (by decide)]; exact q3.2
        · rw [sI_ne (by decide)]; exact b44
        · rw [sI_ne (by decide), gb 45 _ (by decide) (by decide) (by decide)]; exact v452
        · simp only [sn_upE, Nat.reduceEqDiff, reduceIte]; rfl
      obtain ⟨J', j1, hg⟩ := gl_backEnds (ms := ms) hx hn hs hP hw1.gv (by rw [m1]; exact ew) (by omega) m3 ⟨l', hbl⟩
      have hw1' : WI ((sI (S_bb x n s σ) 47 (fl x n s) 0).1, J') := hw1.mk' (fun _ _ _ => rfl)
      have hX : XF (fl x n s) ((sI (S_bb x n s σ) 47 (fl x n s) 0).1, J') (S_bb x n s σ) := by
        refine ⟨fun k i a => ?_, fun k i a _ => (j1 k i a).symm⟩
        by_cases c : k = 47
        · exact (sI_nk (fun q => a ⟨c, q⟩)).symm
        · exact (sI_ne c).symm
      have hGb : GvOk (S_bb x n s σ) := by
        refine ⟨hsb.plan hP, fun e he => by rw [gb 29 _ (by decide) (by decide) (by decide)]; exact hw.2.1 e he, fun f hf => by rw [gb 47 _ (by decide) (by decide) (by decide)]; exact hw.2.2.1 f hf, fun f hf _ => ?_⟩
        rw [hsb.nlE]
        by_cases c : f = fl x n s
        · subst c; exact Or.inr ⟨l', r1, b41⟩
        · rw [gbi 41 f c]; exact (hw.cur f hf).1
      have hHb : HR (S_bb x n s σ) η := by unfold S_bb; exact ((hH.mI (by decide)).mI (by decide)).mI (by decide)
      generalize hρ : ((sI (S_bb x n s σ) 47 (fl x n s) 0).1, J') = ρ at hg hX hw1'
      have hρI : ∀ k i, ρ.1 k i = (sI (S_bb x n s σ) 47 (fl x n s) 0).1 k i := by rw [← hρ]; intro k i; rfl
      have r41 : ¬ ρ.1 41 (fl x n s) = -1 := by rw [hρI, sI_ne (by decide), b41]; exact nI_m1 (by omega)
      have r42 : ρ.1 42 (fl x n s) = 0 := by rw [hρI, sI_ne (by decide)]; exact b42
      obtain ⟨τ, θ, c3, c4, c5, c6, c7⟩ := fl_cb73 (kk := kk) hx hn hs ms sn_fuel ρ (S_bb x n s σ) η (by unfold sn_fuel; omega) (by omega) (hK.sp hsb) hHb hGb hX (by rw [hsb.nbE]; exact hb) r42 r41 (by rw [gb 47 _ (by decide) (by decide) (by decide), m1]; exact ew) (fun m hm => by rw [MV.sp hsb]; exact m2 m hm) m3
      have ho : opb ρ x n s = true := by unfold opb; simp [r41]
      have hq := QC_gvs hx hn hs ms ρ hw1' ho
      have hw2 := hq.wi hw1'
      have z47 : (S_gvs x n s ms ρ).1 47 (fl x n s) = 0 := by
        have h42 : (S_gvs x n s ms ρ).1 42 (fl x n s) = 0 := by rw [S_gvs_I (by decide)]; exact r42
        rcases (hw2.f1 hx hn hs).2 with q | q | q
        · exact q.2.1
        · rw [q.1] at h42; exact absurd h42 (by decide)
        · rw [q.1] at h42; exact absurd h42 (by decide)
      have hI2 : ∀ k i, τ.1 k i = (S_gvs x n s ms ρ).1 k i := by
        intro k i
        by_cases q : k = 47 ∧ i = fl x n s
        · rw [q.1, q.2, c7, z47]
        · exact c6.1 k i q
      have hKω : Kap kk τ θ = Kap kk (S_gvs x n s ms ρ) θ := Kap_of (fun k i _ => hI2 k i)
      have hHω : HR (S_gvs x n s ms ρ) θ := by
        refine HR_eq c4 hI2 (fun i => (c6.2 35 i (by decide) (by omega)).symm) (fun t ht i hi j hj => ?_)
        rcases t3 ht with rfl | rfl | rfl
        · exact (c6.2 25 _ (by decide) (by omega)).symm
        · exact (c6.2 28 _ (by decide) (by omega)).symm
        · refine (c6.2 46 (64 * i + j) (by decide) (fun q => ?_)).symm
          have hcap : cl τ 47 i ≤ 64 := by
            obtain ⟨hd, hR⟩ := c4.1 2 (by decide) i hi
            exact hR.2.1
          have hj : j < cl τ 47 i := hj
          have : i = fl x n s := by omega
          subst this
          have : cl τ 47 (fl x n s) = 0 := by unfold cl; rw [c7]; rfl
          omega
      have f1' : ∀ k i, k ≠ 7 → k ≠ 29 → k ≠ 47 → k ≠ 41 → k ≠ 42 → k ≠ 44 → (S_gvs x n s ms ρ).1 k i = σ.1 k i := fun k i a b c d e f => by
        rw [S_gvs_I ⟨a, b, c⟩, hρI, sI_ne c, gb k i d e f]
      have f2' : ∀ k i, (k = 41 ∨ k = 42 ∨ k = 44) → i ≠ fl x n s → (S_gvs x n s ms ρ).1 k i = σ.1 k i := fun k i a b => by
        rw [S_gvs_I (by omega), hρI, sI_nk b, gbi k i b]
      have hsω : SP σ (S_gvs x n s ms ρ) := ⟨fun i => f1' 0 i (by decide) (by decide) (by decide) (by decide) (by decide) (by decide), fun i => f1' 1 i (by decide) (by decide) (by decide) (by decide) (by decide) (by decide), fun i => f1' 4 i (by decide) (by decide) (by decide) (by decide) (by decide) (by decide)⟩
      refine ⟨S_gvs x n s ms ρ, θ, ?_, ?_, ⟨hHω, hw2, ?_, ?_, hC.at (f1' 6 0 (by decide) (by decide) (by decide) (by decide) (by decide) (by decide))⟩, c5, ⟨f1' 6 0 (by decide) (by decide) (by decide) (by decide) (by decide) (by decide), fun k i hk => ?_⟩, FR.of (fun k i hk => f1' k i (by omega) (by omega) (by omega) (by omega) (by omega) (by omega))⟩
      · simp only [gBack, y_I_at (gl_flowAt σ x n s), q_I_at d42, c1, not_true_eq_false, if_false, q_I_at d45, c2, y_I_at (u4 _), y_V_at hg, g_Md_get_311, z_V]
      · have hbe := fl_best (η := η) hK hP hx hn hs
        rw [bR_k hP hn hs] at hbe
        have hfr := fl_free (σ := σ) (η := η) f1 (v := oI (bst σ x n s))
        rw [sI_id (k := 43) (by rw [sI_ne (by decide), sI_ne (by decide)]; exact q3.2)] at hfr
        have hfr : f_Fl_free (aF (fl x n s)) (k_end σ (fl x n s / 24) (oI (bst σ x n s))) (Kap kk σ η) = some (none, Kap kk (S_bb x n s σ) η) := hfr
        have e47 : (S_bb x n s σ).1 47 (fl x n s) = nI ms.length := by rw [gb 47 _ (by decide) (by decide) (by decide), m1]; exact ew
        simp only [f_Tr_changeBack, x_cI (u1 _), x_cI (u2 _), x_nn, k11, if_true, x_cR hfl, o2, if_false, x_ite, x_gI, f1, rd_F2, c1, not_true_eq_false, rd_F5, c2, x_cI (u3 _), rd_F0, g2, x_cR hbe, x_cV hfr, x_gR, rr_F6, f2, rd_KQ2, e47, c3, hKω]
      · refine fun y hy => (hL y hy).loc hw.told hsω hy (fun k i hk => f1' k i (by omega) (by omega) (by omega) (by omega) (by omega) (by omega)) (fun i _ => f1' 49 _ (by decide) (by decide) (by decide) (by decide) (by decide) (by decide)) (fun n' hn' => ?_)
        by_cases c : fl y n' 0 = fl x n s
        · have p41 : ¬ (S_gvs x n s ms ρ).1 41 (fl y n' 0) = -1 := by rw [c, S_gvs_I (by decide)]; exact r41
          have p42 : ¬ σ.1 42 (fl y n' 0) = 0 := by rw [c, c1]; decide
          unfold opb
          simp [p41, p42]
        · exact opb_at (f2' 41 _ (by decide) c) (f2' 42 _ (by decide) c)
      · exact hD.mk' (fun i _ => Or.inr ⟨f1' 40 i (by decide) (by decide) (by decide) (by decide) (by decide) (by decide), f1' 11 i (by decide) (by decide) (by decide) (by decide) (by decide) (by decide)⟩)
      · by_cases c : k = 44
        · subst c
          by_cases ci : i = fl x n s
          · right; left; rw [ci, S_gvs_I (by decide), hρI, sI_ne (by decide)]; exact b44
          · left; exact f2' 44 i (by decide) ci
        · left
          simp only [tmL, List.mem_cons, List.not_mem_nil, or_false] at hk
          exact f1' k i (by omega) (by omega) (by omega) (by omega) (by omega) c
    · refine Sm.id hI ?_ ?_
      · simp only [gBack, y_I_at (gl_flowAt σ x n s), q_I_at d42, c1, not_true_eq_false, if_false, q_I_at d45, y_I_at (u4 _), c2, not_false_eq_true, if_true, g_Md_get_311, z_V]
      · simp only [f_Tr_changeBack, x_cI (u1 _), x_cI (u2 _), x_nn, k11, if_true, x_cR hfl, o2, if_false, x_ite, x_gI, f1, rd_F2, c1, not_true_eq_false, rd_F5, c2, x_cI (u3 _), f_Tr_changeBack_45, r_V]
  · refine Sm.id hI ?_ ?_
    · simp only [gBack, y_I_at (gl_flowAt σ x n s), q_I_at d42, c1, not_false_eq_true, if_true, g_Md_get_311, z_V]
    · simp only [f_Tr_changeBack, x_cI (u1 _), x_cI (u2 _), x_nn, k11, if_true, x_cR hfl, o2, if_false, x_ite, x_gI, f1, rd_F2, c1, not_false_eq_true, f_Tr_changeBack_45, r_V]
