/-! LAYER 2: the timers of changebacks, and all timers -/
variable {kk : Nat → Nat}
theorem F1_44 {σ : sn_FS} {x n s : Nat} (h : F1 σ x n s) (h44 : ¬ σ.1 44 (fl x n s) = 0) : σ.1 42 (fl x n s) = 2 ∧ σ.1 43 (fl x n s) = -1 ∧ ∃ l, l < nl σ ∧ isof σ l x n = true ∧ σ.1 41 (fl x n s) = nI l ∧ σ.1 10 (en σ l x) = 5 := by
  rcases h.2 with q | q | q
  · exact absurd q.2.2.2 h44
  · exact absurd q.2.2.1 h44
  · refine ⟨q.1, q.2.2, ?_⟩
    rcases h.1 with z | z
    · exact absurd z q.2.1
    · exact z
/-- one changeback that has lasted too long: BACK again -/
theorem sn_back {σ η : sn_FS} (hK : KOk kk σ) (hI : Inv σ η) (hR : RI σ) {x n s : Nat} (hx : x < 6) (hn : n < 6) (hs : s < 4) (h44 : ¬ σ.1 44 (fl x n s) = 0) : ∃ l b θ, l < nl σ ∧ b < 256 ∧ σ.1 41 (fl x n s) = nI l ∧ σ.1 45 (fl x n s) = nI b ∧ nb σ x n = true ∧ MOk (3, x, n, s, s, b, 0) ∧ en σ l x < 20 ∧ f_Tr_sendBack 11 (some (aF (fl x n s))) (nI x) (nI s) (Kap kk σ η) = some (none, Kap kk (sI (S_wait (en σ l x) (wR (3, x, n, s, s, b, 0)) σ) 44 (fl x n s) (σ.1 6 0 + 20)) θ) ∧ Inv (sI (S_wait (en σ l x) (wR (3, x, n, s, s, b, 0)) σ) 44 (fl x n s) (σ.1 6 0 + 20)) θ ∧ PE η θ ∧ TS σ (sI (S_wait (en σ l x) (wR (3, x, n, s, s, b, 0)) σ) 44 (fl x n s) (σ.1 6 0 + 20)) ∧ FR σ (sI (S_wait (en σ l x) (wR (3, x, n, s, s, b, 0)) σ) 44 (fl x n s) (σ.1 6 0 + 20)) := by
  obtain ⟨hH, hw, hL, hD, hC⟩ := hI
  have hP := hw.1
  have hn10 := hP.2.1
  have hf := fl_lt hx hn hs
  obtain ⟨c42, c43, l, l1, l2, l3, l4⟩ := F1_44 (hw.f1 hx hn hs) h44
  obtain ⟨b, b1, b2⟩ := hw.beg _ hf
  have hnb := nb_of hP l1 l2
  have he20 : en σ l x < 20 := by unfold en; split <;> omega
  obtain ⟨θ, y1, y2, y3⟩ := fl_sendBack hK hH hw.gv hx hn hs hnb l1 l3 b1 b2
  have hq := QC_wait hw.gv l4 (wR (3, x, n, s, s, b, 0))
  have hw1 := hq.wi hw
  have hs1 := hq.sp
  have gI : ∀ k i, k ≠ 44 → (sI (S_wait (en σ l x) (wR (3, x, n, s, s, b, 0)) σ) 44 (fl x n s) (σ.1 6 0 + 20)).1 k i = (S_wait (en σ l x) (wR (3, x, n, s, s, b, 0)) σ).1 k i := fun k i hk => sI_ne hk
  have hmo : MOk (3, x, n, s, s, b, 0) := ⟨show (3 : Nat) < 16 by decide, hx, hn, hs, show s < 256 by omega, show b < 65536 by omega, show (0 : Nat) < 9 by decide⟩
  have hs2 : SP (S_wait (en σ l x) (wR (3, x, n, s, s, b, 0)) σ) (sI (S_wait (en σ l x) (wR (3, x, n, s, s, b, 0)) σ) 44 (fl x n s) (σ.1 6 0 + 20)) := SP.sI (by decide)
  have hts : TS σ (sI (S_wait (en σ l x) (wR (3, x, n, s, s, b, 0)) σ) 44 (fl x n s) (σ.1 6 0 + 20)) := by
    refine hq.ts.tr ⟨gI 6 0 (by decide), fun k i hk => ?_⟩
    by_cases c : k = 44
    · subst c
      by_cases ci : i = fl x n s
      · right; right
        exact ⟨20, by omega, by omega, by rw [ci, hq.ts.1]; simp only [sn_upE, Nat.reduceEqDiff, reduceIte]; rfl⟩
      · left; exact sI_nk ci
    · left; exact gI k i c
  have hfr : FR σ (sI (S_wait (en σ l x) (wR (3, x, n, s, s, b, 0)) σ) 44 (fl x n s) (σ.1 6 0 + 20)) := hq.fr.tr (FR.of (fun k i hk => gI k i (by omega)))
  refine ⟨l, b, θ, l1, b1, l3, b2, hnb, hmo, he20, y1, ⟨y2, ?_, ?_, ?_, hC.at hts.1⟩, y3, hts, hfr⟩
  · refine hw1.mkF hx hn hs (fun k i hk => gI k i (by omega)) (fun k i h => sI_nk h) ?_ ?_ ?_
    · obtain ⟨F1a, F1b⟩ := hw1.f1 hx hn hs
      refine ⟨?_, Or.inr (Or.inr ⟨?_, ?_, ?_⟩)⟩
      · rw [hs2.nlE, hs2.isofE, hs2.enE, gI 41 _ (by decide)]
        simp only [gI 10 _ (by decide)]
        exact F1a
      · rw [gI 42 _ (by decide), hq.at (by decide)]; exact c42
      · rw [gI 41 _ (by decide), hq.at (by decide), l3]; exact nI_m1 (by omega)
      · rw [gI 43 _ (by decide), hq.at (by decide)]; exact c43
    · rw [gI 45 _ (by decide)]; exact hw1.beg _ hf
    · rw [gI 47 _ (by decide)]; exact hw1.2.2.1 _ hf
  · exact (hq.lk (fun i => S_wait_I σ (by decide)) hL).mI (by decide)
  · exact (hq.di hD).mk' (fun i _ => Or.inr ⟨gI 40 i (by decide), gI 11 i (by decide)⟩)
theorem tm_b4 {x n : Nat} (hx : x < 6) (hn : n < 6) : ∀ (r fuel fuel' : Nat) (σ η : sn_FS), r ≤ 4 → r < fuel → r < fuel' → KOk kk σ → Inv σ η → RI σ → (∀ s, s < 4 → Tm 0 σ 44 (fl x n s)) → ∃ τ θ, (∀ K, g_Md_one_152 K fuel (nI x) (nI n) (nI (4 - r)) σ = K (nI x) (nI (n + 1)) τ) ∧ (∀ K, f_Tr_runChangebackTimers_10 K 11 fuel' (nI x) (nI n) (nI (4 - r)) (Kap kk σ η) = K (nI x) (nI (n + 1)) (Kap kk τ θ)) ∧ Inv τ θ ∧ RI τ ∧ PE η θ ∧ TS σ τ ∧ FR0 σ τ ∧ ∀ s, s < 4 → 4 - r ≤ s → Tm 1 τ 44 (fl x n s)
  | 0, fuel + 1, fuel' + 1, σ, η, _, _, _, hK, hI, hR, hT => by
    have o1 : ((4 : Int32) ≤ nI (4 - 0)) = True := eq_true (by decide)
    refine ⟨σ, η, fun K => ?_, fun K => ?_, hI, hR, PE.rf, TS.rf, FR0.rf, fun s h1 h2 => by omega⟩
    · simp only [g_Md_one_152, o1, if_true, nI_1]
    · simp only [f_Tr_runChangebackTimers_10, o1, if_true, nI_1]
  | r + 1, fuel + 1, fuel' + 1, σ, η, hr, hf, hf', hK, hI, hR, hT => by
    have hs : 4 - (r + 1) < 4 := by omega
    have hss : 4 - (r + 1) + 1 = 4 - r := by omega
    have hmid : ∀ s', s' < 4 → 4 - (r + 1) ≤ s' → s' = 4 - (r + 1) ∨ 4 - r ≤ s' := fun s' _ _ => by omega
    generalize hS : 4 - (r + 1) = s at hs hss hmid
    obtain ⟨⟨k1, k2, k3, k4, k5, k6, k7, k8, k9, k10, k11, k12, k13, k14, k15, k16, k17, k18, k19, k20, k21, k22⟩, kE, kF, kP, k4s⟩ := id hK
    have hC := hI.2.2.2.2
    obtain ⟨c1, c2⟩ := hC.cl
    have hw := hI.2.1
    have hP := hw.1
    have hn10 := hP.2.1
    have hff := fl_lt hx hn hs
    have d44 : fl x n s < md_len 44 := hff
    have d41 : fl x n s < md_len 41 := hff
    have d45 : fl x n s < md_len 45 := hff
    have o1 : ((4 : Int32) ≤ nI s) = False := eq_false (nI_ge (b := 4) hs (by omega))
    have t44 := hT s hs
    have hfT := fl_flowTo (kk := kk) (η := η) hK hx hn hs
    -- then the next flow
    have step : ∀ (τ θ : sn_FS), Inv τ θ → RI τ → PE η θ → TS σ τ → FR0 σ τ → (∀ K, g_Md_one_152 K (fuel + 1) (nI x) (nI n) (nI s) σ = g_Md_one_152 K fuel (nI x) (nI n) (nI (4 - r)) τ) → (∀ K, f_Tr_runChangebackTimers_10 K 11 (fuel' + 1) (nI x) (nI n) (nI s) (Kap kk σ η) = f_Tr_runChangebackTimers_10 K 11 fuel' (nI x) (nI n) (nI (4 - r)) (Kap kk τ θ)) → Tm 1 τ 44 (fl x n s) → ∃ τ θ, (∀ K, g_Md_one_152 K (fuel + 1) (nI x) (nI n) (nI s) σ = K (nI x) (nI (n + 1)) τ) ∧ (∀ K, f_Tr_runChangebackTimers_10 K 11 (fuel' + 1) (nI x) (nI n) (nI s) (Kap kk σ η) = K (nI x) (nI (n + 1)) (Kap kk τ θ)) ∧ Inv τ θ ∧ RI τ ∧ PE η θ ∧ TS σ τ ∧ FR0 σ τ ∧ ∀ s', s' < 4 → s ≤ s' → Tm 1 τ 44 (fl x n s') := by
      intro τ θ iI iR iE iT iF hg hfl hdn
      obtain ⟨ω, ζ, b1, b2, b3, b4, b5, b6, b7, b8⟩ := tm_b4 hx hn r fuel fuel' τ θ (by omega) (by omega) (by omega) (hK.sp iF.sp) iI iR (fun s' h' => (hT s' h').ts iT hC (by decide) (by omega))
      refine ⟨ω, ζ, fun K => by rw [hg, b1], fun K => by rw [hfl, b2], b3, b4, iE.tr b5, iT.tr b6, iF.tr b7, fun s' h1 h2 => ?_⟩
      rcases hmid s' h1 h2 with rfl | h4
      · exact hdn.ts b6 iI.2.2.2.2 (by decide) (by omega)
      · exact b8 s' h1 h4
    have o2 : (some (aF (fl x n s)) = none) = False := by simp
    have hdec : Decidable (out σ 44 (fl x n s)) := Classical.propDecidable _
    have hio := fl_isOut (η := η) k2 hC t44 (d := hdec)
    have z10 : ((1 : Int32) = 0) = False := eq_false (by decide)
    by_cases co : out σ 44 (fl x n s)
    · obtain ⟨l, b, θ, l1, b1, l3, b2, hnb, hmo, he20, y1, y2, y3, y4, y5⟩ := sn_back hK hI hR hx hn hs co.1
      rw [if_pos co] at hio
      obtain ⟨f1, f2, f3, f4⟩ := hK.flow hx hn hs hnb
      rw [fR, if_pos hnb] at hfT
      refine step _ θ y2 (y5.ri hR) y3 y4 y5.1 (fun K => ?_) (fun K => ?_) ?_
      · have hen := gl_endAt hP l1 hx
        have hms := gl_message hmo σ
        have hms : g_Md_message 3 (nI x) (nI n) (nI s) (nI s) (nI b) σ = _ := hms
        have hwt := gl_waitAt (m := wR (3, x, n, s, s, b, 0)) he20 (hw.2.1 _ he20)
        have h6 : (S_wait (en σ l x) (wR (3, x, n, s, s, b, 0)) σ).1 6 0 = σ.1 6 0 := S_wait_I σ (by decide)
        have co2 : (σ.1 44 (fl x n s) = σ.1 6 0) = True := eq_true co.2
        simp only [g_Md_one_152, o1, if_false, y_I_at (gl_flowAt σ x n s), q_I_at d44, co.1, q_S, co2, if_true, q_I_at d41, l3, y_I_at hen, q_I_at d45, b2, y_J_at hms, y_V_at hwt, h6, w_I_at d44, g_Md_one_238, nI_1, hss]
      · simp only [f_Tr_runChangebackTimers_10, o1, if_false, x_nn, k11, if_true, x_cR hfT, o2, x_ite, x_gR, rr_s11_1, x_gI, f1, rd_F4, k2, x_cI hio, z10, x_cV y1, f_Tr_runChangebackTimers_52, nI_1, hss]
      · refine ⟨cl σ 6 0 + 20, by omega, ?_, Or.inr ?_⟩
        · have : (sI (S_wait (en σ l x) (wR (3, x, n, s, s, b, 0)) σ) 44 (fl x n s) (σ.1 6 0 + 20)).1 44 (fl x n s) = σ.1 6 0 + 20 := by simp only [sn_upE, Nat.reduceEqDiff, reduceIte]
          rw [this, c2]; exact nI_add _ 20
        · have : cl (sI (S_wait (en σ l x) (wR (3, x, n, s, s, b, 0)) σ) 44 (fl x n s) (σ.1 6 0 + 20)) 6 0 = cl σ 6 0 := by unfold cl; rw [y4.1]
          omega
    · rw [if_neg co] at hio
      refine step σ η hI hR PE.rf TS.rf FR0.rf (fun K => ?_) (fun K => ?_) (t44.st hC co)
      · by_cases c0 : σ.1 44 (fl x n s) = 0
        · simp only [g_Md_one_152, o1, if_false, y_I_at (gl_flowAt σ x n s), q_I_at d44, c0, if_true, g_Md_one_238, nI_1, hss]
        · have co2 : (σ.1 44 (fl x n s) = σ.1 6 0) = False := eq_false (fun q => co ⟨c0, q⟩)
          simp only [g_Md_one_152, o1, if_false, y_I_at (gl_flowAt σ x n s), q_I_at d44, c0, q_S, co2, g_Md_one_238, nI_1, hss]
      · by_cases hnb : nb σ x n = true
        · obtain ⟨f1, f2, f3, f4⟩ := hK.flow hx hn hs hnb
          rw [fR, if_pos hnb] at hfT
          simp only [f_Tr_runChangebackTimers_10, o1, if_false, x_nn, k11, if_true, x_cR hfT, o2, x_ite, x_gR, rr_s11_1, x_gI, f1, rd_F4, k2, x_cI hio, f_Tr_runChangebackTimers_52, nI_1, hss]
        · rw [fR, if_neg hnb] at hfT
          simp only [f_Tr_runChangebackTimers_10, o1, if_false, x_nn, k11, if_true, x_cR hfT, f_Tr_runChangebackTimers_52, nI_1, hss]
theorem tm_b6 {x : Nat} (hx : x < 6) : ∀ (r fuel fuel' : Nat) (σ η : sn_FS), r ≤ 6 → r < fuel → r < fuel' → KOk kk σ → Inv σ η → RI σ → (∀ n s, n < 6 → s < 4 → Tm 0 σ 44 (fl x n s)) → ∃ τ θ, (∀ K, g_Md_one_144 K fuel (nI x) (nI (6 - r)) σ = K (nI (x + 1)) τ) ∧ f_Tr_runChangebackTimers_2 11 fuel' (nI x) (nI (6 - r)) (Kap kk σ η) = some (none, Kap kk τ θ) ∧ Inv τ θ ∧ RI τ ∧ PE η θ ∧ TS σ τ ∧ FR0 σ τ ∧ ∀ n s, n < 6 → s < 4 → 6 - r ≤ n → Tm 1 τ 44 (fl x n s)
  | 0, fuel + 1, fuel' + 1, σ, η, _, _, _, hK, hI, hR, hT => by
    have o1 : ((6 : Int32) ≤ nI (6 - 0)) = True := eq_true (by decide)
    refine ⟨σ, η, fun K => ?_, ?_, hI, hR, PE.rf, TS.rf, FR0.rf, fun n s h1 _ h2 => by omega⟩
    · simp only [g_Md_one_144, o1, if_true, nI_1]
    · simp only [f_Tr_runChangebackTimers_2, o1, if_true, r_V]
  | r + 1, fuel + 1, fuel' + 1, σ, η, hr, hf, hf', hK, hI, hR, hT => by
    have hn : 6 - (r + 1) < 6 := by omega
    have hnn : 6 - (r + 1) + 1 = 6 - r := by omega
    have hmid : ∀ n', n' < 6 → 6 - (r + 1) ≤ n' → n' = 6 - (r + 1) ∨ 6 - r ≤ n' := fun n' _ _ => by omega
    generalize hS : 6 - (r + 1) = n at hn hnn hmid
    have o1 : ((6 : Int32) ≤ nI n) = False := eq_false (nI_ge (b := 6) hn (by omega))
    have hC := hI.2.2.2.2
    obtain ⟨τ, θ, a1, a2, a3, a4, a5, a6, a7, a8⟩ := tm_b4 hx hn 4 sn_fuel sn_fuel σ η (by omega) (by unfold sn_fuel; omega) (by unfold sn_fuel; omega) hK hI hR (fun s hs => hT n s hn hs)
    obtain ⟨ω, ζ, b1, b2, b3, b4, b5, b6, b7, b8⟩ := tm_b6 hx r fuel fuel' τ θ (by omega) (by omega) (by omega) (hK.sp a7.sp) a3 a4 (fun n' s' h1 h2 => (hT n' s' h1 h2).ts a6 hC (by decide) (by omega))
    refine ⟨ω, ζ, fun K => ?_, ?_, b3, b4, a5.tr b5, a6.tr b6, a7.tr b7, fun n' s' h1 h2 h3 => ?_⟩
    · have a1 : ∀ K, g_Md_one_152 K sn_fuel (nI x) (nI n) 0 σ = K (nI x) (nI (n + 1)) τ := a1
      rw [← b1 K]
      simp only [g_Md_one_144, o1, if_false, a1, hnn]
    · have a2 : ∀ K, f_Tr_runChangebackTimers_10 K 11 sn_fuel (nI x) (nI n) 0 (Kap kk σ η) = K (nI x) (nI (n + 1)) (Kap kk τ θ) := a2
      rw [← b2]
      simp only [f_Tr_runChangebackTimers_2, o1, if_false, a2, hnn]
    · rcases hmid n' h1 h3 with rfl | h4
      · exact (a8 s' h2 (by omega)).ts b6 a3.2.2.2.2 (by decide) (by omega)
      · exact b8 n' s' h1 h2 h4
theorem tm_x6 : ∀ (r fuel fuel' : Nat) (σ η : sn_FS), r ≤ 6 → r < fuel → r < fuel' → KOk kk σ → Inv σ η → RI σ → (∀ i, i < 2 * nl σ → Tm 0 σ 40 i) → (∀ x n s, x < 6 → n < 6 → s < 4 → Tm 0 σ 44 (fl x n s)) → ∃ τ θ, g_Md_one_58 fuel (nI (6 - r)) σ = g_Md_one_258 sn_fuel 0 τ ∧ f_Tr_runTimers_33 11 fuel' (nI (6 - r)) (Kap kk σ η) = some (none, Kap kk τ θ) ∧ Inv τ θ ∧ RI τ ∧ PE η θ ∧ TS σ τ ∧ FR0 σ τ ∧ (∀ i, i < 2 * nl σ → 6 - r ≤ ex σ i → Tm 1 τ 40 i) ∧ ∀ x n s, x < 6 → n < 6 → s < 4 → 6 - r ≤ x → Tm 1 τ 44 (fl x n s)
  | 0, fuel + 1, fuel' + 1, σ, η, _, _, _, hK, hI, hR, hT, hT' => by
    have o1 : ((6 : Int32) ≤ nI (6 - 0)) = True := eq_true (by decide)
    refine ⟨σ, η, ?_, ?_, hI, hR, PE.rf, TS.rf, FR0.rf, fun i hi h6 => ?_, fun x n s h1 _ _ h2 => by omega⟩
    · simp only [g_Md_one_58, o1, if_true]
    · simp only [f_Tr_runTimers_33, o1, if_true, r_V]
    · have := (hI.2.1.1.ex_lt hi).1
      omega
  | r + 1, fuel + 1, fuel' + 1, σ, η, hr, hf, hf', hK, hI, hR, hT, hT' => by
    have hn : 6 - (r + 1) < 6 := by omega
    have hnn : 6 - (r + 1) + 1 = 6 - r := by omega
    have hmid : ∀ n', 6 - (r + 1) ≤ n' → n' = 6 - (r + 1) ∨ 6 - r ≤ n' := fun n' _ => by omega
    generalize hS : 6 - (r + 1) = x at hn hnn hmid
    obtain ⟨⟨k1, k2, k3, k4, k5, k6, k7, k8, k9, k10, k11, k12, k13, k14, k15, k16, k17, k18, k19, k20, k21, k22⟩, kE, kF, kP, k4s⟩ := id hK
    have o1 : ((6 : Int32) ≤ nI x) = False := eq_false (nI_ge (b := 6) hn (by omega))
    have hC := hI.2.2.2.2
    have hn10 := hI.2.1.1.2.1
    obtain ⟨τ, θ, a1, a2, a3, a4, a5, a6, a7, a8⟩ := tm_over hn (nl σ) sn_fuel sn_fuel 0 σ η (by omega) (by unfold sn_fuel; omega) (by unfold sn_fuel; omega) (by omega) hK hI hR hT
    obtain ⟨υ, ξ, c1, c2, c3, c4, c5, c6, c7, c8⟩ := tm_b6 hn 6 sn_fuel sn_fuel τ θ (by omega) (by unfold sn_fuel; omega) (by unfold sn_fuel; omega) (hK.sp a7.sp) a3 a4 (fun n s h1 h2 => (hT' x n s hn h1 h2).ts a6 hC (by decide) (by omega))
    have hs := a7.sp.tr c7.sp
    obtain ⟨ω, ζ, b1, b2, b3, b4, b5, b6, b7, b8, b9⟩ := tm_x6 r fuel fuel' υ ξ (by omega) (by omega) (by omega) (hK.sp hs) c3 c4 (fun i hi => (hT i (by rw [hs.nlE] at hi; exact hi)).ts (a6.tr c6) hC (by decide) (by omega)) (fun x n s h1 h2 h3 => (hT' x n s h1 h2 h3).ts (a6.tr c6) hC (by decide) (by omega))
    refine ⟨ω, ζ, ?_, ?_, b3, b4, (a5.tr c5).tr b5, (a6.tr c6).tr b6, (a7.tr c7).tr b7, fun i hi h6 => ?_, fun x' n s h1 h2 h3 h4 => ?_⟩
    · have a1 : ∀ K, g_Md_one_66 K sn_fuel (nI x) 0 σ = g_Md_one_144 K sn_fuel (nI x) 0 τ := a1
      have c1 : ∀ K, g_Md_one_144 K sn_fuel (nI x) 0 τ = K (nI (x + 1)) υ := c1
      rw [← b1]
      simp only [g_Md_one_58, o1, if_false, a1, c1, hnn]
    · have a2 : f_Tr_runChangeoverTimers_2 11 sn_fuel (nI x) 0 (Kap kk σ η) = some (none, Kap kk τ θ) := a2
      have c2 : f_Tr_runChangebackTimers_2 11 sn_fuel (nI x) 0 (Kap kk τ θ) = some (none, Kap kk υ ξ) := c2
      have a2' : f_Tr_runChangeoverTimers 11 (nI x) (Kap kk σ η) = some (none, Kap kk τ θ) := a2
      have c2' : f_Tr_runChangebackTimers 11 (nI x) (Kap kk τ θ) = some (none, Kap kk υ ξ) := c2
      rw [← b2]
      simp only [f_Tr_runTimers_33, o1, if_false, x_nn, k11, if_true, x_cV a2', x_cV c2', nI_1, hnn]
    · rcases hmid _ h6 with h7 | h7
      · have := a8 i hi (by omega) h7
        exact this.ts (c6.tr b6) a3.2.2.2.2 (by decide) (by omega)
      · exact b8 i (by rw [hs.nlE]; exact hi) (by rw [hs.exE]; exact h7)
    · rcases hmid _ h4 with h7 | h7
      · rw [h7]; exact (c8 n s h2 h3 (by omega)).ts b6 c3.2.2.2.2 (by decide) (by omega)
      · exact b9 x' n s h1 h2 h3 h7
