/-! LAYER 2: calls that change nothing: flow, circuit, next -/
variable {kk : Nat → Nat} {σ η : sn_FS}
theorem gl_nbX {x1 x2 : Int32} (h : xok x1 = false ∨ xok x2 = false) (σ : sn_FS) : g_Md_areNeighbours x1 x2 σ = some (some (.int 0), σ) := by
  unfold g_Md_areNeighbours g_Md_areNeighbours_32 g_Md_areNeighbours_33
  rw [y_I_at (gl_isX x1 σ)]
  by_cases h1 : xok x1 = true
  · have h2 : xok x2 = false := by
      rcases h with q | q
      · rw [h1] at q; cases q
      · exact q
    rw [if_pos h1, if_neg (by decide), y_I_at (gl_isX x2 σ), h2, if_pos (by decide)]; simp [z_Z]
  · rw [if_neg h1, if_pos rfl]; simp [z_Z]
theorem xok_f {x : Int32} (h : xok x = false) : x < 0 ∨ (6 : Int32) ≤ x := by
  unfold xok at h
  by_cases a : x < 0
  · exact Or.inl a
  · by_cases b : (6 : Int32) ≤ x
    · exact Or.inr b
    · simp [a, b] at h
theorem flowTo_bad {x1 x2 x3 : Int32} {κ : sn_Mem} (h : (x1 < 0 ∨ (6 : Int32) ≤ x1) ∨ (x2 < 0 ∨ (6 : Int32) ≤ x2) ∨ (x3 < 0 ∨ ¬ x3 < (4 : Int32))) : f_Tr_flowTo 11 x1 x2 x3 κ = some (some (va_rf none), κ) ∧ f_Sw_circuitAt 17 x1 x2 x3 κ = some (some (va_rf none), κ) := by
  unfold f_Tr_flowTo f_Tr_flowTo_29 f_Sw_circuitAt f_Sw_circuitAt_29
  by_cases a1 : x1 < 0
  · simp only [a1, if_true]; exact ⟨rfl, rfl⟩
  by_cases a2 : (6 : Int32) ≤ x1
  · simp only [a1, a2, if_true, if_false]; exact ⟨rfl, rfl⟩
  by_cases b1 : x2 < 0
  · simp only [a1, a2, b1, if_true, if_false]; exact ⟨rfl, rfl⟩
  by_cases b2 : (6 : Int32) ≤ x2
  · simp only [a1, a2, b1, b2, if_true, if_false]; exact ⟨rfl, rfl⟩
  by_cases c1 : x3 < 0
  · simp only [a1, a2, b1, b2, c1, if_true, if_false]; exact ⟨rfl, rfl⟩
  by_cases c2 : x3 < (4 : Int32)
  · rcases h with (q | q) | (q | q) | (q | q)
    · exact absurd q a1
    · exact absurd q a2
    · exact absurd q b1
    · exact absurd q b2
    · exact absurd q c1
    · exact absurd c2 q
  · simp only [a1, a2, b1, b2, c1, c2, if_false]; exact ⟨rfl, rfl⟩
theorem flow_cases (hK : KOk kk σ) (hP : PlanOk σ) (x1 x2 x3 : Int32) : (∃ x n s, x < 6 ∧ n < 6 ∧ s < 4 ∧ x1 = nI x ∧ x2 = nI n ∧ x3 = nI s ∧ nb σ x n = true ∧ g_Md_isFlow x1 x2 x3 σ = some (some (.int 1), σ)) ∨ (g_Md_isFlow x1 x2 x3 σ = some (some (.int 0), σ) ∧ ∀ η, f_Tr_flowTo 11 x1 x2 x3 (Kap kk σ η) = some (some (va_rf none), Kap kk σ η) ∧ f_Sw_circuitAt 17 x1 x2 x3 (Kap kk σ η) = some (some (va_rf none), Kap kk σ η)) := by
  by_cases h1 : xok x1 = true
  · by_cases h2 : xok x2 = true
    · obtain ⟨x, hx, rfl⟩ := xok_nat h1
      obtain ⟨n, hn, rfl⟩ := xok_nat h2
      have hnbE := gl_areNb hP hx hn
      by_cases hnb : nb σ x n = true
      · rw [if_pos hnb] at hnbE
        by_cases c1 : x3 < 0
        · right
          refine ⟨?_, fun η => flowTo_bad (Or.inr (Or.inr (Or.inl c1)))⟩
          unfold g_Md_isFlow g_Md_isFlow_22 g_Md_isFlow_23
          rw [y_I_at hnbE, if_neg (by decide), if_pos c1]; simp [z_Z]
        · by_cases c2 : (4 : Int32) ≤ x3
          · right
            refine ⟨?_, fun η => flowTo_bad (Or.inr (Or.inr (Or.inr (fun q => Int32.not_le.mpr q c2))))⟩
            unfold g_Md_isFlow g_Md_isFlow_22 g_Md_isFlow_23
            rw [y_I_at hnbE, if_neg (by decide), if_neg c1, if_pos c2]; simp [z_Z]
          · left
            obtain ⟨s, hs, rfl⟩ := nat_of c1 (b := 4) (by omega) (le_of (b := 4) c2)
            refine ⟨x, n, s, hx, hn, hs, rfl, rfl, rfl, hnb, ?_⟩
            unfold g_Md_isFlow g_Md_isFlow_22 g_Md_isFlow_23
            rw [y_I_at hnbE, if_neg (by decide), if_neg c1, if_neg c2]; simp [z_Z]
      · right
        rw [if_neg hnb] at hnbE
        refine ⟨?_, fun η => ?_⟩
        · unfold g_Md_isFlow g_Md_isFlow_22 g_Md_isFlow_23
          rw [y_I_at hnbE, if_pos rfl]; simp [z_Z]
        · by_cases c1 : x3 < 0
          · exact flowTo_bad (Or.inr (Or.inr (Or.inl c1)))
          · by_cases c2 : (4 : Int32) ≤ x3
            · exact flowTo_bad (Or.inr (Or.inr (Or.inr (fun q => Int32.not_le.mpr q c2))))
            · obtain ⟨s, hs, rfl⟩ := nat_of c1 (b := 4) (by omega) (le_of (b := 4) c2)
              have a1 := fl_flowTo (η := η) hK hx hn hs
              have a2 := fl_cirAt (η := η) hK hx hn hs
              unfold fR at a1
              unfold cR at a2
              rw [if_neg hnb] at a1 a2
              exact ⟨a1, a2⟩
    · right
      have h2 : xok x2 = false := by simpa using h2
      refine ⟨?_, fun η => flowTo_bad (Or.inr (Or.inl (xok_f h2)))⟩
      unfold g_Md_isFlow g_Md_isFlow_22 g_Md_isFlow_23
      rw [y_I_at (gl_nbX (Or.inr h2) σ), if_pos rfl]; simp [z_Z]
  · right
    have h1 : xok x1 = false := by simpa using h1
    refine ⟨?_, fun η => flowTo_bad (Or.inl (xok_f h1))⟩
    unfold g_Md_isFlow g_Md_isFlow_22 g_Md_isFlow_23
    rw [y_I_at (gl_nbX (Or.inl h1) σ), if_pos rfl]; simp [z_Z]
/-- flow -/
theorem op_flow (hK : KOk kk σ) (hA : GA σ η) (x1 x2 x3 x4 : Int32) : Op kk (g_Md_flow x1 x2 x3 x4) (f_Sn_flow 1 x1 x2 x3 x4) σ η := by
  have hKo := hK
  obtain ⟨⟨k1, k2, k3, k4, k5, k6, k7, k8, k9, k10, k11, k12, k13, k14, k15, k16, k17, k18, k19, k20, k21, k22⟩, kE, kF, kP, k4s⟩ := id hK
  have hw := hA.1.1.2.1
  have hP := hw.1
  have hn10 := hP.2.1
  refine Al.op ?_ hA
  rcases flow_cases (kk := kk) hKo hP x1 x2 x3 with ⟨x, n, s, hx, hn, hs, rfl, rfl, rfl, hnb, hg⟩ | ⟨hg, hf⟩
  · obtain ⟨f1, f2, f3, f4⟩ := hKo.flow hx hn hs hnb
    have hfl := fl_flowTo (η := η) hKo hx hn hs
    have hfr : fR σ x n s = some (aF (fl x n s)) := by unfold fR; rw [if_pos hnb]
    rw [hfr] at hfl
    have h144 := fl_lt hx hn hs
    have q1 : (some (aF (fl x n s)) = none) = False := by simp
    have hd : ∀ k, md_len k = 144 → fl x n s < md_len k := fun k h => by rw [h]; exact h144
    have hcl : ∀ v, f_Fl_tell (aF (fl x n s)) x4 (Kap kk σ η) = some (some (.int v), Kap kk σ η) → f_Sn_flow 1 (nI x) (nI n) (nI s) x4 (Kap kk σ η) = some (some (.int v), Kap kk σ η) := fun v h => by
      simp only [f_Sn_flow, x_gR, k1, if_true, rr_s1_2, x_nn, k11, x_cR hfl, q1, not_false_eq_true, f1, x_cI h, f_Sn_flow_28, r_I]
    have hgl : ∀ v, (if ¬ x4 = 0 then (if ¬ x4 = (1 : Int32) then (if ¬ x4 = (2 : Int32) then (if ¬ x4 = (3 : Int32) then g_Md_flow_85 (-1 : Int32) else q_I 43 (nI (fl x n s)) fun v3 => g_Md_flow_85 v3) else q_I 47 (nI (fl x n s)) fun v4 => g_Md_flow_85 v4) else q_I 42 (nI (fl x n s)) fun v5 => g_Md_flow_85 v5) else q_I 41 (nI (fl x n s)) fun v6 => g_Md_flow_85 v6) σ = some (some (.int v), σ) → g_Md_flow (nI x) (nI n) (nI s) x4 σ = some (some (.int v), σ) := fun v h => by
      unfold g_Md_flow
      rw [y_I_at hg, if_pos (by decide), y_I_at (gl_flowAt σ x n s)]
      exact h
    obtain ⟨g1, g2, g3⟩ := fl_x (x := x) hn hs
    have hlk : ∀ k, k = 41 ∨ k = 43 → (σ.1 k (fl x n s) = -1 ∨ ∃ l, l < nl σ ∧ σ.1 k (fl x n s) = nI l ∧ kk (aE (en σ l x)) = 2 ∧ en σ l x / 2 = l) := fun k hk => by
      have hc := hw.cur _ h144
      rcases hk with rfl | rfl
      · rcases hc.1 with q | ⟨l, a, b⟩
        · exact Or.inl q
        · exact Or.inr ⟨l, a, b, (kE _ (en_lt hP a).1).1, en_half⟩
      · rcases hc.2 with q | ⟨l, a, b⟩
        · exact Or.inl q
        · exact Or.inr ⟨l, a, b, (kE _ (en_lt hP a).1).1, en_half⟩
    by_cases c0 : x4 = 0
    · subst c0
      refine ⟨σ.1 41 (fl x n s), hgl _ ?_, hcl _ ?_⟩
      · rw [if_neg (fun q => q rfl), q_I_at (hd 41 rfl)]; rfl
      · show (g_R 3 1 (some (aF (fl x n s))) fun v1 => (if ¬ v1 = none then g_R 3 1 (some (aF (fl x n s))) fun v2 => g_I 2 1 v2 fun v3 => f_Fl_tell_50 (aF (fl x n s)) v3 else f_Fl_tell_50 (aF (fl x n s)) (-1 : Int32))) (Kap kk σ η) = _
        rcases hlk 41 (Or.inl rfl) with q | ⟨l, a, b, c, d⟩
        · have e : k_end σ (fl x n s / 24) (-1) = none := by unfold k_end; rw [if_pos rfl]
          simp only [x_gR, f1, if_true, rr_F1, e, not_true_eq_false, if_false, f_Fl_tell_50, r_I, q]
        · have e : k_end σ (fl x n s / 24) (nI l) = some (aE (en σ l x)) := by rw [g1]; exact k_end_some (by omega)
          have q2 : (some (aE (en σ l x)) = none) = False := by simp
          simp only [x_gR, f1, if_true, rr_F1, e, q2, not_false_eq_true, x_gI, c, rd_E1, d, f_Fl_tell_50, r_I, b]
    · by_cases c1 : x4 = 1
      · subst c1
        refine ⟨σ.1 42 (fl x n s), hgl _ ?_, hcl _ ?_⟩
        · rw [if_pos c0, if_neg (fun q => q rfl), q_I_at (hd 42 rfl)]; rfl
        · show (g_I 3 2 (some (aF (fl x n s))) fun v4 => r_I v4) (Kap kk σ η) = _
          simp only [x_gI, f1, if_true, rd_F2, r_I]
      · by_cases c2 : x4 = 2
        · subst c2
          refine ⟨σ.1 47 (fl x n s), hgl _ ?_, hcl _ ?_⟩
          · rw [if_pos c0, if_pos c1, if_neg (fun q => q rfl), q_I_at (hd 47 rfl)]; rfl
          · show (g_R 3 6 (some (aF (fl x n s))) fun v5 => g_I 6 2 v5 fun v6 => r_I v6) (Kap kk σ η) = _
            simp only [x_gR, f1, if_true, rr_F6, x_gI, f2, rd_KQ2, r_I]
        · by_cases c3 : x4 = 3
          · subst c3
            refine ⟨σ.1 43 (fl x n s), hgl _ ?_, hcl _ ?_⟩
            · rw [if_pos c0, if_pos c1, if_pos c2, if_neg (fun q => q rfl), q_I_at (hd 43 rfl)]; rfl
            · show (g_R 3 3 (some (aF (fl x n s))) fun v1 => (if ¬ v1 = none then g_R 3 3 (some (aF (fl x n s))) fun v2 => g_I 2 1 v2 fun v3 => f_Fl_tell_82 (aF (fl x n s)) v3 else f_Fl_tell_82 (aF (fl x n s)) (-1 : Int32))) (Kap kk σ η) = _
              rcases hlk 43 (Or.inr rfl) with q | ⟨l, a, b, c, d⟩
              · have e : k_end σ (fl x n s / 24) (-1) = none := by unfold k_end; rw [if_pos rfl]
                simp only [x_gR, f1, if_true, rr_F3, e, not_true_eq_false, if_false, f_Fl_tell_82, r_I, q]
              · have e : k_end σ (fl x n s / 24) (nI l) = some (aE (en σ l x)) := by rw [g1]; exact k_end_some (by omega)
                have q2 : (some (aE (en σ l x)) = none) = False := by simp
                simp only [x_gR, f1, if_true, rr_F3, e, q2, not_false_eq_true, x_gI, c, rd_E1, d, f_Fl_tell_82, r_I, b]
          · refine ⟨-1, hgl _ ?_, hcl _ ?_⟩
            · rw [if_pos c0, if_pos c1, if_pos c2, if_pos c3]; rfl
            · unfold f_Fl_tell
              simp only [sn_sw, c0, c1, c2, c3, if_false, r_I]
  · refine ⟨-1, ?_, ?_⟩
    · unfold g_Md_flow
      rw [y_I_at hg, if_neg (fun q => q rfl)]; rfl
    · simp only [f_Sn_flow, x_gR, k1, if_true, rr_s1_2, x_nn, k11, x_cR (hf η).1, not_true_eq_false, if_false, f_Sn_flow_28, r_I]
/-- legs told -/
def lgT (g : Nat) : Int32 := if 100 ≤ g then nI (100 + 10 * ((g - 100) % 24 / 4) + (g - 100) % 4) else nI (10 * (g / 4) + g % 4)
theorem lgT1 : ∀ c, c < 144 → ((100 : Int32) + ((10 : Int32) * ((nI c % (24 : Int32)) / (4 : Int32)))) + (nI c % (4 : Int32)) = nI (100 + 10 * (c % 24 / 4) + c % 4) := by decide +kernel
theorem lgT2 : ∀ p, p < 24 → ((10 : Int32) * (nI p / (4 : Int32))) + (nI p % (4 : Int32)) = nI (10 * (p / 4) + p % 4) := by decide +kernel
theorem gl_legT {g : Nat} (h : Vn g) (σ : sn_FS) : g_Md_legTold (nI g) σ = some (some (.int (lgT g)), σ) := by
  unfold g_Md_legTold g_Md_legTold_50 lgT
  rw [if_pos h.m1]
  by_cases c : 100 ≤ g
  · rw [if_pos (h.ge.mpr c), if_pos c, Vn.sub c, lgT1 (g - 100) (by unfold Vn at h; omega)]; rfl
  · rw [if_neg (fun q => c (h.ge.mp q)), if_neg c, lgT2 g (by unfold Vn at h; omega)]; rfl
theorem fl_code (hK : KOk kk σ) {g : Nat} (h : VL σ g) : f_Lg_code (aL g) (Kap kk σ η) = some (some (.int (lgT g)), Kap kk σ η) := by
  have h4 := hK.leg h
  have hs := fl_isSub (kk := kk) (η := η) hK h
  have hV := h.vn
  have z10 : ((1 : Int32) = 0) = False := eq_false (by decide)
  by_cases c : g < 100
  · rw [if_pos c] at hs
    have haL : aL g = aP g := by unfold aL; rw [if_neg (by omega)]
    have hT : ((10 : Int32) * nI (g / 4)) + nI (g % 4) = lgT g := by
      have : (10 : Int32) * nI (g / 4) = nI (10 * (g / 4)) := pk_mul 10 _
      unfold lgT
      rw [if_neg (by omega), this, nI_add]
    rw [haL] at h4 hs ⊢
    simp only [f_Lg_code, x_nn, h4, if_true, x_cI hs, z10, if_false, x_gI, rd_P0, rd_P2, hT, f_Lg_code_37, r_I]
  · rw [if_neg c] at hs
    have haL : aL g = aC (g - 100) := by unfold aL; rw [if_pos (by omega)]
    have hT : ((100 : Int32) + ((10 : Int32) * nI ((g - 100) % 24 / 4))) + nI ((g - 100) % 4) = lgT g := by
      have h1 : (10 : Int32) * nI ((g - 100) % 24 / 4) = nI (10 * ((g - 100) % 24 / 4)) := pk_mul 10 _
      have h2 : (100 : Int32) + nI (10 * ((g - 100) % 24 / 4)) = nI (100 + 10 * ((g - 100) % 24 / 4)) := nI_add 100 _
      unfold lgT
      rw [if_pos (by omega), h1, h2, nI_add]
    rw [haL] at h4 hs ⊢
    simp only [f_Lg_code, x_nn, h4, if_true, x_cI hs, x_gI, rd_C1, rd_C2, hT, f_Lg_code_37, r_I]
theorem al_leg (hK : KOk kk σ) (hJ : JOk σ) {g : Nat} (h : VL σ g) : Al kk σ η (g_Md_legTold (lgv σ g)) (f_Lg_joinedCode (aL g)) := by
  have h4 := hK.leg h
  rcases hJ g h with q | ⟨o, o1, o2, o3, o4, o5⟩
  · refine ⟨-1, ?_, ?_⟩
    · rw [q]; unfold g_Md_legTold g_Md_legTold_50; rw [if_neg (fun q => q rfl)]; rfl
    · simp only [f_Lg_joinedCode, x_gR, h4, if_true, rr_L4, q, k_leg_m, not_true_eq_false, if_false, f_Lg_joinedCode_18, r_I]
  · have q1 : (some (aL o) = none) = False := by simp
    refine ⟨lgT o, by rw [o4]; exact gl_legT o1.vn σ, ?_⟩
    simp only [f_Lg_joinedCode, x_gR, h4, if_true, rr_L4, o4, k_leg_n o1.vn, q1, not_false_eq_true, x_nn, hK.leg o1, x_cI (fl_code (η := η) hK o1), f_Lg_joinedCode_18, r_I]
/-- circuit -/
theorem op_circuit (hK : KOk kk σ) (hA : GA σ η) (x1 x2 x3 x4 : Int32) : Op kk (g_Md_circuit x1 x2 x3 x4) (f_Sn_circuit 1 x1 x2 x3 x4) σ η := by
  have hKo := hK
  obtain ⟨⟨k1, k2, k3, k4, k5, k6, k7, k8, k9, k10, k11, k12, k13, k14, k15, k16, k17, k18, k19, k20, k21, k22⟩, kE, kF, kP, k4s⟩ := id hK
  have hw := hA.1.1.2.1
  have hP := hw.1
  have hCI := hA.1.2.2.1
  refine Al.op ?_ hA
  rcases flow_cases (kk := kk) hKo hP x1 x2 x3 with ⟨x, n, s, hx, hn, hs, rfl, rfl, rfl, hnb, hg⟩ | ⟨hg, hf⟩
  · obtain ⟨f1, f2, f3, f4⟩ := hKo.flow hx hn hs hnb
    have hfl := fl_cirAt (η := η) hKo hx hn hs
    have hfr : cR σ x n s = some (aC (fl x n s)) := by unfold cR; rw [if_pos hnb]
    rw [hfr] at hfl
    have h144 := fl_lt hx hn hs
    obtain ⟨c, ec⟩ : ∃ c, c = fl x n s := ⟨_, rfl⟩
    obtain ⟨g1, g2, g3⟩ := fl_x (x := x) hn hs
    rw [← ec] at f1 f2 f3 f4 hfl h144 g1 g2 g3
    have q1 : (some (aC c) = none) = False := by simp
    have hd : ∀ k, md_len k = 144 → c < md_len k := fun k h => by rw [h]; exact h144
    have hVc : VL σ (100 + c) := Or.inr ⟨by omega, by omega, by rw [Nat.add_sub_cancel_left, g1, g2]; exact hnb⟩
    have haL : aL (100 + c) = aC c := by unfold aL; rw [if_pos (by omega), Nat.add_sub_cancel_left]
    have hAl : Al kk σ η (y_sw x4 [0, 1, 2, 3, 4, 5, 6, 7] [(q_I 52 (nI c) fun v3 => z_I v3), (q_I 53 (nI c) fun v4 => y_I (g_Md_left v4) fun v5 => z_I v5), (q_I 55 (nI c) fun v6 => (if v6 = 0 then g_Md_circuit_103 (0 : Int32) else g_Md_circuit_103 (1 : Int32))), (q_I 56 (nI c) fun v7 => (if v7 = 0 then g_Md_circuit_119 (0 : Int32) else g_Md_circuit_119 (1 : Int32))), (q_I 57 (nI c) fun v8 => y_I (g_Md_legTold v8) fun v9 => z_I v9), (q_I 58 (nI c) fun v10 => z_I v10), (q_I 59 (nI c) fun v11 => z_I v11), (q_I 60 (nI c) fun v12 => z_I v12)] (z_I (-1 : Int32))) (f_Lg_tellCircuit (aC c) x4 (some 2)) := by
      unfold f_Lg_tellCircuit
      have rd : ∀ k (g : sn_G) (f : sn_M), md_len k = 144 → g = (q_I k (nI c) fun v => z_I v) → f (Kap kk σ η) = some (some (.int (σ.1 k c)), Kap kk σ η) → Al kk σ η g f := fun k g f h1 h2 h3 => ⟨σ.1 k c, by rw [h2, q_I_at (hd k h1)]; rfl, h3⟩
      refine Al.swC (rd 52 _ _ rfl rfl ?_) (Al.swC ?_ (Al.swC ?_ (Al.swC ?_ (Al.swC ?_ (Al.swC (rd 58 _ _ rfl rfl ?_) (Al.swC (rd 59 _ _ rfl rfl ?_) (Al.swC (rd 60 _ _ rfl rfl ?_) (Al.swN Al.I))))))))
      · simp only [x_gI, f4, if_true, rd_C3, r_I]
      · refine ⟨_, by rw [q_I_at (hd 53 rfl), y_I_at (gl_left σ _)]; rfl, ?_⟩
        simp only [x_gI, f4, if_true, rd_C5, x_nn, k2, x_cI (fl_left (σ := σ) (η := η) k2 _), r_I]
      · refine ⟨if σ.1 55 c = 0 then 0 else 1, ?_, ?_⟩
        · rw [q_I_at (hd 55 rfl)]
          by_cases c : σ.1 55 c = 0
          · rw [if_pos c, if_pos c]; rfl
          · rw [if_neg c, if_neg c]; rfl
        · by_cases c : σ.1 55 c = 0
          · simp only [x_gI, f4, if_true, rd_C7, c, f_Lg_tellCircuit_74, r_I]
          · simp only [x_gI, f4, if_true, rd_C7, c, if_false, f_Lg_tellCircuit_74, r_I]
      · refine ⟨if σ.1 56 c = 0 then 0 else 1, ?_, ?_⟩
        · rw [q_I_at (hd 56 rfl)]
          by_cases c : σ.1 56 c = 0
          · rw [if_pos c, if_pos c]; rfl
          · rw [if_neg c, if_neg c]; rfl
        · by_cases c : σ.1 56 c = 0
          · simp only [x_gI, f4, if_true, rd_C8, c, f_Lg_tellCircuit_87, r_I]
          · simp only [x_gI, f4, if_true, rd_C8, c, if_false, f_Lg_tellCircuit_87, r_I]
      · obtain ⟨v, a, b⟩ := al_leg (η := η) hKo hCI.1 hVc
        rw [lgv_57] at a
        rw [haL] at b
        refine ⟨v, by rw [q_I_at (hd 57 rfl), y_I_at a]; rfl, ?_⟩
        simp only [x_nn, f4, if_true, x_cI b, r_I]
      · simp only [x_gI, f4, if_true, rd_C9, r_I]
      · simp only [x_gI, f4, if_true, rd_C10, r_I]
      · simp only [x_gI, f4, if_true, rd_C11, r_I]
    obtain ⟨v, a, b⟩ := hAl
    refine ⟨v, ?_, ?_⟩
    · unfold g_Md_circuit
      rw [y_I_at hg, if_pos (by decide), y_I_at (gl_flowAt σ x n s), ← ec]
      exact a
    · simp only [f_Sn_circuit, x_gR, k1, if_true, rr_s1_3, x_nn, k17, x_cR hfl, q1, not_false_eq_true, rr_s1_0, f4, x_cI b, f_Sn_circuit_32, r_I]
  · refine ⟨-1, ?_, ?_⟩
    · unfold g_Md_circuit
      rw [y_I_at hg, if_neg (fun q => q rfl)]; rfl
    · simp only [f_Sn_circuit, x_gR, k1, if_true, rr_s1_3, x_nn, k17, x_cR (hf η).2, not_true_eq_false, if_false, f_Sn_circuit_32, r_I]
