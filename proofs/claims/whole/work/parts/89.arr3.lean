/-! LAYER 2: a unit arrives -/
variable {kk : Nat → Nat} {σ η : sn_FS} {e : Nat}
theorem hear_ok (hK : KOk kk σ) (hI : Inv σ η) (he : e < 2 * nl σ) {bad : Bool} {u : Nat} (hu : u ≤ 5) {x2 : Int32} (hR : Rr1 σ e) (hx : x2 = if bad then 1 else 0) : HrOk kk (g_Md_arrive_39 (nI e) x2 (nI u)) (f_En_hear (aE e) (hT bad u) (σ.1 39 (eo e))) e (bad = false ∧ 4 ≤ u) σ η := by
  obtain ⟨⟨k1, k2, k3, k4, k5, k6, k7, k8, k9, k10, k11, k12, k13, k14, k15, k16, k17, k18, k19, k20, k21, k22⟩, kE, kF, kP, k4s⟩ := id hK
  obtain ⟨e1, e2, e3, e4, e5, e6, e7⟩ := kE e he
  obtain ⟨hH, hw, hL, hD, hC⟩ := id hI
  have hn10 := hw.1.2.1
  have he20 : e < 20 := by omega
  have ho20 : eo e < 20 := by have := eo_lt he; omega
  have d10 : e < md_len 10 := he20
  have d38 : e < md_len 38 := he20
  have d39 : eo e < md_len 39 := ho20
  have hE := hw.e1 he20
  obtain ⟨s, hs5, es⟩ := hE.1
  by_cases c0 : s = 0
  · subst c0
    have q0 : σ.1 10 e = 0 := es
    refine HrOk.id0 hI hR ?_ ?_
    · simp only [f_En_hear, x_gI, e1, if_true, rd_E7, q0, not_true_eq_false, if_false, r_I, x_ite]
    · have h76 : g_Md_arrive_76 (nI e) x2 (nI u) σ = some (none, σ) := by
        unfold g_Md_arrive_76
        rw [q_I_at d10, q0, if_pos (by decide), q_I_at d10, q0, if_pos (by decide), q_I_at d10, q0, if_pos (by decide), q_I_at d10, q0, if_pos (by decide)]
        rfl
      unfold g_Md_arrive_39
      by_cases cx : x2 = 0
      · rw [if_neg (fun z => z cx), q_I_at d10, if_pos q0]; exact h76
      · rw [if_pos cx]; exact h76
  · have q0 : ¬ σ.1 10 e = 0 := by rw [es]; exact fun z => c0 (nI_inj (a := s) (b := 0) (by omega) (by omega) z)
    -- the four states
    have main : ∀ (τ : sn_FS), KOk kk τ → Inv τ η → τ.1 10 e = σ.1 10 e → Rr1 τ e → e < 2 * nl τ → HrOk kk (g_Md_arrive_76 (nI e) x2 (nI u)) (f_En_hear_21 (aE e) (hT bad u)) e (bad = false ∧ 4 ≤ u) τ η := by
      intro τ hKτ hIτ t10 hRτ heτ
      rw [es] at t10
      obtain rfl | rfl | rfl | rfl | rfl : s = 1 ∨ s = 2 ∨ s = 3 ∨ s = 4 ∨ s = 5 := by omega
      · exact hear_1 hKτ hIτ heτ t10 hu hRτ hx
      · exact hear_2 hKτ hIτ heτ t10 hu hRτ hx
      · exact hear_3 hKτ hIτ heτ t10 hu hRτ hx
      · exact hear_4 hKτ hIτ heτ (Or.inl t10) hu hRτ hx
      · exact hear_4 hKτ hIτ heτ (Or.inr t10) hu hRτ hx
    by_cases cp : bad = false ∧ (u = 2 ∨ u = 3)
    · obtain ⟨rfl, cu⟩ := cp
      have hx0 : x2 = 0 := hx
      have t10 : (sI σ 38 e (σ.1 39 (eo e))).1 10 e = σ.1 10 e := sI_ne (by decide)
      have hf : Hf e σ (sI σ 38 e (σ.1 39 (eo e))) := Hf.rf.sI (by decide)
      obtain ⟨p1, p2, p3, p4⟩ := hear_pack (τ := sI σ 38 e (σ.1 39 (eo e))) (θ := η) hI he hf (Or.inl rfl) (fun q => by rw [sI_ne (by decide)]; rw [t10] at q; exact hH.2.2 e he q) (Or.inl t10) (fun q => by rw [sI_ne (by decide)]; rw [t10] at q; exact hE.2.2.2.2.2.2.2.1 q) (fun q => by rw [sI_ne (by decide)]; rw [t10] at q; exact hE.2.2.2.2.2.2.2.2.1 q) (by rw [sI_ne (by decide)]; exact hE.2.2.2.2.2.2.2.2.2.1) (by rw [sI_ne (by decide)]; exact hE.2.2.2.2.2.2.2.2.2.2.2.2.2) (Or.inl (sI_ne (by decide)))
      have hRτ : Rr1 (sI σ 38 e (σ.1 39 (eo e))) e := ⟨by rw [t10, sI_ne (by decide)]; exact hR.1, by rw [t10, sI_ne (by decide)]; exact hR.2⟩
      have ht : hT false u = 2 ∨ hT false u = 3 := by rcases cu with rfl | rfl; exact Or.inl rfl; exact Or.inr rfl
      refine HrOk.bind ⟨p2, p3, p4⟩ hf ?_ ?_ (main _ (hK.sp hf.sp) p1 t10 hRτ (by rw [hf.sp.nlE]; exact he))
      · have hpr : ∀ κ : sn_Mem, f_En_isProve (hT false u) κ = some (some (.int 1), κ) := fun κ => by rw [fl_isProve, if_pos ht]
        have o1 : ((1 : Int32) = 0) = False := eq_false (by decide)
        simp only [f_En_hear, x_gI, e1, if_true, rd_E7, q0, not_false_eq_true, x_ite, x_cI (hpr _), o1, if_false, x_pI, wr_E10]
      · have h62 : g_Md_arrive_62 (nI e) x2 (nI u) σ = g_Md_arrive_76 (nI e) x2 (nI u) (sI σ 38 e (σ.1 39 (eo e))) := by
          unfold g_Md_arrive_62
          rw [xor1 e he20, q_I_at d39, w_I_at d38]
        unfold g_Md_arrive_39
        rw [if_neg (fun z => z hx0), q_I_at d10, if_neg q0]
        rcases cu with rfl | rfl
        · rw [if_pos (by decide)]; exact h62
        · rw [if_neg (by decide), if_neg (fun z => z (by decide))]; exact h62
    · refine HrOk.bind ⟨PE.rf, TS.rf, FR0.rf⟩ Hf.rf ?_ ?_ (main σ hK hI rfl hR he)
      · have ht : ¬ (hT bad u = 2 ∨ hT bad u = 3) := by
          cases bad with
          | true => show ¬ ((6 : Int32) = 2 ∨ (6 : Int32) = 3); decide
          | false =>
            show ¬ (nI u = 2 ∨ nI u = 3)
            intro q
            refine cp ⟨rfl, ?_⟩
            rcases q with q | q
            · exact Or.inl (nI_inj (a := u) (b := 2) (by omega) (by omega) q)
            · exact Or.inr (nI_inj (a := u) (b := 3) (by omega) (by omega) q)
        have hpr : ∀ κ : sn_Mem, f_En_isProve (hT bad u) κ = some (some (.int 0), κ) := fun κ => by rw [fl_isProve, if_neg ht]
        simp only [f_En_hear, x_gI, e1, if_true, rd_E7, q0, not_false_eq_true, x_ite, x_cI (hpr _)]
      · unfold g_Md_arrive_39
        cases bad with
        | true =>
          have hx1 : x2 = 1 := hx
          rw [if_pos (by rw [hx1]; decide)]
        | false =>
          have hx0 : x2 = 0 := hx
          have n2 : ¬ nI u = (2 : Int32) := fun q => cp ⟨rfl, Or.inl (nI_inj (a := u) (b := 2) (by omega) (by omega) q)⟩
          have n3 : ¬ nI u = (3 : Int32) := fun q => cp ⟨rfl, Or.inr (nI_inj (a := u) (b := 3) (by omega) (by omega) q)⟩
          rw [if_neg (fun z => z hx0), q_I_at d10, if_neg q0, if_neg n2, if_pos n3]
/-- an end comes up -/
theorem up1_ts {x n s : Nat} : TS σ (S_up1 x n s σ) := by
  refine ⟨S_up1_I σ (by decide), fun k i hk => ?_⟩
  by_cases c : k = 44
  · subst c
    unfold S_up1
    split
    · split
      · exact Or.inl (sI_ne (by decide))
      · split
        · exact Or.inl rfl
        · by_cases ci : i = fl x n s
          · right; right
            refine ⟨20, by omega, by omega, ?_⟩
            rw [ci]
            simp only [sn_upE, Nat.reduceEqDiff, reduceIte]
            rfl
          · left; rw [sI_nk ci, sI_nk ci, S_give_I _ (by decide), sI_nk ci]
    · exact Or.inl rfl
  · left
    have := tm_of hk
    exact S_up1_I σ (by omega)
theorem upF_ts {x n : Nat} : ∀ (r : Nat) (σ : sn_FS), TS σ (S_upF x n r σ)
  | 0, σ => TS.rf
  | r + 1, σ => up1_ts.tr (upF_ts r _)
theorem up1_out45 {x n s f : Nat} (h : f ≠ fl x n s) : (S_up1 x n s σ).1 45 f = σ.1 45 f := by
  unfold S_up1
  split
  · split
    · exact sI_nk h
    · split
      · rfl
      · rw [sI_nk h, sI_nk h, S_give_I _ (by decide), sI_nk h]
  · rfl
theorem upF_out45 {x n f : Nat} (h : ∀ s, s < 4 → f ≠ fl x n s) : ∀ (r : Nat) (σ : sn_FS), r ≤ 4 → (S_upF x n r σ).1 45 f = σ.1 45 f
  | 0, σ, _ => rfl
  | r + 1, σ, hr => (upF_out45 h r _ (by omega)).trans (up1_out45 (h _ (by omega)))
theorem up_45 {x n s : Nat} (hP : PlanOk σ) (he : e < 2 * nl σ) (hn : n < 6) (hs : s < 4) (hb : nb σ x n = false) : (S_up e σ).1 45 (fl x n s) = σ.1 45 (fl x n s) := by
  obtain ⟨x1, x2, x3⟩ := hP.ex_lt he
  have hne : ∀ s', s' < 4 → fl x n s ≠ fl (ex σ e) (ot σ e) s' := fun s' hs' q => by
    have h1 := fl_x (x := x) hn hs
    have h2 := fl_x (x := ex σ e) x2 hs'
    rw [q] at h1
    have e1 : x = ex σ e := h1.1.symm.trans h2.1
    have e2 : n = ot σ e := h1.2.1.symm.trans h2.2.1
    rw [e1, e2, nb_end hP he] at hb
    cases hb
  unfold S_up
  rw [S_look_I _ (by decide)]
  split
  · exact upF_out45 hne 4 σ (by omega)
  · rw [S_upT_I (by decide)]; exact upF_out45 hne 4 σ (by omega)
theorem up_pack (hI : Inv σ η) (he : e < 2 * nl σ) : WI (S_up e σ) ∧ LkA (S_up e σ) ∧ DI (S_up e σ) ∧ ClOk (S_up e σ) ∧ TS σ (S_up e σ) ∧ FR σ (S_up e σ) := by
  obtain ⟨hH, hw, hL, hD, hC⟩ := hI
  have hI2 : ∀ k i, k ≠ 7 → k ≠ 29 → k ≠ 47 → k ≠ 41 → k ≠ 42 → k ≠ 44 → k ≠ 45 → k ≠ 49 → (S_up e σ).1 k i = σ.1 k i := fun k i a1 a2 a3 a4 a5 a6 a7 a8 => by
    unfold S_up
    rw [S_look_I _ ⟨a1, a2, a3, a8⟩]
    split
    · exact S_upF_I ⟨a1, a2, a3, a4, a5, a6, a7⟩ 4 σ
    · rw [S_upT_I a8]; exact S_upF_I ⟨a1, a2, a3, a4, a5, a6, a7⟩ 4 σ
  have hts : TS σ (S_up e σ) := by
    refine ⟨hI2 6 0 (by decide) (by decide) (by decide) (by decide) (by decide) (by decide) (by decide) (by decide), fun k i hk => ?_⟩
    have h1 := (upF_ts (x := ex σ e) (n := ot σ e) 4 σ).2 k i hk
    have h2 : (S_up e σ).1 k i = (S_upF (ex σ e) (ot σ e) 4 σ).1 k i := by
      have := tm_of hk
      unfold S_up
      rw [S_look_I _ (by omega)]
      split
      · rfl
      · exact S_upT_I (by omega) 6 _
    rw [h2]; exact h1
  refine ⟨WI_up hw he, LkA_up hw hL he, hD.mk' (fun i _ => Or.inr ⟨hI2 40 i (by decide) (by decide) (by decide) (by decide) (by decide) (by decide) (by decide) (by decide), hI2 11 i (by decide) (by decide) (by decide) (by decide) (by decide) (by decide) (by decide) (by decide)⟩), hC.at hts.1, hts, ⟨⟨fun k i hk => hI2 k i (by omega) (by omega) (by omega) (by omega) (by omega) (by omega) (by omega) (by omega), fun k i hk _ => ?_, fun x n s hn hs' hb => ?_⟩, fun i => ⟨hI2 16 i (by decide) (by decide) (by decide) (by decide) (by decide) (by decide) (by decide) (by decide), hI2 17 i (by decide) (by decide) (by decide) (by decide) (by decide) (by decide) (by decide) (by decide), Or.inl (hI2 10 i (by decide) (by decide) (by decide) (by decide) (by decide) (by decide) (by decide) (by decide))⟩⟩⟩
  · have := nr_of hk
    exact hI2 k i (by omega) (by omega) (by omega) (by omega) (by omega) (by omega) (by omega) (by omega)
  · exact up_45 hw.1 he hn hs' hb
theorem up_unit {k i : Nat} (h : k ≠ 7 ∧ k ≠ 29 ∧ k ≠ 47 ∧ k ≠ 41 ∧ k ≠ 42 ∧ k ≠ 44 ∧ k ≠ 45 ∧ k ≠ 49) : (S_up e σ).1 k i = σ.1 k i := by
  unfold S_up
  rw [S_look_I _ (by omega)]
  split
  · exact S_upF_I (by omega) 4 σ
  · rw [S_upT_I (by omega)]; exact S_upF_I (by omega) 4 σ
/-- treating -/
theorem S_treat0_i {k i : Nat} (hi : i ≠ e) (hk : k ≠ 26) : (S_treat0 e σ).1.1 k i = σ.1 k i := by
  have q1 : ∀ τ : sn_FS, (S_tk e (eo e) τ).1.1 k i = τ.1 k i := fun τ => by
    unfold S_tk
    split
    · split
      · exact sI_nk hi
      · split
        · rfl
        · exact sI_nk hi
    · rfl
  have q2 : ∀ τ : sn_FS, (S_tb e (eo e) τ).1 k i = τ.1 k i := fun τ => by
    unfold S_tb
    split
    · rfl
    · rw [sI_nk hi, sI_nk hi]
  unfold S_treat0
  rw [q1, q2]
  exact S_ackT_e σ hi hk
theorem treat0_pack (hI : Inv σ η) (heN : e < 2 * nl σ) (he : e < 20) (h5 : σ.1 10 e = 5) : WI (S_treat0 e σ).1 ∧ LkA (S_treat0 e σ).1 ∧ DI (S_treat0 e σ).1 ∧ ClOk (S_treat0 e σ).1 ∧ TS σ (S_treat0 e σ).1 ∧ FR σ (S_treat0 e σ).1 := by
  obtain ⟨hH, hw, hL, hD, hC⟩ := hI
  have h6 : (S_treat0 e σ).1.1 6 0 = σ.1 6 0 := S_treat0_I σ (by decide)
  have hts : TS σ (S_treat0 e σ).1 := by
    refine ⟨h6, fun k i hk => ?_⟩
    by_cases c : k = 20
    · subst c
      have h1 : (S_treat0 e σ).1.1 20 i = (S_ackT e (cl σ 33 (eo e)) σ).1 20 i := by
        unfold S_treat0
        rw [S_tk_I _ (by decide), S_tb_I _ (by decide)]
      rw [h1]
      unfold S_ackT
      split
      · by_cases ci : i = e
        · rw [ci]
          have : ∀ (τ : sn_FS) (v : Int32), (sI τ 20 e v).1 20 e = v := fun τ v => by simp only [sn_upE, Nat.reduceEqDiff, reduceIte]
          rw [this]
          split
          · exact Or.inr (Or.inl rfl)
          · exact Or.inr (Or.inr ⟨20, by omega, by omega, rfl⟩)
        · left
          rw [sI_nk ci]
          unfold S_ackn
          rw [sI_ne (by decide), sI_ne (by decide), S_sh2_I (by decide)]
      · exact Or.inl rfl
    · left
      have := tm_of hk
      exact S_treat0_I σ (by simp only [List.mem_cons, List.not_mem_nil, or_false, not_or]; omega)
  refine ⟨WI_treat0 hw he h5, hL.mk' (S_treat0_SP σ) (fun k i hk => S_treat0_I σ (by simp only [List.mem_cons, List.not_mem_nil, or_false, not_or]; omega)), hD.mk' (fun i _ => Or.inr ⟨S_treat0_I σ (by decide), S_treat0_I σ (by decide)⟩), hC.at h6, hts, ⟨⟨fun k i hk => S_treat0_I σ (by simp only [List.mem_cons, List.not_mem_nil, or_false, not_or]; omega), fun k i hk hi => ?_, fun x n s _ _ _ => S_treat0_I σ (by decide)⟩, fun i => ⟨S_treat0_I σ (by decide), S_treat0_I σ (by decide), Or.inl (S_treat0_I σ (by decide))⟩⟩⟩
  have := nr_of hk
  exact S_treat0_i (by omega) (by omega)
theorem S_tk_5 {o : Nat} (h : (S_tk e o σ).2 = true) : σ.1 30 o = 5 := by
  unfold S_tk at h
  split at h
  · split at h
    · rename_i c; exact c.1
    · split at h <;> cases h
  · cases h
/-- what both have done when a unit arrived -/
def RcOk (kk : Nat → Nat) (g : sn_G) (f : sn_M) (x : Nat) (σ η : sn_FS) : Prop := ∃ τ θ w, f (Kap kk σ η) = some (some (.long w), Kap kk τ θ) ∧ Inv τ θ ∧ PE η θ ∧ TS σ τ ∧ FR0 σ τ ∧ RI τ ∧ ((w = 0 ∧ g σ = some (none, τ)) ∨ ∃ m, w = wC m ∧ MV τ m ∧ ∀ ω, g_Md_get (nI x) (wR m) τ = some (none, ω) → g σ = some (none, ω))
theorem sm_treat (hK : KOk kk σ) (hI : Inv σ η) (hRI : RI σ) (he : e < 2 * nl σ) (h5 : σ.1 10 e = 5) (h4 : (4 : Int32) ≤ σ.1 30 (eo e)) : RcOk kk (g_Md_serving_129 (nI e)) (f_Tr_receive_123 11 (some (aE e)) (some (aE (eo e)))) (ex σ e) σ η := by
  obtain ⟨⟨k1, k2, k3, k4, k5, k6, k7, k8, k9, k10, k11, k12, k13, k14, k15, k16, k17, k18, k19, k20, k21, k22⟩, kE, kF, kP, k4s⟩ := id hK
  obtain ⟨e1, e2, e3, e4, e5, e6, e7⟩ := kE e he
  have heo := eo_lt he
  obtain ⟨o1, o2, o3, o4, o5, o6, o7⟩ := kE (eo e) heo
  obtain ⟨hH, hw, hL, hD, hC⟩ := id hI
  have hn10 := hw.1.2.1
  have he20 : e < 20 := by omega
  obtain ⟨θ, a1, a2, a3⟩ := fl_treat hK hH hw he h5 h4
  obtain ⟨w1, w2, w3, w4, w5, w6⟩ := treat0_pack hI he he20 h5
  obtain ⟨g1, g2⟩ := gl_treat hw he
  have z10 : ((1 : Int32) = 0) = False := eq_false (by decide)
  have hsp := w6.sp
  by_cases c : (S_treat0 e σ).2 = true
  · rw [if_pos c] at a1
    have h30 : σ.1 30 (eo e) = 5 := by
      have := S_tk_5 c
      rw [S_tb_I _ (by decide), S_ackT_I _ (by decide)] at this
      exact this
    have h30' : (S_treat0 e σ).1.1 30 (eo e) = 5 := by rw [S_treat0_I σ (by decide)]; exact h30
    obtain ⟨m, m1, m2, m3⟩ := (hH.2.1 (eo e) heo).2 h30
    obtain ⟨m', m1', m2', m3'⟩ := (a2.2.1 (eo e) (by rw [hsp.nlE]; exact heo)).2 h30'
    refine ⟨(S_treat0 e σ).1, θ, wC m', ?_, ⟨a2, w1, w2, w3, w4⟩, a3, w5, w6.1, w6.ri hRI, Or.inr ⟨m', rfl, m1', fun ω h => ?_⟩⟩
    · simp only [f_Tr_receive_123, f_Tr_receive_128, z10, if_false, x_gR, e1, if_true, rr_E4, o1, rr_E5, x_nn, e3, x_cI a1, x_ite, x_gJ, o2, m3', f_Tr_receive_160, r_J]
    · have hJ : (S_treat0 e σ).1.2 35 (eo e) = σ.2 35 (eo e) := by
        unfold S_treat0
        have q1 : ∀ τ : sn_FS, (S_tk e (eo e) τ).1.2 = τ.2 := fun τ => by
          unfold S_tk
          split
          · split
            · rfl
            · split <;> rfl
          · rfl
        have q2 : ∀ τ : sn_FS, (S_tb e (eo e) τ).2 = τ.2 := fun τ => by
          unfold S_tb
          split <;> rfl
        rw [q1, q2]
        unfold S_ackT
        split
        · show (S_ackn e (ahd σ e (cl σ 33 (eo e)) + 1) σ).2 35 (eo e) = _
          exact S_ackn_J (by decide)
        · rfl
      rw [← m2', hJ] at h
      have := g2 c ω h
      unfold g_Md_serving_129
      rw [y_V_at this]; rfl
  · have c' : (S_treat0 e σ).2 = false := by simpa using c
    rw [if_neg c] at a1
    refine ⟨(S_treat0 e σ).1, θ, 0, ?_, ⟨a2, w1, w2, w3, w4⟩, a3, w5, w6.1, w6.ri hRI, Or.inl ⟨rfl, ?_⟩⟩
    · simp only [f_Tr_receive_123, f_Tr_receive_128, z10, if_false, x_gR, e1, if_true, rr_E4, o1, rr_E5, x_nn, e3, x_cI a1, x_ite, f_Tr_receive_159, f_Tr_receive_160, r_J]
    · have := g1 c'
      unfold g_Md_serving_129
      rw [y_V_at this]; rfl
theorem om2 : ∀ e, e < 20 → (1 : Int32) - nI e % (2 : Int32) = nI (1 - e % 2) := by decide +kernel
theorem eo_is {e : Nat} : 2 * (e / 2) + (1 - e % 2) = eo e := by unfold eo; split <;> omega
/-- from the hearing on -/
theorem rc_72 (hK : KOk kk σ) (hI : Inv σ η) (hRI : RI σ) (he : e < 2 * nl σ) {bad : Bool} {u : Nat} (hu : u ≤ 5) (h30 : bad = false → σ.1 30 (eo e) = nI u) {x2 : Int32} (hx : x2 = if bad then 1 else 0) : RcOk kk (g_Md_arrive_39 (nI e) x2 (nI u)) (f_Tr_receive_72 11 (some (aE e)) (some (aE (eo e))) (hT bad u)) (ex σ e) σ η := by
  obtain ⟨⟨k1, k2, k3, k4, k5, k6, k7, k8, k9, k10, k11, k12, k13, k14, k15, k16, k17, k18, k19, k20, k21, k22⟩, kE, kF, kP, k4s⟩ := id hK
  obtain ⟨e1, e2, e3, e4, e5, e6, e7⟩ := kE e he
  have heo := eo_lt he
  obtain ⟨o1, o2, o3, o4, o5, o6, o7⟩ := kE (eo e) heo
  have hn10 := hI.2.1.1.2.1
  have he20 : e < 20 := by omega
  obtain ⟨τ, θ, ⟨hIτ, hE, hT', hF⟩, hf, alt⟩ := hear_ok hK hI he hu (hRI e he20) hx
  obtain ⟨hH, hw, hL, hD, hC⟩ := id hIτ
  have hsp := hf.sp
  have hKτ := hK.sp hsp
  have heτ : e < 2 * nl τ := by rw [hsp.nlE]; exact he
  have hRo : ∀ i, i < 20 → i ≠ e → Rr1 τ i := fun i hi hne => by
    have := hRI i hi
    exact ⟨by rw [hf.1 10 i (Or.inr hne), hf.1 16 i (Or.inr hne)]; exact this.1, by rw [hf.1 10 i (Or.inr hne), hf.1 17 i (Or.inr hne)]; exact this.2⟩
  have hRτ : Rr1 τ e → RI τ := fun h i hi => by
    by_cases c : i = e
    · rw [c]; exact h
    · exact hRo i hi c
  have hpre : ∀ v κ, f_En_hear (aE e) (hT bad u) (σ.1 39 (eo e)) (Kap kk σ η) = some (some (.int v), κ) → f_Tr_receive_72 11 (some (aE e)) (some (aE (eo e))) (hT bad u) (Kap kk σ η) = (if ¬ v = (1 : Int32) then f_Tr_receive_100 11 (some (aE e)) (some (aE (eo e))) v else n_n 8 (some 11) fun a13 => c_V (f_Tr_fail a13 (some (aE e))) (f_Tr_receive_100 11 (some (aE e)) (some (aE (eo e))) v)) κ := fun v κ h => by
    simp only [f_Tr_receive_72, x_gR, o1, if_true, rr_E5, x_gI, o2, rd_U5, x_nn, e1, x_cI h]
  have z01 : ((0 : Int32) = 1) = False := eq_false (by decide)
  have z02 : ((0 : Int32) = 2) = False := eq_false (by decide)
  have z03 : ((0 : Int32) = 3) = False := eq_false (by decide)
  have z12 : ((1 : Int32) = 2) = False := eq_false (by decide)
  have z13 : ((1 : Int32) = 3) = False := eq_false (by decide)
  have h4 : bad = false ∧ 4 ≤ u → (4 : Int32) ≤ τ.1 30 (eo e) := fun q => by
    rw [hf.at (by decide), h30 q.1]
    exact nI_le (a := 4) (by omega) (by omega)
  rcases alt with ⟨r1, a1, a2⟩ | ⟨a1, a2, a3⟩ | ⟨r1, u4, a1, a2, a3⟩ | ⟨r1, u4, a1, a2, a3⟩
  · refine ⟨τ, θ, 0, ?_, hIτ, hE, hT', hF, hRτ r1, Or.inl ⟨rfl, a2⟩⟩
    rw [hpre _ _ a1, if_pos (by decide)]
    simp only [f_Tr_receive_100, z02, not_false_eq_true, if_true, f_Tr_receive_111, if_false, z03, f_Tr_receive_128, f_Tr_receive_159, f_Tr_receive_160, r_J]
  · have h37 := hw.lt e he20
    have hfl := gl_fail hw.gv hw.told heτ h37.1 h37.2 false
    have hfl : g_Md_fail (nI e) 0 τ = some (none, S_fail e false τ) := hfl
    obtain ⟨w1, w2, w3, w4, w5, w6⟩ := fail_pack hw hL hD hC heτ a2 false
    obtain ⟨ζ, y1, y2, y3⟩ := fl_fail hKτ hH hw.gv hw.told hw.cur hw.lt heτ (fun _ => hL _ (hw.1.ex_lt heτ).1)
    refine ⟨S_fail e false τ, ζ, 0, ?_, ⟨y2, w1, w2, w3, w4⟩, hE.tr y3, hT'.tr w5, hF.tr w6.1, fun i hi => ?_, Or.inl ⟨rfl, a3 _ hfl⟩⟩
    · rw [hpre _ _ a1, if_neg (fun q => q rfl)]
      simp only [x_nn, k11, if_true, x_cV y1, f_Tr_receive_100, z12, not_false_eq_true, f_Tr_receive_111, if_false, z13, f_Tr_receive_128, f_Tr_receive_159, f_Tr_receive_160, r_J]
    · by_cases c : i = e
      · have hq := QC_fail hw hC heτ a2 false
        have h10 : (S_fail e false τ).1 10 i = 0 := by rw [hq.at (by decide), S_takeOut_10, if_pos c]
        exact ⟨by rw [h10]; intro z; exact absurd z (by decide), by rw [h10]; intro z; exact absurd z (by decide)⟩
      · obtain ⟨b1, b2, b3⟩ := w6.2 i
        obtain ⟨c1, c2⟩ := hRo i hi c
        rcases b3 with q | q
        · exact ⟨by rw [q, b1]; exact c1, by rw [q, b2]; exact c2⟩
        · exact ⟨by rw [q]; intro z; exact absurd z (by decide), by rw [q]; intro z; exact absurd z (by decide)⟩
  · obtain ⟨w1, w2, w3, w4, w5, w6⟩ := up_pack hIτ heτ
    obtain ⟨ζ, y1, y2, y3⟩ := fl_comeUp hKτ hH hw.gv hw.told hw.beg heτ
    have hup := gl_up hw.gv hw.told hw.beg heτ
    have hs2 := w6.sp
    obtain ⟨ω, ξ, w, b1, b2, b3, b4, b5, b6, b7⟩ := sm_treat (hKτ.sp hs2) ⟨y2, w1, w2, w3, w4⟩ (w6.ri (hRτ r1)) (e := e) (by rw [hs2.nlE]; exact heτ) (by rw [up_unit (by decide)]; exact a2) (by rw [up_unit (by decide)]; exact h4 u4)
    rw [hs2.exE, hsp.exE] at b7
    refine ⟨ω, ξ, w, ?_, b2, (hE.tr y3).tr b3, (hT'.tr w5).tr b4, (hF.tr w6.1).tr b5, b6, ?_⟩
    · rw [hpre _ _ a1, if_pos (by decide)]
      rw [← b1]
      simp only [f_Tr_receive_100, not_true_eq_false, if_false, x_nn, k11, if_true, x_cV y1, f_Tr_receive_111]
    · rcases b7 with ⟨p1, p2⟩ | ⟨m, p1, p2, p3⟩
      · exact Or.inl ⟨p1, a3 _ (by rw [y_V_at hup]; exact p2)⟩
      · exact Or.inr ⟨m, p1, p2, fun ω' h => a3 _ (by rw [y_V_at hup]; exact p3 ω' h)⟩
  · obtain ⟨ω, ξ, w, b1, b2, b3, b4, b5, b6, b7⟩ := sm_treat hKτ hIτ (hRτ r1) heτ a2 (h4 u4)
    rw [hsp.exE] at b7
    have z32 : ((3 : Int32) = 2) = False := eq_false (by decide)
    refine ⟨ω, ξ, w, ?_, b2, hE.tr b3, hT'.tr b4, hF.tr b5, b6, ?_⟩
    · rw [hpre _ _ a1, if_pos (by decide)]
      rw [← b1]
      simp only [f_Tr_receive_100, z32, not_false_eq_true, if_true, f_Tr_receive_111, if_false, not_true_eq_false]
    · rcases b7 with ⟨p1, p2⟩ | ⟨m, p1, p2, p3⟩
      · exact Or.inl ⟨p1, a3 _ p2⟩
      · exact Or.inr ⟨m, p1, p2, fun ω' h => a3 _ (p3 ω' h)⟩
theorem rc_ok (hK : KOk kk σ) (hI : Inv σ η) (hRI : RI σ) (he : e < 2 * nl σ) (h3 : σ.1 3 (e / 2) = 0 ∨ σ.1 3 (e / 2) = 1) : RcOk kk (g_Md_arrive (nI e)) (f_Tr_receive 11 (nI e)) (ex σ e) σ η := by
  obtain ⟨⟨k1, k2, k3, k4, k5, k6, k7, k8, k9, k10, k11, k12, k13, k14, k15, k16, k17, k18, k19, k20, k21, k22⟩, kE, kF, kP, k4s⟩ := id hK
  obtain ⟨e1, e2, e3, e4, e5, e6, e7⟩ := kE e he
  have heo := eo_lt he
  obtain ⟨o1, o2, o3, o4, o5, o6, o7⟩ := kE (eo e) heo
  obtain ⟨hH, hw, hL, hD, hC⟩ := id hI
  have hP := hw.1
  have hn10 := hP.2.1
  have he20 : e < 20 := by omega
  have ho20 : eo e < 20 := by omega
  have hE := hw.e1 he20
  obtain ⟨v, hv, ev⟩ := hE.2.2.2.2.2.2.2.2.2.1
  obtain ⟨u, hu, eu⟩ := (hw.e1 ho20).2.2.2.2.2.2.2.2.2.2.1
  have d3 : e / 2 < md_len 3 := by show _ < 10; omega
  have d22 : e < md_len 22 := he20
  have d30 : eo e < md_len 30 := ho20
  have p1 := fl_endOf (η := η) hK hP (l := e / 2) (sd := e % 2) (by omega) (by omega)
  rw [show 2 * (e / 2) + e % 2 = e by omega] at p1
  have p2 := fl_endOf (η := η) hK hP (l := e / 2) (sd := 1 - e % 2) (by omega) (by omega)
  rw [eo_is] at p2
  have q1 : (some (aE e) = none) = False := by simp
  have q2 : (some (aE (eo e)) = none) = False := by simp
  have hpre : f_Tr_receive 11 (nI e) (Kap kk σ η) = (c_I (f_En_isDamagedNow (aE e)) fun v20 => (if ¬ v20 = 0 then f_Tr_receive_60 11 (some (aE e)) (some (aE (eo e))) else g_R 8 0 (some 11) fun v21 => g_R 5 4 v21 fun v22 => g_I 2 1 (some (aE e)) fun v23 => a_I 23 v22 v23 fun v24 => (if v24 = 0 then g_R 2 5 (some (aE (eo e))) fun v25 => g_I 9 0 v25 fun v26 => f_Tr_receive_72 11 (some (aE e)) (some (aE (eo e))) v26 else f_Tr_receive_60 11 (some (aE e)) (some (aE (eo e)))))) (Kap kk σ η) := by
    simp only [f_Tr_receive, x_nn, k11, if_true, hf2 _ he20, md2' _ he20, x_cR p1]
    have om := om2 e he20
    rw [md2' _ he20] at om
    simp only [om, x_cR p2, q1, q2, if_false, not_false_eq_true, if_true, x_ite, x_nn, e1]
  have hg : g_Md_arrive (nI e) σ = (if nI v ≤ 0 then g_Md_arrive_39 (nI e) (σ.1 3 (e / 2)) (nI u) else q_I 22 (nI e) fun v16 => w_I 22 (nI e) (v16 - (1 : Int32)) (g_Md_arrive_39 (nI e) (1 : Int32) (nI u))) σ := by
    unfold g_Md_arrive
    rw [nI_half (by omega), q_I_at d3, xor1 e he20, q_I_at d30, eu, q_I_at d22, ev]
  by_cases cv : v = 0
  · subst cv
    have ev0 : σ.1 22 e = 0 := ev
    have hdm : f_En_isDamagedNow (aE e) (Kap kk σ η) = some (some (.int 0), Kap kk σ η) := by
      simp only [f_En_isDamagedNow, x_gI, e1, if_true, rd_E11, ev0, not_true_eq_false, if_false, x_ite, r_Z]
      simp
    have hcl : f_Tr_receive 11 (nI e) (Kap kk σ η) = (if σ.1 3 (e / 2) = 0 then f_Tr_receive_72 11 (some (aE e)) (some (aE (eo e))) (nI u) else f_Tr_receive_60 11 (some (aE e)) (some (aE (eo e)))) (Kap kk σ η) := by
      rw [hpre, x_cI hdm]
      have hp7 : e / 2 < kL 7 := by show _ < 10; omega
      simp only [not_true_eq_false, if_false, x_gR, k11, if_true, rr_s11_0, k3, rr_s3_4, x_gI, e1, rd_E1, x_aI hp7 (show kL 7 ≤ 1000 by decide), k7, rd_a7, x_ite, o1, rr_E5, o2, rd_U0, eu]
    rcases h3 with c3 | c3
    · obtain ⟨τ, θ, w, b1, b2⟩ := rc_72 (bad := false) hK hI hRI he hu (fun _ => eu) (x2 := 0) rfl
      refine ⟨τ, θ, w, ?_, ?_⟩
      · rw [hcl, if_pos c3]; exact b1
      · rw [hg, if_pos (by decide), c3]; exact b2
    · obtain ⟨τ, θ, w, b1, b2⟩ := rc_72 (bad := true) hK hI hRI he hu (fun q => by cases q) (x2 := 1) rfl
      refine ⟨τ, θ, w, ?_, ?_⟩
      · rw [hcl, if_neg (by rw [c3]; decide)]; exact b1
      · rw [hg, if_pos (by decide), c3]; exact b2
  · have n0 : ¬ σ.1 22 e = 0 := by rw [ev]; exact fun q => cv (nI_inj (a := v) (b := 0) (by omega) (by omega) q)
    have osub : nI v - (1 : Int32) = nI (v - 1) := nI_sub (a := v) (b := 1) (by omega)
    have hdm : f_En_isDamagedNow (aE e) (Kap kk σ η) = some (some (.int 1), Kap kk (sI σ 22 e (nI (v - 1))) η) := by
      have n0' : ¬ nI v = 0 := by rw [← ev]; exact n0
      simp only [f_En_isDamagedNow, x_gI, e1, if_true, rd_E11, ev, n0', not_false_eq_true, x_ite, osub, x_pI, wr_E11, r_Z]
      simp
    have hf : Hf e σ (sI σ 22 e (nI (v - 1))) := Hf.rf.sI (by decide)
    have t10 : (sI σ 22 e (nI (v - 1))).1 10 e = σ.1 10 e := sI_ne (by decide)
    obtain ⟨i1, i2, i3, i4⟩ := hear_pack (τ := sI σ 22 e (nI (v - 1))) (θ := η) hI he hf (Or.inl rfl) (fun q => by rw [sI_ne (by decide)]; rw [t10] at q; exact hH.2.2 e he q) (Or.inl t10) (fun q => by rw [sI_ne (by decide)]; rw [t10] at q; exact hE.2.2.2.2.2.2.2.1 q) (fun q => by rw [sI_ne (by decide)]; rw [t10] at q; exact hE.2.2.2.2.2.2.2.2.1 q) ⟨v - 1, by omega, by simp only [sn_upE, Nat.reduceEqDiff, reduceIte]⟩ (by rw [sI_ne (by decide)]; exact hE.2.2.2.2.2.2.2.2.2.2.2.2.2) (Or.inl (sI_ne (by decide)))
    have hRI' : RI (sI σ 22 e (nI (v - 1))) := fun i hi => ⟨by rw [sI_ne (by decide), sI_ne (by decide)]; exact (hRI i hi).1, by rw [sI_ne (by decide), sI_ne (by decide)]; exact (hRI i hi).2⟩
    obtain ⟨τ, θ, w, b1, b2, b3, b4, b5, b6, b7⟩ := rc_72 (bad := true) (hK.sp hf.sp) i1 hRI' (e := e) (by rw [hf.sp.nlE]; exact he) hu (fun q => by cases q) (x2 := 1) rfl
    have hgv : g_Md_arrive (nI e) σ = g_Md_arrive_39 (nI e) 1 (nI u) (sI σ 22 e (nI (v - 1))) := by
      have oz : ¬ (nI v ≤ (0 : Int32)) := fun q => by
        have := (nI_leI (a := v) (b := 0) (by omega) (by omega)).mp q
        omega
      rw [hg, if_neg oz, q_I_at d22, ev, osub, w_I_at d22]
    rw [hf.sp.exE] at b7
    refine ⟨τ, θ, w, ?_, b2, i2.tr b3, i3.tr b4, i4.tr b5, b6, ?_⟩
    · rw [hpre, x_cI hdm, if_pos (by decide)]; exact b1
    · rw [hgv]; exact b7
