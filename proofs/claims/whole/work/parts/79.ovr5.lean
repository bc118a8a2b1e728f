/-! LAYER 2: a changeover ends, whole -/
theorem ackR_m {o n : Nat} : ackR o n (-1) = -1 := by unfold ackR; split <;> simp
theorem S_sh2_0 {e j : Nat} {σ : sn_FS} : S_sh2 e 0 j σ = σ := by
  have h1 : (S_sh2 e 0 j σ).1 = σ.1 := by
    funext k i
    show (if k = 26 ∧ 32 * e ≤ i ∧ i < 32 * e + j then σ.1 26 (i + 0) else σ.1 k i) = σ.1 k i
    split
    · rename_i c; rw [c.1]; rfl
    · rfl
  have h2 : (S_sh2 e 0 j σ).2 = σ.2 := by
    funext k i
    show (if k = 25 ∧ 32 * e ≤ i ∧ i < 32 * e + j then σ.2 25 (i + 0) else σ.2 k i) = σ.2 k i
    split
    · rename_i c; rw [c.1]; rfl
    · rfl
  exact Prod.ext h1 h2
theorem S_sh2_z {e n : Nat} {σ : sn_FS} : S_sh2 e n 0 σ = σ := by
  have h1 : (S_sh2 e n 0 σ).1 = σ.1 := by
    funext k i
    show (if k = 26 ∧ 32 * e ≤ i ∧ i < 32 * e + 0 then σ.1 26 (i + n) else σ.1 k i) = σ.1 k i
    exact if_neg (by omega)
  have h2 : (S_sh2 e n 0 σ).2 = σ.2 := by
    funext k i
    show (if k = 25 ∧ 32 * e ≤ i ∧ i < 32 * e + 0 then σ.2 25 (i + n) else σ.2 k i) = σ.2 k i
    exact if_neg (by omega)
  exact Prod.ext h1 h2
theorem S_ackn_0 {e o : Nat} {σ : sn_FS} (h27 : σ.1 27 e = nI o) (ho : o ≤ 32) (h21 : σ.1 21 e = -1) : S_ackn e 0 σ = σ := by
  unfold S_ackn
  rw [cl_n h27 (by omega), h21, ackR_m, S_sh2_0, Nat.sub_zero, sI_id h27, sI_id h21]
theorem S_ackn_all {e o : Nat} {σ : sn_FS} (h27 : σ.1 27 e = nI o) (ho : o ≤ 32) (h21 : σ.1 21 e = -1) : S_ackn e o σ = sI σ 27 e 0 := by
  unfold S_ackn
  rw [cl_n h27 (by omega), h21, ackR_m, Nat.sub_self, S_sh2_z]
  exact sI_id (by rw [sI_ne (by decide)]; exact h21)
theorem WI_oz {σ τ : sn_FS} (hw : WI σ) {e : Nat} (he : e < 20) (h10 : σ.1 10 e = 0) (h : ∀ k i, k ≠ 26 → (i = e → k ≠ 21 ∧ k ≠ 27 ∧ k ≠ 40) → τ.1 k i = σ.1 k i) (h26 : ∀ e' i, e' ≠ e → i < 32 → τ.1 26 (32 * e' + i) = σ.1 26 (32 * e' + i)) (h40 : τ.1 40 e = 0) : WI (S_oz e τ) := by
  have gz : ∀ k i, k ≠ 27 → k ≠ 29 → k ≠ 21 → (S_oz e τ).1 k i = τ.1 k i := fun k i a b c => by unfold S_oz; rw [sI_ne c, sI_ne b, sI_ne a]
  have gi : ∀ k i, i ≠ e → (S_oz e τ).1 k i = τ.1 k i := fun k i a => by unfold S_oz; rw [sI_nk a, sI_nk a, sI_nk a]
  have t27 : (S_oz e τ).1 27 e = 0 := by unfold S_oz; simp only [sn_upE, Nat.reduceEqDiff, reduceIte]
  have t29 : (S_oz e τ).1 29 e = 0 := by unfold S_oz; simp only [sn_upE, Nat.reduceEqDiff, reduceIte]
  have t21 : (S_oz e τ).1 21 e = -1 := by unfold S_oz; simp only [sn_upE, Nat.reduceEqDiff, reduceIte]
  have t40 : (S_oz e τ).1 40 e = 0 := by rw [gz 40 _ (by decide) (by decide) (by decide)]; exact h40
  have ge : ∀ k, k ≠ 27 → k ≠ 29 → k ≠ 21 → k ≠ 26 → k ≠ 40 → (S_oz e τ).1 k e = σ.1 k e := fun k a b c d f => by
    rw [gz k e a b c]; exact h k e d (fun _ => ⟨c, a, f⟩)
  refine hw.mkE he (fun k i hk => ?_) (fun k i hi hk => ?_) (fun e' i h1 h2 => ?_) ?_ ⟨0, by omega, t29⟩ (fun q => by rw [h10] at q; exact absurd q (by decide))
  · by_cases c : i = e
    · rw [c]; exact ge k (by omega) (by omega) (by omega) (by omega) (by omega)
    · rw [gi k i c]; exact h k i (by omega) (fun q => absurd q c)
  · rw [gi k i hi]; exact h k i hk (fun q => absurd q hi)
  · rw [gz 26 _ (by decide) (by decide) (by decide)]; exact h26 e' i h1 h2
  · obtain ⟨a1, a2, a3, a4, a5, a6, a7, a8, a9, a10, a11, a12, a13, a14⟩ := hw.e1 he
    have g := fun k (hk : k ≠ 27 ∧ k ≠ 29 ∧ k ≠ 21 ∧ k ≠ 26 ∧ k ≠ 40) => ge k hk.1 hk.2.1 hk.2.2.1 hk.2.2.2.1 hk.2.2.2.2
    refine ⟨?_, ?_, ?_, ?_, ⟨0, by omega, t27, Or.inl t21, fun i hi => by omega⟩, fun _ => ⟨t21, ?_, fun _ => ⟨t27, t29⟩⟩, fun q => absurd t40 q, ?_, ?_, ?_, ?_, ?_, ?_, ?_⟩
    · rw [g 10 (by decide)]; exact a1
    · rw [g 12 (by decide)]; exact a2
    · rw [g 13 (by decide)]; exact a3
    · rw [g 37 (by decide)]; exact a4
    · rw [g 20 (by decide)]; exact (a6 (by rw [h10]; decide)).2.1
    · rw [g 10 (by decide), g 16 (by decide)]; exact a8
    · rw [g 10 (by decide), g 17 (by decide)]; exact a9
    · rw [g 22 (by decide)]; exact a10
    · rw [g 30 (by decide)]; exact a11
    · rw [g 31 (by decide)]; exact a12
    · rw [g 33 (by decide)]; exact a13
    · rw [g 24 (by decide)]; exact a14
theorem sS_ne {σ : sn_FS} {k k' i : Nat} {v : Int32} (h : k' ≠ k) : (sS σ k v).1 k' i = σ.1 k' i := if_neg h
variable {kk : Nat → Nat} {σ η : sn_FS}
def ecM : List Nat := [7, 21, 26, 27, 29, 40, 41, 42, 43, 47, 49]
theorem ec_end (hK : KOk kk σ) (hH : HR σ η) (hw : WI σ) (hL : LkA σ) {e : Nat} (he : e < 2 * nl σ) {r : Option Nat} (hr : ∀ t, r = some t → t < 128) : ∃ τ θ, g_Md_overEnds (nI (ex σ e)) (nI (e / 2)) (bI r) σ = some (none, τ) ∧ f_Tr_endChangeover 11 (some (aE e)) (bI r) (Kap kk σ η) = some (none, Kap kk τ θ) ∧ HR τ θ ∧ PE η θ ∧ WI τ ∧ LkA τ ∧ (∀ k i, k ∉ ecM → τ.1 k i = σ.1 k i) ∧ (∀ i, i ≠ e → τ.1 40 i = σ.1 40 i) ∧ τ.1 40 e = 0 := by
  obtain ⟨⟨k1, k2, k3, k4, k5, k6, k7, k8, k9, k10, k11, k12, k13, k14, k15, k16, k17, k18, k19, k20, k21, k22⟩, kE, kF, kP, k4s⟩ := id hK
  obtain ⟨e1, e2, e3, e4, e5, e6, e7⟩ := kE e he
  have hP := hw.1
  have hn10 := hP.2.1
  obtain ⟨x1, x2, x3⟩ := hP.ex_lt he
  have he20 : e < 20 := by omega
  have d40 : e < md_len 40 := he20
  have hen := gl_endAt hP (l := e / 2) (x := ex σ e) (by omega) x1
  rw [en_ex hP he] at hen
  have hot := gl_otherOf hP he
  by_cases c : σ.1 40 e = 0
  · refine ⟨σ, η, ?_, ?_, hH, PE.rf, hw, hL, fun _ _ _ => rfl, fun _ _ => rfl, c⟩
    · simp only [g_Md_overEnds, y_I_at hen, q_I_at d40, c, not_true_eq_false, if_false, z_V]
    · simp only [f_Tr_endChangeover, x_gI, e1, if_true, rd_E12, c, not_true_eq_false, if_false, r_V, x_ite]
  · obtain ⟨a1, a2, a3, a4, ⟨o, o1, o2, o3, o4⟩, a6, a7, -⟩ := hw.e1 he20
    have h10 := a7 c
    have h105 : ¬ σ.1 10 e = 5 := by rw [h10]; decide
    obtain ⟨h21, h20, -⟩ := a6 h105
    obtain ⟨w, hww, ew⟩ := hw.2.1 e he20
    -- what both do after the acknowledging
    have go : ∀ (σ0 σ2 : sn_FS) (θ0 : sn_FS) (d : Nat), WI σ0 → σ0.1 10 e = 0 → d ≤ o → (∀ k i, k ≠ 40 ∨ i ≠ e → σ2.1 k i = σ0.1 k i) → σ2.1 40 e = 0 → (∀ k i, k ≠ 7 → σ0.1 k i = σ.1 k i) → HR (S_ackn e d σ2) θ0 → PE η θ0 → ∃ τ θ, g_Md_overEnds_93 (nI (ex σ e)) (nI (e / 2)) (nI e) (nI (ot σ e)) (S_ackn e d σ2) = some (none, τ) ∧ f_Tr_endChangeover_68 11 sn_fuel (some (aE e)) (some (aUQ e)) 0 (Kap kk (S_ackn e d σ2) θ0) = some (none, Kap kk τ θ) ∧ HR τ θ ∧ PE η θ ∧ WI τ ∧ LkA τ ∧ (∀ k i, k ∉ ecM → τ.1 k i = σ.1 k i) ∧ (∀ i, i ≠ e → τ.1 40 i = σ.1 40 i) ∧ τ.1 40 e = 0 := by
      intro σ0 σ2 θ0 d w0 z10 hd g2 z40 g0 hH0 hE0
      have y27 : σ2.1 27 e = nI o := by rw [g2 27 e (Or.inl (by decide)), g0 27 e (by decide)]; exact o2
      have y21 : σ2.1 21 e = -1 := by rw [g2 21 e (Or.inl (by decide)), g0 21 e (by decide)]; exact h21
      obtain ⟨b1, b2, b3, b4, b5⟩ := S_ackn_at (n := d) y27 o1
      rw [y21, ackR_m] at b3
      have hsp : SP σ (S_ackn e d σ2) := by
        refine ⟨fun i => ?_, fun i => ?_, fun i => ?_⟩
        all_goals rw [b5 _ i (by decide) (Or.inl (by decide)), g2 _ i (Or.inl (by decide)), g0 _ i (by decide)]
      have hgk : ∀ k i, k ∉ ecM → (S_ackn e d σ2).1 k i = σ.1 k i := fun k i hk => by
        have hk' : k ≠ 7 ∧ k ≠ 21 ∧ k ≠ 26 ∧ k ≠ 27 ∧ k ≠ 29 ∧ k ≠ 40 ∧ k ≠ 41 ∧ k ≠ 42 ∧ k ≠ 43 ∧ k ≠ 47 ∧ k ≠ 49 := by
          simp only [ecM, List.mem_cons, List.not_mem_nil, or_false, not_or] at hk; exact hk
        rw [b5 k i (by omega) (Or.inl (by omega)), g2 k i (Or.inl (by omega)), g0 k i (by omega)]
      have hwz : WI (S_oz e (S_ackn e d σ2)) := by
        refine WI_oz w0 he20 z10 (fun k i h1 h2 => ?_) (fun e' i h1 h2 => ?_) ?_
        · by_cases c2 : i = e
          · obtain ⟨p1, p2, p3⟩ := h2 c2
            rw [b5 k i h1 (Or.inl ⟨p2, p1⟩), g2 k i (Or.inl p3)]
          · rw [b5 k i h1 (Or.inr c2), g2 k i (Or.inr c2)]
        · rw [(S_ackn_26 h1 h2 (by rw [b1]; exact o1)).1, g2 26 _ (Or.inl (by decide))]
        · rw [b5 40 e (by decide) (Or.inl (by decide))]; exact z40
      have hLk : LkA (S_ackn e d σ2) := hL.mk' hsp (fun k i hk => by rw [b5 k i (by omega) (Or.inl (by omega)), g2 k i (Or.inl (by omega)), g0 k i (by omega)])
      obtain ⟨τ, θ, q1, q2, q3, q4, q5, q6, q7⟩ := ec_main (hK.sp hsp) hH0 (e := e) (by rw [hsp.nlE]; exact he) hwz (by rw [hgk 10 e (by decide)]; exact h105) b3 ⟨o - d, by omega, b2⟩ ⟨w, hww, by rw [b5 29 e (by decide) (Or.inl (by decide)), g2 29 e (Or.inl (by decide)), g0 29 e (by decide)]; exact ew⟩ hLk
      rw [hsp.exE, hsp.otE] at q1
      refine ⟨τ, θ, q1, q2, q3, hE0.tr q4, q5, q6, fun k i hk => ?_, fun i hi => ?_, ?_⟩
      · rw [q7 k i (fun q => hk (by revert q; unfold ecL ecM; simp only [List.mem_cons, List.not_mem_nil, or_false]; omega))]; exact hgk k i hk
      · rw [q7 40 i (by decide), b5 40 i (by decide) (Or.inl (by decide)), g2 40 i (Or.inr hi), g0 40 i (by decide)]
      · rw [q7 40 e (by decide), b5 40 e (by decide) (Or.inl (by decide))]; exact z40
    have hw4 : ∀ i, (sI σ 40 e 0).1 27 i = σ.1 27 i := fun i => sI_ne (by decide)
    have h4 : HR (sI σ 40 e 0) η := hH.mI (by decide)
    have hs4 : SP σ (sI σ 40 e 0) := SP.sI (by decide)
    have hot4 := hot
    have m27 : (sI σ 40 e 0).1 27 e = nI o := by rw [sI_ne (by decide)]; exact o2
    have m21 : (sI σ 40 e 0).1 21 e = -1 := by rw [sI_ne (by decide)]; exact h21
    have m20 : (sI σ 40 e 0).1 20 e = 0 := by rw [sI_ne (by decide)]; exact h20
    have d27 : e < md_len 27 := he20
    have p40 : ∀ k i, k ≠ 40 ∨ i ≠ e → (sI σ 40 e 0).1 k i = σ.1 k i := fun k i hk => by
      rcases hk with q | q
      · exact sI_ne q
      · exact sI_nk q
    have p41 : (sI σ 40 e 0).1 40 e = 0 := by simp only [sn_upE, Nat.reduceEqDiff, reduceIte]
    cases r with
    | some t =>
      have ht := hr t rfl
      have hE0 : E0 (sI σ 40 e 0) e := by
        refine ⟨?_, o, o1, m27, Or.inl m21, fun i hi => ?_⟩
        · rw [sI_ne (by decide)]; exact a2
        · have : cl (sI σ 40 e 0) 12 e = cl σ 12 e := by unfold cl; rw [sI_ne (by decide)]
          rw [this, sI_ne (by decide)]; exact o4 i hi
      have hop := gl_openAt he20 ht hE0
      rw [cl_n m27 (by omega)] at hop
      obtain ⟨θ1, u1, u2, u3⟩ := fl_ack (hK.sp hs4) h4 (e := e) (by rw [hs4.nlE]; exact he) hE0 ht
      have o5 : (nI t = (-1 : Int32)) = False := eq_false (nI_m1 (by omega))
      have hb : bI (some t) = nI t := rfl
      rw [hb]
      by_cases c2 : ahd (sI σ 40 e 0) e t < o
      · have hT : S_ackT e t (sI σ 40 e 0) = sI (S_ackn e (ahd (sI σ 40 e 0) e t + 1) (sI σ 40 e 0)) 20 e (if o = ahd (sI σ 40 e 0) e t + 1 then 0 else (sI σ 40 e 0).1 6 0 + 20) := by unfold S_ackT; rw [cl_n m27 (by omega), if_pos c2]
        obtain ⟨b1, b2, b3, b4, b5⟩ := S_ackn_at (n := ahd (sI σ 40 e 0) e t + 1) m27 o1
        have hst : sI (sI (S_ackT e t (sI σ 40 e 0)) 20 e 0) 21 e (-1) = S_ackn e (ahd (sI σ 40 e 0) e t + 1) (sI σ 40 e 0) := by
          rw [hT, sI_sI, sI_id (k := 20) (by rw [b5 20 e (by decide) (Or.inl (by decide))]; exact m20), sI_id (by rw [b3, m21, ackR_m])]
        have hHs : HR (S_ackn e (ahd (sI σ 40 e 0) e t + 1) (sI σ 40 e 0)) θ1 := by rw [← hst]; exact (u2.mI (by decide)).mI (by decide)
        obtain ⟨τ, θ, q1, q2, q3⟩ := go σ (sI σ 40 e 0) θ1 (ahd (sI σ 40 e 0) e t + 1) hw h10 (by omega) p40 p41 (fun _ _ _ => rfl) hHs u3
        refine ⟨τ, θ, ?_, ?_, q3⟩
        · rw [if_pos c2] at hop
          have o6 : (nI (ahd (sI σ 40 e 0) e t) = (-1 : Int32)) = False := eq_false (nI_m1 (by have := ahd_lt (σ := sI σ 40 e 0) (e := e) (t := t); omega))
          have hak := gl_acknowledge he20 hE0 (n := ahd (sI σ 40 e 0) e t + 1) (by omega) (by rw [cl_n m27 (by omega)]; omega)
          simp only [g_Md_overEnds, y_I_at hen, q_I_at d40, c, not_false_eq_true, if_true, y_I_at hot, w_I_at d40, o5, y_ite, y_I_at hop, o6, if_false, nI_1, y_V_at hak, q1]
        · have hstop := fl_stop (σ := S_ackT e t (sI σ 40 e 0)) (η := θ1) e3
          rw [hst] at hstop
          simp only [f_Tr_endChangeover, x_gI, e1, if_true, rd_E12, c, not_false_eq_true, x_pI, wr_E12, x_gR, rr_E4, e3, rr_W7, o5, x_ite, x_nn, x_cV u1, f_Tr_endChangeover_58, x_cV hstop, q2]
      · have hT : S_ackT e t (sI σ 40 e 0) = sI σ 40 e 0 := by unfold S_ackT; rw [cl_n m27 (by omega), if_neg c2]
        have h0 := S_ackn_0 m27 o1 m21
        have hst : sI (sI (S_ackT e t (sI σ 40 e 0)) 20 e 0) 21 e (-1) = S_ackn e 0 (sI σ 40 e 0) := by
          rw [hT, sI_id m20, sI_id m21, h0]
        have hHs : HR (S_ackn e 0 (sI σ 40 e 0)) θ1 := by rw [← hst]; exact (u2.mI (by decide)).mI (by decide)
        obtain ⟨τ, θ, q1, q2, q3⟩ := go σ (sI σ 40 e 0) θ1 0 hw h10 (by omega) p40 p41 (fun _ _ _ => rfl) hHs u3
        refine ⟨τ, θ, ?_, ?_, q3⟩
        · rw [if_neg c2] at hop
          rw [h0] at q1
          simp only [g_Md_overEnds, y_I_at hen, q_I_at d40, c, not_false_eq_true, if_true, y_I_at hot, w_I_at d40, o5, y_ite, y_I_at hop, q1]
        · have hstop := fl_stop (σ := S_ackT e t (sI σ 40 e 0)) (η := θ1) e3
          rw [hst] at hstop
          simp only [f_Tr_endChangeover, x_gI, e1, if_true, rd_E12, c, not_false_eq_true, x_pI, wr_E12, x_gR, rr_E4, e3, rr_W7, o5, x_ite, x_nn, x_cV u1, f_Tr_endChangeover_58, x_cV hstop, q2]
    | none =>
      have hb : bI none = (-1 : Int32) := rfl
      rw [hb]
      have n27 : (sS (sI σ 40 e 0) 7 (σ.1 7 0 + nI o)).1 27 e = nI o := by
        rw [sS_ne (by decide)]; exact m27
      have n21 : (sS (sI σ 40 e 0) 7 (σ.1 7 0 + nI o)).1 21 e = -1 := by
        rw [sS_ne (by decide)]; exact m21
      have n20 : (sS (sI σ 40 e 0) 7 (σ.1 7 0 + nI o)).1 20 e = 0 := by
        rw [sS_ne (by decide)]; exact m20
      have hs7 : SP σ (sS (sI σ 40 e 0) 7 (σ.1 7 0 + nI o)) := hs4.tr (SP.sS (by decide))
      have h7 : HR (sS (sI σ 40 e 0) 7 (σ.1 7 0 + nI o)) η := h4.mS (by decide)
      have he7 : e < 2 * nl (sS (sI σ 40 e 0) 7 (σ.1 7 0 + nI o)) := by rw [hs7.nlE]; exact he
      obtain ⟨hd, hR⟩ := h7.1 0 (by decide) e he7
      have hQ := QH_of (t := 0) (i := e) (hK.sp hs7) (by decide) he7 hR n27 (by show o ≤ 32; exact o1)
      have hdr := fl_drop hQ (d := o) (by omega)
      have hall := S_ackn_all n27 o1 n21
      have hHa := HR_ackn h7 (n := o) he7 n27 o1 (by omega) hR
      obtain ⟨τ, θ, q1, q2, q3⟩ := go (sS σ 7 (σ.1 7 0 + nI o)) (sS (sI σ 40 e 0) 7 (σ.1 7 0 + nI o)) (sI η (qA 0 e) 1 (nI ((hd + o) % 32))) o (hw.mS (by decide)) (by rw [sS_ne (by decide)]; exact h10) (by omega) (fun k i hk => by
        by_cases c7 : k = 7
        · rw [c7]; rfl
        · rw [sS_ne c7, sS_ne c7, p40 k i hk]) (by rw [sS_ne (by decide)]; exact p41) (fun k i hk => sS_ne hk) hHa ⟨fun j => sI_ne (by unfold qA qo; simp), fun j => rfl⟩
      refine ⟨τ, θ, ?_, ?_, q3⟩
      · rw [hall] at q1
        have t7 : (sI σ 40 e 0).1 7 0 = σ.1 7 0 := sI_ne (by decide)
        have hq1 : sI (sS (sI σ 40 e 0) 7 ((sI σ 40 e 0).1 7 0 + (sI σ 40 e 0).1 27 e)) 27 e 0 = sI (sS (sI σ 40 e 0) 7 (σ.1 7 0 + nI o)) 27 e 0 := by rw [t7, m27]
        simp only [g_Md_overEnds, y_I_at hen, q_I_at d40, c, not_false_eq_true, if_true, y_I_at hot, w_I_at d40, y_ite, not_true_eq_false, if_false, q_S, q_I_at d27, w_S, w_I_at d27, hq1, q1]
      · have hst : sI (sI (sI (sS (sI σ 40 e 0) 7 (σ.1 7 0 + nI o)) 27 e 0) 20 e 0) 21 e (-1) = sI (sS (sI σ 40 e 0) 7 (σ.1 7 0 + nI o)) 27 e 0 := by
          rw [sI_id (k := 20) (by rw [sI_ne (by decide)]; exact n20), sI_id (k := 21) (by rw [sI_ne (by decide)]; exact n21)]
        have hstop := fl_stop (σ := sI (sS (sI σ 40 e 0) 7 (σ.1 7 0 + nI o)) 27 e 0) (η := sI η (qA 0 e) 1 (nI ((hd + o) % 32))) e3
        rw [hst] at hstop
        rw [hall] at q2
        have hdr : f_Qu_drop (aUQ e) (nI o) (Kap kk (sS (sI σ 40 e 0) 7 (σ.1 7 0 + nI o)) η) = some (none, u_I (Kap kk (sS (sI σ 40 e 0) 7 (σ.1 7 0 + nI o)) (sI η (qA 0 e) 1 (nI ((hd + o) % 32)))) (qA 0 e) 2 (nI (o - o))) := hdr
        rw [qw (by decide), Nat.sub_self] at hdr
        have hdr : f_Qu_drop (aUQ e) (nI o) (Kap kk (sS (sI σ 40 e 0) 7 (σ.1 7 0 + nI o)) η) = some (none, Kap kk (sI (sS (sI σ 40 e 0) 7 (σ.1 7 0 + nI o)) 27 e 0) (sI η (qA 0 e) 1 (nI ((hd + o) % 32)))) := hdr
        have t7 : (sI σ 40 e 0).1 7 0 = σ.1 7 0 := sI_ne (by decide)
        simp only [f_Tr_endChangeover, x_gI, e1, if_true, rd_E12, c, not_false_eq_true, x_pI, wr_E12, x_gR, rr_E4, e3, rr_W7, x_ite, not_true_eq_false, if_false, k11, rd_s11_7, e4, rd_UQ2, sn_upE, Nat.reduceEqDiff, reduceIte, o2, wS_7, x_nn, x_cV hdr, f_Tr_endChangeover_58, x_cV hstop, q2]
