/-! LAYER 2: calls that change nothing: both alike -/
variable {kk : Nat → Nat} {σ η : sn_FS}
def Al (kk : Nat → Nat) (σ η : sn_FS) (g : sn_G) (f : sn_M) : Prop := ∃ v, g σ = some (some (.int v), σ) ∧ f (Kap kk σ η) = some (some (.int v), Kap kk σ η)
theorem Al.op {g : sn_G} {f : sn_M} (h : Al kk σ η g f) (hA : GA σ η) : Op kk g f σ η := by
  obtain ⟨v, a, b⟩ := h
  exact ⟨v, σ, η, a, b, hA, SP.rf, Nat.le_add_right _ _⟩
theorem Al.to {g g' : sn_G} {f f' : sn_M} (h : Al kk σ η g' f') (hg : g σ = g' σ) (hf : f (Kap kk σ η) = f' (Kap kk σ η)) : Al kk σ η g f := by
  obtain ⟨v, a, b⟩ := h
  exact ⟨v, by rw [hg]; exact a, by rw [hf]; exact b⟩
theorem Al.I {v : Int32} : Al kk σ η (z_I v) (r_I v) := ⟨v, rfl, rfl⟩
theorem Al.Z {v : Int32} (h : v = 0 ∨ v = 1) : Al kk σ η (z_Z v) (r_Z v) := ⟨v, by simp [z_Z, h], by simp [r_Z, h]⟩
theorem Al.ite {c : Prop} {d d' : Decidable c} {g g' : sn_G} {f f' : sn_M} (h1 : c → Al kk σ η g f) (h2 : ¬ c → Al kk σ η g' f') : Al kk σ η (@ite _ c d g g') (@ite _ c d' f f') := by
  by_cases h : c
  · rw [if_pos h, if_pos h]; exact h1 h
  · rw [if_neg h, if_neg h]; exact h2 h
theorem Al.swN {x : Int32} {d : sn_G} {d' : sn_M} (h : Al kk σ η d d') : Al kk σ η (y_sw x [] [] d) (sn_sw x [] [] d') := h
theorem Al.swC {x k : Int32} {ks : List Int32} {g : sn_G} {gs : List sn_G} {f : sn_M} {fs : List sn_M} {d : sn_G} {d' : sn_M} (h1 : Al kk σ η g f) (h2 : Al kk σ η (y_sw x ks gs d) (sn_sw x ks fs d')) : Al kk σ η (y_sw x (k :: ks) (g :: gs) d) (sn_sw x (k :: ks) (f :: fs) d') := Al.ite (fun _ => h1) (fun _ => h2)
theorem le_of {x : Int32} {b : Nat} (h : ¬ nI b ≤ x) : x < nI b := Int32.not_le.mp h
def xok (x : Int32) : Bool := !(decide (x < 0)) && !(decide ((6 : Int32) ≤ x))
theorem xok_nat {x : Int32} (h : xok x = true) : ∃ v, v < 6 ∧ x = nI v := by
  unfold xok at h
  simp only [Bool.and_eq_true, Bool.not_eq_true', decide_eq_false_iff_not] at h
  exact nat_of h.1 (b := 6) (by omega) (le_of (b := 6) h.2)
theorem nat_xok {v : Nat} (h : v < 6) : xok (nI v) = true := by
  have h1 : ¬ nI v < 0 := nI_pos (by omega)
  have h2 : ¬ (6 : Int32) ≤ nI v := nI_ge (b := 6) h (by omega)
  unfold xok
  simp [h1, h2]
theorem gl_isX (x : Int32) (σ : sn_FS) : g_Md_isExchange x σ = some (some (.int (if xok x then 1 else 0)), σ) := by
  unfold g_Md_isExchange g_Md_isExchange_14 g_Md_isExchange_15 xok
  by_cases h1 : x < 0
  · simp [h1, z_Z]
  · by_cases h2 : (6 : Int32) ≤ x
    · simp [h1, h2, z_Z]
    · simp [h1, h2, z_Z]
theorem fl_isX (x : Int32) (κ : sn_Mem) : f_Pl_isExchange x κ = some (some (.int (if xok x then 1 else 0)), κ) := by
  unfold f_Pl_isExchange f_Pl_isExchange_14 f_Pl_isExchange_15 xok
  by_cases h1 : x < 0
  · simp [h1, r_Z]
  · by_cases h2 : (6 : Int32) ≤ x
    · simp [h1, h2, r_Z]
    · simp [h1, h2, r_Z]
def two (x y : Int32) : Bool := xok x && xok y && !(decide (x = y))
theorem fl_areTwo (x y : Int32) (κ : sn_Mem) : f_Pl_areTwo x y κ = some (some (.int (if two x y then 1 else 0)), κ) := by
  unfold f_Pl_areTwo f_Pl_areTwo_23 f_Pl_areTwo_24 two
  rw [x_cI (fl_isX x κ)]
  by_cases h1 : xok x = true
  · rw [if_pos h1, if_neg (by decide), x_cI (fl_isX y κ)]
    by_cases h2 : xok y = true
    · rw [if_pos h2, if_neg (by decide)]
      by_cases h3 : x = y
      · rw [if_pos h3]; simp [h3, r_Z]
      · rw [if_neg h3]; simp [h1, h2, h3, r_Z]
    · rw [if_neg h2, if_pos rfl]; simp [h2, r_Z]
  · rw [if_neg h1, if_pos rfl]; simp [h1, r_Z]
/-- counted -/
theorem op_counted (hK : KOk kk σ) (hA : GA σ η) (x1 : Int32) : Op kk (g_Md_counted x1) (f_Sn_counted 1 x1) σ η := by
  obtain ⟨⟨k1, k2, k3, k4, k5, k6, k7, k8, k9, k10, k11, k12, k13, k14, k15, k16, k17, k18, k19, k20, k21, k22⟩, kE, kF, kP, k4s⟩ := id hK
  refine Al.op ?_ hA
  have h56 := hA.2.2.2
  by_cases c0 : x1 = 0
  · subst c0
    refine ⟨σ.1 5 0, rfl, ?_⟩
    show (g_R 11 0 (some 1) fun v1 => g_I 1 0 v1 fun v2 => r_I v2) (Kap kk σ η) = _
    simp only [x_gR, k1, if_true, rr_s1_0, x_gI, k2, rd_s2_0, r_I, h56]
  · by_cases c1 : x1 = 1
    · subst c1
      refine ⟨σ.1 7 0, rfl, ?_⟩
      show (g_R 11 2 (some 1) fun v1 => g_I 8 7 v1 fun v2 => r_I v2) (Kap kk σ η) = _
      simp only [x_gR, k1, if_true, rr_s1_2, x_gI, k11, rd_s11_7, r_I]
    · by_cases c2 : x1 = 2
      · subst c2
        refine ⟨σ.1 8 0, rfl, ?_⟩
        show (g_R 11 2 (some 1) fun v1 => g_I 8 8 v1 fun v2 => r_I v2) (Kap kk σ η) = _
        simp only [x_gR, k1, if_true, rr_s1_2, x_gI, k11, rd_s11_8, r_I]
      · by_cases c3 : x1 = 3
        · subst c3
          refine ⟨σ.1 9 0, rfl, ?_⟩
          show (g_R 11 2 (some 1) fun v1 => g_I 8 9 v1 fun v2 => r_I v2) (Kap kk σ η) = _
          simp only [x_gR, k1, if_true, rr_s1_2, x_gI, k11, rd_s11_9, r_I]
        · refine ⟨-1, ?_, ?_⟩
          · unfold g_Md_counted
            rw [if_pos c0, if_pos c1, if_pos c2, if_pos c3]; rfl
          · unfold f_Sn_counted
            simp only [sn_sw, c0, c1, c2, c3, if_false, r_I]
/-- ends -/
theorem end_cases (hK : KOk kk σ) (hP : PlanOk σ) (x1 x2 : Int32) : (∃ l sd, l < nl σ ∧ sd < 2 ∧ x1 = nI l ∧ x2 = nI sd) ∨ (g_Md_isEnd x1 x2 σ = some (some (.int 0), σ) ∧ ∀ η, f_Tr_endOf 11 x1 x2 (Kap kk σ η) = some (some (va_rf none), Kap kk σ η)) := by
  obtain ⟨⟨k1, k2, k3, k4, k5, k6, k7, k8, k9, k10, k11, k12, k13, k14, k15, k16, k17, k18, k19, k20, k21, k22⟩, kE, kF, kP, k4s⟩ := id hK
  have hn := hP.2.1
  have z10 : ((1 : Int32) = 0) = False := eq_false (by decide)
  by_cases c0 : x1 < 0
  · right
    have hg : g_Md_isLink x1 σ = some (some (.int 0), σ) := by unfold g_Md_isLink g_Md_isLink_16 g_Md_isLink_17; rw [if_pos c0]; simp [z_Z]
    have hf : ∀ η, f_Pl_isLink 3 x1 (Kap kk σ η) = some (some (.int 0), Kap kk σ η) := fun η => by unfold f_Pl_isLink f_Pl_isLink_16 f_Pl_isLink_17; rw [if_pos c0]; simp [r_Z]
    refine ⟨?_, fun η => ?_⟩
    · unfold g_Md_isEnd g_Md_isEnd_21 g_Md_isEnd_22; rw [y_I_at hg, if_pos rfl]; simp [z_Z]
    · simp only [f_Tr_endOf, x_gR, k11, if_true, rr_s11_0, x_nn, k3, x_cI (hf η), f_Tr_endOf_20, f_Tr_endOf_34, r_R]
  · by_cases c1 : nI (nl σ) ≤ x1
    · right
      have hg : g_Md_isLink x1 σ = some (some (.int 0), σ) := by
        unfold g_Md_isLink g_Md_isLink_16 g_Md_isLink_17; rw [if_neg c0]
        show (if σ.1 4 0 ≤ x1 then z_Z 0 else z_Z 1) σ = _
        rw [hP.1, if_pos c1]; simp [z_Z]
      have hf : ∀ η, f_Pl_isLink 3 x1 (Kap kk σ η) = some (some (.int 0), Kap kk σ η) := fun η => by
        have e1 : (nI (nl σ) ≤ x1) = True := eq_true c1
        have e0 : (x1 < 0) = False := eq_false c0
        simp only [f_Pl_isLink, f_Pl_isLink_16, f_Pl_isLink_17, e0, if_false, x_gI, k3, if_true, rd_s3_0, hP.1, e1, r_Z]
        simp
      refine ⟨?_, fun η => ?_⟩
      · unfold g_Md_isEnd g_Md_isEnd_21 g_Md_isEnd_22; rw [y_I_at hg, if_pos rfl]; simp [z_Z]
      · simp only [f_Tr_endOf, x_gR, k11, if_true, rr_s11_0, x_nn, k3, x_cI (hf η), f_Tr_endOf_20, f_Tr_endOf_34, r_R]
    · obtain ⟨l, hl, rfl⟩ := nat_of c0 (b := nl σ) (by omega) (le_of c1)
      by_cases d0 : x2 = 0
      · subst d0; exact Or.inl ⟨l, 0, hl, by decide, rfl, rfl⟩
      · by_cases d1 : x2 = 1
        · subst d1; exact Or.inl ⟨l, 1, hl, by decide, rfl, rfl⟩
        · right
          have hg : g_Md_isLink (nI l) σ = some (some (.int 1), σ) := by
            unfold g_Md_isLink g_Md_isLink_16 g_Md_isLink_17; rw [if_neg c0]
            show (if σ.1 4 0 ≤ nI l then z_Z 0 else z_Z 1) σ = _
            rw [hP.1, if_neg c1]; simp [z_Z]
          refine ⟨?_, fun η => ?_⟩
          · unfold g_Md_isEnd g_Md_isEnd_21 g_Md_isEnd_22; rw [y_I_at hg, if_neg (by decide), if_neg d0, if_pos d1]; simp [z_Z]
          · have hf := fl_isLink (η := η) hK hP hl
            by_cases e0 : x2 < 0
            · simp only [f_Tr_endOf, x_gR, k11, if_true, rr_s11_0, x_nn, k3, x_cI hf, z10, if_false, eq_true e0, f_Tr_endOf_20, f_Tr_endOf_34, r_R]
            · have e1 : ¬ x2 ≤ 1 := fun q => by
                obtain ⟨v, hv, e⟩ := nat_of e0 (b := 2) (by omega) (by
                  have h1 := Int32.le_iff_toInt_le.mp q
                  apply Int32.lt_iff_toInt_lt.mpr
                  have a1 : (1 : Int32).toInt = 1 := by decide
                  have a2 : (nI 2).toInt = 2 := by decide
                  omega)
                obtain rfl | rfl : v = 0 ∨ v = 1 := by omega
                · exact d0 e
                · exact d1 e
              simp only [f_Tr_endOf, x_gR, k11, if_true, rr_s11_0, x_nn, k3, x_cI hf, z10, if_false, eq_false e0, eq_false e1, f_Tr_endOf_20, f_Tr_endOf_34, r_R]
theorem gl_isLink1 (hP : PlanOk σ) {l : Nat} (hl : l < nl σ) : g_Md_isLink (nI l) σ = some (some (.int 1), σ) := by
  have hn := hP.2.1
  unfold g_Md_isLink g_Md_isLink_16 g_Md_isLink_17
  rw [if_neg (nI_pos (by omega))]
  show (if σ.1 4 0 ≤ nI l then z_Z 0 else z_Z 1) σ = _
  rw [hP.1, if_neg (nI_ge hl (by omega))]; simp [z_Z]
theorem gl_isEnd1 (hP : PlanOk σ) {l sd : Nat} (hl : l < nl σ) (hs : sd < 2) : g_Md_isEnd (nI l) (nI sd) σ = some (some (.int 1), σ) := by
  unfold g_Md_isEnd g_Md_isEnd_21 g_Md_isEnd_17 g_Md_isEnd_22
  rw [y_I_at (gl_isLink1 hP hl), if_neg (by decide)]
  obtain rfl | rfl : sd = 0 ∨ sd = 1 := by omega
  · rw [if_pos (by decide)]; simp [z_Z]
  · rw [if_neg (by decide), if_neg (fun q => q (by decide))]; simp [z_Z]
theorem e2l (l sd : Nat) : (2 : Int32) * nI l + nI sd = nI (2 * l + sd) := by
  have : (2 : Int32) * nI l = nI (2 * l) := pk_mul 2 l
  rw [this, nI_add]
theorem gl_left (σ : sn_FS) (d : Int32) : g_Md_left d σ = some (some (.int (if d = 0 then 0 else d - σ.1 6 0)), σ) := by
  unfold g_Md_left g_Md_left_14
  by_cases c : d = 0
  · rw [if_neg (fun q => q c), if_pos c]; rfl
  · rw [if_pos c, if_neg c]; rfl
theorem fl_left (k2 : kk 2 = 1) (d : Int32) : f_Ck_left 2 d (Kap kk σ η) = some (some (.int (if d = 0 then 0 else d - σ.1 6 0)), Kap kk σ η) := by
  unfold f_Ck_left f_Ck_left_14
  by_cases c : d = 0
  · rw [if_neg (fun q => q c), if_pos c]; rfl
  · rw [if_pos c, if_neg c]
    simp only [x_gI, k2, if_true, rd_s2_0, r_I]
theorem op_end (hK : KOk kk σ) (hA : GA σ η) (x1 x2 x3 : Int32) : Op kk (g_Md_end x1 x2 x3) (f_Sn_end 1 x1 x2 x3) σ η := by
  have hKo := hK
  obtain ⟨⟨k1, k2, k3, k4, k5, k6, k7, k8, k9, k10, k11, k12, k13, k14, k15, k16, k17, k18, k19, k20, k21, k22⟩, kE, kF, kP, k4s⟩ := id hK
  have hP := hA.1.1.2.1.1
  have hn := hP.2.1
  refine Al.op ?_ hA
  rcases end_cases (kk := kk) hKo hP x1 x2 with ⟨l, sd, hl, hs, rfl, rfl⟩ | ⟨hg, hf⟩
  · have he : 2 * l + sd < 2 * nl σ := by omega
    have h20 : 2 * l + sd < 20 := by omega
    obtain ⟨e1, e2, e3, e4, e5, e6, e7⟩ := kE _ he
    obtain ⟨e, ee⟩ : ∃ e, e = 2 * l + sd := ⟨_, rfl⟩
    have hfe := fl_endOf (η := η) hKo hP hl hs
    rw [← ee] at he h20 e1 e2 e3 e4 e5 e6 e7 hfe
    have q1 : (some (aE e) = none) = False := by simp
    have hd : ∀ k, md_len k = 20 → e < md_len k := fun k h => by rw [h]; exact h20
    have hcl : f_Sn_end 1 (nI l) (nI sd) x3 (Kap kk σ η) = f_En_tell (aE e) x3 (Kap kk σ η) ∨ True := Or.inr trivial
    have hAl : Al kk σ η (y_sw x3 [0, 1, 2, 3, 4, 5, 6, 7, 8, 9, 10, 11, 12, 13, 14, 15] [(q_I 10 (nI e) fun v3 => z_I v3), (q_I 11 (nI e) fun v4 => y_I (g_Md_left v4) fun v5 => z_I v5), (q_I 12 (nI e) fun v6 => z_I v6), (q_I 13 (nI e) fun v7 => z_I v7), (q_I 14 (nI e) fun v8 => z_I v8), (q_I 15 (nI e) fun v9 => z_I v9), (q_I 27 (nI e) fun v10 => z_I v10), (q_I 29 (nI e) fun v11 => z_I v11), (q_I 16 (nI e) fun v12 => z_I v12), (q_I 17 (nI e) fun v13 => z_I v13), (q_I 23 (nI e) fun v14 => (if v14 = 0 then g_Md_end_195 (0 : Int32) else g_Md_end_195 (1 : Int32))), (q_I 20 (nI e) fun v15 => y_I (g_Md_left v15) fun v16 => z_I v16), (q_I 21 (nI e) fun v17 => (if ¬ v17 = (-1 : Int32) then g_Md_end_224 (1 : Int32) else g_Md_end_224 (0 : Int32))), (q_I 22 (nI e) fun v18 => z_I v18), (q_I 37 (nI e) fun v19 => z_I v19), (q_I 38 (nI e) fun v20 => z_I v20)] (z_I (-1 : Int32))) (f_En_tell (aE e) x3) := by
      unfold f_En_tell
      have rd : ∀ k (g : sn_G) (f : sn_M), md_len k = 20 → g = (q_I k (nI e) fun v => z_I v) → f (Kap kk σ η) = some (some (.int (σ.1 k e)), Kap kk σ η) → Al kk σ η g f := fun k g f h1 h2 h3 => ⟨σ.1 k e, by rw [h2, q_I_at (hd k h1)]; rfl, h3⟩
      refine Al.swC (rd 10 _ _ rfl rfl ?_) (Al.swC ?_ (Al.swC (rd 12 _ _ rfl rfl ?_) (Al.swC (rd 13 _ _ rfl rfl ?_) (Al.swC (rd 14 _ _ rfl rfl ?_) (Al.swC (rd 15 _ _ rfl rfl ?_) (Al.swC (rd 27 _ _ rfl rfl ?_) (Al.swC (rd 29 _ _ rfl rfl ?_) (Al.swC (rd 16 _ _ rfl rfl ?_) (Al.swC (rd 17 _ _ rfl rfl ?_) (Al.swC ?_ (Al.swC ?_ (Al.swC ?_ (Al.swC (rd 22 _ _ rfl rfl ?_) (Al.swC (rd 37 _ _ rfl rfl ?_) (Al.swC (rd 38 _ _ rfl rfl ?_) (Al.swN Al.I))))))))))))))))
      · simp only [x_gI, e1, if_true, rd_E7, r_I]
      · refine ⟨_, by rw [q_I_at (hd 11 rfl), y_I_at (gl_left σ _)]; rfl, ?_⟩
        simp only [x_gR, e1, if_true, rr_E0, x_gI, rd_E8, x_nn, k2, x_cI (fl_left (σ := σ) (η := η) k2 _), r_I]
      · simp only [x_gR, e1, if_true, rr_E4, x_gI, e3, rd_W1, r_I]
      · simp only [x_gR, e1, if_true, rr_E4, x_gI, e3, rd_W2, r_I]
      · simp only [x_gR, e1, if_true, rr_E4, x_gI, e3, rd_W3, r_I]
      · simp only [x_gR, e1, if_true, rr_E4, x_gI, e3, rd_W4, r_I]
      · simp only [x_gR, e1, if_true, rr_E4, e3, rr_W7, x_gI, e4, rd_UQ2, r_I]
      · simp only [x_gR, e1, if_true, rr_E4, e3, rr_W8, x_gI, e6, rd_WQ2, r_I]
      · simp only [x_gI, e1, if_true, rd_E17, r_I]
      · simp only [x_gI, e1, if_true, rd_E15, r_I]
      · refine ⟨if σ.1 23 e = 0 then 0 else 1, ?_, ?_⟩
        · rw [q_I_at (hd 23 rfl)]
          by_cases c : σ.1 23 e = 0
          · rw [if_pos c, if_pos c]; rfl
          · rw [if_neg c, if_neg c]; rfl
        · by_cases c : σ.1 23 e = 0
          · simp only [x_gI, e1, if_true, rd_E13, c, f_En_tell_173, r_I]
          · simp only [x_gI, e1, if_true, rd_E13, c, if_false, f_En_tell_173, r_I]
      · refine ⟨_, by rw [q_I_at (hd 20 rfl), y_I_at (gl_left σ _)]; rfl, ?_⟩
        simp only [x_gR, e1, if_true, rr_E0, rr_E4, x_gI, e3, rd_W6, x_nn, k2, x_cI (fl_left (σ := σ) (η := η) k2 _), r_I]
      · refine ⟨if σ.1 21 e = -1 then 0 else 1, ?_, ?_⟩
        · rw [q_I_at (hd 21 rfl)]
          by_cases c : σ.1 21 e = -1
          · rw [if_neg (fun q => q c), if_pos c]; rfl
          · rw [if_pos c, if_neg c]; rfl
        · by_cases c : σ.1 21 e = -1
          · simp only [x_gR, e1, if_true, rr_E4, x_gI, e3, rd_W5, c, not_true_eq_false, if_false, f_En_tell_205, r_I]
          · simp only [x_gR, e1, if_true, rr_E4, x_gI, e3, rd_W5, c, not_false_eq_true, if_false, f_En_tell_205, r_I]
      · simp only [x_gI, e1, if_true, rd_E11, r_I]
      · simp only [x_gI, e1, if_true, rd_E9, r_I]
      · simp only [x_gI, e1, if_true, rd_E10, r_I]
    obtain ⟨v, a, b⟩ := hAl
    refine ⟨v, ?_, ?_⟩
    · unfold g_Md_end
      rw [y_I_at (gl_isEnd1 hP hl hs), if_pos (by decide), e2l, ← ee]
      exact a
    · simp only [f_Sn_end, x_gR, k1, if_true, rr_s1_2, x_nn, k11, x_cR hfe, q1, not_false_eq_true, e1, x_cI b, f_Sn_end_26, r_I]
  · refine ⟨-1, ?_, ?_⟩
    · unfold g_Md_end
      rw [y_I_at hg, if_neg (fun q => q rfl)]; rfl
    · simp only [f_Sn_end, x_gR, k1, if_true, rr_s1_2, x_nn, k11, x_cR (hf η), not_true_eq_false, if_false, f_Sn_end_26, r_I]
