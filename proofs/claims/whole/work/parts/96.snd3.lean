/-! LAYER 2: sending anew; all ends send -/
variable {kk : Nat → Nat} {σ η : sn_FS} {e : Nat}
theorem wR_inj {m' m : Msg} (h1 : MOk m') (h : MOk m) (h2 : wR m' = wR m) : m' = m := by
  have h3 : eR m' = eR m := by
    have a1 := eR_lt h1
    have a2 := eR_lt h
    unfold wR at h2
    have h5 := congrArg (fun z : Int64 => z.toBitVec.toNat) h2
    simp only [wb_tn (show eR m' < 2 ^ 64 by omega), wb_tn (show eR m < 2 ^ 64 by omega)] at h5
    exact h5
  obtain ⟨u1, u2, u3, u4, u5, u6, u7⟩ := h1
  obtain ⟨v1, v2, v3, v4, v5, v6, v7⟩ := h
  unfold eR at h3
  obtain ⟨x1, x2, x3, x4, x5, x6, x7⟩ := m'
  obtain ⟨y1, y2, y3, y4, y5, y6, y7⟩ := m
  simp only [mK, mF, mT, mL, mA, mB, mH] at *
  have : x1 = y1 ∧ x2 = y2 ∧ x3 = y3 ∧ x4 = y4 ∧ x5 = y5 ∧ x6 = y6 ∧ x7 = y7 := by omega
  obtain ⟨rfl, rfl, rfl, rfl, rfl, rfl, rfl⟩ := this
  rfl
theorem sn_anew (hK : KOk kk σ) (hI : Inv σ η) (hR : RI σ) (he : e < 2 * nl σ) (h5 : σ.1 10 e = 5) (h21 : σ.1 21 e = -1) {w o : Nat} (hw64 : w + 1 ≤ 64) (h29 : σ.1 29 e = nI (w + 1)) (ho32 : o < 32) (h27 : σ.1 27 e = nI o) : Sn kk (g_Md_send (nI e)) (f_En_sendUnit (aE e)) σ η (fun _ => True) := by
  obtain ⟨⟨k1, k2, k3, k4, k5, k6, k7, k8, k9, k10, k11, k12, k13, k14, k15, k16, k17, k18, k19, k20, k21, k22⟩, kE, kF, kP, k4s⟩ := id hK
  obtain ⟨e1, e2, e3, e4, e5, e6, e7⟩ := kE e he
  obtain ⟨hH, hw, hL, hD, hC⟩ := id hI
  have hn10 := hw.1.2.1
  have he20 : e < 20 := by omega
  have hE := hw.e1 he20
  obtain ⟨a1, ⟨v, hv, ev⟩, a3, a4, ⟨o', o1, o2, o3, o4⟩, a6, a7, a8, a9, a10, a11, a12, a13, a14⟩ := id hE
  have hoo : o' = o := nI_inj (by omega) (by omega) (o2.symm.trans h27)
  subst hoo
  have hcl := cl_n o2 (show o' < 2 ^ 31 by omega)
  have hc12 := cl_n ev (show v < 2 ^ 31 by omega)
  obtain ⟨V, hV⟩ : ∃ V, V = (v + 1) % 128 := ⟨_, rfl⟩
  have hV128 : V < 128 := by rw [hV]; exact Nat.mod_lt _ (by decide)
  have hand : (nI v + 1) &&& (127 : Int32) = nI V := by rw [hV]; exact and127 (by omega)
  have hand' : nI (v + 1) &&& (127 : Int32) = nI V := by rw [← hand, nI_1]
  have hrem' : nI (v + 1) % (128 : Int32) = nI V := by rw [← nI_1, hV]; exact rem128 (by omega)
  have hrem : (nI v + 1) % (128 : Int32) = nI V := by rw [hV]; exact rem128 (by omega)
  have hc := cb_SP (σ := σ) (e := e)
  -- the message
  obtain ⟨m, mv, mw⟩ : ∃ m, MV σ m ∧ σ.2 28 (64 * e) = wR m := by
    obtain ⟨hd, hRQ⟩ := hH.1 1 (by decide) e he
    obtain ⟨m, mv, mw, mc⟩ := hRQ.2.2.2 0 (by show 0 < cl σ 29 e; rw [cl_n h29 (by omega)]; omega)
    exact ⟨m, mv, mw⟩
  -- the timer
  obtain ⟨t20, ht20⟩ : ∃ t : Int32, t = if o' = 0 then σ.1 6 0 + 20 else σ.1 20 e := ⟨_, rfl⟩
  -- the reference, up to the moving
  obtain ⟨R, hR0⟩ : ∃ R : sn_FS, R = sI (sI (sJ (sI (sJ (sI (sI (sI (S_sb e σ) 12 e (nI V)) 30 e 5) 31 e (nI V)) 35 e (wR m)) 20 e t20) 25 (32 * e + o') (wR m)) 26 (32 * e + o') (nI V)) 27 e (nI (o' + 1)) := ⟨_, rfl⟩
  have hRI : ∀ k i, R.1 k i = if k = 27 then (if i = e then nI (o' + 1) else σ.1 k i) else if k = 26 then (if i = 32 * e + o' then nI V else σ.1 k i) else if k = 20 then (if i = e then t20 else σ.1 k i) else if k = 31 then (if i = e then nI V else σ.1 k i) else if k = 30 then (if i = e then 5 else σ.1 k i) else if k = 12 then (if i = e then nI V else σ.1 k i) else (S_sb e σ).1 k i := by
    intro k i
    rw [hR0]
    by_cases c27 : k = 27
    · subst c27; simp only [S_sb, sn_upE, Nat.reduceEqDiff, reduceIte]
    · by_cases c26 : k = 26
      · subst c26; simp only [S_sb, sn_upE, Nat.reduceEqDiff, reduceIte]
      · by_cases c20 : k = 20
        · subst c20; simp only [S_sb, sn_upE, Nat.reduceEqDiff, reduceIte]
        · by_cases c31 : k = 31
          · subst c31
            simp only [S_sb, sn_upE, Nat.reduceEqDiff, reduceIte]
            by_cases ci : i = e
            · simp only [ci, if_true]
            · simp only [ci, if_false]
          · by_cases c30 : k = 30
            · subst c30; simp only [S_sb, sn_upE, Nat.reduceEqDiff, reduceIte]
            · by_cases c12 : k = 12
              · subst c12; simp only [S_sb, sn_upE, Nat.reduceEqDiff, reduceIte]
              · simp only [sn_upE, c27, c26, c20, c31, c30, c12, if_false]
  have hRJ : ∀ k i, R.2 k i = if k = 25 then (if i = 32 * e + o' then wR m else σ.2 k i) else if k = 35 then (if i = e then wR m else σ.2 k i) else σ.2 k i := by
    intro k i
    rw [hR0]
    by_cases c25 : k = 25
    · subst c25; simp only [S_sb, sn_upE, Nat.reduceEqDiff, reduceIte]
    · by_cases c35 : k = 35
      · subst c35; simp only [S_sb, sn_upE, Nat.reduceEqDiff, reduceIte]
      · simp only [sn_upE, c25, c35, if_false]; rfl
  have hR29 : R.1 29 e = nI (w + 1) := by rw [hRI]; simp only [Nat.reduceEqDiff, if_false]; rw [S_sb_I (Or.inl (by decide))]; exact h29
  obtain ⟨J', j1, j2, hg374⟩ := gl_sd374 (w := w + 1) he20 hw64 w sn_fuel 1 R (by omega) (by unfold sn_fuel; omega) (by omega) (by omega) hR29
  have hg374 : g_Md_send_374 sn_fuel (nI e) 1 R = some (none, sI (R.1, J') 29 e (nI w)) := hg374
  have hω : g_Md_send (nI e) σ = some (none, sI (R.1, J') 29 e (nI w)) := by
    have d21 : e < md_len 21 := he20
    have d30 : e < md_len 30 := he20
    have d31 : e < md_len 31 := he20
    have d35 : e < md_len 35 := he20
    have d27 : e < md_len 27 := he20
    have d29 : e < md_len 29 := he20
    have d12 : e < md_len 12 := he20
    have d20 : e < md_len 20 := he20
    have d26 : 32 * e + o' < md_len 26 := by show _ < 640; omega
    have d25 : 32 * e + o' < md_len 25 := by show _ < 640; omega
    have d28 : 64 * e < md_len 28 := by show _ < 1280; omega
    have x64 : (64 : Int32) * nI e = nI (64 * e) := pk_mul 64 e
    have x32 : ((32 : Int32) * nI e) + nI o' = nI (32 * e + o') := by
      have : (32 : Int32) * nI e = nI (32 * e) := pk_mul 32 e
      rw [this, nI_add]
    have s21 : (S_sb e σ).1 21 e = -1 := by rw [S_sb_I (Or.inl (by decide))]; exact h21
    have s27 : (S_sb e σ).1 27 e = nI o' := by rw [S_sb_I (Or.inl (by decide))]; exact o2
    have s29 : (S_sb e σ).1 29 e = nI (w + 1) := by rw [S_sb_I (Or.inl (by decide))]; exact h29
    have s12 : (S_sb e σ).1 12 e = nI v := by rw [S_sb_I (Or.inl (by decide))]; exact ev
    have s6 : (S_sb e σ).1 6 0 = σ.1 6 0 := S_sb_I (Or.inl (by decide))
    have s28 : (S_sb e σ).2 28 (64 * e) = wR m := mw
    have z4 : (4 : Int32) ≤ 5 := by decide
    have l0 : (nI (w + 1) ≤ 0) = False := eq_false (nI_ge (b := w + 1) (a := 0) (by omega) (by omega))
    have l32 : ((32 : Int32) ≤ nI o') = False := eq_false (nI_ge (b := 32) (by omega) (by omega))
    rw [gl_send0 he20, h5, if_pos (by decide), if_pos (by decide), if_pos z4, ← hg374]
    unfold g_Md_send_119
    by_cases c : o' = 0
    · have ht : t20 = σ.1 6 0 + 20 := by rw [ht20, if_pos c]
      have z0 : (nI o' = 0) = True := eq_true (by rw [c]; rfl)
      simp only [w_I_at d30, if_true, q_I_at d21, sn_upE, Nat.reduceEqDiff, reduceIte, s21, q_I_at d29, s29, l0, if_false, q_I_at d27, s27, l32, q_I_at d12, s12, hand, hand', w_I_at d12, w_I_at d31, x64, q_J_at d28, s28, w_J_at d35, z0, not_true_eq_false, q_S, s6, w_I_at d20, g_Md_send_315, x32, w_J_at d25, w_I_at d26, w_I_at d27, nI_1]
      rw [hR0, ht]
      congr 3
      rw [sI_sw (k := 30) (k' := 12) (by decide), sI_sI]
    · have ht : t20 = σ.1 20 e := by rw [ht20, if_neg c]
      have z0 : (nI o' = 0) = False := eq_false (fun q => c (nI_inj (a := o') (b := 0) (by omega) (by omega) q))
      simp only [w_I_at d30, if_true, q_I_at d21, sn_upE, Nat.reduceEqDiff, reduceIte, s21, q_I_at d29, s29, l0, if_false, q_I_at d27, s27, l32, q_I_at d12, s12, hand, hand', w_I_at d12, w_I_at d31, x64, q_J_at d28, s28, w_J_at d35, z0, not_false_eq_true, g_Md_send_315, x32, w_J_at d25, w_I_at d26, w_I_at d27, nI_1]
      have hid : ∀ τ : sn_FS, τ.1 20 e = σ.1 20 e → sI τ 20 e t20 = τ := fun τ h => sI_id (by rw [ht]; exact h)
      rw [hR0, hid _ (by
        show (sI (sI (sI (S_sb e σ) 12 e (nI V)) 30 e 5) 31 e (nI V)).1 20 e = _
        rw [sI_ne (by decide), sI_ne (by decide), sI_ne (by decide), S_sb_I (Or.inl (by decide))])]
      congr 3
      rw [sI_sw (k := 30) (k' := 12) (by decide), sI_sI]
  -- the class
  obtain ⟨S6, hS6⟩ : ∃ S : sn_FS, S = sI (sI (sI (cb e σ) 30 e 5) 20 e t20) 12 e (nI V) := ⟨_, rfl⟩
  have hs6 : SP σ S6 := by rw [hS6]; exact ((hc.tr (SP.sI (k := 30) (by decide))).tr (SP.sI (k := 20) (by decide))).tr (SP.sI (k := 12) (by decide))
  have g6 : ∀ k i, k ≠ 36 ∧ k ≠ 39 ∧ k ≠ 30 ∧ k ≠ 20 ∧ k ≠ 12 → S6.1 k i = σ.1 k i := fun k i hk => by
    rw [hS6, sI_ne hk.2.2.2.2, sI_ne hk.2.2.2.1, sI_ne hk.2.2.1, cb_I ⟨hk.1, hk.2.1⟩]
  have hK6 := hK.sp hs6
  have he6 : e < 2 * nl S6 := by rw [hs6.nlE]; exact he
  have hQ6 : HQ S6 (sI η (aU e) 1 (nI V)) := by
    have : HQ S6 η := by
      rw [hS6]
      exact ((((hH.1.mI (k := 36) (i := e) (v := 1) (by decide)).mI (k := 39) (i := e) (v := σ.1 37 e) (by decide)).mI (k := 30) (i := e) (v := 5) (by decide)).mI (k := 20) (i := e) (v := t20) (by decide)).mI (k := 12) (i := e) (v := nI V) (by decide)
    exact this.u (e := e) (fun a j h => ⟨sI_ne h, rfl⟩)
  have c29 : S6.1 29 e = nI (w + 1) := by rw [g6 29 e (by decide)]; exact h29
  have c27 : S6.1 27 e = nI o' := by rw [g6 27 e (by decide)]; exact o2
  have hSJ : S6.2 = σ.2 := by rw [hS6]; rfl
  obtain ⟨hd1, hR1⟩ := hQ6 1 (by decide) e he6
  have hq1 := QH_of hK6 (t := 1) (i := e) (by decide) he6 hR1 c29 (by show w + 1 ≤ 64; exact hw64)
  have htk := fl_take hq1 (by omega)
  have hmsg : (sI η (aU e) 1 (nI V)).2 (rA 1 e) hd1 = wC m := by
    obtain ⟨m', mv', mw', mc'⟩ := hR1.2.2.2 0 (by show 0 < cl S6 29 e; rw [cl_n c29 (by omega)]; omega)
    rw [Nat.add_zero, Nat.mod_eq_of_lt hR1.1] at mc'
    rw [mc']
    have h2 : wR m' = wR m := by rw [← mw', ← mw, hSJ]; rfl
    exact congrArg wC (wR_inj mv'.1 mv.1 h2)
  rw [hmsg, qw (by decide)] at htk
  have htk : f_Qu_takeFirst (aWQ e) (Kap kk S6 (sI η (aU e) 1 (nI V))) = some (some (.long (wC m)), Kap kk (sI S6 29 e (nI w)) (sI (sI η (aU e) 1 (nI V)) (qA 1 e) 1 (nI ((hd1 + 1) % 64)))) := htk
  have hQ7 := HQ_pop hQ6 (t := 1) (i := e) (r := w) (by decide) he6 c29 hw64 hR1
  have hQ7 : HQ (S_pop 1 e S6) (sI (sI η (aU e) 1 (nI V)) (qA 1 e) 1 (nI ((hd1 + 1) % 64))) := hQ7
  have hs7 : SP S6 (S_pop 1 e S6) := S_pop_SP (by decide) S6
  have hP7 : ∀ k i, (S_pop 1 e S6).1 k i = (sI S6 29 e (nI w)).1 k i := fun k i => by
    show sn_up S6.1 29 e (nI (cl S6 29 e - 1)) k i = sn_up S6.1 29 e (nI w) k i
    rw [cl_n c29 (by omega)]; rfl
  have hK7 := hK6.sp hs7
  have he7 : e < 2 * nl (S_pop 1 e S6) := by rw [hs7.nlE]; exact he6
  obtain ⟨η3, hη3⟩ : ∃ η3 : sn_FS, η3 = sJ (sI (sI η (aU e) 1 (nI V)) (qA 1 e) 1 (nI ((hd1 + 1) % 64))) (aU e) 6 (wC m) := ⟨_, rfl⟩
  have hQ8 : HQ (S_pop 1 e S6) η3 := by
    rw [hη3]
    exact hQ7.u (e := e) (fun a j h => ⟨rfl, sn_up_ne _ _ _ _ h⟩)
  obtain ⟨hd0, hR0'⟩ := hQ8 0 (by decide) e he7
  have c27' : (S_pop 1 e S6).1 27 e = nI o' := by rw [hP7, sI_ne (by decide)]; exact c27
  have hq0 := QH_of hK7 (t := 0) (i := e) (by decide) he7 hR0' c27' (by show o' ≤ 32; omega)
  have had := fl_add hq0 (by show o' < 32; exact ho32) (wC m)
  rw [qw (by decide)] at had
  have hmv7 : MV (S_pop 1 e S6) m := by rw [MV.sp (hs6.tr hs7)]; exact mv
  have hQ9 := hQ8.add (t := 0) (i := e) (n := o') (by decide) he7 c27' ho32 hmv7 hR0'
  have hQ9 : HQ (sI (sJ (S_pop 1 e S6) 25 (32 * e + o') (wR m)) 27 e (nI (o' + 1))) (sJ η3 (rA 0 e) ((hd0 + o') % 32) (wC m)) := hQ9
  obtain ⟨η4, hη4⟩ : ∃ η4 : sn_FS, η4 = sJ η3 (rA 0 e) ((hd0 + o') % 32) (wC m) := ⟨_, rfl⟩
  have hK78 : Kap kk (sI S6 29 e (nI w)) η3 = Kap kk (S_pop 1 e S6) η3 := Kap_of (fun k i _ => (hP7 k i).symm)
  have had : f_Qu_add (aUQ e) (wC m) (Kap kk (S_pop 1 e S6) η3) = some (some (.int 1), Kap kk (sI (S_pop 1 e S6) 27 e (nI (o' + 1))) η4) := by rw [hη4]; exact had
  -- the fields of what was reached
  have eU1 : η4.1 (aU e) 1 = nI V := by
    rw [hη4, hη3]
    show sn_up (sn_up η.1 (aU e) 1 (nI V)) (qA 1 e) 1 _ (aU e) 1 = _
    rw [sn_up_ne _ _ _ _ (aU_q (by decide)).2.1, sn_up_same]
  have eU6 : η4.2 (aU e) 6 = wC m := by
    rw [hη4, hη3]
    show sn_up (sn_up η.2 (aU e) 6 (wC m)) (rA 0 e) _ (wC m) (aU e) 6 = _
    rw [sn_up_ne _ _ _ _ (aU_q (by decide)).1, sn_up_same]
  have eO1 : ∀ a j, a ≠ aU e → a ≠ qA 1 e → η4.1 a j = η.1 a j := fun a j h1 h2 => by
    rw [hη4, hη3]
    show sn_up (sn_up η.1 (aU e) 1 (nI V)) (qA 1 e) 1 _ a j = _
    rw [sn_up_ne _ _ _ _ h2, sn_up_ne _ _ _ _ h1]
  have eO2 : ∀ a j, a ≠ aU e → a ≠ rA 0 e → η4.2 a j = η.2 a j := fun a j h1 h2 => by
    rw [hη4, hη3]
    show sn_up (sn_up η.2 (aU e) 6 (wC m)) (rA 0 e) _ (wC m) a j = _
    rw [sn_up_ne _ _ _ _ h2, sn_up_ne _ _ _ _ h1]
  have hfill : f_Wi_fill (aW e) (some (aU e)) (Kap kk (cb e σ) η) = some (none, Kap kk (sI (S_pop 1 e S6) 27 e (nI (o' + 1))) (uset e η4 (σ.1 14 e) (σ.1 13 e) (σ.1 15 e))) := by
    have b21 : (cb e σ).1 21 e = -1 := by rw [cb_I (by decide)]; exact h21
    have b29 : (cb e σ).1 29 e = nI (w + 1) := by rw [cb_I (by decide)]; exact h29
    have b27 : (cb e σ).1 27 e = nI o' := by rw [cb_I (by decide)]; exact o2
    have b12 : (cb e σ).1 12 e = nI v := by rw [cb_I (by decide)]; exact ev
    have b6 : (cb e σ).1 6 0 = σ.1 6 0 := cb_I (by decide)
    have l0 : (nI (w + 1) ≤ 0) = False := eq_false (nI_ge (b := w + 1) (a := 0) (by omega) (by omega))
    have l32 : ((32 : Int32) ≤ nI o') = False := eq_false (nI_ge (b := 32) (by omega) (by omega))
    have hs9 : SP σ (sI (S_pop 1 e S6) 27 e (nI (o' + 1))) := (hs6.tr hs7).tr (SP.sI (by decide))
    have h69 := fl_69 (η := η4) (hK.sp hs9) (e := e) (by rw [hs9.nlE]; exact he)
    have r14 : (sI (S_pop 1 e S6) 27 e (nI (o' + 1))).1 14 e = σ.1 14 e := by rw [sI_ne (by decide), hP7, sI_ne (by decide), g6 14 e (by decide)]
    have r13 : (sI (S_pop 1 e S6) 27 e (nI (o' + 1))).1 13 e = σ.1 13 e := by rw [sI_ne (by decide), hP7, sI_ne (by decide), g6 13 e (by decide)]
    have r15 : (sI (S_pop 1 e S6) 27 e (nI (o' + 1))).1 15 e = σ.1 15 e := by rw [sI_ne (by decide), hP7, sI_ne (by decide), g6 15 e (by decide)]
    rw [r14, r13, r15] at h69
    have h23 : f_Wi_sendAnew_23 (aW e) (some (aU e)) (Kap kk (sI (sI (cb e σ) 30 e 5) 20 e t20) η) = some (none, Kap kk (sI (S_pop 1 e S6) 27 e (nI (o' + 1))) η4) := by
      have hx1 : sJ (sI (sI η (aU e) 1 (nI V)) (qA 1 e) 1 (nI ((hd1 + 1) % 64))) (aU e) 6 (wC m) = η3 := hη3.symm
      have hx2 : sI (sI (sI (cb e σ) 30 e 5) 20 e t20) 12 e (nI V) = S6 := hS6.symm
      have hx3 : η3.2 (aU e) 6 = wC m := by
        rw [hη3]
        show sn_up η.2 (aU e) 6 (wC m) (aU e) 6 = _
        rw [sn_up_same]
      have hS12 : S6.1 12 e = nI V := by rw [hS6]; simp only [sn_upE, Nat.reduceEqDiff, reduceIte]
      simp only [f_Wi_sendAnew_23, x_gI, e3, if_true, rd_W1, sn_upE, Nat.reduceEqDiff, reduceIte, b12, hrem, x_pI, wr_W1, hx2, hS12, e2, wr_U1, x_gR, rr_W8, x_nn, e6, x_cJ htk, x_pJ, hx1, rr_W7, x_gJ, hx3, e4, hK78, x_cI had, r_V]
    have hsa : f_Wi_sendAnew (aW e) (some (aU e)) (Kap kk (sI (cb e σ) 30 e 5) η) = some (none, Kap kk (sI (S_pop 1 e S6) 27 e (nI (o' + 1))) η4) := by
      rw [← h23]
      by_cases c : o' = 0
      · have ht : t20 = σ.1 6 0 + 20 := by rw [ht20, if_pos c]
        have z0 : (nI o' = 0) = True := eq_true (by rw [c]; rfl)
        simp only [f_Wi_sendAnew, x_gR, e3, if_true, rr_W7, x_gI, e4, rd_UQ2, sn_upE, Nat.reduceEqDiff, reduceIte, b27, z0, not_true_eq_false, if_false, x_ite, rr_W0, x_nn, k2, x_after k2, b6, x_pI, wr_W6, ht]
      · have ht : t20 = σ.1 20 e := by rw [ht20, if_neg c]
        have z0 : (nI o' = 0) = False := eq_false (fun q => c (nI_inj (a := o') (b := 0) (by omega) (by omega) q))
        have hid : sI (sI (cb e σ) 30 e 5) 20 e t20 = sI (cb e σ) 30 e 5 := sI_id (by rw [sI_ne (by decide), cb_I (by decide), ht])
        rw [hid]
        simp only [f_Wi_sendAnew, x_gR, e3, if_true, rr_W7, x_gI, e4, rd_UQ2, sn_upE, Nat.reduceEqDiff, reduceIte, b27, z0, not_false_eq_true]
    have q1 : ((-1 : Int32) = -1) = True := eq_true rfl
    simp only [f_Wi_fill, x_pI, e2, if_true, wr_U0, x_gI, e3, rd_W5, sn_upE, Nat.reduceEqDiff, reduceIte, b21, x_gR, rr_W8, e6, rd_WQ2, b29, l0, if_false, x_ite, rr_W7, e4, rd_UQ2, b27, l32, x_nn, x_cV hsa, h69]
    rfl
  -- together
  have hωI : ∀ k i, (sI (R.1, J') 29 e (nI w)).1 k i = if k = 29 then (if i = e then nI w else σ.1 k i) else R.1 k i := fun k i => by
    show sn_up R.1 29 e (nI w) k i = _
    simp only [sn_upE]
    by_cases c : k = 29
    · subst c
      simp only [if_true]
      by_cases ci : i = e
      · simp only [ci, if_true]
      · simp only [ci, if_false]
        rw [hRI]; simp only [Nat.reduceEqDiff, if_false]; exact S_sb_I (Or.inl (by decide))
    · simp only [c, if_false]
  have hKω : Kap kk (sI (S_pop 1 e S6) 27 e (nI (o' + 1))) (uset e η4 (σ.1 14 e) (σ.1 13 e) (σ.1 15 e)) = Kap kk (sI (R.1, J') 29 e (nI w)) (uset e η4 (σ.1 14 e) (σ.1 13 e) (σ.1 15 e)) := by
    refine Kap_of (fun k i hk => ?_)
    simp only [List.mem_cons, List.not_mem_nil, or_false, not_or] at hk
    obtain ⟨k1, k2, k3, k4, k5, k6⟩ := hk
    rw [hωI]
    have hL2 : (sI (S_pop 1 e S6) 27 e (nI (o' + 1))).1 k i = if k = 27 then (if i = e then nI (o' + 1) else (S_pop 1 e S6).1 k i) else (S_pop 1 e S6).1 k i := by
      show sn_up (S_pop 1 e S6).1 27 e _ k i = _
      simp only [sn_upE]
    rw [hL2, hP7, hRI]
    simp only [hS6, cb, S_sb, sn_upE, k2, k3, k4, k5, k6, if_false]
    by_cases c29 : k = 29
    · subst c29; simp only [Nat.reduceEqDiff, if_true, if_false]
    · by_cases c27 : k = 27
      · subst c27; simp only [Nat.reduceEqDiff, if_true, if_false]
      · by_cases c20 : k = 20
        · subst c20; simp only [Nat.reduceEqDiff, if_true, if_false]
        · by_cases c30 : k = 30
          · subst c30; simp only [Nat.reduceEqDiff, if_true, if_false]
          · by_cases c12 : k = 12
            · subst c12; simp only [Nat.reduceEqDiff, if_true, if_false]
            · simp only [c29, c27, c20, c30, c12, if_false]
  obtain ⟨ω, hΩ⟩ : ∃ ω : sn_FS, ω = sI (R.1, J') 29 e (nI w) := ⟨_, rfl⟩
  have hωJ : ω.2 = J' := by rw [hΩ]
  rw [← hΩ] at hω hKω
  have hωI : ∀ k i, ω.1 k i = if k = 29 then (if i = e then nI w else σ.1 k i) else R.1 k i := by rw [hΩ]; exact hωI
  have gk : ∀ k i, k ∉ sdL → ω.1 k i = σ.1 k i := fun k i hk => by
    have := sd_of hk
    rw [hωI, if_neg (by omega), hRI, if_neg (by omega), if_neg (by omega), if_neg (by omega), if_neg (by omega), if_neg (by omega), if_neg (by omega), S_sb_I (Or.inl (by omega))]
  have gi : ∀ k i, i ≠ e → k ≠ 26 → ω.1 k i = σ.1 k i := fun k i hi hk => by
    rw [hωI, hRI]
    simp only [hi, if_false, hk]
    rw [S_sb_I (Or.inr hi)]
    split
    · rfl
    · split
      · rfl
      · split
        · rfl
        · split
          · rfl
          · split
            · rfl
            · split <;> rfl
  have hsp : SP σ ω := ⟨fun i => gk 0 i (by decide), fun i => gk 1 i (by decide), fun i => gk 4 i (by decide)⟩
  have t29 : ω.1 29 e = nI w := by rw [hωI, if_pos rfl, if_pos rfl]
  have t27 : ω.1 27 e = nI (o' + 1) := by rw [hωI, hRI]; simp only [Nat.reduceEqDiff, if_true, if_false]
  have t12 : ω.1 12 e = nI V := by rw [hωI, hRI]; simp only [Nat.reduceEqDiff, if_true, if_false]
  have t20' : ω.1 20 e = t20 := by rw [hωI, hRI]; simp only [Nat.reduceEqDiff, if_true, if_false]
  have t30 : ω.1 30 e = 5 := by rw [hωI, hRI]; simp only [Nat.reduceEqDiff, if_true, if_false]
  have t31 : ω.1 31 e = nI V := by rw [hωI, hRI]; simp only [Nat.reduceEqDiff, if_true, if_false]
  have t32 : ω.1 32 e = σ.1 14 e := by rw [hωI, hRI]; simp only [Nat.reduceEqDiff, if_false]; exact S_sb_at.2.1
  have t33 : ω.1 33 e = σ.1 13 e := by rw [hωI, hRI]; simp only [Nat.reduceEqDiff, if_false]; exact S_sb_at.2.2.1
  have t34 : ω.1 34 e = σ.1 15 e := by rw [hωI, hRI]; simp only [Nat.reduceEqDiff, if_false]; exact S_sb_at.2.2.2
  have t21 : ω.1 21 e = -1 := by rw [hωI, hRI]; simp only [Nat.reduceEqDiff, if_false]; rw [S_sb_I (Or.inl (by decide))]; exact h21
  have t26 : ∀ i, ω.1 26 i = if i = 32 * e + o' then nI V else σ.1 26 i := fun i => by rw [hωI, hRI]; simp only [Nat.reduceEqDiff, if_true, if_false]
  have hQω : HQ ω η4 := by
    rw [← hη4] at hQ9
    have h9 : SP (sI (sJ (S_pop 1 e S6) 25 (32 * e + o') (wR m)) 27 e (nI (o' + 1))) ω := by
      have : SP σ (sI (sJ (S_pop 1 e S6) 25 (32 * e + o') (wR m)) 27 e (nI (o' + 1))) := ((hs6.tr hs7).tr SP.sJ).tr (SP.sI (by decide))
      exact this.sy.tr hsp
    refine hQ9.mk' h9 (fun t ht i hi => ?_) (fun t ht i => ⟨rfl, fun j => rfl⟩)
    have hsz : ∀ k, k = 27 ∨ k = 29 ∨ k = 47 → ω.1 k i = (sI (sJ (S_pop 1 e S6) 25 (32 * e + o') (wR m)) 27 e (nI (o' + 1))).1 k i := fun k hk => by
      have hr : (sI (sJ (S_pop 1 e S6) 25 (32 * e + o') (wR m)) 27 e (nI (o' + 1))).1 k i = if k = 27 then (if i = e then nI (o' + 1) else (S_pop 1 e S6).1 k i) else (S_pop 1 e S6).1 k i := by
        show sn_up (S_pop 1 e S6).1 27 e _ k i = _
        simp only [sn_upE]
      rw [hr, hωI, hRI, hP7]
      rcases hk with rfl | rfl | rfl
      · simp only [sn_upE, Nat.reduceEqDiff, reduceIte]
        rw [g6 27 i (by decide)]
      · simp only [Nat.reduceEqDiff, if_true, if_false]
        show _ = sn_up S6.1 29 e (nI w) 29 i
        simp only [sn_upE, Nat.reduceEqDiff, reduceIte]
        rw [g6 29 i (by decide)]
      · simp only [sn_upE, Nat.reduceEqDiff, reduceIte]
        rw [g6 47 i (by decide), S_sb_I (Or.inl (by decide))]
    have hpj : ∀ k p, k ≠ 28 → (S_pop 1 e S6).2 k p = S6.2 k p := fun k p h => if_neg (fun q => h q.1)
    rcases t3 ht with rfl | rfl | rfl
    · refine ⟨congrArg Int32.toNatClampNeg (hsz 27 (by decide)), fun j hj => ?_⟩
      show ω.2 25 (32 * i + j) = sn_up (S_pop 1 e S6).2 25 (32 * e + o') (wR m) 25 (32 * i + j)
      rw [hωJ, j1 25 _ (Or.inl (by decide)), hRJ]
      simp only [sn_upE, Nat.reduceEqDiff, reduceIte]
      by_cases c : 32 * i + j = 32 * e + o'
      · simp only [c, if_true]
      · simp only [c, if_false]
        rw [hpj 25 _ (by decide), hSJ]
    · refine ⟨congrArg Int32.toNatClampNeg (hsz 29 (by decide)), fun j hj => ?_⟩
      have hcj : cl ω 29 i = cl (sI (sJ (S_pop 1 e S6) 25 (32 * e + o') (wR m)) 27 e (nI (o' + 1))) 29 i := congrArg Int32.toNatClampNeg (hsz 29 (by decide))
      have hj2 : j < cl ω 29 i := by rw [hcj]; exact hj
      clear hj
      show ω.2 28 (64 * i + j) = sn_up (S_pop 1 e S6).2 25 (32 * e + o') (wR m) 28 (64 * i + j)
      rw [sn_up_ne _ _ _ _ (by decide), hωJ]
      show _ = (if (28 : Nat) = 28 ∧ 64 * e ≤ 64 * i + j ∧ 64 * i + j < 64 * e + 64 then S6.2 28 (64 * i + j + 1) else S6.2 28 (64 * i + j))
      rw [hSJ]
      have hRe : ∀ p, R.2 28 p = σ.2 28 p := fun p => by rw [hRJ]; simp only [Nat.reduceEqDiff, if_false]
      by_cases ci : i = e
      · subst ci
        rw [cl_n t29 (by omega)] at hj2
        rw [if_pos ⟨rfl, by omega, by omega⟩, j2 j (by omega) (by omega), hRe]
        exact congrArg (σ.2 28) (by omega)
      · have hcap : j < 64 := by
          have hi1 : i < 2 * nl (sI (sJ (S_pop 1 e S6) 25 (32 * e + o') (wR m)) 27 e (nI (o' + 1))) := hi
          have hnn := h9.nlE.symm.trans hsp.nlE
          have hi' : i < 2 * nl σ := by omega
          obtain ⟨w', w1, w2⟩ := hw.2.1 i (by omega)
          rw [cl_n (show ω.1 29 i = nI w' by rw [gi 29 i ci (by decide)]; exact w2) (by omega)] at hj2
          omega
        rw [if_neg (by omega), j1 28 _ (by omega), hRe]
    · refine ⟨congrArg Int32.toNatClampNeg (hsz 47 (by decide)), fun j hj => ?_⟩
      show ω.2 46 (64 * i + j) = sn_up (S_pop 1 e S6).2 25 (32 * e + o') (wR m) 46 (64 * i + j)
      rw [sn_up_ne _ _ _ _ (by decide), hωJ, j1 46 _ (Or.inl (by decide)), hRJ]
      simp only [Nat.reduceEqDiff, if_false]
      rw [hpj 46 _ (by decide), hSJ]
  have hηo : ∀ a j, a ≠ aU e → (uset e η4 (σ.1 14 e) (σ.1 13 e) (σ.1 15 e)).1 a j = η4.1 a j ∧ (uset e η4 (σ.1 14 e) (σ.1 13 e) (σ.1 15 e)).2 a j = η4.2 a j := fun a j h => uset_o h
  obtain ⟨u1, u2, u3, u4, u5⟩ := uset_at (e := e) (η := η4) (f := σ.1 14 e) (t := σ.1 13 e) (b := σ.1 15 e)
  have hHω : HR ω (uset e η4 (σ.1 14 e) (σ.1 13 e) (σ.1 15 e)) := by
    refine HR_unit (hQω.u hηo) hH.2.1 hH.2.2 hsp (fun k i h1 h2 hi => gi k i hi (by omega)) (fun i hi => by rw [hωJ, j1 35 _ (Or.inl (by decide)), hRJ]; simp only [Nat.reduceEqDiff, if_true, if_false, hi]) (fun e' j hne => ?_) (fun i => gk 10 i (by decide)) (fun i => gk 24 i (by decide)) (fun i => ?_) ⟨fun _ => ⟨by rw [u1, t31, eU1], by rw [u2, t32], by rw [u3, t33], by rw [u4, t34]⟩, fun _ => ⟨m, by rw [MV.sp hsp]; exact mv, by rw [hωJ, j1 35 _ (Or.inl (by decide)), hRJ]; simp only [Nat.reduceEqDiff, if_true, if_false], by rw [u5, eU6]⟩⟩
    · obtain ⟨p1, p2⟩ := hηo (aU e') j (aU_ne hne)
      exact ⟨p1.trans (eO1 _ _ (aU_ne hne) (aU_q (by decide)).2.1), p2.trans (eO2 _ _ (aU_ne hne) (aU_q (by decide)).1)⟩
    · exact (hηo _ 14 aE_aU).1.trans (eO1 _ _ aE_aU (aU_q (by decide)).2.2.1)
  have hPE : PE η (uset e η4 (σ.1 14 e) (σ.1 13 e) (σ.1 15 e)) := by
    refine ⟨fun j => ?_, fun j => ?_⟩
    · exact (hηo 20 j (by unfold aU; omega)).1.trans (eO1 _ _ (by unfold aU; omega) (Ne.symm (aU_q (e := e) (by decide)).2.2.2.1))
    · exact (hηo 21 j (by unfold aU; omega)).2.trans (eO2 _ _ (by unfold aU; omega) (Ne.symm (aU_q (e := e) (by decide)).2.2.2.2))
  have hE1 : E1 ω e := by
    have g := fun k (hk : k ∉ sdL) => gk k e hk
    have hcV : cl ω 12 e = V := cl_n t12 (by omega)
    refine ⟨by rw [g 10 (by decide)]; exact a1, ⟨V, hV128, t12⟩, by rw [g 13 (by decide)]; exact a3, by rw [g 37 (by decide)]; exact a4, ⟨o' + 1, by omega, t27, Or.inl t21, fun i hi => ?_⟩, fun q => absurd (by rw [g 10 (by decide)]; exact h5) q, by rw [g 40 (by decide), g 10 (by decide)]; exact a7, by rw [g 10 (by decide), g 16 (by decide)]; exact a8, by rw [g 10 (by decide), g 17 (by decide)]; exact a9, by rw [g 22 (by decide)]; exact a10, ⟨5, by omega, t30⟩, ⟨V, hV128, t31⟩, by rw [t33]; exact a3, by rw [g 24 (by decide)]; exact a14⟩
    rw [t26, hcV]
    by_cases c : i = o'
    · subst c
      rw [if_pos rfl]
      congr 1
      omega
    · rw [if_neg (by omega), o4 i (by omega), hc12]
      congr 1
      omega
  obtain ⟨p1, p2, p3, p4⟩ := send_pack hI hR he (fun k i hk => by rcases hk with q | q; exact gk k i q; exact gi k i q.1 q.2) (fun e' i hne hi => by rw [t26, if_neg (by omega)]) hE1 ⟨w, by omega, t29⟩ hHω (by
    rw [t20', ht20]
    split
    · exact Or.inr (Or.inr ⟨20, by omega, by omega, rfl⟩)
    · exact Or.inl rfl)
  refine ⟨ω, _, hω, fl_su4 hK he (Or.inr h5) ?_, p1, p2, hPE, p3, p4, trivial⟩
  rw [hfill, hKω]
