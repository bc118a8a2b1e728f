/-! LAYER 2: both get messages: OVER, BACK, CLOSED, OPENED, and those for others -/
variable {kk : Nat → Nat} {σ η : sn_FS}
/-- going another way -/
theorem sm_other (hK : KOk kk σ) (hI : Inv σ η) {x n : Nat} (hx : x < 6) (hn : n < 6) {m : Msg} (hm : MV σ m) : ∃ θ, g_Md_otherWay (nI x) (nI n) (wR m) σ = some (none, S_other x n (mL m) (wR m) σ) ∧ f_Tr_goOtherWay 11 (nI x) (nI n) (wC m) (Kap kk σ η) = some (none, Kap kk (S_other x n (mL m) (wR m) σ) θ) ∧ Inv (S_other x n (mL m) (wR m) σ) θ ∧ PE η θ ∧ QC σ (S_other x n (mL m) (wR m) σ) := by
  obtain ⟨hH, hw, hL, hD, hC⟩ := hI
  obtain ⟨θ, a1, a2, a3⟩ := fl_other hK hH hw.gv hw.told hx hn hm
  have hq := QC_other hw hx hn (s := mL m) hm.1.2.2.2.1 (wR m)
  exact ⟨θ, gl_otherWay hw.gv hw.told hm.1 hx hn, a1, ⟨a2, hq.wi hw, hq.lk (fun i => QC_49) hL, hq.di hD, hC.at (hq.at (by decide))⟩, a3, hq⟩
theorem sm_over (hK : KOk kk σ) (hI : Inv σ η) {m : Msg} (hm : MV σ m) (hk : mK m = 1) : Sm kk (gOver (nI (mT m)) (nI (mF m)) (nI (mA m)) (wR m)) (f_Tr_changeOver 11 (nI (mT m)) (wC m)) none σ η := by
  obtain ⟨hH, hw, hL, hD, hC⟩ := id hI
  have hP := hw.1
  have hn10 := hP.2.1
  obtain ⟨hmo, -, -, -, hnb, h2, -⟩ := id hm
  obtain ⟨a1, a2, a3⟩ := h2 (by omega)
  obtain ⟨b1, b2, b3, b4, b5⟩ := over_end hP hm (by omega)
  have hx : mT m < 6 := hmo.2.2.1
  have hn : mF m < 6 := hmo.2.1
  have hA : mA m < 256 := hmo.2.2.2.2.1
  have u1 := fun μ => fl_first hmo μ
  have u2 := fun μ => fl_from hmo μ
  have u3 := fun μ => fl_second hmo μ
  have u5 := fun μ => fl_kind hmo μ
  rw [hk] at u5
  have u4 := fun τ => gl_twoOf hmo τ
  have hen := gl_endAt hP (l := mA m % 16) (x := mT m) a1 hx
  have hs0 := fl_endOf (η := η) hK hP a1 (sd := 0) (by omega)
  have hs1 := fl_endOf (η := η) hK hP a1 (sd := 1) (by omega)
  generalize hE : en σ (mA m % 16) (mT m) = e at b1 b2 b3 b4 b5 hen
  have he20 : e < 20 := by omega
  have d38 : e < md_len 38 := he20
  have d10 : e < md_len 10 := he20
  have d37 : e < md_len 37 := he20
  have d13 : e < md_len 13 := he20
  obtain ⟨⟨k1, k2, k3, k4, k5, k6, k7, k8, k9, k10, k11, k12, k13, k14, k15, k16, k17, k18, k19, k20, k21, k22⟩, kE, kF, kP, k4s⟩ := id hK
  obtain ⟨e1, e2, e3, e4, e5, e6, e7⟩ := kE e b1
  have hq : (nI (mT m) ≤ nI (mF m)) ↔ mT m ≤ mF m := nI_leI (by omega) (by omega)
  have o2 : (some (aE e) = none) = False := by simp
  have o3 : ((nI 1 : Int32) = 1) = True := eq_true (by decide)
  have hcls : f_Tr_changeOver 11 (nI (mT m)) (wC m) (Kap kk σ η) = f_Tr_changeOver_34 11 (nI (mT m)) (wC m) (nI (mA m / 16)) (some 11) (nI (mA m % 16)) (if mT m ≤ mF m then 0 else 1) (Kap kk σ η) := by
    by_cases c : mT m ≤ mF m
    · have hq' := eq_true (hq.mpr c)
      simp only [f_Tr_changeOver, x_cI (u1 _), n_I, r16 _ hA, d16 _ hA, x_cI (u2 _), hq', if_true, x_ite, if_pos c]
    · have hq' := eq_false (fun z => c (hq.mp z))
      simp only [f_Tr_changeOver, x_cI (u1 _), n_I, r16 _ hA, d16 _ hA, x_cI (u2 _), hq', if_false, x_ite, if_neg c]
  have hsd : f_Tr_endOf 11 (nI (mA m % 16)) (if mT m ≤ mF m then 0 else 1) (Kap kk σ η) = some (some (va_rf (some (aE e))), Kap kk σ η) := by
    by_cases c : mT m ≤ mF m
    · rw [if_pos c] at b5 ⊢; rw [b5] at hs0; exact hs0
    · rw [if_neg c] at b5 ⊢; rw [b5] at hs1; exact hs1
  by_cases c : σ.1 38 e = nI (mA m / 16)
  · -- what follows once the end is out
    have hrest : ∀ (τ θ : sn_FS), KOk kk τ → Inv τ θ → SP σ τ → Sm kk (g_Md_over_47 (nI (mT m)) (nI (mF m)) (nI (mB m)) (nI (mA m % 16)) (nI e)) (f_Tr_changeOver_93 11 (nI (mT m)) (wC m) (some (aE e))) none τ θ := by
      intro τ θ hKτ hIτ hsp
      obtain ⟨hH', hw', hL', hD', hC'⟩ := id hIτ
      have be : e < 2 * nl τ := by rw [hsp.nlE]; exact b1
      have bx : ex τ e = mT m := by rw [hsp.exE]; exact b3
      have bo : ot τ e = mF m := by rw [hsp.otE]; exact b4
      have hov := fl_overOf (η := θ) hKτ hw'.1 hw'.lt be (kd := 2) (by omega)
      have hmv := MV_over hw'.1 hw'.lt be (Or.inr rfl : (2 : Nat) = 1 ∨ 2 = 2)
      rw [bx, bo, b2] at hov hmv
      obtain ⟨⟨v, hv, ev⟩, ⟨w, hw2, ew⟩⟩ := hw'.lt e he20
      rw [ev, nI_clamp (by omega), ew, nI_clamp (by omega)] at hov hmv
      obtain ⟨θ1, p1, p2, p3, p4, p5⟩ := sm_other hKτ hIτ hx hn hmv
      have hs1 := p5.sp
      have hend := sm_end (hKτ.sp hs1) p3 (e := e) (by rw [hs1.nlE]; exact be) (r := some (mB m)) (fun t h => by cases h; exact a3)
      rw [hs1.exE, bx, b2] at hend
      refine Sm.bind (fun ω hg => ?_) (fun κ hf => ?_) p4 p5.ts p5.fr hend
      · have hg : g_Md_overEnds (nI (mT m)) (nI (mA m % 16)) (nI (mB m)) _ = some (none, ω) := hg
        have hms := gl_message hmv.1 τ
        have e16 : nI (mA m % 16) + ((16 : Int32) * nI v) = nI (mA m % 16 + 16 * v) := by
          have : (16 : Int32) * nI v = nI (16 * v) := pk_mul 16 v
          rw [this, nI_add]
        have hms : g_Md_message 2 (nI (mT m)) (nI (mF m)) 0 (nI (mA m % 16 + 16 * v)) (nI w) τ = _ := hms
        simp only [g_Md_over_47, q_I_at d37, q_I_at d13, ev, ew, e16, y_J_at hms, y_V_at p1, y_V_at hg, z_V]
      · have hf : f_Tr_endChangeover 11 (some (aE e)) (nI (mB m)) _ = some (none, κ) := hf
        have hov : f_Tr_overOf (some (aE e)) 2 (Kap kk τ θ) = _ := hov
        simp only [f_Tr_changeOver_93, x_gI, e1, if_true, rd_E3, bo, x_cJ hov, x_nn, k11, x_cV p2, f_Tr_changeOver_109, x_cI (u3 _), x_cV hf, r_V]
    have hg0 : ∀ ω, (if ¬ σ.1 10 e = (5 : Int32) then g_Md_over_47 (nI (mT m)) (nI (mF m)) (nI (mB m)) (nI (mA m % 16)) (nI e) else y_V (g_Md_fail (nI e) (1 : Int32)) (g_Md_over_47 (nI (mT m)) (nI (mF m)) (nI (mB m)) (nI (mA m % 16)) (nI e))) σ = some (none, ω) → gOver (nI (mT m)) (nI (mF m)) (nI (mA m)) (wR m) σ = some (none, ω) := by
      intro ω h
      have c' : (nI (mA m / 16) = σ.1 38 e) = True := eq_true c.symm
      simp only [gOver, y_I_at (u4 _), g_Md_over, y_nI, a15 _ hA, s4 _ hA]
      have hin : (y_I (g_Md_endAt (nI (mA m % 16)) (nI (mT m))) fun v7 => q_I 38 v7 fun v8 => (if nI (mA m / 16) = v8 then q_I 10 v7 fun v9 => (if ¬ v9 = (5 : Int32) then g_Md_over_47 (nI (mT m)) (nI (mF m)) (nI (mB m)) (nI (mA m % 16)) v7 else y_V (g_Md_fail v7 (1 : Int32)) (g_Md_over_47 (nI (mT m)) (nI (mF m)) (nI (mB m)) (nI (mA m % 16)) v7)) else z_V)) σ = some (none, ω) := by
        rw [y_I_at hen, q_I_at d38, if_pos c.symm, q_I_at d10]; exact h
      rw [y_V_at hin]; rfl
    have hf0 : ∀ κ, (if ¬ σ.1 10 e = (5 : Int32) then f_Tr_changeOver_93 11 (nI (mT m)) (wC m) (some (aE e)) else n_n 8 (some 11) fun a14 => c_I (f_Tr_takeOut a14 (some (aE e))) fun v15 => n_n 8 (some 11) fun a16 => c_V (f_Tr_look a16 (nI (mT m))) (f_Tr_changeOver_93 11 (nI (mT m)) (wC m) (some (aE e)))) (Kap kk σ η) = some (none, κ) → f_Tr_changeOver 11 (nI (mT m)) (wC m) (Kap kk σ η) = some (none, κ) := by
      intro κ h
      rw [hcls, ← h]
      simp only [f_Tr_changeOver_34, x_ite, x_nn, k11, if_true, x_cR hsd, o2, if_false, x_gI, e1, rd_E2, b3, not_true_eq_false, rd_E10, c, x_cI (u5 _), o3, rd_E7]
    by_cases c5 : σ.1 10 e = 5
    · have h0 : ¬ σ.1 10 e = 0 := by rw [c5]; decide
      obtain ⟨w1, w2, w3, w4, w5, w6⟩ := fail_pack hw hL hD hC b1 h0 true
      have hS : S_fail e true σ = S_look (mT m) (S_takeOut e σ) := by
        unfold S_fail
        rw [if_neg (fun q => by cases q.2), b3]
      have hwt := WI_takeOut hw hC b1 h0
      have hst := S_takeOut_SP (e := e) σ
      have hto := fl_takeOut (η := η) hK hP hw.cur b1
      obtain ⟨θ, y1, y2, y3⟩ := fl_look (hK.sp hst) hH.takeOut hwt.gv hwt.told hx
      rw [← hS] at y1 y2
      refine Sm.bind (fun ω hg => hg0 ω ?_) (fun κ hf => hf0 κ ?_) y3 w5 w6 (hrest (S_fail e true σ) θ (hK.sp w6.sp) ⟨y2, w1, w2, w3, w4⟩ w6.sp)
      · have hfl := gl_fail hw.gv hw.told b1 (hw.lt e he20).1 (hw.lt e he20).2 true
        have hfl : g_Md_fail (nI e) 1 σ = _ := hfl
        rw [if_neg (fun q => q c5), y_V_at hfl]; exact hg
      · rw [if_neg (fun q => q c5)]
        simp only [x_nn, k11, if_true, x_cI hto, x_cV y1]; exact hf
    · refine Sm.bind (fun ω hg => hg0 ω ?_) (fun κ hf => hf0 κ ?_) PE.rf TS.rf FR.rf (hrest σ η hK hI SP.rf)
      · rw [if_pos c5]; exact hg
      · rw [if_pos c5]; exact hf
  · have c' : (nI (mA m / 16) = σ.1 38 e) = False := eq_false (fun q => c q.symm)
    refine Sm.id hI ?_ ?_
    · have hin : g_Md_over (nI (mT m)) (nI (mF m)) (nI (mA m)) (nI (mB m)) σ = some (none, σ) := by
        simp only [g_Md_over, y_nI, a15 _ hA, s4 _ hA, y_I_at hen, q_I_at d38, c', if_false, z_V]
      simp only [gOver, y_I_at (u4 _), y_V_at hin, g_Md_get_311, z_V]
    · rw [hcls]
      simp only [f_Tr_changeOver_34, x_ite, x_nn, k11, if_true, x_cR hsd, o2, if_false, x_gI, e1, rd_E2, b3, not_true_eq_false, rd_E10, c, f_Tr_changeOver_63, r_V]
/-- BACK -/
def gCb (x1 v4 v5 : Int32) (l2 : Int64) : sn_G := y_I (g_Md_twoOf l2) fun v15 => y_J (g_Md_message (4 : Int32) x1 v4 v5 v5 v15) fun v16 => y_V (g_Md_otherWay x1 v4 v16) (g_Md_get_311)
theorem sm_confirm (hK : KOk kk σ) (hI : Inv σ η) {m : Msg} (hm : MV σ m) (hk : mK m = 3) : Sm kk (gCb (nI (mT m)) (nI (mF m)) (nI (mA m)) (wR m)) (f_Tr_confirmBack 11 (nI (mT m)) (wC m)) none σ η := by
  obtain ⟨hmo, -, -, -, hnb, -, hA, -, -⟩ := id hm
  have hAL := hA (Or.inl hk)
  have hx : mT m < 6 := hmo.2.2.1
  have hn : mF m < 6 := hmo.2.1
  have hs : mA m < 4 := by rw [hAL]; exact hmo.2.2.2.1
  have hB : mB m < 65536 := hmo.2.2.2.2.2.1
  have u1 := fun μ => fl_first hmo μ
  have u2 := fun μ => fl_from hmo μ
  have u3 := fun μ => fl_second hmo μ
  have u4 := fun τ => gl_twoOf hmo τ
  have hmo2 : MOk (4, mT m, mF m, mA m, mA m, mB m, 0) := ⟨show (4 : Nat) < 16 by decide, hx, hn, hs, by show mA m < 256; omega, hB, show (0 : Nat) < 9 by decide⟩
  have hmv : MV σ (4, mT m, mF m, mA m, mA m, mB m, 0) := ⟨hmo2, show (0 : Nat) < 8 by decide, show (1 : Nat) ≤ 4 by decide, show (4 : Nat) ≤ 14 by decide, by rw [nb_sy]; exact hnb, (fun q => absurd (show (4 : Nat) ≤ 2 from q) (by decide)), (fun _ => rfl), (fun q => by rcases q with q | q; exact absurd (show (4 : Nat) = 5 from q) (by decide); exact absurd (show (4 : Nat) = 6 from q) (by decide)), (fun q => absurd (show (4 : Nat) = 7 from q) (by decide))⟩
  obtain ⟨θ1, p1, p2, p3, p4, p5⟩ := sm_other hK hI hx hn hmv
  obtain ⟨⟨k1, k2, k3, k4, k5, k6, k7, k8, k9, k10, k11, k12, k13, k14, k15, k16, k17, k18, k19, k20, k21, k22⟩, kE, kF, kP, k4s⟩ := id hK
  refine ⟨_, θ1, ?_, ?_, p3, p4, p5.ts, p5.fr⟩
  · have hms := gl_message hmo2 σ
    have hms : g_Md_message 4 (nI (mT m)) (nI (mF m)) (nI (mA m)) (nI (mA m)) (nI (mB m)) σ = _ := hms
    simp only [gCb, y_I_at (u4 _), y_J_at hms, y_V_at p1, g_Md_get_311, z_V]
  · have hof := fl_of hmo2 (Kap kk σ η)
    have hof : f_Ms_of 4 (nI (mT m)) (nI (mF m)) (nI (mA m)) (nI (mA m)) (nI (mB m)) (Kap kk σ η) = _ := hof
    simp only [f_Tr_confirmBack, x_cI (u2 _), x_cI (u1 _), x_cI (u3 _), x_cJ hof, x_nn, k11, if_true, x_cV p2, r_V]
/-- CLOSED, OPENED -/
theorem fl_isEx {a : Nat} (ha : a < 6) (κ : sn_Mem) : f_Pl_isExchange (nI a) κ = some (some (.int 1), κ) := by
  have o1 : (nI a < 0) = False := eq_false (nI_pos (by omega))
  have o2 : ((6 : Int32) ≤ nI a) = False := eq_false (nI_ge (b := 6) (by omega) (by omega))
  simp only [f_Pl_isExchange, f_Pl_isExchange_15, o1, o2, if_false, r_Z]
  simp
theorem sm_prohibit (hK : KOk kk σ) (hI : Inv σ η) {m : Msg} (hm : MV σ m) (hk : mK m = 5 ∨ mK m = 6) : Sm kk (g_Md_get_255 (nI (mT m)) (wR m) (nI (mF m)) (nI (mA m))) (f_Tr_prohibit 11 (nI (mT m)) (wC m)) none σ η := by
  obtain ⟨hH, hw, hL, hD, hC⟩ := id hI
  have hP := hw.1
  obtain ⟨hmo, -, -, -, hnb, -, -, hA, -⟩ := id hm
  have hs : mA m < 6 := hA hk
  have hx : mT m < 6 := hmo.2.2.1
  have hn : mF m < 6 := hmo.2.1
  have hb : nb σ (mT m) (mF m) = true := by rw [nb_sy]; exact hnb
  have u1 := fun μ => fl_first hmo μ
  have u2 := fun μ => fl_from hmo μ
  have u3 := fun μ => fl_kind hmo μ
  have u4 := fun τ => gl_kindOf hmo τ
  obtain ⟨⟨k1, k2, k3, k4, k5, k6, k7, k8, k9, k10, k11, k12, k13, k14, k15, k16, k17, k18, k19, k20, k21, k22⟩, kE, kF, kP, k4s⟩ := id hK
  have hi : 36 * mT m + 6 * mF m + mA m < md_len 48 := by show _ < 216; omega
  have hp : 36 * mT m + 6 * mF m + mA m < kL 15 := by show _ < 216; omega
  have hab := fl_areNb (η := η) hK hP hx hn
  rw [hb, if_pos rfl] at hab
  have o0 : ((1 : Int32) = 0) = False := eq_false (by decide)
  have epl : (((36 : Int32) * nI (mT m)) + ((6 : Int32) * nI (mF m))) + nI (mA m) = nI (36 * mT m + 6 * mF m + mA m) := by
    have e1 : (36 : Int32) * nI (mT m) = nI (36 * mT m) := pk_mul 36 _
    have e2 : (6 : Int32) * nI (mF m) = nI (6 * mF m) := pk_mul 6 _
    rw [e1, e2, nI_add, nI_add]
  have main : ∀ v : Int32, v = 0 ∨ v = 1 → Sm kk (g_Md_get_285 (nI (mT m)) (nI (36 * mT m + 6 * mF m + mA m)) v) (f_Tr_prohibit_58 11 (nI (mT m)) (some 15) (nI (36 * mT m + 6 * mF m + mA m)) v) none σ η := by
    intro v hv
    have hw1 : WI (sI σ 48 (36 * mT m + 6 * mF m + mA m) v) := hw.mI (by decide)
    have hs1 : SP σ (sI σ 48 (36 * mT m + 6 * mF m + mA m) v) := SP.sI (by decide)
    obtain ⟨θ, y1, y2, y3⟩ := fl_look (hK.sp hs1) (hH.mI (k := 48) (i := 36 * mT m + 6 * mF m + mA m) (v := v) (by decide)) hw1.gv hw1.told hx
    have hq := QC_look hw1 hx
    have hts : TS σ (sI σ 48 (36 * mT m + 6 * mF m + mA m) v) := TS.of (sI_ne (by decide)) (fun k i hk => sI_ne (by have := tm_of hk; omega))
    have hfr : FR σ (sI σ 48 (36 * mT m + 6 * mF m + mA m) v) := FR.of (fun k i hk => sI_ne (by omega))
    refine ⟨S_look (mT m) (sI σ 48 (36 * mT m + 6 * mF m + mA m) v), θ, ?_, ?_, ⟨y2, hq.wi hw1, ?_, ?_, hC.at (hts.tr hq.ts).1⟩, y3, hts.tr hq.ts, hfr.tr hq.fr⟩
    · simp only [g_Md_get_285, w_Z_at hi hv, y_V_at (gl_look hw1.gv hw1.told hx), g_Md_get_311, z_V]
    · simp only [f_Tr_prohibit_58, x_bZ hp (show kL 15 ≤ 1000 by decide) hv, k15, if_true, wr_a15, x_nn, k11, x_cV y1, f_Tr_prohibit_64, r_V]
    · refine LkA_look2 hL hw.told hs1 hx (fun k y i hk _ _ _ => sI_ne (by omega)) (fun k y i hk hy hne hi => ?_) (fun y n hy _ hn => opb_at (sI_ne (by decide)) (sI_ne (by decide)))
      by_cases c : k = 48
      · rw [c]; exact sI_nk (by omega)
      · exact sI_ne c
    · exact hq.di (hD.mk' (fun i _ => Or.inr ⟨sI_ne (by decide), sI_ne (by decide)⟩))
  have hfp : ∀ κ, (if ¬ nI (mK m) = (5 : Int32) then f_Tr_prohibit_58 11 (nI (mT m)) (some 15) (nI (36 * mT m + 6 * mF m + mA m)) (0 : Int32) else f_Tr_prohibit_58 11 (nI (mT m)) (some 15) (nI (36 * mT m + 6 * mF m + mA m)) (1 : Int32)) (Kap kk σ η) = some (none, κ) → f_Tr_prohibit 11 (nI (mT m)) (wC m) (Kap kk σ η) = some (none, κ) := by
    intro κ h
    rw [← h]
    simp only [f_Tr_prohibit, x_cI (u1 _), x_cI (u2 _), x_gR, k11, if_true, rr_s11_0, x_nn, k3, x_cI hab, o0, if_false, x_ite, x_cI (fl_isEx hs _), rr_s11_5, x_cI (fl_placeOf _), x_cI (u3 _)]
  rcases hk with hk | hk
  · rw [hk] at u4 hfp
    refine ((main 1 (Or.inr rfl)).at_g (fun τ h => ?_)).at_f (fun κ h => hfp κ ?_)
    · have o1 : ((nI 5 : Int32) = 5) = True := eq_true (by decide)
      simp only [g_Md_get_255, y_I_at (u4 _), o1, not_true_eq_false, if_false, epl]; exact h
    · rw [if_neg (fun q => q (by decide))]; exact h
  · rw [hk] at u4 hfp
    refine ((main 0 (Or.inl rfl)).at_g (fun τ h => ?_)).at_f (fun κ h => hfp κ ?_)
    · have o1 : ((nI 6 : Int32) = 5) = False := eq_false (by decide)
      simp only [g_Md_get_255, y_I_at (u4 _), o1, not_false_eq_true, if_true, epl]; exact h
    · rw [if_pos (by decide)]; exact h
/-- a message for another exchange -/
theorem MV_hop {m : Msg} (hm : MV σ m) (h : mH m + 1 < 8) : MV σ (hop m) := by
  obtain ⟨h1, h2, h3⟩ := hm
  exact ⟨⟨h1.1, h1.2.1, h1.2.2.1, h1.2.2.2.1, h1.2.2.2.2.1, h1.2.2.2.2.2.1, by show mH m + 1 < 9; omega⟩, h, h3⟩
def gPass (x1 : Int32) (l2 : Int64) : sn_G := y_nJ ((l2 + (1099511627776 : Int64))) fun n27 => y_I (g_Md_hopsOf n27) fun v28 => (if ¬ v28 = (8 : Int32) then y_I (g_Md_toOf l2) fun v29 => y_V (g_Md_route x1 v29 n27 (-1 : Int32)) (g_Md_get_50) else q_S 7 fun v31 => w_S 7 (v31 + (1 : Int32)) (g_Md_get_50))
theorem y_nJ_at {v w : Int64} {K : Int64 → sn_G} {σ : sn_FS} (h : v = w) : y_nJ v K σ = K w σ := by subst h; rfl
theorem hop_is {m : Msg} (h : MOk m) (h8 : mH m < 8) : ∃ m', wR m + (1099511627776 : Int64) = wR m' ∧ (∀ μ, f_Ms_hopped (wC m) μ = some (some (.long (wC m')), μ)) ∧ mT m' = mT m ∧ mL m' = mL m ∧ mH m' = mH m + 1 ∧ MOk m' ∧ (∀ σ, MV σ m → mH m + 1 < 8 → MV σ m') :=
  ⟨hop m, wR_hop m, fl_hopped m, rfl, rfl, rfl, ⟨h.1, h.2.1, h.2.2.1, h.2.2.2.1, h.2.2.2.2.1, h.2.2.2.2.2.1, by show mH m + 1 < 9; omega⟩, fun σ a b => MV_hop a b⟩
theorem sm_pass (hK : KOk kk σ) (hI : Inv σ η) {x : Nat} (hx : x < 6) {m : Msg} (hm : MV σ m) : Sm kk (gPass (nI x) (wR m)) (f_Tr_passOn 11 (nI x) (wC m)) none σ η := by
  obtain ⟨hH, hw, hL, hD, hC⟩ := id hI
  obtain ⟨hmo, hH8, -⟩ := id hm
  have hT : mT m < 6 := hmo.2.2.1
  have hLn : mL m < 4 := hmo.2.2.2.1
  have u1 := fun μ => fl_to hmo μ
  have u2 := fun μ => fl_lane hmo μ
  have u4 := fun τ => gl_toOf hmo τ
  obtain ⟨m', r1, r2, r3, r4, r5, hmh, r6⟩ := hop_is hmo hH8
  have u5 := fun τ => gl_hopsOf hmh τ
  have u6 := fun μ => fl_hops hmh μ
  rw [r5] at u5 u6
  obtain ⟨⟨k1, k2, k3, k4, k5, k6, k7, k8, k9, k10, k11, k12, k13, k14, k15, k16, k17, k18, k19, k20, k21, k22⟩, kE, kF, kP, k4s⟩ := id hK
  by_cases c : mH m + 1 = 8
  · rw [c] at u5 u6
    refine ⟨S_lost σ, η, ?_, ?_, ⟨hH.lost, QC_lost.wi hw, QC_lost.lk (fun i => S_lost_I σ (by decide)) hL, QC_lost.di hD, hC.at (S_lost_I σ (by decide))⟩, PE.rf, QC_lost.ts, QC_lost.fr⟩
    · have o1 : ((nI 8 : Int32) = 8) = True := eq_true (by decide)
      unfold gPass
      rw [y_nJ_at r1]
      simp only [y_I_at (u5 _), o1, not_true_eq_false, if_false, q_S, w_S, g_Md_get_50, z_V, S_lost]
    · have o1 : ((nI 8 : Int32) < 8) = False := eq_false (by decide)
      simp only [f_Tr_passOn, x_cJ (r2 _), x_cI (u6 _), o1, if_false, x_ite, x_gI, k11, if_true, rd_s11_7, x_pI, wS_7, r_V, S_lost]
  · have hmv := r6 σ hm (by omega)
    have o1 : (nI (mH m + 1) = (8 : Int32)) = False := eq_false (fun q => c (nI_inj (by omega) (by omega) (show nI (mH m + 1) = nI 8 from q)))
    have o2 : (nI (mH m + 1) < (8 : Int32)) = True := eq_true (nI_lt (b := 8) (by omega) (by omega))
    have hrt := gl_route hw.gv hw.told hmh (but := none) (fun n h => by cases h) hx hT
    rw [r4] at hrt
    have hwy := fl_wayTo (η := η) hK hw.1 hw.told hx hT hLn (but := none) (fun n h => by cases h)
    obtain ⟨θ, y1, y2, y3⟩ := fl_giveWay hK hH hw.gv hw.told hx hT hLn (but := none) hmv
    have hq := QC_route hw hx hT hLn (but := none) (wR m')
    refine ⟨_, θ, ?_, ?_, ⟨y2, hq.wi hw, hq.lk (fun i => S_route_I σ (by decide)) hL, hq.di hD, hC.at (hq.at (by decide))⟩, y3, hq.ts, hq.fr⟩
    · have hrt : g_Md_route (nI x) (nI (mT m)) (wR m') (-1) σ = some (none, S_route x (mT m) (mL m) (wR m') none σ) := hrt
      unfold gPass
      rw [y_nJ_at r1]
      simp only [y_I_at (u5 _), o1, not_false_eq_true, if_true, y_I_at (u4 _), y_V_at hrt, g_Md_get_50, z_V]
    · have hwy : f_Tr_wayTo 11 (nI x) (nI (mT m)) (nI (mL m)) (-1) (Kap kk σ η) = _ := hwy
      simp only [f_Tr_passOn, x_cJ (r2 _), x_cI (u6 _), o2, if_true, x_ite, x_cI (u1 _), x_cI (u2 _), x_nn, k11, x_cR hwy, x_cV y1, r_V]
