/-! LAYER 2: next; cut, damage, route -/
variable {kk : Nat → Nat} {σ η : sn_FS}
theorem div10 {x : Int32} {b : Nat} (hb : b = 1 ∨ b = 2) (h : x / (10 : Int32) = nI b) : ∃ w, 10 ≤ w ∧ w < 30 ∧ x = nI w := by
  have h1 := Int32.toInt_div_of_ne_right x 10 (by decide)
  rw [h] at h1
  have e10 : (10 : Int32).toInt = 10 := by decide
  have eb : (nI b).toInt = b := nI_toInt (by omega)
  rw [e10, eb] at h1
  by_cases c : 0 ≤ x.toInt
  · rw [Int.tdiv_eq_ediv_of_nonneg c] at h1
    refine ⟨x.toInt.toNat, by omega, by omega, ?_⟩
    apply Int32.toInt_inj.mp
    rw [nI_toInt (by omega)]
    omega
  · exfalso
    have h2 : x.toInt = -(-x.toInt) := by omega
    rw [h2, Int.neg_tdiv, Int.tdiv_eq_ediv_of_nonneg (by omega)] at h1
    omega
theorem fl_nbX (hK : KOk kk σ) {x : Nat} (hx : x < 6) {y : Int32} (h : xok y = false) : f_Pl_areNeighbours 3 (nI x) y (Kap kk σ η) = some (some (.int 0), Kap kk σ η) := by
  have k3 := hK.1.2.2.1
  have e1 : (nI x < 0) = False := eq_false (nI_pos (by omega))
  have e2 : ((6 : Int32) ≤ nI x) = False := eq_false (nI_ge (b := 6) hx (by omega))
  have hs : f_Pl_setSize 3 (nI x) y (Kap kk σ η) = some (some (.int 0), Kap kk σ η) := by
    by_cases c : y < 0
    · simp only [f_Pl_setSize, e1, e2, if_false, eq_true c, if_true, f_Pl_setSize_20, r_I]
    · have h6 : ¬ y < (6 : Int32) := by
        rcases xok_f h with q | q
        · exact absurd q c
        · exact fun z => Int32.not_le.mpr z q
      simp only [f_Pl_setSize, e1, e2, if_false, eq_false c, eq_false h6, f_Pl_setSize_20, r_I]
  have e0 : ((0 : Int32) ≤ 0) = True := eq_true (by decide)
  simp only [f_Pl_areNeighbours, x_nn, k3, if_true, x_cI hs, e0, f_Pl_areNeighbours_14, r_Z]
  simp
theorem two_nat {x y : Int32} (h : two x y = true) : ∃ a b, a < 6 ∧ b < 6 ∧ a ≠ b ∧ x = nI a ∧ y = nI b := by
  unfold two at h
  simp only [Bool.and_eq_true, Bool.not_eq_true', decide_eq_false_iff_not] at h
  obtain ⟨a, ha, rfl⟩ := xok_nat h.1.1
  obtain ⟨b, hb, rfl⟩ := xok_nat h.1.2
  exact ⟨a, b, ha, hb, fun q => h.2 (by rw [q]), rfl, rfl⟩
theorem op_next (hK : KOk kk σ) (hA : GA σ η) (hT9 : T49 σ) (x1 x2 x3 : Int32) : Op kk (g_Md_next x1 x2 x3) (f_Sn_next 1 x1 x2 x3) σ η := by
  have hKo := hK
  obtain ⟨⟨k1, k2, k3, k4, k5, k6, k7, k8, k9, k10, k11, k12, k13, k14, k15, k16, k17, k18, k19, k20, k21, k22⟩, kE, kF, kP, k4s⟩ := id hK
  have hw := hA.1.1.2.1
  have hP := hw.1
  have z10 : ((1 : Int32) = 0) = False := eq_false (by decide)
  refine Al.op ?_ hA
  have hcl : ∀ v, f_Tr_tellWay 11 x1 x2 x3 (Kap kk σ η) = some (some (.int v), Kap kk σ η) → f_Sn_next 1 x1 x2 x3 (Kap kk σ η) = some (some (.int v), Kap kk σ η) := fun v h => by
    simp only [f_Sn_next, x_gR, k1, if_true, rr_s1_2, x_nn, k11, x_cI h, r_I]
  have hat := fl_areTwo x1 x2 (Kap kk σ η)
  by_cases h2 : two x1 x2 = true
  · obtain ⟨x, d, hx, hd, hne, rfl, rfl⟩ := two_nat h2
    rw [if_pos h2] at hat
    have hne' : ¬ nI x = nI d := fun q => hne (nI_inj (by omega) (by omega) q)
    have hgl : ∀ v, (if ¬ x3 = 0 then y_nI ((x3 % (10 : Int32))) fun n3 => (if x3 < (10 : Int32) then g_Md_next_66 else (if (25 : Int32) < x3 then g_Md_next_66 else (if (5 : Int32) < n3 then g_Md_next_66 else y_I (g_Md_areNeighbours (nI x) n3) fun v4 => (if ¬ v4 = 0 then y_nI (((((36 : Int32) * nI x) + ((6 : Int32) * n3)) + nI d)) fun n5 => (if (20 : Int32) ≤ x3 then q_I 49 n5 fun v6 => (if ¬ v6 = 0 then q_I 49 n5 fun v7 => (if ¬ v7 = (1 : Int32) then g_Md_next_134 (0 : Int32) else g_Md_next_134 (1 : Int32)) else g_Md_next_134 (-1 : Int32)) else q_I 48 n5 fun v8 => (if v8 = 0 then g_Md_next_103 (0 : Int32) else g_Md_next_103 (1 : Int32))) else g_Md_next_66)))) else y_I (g_Md_nextOf (nI x) (nI d)) fun v9 => z_I v9) σ = some (some (.int v), σ) → g_Md_next (nI x) (nI d) x3 σ = some (some (.int v), σ) := fun v h => by
      unfold g_Md_next
      rw [y_I_at (gl_isEx hx σ), if_neg (by decide), y_I_at (gl_isEx hd σ), if_neg (by decide), if_pos hne']
      exact h
    by_cases c0 : x3 = 0
    · subst c0
      refine ⟨oI (way σ x d 0 none), hgl _ ?_, hcl _ ?_⟩
      · rw [if_neg (fun q => q rfl), y_I_at (gl_nextOf hw.gv hw.told hx hd)]; rfl
      · have hwt := fl_wayTo (η := η) hKo hP hw.told hx hd (s := 0) (by decide) (but := none) (fun n h => by cases h)
        have hwt : f_Tr_wayTo 11 (nI x) (nI d) 0 (-1) (Kap kk σ η) = _ := hwt
        cases hwy : way σ x d 0 none with
        | none =>
          rw [hwy] at hwt
          have hwt : f_Tr_wayTo 11 (nI x) (nI d) 0 (-1) (Kap kk σ η) = some (some (va_rf none), Kap kk σ η) := hwt
          simp only [f_Tr_tellWay, x_cI hat, z10, not_false_eq_true, if_true, not_true_eq_false, if_false, x_nn, k11, x_cR hwt, f_Tr_tellWay_38, r_I, oI]
        | some n =>
          rw [hwy] at hwt
          have hwt : f_Tr_wayTo 11 (nI x) (nI d) 0 (-1) (Kap kk σ η) = some (some (va_rf (some (aF (fl x n 0)))), Kap kk σ η) := hwt
          obtain ⟨n6, ok, -⟩ := way_lt hw.told hx hd hwy
          obtain ⟨nb1, -⟩ := okw_nb ok
          obtain ⟨f1, f2, f3, f4⟩ := hKo.flow hx n6 (s := 0) (by decide) nb1
          have q1 : (some (aF (fl x n 0)) = none) = False := by simp
          obtain ⟨-, g2, -⟩ := fl_x (x := x) (s := 0) n6 (by decide)
          simp only [f_Tr_tellWay, x_cI hat, z10, not_false_eq_true, if_true, not_true_eq_false, if_false, x_nn, k11, x_cR hwt, q1, x_gI, f1, rd_F0, g2, f_Tr_tellWay_38, r_I, oI]
    · by_cases cw : ∃ w, 10 ≤ w ∧ w < 30 ∧ x3 = nI w
      · obtain ⟨w, w1, w2, rfl⟩ := cw
        have er := t1m w (by omega)
        have ed := t10 w (by omega)
        have l10 : ¬ nI w < (10 : Int32) := fun q => by have := (nI_ltI (a := w) (b := 10) (by omega) (by omega)).mp q; omega
        by_cases c5 : w % 10 ≤ 5
        · have l25 : ¬ (25 : Int32) < nI w := fun q => by have := (nI_ltI (a := 25) (b := w) (by omega) (by omega)).mp q; omega
          have l5 : ¬ (5 : Int32) < nI (w % 10) := fun q => by have := (nI_ltI (a := 5) (b := w % 10) (by omega) (by omega)).mp q; omega
          have hn6 : w % 10 < 6 := by omega
          have hnbg := gl_areNb hP hx hn6
          have hnbf := fl_areNb (η := η) hKo hP hx hn6
          by_cases hnb : nb σ x (w % 10) = true
          · rw [if_pos hnb] at hnbg hnbf
            have e36 : ((36 : Int32) * nI x + (6 : Int32) * nI (w % 10)) + nI d = nI (36 * x + 6 * (w % 10) + d) := by
              have a1 : (36 : Int32) * nI x = nI (36 * x) := pk_mul 36 x
              have a2 : (6 : Int32) * nI (w % 10) = nI (6 * (w % 10)) := pk_mul 6 _
              rw [a1, a2, nI_add, nI_add]
            have hp : 36 * x + 6 * (w % 10) + d < 216 := by omega
            have d48 : 36 * x + 6 * (w % 10) + d < md_len 48 := hp
            have d49 : 36 * x + 6 * (w % 10) + d < md_len 49 := hp
            have p15 : 36 * x + 6 * (w % 10) + d < kL 15 := hp
            have p16 : 36 * x + 6 * (w % 10) + d < kL 16 := hp
            have hpl := fl_placeOf (x := x) (n := w % 10) (d := d) (Kap kk σ η)
            have hin : ∀ v, (if (20 : Int32) ≤ nI w then q_I 49 (nI (36 * x + 6 * (w % 10) + d)) fun v6 => (if ¬ v6 = 0 then q_I 49 (nI (36 * x + 6 * (w % 10) + d)) fun v7 => (if ¬ v7 = (1 : Int32) then g_Md_next_134 (0 : Int32) else g_Md_next_134 (1 : Int32)) else g_Md_next_134 (-1 : Int32)) else q_I 48 (nI (36 * x + 6 * (w % 10) + d)) fun v8 => (if v8 = 0 then g_Md_next_103 (0 : Int32) else g_Md_next_103 (1 : Int32))) σ = some (some (.int v), σ) → g_Md_next (nI x) (nI d) (nI w) σ = some (some (.int v), σ) := fun v h => by
              refine hgl v ?_
              rw [if_pos c0, er]
              show (if nI w < (10 : Int32) then g_Md_next_66 else (if (25 : Int32) < nI w then g_Md_next_66 else (if (5 : Int32) < nI (w % 10) then g_Md_next_66 else y_I (g_Md_areNeighbours (nI x) (nI (w % 10))) fun v4 => (if ¬ v4 = 0 then y_nI (((((36 : Int32) * nI x) + ((6 : Int32) * nI (w % 10))) + nI d)) fun n5 => (if (20 : Int32) ≤ nI w then q_I 49 n5 fun v6 => (if ¬ v6 = 0 then q_I 49 n5 fun v7 => (if ¬ v7 = (1 : Int32) then g_Md_next_134 (0 : Int32) else g_Md_next_134 (1 : Int32)) else g_Md_next_134 (-1 : Int32)) else q_I 48 n5 fun v8 => (if v8 = 0 then g_Md_next_103 (0 : Int32) else g_Md_next_103 (1 : Int32))) else g_Md_next_66)))) σ = _
              rw [if_neg l10, if_neg l25, if_neg l5, y_I_at hnbg, if_pos (by decide), e36]
              exact h
            have hcf : ∀ v, (sn_sw (nI (w / 10)) [1, 2] [(g_R 8 5 (some 11) fun v7 => a_I 23 v7 (nI (36 * x + 6 * (w % 10) + d)) fun v8 => (if v8 = 0 then f_Tr_tellWay_115 11 (0 : Int32) else f_Tr_tellWay_115 11 (1 : Int32))), (g_R 8 6 (some 11) fun v9 => a_I 21 v9 (nI (36 * x + 6 * (w % 10) + d)) fun v10 => (if ¬ v10 = 0 then g_R 8 6 (some 11) fun v11 => a_I 21 v11 (nI (36 * x + 6 * (w % 10) + d)) fun v12 => (if ¬ v12 = (5 : Int32) then f_Tr_tellWay_146 11 (0 : Int32) else f_Tr_tellWay_146 11 (1 : Int32)) else f_Tr_tellWay_146 11 (-1 : Int32)))] (r_I (-1 : Int32))) (Kap kk σ η) = some (some (.int v), Kap kk σ η) → f_Sn_next 1 (nI x) (nI d) (nI w) (Kap kk σ η) = some (some (.int v), Kap kk σ η) := fun v h => by
              refine hcl v ?_
              simp only [f_Tr_tellWay, x_cI hat, z10, not_false_eq_true, if_true, eq_false c0, n_I, er, x_gR, k11, rr_s11_0, x_nn, k3, x_cI hnbf, x_cI hpl, ed]
              exact h
            by_cases c20 : 20 ≤ w
            · have l20 : (20 : Int32) ≤ nI w := (nI_leI (a := 20) (b := w) (by omega) (by omega)).mpr c20
              have hw10 : w / 10 = 2 := by omega
              have t9 := hT9 _ hp
              refine ⟨if σ.1 49 (36 * x + 6 * (w % 10) + d) = 0 then -1 else if σ.1 49 (36 * x + 6 * (w % 10) + d) = 1 then 1 else 0, hin _ ?_, hcf _ ?_⟩
              · rw [if_pos l20, q_I_at d49]
                rcases t9 with q | q | q
                · rw [q, if_neg (fun q => q rfl), if_pos rfl]; rfl
                · rw [q, if_pos (by decide), q_I_at d49, q, if_neg (fun q => q rfl), if_neg (by decide), if_pos rfl]; rfl
                · rw [q, if_pos (by decide), q_I_at d49, q, if_pos (by decide), if_neg (by decide), if_neg (by decide)]; rfl
              · rw [hw10]
                show (g_R 8 6 (some 11) fun v9 => a_I 21 v9 (nI (36 * x + 6 * (w % 10) + d)) fun v10 => (if ¬ v10 = 0 then g_R 8 6 (some 11) fun v11 => a_I 21 v11 (nI (36 * x + 6 * (w % 10) + d)) fun v12 => (if ¬ v12 = (5 : Int32) then f_Tr_tellWay_146 11 (0 : Int32) else f_Tr_tellWay_146 11 (1 : Int32)) else f_Tr_tellWay_146 11 (-1 : Int32))) (Kap kk σ η) = _
                rcases t9 with q | q | q
                · have e : (tcd 0 = 0) = True := eq_true (by decide)
                  simp only [x_gR, k11, if_true, rr_s11_6, x_aI p16 (by decide), k16, rd_a16, q, e, not_true_eq_false, if_false, f_Tr_tellWay_146, r_I]
                · have e : (tcd 1 = 0) = False := eq_false (by decide)
                  have e5 : (tcd 1 = 5) = True := eq_true (by decide)
                  simp only [x_gR, k11, if_true, rr_s11_6, x_aI p16 (by decide), k16, rd_a16, q, e, e5, not_true_eq_false, not_false_eq_true, if_false, z10, f_Tr_tellWay_146, r_I]
                · have e : (tcd 2 = 0) = False := eq_false (by decide)
                  have e5 : (tcd 2 = 5) = False := eq_false (by decide)
                  have z20 : ((2 : Int32) = 0) = False := eq_false (by decide)
                  have z21 : ((2 : Int32) = 1) = False := eq_false (by decide)
                  simp only [x_gR, k11, if_true, rr_s11_6, x_aI p16 (by decide), k16, rd_a16, q, e, e5, not_true_eq_false, not_false_eq_true, if_false, z20, z21, f_Tr_tellWay_146, r_I]
            · have l20 : ¬ (20 : Int32) ≤ nI w := fun q => c20 ((nI_leI (a := 20) (b := w) (by omega) (by omega)).mp q)
              have hw10 : w / 10 = 1 := by omega
              refine ⟨if σ.1 48 (36 * x + 6 * (w % 10) + d) = 0 then 0 else 1, hin _ ?_, hcf _ ?_⟩
              · rw [if_neg l20, q_I_at d48]
                by_cases c : σ.1 48 (36 * x + 6 * (w % 10) + d) = 0
                · rw [if_pos c, if_pos c]; rfl
                · rw [if_neg c, if_neg c]; rfl
              · rw [hw10]
                show (g_R 8 5 (some 11) fun v7 => a_I 23 v7 (nI (36 * x + 6 * (w % 10) + d)) fun v8 => (if v8 = 0 then f_Tr_tellWay_115 11 (0 : Int32) else f_Tr_tellWay_115 11 (1 : Int32))) (Kap kk σ η) = _
                by_cases c : σ.1 48 (36 * x + 6 * (w % 10) + d) = 0
                · simp only [x_gR, k11, if_true, rr_s11_5, x_aI p15 (by decide), k15, rd_a15, c, f_Tr_tellWay_115, r_I]
                · simp only [x_gR, k11, if_true, rr_s11_5, x_aI p15 (by decide), k15, rd_a15, c, if_false, f_Tr_tellWay_115, r_I]
          · rw [if_neg hnb] at hnbg hnbf
            refine ⟨-1, hgl _ ?_, hcl _ ?_⟩
            · rw [if_pos c0, er]
              show (if nI w < (10 : Int32) then g_Md_next_66 else (if (25 : Int32) < nI w then g_Md_next_66 else (if (5 : Int32) < nI (w % 10) then g_Md_next_66 else y_I (g_Md_areNeighbours (nI x) (nI (w % 10))) (fun v4 => (if ¬ v4 = 0 then (_ : sn_G) else g_Md_next_66))))) σ = _
              rw [if_neg l10, if_neg l25, if_neg l5, y_I_at hnbg, if_neg (fun q => q rfl)]; rfl
            · simp only [f_Tr_tellWay, x_cI hat, z10, not_false_eq_true, if_true, eq_false c0, n_I, er, x_gR, k11, rr_s11_0, x_nn, k3, x_cI hnbf, not_true_eq_false, if_false, r_I]
        · have hbad : xok (nI (w % 10)) = false := by
            have h6 : (6 : Int32) ≤ nI (w % 10) := (nI_leI (a := 6) (b := w % 10) (by omega) (by omega)).mpr (by omega)
            unfold xok
            simp [h6]
          have hnbf := fl_nbX (η := η) hKo hx hbad
          refine ⟨-1, hgl _ ?_, hcl _ ?_⟩
          · rw [if_pos c0, er]
            have l5 : (5 : Int32) < nI (w % 10) := (nI_ltI (a := 5) (b := w % 10) (by omega) (by omega)).mpr (by omega)
            show (if nI w < (10 : Int32) then g_Md_next_66 else (if (25 : Int32) < nI w then g_Md_next_66 else (if (5 : Int32) < nI (w % 10) then g_Md_next_66 else (_ : sn_G)))) σ = _
            rw [if_neg l10, if_pos l5]
            split <;> rfl
          · simp only [f_Tr_tellWay, x_cI hat, z10, not_false_eq_true, if_true, eq_false c0, n_I, er, x_gR, k11, rr_s11_0, x_nn, k3, x_cI hnbf, not_true_eq_false, if_false, r_I]
      · -- no such question
        refine ⟨-1, hgl _ ?_, hcl _ ?_⟩
        · rw [if_pos c0]
          show (if x3 < (10 : Int32) then g_Md_next_66 else (if (25 : Int32) < x3 then g_Md_next_66 else (_ : sn_G))) σ = _
          by_cases l1 : x3 < (10 : Int32)
          · rw [if_pos l1]; rfl
          · have l2 : (25 : Int32) < x3 := by
              by_cases q : (25 : Int32) < x3
              · exact q
              · exfalso
                have q1 : ¬ x3.toInt < 10 := by
                  have := (not_congr Int32.lt_iff_toInt_lt).mp l1
                  have e : (10 : Int32).toInt = 10 := by decide
                  omega
                have q2 : ¬ 25 < x3.toInt := by
                  have := (not_congr Int32.lt_iff_toInt_lt).mp q
                  have e : (25 : Int32).toInt = 25 := by decide
                  omega
                refine cw ⟨x3.toInt.toNat, by omega, by omega, ?_⟩
                apply Int32.toInt_inj.mp
                rw [nI_toInt (by omega)]
                omega
            rw [if_neg l1, if_pos l2]; rfl
        · have d1 : (x3 / (10 : Int32) = 1) = False := eq_false (fun q => cw (div10 (b := 1) (Or.inl rfl) q))
          have d2 : (x3 / (10 : Int32) = 2) = False := eq_false (fun q => cw (div10 (b := 2) (Or.inr rfl) q))
          by_cases hok : xok (x3 % (10 : Int32)) = true
          · obtain ⟨n, hn, en⟩ := xok_nat hok
            have hnbf := fl_areNb (η := η) hKo hP hx hn
            have hpl := fl_placeOf (x := x) (n := n) (d := d) (Kap kk σ η)
            by_cases hnb : nb σ x n = true
            · rw [if_pos hnb] at hnbf
              simp only [f_Tr_tellWay, x_cI hat, z10, not_false_eq_true, if_true, eq_false c0, n_I, en, x_gR, k11, rr_s11_0, x_nn, k3, x_cI hnbf, x_cI hpl, sn_sw, d1, d2, if_false, r_I]
            · rw [if_neg hnb] at hnbf
              simp only [f_Tr_tellWay, x_cI hat, z10, not_false_eq_true, if_true, eq_false c0, n_I, en, x_gR, k11, rr_s11_0, x_nn, k3, x_cI hnbf, not_true_eq_false, if_false, r_I]
          · have hnbf := fl_nbX (η := η) hKo hx (y := x3 % (10 : Int32)) (by simpa using hok)
            simp only [f_Tr_tellWay, x_cI hat, z10, not_false_eq_true, if_true, eq_false c0, n_I, x_gR, k11, rr_s11_0, x_nn, k3, x_cI hnbf, not_true_eq_false, if_false, r_I]
  · rw [if_neg h2] at hat
    refine ⟨-1, ?_, hcl _ ?_⟩
    · unfold g_Md_next
      rw [y_I_at (gl_isX x1 σ)]
      by_cases a1 : xok x1 = true
      · rw [if_pos a1, if_neg (by decide), y_I_at (gl_isX x2 σ)]
        by_cases a2 : xok x2 = true
        · rw [if_pos a2, if_neg (by decide)]
          have a3 : x1 = x2 := by
            by_cases q : x1 = x2
            · exact q
            · exact absurd (by unfold two; simp [a1, a2, q]) h2
          rw [if_neg (fun q => q a3)]; rfl
        · rw [if_neg a2, if_pos rfl]; rfl
      · rw [if_neg a1, if_pos rfl]; rfl
    · simp only [f_Tr_tellWay, x_cI hat, not_true_eq_false, if_false, r_I]
