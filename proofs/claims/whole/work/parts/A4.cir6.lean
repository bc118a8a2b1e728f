/-! LAYER 2: connecting: the class finds a circuit; both take it -/
variable {kk : Nat → Nat} {σ : sn_FS}
theorem fl_isFree {η : sn_FS} (hK : KOk kk σ) {c : Nat} (hc : c < 144) (hnb : nb σ (c / 24) (c % 24 / 4) = true) : f_Lg_isFree (aC c) (Kap kk σ η) = some (some (.int (if fre1 σ c then 1 else 0)), Kap kk σ η) := by
  obtain ⟨⟨k1, k2, k3, k4, k5, k6, k7, k8, k9, k10, k11, k12, k13, k14, k15, k16, k17, k18, k19, k20, k21, k22⟩, kE, kF, kP, k4s⟩ := id hK
  obtain ⟨f1, f2, f3, f4⟩ := kF c hc hnb
  by_cases c1 : σ.1 52 c = 0
  · by_cases c2 : σ.1 55 c = 0
    · by_cases c3 : σ.1 56 c = 0
      · have hfr : fre1 σ c = true := by unfold fre1; simp [c1, c2, c3]
        simp only [f_Lg_isFree, x_gI, f4, if_true, rd_C3, c1, not_true_eq_false, if_false, rd_C7, c2, rd_C8, c3, f_Lg_isFree_26, r_Z, hfr]
        simp
      · have hfr : fre1 σ c = false := by unfold fre1; simp [c3]
        simp only [f_Lg_isFree, x_gI, f4, if_true, rd_C3, c1, not_true_eq_false, if_false, rd_C7, c2, rd_C8, c3, not_false_eq_true, f_Lg_isFree_25, f_Lg_isFree_26, r_Z, hfr]
        simp
    · have hfr : fre1 σ c = false := by unfold fre1; simp [c2]
      simp only [f_Lg_isFree, x_gI, f4, if_true, rd_C3, c1, not_true_eq_false, if_false, rd_C7, c2, not_false_eq_true, f_Lg_isFree_25, f_Lg_isFree_26, r_Z, hfr]
      simp
  · have hfr : fre1 σ c = false := by unfold fre1; simp [c1]
    simp only [f_Lg_isFree, x_gI, f4, if_true, rd_C3, c1, not_false_eq_true, f_Lg_isFree_25, f_Lg_isFree_26, r_Z, hfr]
    simp
/-- four places of one neighbour told -/
theorem fl_id4 {η : sn_FS} (hK : KOk kk σ) (hP : PlanOk σ) (hT : ToldOk σ) {g e b k : Nat} (hg : VL σ g) (he : e < 6) (hbk : b = 0 ∧ k = 50 ∨ b = 1 ∧ k = 51) : ∀ (r fuel : Nat), r ≤ 4 → r < fuel → f_Sw_idleCircuit_15 17 fuel (some (aL g)) (nI e) (nI (4 * b + (4 - r))) (Kap kk σ η) = match (match tldn σ k (xg g) e with | none => none | some n => if ng g = nI n then none else fre σ (xg g) n r) with
    | some c => some (some (va_rf (some (aC c))), Kap kk σ η)
    | none => f_Sw_idleCircuit_15 17 (fuel - r) (some (aL g)) (nI e) (nI (4 * b + 4)) (Kap kk σ η)
  | 0, fuel, _, _ => by
    have : (match tldn σ k (xg g) e with | none => (none : Option Nat) | some n => if ng g = nI n then none else fre σ (xg g) n 0) = none := by
      cases tldn σ k (xg g) e with
      | none => rfl
      | some n =>
        show (if ng g = nI n then none else none) = none
        split <;> rfl
    rw [this]
    rfl
  | r + 1, fuel + 1, hr, hf => by
    obtain ⟨⟨k1, k2, k3, k4, k5, k6, k7, k8, k9, k10, k11, k12, k13, k14, k15, k16, k17, k18, k19, k20, k21, k22⟩, kE, kF, kP, k4s⟩ := id hK
    have h4 := hK.leg hg
    have hV := hg.vn
    have hx := xg_lt hV
    have hs : 4 - (r + 1) < 4 := by omega
    have hss : 4 * b + (4 - (r + 1)) + 1 = 4 * b + (4 - r) := by omega
    have hi8 : 4 * b + (4 - (r + 1)) < 8 := by omega
    have hd4 : (4 * b + (4 - (r + 1))) / 4 = b := by omega
    have hm4 : (4 * b + (4 - (r + 1))) % 4 = 4 - (r + 1) := by omega
    have ih := fl_id4 (η := η) hK hP hT hg he hbk r fuel (by omega) (by omega)
    have hfz : fuel + 1 - (r + 1) = fuel - r := by omega
    rw [hfz]
    have o8 : ((8 : Int32) ≤ nI (4 * b + (4 - (r + 1)))) = False := eq_false (nI_ge (b := 8) (by omega) (by omega))
    have htd : f_Pl_told 3 (nI (xg g)) (nI e) (nI b) (Kap kk σ η) = some (some (.int (bI (tldn σ k (xg g) e))), Kap kk σ η) := by
      have h := fl_told (η := η) hK hP hT hx he
      rcases hbk with ⟨rfl, rfl⟩ | ⟨rfl, rfl⟩
      · exact h.1
      · exact h.2 (nI 1) (by decide)
    have hnx : f_Sw_idleCircuit_94 (f_Sw_idleCircuit_15 17 fuel) 17 (some (aL g)) (nI e) (nI (4 * b + (4 - (r + 1)))) (Kap kk σ η) = f_Sw_idleCircuit_15 17 fuel (some (aL g)) (nI e) (nI (4 * b + (4 - r))) (Kap kk σ η) := by
      unfold f_Sw_idleCircuit_94
      rw [nI_1, hss]
    have hpre : f_Sw_idleCircuit_15 17 (fuel + 1) (some (aL g)) (nI e) (nI (4 * b + (4 - (r + 1)))) (Kap kk σ η) = (if bI (tldn σ k (xg g) e) = ng g then f_Sw_idleCircuit_52 (f_Sw_idleCircuit_15 17 fuel) 17 (some (aL g)) (nI e) (nI (4 * b + (4 - (r + 1)))) (bI (tldn σ k (xg g) e)) (0 : Int32) else f_Sw_idleCircuit_52 (f_Sw_idleCircuit_15 17 fuel) 17 (some (aL g)) (nI e) (nI (4 * b + (4 - (r + 1)))) (bI (tldn σ k (xg g) e)) (1 : Int32)) (Kap kk σ η) := by
      simp only [f_Sw_idleCircuit_15, o8, if_false, x_gR, k17, if_true, rr_s17_0, x_gI, h4, rd_L0, x_nn, k3, i4 _ hi8, hd4, x_cI htd, rd_L1]
    rw [hpre]
    have z10 : ((1 : Int32) = 0) = False := eq_false (by decide)
    cases htl : tldn σ k (xg g) e with
    | none =>
      have hb : bI (none : Option Nat) = (-1 : Int32) := rfl
      rw [htl] at ih
      rw [hb]
      have h1 : f_Sw_idleCircuit_52 (f_Sw_idleCircuit_15 17 fuel) 17 (some (aL g)) (nI e) (nI (4 * b + (4 - (r + 1)))) (-1) (0 : Int32) (Kap kk σ η) = f_Sw_idleCircuit_15 17 fuel (some (aL g)) (nI e) (nI (4 * b + (4 - r))) (Kap kk σ η) := by
        simp only [f_Sw_idleCircuit_52, if_true, f_Sw_idleCircuit_76, hnx]
      have h2 : f_Sw_idleCircuit_52 (f_Sw_idleCircuit_15 17 fuel) 17 (some (aL g)) (nI e) (nI (4 * b + (4 - (r + 1)))) (-1) (1 : Int32) (Kap kk σ η) = f_Sw_idleCircuit_15 17 fuel (some (aL g)) (nI e) (nI (4 * b + (4 - r))) (Kap kk σ η) := by
        simp only [f_Sw_idleCircuit_52, z10, if_false, x_gI, h4, if_true, rd_L0, x_nn, k17, x_cR (fl_cirAt_m _ hx), f_Sw_idleCircuit_76, hnx]
      show _ = f_Sw_idleCircuit_15 17 (fuel - r) (some (aL g)) (nI e) (nI (4 * b + 4)) (Kap kk σ η)
      have ih : f_Sw_idleCircuit_15 17 fuel (some (aL g)) (nI e) (nI (4 * b + (4 - r))) (Kap kk σ η) = f_Sw_idleCircuit_15 17 (fuel - r) (some (aL g)) (nI e) (nI (4 * b + 4)) (Kap kk σ η) := ih
      rw [← ih]
      split
      · exact h1
      · exact h2
    | some n =>
      have hb : bI (some n) = nI n := rfl
      rw [htl] at ih
      have htb := htl
      unfold tldn at htb
      obtain ⟨n', t1, t2⟩ := Option.bind_eq_some_iff.mp htb
      have hnl := tld_lt hT (by omega) hx he t1
      have hnb : nb σ (xg g) n = true ∧ n' = n := by
        split at t2
        · cases t2; exact ⟨by assumption, rfl⟩
        · cases t2
      have hn : n < 6 := by rw [← hnb.2]; exact hnl.1
      rw [hb]
      show _ = match (if ng g = nI n then none else fre σ (xg g) n (r + 1)) with
        | some c => some (some (va_rf (some (aC c))), Kap kk σ η)
        | none => f_Sw_idleCircuit_15 17 (fuel - r) (some (aL g)) (nI e) (nI (4 * b + 4)) (Kap kk σ η)
      have ih : f_Sw_idleCircuit_15 17 fuel (some (aL g)) (nI e) (nI (4 * b + (4 - r))) (Kap kk σ η) = match (if ng g = nI n then none else fre σ (xg g) n r) with
        | some c => some (some (va_rf (some (aC c))), Kap kk σ η)
        | none => f_Sw_idleCircuit_15 17 (fuel - r) (some (aL g)) (nI e) (nI (4 * b + 4)) (Kap kk σ η) := ih
      by_cases ce : ng g = nI n
      · rw [if_pos ce.symm, if_pos ce]
        rw [if_pos ce] at ih
        rw [← ih]
        simp only [f_Sw_idleCircuit_52, if_true, f_Sw_idleCircuit_76, hnx]
      · rw [if_neg (fun q => ce q.symm), if_neg ce]
        rw [if_neg ce] at ih
        have hcA := fl_cirAt (kk := kk) (η := η) hK hx hn hs
        rw [cR, if_pos hnb.1] at hcA
        obtain ⟨g1, g2, -⟩ := fl_x (x := xg g) hn hs
        have hff := fl_lt hx hn hs
        have hnbf : nb σ (fl (xg g) n (4 - (r + 1)) / 24) (fl (xg g) n (4 - (r + 1)) % 24 / 4) = true := by rw [g1, g2]; exact hnb.1
        have hif := fl_isFree (η := η) hK hff hnbf
        have hkc := (kF _ hff hnbf).2.2.2
        have q1 : (some (aC (fl (xg g) n (4 - (r + 1)))) = none) = False := by simp
        have hF : fre σ (xg g) n (r + 1) = if fre1 σ (fl (xg g) n (4 - (r + 1))) then some (fl (xg g) n (4 - (r + 1))) else fre σ (xg g) n r := rfl
        rw [hF]
        by_cases cf : fre1 σ (fl (xg g) n (4 - (r + 1))) = true
        · rw [if_pos cf] at hif ⊢
          simp only [f_Sw_idleCircuit_52, z10, if_false, x_gI, h4, if_true, rd_L0, x_nn, k17, i4m _ hi8, hm4, x_cR hcA, f_Sw_idleCircuit_76, q1, hkc, x_cI hif, r_R]
        · rw [if_neg cf] at hif ⊢
          rw [← ih]
          simp only [f_Sw_idleCircuit_52, z10, if_false, x_gI, h4, if_true, rd_L0, x_nn, k17, i4m _ hi8, hm4, x_cR hcA, f_Sw_idleCircuit_76, q1, hkc, x_cI hif, hnx]
theorem fl_idle {η : sn_FS} (hK : KOk kk σ) (hP : PlanOk σ) (hT : ToldOk σ) {g e len : Nat} (hg : VL σ g) (he : e < 6) (hl : lng σ g = nI len) (hlen : len < 90) : f_Sw_idleCircuit 17 (some (aL g)) (nI e) (Kap kk σ η) = some (some (va_rf (if 7 ≤ len + 1 then none else ((fk σ 50 (xg g) e g).or (fk σ 51 (xg g) e g)).map aC)), Kap kk σ η) := by
  have h4 := hK.leg hg
  have z7 : (nI (len + 1) < (7 : Int32)) ↔ len + 1 < 7 := nI_ltI (a := len + 1) (b := 7) (by omega) (by omega)
  by_cases c7 : 7 ≤ len + 1
  · have o7 : (nI (len + 1) < (7 : Int32)) = False := eq_false (fun q => by have := z7.mp q; omega)
    rw [if_pos c7]
    simp only [f_Sw_idleCircuit, x_gI, h4, if_true, rd_L11, hl, nI_1, o7, if_false, r_R]
  · have o7 : (nI (len + 1) < (7 : Int32)) = True := eq_true (z7.mpr (by omega))
    rw [if_neg c7]
    have hA := fl_id4 (η := η) hK hP hT hg he (Or.inl ⟨rfl, rfl⟩ : (0 : Nat) = 0 ∧ (50 : Nat) = 50 ∨ (0 : Nat) = 1 ∧ (50 : Nat) = 51) 4 sn_fuel (by omega) (by unfold sn_fuel; omega)
    have hB := fl_id4 (η := η) hK hP hT hg he (Or.inr ⟨rfl, rfl⟩ : (1 : Nat) = 0 ∧ (51 : Nat) = 50 ∨ (1 : Nat) = 1 ∧ (51 : Nat) = 51) 4 (sn_fuel - 4) (by omega) (by unfold sn_fuel; omega)
    have hA : f_Sw_idleCircuit_15 17 sn_fuel (some (aL g)) (nI e) 0 (Kap kk σ η) = match fk σ 50 (xg g) e g with
      | some c => some (some (va_rf (some (aC c))), Kap kk σ η)
      | none => f_Sw_idleCircuit_15 17 (sn_fuel - 4) (some (aL g)) (nI e) 4 (Kap kk σ η) := hA
    have hB : f_Sw_idleCircuit_15 17 (sn_fuel - 4) (some (aL g)) (nI e) 4 (Kap kk σ η) = match fk σ 51 (xg g) e g with
      | some c => some (some (va_rf (some (aC c))), Kap kk σ η)
      | none => f_Sw_idleCircuit_15 17 (sn_fuel - 4 - 4) (some (aL g)) (nI e) 8 (Kap kk σ η) := hB
    obtain ⟨u, hu⟩ : ∃ u, sn_fuel - 4 - 4 = u + 1 := ⟨sn_fuel - 9, by unfold sn_fuel; omega⟩
    have hC : f_Sw_idleCircuit_15 17 (sn_fuel - 4 - 4) (some (aL g)) (nI e) 8 (Kap kk σ η) = some (some (va_rf none), Kap kk σ η) := by
      rw [hu]
      have o8 : ((8 : Int32) ≤ 8) = True := eq_true (by decide)
      simp only [f_Sw_idleCircuit_15, o8, if_true, r_R]
    have hpre : f_Sw_idleCircuit 17 (some (aL g)) (nI e) (Kap kk σ η) = f_Sw_idleCircuit_15 17 sn_fuel (some (aL g)) (nI e) 0 (Kap kk σ η) := by
      simp only [f_Sw_idleCircuit, x_gI, h4, if_true, rd_L11, hl, nI_1, o7]
    rw [hpre, hA]
    cases fk σ 50 (xg g) e g with
    | some c => rfl
    | none =>
      show f_Sw_idleCircuit_15 17 (sn_fuel - 4) (some (aL g)) (nI e) 4 (Kap kk σ η) = _
      rw [hB]
      cases fk σ 51 (xg g) e g with
      | some c => rfl
      | none => exact hC
/-- both take a circuit for a leg -/
def S_ask (g c to len n : Nat) (σ : sn_FS) : sn_FS := sI (sI (sI (sI (sI (sLg (100 + c) (nI g) (sLg g (nI (100 + c)) σ)) 52 c 1) 53 c (σ.1 6 0 + 20)) 58 c (nI to)) 59 c (nI n)) 60 c (nI len)
theorem S_ask_I {g c to len n k i : Nat} (h : (k ≠ 57 ∧ k ≠ 62 ∧ k ≠ 52 ∧ k ≠ 53 ∧ k ≠ 58 ∧ k ≠ 59 ∧ k ≠ 60) ∨ (i ≠ c ∧ k ≠ 57 ∧ k ≠ 62)) : (S_ask g c to len n σ).1 k i = σ.1 k i := by
  unfold S_ask
  rcases h with h | h
  · rw [sI_ne (by omega), sI_ne (by omega), sI_ne (by omega), sI_ne (by omega), sI_ne (by omega), sLg_I (by omega), sLg_I (by omega)]
  · rw [sI_nk h.1, sI_nk h.1, sI_nk h.1, sI_nk h.1, sI_nk h.1, sLg_I h.2, sLg_I h.2]
theorem S_ask_lg {g c to len n g' : Nat} : lgv (S_ask g c to len n σ) g' = if g' = 100 + c then nI g else if g' = g then nI (100 + c) else lgv σ g' := by
  have : lgv (S_ask g c to len n σ) g' = lgv (sLg (100 + c) (nI g) (sLg g (nI (100 + c)) σ)) g' := by
    unfold S_ask
    unfold lgv
    rw [sI_ne (by decide), sI_ne (by decide), sI_ne (by decide), sI_ne (by decide), sI_ne (by decide), sI_ne (by decide), sI_ne (by decide), sI_ne (by decide), sI_ne (by decide), sI_ne (by decide)]
  rw [this, lgv_sLg, lgv_sLg]
theorem ct_ask (hB : Cb kk σ) (hI : CI σ) {g c to len : Nat} (hg : VL σ g) (hlg : lgv σ g = -1) (hin : inC σ g) (hc : c < 144) (hx : c / 24 = xg g) (hnb : nb σ (c / 24) (c % 24 / 4) = true) (h0 : σ.1 52 c = 0) (hto : numOk to) (hlen : len ≤ 6) (hll : lng σ g + 1 = nI len) : ∃ σ' new, Ct kk (gTk g len to c) (c_V (f_Sw_join (some (aL g)) (some (aC c))) (g_I 4 11 (some (aL g)) fun v2 => n_n 7 (some 17) fun a3 => c_V (f_Sw_ask a3 (some (aC c)) (nI to) (v2 + (1 : Int32))) (r_V))) none 1 σ σ' new ∧ Cf σ σ' g := by
  obtain ⟨hK, hG, hT⟩ := hB
  have hKo := hK
  obtain ⟨⟨k1, k2, k3, k4, k5, k6, k7, k8, k9, k10, k11, k12, k13, k14, k15, k16, k17, k18, k19, k20, k21, k22⟩, kE, kF, kP, k4s⟩ := id hK
  obtain ⟨f1, f2, f3, f4⟩ := kF c hc hnb
  have h4 := hKo.leg hg
  have hV := hg.vn
  have d58 : c < md_len 58 := hc
  have d59 : c < md_len 59 := hc
  have d60 : c < md_len 60 := hc
  obtain ⟨a1, ⟨n, hn64, en⟩, a3, a4, a5, a6, a7, a8, a9, a10, a11⟩ := hI.2.1 c hc
  obtain ⟨b57, b58, b60⟩ := a6 (Or.inl h0)
  have e54 : σ.1 54 c = 0 := by
    by_cases z : σ.1 54 c = 0
    · exact z
    · have := a7 z; rw [h0] at this; exact absurd this (by decide)
  obtain ⟨n', hn'⟩ : ∃ n', n' = (n + 1) % 64 := ⟨_, rfl⟩
  have hn'64 : n' < 64 := by omega
  have hVc : VL σ (100 + c) := Or.inr ⟨by omega, by omega, by rw [Nat.add_sub_cancel_left]; exact hnb⟩
  have haL : aL (100 + c) = aC c := by unfold aL; rw [if_pos (by omega), Nat.add_sub_cancel_left]
  have hne : g ≠ 100 + c := fun q => by
    have := (hin.2 (by omega)).1
    rw [q, Nat.add_sub_cancel_left] at this
    exact this h0
  have hlc : lgv σ (100 + c) = -1 := by rw [lgv_57]; exact b57
  have hxg : xg g = xg (100 + c) := by rw [← hx]; unfold xg; rw [if_pos (by omega), Nat.add_sub_cancel_left]
  have hcfJ : CF σ (sLg (100 + c) (nI g) (sLg g (nI (100 + c)) σ)) := CF.rf.sLg.sLg
  have hcf : CF σ (S_ask g c to len n' σ) := (((((hcfJ.sI (k := 52) (by decide)).sI (k := 53) (by decide)).sI (k := 58) (by decide)).sI (k := 59) (by decide)).sI (k := 60) (by decide))
  have hb : to + 64 * len < 65536 := by unfold numOk at hto; omega
  have hJ : JOk (S_ask g c to len n' σ) := by
    have hj := join_J hI.1 hg hVc hne hxg hlg hlc
    refine hj.mk' ?_ (fun g' => ?_)
    · exact ((((CF.rf.sI (k := 52) (by decide)).sI (k := 53) (by decide)).sI (k := 58) (by decide)).sI (k := 59) (by decide)).sI (k := 60) (by decide)
    · rw [S_ask_lg, lgv_sLg, lgv_sLg]
  have t52 : (S_ask g c to len n' σ).1 52 c = 1 := by unfold S_ask; simp only [sn_upE, Nat.reduceEqDiff, reduceIte]
  have t53 : (S_ask g c to len n' σ).1 53 c = σ.1 6 0 + 20 := by unfold S_ask; simp only [sn_upE, Nat.reduceEqDiff, reduceIte]
  have t58 : (S_ask g c to len n' σ).1 58 c = nI to := by unfold S_ask; simp only [sn_upE, Nat.reduceEqDiff, reduceIte]
  have t59 : (S_ask g c to len n' σ).1 59 c = nI n' := by unfold S_ask; simp only [sn_upE, Nat.reduceEqDiff, reduceIte]
  have t60 : (S_ask g c to len n' σ).1 60 c = nI len := by unfold S_ask; simp only [sn_upE, Nat.reduceEqDiff, reduceIte]
  have hCI : CI (S_ask g c to len n' σ) := by
    refine ⟨hJ, fun c' hc' => ?_, fun p hp => ?_⟩
    · by_cases e : c' = c
      · subst e
        unfold C1
        rw [t52, t53, t58, t59, t60, S_ask_I (k := 54) (Or.inl (by decide)), S_ask_I (k := 55) (Or.inl (by decide)), S_ask_I (k := 56) (Or.inl (by decide)), hcf.sp.nbE]
        refine ⟨⟨1, by omega, rfl⟩, ⟨n', hn'64, rfl⟩, ⟨len, hlen, rfl⟩, Or.inr ⟨to, hto, rfl⟩, fun _ => nI_m1 (by unfold numOk at hto; omega), fun q => ?_, fun q => absurd e54 q, fun _ => Or.inl rfl, a9, a10, fun q => ?_⟩
        · rcases q with q | q <;> exact absurd q (by decide)
        · rw [hnb] at q; cases q
      · refine (hI.2.1 c' hc').mk' hcf (fun k _ _ _ => S_ask_I (Or.inr ⟨e, by omega, by omega⟩)) ?_
        have := S_ask_lg (σ := σ) (g := g) (c := c) (to := to) (len := len) (n := n') (g' := 100 + c')
        rw [lgv_57, lgv_57, if_neg (by omega)] at this
        rw [this]
        by_cases eg : 100 + c' = g
        · right; right
          have := hin.2 (by omega)
          rw [← eg, Nat.add_sub_cancel_left] at this
          exact this
        · rw [if_neg eg]; exact Or.inl rfl
    · refine (hI.2.2 p hp).mk' (S_ask_I (Or.inl (by decide))) ?_
      have := S_ask_lg (σ := σ) (g := g) (c := c) (to := to) (len := len) (n := n') (g' := p)
      rw [lgv_62 hp, lgv_62 hp, if_neg (by omega)] at this
      rw [this]
      by_cases eg : p = g
      · right; right
        rw [eg]
        exact hin.1 (by omega)
      · rw [if_neg eg]; exact Or.inl rfl
  have hts : TS σ (S_ask g c to len n' σ) := by
    refine ⟨S_ask_I (Or.inl (by decide)), fun k i hk => ?_⟩
    by_cases c3 : k = 53 ∧ i = c
    · obtain ⟨rfl, rfl⟩ := c3
      exact Or.inr (Or.inr ⟨20, by omega, by omega, t53⟩)
    · left
      have := tm_of hk
      by_cases ci : i = c
      · exact S_ask_I (Or.inl (by
          have : k ≠ 53 := fun q => c3 ⟨q, ci⟩
          omega))
      · exact S_ask_I (Or.inr ⟨ci, by omega, by omega⟩)
  have e64 : nI to + ((64 : Int32) * nI len) = nI (to + 64 * len) := by
    have : (64 : Int32) * nI len = nI (64 * len) := pk_mul 64 len
    rw [this, nI_add]
  have hst52 : st σ (100 + c) = 0 := by unfold st; rw [if_pos (by omega), Nat.add_sub_cancel_left]; exact h0
  refine ⟨S_ask g c to len n' σ, [mS 7 c n' (to + 64 * len)], ⟨fun ms => ?_, fun η ms hP hl' => ?_, by simp, fun m hm => ?_, hcf, hts, hCI⟩, fun g' hv' hne' hs0 => ?_⟩
  · have hjn := gl_join (σ := σ) hV hVc.vn ms
    have h100 : (100 : Int32) + nI c = nI (100 + c) := nI_add 100 c
    have hbc := gl_becomes (σ := sLg (100 + c) (nI g) (sLg g (nI (100 + c)) σ)) (s := 1) (n := 20) (l := 0) hc (by decide) (by decide) (by decide) ms
    have hbc : g_Md_becomes (nI c) 1 20 0 _ = _ := hbc
    have hS : S_bec c 1 20 0 (sLg (100 + c) (nI g) (sLg g (nI (100 + c)) σ)) = sI (sI (sLg (100 + c) (nI g) (sLg g (nI (100 + c)) σ)) 52 c 1) 53 c (σ.1 6 0 + 20) := by
      unfold S_bec tmv
      rw [if_neg (by decide), if_neg (by decide), if_pos rfl, sLg_I (by decide), sLg_I (by decide)]
      rw [sI_id (k := 54) (by rw [sI_ne (by decide), sI_ne (by decide), sLg_I (by decide), sLg_I (by decide)]; exact e54)]
      rfl
    rw [hS] at hbc
    have r59 : (sI (sI (sI (sLg (100 + c) (nI g) (sLg g (nI (100 + c)) σ)) 52 c 1) 53 c (σ.1 6 0 + 20)) 58 c (nI to)).1 59 c = nI n := by rw [sI_ne (by decide), sI_ne (by decide), sI_ne (by decide), sLg_I (by decide), sLg_I (by decide)]; exact en
    have hsy := gl_say (σ := S_ask g c to len n' σ) (kd := 7) (b := to + 64 * len) (hcf.gv hG) (hcf.told hT) (by decide) hc hn'64 t59 hb ms
    have hsy : g_Md_say (nI c) 7 (nI (to + 64 * len)) _ = _ := hsy
    unfold gTk
    rw [h100, y_V_at hjn, y_V_at hbc, wRt d58 (by decide), qR d59 (by decide), r59, a63 n hn64, ← hn', wRt d59 (by decide), wRt d60 (by decide), e64]
    show y_V (g_Md_say (nI c) 7 (nI (to + 64 * len))) z_V (Rt ms (S_ask g c to len n' σ)) = _
    rw [y_V_at hsy]; rfl
  · obtain ⟨θ, t1, t2, t3⟩ := fl_post (kk := kk) (η := η) (σ := S_ask g c to len n' σ) (hKo.sp hcf.sp) (kd := 7) (b := to + 64 * len) (by decide) hc hn'64 hb (by rw [hcf.sp.nbE]; exact hnb) hP (by omega)
    have t1 : f_Sw_post 17 (some (aC c)) 7 (nI n') (nI (to + 64 * len)) _ = _ := t1
    refine ⟨θ, ?_, t2, t3⟩
    have hjn := fl_join (kk := kk) (η := η) hKo hg hVc
    rw [haL] at hjn
    have hlg2 : lng (sLg (100 + c) (nI g) (sLg g (nI (100 + c)) σ)) g + 1 = nI len := by
      have : lng (sLg (100 + c) (nI g) (sLg g (nI (100 + c)) σ)) g = lng σ g := by unfold lng; rw [sLg_I (by decide), sLg_I (by decide)]
      rw [this]; exact hll
    have hL6 : (sLg (100 + c) (nI g) (sLg g (nI (100 + c)) σ)).1 6 0 = σ.1 6 0 := by rw [sLg_I (by decide), sLg_I (by decide)]
    have r59 : (sLg (100 + c) (nI g) (sLg g (nI (100 + c)) σ)).1 59 c = nI n := by rw [sLg_I (by decide), sLg_I (by decide)]; exact en
    have hfin : sI (sI (sI (sI (sI (sLg (100 + c) (nI g) (sLg g (nI (100 + c)) σ)) 52 c 1) 53 c (σ.1 6 0 + 20)) 58 c (nI to)) 60 c (nI len)) 59 c (nI n') = S_ask g c to len n' σ := by
      unfold S_ask
      rw [sI_sw (k := 60) (k' := 59) (by decide)]
    have hask : f_Sw_ask 17 (some (aC c)) (nI to) (nI len) (Kap kk (sLg (100 + c) (nI g) (sLg g (nI (100 + c)) σ)) η) = some (none, Kap kk (S_ask g c to len n' σ) θ) := by
      have hr64 : (nI n + 1) % (64 : Int32) = nI n' := by rw [hn']; exact r64 n hn64
      simp only [f_Sw_ask, x_pI, f4, if_true, wr_C3, x_gR, k17, rr_s17_1, x_nn, k2, x_after k2, sn_upE, Nat.reduceEqDiff, reduceIte, hL6, wr_C5, wr_C9, wr_C11, x_gI, rd_C10, r59, hr64, wr_C10, hfin, t59, e64, x_cV t1, r_V]
    simp only [x_cV hjn, x_gI, h4, if_true, rd_L11, hlg2, x_nn, k17, x_cV hask, r_V]
  · simp at hm
    subst hm
    refine mS_mv (by omega) (by omega) hc hn'64 hb hnb (fun _ => ?_)
    unfold numOk at *
    omega
  · have hne2 : g' ≠ 100 + c := fun q => by rw [q] at hs0; exact hs0 hst52
    refine ⟨by rw [S_ask_lg, if_neg hne2, if_neg hne'], ?_⟩
    unfold st
    by_cases cg : 100 ≤ g'
    · rw [if_pos cg, if_pos cg, S_ask_I (Or.inr ⟨by omega, by decide, by decide⟩)]
    · rw [if_neg cg, if_neg cg, S_ask_I (Or.inl (by decide))]
