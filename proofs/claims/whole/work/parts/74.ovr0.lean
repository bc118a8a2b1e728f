/-! LAYER 2: giving again what was on a link that failed -/
def S_ag (x n : Nat) (m : Msg) (σ : sn_FS) : sn_FS := if mK m = 3 ∨ mK m = 4 then σ else if opb σ x n (mL m) = true then S_give x n (mL m) (wR m) σ else if 7 ≤ mK m then S_route x (mT m) (mL m) (wR m) none σ else S_lost σ
def S_ags (x n : Nat) : List Msg → sn_FS → sn_FS
  | [], σ => σ
  | m :: ms, σ => S_ags x n ms (S_ag x n m σ)
theorem S_ags_app {x n : Nat} : ∀ (a b : List Msg) (σ : sn_FS), S_ags x n (a ++ b) σ = S_ags x n b (S_ags x n a σ)
  | [], b, σ => rfl
  | m :: a, b, σ => S_ags_app a b _
theorem S_ag_I {x n k i : Nat} {m : Msg} (σ : sn_FS) (h : k ≠ 7 ∧ k ≠ 29 ∧ k ≠ 47) : (S_ag x n m σ).1 k i = σ.1 k i := by
  unfold S_ag
  split
  · rfl
  · split
    · exact S_give_I σ h
    · split
      · exact S_route_I σ h
      · exact S_lost_I σ h.1
theorem S_ags_I {x n k i : Nat} (h : k ≠ 7 ∧ k ≠ 29 ∧ k ≠ 47) : ∀ (ms : List Msg) (σ : sn_FS), (S_ags x n ms σ).1 k i = σ.1 k i
  | [], σ => rfl
  | m :: ms, σ => (S_ags_I h ms _).trans (S_ag_I σ h)
theorem S_ag_SP {x n : Nat} {m : Msg} (σ : sn_FS) : SP σ (S_ag x n m σ) := ⟨fun i => S_ag_I σ (by decide), fun i => S_ag_I σ (by decide), fun i => S_ag_I σ (by decide)⟩
theorem S_ags_SP {x n : Nat} (ms : List Msg) (σ : sn_FS) : SP σ (S_ags x n ms σ) := ⟨fun i => S_ags_I (by decide) ms σ, fun i => S_ags_I (by decide) ms σ, fun i => S_ags_I (by decide) ms σ⟩
theorem S_ag_Gv {x n : Nat} {m : Msg} {σ : sn_FS} (h : GvOk σ) : GvOk (S_ag x n m σ) := by
  unfold S_ag
  split
  · exact h
  · split
    · exact S_give_Gv h
    · split
      · exact S_route_Gv h
      · exact S_lost_Gv h
theorem S_ags_Gv {x n : Nat} : ∀ (ms : List Msg) {σ : sn_FS}, GvOk σ → GvOk (S_ags x n ms σ)
  | [], σ, h => h
  | m :: ms, σ, h => S_ags_Gv ms (S_ag_Gv h)
theorem QC_ag {σ : sn_FS} (hw : WI σ) {x n : Nat} {m : Msg} (hx : x < 6) (hn : n < 6) (hm : MOk m) : QC σ (S_ag x n m σ) := by
  obtain ⟨q1, q2, q3, q4, q5, q6, q7⟩ := hm
  unfold S_ag
  split
  · exact QC.rf
  · split
    · rename_i ho; exact QC_give hw hx hn q4 ho _
    · split
      · exact QC_route hw hx q3 q4 _
      · exact QC_lost
theorem QC_ags {x n : Nat} (hx : x < 6) (hn : n < 6) : ∀ (ms : List Msg) (σ : sn_FS), WI σ → (∀ m ∈ ms, MOk m) → QC σ (S_ags x n ms σ)
  | [], σ, _, _ => QC.rf
  | m :: ms, σ, hw, hm => by
    have h1 := QC_ag hw hx hn (hm m List.mem_cons_self)
    exact h1.tr (QC_ags hx hn ms _ (h1.wi hw) (fun m' h => hm m' (List.mem_cons_of_mem _ h)))
/-- the reference gives again -/
theorem S_give_J {σ : sn_FS} {x n s k i : Nat} {m : Int64} (h : k ≠ 28 ∧ k ≠ 46) : (S_give x n s m σ).2 k i = σ.2 k i := by
  unfold S_give S_wait S_lost
  split
  · split
    · rfl
    · exact sn_up_ne _ _ _ _ h.1
  · split
    · rfl
    · exact sn_up_ne _ _ _ _ h.2
theorem S_ag_J {σ : sn_FS} {x n k i : Nat} {m : Msg} (h : k ≠ 28 ∧ k ≠ 46) : (S_ag x n m σ).2 k i = σ.2 k i := by
  unfold S_ag
  split
  · rfl
  · split
    · exact S_give_J h
    · split
      · unfold S_route
        split
        · exact S_give_J h
        · rfl
      · rfl
theorem gl_again {x n : Nat} (hx : x < 6) (hn : n < 6) : ∀ (ms : List Msg) (fuel c : Nat) (σ : sn_FS), ms.length < fuel → c + ms.length ≤ 400 → GvOk σ → ToldOk σ → (∀ m ∈ ms, MOk m) → (∀ j (h : j < ms.length), σ.2 63 (c + j) = wR ms[j]) → g_Md_overEnds_346 fuel (nI x) (nI n) (nI (c + ms.length)) (nI c) σ = some (none, S_look x (S_ags x n ms σ))
  | [], fuel + 1, c, σ, _, hc, hG, hT, _, _ => by
    have e1 : (nI (c + ([] : List Msg).length) ≤ nI c) = True := eq_true (nI_le (by simp) (by simp at hc ⊢; omega))
    simp only [g_Md_overEnds_346, e1, if_true, y_V_at (gl_look hG hT hx), z_V, S_ags]
  | m :: ms, fuel + 1, c, σ, hf, hc, hG, hT, hm, hmv => by
    simp only [List.length_cons] at hf hc
    have e0 : c + (m :: ms).length = c + 1 + ms.length := by simp only [List.length_cons]; omega
    have e1 : (nI (c + (m :: ms).length) ≤ nI c) = False := eq_false (nI_ge (by simp only [List.length_cons]; omega) (by simp only [List.length_cons]; omega))
    have d63 : c < md_len 63 := by show c < 400; omega
    have hw : σ.2 63 c = wR m := hmv 0 (by simp)
    have hmo := hm m List.mem_cons_self
    obtain ⟨q1, q2, q3, q4, q5, q6, q7⟩ := id hmo
    have ih := gl_again hx hn ms fuel (c + 1) (S_ag x n m σ) (by omega) (by omega) (S_ag_Gv hG) (hT.mk' (fun i => S_ag_I σ (by decide)) (fun i => S_ag_I σ (by decide))) (fun m' h => hm m' (List.mem_cons_of_mem _ h)) (fun j h => by
      rw [S_ag_J (by decide), show c + 1 + j = c + (j + 1) by omega]
      exact hmv (j + 1) (by simp only [List.length_cons]; omega))
    have o3 : (nI (mK m) = (3 : Int32)) ↔ mK m = 3 := nI_eq (b := 3) (by omega) (by omega)
    have o4 : (nI (mK m) = (4 : Int32)) ↔ mK m = 4 := nI_eq (b := 4) (by omega) (by omega)
    have o7 : (nI (mK m) < (7 : Int32)) ↔ mK m < 7 := nI_ltI (b := 7) (by omega) (by omega)
    have hS : S_ags x n (m :: ms) σ = S_ags x n ms (S_ag x n m σ) := rfl
    rw [e0] at e1 ⊢
    rw [hS, ← ih]
    simp only [g_Md_overEnds_346, e1, if_false, q_J_at d63, hw, y_I_at (gl_kindOf hmo σ), o3, o4, y_ite, y_I_at (gl_flowOf hmo σ), y_I_at (gl_opb σ hx hn q4), o7, g_Md_overEnds_451, nI_1]
    unfold S_ag
    by_cases c3 : mK m = 3
    · simp only [c3, true_or, if_true]
    · by_cases c4 : mK m = 4
      · simp only [c4, or_true, if_true, not_true_eq_false, if_false]
        simp
      · simp only [c3, c4, or_self, if_false, not_false_eq_true, if_true]
        have o1 : ((1 : Int32) = 0) = False := eq_false (by decide)
        by_cases co : opb σ x n (mL m) = true
        · simp only [co, if_true, o1, if_false, y_V_at (gl_give hG hx hn q4 (opb_iff.mp co))]
        · simp only [co, Bool.false_eq_true, if_false, if_true]
          by_cases c7 : mK m < 7
          · have : ¬ 7 ≤ mK m := by omega
            simp only [c7, if_true, this, if_false, q_S, w_S, S_lost]
          · have : 7 ≤ mK m := by omega
            have hr : g_Md_route (nI x) (nI (mT m)) (wR m) (-1) σ = some (none, S_route x (mT m) (mL m) (wR m) none σ) := gl_route hG hT hmo (but := none) (fun a e => by cases e) hx q3
            simp only [c7, if_false, this, if_true, y_I_at (gl_toOf hmo σ), y_V_at hr]
/-- the class gives again -/
def S_pop (t i : Nat) (σ : sn_FS) : sn_FS := (sn_up σ.1 (sk t) i (nI (cl σ (sk t) i - 1)), fun k p => if k = jk t ∧ cp t * i ≤ p ∧ p < cp t * i + cp t then σ.2 (jk t) (p + 1) else σ.2 k p)
theorem S_pop_I {t i k j : Nat} (σ : sn_FS) (h : k ≠ sk t) : (S_pop t i σ).1 k j = σ.1 k j := sn_up_ne _ _ _ _ h
theorem S_pop_SP {t i : Nat} (ht : t < 3) (σ : sn_FS) : SP σ (S_pop t i σ) := by
  have : sk t ≠ 0 ∧ sk t ≠ 1 ∧ sk t ≠ 4 := by rcases t3 ht with rfl | rfl | rfl <;> decide
  exact ⟨fun i => S_pop_I σ (Ne.symm this.1), fun i => S_pop_I σ (Ne.symm this.2.1), fun i => S_pop_I σ (Ne.symm this.2.2)⟩
section Again
variable {kk : Nat → Nat} {σ η : sn_FS}
theorem fl_pop (hK : KOk kk σ) (hH : HR σ η) {t i r : Nat} (ht : t < 3) (hi : exT σ t i) (hn : σ.1 (sk t) i = nI (r + 1)) (hr : r + 1 ≤ cp t) {m : Msg} (hm : MOk m) (hmw : σ.2 (jk t) (cp t * i) = wR m) : Run kk (f_Qu_takeFirst (qA t i)) σ η (some (.long (wC m))) (S_pop t i σ) := by
  have hcp := cp_le t
  obtain ⟨hd, hR⟩ := hH.1 t ht i hi
  have hq := fl_take (QH_of hK ht hi hR hn hr) (by omega)
  rw [qw ht] at hq
  have hcl := cl_n hn (by omega)
  have hw : η.2 (rA t i) hd = wC m := by
    obtain ⟨q1, q0, q2, q3⟩ := hR
    obtain ⟨m', m1, m2, m3⟩ := q3 0 (by rw [hcl]; omega)
    rw [Nat.add_zero, Nat.mod_eq_of_lt q1] at m3
    rw [m3]
    have h2 : wR m' = wR m := by rw [← m2, ← hmw]; rfl
    have h3 : eR m' = eR m := by
      have a1 := eR_lt m1.1
      have a2 := eR_lt hm
      unfold wR at h2
      have h5 := congrArg (fun z : Int64 => z.toBitVec.toNat) h2
      simp only [wb_tn (show eR m' < 2 ^ 64 by omega), wb_tn (show eR m < 2 ^ 64 by omega)] at h5
      exact h5
    have h4 : m' = m := by
      obtain ⟨u1, u2, u3, u4, u5, u6, u7⟩ := m1.1
      obtain ⟨v1, v2, v3, v4, v5, v6, v7⟩ := hm
      unfold eR at h3
      obtain ⟨x1, x2, x3, x4, x5, x6, x7⟩ := m'
      obtain ⟨y1, y2, y3, y4, y5, y6, y7⟩ := m
      simp only [mK, mF, mT, mL, mA, mB, mH] at *
      have : x1 = y1 ∧ x2 = y2 ∧ x3 = y3 ∧ x4 = y4 ∧ x5 = y5 ∧ x6 = y6 ∧ x7 = y7 := by omega
      obtain ⟨rfl, rfl, rfl, rfl, rfl, rfl, rfl⟩ := this
      rfl
    rw [h4]
  have hs := S_pop_SP (i := i) ht σ
  have c1 : cl (S_pop t i σ) (sk t) i = r := by
    unfold cl S_pop
    show (sn_up σ.1 (sk t) i _ (sk t) i).toNatClampNeg = r
    rw [sn_up_same, hcl, nI_clamp (by omega)]; omega
  have hsk : ∀ k, k ≠ 27 → k ≠ 29 → k ≠ 47 → k ≠ sk t := fun k a b c => Ne.symm (sk_out ht ⟨a, b, c⟩)
  have hjk : jk t ≠ 35 := by rcases t3 ht with rfl | rfl | rfl <;> decide
  refine ⟨sI η (qA t i) 1 (nI ((hd + 1) % cp t)), ?_, ⟨hH.1.drop hs ht hi hR (by rw [c1, hcl]; exact Nat.le_refl _) (fun j hj => ?_) (fun t' ht' i' hi' hne => ?_), hH.2.1.mk' hs (fun k i h1 h2 => S_pop_I σ (hsk _ (by omega) (by omega) (by omega))) (fun i' => ?_) (fun e j => ⟨sI_ne (aU_q ht).2.1, rfl⟩), hH.2.2.mk' hs (fun i' => ?_) (fun i' => S_pop_I σ (hsk _ (by decide) (by decide) (by decide))) (fun e => sI_ne (aU_q ht).2.2.1)⟩, ⟨fun j => sI_ne (Ne.symm (aU_q (e := 0) ht).2.2.2.1), fun j => rfl⟩⟩
  · rw [hq, hw]
    have : (r + 1 - 1) = cl σ (sk t) i - 1 := by rw [hcl]
    rw [this]
    rfl
  · rw [c1] at hj
    show (if jk t = jk t ∧ cp t * i ≤ cp t * i + j ∧ cp t * i + j < cp t * i + cp t then σ.2 (jk t) (cp t * i + j + 1) else _) = _
    rw [if_pos ⟨rfl, by omega, by omega⟩, Nat.add_assoc]
  · by_cases ee : t' = t
    · subst ee
      have hie : i' ≠ i := fun q => hne ⟨rfl, q⟩
      refine ⟨congrArg Int32.toNatClampNeg (sn_up_nk _ _ _ _ hie), fun j hj => ?_⟩
      obtain ⟨hd', q1, q0, q2, q3⟩ := hH.1 t' ht' i' hi'
      show (if jk t' = jk t' ∧ cp t' * i ≤ cp t' * i' + j ∧ cp t' * i' + j < cp t' * i + cp t' then _ else σ.2 (jk t') (cp t' * i' + j)) = _
      rw [if_neg]
      rintro ⟨-, h1, h2⟩
      rcases Nat.lt_or_gt_of_ne hie with g | g
      · have : cp t' * i' + cp t' ≤ cp t' * i := by rw [← Nat.mul_succ]; exact Nat.mul_le_mul_left _ g
        omega
      · have : cp t' * i + cp t' ≤ cp t' * i' := by rw [← Nat.mul_succ]; exact Nat.mul_le_mul_left _ g
        omega
    · refine ⟨congrArg Int32.toNatClampNeg (sn_up_ne _ _ _ _ (fun e => ee (sk_inj ht' ht e))), fun j hj => ?_⟩
      show (if jk t' = jk t ∧ _ then _ else σ.2 (jk t') (cp t' * i' + j)) = _
      rw [if_neg (fun q => ee (jk_inj ht' ht q.1))]
  · show (if 35 = jk t ∧ _ then _ else σ.2 35 i') = _
    rw [if_neg (fun q => hjk q.1.symm)]
  · rw [S_pop_I σ (hsk _ (by decide) (by decide) (by decide))]; exact id
theorem nI_dec (r : Nat) : nI (r + 1) + (-1) = nI r := by
  have : nI (r + 1) = nI r + 1 := (nI_1 r).symm
  rw [this]; generalize nI r = a; grind
/-- one message, after it was taken -/
theorem fl_ag (hK : KOk kk σ) (hH : HR σ η) (hG : GvOk σ) (hT : ToldOk σ) {e t i fuel r : Nat} {m : Msg} (hm : MV σ m) (he : e < 2 * nl σ) : ∃ θ, (c_I (f_Ms_kind (wC m)) fun v5 => (if v5 = (3 : Int32) then f_Tr_giveAgain_106 (f_Tr_giveAgain_5 11 fuel) 11 (some (aE e)) (some (qA t i)) (nI (r + 1)) else (if ¬ v5 = (4 : Int32) then c_I (f_Ms_lane (wC m)) fun v6 => g_I 2 2 (some (aE e)) fun v7 => g_I 2 3 (some (aE e)) fun v8 => n_n 8 (some 11) fun a9 => c_R (f_Tr_flowTo a9 v7 v8 v6) fun v10 => (if v5 < (7 : Int32) then f_Tr_giveAgain_98 (f_Tr_giveAgain_5 11 fuel) 11 (some (aE e)) (some (qA t i)) (nI (r + 1)) (wC m) v10 else (if v10 = none then f_Tr_giveAgain_98 (f_Tr_giveAgain_5 11 fuel) 11 (some (aE e)) (some (qA t i)) (nI (r + 1)) (wC m) v10 else n_n 3 v10 fun a11 => c_I (f_Fl_isOpen a11) fun v12 => (if ¬ v12 = 0 then f_Tr_giveAgain_98 (f_Tr_giveAgain_5 11 fuel) 11 (some (aE e)) (some (qA t i)) (nI (r + 1)) (wC m) v10 else g_I 2 2 (some (aE e)) fun v13 => c_I (f_Ms_to (wC m)) fun v14 => n_n 8 (some 11) fun a15 => c_R (f_Tr_wayTo a15 v13 v14 v6 (-1 : Int32)) fun v16 => f_Tr_giveAgain_98 (f_Tr_giveAgain_5 11 fuel) 11 (some (aE e)) (some (qA t i)) (nI (r + 1)) (wC m) v16))) else f_Tr_giveAgain_106 (f_Tr_giveAgain_5 11 fuel) 11 (some (aE e)) (some (qA t i)) (nI (r + 1))))) (Kap kk σ η) = f_Tr_giveAgain_5 11 fuel (some (aE e)) (some (qA t i)) (nI r) (Kap kk (S_ag (ex σ e) (ot σ e) m σ) θ) ∧ HR (S_ag (ex σ e) (ot σ e) m σ) θ ∧ PE η θ := by
  obtain ⟨⟨k1, k2, k3, k4, k5, k6, k7, k8, k9, k10, k11, k12, k13, k14, k15, k16, k17, k18, k19, k20, k21, k22⟩, kE, kF, kP, k4s⟩ := id hK
  obtain ⟨e1, e2, e3, e4, e5, e6, e7⟩ := kE e he
  obtain ⟨x1, x2, x3⟩ := hG.1.ex_lt he
  obtain ⟨q1, q2, q3, q4, q5, q6, q7⟩ := id hm.1
  have hnb := nb_end hG.1 he
  obtain ⟨f1, f2, f3, f4⟩ := hK.flow x1 x2 q4 hnb
  have hfl : f_Tr_flowTo 11 (nI (ex σ e)) (nI (ot σ e)) (nI (mL m)) (Kap kk σ η) = some (some (va_rf (some (aF (fl (ex σ e) (ot σ e) (mL m))))), Kap kk σ η) := by rw [fl_flowTo hK x1 x2 q4, fR, if_pos hnb]
  have o0 : (some (aF (fl (ex σ e) (ot σ e) (mL m))) = none) = False := by simp
  have o1 : ((1 : Int32) = 0) = False := eq_false (by decide)
  have o3 : (nI (mK m) = (3 : Int32)) ↔ mK m = 3 := nI_eq (b := 3) (by omega) (by omega)
  have o4 : (nI (mK m) = (4 : Int32)) ↔ mK m = 4 := nI_eq (b := 4) (by omega) (by omega)
  have o7 : (nI (mK m) < (7 : Int32)) ↔ mK m < 7 := nI_ltI (b := 7) (by omega) (by omega)
  by_cases c3 : mK m = 3
  · have hS : S_ag (ex σ e) (ot σ e) m σ = σ := by unfold S_ag; rw [if_pos (Or.inl c3)]
    rw [hS]
    refine ⟨η, ?_, hH, PE.rf⟩
    have o3t : (nI (mK m) = (3 : Int32)) = True := eq_true (o3.mpr c3)
    simp only [x_ite, x_cI (fl_kind hm.1 _), o3t, if_true, f_Tr_giveAgain_106, nI_dec]
  by_cases c4 : mK m = 4
  · have hS : S_ag (ex σ e) (ot σ e) m σ = σ := by unfold S_ag; rw [if_pos (Or.inr c4)]
    rw [hS]
    refine ⟨η, ?_, hH, PE.rf⟩
    have o3t : (nI (mK m) = (3 : Int32)) = False := eq_false (fun q => c3 (o3.mp q))
    have o4t : (nI (mK m) = (4 : Int32)) = True := eq_true (o4.mpr c4)
    simp only [x_ite, x_cI (fl_kind hm.1 _), o3t, if_false, o4t, not_true_eq_false, f_Tr_giveAgain_106, nI_dec]
  by_cases co : opb σ (ex σ e) (ot σ e) (mL m) = true
  · have hS : S_ag (ex σ e) (ot σ e) m σ = S_give (ex σ e) (ot σ e) (mL m) (wR m) σ := by unfold S_ag; rw [if_neg (by omega), if_pos co]
    rw [hS]
    obtain ⟨θ, a1, a2, a3⟩ := fl_give hK hH hG x1 x2 q4 hnb co hm
    refine ⟨θ, ?_, a2, a3⟩
    have hio := fl_isOpen (η := η) hK x1 x2 q4 hnb
    rw [if_pos co] at hio
    by_cases c7 : mK m < 7
    · simp only [x_ite, x_cI (fl_kind hm.1 _), o3, c3, if_false, o4, c4, not_false_eq_true, if_true, x_cI (fl_lane hm.1 _), x_gI, e1, rd_E2, rd_E3, x_nn, k11, x_cR hfl, o7, c7, f_Tr_giveAgain_98, x_cV a1, f_Tr_giveAgain_106, nI_dec]
    · simp only [x_ite, x_cI (fl_kind hm.1 _), o3, c3, if_false, o4, c4, not_false_eq_true, if_true, x_cI (fl_lane hm.1 _), x_gI, e1, rd_E2, rd_E3, x_nn, k11, x_cR hfl, o7, c7, o0, f1, x_cI hio, o1, f_Tr_giveAgain_98, x_cV a1, f_Tr_giveAgain_106, nI_dec]
  · have hio := fl_isOpen (η := η) hK x1 x2 q4 hnb
    rw [if_neg co] at hio
    by_cases c7 : mK m < 7
    · have hS : S_ag (ex σ e) (ot σ e) m σ = S_lost σ := by unfold S_ag; rw [if_neg (by omega), if_neg co, if_neg (by omega)]
      rw [hS]
      obtain ⟨θ, a1, a2, a3⟩ := fl_give_closed hK hH x1 x2 q4 hnb (by simpa using co) (wC m)
      refine ⟨θ, ?_, a2, a3⟩
      simp only [x_ite, x_cI (fl_kind hm.1 _), o3, c3, if_false, o4, c4, not_false_eq_true, if_true, x_cI (fl_lane hm.1 _), x_gI, e1, rd_E2, rd_E3, x_nn, k11, x_cR hfl, o7, c7, f_Tr_giveAgain_98, x_cV a1, f_Tr_giveAgain_106, nI_dec]
    · have hS : S_ag (ex σ e) (ot σ e) m σ = S_route (ex σ e) (mT m) (mL m) (wR m) none σ := by unfold S_ag; rw [if_neg (by omega), if_neg co, if_pos (by omega)]
      rw [hS]
      have hway : f_Tr_wayTo 11 (nI (ex σ e)) (nI (mT m)) (nI (mL m)) (-1) (Kap kk σ η) = _ := fl_wayTo (η := η) hK hG.1 hT x1 q3 q4 (but := none) (fun a e => by cases e)
      obtain ⟨θ, a1, a2, a3⟩ := fl_giveWay hK hH hG hT x1 q3 q4 (but := none) hm
      refine ⟨θ, ?_, a2, a3⟩
      simp only [x_ite, x_cI (fl_kind hm.1 _), o3, c3, if_false, o4, c4, not_false_eq_true, if_true, x_cI (fl_lane hm.1 _), x_gI, e1, rd_E2, rd_E3, x_nn, k11, x_cR hfl, o7, c7, o0, f1, x_cI hio, not_true_eq_false, x_cI (fl_to hm.1 _), x_cR hway, f_Tr_giveAgain_98, x_cV a1, f_Tr_giveAgain_106, nI_dec]
end Again
