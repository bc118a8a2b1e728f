/-! LAYER 2, the class: the best link, ways, looking -/
theorem Kap_st {kk : Nat → Nat} {σ η : sn_FS} {a p k i : Nat} {v w : Int32} (hk : k = 49 ∨ k = 19) (hl : k_loc a p = none) (hw : k_st (sI σ k i v) a p = some w) (ho : ∀ b j, ¬ (b = a ∧ j = p) → k_st (sI σ k i v) b j = k_st σ b j) : u_I (Kap kk σ η) a p w = Kap kk (sI σ k i v) η := by
  have hT : ∀ p ∈ k_T, p.2 ≠ 49 ∧ p.2 ≠ 19 := by decide +kernel
  have hS : SP σ (sI σ k i v) := SP.sI (by omega)
  have e1 : sn_up (kI σ η) a p w = kI (sI σ k i v) η := by
    funext b j
    by_cases c : b = a ∧ j = p
    · obtain ⟨rfl, rfl⟩ := c
      rw [sn_up_same]
      simp only [kI, hl, hw]
    · have e2 : sn_up (kI σ η) a p w b j = kI σ η b j := by
        simp only [sn_up]
        by_cases c1 : b = a
        · by_cases c2 : j = p
          · exact absurd ⟨c1, c2⟩ c
          · simp [c2]
        · simp [c1]
      rw [e2]
      simp only [kI, ho b j c]
      split
      · rename_i q hq
        obtain ⟨q', hq', e⟩ := k_loc_T hq
        have := hT q' hq'
        rw [← e]
        exact (sI_ne (σ := σ) (by omega)).symm
      · rfl
  have e3 : kR (sI σ k i v) = kR σ := kR_eq hS (fun i => sI_ne (by omega)) (fun i => sI_ne (by omega)) (fun i => sI_ne (by omega)) (fun i => sI_ne (by omega))
  show (_, _, _, _, sn_up (kI σ η) a p w, _, _) = Kap kk (sI σ k i v) η
  rw [e1]
  simp only [Kap, e3]
theorem wr_a16 {kk : Nat → Nat} {σ η : sn_FS} (p : Nat) (v : Int32) : u_I (Kap kk σ η) 16 p (tcd v) = Kap kk (sI σ 49 p v) η := by
  have hS : SP σ (sI σ 49 p v) := SP.sI (by decide)
  refine Kap_st (Or.inl rfl) rfl ?_ (fun b j c => ?_)
  · show some (tcd ((sI σ 49 p v).1 49 p)) = _
    rw [sI_same]
  · simp only [k_st, setOf_SP hS, hS.exE, hS.otE, sn_upE, Nat.reduceEqDiff, reduceIte]
    by_cases hb : b < 64
    · by_cases h16 : b = 16
      · have : j ≠ p := fun e => c ⟨h16, e⟩
        simp only [this, if_false]
      · simp only [h16, if_false]
    · simp only [hb, if_false]
theorem wr_E18 {kk : Nat → Nat} {σ η : sn_FS} (e : Nat) (v : Int32) : u_I (Kap kk σ η) (aE e) 18 (ccd v) = Kap kk (sI σ 19 e v) η := by
  have hS : SP σ (sI σ 19 e v) := SP.sI (by decide)
  refine Kap_st (Or.inr rfl) (k_locO (f := 30) (by decide)) ?_ (fun b j c => ?_)
  · obtain ⟨h1, h2, h3⟩ := k_md e 30 (by decide)
    simp only [k_st, aE, show 64 * e + 94 = 64 * e + (64 + 30) from rfl, h1, h2, h3, if_false, if_true, Nat.reduceEqDiff, reduceIte, sn_upE]
  · simp only [k_st, setOf_SP hS, hS.exE, hS.otE, sn_upE, Nat.reduceEqDiff, reduceIte]
    by_cases hb : b < 64
    · simp only [hb, if_true]
    by_cases h30 : b % 64 = 30
    · by_cases hj : j = 18
      · have : b / 64 - 1 ≠ e := fun q => c ⟨k_id hb h30 q, hj⟩
        simp only [this, if_false]
      · simp only [hj, if_false]
    · simp only [h30, if_false]
theorem k_end_some {σ : sn_FS} {x l : Nat} (h : l < 2 ^ 31) : k_end σ x (nI l) = some (aE (en σ l x)) := by
  unfold k_end
  rw [if_neg (nI_m1 h), nI_clamp h]
section Give
variable {kk : Nat → Nat} {σ η : sn_FS}
theorem fl_give_none (hK : KOk kk σ) (hH : HR σ η) (m : Int64) : Run kk (f_Tr_give 11 none m) σ η none (S_lost σ) := by
  have k11 := hK.1.2.2.2.2.2.2.2.2.2.2.1
  refine ⟨η, ?_, hH.lost, PE.rf⟩
  simp only [f_Tr_give, not_true_eq_false, if_false, f_Tr_give_12, if_true, f_Tr_give_28, f_Tr_give_38, x_gI, x_pI, k11, rd_s11_7, wS_7, r_V, S_lost]
theorem fl_give_closed (hK : KOk kk σ) (hH : HR σ η) {x n s : Nat} (hx : x < 6) (hn : n < 6) (hs : s < 4) (hb : nb σ x n = true) (ho : opb σ x n s = false) (m : Int64) : Run kk (f_Tr_give 11 (some (aF (fl x n s))) m) σ η none (S_lost σ) := by
  obtain ⟨f1, f2, f3, f4⟩ := hK.flow hx hn hs hb
  have k11 := hK.1.2.2.2.2.2.2.2.2.2.2.1
  simp only [opb, Bool.or_eq_false_iff, Bool.not_eq_false', decide_eq_true_eq] at ho
  have o1 : (some (aF (fl x n s)) = none) = False := by simp
  have hp : f_Fl_place (aF (fl x n s)) (Kap kk σ η) = some (some (va_rf none), Kap kk σ η) := by
    simp only [f_Fl_place, f_Fl_place_33, x_gI, x_gR, f1, if_true, rd_F2, ho.2, rr_F1, ho.1, k_end_none.mpr, not_true_eq_false, if_false, r_R]
  refine ⟨η, ?_, hH.lost, PE.rf⟩
  simp only [f_Tr_give, o1, not_false_eq_true, if_true, x_nn, f1, x_cR hp, f_Tr_give_12, f_Tr_give_28, f_Tr_give_38, x_gI, x_pI, k11, rd_s11_7, wS_7, r_V, S_lost]
theorem fl_give (hK : KOk kk σ) (hH : HR σ η) (hG : GvOk σ) {x n s : Nat} (hx : x < 6) (hn : n < 6) (hs : s < 4) (hb : nb σ x n = true) (ho : opb σ x n s = true) {m : Msg} (hm : MV σ m) : Run kk (f_Tr_give 11 (some (aF (fl x n s))) (wC m)) σ η none (S_give x n s (wR m) σ) := by
  obtain ⟨f1, f2, f3, f4⟩ := hK.flow hx hn hs hb
  have k11 := hK.1.2.2.2.2.2.2.2.2.2.2.1
  have hf := fl_lt hx hn hs
  obtain ⟨g1, g2, -⟩ := fl_x (x := x) hn hs
  have o1 : ∀ a : Nat, (some a = none) = False := fun a => by simp
  have o2 : ((1 : Int32) = 0) = False := eq_false (by decide)
  by_cases c0 : σ.1 42 (fl x n s) = 0
  · have hc : ∃ l, l < nl σ ∧ σ.1 41 (fl x n s) = nI l := by
      rcases hG.2.2.2 _ hf c0 with q | q
      · simp [opb, q, c0] at ho
      · exact q
    obtain ⟨l, hl, el⟩ := hc
    have hn10 := hG.1.2.1
    have hen := en_lt hG.1 (x := x) hl
    obtain ⟨e1, e2, e3, e4, e5, e6, e7⟩ := hK.2.1 _ hen.1
    have hp : f_Fl_place (aF (fl x n s)) (Kap kk σ η) = some (some (va_rf (some (aWQ (en σ l x)))), Kap kk σ η) := by
      simp only [f_Fl_place, f_Fl_place_33, x_gI, x_gR, f1, if_true, rd_F2, c0, rr_F1, el, g1, k_end_some (show l < 2 ^ 31 by omega), o1, not_false_eq_true, e1, e3, rr_E4, rr_W8, r_R]
    have hS : S_give x n s (wR m) σ = S_wait (en σ l x) (wR m) σ := by
      unfold S_give
      rw [if_pos c0, el, nI_clamp (by omega)]
    rw [hS]
    obtain ⟨w, hw, ew⟩ := hG.2.1 _ hen.2
    by_cases c : w = 64
    · subst c
      have hq : f_Qu_add (aWQ (en σ l x)) (wC m) (Kap kk σ η) = some (some (.int 0), Kap kk σ η) := fl_qfull hK hH (t := 1) (i := en σ l x) (by decide) hen.1 ew (wC m)
      have hS : S_wait (en σ l x) (wR m) σ = S_lost σ := by unfold S_wait; exact if_pos ew
      rw [hS]
      refine ⟨η, ?_, hH.lost, PE.rf⟩
      simp only [f_Tr_give, o1, not_false_eq_true, if_true, x_nn, f1, x_cR hp, f_Tr_give_12, f_Tr_give_28, f_Tr_give_38, if_false, e6, x_cI hq, not_true_eq_false, x_gI, x_pI, k11, rd_s11_7, wS_7, r_V, S_lost]
    · obtain ⟨θ, hq, hH2, hPE⟩ := fl_qadd hK hH (t := 1) (i := en σ l x) (by decide) hen.1 ew (show w < 64 by omega) hm
      have hq : f_Qu_add (aWQ (en σ l x)) (wC m) (Kap kk σ η) = _ := hq
      have hS : S_wait (en σ l x) (wR m) σ = sI (sJ σ 28 (64 * en σ l x + w) (wR m)) 29 (en σ l x) (nI (w + 1)) := by
        unfold S_wait
        rw [if_neg (by rw [ew]; intro q; exact c (nI_inj (by omega) (by omega) q)), ew, nI_clamp (by omega), nI_1]
      rw [hS]
      refine ⟨θ, ?_, hH2, hPE⟩
      simp only [f_Tr_give, o1, not_false_eq_true, if_true, x_nn, f1, x_cR hp, f_Tr_give_12, f_Tr_give_38, if_false, e6, x_cI hq, o2, r_V]
      rfl
  · have hp : f_Fl_place (aF (fl x n s)) (Kap kk σ η) = some (some (va_rf (some (aKQ (fl x n s)))), Kap kk σ η) := by
      simp only [f_Fl_place, x_gI, x_gR, f1, if_true, rd_F2, c0, if_false, rr_F6, r_R]
    obtain ⟨w, hw, ew⟩ := hG.2.2.1 _ hf
    have hi : exT σ 2 (fl x n s) := ⟨hf, by rw [g1, g2]; exact hb⟩
    by_cases c : w = 64
    · subst c
      have hq : f_Qu_add (aKQ (fl x n s)) (wC m) (Kap kk σ η) = some (some (.int 0), Kap kk σ η) := fl_qfull hK hH (t := 2) (i := fl x n s) (by decide) hi ew (wC m)
      have hS : S_give x n s (wR m) σ = S_lost σ := by unfold S_give; rw [if_neg c0]; exact if_pos ew
      rw [hS]
      refine ⟨η, ?_, hH.lost, PE.rf⟩
      simp only [f_Tr_give, o1, not_false_eq_true, if_true, x_nn, f1, x_cR hp, f_Tr_give_12, f_Tr_give_28, f_Tr_give_38, if_false, f2, x_cI hq, not_true_eq_false, x_gI, x_pI, k11, rd_s11_7, wS_7, r_V, S_lost]
    · obtain ⟨θ, hq, hH2, hPE⟩ := fl_qadd hK hH (t := 2) (i := fl x n s) (by decide) hi ew (show w < 64 by omega) hm
      have hq : f_Qu_add (aKQ (fl x n s)) (wC m) (Kap kk σ η) = _ := hq
      have hS : S_give x n s (wR m) σ = sI (sJ σ 46 (64 * fl x n s + w) (wR m)) 47 (fl x n s) (nI (w + 1)) := by
        unfold S_give
        rw [if_neg c0, if_neg (by rw [ew]; intro q; exact c (nI_inj (by omega) (by omega) q)), ew, nI_clamp (by omega), nI_1]
      rw [hS]
      refine ⟨θ, ?_, hH2, hPE⟩
      simp only [f_Tr_give, o1, not_false_eq_true, if_true, x_nn, f1, x_cR hp, f_Tr_give_12, f_Tr_give_38, if_false, f2, x_cI hq, o2, r_V]
      rfl
/-- the best link -/
def bR (σ : sn_FS) (x : Nat) (o : Option Nat) : Option Nat := o.map (fun l => aE (en σ l x))
theorem fl_best_24 (hK : KOk kk σ) (hP : PlanOk σ) {x n s : Nat} (hx : x < 6) (hn : n < 6) (hs : s < 4) : ∀ (d fuel i : Nat), (setOf σ x n).length - i = d → d < fuel → i ≤ (setOf σ x n).length → f_Tr_best_24 11 fuel (nI s) (nI (setOf σ x n).length) (nI ((x * 6 + n) * 4)) (nI i) (Kap kk σ η) = some (some (va_rf (bR σ x ((List.range' i d).findSome? (fun k => ((setOf σ x n)[(s + k) % (setOf σ x n).length]?).bind (fun l => if σ.1 10 (en σ l x) = 5 then some l else none))))), Kap kk σ η)
  | 0, fuel + 1, i, hd, _, hi => by
    have h4 := hK.2.2.2.2 x n
    have e1 : (nI (setOf σ x n).length ≤ nI i) = True := eq_true (nI_le (by omega) (by omega))
    simp only [f_Tr_best_24, e1, if_true, r_R, List.range'_zero, List.findSome?_nil, bR, Option.map_none]
  | d + 1, fuel + 1, i, hd, hf, hi => by
    have h4 := hK.2.2.2.2 x n
    have k11 := hK.1.2.2.2.2.2.2.2.2.2.2.1
    have k13 := hK.1.2.2.2.2.2.2.2.2.2.2.2.2.1
    have hlt : i < (setOf σ x n).length := by omega
    have e1 : (nI (setOf σ x n).length ≤ nI i) = False := eq_false (nI_ge hlt (by omega))
    have e2 : (nI (setOf σ x n).length = 0) = False := eq_false (fun q => by have := nI_inj (b := 0) (by omega) (by omega) q; omega)
    have hm : (s + i) % (setOf σ x n).length < (setOf σ x n).length := Nat.mod_lt _ (by omega)
    have e3 : nI s + nI i = nI (s + i) := nI_add s i
    have e4 : nI (s + i) % nI (setOf σ x n).length = nI ((s + i) % (setOf σ x n).length) := nI_mod (by omega) (by omega) (by omega)
    have hp : (x * 6 + n) * 4 + (s + i) % (setOf σ x n).length < kL 13 := by show _ < 144; omega
    have g1 : ((x * 6 + n) * 4 + (s + i) % (setOf σ x n).length) / 24 = x := by omega
    have g2 : ((x * 6 + n) * 4 + (s + i) % (setOf σ x n).length) % 24 / 4 = n := by omega
    have g3 : ((x * 6 + n) * 4 + (s + i) % (setOf σ x n).length) % 4 = (s + i) % (setOf σ x n).length := by omega
    have hg : (setOf σ x n)[(s + i) % (setOf σ x n).length]? = some ((setOf σ x n)[(s + i) % (setOf σ x n).length]'hm) := List.getElem?_eq_getElem hm
    generalize hL : (setOf σ x n)[(s + i) % (setOf σ x n).length]'hm = l at hg
    have hl := setFrom_mem (i := 0) (List.mem_of_getElem? hg)
    have hen := en_lt hP (x := x) hl.1
    obtain ⟨q1, -⟩ := hK.2.1 _ hen.1
    have o1 : (some (aE (en σ l x)) = none) = False := by simp
    have ih := fl_best_24 hK hP hx hn hs d fuel (i + 1) (by omega) (by omega) (by omega)
    simp only [f_Tr_best_24, e1, if_false, x_gR, k11, if_true, rr_s11_3, n_D, e2, e3, e4, nI_add, x_aR hp (by decide), k13, rr_a13, g1, g2, g3, hg, Option.map_some, o1, x_gI, q1, rd_E7, List.range'_succ, List.findSome?_cons, Option.bind_some]
    by_cases c : σ.1 10 (en σ l x) = 5
    · simp only [c, not_true_eq_false, if_false, if_true, r_R, bR, Option.map_some]
    · simp only [c, not_false_eq_true, if_true, if_false, f_Tr_best_65, nI_1, ih]
theorem fl_best (hK : KOk kk σ) (hP : PlanOk σ) {x n s : Nat} (hx : x < 6) (hn : n < 6) (hs : s < 4) : f_Tr_best 11 (nI x) (nI n) (nI s) (Kap kk σ η) = some (some (va_rf (bR σ x (bst σ x n s))), Kap kk σ η) := by
  have k11 := hK.1.2.2.2.2.2.2.2.2.2.2.1
  have k3 := hK.1.2.2.1
  have h4 := hK.2.2.2.2 x n
  have e1 : (nI x * (6 : Int32) + nI n) * (4 : Int32) = nI ((x * 6 + n) * 4) := by
    have a1 : nI x * (6 : Int32) = nI (x * 6) := pk_mul x 6
    have a2 : nI (x * 6 + n) * (4 : Int32) = nI ((x * 6 + n) * 4) := pk_mul _ 4
    rw [a1, nI_add, a2]
  have h := fl_best_24 (η := η) hK hP hx hn hs (setOf σ x n).length sn_fuel 0 (by omega) (by unfold sn_fuel; omega) (by omega)
  rw [← List.range_eq_range'] at h
  simp only [f_Tr_best, x_gR, k11, if_true, rr_s11_0, x_nn, k3, x_cI (fl_setSize hK hx hn), n_I, e1]
  exact h
end Give
