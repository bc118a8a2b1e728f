/-! LAYER 2, the class: neighbours, flows, giving -/
theorem k_loc_s {a j k i : Nat} (h : k_loc a j = some (k, i)) (hk : k = 6 ∨ k = 7 ∨ k = 8 ∨ k = 9) : i = 0 := by
  have hT : ∀ p ∈ k_T, (p.2 = 6 ∨ p.2 = 7 ∨ p.2 = 8 ∨ p.2 = 9) → p.1.1 < 64 ∧ p.1.2 ≠ 0 := by decide +kernel
  unfold k_loc at h
  obtain ⟨k', h1, h2⟩ := Option.map_eq_some_iff.mp h
  have hk' : k' = k := congrArg Prod.fst h2
  have hi : k_ix a j = i := congrArg Prod.snd h2
  subst hk'
  obtain ⟨g1, g2⟩ := hT _ (k_lookup h1) hk
  unfold k_key at g1 g2
  unfold k_ix at hi
  by_cases c : a < 64
  · simp only [c, if_true] at g1 g2 hi
    by_cases d : k_arr a = true
    · simp only [d, if_true] at g2; exact absurd rfl g2
    · simp only [d, Bool.false_eq_true, if_false] at hi; exact hi.symm
  · simp only [c, if_false] at g1; omega
theorem Kap_sS {kk : Nat → Nat} {σ η : sn_FS} {k : Nat} {v : Int32} (hk : k = 6 ∨ k = 7 ∨ k = 8 ∨ k = 9) : Kap kk (sS σ k v) η = Kap kk (sI σ k 0 v) η := by
  have h0 : SP (sI σ k 0 v) (sS σ k v) := by
    refine ⟨fun i => ?_, fun i => ?_, fun i => ?_⟩ <;> simp only [sn_upE] <;> rw [if_neg (by omega), if_neg (by omega)]
  have hf : ∀ k' i, k' ≠ k → (sS σ k v).1 k' i = (sI σ k 0 v).1 k' i := fun k' i h => by simp only [sn_upE]; rw [if_neg h, if_neg h]
  have e1 : kI (sS σ k v) η = kI (sI σ k 0 v) η := by
    funext a j
    simp only [kI, k_st_eq h0 (fun i => hf 49 i (by omega)) (fun i => congrArg ccd (hf 19 i (by omega)))]
    split
    · rename_i p hp
      by_cases c : p.1 = k
      · have : p.2 = 0 := k_loc_s (k := p.1) (i := p.2) hp (by omega)
        rw [c, this]; simp only [sn_upE, if_true]
      · exact hf _ _ c
    · rfl
  simp only [Kap, e1, kR_eq h0 (fun i => hf 41 i (by omega)) (fun i => hf 43 i (by omega)) (fun i => hf 57 i (by omega)) (fun i => hf 62 i (by omega))]
section RulesS
variable {kk : Nat → Nat} {σ η : sn_FS} {v : Int32}
theorem wS_6 : u_I (Kap kk σ η) 2 0 v = Kap kk (sS σ 6 v) η := wr_s2_0.trans (Kap_sS (by decide)).symm
theorem wS_7 : u_I (Kap kk σ η) 11 7 v = Kap kk (sS σ 7 v) η := wr_s11_7.trans (Kap_sS (by decide)).symm
theorem wS_8 : u_I (Kap kk σ η) 11 8 v = Kap kk (sS σ 8 v) η := wr_s11_8.trans (Kap_sS (by decide)).symm
theorem wS_9 : u_I (Kap kk σ η) 11 9 v = Kap kk (sS σ 9 v) η := wr_s11_9.trans (Kap_sS (by decide)).symm
end RulesS
def HU (σ η : sn_FS) : Prop := ∀ e, e < 2 * nl σ → ((4 : Int32) ≤ σ.1 30 e → η.1 (aU e) 1 = σ.1 31 e ∧ η.1 (aU e) 2 = σ.1 32 e ∧ η.1 (aU e) 3 = σ.1 33 e ∧ η.1 (aU e) 4 = σ.1 34 e) ∧ (σ.1 30 e = 5 → ∃ m, MV σ m ∧ σ.2 35 e = wR m ∧ η.2 (aU e) 6 = wC m)
def HP (σ η : sn_FS) : Prop := ∀ e, e < 2 * nl σ → σ.1 10 e = 3 → η.1 (aE e) 14 = if σ.1 24 e = 0 then 8 else 3
def HR (σ η : sn_FS) : Prop := HQ σ η ∧ HU σ η ∧ HP σ η
def PE (η θ : sn_FS) : Prop := (∀ j, θ.1 20 j = η.1 20 j) ∧ ∀ j, θ.2 21 j = η.2 21 j
theorem PE.rf {η : sn_FS} : PE η η := ⟨fun _ => rfl, fun _ => rfl⟩
theorem PE.tr {a b c : sn_FS} (h1 : PE a b) (h2 : PE b c) : PE a c := ⟨fun j => (h2.1 j).trans (h1.1 j), fun j => (h2.2 j).trans (h1.2 j)⟩
def Run (kk : Nat → Nat) (f : sn_M) (σ η : sn_FS) (r : Option Value) (τ : sn_FS) : Prop := ∃ θ, f (Kap kk σ η) = some (r, Kap kk τ θ) ∧ HR τ θ ∧ PE η θ
theorem Run.at {kk : Nat → Nat} {f : sn_M} {σ η : sn_FS} {r : Option Value} (h : f (Kap kk σ η) = some (r, Kap kk σ η)) (hH : HR σ η) : Run kk f σ η r σ := ⟨η, h, hH, PE.rf⟩
theorem HU.mk' {σ τ η θ : sn_FS} (h : HU σ η) (hs : SP σ τ) (hI : ∀ k i, 30 ≤ k → k ≤ 34 → τ.1 k i = σ.1 k i) (hJ : ∀ i, τ.2 35 i = σ.2 35 i) (hθ : ∀ e j, θ.1 (aU e) j = η.1 (aU e) j ∧ θ.2 (aU e) j = η.2 (aU e) j) : HU τ θ := by
  intro e he
  rw [hs.nlE] at he
  obtain ⟨h1, h2⟩ := h e he
  rw [hI 30 e (by omega) (by omega), hI 31 e (by omega) (by omega), hI 32 e (by omega) (by omega), hI 33 e (by omega) (by omega), hI 34 e (by omega) (by omega), hJ, MV.sp hs, (hθ e 1).1, (hθ e 2).1, (hθ e 3).1, (hθ e 4).1, (hθ e 6).2]
  exact ⟨h1, h2⟩
theorem HP.mk' {σ τ η θ : sn_FS} (h : HP σ η) (hs : SP σ τ) (h1 : ∀ i, τ.1 10 i = 3 → σ.1 10 i = 3) (h2 : ∀ i, τ.1 24 i = σ.1 24 i) (hθ : ∀ e, θ.1 (aE e) 14 = η.1 (aE e) 14) : HP τ θ := by
  intro e he h3
  rw [hs.nlE] at he
  rw [h2, hθ]
  exact h e he (h1 e h3)
theorem HR.mI {σ η : sn_FS} (h : HR σ η) {k i : Nat} {v : Int32} (hk : k ∉ [0, 1, 4, 27, 29, 47, 30, 31, 32, 33, 34, 10, 24]) : HR (sI σ k i v) η := by
  simp only [List.mem_cons, List.not_mem_nil, or_false, not_or] at hk
  have hs : SP σ (_root_.Jvm.Pilot.CSignalNetworkLaw_law_r4799_9a0fda.sI σ k i v) := SP.sI (by omega)
  refine ⟨h.1.mI (by omega), h.2.1.mk' hs (fun k' i h1 h2 => sI_ne (by omega)) (fun i => rfl) (fun e j => ⟨rfl, rfl⟩), h.2.2.mk' hs (fun i => ?_) (fun i => sI_ne (by omega)) (fun e => rfl)⟩
  rw [sI_ne (by omega)]; exact id
theorem HR.mJ {σ η : sn_FS} (h : HR σ η) {k i : Nat} {v : Int64} (hk : k ∉ [25, 28, 46, 35]) : HR (sJ σ k i v) η := by
  simp only [List.mem_cons, List.not_mem_nil, or_false, not_or] at hk
  have hj : ∀ t, t < 3 → jk t ≠ k := fun t ht => by rcases t3 ht with rfl | rfl | rfl <;> simp only [jk] <;> simp <;> omega
  refine ⟨h.1.mk' SP.sJ (fun t ht i' _ => ⟨rfl, fun j _ => sn_up_ne _ _ _ _ (hj t ht)⟩) (fun t ht i => ⟨rfl, fun j => rfl⟩), h.2.1.mk' SP.sJ (fun k' i h1 h2 => rfl) (fun i => sn_up_ne _ _ _ _ (by omega)) (fun e j => ⟨rfl, rfl⟩), h.2.2.mk' SP.sJ (fun i => id) (fun i => rfl) (fun e => rfl)⟩
theorem HR.mS {σ η : sn_FS} (h : HR σ η) {k : Nat} {v : Int32} (hk : k ∉ [0, 1, 4, 27, 29, 47, 30, 31, 32, 33, 34, 10, 24]) : HR (sS σ k v) η := by
  simp only [List.mem_cons, List.not_mem_nil, or_false, not_or] at hk
  have hs : SP σ (sS σ k v) := SP.sS (by omega)
  have hf : ∀ k' i, k' ≠ k → (sS σ k v).1 k' i = σ.1 k' i := fun k' i h => if_neg h
  have hj : ∀ t, t < 3 → sk t ≠ k := fun t ht => sk_out ht (by omega)
  refine ⟨h.1.mk' hs (fun t ht i' _ => ⟨congrArg Int32.toNatClampNeg (hf _ _ (hj t ht)), fun j _ => rfl⟩) (fun t ht i => ⟨rfl, fun j => rfl⟩), h.2.1.mk' hs (fun k' i h1 h2 => hf _ _ (by omega)) (fun i => rfl) (fun e j => ⟨rfl, rfl⟩), h.2.2.mk' hs (fun i => ?_) (fun i => hf _ _ (by omega)) (fun e => rfl)⟩
  rw [hf _ _ (by omega)]; exact id
theorem HR.lost {σ η : sn_FS} (h : HR σ η) : HR (S_lost σ) η := h.mS (by decide)
theorem aU_q {t i e : Nat} (ht : t < 3) : aU e ≠ rA t i ∧ aU e ≠ qA t i ∧ aE e ≠ qA t i ∧ qA t i ≠ 20 ∧ rA t i ≠ 21 := by
  unfold aU aE rA qA qo
  rcases t3 ht with rfl | rfl | rfl <;> simp <;> omega
/-- adding to a queue -/
theorem fl_qfull {kk : Nat → Nat} {σ η : sn_FS} (hK : KOk kk σ) (hH : HR σ η) {t i : Nat} (ht : t < 3) (hi : exT σ t i) (hn : σ.1 (sk t) i = nI (cp t)) (m : Int64) : f_Qu_add (qA t i) m (Kap kk σ η) = some (some (.int 0), Kap kk σ η) := by
  obtain ⟨hd, hR⟩ := hH.1 t ht i hi
  exact fl_add_full (QH_of hK ht hi hR hn (Nat.le_refl _)) m
theorem fl_qadd {kk : Nat → Nat} {σ η : sn_FS} (hK : KOk kk σ) (hH : HR σ η) {t i n : Nat} (ht : t < 3) (hi : exT σ t i) (hn : σ.1 (sk t) i = nI n) (hc : n < cp t) {m : Msg} (hm : MV σ m) : Run kk (f_Qu_add (qA t i) (wC m)) σ η (some (.int 1)) (sI (sJ σ (jk t) (cp t * i + n) (wR m)) (sk t) i (nI (n + 1))) := by
  obtain ⟨hd, hR⟩ := hH.1 t ht i hi
  have hq := fl_add (QH_of hK ht hi hR hn (by omega)) hc (wC m)
  rw [qw ht] at hq
  have hs : SP σ (sI (sJ σ (jk t) (cp t * i + n) (wR m)) (sk t) i (nI (n + 1))) := (SP.sJ).tr (SP.sI (by rcases t3 ht with rfl | rfl | rfl <;> decide))
  have hk : ∀ k' i', k' ≠ 27 → k' ≠ 29 → k' ≠ 47 → (sI (sJ σ (jk t) (cp t * i + n) (wR m)) (sk t) i (nI (n + 1))).1 k' i' = σ.1 k' i' := fun k' i' h1 h2 h3 => sI_ne (Ne.symm (sk_out ht ⟨h1, h2, h3⟩))
  refine ⟨_, hq, ⟨hH.1.add ht hi hn hc hm hR, hH.2.1.mk' hs (fun k' i h1 h2 => hk _ _ (by omega) (by omega) (by omega)) (fun i' => ?_) (fun e j => ⟨rfl, ?_⟩), hH.2.2.mk' hs (fun i' => ?_) (fun i' => hk _ _ (by decide) (by decide) (by decide)) (fun e => rfl)⟩, ⟨fun j => rfl, fun j => ?_⟩⟩
  · exact sn_up_ne _ _ _ _ (by rcases t3 ht with rfl | rfl | rfl <;> decide)
  · exact sn_up_ne _ _ _ _ (aU_q ht).1
  · rw [hk _ _ (by decide) (by decide) (by decide)]; exact id
  · exact sn_up_ne _ _ _ _ (Ne.symm (aU_q (e := 0) ht).2.2.2.2)
theorem fl_waitAt {kk : Nat → Nat} {σ η : sn_FS} (hK : KOk kk σ) (hH : HR σ η) (hG : GvOk σ) {e : Nat} (he : e < 2 * nl σ) {m : Msg} (hm : MV σ m) : Run kk (f_Tr_waitAt 11 (some (aE e)) (wC m)) σ η none (S_wait e (wR m) σ) := by
  have hn10 := hG.1.2.1
  obtain ⟨w, hw, ew⟩ := hG.2.1 e (by omega)
  obtain ⟨⟨k1, k2, k3, k4, k5, k6, k7, k8, k9, k10, k11, k12, k13, k14, k15, k16, k17, k18, k19, k20, k21, k22⟩, kE, kF, kP, -⟩ := id hK
  obtain ⟨e1, e2, e3, e4, e5, e6, e7⟩ := kE e he
  have o1 : ((1 : Int32) = 0) = False := eq_false (by decide)
  by_cases c : w = 64
  · subst c
    have hq : f_Qu_add (aWQ e) (wC m) (Kap kk σ η) = some (some (.int 0), Kap kk σ η) := fl_qfull hK hH (t := 1) (i := e) (by decide) he ew (wC m)
    have hS : S_wait e (wR m) σ = S_lost σ := by unfold S_wait; exact if_pos ew
    rw [hS]
    refine ⟨η, ?_, hH.lost, PE.rf⟩
    simp only [f_Tr_waitAt, f_Tr_waitAt_24, x_gR, x_nn, rr_E4, rr_W8, e1, e3, e6, if_true, x_cI hq, not_true_eq_false, if_false, x_gI, x_pI, k11, rd_s11_7, wS_7, r_V, S_lost]
  · obtain ⟨θ, hq, hH2, hPE⟩ := fl_qadd hK hH (t := 1) (i := e) (by decide) he ew (show w < 64 by omega) hm
    have hq : f_Qu_add (aWQ e) (wC m) (Kap kk σ η) = _ := hq
    have hS : S_wait e (wR m) σ = sI (sJ σ 28 (64 * e + w) (wR m)) 29 e (nI (w + 1)) := by
      unfold S_wait
      rw [if_neg (by rw [ew]; intro q; exact c (nI_inj (by omega) (by omega) q)), ew, nI_clamp (by omega), nI_1]
    rw [hS]
    refine ⟨θ, ?_, hH2, hPE⟩
    simp only [f_Tr_waitAt, f_Tr_waitAt_24, x_gR, x_nn, rr_E4, rr_W8, e1, e3, e6, if_true, x_cI hq, o1, not_false_eq_true, r_V]
    rfl
/-- neighbours -/
theorem fl_x {x n s : Nat} (hn : n < 6) (hs : s < 4) : fl x n s / 24 = x ∧ fl x n s % 24 / 4 = n ∧ fl x n s % 4 = s := by unfold fl; omega
theorem setOf_self {σ : sn_FS} (h : PlanOk σ) (x : Nat) : setOf σ x x = [] := by
  unfold setOf setFrom
  apply List.filter_eq_nil_iff.mpr
  intro l hl
  have := List.mem_range'_1.mp hl
  obtain ⟨p1, p2, p3, p4⟩ := h.2.2 l (by omega)
  simp only [isof, Nat.min_self, Nat.max_self, Bool.and_eq_true, decide_eq_true_eq, not_and]
  omega
theorem nb_len {σ : sn_FS} (h : PlanOk σ) (x n : Nat) : nb σ x n = decide (0 < (setOf σ x n).length) := by
  unfold nb
  by_cases c : x = n
  · subst c; simp [setOf_self h]
  · simp [c]
theorem setOf_len10 {σ : sn_FS} (h : PlanOk σ) (x n : Nat) : (setOf σ x n).length ≤ 10 := Nat.le_trans (setOf_le) h.2.1
section Nb
variable {kk : Nat → Nat} {σ η : sn_FS}
theorem fl_setSize (hK : KOk kk σ) {x n : Nat} (hx : x < 6) (hn : n < 6) : f_Pl_setSize 3 (nI x) (nI n) (Kap kk σ η) = some (some (.int (nI (setOf σ x n).length)), Kap kk σ η) := by
  have k3 := hK.1.2.2.1
  have k8 := hK.1.2.2.2.2.2.2.2.1
  have o1 : ∀ a : Nat, a < 6 → (nI a < 0) = False := fun a ha => eq_false (nI_pos (by omega))
  have o2 : ((6 : Int32) ≤ nI x) = False := eq_false (nI_ge (b := 6) hx (by omega))
  have o3 : (nI n < (6 : Int32)) = True := eq_true (nI_lt (b := 6) hn (by omega))
  have e1 : nI x * (6 : Int32) + nI n = nI (x * 6 + n) := by
    have : nI x * (6 : Int32) = nI (x * 6) := pk_mul x 6
    rw [this, nI_add]
  have hp : x * 6 + n < kL 8 := by show _ < 36; omega
  simp only [f_Pl_setSize, o1 x hx, o1 n hn, o2, o3, if_false, if_true, x_gR, k3, rr_s3_5, e1, x_aI hp (by decide), k8, r_I, rd_a8, setSz, show (x * 6 + n) / 6 = x by omega, show (x * 6 + n) % 6 = n by omega]
theorem fl_areNb (hK : KOk kk σ) (hP : PlanOk σ) {x n : Nat} (hx : x < 6) (hn : n < 6) : f_Pl_areNeighbours 3 (nI x) (nI n) (Kap kk σ η) = some (some (.int (if nb σ x n then 1 else 0)), Kap kk σ η) := by
  have k3 := hK.1.2.2.1
  have hl := setOf_len10 hP x n
  have e1 : (nI (setOf σ x n).length ≤ 0) ↔ (setOf σ x n).length ≤ 0 := nI_leI (b := 0) (by omega) (by omega)
  simp only [f_Pl_areNeighbours, f_Pl_areNeighbours_14, x_nn, k3, if_true, x_cI (fl_setSize hK hx hn), e1, nb_len hP]
  by_cases c : (setOf σ x n).length ≤ 0
  · have : ¬ 0 < (setOf σ x n).length := by omega
    simp [c, this, r_Z]
  · have : 0 < (setOf σ x n).length := by omega
    simp [c, this, r_Z]
/-- a neighbour told, while it is one -/
def tldn (σ : sn_FS) (k x d : Nat) : Option Nat := (tld σ k x d).bind (fun n => if nb σ x n then some n else none)
theorem fl_told51 (hK : KOk kk σ) (hG : PlanOk σ) (hT : ToldOk σ) {x d k : Nat} (hk : k = 50 ∨ k = 51) (hx : x < 6) (hd : d < 6) : f_Pl_told_51 3 (nI x) (σ.1 k (6 * x + d)) (Kap kk σ η) = some (some (.int (bI (tldn σ k x d))), Kap kk σ η) := by
  have k3 := hK.1.2.2.1
  have k8 := hK.1.2.2.2.2.2.2.2.1
  cases ht : tld σ k x d with
  | none =>
    have e1 : σ.1 k (6 * x + d) = -1 := by
      unfold tld at ht
      split at ht
      · assumption
      · cases ht
    simp only [f_Pl_told_51, e1, if_true, f_Pl_told_78, f_Pl_told_79, f_Pl_told_92, r_I, tldn, ht, Option.bind_none, bI]
  | some n =>
    obtain ⟨hn, e1⟩ := tld_lt hT hk hx hd ht
    have e2 : (nI n = (-1 : Int32)) = False := eq_false (nI_m1 (by omega))
    have e3 : nI x * (6 : Int32) + nI n = nI (x * 6 + n) := by
      have : nI x * (6 : Int32) = nI (x * 6) := pk_mul x 6
      rw [this, nI_add]
    have hp : x * 6 + n < kL 8 := by show _ < 36; omega
    have hl := setOf_len10 hG x n
    have e4 : (nI (setOf σ x n).length ≤ 0) ↔ (setOf σ x n).length ≤ 0 := nI_leI (b := 0) (by omega) (by omega)
    have o1 : ((1 : Int32) = 0) = False := eq_false (by decide)
    simp only [f_Pl_told_51, e1, e2, if_false, x_gR, k3, if_true, rr_s3_5, e3, x_aI hp (by decide), k8, rd_a8, setSz, show (x * 6 + n) / 6 = x by omega, show (x * 6 + n) % 6 = n by omega, e4, tldn, ht, Option.bind_some, nb_len hG]
    by_cases c : (setOf σ x n).length ≤ 0
    · have : ¬ 0 < (setOf σ x n).length := by omega
      simp [c, this, f_Pl_told_78, f_Pl_told_79, f_Pl_told_92, r_I, bI]
    · have : 0 < (setOf σ x n).length := by omega
      simp [c, this, f_Pl_told_79, f_Pl_told_92, r_I, bI]
theorem fl_told (hK : KOk kk σ) (hG : PlanOk σ) (hT : ToldOk σ) {x d : Nat} (hx : x < 6) (hd : d < 6) : f_Pl_told 3 (nI x) (nI d) 0 (Kap kk σ η) = some (some (.int (bI (tldn σ 50 x d))), Kap kk σ η) ∧ ∀ w : Int32, w ≠ 0 → f_Pl_told 3 (nI x) (nI d) w (Kap kk σ η) = some (some (.int (bI (tldn σ 51 x d))), Kap kk σ η) := by
  have k3 := hK.1.2.2.1
  have k9 := hK.1.2.2.2.2.2.2.2.2.1
  have k10 := hK.1.2.2.2.2.2.2.2.2.2.1
  have o1 : ∀ a : Nat, a < 6 → (nI a < 0) = False := fun a ha => eq_false (nI_pos (by omega))
  have o2 : ((6 : Int32) ≤ nI x) = False := eq_false (nI_ge (b := 6) hx (by omega))
  have o3 : (nI d < (6 : Int32)) = True := eq_true (nI_lt (b := 6) hd (by omega))
  have e1 : nI x * (6 : Int32) + nI d = nI (6 * x + d) := by
    have : nI x * (6 : Int32) = nI (x * 6) := pk_mul x 6
    rw [this, nI_add, Nat.mul_comm]
  have hp9 : 6 * x + d < kL 9 := by show _ < 36; omega
  have hp10 : 6 * x + d < kL 10 := by show _ < 36; omega
  refine ⟨?_, fun w hw => ?_⟩
  · simp only [f_Pl_told, o1 x hx, o1 d hd, o2, o3, if_false, if_true, not_true_eq_false, x_gR, k3, rr_s3_6, e1, x_aI hp9 (by decide), k9, rd_a9, fl_told51 hK hG hT (Or.inl rfl) hx hd]
  · simp only [f_Pl_told, o1 x hx, o1 d hd, o2, o3, if_false, if_true, hw, ne_eq, not_false_eq_true, x_gR, k3, rr_s3_7, e1, x_aI hp10 (by decide), k10, rd_a10, fl_told51 hK hG hT (Or.inr rfl) hx hd]
def fR (σ : sn_FS) (x n s : Nat) : Option Nat := if nb σ x n then some (aF (fl x n s)) else none
theorem fl_flowTo (hK : KOk kk σ) {x n s : Nat} (hx : x < 6) (hn : n < 6) (hs : s < 4) : f_Tr_flowTo 11 (nI x) (nI n) (nI s) (Kap kk σ η) = some (some (va_rf (fR σ x n s)), Kap kk σ η) := by
  have k11 := hK.1.2.2.2.2.2.2.2.2.2.2.1
  have k14 := hK.1.2.2.2.2.2.2.2.2.2.2.2.2.2.1
  have o1 : ∀ a : Nat, a < 6 → (nI a < 0) = False := fun a ha => eq_false (nI_pos (by omega))
  have o2 : ((6 : Int32) ≤ nI x) = False := eq_false (nI_ge (b := 6) hx (by omega))
  have o3 : ((6 : Int32) ≤ nI n) = False := eq_false (nI_ge (b := 6) hn (by omega))
  have o4 : (nI s < (4 : Int32)) = True := eq_true (nI_lt (b := 4) hs (by omega))
  have e1 : (nI x * (6 : Int32) + nI n) * (4 : Int32) + nI s = nI (fl x n s) := by
    have a1 : nI x * (6 : Int32) = nI (x * 6) := pk_mul x 6
    have a2 : nI (x * 6 + n) * (4 : Int32) = nI ((x * 6 + n) * 4) := pk_mul _ 4
    rw [a1, nI_add, a2, nI_add]
    congr 1; unfold fl; omega
  have hf := fl_lt hx hn hs
  have hp : fl x n s < kL 14 := hf
  obtain ⟨g1, g2, -⟩ := fl_x (x := x) hn hs
  simp only [f_Tr_flowTo, o1 x hx, o1 n hn, o1 s (by omega), o2, o3, o4, if_false, if_true, x_gR, k11, rr_s11_4, e1, x_aR hp (by decide), k14, r_R, rr_a14, g1, g2, hf, true_and, fR]
theorem fl_flowTo_m (hK : KOk kk σ) {x : Nat} (s : Int32) : f_Tr_flowTo 11 (nI x) (-1) s (Kap kk σ η) = some (some (va_rf none), Kap kk σ η) := by
  have o1 : ((-1 : Int32) < 0) = True := eq_true (by decide)
  simp only [f_Tr_flowTo, f_Tr_flowTo_29, o1, if_true, r_R, ite_self]
theorem KOk.flow (hK : KOk kk σ) {x n s : Nat} (hx : x < 6) (hn : n < 6) (hs : s < 4) (hb : nb σ x n = true) : kk (aF (fl x n s)) = 3 ∧ kk (aKQ (fl x n s)) = 6 ∧ kk (aKR (fl x n s)) = 22 ∧ kk (aC (fl x n s)) = 4 := by
  obtain ⟨g1, g2, -⟩ := fl_x (x := x) hn hs
  exact hK.2.2.1 _ (fl_lt hx hn hs) (by rw [g1, g2]; exact hb)
theorem k_end_none {x : Nat} {v : Int32} : (k_end σ x v = none) ↔ v = -1 := by
  unfold k_end
  split <;> simp [*]
theorem fl_isOpen (hK : KOk kk σ) {x n s : Nat} (hx : x < 6) (hn : n < 6) (hs : s < 4) (hb : nb σ x n = true) : f_Fl_isOpen (aF (fl x n s)) (Kap kk σ η) = some (some (.int (if opb σ x n s then 1 else 0)), Kap kk σ η) := by
  obtain ⟨f1, f2, f3, f4⟩ := hK.flow hx hn hs hb
  simp only [f_Fl_isOpen, f_Fl_isOpen_14, f_Fl_isOpen_19, x_gR, x_gI, f1, if_true, rr_F1, rd_F2, k_end_none, opb, x_ite]
  by_cases c1 : σ.1 41 (fl x n s) = -1
  · by_cases c2 : σ.1 42 (fl x n s) = 0
    · simp [c1, c2, r_Z]
    · simp [c1, c2, r_Z]
  · simp [c1, r_Z]
end Nb
