/-! LAYER 2, the class: ends fall out, start, fail, come up -/
theorem sI_sw {σ : sn_FS} {k i k' i' : Nat} {v v' : Int32} (h : k' < k) : sI (sI σ k i v) k' i' v' = sI (sI σ k' i' v') k i v := by
  refine Prod.ext ?_ rfl
  funext a b
  show sn_up (sn_up σ.1 k i v) k' i' v' a b = sn_up (sn_up σ.1 k' i' v') k i v a b
  simp only [sn_upE]
  by_cases c1 : a = k
  · by_cases c2 : a = k'
    · omega
    · simp only [c2, if_false]
  · simp only [c1, if_false]
theorem sI_sI {σ : sn_FS} {k i : Nat} {v v' : Int32} : sI (sI σ k i v) k i v' = sI σ k i v' := by
  refine Prod.ext ?_ rfl
  exact sn_up_up _ _ _ _ _
def CurOk (σ : sn_FS) : Prop := ∀ f, f < 144 → (σ.1 41 f = -1 ∨ ∃ l, l < nl σ ∧ σ.1 41 f = nI l) ∧ (σ.1 43 f = -1 ∨ ∃ l, l < nl σ ∧ σ.1 43 f = nI l)
theorem CurOk.mk' {σ τ : sn_FS} (h : CurOk σ) (hs : SP σ τ) (h1 : ∀ f, f < 144 → τ.1 41 f = σ.1 41 f ∨ τ.1 41 f = -1 ∨ ∃ l, l < nl σ ∧ τ.1 41 f = nI l) (h2 : ∀ f, f < 144 → τ.1 43 f = σ.1 43 f ∨ τ.1 43 f = -1 ∨ ∃ l, l < nl σ ∧ τ.1 43 f = nI l) : CurOk τ := by
  intro f hf
  rw [hs.nlE]
  refine ⟨?_, ?_⟩
  · rcases h1 f hf with e | e
    · rw [e]; exact (h f hf).1
    · exact e
  · rcases h2 f hf with e | e
    · rw [e]; exact (h f hf).2
    · exact e
theorem CurOk.mI {σ : sn_FS} (h : CurOk σ) {k i : Nat} {v : Int32} (hk : k ∉ [0, 1, 4, 41, 43]) : CurOk (sI σ k i v) := by
  simp only [List.mem_cons, List.not_mem_nil, or_false, not_or] at hk
  exact h.mk' (SP.sI (by omega)) (fun f _ => Or.inl (sI_ne (by omega))) (fun f _ => Or.inl (sI_ne (by omega)))
theorem isof_end {σ : sn_FS} (h : PlanOk σ) {e : Nat} (he : e < 2 * nl σ) : isof σ (e / 2) (ex σ e) (ot σ e) = true := by
  obtain ⟨p1, p2, p3, p4⟩ := h.2.2 (e / 2) (by omega)
  unfold isof ex ot
  simp only [Bool.and_eq_true, decide_eq_true_eq]
  split <;> omega
theorem mem_setOf {σ : sn_FS} {l x n : Nat} (hl : l < nl σ) (h : isof σ l x n = true) : l ∈ setOf σ x n := by
  unfold setOf setFrom
  refine List.mem_filter.mpr ⟨List.mem_range'_1.mpr (by omega), h⟩
theorem nb_of {σ : sn_FS} (hP : PlanOk σ) {l x n : Nat} (hl : l < nl σ) (h : isof σ l x n = true) : nb σ x n = true := by
  rw [nb_len hP]
  exact decide_eq_true (List.length_pos_of_mem (mem_setOf hl h))
theorem nb_end {σ : sn_FS} (h : PlanOk σ) {e : Nat} (he : e < 2 * nl σ) : nb σ (ex σ e) (ot σ e) = true := nb_of h (by omega) (isof_end h he)
theorem en_ex {σ : sn_FS} (h : PlanOk σ) {e : Nat} (he : e < 2 * nl σ) : en σ (e / 2) (ex σ e) = e := by
  obtain ⟨p1, p2, p3, p4⟩ := h.2.2 (e / 2) (by omega)
  unfold en ex
  by_cases c : e % 2 = 0
  · simp only [c, if_true]; omega
  · simp only [c, if_false]; rw [if_neg (by omega)]; omega
theorem en_half {σ : sn_FS} {l x : Nat} : en σ l x / 2 = l := by
  unfold en
  split <;> omega
section Ends
variable {kk : Nat → Nat} {σ η : sn_FS}
theorem x_after (h : kk 2 = 1) {v : Int32} {K : Int32 → sn_M} : c_I (f_Ck_after 2 v) K (Kap kk σ η) = K (σ.1 6 0 + v) (Kap kk σ η) := by
  have : f_Ck_after 2 v (Kap kk σ η) = some (some (.int (σ.1 6 0 + v)), Kap kk σ η) := by
    simp only [f_Ck_after, x_gI, h, if_true, rd_s2_0, r_I]
  rw [x_cI this]
theorem fl_stop {e : Nat} (h : kk (aW e) = 10) : f_Wi_stop (aW e) (Kap kk σ η) = some (none, Kap kk (sI (sI σ 20 e 0) 21 e (-1)) η) := by
  simp only [f_Wi_stop, x_pI, h, if_true, wr_W5, wr_W6, r_V]
  rw [sI_sw (by decide)]
theorem fl_fallOut (hK : KOk kk σ) {e : Nat} (he : e < 2 * nl σ) : f_En_fallOut (aE e) (Kap kk σ η) = some (none, Kap kk (S_out e σ) η) := by
  obtain ⟨⟨k1, k2, k3, k4, k5, k6, k7, k8, k9, k10, k11, k12, k13, k14, k15, k16, k17, k18, k19, k20, k21, k22⟩, kE, kF, kP, k4s⟩ := id hK
  obtain ⟨e1, e2, e3, e4, e5, e6, e7⟩ := kE e he
  simp only [f_En_fallOut, x_pI, x_gR, x_nn, e1, e3, k2, if_true, wr_E7, rr_E0, rr_E4, x_after k2, wr_E8, x_cV (fl_stop e3), r_V, S_out, sn_upE, Nat.reduceEqDiff, reduceIte]
theorem k_end_eq (hP : PlanOk σ) (hC : CurOk σ) {e f : Nat} (he : e < 2 * nl σ) (hf : f < 144) (hx : f / 24 = ex σ e) {k : Nat} (hk : k = 41 ∨ k = 43) : (k_end σ (f / 24) (σ.1 k f) = some (aE e)) ↔ σ.1 k f = nI (e / 2) := by
  have hn10 := hP.2.1
  have h : σ.1 k f = -1 ∨ ∃ l, l < nl σ ∧ σ.1 k f = nI l := by rcases hk with rfl | rfl; exact (hC f hf).1; exact (hC f hf).2
  rw [hx]
  rcases h with q | ⟨l, hl, q⟩
  · rw [q]
    refine ⟨fun z => ?_, fun z => absurd z.symm (nI_m1 (by omega))⟩
    rw [k_end_none.mpr rfl] at z; cases z
  · rw [q, k_end_some (by omega)]
    constructor
    · intro z
      have : aE (en σ l (ex σ e)) = aE e := Option.some.inj z
      have h2 : en σ l (ex σ e) = e := by unfold aE at this; omega
      rw [← h2, en_half]
    · intro z
      have : l = e / 2 := nI_inj (by omega) (by omega) z
      rw [this, en_ex hP he]
theorem S_ff1_SP {x n l s : Nat} : SP σ (S_ff1 x n l s σ) := ⟨fun i => S_ff1_I σ (by decide), fun i => S_ff1_I σ (by decide), fun i => S_ff1_I σ (by decide)⟩
theorem S_ff1_Cur {x n l s : Nat} (h : CurOk σ) (hl : l < nl σ) : CurOk (S_ff1 x n l s σ) := by
  unfold S_ff1
  split
  · refine h.mk' ((((SP.sI (k := 41) (by decide)).tr (SP.sI (k := 42) (by decide))).tr (SP.sI (k := 43) (by decide))).tr (SP.sI (k := 44) (by decide))) (fun f _ => ?_) (fun f _ => ?_)
    · simp only [sn_upE, Nat.reduceEqDiff, reduceIte]
      by_cases c : f = fl x n s
      · simp only [c, if_true]; exact Or.inr (Or.inl trivial)
      · simp only [c, if_false]; exact Or.inl trivial
    · simp only [sn_upE, Nat.reduceEqDiff, reduceIte]
      by_cases c : f = fl x n s
      · simp only [c, if_true]; exact Or.inr (Or.inr ⟨l, hl, rfl⟩)
      · simp only [c, if_false]; exact Or.inl trivial
  · exact h
theorem fl_hold {f : Nat} (hf : kk (aF f) = 3) {e : Nat} (hr : k_end σ (f / 24) (nI (e / 2)) = some (aE e)) : f_Fl_holdFor (aF f) (some (aE e)) (Kap kk σ η) = some (none, Kap kk (sI (sI (sI (sI σ 41 f (-1)) 42 f 1) 43 f (nI (e / 2))) 44 f 0) η) := by
  have h0 : SP σ (sI σ 42 f 1) := SP.sI (by decide)
  have w1 : u_R (Kap kk (sI σ 42 f 1) η) (aF f) 3 (some (aE e)) = Kap kk (sI (sI σ 42 f 1) 43 f (nI (e / 2))) η := by
    rw [← hr, ← h0.kend]; exact wR_F3
  have w2 : u_R (Kap kk (sI (sI σ 42 f 1) 43 f (nI (e / 2))) η) (aF f) 1 none = Kap kk (sI (sI (sI σ 42 f 1) 43 f (nI (e / 2))) 41 f (-1)) η := by
    rw [← (k_end_none (σ := sI (sI σ 42 f 1) 43 f (nI (e / 2))) (x := f / 24) (v := -1)).mpr rfl]; exact wR_F1
  simp only [f_Fl_holdFor, x_pI, x_pR, hf, if_true, wr_F2, w1, w2, wr_F4, r_V]
  rw [sI_sw (k := 43) (k' := 41) (by decide), sI_sw (k := 42) (k' := 41) (by decide)]
theorem fl_takeOut_39 {x n e : Nat} (hx : x < 6) (hn : n < 6) : ∀ (r fuel : Nat) (σ η : sn_FS), r ≤ 4 → r < fuel → KOk kk σ → PlanOk σ → CurOk σ → e < 2 * nl σ → ex σ e = x → ot σ e = n → f_Tr_takeOut_39 11 fuel (some (aE e)) (nI (4 - r)) (Kap kk σ η) = some (some (.int 1), Kap kk (S_ff x n (e / 2) r σ) η)
  | 0, fuel + 1, σ, η, _, _, _, _, _, _, _, _ => by
    have o1 : ((4 : Int32) ≤ nI (4 - 0)) = True := eq_true (by decide)
    simp only [f_Tr_takeOut_39, o1, if_true, S_ff, r_Z]
    simp
  | r + 1, fuel + 1, σ, η, hr, hf, hK, hP, hC, he, ex1, ot1 => by
    have hs : 4 - (r + 1) < 4 := by omega
    have hss : 4 - (r + 1) + 1 = 4 - r := by omega
    have hX0 : S_ff x n (e / 2) (r + 1) σ = S_ff x n (e / 2) r (S_ff1 x n (e / 2) (4 - (r + 1)) σ) := rfl
    generalize hS : 4 - (r + 1) = s at hs hss hX0
    obtain ⟨⟨k1, k2, k3, k4, k5, k6, k7, k8, k9, k10, k11, k12, k13, k14, k15, k16, k17, k18, k19, k20, k21, k22⟩, kE, kF, kP, k4s⟩ := id hK
    obtain ⟨e1, e2, e3, e4, e5, e6, e7⟩ := kE e he
    have o1 : ((4 : Int32) ≤ nI s) = False := eq_false (nI_ge (b := 4) hs (by omega))
    have hb : nb σ x n = true := by rw [← ex1, ← ot1]; exact nb_end hP he
    obtain ⟨f1, f2, f3, f4⟩ := hK.flow hx hn hs hb
    have hf1 := fl_lt hx hn hs
    obtain ⟨g1, g2, -⟩ := fl_x (x := x) hn hs
    have hfl : f_Tr_flowTo 11 (nI x) (nI n) (nI s) (Kap kk σ η) = some (some (va_rf (some (aF (fl x n s)))), Kap kk σ η) := by rw [fl_flowTo hK hx hn hs, fR, if_pos hb]
    have o2 : (some (aF (fl x n s)) = none) = False := by simp
    have hq := k_end_eq hP hC he hf1 (by rw [g1, ex1]) (Or.inl rfl)
    have ih := fl_takeOut_39 (e := e) hx hn r fuel (S_ff1 x n (e / 2) s σ) η (by omega) (by omega) (hK.sp S_ff1_SP) (S_ff1_SP.plan hP) (S_ff1_Cur hC (by omega)) (by rw [S_ff1_SP.nlE]; exact he) (by rw [S_ff1_SP.exE]; exact ex1) (by rw [S_ff1_SP.otE]; exact ot1)
    rw [hX0, ← ih]
    simp only [x_ite, f_Tr_takeOut_39, o1, if_false, x_gI, e1, if_true, rd_E2, rd_E3, ex1, ot1, x_nn, k11, x_cR hfl, o2, x_gR, f1, rr_F1, hq, f_Tr_takeOut_79, nI_1, hss]
    by_cases c : σ.1 41 (fl x n s) = nI (e / 2)
    · have hX : S_ff1 x n (e / 2) s σ = sI (sI (sI (sI σ 41 (fl x n s) (-1)) 42 (fl x n s) 1) 43 (fl x n s) (nI (e / 2))) 44 (fl x n s) 0 := by unfold S_ff1; exact if_pos c
      have hr2 : k_end σ (fl x n s / 24) (nI (e / 2)) = some (aE e) := by have := hq.mpr c; rw [c] at this; exact this
      simp only [c, not_true_eq_false, if_false, x_cV (fl_hold f1 hr2), hX]
    · have hX : S_ff1 x n (e / 2) s σ = σ := by unfold S_ff1; exact if_neg c
      simp only [c, not_false_eq_true, if_true, hX]
theorem S_out_SP {e : Nat} : SP σ (S_out e σ) := ⟨fun i => S_out_I σ (by decide), fun i => S_out_I σ (by decide), fun i => S_out_I σ (by decide)⟩
theorem fl_takeOut (hK : KOk kk σ) (hP : PlanOk σ) (hC : CurOk σ) {e : Nat} (he : e < 2 * nl σ) : f_Tr_takeOut 11 (some (aE e)) (Kap kk σ η) = some (some (.int (if σ.1 10 e = 5 then 1 else 0)), Kap kk (S_takeOut e σ) η) := by
  obtain ⟨⟨k1, k2, k3, k4, k5, k6, k7, k8, k9, k10, k11, k12, k13, k14, k15, k16, k17, k18, k19, k20, k21, k22⟩, kE, kF, kP, k4s⟩ := id hK
  obtain ⟨e1, e2, e3, e4, e5, e6, e7⟩ := kE e he
  obtain ⟨x1, x2, x3⟩ := hP.ex_lt he
  have o1 : ((1 : Int32) = 0) = False := eq_false (by decide)
  by_cases c : σ.1 10 e = 5
  · have hs : SP σ (sI (S_out e σ) 40 e (σ.1 6 0 + 10)) := S_out_SP.tr (SP.sI (by decide))
    have hC2 : CurOk (sI (S_out e σ) 40 e (σ.1 6 0 + 10)) := hC.mk' hs (fun f _ => Or.inl (by rw [sI_ne (by decide), S_out_I σ (by decide)])) (fun f _ => Or.inl (by rw [sI_ne (by decide), S_out_I σ (by decide)]))
    have h39 := fl_takeOut_39 (kk := kk) x1 x2 4 sn_fuel (sI (S_out e σ) 40 e (σ.1 6 0 + 10)) η (by omega) (by unfold sn_fuel; omega) (hK.sp hs) (hs.plan hP) hC2 (e := e) (by rw [hs.nlE]; exact he) (by rw [hs.exE]) (by rw [hs.otE])
    have h39 : f_Tr_takeOut_39 11 sn_fuel (some (aE e)) 0 (Kap kk (sI (S_out e σ) 40 e (σ.1 6 0 + 10)) η) = _ := h39
    have hS : S_takeOut e σ = S_ff (ex σ e) (ot σ e) (e / 2) 4 (sI (S_out e σ) 40 e (σ.1 6 0 + 10)) := by unfold S_takeOut; exact if_pos c
    have e6' : (S_out e σ).1 6 0 = σ.1 6 0 := S_out_I σ (by decide)
    simp only [x_ite, f_Tr_takeOut, x_gI, e1, if_true, rd_E7, c, not_true_eq_false, if_false, f_Tr_takeOut_13, x_nn, x_cV (fl_fallOut hK he), o1, not_false_eq_true, x_gR, k11, rr_s11_1, k2, x_after k2, e6', x_pI, wr_E12, h39, hS]
  · have hS : S_takeOut e σ = S_out e σ := by unfold S_takeOut; exact if_neg c
    simp only [x_ite, f_Tr_takeOut, x_gI, e1, if_true, rd_E7, c, not_false_eq_true, if_false, f_Tr_takeOut_13, x_nn, x_cV (fl_fallOut hK he), not_true_eq_false, hS, r_Z]
    simp
theorem HR.mk' {σ τ η : sn_FS} (h : HR σ η) (hs : SP σ τ) (hI : ∀ k i, k = 27 ∨ k = 29 ∨ k = 47 ∨ k = 24 ∨ (30 ≤ k ∧ k ≤ 34) → τ.1 k i = σ.1 k i) (h10 : ∀ i, τ.1 10 i = 3 → σ.1 10 i = 3) (hJ : τ.2 = σ.2) : HR τ η := by
  refine ⟨h.1.mk' hs (fun t ht i _ => ⟨congrArg Int32.toNatClampNeg (hI _ _ ?_), fun j _ => by rw [hJ]⟩) (fun t ht i => ⟨rfl, fun j => rfl⟩), h.2.1.mk' hs (fun k' i h1 h2 => hI _ _ (by omega)) (fun i => by rw [hJ]) (fun e j => ⟨rfl, rfl⟩), h.2.2.mk' hs h10 (fun i => hI _ _ (by decide)) (fun e => rfl)⟩
  rcases t3 ht with rfl | rfl | rfl <;> decide
theorem S_ff_J {x n l : Nat} : ∀ (r : Nat) (σ : sn_FS), (S_ff x n l r σ).2 = σ.2
  | 0, σ => rfl
  | r + 1, σ => by
    refine (S_ff_J r _).trans ?_
    unfold S_ff1
    split <;> rfl
theorem S_takeOut_J {e : Nat} : (S_takeOut e σ).2 = σ.2 := by
  unfold S_takeOut
  split
  · exact S_ff_J 4 _
  · rfl
theorem S_takeOut_10 {e i : Nat} : (S_takeOut e σ).1 10 i = if i = e then 0 else σ.1 10 i := by
  have h : (S_out e σ).1 10 i = if i = e then 0 else σ.1 10 i := by
    simp only [S_out, sn_upE, Nat.reduceEqDiff, reduceIte]
  unfold S_takeOut
  split
  · rw [S_ff_I (by decide), sI_ne (by decide)]; exact h
  · exact h
theorem HR.takeOut (h : HR σ η) {e : Nat} : HR (S_takeOut e σ) η := by
  refine h.mk' (S_takeOut_SP σ) (fun k i hk => S_takeOut_I σ (by omega)) (fun i => ?_) S_takeOut_J
  rw [S_takeOut_10]
  split
  · intro q; exact absurd q (by decide)
  · exact id
def LTOk (σ : sn_FS) : Prop := ∀ e, e < 20 → (∃ v, v < 16 ∧ σ.1 37 e = nI v) ∧ ∃ v, v < 128 ∧ σ.1 13 e = nI v
/-- looking would change nothing -/
def LkD (σ : sn_FS) (x : Nat) : Prop := ∀ d n, d < 6 → n < 6 → ¬ d = x → ¬ n = d → ¬ n = x → nb σ x n = true → opb σ x n 0 = true → σ.1 49 (36 * x + 6 * n + d) = isI (way σ x d 0 none) n
theorem LkD.look1 {x d n : Nat} (h : LkD σ x) (hd : d < 6) (hn : n < 6) (hdx : ¬ d = x) : S_look1 x d (way σ x d 0 none) n σ = σ := by
  unfold S_look1
  split
  · rfl
  · rename_i c
    simp only [not_or, Bool.not_eq_false] at c
    rw [if_pos (h d n hd hn hdx c.1 c.2.1 c.2.2.1 c.2.2.2)]
theorem LkD.look {x : Nat} (h : LkD σ x) : S_look x σ = σ := by
  rw [S_look_C]
  have : ∀ r, r ≤ 36 → S_lookC x r σ = σ := by
    intro r
    induction r with
    | zero => intro _; rfl
    | succ r ih =>
      intro hr
      have e1 : (if (36 - (r + 1)) / 6 = x then σ else S_look1 x ((36 - (r + 1)) / 6) (way σ x ((36 - (r + 1)) / 6) 0 none) ((36 - (r + 1)) % 6) σ) = σ := by
        split
        · rfl
        · rename_i c; exact h.look1 (by omega) (by omega) c
      simp only [S_lookC, e1]
      exact ih (by omega)
  exact this 36 (by omega)
theorem opb_eq {σ τ : sn_FS} (h : ∀ k i, k = 41 ∨ k = 42 → τ.1 k i = σ.1 k i) : opb τ = opb σ := by funext a b c; simp only [opb, h 41 _ (by decide), h 42 _ (by decide)]
theorem LkD.mk' {σ τ : sn_FS} {x : Nat} (h : LkD σ x) (hs : SP σ τ) (h1 : ∀ k i, k = 41 ∨ k = 42 ∨ k = 48 ∨ k = 49 ∨ k = 50 ∨ k = 51 → τ.1 k i = σ.1 k i) : LkD τ x := by
  intro d n hd hn a b c e f
  rw [h1 49 _ (by decide), way_eq hs (fun k i q => h1 k i (by omega))]
  rw [hs.nbE] at e
  rw [opb_eq (fun k i q => h1 k i (by omega))] at f
  exact h d n hd hn a b c e f
/-- the words of a changeover -/
theorem fl_overOf (hK : KOk kk σ) (hP : PlanOk σ) (hL : LTOk σ) {e kd : Nat} (he : e < 2 * nl σ) (hkd : kd < 16) : f_Tr_overOf (some (aE e)) (nI kd) (Kap kk σ η) = some (some (.long (wC (kd, ex σ e, ot σ e, 0, e / 2 + 16 * (σ.1 37 e).toNatClampNeg, (σ.1 13 e).toNatClampNeg, 0))), Kap kk σ η) := by
  obtain ⟨⟨k1, k2, k3, k4, k5, k6, k7, k8, k9, k10, k11, k12, k13, k14, k15, k16, k17, k18, k19, k20, k21, k22⟩, kE, kF, kP, k4s⟩ := id hK
  obtain ⟨e1, e2, e3, e4, e5, e6, e7⟩ := kE e he
  obtain ⟨x1, x2, x3⟩ := hP.ex_lt he
  have hn10 := hP.2.1
  obtain ⟨⟨v, hv, ev⟩, ⟨t, ht, et⟩⟩ := hL e (by omega)
  have hmk : MOk (kd, ex σ e, ot σ e, 0, e / 2 + 16 * v, t, 0) := ⟨hkd, x1, x2, (by omega : 0 < 4), (by omega : e / 2 + 16 * v < 256), (by omega : t < 65536), (by omega : 0 < 9)⟩
  have hof := fl_of hmk (Kap kk σ η)
  rw [nI_0] at hof
  have e9 : nI (e / 2) + (16 : Int32) * nI v = nI (e / 2 + 16 * v) := by
    have : (16 : Int32) * nI v = nI (16 * v) := pk_mul 16 v
    rw [this, nI_add]
  rw [ev, et, nI_clamp (by omega), nI_clamp (by omega)]
  simp only [f_Tr_overOf, x_gI, x_gR, e1, e3, if_true, rd_E1, rd_E9, rd_E2, rd_E3, rr_E4, rd_W2, n_I, ev, et, e9, x_cJ hof, r_J]
theorem MV_over (hP : PlanOk σ) (hL : LTOk σ) {e kd : Nat} (he : e < 2 * nl σ) (hkd : kd = 1 ∨ kd = 2) : MV σ (kd, ex σ e, ot σ e, 0, e / 2 + 16 * (σ.1 37 e).toNatClampNeg, (σ.1 13 e).toNatClampNeg, 0) := by
  obtain ⟨x1, x2, x3⟩ := hP.ex_lt he
  have hn10 := hP.2.1
  obtain ⟨⟨v, hv, ev⟩, ⟨t, ht, et⟩⟩ := hL e (by omega)
  rw [ev, et, nI_clamp (by omega), nI_clamp (by omega)]
  refine ⟨⟨(by omega : kd < 16), x1, x2, (by omega : 0 < 4), (by omega : e / 2 + 16 * v < 256), (by omega : t < 65536), (by omega : 0 < 9)⟩, (by omega : 0 < 8), (by omega : 1 ≤ kd), (by omega : kd ≤ 14), nb_end hP he, fun _ => ?_, (fun (q : kd = 3 ∨ kd = 4) => by omega), (fun (q : kd = 5 ∨ kd = 6) => by omega), (fun (q : kd = 7) => by omega)⟩
  have : (e / 2 + 16 * v) % 16 = e / 2 := by omega
  show (e / 2 + 16 * v) % 16 < nl σ ∧ isof σ ((e / 2 + 16 * v) % 16) (ex σ e) (ot σ e) = true ∧ t < 128
  rw [this]
  exact ⟨by omega, isof_end hP he, ht⟩
theorem fl_fail (hK : KOk kk σ) (hH : HR σ η) (hG : GvOk σ) (hT : ToldOk σ) (hC : CurOk σ) (hL : LTOk σ) {e : Nat} (he : e < 2 * nl σ) (hlk : σ.1 10 e ≠ 5 → LkD σ (ex σ e)) : Run kk (f_Tr_fail 11 (some (aE e))) σ η none (S_fail e false σ) := by
  obtain ⟨⟨k1, k2, k3, k4, k5, k6, k7, k8, k9, k10, k11, k12, k13, k14, k15, k16, k17, k18, k19, k20, k21, k22⟩, kE, kF, kP, k4s⟩ := id hK
  obtain ⟨e1, e2, e3, e4, e5, e6, e7⟩ := kE e he
  obtain ⟨x1, x2, x3⟩ := hG.1.ex_lt he
  have hto := fl_takeOut (η := η) hK hG.1 hC he
  have o1 : ((1 : Int32) = 0) = False := eq_false (by decide)
  by_cases c : σ.1 10 e = 5
  · rw [if_pos c] at hto
    have hS : S_fail e false σ = S_look (ex σ e) (S_other (ex σ e) (ot σ e) 0 (S_over e σ) (S_takeOut e σ)) := by unfold S_fail; rw [if_pos ⟨c, rfl⟩]
    have hs := S_takeOut_SP (e := e) σ
    have hK2 := hK.sp hs
    have hG2 := S_takeOut_Gv (e := e) hG
    have hT2 : ToldOk (S_takeOut e σ) := hT.mk' (fun i => S_takeOut_I σ (by decide)) (fun i => S_takeOut_I σ (by decide))
    have hL2 : LTOk (S_takeOut e σ) := fun e' h' => by rw [S_takeOut_I σ (by decide), S_takeOut_I σ (by decide)]; exact hL e' h'
    have hov := fl_overOf (η := η) hK2 (hs.plan hG.1) hL2 (e := e) (kd := 1) (by rw [hs.nlE]; exact he) (by decide)
    rw [hs.exE, hs.otE, S_takeOut_I σ (by decide), S_takeOut_I σ (by decide)] at hov
    have hov : f_Tr_overOf (some (aE e)) 1 (Kap kk (S_takeOut e σ) η) = _ := hov
    have hmv : MV (S_takeOut e σ) (1, ex σ e, ot σ e, 0, e / 2 + 16 * (σ.1 37 e).toNatClampNeg, (σ.1 13 e).toNatClampNeg, 0) := by rw [MV.sp hs]; exact MV_over hG.1 hL he (Or.inl rfl)
    obtain ⟨θ, a1, a2, a3⟩ := fl_other hK2 (hH.takeOut (e := e)) hG2 hT2 x1 x2 hmv
    have a1 : f_Tr_goOtherWay 11 (nI (ex σ e)) (nI (ot σ e)) (wC (1, ex σ e, ot σ e, 0, e / 2 + 16 * (σ.1 37 e).toNatClampNeg, (σ.1 13 e).toNatClampNeg, 0)) (Kap kk (S_takeOut e σ) η) = some (none, Kap kk (S_other (ex σ e) (ot σ e) 0 (S_over e σ) (S_takeOut e σ)) θ) := a1
    have a2 : HR (S_other (ex σ e) (ot σ e) 0 (S_over e σ) (S_takeOut e σ)) θ := a2
    have hs3 : SP (S_takeOut e σ) (S_other (ex σ e) (ot σ e) 0 (S_over e σ) (S_takeOut e σ)) := ⟨fun i => S_other_I _ (by decide), fun i => S_other_I _ (by decide), fun i => S_other_I _ (by decide)⟩
    have hex3 : ex (S_other (ex σ e) (ot σ e) 0 (S_over e σ) (S_takeOut e σ)) = ex σ := (hs3.exE).trans hs.exE
    obtain ⟨θ2, b1, b2, b3⟩ := fl_look (hK2.sp hs3) a2 (S_other_Gv hG2) (hT2.mk' (fun i => S_other_I _ (by decide)) (fun i => S_other_I _ (by decide))) x1
    rw [hS]
    refine ⟨θ2, ?_, b2, a3.tr b3⟩
    simp only [x_ite, f_Tr_fail, f_Tr_fail_33, x_nn, k11, if_true, x_cI hto, o1, if_false, x_gI, e1, rd_E2, rd_E3, hs.exE, hs.otE, x_cJ hov, x_cV a1, hex3, x_cV b1, r_V]
  · rw [if_neg c] at hto
    have hT0 : S_takeOut e σ = S_out e σ := by unfold S_takeOut; exact if_neg c
    have hS : S_fail e false σ = S_takeOut e σ := by
      unfold S_fail
      rw [if_neg (fun q => c q.1)]
      exact ((hlk c).mk' (S_takeOut_SP σ) (fun k i q => by rw [hT0]; exact S_out_I σ (by omega))).look
    rw [hS]
    refine ⟨η, ?_, hH.takeOut, PE.rf⟩
    simp only [x_ite, f_Tr_fail, f_Tr_fail_33, x_nn, k11, if_true, x_cI hto, r_V]
end Ends
