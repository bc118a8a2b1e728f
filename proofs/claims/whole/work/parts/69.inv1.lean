/-! LAYER 2: the invariant kept by failing, starting, coming up -/
theorem E1.mk' {σ τ : sn_FS} {e : Nat} (h : E1 σ e) (h1 : ∀ k, k ≠ 26 → τ.1 k e = σ.1 k e) (h2 : ∀ i, i < 32 → τ.1 26 (32 * e + i) = σ.1 26 (32 * e + i)) : E1 τ e := by
  obtain ⟨a1, a2, a3, a4, a5, a6, a7, a8, a9, a10, a11, a12, a13, a14⟩ := h
  have hc : cl τ 12 e = cl σ 12 e := by unfold cl; rw [h1 12 (by decide)]
  unfold E1
  simp only [h1 10 (by decide), h1 12 (by decide), h1 13 (by decide), h1 37 (by decide), h1 27 (by decide), h1 21 (by decide), h1 20 (by decide), h1 40 (by decide), h1 29 (by decide), h1 16 (by decide), h1 17 (by decide), h1 22 (by decide), h1 30 (by decide), h1 31 (by decide), h1 33 (by decide), h1 24 (by decide), hc]
  refine ⟨a1, a2, a3, a4, ?_, a6, a7, a8, a9, a10, a11, a12, a13, a14⟩
  obtain ⟨o, b1, b2, b3, b4⟩ := a5
  exact ⟨o, b1, b2, b3, fun i hi => by rw [h2 i (by omega)]; exact b4 i hi⟩
theorem F1.mk' {σ τ : sn_FS} {x n s : Nat} (h : F1 σ x n s) (hs : SP σ τ) (h1 : ∀ k, 41 ≤ k → k ≤ 47 → k ≠ 45 → k ≠ 46 → τ.1 k (fl x n s) = σ.1 k (fl x n s)) (h2 : ∀ l, l < nl σ → isof σ l x n = true → σ.1 41 (fl x n s) = nI l → σ.1 10 (en σ l x) = 5 → τ.1 10 (en σ l x) = 5) : F1 τ x n s := by
  obtain ⟨a1, a2⟩ := h
  unfold F1
  rw [h1 41 (by decide) (by decide) (by decide) (by decide), h1 42 (by decide) (by decide) (by decide) (by decide), h1 43 (by decide) (by decide) (by decide) (by decide), h1 44 (by decide) (by decide) (by decide) (by decide), h1 47 (by decide) (by decide) (by decide) (by decide), hs.nlE, hs.isofE, hs.enE]
  refine ⟨?_, a2⟩
  rcases a1 with q | ⟨l, b1, b2, b3, b4⟩
  · exact Or.inl q
  · exact Or.inr ⟨l, b1, b2, b3, h2 l b1 b2 b3 b4⟩
theorem en_is {σ : sn_FS} (hP : PlanOk σ) {e l x n : Nat} (hl : l < nl σ) (h : isof σ l x n = true) (he : en σ l x = e) : e / 2 = l ∧ x = ex σ e ∧ n = ot σ e := by
  have h1 : e / 2 = l := by rw [← he, en_half]
  obtain ⟨p1, p2, p3, p4⟩ := hP.2.2 l hl
  simp only [isof, Bool.and_eq_true, decide_eq_true_eq] at h
  refine ⟨h1, ?_⟩
  unfold ex ot
  rw [h1]
  unfold en at he
  by_cases c : lo σ l = x
  · rw [if_pos c] at he
    rw [if_pos (by omega), if_pos (by omega)]; omega
  · rw [if_neg c] at he
    rw [if_neg (by omega), if_neg (by omega)]; omega
/-- one flow has changed -/
theorem WI.mkF {σ τ : sn_FS} (hw : WI σ) {x n s : Nat} (hx : x < 6) (hn : n < 6) (hs : s < 4) (h : ∀ k i, k < 41 ∨ 47 < k → τ.1 k i = σ.1 k i) (hf : ∀ k i, i ≠ fl x n s → τ.1 k i = σ.1 k i) (hF : F1 τ x n s) (hB : ∃ v, v < 256 ∧ τ.1 45 (fl x n s) = nI v) (h47 : ∃ w, w ≤ 64 ∧ τ.1 47 (fl x n s) = nI w) : WI τ := by
  obtain ⟨w1, w2, w3, w4, w5, w6, w7⟩ := hw
  have hsp : SP σ τ := ⟨fun i => h _ _ (by decide), fun i => h _ _ (by decide), fun i => h _ _ (by decide)⟩
  refine ⟨hsp.plan w1, fun e he => by rw [h _ _ (by decide)]; exact w2 e he, fun f hf2 => ?_, w4.mk' (fun i => h _ _ (by decide)) (fun i => h _ _ (by decide)), fun f hf2 => ?_, fun e he => ?_, fun x' n' s' hx' hn' hs' => ?_⟩
  · by_cases c : f = fl x n s
    · subst c; exact h47
    · rw [hf _ _ c]; exact w3 f hf2
  · by_cases c : f = fl x n s
    · subst c; exact hB
    · rw [hf _ _ c]; exact w5 f hf2
  · obtain ⟨a1, a2, a3, a4, a5, a6, a7, a8, a9, a10, a11, a12, a13, a14⟩ := w6 e he
    have hc : cl τ 12 e = cl σ 12 e := by unfold cl; rw [h _ _ (by decide)]
    unfold E1
    simp only [h 10 _ (by decide), h 12 _ (by decide), h 13 _ (by decide), h 37 _ (by decide), h 27 _ (by decide), h 21 _ (by decide), h 20 _ (by decide), h 40 _ (by decide), h 29 _ (by decide), h 16 _ (by decide), h 17 _ (by decide), h 22 _ (by decide), h 30 _ (by decide), h 31 _ (by decide), h 33 _ (by decide), h 24 _ (by decide), h 26 _ (by decide), hc]
    exact ⟨a1, a2, a3, a4, a5, a6, a7, a8, a9, a10, a11, a12, a13, a14⟩
  · by_cases c : fl x' n' s' = fl x n s
    · have : x' = x ∧ n' = n ∧ s' = s := by unfold fl at c; omega
      obtain ⟨rfl, rfl, rfl⟩ := this
      exact hF
    · exact (w7 x' n' s' hx' hn' hs').mk' hsp (fun k _ _ _ _ => hf _ _ c) (fun l _ _ _ q => by rw [h _ _ (by decide)]; exact q)
/-- one end has changed -/
def eF (k : Nat) : Prop := 10 ≤ k ∧ k ≤ 40 ∧ k ≠ 26
theorem WI.mkE {σ τ : sn_FS} (hw : WI σ) {e : Nat} (he : e < 20) (h : ∀ k i, k < 10 ∨ 40 < k → τ.1 k i = σ.1 k i) (hi : ∀ k i, i ≠ e → k ≠ 26 → τ.1 k i = σ.1 k i) (h26 : ∀ e' i, e' ≠ e → i < 32 → τ.1 26 (32 * e' + i) = σ.1 26 (32 * e' + i)) (hE : E1 τ e) (h29 : ∃ w, w ≤ 64 ∧ τ.1 29 e = nI w) (h5 : σ.1 10 e = 5 → τ.1 10 e = 5 ∨ ∀ s, s < 4 → ¬ σ.1 41 (fl (ex σ e) (ot σ e) s) = nI (e / 2)) : WI τ := by
  obtain ⟨w1, w2, w3, w4, w5, w6, w7⟩ := hw
  have hsp : SP σ τ := ⟨fun i => h _ _ (by decide), fun i => h _ _ (by decide), fun i => h _ _ (by decide)⟩
  refine ⟨hsp.plan w1, fun e' he' => ?_, fun f hf2 => by rw [h _ _ (by decide)]; exact w3 f hf2, w4.mk' (fun i => h _ _ (by decide)) (fun i => h _ _ (by decide)), fun f hf2 => by rw [h _ _ (by decide)]; exact w5 f hf2, fun e' he' => ?_, fun x n s hx hn hs => ?_⟩
  · by_cases c : e' = e
    · subst c; exact h29
    · rw [hi _ _ c (by decide)]; exact w2 e' he'
  · by_cases c : e' = e
    · subst c; exact hE
    · exact (w6 e' he').mk' (fun k hk => hi _ _ c hk) (fun i hi2 => h26 e' i c hi2)
  · refine (w7 x n s hx hn hs).mk' hsp (fun k k1 k2 k3 k4 => h _ _ (by omega)) (fun l b1 b2 b3 b4 => ?_)
    by_cases c : en σ l x = e
    · rw [c] at b4 ⊢
      rcases h5 b4 with q | q
      · exact q
      · obtain ⟨g1, g2, g3⟩ := en_is w1 b1 b2 c
        rw [g2, g3, ← g1] at b3
        exact absurd b3 (q s hs)
    · rw [hi _ _ c (by decide)]; exact b4
theorem S_ff_out {x n l k f : Nat} : ∀ (r : Nat) (σ : sn_FS), (∀ s, s < 4 → 4 - r ≤ s → f ≠ fl x n s) → r ≤ 4 → (S_ff x n l r σ).1 k f = σ.1 k f
  | 0, σ, _, _ => rfl
  | r + 1, σ, h, hr => by
    refine (S_ff_out r _ (fun s h1 h2 => h s h1 (by omega)) (by omega)).trans ?_
    have hne := h (4 - (r + 1)) (by omega) (by omega)
    unfold S_ff1
    split
    · rw [sI_nk hne, sI_nk hne, sI_nk hne, sI_nk hne]
    · rfl
theorem S_ff_in {x n l k s : Nat} : ∀ (r : Nat) (σ : sn_FS), s < 4 → 4 - r ≤ s → r ≤ 4 → (S_ff x n l r σ).1 k (fl x n s) = (S_ff1 x n l s σ).1 k (fl x n s)
  | 0, σ, h1, h2, _ => by omega
  | r + 1, σ, h1, h2, hr => by
    by_cases c : s = 4 - (r + 1)
    · subst c
      exact S_ff_out r _ (fun s' h3 h4 => by unfold fl; omega) (by omega)
    · refine (S_ff_in r _ h1 (by omega) (by omega)).trans ?_
      have hne : fl x n s ≠ fl x n (4 - (r + 1)) := by unfold fl; omega
      have h0 : ∀ k, (S_ff1 x n l (4 - (r + 1)) σ).1 k (fl x n s) = σ.1 k (fl x n s) := by
        intro k
        unfold S_ff1
        split
        · rw [sI_nk hne, sI_nk hne, sI_nk hne, sI_nk hne]
        · rfl
      generalize hτ : S_ff1 x n l (4 - (r + 1)) σ = τ at h0
      unfold S_ff1
      rw [h0 41]
      split
      · simp only [sn_upE, h0]
      · exact h0 k
theorem S_ff1_41 {σ : sn_FS} {x n l s : Nat} (hl : l < 2 ^ 31) : ¬ (S_ff1 x n l s σ).1 41 (fl x n s) = nI l := by
  unfold S_ff1
  split
  · rw [sI_ne (by decide), sI_ne (by decide), sI_ne (by decide), sI_same]
    intro q; exact nI_m1 hl q.symm
  · assumption
/-- the clock -/
def ClOk (σ : sn_FS) : Prop := ∃ L, L < 20000 ∧ σ.1 6 0 = nI L
theorem ClOk.at {σ τ : sn_FS} (h : ClOk σ) (h6 : τ.1 6 0 = σ.1 6 0) : ClOk τ := by unfold ClOk; rw [h6]; exact h
theorem ClOk.ne {σ : sn_FS} (h : ClOk σ) {v : Nat} (hv : v < 1000) (h0 : 0 < v) {w : Int32} (hw : w = nI v) : ¬ σ.1 6 0 + w = 0 := by
  obtain ⟨L, h1, h2⟩ := h
  rw [h2, hw, nI_add]
  intro q
  have := nI_inj (b := 0) (by omega) (by omega) q
  omega
/-- flows leave a link -/
theorem WI_ff1 {σ : sn_FS} (hw : WI σ) {x n l s : Nat} (hx : x < 6) (hn : n < 6) (hs : s < 4) (hl : l < nl σ) (his : isof σ l x n = true) : WI (S_ff1 x n l s σ) := by
  unfold S_ff1
  split
  · have hf := fl_lt hx hn hs
    refine hw.mkF hx hn hs (fun k i hk => ?_) (fun k i hi => ?_) ⟨?_, ?_⟩ ?_ ?_
    · rw [sI_ne (by omega), sI_ne (by omega), sI_ne (by omega), sI_ne (by omega)]
    · rw [sI_nk hi, sI_nk hi, sI_nk hi, sI_nk hi]
    · left
      rw [sI_ne (by decide), sI_ne (by decide), sI_ne (by decide), sI_same]
    · have hsp : SP σ (sI (sI (sI (sI σ 41 (fl x n s) (-1)) 42 (fl x n s) 1) 43 (fl x n s) (nI l)) 44 (fl x n s) 0) := (((SP.sI (k := 41) (by decide)).tr (SP.sI (k := 42) (by decide))).tr (SP.sI (k := 43) (by decide))).tr (SP.sI (k := 44) (by decide))
      right; left
      rw [hsp.nlE, hsp.isofE]
      simp only [sn_upE, Nat.reduceEqDiff, reduceIte]
      exact ⟨trivial, trivial, trivial, l, hl, his, rfl⟩
    · rw [sI_ne (by decide), sI_ne (by decide), sI_ne (by decide), sI_ne (by decide)]; exact hw.beg _ hf
    · rw [sI_ne (by decide), sI_ne (by decide), sI_ne (by decide), sI_ne (by decide)]; exact hw.2.2.1 _ hf
  · exact hw
theorem WI_ff {x n l : Nat} (hx : x < 6) (hn : n < 6) : ∀ (r : Nat) (σ : sn_FS), r ≤ 4 → WI σ → l < nl σ → isof σ l x n = true → WI (S_ff x n l r σ)
  | 0, σ, _, hw, _, _ => hw
  | r + 1, σ, hr, hw, hl, his => WI_ff hx hn r _ (by omega) (WI_ff1 hw hx hn (by omega) hl his) (by rw [S_ff1_SP.nlE]; exact hl) (by rw [S_ff1_SP.isofE]; exact his)
/-- the flows first, then the end -/
theorem S_ff_sI {x n l : Nat} {k i : Nat} {v : Int32} (hk : k < 41 ∨ 44 < k) : ∀ (r : Nat) (σ : sn_FS), S_ff x n l r (sI σ k i v) = sI (S_ff x n l r σ) k i v
  | 0, σ => rfl
  | r + 1, σ => by
    have h1 : S_ff1 x n l (4 - (r + 1)) (sI σ k i v) = sI (S_ff1 x n l (4 - (r + 1)) σ) k i v := by
      unfold S_ff1
      rw [sI_ne (by omega)]
      split
      · rcases hk with h | h
        · rw [← sI_sw (k' := k) (by omega), ← sI_sw (k' := k) (by omega), ← sI_sw (k' := k) (by omega), ← sI_sw (k' := k) (by omega)]
        · rw [sI_sw (k := k) (by omega), sI_sw (k := k) (by omega), sI_sw (k := k) (by omega), sI_sw (k := k) (by omega)]
      · rfl
    show S_ff x n l r (S_ff1 x n l (4 - (r + 1)) (sI σ k i v)) = _
    rw [h1]
    exact S_ff_sI hk r _
theorem E1_out {σ τ : sn_FS} {e : Nat} (h : E1 σ e) (h1 : ∀ k, k ≠ 10 → k ≠ 11 → k ≠ 20 → k ≠ 21 → k ≠ 40 → k ≠ 26 → τ.1 k e = σ.1 k e) (h2 : ∀ i, i < 32 → τ.1 26 (32 * e + i) = σ.1 26 (32 * e + i)) (t10 : τ.1 10 e = 0) (t20 : τ.1 20 e = 0) (t21 : τ.1 21 e = -1) (t40 : τ.1 40 e = 0 → τ.1 27 e = 0 ∧ τ.1 29 e = 0) : E1 τ e := by
  obtain ⟨a1, a2, a3, a4, a5, a6, a7, a8, a9, a10, a11, a12, a13, a14⟩ := h
  have hc : cl τ 12 e = cl σ 12 e := by unfold cl; rw [h1 12 (by decide) (by decide) (by decide) (by decide) (by decide) (by decide)]
  have g : ∀ k, (k ≠ 10 ∧ k ≠ 11 ∧ k ≠ 20 ∧ k ≠ 21 ∧ k ≠ 40 ∧ k ≠ 26) → τ.1 k e = σ.1 k e := fun k q => h1 k q.1 q.2.1 q.2.2.1 q.2.2.2.1 q.2.2.2.2.1 q.2.2.2.2.2
  have o3 : ¬ (0 : Int32) = 3 := by decide
  have o4 : ¬ (4 : Int32) ≤ 0 := by decide
  refine ⟨⟨0, by omega, t10⟩, by rw [g 12 (by decide)]; exact a2, by rw [g 13 (by decide)]; exact a3, by rw [g 37 (by decide)]; exact a4, ?_, fun _ => ⟨t21, t20, t40⟩, fun _ => t10, fun q => ?_, fun q => ?_, by rw [g 22 (by decide)]; exact a10, by rw [g 30 (by decide)]; exact a11, by rw [g 31 (by decide)]; exact a12, by rw [g 33 (by decide)]; exact a13, by rw [g 24 (by decide)]; exact a14⟩
  · obtain ⟨o, b1, b2, b3, b4⟩ := a5
    exact ⟨o, b1, by rw [g 27 (by decide)]; exact b2, Or.inl t21, fun i hi => by rw [h2 i (by omega), hc]; exact b4 i hi⟩
  · rw [t10] at q; exact absurd q o4
  · rw [t10] at q; exact absurd q o3
theorem WI_takeOut {σ : sn_FS} (hw : WI σ) (hcl : ClOk σ) {e : Nat} (he : e < 2 * nl σ) (h0 : ¬ σ.1 10 e = 0) : WI (S_takeOut e σ) := by
  have hn10 := hw.1.2.1
  have he20 : e < 20 := by omega
  have hE := hw.e1 he20
  obtain ⟨x1, x2, x3⟩ := hw.1.ex_lt he
  have h40 : σ.1 40 e = 0 := by
    by_cases c : σ.1 40 e = 0
    · exact c
    · exact absurd (hE.2.2.2.2.2.2.1 c) h0
  by_cases c : σ.1 10 e = 5
  · have hS : S_takeOut e σ = sI (sI (sI (sI (sI (S_ff (ex σ e) (ot σ e) (e / 2) 4 σ) 10 e 0) 11 e (σ.1 6 0 + 12)) 20 e 0) 21 e (-1)) 40 e (σ.1 6 0 + 10) := by
      unfold S_takeOut S_out
      rw [if_pos c, S_ff_sI (by decide), S_ff_sI (by decide), S_ff_sI (by decide), S_ff_sI (by decide), S_ff_sI (by decide)]
    rw [hS]
    have his := isof_end hw.1 he
    have hw2 := WI_ff x1 x2 4 σ (by omega) hw (by omega) his
    have hsp : SP σ (S_ff (ex σ e) (ot σ e) (e / 2) 4 σ) := ⟨fun i => S_ff_I (by decide) 4 σ, fun i => S_ff_I (by decide) 4 σ, fun i => S_ff_I (by decide) 4 σ⟩
    have hne := hcl.ne (v := 10) (by decide) (by decide) (w := 10) rfl
    generalize hτ : S_ff (ex σ e) (ot σ e) (e / 2) 4 σ = τ at hw2 hsp
    have h41 : ∀ s, s < 4 → ¬ τ.1 41 (fl (ex τ e) (ot τ e) s) = nI (e / 2) := fun s hs => by
      rw [hsp.exE, hsp.otE, ← hτ, S_ff_in 4 σ hs (by omega) (by omega)]
      exact S_ff1_41 (by omega)
    refine hw2.mkE he20 (fun k i hk => ?_) (fun k i hi hk => ?_) (fun e' i _ _ => ?_) (E1_out (hw2.e1 he20) (fun k q1 q2 q3 q4 q5 q6 => ?_) (fun i hi => ?_) ?_ ?_ ?_ ?_) ?_ (fun _ => Or.inr h41)
    · rw [sI_ne (by omega), sI_ne (by omega), sI_ne (by omega), sI_ne (by omega), sI_ne (by omega)]
    · rw [sI_nk hi, sI_nk hi, sI_nk hi, sI_nk hi, sI_nk hi]
    · rw [sI_ne (by decide), sI_ne (by decide), sI_ne (by decide), sI_ne (by decide), sI_ne (by decide)]
    · rw [sI_ne q5, sI_ne q4, sI_ne q3, sI_ne q2, sI_ne q1]
    · rw [sI_ne (by decide), sI_ne (by decide), sI_ne (by decide), sI_ne (by decide), sI_ne (by decide)]
    · simp only [sn_upE, Nat.reduceEqDiff, reduceIte]
    · simp only [sn_upE, Nat.reduceEqDiff, reduceIte]
    · simp only [sn_upE, Nat.reduceEqDiff, reduceIte]
    · rw [sI_same]; intro q; exact absurd q hne
    · rw [sI_ne (by decide), sI_ne (by decide), sI_ne (by decide), sI_ne (by decide), sI_ne (by decide)]; exact hw2.2.1 e he20
  · have hS : S_takeOut e σ = S_out e σ := by unfold S_takeOut; exact if_neg c
    rw [hS]
    unfold S_out
    refine hw.mkE he20 (fun k i hk => ?_) (fun k i hi hk => ?_) (fun e' i _ _ => ?_) (E1_out hE (fun k q1 q2 q3 q4 q5 q6 => ?_) (fun i hi => ?_) ?_ ?_ ?_ ?_) ?_ (fun q => absurd q c)
    · rw [sI_ne (by omega), sI_ne (by omega), sI_ne (by omega), sI_ne (by omega)]
    · rw [sI_nk hi, sI_nk hi, sI_nk hi, sI_nk hi]
    · rw [sI_ne (by decide), sI_ne (by decide), sI_ne (by decide), sI_ne (by decide)]
    · rw [sI_ne q4, sI_ne q3, sI_ne q2, sI_ne q1]
    · rw [sI_ne (by decide), sI_ne (by decide), sI_ne (by decide), sI_ne (by decide)]
    · simp only [sn_upE, Nat.reduceEqDiff, reduceIte]
    · simp only [sn_upE, Nat.reduceEqDiff, reduceIte]
    · simp only [sn_upE, Nat.reduceEqDiff, reduceIte]
    · simp only [sn_upE, Nat.reduceEqDiff, reduceIte]; intro q; exact (hE.2.2.2.2.2.1 c).2.2 q
    · rw [sI_ne (by decide), sI_ne (by decide), sI_ne (by decide), sI_ne (by decide)]; exact hw.2.1 e he20
theorem WI_fail {σ : sn_FS} (hw : WI σ) (hcl : ClOk σ) {e : Nat} (he : e < 2 * nl σ) (h0 : ¬ σ.1 10 e = 0) (b : Bool) : WI (S_fail e b σ) := by
  obtain ⟨x1, x2, x3⟩ := hw.1.ex_lt he
  have h1 := WI_takeOut hw hcl he h0
  unfold S_fail
  refine (QC_look ?_ x1).wi ?_
  · split
    · exact (QC_other h1 x1 x2 (by decide) _).wi h1
    · exact h1
  · split
    · exact (QC_other h1 x1 x2 (by decide) _).wi h1
    · exact h1
theorem WI_start {σ : sn_FS} (hw : WI σ) {e : Nat} (he : e < 2 * nl σ) (h0 : σ.1 10 e = 0) (h40 : σ.1 40 e = 0) : WI (S_start e σ) := by
  have hn10 := hw.1.2.1
  have he20 : e < 20 := by omega
  have hE := hw.e1 he20
  have o5 : ¬ σ.1 10 e = 5 := by rw [h0]; decide
  unfold S_start
  refine hw.mkE he20 (fun k i hk => ?_) (fun k i hi hk => ?_) (fun e' i _ _ => ?_) ?_ ?_ (fun q => absurd q o5)
  · rw [sI_ne (by omega), sI_ne (by omega), sI_ne (by omega), sI_ne (by omega)]
  · rw [sI_nk hi, sI_nk hi, sI_nk hi, sI_nk hi]
  · rw [sI_ne (by decide), sI_ne (by decide), sI_ne (by decide), sI_ne (by decide)]
  · obtain ⟨a1, a2, a3, ⟨v, hv, ev⟩, a5, a6, a7, a8, a9, a10, a11, a12, a13, a14⟩ := hE
    have e15 : (σ.1 37 e + 1) &&& (15 : Int32) = nI ((v + 1) % 16) := by rw [ev]; exact and15 (by omega)
    unfold E1 cl
    simp only [sn_upE, Nat.reduceEqDiff, reduceIte, e15, h40]
    refine ⟨⟨1, by omega, rfl⟩, a2, a3, ⟨_, Nat.mod_lt _ (by decide), rfl⟩, a5, fun _ => ⟨(a6 o5).1, (a6 o5).2.1, fun _ => (a6 o5).2.2 h40⟩, fun q => absurd trivial q, fun q => absurd q (by decide), fun q => absurd q (by decide), a10, a11, a12, a13, a14⟩
  · rw [sI_ne (by decide), sI_ne (by decide), sI_ne (by decide), sI_ne (by decide)]; exact hw.2.1 e he20
theorem WI_up1 {σ : sn_FS} (hw : WI σ) {x n s : Nat} (hx : x < 6) (hn : n < 6) (hs : s < 4) : WI (S_up1 x n s σ) := by
  have hn10 := hw.1.2.1
  have hf := fl_lt hx hn hs
  obtain ⟨v, hv, ev⟩ := hw.beg _ hf
  unfold S_up1
  split
  · rename_i c0
    have hF := hw.f1 hx hn hs
    have h3 : σ.1 47 (fl x n s) = 0 ∧ σ.1 43 (fl x n s) = -1 ∧ σ.1 44 (fl x n s) = 0 := by
      rcases hF.2 with ⟨-, q⟩ | ⟨q, -⟩ | ⟨q, -⟩
      · exact q
      · rw [c0] at q; exact absurd q (by decide)
      · rw [c0] at q; exact absurd q (by decide)
    split
    · rename_i c1
      have hsp : SP σ (sI σ 41 (fl x n s) (oI (bst σ x n s))) := SP.sI (by decide)
      refine hw.mkF hx hn hs (fun k i hk => sI_ne (by omega)) (fun k i hi => sI_nk hi) ⟨?_, ?_⟩ ?_ ?_
      · rw [sI_same, hsp.nlE, hsp.isofE, hsp.enE]
        cases hb : bst σ x n s with
        | none => exact Or.inl rfl
        | some l =>
          obtain ⟨b1, b2, b3⟩ := bst_ok hb
          exact Or.inr ⟨l, b1, b2, rfl, by rw [sI_ne (by decide)]; exact b3⟩
      · left
        simp only [sn_upE, Nat.reduceEqDiff, reduceIte]
        exact ⟨c0, h3⟩
      · rw [sI_ne (by decide)]; exact hw.beg _ hf
      · rw [sI_ne (by decide)]; exact hw.2.2.1 _ hf
    · rename_i c1
      split
      · exact hw
      · have e45 : (σ.1 45 (fl x n s) + 1) &&& (255 : Int32) = nI ((v + 1) % 256) := by rw [ev]; exact and255 (by omega)
        rw [e45]
        have hw1 : WI (sI σ 45 (fl x n s) (nI ((v + 1) % 256))) := by
          refine hw.mkF hx hn hs (fun k i hk => sI_ne (by omega)) (fun k i hi => sI_nk hi) (hF.mk' (SP.sI (by decide)) (fun k _ _ h1 _ => sI_ne h1) (fun l _ _ _ q => by rw [sI_ne (by decide)]; exact q)) ⟨_, Nat.mod_lt (v + 1) (by decide), sI_same⟩ (by rw [sI_ne (by decide)]; exact hw.2.2.1 _ hf)
        have ho : opb (sI σ 45 (fl x n s) (nI ((v + 1) % 256))) x n s = true := by simp only [opb, sn_upE, Nat.reduceEqDiff, reduceIte, c1, decide_false, Bool.not_false, Bool.true_or]
        have hq := QC_give hw1 hx hn hs ho (wR (3, x, n, s, s, ((σ.1 45 (fl x n s)).toNatClampNeg + 1) % 256, 0))
        have hw2 := hq.wi hw1
        have e41 : (S_give x n s (wR (3, x, n, s, s, ((σ.1 45 (fl x n s)).toNatClampNeg + 1) % 256, 0)) (sI σ 45 (fl x n s) (nI ((v + 1) % 256)))).1 41 (fl x n s) = σ.1 41 (fl x n s) := by rw [hq.at (by decide), sI_ne (by decide)]
        have e43 : (S_give x n s (wR (3, x, n, s, s, ((σ.1 45 (fl x n s)).toNatClampNeg + 1) % 256, 0)) (sI σ 45 (fl x n s) (nI ((v + 1) % 256)))).1 43 (fl x n s) = σ.1 43 (fl x n s) := by rw [hq.at (by decide), sI_ne (by decide)]
        generalize S_give x n s (wR (3, x, n, s, s, ((σ.1 45 (fl x n s)).toNatClampNeg + 1) % 256, 0)) (sI σ 45 (fl x n s) (nI ((v + 1) % 256))) = τ at hw2 e41 e43
        have hsp : SP τ (sI (sI τ 42 (fl x n s) 2) 44 (fl x n s) (σ.1 6 0 + 20)) := (SP.sI (k := 42) (by decide)).tr (SP.sI (k := 44) (by decide))
        refine hw2.mkF hx hn hs (fun k i hk => by rw [sI_ne (by omega), sI_ne (by omega)]) (fun k i hi => by rw [sI_nk hi, sI_nk hi]) ⟨?_, ?_⟩ (by rw [sI_ne (by decide), sI_ne (by decide)]; exact hw2.beg _ hf) (by rw [sI_ne (by decide), sI_ne (by decide)]; exact hw2.2.2.1 _ hf)
        · have := (hw2.f1 hx hn hs).1
          rw [hsp.nlE, hsp.isofE, hsp.enE]
          simp only [sn_upE, Nat.reduceEqDiff, reduceIte]
          exact this
        · right; right
          simp only [sn_upE, Nat.reduceEqDiff, reduceIte, e41, e43]
          exact ⟨trivial, c1, h3.2.1⟩
  · exact hw
theorem WI_upF {x n : Nat} (hx : x < 6) (hn : n < 6) : ∀ (r : Nat) (σ : sn_FS), r ≤ 4 → WI σ → WI (S_upF x n r σ)
  | 0, σ, _, h => h
  | r + 1, σ, hr, h => WI_upF hx hn r _ (by omega) (WI_up1 h hx hn (by omega))
theorem QC_upT {x n : Nat} : ∀ (r : Nat) (σ : sn_FS), QC σ (S_upT x n r σ)
  | 0, σ => QC.rf
  | r + 1, σ => QC_sI49.tr (QC_upT r _)
theorem WI_up {σ : sn_FS} (hw : WI σ) {e : Nat} (he : e < 2 * nl σ) : WI (S_up e σ) := by
  obtain ⟨x1, x2, x3⟩ := hw.1.ex_lt he
  have h1 := WI_upF x1 x2 4 σ (by omega) hw
  unfold S_up
  have h2 : WI (if anyOpen σ (ex σ e) (ot σ e) 4 = true then S_upF (ex σ e) (ot σ e) 4 σ else S_upT (ex σ e) (ot σ e) 6 (S_upF (ex σ e) (ot σ e) 4 σ)) := by
    split
    · exact h1
    · exact (QC_upT 6 _).wi h1
  exact (QC_look h2 x1).wi h2
