/-! LAYER 2: an end sends -/
theorem gl_sd374 {e w : Nat} (he : e < 20) (hw : w ≤ 64) : ∀ (d fuel j : Nat) (σ : sn_FS), w - j = d → d < fuel → 1 ≤ j → j ≤ w → σ.1 29 e = nI w → ∃ J', (∀ k i, (k ≠ 28 ∨ i + 1 < 64 * e + j ∨ 64 * e + w ≤ i + 1) → J' k i = σ.2 k i) ∧ (∀ i, j ≤ i + 1 → i + 1 < w → J' 28 (64 * e + i) = σ.2 28 (64 * e + (i + 1))) ∧ g_Md_send_374 fuel (nI e) (nI j) σ = some (none, sI (σ.1, J') 29 e (nI (w - 1)))
  | 0, fuel + 1, j, σ, hd, _, h1, hj, h29 => by
    have d29 : e < md_len 29 := he
    have hjo : j = w := by omega
    subst hjo
    have e1 : (nI j ≤ nI j) = True := eq_true (nI_le (by omega) (by omega))
    have osub : nI j - (1 : Int32) = nI (j - 1) := nI_sub (a := j) (b := 1) (by omega)
    refine ⟨σ.2, fun _ _ _ => rfl, fun i h2 h3 => by omega, ?_⟩
    simp only [g_Md_send_374, q_I_at d29, h29, e1, if_true, osub, w_I_at d29, g_Md_send_424, z_V]
  | d + 1, fuel + 1, j, σ, hd, hf, h1, hj, h29 => by
    have d29 : e < md_len 29 := he
    have d28 : 64 * e + j < md_len 28 := by show _ < 1280; omega
    have d28' : 64 * e + j - 1 < md_len 28 := by show _ < 1280; omega
    have e1 : (nI w ≤ nI j) = False := eq_false (nI_ge (by omega) (by omega))
    have e2 : ((64 : Int32) * nI e) + nI j = nI (64 * e + j) := by
      have : (64 : Int32) * nI e = nI (64 * e) := pk_mul 64 e
      rw [this, nI_add]
    have e3 : nI (64 * e + j) - (1 : Int32) = nI (64 * e + j - 1) := nI_sub (a := 64 * e + j) (b := 1) (by omega)
    obtain ⟨J', c1, c2, hg⟩ := gl_sd374 he hw d fuel (j + 1) (sJ σ 28 (64 * e + j - 1) (σ.2 28 (64 * e + j))) (by omega) (by omega) (by omega) (by omega) h29
    refine ⟨J', fun k i hk => ?_, fun i h2 h3 => ?_, ?_⟩
    · rw [c1 k i (by omega)]
      show sn_up σ.2 28 (64 * e + j - 1) _ k i = _
      by_cases c : k = 28
      · subst c; exact sn_up_nk σ.2 28 28 (k := 64 * e + j - 1) (j := i) _ (by omega)
      · exact sn_up_ne _ _ _ _ c
    · by_cases c : i + 1 = j
      · rw [c1 28 _ (by omega)]
        show sn_up σ.2 28 (64 * e + j - 1) _ 28 (64 * e + i) = _
        have : 64 * e + i = 64 * e + j - 1 := by omega
        rw [this, sn_up_same]; exact congrArg (σ.2 28) (by omega)
      · rw [c2 i (by omega) h3]
        show sn_up σ.2 28 (64 * e + j - 1) _ 28 (64 * e + (i + 1)) = _
        exact sn_up_nk σ.2 28 28 (k := 64 * e + j - 1) (j := 64 * e + (i + 1)) _ (by omega)
    · simp only [g_Md_send_374, q_I_at d29, h29, e1, if_false, e2, q_J_at d28, e3, w_J_at d28', nI_1]
      exact hg
def sdL : List Nat := [12, 20, 21, 26, 27, 29, 30, 31, 32, 33, 34, 36, 39]
theorem sd_of {k : Nat} (h : k ∉ sdL) : k ≠ 12 ∧ k ≠ 20 ∧ k ≠ 21 ∧ k ≠ 26 ∧ k ≠ 27 ∧ k ≠ 29 ∧ k ≠ 30 ∧ k ≠ 31 ∧ k ≠ 32 ∧ k ≠ 33 ∧ k ≠ 34 ∧ k ≠ 36 ∧ k ≠ 39 := by
  simpa only [sdL, List.mem_cons, List.not_mem_nil, or_false, not_or] using h
theorem sd_no {k : Nat} (h : k < 12 ∨ (12 < k ∧ k < 20) ∨ (21 < k ∧ k < 26) ∨ k = 28 ∨ k = 35 ∨ k = 37 ∨ k = 38 ∨ 39 < k) : k ∉ sdL := by
  simp only [sdL, List.mem_cons, List.not_mem_nil, or_false, not_or]; omega
theorem send_pack {σ η τ θ : sn_FS} {e : Nat} (hI : Inv σ η) (hR : RI σ) (he : e < 2 * nl σ) (h : ∀ k i, (k ∉ sdL ∨ (i ≠ e ∧ k ≠ 26)) → τ.1 k i = σ.1 k i) (h26 : ∀ e' i, e' ≠ e → i < 32 → τ.1 26 (32 * e' + i) = σ.1 26 (32 * e' + i)) (hE : E1 τ e) (h29 : ∃ w, w ≤ 64 ∧ τ.1 29 e = nI w) (hH : HR τ θ) (h20 : τ.1 20 e = σ.1 20 e ∨ τ.1 20 e = 0 ∨ ∃ v, 0 < v ∧ v ≤ 60 ∧ τ.1 20 e = σ.1 6 0 + nI v) : Inv τ θ ∧ RI τ ∧ TS σ τ ∧ FR0 σ τ := by
  obtain ⟨hH0, hw, hL, hD, hC⟩ := hI
  have hn10 := hw.1.2.1
  have he20 : e < 20 := by omega
  have g : ∀ k i, k ∉ sdL → τ.1 k i = σ.1 k i := fun k i hk => h k i (Or.inl hk)
  have hs : SP σ τ := ⟨fun i => g 0 i (by decide), fun i => g 1 i (by decide), fun i => g 4 i (by decide)⟩
  have hts : TS σ τ := by
    refine ⟨g 6 0 (by decide), fun k i hk => ?_⟩
    by_cases c : k = 20 ∧ i = e
    · obtain ⟨rfl, rfl⟩ := c; exact h20
    · left
      refine h k i ?_
      by_cases ci : i = e
      · left
        have := tm_of hk
        have : k ≠ 20 := fun q => c ⟨q, ci⟩
        exact sd_no (by omega)
      · right; exact ⟨ci, by have := tm_of hk; omega⟩
  refine ⟨⟨hH, hw.mkE he20 (fun k i hk => g k i (sd_no (by omega))) (fun k i hi hk => h k i (Or.inr ⟨hi, hk⟩)) h26 hE h29 (fun q => Or.inl (by rw [g 10 e (by decide)]; exact q)), hL.mk' hs (fun k i hk => g k i (sd_no (by omega))), hD.mk' (fun i _ => Or.inr ⟨g 40 i (by decide), g 11 i (by decide)⟩), hC.at hts.1⟩, fun i hi => ⟨by rw [g 10 i (by decide), g 16 i (by decide)]; exact (hR i hi).1, by rw [g 10 i (by decide), g 17 i (by decide)]; exact (hR i hi).2⟩, hts, fun k i hk => g k i (sd_no (by omega)), fun k i hk hi => h k i (Or.inr ⟨by omega, by have := nr_of hk; omega⟩), fun x n s _ _ _ => g 45 _ (by decide)⟩
theorem HR_unit {σ η τ θ : sn_FS} {e : Nat} (hQ : HQ τ θ) (hU : HU σ η) (hP : HP σ η) (hs : SP σ τ) (hI : ∀ k i, 30 ≤ k → k ≤ 34 → i ≠ e → τ.1 k i = σ.1 k i) (hJ : ∀ i, i ≠ e → τ.2 35 i = σ.2 35 i) (hθ : ∀ e' j, e' ≠ e → θ.1 (aU e') j = η.1 (aU e') j ∧ θ.2 (aU e') j = η.2 (aU e') j) (h10 : ∀ i, τ.1 10 i = σ.1 10 i) (h24 : ∀ i, τ.1 24 i = σ.1 24 i) (hE : ∀ i, θ.1 (aE i) 14 = η.1 (aE i) 14) (hu : ((4 : Int32) ≤ τ.1 30 e → θ.1 (aU e) 1 = τ.1 31 e ∧ θ.1 (aU e) 2 = τ.1 32 e ∧ θ.1 (aU e) 3 = τ.1 33 e ∧ θ.1 (aU e) 4 = τ.1 34 e) ∧ (τ.1 30 e = 5 → ∃ m, MV τ m ∧ τ.2 35 e = wR m ∧ θ.2 (aU e) 6 = wC m)) : HR τ θ := by
  refine ⟨hQ, fun e' he' => ?_, hP.mk' hs (fun i q => by rw [← h10]; exact q) h24 hE⟩
  by_cases c : e' = e
  · subst c; exact hu
  · rw [hs.nlE] at he'
    obtain ⟨a, b⟩ := hU e' he'
    rw [hI 30 e' (by omega) (by omega) c, hI 31 e' (by omega) (by omega) c, hI 32 e' (by omega) (by omega) c, hI 33 e' (by omega) (by omega) c, hI 34 e' (by omega) (by omega) c, hJ e' c, (hθ e' 1 c).1, (hθ e' 2 c).1, (hθ e' 3 c).1, (hθ e' 4 c).1, (hθ e' 6 c).2, MV.sp hs]
    exact ⟨a, b⟩
/-- what both write first -/
def S_sb (e : Nat) (σ : sn_FS) : sn_FS := sI (sI (sI (sI (sI (sI σ 36 e 1) 39 e (σ.1 37 e)) 31 e (σ.1 12 e)) 32 e (σ.1 14 e)) 33 e (σ.1 13 e)) 34 e (σ.1 15 e)
theorem S_sb_I {σ : sn_FS} {e k i : Nat} (h : (k ≠ 36 ∧ k ≠ 39 ∧ k ≠ 31 ∧ k ≠ 32 ∧ k ≠ 33 ∧ k ≠ 34) ∨ i ≠ e) : (S_sb e σ).1 k i = σ.1 k i := by
  unfold S_sb
  rcases h with h | h
  · rw [sI_ne h.2.2.2.2.2, sI_ne h.2.2.2.2.1, sI_ne h.2.2.2.1, sI_ne h.2.2.1, sI_ne h.2.1, sI_ne h.1]
  · rw [sI_nk h, sI_nk h, sI_nk h, sI_nk h, sI_nk h, sI_nk h]
theorem S_sb_at {σ : sn_FS} {e : Nat} : (S_sb e σ).1 31 e = σ.1 12 e ∧ (S_sb e σ).1 32 e = σ.1 14 e ∧ (S_sb e σ).1 33 e = σ.1 13 e ∧ (S_sb e σ).1 34 e = σ.1 15 e := by
  unfold S_sb; simp only [sn_upE, Nat.reduceEqDiff, reduceIte, and_self]
theorem gl_send0 {σ : sn_FS} {e : Nat} (he : e < 20) : g_Md_send (nI e) σ = (if ¬ σ.1 10 e = 0 then (if ¬ σ.1 10 e = (1 : Int32) then (if (4 : Int32) ≤ σ.1 10 e then g_Md_send_119 (nI e) (σ.1 10 e) (nI e) (4 : Int32) else q_I 23 (nI e) fun v30 => (if v30 = 0 then g_Md_send_119 (nI e) (σ.1 10 e) (nI e) (2 : Int32) else g_Md_send_119 (nI e) (σ.1 10 e) (nI e) (3 : Int32))) else g_Md_send_119 (nI e) (σ.1 10 e) (nI e) (1 : Int32)) else g_Md_send_119 (nI e) (σ.1 10 e) (nI e) (0 : Int32)) (S_sb e σ) := by
  have d10 : e < md_len 10 := he
  have d36 : e < md_len 36 := he
  have d37 : e < md_len 37 := he
  have d39 : e < md_len 39 := he
  have d12 : e < md_len 12 := he
  have d31 : e < md_len 31 := he
  have d14 : e < md_len 14 := he
  have d32 : e < md_len 32 := he
  have d13 : e < md_len 13 := he
  have d33 : e < md_len 33 := he
  have d15 : e < md_len 15 := he
  have d34 : e < md_len 34 := he
  simp only [g_Md_send, q_I_at d10, w_Z_at d36 (Or.inr rfl), q_I_at d37, w_I_at d39, q_I_at d12, w_I_at d31, q_I_at d14, w_I_at d32, q_I_at d13, w_I_at d33, q_I_at d15, w_I_at d34, sn_upE, Nat.reduceEqDiff, reduceIte, S_sb]
variable {kk : Nat → Nat} {σ η : sn_FS} {e : Nat}
theorem Kap_sb : Kap kk (S_sb e σ) η = Kap kk (sI (sI σ 36 e 1) 39 e (σ.1 37 e)) η := by
  refine Kap_of (fun k i hk => ?_)
  simp only [List.mem_cons, List.not_mem_nil, or_false, not_or] at hk
  unfold S_sb
  rw [sI_ne (by omega), sI_ne (by omega), sI_ne (by omega), sI_ne (by omega)]
theorem Kap_sb30 {t : Int32} : Kap kk (sI (S_sb e σ) 30 e t) η = Kap kk (sI (sI (sI σ 36 e 1) 39 e (σ.1 37 e)) 30 e t) η := by
  have h1 := wr_U0 (kk := kk) (σ := S_sb e σ) (η := η) (v := t) e
  have h2 := wr_U0 (kk := kk) (σ := sI (sI σ 36 e 1) 39 e (σ.1 37 e)) (η := η) (v := t) e
  rw [← h1, ← h2, Kap_sb]
theorem E1_sb {τ : sn_FS} (hE : E1 σ e) (h : ∀ k, k ∉ sdL → τ.1 k e = σ.1 k e) (h12 : τ.1 12 e = σ.1 12 e) (h20 : τ.1 20 e = σ.1 20 e) (h21 : τ.1 21 e = σ.1 21 e ∨ (σ.1 10 e = 5 ∧ (τ.1 21 e = -1 ∨ ∃ r, r < cl σ 27 e ∧ τ.1 21 e = nI r))) (h26 : ∀ i, i < 32 → τ.1 26 (32 * e + i) = σ.1 26 (32 * e + i)) (h27 : τ.1 27 e = σ.1 27 e) (h29 : τ.1 29 e = σ.1 29 e) (h30 : ∃ u, u ≤ 5 ∧ τ.1 30 e = nI u) (h31 : ∃ v, v < 128 ∧ τ.1 31 e = nI v) (h33 : ∃ v, v < 128 ∧ τ.1 33 e = nI v) : E1 τ e := by
  obtain ⟨a1, a2, a3, a4, ⟨o, o1, o2, o3, o4⟩, a6, a7, a8, a9, a10, a11, a12, a13, a14⟩ := hE
  have hcl : cl τ 12 e = cl σ 12 e := by unfold cl; rw [h12]
  refine ⟨by rw [h 10 (by decide)]; exact a1, by rw [h12]; exact a2, by rw [h 13 (by decide)]; exact a3, by rw [h 37 (by decide)]; exact a4, ⟨o, o1, by rw [h27]; exact o2, ?_, fun i hi => by rw [hcl, h26 i (by omega)]; exact o4 i hi⟩, fun q => ?_, by rw [h 40 (by decide), h 10 (by decide)]; exact a7, by rw [h 10 (by decide), h 16 (by decide)]; exact a8, by rw [h 10 (by decide), h 17 (by decide)]; exact a9, by rw [h 22 (by decide)]; exact a10, h30, h31, h33, by rw [h 24 (by decide)]; exact a14⟩
  · rcases h21 with q | ⟨-, q⟩
    · rw [q]; exact o3
    · rw [cl_n o2 (by omega)] at q; exact q
  · rw [h 10 (by decide)] at q
    rcases h21 with z | ⟨z, -⟩
    · rw [z, h20, h 40 (by decide), h27, h29]; exact a6 q
    · exact absurd z q
/-- a state unit, or a FILL -/
theorem sb_30 (hI : Inv σ η) (hR : RI σ) (he : e < 2 * nl σ) {u : Nat} (hu : u ≤ 5) {θ : sn_FS} (hH : HR (sI (S_sb e σ) 30 e (nI u)) θ) : Inv (sI (S_sb e σ) 30 e (nI u)) θ ∧ RI (sI (S_sb e σ) 30 e (nI u)) ∧ TS σ (sI (S_sb e σ) 30 e (nI u)) ∧ FR0 σ (sI (S_sb e σ) 30 e (nI u)) := by
  have hw := hI.2.1
  have hn10 := hw.1.2.1
  have hE := hw.e1 (show e < 20 by omega)
  have g : ∀ k i, (k ∉ sdL ∨ i ≠ e) → (sI (S_sb e σ) 30 e (nI u)).1 k i = σ.1 k i := fun k i hk => by
    rcases hk with q | q
    · have := sd_of q
      rw [sI_ne (by omega), S_sb_I (Or.inl (by omega))]
    · rw [sI_nk q, S_sb_I (Or.inr q)]
  have gk : ∀ k i, k ≠ 30 ∧ k ≠ 36 ∧ k ≠ 39 ∧ k ≠ 31 ∧ k ≠ 32 ∧ k ≠ 33 ∧ k ≠ 34 → (sI (S_sb e σ) 30 e (nI u)).1 k i = σ.1 k i := fun k i hk => by
    rw [sI_ne hk.1, S_sb_I (Or.inl hk.2)]
  refine send_pack hI hR he (fun k i hk => g k i (by rcases hk with q | q; exact Or.inl q; exact Or.inr q.1)) (fun e' i _ _ => gk 26 _ (by decide)) ?_ (by rw [gk 29 _ (by decide)]; exact hw.2.1 e (by omega)) hH (Or.inl (gk 20 _ (by decide)))
  refine E1_sb hE (fun k hk => g k e (Or.inl hk)) (gk 12 _ (by decide)) (gk 20 _ (by decide)) (Or.inl (gk 21 _ (by decide))) (fun i _ => gk 26 _ (by decide)) (gk 27 _ (by decide)) (gk 29 _ (by decide)) ⟨u, hu, by simp only [sn_upE, Nat.reduceEqDiff, reduceIte]⟩ ?_ ?_
  · rw [sI_ne (by decide), S_sb_at.1]; exact hE.2.1
  · rw [sI_ne (by decide), S_sb_at.2.2.1]; exact hE.2.2.1
theorem HQ_sb (hQ : HQ σ η) {t : Int32} : HQ (sI (S_sb e σ) 30 e t) η := by
  have gk : ∀ k i, k ≠ 30 ∧ k ≠ 36 ∧ k ≠ 39 ∧ k ≠ 31 ∧ k ≠ 32 ∧ k ≠ 33 ∧ k ≠ 34 → (sI (S_sb e σ) 30 e t).1 k i = σ.1 k i := fun k i hk => by
    rw [sI_ne hk.1, S_sb_I (Or.inl hk.2)]
  refine hQ.mk' ⟨fun i => gk 0 i (by decide), fun i => gk 1 i (by decide), fun i => gk 4 i (by decide)⟩ (fun t' ht i _ => ⟨congrArg Int32.toNatClampNeg (gk _ _ ?_), fun j _ => rfl⟩) (fun t ht i => ⟨rfl, fun j => rfl⟩)
  rcases t3 ht with rfl | rfl | rfl <;> decide
