/-! LAYER 2: the reference ends a changeover -/
theorem words_of {V : Msg → Prop} {w : Nat → Int64} : ∀ (n : Nat), (∀ j, j < n → ∃ m, V m ∧ w j = wR m) → ∃ ms : List Msg, ms.length = n ∧ (∀ m ∈ ms, V m) ∧ ∀ j (h : j < ms.length), w j = wR ms[j]
  | 0, _ => ⟨[], rfl, (fun m h => by cases h), (fun j h => by cases h)⟩
  | n + 1, h => by
    obtain ⟨ms, h1, h2, h3⟩ := words_of n (fun j hj => h j (by omega))
    obtain ⟨m, hm, hw⟩ := h n (by omega)
    refine ⟨ms ++ [m], by simp [h1], fun m' h' => ?_, fun j hj => ?_⟩
    · rcases List.mem_append.mp h' with q | q
      · exact h2 m' q
      · simp at q; subst q; exact hm
    · by_cases c : j < ms.length
      · rw [List.getElem_append_left c]; exact h3 j c
      · simp only [List.length_append, List.length_cons, List.length_nil] at hj
        have : j = n := by omega
        subst this
        rw [List.getElem_append_right (by omega)]
        simp [hw]
/-- words that were copied -/
def Cpd (J J' : Nat → Nat → Int64) (c d : Nat) (w : Nat → Int64) : Prop := (∀ k i, k ≠ 63 → J' k i = J k i) ∧ (∀ p, p < c → J' 63 p = J 63 p) ∧ ∀ p, c ≤ p → p < d → J' 63 p = w (p - c)
theorem gl_ov99 {x l e n : Nat} {o : Nat} (he : e < 20) (ho : o ≤ 32) : ∀ (d fuel j : Nat) (σ : sn_FS), o - j = d → d < fuel → j ≤ o → σ.1 27 e = nI o → ∃ J', Cpd σ.2 J' j o (fun p => σ.2 25 (32 * e + (p + j))) ∧ g_Md_overEnds_99 fuel (nI x) (nI l) (nI e) (nI n) (nI j) (nI j) σ = g_Md_overEnds_143 sn_fuel (nI x) (nI l) (nI e) (nI n) (nI o) 0 (σ.1, J')
  | 0, fuel + 1, j, σ, hd, _, hj, h27 => by
    have d27 : e < md_len 27 := he
    have hjo : j = o := by omega
    subst hjo
    have e1 : (nI j ≤ nI j) = True := eq_true (nI_le (by omega) (by omega))
    refine ⟨σ.2, ⟨fun _ _ _ => rfl, fun _ _ => rfl, fun p h1 h2 => by omega⟩, ?_⟩
    simp only [g_Md_overEnds_99, q_I_at d27, h27, e1, if_true]
  | d + 1, fuel + 1, j, σ, hd, hf, hj, h27 => by
    have d27 : e < md_len 27 := he
    have d25 : 32 * e + j < md_len 25 := by show _ < 640; omega
    have d63 : j < md_len 63 := by show _ < 400; omega
    have e1 : (nI o ≤ nI j) = False := eq_false (nI_ge (by omega) (by omega))
    have e2 : ((32 : Int32) * nI e) + nI j = nI (32 * e + j) := by
      have : (32 : Int32) * nI e = nI (32 * e) := pk_mul 32 e
      rw [this, nI_add]
    obtain ⟨J', ⟨c1, c2, c3⟩, hg⟩ := gl_ov99 (x := x) (l := l) (n := n) he ho d fuel (j + 1) (sJ σ 63 j (σ.2 25 (32 * e + j))) (by omega) (by omega) (by omega) h27
    refine ⟨J', ⟨fun k i hk => (c1 k i hk).trans (sn_up_ne _ _ _ _ hk), fun p hp => (c2 p (by omega)).trans (sn_up_nk σ.2 63 63 (k := j) (j := p) _ (by omega)), fun p h1 h2 => ?_⟩, ?_⟩
    · by_cases c : p = j
      · subst c
        rw [c2 p (by omega)]
        show sn_up σ.2 63 p _ 63 p = _
        rw [sn_up_same]; exact congrArg (σ.2 25) (by omega)
      · rw [c3 p (by omega) h2]
        show sn_up σ.2 63 j (σ.2 25 (32 * e + j)) 25 _ = _
        rw [sn_up_ne _ _ _ _ (by decide)]; exact congrArg (σ.2 25) (by omega)
    · simp only [g_Md_overEnds_99, q_I_at d27, h27, e1, if_false, e2, q_J_at d25, w_J_at d63, nI_1]
      exact hg
theorem gl_ov143 {x l e n : Nat} {o w : Nat} (he : e < 20) (ho : o ≤ 32) (hw : w ≤ 64) : ∀ (d fuel j : Nat) (σ : sn_FS), w - j = d → d < fuel → j ≤ w → σ.1 29 e = nI w → ∃ J', Cpd σ.2 J' (o + j) (o + w) (fun p => σ.2 28 (64 * e + (p + j))) ∧ g_Md_overEnds_143 fuel (nI x) (nI l) (nI e) (nI n) (nI (o + j)) (nI j) σ = g_Md_overEnds_211 sn_fuel (nI x) (nI l) (nI n) (nI (o + w)) 0 (sI (sI (sI (σ.1, J') 27 e 0) 29 e 0) 21 e (-1))
  | 0, fuel + 1, j, σ, hd, _, hj, h29 => by
    have d29 : e < md_len 29 := he
    have d27 : e < md_len 27 := he
    have d21 : e < md_len 21 := he
    have hjo : j = w := by omega
    subst hjo
    have e1 : (nI j ≤ nI j) = True := eq_true (nI_le (by omega) (by omega))
    refine ⟨σ.2, ⟨fun _ _ _ => rfl, fun _ _ => rfl, fun p h1 h2 => by omega⟩, ?_⟩
    simp only [g_Md_overEnds_143, q_I_at d29, h29, e1, if_true, w_I_at d27, w_I_at d29, w_I_at d21]
  | d + 1, fuel + 1, j, σ, hd, hf, hj, h29 => by
    have d29 : e < md_len 29 := he
    have d28 : 64 * e + j < md_len 28 := by show _ < 1280; omega
    have d63 : o + j < md_len 63 := by show _ < 400; omega
    have e1 : (nI w ≤ nI j) = False := eq_false (nI_ge (by omega) (by omega))
    have e2 : ((64 : Int32) * nI e) + nI j = nI (64 * e + j) := by
      have : (64 : Int32) * nI e = nI (64 * e) := pk_mul 64 e
      rw [this, nI_add]
    obtain ⟨J', ⟨c1, c2, c3⟩, hg⟩ := gl_ov143 (x := x) (l := l) (n := n) he ho hw d fuel (j + 1) (sJ σ 63 (o + j) (σ.2 28 (64 * e + j))) (by omega) (by omega) (by omega) h29
    refine ⟨J', ⟨fun k i hk => (c1 k i hk).trans (sn_up_ne _ _ _ _ hk), fun p hp => (c2 p (by omega)).trans (sn_up_nk σ.2 63 63 (k := o + j) (j := p) _ (by omega)), fun p h1 h2 => ?_⟩, ?_⟩
    · by_cases c : p = o + j
      · subst c
        rw [c2 _ (by omega)]
        show sn_up σ.2 63 (o + j) _ 63 (o + j) = _
        rw [sn_up_same]; exact congrArg (σ.2 28) (by omega)
      · rw [c3 p (by omega) h2]
        show sn_up σ.2 63 (o + j) (σ.2 28 (64 * e + j)) 28 _ = _
        rw [sn_up_ne _ _ _ _ (by decide)]; exact congrArg (σ.2 28) (by omega)
    · simp only [g_Md_overEnds_143, q_I_at d29, h29, e1, if_false, e2, q_J_at d28, w_J_at d63, nI_1]
      exact hg
theorem gl_ov288 {x l n f : Nat} {x7 : Int32} {w c : Nat} (K : Int32 → Int32 → Int32 → Int32 → Int32 → sn_G) (hf : f < 144) (hw : w ≤ 64) (hc : c + w ≤ 400) : ∀ (d fuel j : Nat) (σ : sn_FS), w - j = d → d < fuel → j ≤ w → σ.1 47 f = nI w → ∃ J', Cpd σ.2 J' (c + j) (c + w) (fun p => σ.2 46 (64 * f + (p + j))) ∧ g_Md_overEnds_288 K fuel (nI x) (nI l) (nI n) (nI (c + j)) x7 (nI f) (nI j) σ = K (nI x) (nI l) (nI n) (nI (c + w)) (x7 + 1) (sI (σ.1, J') 47 f 0)
  | 0, fuel + 1, j, σ, hd, _, hj, h47 => by
    have d47 : f < md_len 47 := hf
    have hjo : j = w := by omega
    subst hjo
    have e1 : (nI j ≤ nI j) = True := eq_true (nI_le (by omega) (by omega))
    refine ⟨σ.2, ⟨fun _ _ _ => rfl, fun _ _ => rfl, fun p h1 h2 => by omega⟩, ?_⟩
    simp only [g_Md_overEnds_288, q_I_at d47, h47, e1, if_true, w_I_at d47, g_Md_overEnds_337]
  | d + 1, fuel + 1, j, σ, hd, hf2, hj, h47 => by
    have d47 : f < md_len 47 := hf
    have d46 : 64 * f + j < md_len 46 := by show _ < 9216; omega
    have d63 : c + j < md_len 63 := by show _ < 400; omega
    have e1 : (nI w ≤ nI j) = False := eq_false (nI_ge (by omega) (by omega))
    have e2 : ((64 : Int32) * nI f) + nI j = nI (64 * f + j) := by
      have : (64 : Int32) * nI f = nI (64 * f) := pk_mul 64 f
      rw [this, nI_add]
    obtain ⟨J', ⟨c1, c2, c3⟩, hg⟩ := gl_ov288 (x := x) (l := l) (n := n) (x7 := x7) K hf hw hc d fuel (j + 1) (sJ σ 63 (c + j) (σ.2 46 (64 * f + j))) (by omega) (by omega) (by omega) h47
    refine ⟨J', ⟨fun k i hk => (c1 k i hk).trans (sn_up_ne _ _ _ _ hk), fun p hp => (c2 p (by omega)).trans (sn_up_nk σ.2 63 63 (k := c + j) (j := p) _ (by omega)), fun p h1 h2 => ?_⟩, ?_⟩
    · by_cases cc : p = c + j
      · subst cc
        rw [c2 _ (by omega)]
        show sn_up σ.2 63 (c + j) _ 63 (c + j) = _
        rw [sn_up_same]; exact congrArg (σ.2 46) (by omega)
      · rw [c3 p (by omega) h2]
        show sn_up σ.2 63 (c + j) (σ.2 46 (64 * f + j)) 46 _ = _
        rw [sn_up_ne _ _ _ _ (by decide)]; exact congrArg (σ.2 46) (by omega)
    · simp only [g_Md_overEnds_288, q_I_at d47, h47, e1, if_false, e2, q_J_at d46, w_J_at d63, nI_1]
      exact hg
/-- flows are freed -/
def frd (σ : sn_FS) (x n l s : Nat) : Prop := σ.1 42 (fl x n s) = 1 ∧ σ.1 43 (fl x n s) = nI l
def S_fr1 (x n l s : Nat) (σ : sn_FS) : sn_FS := if σ.1 42 (fl x n s) = 1 ∧ σ.1 43 (fl x n s) = nI l then sI (sI (sI (sI σ 41 (fl x n s) (oI (bst σ x n s))) 42 (fl x n s) 0) 43 (fl x n s) (-1)) 47 (fl x n s) 0 else σ
def S_fr (x n l : Nat) : Nat → sn_FS → sn_FS
  | 0, σ => σ
  | r + 1, σ => S_fr x n l r (S_fr1 x n l (4 - (r + 1)) σ)
theorem bst_eq {σ τ : sn_FS} (hs : SP σ τ) (h : ∀ i, τ.1 10 i = σ.1 10 i) : bst τ = bst σ := by
  funext x n s
  unfold bst
  rw [hs.setOfE, hs.enE]
  simp only [h]
theorem S_fr1_I {x n l s k i : Nat} (σ : sn_FS) (h : k ≠ 41 ∧ k ≠ 42 ∧ k ≠ 43 ∧ k ≠ 47) : (S_fr1 x n l s σ).1 k i = σ.1 k i := by
  unfold S_fr1
  split
  · rw [sI_ne h.2.2.2, sI_ne h.2.2.1, sI_ne h.2.1, sI_ne h.1]
  · rfl
theorem S_fr1_out {x n l s k i : Nat} (σ : sn_FS) (h : i ≠ fl x n s) : (S_fr1 x n l s σ).1 k i = σ.1 k i := by
  unfold S_fr1
  split
  · rw [sI_nk h, sI_nk h, sI_nk h, sI_nk h]
  · rfl
theorem S_fr1_SP {x n l s : Nat} (σ : sn_FS) : SP σ (S_fr1 x n l s σ) := ⟨fun i => S_fr1_I σ (by decide), fun i => S_fr1_I σ (by decide), fun i => S_fr1_I σ (by decide)⟩
theorem S_fr_I {x n l k i : Nat} (h : k ≠ 41 ∧ k ≠ 42 ∧ k ≠ 43 ∧ k ≠ 47) : ∀ (r : Nat) (σ : sn_FS), (S_fr x n l r σ).1 k i = σ.1 k i
  | 0, σ => rfl
  | r + 1, σ => (S_fr_I h r _).trans (S_fr1_I σ h)
theorem S_fr_SP {x n l : Nat} (r : Nat) (σ : sn_FS) : SP σ (S_fr x n l r σ) := ⟨fun i => S_fr_I (by decide) r σ, fun i => S_fr_I (by decide) r σ, fun i => S_fr_I (by decide) r σ⟩
theorem S_fr_out {x n l k i : Nat} : ∀ (r : Nat) (σ : sn_FS), r ≤ 4 → (∀ s, s < 4 → 4 - r ≤ s → i ≠ fl x n s) → (S_fr x n l r σ).1 k i = σ.1 k i
  | 0, σ, _, _ => rfl
  | r + 1, σ, hr, h => (S_fr_out r _ (by omega) (fun s h1 h2 => h s h1 (by omega))).trans (S_fr1_out σ (h _ (by omega) (by omega)))
theorem S_fr1_J {x n l s : Nat} (σ : sn_FS) : (S_fr1 x n l s σ).2 = σ.2 := by
  unfold S_fr1
  split <;> rfl
theorem S_fr_J {x n l : Nat} : ∀ (r : Nat) (σ : sn_FS), (S_fr x n l r σ).2 = σ.2
  | 0, σ => rfl
  | r + 1, σ => (S_fr_J r _).trans (S_fr1_J σ)
theorem S_fr1_pr {x n l s : Nat} (I : Nat → Nat → Int32) (J J' : Nat → Nat → Int64) : S_fr1 x n l s (I, J') = ((S_fr1 x n l s (I, J)).1, J') := by
  have hb : bst (I, J') = bst (I, J) := bst_eq ⟨fun _ => rfl, fun _ => rfl, fun _ => rfl⟩ (fun _ => rfl)
  unfold S_fr1
  rw [hb]
  by_cases c : I 42 (fl x n s) = 1 ∧ I 43 (fl x n s) = nI l
  · rw [if_pos c, if_pos c]
  · rw [if_neg c, if_neg c]
theorem S_fr_pr {x n l : Nat} : ∀ (r : Nat) (I : Nat → Nat → Int32) (J J' : Nat → Nat → Int64), S_fr x n l r (I, J') = ((S_fr x n l r (I, J)).1, J')
  | 0, I, J, J' => rfl
  | r + 1, I, J, J' => by
    show S_fr x n l r (S_fr1 x n l (4 - (r + 1)) (I, J')) = ((S_fr x n l r (S_fr1 x n l (4 - (r + 1)) (I, J))).1, J')
    rw [S_fr1_pr I J J']
    exact S_fr_pr r _ _ _
/-- what the freed flows kept -/
def KLs (K : Nat → List Msg) : Nat → List Msg
  | 0 => []
  | r + 1 => K (4 - (r + 1)) ++ KLs K r
def KOkL (σ : sn_FS) (x n l : Nat) (K : Nat → List Msg) (r : Nat) : Prop := ∀ s, s < 4 → 4 - r ≤ s → if σ.1 42 (fl x n s) = 1 ∧ σ.1 43 (fl x n s) = nI l then (σ.1 47 (fl x n s) = nI (K s).length ∧ (K s).length ≤ 64 ∧ ∀ j (h : j < (K s).length), σ.2 46 (64 * fl x n s + j) = wR (K s)[j]) else K s = []
theorem gl_ov211 {x l n : Nat} {K : Nat → List Msg} (hx : x < 6) (hn : n < 6) : ∀ (r fuel c : Nat) (σ : sn_FS), r ≤ 4 → r < fuel → c + 64 * r ≤ 400 → PlanOk σ → l < nl σ → KOkL σ x n l K r → ∃ J', (∀ k i, k ≠ 63 → J' k i = σ.2 k i) ∧ (∀ p, p < c → J' 63 p = σ.2 63 p) ∧ (∀ j (h : j < (KLs K r).length), J' 63 (c + j) = wR (KLs K r)[j]) ∧ (KLs K r).length ≤ 64 * r ∧ g_Md_overEnds_211 fuel (nI x) (nI l) (nI n) (nI c) (nI (4 - r)) σ = g_Md_overEnds_346 sn_fuel (nI x) (nI n) (nI (c + (KLs K r).length)) 0 ((S_fr x n l r σ).1, J')
  | 0, fuel + 1, c, σ, _, _, _, _, _, _ => by
    have o1 : ((4 : Int32) ≤ nI (4 - 0)) = True := eq_true (by decide)
    refine ⟨σ.2, fun _ _ _ => rfl, fun _ _ => rfl, (fun j h => by cases h), (by simp [KLs]), ?_⟩
    simp only [g_Md_overEnds_211, o1, if_true, KLs, List.length_nil, Nat.add_zero, S_fr]
  | r + 1, fuel + 1, c, σ, hr, hf, hc, hP, hl, hK => by
    have hn10 := hP.2.1
    have hs : 4 - (r + 1) < 4 := by omega
    have hss : 4 - (r + 1) + 1 = 4 - r := by omega
    have hX0 : S_fr x n l (r + 1) σ = S_fr x n l r (S_fr1 x n l (4 - (r + 1)) σ) := rfl
    have hL0 : KLs K (r + 1) = K (4 - (r + 1)) ++ KLs K r := rfl
    have hKs := hK (4 - (r + 1)) hs (by omega)
    have hKn : ∀ J, (∀ k i, k ≠ 63 → J k i = σ.2 k i) → KOkL ((S_fr1 x n l (4 - (r + 1)) σ).1, J) x n l K r := by
      intro J hJ s' h1 h2
      have hne : fl x n s' ≠ fl x n (4 - (r + 1)) := by unfold fl; omega
      have h3 := hK s' h1 (by omega)
      show if (S_fr1 x n l (4 - (r + 1)) σ).1 42 (fl x n s') = 1 ∧ (S_fr1 x n l (4 - (r + 1)) σ).1 43 (fl x n s') = nI l then ((S_fr1 x n l (4 - (r + 1)) σ).1 47 (fl x n s') = nI (K s').length ∧ (K s').length ≤ 64 ∧ ∀ j (h : j < (K s').length), J 46 (64 * fl x n s' + j) = wR (K s')[j]) else K s' = []
      rw [S_fr1_out σ hne, S_fr1_out σ hne, S_fr1_out σ hne]
      split
      · rename_i c1
        rw [if_pos c1] at h3
        exact ⟨h3.1, h3.2.1, fun j h => by rw [hJ 46 _ (by decide)]; exact h3.2.2 j h⟩
      · rename_i c1
        rw [if_neg c1] at h3
        exact h3
    generalize hS : 4 - (r + 1) = s at hs hss hX0 hL0 hKs hKn
    have o1 : ((4 : Int32) ≤ nI s) = False := eq_false (nI_ge (b := 4) hs (by omega))
    have hf1 := fl_lt hx hn hs
    have d41 : fl x n s < md_len 41 := hf1
    have d42 : fl x n s < md_len 42 := hf1
    have d43 : fl x n s < md_len 43 := hf1
    rw [hX0, hL0]
    by_cases c1 : σ.1 42 (fl x n s) = 1 ∧ σ.1 43 (fl x n s) = nI l
    · rw [if_pos c1] at hKs
      obtain ⟨k1, k2, k3⟩ := hKs
      have hF : S_fr1 x n l s σ = sI (sI (sI (sI σ 41 (fl x n s) (oI (bst σ x n s))) 42 (fl x n s) 0) 43 (fl x n s) (-1)) 47 (fl x n s) 0 := by unfold S_fr1; rw [if_pos c1]
      have hs2 : SP σ (sI (sI σ 42 (fl x n s) 0) 43 (fl x n s) (-1)) := (SP.sI (k := 42) (by decide)).tr (SP.sI (k := 43) (by decide))
      have hb := gl_bestOf (hs2.plan hP) hx hn hs
      rw [bst_eq hs2 (fun i => by rw [sI_ne (by decide), sI_ne (by decide)])] at hb
      obtain ⟨J1, ⟨p1, p2, p3⟩, hg1⟩ := gl_ov288 (x := x) (l := l) (n := n) (f := fl x n s) (x7 := nI s) (w := (K s).length) (c := c) (g_Md_overEnds_211 fuel) hf1 k2 (by omega) (K s).length sn_fuel 0 (sI (sI (sI σ 42 (fl x n s) 0) 43 (fl x n s) (-1)) 41 (fl x n s) (oI (bst σ x n s))) (by omega) (by unfold sn_fuel; omega) (by omega) (by rw [sI_ne (by decide), sI_ne (by decide), sI_ne (by decide)]; exact k1)
      rw [Nat.add_zero] at hg1 p2 p3
      have hst : sI ((sI (sI (sI σ 42 (fl x n s) 0) 43 (fl x n s) (-1)) 41 (fl x n s) (oI (bst σ x n s))).1, J1) 47 (fl x n s) 0 = ((S_fr1 x n l s σ).1, J1) := by
        rw [hF]
        rw [sI_sw (k := 43) (k' := 41) (by decide), sI_sw (k := 42) (k' := 41) (by decide)]
      rw [hst] at hg1
      have hs1 := S_fr1_SP (x := x) (n := n) (l := l) (s := s) σ
      have hs3 : SP σ ((S_fr1 x n l s σ).1, J1) := hs1
      obtain ⟨J', q1, q2, q3, q4, hg2⟩ := gl_ov211 hx hn r fuel (c + (K s).length) ((S_fr1 x n l s σ).1, J1) (by omega) (by omega) (by omega) (hs3.plan hP) (by rw [hs3.nlE]; exact hl) (hKn J1 p1)
      refine ⟨J', fun k i hk => (q1 k i hk).trans (p1 k i hk), fun p hp => (q2 p (by omega)).trans (p2 p hp), fun j hj => ?_, by rw [List.length_append]; omega, ?_⟩
      · by_cases c2 : j < (K s).length
        · rw [q2 (c + j) (by omega), List.getElem_append_left c2, ← k3 j c2]
          show J1 63 (c + j) = _
          rw [p3 (c + j) (by omega) (by omega)]
          exact congrArg (σ.2 46) (by omega)
        · rw [List.getElem_append_right (by omega)]
          have := q3 (j - (K s).length) (by rw [List.length_append] at hj; omega)
          rw [← this]; congr 1; omega
      · rw [S_fr_pr r (S_fr1 x n l s σ).1 (S_fr1 x n l s σ).2 J1] at hg2
        rw [List.length_append, ← Nat.add_assoc, ← hg2]
        have hg1' : g_Md_overEnds_288 (g_Md_overEnds_211 fuel) sn_fuel (nI x) (nI l) (nI n) (nI c) (nI s) (nI (fl x n s)) 0 (sI (sI (sI σ 42 (fl x n s) 0) 43 (fl x n s) (-1)) 41 (fl x n s) (oI (bst σ x n s))) = _ := hg1
        simp only [g_Md_overEnds_211, o1, if_false, y_I_at (gl_flowAt σ x n s), q_I_at d42, c1.1, not_true_eq_false, q_I_at d43, c1.2, if_true, w_I_at d42, w_I_at d43, y_I_at hb, w_I_at d41, hg1', nI_1, hss]
    · rw [if_neg c1] at hKs
      have hF : S_fr1 x n l s σ = σ := by unfold S_fr1; rw [if_neg c1]
      have hKn2 := hKn σ.2 (fun _ _ _ => rfl)
      rw [hF] at hKn2
      obtain ⟨J', q1, q2, q3, q4, hg2⟩ := gl_ov211 hx hn r fuel c σ (by omega) (by omega) (by omega) hP hl hKn2
      rw [hF, hKs, List.nil_append]
      refine ⟨J', q1, q2, q3, by omega, ?_⟩
      rw [← hg2]
      by_cases c2 : σ.1 42 (fl x n s) = 1
      · have c3 : ¬ σ.1 43 (fl x n s) = nI l := fun q => c1 ⟨c2, q⟩
        simp only [g_Md_overEnds_211, o1, if_false, y_I_at (gl_flowAt σ x n s), q_I_at d42, c2, not_true_eq_false, q_I_at d43, c3, g_Md_overEnds_337, nI_1, hss]
      · simp only [g_Md_overEnds_211, o1, if_false, y_I_at (gl_flowAt σ x n s), q_I_at d42, c2, not_false_eq_true, if_true, g_Md_overEnds_337, nI_1, hss]
/-- the reference from the copying on -/
def S_oz (e : Nat) (σ : sn_FS) : sn_FS := sI (sI (sI σ 27 e 0) 29 e 0) 21 e (-1)
theorem gl_ov93 {e : Nat} {σ : sn_FS} {K : Nat → List Msg} {m0 m1 : List Msg} (hP : PlanOk σ) (he : e < 2 * nl σ) (ho : m0.length ≤ 32) (hw : m1.length ≤ 64) (h27 : σ.1 27 e = nI m0.length) (h29 : σ.1 29 e = nI m1.length) (hm0 : ∀ j (h : j < m0.length), σ.2 25 (32 * e + j) = wR m0[j]) (hm1 : ∀ j (h : j < m1.length), σ.2 28 (64 * e + j) = wR m1[j]) (hK : KOkL σ (ex σ e) (ot σ e) (e / 2) K 4) (hG : GvOk (S_fr (ex σ e) (ot σ e) (e / 2) 4 (S_oz e σ))) (hT : ToldOk σ) (hM : ∀ m ∈ m0 ++ (m1 ++ KLs K 4), MOk m) : ∃ J', (∀ k i, k ≠ 63 → J' k i = σ.2 k i) ∧ g_Md_overEnds_93 (nI (ex σ e)) (nI (e / 2)) (nI e) (nI (ot σ e)) σ = some (none, S_look (ex σ e) (S_ags (ex σ e) (ot σ e) (m0 ++ (m1 ++ KLs K 4)) ((S_fr (ex σ e) (ot σ e) (e / 2) 4 (S_oz e σ)).1, J'))) := by
  have hn10 := hP.2.1
  obtain ⟨x1, x2, x3⟩ := hP.ex_lt he
  have he20 : e < 20 := by omega
  obtain ⟨J1, ⟨a1, a2, a3⟩, g1⟩ := gl_ov99 (x := ex σ e) (l := e / 2) (n := ot σ e) he20 ho m0.length sn_fuel 0 σ (by omega) (by unfold sn_fuel; omega) (by omega) h27
  obtain ⟨J2, ⟨b1, b2, b3⟩, g2⟩ := gl_ov143 (x := ex σ e) (l := e / 2) (n := ot σ e) (o := m0.length) he20 ho hw m1.length sn_fuel 0 (σ.1, J1) (by omega) (by unfold sn_fuel; omega) (by omega) h29
  have hs : SP σ (sI (sI (sI (σ.1, J2) 27 e 0) 29 e 0) 21 e (-1)) := by
    have h0 : SP σ ((σ.1, J2) : sn_FS) := ⟨fun _ => rfl, fun _ => rfl, fun _ => rfl⟩
    exact ((h0.tr (SP.sI (k := 27) (by decide))).tr (SP.sI (k := 29) (by decide))).tr (SP.sI (k := 21) (by decide))
  have hK2 : KOkL (sI (sI (sI (σ.1, J2) 27 e 0) 29 e 0) 21 e (-1)) (ex σ e) (ot σ e) (e / 2) K 4 := by
    intro s h1 h2
    have h3 := hK s h1 h2
    simp only [sn_upE, Nat.reduceEqDiff, reduceIte]
    by_cases c : σ.1 42 (fl (ex σ e) (ot σ e) s) = 1 ∧ σ.1 43 (fl (ex σ e) (ot σ e) s) = nI (e / 2)
    · rw [if_pos c] at h3 ⊢
      exact ⟨h3.1, h3.2.1, fun j h => by rw [b1 46 _ (by decide)]; show J1 46 _ = _; rw [a1 46 _ (by decide)]; exact h3.2.2 j h⟩
    · rw [if_neg c] at h3 ⊢
      exact h3
  obtain ⟨J3, c1, c2, c3, c4, g3⟩ := gl_ov211 x1 x2 4 sn_fuel (m0.length + m1.length) (sI (sI (sI (σ.1, J2) 27 e 0) 29 e 0) 21 e (-1)) (by omega) (by unfold sn_fuel; omega) (by omega) (hs.plan hP) (by rw [hs.nlE]; omega) hK2
  have hJ : ∀ k i, k ≠ 63 → J3 k i = σ.2 k i := fun k i hk => ((c1 k i hk).trans (b1 k i hk)).trans (a1 k i hk)
  have hfr : ((S_fr (ex σ e) (ot σ e) (e / 2) 4 (sI (sI (sI (σ.1, J2) 27 e 0) 29 e 0) 21 e (-1))).1, J3) = ((S_fr (ex σ e) (ot σ e) (e / 2) 4 (S_oz e σ)).1, J3) := by
    have := S_fr_pr (x := ex σ e) (n := ot σ e) (l := e / 2) 4 (S_oz e σ).1 (S_oz e σ).2 J2
    have h2 : S_fr (ex σ e) (ot σ e) (e / 2) 4 ((S_oz e σ).1, J2) = _ := this
    show ((S_fr (ex σ e) (ot σ e) (e / 2) 4 ((S_oz e σ).1, J2)).1, J3) = _
    rw [h2]
  rw [hfr] at g3
  have hG3 : GvOk ((S_fr (ex σ e) (ot σ e) (e / 2) 4 (S_oz e σ)).1, J3) := hG
  have hT3 : ToldOk ((S_fr (ex σ e) (ot σ e) (e / 2) 4 (S_oz e σ)).1, J3) := hT.mk' (fun i => by show (S_fr (ex σ e) (ot σ e) (e / 2) 4 (S_oz e σ)).1 50 i = _; rw [S_fr_I (by decide)]; simp only [S_oz, sn_upE, Nat.reduceEqDiff, reduceIte]) (fun i => by show (S_fr (ex σ e) (ot σ e) (e / 2) 4 (S_oz e σ)).1 51 i = _; rw [S_fr_I (by decide)]; simp only [S_oz, sn_upE, Nat.reduceEqDiff, reduceIte])
  have hlen : m0.length + m1.length + (KLs K 4).length = 0 + (m0 ++ (m1 ++ KLs K 4)).length := by simp only [List.length_append]; omega
  have hag := gl_again x1 x2 (m0 ++ (m1 ++ KLs K 4)) sn_fuel 0 ((S_fr (ex σ e) (ot σ e) (e / 2) 4 (S_oz e σ)).1, J3) (by simp only [List.length_append]; unfold sn_fuel; omega) (by simp only [List.length_append]; omega) hG3 hT3 hM (fun j hj => by
    show J3 63 (0 + j) = _
    rw [Nat.zero_add]
    by_cases q0 : j < m0.length
    · rw [List.getElem_append_left q0, c2 j (by omega)]
      show J2 63 j = _
      rw [b2 j (by omega)]
      show J1 63 j = _
      rw [a3 j (by omega) q0, ← hm0 j q0]
      rfl
    · rw [List.getElem_append_right (by omega)]
      by_cases q1 : j - m0.length < m1.length
      · rw [List.getElem_append_left q1, c2 j (by omega)]
        show J2 63 j = _
        rw [b3 j (by omega) (by omega), ← hm1 _ q1]
        show J1 28 _ = _
        rw [a1 28 _ (by decide)]
        rfl
      · rw [List.getElem_append_right (by omega)]
        have := c3 (j - m0.length - m1.length) (by simp only [List.length_append] at hj; omega)
        rw [← this]; congr 1; omega)
  rw [← hlen] at hag
  refine ⟨J3, hJ, ?_⟩
  have hag : g_Md_overEnds_346 sn_fuel (nI (ex σ e)) (nI (ot σ e)) (nI (m0.length + m1.length + (KLs K 4).length)) 0 _ = _ := hag
  rw [← hag, ← g3]
  have g1 : g_Md_overEnds_99 sn_fuel (nI (ex σ e)) (nI (e / 2)) (nI e) (nI (ot σ e)) 0 0 σ = _ := g1
  have g2 : g_Md_overEnds_143 sn_fuel (nI (ex σ e)) (nI (e / 2)) (nI e) (nI (ot σ e)) (nI m0.length) 0 (σ.1, J1) = _ := g2
  unfold g_Md_overEnds_93
  rw [g1, g2]
  rfl
