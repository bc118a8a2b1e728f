/-! LAYER 2: both end a changeover -/
theorem WI_fr1 {σ : sn_FS} (hw : WI σ) {x n l s : Nat} (hx : x < 6) (hn : n < 6) (hs : s < 4) : WI (S_fr1 x n l s σ) := by
  by_cases c : σ.1 42 (fl x n s) = 1 ∧ σ.1 43 (fl x n s) = nI l
  · have hF : S_fr1 x n l s σ = sI (sI (sI (sI σ 41 (fl x n s) (oI (bst σ x n s))) 42 (fl x n s) 0) 43 (fl x n s) (-1)) 47 (fl x n s) 0 := by unfold S_fr1; rw [if_pos c]
    have hs1 := S_fr1_SP (x := x) (n := n) (l := l) (s := s) σ
    have hf := fl_lt hx hn hs
    obtain ⟨v, hv, ev⟩ := hw.beg _ hf
    refine hw.mkF hx hn hs (fun k i hk => S_fr1_I σ (by omega)) (fun k i h => S_fr1_out σ h) ?_ ?_ ?_
    · have h44 : σ.1 44 (fl x n s) = 0 := by
        rcases (hw.f1 hx hn hs).2 with q | q | q
        · exact q.2.2.2
        · exact q.2.2.1
        · rw [q.1] at c; exact absurd c.1 (by decide)
      refine ⟨?_, Or.inl ⟨?_, ?_, ?_, ?_⟩⟩
      · rw [hs1.nlE, hs1.isofE, hs1.enE]
        have h10 : ∀ i, (S_fr1 x n l s σ).1 10 i = σ.1 10 i := fun i => S_fr1_I σ (by decide)
        have h41 : (S_fr1 x n l s σ).1 41 (fl x n s) = oI (bst σ x n s) := by rw [hF]; simp only [sn_upE, Nat.reduceEqDiff, reduceIte]
        simp only [h10, h41]
        cases hb : bst σ x n s with
        | none => exact Or.inl rfl
        | some l' => obtain ⟨b1, b2, b3⟩ := bst_ok hb; exact Or.inr ⟨l', b1, b2, rfl, b3⟩
      · rw [hF]; simp only [sn_upE, Nat.reduceEqDiff, reduceIte]
      · rw [hF]; simp only [sn_upE, Nat.reduceEqDiff, reduceIte]
      · rw [hF]; simp only [sn_upE, Nat.reduceEqDiff, reduceIte]
      · rw [S_fr1_I σ (by decide)]; exact h44
    · exact ⟨v, hv, by rw [S_fr1_I σ (by decide)]; exact ev⟩
    · exact ⟨0, by omega, by rw [hF]; simp only [sn_upE, Nat.reduceEqDiff, reduceIte]; rfl⟩
  · have hF : S_fr1 x n l s σ = σ := by unfold S_fr1; rw [if_neg c]
    rw [hF]; exact hw
theorem WI_fr {x n l : Nat} (hx : x < 6) (hn : n < 6) : ∀ (r : Nat) (σ : sn_FS), r ≤ 4 → WI σ → WI (S_fr x n l r σ)
  | 0, σ, _, hw => hw
  | r + 1, σ, hr, hw => WI_fr hx hn r _ (by omega) (WI_fr1 hw hx hn (by omega))
theorem S_fr_42 {x n l s : Nat} (hs : s < 4) : ∀ (r : Nat) (σ : sn_FS), r ≤ 4 → 4 - r ≤ s → σ.1 42 (fl x n s) = 1 ∧ σ.1 43 (fl x n s) = nI l → (S_fr x n l r σ).1 42 (fl x n s) = 0
  | 0, σ, _, h, _ => by omega
  | r + 1, σ, hr, h, c => by
    show (S_fr x n l r (S_fr1 x n l (4 - (r + 1)) σ)).1 42 (fl x n s) = 0
    by_cases h1 : 4 - r ≤ s
    · refine S_fr_42 hs r _ (by omega) h1 ?_
      have hne : fl x n s ≠ fl x n (4 - (r + 1)) := by unfold fl; omega
      rw [S_fr1_out σ hne, S_fr1_out σ hne]; exact c
    · have he : 4 - (r + 1) = s := by omega
      rw [S_fr_out r _ (by omega) (fun s' h2 h3 => by unfold fl; omega), he]
      unfold S_fr1
      rw [if_pos c]
      simp only [sn_upE, Nat.reduceEqDiff, reduceIte]
def XI (e : Nat) (P : Nat → Prop) (ρ σ : sn_FS) : Prop := ∀ k i, ¬ (k = 27 ∧ i = e) → ¬ (k = 29 ∧ i = e) → ¬ (k = 47 ∧ P i) → σ.1 k i = ρ.1 k i
theorem XI_fr1 {e : Nat} {P : Nat → Prop} {ρ σ : sn_FS} {x n l s : Nat} (h : XI e P ρ σ) (h42 : σ.1 43 (fl x n s) = nI l → σ.1 42 (fl x n s) = 1) (hP : σ.1 43 (fl x n s) = nI l → P (fl x n s)) : XI e P (S_fr1 x n l s ρ) (C_fr1 x n l s σ) := by
  have g : ∀ k i, k ≠ 27 → k ≠ 29 → k ≠ 47 → σ.1 k i = ρ.1 k i := fun k i a b c => h k i (fun q => a q.1) (fun q => b q.1) (fun q => c q.1)
  have hsp : SP ρ σ := ⟨fun i => g _ _ (by decide) (by decide) (by decide), fun i => g _ _ (by decide) (by decide) (by decide), fun i => g _ _ (by decide) (by decide) (by decide)⟩
  have hb : bst σ = bst ρ := bst_eq hsp (fun i => g _ _ (by decide) (by decide) (by decide))
  have g43 := g 43 (fl x n s) (by decide) (by decide) (by decide)
  have g42 := g 42 (fl x n s) (by decide) (by decide) (by decide)
  by_cases c : σ.1 43 (fl x n s) = nI l
  · have c2 : ρ.1 42 (fl x n s) = 1 ∧ ρ.1 43 (fl x n s) = nI l := ⟨g42 ▸ h42 c, g43 ▸ c⟩
    have hS : S_fr1 x n l s ρ = sI (sI (sI (sI ρ 41 (fl x n s) (oI (bst ρ x n s))) 42 (fl x n s) 0) 43 (fl x n s) (-1)) 47 (fl x n s) 0 := by unfold S_fr1; rw [if_pos c2]
    have hC : C_fr1 x n l s σ = sI (sI (sI σ 41 (fl x n s) (oI (bst ρ x n s))) 42 (fl x n s) 0) 43 (fl x n s) (-1) := by unfold C_fr1; rw [if_pos c, hb]
    rw [hS, hC]
    intro k i a1 a2 a3
    have hk := h k i a1 a2 a3
    have hp := hP c
    simp only [sn_upE]
    by_cases d1 : k = 43
    · subst d1
      simp only [sn_upE, Nat.reduceEqDiff, reduceIte, hk]
    · by_cases d2 : k = 42
      · subst d2
        simp only [sn_upE, Nat.reduceEqDiff, reduceIte, hk]
      · by_cases d3 : k = 41
        · subst d3
          simp only [sn_upE, Nat.reduceEqDiff, reduceIte, hk]
        · by_cases d4 : k = 47
          · have d5 : i ≠ fl x n s := fun q => a3 ⟨d4, q ▸ hp⟩
            subst d4
            simp only [d5, if_false, if_true, Nat.reduceEqDiff]; exact hk
          · simp only [d1, d2, d3, d4, if_false]; exact hk
  · have c2 : ¬ (ρ.1 42 (fl x n s) = 1 ∧ ρ.1 43 (fl x n s) = nI l) := fun q => c (g43.trans q.2)
    have hS : S_fr1 x n l s ρ = ρ := by unfold S_fr1; rw [if_neg c2]
    have hC : C_fr1 x n l s σ = σ := by unfold C_fr1; rw [if_neg c]
    rw [hS, hC]; exact h
theorem XI_fr {e : Nat} {P : Nat → Prop} {x n l : Nat} : ∀ (r : Nat) (ρ σ : sn_FS), r ≤ 4 → XI e P ρ σ → HF σ x n l r → (∀ s, s < 4 → 4 - r ≤ s → σ.1 43 (fl x n s) = nI l → P (fl x n s)) → XI e P (S_fr x n l r ρ) (C_fr x n l r σ)
  | 0, ρ, σ, _, h, _, _ => h
  | r + 1, ρ, σ, hr, h, hHF, hP => by
    refine XI_fr r _ _ (by omega) (XI_fr1 h (fun c => (hHF _ (by omega) (by omega) c).1) (hP _ (by omega) (by omega))) (hHF.st hr) (fun s h1 h2 => ?_)
    have hne : fl x n s ≠ fl x n (4 - (r + 1)) := by unfold fl; omega
    rw [C_fr1_out σ hne]
    exact hP s h1 (by omega)
theorem C_fr_Cur {x n l : Nat} : ∀ (r : Nat) (σ : sn_FS), CurOk σ → CurOk (C_fr x n l r σ)
  | 0, σ, h => h
  | r + 1, σ, h => C_fr_Cur r _ (C_fr1_Cur h)
theorem C_fr_out {x n l k i : Nat} : ∀ (r : Nat) (σ : sn_FS), r ≤ 4 → (∀ s, s < 4 → 4 - r ≤ s → i ≠ fl x n s) → (C_fr x n l r σ).1 k i = σ.1 k i
  | 0, σ, _, _ => rfl
  | r + 1, σ, hr, h => (C_fr_out r _ (by omega) (fun s h1 h2 => h s h1 (by omega))).trans (C_fr1_out σ (h _ (by omega) (by omega)))
theorem F1_43 {σ : sn_FS} {x n s l : Nat} (h : F1 σ x n s) (hl : l < 2 ^ 31) (c : σ.1 43 (fl x n s) = nI l) : σ.1 42 (fl x n s) = 1 ∧ σ.1 44 (fl x n s) = 0 := by
  have hm : ¬ nI l = (-1 : Int32) := nI_m1 (by omega)
  rcases h.2 with q | q | q
  · rw [q.2.2.1] at c; exact absurd c.symm hm
  · exact ⟨q.1, q.2.2.1⟩
  · rw [q.2.2] at c; exact absurd c.symm hm
theorem ms_of {σ η : sn_FS} (hH : HR σ η) {t i w : Nat} (ht : t < 3) (hi : exT σ t i) (h : σ.1 (sk t) i = nI w) (hw : w ≤ 64) : ∃ ms : List Msg, ms.length = w ∧ (∀ m ∈ ms, MV σ m) ∧ ∀ j (h : j < ms.length), σ.2 (jk t) (cp t * i + j) = wR ms[j] := by
  obtain ⟨hd, hR⟩ := hH.1 t ht i hi
  have hc := cl_n h (by omega)
  refine words_of (w := fun j => σ.2 (jk t) (cp t * i + j)) w (fun j hj => ?_)
  obtain ⟨m, m1, m2, m3⟩ := hR.2.2.2 j (by rw [hc]; exact hj)
  exact ⟨m, m1, m2⟩
variable {kk : Nat → Nat} {σ η : sn_FS}
def ecL : List Nat := [7, 21, 27, 29, 41, 42, 43, 47, 49]
theorem ec_main (hK : KOk kk σ) (hH : HR σ η) {e : Nat} (he : e < 2 * nl σ) (hw : WI (S_oz e σ)) (h10 : ¬ σ.1 10 e = 5) (h21 : σ.1 21 e = -1) (h27 : ∃ o, o ≤ 32 ∧ σ.1 27 e = nI o) (h29 : ∃ w, w ≤ 64 ∧ σ.1 29 e = nI w) (hL : LkA σ) : ∃ τ θ, g_Md_overEnds_93 (nI (ex σ e)) (nI (e / 2)) (nI e) (nI (ot σ e)) σ = some (none, τ) ∧ f_Tr_endChangeover_68 11 sn_fuel (some (aE e)) (some (aUQ e)) 0 (Kap kk σ η) = some (none, Kap kk τ θ) ∧ HR τ θ ∧ PE η θ ∧ WI τ ∧ LkA τ ∧ (∀ k i, k ∉ ecL → τ.1 k i = σ.1 k i) := by
  have hsz : SP σ (S_oz e σ) := ((SP.sI (k := 27) (by decide)).tr (SP.sI (k := 29) (by decide))).tr (SP.sI (k := 21) (by decide))
  have hP : PlanOk σ := by
    have := hw.1
    exact SP.plan (SP.sy hsz) this
  have gz : ∀ k i, k ≠ 27 → k ≠ 29 → k ≠ 21 → (S_oz e σ).1 k i = σ.1 k i := fun k i a b c => by unfold S_oz; rw [sI_ne c, sI_ne b, sI_ne a]
  have hn10 := hP.2.1
  obtain ⟨x1, x2, x3⟩ := hP.ex_lt he
  have he20 : e < 20 := by omega
  obtain ⟨o, ho, eo⟩ := h27
  obtain ⟨w, hww, ew⟩ := h29
  obtain ⟨m0, l0, v0, w0⟩ := ms_of hH (t := 0) (i := e) (by decide) he eo (by omega)
  obtain ⟨m1, l1, v1, w1⟩ := ms_of hH (t := 1) (i := e) (by decide) he ew (by omega)
  have hb : nb σ (ex σ e) (ot σ e) = true := nb_end hP he
  have hF1 : ∀ s, s < 4 → F1 σ (ex σ e) (ot σ e) s := fun s hs => by
    have := hw.f1 x1 x2 hs
    exact this.mk' (SP.sy hsz) (fun k a b _ _ => (gz k _ (by omega) (by omega) (by omega)).symm) (fun l _ _ _ q => by rw [gz 10 _ (by decide) (by decide) (by decide)] at q; exact q)
  have hHF : HF σ (ex σ e) (ot σ e) (e / 2) 4 := fun s h1 _ c => F1_43 (hF1 s h1) (by omega) c
  -- what the freed flows kept
  have hex : ∀ s, ∃ ms : List Msg, s < 4 → if σ.1 43 (fl (ex σ e) (ot σ e) s) = nI (e / 2) then (σ.1 47 (fl (ex σ e) (ot σ e) s) = nI ms.length ∧ ms.length ≤ 64 ∧ (∀ m ∈ ms, MV σ m) ∧ ∀ j (h : j < ms.length), σ.2 46 (64 * fl (ex σ e) (ot σ e) s + j) = wR ms[j]) else ms = [] := by
    intro s
    by_cases hs : s < 4
    · by_cases c : σ.1 43 (fl (ex σ e) (ot σ e) s) = nI (e / 2)
      · have hf := fl_lt x1 x2 hs
        obtain ⟨w', a1, a2⟩ := hw.2.2.1 _ hf
        rw [gz 47 _ (by decide) (by decide) (by decide)] at a2
        obtain ⟨g1, g2, -⟩ := fl_x (x := ex σ e) x2 hs
        obtain ⟨ms, b1, b2, b3⟩ := ms_of hH (t := 2) (i := fl (ex σ e) (ot σ e) s) (by decide) ⟨hf, by rw [g1, g2]; exact hb⟩ a2 (by omega)
        refine ⟨ms, fun _ => ?_⟩
        rw [if_pos c]
        exact ⟨by rw [b1]; exact a2, by omega, b2, b3⟩
      · exact ⟨[], fun _ => by rw [if_neg c]⟩
    · exact ⟨[], fun q => absurd q hs⟩
  obtain ⟨K, hKK⟩ := Classical.axiomOfChoice hex
  let P : Nat → Prop := fun f => ∃ s, s < 4 ∧ f = fl (ex σ e) (ot σ e) s ∧ σ.1 43 f = nI (e / 2)
  have hPs : ∀ s, s < 4 → (P (fl (ex σ e) (ot σ e) s) ↔ σ.1 43 (fl (ex σ e) (ot σ e) s) = nI (e / 2)) := fun s hs => ⟨fun ⟨_, _, _, q⟩ => q, fun q => ⟨s, hs, rfl, q⟩⟩
  have hKO : KOkL σ (ex σ e) (ot σ e) (e / 2) K 4 := by
    intro s h1 _
    have h3 := hKK s h1
    by_cases c : σ.1 43 (fl (ex σ e) (ot σ e) s) = nI (e / 2)
    · rw [if_pos c] at h3
      rw [if_pos ⟨(hHF s h1 (by omega) c).1, c⟩]
      exact ⟨h3.1, h3.2.1, h3.2.2.2⟩
    · rw [if_neg c] at h3
      rw [if_neg (fun q => c q.2)]; exact h3
  have hMK : ∀ r, r ≤ 4 → ∀ m ∈ KLs K r, MV σ m := by
    intro r
    induction r with
    | zero => intro _ m hm; cases hm
    | succ r ih =>
      intro hr m hm
      rcases List.mem_append.mp hm with q | q
      · have h3 := hKK (4 - (r + 1)) (by omega)
        by_cases c : σ.1 43 (fl (ex σ e) (ot σ e) (4 - (r + 1))) = nI (e / 2)
        · rw [if_pos c] at h3; exact h3.2.2.1 m q
        · rw [if_neg c] at h3; rw [h3] at q; cases q
      · exact ih (by omega) m q
  have hwf := WI_fr (l := e / 2) x1 x2 4 (S_oz e σ) (by omega) hw
  have hTσ : ToldOk σ := hw.told.mk' (fun i => (gz 50 i (by decide) (by decide) (by decide)).symm) (fun i => (gz 51 i (by decide) (by decide) (by decide)).symm)
  obtain ⟨J', j1, hg⟩ := gl_ov93 (K := K) (m0 := m0) (m1 := m1) hP he (by omega) (by omega) (by rw [l0]; exact eo) (by rw [l1]; exact ew) w0 w1 hKO hwf.gv hTσ (fun m hm => by
    rcases List.mem_append.mp hm with q | q
    · exact (v0 m q).1
    · rcases List.mem_append.mp q with q | q
      · exact (v1 m q).1
      · exact (hMK 4 (by omega) m q).1)
  -- the class
  have hCur : CurOk σ := (hw.cur).mk' (SP.sy hsz) (fun f _ => Or.inl (gz 41 f (by decide) (by decide) (by decide)).symm) (fun f _ => Or.inl (gz 43 f (by decide) (by decide) (by decide)).symm)
  obtain ⟨fu, c68⟩ := fl_ec68 (η := η) (r3 := some (aUQ e)) x1 x2 4 sn_fuel σ (by omega) (by unfold sn_fuel; omega) hK hP hCur he rfl rfl hHF
  have c68 : f_Tr_endChangeover_68 11 sn_fuel (some (aE e)) (some (aUQ e)) 0 (Kap kk σ η) = _ := c68
  have hsC := C_fr_SP (x := ex σ e) (n := ot σ e) (l := e / 2) 4 σ
  have hHC : HR (C_fr (ex σ e) (ot σ e) (e / 2) 4 σ) η := hH.mk' hsC (fun k i hk => C_fr_I (by omega) 4 σ) (fun i => by rw [C_fr_I (by decide) 4 σ]; exact id) (C_fr_J 4 σ)
  have hGC : GvOk (C_fr (ex σ e) (ot σ e) (e / 2) 4 σ) := by
    refine ⟨hsC.plan hP, fun e' he' => ?_, fun f hf => ?_, fun f hf _ => ?_⟩
    · rw [C_fr_I (by decide) 4 σ]
      by_cases c : e' = e
      · subst c; exact ⟨w, hww, ew⟩
      · obtain ⟨w', a1, a2⟩ := hw.2.1 e' he'
        refine ⟨w', a1, ?_⟩
        rw [← a2]; unfold S_oz; rw [sI_ne (by decide), sI_nk c, sI_ne (by decide)]
    · rw [C_fr_I (by decide) 4 σ]
      obtain ⟨w', a1, a2⟩ := hw.2.2.1 f hf
      exact ⟨w', a1, by rw [← a2]; exact (gz 47 f (by decide) (by decide) (by decide)).symm⟩
    · exact (C_fr_Cur 4 σ hCur f hf).1
  have hXI : XI e P (S_fr (ex σ e) (ot σ e) (e / 2) 4 (S_oz e σ)) (C_fr (ex σ e) (ot σ e) (e / 2) 4 σ) := by
    refine XI_fr 4 _ _ (by omega) (fun k i a1 a2 a3 => ?_) hHF (fun s h1 _ c => (hPs s h1).mpr c)
    unfold S_oz
    by_cases c : k = 21 ∧ i = e
    · obtain ⟨rfl, rfl⟩ := c
      rw [h21]; simp only [sn_upE, Nat.reduceEqDiff, reduceIte]
    · have d1 : ∀ {τ : sn_FS}, (sI τ 21 e (-1)).1 k i = τ.1 k i := by
        intro τ
        by_cases c2 : k = 21
        · exact sI_nk (fun q => c ⟨c2, q⟩)
        · exact sI_ne c2
      have d2 : ∀ {τ : sn_FS}, (sI τ 29 e 0).1 k i = τ.1 k i := by
        intro τ
        by_cases c2 : k = 29
        · exact sI_nk (fun q => a2 ⟨c2, q⟩)
        · exact sI_ne c2
      have d3 : ∀ {τ : sn_FS}, (sI τ 27 e 0).1 k i = τ.1 k i := by
        intro τ
        by_cases c2 : k = 27
        · exact sI_nk (fun q => a1 ⟨c2, q⟩)
        · exact sI_ne c2
      rw [d1, d2, d3]
  have hXE : XE e P ((S_fr (ex σ e) (ot σ e) (e / 2) 4 (S_oz e σ)).1, J') (C_fr (ex σ e) (ot σ e) (e / 2) 4 σ) := ⟨hXI, fun k i h63 _ _ _ => by rw [C_fr_J]; exact (j1 k i h63).symm⟩
  have hwf' : WI ((S_fr (ex σ e) (ot σ e) (e / 2) 4 (S_oz e σ)).1, J') := hwf.mk' (fun _ _ _ => rfl)
  have h10' : ¬ ((S_fr (ex σ e) (ot σ e) (e / 2) 4 (S_oz e σ)).1) 10 e = 5 := by rw [S_fr_I (by decide), gz 10 _ (by decide) (by decide) (by decide)]; exact h10
  have hFX : FX e P ((S_fr (ex σ e) (ot σ e) (e / 2) 4 (S_oz e σ)).1, J') := hwf'.fx h10' (fun f ⟨s, hs, hf, c⟩ => by
    subst hf
    refine S_fr_42 hs 4 _ (by omega) (by omega) ?_
    rw [gz 42 _ (by decide) (by decide) (by decide), gz 43 _ (by decide) (by decide) (by decide)]
    exact ⟨(hHF s hs (by omega) c).1, c⟩)
  have hA0 : AG kk e P ((S_fr (ex σ e) (ot σ e) (e / 2) 4 (S_oz e σ)).1, J') (C_fr (ex σ e) (ot σ e) (e / 2) 4 σ) η := ⟨hXE, hFX, hK.sp hsC, hHC, hGC, hwf'.told, by rw [hsC.nlE]; exact he⟩
  generalize hρ : ((S_fr (ex σ e) (ot σ e) (e / 2) 4 (S_oz e σ)).1, J') = ρ at hg hA0 hwf' hXE
  have hρI : ∀ k i, ρ.1 k i = (S_fr (ex σ e) (ot σ e) (e / 2) 4 (S_oz e σ)).1 k i := by rw [← hρ]; intro k i; rfl
  have hD0 : inD e P 0 e := by unfold inD; rw [if_neg (by decide)]
  have hD1 : inD e P 1 e := by unfold inD; rw [if_neg (by decide)]
  obtain ⟨τ1, θ1, a1, a2, a3, a4, a5, a6⟩ := fl_giveAgain (t := 0) (i := e) (by decide) hD0 m0 ρ _ η (by show _ ≤ 32; omega) hA0 (by rw [exT.sp hsC]; exact he) (by rw [hsC.exE]) (by rw [hsC.otE]) (by rw [C_fr_I (by decide) 4 σ, l0]; exact eo) (fun m hm => by rw [MV.sp hsC]; exact v0 m hm) (fun j hj => by rw [C_fr_J]; exact w0 j hj)
  have hM0 : ∀ m ∈ m0, MOk m := fun m h => (v0 m h).1
  have hM1 : ∀ m ∈ m1, MOk m := fun m h => (v1 m h).1
  have hq1 := (QC_ags x1 x2 m0 ρ hwf' hM0)
  have hw1 := hq1.wi hwf'
  have hs1 := hsC.tr a4
  obtain ⟨z1, z2⟩ := a6 1 e (by decide) hD1 (by omega)
  obtain ⟨τ2, θ2, b1, b2, b3, b4, b5, b6⟩ := fl_giveAgain (t := 1) (i := e) (by decide) hD1 m1 _ τ1 θ1 (by show _ ≤ 64; omega) a2 (by rw [exT.sp hs1]; exact he) (by rw [hs1.exE]) (by rw [hs1.otE]) (by rw [z1, C_fr_I (by decide) 4 σ, l1]; exact ew) (fun m hm => by rw [MV.sp hs1]; exact v1 m hm) (fun j hj => by rw [z2 j (by show j < 64; omega), C_fr_J]; exact w1 j hj)
  have hq2 := (QC_ags x1 x2 m1 _ hw1 hM1)
  have hw2 := hq2.wi hw1
  have hs2 := hs1.tr b4
  obtain ⟨τ3, θ3, fu3, c1, c2, c3, c4, c5, c6⟩ := fl_ec150 (K := K) x1 x2 4 sn_fuel _ τ2 θ2 (by omega) (by unfold sn_fuel; omega) b2 hw2 (by rw [hs2.exE]) (by rw [hs2.otE]) (fun s h1 _ h3 => by
    have h4 := hKK s h1
    rw [if_pos ((hPs s h1).mp h3)] at h4
    have hD' : inD e P 2 (fl (ex σ e) (ot σ e) s) := by unfold inD; rw [if_pos rfl]; exact h3
    obtain ⟨p1, p2⟩ := a6 2 _ (by decide) hD' (by omega)
    obtain ⟨q1, q2⟩ := b6 2 _ (by decide) hD' (by omega)
    refine ⟨?_, h4.2.1, fun m hm => by rw [MV.sp hs2]; exact h4.2.2.1 m hm, fun j hj => ?_⟩
    · have q1 : τ2.1 47 _ = τ1.1 47 _ := q1
      have p1 : τ1.1 47 _ = (C_fr (ex σ e) (ot σ e) (e / 2) 4 σ).1 47 _ := p1
      rw [q1, p1, C_fr_I (by decide) 4 σ]; exact h4.1
    · have q2 : τ2.2 46 (64 * fl (ex σ e) (ot σ e) s + j) = τ1.2 46 (64 * fl (ex σ e) (ot σ e) s + j) := q2 j (by show j < 64; omega)
      have p2 : τ1.2 46 (64 * fl (ex σ e) (ot σ e) s + j) = (C_fr (ex σ e) (ot σ e) (e / 2) 4 σ).2 46 (64 * fl (ex σ e) (ot σ e) s + j) := p2 j (by show j < 64; omega)
      rw [q2, p2, C_fr_J]; exact h4.2.2.2 j hj) (fun s h1 h3 => by
    have h4 := hKK s h1
    rw [if_neg (fun q => h3 ((hPs s h1).mpr q))] at h4
    exact h4)
  have c1 : f_Tr_endChangeover_150 11 sn_fuel (some (aE e)) 0 (Kap kk τ2 θ2) = _ := c1
  have hMK4 : ∀ m ∈ KLs K 4, MOk m := fun m h => (hMK 4 (by omega) m h).1
  have hq3 := (QC_ags x1 x2 (KLs K 4) _ hw2 hMK4)
  have hw3 := hq3.wi hw2
  have hR3 : S_ags (ex σ e) (ot σ e) (KLs K 4) (S_ags (ex σ e) (ot σ e) m1 (S_ags (ex σ e) (ot σ e) m0 ρ)) = S_ags (ex σ e) (ot σ e) (m0 ++ (m1 ++ KLs K 4)) ρ := by rw [S_ags_app, S_ags_app]
  have hq := (hq1.tr hq2).tr hq3
  rw [hR3] at c2 hw3 hq
  obtain ⟨d1, d2, d3, d4, d5, d6, d7⟩ := c2
  have hs3 := hs2.tr c4
  -- nothing is left of the emptied queues
  have t27 : τ3.1 27 e = 0 := by
    have q1 : τ3.1 27 e = τ2.1 27 e := (c6 0 e (by decide) hD0 (fun s _ _ q => absurd q.1 (by decide))).1
    have q2 : τ2.1 27 e = τ1.1 27 e := (b6 0 e (by decide) hD0 (by omega)).1
    rw [q1, q2]; exact a5
  have t29 : τ3.1 29 e = 0 := by
    have q1 : τ3.1 29 e = τ2.1 29 e := (c6 1 e (by decide) hD1 (fun s _ _ q => absurd q.1 (by decide))).1
    rw [q1]; exact b5
  have t47 : ∀ f, P f → τ3.1 47 f = 0 := by
    rintro f ⟨s, hs, hf, c⟩
    subst hf
    exact c5 s hs (by omega) ((hPs s hs).mpr c)
  have f10 : ((S_ags (ex σ e) (ot σ e) (m0 ++ (m1 ++ KLs K 4)) ρ)).1 10 e = ρ.1 10 e := S_ags_I (by decide) _ _
  have h10r : ρ.1 10 e = σ.1 10 e := by rw [hρI, S_fr_I (by decide), gz 10 _ (by decide) (by decide) (by decide)]
  have r29 : (S_ags (ex σ e) (ot σ e) (m0 ++ (m1 ++ KLs K 4)) ρ).1 29 e = 0 := by
    rcases hq.2.1 e he20 with q | q
    · rw [q, hρI, S_fr_I (by decide)]; unfold S_oz; simp only [sn_upE, Nat.reduceEqDiff, reduceIte]
    · rw [h10r] at q; exact absurd q.1 h10
  have r27 : (S_ags (ex σ e) (ot σ e) (m0 ++ (m1 ++ KLs K 4)) ρ).1 27 e = 0 := by
    rw [S_ags_I (by decide), hρI, S_fr_I (by decide)]; unfold S_oz; simp only [sn_upE, Nat.reduceEqDiff, reduceIte]
  have r47 : ∀ f, P f → (S_ags (ex σ e) (ot σ e) (m0 ++ (m1 ++ KLs K 4)) ρ).1 47 f = 0 := by
    rintro f ⟨s, hs, hf, c⟩
    subst hf
    have h42 : (S_ags (ex σ e) (ot σ e) (m0 ++ (m1 ++ KLs K 4)) ρ).1 42 (fl (ex σ e) (ot σ e) s) = 0 := by
      rw [S_ags_I (by decide), hρI]
      refine S_fr_42 hs 4 _ (by omega) (by omega) ?_
      rw [gz 42 _ (by decide) (by decide) (by decide), gz 43 _ (by decide) (by decide) (by decide)]
      exact ⟨(hHF s hs (by omega) c).1, c⟩
    rcases (hw3.f1 x1 x2 hs).2 with q | q | q
    · exact q.2.1
    · rw [q.1] at h42; exact absurd h42 (by decide)
    · rw [q.1] at h42; exact absurd h42 (by decide)
  generalize hτ : S_ags (ex σ e) (ot σ e) (m0 ++ (m1 ++ KLs K 4)) ρ = ω at d1 d2 d6 hw3 hq r29 r27 r47 hg
  have hI : ∀ k i, τ3.1 k i = ω.1 k i := by
    intro k i
    by_cases q1 : k = 27 ∧ i = e
    · rw [q1.1, q1.2, t27, r27]
    · by_cases q2 : k = 29 ∧ i = e
      · rw [q2.1, q2.2, t29, r29]
      · by_cases q3 : k = 47 ∧ P i
        · rw [q3.1, t47 i q3.2, r47 i q3.2]
        · exact d1.1 k i q1 q2 q3
  have hsω : SP τ3 ω := ⟨fun i => (hI 0 i).symm, fun i => (hI 1 i).symm, fun i => (hI 4 i).symm⟩
  have hKω : Kap kk τ3 θ3 = Kap kk ω θ3 := Kap_of (fun k i _ => hI k i)
  have hHω : HR ω θ3 := by
    refine ⟨d4.1.mk' hsω (fun t ht i hi => ⟨congrArg Int32.toNatClampNeg (hI _ _).symm, fun j hj => ?_⟩) (fun t ht i => ⟨rfl, fun j => rfl⟩), d4.2.1.mk' hsω (fun k' i _ _ => (hI _ _).symm) (fun i => (d1.2 35 i (by decide) (by omega) (by omega) (by omega)).symm) (fun e j => ⟨rfl, rfl⟩), d4.2.2.mk' hsω (fun i q => by rw [hI]; exact q) (fun i => (hI _ _).symm) (fun e => rfl)⟩
    have hz : ∀ k i, τ3.1 k i = 0 → cl τ3 k i = 0 := fun k i q => by unfold cl; rw [q]; rfl
    rcases t3 ht with rfl | rfl | rfl
    · refine (d1.2 25 (32 * i + j) (by decide) (fun q => ?_) (by omega) (by omega)).symm
      have hi20 : i < 2 * nl τ3 := hi
      have hcap : cl τ3 27 i ≤ 32 := by
        obtain ⟨hd, hR⟩ := d4.1 0 (by decide) i hi
        exact hR.2.1
      have hj : j < cl τ3 27 i := hj
      have : i = e := by omega
      subst this
      rw [hz 27 _ t27] at hj; omega
    · refine (d1.2 28 (64 * i + j) (by decide) (by omega) (fun q => ?_) (by omega)).symm
      have hcap : cl τ3 29 i ≤ 64 := by
        obtain ⟨hd, hR⟩ := d4.1 1 (by decide) i hi
        exact hR.2.1
      have hj : j < cl τ3 29 i := hj
      have : i = e := by omega
      subst this
      rw [hz 29 _ t29] at hj; omega
    · refine (d1.2 46 (64 * i + j) (by decide) (by omega) (by omega) (fun q => ?_)).symm
      have hcap : cl τ3 47 i ≤ 64 := by
        obtain ⟨hd, hR⟩ := d4.1 2 (by decide) i hi
        exact hR.2.1
      have hj : j < cl τ3 47 i := hj
      have hii : (64 * i + j) / 64 = i := by omega
      rw [hii] at q
      rw [hz 47 _ (t47 i q.2)] at hj; omega
  obtain ⟨θ, y1, y2, y3⟩ := fl_look ((hK.sp hs3).sp hsω) hHω hw3.gv hw3.told x1
  have hsω2 := hs3.tr hsω
  have hρo : ∀ k i, k ≠ 27 → k ≠ 29 → k ≠ 21 → (∀ s, s < 4 → i ≠ fl (ex σ e) (ot σ e) s) → ρ.1 k i = σ.1 k i := fun k i a b c h => by
    rw [hρI, S_fr_out 4 _ (by omega) (fun s h1 _ => h s h1), gz k i a b c]
  have hLk : LkA (S_look (ex σ e) ω) := by
    refine LkA_look hL hTσ hsω2 x1 (fun k i hk => ?_) (fun y i _ _ _ => ?_) (fun y n hy hne hn => ?_)
    · rw [← hτ, S_ags_I (by omega), hρI, S_fr_I (by omega), gz k i (by omega) (by omega) (by omega)]
    · rw [← hτ, S_ags_I (by decide), hρI, S_fr_I (by decide), gz 49 _ (by decide) (by decide) (by decide)]
    · have hne : ∀ s, s < 4 → fl y n 0 ≠ fl (ex σ e) (ot σ e) s := fun s hs => by unfold fl; omega
      have a41 : ω.1 41 (fl y n 0) = σ.1 41 (fl y n 0) := by rw [← hτ, S_ags_I (by decide)]; exact hρo 41 _ (by decide) (by decide) (by decide) hne
      have a42 : ω.1 42 (fl y n 0) = σ.1 42 (fl y n 0) := by rw [← hτ, S_ags_I (by decide)]; exact hρo 42 _ (by decide) (by decide) (by decide) hne
      unfold opb
      rw [a41, a42]
  refine ⟨S_look (ex σ e) ω, θ, hg, ?_, y2, (a3.tr b3).tr (c3.tr y3), (QC_look hw3 x1).wi hw3, hLk, fun k i hk => ?_⟩
  · have hKs : KOk kk τ3 := hK.sp hs3
    obtain ⟨⟨k1, k2, k3, k4, k5, k6, k7, k8, k9, k10, k11, -⟩, kE, -⟩ := id hK
    obtain ⟨e1, e2, e3, e4, e5, e6, e7⟩ := kE e he
    have o4 : ((4 : Int32) ≤ 4) = True := eq_true (by decide)
    have a1 : f_Tr_giveAgain 11 (some (aE e)) (some (aUQ e)) _ = _ := a1
    have b1 : f_Tr_giveAgain 11 (some (aE e)) (some (aWQ e)) _ = _ := b1
    have c1' : f_Tr_endChangeover_150 11 sn_fuel (some (aE e)) 0 (Kap kk τ2 θ2) = f_Tr_endChangeover_150 11 (fu3 + 1) (some (aE e)) 4 (Kap kk ω θ3) := by rw [c1, hKω]
    have hxe : ex ω e = ex σ e := by rw [hsω2.exE]
    rw [c68]
    simp only [f_Tr_endChangeover_68, x_ite, o4, if_true, x_nn, k11, x_cV a1, x_gR, e1, rr_E4, e3, rr_W8, x_cV b1, c1', f_Tr_endChangeover_150, x_gI, rd_E2, hxe, x_cV y1, r_V]
  · have hk' : k ≠ 7 ∧ k ≠ 21 ∧ k ≠ 27 ∧ k ≠ 29 ∧ k ≠ 41 ∧ k ≠ 42 ∧ k ≠ 43 ∧ k ≠ 47 ∧ k ≠ 49 := by
      simp only [ecL, List.mem_cons, List.not_mem_nil, or_false, not_or] at hk; exact hk
    rw [(QC_look hw3 x1).at (by omega), ← hτ, S_ags_I (by omega), hρI, S_fr_I (by omega), gz k i (by omega) (by omega) (by omega)]
