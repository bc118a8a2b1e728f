/-! LAYER 2: one call on both objects -/
theorem kd0_E {σ : sn_FS} {e t : Nat} (he : e < 2 * nl σ) (h1 : 30 ≤ t) (h2 : t < 37) : kd0 σ (64 * e + (64 + t)) ≠ 0 := by
  unfold kd0
  rw [kdL_O _ _ _ _ _ (by omega), if_pos ⟨h1, h2⟩, if_pos he]
  exact kdE_n t h2 h1
theorem kd0_F {σ : sn_FS} {e t : Nat} (he : nbf σ e = true) (h1 : 40 ≤ t) (h2 : t < 43) : kd0 σ (64 * e + (64 + t)) ≠ 0 := by
  unfold kd0
  rw [kdL_O _ _ _ _ _ (by omega), if_neg (by omega), if_pos ⟨h1, h2⟩, if_pos he]
  exact kdF_n t h2 h1
theorem kd0_C {σ : sn_FS} {e : Nat} (he : nbf σ e = true) : kd0 σ (64 * e + (64 + 50)) ≠ 0 := by
  unfold kd0
  rw [kdL_O _ _ _ _ _ (by omega), if_neg (by omega), if_neg (by omega), if_pos rfl, if_pos he]
  decide
theorem kd0_P {σ : sn_FS} {e : Nat} (he : e < 24) : kd0 σ (64 * e + (64 + 51)) ≠ 0 := by
  unfold kd0
  rw [kdL_O _ _ _ _ _ (by omega), if_neg (by omega), if_neg (by omega), if_neg (by omega), if_pos rfl, if_pos he]
  decide
theorem kd0_S {σ : sn_FS} {a : Nat} (h1 : 1 ≤ a) (h2 : a ≤ 22) : kd0 σ a ≠ 0 := by
  unfold kd0
  rw [kdL_S _ _ _ _ (by omega)]
  have : ∀ a, a ≤ 22 → 1 ≤ a → kdS.getD a 0 ≠ 0 := by decide
  exact this a h2 h1
theorem enl_lt {σ : sn_FS} {l x : Nat} (h : l < nl σ) : en σ l x < 2 * nl σ := by unfold en; split <;> omega
theorem in_setOf {σ : sn_FS} {x n l : Nat} (h : l ∈ setOf σ x n) : l < nl σ ∧ isof σ l x n = true := by
  unfold setOf setFrom at h
  obtain ⟨h1, h2⟩ := List.mem_filter.mp h
  have := List.mem_range'_1.mp h1
  exact ⟨by omega, h2⟩
theorem k_sr_in {a j b : Nat} (h : k_sr a j = some b) : 1 ≤ b ∧ b ≤ 22 := by
  unfold k_sr at h
  have key : ∀ (L : List Nat) (i : Nat), (∀ q ∈ L, 1 ≤ q ∧ q ≤ 22) → L[i]? = some b → 1 ≤ b ∧ b ≤ 22 := fun L i hq h => hq b (List.mem_of_getElem? h)
  split at h
  · exact key _ _ (by decide) h
  · split at h
    · split at h
      · cases h
      · exact key _ _ (by decide) h
    · split at h
      · exact key _ _ (by decide) h
      · split at h
        · exact key _ _ (by decide) h
        · split at h
          · exact key _ _ (by decide) h
          · cases h
theorem nbf_t {σ : sn_FS} {f : Nat} (h : f < 144 ∧ nb σ (f / 24) (f % 24 / 4) = true) : nbf σ f = true := by simp [nbf, h.1, h.2]
theorem t_nbf {σ : sn_FS} {f : Nat} (h : nbf σ f = true) : f < 144 ∧ nb σ (f / 24) (f % 24 / 4) = true := by simpa [nbf] using h
theorem kd0_L {σ : sn_FS} {o : Nat} (h : VL σ o) : kd0 σ (aL o) ≠ 0 := by
  unfold aL
  rcases h with q | ⟨q1, q2, q3⟩
  · rw [if_neg (by omega)]; exact kd0_P q
  · rw [if_pos q1]
    exact kd0_C (nbf_t ⟨by omega, q3⟩)
theorem okr_leg {σ : sn_FS} (hJ : JOk σ) {g b : Nat} (hg : VL σ g) (h : k_leg (lgv σ g) = some b) : kd0 σ b ≠ 0 := by
  rcases hJ g hg with q | ⟨o, o1, -, -, o2, -⟩
  · rw [q] at h; cases h
  · rw [o2, k_leg_n o1.vn] at h
    cases h
    exact kd0_L o1
theorem okr_end {σ : sn_FS} {x b : Nat} {v : Int32} (hv : v = -1 ∨ ∃ l, l < nl σ ∧ v = nI l) (hn : nl σ ≤ 10) (h : k_end σ x v = some b) : kd0 σ b ≠ 0 := by
  unfold k_end at h
  rcases hv with q | ⟨l, hl, q⟩
  · rw [if_pos q] at h; cases h
  · rw [q, if_neg (nI_m1 (by omega)), nI_clamp (by omega)] at h
    cases h
    exact kd0_E (t := 30) (enl_lt hl) (by decide) (by decide)
theorem okr_kd {σ : sn_FS} (hW : WI σ) (hJ : JOk σ) : ∀ a j, kd0 σ a ≠ 0 → sn_okr (kd0 σ) (kR σ a j) := by
  intro a j ha b hb
  by_cases c : a < 64
  · unfold kR at hb
    rw [if_pos c] at hb
    split at hb
    · split at hb
      · rename_i q; cases hb; exact kd0_E (t := 30) q (by decide) (by decide)
      · cases hb
    · split at hb
      · obtain ⟨l, h1, h2⟩ := Option.map_eq_some_iff.mp hb
        subst h2
        exact kd0_E (t := 30) (enl_lt (in_setOf (List.mem_of_getElem? h1)).1) (by decide) (by decide)
      · split at hb
        · split at hb
          · rename_i q; cases hb; exact kd0_F (t := 40) (nbf_t q) (by decide) (by decide)
          · cases hb
        · split at hb
          · split at hb
            · rename_i q; cases hb; exact kd0_P q
            · cases hb
          · split at hb
            · split at hb
              · rename_i q; cases hb; exact kd0_C (nbf_t q)
              · cases hb
            · exact kd0_S (k_sr_in hb).1 (k_sr_in hb).2
  · obtain ⟨e, t, ht, rfl⟩ : ∃ e t, t < 64 ∧ a = 64 * e + (64 + t) := ⟨a / 64 - 1, a % 64, by omega, by omega⟩
    obtain ⟨h1, h2, h3⟩ := k_md e t ht
    have ha' := ha
    unfold kd0 at ha'
    rw [kdL_O _ _ _ _ _ ht] at ha'
    simp only [kR, h1, h2, h3, if_false] at hb
    have s2 : kd0 σ 2 ≠ 0 := kd0_S (by decide) (by decide)
    split at hb
    · rename_i q; subst q
      have he : e < 2 * nl σ := by
        by_cases z : e < 2 * nl σ
        · exact z
        · simp [z] at ha'
      split at hb
      · cases hb; exact s2
      · split at hb
        · cases hb; exact kd0_E (t := 32) he (by decide) (by decide)
        · split at hb
          · cases hb; exact kd0_E (t := 31) he (by decide) (by decide)
          · cases hb
    · split at hb
      · rename_i q; subst q
        have he : e < 2 * nl σ := by
          by_cases z : e < 2 * nl σ
          · exact z
          · simp [z] at ha'
        split at hb
        · cases hb; exact s2
        · split at hb
          · cases hb; exact kd0_E (t := 33) he (by decide) (by decide)
          · split at hb
            · cases hb; exact kd0_E (t := 35) he (by decide) (by decide)
            · cases hb
      · split at hb
        · rename_i q; subst q
          have he : e < 2 * nl σ := by
            by_cases z : e < 2 * nl σ
            · exact z
            · simp [z] at ha'
          split at hb
          · cases hb; exact kd0_E (t := 34) he (by decide) (by decide)
          · cases hb
        · split at hb
          · rename_i q; subst q
            have he : e < 2 * nl σ := by
              by_cases z : e < 2 * nl σ
              · exact z
              · simp [z] at ha'
            split at hb
            · cases hb; exact kd0_E (t := 36) he (by decide) (by decide)
            · cases hb
          · split at hb
            · rename_i q; subst q
              have he : nbf σ e = true := by
                by_cases z : nbf σ e = true
                · exact z
                · simp [z] at ha'
              have hc := hW.cur e (t_nbf he).1
              have hn := hW.1.2.1
              split at hb
              · exact okr_end hc.1 hn hb
              · split at hb
                · exact okr_end hc.2 hn hb
                · split at hb
                  · cases hb; exact kd0_F (t := 41) he (by decide) (by decide)
                  · cases hb
            · split at hb
              · rename_i q; subst q
                have he : nbf σ e = true := by
                  by_cases z : nbf σ e = true
                  · exact z
                  · simp [z] at ha'
                split at hb
                · cases hb; exact kd0_F (t := 42) he (by decide) (by decide)
                · cases hb
              · split at hb
                · rename_i q; subst q
                  have he : nbf σ e = true := by
                    by_cases z : nbf σ e = true
                    · exact z
                    · simp [z] at ha'
                  split at hb
                  · have := t_nbf he
                    refine okr_leg hJ (g := e + 100) (Or.inr ⟨by omega, by omega, by rw [Nat.add_sub_cancel]; exact this.2⟩) (b := b) ?_
                    unfold lgv
                    rw [if_pos (by omega), Nat.add_sub_cancel]; exact hb
                  · cases hb
                · split at hb
                  · rename_i q; subst q
                    have he : e < 24 := by
                      by_cases z : e < 24
                      · exact z
                      · simp [z] at ha'
                    split at hb
                    · refine okr_leg hJ (g := e) (Or.inl he) (b := b) ?_
                      unfold lgv
                      rw [if_neg (by omega)]; exact hb
                    · cases hb
                  · cases hb
/-- the two objects, related -/
def Rr (X M c s u : Nat) (μ : sn_Mem) : Prop := ∃ ρ σ η, Lv D0 M σ ρ (kd0 σ) σ η μ ∧ GA σ η ∧ T49 σ ∧ S4 σ ∧ ρ 1 = X ∧ cl σ 6 0 ≤ c ∧ m_sz μ ≤ s ∧ m_us μ ≤ u
def StpR (X M c s u : Nat) (F G : sn_M) (μ : sn_Mem) : Prop := ∃ v μ1 μ2, F μ = some (some (.int v), μ1) ∧ m_kd μ1 M = 12 ∧ G μ1 = some (some (.int v), μ2) ∧ Rr X M c s u μ2
theorem stpR_op {M c s u : Nat} {ρ : Nat → Nat} {σ η : sn_FS} {μ : sn_Mem} {F f G : sn_M} {g : sn_G} (h : Lv D0 M σ ρ (kd0 σ) σ η μ) (hA : GA σ η) (hT : T49 σ) (h4 : S4 σ) (hc : cl σ 6 0 ≤ c) (hs : m_sz μ ≤ s) (hu : m_us μ ≤ u) (hre : sn_Re ρ (kd0 σ) F f) (hlf : sn_Lf M G g) (hpf : sn_Pf M G g) (hop : Op (kd0 σ) g f σ η) : StpR (ρ 1) M (c + 200) s u F G μ := by
  obtain ⟨v, τ, θ, hg, hf, hA', hS, hcl⟩ := hop
  have hR := h.rn (okr_kd hA.1.1.2.1 hA.1.2.2.1.1)
  obtain ⟨g1, g2, g3, g4, g5, g6⟩ := h
  obtain ⟨μ1, e1, hR1, ⟨-, ⟨z1, z2, z3, z4⟩, z5⟩, -⟩ := hre _ _ hR _ _ hf
  have hs1 := St_same (μ' := μ1) g5 (fun b q1 q2 => by
    have hb : ∀ a, kd0 σ a ≠ 0 → ρ a ≠ b := fun a ha => by have := (g3 a ha).2; omega
    exact ⟨by rw [z3], by rw [z4], fun j => (z5 b hb j).1, fun j => (z5 b hb j).2.1, fun j => (z5 b hb j).2.2⟩)
  obtain ⟨μ2, e2, hV, ⟨y1, y2, y3, y4, y5⟩, y6⟩ := hlf μ1 hs1.1 (some (.int v)) τ (by rw [hs1.2, g6]; exact hg)
  have hk : kd0 τ = kd0 σ := kd0_SP hS
  refine ⟨v, μ1, μ2, e1, hs1.1.1, e2, ρ, τ, θ, ⟨?_, by rw [hk]; exact g2, fun a ha => ?_, by omega, hs1.1.same y3 y4 y5, hV⟩, hA', hpf σ _ τ hg hT, fun x n => by rw [hS.setOfE]; exact h4 x n, rfl, by omega, by omega, by omega⟩
  · rw [hk]
    intro a ha
    obtain ⟨d1, d2, d3, d4, d5⟩ := rn_Rl hR1 a ha
    have ho := (g3 a ha).2
    exact ⟨by rw [y3]; exact d1, by rw [y4]; exact d2, fun j => (y6 _ ho j).1.trans (d3 j), fun j => (y6 _ ho j).2.trans (d4 j), fun j => by rw [y5]; exact d5 j⟩
  · rw [hk] at ha
    have := g3 a ha
    omega
