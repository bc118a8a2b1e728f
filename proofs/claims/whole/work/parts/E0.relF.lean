/-! LAYER 2: link: one call on both objects -/
theorem stp_fin {X M c s u : Nat} {ρ1 : Nat → Nat} {σ τ θ : sn_FS} {μ μ1 : sn_Mem} {F G : sn_M} {g : sn_G} {v : Int32} (e1 : F μ = some (some (.int v), μ1)) (hL : Lv D0 M σ ρ1 (kd0 τ) τ θ μ1) (hlf : sn_Lf M G g) (hg : g σ = some (some (.int v), τ)) (hA : GA τ θ) (hT : T49 τ) (h4 : S4 τ) (hc : cl τ 6 0 ≤ c) (hs : m_sz μ1 ≤ s) (hu : m_us μ1 ≤ u) (h1 : ρ1 1 = X) : StpR X M c s u F G μ := by
  obtain ⟨g1, g2, g3, g4, g5, g6⟩ := hL
  obtain ⟨μ2, e2, hV, ⟨y1, y2, y3, y4, y5⟩, y6⟩ := hlf μ1 g5 (some (.int v)) τ (by rw [g6]; exact hg)
  refine ⟨v, μ1, μ2, e1, g5.1, e2, ρ1, τ, θ, ⟨fun a ha => ?_, g2, fun a ha => ?_, by omega, g5.same y3 y4 y5, hV⟩, hA, hT, h4, h1, hc, by omega, by omega⟩
  · obtain ⟨d1, d2, d3, d4, d5⟩ := g1 a ha
    have ho := (g3 a ha).2
    exact ⟨by rw [y3]; exact d1, by rw [y4]; exact d2, fun j => (y6 _ ho j).1.trans (d3 j), fun j => (y6 _ ho j).2.trans (d4 j), fun j => by rw [y5]; exact d5 j⟩
  · have := g3 a ha
    omega
section LkF
variable {M c s u : Nat} {ρ : Nat → Nat} {σ η : sn_FS} {μ : sn_Mem}
/-- what the plan leaves -/
theorem lv_Kp {M : Nat} {ρ kk : Nat → Nat} {σr σ τ η θ : sn_FS} {μ μ1 κ κ' : sn_Mem} (h : Lv D0 M σr ρ kk σ η μ) (hK : sn_Kp ρ kk κ μ κ' μ1) (hR : Rl D0 ρ kk τ θ μ1) : Lv D0 M σr ρ kk τ θ μ1 := by
  obtain ⟨g1, g2, g3, g4, g5, g6⟩ := h
  obtain ⟨-, ⟨z1, z2, z3, z4⟩, z5⟩ := hK
  have hs1 := St_same (μ' := μ1) g5 (fun b q1 q2 => by
    have hb : ∀ a, kk a ≠ 0 → ρ a ≠ b := fun a ha => by have := (g3 a ha).2; omega
    exact ⟨by rw [z3], by rw [z4], fun j => (z5 b hb j).1, fun j => (z5 b hb j).2.1, fun j => (z5 b hb j).2.2⟩)
  exact ⟨hR, g2, fun a ha => by rw [z1]; exact g3 a ha, by omega, hs1.1, hs1.2.trans g6⟩
theorem stp_no {x1 x2 : Int32} (h : Lv D0 M σ ρ (kd0 σ) σ η μ) (hA : GA σ η) (hT : T49 σ) (h4 : S4 σ) (hc : cl σ 6 0 ≤ c) (hs : m_sz μ ≤ s) (hu : m_us μ ≤ u) (hf : f_Pl_addLink 3 x1 x2 (Kap (kd0 σ) σ η) = some (some (.int (-1)), Kap (kd0 σ) σ η)) (hg : g_Md_link x1 x2 σ = some (some (.int (-1)), σ)) : StpR (ρ 1) M (c + 200) (s + 46) (u + 962) (f_Sn_link (ρ 1) x1 x2) (f_Md_link M x1 x2) μ := by
  have hR := h.rn (okr_kd hA.1.1.2.1 hA.1.2.2.1.1)
  have l3 : kd0 σ 3 ≠ 0 := kd0_S (by decide) (by decide)
  obtain ⟨μ1, e1, hR1, hK, -⟩ := re_Pl_addLink h.2.1 3 l3 x1 x2 _ _ hR _ _ hf
  have hL1 := lv_Kp h hK (rn_Rl hR1)
  have e1 : f_Pl_addLink (ρ 3) x1 x2 μ = some (some (.int (-1)), μ1) := e1
  have hsz := hK.2.1.1
  have hz2 := hK.2.1.2.1
  refine stp_fin (μ1 := μ1) (v := -1) (ρ1 := ρ) ?_ hL1 (lf_Md_link M x1 x2) hg hA hT h4 (by omega) (by omega) (by omega) rfl
  unfold f_Sn_link
  rw [lv_gR h (a := 1) (c := 11) rfl (by decide) id, rr_s1_1, fQ_s l3, lv_nn h (a := 3) (c := 5) rfl (by decide), x_cI e1, if_pos rfl]; rfl
theorem stp_link (h : Lv D0 M σ ρ (kd0 σ) σ η μ) (hA : GA σ η) (hT : T49 σ) (h4 : S4 σ) (hc : cl σ 6 0 ≤ c) (hs : m_sz μ ≤ s) (hu : m_us μ ≤ u) (x1 x2 : Int32) : StpR (ρ 1) M (c + 200) (s + 46) (u + 962) (f_Sn_link (ρ 1) x1 x2) (f_Md_link M x1 x2) μ := by
  have hP := hA.1.1.2.1.1
  cases ht : two x1 x2 with
  | false => exact stp_no h hA hT h4 hc hs hu (fl_add_no ht _) (gl_link_no ht)
  | true =>
    obtain ⟨a, b, ha, hb, hne, rfl, rfl⟩ := two_nat ht
    have hfa := fl_addL (η := η) (kd0_ok h4) hP ha hb hne
    have hga := gl_link hP ha hb hne
    by_cases q : nl σ = 10 ∨ (setOf σ a b).length = 4
    · rw [if_pos q] at hfa hga
      exact stp_no h hA hT h4 hc hs hu hfa hga
    · rw [if_neg q] at hfa hga
      have hn10 : nl σ < 10 := by have := hP.2.1; omega
      have hE := lkS_E (σ := σ) (p := min a b) (q := max a b) (by omega) (by omega) hn10
      obtain ⟨τ, hτ⟩ : ∃ τ, τ = lkS σ (min a b) (max a b) := ⟨_, rfl⟩
      rw [← hτ] at hE hga
      have hpq : pq (min a b) (max a b) a b = true := by simp [pq]
      have hR := h.rn (okr_kd hA.1.1.2.1 hA.1.2.2.1.1)
      have l3 : kd0 σ 3 ≠ 0 := kd0_S (by decide) (by decide)
      obtain ⟨μ1, e1, hR1, hK, -⟩ := re_Pl_addLink h.2.1 3 l3 (nI a) (nI b) _ _ hR _ _ hfa
      have e1 : f_Pl_addLink (ρ 3) (nI a) (nI b) μ = some (some (.int (nI (nl σ))), μ1) := e1
      have hL1 := lv_Kp h hK (hE.rl hA ha hb hpq hR1)
      have hsz := hK.2.1.1
      have hz2 := hK.2.1.2.1
      have hset : ¬ (setOf σ (min a b) (max a b)).length = 4 := fun z => by
        refine q (Or.inr ?_)
        by_cases w : a ≤ b
        · rw [Nat.min_eq_left w, Nat.max_eq_right w] at z; exact z
        · rw [Nat.min_eq_right (by omega), Nat.max_eq_left (by omega), setOf_sy] at z; exact z
      have h4' := hE.s4 h4 hset
      have hnl := hE.pl.2.2.2
      have hS1 : LSt σ τ η M σ (2 * nl σ) (nbf σ) (nbf σ) ρ μ1 := by
        have mono : ∀ f, nbf σ f = true → nbf τ f = true := fun f z => nbf_t ⟨(t_nbf z).1, hE.nb1 (t_nbf z).2⟩
        exact ⟨hL1, fun _ z => z, mono, fun _ z => z, mono, Nat.le_refl _, by omega⟩
      have hnb : nb τ a b = true := by rw [hE.nbE, hpq, Bool.or_true]
      have hm1 : ¬ nI (nl σ) = (-1 : Int32) := nI_m1 (by omega)
      have key : ∃ μF ρF, f_Sn_link (ρ 1) (nI a) (nI b) μ = some (some (.int (nI (nl σ))), μF) ∧ Lv D0 M σ ρF (kd0 τ) τ (hz (kd0 σ) η) μF ∧ ρF 1 = ρ 1 ∧ m_sz μF ≤ m_sz μ + 46 ∧ m_us μF ≤ m_us μ + 962 := by
        unfold f_Sn_link
        rw [lv_gR h (a := 1) (c := 11) rfl (by decide) id, rr_s1_1, fQ_s l3, lv_nn h (a := 3) (c := 5) rfl (by decide), x_cI e1, if_neg hm1]
        rw [lv_gR hL1 (a := 1) (c := 11) rfl (by decide) id, rr_s1_2, fQ_s (kd0_S (by decide) (by decide)), lv_nn hL1 (a := 11) (c := 8) rfl (by decide)]
        refine bk_cV (P := fun y => ∃ μF ρF, y = some (some (.int (nI (nl σ))), μF) ∧ Lv D0 M σ ρF (kd0 τ) τ (hz (kd0 σ) η) μF ∧ ρF 1 = ρ 1 ∧ m_sz μF ≤ m_sz μ + 46 ∧ m_us μF ≤ m_us μ + 962) (LSt.ends hE hA h4' hS1) (fun μ2 g => ?_)
        obtain ⟨ρ2, g1, g2, g3, g4⟩ := g
        rw [← g2 1 (by decide), lv_gR g1.1 (a := 1) (c := 11) rfl (by decide) id, rr_s1_3, fQ_s (kdL_S1 (by decide) (by decide)), lv_nn g1.1 (a := 17) (c := 7) rfl (by decide)]
        refine bk_cV (P := fun y => ∃ μF ρF, y = some (some (.int (nI (nl σ))), μF) ∧ Lv D0 M σ ρF (kd0 τ) τ (hz (kd0 σ) η) μF ∧ ρF 1 = ρ2 1 ∧ m_sz μF ≤ m_sz μ + 46 ∧ m_us μF ≤ m_us μ + 962) (LSt.cirs hE hA ha hb hnb 4 0 sn_fuel ρ2 (nbf σ) μ2 rfl (by decide) g1) (fun μ3 k => ?_)
        obtain ⟨ρ3, C3, k1, k2, k3, k4, k5, k6⟩ := k
        have hC : C3 = nbf τ := by
          refine F_all hE k1.2.2.2.1 k1.2.2.2.2.1 (fun s hs => ?_)
          have := k4 s (by omega) hs
          by_cases w : a ≤ b
          · rw [Nat.min_eq_left w, Nat.max_eq_right w]; exact this
          · rw [Nat.min_eq_right (by omega), Nat.max_eq_left (by omega)]; exact ⟨this.2, this.1⟩
        subst hC
        exact ⟨μ3, ρ3, rfl, k1.1, k2 1 (by decide), by omega, by omega⟩
      obtain ⟨μF, ρF, e2, hLF, hF1, hzF, huF⟩ := key
      have hcl : cl τ 6 0 = cl σ 6 0 := congrArg _ (hE.at (by decide))
      exact stp_fin e2 hLF (lf_Md_link M (nI a) (nI b)) hga (hE.ga hA) (hE.t49 hT) h4' (by omega) (by omega) (by omega) hF1
end LkF
