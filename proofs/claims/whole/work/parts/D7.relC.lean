/-! LAYER 2: a link more: flows and circuits made -/
section LkC
variable {σ τ η θ : sn_FS} {p q M ne : Nat} {F C : Nat → Bool} {σr : sn_FS} {ρ : Nat → Nat} {μ : sn_Mem} {P : Option (Option Value × sn_Mem) → Prop}
theorem kst_n {e t j : Nat} (ht : t < 64) (h : t ≠ 30 ∧ t ≠ 40 ∧ t ≠ 50 ∧ t ≠ 51) : k_st τ (64 * e + (64 + t)) j = none := by
  obtain ⟨h1, h2, h3⟩ := k_md e t ht
  simp only [k_st, h1, h3, if_false, h.1, h.2.1, h.2.2.1, h.2.2.2]
theorem kst40 {e j : Nat} : k_st τ (64 * e + (64 + 40)) j = if j = 0 then some (nI (e % 24 / 4)) else none := by
  obtain ⟨h1, h2, h3⟩ := k_md e 40 (by decide)
  simp only [k_st, h1, h2, h3, if_false, if_true, Nat.reduceEqDiff, reduceIte]
theorem kst50 {e j : Nat} : k_st τ (64 * e + (64 + 50)) j = if j = 0 then some (nI (e / 24)) else if j = 1 then some (nI (e % 24 / 4)) else if j = 2 then some (nI (e % 4)) else none := by
  obtain ⟨h1, h2, h3⟩ := k_md e 50 (by decide)
  simp only [k_st, h1, h2, h3, if_false, if_true, Nat.reduceEqDiff, reduceIte]
theorem kI_z {e t j : Nat} (ht : t < 64) (hs : k_st τ (64 * e + (64 + t)) j = none) (hv : ∀ q ∈ k_T, q.1.1 = 64 + t → τ.1 q.2 e = 0) (hη : θ.1 (64 * e + (64 + t)) j = 0) : kI τ θ (64 * e + (64 + t)) j = 0 := by
  rw [kI_O ht, hs]
  cases hl : k_T.lookup (64 + t, j + 1) with
  | none => exact hη
  | some k => exact hv _ (k_lookup hl) rfl
theorem kR40 {e j : Nat} : kR τ (64 * e + (64 + 40)) j = if j = 1 then k_end τ (e / 24) (τ.1 41 e) else if j = 3 then k_end τ (e / 24) (τ.1 43 e) else if j = 6 then some (64 * e + (64 + 40) + 1) else none := by
  obtain ⟨h1, h2, h3⟩ := k_md e 40 (by decide)
  simp only [kR, h1, h2, h3, if_false, if_true, Nat.reduceEqDiff, reduceIte]; rfl
theorem kR41 {e j : Nat} : kR τ (64 * e + (64 + 41)) j = if j = 0 then some (64 * e + (64 + 40) + 2) else none := by
  obtain ⟨h1, h2, h3⟩ := k_md e 41 (by decide)
  simp only [kR, h1, h2, h3, if_false, if_true, Nat.reduceEqDiff, reduceIte]; rfl
theorem kR42 {e j : Nat} : kR τ (64 * e + (64 + 42)) j = none := by
  obtain ⟨h1, h2, h3⟩ := k_md e 42 (by decide)
  simp only [kR, h1, h2, h3, if_false, if_true, Nat.reduceEqDiff, reduceIte]
theorem kR50 {e j : Nat} : kR τ (64 * e + (64 + 50)) j = if j = 4 then k_leg (τ.1 57 e) else none := by
  obtain ⟨h1, h2, h3⟩ := k_md e 50 (by decide)
  simp only [kR, h1, h2, h3, if_false, if_true, Nat.reduceEqDiff, reduceIte]
theorem kdL_chF {f a : Nat} (ha : ¬ (64 * f + (64 + 40) ≤ a ∧ a < 64 * f + (64 + 40) + 3)) : kdL ne (fun g => decide (g = f) || F g) C a = kdL ne F C a := by
  by_cases c : a < 64
  · rw [kdL_S _ _ _ _ c, kdL_S _ _ _ _ c]
  · obtain ⟨e, t, ht, rfl⟩ : ∃ e t, t < 64 ∧ a = 64 * e + (64 + t) := ⟨a / 64 - 1, a % 64, by omega, by omega⟩
    rw [kdL_O _ _ _ _ _ ht, kdL_O _ _ _ _ _ ht]
    by_cases d : 40 ≤ t ∧ t < 43
    · have : ¬ e = f := by omega
      simp only [this, decide_false, Bool.false_or]
    · rw [if_neg d, if_neg d]
theorem kdL_chC {f a : Nat} (ha : ¬ (64 * f + (64 + 50) ≤ a ∧ a < 64 * f + (64 + 50) + 1)) : kdL ne F (fun g => decide (g = f) || C g) a = kdL ne F C a := by
  by_cases c : a < 64
  · rw [kdL_S _ _ _ _ c, kdL_S _ _ _ _ c]
  · obtain ⟨e, t, ht, rfl⟩ : ∃ e t, t < 64 ∧ a = 64 * e + (64 + t) := ⟨a / 64 - 1, a % 64, by omega, by omega⟩
    rw [kdL_O _ _ _ _ _ ht, kdL_O _ _ _ _ _ ht]
    by_cases d : t = 50
    · have : ¬ e = f := by omega
      simp only [this, decide_false, Bool.false_or]
    · rw [if_neg d, if_neg d]
theorem kdL_F1 {f t : Nat} (hf : F f = true) (h1 : 40 ≤ t) (h2 : t < 43) : kdL ne F C (64 * f + (64 + t)) = kdF t := by
  rw [kdL_O _ _ _ _ _ (by omega), if_neg (by omega), if_pos ⟨h1, h2⟩, if_pos hf]
theorem kdL_F0 {f t : Nat} (hf : F f = false) (h1 : 40 ≤ t) (h2 : t < 43) : kdL ne F C (64 * f + (64 + t)) = 0 := by
  rw [kdL_O _ _ _ _ _ (by omega), if_neg (by omega), if_pos ⟨h1, h2⟩, hf]; rfl
theorem kdL_C1 {f : Nat} (hf : C f = true) : kdL ne F C (64 * f + (64 + 50)) = 4 := by
  rw [kdL_O _ _ _ _ _ (by omega), if_neg (by omega), if_neg (by omega), if_pos rfl, if_pos hf]
theorem kdL_C0 {f : Nat} (hf : C f = false) : kdL ne F C (64 * f + (64 + 50)) = 0 := by
  rw [kdL_O _ _ _ _ _ (by omega), if_neg (by omega), if_neg (by omega), if_pos rfl, hf]; rfl
theorem kdL_S1 {a : Nat} (h1 : 1 ≤ a) (h2 : a ≤ 22) : kdL ne F C a ≠ 0 := by
  rw [kdL_S _ _ _ _ (by omega)]
  have : ∀ a, a ≤ 22 → 1 ≤ a → kdS.getD a 0 ≠ 0 := by decide
  exact this a h2 h1
/-- under way: ends below ne, flows F, circuits C are there -/
def LSt (σ τ η : sn_FS) (M : Nat) (σr : sn_FS) (ne : Nat) (F C : Nat → Bool) (ρ : Nat → Nat) (μ : sn_Mem) : Prop := Lv D0 M σr ρ (kdL ne F C) τ (hz (kd0 σ) η) μ ∧ (∀ f, nbf σ f = true → F f = true) ∧ (∀ f, F f = true → nbf τ f = true) ∧ (∀ f, nbf σ f = true → C f = true) ∧ (∀ f, C f = true → nbf τ f = true) ∧ 2 * nl σ ≤ ne ∧ ne ≤ 2 * nl τ
theorem LSt.flow {K : sn_M} (h : LkE σ τ p q) (hA : GA σ η) (hS : LSt σ τ η M σr ne F C ρ μ) {f : Nat} (hf : f < 144) (hb : nbf τ f = true) (hF : F f = false) (H : ∀ ρ' μ', LSt σ τ η M σr ne (fun g => decide (g = f) || F g) C ρ' μ' → (∀ a, a < 64 → ρ' a = ρ a) → m_sz μ' = m_sz μ + 3 → m_us μ' = m_us μ + 74 → P (K μ')) : P ((n_O 3 7 fun v4 => n_n 3 v4 fun o5 => c_V (f_Fl_init o5 (nI (f % 24 / 4))) (b_R 25 3 (some (ρ 14)) (nI f) v4 K)) μ) := by
  obtain ⟨hL, f1, f2, c1, c2, n1, n2⟩ := hS
  have hs0 : nbf σ f = false := by
    cases z : nbf σ f with
    | false => rfl
    | true => rw [f1 f z] at hF; cases hF
  have hbs : nb σ (f / 24) (f % 24 / 4) = false := by
    cases z : nb σ (f / 24) (f % 24 / 4) with
    | false => rfl
    | true => rw [nbf_t ⟨hf, z⟩] at hs0; cases hs0
  have hfl : fl (f / 24) (f % 24 / 4) (f % 4) = f := by unfold fl; omega
  obtain ⟨v41, v42, v47, v43, v44⟩ := (hA.1.1.2.1.f1 (x := f / 24) (n := f % 24 / 4) (s := f % 4) (by omega) (by omega) (by omega)).no hA.1.1.2.1.1 hbs
  have v45 := hA.2.1.2.1 (f / 24) (f % 24 / 4) (f % 4) (by omega) (by omega) (by omega) hbs
  rw [hfl] at v41 v42 v47 v43 v44 v45
  refine bk_Fl (Blk.rf (μ := μ)) (fun μ1 hb1 => ?_)
  have hb1 : Blk μ μ1 74 (flC (m_sz μ) (nI (f % 24 / 4))) := hb1
  have dead : ∀ i, i < 3 → kd0 σ (64 * f + (64 + 40) + i) = 0 := fun i hi => by
    rw [show 64 * f + (64 + 40) + i = 64 * f + (64 + (40 + i)) by omega]
    exact kd0_F0 hs0 (by omega) (by omega)
  have hF' : (decide (f = f) || F f) = true := by simp
  have live : ∀ i, i < 3 → kdL ne (fun g => decide (g = f) || F g) C (64 * f + (64 + 40) + i) = kdF (40 + i) := fun i hi => by
    rw [show 64 * f + (64 + 40) + i = 64 * f + (64 + (40 + i)) by omega]
    exact kdL_F1 hF' (by omega) (by omega)
  have hlive : ∀ i, i < 3 → kdL ne (fun g => decide (g = f) || F g) C (64 * f + (64 + 40) + i) ≠ 0 := fun i hi => by
    rw [live i hi]; exact kdF_n _ (by omega) (by omega)
  have hE := hL.ext hb1 (64 * f + (64 + 40)) (kdL ne (fun g => decide (g = f) || F g) C) (fun i hi => by
      have hi : i < 3 := hi
      rw [show 64 * f + (64 + 40) + i = 64 * f + (64 + (40 + i)) by omega]
      exact kdL_F0 hF (by omega) (by omega)) (fun a ha => kdL_chF ha) (fun i c hc => by
      match i with
      | 0 =>
        obtain rfl := Option.some.inj hc
        obtain ⟨m1, m2, m3⟩ := k_md f 40 (by decide)
        refine ⟨live 0 (by decide), (by decide : (3 : Nat) ≠ 0), ?_, fun j => ?_, fun j => hz_00 (dead 0 (by decide)) j, fun j => ?_⟩
        · show 7 = kL (64 * f + (64 + 40))
          simp only [kL, m1, m3, if_false, Nat.reduceEqDiff, reduceIte]
        · show cUI (cUI cI0 2 0) 0 (nI (f % 24 / 4)) j = kI τ _ (64 * f + (64 + 40)) j
          by_cases cj : j = 0
          · subst cj
            rw [kI_O (by decide), kst40]; rfl
          · rw [kI_z (by decide) (by rw [kst40, if_neg cj]) (fun q hq e => ?_) (hz_0 (dead 0 (by decide)) j)]
            · simp only [cUI, cj, if_false, cI0, ite_self]
            · have key : ∀ q ∈ k_T, q.1.1 = 64 + 40 → q.2 = 42 ∨ q.2 = 44 ∨ q.2 = 45 := by decide
              rcases key q hq e with w | w | w
              · rw [w, h.at (by decide)]; exact v42
              · rw [w, h.at (by decide)]; exact v44
              · rw [w, h.at (by decide)]; exact v45
        · show cUR cR0 6 (some (m_sz μ + 1)) j = fQ _ _ (kR τ (64 * f + (64 + 40)) j)
          rw [kR40, h.at (k := 41) (by decide), h.at (k := 43) (by decide), v41, v43]
          unfold cUR cR0
          by_cases j1 : j = 1
          · subst j1; rfl
          · by_cases j3 : j = 3
            · subst j3; rfl
            · rw [if_neg j1, if_neg j3]
              by_cases j6 : j = 6
              · rw [if_pos j6, if_pos j6, fQ_s (hlive 1 (by decide)), rX_i (m := (flC (m_sz μ) (nI (f % 24 / 4))).length) (show 1 < 3 by decide)]
              · rw [if_neg j6, if_neg j6]; rfl
      | 1 =>
        obtain rfl := Option.some.inj hc
        obtain ⟨m1, m2, m3⟩ := k_md f 41 (by decide)
        refine ⟨live 1 (by decide), (by decide : (6 : Nat) ≠ 0), ?_, fun j => ?_, fun j => hz_00 (dead 1 (by decide)) j, fun j => ?_⟩
        · show 3 = kL (64 * f + (64 + 41))
          simp only [kL, m1, m3, if_false, Nat.reduceEqDiff, reduceIte]
        · show (0 : Int32) = kI τ _ (64 * f + (64 + 41)) j
          refine (kI_z (by decide) (kst_n (by decide) (by decide)) (fun q hq e => ?_) (hz_0 (dead 1 (by decide)) j)).symm
          have key : ∀ q ∈ k_T, q.1.1 = 64 + 41 → q.2 = 47 := by decide
          rw [key q hq e, h.at (by decide)]; exact v47
        · show cUR cR0 0 (some (m_sz μ + 2)) j = fQ _ _ (kR τ (64 * f + (64 + 41)) j)
          rw [kR41]
          unfold cUR cR0
          by_cases j0 : j = 0
          · rw [if_pos j0, if_pos j0, fQ_s (hlive 2 (by decide)), rX_i (m := (flC (m_sz μ) (nI (f % 24 / 4))).length) (show 2 < 3 by decide)]
          · rw [if_neg j0, if_neg j0]; rfl
      | 2 =>
        obtain rfl := Option.some.inj hc
        obtain ⟨m1, m2, m3⟩ := k_md f 42 (by decide)
        refine ⟨live 2 (by decide), (by decide : (22 : Nat) ≠ 0), ?_, fun j => ?_, fun j => hz_00 (dead 2 (by decide)) j, fun j => ?_⟩
        · show 64 = kL (64 * f + (64 + 42))
          simp only [kL, m1, m3, if_false, Nat.reduceEqDiff, reduceIte]
        · show (0 : Int32) = kI τ _ (64 * f + (64 + 42)) j
          refine (kI_z (by decide) (kst_n (by decide) (by decide)) (fun q hq e => ?_) (hz_0 (dead 2 (by decide)) j)).symm
          have key : ∀ q ∈ k_T, q.1.1 ≠ 64 + 42 := by decide
          exact absurd e (key q hq)
        · show none = fQ _ _ (kR τ (64 * f + (64 + 42)) j)
          rw [kR42]; rfl
      | i + 3 => cases hc)
  have hE : Lv (fun a j => kdL ne F C a ≠ 0 ∧ ∃ i, i < 3 ∧ kR τ a j = some (64 * f + (64 + 40) + i)) M σr (rX ρ (64 * f + (64 + 40)) 3 (m_sz μ)) (kdL ne (fun g => decide (g = f) || F g) C) τ (hz (kd0 σ) η) μ1 := hE
  obtain ⟨ρ', hρ⟩ : ∃ ρ', ρ' = rX ρ (64 * f + (64 + 40)) 3 (m_sz μ) := ⟨_, rfl⟩
  have hst : ∀ a, a < 64 → ρ' a = ρ a := fun a ha => by rw [hρ]; exact rX_o (by omega)
  have hz0 : ρ' (64 * f + (64 + 40)) = m_sz μ := by rw [hρ]; exact rX_i (i := 0) (by decide)
  rw [← hρ] at hE
  have k14 : kR τ 14 f = some (64 * f + (64 + 40)) := by rw [rr_a14, if_pos (t_nbf hb)]; rfl
  have hb0 : kdL ne (fun g => decide (g = f) || F g) C (64 * f + (64 + 40)) = 3 := live 0 (by decide)
  have hput := hE.put (A := 14) (p := f) (b := 64 * f + (64 + 40)) (kdL_S1 (by decide) (by decide)) (by rw [hb0]; decide) k14
  have e1 : (b_R 25 3 (some (ρ 14)) (nI f) (some (m_sz μ + ([] : List Cel).length)) K) μ1 = K (u_R μ1 (ρ' 14) f (some (ρ' (64 * f + (64 + 40))))) := by
    show b_R 25 3 (some (ρ 14)) (nI f) (some (m_sz μ)) K μ1 = _
    rw [← hz0, ← hst 14 (by decide)]
    exact lv_bR hE (a := 14) (c := 25) rfl (by decide) (show f < 144 from hf) (by decide) hb0 (by decide)
  rw [e1]
  refine H ρ' _ ⟨hput.clr (fun a j ha => ?_), fun g hg => ?_, fun g hg => ?_, c1, c2, n1, n2⟩ hst hb1.1 hb1.2.1
  · rintro ⟨⟨d1, i, hi, d2⟩, d3⟩
    exact d3 (uq_F d1 hF hi d2)
  · simp only [f1 g hg, Bool.or_true]
  · by_cases c : g = f
    · rw [c]; exact hb
    · simp only [c, decide_false, Bool.false_or] at hg
      exact f2 g hg
theorem LSt.legs {K : sn_M} (h : LkE σ τ p q) (hA : GA σ η) (hS : LSt σ τ η M σr ne F C ρ μ) {f : Nat} (hf : f < 144) (hb : nbf τ f = true) (hF : C f = false) (H : ∀ ρ' μ', LSt σ τ η M σr ne F (fun g => decide (g = f) || C g) ρ' μ' → (∀ a, a < 64 → ρ' a = ρ a) → m_sz μ' = m_sz μ + 1 → m_us μ' = m_us μ + 12 → P (K μ')) : P ((n_O 4 12 fun v4 => n_n 4 v4 fun o5 => c_V (f_Lg_init o5 (nI (f / 24)) (nI (f % 24 / 4)) (nI (f % 4))) (b_R 26 4 (some (ρ 19)) (nI f) v4 K)) μ) := by
  obtain ⟨hL, f1, f2, c1, c2, n1, n2⟩ := hS
  have hs0 : nbf σ f = false := by
    cases z : nbf σ f with
    | false => rfl
    | true => rw [c1 f z] at hF; cases hF
  have hbs : nb σ (f / 24) (f % 24 / 4) = false := by
    cases z : nb σ (f / 24) (f % 24 / 4) with
    | false => rfl
    | true => rw [nbf_t ⟨hf, z⟩] at hs0; cases hs0
  obtain ⟨v52, v53, v54, v55, v56, v57, v58, v59, v60⟩ := (hA.1.2.2.1.2.1 f hf).2.2.2.2.2.2.2.2.2.2 hbs
  refine bk_Lg (Blk.rf (μ := μ)) (fun μ1 hb1 => ?_)
  have hb1 : Blk μ μ1 12 (lgC (nI (f / 24)) (nI (f % 24 / 4)) (nI (f % 4))) := hb1
  have dead : kd0 σ (64 * f + (64 + 50)) = 0 := kd0_C0 hs0
  have hF' : (decide (f = f) || C f) = true := by simp
  have live : kdL ne F (fun g => decide (g = f) || C g) (64 * f + (64 + 50)) = 4 := kdL_C1 hF'
  have hE := hL.ext hb1 (64 * f + (64 + 50)) (kdL ne F (fun g => decide (g = f) || C g)) (fun i hi => by
      have hi : i < 1 := hi
      have : i = 0 := by omega
      subst this
      exact kdL_C0 hF) (fun a ha => kdL_chC ha) (fun i c hc => by
      match i with
      | 0 =>
        obtain rfl := Option.some.inj hc
        obtain ⟨m1, m2, m3⟩ := k_md f 50 (by decide)
        refine ⟨live, (by decide : (4 : Nat) ≠ 0), ?_, fun j => ?_, fun j => hz_00 dead j, fun j => ?_⟩
        · show 12 = kL (64 * f + (64 + 50))
          simp only [kL, m1, m3, if_false, Nat.reduceEqDiff, reduceIte]
        · show cUI (cUI (cUI (cUI (cUI cI0 3 0) 9 (-1)) 0 (nI (f / 24))) 1 (nI (f % 24 / 4))) 2 (nI (f % 4)) j = kI τ _ (64 * f + (64 + 50)) j
          by_cases j0 : j = 0
          · subst j0; rw [kI_O (by decide), kst50]; rfl
          · by_cases j1 : j = 1
            · subst j1; rw [kI_O (by decide), kst50]; rfl
            · by_cases j2 : j = 2
              · subst j2; rw [kI_O (by decide), kst50]; rfl
              · by_cases j9 : j = 9
                · subst j9
                  rw [kI_O (by decide)]
                  show (-1 : Int32) = τ.1 58 f
                  rw [h.at (by decide)]; exact v58.symm
                · have e0 : cUI (cUI (cUI (cUI (cUI cI0 3 0) 9 (-1)) 0 (nI (f / 24))) 1 (nI (f % 24 / 4))) 2 (nI (f % 4)) j = 0 := by simp only [cUI, j0, j1, j2, j9, if_false, cI0, ite_self]
                  rw [e0, kI_O (by decide), kst50, if_neg j0, if_neg j1, if_neg j2]
                  cases hl : k_T.lookup (64 + 50, j + 1) with
                  | none => exact (hz_0 dead j).symm
                  | some k =>
                    have key : ∀ q ∈ k_T, q.1.1 = 64 + 50 → q.1.2 = 10 ∨ q.2 = 52 ∨ q.2 = 53 ∨ q.2 = 54 ∨ q.2 = 55 ∨ q.2 = 56 ∨ q.2 = 59 ∨ q.2 = 60 := by decide
                    show (0 : Int32) = τ.1 k f
                    rcases key _ (k_lookup hl) rfl with w | w | w | w | w | w | w | w
                    · have w : j + 1 = 10 := w
                      omega
                    · have w : k = 52 := w
                      rw [w, h.at (by decide)]; exact v52.symm
                    · have w : k = 53 := w
                      rw [w, h.at (by decide)]; exact v53.symm
                    · have w : k = 54 := w
                      rw [w, h.at (by decide)]; exact v54.symm
                    · have w : k = 55 := w
                      rw [w, h.at (by decide)]; exact v55.symm
                    · have w : k = 56 := w
                      rw [w, h.at (by decide)]; exact v56.symm
                    · have w : k = 59 := w
                      rw [w, h.at (by decide)]; exact v59.symm
                    · have w : k = 60 := w
                      rw [w, h.at (by decide)]; exact v60.symm
        · show none = fQ _ _ (kR τ (64 * f + (64 + 50)) j)
          rw [kR50, h.at (k := 57) (by decide), v57]
          by_cases j4 : j = 4
          · rw [if_pos j4]; rfl
          · rw [if_neg j4]; rfl
      | i + 1 => cases hc)
  have hE : Lv (fun a j => kdL ne F C a ≠ 0 ∧ ∃ i, i < 1 ∧ kR τ a j = some (64 * f + (64 + 50) + i)) M σr (rX ρ (64 * f + (64 + 50)) 1 (m_sz μ)) (kdL ne F (fun g => decide (g = f) || C g)) τ (hz (kd0 σ) η) μ1 := hE
  obtain ⟨ρ', hρ⟩ : ∃ ρ', ρ' = rX ρ (64 * f + (64 + 50)) 1 (m_sz μ) := ⟨_, rfl⟩
  have hst : ∀ a, a < 64 → ρ' a = ρ a := fun a ha => by rw [hρ]; exact rX_o (by omega)
  have hz0 : ρ' (64 * f + (64 + 50)) = m_sz μ := by rw [hρ]; exact rX_i (i := 0) (by decide)
  rw [← hρ] at hE
  have k19 : kR τ 19 f = some (64 * f + (64 + 50)) := by rw [rr_a19, if_pos (t_nbf hb)]; rfl
  have hput := hE.put (A := 19) (p := f) (b := 64 * f + (64 + 50)) (kdL_S1 (by decide) (by decide)) (by rw [live]; decide) k19
  have e1 : (b_R 26 4 (some (ρ 19)) (nI f) (some (m_sz μ + ([] : List Cel).length)) K) μ1 = K (u_R μ1 (ρ' 19) f (some (ρ' (64 * f + (64 + 50))))) := by
    show b_R 26 4 (some (ρ 19)) (nI f) (some (m_sz μ)) K μ1 = _
    rw [← hz0, ← hst 19 (by decide)]
    exact lv_bR hE (a := 19) (c := 26) rfl (by decide) (show f < 144 from hf) (by decide) live (by decide)
  rw [e1]
  refine H ρ' _ ⟨hput.clr (fun a j ha => ?_), f1, f2, fun g hg => ?_, fun g hg => ?_, n1, n2⟩ hst hb1.1 hb1.2.1
  · rintro ⟨⟨d1, i, hi, d2⟩, d3⟩
    have : i = 0 := by omega
    subst this
    exact d3 (uq_C h hA c2 d1 hs0 d2)
  · simp only [c1 g hg, Bool.or_true]
  · by_cases c : g = f
    · rw [c]; exact hb
    · simp only [c, decide_false, Bool.false_or] at hg
      exact c2 g hg
end LkC
