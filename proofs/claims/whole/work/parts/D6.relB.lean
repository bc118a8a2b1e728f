/-! LAYER 2: a link more: new objects, what refers to them -/
section LkB
variable {σ τ η : sn_FS} {p q : Nat}
theorem k_leg_c {v : Int32} {b : Nat} (h : k_leg v = some b) : ∃ c, b = aP c ∨ b = aC c := by
  unfold k_leg at h
  split at h
  · cases h
  · split at h
    · cases h; exact ⟨_, Or.inl rfl⟩
    · cases h; exact ⟨_, Or.inr rfl⟩
theorem k_end_c {x : Nat} {v : Int32} {b : Nat} (h : k_end τ x v = some b) : b = aE (en τ v.toNatClampNeg x) := by
  unfold k_end at h
  split at h
  · cases h
  · cases h; rfl
/-- where references lead -/
def Kc (τ : sn_FS) (a j b : Nat) : Prop := b ≤ 22 ∨ (a = 12 ∧ b = aE j) ∨ (a = 13 ∧ ∃ l, (setOf τ (j / 24) (j % 24 / 4))[j % 4]? = some l ∧ b = aE (en τ l (j / 24))) ∨ (∃ f, a = 64 * f + (64 + 40) ∧ ∃ k, (k = 41 ∨ k = 43) ∧ k_end τ (f / 24) (τ.1 k f) = some b) ∨ (∃ e t t', a = 64 * e + (64 + t) ∧ 30 ≤ t ∧ t < 37 ∧ b = 64 * e + (64 + t') ∧ 31 ≤ t' ∧ t' < 37) ∨ (a = 14 ∧ b = aF j) ∨ (∃ e t t', a = 64 * e + (64 + t) ∧ 40 ≤ t ∧ t < 43 ∧ b = 64 * e + (64 + t') ∧ 41 ≤ t' ∧ t' < 43) ∨ (a = 18 ∧ b = aP j) ∨ (a = 19 ∧ b = aC j) ∨ (∃ e, a = 64 * e + (64 + 50) ∧ k_leg (τ.1 57 e) = some b) ∨ (∃ e, a = 64 * e + (64 + 51) ∧ k_leg (τ.1 62 e) = some b)
theorem kR_c {a j b : Nat} (h : kR τ a j = some b) : Kc τ a j b := by
  unfold Kc
  by_cases c : a < 64
  · by_cases c12 : a = 12
    · subst c12
      rw [rr_a12] at h
      split at h
      · cases h; exact Or.inr (Or.inl ⟨rfl, rfl⟩)
      · cases h
    · by_cases c13 : a = 13
      · subst c13
        rw [rr_a13] at h
        obtain ⟨l, h1, h2⟩ := Option.map_eq_some_iff.mp h
        exact Or.inr (Or.inr (Or.inl ⟨rfl, l, h1, h2.symm⟩))
      · by_cases c14 : a = 14
        · subst c14
          rw [rr_a14] at h
          split at h
          · cases h; exact Or.inr (Or.inr (Or.inr (Or.inr (Or.inr (Or.inl ⟨rfl, rfl⟩)))))
          · cases h
        · by_cases c18 : a = 18
          · subst c18
            rw [rr_a18] at h
            split at h
            · cases h; exact Or.inr (Or.inr (Or.inr (Or.inr (Or.inr (Or.inr (Or.inr (Or.inl ⟨rfl, rfl⟩)))))))
            · cases h
          · by_cases c19 : a = 19
            · subst c19
              rw [rr_a19] at h
              split at h
              · cases h; exact Or.inr (Or.inr (Or.inr (Or.inr (Or.inr (Or.inr (Or.inr (Or.inr (Or.inl ⟨rfl, rfl⟩))))))))
              · cases h
            · rw [kR_sr c ⟨c12, c13, c14, c18, c19⟩] at h
              exact Or.inl (k_sr_in h).2
  · obtain ⟨e, t, ht, rfl⟩ : ∃ e t, t < 64 ∧ a = 64 * e + (64 + t) := ⟨a / 64 - 1, a % 64, by omega, by omega⟩
    obtain ⟨h1, h2, h3⟩ := k_md e t ht
    simp only [kR, h1, h2, h3, if_false] at h
    have E : ∀ t t', 30 ≤ t → t < 37 → b = 64 * e + (64 + t') → 31 ≤ t' → t' < 37 → Kc τ (64 * e + (64 + t)) j b := fun t t' q1 q2 q3 q4 q5 => Or.inr (Or.inr (Or.inr (Or.inr (Or.inl ⟨e, t, t', rfl, q1, q2, q3, q4, q5⟩))))
    have G : ∀ t t', 40 ≤ t → t < 43 → b = 64 * e + (64 + t') → 41 ≤ t' → t' < 43 → Kc τ (64 * e + (64 + t)) j b := fun t t' q1 q2 q3 q4 q5 => Or.inr (Or.inr (Or.inr (Or.inr (Or.inr (Or.inr (Or.inl ⟨e, t, t', rfl, q1, q2, q3, q4, q5⟩))))))
    split at h
    · rename_i q; subst q
      split at h
      · cases h; exact Or.inl (by decide)
      · split at h
        · cases h; exact E 30 32 (by decide) (by decide) rfl (by decide) (by decide)
        · split at h
          · cases h; exact E 30 31 (by decide) (by decide) rfl (by decide) (by decide)
          · cases h
    · split at h
      · rename_i q; subst q
        split at h
        · cases h; exact Or.inl (by decide)
        · split at h
          · cases h; exact E 32 33 (by decide) (by decide) rfl (by decide) (by decide)
          · split at h
            · cases h; exact E 32 35 (by decide) (by decide) rfl (by decide) (by decide)
            · cases h
      · split at h
        · rename_i q; subst q
          split at h
          · cases h; exact E 33 34 (by decide) (by decide) rfl (by decide) (by decide)
          · cases h
        · split at h
          · rename_i q; subst q
            split at h
            · cases h; exact E 35 36 (by decide) (by decide) rfl (by decide) (by decide)
            · cases h
          · split at h
            · rename_i q; subst q
              split at h
              · exact Or.inr (Or.inr (Or.inr (Or.inl ⟨e, rfl, 41, Or.inl rfl, h⟩)))
              · split at h
                · exact Or.inr (Or.inr (Or.inr (Or.inl ⟨e, rfl, 43, Or.inr rfl, h⟩)))
                · split at h
                  · cases h; exact G 40 41 (by decide) (by decide) rfl (by decide) (by decide)
                  · cases h
            · split at h
              · rename_i q; subst q
                split at h
                · cases h; exact G 41 42 (by decide) (by decide) rfl (by decide) (by decide)
                · cases h
              · split at h
                · rename_i q; subst q
                  split at h
                  · exact Or.inr (Or.inr (Or.inr (Or.inr (Or.inr (Or.inr (Or.inr (Or.inr (Or.inr (Or.inl ⟨e, rfl, h⟩)))))))))
                  · cases h
                · split at h
                  · rename_i q; subst q
                    split at h
                    · exact Or.inr (Or.inr (Or.inr (Or.inr (Or.inr (Or.inr (Or.inr (Or.inr (Or.inr (Or.inr ⟨e, rfl, h⟩)))))))))
                    · cases h
                  · cases h
variable {ne : Nat} {F C : Nat → Bool}
theorem kdL_liE {e t : Nat} (h1 : 30 ≤ t) (h2 : t < 37) (h : kdL ne F C (64 * e + (64 + t)) ≠ 0) : e < ne := by
  rw [kdL_O _ _ _ _ _ (by omega), if_pos ⟨h1, h2⟩] at h
  by_cases z : e < ne
  · exact z
  · rw [if_neg z] at h; exact absurd rfl h
theorem kdL_liF {e t : Nat} (h1 : 40 ≤ t) (h2 : t < 43) (h : kdL ne F C (64 * e + (64 + t)) ≠ 0) : F e = true := by
  rw [kdL_O _ _ _ _ _ (by omega), if_neg (by omega), if_pos ⟨h1, h2⟩] at h
  cases z : F e with
  | true => rfl
  | false => rw [z] at h; exact absurd rfl h
theorem kdL_liC {e : Nat} (h : kdL ne F C (64 * e + (64 + 50)) ≠ 0) : C e = true := by
  rw [kdL_O _ _ _ _ _ (by omega), if_neg (by omega), if_neg (by omega), if_pos rfl] at h
  cases z : C e with
  | true => rfl
  | false => rw [z] at h; exact absurd rfl h
theorem kdL_liP {e : Nat} (h : kdL ne F C (64 * e + (64 + 51)) ≠ 0) : e < 24 := by
  rw [kdL_O _ _ _ _ _ (by omega), if_neg (by omega), if_neg (by omega), if_neg (by omega), if_pos rfl] at h
  by_cases z : e < 24
  · exact z
  · rw [if_neg z] at h; exact absurd rfl h
theorem uq_F {a j f i : Nat} (ha : kdL ne F C a ≠ 0) (hF : F f = false) (hi : i < 3) (h : kR τ a j = some (64 * f + (64 + 40) + i)) : a = 14 ∧ j = f := by
  rcases kR_c h with z | ⟨-, z⟩ | ⟨-, l, -, z⟩ | ⟨f', -, k, -, z⟩ | ⟨e, t, t', -, -, -, z, z1, z2⟩ | ⟨z0, z⟩ | ⟨e, t, t', z0, z1, z2, z3, z4, z5⟩ | ⟨-, z⟩ | ⟨-, z⟩ | ⟨e, -, z⟩ | ⟨e, -, z⟩
  · omega
  · unfold aE at z; omega
  · unfold aE at z; omega
  · have := k_end_c z; unfold aE at this; omega
  · omega
  · unfold aF at z; omega
  · have : e = f := by omega
    subst this
    rw [z0] at ha
    rw [kdL_liF z1 z2 ha] at hF; cases hF
  · unfold aP at z; omega
  · unfold aC at z; omega
  · obtain ⟨c, z | z⟩ := k_leg_c z
    · unfold aP at z; omega
    · unfold aC at z; omega
  · obtain ⟨c, z | z⟩ := k_leg_c z
    · unfold aP at z; omega
    · unfold aC at z; omega
theorem GA.leg (hA : GA σ η) {g b : Nat} (hg : g < 24 ∨ (100 ≤ g ∧ g < 244)) (h : k_leg (lgv σ g) = some b) : ∃ o, VL σ o ∧ b = aL o := by
  obtain ⟨hJ, hc1, -⟩ := hA.1.2.2.1
  have old : VL σ g ∨ lgv σ g = -1 := by
    rcases hg with q | ⟨q1, q2⟩
    · exact Or.inl (Or.inl q)
    · cases c : nb σ ((g - 100) / 24) ((g - 100) % 24 / 4) with
      | true => exact Or.inl (Or.inr ⟨q1, q2, c⟩)
      | false =>
        refine Or.inr ?_
        unfold lgv
        rw [if_pos q1]
        exact ((hc1 (g - 100) (by omega)).2.2.2.2.2.2.2.2.2.2 c).2.2.2.2.2.1
  have none_ : ¬ lgv σ g = -1 := fun z => by rw [z] at h; cases h
  rcases old with q | q
  · rcases hJ g q with z | ⟨o, o1, -, -, o2, -⟩
    · exact absurd z none_
    · rw [o2, k_leg_n o1.vn] at h
      cases h
      exact ⟨o, o1, rfl⟩
  · exact absurd q none_
theorem aL_ne {o f : Nat} (h : VL σ o) (hf : nbf σ f = false) : aL o ≠ 64 * f + (64 + 50) := fun z => by
  unfold aL at z
  rcases h with q | ⟨q1, q2, q3⟩
  · rw [if_neg (by omega)] at z; unfold aP at z; omega
  · rw [if_pos q1] at z
    unfold aC at z
    have : o - 100 = f := by omega
    rw [this] at q3
    rw [nbf_t ⟨by omega, q3⟩] at hf; cases hf
theorem uq_C {a j f : Nat} (h : LkE σ τ p q) (hA : GA σ η) (hC : ∀ f, C f = true → nbf τ f = true) (ha : kdL ne F C a ≠ 0) (hf : nbf σ f = false) (hr : kR τ a j = some (64 * f + (64 + 50))) : a = 19 ∧ j = f := by
  rcases kR_c hr with z | ⟨-, z⟩ | ⟨-, l, -, z⟩ | ⟨f', -, k, -, z⟩ | ⟨e, t, t', -, -, -, z, z1, z2⟩ | ⟨z0, z⟩ | ⟨e, t, t', z0, z1, z2, z3, z4, z5⟩ | ⟨-, z⟩ | ⟨z0, z⟩ | ⟨e, z0, z⟩ | ⟨e, z0, z⟩
  · omega
  · unfold aE at z; omega
  · unfold aE at z; omega
  · have := k_end_c z; unfold aE at this; omega
  · omega
  · unfold aF at z; omega
  · omega
  · unfold aP at z; omega
  · unfold aC at z; omega
  · rw [z0] at ha
    have := (t_nbf (hC e (kdL_liC ha))).1
    rw [h.at (by decide)] at z
    obtain ⟨o, o1, o2⟩ := hA.leg (g := e + 100) (Or.inr ⟨by omega, by omega⟩) (b := 64 * f + (64 + 50)) (by unfold lgv; rw [if_pos (by omega), Nat.add_sub_cancel]; exact z)
    exact absurd o2.symm (aL_ne o1 hf)
  · rw [z0] at ha
    have := kdL_liP ha
    rw [h.at (by decide)] at z
    obtain ⟨o, o1, o2⟩ := hA.leg (g := e) (Or.inl this) (b := 64 * f + (64 + 50)) (by unfold lgv; rw [if_neg (by omega)]; exact z)
    exact absurd o2.symm (aL_ne o1 hf)
/-- the new link's ends -/
theorem LkE.enN (h : LkE σ τ p q) {e : Nat} (h1 : 2 * nl σ ≤ e) (h2 : e < 2 * nl τ) : e / 2 = nl σ ∧ ((e = 2 * nl σ ∧ ex τ e = p ∧ ot τ e = q) ∨ (e = 2 * nl σ + 1 ∧ ex τ e = q ∧ ot τ e = p)) := by
  have hN := h.pl
  have hn := h.new
  have e2 : e / 2 = nl σ := by omega
  refine ⟨e2, ?_⟩
  unfold ex ot
  rw [e2, hn.1, hn.2]
  by_cases c : e = 2 * nl σ
  · rw [if_pos (by omega), if_pos (by omega)]; exact Or.inl ⟨c, rfl, rfl⟩
  · rw [if_neg (by omega), if_neg (by omega)]; exact Or.inr ⟨by omega, rfl, rfl⟩
theorem uq_E {a j i : Nat} (h : LkE σ τ p q) (hA : GA σ η) (hF : ∀ f, F f = true → nbf τ f = true) (h1 : 2 * nl σ ≤ ne) (h2 : ne < 2 * nl τ) (ha : kdL ne F C a ≠ 0) (hi : i < 7) (hr : kR τ a j = some (64 * ne + (64 + 30) + i)) : (a = 12 ∧ j = ne) ∨ (a = 13 ∧ j = (ex τ ne * 6 + ot τ ne) * 4 + ((setOf τ (ex τ ne) (ot τ ne)).length - 1)) := by
  have hN := h.pl
  rcases kR_c hr with z | ⟨z0, z⟩ | ⟨z0, l, zl, z⟩ | ⟨f', z0, k, zk, z⟩ | ⟨e, t, t', z0, y1, y2, z, z1, z2⟩ | ⟨z0, z⟩ | ⟨e, t, t', z0, z1, z2, z3, z4, z5⟩ | ⟨-, z⟩ | ⟨z0, z⟩ | ⟨e, z0, z⟩ | ⟨e, z0, z⟩
  · omega
  · unfold aE at z; exact Or.inl ⟨z0, by omega⟩
  · refine Or.inr ⟨z0, ?_⟩
    unfold aE at z
    have he : en τ l (j / 24) = ne := by omega
    have hin := in_setOf (List.mem_of_getElem? zl)
    obtain ⟨n1, n2⟩ := h.enN h1 h2
    have hl : l = nl σ := by
      have : en τ l (j / 24) / 2 = l := by unfold en; split <;> omega
      omega
    subst hl
    have hp := hin.2
    rw [h.isofN] at hp
    have hj4 : j % 4 = (setOf σ (j / 24) (j % 24 / 4)).length := by
      rw [h.set, hp] at zl
      by_cases d : j % 4 < (setOf σ (j / 24) (j % 24 / 4)).length
      · rw [List.getElem?_append_left d, List.getElem?_eq_getElem d] at zl
        have e0 := Option.some.inj zl
        have := (in_setOf (List.getElem_mem d)).1
        rw [e0] at this
        omega
      · rw [List.getElem?_append_right (by omega)] at zl
        by_cases d2 : j % 4 - (setOf σ (j / 24) (j % 24 / 4)).length = 0
        · omega
        · rw [if_pos rfl, List.getElem?_eq_none (by simp; omega)] at zl; cases zl
    have hlen : (setOf τ (j / 24) (j % 24 / 4)).length = (setOf σ (j / 24) (j % 24 / 4)).length + 1 := by
      rw [h.set, hp]; simp
    have hxy : j / 24 = ex τ ne ∧ j % 24 / 4 = ot τ ne := by
      have hen := he
      unfold en at hen
      rw [h.new.1] at hen
      rcases (pq_or h.pl.1).mp hp with ⟨w1, w2⟩ | ⟨w1, w2⟩
      · rw [if_pos w1.symm] at hen
        rcases n2 with ⟨m1, m2, m3⟩ | ⟨m1, m2, m3⟩
        · exact ⟨by omega, by omega⟩
        · omega
      · rw [if_neg (by omega)] at hen
        rcases n2 with ⟨m1, m2, m3⟩ | ⟨m1, m2, m3⟩
        · omega
        · exact ⟨by omega, by omega⟩
    rw [← hxy.1, ← hxy.2, hlen]
    omega
  · rw [z0] at ha
    have := (t_nbf (hF f' (kdL_liF (by decide) (by decide) ha))).1
    have hc := hA.1.1.2.1.cur f' this
    have hv : σ.1 k f' = -1 ∨ ∃ l, l < nl σ ∧ σ.1 k f' = nI l := by
      rcases zk with rfl | rfl
      · exact hc.1
      · exact hc.2
    rw [h.at (by omega), h.kend hv] at z
    have := okr_end hv (by omega) z
    have hb := k_end_c z
    exfalso
    unfold aE at hb
    have : en σ (σ.1 k f').toNatClampNeg (f' / 24) < 2 * nl σ := by
      rcases hv with w | ⟨l, hl, w⟩
      · rw [w] at z; cases z
      · rw [w, nI_clamp (by omega)]; exact enl_lt hl
    omega
  · rw [z0] at ha
    have := kdL_liE y1 y2 ha
    omega
  · unfold aF at z; omega
  · omega
  · unfold aP at z; omega
  · unfold aC at z; omega
  · obtain ⟨c, z | z⟩ := k_leg_c z
    · unfold aP at z; omega
    · unfold aC at z; omega
  · obtain ⟨c, z | z⟩ := k_leg_c z
    · unfold aP at z; omega
    · unfold aC at z; omega
end LkB
