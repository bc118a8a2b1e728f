/-! the class's memory at other addresses: κ is the memory as it is thought of, μ the one that there is; a stands at ρ a -/
def sn_okr (kk : Nat → Nat) (v : Option Nat) : Prop := ∀ b, v = some b → kk b ≠ 0
def sn_HI (ρ kk : Nat → Nat) : Prop := ∀ a b, kk a ≠ 0 → kk b ≠ 0 → ρ a = ρ b → a = b
def sn_Rn (ρ kk : Nat → Nat) (κ μ : sn_Mem) : Prop := m_kd κ = kk ∧ (∀ a, kk a ≠ 0 → m_kd μ (ρ a) = kk a ∧ m_ln μ (ρ a) = m_ln κ a ∧ (∀ j, m_I μ (ρ a) j = m_I κ a j) ∧ (∀ j, m_J μ (ρ a) j = m_J κ a j) ∧ ∀ j, m_R μ (ρ a) j = (m_R κ a j).map ρ) ∧ ∀ a j, kk a ≠ 0 → sn_okr kk (m_R κ a j)
def sn_rv (ρ : Nat → Nat) : Option Value → Option Value
  | some (.ref a) => some (.ref (ρ a))
  | r => r
/-- what a program leaves as it was -/
def sn_Kp (ρ kk : Nat → Nat) (κ μ κ' μ' : sn_Mem) : Prop := m_ln κ' = m_ln κ ∧ (m_sz μ' = m_sz μ ∧ m_us μ' = m_us μ ∧ m_kd μ' = m_kd μ ∧ m_ln μ' = m_ln μ) ∧ ∀ b, (∀ a, kk a ≠ 0 → ρ a ≠ b) → ∀ j, m_I μ' b j = m_I μ b j ∧ m_J μ' b j = m_J μ b j ∧ m_R μ' b j = m_R μ b j
theorem sn_Kp.rf {ρ kk : Nat → Nat} {κ μ : sn_Mem} : sn_Kp ρ kk κ μ κ μ := ⟨rfl, ⟨rfl, rfl, rfl, rfl⟩, fun _ _ _ => ⟨rfl, rfl, rfl⟩⟩
theorem sn_Kp.tr {ρ kk : Nat → Nat} {κ μ κ1 μ1 κ2 μ2 : sn_Mem} (h1 : sn_Kp ρ kk κ μ κ1 μ1) (h2 : sn_Kp ρ kk κ1 μ1 κ2 μ2) : sn_Kp ρ kk κ μ κ2 μ2 := by
  obtain ⟨a1, ⟨a2, a3, a4, a5⟩, a6⟩ := h1
  obtain ⟨b1, ⟨b2, b3, b4, b5⟩, b6⟩ := h2
  exact ⟨b1.trans a1, ⟨b2.trans a2, b3.trans a3, b4.trans a4, b5.trans a5⟩, fun b hb j => ⟨(b6 b hb j).1.trans (a6 b hb j).1, (b6 b hb j).2.1.trans (a6 b hb j).2.1, (b6 b hb j).2.2.trans (a6 b hb j).2.2⟩⟩
def sn_Re (ρ kk : Nat → Nat) (f g : sn_M) : Prop := ∀ κ μ, sn_Rn ρ kk κ μ → ∀ r κ', g κ = some (r, κ') → ∃ μ', f μ = some (sn_rv ρ r, μ') ∧ sn_Rn ρ kk κ' μ' ∧ sn_Kp ρ kk κ μ κ' μ' ∧ ∀ a, r = some (.ref a) → kk a ≠ 0
section Ren
variable {ρ kk : Nat → Nat}
theorem sn_Re.id {r : Option Value} {f g : sn_M} (hf : ∀ μ, f μ = some (sn_rv ρ r, μ)) (hg : ∀ μ, g μ = some (r, μ)) (hr : ∀ a, r = some (.ref a) → kk a ≠ 0) : sn_Re ρ kk f g := by
  intro κ μ hR r' κ' h
  rw [hg] at h
  cases h
  exact ⟨μ, hf μ, hR, sn_Kp.rf, hr⟩
theorem sn_Re.V : sn_Re ρ kk r_V r_V := sn_Re.id (fun _ => rfl) (fun _ => rfl) (fun a h => by cases h)
theorem sn_Re.I {v : Int32} : sn_Re ρ kk (r_I v) (r_I v) := sn_Re.id (fun _ => rfl) (fun _ => rfl) (fun a h => by cases h)
theorem sn_Re.J {v : Int64} : sn_Re ρ kk (r_J v) (r_J v) := sn_Re.id (fun _ => rfl) (fun _ => rfl) (fun a h => by cases h)
theorem sn_Re.z0 {f : sn_M} : sn_Re ρ kk f r_0 := fun κ μ hR r κ' h => by cases h
theorem sn_Re.Z {v : Int32} : sn_Re ρ kk (r_Z v) (r_Z v) := by
  intro κ μ hR r κ' h
  obtain ⟨hv, e⟩ := r_Z_use h
  cases e
  exact ⟨μ, by simp [r_Z, hv, sn_rv], hR, sn_Kp.rf, fun a h => by cases h⟩
theorem sn_Re.R {v : Option Nat} (hv : sn_okr kk v) : sn_Re ρ kk (r_R (v.map ρ)) (r_R v) := by
  cases v with
  | none => exact sn_Re.id (r := some .null) (fun _ => rfl) (fun _ => rfl) (fun a h => by cases h)
  | some b => exact sn_Re.id (r := some (.ref b)) (fun _ => rfl) (fun _ => rfl) (fun a h => by cases h; exact hv b rfl)
theorem sn_Re.ite {c c' : Prop} {d : Decidable c} {d' : Decidable c'} {f f' g g' : sn_M} (hc : c' ↔ c) (h1 : sn_Re ρ kk f g) (h2 : sn_Re ρ kk f' g') : sn_Re ρ kk (@ite sn_M c' d' f f') (@ite sn_M c d g g') := by
  by_cases h : c
  · rw [if_pos h, if_pos (hc.mpr h)]; exact h1
  · rw [if_neg h, if_neg (fun q => h (hc.mp q))]; exact h2
theorem sn_none {v : Option Nat} : v.map ρ = none ↔ v = none := by cases v <;> simp
theorem sn_nnone {v : Option Nat} : (¬ v.map ρ = none) ↔ ¬ v = none := not_congr sn_none
theorem sn_eqv (HI : sn_HI ρ kk) {u v : Option Nat} (hu : sn_okr kk u) (hv : sn_okr kk v) : u.map ρ = v.map ρ ↔ u = v := by
  cases u with
  | none => cases v <;> simp
  | some a => cases v with
    | none => simp
    | some b => simp only [Option.map_some, Option.some.injEq]; exact ⟨fun e => HI a b (hu a rfl) (hv b rfl) e, fun e => by rw [e]⟩
theorem sn_neqv (HI : sn_HI ρ kk) {u v : Option Nat} (hu : sn_okr kk u) (hv : sn_okr kk v) : (¬ u.map ρ = v.map ρ) ↔ ¬ u = v := not_congr (sn_eqv HI hu hv)
theorem sn_okr0 : sn_okr kk none := fun b h => by cases h
theorem sn_okr1 {a : Nat} (h : kk a ≠ 0) : sn_okr kk (some a) := fun b e => by cases e; exact h
theorem sn_Re.D {y : Int32} {f g : sn_M} (h : sn_Re ρ kk f g) : sn_Re ρ kk (n_D y f) (n_D y g) := by
  by_cases hc : y = 0
  · intro κ μ hR r κ' h; simp [n_D, hc] at h
  · have e1 : ∀ f, n_D y f = f := fun f => by funext μ; simp [n_D, hc]
    rw [e1, e1]; exact h
theorem sn_Re.nI {v : Int32} {F G : Int32 → sn_M} (h : ∀ x, sn_Re ρ kk (F x) (G x)) : sn_Re ρ kk (n_I v F) (n_I v G) := h v
theorem sn_Re.nJ {v : Int64} {F G : Int64 → sn_M} (h : ∀ x, sn_Re ρ kk (F x) (G x)) : sn_Re ρ kk (n_J v F) (n_J v G) := h v
theorem sn_Re.nn {c : Nat} {r : Option Nat} {F G : Nat → sn_M} (hc : c ≠ 0) (h : ∀ a, kk a ≠ 0 → sn_Re ρ kk (F (ρ a)) (G a)) : sn_Re ρ kk (n_n c (r.map ρ) F) (n_n c r G) := by
  intro κ μ hR x κ' hg
  obtain ⟨a, rfl, h1, h2⟩ := n_n_use hg
  have hk : kk a = c := by rw [← hR.1]; exact h1
  obtain ⟨ν, q1, q2⟩ := h a (by omega) κ μ hR x κ' h2
  have h3 := (hR.2.1 a (by omega)).1
  exact ⟨ν, by simp only [n_n, Option.map_some, h3, hk, if_true]; exact q1, q2⟩
theorem sn_Re.gI {c k : Nat} {r : Option Nat} {F G : Int32 → sn_M} (hc : c ≠ 0) (h : ∀ v, sn_Re ρ kk (F (v)) (G v)) : sn_Re ρ kk (g_I c k (r.map ρ) F) (g_I c k r G) := by
  intro κ μ hR x κ' hg
  obtain ⟨a, rfl, h1, h2⟩ := g_I_use hg
  have hk : kk a = c := by rw [← hR.1]; exact h1
  have h3 := hR.2.1 a (by omega)
  obtain ⟨ν, q1, q2⟩ := h _ κ μ hR x κ' h2
  exact ⟨ν, by simp only [g_I, Option.map_some, h3.1, hk, if_true, h3.2.2.1]; exact q1, q2⟩
theorem sn_Re.aI {c : Nat} {r : Option Nat} {i : Int32} {F G : Int32 → sn_M} (hc : c ≠ 0) (h : ∀ v, sn_Re ρ kk (F (v)) (G v)) : sn_Re ρ kk (a_I c (r.map ρ) i F) (a_I c r i G) := by
  intro κ μ hR x κ' hg
  obtain ⟨a, rfl, ⟨h1, hin⟩, h2⟩ := a_I_use hg
  have hk : kk a = c := by rw [← hR.1]; exact h1
  have h3 := hR.2.1 a (by omega)
  obtain ⟨ν, q1, q2⟩ := h _ κ μ hR x κ' h2
  exact ⟨ν, by simp only [a_I, Option.map_some, h3.1, h3.2.1, hk, hin, not_false_eq_true, and_self, if_true, h3.2.2.1]; exact q1, q2⟩
theorem sn_Re.gJ {c k : Nat} {r : Option Nat} {F G : Int64 → sn_M} (hc : c ≠ 0) (h : ∀ v, sn_Re ρ kk (F (v)) (G v)) : sn_Re ρ kk (g_J c k (r.map ρ) F) (g_J c k r G) := by
  intro κ μ hR x κ' hg
  obtain ⟨a, rfl, h1, h2⟩ := g_J_use hg
  have hk : kk a = c := by rw [← hR.1]; exact h1
  have h3 := hR.2.1 a (by omega)
  obtain ⟨ν, q1, q2⟩ := h _ κ μ hR x κ' h2
  exact ⟨ν, by simp only [g_J, Option.map_some, h3.1, hk, if_true, h3.2.2.2.1]; exact q1, q2⟩
theorem sn_Re.aJ {c : Nat} {r : Option Nat} {i : Int32} {F G : Int64 → sn_M} (hc : c ≠ 0) (h : ∀ v, sn_Re ρ kk (F (v)) (G v)) : sn_Re ρ kk (a_J c (r.map ρ) i F) (a_J c r i G) := by
  intro κ μ hR x κ' hg
  obtain ⟨a, rfl, ⟨h1, hin⟩, h2⟩ := a_J_use hg
  have hk : kk a = c := by rw [← hR.1]; exact h1
  have h3 := hR.2.1 a (by omega)
  obtain ⟨ν, q1, q2⟩ := h _ κ μ hR x κ' h2
  exact ⟨ν, by simp only [a_J, Option.map_some, h3.1, h3.2.1, hk, hin, not_false_eq_true, and_self, if_true, h3.2.2.2.1]; exact q1, q2⟩
theorem sn_Re.gR {c k : Nat} {r : Option Nat} {F G : Option Nat → sn_M} (hc : c ≠ 0) (h : ∀ v, sn_okr kk v → sn_Re ρ kk (F (v.map ρ)) (G v)) : sn_Re ρ kk (g_R c k (r.map ρ) F) (g_R c k r G) := by
  intro κ μ hR x κ' hg
  obtain ⟨a, rfl, h1, h2⟩ := g_R_use hg
  have hk : kk a = c := by rw [← hR.1]; exact h1
  have h3 := hR.2.1 a (by omega)
  obtain ⟨ν, q1, q2⟩ := h _ (hR.2.2 a k (by omega)) κ μ hR x κ' h2
  exact ⟨ν, by simp only [g_R, Option.map_some, h3.1, hk, if_true, h3.2.2.2.2]; exact q1, q2⟩
theorem sn_Re.aR {c : Nat} {r : Option Nat} {i : Int32} {F G : Option Nat → sn_M} (hc : c ≠ 0) (h : ∀ v, sn_okr kk v → sn_Re ρ kk (F (v.map ρ)) (G v)) : sn_Re ρ kk (a_R c (r.map ρ) i F) (a_R c r i G) := by
  intro κ μ hR x κ' hg
  obtain ⟨a, rfl, ⟨h1, hin⟩, h2⟩ := a_R_use hg
  have hk : kk a = c := by rw [← hR.1]; exact h1
  have h3 := hR.2.1 a (by omega)
  obtain ⟨ν, q1, q2⟩ := h _ (hR.2.2 a i.toNatClampNeg (by omega)) κ μ hR x κ' h2
  exact ⟨ν, by simp only [a_R, Option.map_some, h3.1, h3.2.1, hk, hin, not_false_eq_true, and_self, if_true, h3.2.2.2.2]; exact q1, q2⟩
theorem sn_Re.len {c : Nat} {r : Option Nat} {F G : Int32 → sn_M} (hc : c ≠ 0) (h : ∀ v, sn_Re ρ kk (F v) (G v)) : sn_Re ρ kk (a_len c (r.map ρ) F) (a_len c r G) := by
  intro κ μ hR x κ' hg
  obtain ⟨a, rfl, h1, h2⟩ := a_len_use hg
  have hk : kk a = c := by rw [← hR.1]; exact h1
  have h3 := hR.2.1 a (by omega)
  obtain ⟨ν, q1, q2⟩ := h _ κ μ hR x κ' h2
  exact ⟨ν, by simp only [a_len, Option.map_some, h3.1, h3.2.1, hk, if_true]; exact q1, q2⟩
/-- a write -/
theorem sn_Re.put {κ μ κ0 μ0 : sn_Mem} {F G : sn_M} (h : sn_Re ρ kk F G) (h0 : sn_Rn ρ kk κ0 μ0) (hK : sn_Kp ρ kk κ μ κ0 μ0) {r : Option Value} {κ' : sn_Mem} (hg : G κ0 = some (r, κ')) : ∃ ν, F μ0 = some (sn_rv ρ r, ν) ∧ sn_Rn ρ kk κ' ν ∧ sn_Kp ρ kk κ μ κ' ν ∧ ∀ a, r = some (.ref a) → kk a ≠ 0 := by
  obtain ⟨ν, q1, q2, q3, q4⟩ := h κ0 μ0 h0 r κ' hg
  exact ⟨ν, q1, q2, hK.tr q3, q4⟩
theorem sn_Rn.uI (HI : sn_HI ρ kk) {κ μ : sn_Mem} (h : sn_Rn ρ kk κ μ) {a k : Nat} {v : Int32} (ha : kk a ≠ 0) : sn_Rn ρ kk (u_I κ a k v) (u_I μ (ρ a) k (v)) ∧ sn_Kp ρ kk κ μ (u_I κ a k v) (u_I μ (ρ a) k (v)) := by
  refine ⟨⟨h.1, fun b hb => ?_, ?_⟩, rfl, ⟨rfl, rfl, rfl, rfl⟩, fun b hb j => ?_⟩
  · obtain ⟨h1, h2, h3, h4, h5⟩ := h.2.1 b hb
    refine ⟨h1, h2, ?_, ?_, ?_⟩
    · intro j
      show sn_up (m_I μ) (ρ a) k (v) (ρ b) j = sn_up (m_I κ) a k v b j
      by_cases e : b = a
      · subst e
        by_cases ej : j = k
        · subst ej; rw [sn_up_same, sn_up_same]
        · rw [sn_up_nk _ _ _ _ ej, sn_up_nk _ _ _ _ ej]; exact h3 j
      · rw [sn_up_ne _ _ _ _ (fun q => e (HI b a hb ha q)), sn_up_ne _ _ _ _ e]; exact h3 j
    · exact h4
    · exact h5
  · exact h.2.2
  · exact ⟨sn_up_ne _ _ _ _ (fun q => hb a ha q.symm), rfl, rfl⟩
theorem sn_Rn.uJ (HI : sn_HI ρ kk) {κ μ : sn_Mem} (h : sn_Rn ρ kk κ μ) {a k : Nat} {v : Int64} (ha : kk a ≠ 0) : sn_Rn ρ kk (u_J κ a k v) (u_J μ (ρ a) k (v)) ∧ sn_Kp ρ kk κ μ (u_J κ a k v) (u_J μ (ρ a) k (v)) := by
  refine ⟨⟨h.1, fun b hb => ?_, ?_⟩, rfl, ⟨rfl, rfl, rfl, rfl⟩, fun b hb j => ?_⟩
  · obtain ⟨h1, h2, h3, h4, h5⟩ := h.2.1 b hb
    refine ⟨h1, h2, ?_, ?_, ?_⟩
    · exact h3
    · intro j
      show sn_up (m_J μ) (ρ a) k (v) (ρ b) j = sn_up (m_J κ) a k v b j
      by_cases e : b = a
      · subst e
        by_cases ej : j = k
        · subst ej; rw [sn_up_same, sn_up_same]
        · rw [sn_up_nk _ _ _ _ ej, sn_up_nk _ _ _ _ ej]; exact h4 j
      · rw [sn_up_ne _ _ _ _ (fun q => e (HI b a hb ha q)), sn_up_ne _ _ _ _ e]; exact h4 j
    · exact h5
  · exact h.2.2
  · exact ⟨rfl, sn_up_ne _ _ _ _ (fun q => hb a ha q.symm), rfl⟩
theorem sn_Rn.uR (HI : sn_HI ρ kk) {κ μ : sn_Mem} (h : sn_Rn ρ kk κ μ) {a k : Nat} {v : Option Nat} (ha : kk a ≠ 0) (hv : sn_okr kk v) : sn_Rn ρ kk (u_R κ a k v) (u_R μ (ρ a) k (v.map ρ)) ∧ sn_Kp ρ kk κ μ (u_R κ a k v) (u_R μ (ρ a) k (v.map ρ)) := by
  refine ⟨⟨h.1, fun b hb => ?_, ?_⟩, rfl, ⟨rfl, rfl, rfl, rfl⟩, fun b hb j => ?_⟩
  · obtain ⟨h1, h2, h3, h4, h5⟩ := h.2.1 b hb
    refine ⟨h1, h2, ?_, ?_, ?_⟩
    · exact h3
    · exact h4
    · intro j
      show sn_up (m_R μ) (ρ a) k (v.map ρ) (ρ b) j = (sn_up (m_R κ) a k v b j).map ρ
      by_cases e : b = a
      · subst e
        by_cases ej : j = k
        · subst ej; rw [sn_up_same, sn_up_same]
        · rw [sn_up_nk _ _ _ _ ej, sn_up_nk _ _ _ _ ej]; exact h5 j
      · rw [sn_up_ne _ _ _ _ (fun q => e (HI b a hb ha q)), sn_up_ne _ _ _ _ e]; exact h5 j
  · intro b j hb
    show sn_okr kk (sn_up (m_R κ) a k v b j)
    by_cases e : b = a
    · subst e
      by_cases ej : j = k
      · subst ej; rw [sn_up_same]; exact hv
      · rw [sn_up_nk _ _ _ _ ej]; exact h.2.2 b j hb
    · rw [sn_up_ne _ _ _ _ e]; exact h.2.2 b j hb
  · exact ⟨rfl, rfl, sn_up_ne _ _ _ _ (fun q => hb a ha q.symm)⟩
theorem sn_Re.pI (HI : sn_HI ρ kk) {c k : Nat} {r : Option Nat} {v : Int32} {F G : sn_M} (hc : c ≠ 0) (h : sn_Re ρ kk F G) : sn_Re ρ kk (p_I c k (r.map ρ) v F) (p_I c k r v G) := by
  intro κ μ hR x κ' hg
  obtain ⟨a, rfl, h1, h2⟩ := p_I_use hg
  have hk : kk a = c := by rw [← hR.1]; exact h1
  have h3 := hR.2.1 a (by omega)
  obtain ⟨n1, n2⟩ := hR.uI HI (a := a) (k := k) (v := v) (by omega)
  have e : p_I c k ((some a).map ρ) v F μ = F (u_I μ (ρ a) k v) := by simp only [p_I, Option.map_some, h3.1, hk, if_true]
  rw [e]
  exact h.put n1 n2 h2
theorem sn_Re.pZ (HI : sn_HI ρ kk) {c k : Nat} {r : Option Nat} {v : Int32} {F G : sn_M} (hc : c ≠ 0) (h : sn_Re ρ kk F G) : sn_Re ρ kk (p_Z c k (r.map ρ) v F) (p_Z c k r v G) := by
  intro κ μ hR x κ' hg
  obtain ⟨a, rfl, h1, h2⟩ := p_Z_use hg
  have hk : kk a = c := by rw [← hR.1]; exact h1.1
  have h3 := hR.2.1 a (by omega)
  obtain ⟨n1, n2⟩ := hR.uI HI (a := a) (k := k) (v := v) (by omega)
  have e : p_Z c k ((some a).map ρ) v F μ = F (u_I μ (ρ a) k v) := by simp only [p_Z, Option.map_some, h3.1, hk, if_true, h1.2, and_self]
  rw [e]
  exact h.put n1 n2 h2
theorem sn_Re.pJ (HI : sn_HI ρ kk) {c k : Nat} {r : Option Nat} {v : Int64} {F G : sn_M} (hc : c ≠ 0) (h : sn_Re ρ kk F G) : sn_Re ρ kk (p_J c k (r.map ρ) v F) (p_J c k r v G) := by
  intro κ μ hR x κ' hg
  obtain ⟨a, rfl, h1, h2⟩ := p_J_use hg
  have hk : kk a = c := by rw [← hR.1]; exact h1
  have h3 := hR.2.1 a (by omega)
  obtain ⟨n1, n2⟩ := hR.uJ HI (a := a) (k := k) (v := v) (by omega)
  have e : p_J c k ((some a).map ρ) v F μ = F (u_J μ (ρ a) k v) := by simp only [p_J, Option.map_some, h3.1, hk, if_true]
  rw [e]
  exact h.put n1 n2 h2
theorem sn_Re.pR (HI : sn_HI ρ kk) {c k : Nat} {r : Option Nat} {v : Option Nat} {F G : sn_M} (hc : c ≠ 0) (hv : sn_okr kk v) (h : sn_Re ρ kk F G) : sn_Re ρ kk (p_R c k (r.map ρ) (v.map ρ) F) (p_R c k r v G) := by
  intro κ μ hR x κ' hg
  obtain ⟨a, rfl, h1, h2⟩ := p_R_use hg
  have hk : kk a = c := by rw [← hR.1]; exact h1
  have h3 := hR.2.1 a (by omega)
  obtain ⟨n1, n2⟩ := hR.uR HI (a := a) (k := k) (v := v) (by omega) hv
  have e : p_R c k ((some a).map ρ) (v.map ρ) F μ = F (u_R μ (ρ a) k (v.map ρ)) := by simp only [p_R, Option.map_some, h3.1, hk, if_true]
  rw [e]
  exact h.put n1 n2 h2
theorem sn_Re.bI (HI : sn_HI ρ kk) {c : Nat} {r : Option Nat} {i : Int32} {v : Int32} {F G : sn_M} (hc : c ≠ 0) (h : sn_Re ρ kk F G) : sn_Re ρ kk (b_I c (r.map ρ) i v F) (b_I c r i v G) := by
  intro κ μ hR x κ' hg
  obtain ⟨a, rfl, h1, h2⟩ := b_I_use hg
  obtain ⟨hkd, hin⟩ := h1
  have hk : kk a = c := by rw [← hR.1]; exact hkd
  have h3 := hR.2.1 a (by omega)
  obtain ⟨n1, n2⟩ := hR.uI HI (a := a) (k := i.toNatClampNeg) (v := v) (by omega)
  have e : b_I c ((some a).map ρ) i v F μ = F (u_I μ (ρ a) i.toNatClampNeg v) := by simp only [b_I, Option.map_some, h3.1, h3.2.1, hk, hin, not_false_eq_true, and_self, if_true]
  rw [e]
  exact h.put n1 n2 h2
theorem sn_Re.bZ (HI : sn_HI ρ kk) {c : Nat} {r : Option Nat} {i : Int32} {v : Int32} {F G : sn_M} (hc : c ≠ 0) (h : sn_Re ρ kk F G) : sn_Re ρ kk (b_Z c (r.map ρ) i v F) (b_Z c r i v G) := by
  intro κ μ hR x κ' hg
  obtain ⟨a, rfl, h1, h2⟩ := b_Z_use hg
  obtain ⟨hkd, hin⟩ := h1.1
  have hk : kk a = c := by rw [← hR.1]; exact hkd
  have h3 := hR.2.1 a (by omega)
  obtain ⟨n1, n2⟩ := hR.uI HI (a := a) (k := i.toNatClampNeg) (v := v) (by omega)
  have e : b_Z c ((some a).map ρ) i v F μ = F (u_I μ (ρ a) i.toNatClampNeg v) := by simp only [b_Z, Option.map_some, h3.1, h3.2.1, hk, hin, not_false_eq_true, and_self, if_true, h1.2]
  rw [e]
  exact h.put n1 n2 h2
theorem sn_Re.bJ (HI : sn_HI ρ kk) {c : Nat} {r : Option Nat} {i : Int32} {v : Int64} {F G : sn_M} (hc : c ≠ 0) (h : sn_Re ρ kk F G) : sn_Re ρ kk (b_J c (r.map ρ) i v F) (b_J c r i v G) := by
  intro κ μ hR x κ' hg
  obtain ⟨a, rfl, h1, h2⟩ := b_J_use hg
  obtain ⟨hkd, hin⟩ := h1
  have hk : kk a = c := by rw [← hR.1]; exact hkd
  have h3 := hR.2.1 a (by omega)
  obtain ⟨n1, n2⟩ := hR.uJ HI (a := a) (k := i.toNatClampNeg) (v := v) (by omega)
  have e : b_J c ((some a).map ρ) i v F μ = F (u_J μ (ρ a) i.toNatClampNeg v) := by simp only [b_J, Option.map_some, h3.1, h3.2.1, hk, hin, not_false_eq_true, and_self, if_true]
  rw [e]
  exact h.put n1 n2 h2
theorem sn_Re.cV {f F g G : sn_M} (h1 : sn_Re ρ kk f g) (h2 : sn_Re ρ kk F G) : sn_Re ρ kk (c_V f F) (c_V g G) := by
  intro κ μ hR x κ' hg
  obtain ⟨κ1, a1, a2⟩ := c_V_use hg
  obtain ⟨μ1, b1, b2, b3, -⟩ := h1 κ μ hR _ _ a1
  have e : c_V f F μ = F μ1 := by simp only [c_V, b1, sn_rv]
  rw [e]; exact h2.put b2 b3 a2
theorem sn_Re.cI {f g : sn_M} {F G : Int32 → sn_M} (h1 : sn_Re ρ kk f g) (h2 : ∀ v, sn_Re ρ kk (F v) (G v)) : sn_Re ρ kk (c_I f F) (c_I g G) := by
  intro κ μ hR x κ' hg
  obtain ⟨v, κ1, a1, a2⟩ := c_I_use hg
  obtain ⟨μ1, b1, b2, b3, -⟩ := h1 κ μ hR _ _ a1
  have e : c_I f F μ = F v μ1 := by simp only [c_I, b1, sn_rv]
  rw [e]; exact (h2 v).put b2 b3 a2
theorem sn_Re.cJ {f g : sn_M} {F G : Int64 → sn_M} (h1 : sn_Re ρ kk f g) (h2 : ∀ v, sn_Re ρ kk (F v) (G v)) : sn_Re ρ kk (c_J f F) (c_J g G) := by
  intro κ μ hR x κ' hg
  obtain ⟨v, κ1, a1, a2⟩ := c_J_use hg
  obtain ⟨μ1, b1, b2, b3, -⟩ := h1 κ μ hR _ _ a1
  have e : c_J f F μ = F v μ1 := by simp only [c_J, b1, sn_rv]
  rw [e]; exact (h2 v).put b2 b3 a2
theorem sn_Re.cR {f g : sn_M} {F G : Option Nat → sn_M} (h1 : sn_Re ρ kk f g) (h2 : ∀ v, sn_okr kk v → sn_Re ρ kk (F (v.map ρ)) (G v)) : sn_Re ρ kk (c_R f F) (c_R g G) := by
  intro κ μ hR x κ' hg
  obtain ⟨v, κ1, a1, a2⟩ := c_R_use hg
  obtain ⟨μ1, b1, b2, b3, b4⟩ := h1 κ μ hR _ _ a1
  cases v with
  | none =>
    have e : c_R f F μ = F none μ1 := by simp only [c_R, b1, va_rf, sn_rv]
    rw [e]; exact (h2 none sn_okr0).put b2 b3 a2
  | some a =>
    have e : c_R f F μ = F (some (ρ a)) μ1 := by simp only [c_R, b1, va_rf, sn_rv]
    rw [e]; exact (h2 (some a) (sn_okr1 (b4 a rfl))).put b2 b3 a2
theorem sn_Re.swN {x : Int32} {d d' : sn_M} (h : sn_Re ρ kk d d') : sn_Re ρ kk (sn_sw x [] [] d) (sn_sw x [] [] d') := h
theorem sn_Re.swC {x k : Int32} {ks : List Int32} {f g : sn_M} {fs gs : List sn_M} {d d' : sn_M} (h1 : sn_Re ρ kk f g) (h2 : sn_Re ρ kk (sn_sw x ks fs d) (sn_sw x ks gs d')) : sn_Re ρ kk (sn_sw x (k :: ks) (f :: fs) d) (sn_sw x (k :: ks) (g :: gs) d') := sn_Re.ite Iff.rfl h1 h2
end Ren
