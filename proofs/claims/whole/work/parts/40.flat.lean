def md_kds : List Nat := [31, 31, 33, 33, 0, 0, 0, 0, 0, 0, 31, 31, 31, 31, 31, 31, 31, 31, 31, 31, 31, 31, 31, 33, 33, 32, 31, 31, 32, 31, 31, 31, 31, 31, 31, 32, 33, 31, 31, 31, 31, 31, 31, 31, 31, 31, 32, 31, 33, 31, 31, 31, 31, 31, 31, 33, 33, 31, 31, 31, 31, 31, 31, 32]
def md_lens : List Nat := [10, 10, 10, 10, 0, 0, 0, 0, 0, 0, 20, 20, 20, 20, 20, 20, 20, 20, 20, 20, 20, 20, 20, 20, 20, 640, 640, 20, 1280, 20, 20, 20, 20, 20, 20, 20, 20, 20, 20, 20, 20, 144, 144, 144, 144, 144, 9216, 144, 216, 216, 36, 36, 144, 144, 144, 144, 144, 144, 144, 144, 144, 24, 24, 400]
def md_kd (k : Nat) : Nat := md_kds.getD k 0
def md_len (k : Nat) : Nat := md_lens.getD k 0
theorem md_kd_out {k : Nat} (h : 64 ≤ k) : md_kd k = 0 := by
  have : md_kds.length = 64 := by decide
  simp [md_kd, List.getD_eq_getElem?_getD, List.getElem?_eq_none (by omega : md_kds.length ≤ k)]
/-! the reference's memory, flat: by the number of a field and a place -/
abbrev sn_FS : Type := (Nat → Nat → Int32) × (Nat → Nat → Int64)
abbrev sn_G : Type := sn_FS → Option (Option Value × sn_FS)
def md_ad (M k : Nat) : Nat := M + 1 + (if k < 4 then k else k - 6)
def sn_St (M : Nat) (μ : sn_Mem) : Prop := m_kd μ M = 12 ∧ ∀ k, k < 64 → md_kd k ≠ 0 → m_R μ M k = some (md_ad M k) ∧ m_kd μ (md_ad M k) = md_kd k ∧ m_ln μ (md_ad M k) = md_len k
def sn_Vw (M : Nat) (μ : sn_Mem) : sn_FS := (fun k i => if md_kd k = 0 then m_I μ M k else m_I μ (md_ad M k) i, fun k i => if md_kd k = 32 then m_J μ (md_ad M k) i else 0)
def z_V : sn_G := fun σ => some (none, σ)
def z_I (v : Int32) : sn_G := fun σ => some (some (.int v), σ)
def z_Z (v : Int32) : sn_G := fun σ => if v = 0 ∨ v = 1 then some (some (.int v), σ) else none
def z_J (v : Int64) : sn_G := fun σ => some (some (.long v), σ)
def z_0 : sn_G := fun _ => none
def q_I (k : Nat) (i : Int32) (K : Int32 → sn_G) : sn_G := fun σ => if ¬ (i < 0 ∨ md_len k ≤ i.toNatClampNeg) then K (σ.1 k i.toNatClampNeg) σ else none
def q_J (k : Nat) (i : Int32) (K : Int64 → sn_G) : sn_G := fun σ => if ¬ (i < 0 ∨ md_len k ≤ i.toNatClampNeg) then K (σ.2 k i.toNatClampNeg) σ else none
def q_S (k : Nat) (K : Int32 → sn_G) : sn_G := fun σ => K (σ.1 k 0) σ
def w_I (k : Nat) (i : Int32) (v : Int32) (K : sn_G) : sn_G := fun σ => if ¬ (i < 0 ∨ md_len k ≤ i.toNatClampNeg) then K (sn_up σ.1 k i.toNatClampNeg v, σ.2) else none
def w_Z (k : Nat) (i : Int32) (v : Int32) (K : sn_G) : sn_G := fun σ => if ¬ (i < 0 ∨ md_len k ≤ i.toNatClampNeg) ∧ (v = 0 ∨ v = 1) then K (sn_up σ.1 k i.toNatClampNeg v, σ.2) else none
def w_J (k : Nat) (i : Int32) (v : Int64) (K : sn_G) : sn_G := fun σ => if ¬ (i < 0 ∨ md_len k ≤ i.toNatClampNeg) then K (σ.1, sn_up σ.2 k i.toNatClampNeg v) else none
def w_S (k : Nat) (v : Int32) (K : sn_G) : sn_G := fun σ => K (fun k' i => if k' = k then v else σ.1 k' i, σ.2)
def y_D (y : Int32) (K : sn_G) : sn_G := fun σ => if y = 0 then none else K σ
def y_nI (v : Int32) (K : Int32 → sn_G) : sn_G := K v
def y_nJ (v : Int64) (K : Int64 → sn_G) : sn_G := K v
def y_V (f K : sn_G) : sn_G := fun σ => match f σ with
  | some (none, τ) => K τ
  | _ => none
def y_I (f : sn_G) (K : Int32 → sn_G) : sn_G := fun σ => match f σ with
  | some (some (.int v), τ) => K v τ
  | _ => none
def y_J (f : sn_G) (K : Int64 → sn_G) : sn_G := fun σ => match f σ with
  | some (some (.long v), τ) => K v τ
  | _ => none
def y_sw (x : Int32) : List Int32 → List sn_G → sn_G → sn_G
  | k :: ks, f :: fs, d => if x = k then f else y_sw x ks fs d
  | _, _, d => d
/-- f does to the memory what g does to the flat one -/
def sn_Lf (M : Nat) (f : sn_M) (g : sn_G) : Prop := ∀ μ, sn_St M μ → ∀ r τ, g (sn_Vw M μ) = some (r, τ) → ∃ ν, f μ = some (r, ν) ∧ sn_Vw M ν = τ ∧ (m_sz ν = m_sz μ ∧ m_us ν = m_us μ ∧ m_kd ν = m_kd μ ∧ m_ln ν = m_ln μ ∧ m_R ν = m_R μ) ∧ ∀ b, (b < M ∨ M + 59 ≤ b) → ∀ j, m_I ν b j = m_I μ b j ∧ m_J ν b j = m_J μ b j
theorem sn_St.same {M : Nat} {μ ν : sn_Mem} (h : sn_St M μ) (h1 : m_kd ν = m_kd μ) (h2 : m_ln ν = m_ln μ) (h3 : m_R ν = m_R μ) : sn_St M ν := by
  refine ⟨by rw [h1]; exact h.1, fun k hk hn => ?_⟩
  rw [h1, h2, h3]
  exact h.2 k hk hn
theorem md_ad_in {M k : Nat} (hk : k < 64) (hn : md_kd k ≠ 0) : M < md_ad M k ∧ md_ad M k < M + 59 := by
  have : ∀ k, k < 64 → md_kd k ≠ 0 → k < 4 ∨ 10 ≤ k := by decide +kernel
  unfold md_ad
  split <;> rcases this k hk hn with h | h <;> omega
theorem md_ad_inj {M k k' : Nat} (hk : k < 64) (hn : md_kd k ≠ 0) (hk' : k' < 64) (hn' : md_kd k' ≠ 0) (h : md_ad M k = md_ad M k') : k = k' := by
  have : ∀ k, k < 64 → md_kd k ≠ 0 → k < 4 ∨ 10 ≤ k := by decide +kernel
  have h1 := this k hk hn
  have h2 := this k' hk' hn'
  unfold md_ad at h
  split at h <;> split at h <;> omega
/-- programs that answer at once -/
theorem sn_Lf.id {M : Nat} {r : Option Value} {f : sn_M} {g : sn_G} (hf : ∀ μ, f μ = some (r, μ)) (hg : ∀ σ, g σ = some (r, σ)) : sn_Lf M f g := by
  intro μ hS r' τ h
  rw [hg] at h
  cases h
  exact ⟨μ, hf μ, rfl, ⟨rfl, rfl, rfl, rfl, rfl⟩, fun b _ j => ⟨rfl, rfl⟩⟩
theorem sn_Lf.V {M : Nat} : sn_Lf M r_V z_V := sn_Lf.id (fun _ => rfl) (fun _ => rfl)
theorem sn_Lf.I {M : Nat} {v : Int32} : sn_Lf M (r_I v) (z_I v) := sn_Lf.id (fun _ => rfl) (fun _ => rfl)
theorem sn_Lf.J {M : Nat} {v : Int64} : sn_Lf M (r_J v) (z_J v) := sn_Lf.id (fun _ => rfl) (fun _ => rfl)
theorem sn_Lf.z0 {M : Nat} {f : sn_M} : sn_Lf M f z_0 := fun μ hS r τ h => by cases h
theorem sn_Lf.Z {M : Nat} {v : Int32} : sn_Lf M (r_Z v) (z_Z v) := by
  by_cases hv : v = 0 ∨ v = 1
  · exact sn_Lf.id (r := some (.int v)) (fun _ => by simp [r_Z, hv]) (fun _ => by simp [z_Z, hv])
  · intro μ hS r τ h; simp [z_Z, hv] at h
theorem sn_Lf.ite {M : Nat} {c : Prop} {d d' : Decidable c} {f f' : sn_M} {g g' : sn_G} (h1 : sn_Lf M f g) (h2 : sn_Lf M f' g') : sn_Lf M (@ite sn_M c d f f') (@ite sn_G c d' g g') := by
  by_cases hc : c
  · rw [if_pos hc, if_pos hc]; exact h1
  · rw [if_neg hc, if_neg hc]; exact h2
theorem sn_Lf.D {M : Nat} {y : Int32} {f : sn_M} {g : sn_G} (h : sn_Lf M f g) : sn_Lf M (n_D y f) (y_D y g) := by
  by_cases hc : y = 0
  · intro μ hS r τ h; simp [y_D, hc] at h
  · have e1 : n_D y f = f := by funext μ; simp [n_D, hc]
    have e2 : y_D y g = g := by funext μ; simp [y_D, hc]
    rw [e1, e2]; exact h
theorem sn_Lf.nI {M : Nat} {v : Int32} {F : Int32 → sn_M} {G : Int32 → sn_G} (h : ∀ x, sn_Lf M (F x) (G x)) : sn_Lf M (n_I v F) (y_nI v G) := h v
theorem sn_Lf.nJ {M : Nat} {v : Int64} {F : Int64 → sn_M} {G : Int64 → sn_G} (h : ∀ x, sn_Lf M (F x) (G x)) : sn_Lf M (n_J v F) (y_nJ v G) := h v
theorem sn_Lf.nn {M : Nat} {F : Nat → sn_M} {g : sn_G} (h : sn_Lf M (F M) g) : sn_Lf M (n_n 12 (some M) F) g := by
  intro μ hS r τ hg
  obtain ⟨ν, a, b⟩ := h μ hS r τ hg
  exact ⟨ν, by simp only [n_n, hS.1, if_true]; exact a, b⟩
theorem sn_Lf.gR {M k : Nat} {F : Option Nat → sn_M} {g : sn_G} (hk : k < 64 ∧ md_kd k ≠ 0) (h : sn_Lf M (F (some (md_ad M k))) g) : sn_Lf M (g_R 12 k (some M) F) g := by
  intro μ hS r τ hg
  obtain ⟨ν, a, b⟩ := h μ hS r τ hg
  exact ⟨ν, by simp only [g_R, hS.1, if_true, (hS.2 k hk.1 hk.2).1]; exact a, b⟩
theorem sn_Lf.gS {M k : Nat} {F : Int32 → sn_M} {G : Int32 → sn_G} (hk : md_kd k = 0) (h : ∀ v, sn_Lf M (F v) (G v)) : sn_Lf M (g_I 12 k (some M) F) (q_S k G) := by
  intro μ hS r τ hg
  have e : (sn_Vw M μ).1 k 0 = m_I μ M k := by simp only [sn_Vw, hk, if_true]
  simp only [q_S, e] at hg
  obtain ⟨ν, a, b⟩ := h _ μ hS r τ hg
  exact ⟨ν, by simp only [g_I, hS.1, if_true]; exact a, b⟩
theorem sn_Lf.aI {M k kd : Nat} {i : Int32} {F : Int32 → sn_M} {G : Int32 → sn_G} (hk : k < 64 ∧ md_kd k = kd ∧ kd ≠ 0) (h : ∀ v, sn_Lf M (F v) (G v)) : sn_Lf M (a_I kd (some (md_ad M k)) i F) (q_I k i G) := by
  intro μ hS r τ hg
  obtain ⟨hk1, rfl, hk2⟩ := hk
  obtain ⟨-, s1, s2⟩ := hS.2 k hk1 hk2
  by_cases hin : ¬ (i < 0 ∨ md_len k ≤ i.toNatClampNeg)
  · simp only [q_I, hin, if_true, not_false_eq_true] at hg
    have e : (sn_Vw M μ).1 k i.toNatClampNeg = m_I μ (md_ad M k) i.toNatClampNeg := by simp only [sn_Vw, hk2, if_false]
    rw [e] at hg
    obtain ⟨ν, a, b⟩ := h _ μ hS r τ hg
    exact ⟨ν, by simp only [a_I, s1, s2, hin, if_true, not_false_eq_true, and_self]; exact a, b⟩
  · simp only [q_I, hin, if_false] at hg; cases hg
theorem sn_Lf.aJ {M k kd : Nat} {i : Int32} {F : Int64 → sn_M} {G : Int64 → sn_G} (hk : k < 64 ∧ md_kd k = kd ∧ kd = 32) (h : ∀ v, sn_Lf M (F v) (G v)) : sn_Lf M (a_J kd (some (md_ad M k)) i F) (q_J k i G) := by
  intro μ hS r τ hg
  obtain ⟨hk1, rfl, hk3⟩ := hk
  have hk2 : md_kd k ≠ 0 := by omega
  obtain ⟨-, s1, s2⟩ := hS.2 k hk1 hk2
  by_cases hin : ¬ (i < 0 ∨ md_len k ≤ i.toNatClampNeg)
  · simp only [q_J, hin, if_true, not_false_eq_true] at hg
    have e : (sn_Vw M μ).2 k i.toNatClampNeg = m_J μ (md_ad M k) i.toNatClampNeg := by simp only [sn_Vw, hk3, if_true]
    rw [e] at hg
    obtain ⟨ν, a, b⟩ := h _ μ hS r τ hg
    exact ⟨ν, by simp only [a_J, s1, s2, hin, if_true, not_false_eq_true, and_self]; exact a, b⟩
  · simp only [q_J, hin, if_false] at hg; cases hg
/-- a write -/
theorem sn_Lf.put {M : Nat} {μ ν0 : sn_Mem} {σ : sn_FS} {F : sn_M} {G : sn_G} (hS : sn_St M μ) (h : sn_Lf M F G) (hV : sn_Vw M ν0 = σ) (h0 : m_sz ν0 = m_sz μ ∧ m_us ν0 = m_us μ ∧ m_kd ν0 = m_kd μ ∧ m_ln ν0 = m_ln μ ∧ m_R ν0 = m_R μ) (hfr : ∀ b, (b < M ∨ M + 59 ≤ b) → ∀ j, m_I ν0 b j = m_I μ b j ∧ m_J ν0 b j = m_J μ b j) {r : Option Value} {τ : sn_FS} (hg : G σ = some (r, τ)) : ∃ ν, F ν0 = some (r, ν) ∧ sn_Vw M ν = τ ∧ (m_sz ν = m_sz μ ∧ m_us ν = m_us μ ∧ m_kd ν = m_kd μ ∧ m_ln ν = m_ln μ ∧ m_R ν = m_R μ) ∧ ∀ b, (b < M ∨ M + 59 ≤ b) → ∀ j, m_I ν b j = m_I μ b j ∧ m_J ν b j = m_J μ b j := by
  obtain ⟨q1, q2, q3, q4, q5⟩ := h0
  rw [← hV] at hg
  obtain ⟨ν, a, b, ⟨c1, c2, c3, c4, c5⟩, d⟩ := h ν0 (hS.same q3 q4 q5) r τ hg
  exact ⟨ν, a, b, ⟨c1.trans q1, c2.trans q2, c3.trans q3, c4.trans q4, c5.trans q5⟩, fun b hb j => ⟨(d b hb j).1.trans (hfr b hb j).1, (d b hb j).2.trans (hfr b hb j).2⟩⟩
theorem sn_Vw_I {M k i : Nat} {μ : sn_Mem} {v : Int32} (hk1 : k < 64) (hk2 : md_kd k ≠ 0) : sn_Vw M (u_I μ (md_ad M k) i v) = (sn_up (sn_Vw M μ).1 k i v, (sn_Vw M μ).2) := by
  have hne := md_ad_in (M := M) hk1 hk2
  refine Prod.ext ?_ rfl
  funext k' i'
  show (if md_kd k' = 0 then sn_up (m_I μ) (md_ad M k) i v M k' else sn_up (m_I μ) (md_ad M k) i v (md_ad M k') i') = sn_up (sn_Vw M μ).1 k i v k' i'
  by_cases h0 : md_kd k' = 0
  · have hkk : k' ≠ k := fun e => hk2 (e ▸ h0)
    rw [if_pos h0, sn_up_ne _ _ _ _ (by omega), sn_up_ne _ _ _ _ hkk]
    simp only [sn_Vw, h0, if_true]
  · rw [if_neg h0]
    by_cases hkk : k' = k
    · subst hkk
      by_cases hi : i' = i
      · subst hi; rw [sn_up_same, sn_up_same]
      · rw [sn_up_nk _ _ _ _ hi, sn_up_nk _ _ _ _ hi]; simp only [sn_Vw, h0, if_false]
    · have hk64 : k' < 64 := by
        by_cases h : k' < 64
        · exact h
        · exact absurd (md_kd_out (by omega)) h0
      rw [sn_up_ne _ _ _ _ (fun e => hkk (md_ad_inj hk64 h0 hk1 hk2 e)), sn_up_ne _ _ _ _ hkk]
      simp only [sn_Vw, h0, if_false]
theorem sn_Vw_J {M k i : Nat} {μ : sn_Mem} {v : Int64} (hk1 : k < 64) (hk2 : md_kd k = 32) : sn_Vw M (u_J μ (md_ad M k) i v) = ((sn_Vw M μ).1, sn_up (sn_Vw M μ).2 k i v) := by
  refine Prod.ext rfl ?_
  funext k' i'
  show (if md_kd k' = 32 then sn_up (m_J μ) (md_ad M k) i v (md_ad M k') i' else 0) = sn_up (sn_Vw M μ).2 k i v k' i'
  by_cases hkk : k' = k
  · subst hkk
    rw [if_pos hk2]
    by_cases hi : i' = i
    · subst hi; rw [sn_up_same, sn_up_same]
    · rw [sn_up_nk _ _ _ _ hi, sn_up_nk _ _ _ _ hi]; simp only [sn_Vw, hk2, if_true]
  · rw [sn_up_ne _ _ _ _ hkk]
    by_cases h0 : md_kd k' = 32
    · have hk64 : k' < 64 := by
        by_cases h : k' < 64
        · exact h
        · have := md_kd_out (k := k') (by omega); omega
      rw [if_pos h0, sn_up_ne _ _ _ _ (fun e => hkk (md_ad_inj hk64 (by omega) hk1 (by omega) e))]
      simp only [sn_Vw, h0, if_true]
    · rw [if_neg h0]; simp only [sn_Vw, h0, if_false]
theorem sn_Vw_S {M k : Nat} {μ : sn_Mem} {v : Int32} (hk : md_kd k = 0) : sn_Vw M (u_I μ M k v) = (fun k' i => if k' = k then v else (sn_Vw M μ).1 k' i, (sn_Vw M μ).2) := by
  refine Prod.ext ?_ rfl
  funext k' i'
  show (if md_kd k' = 0 then sn_up (m_I μ) M k v M k' else sn_up (m_I μ) M k v (md_ad M k') i') = if k' = k then v else (sn_Vw M μ).1 k' i'
  by_cases hkk : k' = k
  · subst hkk; rw [if_pos hk, if_pos rfl, sn_up_same]
  · rw [if_neg hkk]
    by_cases h0 : md_kd k' = 0
    · rw [if_pos h0, sn_up_nk _ _ _ _ hkk]; simp only [sn_Vw, h0, if_true]
    · have hk64 : k' < 64 := by
        by_cases h : k' < 64
        · exact h
        · exact absurd (md_kd_out (by omega)) h0
      have hne := md_ad_in (M := M) hk64 h0
      rw [if_neg h0, sn_up_ne _ _ _ _ (by omega)]; simp only [sn_Vw, h0, if_false]
theorem sn_Lf.bI {M k kd : Nat} {i v : Int32} {F : sn_M} {G : sn_G} (hk : k < 64 ∧ md_kd k = kd ∧ kd ≠ 0) (h : sn_Lf M F G) : sn_Lf M (b_I kd (some (md_ad M k)) i v F) (w_I k i v G) := by
  intro μ hS r τ hg
  obtain ⟨hk1, rfl, hk2⟩ := hk
  obtain ⟨-, s1, s2⟩ := hS.2 k hk1 hk2
  have hne := md_ad_in (M := M) hk1 hk2
  by_cases hin : ¬ (i < 0 ∨ md_len k ≤ i.toNatClampNeg)
  · simp only [w_I, hin, if_true, not_false_eq_true] at hg
    have e : b_I (md_kd k) (some (md_ad M k)) i v F μ = F (u_I μ (md_ad M k) i.toNatClampNeg v) := by simp only [b_I, s1, s2, hin, if_true, not_false_eq_true, and_self]
    rw [e]
    exact h.put hS (sn_Vw_I hk1 hk2) ⟨rfl, rfl, rfl, rfl, rfl⟩ (fun b hb j => ⟨sn_up_ne _ _ _ _ (by omega), rfl⟩) hg
  · simp only [w_I, hin, if_false] at hg; cases hg
theorem sn_Lf.bZ {M k kd : Nat} {i v : Int32} {F : sn_M} {G : sn_G} (hk : k < 64 ∧ md_kd k = kd ∧ kd ≠ 0) (h : sn_Lf M F G) : sn_Lf M (b_Z kd (some (md_ad M k)) i v F) (w_Z k i v G) := by
  intro μ hS r τ hg
  obtain ⟨hk1, rfl, hk2⟩ := hk
  obtain ⟨-, s1, s2⟩ := hS.2 k hk1 hk2
  have hne := md_ad_in (M := M) hk1 hk2
  by_cases hin : ¬ (i < 0 ∨ md_len k ≤ i.toNatClampNeg) ∧ (v = 0 ∨ v = 1)
  · obtain ⟨hin, hv⟩ := hin
    simp only [w_Z, hin, hv, if_true, not_false_eq_true, and_self] at hg
    have e : b_Z (md_kd k) (some (md_ad M k)) i v F μ = F (u_I μ (md_ad M k) i.toNatClampNeg v) := by simp only [b_Z, s1, s2, hin, hv, if_true, not_false_eq_true, and_self]
    rw [e]
    exact h.put hS (sn_Vw_I hk1 hk2) ⟨rfl, rfl, rfl, rfl, rfl⟩ (fun b hb j => ⟨sn_up_ne _ _ _ _ (by omega), rfl⟩) hg
  · simp only [w_Z, hin, if_false] at hg; cases hg
theorem sn_Lf.bJ {M k kd : Nat} {i : Int32} {v : Int64} {F : sn_M} {G : sn_G} (hk : k < 64 ∧ md_kd k = kd ∧ kd = 32) (h : sn_Lf M F G) : sn_Lf M (b_J kd (some (md_ad M k)) i v F) (w_J k i v G) := by
  intro μ hS r τ hg
  obtain ⟨hk1, rfl, hk3⟩ := hk
  have hk2 : md_kd k ≠ 0 := by omega
  obtain ⟨-, s1, s2⟩ := hS.2 k hk1 hk2
  have hne := md_ad_in (M := M) hk1 hk2
  by_cases hin : ¬ (i < 0 ∨ md_len k ≤ i.toNatClampNeg)
  · simp only [w_J, hin, if_true, not_false_eq_true] at hg
    have e : b_J (md_kd k) (some (md_ad M k)) i v F μ = F (u_J μ (md_ad M k) i.toNatClampNeg v) := by simp only [b_J, s1, s2, hin, if_true, not_false_eq_true, and_self]
    rw [e]
    exact h.put hS (sn_Vw_J hk1 hk3) ⟨rfl, rfl, rfl, rfl, rfl⟩ (fun b hb j => ⟨rfl, sn_up_ne _ _ _ _ (by omega)⟩) hg
  · simp only [w_J, hin, if_false] at hg; cases hg
theorem sn_Lf.pS {M k : Nat} {v : Int32} {F : sn_M} {G : sn_G} (hk : md_kd k = 0) (h : sn_Lf M F G) : sn_Lf M (p_I 12 k (some M) v F) (w_S k v G) := by
  intro μ hS r τ hg
  have e : p_I 12 k (some M) v F μ = F (u_I μ M k v) := by simp only [p_I, hS.1, if_true]
  rw [e]
  exact h.put hS (sn_Vw_S hk) ⟨rfl, rfl, rfl, rfl, rfl⟩ (fun b hb j => ⟨sn_up_ne _ _ _ _ (by omega), rfl⟩) hg
/-- calls -/
theorem sn_Lf.cV {M : Nat} {f F : sn_M} {g G : sn_G} (h1 : sn_Lf M f g) (h2 : sn_Lf M F G) : sn_Lf M (c_V f F) (y_V g G) := by
  intro μ hS r τ hg
  unfold y_V at hg
  split at hg
  · rename_i σ1 hσ
    obtain ⟨ν, a, b, ⟨c1, c2, c3, c4, c5⟩, d⟩ := h1 μ hS _ _ hσ
    have e : c_V f F μ = F ν := by simp only [c_V, a]
    rw [e]
    exact h2.put hS b ⟨c1, c2, c3, c4, c5⟩ d hg
  · cases hg
theorem sn_Lf.cI {M : Nat} {f : sn_M} {F : Int32 → sn_M} {g : sn_G} {G : Int32 → sn_G} (h1 : sn_Lf M f g) (h2 : ∀ v, sn_Lf M (F v) (G v)) : sn_Lf M (c_I f F) (y_I g G) := by
  intro μ hS r τ hg
  unfold y_I at hg
  split at hg
  · rename_i v σ1 hσ
    obtain ⟨ν, a, b, ⟨c1, c2, c3, c4, c5⟩, d⟩ := h1 μ hS _ _ hσ
    have e : c_I f F μ = F v ν := by simp only [c_I, a]
    rw [e]
    exact (h2 v).put hS b ⟨c1, c2, c3, c4, c5⟩ d hg
  · cases hg
theorem sn_Lf.cJ {M : Nat} {f : sn_M} {F : Int64 → sn_M} {g : sn_G} {G : Int64 → sn_G} (h1 : sn_Lf M f g) (h2 : ∀ v, sn_Lf M (F v) (G v)) : sn_Lf M (c_J f F) (y_J g G) := by
  intro μ hS r τ hg
  unfold y_J at hg
  split at hg
  · rename_i v σ1 hσ
    obtain ⟨ν, a, b, ⟨c1, c2, c3, c4, c5⟩, d⟩ := h1 μ hS _ _ hσ
    have e : c_J f F μ = F v ν := by simp only [c_J, a]
    rw [e]
    exact (h2 v).put hS b ⟨c1, c2, c3, c4, c5⟩ d hg
  · cases hg
theorem sn_Lf.swN {M : Nat} {x : Int32} {d : sn_M} {d' : sn_G} (h : sn_Lf M d d') : sn_Lf M (sn_sw x [] [] d) (y_sw x [] [] d') := h
theorem sn_Lf.swC {M : Nat} {x k : Int32} {ks : List Int32} {f : sn_M} {fs : List sn_M} {g : sn_G} {gs : List sn_G} {d : sn_M} {d' : sn_G} (h1 : sn_Lf M f g) (h2 : sn_Lf M (sn_sw x ks fs d) (y_sw x ks gs d')) : sn_Lf M (sn_sw x (k :: ks) (f :: fs) d) (y_sw x (k :: ks) (g :: gs) d') := sn_Lf.ite h1 h2
