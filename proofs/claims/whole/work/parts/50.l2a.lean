/-! LAYER 2: numbers and places -/
theorem md_len_le : ∀ k, md_len k ≤ 9216 := by
  intro k
  by_cases h : k < 64
  · have : ∀ k, k < 64 → md_len k ≤ 9216 := by decide +kernel
    exact this k h
  · have e : md_lens.length = 64 := by decide
    simp [md_len, List.getD_eq_getElem?_getD, List.getElem?_eq_none (by omega : md_lens.length ≤ k)]
theorem ix_in {k i : Nat} (h : i < md_len k) : ¬ (nI i < 0 ∨ md_len k ≤ (nI i).toNatClampNeg) := by
  have := md_len_le k
  exact nI_in h (by omega)
theorem ix_cl {k i : Nat} (h : i < md_len k) : (nI i).toNatClampNeg = i := by
  have := md_len_le k
  exact nI_clamp (by omega)
theorem q_I_at {k i : Nat} {K : Int32 → sn_G} {σ : sn_FS} (h : i < md_len k) : q_I k (nI i) K σ = K (σ.1 k i) σ := by
  unfold q_I
  rw [if_pos (ix_in h), ix_cl h]
theorem q_J_at {k i : Nat} {K : Int64 → sn_G} {σ : sn_FS} (h : i < md_len k) : q_J k (nI i) K σ = K (σ.2 k i) σ := by
  unfold q_J
  rw [if_pos (ix_in h), ix_cl h]
abbrev sI (σ : sn_FS) (k i : Nat) (v : Int32) : sn_FS := (sn_up σ.1 k i v, σ.2)
abbrev sJ (σ : sn_FS) (k i : Nat) (v : Int64) : sn_FS := (σ.1, sn_up σ.2 k i v)
abbrev sS (σ : sn_FS) (k : Nat) (v : Int32) : sn_FS := (fun k' i => if k' = k then v else σ.1 k' i, σ.2)
theorem w_I_at {k i : Nat} {v : Int32} {K : sn_G} {σ : sn_FS} (h : i < md_len k) : w_I k (nI i) v K σ = K (sI σ k i v) := by
  unfold w_I
  rw [if_pos (ix_in h), ix_cl h]
theorem w_J_at {k i : Nat} {v : Int64} {K : sn_G} {σ : sn_FS} (h : i < md_len k) : w_J k (nI i) v K σ = K (sJ σ k i v) := by
  unfold w_J
  rw [if_pos (ix_in h), ix_cl h]
theorem w_Z_at {k i : Nat} {v : Int32} {K : sn_G} {σ : sn_FS} (h : i < md_len k) (hv : v = 0 ∨ v = 1) : w_Z k (nI i) v K σ = K (sI σ k i v) := by
  unfold w_Z
  rw [if_pos ⟨ix_in h, hv⟩, ix_cl h]
theorem y_I_at {f : sn_G} {K : Int32 → sn_G} {σ τ : sn_FS} {v : Int32} (h : f σ = some (some (.int v), τ)) : y_I f K σ = K v τ := by simp only [y_I, h]
theorem y_J_at {f : sn_G} {K : Int64 → sn_G} {σ τ : sn_FS} {v : Int64} (h : f σ = some (some (.long v), τ)) : y_J f K σ = K v τ := by simp only [y_J, h]
theorem y_V_at {f K : sn_G} {σ τ : sn_FS} (h : f σ = some (none, τ)) : y_V f K σ = K τ := by simp only [y_V, h]
/-- small numbers -/
theorem nI_inj {a b : Nat} (ha : a < 2 ^ 31) (hb : b < 2 ^ 31) (h : nI a = nI b) : a = b := (nI_eq ha hb).mp h
theorem nI_m1 {a : Nat} (ha : a < 2 ^ 31) : ¬ nI a = -1 := fun h => by
  have h1 := nI_toInt ha
  rw [h] at h1
  have : ((-1 : Int32)).toInt = -1 := by decide
  omega
theorem nI_mod {a d : Nat} (ha : a < 2 ^ 31) (h0 : 0 < d) (hd : d < 2 ^ 31) : nI a % nI d = nI (a % d) := by
  rw [← irem_eq_mod]; exact pk_rem ha h0 hd
theorem nI_half {e : Nat} (h : e < 2 ^ 31) : nI e >>> ((1 : Int32) &&& 31) = nI (e / 2) := by
  have h1 : (((1 : Int32) &&& 31).toBitVec.smod 32).toNat = 1 := by decide
  have h2 := pk_shrN h ((1 : Int32) &&& 31) 1 h1
  simpa using h2
theorem nI_odd (e : Nat) (h : e < 2 ^ 32) : nI e &&& (1 : Int32) = nI (e % 2) := by
  have h1 : (1 : Int32).toBitVec.toNat = 2 ^ 1 - 1 := by decide
  have h2 := pk_andN h (m := 1) 1 h1
  simpa using h2
/-- links -/
def nl (σ : sn_FS) : Nat := (σ.1 4 0).toNatClampNeg
def lo (σ : sn_FS) (l : Nat) : Nat := (σ.1 0 l).toNatClampNeg
def hi (σ : sn_FS) (l : Nat) : Nat := (σ.1 1 l).toNatClampNeg
def PlanOk (σ : sn_FS) : Prop := σ.1 4 0 = nI (nl σ) ∧ nl σ ≤ 10 ∧ ∀ l, l < nl σ → σ.1 0 l = nI (lo σ l) ∧ σ.1 1 l = nI (hi σ l) ∧ lo σ l < hi σ l ∧ hi σ l < 6
def isof (σ : sn_FS) (l a b : Nat) : Bool := decide (lo σ l = min a b) && decide (hi σ l = max a b)
theorem gl_isOf {σ : sn_FS} (h : PlanOk σ) {l a b : Nat} (hl : l < nl σ) (ha : a < 6) (hb : b < 6) : g_Md_isOf (nI l) (nI a) (nI b) σ = some (some (.int (if isof σ l a b then 1 else 0)), σ) := by
  obtain ⟨-, hn, hp⟩ := h
  obtain ⟨p1, p2, p3, p4⟩ := hp l hl
  have e0 : ∀ (x y : Nat), x < 6 → y < 6 → (nI x = nI y ↔ x = y) := fun x y hx hy => nI_eq (by omega) (by omega)
  have e1 : nI b ≤ nI a ↔ b ≤ a := nI_leI (by omega) (by omega)
  have d0 : l < md_len 0 := by show l < 10; omega
  have d1 : l < md_len 1 := by show l < 10; omega
  simp only [g_Md_isOf, g_Md_isOf_16, g_Md_isOf_35, g_Md_isOf_42, g_Md_isOf_43, q_I_at d0, p1, e1]
  by_cases hba : b ≤ a
  · simp only [hba, if_true, e0 _ _ (by omega : lo σ l < 6) hb]
    by_cases h1 : lo σ l = b
    · simp only [h1, not_true_eq_false, if_false, q_I_at d1, p2, e0 _ _ p4 ha]
      by_cases h2 : hi σ l = a
      · simp [h2, isof, h1, z_Z, Nat.min_eq_right hba, Nat.max_eq_left hba]
      · simp [h2, isof, h1, z_Z, Nat.min_eq_right hba, Nat.max_eq_left hba]
    · simp [h1, isof, z_Z, Nat.min_eq_right hba]
  · simp only [hba, if_false, e0 _ _ (by omega : lo σ l < 6) ha]
    by_cases h1 : lo σ l = a
    · simp only [h1, not_true_eq_false, if_false, q_I_at d1, p2, e0 _ _ p4 hb]
      by_cases h2 : hi σ l = b
      · simp [h2, isof, h1, z_Z, Nat.min_eq_left (Nat.le_of_lt (Nat.not_le.mp hba)), Nat.max_eq_right (Nat.le_of_lt (Nat.not_le.mp hba))]
      · simp [h2, isof, h1, z_Z, Nat.min_eq_left (Nat.le_of_lt (Nat.not_le.mp hba)), Nat.max_eq_right (Nat.le_of_lt (Nat.not_le.mp hba))]
    · simp [h1, isof, z_Z, Nat.min_eq_left (Nat.le_of_lt (Nat.not_le.mp hba))]
/-- the links of a set from the i-th on, in order -/
def setFrom (σ : sn_FS) (a b : Nat) (i : Nat) : List Nat := (List.range' i (nl σ - i)).filter (fun l => isof σ l a b)
def setOf (σ : sn_FS) (a b : Nat) : List Nat := setFrom σ a b 0
theorem setFrom_end {σ : sn_FS} {a b i : Nat} (h : nl σ ≤ i) : setFrom σ a b i = [] := by
  have : nl σ - i = 0 := by omega
  simp [setFrom, this]
theorem setFrom_step {σ : sn_FS} {a b i : Nat} (h : i < nl σ) : setFrom σ a b i = if isof σ i a b then i :: setFrom σ a b (i + 1) else setFrom σ a b (i + 1) := by
  have e : nl σ - i = (nl σ - (i + 1)) + 1 := by omega
  simp only [setFrom, e, List.range'_succ, List.filter_cons]
theorem gl_setSize_5 {σ : sn_FS} (h : PlanOk σ) {a b : Nat} (ha : a < 6) (hb : b < 6) : ∀ (d fuel i acc : Nat), nl σ - i = d → d < fuel → i ≤ nl σ → acc ≤ i → g_Md_setSize_5 fuel (nI a) (nI b) (nI acc) (nI i) σ = some (some (.int (nI (acc + (setFrom σ a b i).length))), σ)
  | 0, fuel + 1, i, acc, hd, _, hi, hacc => by
    have hn := h.2.1
    have e1 : (nI (nl σ) ≤ nI i) = True := eq_true (nI_le (by omega) (by omega))
    simp only [g_Md_setSize_5, q_S, h.1, e1, if_true, z_I, setFrom_end (by omega : nl σ ≤ i), List.length_nil, Nat.add_zero]
  | d + 1, fuel + 1, i, acc, hd, hf, hi, hacc => by
    have hn := h.2.1
    have hlt : i < nl σ := by omega
    have e1 : (nI (nl σ) ≤ nI i) = False := eq_false (nI_ge hlt (by omega))
    simp only [g_Md_setSize_5, q_S, h.1, e1, if_false, y_I_at (gl_isOf h hlt ha hb)]
    rw [setFrom_step hlt]
    by_cases hs : isof σ i a b
    · have ih := gl_setSize_5 h ha hb d fuel (i + 1) (acc + 1) (by omega) (by omega) (by omega) (by omega)
      have e2 : ((1 : Int32) = 0) = False := eq_false (by decide)
      simp only [hs, if_true, e2, if_false, g_Md_setSize_31, y_nI, nI_1, ih, List.length_cons]
      congr 5; omega
    · have ih := gl_setSize_5 h ha hb d fuel (i + 1) acc (by omega) (by omega) (by omega) (by omega)
      have e3 : nI acc + (0 : Int32) = nI acc := nI_add acc 0
      simp only [hs, if_false, if_true, g_Md_setSize_31, y_nI, nI_1, e3]
      simpa using ih
theorem gl_setSize {σ : sn_FS} (h : PlanOk σ) {a b : Nat} (ha : a < 6) (hb : b < 6) : g_Md_setSize (nI a) (nI b) σ = some (some (.int (nI (setOf σ a b).length)), σ) := by
  have hn := h.2.1
  have := gl_setSize_5 h ha hb (nl σ) sn_fuel 0 0 (by omega) (by unfold sn_fuel; omega) (by omega) (by omega)
  rw [Nat.zero_add] at this
  exact this
