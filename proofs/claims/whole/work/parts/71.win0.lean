/-! LAYER 2: numbers and acknowledging -/
theorem y_ite {c : Prop} {d : Decidable c} {f g : sn_G} {σ : sn_FS} : (@ite sn_G c d f g) σ = @ite _ c d (f σ) (g σ) := by by_cases h : c <;> simp [h]
def fm (z : Int32) : Int32 := if 0 ≤ (z ^^^ 128) then z % 128 else if z % 128 = 0 then z % 128 else z % 128 + 128
theorem fl_floorMod (z : Int32) (κ : sn_Mem) : f_Ma_floorMod z 128 κ = some (some (.int (fm z)), κ) := by
  have o1 : ((128 : Int32) = 0) = False := eq_false (by decide)
  unfold fm
  simp only [f_Ma_floorMod, f_Ma_floorMod_18, n_D, o1, if_false, n_I, x_ite, r_I]
  split
  · rfl
  · split <;> rfl
theorem fm_nat : ∀ c, c < 512 → fm (nI c) = nI (c % 128) := by decide +kernel
theorem fm_neg : ∀ c, c < 256 → fm (0 - nI c) = nI ((256 - c) % 128) := by decide +kernel
theorem fm_sub {a b : Nat} (ha : a < 512) (hb : b < 256) : fm (nI a - nI b) = nI ((a + 256 - b) % 128) := by
  by_cases c : b ≤ a
  · rw [nI_sub c, fm_nat _ (by omega)]; congr 1; omega
  · have h1 : nI b = nI (b - a) + nI a := by rw [nI_add]; congr 1; omega
    have h2 : nI a - nI b = 0 - nI (b - a) := by rw [h1]; generalize nI (b - a) = u; generalize nI a = w; grind
    rw [h2, fm_neg _ (by omega)]; congr 1; omega
/-- how far a number is behind the first that is not acknowledged -/
def ahd (σ : sn_FS) (e t : Nat) : Nat := (t + 256 - (cl σ 12 e + 129 - cl σ 27 e) % 128) % 128
theorem gl_openAt_2 {σ : sn_FS} {e t o : Nat} (he : e < 20) (ht : t < 128) (ho : o ≤ 32) (h27 : σ.1 27 e = nI o) (hs : cl σ 12 e < 128) (hn : ∀ i, i < o → σ.1 26 (32 * e + i) = nI ((cl σ 12 e + 129 - o + i) % 128)) : ∀ (d fuel i : Nat), o - i = d → d < fuel → i ≤ o → g_Md_openAt_2 fuel (nI e) (nI t) (nI i) σ = some (some (.int (if i ≤ ahd σ e t ∧ ahd σ e t < o then nI (ahd σ e t) else -1)), σ)
  | 0, fuel + 1, i, hd, _, hi => by
    have d27 : e < md_len 27 := he
    have e1 : (nI o ≤ nI i) = True := eq_true (nI_le (by omega) (by omega))
    have hno : ¬ (i ≤ ahd σ e t ∧ ahd σ e t < o) := by omega
    simp only [g_Md_openAt_2, q_I_at d27, h27, e1, if_true, z_I, hno, if_false]
  | d + 1, fuel + 1, i, hd, hf, hi => by
    have d27 : e < md_len 27 := he
    have d26 : 32 * e + i < md_len 26 := by show _ < 640; omega
    have hlt : i < o := by omega
    have e1 : (nI o ≤ nI i) = False := eq_false (nI_ge hlt (by omega))
    have e2 : ((32 : Int32) * nI e) + nI i = nI (32 * e + i) := by
      have : (32 : Int32) * nI e = nI (32 * e) := pk_mul 32 e
      rw [this, nI_add]
    have hcl : cl σ 27 e = o := by unfold cl; rw [h27]; exact nI_clamp (by omega)
    have e3 : (nI ((cl σ 12 e + 129 - o + i) % 128) = nI t) ↔ i = ahd σ e t := by
      unfold ahd
      rw [hcl]
      rw [nI_eq (by omega) (by omega)]
      omega
    have ih := gl_openAt_2 he ht ho h27 hs hn d fuel (i + 1) (by omega) (by omega) (by omega)
    simp only [g_Md_openAt_2, q_I_at d27, h27, e1, if_false, e2, q_I_at d26, hn i hlt, e3]
    by_cases c : i = ahd σ e t
    · have hy : i ≤ ahd σ e t ∧ ahd σ e t < o := by omega
      rw [if_neg (fun q => q c), if_pos hy, ← c]; rfl
    · have hy : (i + 1 ≤ ahd σ e t ∧ ahd σ e t < o) ↔ (i ≤ ahd σ e t ∧ ahd σ e t < o) := by omega
      simp only [c, not_false_eq_true, if_true, nI_1, ih, hy]
def E0 (σ : sn_FS) (e : Nat) : Prop := (∃ v, v < 128 ∧ σ.1 12 e = nI v) ∧ ∃ o, o ≤ 32 ∧ σ.1 27 e = nI o ∧ (σ.1 21 e = -1 ∨ ∃ r, r < o ∧ σ.1 21 e = nI r) ∧ ∀ i, i < o → σ.1 26 (32 * e + i) = nI ((cl σ 12 e + 129 - o + i) % 128)
theorem E1.e0 {σ : sn_FS} {e : Nat} (h : E1 σ e) : E0 σ e := ⟨h.2.1, h.2.2.2.2.1⟩
theorem gl_openAt {σ : sn_FS} {e t : Nat} (he : e < 20) (ht : t < 128) (hE : E0 σ e) : g_Md_openAt (nI e) (nI t) σ = some (some (.int (if ahd σ e t < cl σ 27 e then nI (ahd σ e t) else -1)), σ) := by
  obtain ⟨⟨v, hv, ev⟩, o, b1, b2, b3, b4⟩ := hE
  have hcl : cl σ 27 e = o := by unfold cl; rw [b2]; exact nI_clamp (by omega)
  have hs : cl σ 12 e < 128 := by unfold cl; rw [ev, nI_clamp (by omega)]; exact hv
  have h := gl_openAt_2 he ht b1 b2 hs b4 o sn_fuel 0 (by omega) (by unfold sn_fuel; omega) (by omega)
  have hy : (0 ≤ ahd σ e t ∧ ahd σ e t < o) ↔ ahd σ e t < o := by omega
  simp only [hy] at h
  rw [hcl]
  exact h
/-- acknowledging n -/
def S_sh2 (e n j : Nat) (σ : sn_FS) : sn_FS := (fun k i => if k = 26 ∧ 32 * e ≤ i ∧ i < 32 * e + j then σ.1 26 (i + n) else σ.1 k i, fun k i => if k = 25 ∧ 32 * e ≤ i ∧ i < 32 * e + j then σ.2 25 (i + n) else σ.2 k i)
def ackR (o n : Nat) (v : Int32) : Int32 := if o = n then -1 else if v = -1 then -1 else nI (v.toNatClampNeg - n)
def S_ackn (e n : Nat) (σ : sn_FS) : sn_FS := sI (sI (S_sh2 e n (cl σ 27 e - n) σ) 27 e (nI (cl σ 27 e - n))) 21 e (ackR (cl σ 27 e) n (σ.1 21 e))
theorem sI_id {σ : sn_FS} {k i : Nat} {v : Int32} (h : σ.1 k i = v) : sI σ k i v = σ := by
  refine Prod.ext ?_ rfl
  funext a b
  show sn_up σ.1 k i v a b = σ.1 a b
  simp only [sn_upE]
  by_cases c1 : a = k
  · by_cases c2 : b = i
    · subst c1; subst c2; simp [h]
    · simp [c2]
  · simp [c1]
theorem S_sh2_step {e n j : Nat} (hn : 0 < n) (σ : sn_FS) : sI (sJ (S_sh2 e n j σ) 25 (32 * e + j) ((S_sh2 e n j σ).2 25 (32 * e + (j + n)))) 26 (32 * e + j) ((S_sh2 e n j σ).1 26 (32 * e + (j + n))) = S_sh2 e n (j + 1) σ := by
  have h1 : (S_sh2 e n j σ).2 25 (32 * e + (j + n)) = σ.2 25 (32 * e + j + n) := by
    simp only [S_sh2]; rw [if_neg (by omega), Nat.add_assoc]
  have h2 : (S_sh2 e n j σ).1 26 (32 * e + (j + n)) = σ.1 26 (32 * e + j + n) := by
    simp only [S_sh2]; rw [if_neg (by omega), Nat.add_assoc]
  rw [h1, h2]
  refine Prod.ext ?_ ?_
  · funext k i
    simp only [S_sh2, sn_upE]
    by_cases c1 : k = 26
    · by_cases c2 : i = 32 * e + j
      · subst c1; subst c2; rw [if_pos rfl, if_pos rfl, if_pos ⟨rfl, by omega, by omega⟩]
      · simp only [c1, c2, if_true, if_false, true_and]
        by_cases c3 : 32 * e ≤ i ∧ i < 32 * e + j
        · rw [if_pos c3, if_pos (by omega)]
        · rw [if_neg c3, if_neg (by omega)]
    · simp only [c1, if_false, false_and]
  · funext k i
    simp only [S_sh2, sn_upE]
    by_cases c1 : k = 25
    · by_cases c2 : i = 32 * e + j
      · subst c1; subst c2; rw [if_pos rfl, if_pos rfl, if_pos ⟨rfl, by omega, by omega⟩]
      · simp only [c1, c2, if_true, if_false, true_and]
        by_cases c3 : 32 * e ≤ i ∧ i < 32 * e + j
        · rw [if_pos c3, if_pos (by omega)]
        · rw [if_neg c3, if_neg (by omega)]
    · simp only [c1, if_false, false_and]
theorem S_sh2_I {e n j k i : Nat} {σ : sn_FS} (h : k ≠ 26) : (S_sh2 e n j σ).1 k i = σ.1 k i := by
  simp only [S_sh2]; rw [if_neg (fun q => h q.1)]
theorem gl_acknowledge_2 {σ : sn_FS} {e n o : Nat} (he : e < 20) (hn : 0 < n) (ho : o ≤ 32) (hno : n ≤ o) (h27 : σ.1 27 e = nI o) (h21 : σ.1 21 e = -1 ∨ ∃ r, r < o ∧ σ.1 21 e = nI r) : ∀ (d fuel j : Nat), o - n - j = d → d < fuel → j ≤ o - n → g_Md_acknowledge_2 fuel (nI e) (nI n) (nI (j + n)) (S_sh2 e n j σ) = some (none, S_ackn e n σ)
  | 0, fuel + 1, j, hd, _, hj => by
    have hcl : cl σ 27 e = o := by unfold cl; rw [h27]; exact nI_clamp (by omega)
    have d27 : e < md_len 27 := he
    have d21 : e < md_len 21 := he
    have hjo : j = o - n := by omega
    subst hjo
    have e0 : (S_sh2 e n (o - n) σ).1 27 e = nI o := by rw [S_sh2_I (by decide)]; exact h27
    have e21 : (S_sh2 e n (o - n) σ).1 21 e = σ.1 21 e := S_sh2_I (by decide)
    have e1 : (nI o ≤ nI (o - n + n)) = True := eq_true (nI_le (by omega) (by omega))
    have eS : S_ackn e n σ = sI (sI (S_sh2 e n (o - n) σ) 27 e (nI (o - n))) 21 e (ackR o n (σ.1 21 e)) := by unfold S_ackn; rw [hcl]
    rw [eS]
    generalize hτ : S_sh2 e n (o - n) σ = τ at e0 e21
    have key : ∀ (v : Int32), g_Md_acknowledge_114 (nI e) (sI (sI τ 27 e (nI (o - n))) 21 e v) = some (none, sI (sI τ 27 e (nI (o - n))) 21 e (if v < nI (o - n) then v else -1)) := by
      intro v
      simp only [g_Md_acknowledge_114, q_I_at d21, q_I_at d27, sn_upE, Nat.reduceEqDiff, reduceIte, g_Md_acknowledge_136]
      by_cases c : v < nI (o - n)
      · simp only [c, if_true, z_V]
      · simp only [c, if_false, w_I_at d21, z_V, sI_sI]
    have q27 : sn_up τ.1 27 e (nI (o - n)) 27 e = nI (o - n) := sn_up_same _ _ _ _
    have q21 : sn_up τ.1 27 e (nI (o - n)) 21 e = τ.1 21 e := sn_up_ne _ _ _ _ (by decide)
    simp only [g_Md_acknowledge_2, q_I_at d27, e0, e1, if_true, w_I_at d27, nI_sub hno, q_I_at d21, q21, e21, g_Md_acknowledge_113, w_I_at d21, y_ite]
    rcases h21 with q | ⟨r, hr, q⟩
    · have k0 := key (-1)
      have : sI (sI τ 27 e (nI (o - n))) 21 e (-1) = sI τ 27 e (nI (o - n)) := sI_id (by rw [sI_ne (by decide), e21, q])
      rw [this] at k0
      have hlt : ((-1 : Int32) < nI (o - n)) = True := eq_true (by
        rw [Int32.lt_iff_toInt_lt, nI_toInt (by omega)]
        have : ((-1 : Int32)).toInt = -1 := by decide
        omega)
      simp only [hlt, if_true] at k0
      rw [this] at k0
      have hr : ackR o n (-1) = -1 := by unfold ackR; split <;> simp
      rw [q, hr, this]
      simp only [if_true]
      exact k0
    · have c1 : (nI r = (-1 : Int32)) = False := eq_false (nI_m1 (by omega))
      have c2 : (nI r ≤ nI n) ↔ r ≤ n := nI_leI (by omega) (by omega)
      have hcr : (nI r).toNatClampNeg = r := nI_clamp (by omega)
      rw [q]
      simp only [c1, if_false, c2]
      have hfin : ∀ v, v = nI (r - n) → (if v < nI (o - n) then v else -1) = ackR o n (nI r) := by
        intro v hv
        subst hv
        unfold ackR
        rw [hcr]
        by_cases c : o = n
        · have hz : nI (o - n) = 0 := by rw [c, Nat.sub_self]; rfl
          have : ¬ nI (r - n) < nI (o - n) := by rw [hz]; exact nI_pos (by omega)
          rw [if_neg this, if_pos c]
        · have : nI (r - n) < nI (o - n) := (nI_ltI (by omega) (by omega)).mpr (by omega)
          simp [c, this, c1]
      by_cases c3 : r ≤ n
      · simp only [c3, if_true]
        rw [key 0, hfin 0 (by rw [show r - n = 0 by omega]; rfl)]
      · simp only [c3, if_false, nI_sub (show n ≤ r by omega)]
        rw [key _, hfin _ rfl]
  | d + 1, fuel + 1, j, hd, hf, hj => by
    have d27 : e < md_len 27 := he
    have d25 : 32 * e + (j + n) < md_len 25 := by show _ < 640; omega
    have d26 : 32 * e + (j + n) < md_len 26 := by show _ < 640; omega
    have d25' : 32 * e + j < md_len 25 := by show _ < 640; omega
    have d26' : 32 * e + j < md_len 26 := by show _ < 640; omega
    have e0 : (S_sh2 e n j σ).1 27 e = nI o := by rw [S_sh2_I (by decide)]; exact h27
    have e1 : (nI o ≤ nI (j + n)) = False := eq_false (nI_ge (by omega) (by omega))
    have e2 : ((32 : Int32) * nI e) + nI (j + n) = nI (32 * e + (j + n)) := by
      have : (32 : Int32) * nI e = nI (32 * e) := pk_mul 32 e
      rw [this, nI_add]
    have e3 : nI (32 * e + (j + n)) - nI n = nI (32 * e + j) := by rw [nI_sub (by omega)]; congr 1; omega
    have ih := gl_acknowledge_2 he hn ho hno h27 h21 d fuel (j + 1) (by omega) (by omega) (by omega)
    rw [← S_sh2_step hn σ] at ih
    simp only [g_Md_acknowledge_2, q_I_at d27, e0, e1, if_false, e2, q_J_at d25, e3, w_J_at d25', q_I_at d26, w_I_at d26', nI_1]
    rw [show j + n + 1 = j + 1 + n by omega]
    exact ih
theorem gl_acknowledge {σ : sn_FS} {e n : Nat} (he : e < 20) (hE : E0 σ e) (hn : 0 < n) (hno : n ≤ cl σ 27 e) : g_Md_acknowledge (nI e) (nI n) σ = some (none, S_ackn e n σ) := by
  obtain ⟨-, o, b1, b2, b3, b4⟩ := hE
  have hcl : cl σ 27 e = o := by unfold cl; rw [b2]; exact nI_clamp (by omega)
  rw [hcl] at hno
  have h := gl_acknowledge_2 he hn b1 hno b2 b3 (o - n) sn_fuel 0 (by omega) (by unfold sn_fuel; omega) (by omega)
  have h0 : S_sh2 e n 0 σ = σ := by
    refine Prod.ext ?_ ?_
    · funext k i; simp only [S_sh2]; rw [if_neg (by omega)]
    · funext k i; simp only [S_sh2]; rw [if_neg (by omega)]
  rw [h0, Nat.zero_add] at h
  exact h
