/-! LAYER 2: treating a unit -/
def wiL : List Nat := [0, 1, 4, 10, 12, 13, 16, 17, 20, 21, 22, 24, 26, 27, 29, 30, 31, 33, 37, 40, 41, 42, 43, 44, 45, 47, 50, 51]
theorem WI.mk' {σ τ : sn_FS} (hw : WI σ) (g : ∀ k i, k ∈ wiL → τ.1 k i = σ.1 k i) : WI τ := by
  obtain ⟨w1, w2, w3, w4, w5, w6, w7⟩ := hw
  have hs : SP σ τ := ⟨fun i => g _ _ (by decide), fun i => g _ _ (by decide), fun i => g _ _ (by decide)⟩
  refine ⟨hs.plan w1, fun e he => by rw [g _ _ (by decide)]; exact w2 e he, fun f hf => by rw [g _ _ (by decide)]; exact w3 f hf, w4.mk' (fun i => g _ _ (by decide)) (fun i => g _ _ (by decide)), fun f hf => by rw [g _ _ (by decide)]; exact w5 f hf, fun e he => ?_, fun x n s hx hn hs4 => ?_⟩
  · obtain ⟨a1, a2, a3, a4, a5, a6, a7, a8, a9, a10, a11, a12, a13, a14⟩ := w6 e he
    unfold E1 cl
    rw [g 10 _ (by decide), g 12 _ (by decide), g 13 _ (by decide), g 37 _ (by decide), g 27 _ (by decide), g 21 _ (by decide), g 20 _ (by decide), g 40 _ (by decide), g 29 _ (by decide), g 16 _ (by decide), g 17 _ (by decide), g 22 _ (by decide), g 30 _ (by decide), g 31 _ (by decide), g 33 _ (by decide), g 24 _ (by decide)]
    refine ⟨a1, a2, a3, a4, ?_, a6, a7, a8, a9, a10, a11, a12, a13, a14⟩
    obtain ⟨o, b1, b2, b3, b4⟩ := a5
    exact ⟨o, b1, b2, b3, fun i hi => by rw [g 26 _ (by decide)]; exact b4 i hi⟩
  · obtain ⟨a1, a2⟩ := w7 x n s hx hn hs4
    unfold F1
    rw [g 41 _ (by decide), g 42 _ (by decide), g 43 _ (by decide), g 44 _ (by decide), g 47 _ (by decide), hs.nlE, hs.isofE, hs.enE]
    refine ⟨?_, a2⟩
    rcases a1 with q | ⟨l, b1, b2, b3, b4⟩
    · exact Or.inl q
    · exact Or.inr ⟨l, b1, b2, b3, by rw [g _ _ (by decide)]; exact b4⟩
theorem WI.mI {σ : sn_FS} (hw : WI σ) {k i : Nat} {v : Int32} (hk : k ∉ wiL) : WI (sI σ k i v) := hw.mk' (fun k' i' h => sI_ne (fun (e : k' = k) => hk (e ▸ h)))
theorem WI.mS {σ : sn_FS} (hw : WI σ) {k : Nat} {v : Int32} (hk : k ∉ wiL) : WI (sS σ k v) := hw.mk' (fun k' i' h => if_neg (fun (e : k' = k) => hk (e ▸ h)))
theorem WI.mJ {σ : sn_FS} (hw : WI σ) {k i : Nat} {v : Int64} : WI (sJ σ k i v) := hw.mk' (fun k' i' h => rfl)
/-- fields of one end, one by one -/
theorem WI.e21 {σ : sn_FS} (hw : WI σ) {e : Nat} (he : e < 20) (h5 : σ.1 10 e = 5) {v : Int32} (hv : v = -1 ∨ ∃ r, r < cl σ 27 e ∧ v = nI r) : WI (sI σ 21 e v) := by
  refine hw.mkE he (fun k i hk => sI_ne (by omega)) (fun k i hi _ => sI_nk hi) (fun e' i _ _ => sI_ne (by decide)) ?_ (by rw [sI_ne (by decide)]; exact hw.2.1 e he) (fun _ => Or.inl (by rw [sI_ne (by decide)]; exact h5))
  obtain ⟨a1, a2, a3, a4, ⟨o, b1, b2, b3, b4⟩, a6, a7, a8, a9, a10, a11, a12, a13, a14⟩ := hw.e1 he
  rw [cl_n b2 (by omega)] at hv
  unfold E1 cl
  simp only [sn_upE, Nat.reduceEqDiff, reduceIte]
  exact ⟨a1, a2, a3, a4, ⟨o, b1, b2, hv, b4⟩, fun q => absurd h5 q, a7, a8, a9, a10, a11, a12, a13, a14⟩
theorem WI.e13 {σ : sn_FS} (hw : WI σ) {e : Nat} (he : e < 20) {v : Nat} (hv : v < 128) : WI (sI σ 13 e (nI v)) := by
  refine hw.mkE he (fun k i hk => sI_ne (by omega)) (fun k i hi _ => sI_nk hi) (fun e' i _ _ => sI_ne (by decide)) ?_ (by rw [sI_ne (by decide)]; exact hw.2.1 e he) (fun q => Or.inl (by rw [sI_ne (by decide)]; exact q))
  obtain ⟨a1, a2, a3, a4, a5, a6, a7, a8, a9, a10, a11, a12, a13, a14⟩ := hw.e1 he
  unfold E1 cl
  simp only [sn_upE, Nat.reduceEqDiff, reduceIte]
  exact ⟨a1, a2, ⟨v, hv, rfl⟩, a4, a5, a6, a7, a8, a9, a10, a11, a12, a13, a14⟩
def eo (e : Nat) : Nat := if e % 2 = 0 then e + 1 else e - 1
theorem xor1 : ∀ e, e < 20 → nI e ^^^ (1 : Int32) = nI (eo e) := by decide +kernel
theorem eo_lt {e m : Nat} (h : e < 2 * m) : eo e < 2 * m := by unfold eo; split <;> omega
theorem eo_ne {e : Nat} : eo e ≠ e := by unfold eo; split <;> omega
theorem eo_half {e : Nat} : eo e / 2 = e / 2 := by unfold eo; split <;> omega
def S_tb (e o : Nat) (σ : sn_FS) : sn_FS := if σ.1 34 o = σ.1 14 e then σ else sI (sI σ 14 e (σ.1 34 o)) 21 e (if σ.1 27 e ≤ 0 then -1 else 0)
def S_tk (e o : Nat) (σ : sn_FS) : sn_FS × Bool := if σ.1 32 o = σ.1 15 e then (if σ.1 30 o = 5 ∧ σ.1 31 o = (σ.1 13 e + 1) &&& 127 then (sI σ 13 e (σ.1 31 o), true) else if σ.1 31 o = σ.1 13 e then (σ, false) else (sI σ 15 e (1 - σ.1 15 e), false)) else (σ, false)
def S_treat0 (e : Nat) (σ : sn_FS) : sn_FS × Bool := S_tk e (eo e) (S_tb e (eo e) (S_ackT e (cl σ 33 (eo e)) σ))
theorem S_tb_I {e o k i : Nat} (σ : sn_FS) (h : k ≠ 14 ∧ k ≠ 21) : (S_tb e o σ).1 k i = σ.1 k i := by
  unfold S_tb
  split
  · rfl
  · rw [sI_ne h.2, sI_ne h.1]
theorem S_tb_SP {e o : Nat} (σ : sn_FS) : SP σ (S_tb e o σ) := ⟨fun i => S_tb_I σ (by decide), fun i => S_tb_I σ (by decide), fun i => S_tb_I σ (by decide)⟩
theorem S_tk_I {e o k i : Nat} (σ : sn_FS) (h : k ≠ 13 ∧ k ≠ 15) : (S_tk e o σ).1.1 k i = σ.1 k i := by
  unfold S_tk
  split
  · split
    · exact sI_ne h.1
    · split
      · rfl
      · exact sI_ne h.2
  · rfl
theorem S_treat0_I {e k i : Nat} (σ : sn_FS) (h : k ∉ [13, 14, 15, 20, 21, 26, 27]) : (S_treat0 e σ).1.1 k i = σ.1 k i := by
  simp only [List.mem_cons, List.not_mem_nil, or_false, not_or] at h
  unfold S_treat0
  rw [S_tk_I _ (by omega), S_tb_I _ (by omega), S_ackT_I _ (by omega)]
theorem S_treat0_SP {e : Nat} (σ : sn_FS) : SP σ (S_treat0 e σ).1 := ⟨fun i => S_treat0_I σ (by decide), fun i => S_treat0_I σ (by decide), fun i => S_treat0_I σ (by decide)⟩
theorem WI_tb {σ : sn_FS} (hw : WI σ) {e o : Nat} (he : e < 20) (h5 : σ.1 10 e = 5) : WI (S_tb e o σ) := by
  unfold S_tb
  split
  · exact hw
  · have h1 : WI (sI σ 14 e (σ.1 34 o)) := hw.mI (by decide)
    refine h1.e21 he (by rw [sI_ne (by decide)]; exact h5) ?_
    obtain ⟨p, b1, b2, b3, b4⟩ := (hw.e1 he).2.2.2.2.1
    have hc : cl (sI σ 14 e (σ.1 34 o)) 27 e = p := by unfold cl; rw [sI_ne (by decide), b2]; exact nI_clamp (by omega)
    rw [hc, b2]
    have : (nI p ≤ 0) ↔ p ≤ 0 := nI_leI (b := 0) (by omega) (by omega)
    by_cases c : p ≤ 0
    · rw [if_pos (this.mpr c)]; exact Or.inl rfl
    · rw [if_neg (fun q => c (this.mp q))]; exact Or.inr ⟨0, by omega, rfl⟩
theorem WI_tk {σ : sn_FS} (hw : WI σ) {e o : Nat} (he : e < 20) (ho : o < 20) : WI (S_tk e o σ).1 := by
  unfold S_tk
  split
  · split
    · obtain ⟨v, hv, ev⟩ := (hw.e1 ho).2.2.2.2.2.2.2.2.2.2.2.1
      rw [ev]; exact hw.e13 he hv
    · split
      · exact hw
      · exact hw.mI (by decide)
  · exact hw
theorem WI_treat0 {σ : sn_FS} (hw : WI σ) {e : Nat} (he : e < 20) (h5 : σ.1 10 e = 5) : WI (S_treat0 e σ).1 := by
  unfold S_treat0
  exact WI_tk (WI_tb (WI_ackT hw he h5) he (by rw [S_ackT_I σ (by decide)]; exact h5)) he (eo_lt (m := 10) he)
theorem and127 {v : Nat} (h : v < 2 ^ 31) : (nI v + 1) &&& (127 : Int32) = nI ((v + 1) % 128) := by
  rw [nI_1]
  exact pk_andN (by omega) (m := 127) 7 (by decide)
theorem rem128 {v : Nat} (h : v < 2 ^ 30) : (nI v + 1) % (128 : Int32) = nI ((v + 1) % 128) := by
  rw [nI_1]
  exact nI_mod (d := 128) (by omega) (by omega) (by omega)
/-- the reference's treating, up to the getting -/
theorem gl_treat_102 {σ : sn_FS} (hP : PlanOk σ) {e : Nat} (he : e < 2 * nl σ) : ((S_tk e (eo e) σ).2 = false → g_Md_treat_102 (nI e) (nI (eo e)) σ = some (none, (S_tk e (eo e) σ).1)) ∧ ((S_tk e (eo e) σ).2 = true → ∀ τ, g_Md_get (nI (ex σ e)) (σ.2 35 (eo e)) (S_tk e (eo e) σ).1 = some (none, τ) → g_Md_treat_102 (nI e) (nI (eo e)) σ = some (none, τ)) := by
  have hn10 := hP.2.1
  have he20 : e < 20 := by omega
  have ho20 : eo e < 20 := eo_lt (m := 10) he20
  have d13 : e < md_len 13 := he20
  have d15 : e < md_len 15 := he20
  have d30 : eo e < md_len 30 := ho20
  have d31 : eo e < md_len 31 := ho20
  have d32 : eo e < md_len 32 := ho20
  have d35 : eo e < md_len 35 := ho20
  have hs2 : SP σ (sI σ 13 e (σ.1 31 (eo e))) := SP.sI (by decide)
  have hex := gl_exchangeOf (hs2.plan hP) (e := e) (by rw [hs2.nlE]; exact he)
  rw [hs2.exE] at hex
  unfold S_tk
  simp only [g_Md_treat_102, q_I_at d32, q_I_at d15, y_ite, q_I_at d30, q_I_at d31, q_I_at d13, g_Md_treat_178, g_Md_treat_207, w_I_at d15, w_I_at d13, y_I_at hex, q_J_at d35]
  by_cases c1 : σ.1 32 (eo e) = σ.1 15 e
  · by_cases c2 : σ.1 30 (eo e) = 5
    · by_cases c3 : σ.1 31 (eo e) = (σ.1 13 e + 1) &&& 127
      · simp only [c1, c2, c3, if_true, not_true_eq_false, if_false, and_self]
        refine ⟨fun q => by simp at q, fun _ τ h => ?_⟩
        rw [y_V_at h]; rfl
      · simp only [c1, c2, c3, if_true, not_true_eq_false, if_false, and_false, not_false_eq_true]
        by_cases c4 : σ.1 31 (eo e) = σ.1 13 e
        · simp [c4, z_V]
        · simp [c4, z_V]
    · simp only [c1, c2, if_true, if_false, false_and, not_false_eq_true]
      by_cases c4 : σ.1 31 (eo e) = σ.1 13 e
      · simp [c4, z_V]
      · simp [c4, z_V]
  · simp [c1, z_V]
theorem gl_treat {σ : sn_FS} (hw : WI σ) {e : Nat} (he : e < 2 * nl σ) : ((S_treat0 e σ).2 = false → g_Md_treat (nI e) σ = some (none, (S_treat0 e σ).1)) ∧ ((S_treat0 e σ).2 = true → ∀ τ, g_Md_get (nI (ex σ e)) (σ.2 35 (eo e)) (S_treat0 e σ).1 = some (none, τ) → g_Md_treat (nI e) σ = some (none, τ)) := by
  have hn10 := hw.1.2.1
  have he20 : e < 20 := by omega
  have ho20 : eo e < 20 := eo_lt (m := 10) he20
  obtain ⟨t, ht, et⟩ := (hw.e1 ho20).2.2.2.2.2.2.2.2.2.2.2.2.1
  have hct := cl_n et (show t < 2 ^ 31 by omega)
  have hE := hw.e1 he20
  have d33 : eo e < md_len 33 := ho20
  have d34 : eo e < md_len 34 := ho20
  have d14 : e < md_len 14 := he20
  have d27 : e < md_len 27 := he20
  have d20 : e < md_len 20 := he20
  have d21 : e < md_len 21 := he20
  have hop := gl_openAt he20 ht hE.e0
  obtain ⟨o, b1, b2, b3, b4⟩ := hE.2.2.2.2.1
  have hcl := cl_n b2 (show o < 2 ^ 31 by omega)
  have h55 : ∀ τ : sn_FS, g_Md_treat_55 (nI e) (nI (eo e)) τ = g_Md_treat_102 (nI e) (nI (eo e)) (S_tb e (eo e) τ) := by
    intro τ
    unfold S_tb
    simp only [g_Md_treat_55, q_I_at d34, q_I_at d14, y_ite, w_I_at d14, q_I_at d27, g_Md_treat_101, w_I_at d21, sn_upE, Nat.reduceEqDiff, reduceIte]
    by_cases c : τ.1 34 (eo e) = τ.1 14 e
    · simp [c]
    · simp only [c, if_false]
      by_cases c2 : τ.1 27 e ≤ 0
      · simp [c2]
      · simp [c2]
  have hack : g_Md_treat (nI e) σ = g_Md_treat_55 (nI e) (nI (eo e)) (S_ackT e t σ) := by
    unfold S_ackT
    by_cases c : ahd σ e t < cl σ 27 e
    · rw [if_pos c] at hop
      have hm : (nI (ahd σ e t) = (-1 : Int32)) = False := eq_false (nI_m1 (by have := ahd_lt (σ := σ) (e := e) (t := t); omega))
      have hak := gl_acknowledge he20 hE.e0 (n := ahd σ e t + 1) (by omega) (by omega)
      obtain ⟨-, g27, -, -, gk⟩ := S_ackn_at (n := ahd σ e t + 1) b2 b1
      have h6 : (S_ackn e (ahd σ e t + 1) σ).1 6 0 = σ.1 6 0 := gk _ _ (by decide) (Or.inl (by decide))
      have hle : (nI (o - (ahd σ e t + 1)) ≤ 0) ↔ o = ahd σ e t + 1 := by
        rw [show (0 : Int32) = nI 0 from rfl, nI_leI (by omega) (by omega)]
        rw [hcl] at c
        omega
      simp only [g_Md_treat, xor1 e he20, y_nI, q_I_at d33, et, y_I_at hop, c, if_true, hm, if_false, nI_1, y_V_at hak, q_I_at d27, g27, hle, q_S, h6, g_Md_treat_54, w_I_at d20, hcl, y_ite]
      by_cases c2 : o = ahd σ e t + 1
      · rw [hcl] at c; simp only [c2, if_true]; rw [if_pos (by omega)]
      · rw [hcl] at c; simp only [c2, if_false, c, if_true]
    · rw [if_neg c] at hop
      simp only [g_Md_treat, xor1 e he20, y_nI, q_I_at d33, et, y_I_at hop, y_ite, c, if_false, if_true]
  have hs : SP σ (S_tb e (eo e) (S_ackT e t σ)) := (S_ackT_SP σ).tr (S_tb_SP _)
  have h102 := gl_treat_102 (σ := S_tb e (eo e) (S_ackT e t σ)) (hs.plan hw.1) (e := e) (by rw [hs.nlE]; exact he)
  have hJ : (S_tb e (eo e) (S_ackT e t σ)).2 35 (eo e) = σ.2 35 (eo e) := by
    have h1 : (S_tb e (eo e) (S_ackT e t σ)).2 = (S_ackT e t σ).2 := by unfold S_tb; split <;> rfl
    rw [h1]
    unfold S_ackT
    split
    · exact S_ackn_J (σ := σ) (e := e) (n := ahd σ e t + 1) (k := 35) (by decide)
    · rfl
  rw [hs.exE, hJ] at h102
  unfold S_treat0
  rw [hct, hack, h55]
  exact h102
section Treat
variable {kk : Nat → Nat} {σ η : sn_FS}
theorem fl_treat46 (hK : KOk kk σ) (hw : WI σ) {e : Nat} (he : e < 2 * nl σ) (hu : η.1 (aU (eo e)) 1 = σ.1 31 (eo e) ∧ η.1 (aU (eo e)) 2 = σ.1 32 (eo e)) : f_Wi_treat_46 (aW e) (some (aU (eo e))) (Kap kk σ η) = some (some (.int (if (S_tk e (eo e) σ).2 then 1 else 0)), Kap kk (S_tk e (eo e) σ).1 η) := by
  obtain ⟨e1, e2, e3, e4, e5, e6, e7⟩ := hK.2.1 e he
  obtain ⟨o1, o2, o3, o4, o5, o6, o7⟩ := hK.2.1 (eo e) (eo_lt he)
  have hn10 := hw.1.2.1
  have he20 : e < 20 := by omega
  obtain ⟨v, hv, ev⟩ := (hw.e1 he20).2.2.1
  have r1 : (nI v + 1) % (128 : Int32) = nI ((v + 1) % 128) := rem128 (by omega)
  have r2 : (nI v + 1) &&& (127 : Int32) = nI ((v + 1) % 128) := and127 (by omega)
  have r3 : ¬ nI ((v + 1) % 128) = nI v := fun q => by have := nI_inj (by omega) (by omega) q; omega
  unfold S_tk
  simp only [f_Wi_treat_46, f_Wi_treat_68, f_Wi_treat_105, x_ite, x_gI, x_pI, o2, e3, if_true, rd_U2, rd_U1, rd_U0, rd_W4, rd_W2, wr_W2, wr_W4, hu.1, hu.2, r1, r2, ev]
  by_cases c1 : σ.1 32 (eo e) = σ.1 15 e
  · by_cases c4 : σ.1 31 (eo e) = nI v
    · have c3 : ¬ σ.1 31 (eo e) = nI ((v + 1) % 128) := fun q => r3 (q.symm.trans c4)
      have c3' : ¬ nI v = nI ((v + 1) % 128) := fun q => r3 q.symm
      simp [c1, c4, c3', r_Z]
    · by_cases c2 : σ.1 30 (eo e) = 5
      · by_cases c3 : σ.1 31 (eo e) = nI ((v + 1) % 128)
        · simp [c1, c2, c3, r3, r_Z]
        · simp [c1, c2, c3, c4, r_Z]
      · simp [c1, c2, c4, r_Z]
  · simp [c1, r_Z]
theorem HR_tk (hH : HR σ η) {e o : Nat} : HR (S_tk e o σ).1 η := by
  unfold S_tk
  split
  · split
    · exact hH.mI (by decide)
    · split
      · exact hH
      · exact hH.mI (by decide)
  · exact hH
theorem fl_treat (hK : KOk kk σ) (hH : HR σ η) (hw : WI σ) {e : Nat} (he : e < 2 * nl σ) (h5 : σ.1 10 e = 5) (h4 : (4 : Int32) ≤ σ.1 30 (eo e)) : Run kk (f_Wi_treat (aW e) (some (aU (eo e)))) σ η (some (.int (if (S_treat0 e σ).2 then 1 else 0))) (S_treat0 e σ).1 := by
  obtain ⟨e1, e2, e3, e4, e5, e6, e7⟩ := hK.2.1 e he
  obtain ⟨o1, o2, o3, o4, o5, o6, o7⟩ := hK.2.1 (eo e) (eo_lt he)
  have hn10 := hw.1.2.1
  have he20 : e < 20 := by omega
  have ho20 : eo e < 20 := eo_lt (m := 10) he20
  obtain ⟨t, ht, et⟩ := (hw.e1 ho20).2.2.2.2.2.2.2.2.2.2.2.2.1
  have hct := cl_n et (show t < 2 ^ 31 by omega)
  obtain ⟨u1, u2, u3, u4⟩ := (hH.2.1 (eo e) (eo_lt he)).1 h4
  obtain ⟨θ, a1, a2, a3⟩ := fl_ack hK hH he (hw.e1 he20).e0 ht
  have hs1 := S_ackT_SP (e := e) (t := t) σ
  have hw1 := WI_ackT hw he20 h5 (t := t)
  have h51 : (S_ackT e t σ).1 10 e = 5 := by rw [S_ackT_I σ (by decide)]; exact h5
  have f30 : (S_ackT e t σ).1 30 (eo e) = σ.1 30 (eo e) := S_ackT_I σ (by decide)
  have hu := (a2.2.1 (eo e) (by rw [hs1.nlE]; exact eo_lt he)).1 (by rw [f30]; exact h4)
  obtain ⟨w1, w2, w3, w4⟩ := hu
  unfold S_treat0
  rw [hct]
  generalize hτ : S_ackT e t σ = τ at *
  have hs2 := S_tb_SP (e := e) (o := eo e) τ
  have hK2 : KOk kk (S_tb e (eo e) τ) := (hK.sp hs1).sp hs2
  have hw2 := WI_tb (o := eo e) hw1 he20 h51
  have hH2 : HR (S_tb e (eo e) τ) θ := by
    unfold S_tb
    split
    · exact a2
    · exact (a2.mI (by decide)).mI (by decide)
  have hu2 : θ.1 (aU (eo e)) 1 = (S_tb e (eo e) τ).1 31 (eo e) ∧ θ.1 (aU (eo e)) 2 = (S_tb e (eo e) τ).1 32 (eo e) := by
    rw [S_tb_I τ (by decide), S_tb_I τ (by decide)]; exact ⟨w1, w2⟩
  have h46 := fl_treat46 (η := θ) hK2 hw2 (e := e) (by rw [hs2.nlE, hs1.nlE]; exact he) hu2
  refine ⟨θ, ?_, HR_tk hH2, a3⟩
  rw [← h46]
  have hbr : ∀ c : Bool, ((if τ.1 34 (eo e) = τ.1 14 e then f_Wi_treat_46 (aW e) (some (aU (eo e))) (Kap kk τ θ) else f_Wi_treat_46 (aW e) (some (aU (eo e))) (Kap kk (sI (sI τ 14 e (τ.1 34 (eo e))) 21 e (if τ.1 27 e ≤ 0 then -1 else 0)) θ)) = f_Wi_treat_46 (aW e) (some (aU (eo e))) (Kap kk (S_tb e (eo e) τ) θ)) := by
    intro _
    unfold S_tb
    split <;> rfl
  rw [← hbr true]
  simp only [f_Wi_treat, x_ite, x_gI, x_pI, x_gR, x_nn, o2, e3, e4, if_true, rd_U3, u3, et, x_cV a1, rd_U4, w4, rd_W3, wr_W3, rr_W7, rd_UQ2, f_Wi_treat_43, wr_W5, sn_upE, Nat.reduceEqDiff, reduceIte]
  by_cases c : τ.1 34 (eo e) = τ.1 14 e
  · simp only [c, if_true]
  · simp only [c, if_false]
    by_cases c2 : τ.1 27 e ≤ 0
    · simp only [c2, if_true]
    · simp only [c2, if_false]
end Treat
