/-! LAYER 2: what neighbours were told latest is 0, 1 or 2 -/
def T49 (σ : sn_FS) : Prop := ∀ i, i < 216 → σ.1 49 i = 0 ∨ σ.1 49 i = 1 ∨ σ.1 49 i = 2
def sn_Pf (_M : Nat) (_f : sn_M) (g : sn_G) : Prop := ∀ σ r τ, g σ = some (r, τ) → T49 σ → T49 τ
theorem T49.mI {σ : sn_FS} (h : T49 σ) {k i : Nat} {v : Int32} (hk : k ≠ 49 ∨ v = 0 ∨ v = 1 ∨ v = 2) : T49 (sI σ k i v) := by
  intro j hj
  rcases hk with q | q
  · rw [sI_ne (Ne.symm q)]; exact h j hj
  · by_cases c : k = 49
    · subst c
      by_cases e : j = i
      · subst e; rw [sI_same]; exact q
      · rw [sI_nk e]; exact h j hj
    · rw [sI_ne (Ne.symm c)]; exact h j hj
theorem sn_Pf.id {M : Nat} {f : sn_M} {g : sn_G} (hg : ∀ σ r τ, g σ = some (r, τ) → τ = σ) : sn_Pf M f g := fun σ r τ h hT => by rw [hg σ r τ h]; exact hT
theorem sn_Pf.V {M : Nat} : sn_Pf M r_V z_V := sn_Pf.id (fun σ r τ h => by cases h; rfl)
theorem sn_Pf.I {M : Nat} {v : Int32} : sn_Pf M (r_I v) (z_I v) := sn_Pf.id (fun σ r τ h => by cases h; rfl)
theorem sn_Pf.J {M : Nat} {v : Int64} : sn_Pf M (r_J v) (z_J v) := sn_Pf.id (fun σ r τ h => by cases h; rfl)
theorem sn_Pf.z0 {M : Nat} {f : sn_M} : sn_Pf M f z_0 := fun σ r τ h => by cases h
theorem sn_Pf.Z {M : Nat} {v : Int32} : sn_Pf M (r_Z v) (z_Z v) := sn_Pf.id (fun σ r τ h => by
  unfold z_Z at h
  split at h
  · cases h; rfl
  · cases h)
theorem sn_Pf.ite {M : Nat} {c : Prop} {d d' : Decidable c} {f f' : sn_M} {g g' : sn_G} (h1 : sn_Pf M f g) (h2 : sn_Pf M f' g') : sn_Pf M (@ite sn_M c d f f') (@ite sn_G c d' g g') := by
  by_cases hc : c
  · rw [if_pos hc, if_pos hc]; exact h1
  · rw [if_neg hc, if_neg hc]; exact h2
theorem sn_Pf.D {M : Nat} {y : Int32} {f : sn_M} {g : sn_G} (h : sn_Pf M f g) : sn_Pf M (n_D y f) (y_D y g) := by
  intro σ r τ hg
  unfold y_D at hg
  split at hg
  · cases hg
  · exact h σ r τ hg
theorem sn_Pf.nI {M : Nat} {v : Int32} {F : Int32 → sn_M} {G : Int32 → sn_G} (h : ∀ x, sn_Pf M (F x) (G x)) : sn_Pf M (n_I v F) (y_nI v G) := h v
theorem sn_Pf.nJ {M : Nat} {v : Int64} {F : Int64 → sn_M} {G : Int64 → sn_G} (h : ∀ x, sn_Pf M (F x) (G x)) : sn_Pf M (n_J v F) (y_nJ v G) := h v
theorem sn_Pf.nn {M : Nat} {F : Nat → sn_M} {g : sn_G} (h : sn_Pf M (F M) g) : sn_Pf M (n_n 12 (some M) F) g := h
theorem sn_Pf.gR {M k : Nat} {F : Option Nat → sn_M} {g : sn_G} (_hk : k < 64 ∧ md_kd k ≠ 0) (h : sn_Pf M (F (some (md_ad M k))) g) : sn_Pf M (g_R 12 k (some M) F) g := h
theorem sn_Pf.gS {M k : Nat} {F : Int32 → sn_M} {G : Int32 → sn_G} (_hk : md_kd k = 0) (h : ∀ v, sn_Pf M (F v) (G v)) : sn_Pf M (g_I 12 k (some M) F) (q_S k G) := fun σ r τ hg => h _ σ r τ hg
theorem sn_Pf.aI {M k kd : Nat} {i : Int32} {F : Int32 → sn_M} {G : Int32 → sn_G} (_hk : k < 64 ∧ md_kd k = kd ∧ kd ≠ 0) (h : ∀ v, sn_Pf M (F v) (G v)) : sn_Pf M (a_I kd (some (md_ad M k)) i F) (q_I k i G) := by
  intro σ r τ hg
  unfold q_I at hg
  split at hg
  · exact h _ σ r τ hg
  · cases hg
theorem sn_Pf.aJ {M k kd : Nat} {i : Int32} {F : Int64 → sn_M} {G : Int64 → sn_G} (_hk : k < 64 ∧ md_kd k = kd ∧ kd = 32) (h : ∀ v, sn_Pf M (F v) (G v)) : sn_Pf M (a_J kd (some (md_ad M k)) i F) (q_J k i G) := by
  intro σ r τ hg
  unfold q_J at hg
  split at hg
  · exact h _ σ r τ hg
  · cases hg
theorem sn_Pf.bI {M k kd : Nat} {i v : Int32} {F : sn_M} {G : sn_G} (hk : k < 64 ∧ md_kd k = kd ∧ kd ≠ 0 ∧ k ≠ 49) (h : sn_Pf M F G) : sn_Pf M (b_I kd (some (md_ad M k)) i v F) (w_I k i v G) := by
  intro σ r τ hg hT
  unfold w_I at hg
  split at hg
  · exact h _ r τ hg (hT.mI (Or.inl hk.2.2.2))
  · cases hg
theorem sn_Pf.b49 {M kd : Nat} {i v : Int32} {F : sn_M} {G : sn_G} (hv : v = 0 ∨ v = 1 ∨ v = 2) (h : sn_Pf M F G) : sn_Pf M (b_I kd (some (md_ad M 49)) i v F) (w_I 49 i v G) := by
  intro σ r τ hg hT
  unfold w_I at hg
  split at hg
  · exact h _ r τ hg (hT.mI (Or.inr hv))
  · cases hg
theorem sn_Pf.bZ {M k kd : Nat} {i v : Int32} {F : sn_M} {G : sn_G} (hk : k < 64 ∧ md_kd k = kd ∧ kd ≠ 0 ∧ k ≠ 49) (h : sn_Pf M F G) : sn_Pf M (b_Z kd (some (md_ad M k)) i v F) (w_Z k i v G) := by
  intro σ r τ hg hT
  unfold w_Z at hg
  split at hg
  · exact h _ r τ hg (hT.mI (Or.inl hk.2.2.2))
  · cases hg
theorem sn_Pf.bJ {M k kd : Nat} {i : Int32} {v : Int64} {F : sn_M} {G : sn_G} (_hk : k < 64 ∧ md_kd k = kd ∧ kd = 32) (h : sn_Pf M F G) : sn_Pf M (b_J kd (some (md_ad M k)) i v F) (w_J k i v G) := by
  intro σ r τ hg hT
  unfold w_J at hg
  split at hg
  · exact h _ r τ hg hT
  · cases hg
theorem sn_Pf.pS {M k : Nat} {v : Int32} {F : sn_M} {G : sn_G} (hk : md_kd k = 0) (h : sn_Pf M F G) : sn_Pf M (p_I 12 k (some M) v F) (w_S k v G) := by
  intro σ r τ hg hT
  have hne : k ≠ 49 := fun q => by subst q; exact absurd hk (by decide)
  refine h _ r τ hg (fun i hi => ?_)
  show (sS σ k v).1 49 i = 0 ∨ (sS σ k v).1 49 i = 1 ∨ (sS σ k v).1 49 i = 2
  rw [sS_ne (Ne.symm hne)]
  exact hT i hi
theorem sn_Pf.cV {M : Nat} {f F : sn_M} {g G : sn_G} (h1 : sn_Pf M f g) (h2 : sn_Pf M F G) : sn_Pf M (c_V f F) (y_V g G) := by
  intro σ r τ hg hT
  unfold y_V at hg
  split at hg
  · rename_i σ1 hσ
    exact h2 σ1 r τ hg (h1 σ _ _ hσ hT)
  · cases hg
theorem sn_Pf.cI {M : Nat} {f : sn_M} {F : Int32 → sn_M} {g : sn_G} {G : Int32 → sn_G} (h1 : sn_Pf M f g) (h2 : ∀ v, sn_Pf M (F v) (G v)) : sn_Pf M (c_I f F) (y_I g G) := by
  intro σ r τ hg hT
  unfold y_I at hg
  split at hg
  · rename_i v σ1 hσ
    exact h2 v σ1 r τ hg (h1 σ _ _ hσ hT)
  · cases hg
theorem sn_Pf.cJ {M : Nat} {f : sn_M} {F : Int64 → sn_M} {g : sn_G} {G : Int64 → sn_G} (h1 : sn_Pf M f g) (h2 : ∀ v, sn_Pf M (F v) (G v)) : sn_Pf M (c_J f F) (y_J g G) := by
  intro σ r τ hg hT
  unfold y_J at hg
  split at hg
  · rename_i v σ1 hσ
    exact h2 v σ1 r τ hg (h1 σ _ _ hσ hT)
  · cases hg
theorem sn_Pf.swN {M : Nat} {x : Int32} {d : sn_M} {d' : sn_G} (h : sn_Pf M d d') : sn_Pf M (sn_sw x [] [] d) (y_sw x [] [] d') := h
theorem sn_Pf.swC {M : Nat} {x k : Int32} {ks : List Int32} {f : sn_M} {fs : List sn_M} {g : sn_G} {gs : List sn_G} {d : sn_M} {d' : sn_G} (h1 : sn_Pf M f g) (h2 : sn_Pf M (sn_sw x ks fs d) (y_sw x ks gs d')) : sn_Pf M (sn_sw x (k :: ks) (f :: fs) d) (y_sw x (k :: ks) (g :: gs) d') := sn_Pf.ite h1 h2

set_option maxHeartbeats 4000000 in
set_option maxRecDepth 100000 in
theorem pf_Md_fresh (M : Nat) (x1 : Int32) : sn_Pf M (f_Md_fresh M x1) (g_Md_fresh x1) := sn_Pf.gR (k := 12) (by decide) (sn_Pf.bI (k := 12) (by decide) (sn_Pf.gR (k := 13) (by decide) (sn_Pf.bI (k := 13) (by decide) (sn_Pf.gR (k := 14) (by decide) (sn_Pf.bI (k := 14) (by decide) (sn_Pf.gR (k := 15) (by decide) (sn_Pf.bI (k := 15) (by decide) (sn_Pf.gR (k := 16) (by decide) (sn_Pf.bI (k := 16) (by decide) (sn_Pf.gR (k := 19) (by decide) (sn_Pf.bI (k := 19) (by decide) (sn_Pf.gR (k := 21) (by decide) (sn_Pf.bI (k := 21) (by decide) (sn_Pf.V))))))))))))))
set_option maxHeartbeats 4000000 in
set_option maxRecDepth 100000 in
theorem pf_Md_message (M : Nat) (x0 : Int32) (x1 : Int32) (x2 : Int32) (x3 : Int32) (x4 : Int32) (x5 : Int32) : sn_Pf M (f_Md_message x0 x1 x2 x3 x4 x5) (g_Md_message x0 x1 x2 x3 x4 x5) := sn_Pf.J
set_option maxHeartbeats 4000000 in
set_option maxRecDepth 100000 in
theorem pf_Md_kindOf (M : Nat) (l0 : Int64) : sn_Pf M (f_Md_kindOf l0) (g_Md_kindOf l0) := sn_Pf.I
set_option maxHeartbeats 4000000 in
set_option maxRecDepth 100000 in
theorem pf_Md_fromOf (M : Nat) (l0 : Int64) : sn_Pf M (f_Md_fromOf l0) (g_Md_fromOf l0) := sn_Pf.I
set_option maxHeartbeats 4000000 in
set_option maxRecDepth 100000 in
theorem pf_Md_toOf (M : Nat) (l0 : Int64) : sn_Pf M (f_Md_toOf l0) (g_Md_toOf l0) := sn_Pf.I
set_option maxHeartbeats 4000000 in
set_option maxRecDepth 100000 in
theorem pf_Md_flowOf (M : Nat) (l0 : Int64) : sn_Pf M (f_Md_flowOf l0) (g_Md_flowOf l0) := sn_Pf.I
set_option maxHeartbeats 4000000 in
set_option maxRecDepth 100000 in
theorem pf_Md_oneOf (M : Nat) (l0 : Int64) : sn_Pf M (f_Md_oneOf l0) (g_Md_oneOf l0) := sn_Pf.I
set_option maxHeartbeats 4000000 in
set_option maxRecDepth 100000 in
theorem pf_Md_twoOf (M : Nat) (l0 : Int64) : sn_Pf M (f_Md_twoOf l0) (g_Md_twoOf l0) := sn_Pf.I
set_option maxHeartbeats 4000000 in
set_option maxRecDepth 100000 in
theorem pf_Md_hopsOf (M : Nat) (l0 : Int64) : sn_Pf M (f_Md_hopsOf l0) (g_Md_hopsOf l0) := sn_Pf.I
set_option maxHeartbeats 4000000 in
set_option maxRecDepth 100000 in
theorem pf_Md_isExchange_15 (M : Nat) (t0 : Int32) : sn_Pf M (f_Md_isExchange_15 t0) (g_Md_isExchange_15 t0) := sn_Pf.Z
set_option maxHeartbeats 4000000 in
set_option maxRecDepth 100000 in
theorem pf_Md_isExchange_14 (M : Nat) : sn_Pf M (f_Md_isExchange_14) (g_Md_isExchange_14) := pf_Md_isExchange_15 M (0 : Int32)
set_option maxHeartbeats 4000000 in
set_option maxRecDepth 100000 in
theorem pf_Md_isExchange (M : Nat) (x0 : Int32) : sn_Pf M (f_Md_isExchange x0) (g_Md_isExchange x0) := sn_Pf.ite (pf_Md_isExchange_14 M) (sn_Pf.ite (pf_Md_isExchange_14 M) (pf_Md_isExchange_15 M (1 : Int32)))
set_option maxHeartbeats 4000000 in
set_option maxRecDepth 100000 in
theorem pf_Md_isOf_43 (M : Nat) (t0 : Int32) : sn_Pf M (f_Md_isOf_43 M t0) (g_Md_isOf_43 t0) := sn_Pf.Z
set_option maxHeartbeats 4000000 in
set_option maxRecDepth 100000 in
theorem pf_Md_isOf_42 (M : Nat) : sn_Pf M (f_Md_isOf_42 M) (g_Md_isOf_42) := pf_Md_isOf_43 M (0 : Int32)
set_option maxHeartbeats 4000000 in
set_option maxRecDepth 100000 in
theorem pf_Md_isOf_35 (M : Nat) (t0 : Int32) (t1 : Int32) : sn_Pf M (f_Md_isOf_35 M t0 t1) (g_Md_isOf_35 t0 t1) := sn_Pf.ite (pf_Md_isOf_42 M) (pf_Md_isOf_43 M (1 : Int32))
set_option maxHeartbeats 4000000 in
set_option maxRecDepth 100000 in
theorem pf_Md_isOf_16 (M : Nat) (x1 : Int32) (x2 : Int32) (x3 : Int32) (t0 : Int32) (t1 : Int32) : sn_Pf M (f_Md_isOf_16 M x1 x2 x3 t0 t1) (g_Md_isOf_16 x1 x2 x3 t0 t1) := sn_Pf.ite (pf_Md_isOf_42 M) (sn_Pf.gR (k := 1) (by decide) (sn_Pf.aI (k := 1) (by decide) (fun v1 => sn_Pf.ite (pf_Md_isOf_35 M v1 x2) (pf_Md_isOf_35 M v1 x3))))
set_option maxHeartbeats 4000000 in
set_option maxRecDepth 100000 in
theorem pf_Md_isOf (M : Nat) (x1 : Int32) (x2 : Int32) (x3 : Int32) : sn_Pf M (f_Md_isOf M x1 x2 x3) (g_Md_isOf x1 x2 x3) := sn_Pf.gR (k := 0) (by decide) (sn_Pf.aI (k := 0) (by decide) (fun v2 => sn_Pf.ite (pf_Md_isOf_16 M x1 x2 x3 v2 x3) (pf_Md_isOf_16 M x1 x2 x3 v2 x2)))
set_option maxHeartbeats 4000000 in
set_option maxRecDepth 100000 in
theorem pf_Md_setSize_31 (M : Nat) (fk5 : Int32 → Int32 → Int32 → Int32 → sn_M) (k5 : Int32 → Int32 → Int32 → Int32 → sn_G) (hk5 : ∀ (x1 : Int32) (x2 : Int32) (x3 : Int32) (x4 : Int32), sn_Pf M (fk5 x1 x2 x3 x4) (k5 x1 x2 x3 x4)) (x1 : Int32) (x2 : Int32) (x4 : Int32) (t0 : Int32) (t1 : Int32) : sn_Pf M (f_Md_setSize_31 fk5 M x1 x2 x4 t0 t1) (g_Md_setSize_31 k5 x1 x2 x4 t0 t1) := sn_Pf.nI (fun n1 => hk5 x1 x2 n1 (x4 + (1 : Int32)))
set_option maxHeartbeats 4000000 in
set_option maxRecDepth 100000 in
theorem pf_Md_setSize_5 (M : Nat) : ∀ (n : Nat) (x1 : Int32) (x2 : Int32) (x3 : Int32) (x4 : Int32), sn_Pf M (f_Md_setSize_5 M n x1 x2 x3 x4) (g_Md_setSize_5 n x1 x2 x3 x4)
  | 0, _, _, _, _ => sn_Pf.z0
  | n + 1, x1, x2, x3, x4 => sn_Pf.gS (k := 4) rfl (fun v2 => sn_Pf.ite (sn_Pf.I) (sn_Pf.nn (sn_Pf.cI (pf_Md_isOf M x4 x1 x2) (fun v3 => sn_Pf.ite (pf_Md_setSize_31 M (f_Md_setSize_5 M n) (g_Md_setSize_5 n) (pf_Md_setSize_5 M n) x1 x2 x4 x3 (0 : Int32)) (pf_Md_setSize_31 M (f_Md_setSize_5 M n) (g_Md_setSize_5 n) (pf_Md_setSize_5 M n) x1 x2 x4 x3 (1 : Int32))))))
set_option maxHeartbeats 4000000 in
set_option maxRecDepth 100000 in
theorem pf_Md_setSize (M : Nat) (x1 : Int32) (x2 : Int32) : sn_Pf M (f_Md_setSize M x1 x2) (g_Md_setSize x1 x2) := pf_Md_setSize_5 M sn_fuel x1 x2 (0 : Int32) (0 : Int32)
set_option maxHeartbeats 4000000 in
set_option maxRecDepth 100000 in
theorem pf_Md_areNeighbours_33 (M : Nat) (t0 : Int32) : sn_Pf M (f_Md_areNeighbours_33 M t0) (g_Md_areNeighbours_33 t0) := sn_Pf.Z
set_option maxHeartbeats 4000000 in
set_option maxRecDepth 100000 in
theorem pf_Md_areNeighbours_32 (M : Nat) : sn_Pf M (f_Md_areNeighbours_32 M) (g_Md_areNeighbours_32) := pf_Md_areNeighbours_33 M (0 : Int32)
set_option maxHeartbeats 4000000 in
set_option maxRecDepth 100000 in
theorem pf_Md_areNeighbours (M : Nat) (x1 : Int32) (x2 : Int32) : sn_Pf M (f_Md_areNeighbours M x1 x2) (g_Md_areNeighbours x1 x2) := sn_Pf.cI (pf_Md_isExchange M x1) (fun v1 => sn_Pf.ite (pf_Md_areNeighbours_32 M) (sn_Pf.cI (pf_Md_isExchange M x2) (fun v2 => sn_Pf.ite (pf_Md_areNeighbours_32 M) (sn_Pf.ite (pf_Md_areNeighbours_32 M) (sn_Pf.nn (sn_Pf.cI (pf_Md_setSize M x1 x2) (fun v3 => sn_Pf.ite (pf_Md_areNeighbours_32 M) (pf_Md_areNeighbours_33 M (1 : Int32)))))))))
set_option maxHeartbeats 4000000 in
set_option maxRecDepth 100000 in
theorem pf_Md_endAt_18 (M : Nat) (t0 : Int32) (t1 : Int32) : sn_Pf M (f_Md_endAt_18 M t0 t1) (g_Md_endAt_18 t0 t1) := sn_Pf.I
set_option maxHeartbeats 4000000 in
set_option maxRecDepth 100000 in
theorem pf_Md_endAt (M : Nat) (x1 : Int32) (x2 : Int32) : sn_Pf M (f_Md_endAt M x1 x2) (g_Md_endAt x1 x2) := sn_Pf.gR (k := 0) (by decide) (sn_Pf.aI (k := 0) (by decide) (fun v1 => sn_Pf.ite (pf_Md_endAt_18 M ((2 : Int32) * x1) (1 : Int32)) (pf_Md_endAt_18 M ((2 : Int32) * x1) (0 : Int32))))
set_option maxHeartbeats 4000000 in
set_option maxRecDepth 100000 in
theorem pf_Md_exchangeOf_25 (M : Nat) (t0 : Int32) : sn_Pf M (f_Md_exchangeOf_25 M t0) (g_Md_exchangeOf_25 t0) := sn_Pf.I
set_option maxHeartbeats 4000000 in
set_option maxRecDepth 100000 in
theorem pf_Md_exchangeOf (M : Nat) (x1 : Int32) : sn_Pf M (f_Md_exchangeOf M x1) (g_Md_exchangeOf x1) := sn_Pf.ite (sn_Pf.gR (k := 1) (by decide) (sn_Pf.aI (k := 1) (by decide) (fun v1 => pf_Md_exchangeOf_25 M v1))) (sn_Pf.gR (k := 0) (by decide) (sn_Pf.aI (k := 0) (by decide) (fun v2 => pf_Md_exchangeOf_25 M v2)))
set_option maxHeartbeats 4000000 in
set_option maxRecDepth 100000 in
theorem pf_Md_otherOf_25 (M : Nat) (t0 : Int32) : sn_Pf M (f_Md_otherOf_25 M t0) (g_Md_otherOf_25 t0) := sn_Pf.I
set_option maxHeartbeats 4000000 in
set_option maxRecDepth 100000 in
theorem pf_Md_otherOf (M : Nat) (x1 : Int32) : sn_Pf M (f_Md_otherOf M x1) (g_Md_otherOf x1) := sn_Pf.ite (sn_Pf.gR (k := 0) (by decide) (sn_Pf.aI (k := 0) (by decide) (fun v1 => pf_Md_otherOf_25 M v1))) (sn_Pf.gR (k := 1) (by decide) (sn_Pf.aI (k := 1) (by decide) (fun v2 => pf_Md_otherOf_25 M v2)))
set_option maxHeartbeats 4000000 in
set_option maxRecDepth 100000 in
theorem pf_Md_flowAt (M : Nat) (x1 : Int32) (x2 : Int32) (x3 : Int32) : sn_Pf M (f_Md_flowAt M x1 x2 x3) (g_Md_flowAt x1 x2 x3) := sn_Pf.I
set_option maxHeartbeats 4000000 in
set_option maxRecDepth 100000 in
theorem pf_Md_isOpen_36 (M : Nat) (t0 : Int32) : sn_Pf M (f_Md_isOpen_36 M t0) (g_Md_isOpen_36 t0) := sn_Pf.Z
set_option maxHeartbeats 4000000 in
set_option maxRecDepth 100000 in
theorem pf_Md_isOpen_31 (M : Nat) : sn_Pf M (f_Md_isOpen_31 M) (g_Md_isOpen_31) := pf_Md_isOpen_36 M (1 : Int32)
set_option maxHeartbeats 4000000 in
set_option maxRecDepth 100000 in
theorem pf_Md_isOpen (M : Nat) (x1 : Int32) (x2 : Int32) (x3 : Int32) : sn_Pf M (f_Md_isOpen M x1 x2 x3) (g_Md_isOpen x1 x2 x3) := sn_Pf.gR (k := 41) (by decide) (sn_Pf.nn (sn_Pf.cI (pf_Md_flowAt M x1 x2 x3) (fun v1 => sn_Pf.aI (k := 41) (by decide) (fun v2 => sn_Pf.ite (pf_Md_isOpen_31 M) (sn_Pf.gR (k := 42) (by decide) (sn_Pf.nn (sn_Pf.cI (pf_Md_flowAt M x1 x2 x3) (fun v3 => sn_Pf.aI (k := 42) (by decide) (fun v4 => sn_Pf.ite (pf_Md_isOpen_36 M (0 : Int32)) (pf_Md_isOpen_31 M))))))))))
set_option maxHeartbeats 4000000 in
set_option maxRecDepth 100000 in
theorem pf_Md_bestOf_80 (M : Nat) (fk30 : Int32 → Int32 → Int32 → Int32 → Int32 → Int32 → Int32 → sn_M) (k30 : Int32 → Int32 → Int32 → Int32 → Int32 → Int32 → Int32 → sn_G) (hk30 : ∀ (x1 : Int32) (x2 : Int32) (x3 : Int32) (x4 : Int32) (x5 : Int32) (x6 : Int32) (x7 : Int32), sn_Pf M (fk30 x1 x2 x3 x4 x5 x6 x7) (k30 x1 x2 x3 x4 x5 x6 x7)) (x1 : Int32) (x2 : Int32) (x3 : Int32) (x4 : Int32) (x5 : Int32) (x6 : Int32) (x7 : Int32) : sn_Pf M (f_Md_bestOf_80 fk30 M x1 x2 x3 x4 x5 x6 x7) (g_Md_bestOf_80 k30 x1 x2 x3 x4 x5 x6 x7) := hk30 x1 x2 x3 x4 x5 x6 (x7 + (1 : Int32))
set_option maxHeartbeats 4000000 in
set_option maxRecDepth 100000 in
theorem pf_Md_bestOf_77 (M : Nat) (fk30 : Int32 → Int32 → Int32 → Int32 → Int32 → Int32 → Int32 → sn_M) (k30 : Int32 → Int32 → Int32 → Int32 → Int32 → Int32 → Int32 → sn_G) (hk30 : ∀ (x1 : Int32) (x2 : Int32) (x3 : Int32) (x4 : Int32) (x5 : Int32) (x6 : Int32) (x7 : Int32), sn_Pf M (fk30 x1 x2 x3 x4 x5 x6 x7) (k30 x1 x2 x3 x4 x5 x6 x7)) (x1 : Int32) (x2 : Int32) (x3 : Int32) (x4 : Int32) (x5 : Int32) (x6 : Int32) (x7 : Int32) : sn_Pf M (f_Md_bestOf_77 fk30 M x1 x2 x3 x4 x5 x6 x7) (g_Md_bestOf_77 k30 x1 x2 x3 x4 x5 x6 x7) := pf_Md_bestOf_80 M fk30 k30 hk30 x1 x2 x3 x4 x5 (x6 + (-1 : Int32)) x7
set_option maxHeartbeats 4000000 in
set_option maxRecDepth 100000 in
theorem pf_Md_bestOf_30 (M : Nat) (fk11 : Int32 → Int32 → Int32 → Int32 → Int32 → sn_M) (k11 : Int32 → Int32 → Int32 → Int32 → Int32 → sn_G) (hk11 : ∀ (x1 : Int32) (x2 : Int32) (x3 : Int32) (x4 : Int32) (x5 : Int32), sn_Pf M (fk11 x1 x2 x3 x4 x5) (k11 x1 x2 x3 x4 x5)) : ∀ (n : Nat) (x1 : Int32) (x2 : Int32) (x3 : Int32) (x4 : Int32) (x5 : Int32) (x6 : Int32) (x7 : Int32), sn_Pf M (f_Md_bestOf_30 fk11 M n x1 x2 x3 x4 x5 x6 x7) (g_Md_bestOf_30 k11 n x1 x2 x3 x4 x5 x6 x7)
  | 0, _, _, _, _, _, _, _ => sn_Pf.z0
  | n + 1, x1, x2, x3, x4, x5, x6, x7 => sn_Pf.gS (k := 4) rfl (fun v1 => sn_Pf.ite (hk11 x1 x2 x3 x4 (x5 + (1 : Int32))) (sn_Pf.nn (sn_Pf.cI (pf_Md_isOf M x7 x1 x2) (fun v2 => sn_Pf.ite (sn_Pf.ite (pf_Md_bestOf_77 M (f_Md_bestOf_30 fk11 M n) (g_Md_bestOf_30 k11 n) (pf_Md_bestOf_30 M fk11 k11 hk11 n) x1 x2 x3 x4 x5 x6 x7) (sn_Pf.gR (k := 10) (by decide) (sn_Pf.nn (sn_Pf.cI (pf_Md_endAt M x7 x1) (fun v3 => sn_Pf.aI (k := 10) (by decide) (fun v4 => sn_Pf.ite (pf_Md_bestOf_77 M (f_Md_bestOf_30 fk11 M n) (g_Md_bestOf_30 k11 n) (pf_Md_bestOf_30 M fk11 k11 hk11 n) x1 x2 x3 x4 x5 x6 x7) (sn_Pf.I))))))) (pf_Md_bestOf_80 M (f_Md_bestOf_30 fk11 M n) (g_Md_bestOf_30 k11 n) (pf_Md_bestOf_30 M fk11 k11 hk11 n) x1 x2 x3 x4 x5 x6 x7)))))
set_option maxHeartbeats 4000000 in
set_option maxRecDepth 100000 in
theorem pf_Md_bestOf_11 (M : Nat) : ∀ (n : Nat) (x1 : Int32) (x2 : Int32) (x3 : Int32) (x4 : Int32) (x5 : Int32), sn_Pf M (f_Md_bestOf_11 M n x1 x2 x3 x4 x5) (g_Md_bestOf_11 n x1 x2 x3 x4 x5)
  | 0, _, _, _, _, _ => sn_Pf.z0
  | n + 1, x1, x2, x3, x4, x5 => sn_Pf.ite (sn_Pf.I) (sn_Pf.D (sn_Pf.nI (fun n5 => pf_Md_bestOf_30 M (f_Md_bestOf_11 M n) (g_Md_bestOf_11 n) (pf_Md_bestOf_11 M n) sn_fuel x1 x2 x3 x4 x5 n5 (0 : Int32))))
set_option maxHeartbeats 4000000 in
set_option maxRecDepth 100000 in
theorem pf_Md_bestOf (M : Nat) (x1 : Int32) (x2 : Int32) (x3 : Int32) : sn_Pf M (f_Md_bestOf M x1 x2 x3) (g_Md_bestOf x1 x2 x3) := sn_Pf.nn (sn_Pf.cI (pf_Md_setSize M x1 x2) (fun v6 => pf_Md_bestOf_11 M sn_fuel x1 x2 x3 v6 (0 : Int32)))
set_option maxHeartbeats 4000000 in
set_option maxRecDepth 100000 in
theorem pf_Md_waitAt (M : Nat) (x1 : Int32) (l2 : Int64) : sn_Pf M (f_Md_waitAt M x1 l2) (g_Md_waitAt x1 l2) := sn_Pf.gR (k := 29) (by decide) (sn_Pf.aI (k := 29) (by decide) (fun v1 => sn_Pf.ite (sn_Pf.gR (k := 28) (by decide) (sn_Pf.gR (k := 29) (by decide) (sn_Pf.aI (k := 29) (by decide) (fun v2 => sn_Pf.bJ (k := 28) (by decide) (sn_Pf.gR (k := 29) (by decide) (sn_Pf.aI (k := 29) (by decide) (fun v3 => sn_Pf.bI (k := 29) (by decide) (sn_Pf.V)))))))) (sn_Pf.gS (k := 7) rfl (fun v4 => sn_Pf.pS (k := 7) rfl (sn_Pf.V)))))
set_option maxHeartbeats 4000000 in
set_option maxRecDepth 100000 in
theorem pf_Md_give_96 (M : Nat) : sn_Pf M (f_Md_give_96 M) (g_Md_give_96) := sn_Pf.V
set_option maxHeartbeats 4000000 in
set_option maxRecDepth 100000 in
theorem pf_Md_give (M : Nat) (x1 : Int32) (x2 : Int32) (x3 : Int32) (l4 : Int64) : sn_Pf M (f_Md_give M x1 x2 x3 l4) (g_Md_give x1 x2 x3 l4) := sn_Pf.nn (sn_Pf.cI (pf_Md_flowAt M x1 x2 x3) (fun v1 => sn_Pf.gR (k := 42) (by decide) (sn_Pf.aI (k := 42) (by decide) (fun v2 => sn_Pf.ite (sn_Pf.gR (k := 47) (by decide) (sn_Pf.aI (k := 47) (by decide) (fun v3 => sn_Pf.ite (sn_Pf.gR (k := 46) (by decide) (sn_Pf.gR (k := 47) (by decide) (sn_Pf.aI (k := 47) (by decide) (fun v4 => sn_Pf.bJ (k := 46) (by decide) (sn_Pf.gR (k := 47) (by decide) (sn_Pf.aI (k := 47) (by decide) (fun v5 => sn_Pf.bI (k := 47) (by decide) (pf_Md_give_96 M)))))))) (sn_Pf.gS (k := 7) rfl (fun v6 => sn_Pf.pS (k := 7) rfl (pf_Md_give_96 M)))))) (sn_Pf.gR (k := 41) (by decide) (sn_Pf.aI (k := 41) (by decide) (fun v7 => sn_Pf.nn (sn_Pf.cI (pf_Md_endAt M v7 x1) (fun v8 => sn_Pf.nn (sn_Pf.cV (pf_Md_waitAt M v8 l4) (pf_Md_give_96 M)))))))))))
set_option maxHeartbeats 4000000 in
set_option maxRecDepth 100000 in
theorem pf_Md_route_114 (M : Nat) (fk3 : Int32 → Int32 → Int64 → Int32 → Int32 → sn_M) (k3 : Int32 → Int32 → Int64 → Int32 → Int32 → sn_G) (hk3 : ∀ (x1 : Int32) (x2 : Int32) (l3 : Int64) (x5 : Int32) (x6 : Int32), sn_Pf M (fk3 x1 x2 l3 x5 x6) (k3 x1 x2 l3 x5 x6)) (x1 : Int32) (x2 : Int32) (l3 : Int64) (x5 : Int32) (x6 : Int32) : sn_Pf M (f_Md_route_114 fk3 M x1 x2 l3 x5 x6) (g_Md_route_114 k3 x1 x2 l3 x5 x6) := hk3 x1 x2 l3 x5 (x6 + (1 : Int32))
set_option maxHeartbeats 4000000 in
set_option maxRecDepth 100000 in
theorem pf_Md_route_39 (M : Nat) (fk3 : Int32 → Int32 → Int64 → Int32 → Int32 → sn_M) (k3 : Int32 → Int32 → Int64 → Int32 → Int32 → sn_G) (hk3 : ∀ (x1 : Int32) (x2 : Int32) (l3 : Int64) (x5 : Int32) (x6 : Int32), sn_Pf M (fk3 x1 x2 l3 x5 x6) (k3 x1 x2 l3 x5 x6)) (x1 : Int32) (x2 : Int32) (l3 : Int64) (x5 : Int32) (x6 : Int32) (t0 : Int32) : sn_Pf M (f_Md_route_39 fk3 M x1 x2 l3 x5 x6 t0) (g_Md_route_39 k3 x1 x2 l3 x5 x6 t0) := sn_Pf.ite (pf_Md_route_114 M fk3 k3 hk3 x1 x2 l3 x5 x6) (sn_Pf.ite (pf_Md_route_114 M fk3 k3 hk3 x1 x2 l3 x5 x6) (sn_Pf.nn (sn_Pf.cI (pf_Md_areNeighbours M x1 t0) (fun v1 => sn_Pf.ite (sn_Pf.gR (k := 48) (by decide) (sn_Pf.aI (k := 48) (by decide) (fun v2 => sn_Pf.ite (pf_Md_route_114 M fk3 k3 hk3 x1 x2 l3 x5 x6) (sn_Pf.cI (pf_Md_flowOf M l3) (fun v3 => sn_Pf.nn (sn_Pf.cI (pf_Md_isOpen M x1 t0 v3) (fun v4 => sn_Pf.ite (pf_Md_route_114 M fk3 k3 hk3 x1 x2 l3 x5 x6) (sn_Pf.cI (pf_Md_flowOf M l3) (fun v5 => sn_Pf.nn (sn_Pf.cV (pf_Md_give M x1 t0 v5 l3) (sn_Pf.V))))))))))) (pf_Md_route_114 M fk3 k3 hk3 x1 x2 l3 x5 x6)))))
set_option maxHeartbeats 4000000 in
set_option maxRecDepth 100000 in
theorem pf_Md_route_3 (M : Nat) : ∀ (n : Nat) (x1 : Int32) (x2 : Int32) (l3 : Int64) (x5 : Int32) (x6 : Int32), sn_Pf M (f_Md_route_3 M n x1 x2 l3 x5 x6) (g_Md_route_3 n x1 x2 l3 x5 x6)
  | 0, _, _, _, _, _ => sn_Pf.z0
  | n + 1, x1, x2, l3, x5, x6 => sn_Pf.ite (sn_Pf.gS (k := 7) rfl (fun v7 => sn_Pf.pS (k := 7) rfl (sn_Pf.V))) (sn_Pf.ite (sn_Pf.gR (k := 51) (by decide) (sn_Pf.aI (k := 51) (by decide) (fun v8 => pf_Md_route_39 M (f_Md_route_3 M n) (g_Md_route_3 n) (pf_Md_route_3 M n) x1 x2 l3 x5 x6 v8))) (sn_Pf.gR (k := 50) (by decide) (sn_Pf.aI (k := 50) (by decide) (fun v9 => pf_Md_route_39 M (f_Md_route_3 M n) (g_Md_route_3 n) (pf_Md_route_3 M n) x1 x2 l3 x5 x6 v9))))
set_option maxHeartbeats 4000000 in
set_option maxRecDepth 100000 in
theorem pf_Md_route (M : Nat) (x1 : Int32) (x2 : Int32) (l3 : Int64) (x5 : Int32) : sn_Pf M (f_Md_route M x1 x2 l3 x5) (g_Md_route x1 x2 l3 x5) := pf_Md_route_3 M sn_fuel x1 x2 l3 x5 (0 : Int32)
set_option maxHeartbeats 4000000 in
set_option maxRecDepth 100000 in
theorem pf_Md_otherWay_52 (M : Nat) (fk3 : Int32 → Int32 → Int64 → Int32 → sn_M) (k3 : Int32 → Int32 → Int64 → Int32 → sn_G) (hk3 : ∀ (x1 : Int32) (x2 : Int32) (l3 : Int64) (x5 : Int32), sn_Pf M (fk3 x1 x2 l3 x5) (k3 x1 x2 l3 x5)) (x1 : Int32) (x2 : Int32) (l3 : Int64) (x5 : Int32) : sn_Pf M (f_Md_otherWay_52 fk3 M x1 x2 l3 x5) (g_Md_otherWay_52 k3 x1 x2 l3 x5) := hk3 x1 x2 l3 (x5 + (1 : Int32))
set_option maxHeartbeats 4000000 in
set_option maxRecDepth 100000 in
theorem pf_Md_otherWay_3 (M : Nat) : ∀ (n : Nat) (x1 : Int32) (x2 : Int32) (l3 : Int64) (x5 : Int32), sn_Pf M (f_Md_otherWay_3 M n x1 x2 l3 x5) (g_Md_otherWay_3 n x1 x2 l3 x5)
  | 0, _, _, _, _ => sn_Pf.z0
  | n + 1, x1, x2, l3, x5 => sn_Pf.gS (k := 4) rfl (fun v1 => sn_Pf.ite (sn_Pf.nn (sn_Pf.cV (pf_Md_route M x1 x2 l3 x2) (sn_Pf.V))) (sn_Pf.nn (sn_Pf.cI (pf_Md_isOf M x5 x1 x2) (fun v3 => sn_Pf.ite (pf_Md_otherWay_52 M (f_Md_otherWay_3 M n) (g_Md_otherWay_3 n) (pf_Md_otherWay_3 M n) x1 x2 l3 x5) (sn_Pf.gR (k := 10) (by decide) (sn_Pf.nn (sn_Pf.cI (pf_Md_endAt M x5 x1) (fun v4 => sn_Pf.aI (k := 10) (by decide) (fun v5 => sn_Pf.ite (pf_Md_otherWay_52 M (f_Md_otherWay_3 M n) (g_Md_otherWay_3 n) (pf_Md_otherWay_3 M n) x1 x2 l3 x5) (sn_Pf.nn (sn_Pf.cI (pf_Md_endAt M x5 x1) (fun v6 => sn_Pf.nn (sn_Pf.cV (pf_Md_waitAt M v6 l3) (sn_Pf.V))))))))))))))
set_option maxHeartbeats 4000000 in
set_option maxRecDepth 100000 in
theorem pf_Md_otherWay (M : Nat) (x1 : Int32) (x2 : Int32) (l3 : Int64) : sn_Pf M (f_Md_otherWay M x1 x2 l3) (g_Md_otherWay x1 x2 l3) := pf_Md_otherWay_3 M sn_fuel x1 x2 l3 (0 : Int32)
set_option maxHeartbeats 4000000 in
set_option maxRecDepth 100000 in
theorem pf_Md_nextOf_88 (M : Nat) (fk2 : Int32 → Int32 → Int32 → sn_M) (k2 : Int32 → Int32 → Int32 → sn_G) (hk2 : ∀ (x1 : Int32) (x2 : Int32) (x3 : Int32), sn_Pf M (fk2 x1 x2 x3) (k2 x1 x2 x3)) (x1 : Int32) (x2 : Int32) (x3 : Int32) : sn_Pf M (f_Md_nextOf_88 fk2 M x1 x2 x3) (g_Md_nextOf_88 k2 x1 x2 x3) := hk2 x1 x2 (x3 + (1 : Int32))
set_option maxHeartbeats 4000000 in
set_option maxRecDepth 100000 in
theorem pf_Md_nextOf_36 (M : Nat) (fk2 : Int32 → Int32 → Int32 → sn_M) (k2 : Int32 → Int32 → Int32 → sn_G) (hk2 : ∀ (x1 : Int32) (x2 : Int32) (x3 : Int32), sn_Pf M (fk2 x1 x2 x3) (k2 x1 x2 x3)) (x1 : Int32) (x2 : Int32) (x3 : Int32) (t0 : Int32) : sn_Pf M (f_Md_nextOf_36 fk2 M x1 x2 x3 t0) (g_Md_nextOf_36 k2 x1 x2 x3 t0) := sn_Pf.ite (pf_Md_nextOf_88 M fk2 k2 hk2 x1 x2 x3) (sn_Pf.nn (sn_Pf.cI (pf_Md_areNeighbours M x1 t0) (fun v1 => sn_Pf.ite (pf_Md_nextOf_88 M fk2 k2 hk2 x1 x2 x3) (sn_Pf.gR (k := 48) (by decide) (sn_Pf.aI (k := 48) (by decide) (fun v2 => sn_Pf.ite (pf_Md_nextOf_88 M fk2 k2 hk2 x1 x2 x3) (sn_Pf.nn (sn_Pf.cI (pf_Md_isOpen M x1 t0 (0 : Int32)) (fun v3 => sn_Pf.ite (pf_Md_nextOf_88 M fk2 k2 hk2 x1 x2 x3) (sn_Pf.I))))))))))
set_option maxHeartbeats 4000000 in
set_option maxRecDepth 100000 in
theorem pf_Md_nextOf_2 (M : Nat) : ∀ (n : Nat) (x1 : Int32) (x2 : Int32) (x3 : Int32), sn_Pf M (f_Md_nextOf_2 M n x1 x2 x3) (g_Md_nextOf_2 n x1 x2 x3)
  | 0, _, _, _ => sn_Pf.z0
  | n + 1, x1, x2, x3 => sn_Pf.ite (sn_Pf.I) (sn_Pf.ite (sn_Pf.gR (k := 51) (by decide) (sn_Pf.aI (k := 51) (by decide) (fun v4 => pf_Md_nextOf_36 M (f_Md_nextOf_2 M n) (g_Md_nextOf_2 n) (pf_Md_nextOf_2 M n) x1 x2 x3 v4))) (sn_Pf.gR (k := 50) (by decide) (sn_Pf.aI (k := 50) (by decide) (fun v5 => pf_Md_nextOf_36 M (f_Md_nextOf_2 M n) (g_Md_nextOf_2 n) (pf_Md_nextOf_2 M n) x1 x2 x3 v5))))
set_option maxHeartbeats 4000000 in
set_option maxRecDepth 100000 in
theorem pf_Md_nextOf (M : Nat) (x1 : Int32) (x2 : Int32) : sn_Pf M (f_Md_nextOf M x1 x2) (g_Md_nextOf x1 x2) := pf_Md_nextOf_2 M sn_fuel x1 x2 (0 : Int32)
set_option maxHeartbeats 4000000 in
set_option maxRecDepth 100000 in
theorem pf_Md_look_166 (M : Nat) (fk2 : Int32 → Int32 → sn_M) (k2 : Int32 → Int32 → sn_G) (hk2 : ∀ (x1 : Int32) (x2 : Int32), sn_Pf M (fk2 x1 x2) (k2 x1 x2)) (x1 : Int32) (x2 : Int32) : sn_Pf M (f_Md_look_166 fk2 M x1 x2) (g_Md_look_166 k2 x1 x2) := hk2 x1 (x2 + (1 : Int32))
set_option maxHeartbeats 4000000 in
set_option maxRecDepth 100000 in
theorem pf_Md_look_160 (M : Nat) (fk26 : Int32 → Int32 → Int32 → Int32 → sn_M) (k26 : Int32 → Int32 → Int32 → Int32 → sn_G) (hk26 : ∀ (x1 : Int32) (x2 : Int32) (x3 : Int32) (x4 : Int32), sn_Pf M (fk26 x1 x2 x3 x4) (k26 x1 x2 x3 x4)) (x1 : Int32) (x2 : Int32) (x3 : Int32) (x4 : Int32) : sn_Pf M (f_Md_look_160 fk26 M x1 x2 x3 x4) (g_Md_look_160 k26 x1 x2 x3 x4) := hk26 x1 x2 x3 (x4 + (1 : Int32))
set_option maxHeartbeats 4000000 in
set_option maxRecDepth 100000 in
theorem pf_Md_look_148 (M : Nat) (fk26 : Int32 → Int32 → Int32 → Int32 → sn_M) (k26 : Int32 → Int32 → Int32 → Int32 → sn_G) (hk26 : ∀ (x1 : Int32) (x2 : Int32) (x3 : Int32) (x4 : Int32), sn_Pf M (fk26 x1 x2 x3 x4) (k26 x1 x2 x3 x4)) (x1 : Int32) (x2 : Int32) (x3 : Int32) (x4 : Int32) (t1 : Int32) (t2 : Int32) (t3 : Int32) (t4 : Int32) : sn_Pf M (f_Md_look_148 fk26 M x1 x2 x3 x4 (some M) t1 t2 t3 t4) (g_Md_look_148 k26 x1 x2 x3 x4 t1 t2 t3 t4) := sn_Pf.cJ (pf_Md_message M t4 x1 x4 (0 : Int32) x2 (0 : Int32)) (fun v1 => sn_Pf.nn (sn_Pf.cV (pf_Md_give M t1 t2 t3 v1) (pf_Md_look_160 M fk26 k26 hk26 x1 x2 x3 x4)))
set_option maxHeartbeats 4000000 in
set_option maxRecDepth 100000 in
theorem pf_Md_look_85 (M : Nat) (fk26 : Int32 → Int32 → Int32 → Int32 → sn_M) (k26 : Int32 → Int32 → Int32 → Int32 → sn_G) (hk26 : ∀ (x1 : Int32) (x2 : Int32) (x3 : Int32) (x4 : Int32), sn_Pf M (fk26 x1 x2 x3 x4) (k26 x1 x2 x3 x4)) (x1 : Int32) (x2 : Int32) (x3 : Int32) (x4 : Int32) (t0 : Int32) (ht : t0 = 1 ∨ t0 = 2) : sn_Pf M (f_Md_look_85 fk26 M x1 x2 x3 x4 t0) (g_Md_look_85 k26 x1 x2 x3 x4 t0) := sn_Pf.gR (k := 49) (by decide) (sn_Pf.aI (k := 49) (by decide) (fun v3 => sn_Pf.ite (sn_Pf.gR (k := 49) (by decide) (sn_Pf.b49 (Or.inr ht) (sn_Pf.ite (pf_Md_look_148 M fk26 k26 hk26 x1 x2 x3 x4 x1 x4 (0 : Int32) (6 : Int32)) (pf_Md_look_148 M fk26 k26 hk26 x1 x2 x3 x4 x1 x4 (0 : Int32) (5 : Int32))))) (pf_Md_look_160 M fk26 k26 hk26 x1 x2 x3 x4)))
set_option maxHeartbeats 4000000 in
set_option maxRecDepth 100000 in
theorem pf_Md_look_80 (M : Nat) (fk26 : Int32 → Int32 → Int32 → Int32 → sn_M) (k26 : Int32 → Int32 → Int32 → Int32 → sn_G) (hk26 : ∀ (x1 : Int32) (x2 : Int32) (x3 : Int32) (x4 : Int32), sn_Pf M (fk26 x1 x2 x3 x4) (k26 x1 x2 x3 x4)) (x1 : Int32) (x2 : Int32) (x3 : Int32) (x4 : Int32) : sn_Pf M (f_Md_look_80 fk26 M x1 x2 x3 x4) (g_Md_look_80 k26 x1 x2 x3 x4) := pf_Md_look_85 M fk26 k26 hk26 x1 x2 x3 x4 (1 : Int32) (Or.inl rfl)
set_option maxHeartbeats 4000000 in
set_option maxRecDepth 100000 in
theorem pf_Md_look_26 (M : Nat) (fk2 : Int32 → Int32 → sn_M) (k2 : Int32 → Int32 → sn_G) (hk2 : ∀ (x1 : Int32) (x2 : Int32), sn_Pf M (fk2 x1 x2) (k2 x1 x2)) : ∀ (n : Nat) (x1 : Int32) (x2 : Int32) (x3 : Int32) (x4 : Int32), sn_Pf M (f_Md_look_26 fk2 M n x1 x2 x3 x4) (g_Md_look_26 k2 n x1 x2 x3 x4)
  | 0, _, _, _, _ => sn_Pf.z0
  | n + 1, x1, x2, x3, x4 => sn_Pf.ite (pf_Md_look_166 M fk2 k2 hk2 x1 x2) (sn_Pf.ite (pf_Md_look_160 M (f_Md_look_26 fk2 M n) (g_Md_look_26 k2 n) (pf_Md_look_26 M fk2 k2 hk2 n) x1 x2 x3 x4) (sn_Pf.ite (pf_Md_look_160 M (f_Md_look_26 fk2 M n) (g_Md_look_26 k2 n) (pf_Md_look_26 M fk2 k2 hk2 n) x1 x2 x3 x4) (sn_Pf.nn (sn_Pf.cI (pf_Md_areNeighbours M x1 x4) (fun v4 => sn_Pf.ite (pf_Md_look_160 M (f_Md_look_26 fk2 M n) (g_Md_look_26 k2 n) (pf_Md_look_26 M fk2 k2 hk2 n) x1 x2 x3 x4) (sn_Pf.nn (sn_Pf.cI (pf_Md_isOpen M x1 x4 (0 : Int32)) (fun v5 => sn_Pf.ite (sn_Pf.ite (pf_Md_look_80 M (f_Md_look_26 fk2 M n) (g_Md_look_26 k2 n) (pf_Md_look_26 M fk2 k2 hk2 n) x1 x2 x3 x4) (sn_Pf.ite (pf_Md_look_85 M (f_Md_look_26 fk2 M n) (g_Md_look_26 k2 n) (pf_Md_look_26 M fk2 k2 hk2 n) x1 x2 x3 x4 (2 : Int32) (Or.inr rfl)) (pf_Md_look_80 M (f_Md_look_26 fk2 M n) (g_Md_look_26 k2 n) (pf_Md_look_26 M fk2 k2 hk2 n) x1 x2 x3 x4))) (pf_Md_look_160 M (f_Md_look_26 fk2 M n) (g_Md_look_26 k2 n) (pf_Md_look_26 M fk2 k2 hk2 n) x1 x2 x3 x4)))))))))
set_option maxHeartbeats 4000000 in
set_option maxRecDepth 100000 in
theorem pf_Md_look_2 (M : Nat) : ∀ (n : Nat) (x1 : Int32) (x2 : Int32), sn_Pf M (f_Md_look_2 M n x1 x2) (g_Md_look_2 n x1 x2)
  | 0, _, _ => sn_Pf.z0
  | n + 1, x1, x2 => sn_Pf.ite (sn_Pf.V) (sn_Pf.ite (sn_Pf.nn (sn_Pf.cI (pf_Md_nextOf M x1 x2) (fun v6 => pf_Md_look_26 M (f_Md_look_2 M n) (g_Md_look_2 n) (pf_Md_look_2 M n) sn_fuel x1 x2 v6 (0 : Int32)))) (pf_Md_look_166 M (f_Md_look_2 M n) (g_Md_look_2 n) (pf_Md_look_2 M n) x1 x2))
set_option maxHeartbeats 4000000 in
set_option maxRecDepth 100000 in
theorem pf_Md_look (M : Nat) (x1 : Int32) : sn_Pf M (f_Md_look M x1) (g_Md_look x1) := pf_Md_look_2 M sn_fuel x1 (0 : Int32)
set_option maxHeartbeats 4000000 in
set_option maxRecDepth 100000 in
theorem pf_Md_start_103 (M : Nat) (fk52 : Int32 → Int32 → Int32 → sn_M) (k52 : Int32 → Int32 → Int32 → sn_G) (hk52 : ∀ (x1 : Int32) (x2 : Int32) (x3 : Int32), sn_Pf M (fk52 x1 x2 x3) (k52 x1 x2 x3)) (x1 : Int32) (x2 : Int32) (x3 : Int32) : sn_Pf M (f_Md_start_103 fk52 M x1 x2 x3) (g_Md_start_103 k52 x1 x2 x3) := hk52 x1 x2 (x3 + (1 : Int32))
set_option maxHeartbeats 4000000 in
set_option maxRecDepth 100000 in
theorem pf_Md_start_52 (M : Nat) : ∀ (n : Nat) (x1 : Int32) (x2 : Int32) (x3 : Int32), sn_Pf M (f_Md_start_52 M n x1 x2 x3) (g_Md_start_52 n x1 x2 x3)
  | 0, _, _, _ => sn_Pf.z0
  | n + 1, x1, x2, x3 => sn_Pf.gS (k := 4) rfl (fun v1 => sn_Pf.ite (sn_Pf.V) (sn_Pf.ite (pf_Md_start_103 M (f_Md_start_52 M n) (g_Md_start_52 n) (pf_Md_start_52 M n) x1 x2 x3) (sn_Pf.nn (sn_Pf.cI (pf_Md_otherOf M x1) (fun v2 => sn_Pf.nn (sn_Pf.cI (pf_Md_isOf M x3 x2 v2) (fun v3 => sn_Pf.ite (pf_Md_start_103 M (f_Md_start_52 M n) (g_Md_start_52 n) (pf_Md_start_52 M n) x1 x2 x3) (sn_Pf.gR (k := 10) (by decide) (sn_Pf.nn (sn_Pf.cI (pf_Md_endAt M x3 x2) (fun v4 => sn_Pf.aI (k := 10) (by decide) (fun v5 => sn_Pf.ite (pf_Md_start_103 M (f_Md_start_52 M n) (g_Md_start_52 n) (pf_Md_start_52 M n) x1 x2 x3) (sn_Pf.gR (k := 23) (by decide) (sn_Pf.bZ (k := 23) (by decide) (pf_Md_start_103 M (f_Md_start_52 M n) (g_Md_start_52 n) (pf_Md_start_52 M n) x1 x2 x3)))))))))))))))
set_option maxHeartbeats 4000000 in
set_option maxRecDepth 100000 in
theorem pf_Md_start (M : Nat) (x1 : Int32) : sn_Pf M (f_Md_start M x1) (g_Md_start x1) := sn_Pf.nn (sn_Pf.cI (pf_Md_exchangeOf M x1) (fun v6 => sn_Pf.gR (k := 10) (by decide) (sn_Pf.bI (k := 10) (by decide) (sn_Pf.gR (k := 11) (by decide) (sn_Pf.gS (k := 6) rfl (fun v7 => sn_Pf.bI (k := 11) (by decide) (sn_Pf.gR (k := 37) (by decide) (sn_Pf.gR (k := 37) (by decide) (sn_Pf.aI (k := 37) (by decide) (fun v8 => sn_Pf.bI (k := 37) (by decide) (sn_Pf.gR (k := 23) (by decide) (sn_Pf.bZ (k := 23) (by decide) (pf_Md_start_52 M sn_fuel x1 v6 (0 : Int32))))))))))))))
set_option maxHeartbeats 4000000 in
set_option maxRecDepth 100000 in
theorem pf_Md_fail_196 (M : Nat) (x3 : Int32) : sn_Pf M (f_Md_fail_196 M x3) (g_Md_fail_196 x3) := sn_Pf.nn (sn_Pf.cV (pf_Md_look M x3) (sn_Pf.V))
set_option maxHeartbeats 4000000 in
set_option maxRecDepth 100000 in
theorem pf_Md_fail_152 (M : Nat) (fk85 : Int32 → Int32 → Int32 → Int32 → Int32 → sn_M) (k85 : Int32 → Int32 → Int32 → Int32 → Int32 → sn_G) (hk85 : ∀ (x1 : Int32) (x2 : Int32) (x3 : Int32) (x4 : Int32) (x6 : Int32), sn_Pf M (fk85 x1 x2 x3 x4 x6) (k85 x1 x2 x3 x4 x6)) (x1 : Int32) (x2 : Int32) (x3 : Int32) (x4 : Int32) (x6 : Int32) : sn_Pf M (f_Md_fail_152 fk85 M x1 x2 x3 x4 x6) (g_Md_fail_152 k85 x1 x2 x3 x4 x6) := hk85 x1 x2 x3 x4 (x6 + (1 : Int32))
set_option maxHeartbeats 4000000 in
set_option maxRecDepth 100000 in
theorem pf_Md_fail_85 (M : Nat) : ∀ (n : Nat) (x1 : Int32) (x2 : Int32) (x3 : Int32) (x4 : Int32) (x6 : Int32), sn_Pf M (f_Md_fail_85 M n x1 x2 x3 x4 x6) (g_Md_fail_85 n x1 x2 x3 x4 x6)
  | 0, _, _, _, _, _ => sn_Pf.z0
  | n + 1, x1, x2, x3, x4, x6 => sn_Pf.ite (sn_Pf.ite (pf_Md_fail_196 M x3) (sn_Pf.gR (k := 37) (by decide) (sn_Pf.aI (k := 37) (by decide) (fun v2 => sn_Pf.gR (k := 13) (by decide) (sn_Pf.aI (k := 13) (by decide) (fun v3 => sn_Pf.cJ (pf_Md_message M (1 : Int32) x3 x4 (0 : Int32) ((x1 >>> ((1 : Int32) &&& 31)) + ((16 : Int32) * v2)) v3) (fun v4 => sn_Pf.nn (sn_Pf.cV (pf_Md_otherWay M x3 x4 v4) (pf_Md_fail_196 M x3))))))))) (sn_Pf.nn (sn_Pf.cI (pf_Md_flowAt M x3 x4 x6) (fun v6 => sn_Pf.gR (k := 41) (by decide) (sn_Pf.aI (k := 41) (by decide) (fun v7 => sn_Pf.ite (sn_Pf.gR (k := 41) (by decide) (sn_Pf.bI (k := 41) (by decide) (sn_Pf.gR (k := 42) (by decide) (sn_Pf.bI (k := 42) (by decide) (sn_Pf.gR (k := 43) (by decide) (sn_Pf.bI (k := 43) (by decide) (sn_Pf.gR (k := 44) (by decide) (sn_Pf.bI (k := 44) (by decide) (pf_Md_fail_152 M (f_Md_fail_85 M n) (g_Md_fail_85 n) (pf_Md_fail_85 M n) x1 x2 x3 x4 x6))))))))) (pf_Md_fail_152 M (f_Md_fail_85 M n) (g_Md_fail_85 n) (pf_Md_fail_85 M n) x1 x2 x3 x4 x6))))))
set_option maxHeartbeats 4000000 in
set_option maxRecDepth 100000 in
theorem pf_Md_fail_28 (M : Nat) (x1 : Int32) (x2 : Int32) (x3 : Int32) (x4 : Int32) (t0 : Int32) : sn_Pf M (f_Md_fail_28 M x1 x2 x3 x4 t0) (g_Md_fail_28 x1 x2 x3 x4 t0) := sn_Pf.gR (k := 10) (by decide) (sn_Pf.bI (k := 10) (by decide) (sn_Pf.gR (k := 11) (by decide) (sn_Pf.gS (k := 6) rfl (fun v8 => sn_Pf.bI (k := 11) (by decide) (sn_Pf.gR (k := 20) (by decide) (sn_Pf.bI (k := 20) (by decide) (sn_Pf.gR (k := 21) (by decide) (sn_Pf.bI (k := 21) (by decide) (sn_Pf.ite (pf_Md_fail_196 M x3) (sn_Pf.gR (k := 40) (by decide) (sn_Pf.gS (k := 6) rfl (fun v9 => sn_Pf.bI (k := 40) (by decide) (pf_Md_fail_85 M sn_fuel x1 x2 x3 x4 (0 : Int32))))))))))))))
set_option maxHeartbeats 4000000 in
set_option maxRecDepth 100000 in
theorem pf_Md_fail (M : Nat) (x1 : Int32) (x2 : Int32) : sn_Pf M (f_Md_fail M x1 x2) (g_Md_fail x1 x2) := sn_Pf.nn (sn_Pf.cI (pf_Md_exchangeOf M x1) (fun v10 => sn_Pf.nn (sn_Pf.cI (pf_Md_otherOf M x1) (fun v11 => sn_Pf.gR (k := 10) (by decide) (sn_Pf.aI (k := 10) (by decide) (fun v12 => sn_Pf.ite (pf_Md_fail_28 M x1 x2 v10 v11 (0 : Int32)) (pf_Md_fail_28 M x1 x2 v10 v11 (1 : Int32))))))))
set_option maxHeartbeats 4000000 in
set_option maxRecDepth 100000 in
theorem pf_Md_up_45 (M : Nat) (fk18 : Int32 → Int32 → Int32 → Int32 → sn_M) (k18 : Int32 → Int32 → Int32 → Int32 → sn_G) (hk18 : ∀ (x2 : Int32) (x3 : Int32) (x4 : Int32) (x5 : Int32), sn_Pf M (fk18 x2 x3 x4 x5) (k18 x2 x3 x4 x5)) (x2 : Int32) (x3 : Int32) (x5 : Int32) (t0 : Int32) : sn_Pf M (f_Md_up_45 fk18 M x2 x3 x5 t0) (g_Md_up_45 k18 x2 x3 x5 t0) := hk18 x2 x3 t0 (x5 + (1 : Int32))
set_option maxHeartbeats 4000000 in
set_option maxRecDepth 100000 in
theorem pf_Md_up_40 (M : Nat) (fk18 : Int32 → Int32 → Int32 → Int32 → sn_M) (k18 : Int32 → Int32 → Int32 → Int32 → sn_G) (hk18 : ∀ (x2 : Int32) (x3 : Int32) (x4 : Int32) (x5 : Int32), sn_Pf M (fk18 x2 x3 x4 x5) (k18 x2 x3 x4 x5)) (x2 : Int32) (x3 : Int32) (x5 : Int32) : sn_Pf M (f_Md_up_40 fk18 M x2 x3 x5) (g_Md_up_40 k18 x2 x3 x5) := pf_Md_up_45 M fk18 k18 hk18 x2 x3 x5 (1 : Int32)
set_option maxHeartbeats 4000000 in
set_option maxRecDepth 100000 in
theorem pf_Md_up_197 (M : Nat) (fk56 : Int32 → Int32 → Int32 → Int32 → sn_M) (k56 : Int32 → Int32 → Int32 → Int32 → sn_G) (hk56 : ∀ (x2 : Int32) (x3 : Int32) (x4 : Int32) (x5 : Int32), sn_Pf M (fk56 x2 x3 x4 x5) (k56 x2 x3 x4 x5)) (x2 : Int32) (x3 : Int32) (x4 : Int32) (x5 : Int32) : sn_Pf M (f_Md_up_197 fk56 M x2 x3 x4 x5) (g_Md_up_197 k56 x2 x3 x4 x5) := hk56 x2 x3 x4 (x5 + (1 : Int32))
set_option maxHeartbeats 4000000 in
set_option maxRecDepth 100000 in
theorem pf_Md_up_242 (M : Nat) (x2 : Int32) : sn_Pf M (f_Md_up_242 M x2) (g_Md_up_242 x2) := sn_Pf.nn (sn_Pf.cV (pf_Md_look M x2) (sn_Pf.V))
set_option maxHeartbeats 4000000 in
set_option maxRecDepth 100000 in
theorem pf_Md_up_206 (M : Nat) : ∀ (n : Nat) (x2 : Int32) (x3 : Int32) (x4 : Int32) (x5 : Int32), sn_Pf M (f_Md_up_206 M n x2 x3 x4 x5) (g_Md_up_206 n x2 x3 x4 x5)
  | 0, _, _, _, _ => sn_Pf.z0
  | n + 1, x2, x3, x4, x5 => sn_Pf.ite (pf_Md_up_242 M x2) (sn_Pf.ite (pf_Md_up_242 M x2) (sn_Pf.gR (k := 49) (by decide) (sn_Pf.b49 (Or.inl rfl) (pf_Md_up_206 M n x2 x3 x4 (x5 + (1 : Int32))))))
set_option maxHeartbeats 4000000 in
set_option maxRecDepth 100000 in
theorem pf_Md_up_56 (M : Nat) : ∀ (n : Nat) (x2 : Int32) (x3 : Int32) (x4 : Int32) (x5 : Int32), sn_Pf M (f_Md_up_56 M n x2 x3 x4 x5) (g_Md_up_56 n x2 x3 x4 x5)
  | 0, _, _, _, _ => sn_Pf.z0
  | n + 1, x2, x3, x4, x5 => sn_Pf.ite (pf_Md_up_206 M sn_fuel x2 x3 x4 (0 : Int32)) (sn_Pf.nn (sn_Pf.cI (pf_Md_flowAt M x2 x3 x5) (fun v2 => sn_Pf.gR (k := 42) (by decide) (sn_Pf.aI (k := 42) (by decide) (fun v3 => sn_Pf.ite (sn_Pf.nn (sn_Pf.cI (pf_Md_bestOf M x2 x3 x5) (fun v4 => sn_Pf.gR (k := 41) (by decide) (sn_Pf.aI (k := 41) (by decide) (fun v5 => sn_Pf.ite (sn_Pf.gR (k := 41) (by decide) (sn_Pf.aI (k := 41) (by decide) (fun v6 => sn_Pf.ite (pf_Md_up_197 M (f_Md_up_56 M n) (g_Md_up_56 n) (pf_Md_up_56 M n) x2 x3 x4 x5) (sn_Pf.gR (k := 45) (by decide) (sn_Pf.gR (k := 45) (by decide) (sn_Pf.aI (k := 45) (by decide) (fun v7 => sn_Pf.bI (k := 45) (by decide) (sn_Pf.gR (k := 45) (by decide) (sn_Pf.aI (k := 45) (by decide) (fun v8 => sn_Pf.cJ (pf_Md_message M (3 : Int32) x2 x3 x5 x5 v8) (fun v9 => sn_Pf.nn (sn_Pf.cV (pf_Md_give M x2 x3 x5 v9) (sn_Pf.gR (k := 42) (by decide) (sn_Pf.bI (k := 42) (by decide) (sn_Pf.gR (k := 44) (by decide) (sn_Pf.gS (k := 6) rfl (fun v11 => sn_Pf.bI (k := 44) (by decide) (pf_Md_up_197 M (f_Md_up_56 M n) (g_Md_up_56 n) (pf_Md_up_56 M n) x2 x3 x4 x5)))))))))))))))))) (sn_Pf.gR (k := 41) (by decide) (sn_Pf.bI (k := 41) (by decide) (pf_Md_up_197 M (f_Md_up_56 M n) (g_Md_up_56 n) (pf_Md_up_56 M n) x2 x3 x4 x5)))))))) (pf_Md_up_197 M (f_Md_up_56 M n) (g_Md_up_56 n) (pf_Md_up_56 M n) x2 x3 x4 x5))))))
set_option maxHeartbeats 4000000 in
set_option maxRecDepth 100000 in
theorem pf_Md_up_18 (M : Nat) : ∀ (n : Nat) (x2 : Int32) (x3 : Int32) (x4 : Int32) (x5 : Int32), sn_Pf M (f_Md_up_18 M n x2 x3 x4 x5) (g_Md_up_18 n x2 x3 x4 x5)
  | 0, _, _, _, _ => sn_Pf.z0
  | n + 1, x2, x3, x4, x5 => sn_Pf.ite (pf_Md_up_56 M sn_fuel x2 x3 x4 (0 : Int32)) (sn_Pf.ite (pf_Md_up_40 M (f_Md_up_18 M n) (g_Md_up_18 n) (pf_Md_up_18 M n) x2 x3 x5) (sn_Pf.nn (sn_Pf.cI (pf_Md_isOpen M x2 x3 x5) (fun v12 => sn_Pf.ite (pf_Md_up_45 M (f_Md_up_18 M n) (g_Md_up_18 n) (pf_Md_up_18 M n) x2 x3 x5 (0 : Int32)) (pf_Md_up_40 M (f_Md_up_18 M n) (g_Md_up_18 n) (pf_Md_up_18 M n) x2 x3 x5)))))
set_option maxHeartbeats 4000000 in
set_option maxRecDepth 100000 in
theorem pf_Md_up (M : Nat) (x1 : Int32) : sn_Pf M (f_Md_up M x1) (g_Md_up x1) := sn_Pf.nn (sn_Pf.cI (pf_Md_exchangeOf M x1) (fun v13 => sn_Pf.nn (sn_Pf.cI (pf_Md_otherOf M x1) (fun v14 => pf_Md_up_18 M sn_fuel v13 v14 (0 : Int32) (0 : Int32)))))
set_option maxHeartbeats 4000000 in
set_option maxRecDepth 100000 in
theorem pf_Md_align (M : Nat) (x1 : Int32) : sn_Pf M (f_Md_align M x1) (g_Md_align x1) := sn_Pf.gR (k := 10) (by decide) (sn_Pf.bI (k := 10) (by decide) (sn_Pf.gR (k := 11) (by decide) (sn_Pf.gS (k := 6) rfl (fun v1 => sn_Pf.bI (k := 11) (by decide) (sn_Pf.V)))))
set_option maxHeartbeats 4000000 in
set_option maxRecDepth 100000 in
theorem pf_Md_prove_33 (M : Nat) (t1 : Int32) (t2 : Int32) (t3 : Int32) : sn_Pf M (f_Md_prove_33 M (some (md_ad M 11)) t1 t2 t3) (g_Md_prove_33 t1 t2 t3) := sn_Pf.bI (k := 11) (by decide) (sn_Pf.V)
set_option maxHeartbeats 4000000 in
set_option maxRecDepth 100000 in
theorem pf_Md_prove (M : Nat) (x1 : Int32) (x2 : Int32) : sn_Pf M (f_Md_prove M x1 x2) (g_Md_prove x1 x2) := sn_Pf.gR (k := 24) (by decide) (sn_Pf.bZ (k := 24) (by decide) (sn_Pf.gR (k := 18) (by decide) (sn_Pf.bI (k := 18) (by decide) (sn_Pf.gR (k := 11) (by decide) (sn_Pf.gS (k := 6) rfl (fun v1 => sn_Pf.ite (pf_Md_prove_33 M x1 v1 (8 : Int32)) (pf_Md_prove_33 M x1 v1 (3 : Int32))))))))
set_option maxHeartbeats 4000000 in
set_option maxRecDepth 100000 in
theorem pf_Md_proving_127 (M : Nat) : sn_Pf M (f_Md_proving_127 M) (g_Md_proving_127) := sn_Pf.V
set_option maxHeartbeats 4000000 in
set_option maxRecDepth 100000 in
theorem pf_Md_proving_34 (M : Nat) (x1 : Int32) (t0 : Int32) (t1 : Int32) : sn_Pf M (f_Md_proving_34 M x1 t0 t1) (g_Md_proving_34 x1 t0 t1) := sn_Pf.ite (sn_Pf.gR (k := 17) (by decide) (sn_Pf.aI (k := 17) (by decide) (fun v1 => sn_Pf.bI (k := 17) (by decide) (sn_Pf.gR (k := 17) (by decide) (sn_Pf.aI (k := 17) (by decide) (fun v2 => sn_Pf.ite (sn_Pf.gR (k := 24) (by decide) (sn_Pf.aI (k := 24) (by decide) (fun v3 => sn_Pf.nn (sn_Pf.cV (pf_Md_prove M x1 v3) (pf_Md_proving_127 M))))) (sn_Pf.nn (sn_Pf.cV (pf_Md_fail M x1 (0 : Int32)) (pf_Md_proving_127 M))))))))) (sn_Pf.V)
set_option maxHeartbeats 4000000 in
set_option maxRecDepth 100000 in
theorem pf_Md_proving_117 (M : Nat) (x1 : Int32) (x3 : Int32) : sn_Pf M (f_Md_proving_117 M x1 x3) (g_Md_proving_117 x1 x3) := sn_Pf.ite (pf_Md_proving_127 M) (sn_Pf.nn (sn_Pf.cV (pf_Md_fail M x1 (0 : Int32)) (pf_Md_proving_127 M)))
set_option maxHeartbeats 4000000 in
set_option maxRecDepth 100000 in
theorem pf_Md_proving (M : Nat) (x1 : Int32) (x2 : Int32) (x3 : Int32) : sn_Pf M (f_Md_proving M x1 x2 x3) (g_Md_proving x1 x2 x3) := sn_Pf.ite (sn_Pf.ite (sn_Pf.ite (pf_Md_proving_117 M x1 x3) (sn_Pf.gR (k := 24) (by decide) (sn_Pf.aI (k := 24) (by decide) (fun v7 => sn_Pf.ite (pf_Md_proving_117 M x1 x3) (sn_Pf.nn (sn_Pf.cV (pf_Md_prove M x1 (1 : Int32)) (pf_Md_proving_127 M))))))) (sn_Pf.nn (sn_Pf.cV (pf_Md_align M x1) (pf_Md_proving_127 M)))) (sn_Pf.gR (k := 18) (by decide) (sn_Pf.aI (k := 18) (by decide) (fun v10 => sn_Pf.bI (k := 18) (by decide) (sn_Pf.gR (k := 18) (by decide) (sn_Pf.aI (k := 18) (by decide) (fun v11 => sn_Pf.gR (k := 24) (by decide) (sn_Pf.aI (k := 24) (by decide) (fun v12 => sn_Pf.ite (pf_Md_proving_34 M x1 v11 (2 : Int32)) (pf_Md_proving_34 M x1 v11 (1 : Int32))))))))))
set_option maxHeartbeats 4000000 in
set_option maxRecDepth 100000 in
theorem pf_Md_acknowledge_136 (M : Nat) : sn_Pf M (f_Md_acknowledge_136 M) (g_Md_acknowledge_136) := sn_Pf.V
set_option maxHeartbeats 4000000 in
set_option maxRecDepth 100000 in
theorem pf_Md_acknowledge_114 (M : Nat) (x1 : Int32) : sn_Pf M (f_Md_acknowledge_114 M x1) (g_Md_acknowledge_114 x1) := sn_Pf.gR (k := 21) (by decide) (sn_Pf.aI (k := 21) (by decide) (fun v1 => sn_Pf.gR (k := 27) (by decide) (sn_Pf.aI (k := 27) (by decide) (fun v2 => sn_Pf.ite (pf_Md_acknowledge_136 M) (sn_Pf.gR (k := 21) (by decide) (sn_Pf.bI (k := 21) (by decide) (pf_Md_acknowledge_136 M)))))))
set_option maxHeartbeats 4000000 in
set_option maxRecDepth 100000 in
theorem pf_Md_acknowledge_113 (M : Nat) (x1 : Int32) (t1 : Int32) (t2 : Int32) : sn_Pf M (f_Md_acknowledge_113 M x1 (some (md_ad M 21)) t1 t2) (g_Md_acknowledge_113 x1 t1 t2) := sn_Pf.bI (k := 21) (by decide) (pf_Md_acknowledge_114 M x1)
set_option maxHeartbeats 4000000 in
set_option maxRecDepth 100000 in
theorem pf_Md_acknowledge_2 (M : Nat) : ∀ (n : Nat) (x1 : Int32) (x2 : Int32) (x3 : Int32), sn_Pf M (f_Md_acknowledge_2 M n x1 x2 x3) (g_Md_acknowledge_2 n x1 x2 x3)
  | 0, _, _, _ => sn_Pf.z0
  | n + 1, x1, x2, x3 => sn_Pf.gR (k := 27) (by decide) (sn_Pf.aI (k := 27) (by decide) (fun v3 => sn_Pf.ite (sn_Pf.gR (k := 27) (by decide) (sn_Pf.aI (k := 27) (by decide) (fun v4 => sn_Pf.bI (k := 27) (by decide) (sn_Pf.gR (k := 21) (by decide) (sn_Pf.aI (k := 21) (by decide) (fun v5 => sn_Pf.ite (pf_Md_acknowledge_114 M x1) (sn_Pf.gR (k := 21) (by decide) (sn_Pf.gR (k := 21) (by decide) (sn_Pf.aI (k := 21) (by decide) (fun v6 => sn_Pf.ite (pf_Md_acknowledge_113 M x1 x1 (0 : Int32)) (sn_Pf.gR (k := 21) (by decide) (sn_Pf.aI (k := 21) (by decide) (fun v7 => pf_Md_acknowledge_113 M x1 x1 (v7 - x2)))))))))))))) (sn_Pf.gR (k := 25) (by decide) (sn_Pf.gR (k := 25) (by decide) (sn_Pf.aJ (k := 25) (by decide) (fun v8 => sn_Pf.bJ (k := 25) (by decide) (sn_Pf.gR (k := 26) (by decide) (sn_Pf.gR (k := 26) (by decide) (sn_Pf.aI (k := 26) (by decide) (fun v9 => sn_Pf.bI (k := 26) (by decide) (pf_Md_acknowledge_2 M n x1 x2 (x3 + (1 : Int32)))))))))))))
set_option maxHeartbeats 4000000 in
set_option maxRecDepth 100000 in
theorem pf_Md_acknowledge (M : Nat) (x1 : Int32) (x2 : Int32) : sn_Pf M (f_Md_acknowledge M x1 x2) (g_Md_acknowledge x1 x2) := pf_Md_acknowledge_2 M sn_fuel x1 x2 x2
set_option maxHeartbeats 4000000 in
set_option maxRecDepth 100000 in
theorem pf_Md_backEnds_140 (M : Nat) (fk95 : Int32 → Int32 → Int32 → Int32 → Int32 → Int32 → sn_M) (k95 : Int32 → Int32 → Int32 → Int32 → Int32 → Int32 → sn_G) (hk95 : ∀ (x1 : Int32) (x2 : Int32) (x3 : Int32) (x4 : Int32) (x5 : Int32) (x6 : Int32), sn_Pf M (fk95 x1 x2 x3 x4 x5 x6) (k95 x1 x2 x3 x4 x5 x6)) (x1 : Int32) (x2 : Int32) (x3 : Int32) (x4 : Int32) (x5 : Int32) (x6 : Int32) : sn_Pf M (f_Md_backEnds_140 fk95 M x1 x2 x3 x4 x5 x6) (g_Md_backEnds_140 k95 x1 x2 x3 x4 x5 x6) := hk95 x1 x2 x3 x4 x5 (x6 + (1 : Int32))
set_option maxHeartbeats 4000000 in
set_option maxRecDepth 100000 in
theorem pf_Md_backEnds_95 (M : Nat) : ∀ (n : Nat) (x1 : Int32) (x2 : Int32) (x3 : Int32) (x4 : Int32) (x5 : Int32) (x6 : Int32), sn_Pf M (f_Md_backEnds_95 M n x1 x2 x3 x4 x5 x6) (g_Md_backEnds_95 n x1 x2 x3 x4 x5 x6)
  | 0, _, _, _, _, _, _ => sn_Pf.z0
  | n + 1, x1, x2, x3, x4, x5, x6 => sn_Pf.ite (sn_Pf.V) (sn_Pf.gR (k := 41) (by decide) (sn_Pf.aI (k := 41) (by decide) (fun v1 => sn_Pf.ite (sn_Pf.gR (k := 63) (by decide) (sn_Pf.aJ (k := 63) (by decide) (fun v2 => sn_Pf.nn (sn_Pf.cV (pf_Md_give M x1 x2 x3 v2) (pf_Md_backEnds_140 M (f_Md_backEnds_95 M n) (g_Md_backEnds_95 n) (pf_Md_backEnds_95 M n) x1 x2 x3 x4 x5 x6))))) (sn_Pf.gS (k := 7) rfl (fun v4 => sn_Pf.pS (k := 7) rfl (pf_Md_backEnds_140 M (f_Md_backEnds_95 M n) (g_Md_backEnds_95 n) (pf_Md_backEnds_95 M n) x1 x2 x3 x4 x5 x6))))))
set_option maxHeartbeats 4000000 in
set_option maxRecDepth 100000 in
theorem pf_Md_backEnds_59 (M : Nat) : ∀ (n : Nat) (x1 : Int32) (x2 : Int32) (x3 : Int32) (x4 : Int32) (x5 : Int32) (x6 : Int32), sn_Pf M (f_Md_backEnds_59 M n x1 x2 x3 x4 x5 x6) (g_Md_backEnds_59 n x1 x2 x3 x4 x5 x6)
  | 0, _, _, _, _, _, _ => sn_Pf.z0
  | n + 1, x1, x2, x3, x4, x5, x6 => sn_Pf.ite (pf_Md_backEnds_95 M sn_fuel x1 x2 x3 x4 x5 (0 : Int32)) (sn_Pf.gR (k := 63) (by decide) (sn_Pf.gR (k := 46) (by decide) (sn_Pf.aJ (k := 46) (by decide) (fun v5 => sn_Pf.bJ (k := 63) (by decide) (pf_Md_backEnds_59 M n x1 x2 x3 x4 x5 (x6 + (1 : Int32)))))))
set_option maxHeartbeats 4000000 in
set_option maxRecDepth 100000 in
theorem pf_Md_backEnds (M : Nat) (x1 : Int32) (x2 : Int32) (x3 : Int32) : sn_Pf M (f_Md_backEnds M x1 x2 x3) (g_Md_backEnds x1 x2 x3) := sn_Pf.nn (sn_Pf.cI (pf_Md_flowAt M x1 x2 x3) (fun v6 => sn_Pf.gR (k := 47) (by decide) (sn_Pf.aI (k := 47) (by decide) (fun v7 => sn_Pf.gR (k := 42) (by decide) (sn_Pf.bI (k := 42) (by decide) (sn_Pf.gR (k := 44) (by decide) (sn_Pf.bI (k := 44) (by decide) (sn_Pf.gR (k := 41) (by decide) (sn_Pf.nn (sn_Pf.cI (pf_Md_bestOf M x1 x2 x3) (fun v8 => sn_Pf.bI (k := 41) (by decide) (sn_Pf.gR (k := 47) (by decide) (sn_Pf.bI (k := 47) (by decide) (pf_Md_backEnds_59 M sn_fuel x1 x2 x3 v6 v7 (0 : Int32)))))))))))))))
set_option maxHeartbeats 4000000 in
set_option maxRecDepth 100000 in
theorem pf_Md_says (M : Nat) (x1 : Int32) (x2 : Int32) (x3 : Int32) (x4 : Int32) : sn_Pf M (f_Md_says M x1 x2 x3 x4) (g_Md_says x1 x2 x3 x4) := sn_Pf.nI (fun n1 => sn_Pf.nI (fun n2 => sn_Pf.cJ (pf_Md_message M x2 n1 n2 (x1 % (4 : Int32)) ((x1 % (4 : Int32)) + ((4 : Int32) * x3)) x4) (fun v3 => sn_Pf.nn (sn_Pf.cV (pf_Md_route M n1 n2 v3 (-1 : Int32)) (sn_Pf.V)))))
set_option maxHeartbeats 4000000 in
set_option maxRecDepth 100000 in
theorem pf_Md_say (M : Nat) (x1 : Int32) (x2 : Int32) (x3 : Int32) : sn_Pf M (f_Md_say M x1 x2 x3) (g_Md_say x1 x2 x3) := sn_Pf.gR (k := 59) (by decide) (sn_Pf.aI (k := 59) (by decide) (fun v1 => sn_Pf.nn (sn_Pf.cV (pf_Md_says M x1 x2 v1 x3) (sn_Pf.V))))
set_option maxHeartbeats 4000000 in
set_option maxRecDepth 100000 in
theorem pf_Md_back_61 (M : Nat) : sn_Pf M (f_Md_back_61 M) (g_Md_back_61) := sn_Pf.V
set_option maxHeartbeats 4000000 in
set_option maxRecDepth 100000 in
theorem pf_Md_back_38 (M : Nat) (x1 : Int32) (x2 : Int32) : sn_Pf M (f_Md_back_38 M x1 x2) (g_Md_back_38 x1 x2) := sn_Pf.ite (pf_Md_back_61 M) (sn_Pf.gR (k := 61) (by decide) (sn_Pf.aI (k := 61) (by decide) (fun v1 => sn_Pf.ite (pf_Md_back_61 M) (sn_Pf.gR (k := 61) (by decide) (sn_Pf.bI (k := 61) (by decide) (pf_Md_back_61 M))))))
set_option maxHeartbeats 4000000 in
set_option maxRecDepth 100000 in
theorem pf_Md_back_116 (M : Nat) : sn_Pf M (f_Md_back_116 M) (g_Md_back_116) := sn_Pf.V
set_option maxHeartbeats 4000000 in
set_option maxRecDepth 100000 in
theorem pf_Md_back_99 (M : Nat) (x2 : Int32) (x3 : Int32) : sn_Pf M (f_Md_back_99 M x2 x3) (g_Md_back_99 x2 x3) := sn_Pf.nn (sn_Pf.cV (pf_Md_say M x3 x2 (0 : Int32)) (sn_Pf.gR (k := 52) (by decide) (sn_Pf.aI (k := 52) (by decide) (fun v3 => sn_Pf.bI (k := 52) (by decide) (pf_Md_back_116 M)))))
set_option maxHeartbeats 4000000 in
set_option maxRecDepth 100000 in
theorem pf_Md_back_83 (M : Nat) (x2 : Int32) (x3 : Int32) : sn_Pf M (f_Md_back_83 M x2 x3) (g_Md_back_83 x2 x3) := sn_Pf.ite (pf_Md_back_116 M) (sn_Pf.gR (k := 52) (by decide) (sn_Pf.aI (k := 52) (by decide) (fun v4 => sn_Pf.ite (pf_Md_back_116 M) (pf_Md_back_99 M x2 x3))))
set_option maxHeartbeats 4000000 in
set_option maxRecDepth 100000 in
theorem pf_Md_back (M : Nat) (x1 : Int32) (x2 : Int32) : sn_Pf M (f_Md_back M x1 x2) (g_Md_back x1 x2) := sn_Pf.ite (sn_Pf.ite (sn_Pf.nI (fun n5 => sn_Pf.ite (pf_Md_back_83 M x2 n5) (sn_Pf.gR (k := 52) (by decide) (sn_Pf.aI (k := 52) (by decide) (fun v6 => sn_Pf.ite (pf_Md_back_99 M x2 n5) (pf_Md_back_83 M x2 n5)))))) (sn_Pf.ite (pf_Md_back_38 M x1 x2) (sn_Pf.gR (k := 61) (by decide) (sn_Pf.aI (k := 61) (by decide) (fun v7 => sn_Pf.ite (pf_Md_back_38 M x1 x2) (sn_Pf.gR (k := 61) (by decide) (sn_Pf.bI (k := 61) (by decide) (pf_Md_back_61 M)))))))) (sn_Pf.V)
set_option maxHeartbeats 4000000 in
set_option maxRecDepth 100000 in
theorem pf_Md_becomes_83 (M : Nat) : sn_Pf M (f_Md_becomes_83 M) (g_Md_becomes_83) := sn_Pf.V
set_option maxHeartbeats 4000000 in
set_option maxRecDepth 100000 in
theorem pf_Md_becomes_76 (M : Nat) (x1 : Int32) : sn_Pf M (f_Md_becomes_76 M x1) (g_Md_becomes_76 x1) := sn_Pf.gR (k := 60) (by decide) (sn_Pf.bI (k := 60) (by decide) (pf_Md_becomes_83 M))
set_option maxHeartbeats 4000000 in
set_option maxRecDepth 100000 in
theorem pf_Md_becomes_66 (M : Nat) (x1 : Int32) (x2 : Int32) : sn_Pf M (f_Md_becomes_66 M x1 x2) (g_Md_becomes_66 x1 x2) := sn_Pf.ite (pf_Md_becomes_76 M x1) (sn_Pf.ite (pf_Md_becomes_83 M) (pf_Md_becomes_76 M x1))
set_option maxHeartbeats 4000000 in
set_option maxRecDepth 100000 in
theorem pf_Md_becomes_59 (M : Nat) (x1 : Int32) (x2 : Int32) : sn_Pf M (f_Md_becomes_59 M x1 x2) (g_Md_becomes_59 x1 x2) := sn_Pf.gR (k := 58) (by decide) (sn_Pf.bI (k := 58) (by decide) (pf_Md_becomes_66 M x1 x2))
set_option maxHeartbeats 4000000 in
set_option maxRecDepth 100000 in
theorem pf_Md_becomes_48 (M : Nat) (x1 : Int32) (x2 : Int32) (t1 : Int32) (t2 : Int32) : sn_Pf M (f_Md_becomes_48 M x1 x2 (some (md_ad M 54)) t1 t2) (g_Md_becomes_48 x1 x2 t1 t2) := sn_Pf.bI (k := 54) (by decide) (sn_Pf.ite (pf_Md_becomes_59 M x1 x2) (sn_Pf.ite (pf_Md_becomes_66 M x1 x2) (pf_Md_becomes_59 M x1 x2)))
set_option maxHeartbeats 4000000 in
set_option maxRecDepth 100000 in
theorem pf_Md_becomes_26 (M : Nat) (x1 : Int32) (x2 : Int32) (x4 : Int32) (t1 : Int32) (t2 : Int32) : sn_Pf M (f_Md_becomes_26 M x1 x2 x4 (some (md_ad M 53)) t1 t2) (g_Md_becomes_26 x1 x2 x4 t1 t2) := sn_Pf.bI (k := 53) (by decide) (sn_Pf.gR (k := 54) (by decide) (sn_Pf.ite (sn_Pf.gS (k := 6) rfl (fun v1 => pf_Md_becomes_48 M x1 x2 x1 (v1 + x4))) (pf_Md_becomes_48 M x1 x2 x1 (0 : Int32))))
set_option maxHeartbeats 4000000 in
set_option maxRecDepth 100000 in
theorem pf_Md_becomes (M : Nat) (x1 : Int32) (x2 : Int32) (x3 : Int32) (x4 : Int32) : sn_Pf M (f_Md_becomes M x1 x2 x3 x4) (g_Md_becomes x1 x2 x3 x4) := sn_Pf.gR (k := 52) (by decide) (sn_Pf.bI (k := 52) (by decide) (sn_Pf.gR (k := 53) (by decide) (sn_Pf.ite (sn_Pf.gS (k := 6) rfl (fun v2 => pf_Md_becomes_26 M x1 x2 x4 x1 (v2 + x3))) (pf_Md_becomes_26 M x1 x2 x4 x1 (0 : Int32)))))
set_option maxHeartbeats 4000000 in
set_option maxRecDepth 100000 in
theorem pf_Md_setLeg_26 (M : Nat) : sn_Pf M (f_Md_setLeg_26 M) (g_Md_setLeg_26) := sn_Pf.V
set_option maxHeartbeats 4000000 in
set_option maxRecDepth 100000 in
theorem pf_Md_setLeg (M : Nat) (x1 : Int32) (x2 : Int32) : sn_Pf M (f_Md_setLeg M x1 x2) (g_Md_setLeg x1 x2) := sn_Pf.ite (sn_Pf.gR (k := 62) (by decide) (sn_Pf.bI (k := 62) (by decide) (pf_Md_setLeg_26 M))) (sn_Pf.gR (k := 57) (by decide) (sn_Pf.bI (k := 57) (by decide) (pf_Md_setLeg_26 M)))
set_option maxHeartbeats 4000000 in
set_option maxRecDepth 100000 in
theorem pf_Md_join (M : Nat) (x1 : Int32) (x2 : Int32) : sn_Pf M (f_Md_join M x1 x2) (g_Md_join x1 x2) := sn_Pf.nn (sn_Pf.cV (pf_Md_setLeg M x1 x2) (sn_Pf.nn (sn_Pf.cV (pf_Md_setLeg M x2 x1) (sn_Pf.V))))
set_option maxHeartbeats 4000000 in
set_option maxRecDepth 100000 in
theorem pf_Md_legOf_24 (M : Nat) (t0 : Int32) : sn_Pf M (f_Md_legOf_24 M t0) (g_Md_legOf_24 t0) := sn_Pf.I
set_option maxHeartbeats 4000000 in
set_option maxRecDepth 100000 in
theorem pf_Md_legOf (M : Nat) (x1 : Int32) : sn_Pf M (f_Md_legOf M x1) (g_Md_legOf x1) := sn_Pf.ite (sn_Pf.gR (k := 62) (by decide) (sn_Pf.aI (k := 62) (by decide) (fun v1 => pf_Md_legOf_24 M v1))) (sn_Pf.gR (k := 57) (by decide) (sn_Pf.aI (k := 57) (by decide) (fun v2 => pf_Md_legOf_24 M v2)))
set_option maxHeartbeats 4000000 in
set_option maxRecDepth 100000 in
theorem pf_Md_part_17 (M : Nat) (x1 : Int32) : sn_Pf M (f_Md_part_17 M x1) (g_Md_part_17 x1) := sn_Pf.nn (sn_Pf.cV (pf_Md_setLeg M x1 (-1 : Int32)) (sn_Pf.V))
set_option maxHeartbeats 4000000 in
set_option maxRecDepth 100000 in
theorem pf_Md_part (M : Nat) (x1 : Int32) : sn_Pf M (f_Md_part M x1) (g_Md_part x1) := sn_Pf.nn (sn_Pf.cI (pf_Md_legOf M x1) (fun v2 => sn_Pf.ite (pf_Md_part_17 M x1) (sn_Pf.nn (sn_Pf.cV (pf_Md_setLeg M v2 (-1 : Int32)) (pf_Md_part_17 M x1)))))
set_option maxHeartbeats 4000000 in
set_option maxRecDepth 100000 in
theorem pf_Md_letGo_132 (M : Nat) : sn_Pf M (f_Md_letGo_132 M) (g_Md_letGo_132) := sn_Pf.V
set_option maxHeartbeats 4000000 in
set_option maxRecDepth 100000 in
theorem pf_Md_letGo_76 (M : Nat) (t1 : Int32) (t2 : Int32) : sn_Pf M (f_Md_letGo_76 M (some (md_ad M 61)) t1 t2) (g_Md_letGo_76 t1 t2) := sn_Pf.bI (k := 61) (by decide) (pf_Md_letGo_132 M)
set_option maxHeartbeats 4000000 in
set_option maxRecDepth 100000 in
theorem pf_Md_letGo_66 (M : Nat) (t1 : Int32) : sn_Pf M (f_Md_letGo_66 M (some (md_ad M 61)) t1) (g_Md_letGo_66 t1) := pf_Md_letGo_76 M t1 (5 : Int32)
set_option maxHeartbeats 4000000 in
set_option maxRecDepth 100000 in
theorem pf_Md_letGo (M : Nat) (x1 : Int32) : sn_Pf M (f_Md_letGo M x1) (g_Md_letGo x1) := sn_Pf.ite (sn_Pf.nn (sn_Pf.cV (pf_Md_part M x1) (sn_Pf.ite (sn_Pf.gR (k := 52) (by decide) (sn_Pf.aI (k := 52) (by decide) (fun v2 => sn_Pf.ite (pf_Md_letGo_132 M) (sn_Pf.gR (k := 52) (by decide) (sn_Pf.aI (k := 52) (by decide) (fun v3 => sn_Pf.ite (pf_Md_letGo_132 M) (sn_Pf.nn (sn_Pf.cV (pf_Md_say M (x1 - (100 : Int32)) (10 : Int32) (0 : Int32)) (sn_Pf.nn (sn_Pf.cV (pf_Md_becomes M (x1 - (100 : Int32)) (7 : Int32) (6 : Int32) (30 : Int32)) (pf_Md_letGo_132 M))))))))))) (sn_Pf.gR (k := 61) (by decide) (sn_Pf.gR (k := 61) (by decide) (sn_Pf.aI (k := 61) (by decide) (fun v6 => sn_Pf.ite (sn_Pf.gR (k := 61) (by decide) (sn_Pf.aI (k := 61) (by decide) (fun v7 => sn_Pf.ite (pf_Md_letGo_66 M x1) (sn_Pf.gR (k := 61) (by decide) (sn_Pf.aI (k := 61) (by decide) (fun v8 => sn_Pf.ite (pf_Md_letGo_66 M x1) (sn_Pf.gR (k := 61) (by decide) (sn_Pf.aI (k := 61) (by decide) (fun v9 => sn_Pf.ite (sn_Pf.gR (k := 61) (by decide) (sn_Pf.aI (k := 61) (by decide) (fun v10 => pf_Md_letGo_76 M x1 v10))) (pf_Md_letGo_66 M x1)))))))))) (pf_Md_letGo_76 M x1 (0 : Int32))))))))) (sn_Pf.V)
set_option maxHeartbeats 4000000 in
set_option maxRecDepth 100000 in
theorem pf_Md_connect_310 (M : Nat) (x2 : Int32) : sn_Pf M (f_Md_connect_310 M x2) (g_Md_connect_310 x2) := sn_Pf.nn (sn_Pf.cV (pf_Md_letGo M x2) (sn_Pf.V))
set_option maxHeartbeats 4000000 in
set_option maxRecDepth 100000 in
theorem pf_Md_connect_304 (M : Nat) (fk87 : Int32 → Int32 → Int32 → Int32 → Int32 → Int32 → sn_M) (k87 : Int32 → Int32 → Int32 → Int32 → Int32 → Int32 → sn_G) (hk87 : ∀ (x1 : Int32) (x2 : Int32) (x3 : Int32) (x4 : Int32) (x5 : Int32) (x6 : Int32), sn_Pf M (fk87 x1 x2 x3 x4 x5 x6) (k87 x1 x2 x3 x4 x5 x6)) (x1 : Int32) (x2 : Int32) (x3 : Int32) (x4 : Int32) (x5 : Int32) (x6 : Int32) : sn_Pf M (f_Md_connect_304 fk87 M x1 x2 x3 x4 x5 x6) (g_Md_connect_304 k87 x1 x2 x3 x4 x5 x6) := hk87 x1 x2 x3 x4 x5 (x6 + (1 : Int32))
set_option maxHeartbeats 4000000 in
set_option maxRecDepth 100000 in
theorem pf_Md_connect_298 (M : Nat) (fk176 : Int32 → Int32 → Int32 → Int32 → Int32 → Int32 → Int32 → Int32 → sn_M) (k176 : Int32 → Int32 → Int32 → Int32 → Int32 → Int32 → Int32 → Int32 → sn_G) (hk176 : ∀ (x1 : Int32) (x2 : Int32) (x3 : Int32) (x4 : Int32) (x5 : Int32) (x6 : Int32) (x7 : Int32) (x8 : Int32), sn_Pf M (fk176 x1 x2 x3 x4 x5 x6 x7 x8) (k176 x1 x2 x3 x4 x5 x6 x7 x8)) (x1 : Int32) (x2 : Int32) (x3 : Int32) (x4 : Int32) (x5 : Int32) (x6 : Int32) (x7 : Int32) (x8 : Int32) : sn_Pf M (f_Md_connect_298 fk176 M x1 x2 x3 x4 x5 x6 x7 x8) (g_Md_connect_298 k176 x1 x2 x3 x4 x5 x6 x7 x8) := hk176 x1 x2 x3 x4 x5 x6 x7 (x8 + (1 : Int32))
set_option maxHeartbeats 4000000 in
set_option maxRecDepth 100000 in
theorem pf_Md_connect_176 (M : Nat) (fk87 : Int32 → Int32 → Int32 → Int32 → Int32 → Int32 → sn_M) (k87 : Int32 → Int32 → Int32 → Int32 → Int32 → Int32 → sn_G) (hk87 : ∀ (x1 : Int32) (x2 : Int32) (x3 : Int32) (x4 : Int32) (x5 : Int32) (x6 : Int32), sn_Pf M (fk87 x1 x2 x3 x4 x5 x6) (k87 x1 x2 x3 x4 x5 x6)) : ∀ (n : Nat) (x1 : Int32) (x2 : Int32) (x3 : Int32) (x4 : Int32) (x5 : Int32) (x6 : Int32) (x7 : Int32) (x8 : Int32), sn_Pf M (f_Md_connect_176 fk87 M n x1 x2 x3 x4 x5 x6 x7 x8) (g_Md_connect_176 k87 n x1 x2 x3 x4 x5 x6 x7 x8)
  | 0, _, _, _, _, _, _, _, _ => sn_Pf.z0
  | n + 1, x1, x2, x3, x4, x5, x6, x7, x8 => sn_Pf.ite (pf_Md_connect_304 M fk87 k87 hk87 x1 x2 x3 x4 x5 x6) (sn_Pf.nn (sn_Pf.cI (pf_Md_flowAt M x1 x7 x8) (fun v2 => sn_Pf.gR (k := 52) (by decide) (sn_Pf.aI (k := 52) (by decide) (fun v3 => sn_Pf.ite (pf_Md_connect_298 M (f_Md_connect_176 fk87 M n) (g_Md_connect_176 k87 n) (pf_Md_connect_176 M fk87 k87 hk87 n) x1 x2 x3 x4 x5 x6 x7 x8) (sn_Pf.gR (k := 55) (by decide) (sn_Pf.aI (k := 55) (by decide) (fun v4 => sn_Pf.ite (pf_Md_connect_298 M (f_Md_connect_176 fk87 M n) (g_Md_connect_176 k87 n) (pf_Md_connect_176 M fk87 k87 hk87 n) x1 x2 x3 x4 x5 x6 x7 x8) (sn_Pf.gR (k := 56) (by decide) (sn_Pf.aI (k := 56) (by decide) (fun v5 => sn_Pf.ite (sn_Pf.nn (sn_Pf.cV (pf_Md_join M x2 ((100 : Int32) + v2)) (sn_Pf.nn (sn_Pf.cV (pf_Md_becomes M v2 (1 : Int32) (20 : Int32) (0 : Int32)) (sn_Pf.gR (k := 58) (by decide) (sn_Pf.bI (k := 58) (by decide) (sn_Pf.gR (k := 59) (by decide) (sn_Pf.gR (k := 59) (by decide) (sn_Pf.aI (k := 59) (by decide) (fun v8 => sn_Pf.bI (k := 59) (by decide) (sn_Pf.gR (k := 60) (by decide) (sn_Pf.bI (k := 60) (by decide) (sn_Pf.nn (sn_Pf.cV (pf_Md_say M v2 (7 : Int32) (x3 + ((64 : Int32) * x5))) (sn_Pf.V))))))))))))))) (pf_Md_connect_298 M (f_Md_connect_176 fk87 M n) (g_Md_connect_176 k87 n) (pf_Md_connect_176 M fk87 k87 hk87 n) x1 x2 x3 x4 x5 x6 x7 x8))))))))))))
set_option maxHeartbeats 4000000 in
set_option maxRecDepth 100000 in
theorem pf_Md_connect_173 (M : Nat) (fk87 : Int32 → Int32 → Int32 → Int32 → Int32 → Int32 → sn_M) (k87 : Int32 → Int32 → Int32 → Int32 → Int32 → Int32 → sn_G) (hk87 : ∀ (x1 : Int32) (x2 : Int32) (x3 : Int32) (x4 : Int32) (x5 : Int32) (x6 : Int32), sn_Pf M (fk87 x1 x2 x3 x4 x5 x6) (k87 x1 x2 x3 x4 x5 x6)) (x1 : Int32) (x2 : Int32) (x3 : Int32) (x4 : Int32) (x5 : Int32) (x6 : Int32) (x7 : Int32) : sn_Pf M (f_Md_connect_173 fk87 M x1 x2 x3 x4 x5 x6 x7) (g_Md_connect_173 k87 x1 x2 x3 x4 x5 x6 x7) := pf_Md_connect_176 M fk87 k87 hk87 sn_fuel x1 x2 x3 x4 x5 x6 x7 (0 : Int32)
set_option maxHeartbeats 4000000 in
set_option maxRecDepth 100000 in
theorem pf_Md_connect_132 (M : Nat) (fk87 : Int32 → Int32 → Int32 → Int32 → Int32 → Int32 → sn_M) (k87 : Int32 → Int32 → Int32 → Int32 → Int32 → Int32 → sn_G) (hk87 : ∀ (x1 : Int32) (x2 : Int32) (x3 : Int32) (x4 : Int32) (x5 : Int32) (x6 : Int32), sn_Pf M (fk87 x1 x2 x3 x4 x5 x6) (k87 x1 x2 x3 x4 x5 x6)) (x1 : Int32) (x2 : Int32) (x3 : Int32) (x4 : Int32) (x5 : Int32) (x6 : Int32) (t0 : Int32) : sn_Pf M (f_Md_connect_132 fk87 M x1 x2 x3 x4 x5 x6 t0) (g_Md_connect_132 k87 x1 x2 x3 x4 x5 x6 t0) := sn_Pf.ite (pf_Md_connect_304 M fk87 k87 hk87 x1 x2 x3 x4 x5 x6) (sn_Pf.nn (sn_Pf.cI (pf_Md_areNeighbours M x1 t0) (fun v10 => sn_Pf.ite (pf_Md_connect_304 M fk87 k87 hk87 x1 x2 x3 x4 x5 x6) (sn_Pf.ite (pf_Md_connect_173 M fk87 k87 hk87 x1 x2 x3 x4 x5 x6 t0) (sn_Pf.ite (pf_Md_connect_173 M fk87 k87 hk87 x1 x2 x3 x4 x5 x6 t0) (pf_Md_connect_304 M fk87 k87 hk87 x1 x2 x3 x4 x5 x6))))))
set_option maxHeartbeats 4000000 in
set_option maxRecDepth 100000 in
theorem pf_Md_connect_87 (M : Nat) : ∀ (n : Nat) (x1 : Int32) (x2 : Int32) (x3 : Int32) (x4 : Int32) (x5 : Int32) (x6 : Int32), sn_Pf M (f_Md_connect_87 M n x1 x2 x3 x4 x5 x6) (g_Md_connect_87 n x1 x2 x3 x4 x5 x6)
  | 0, _, _, _, _, _, _ => sn_Pf.z0
  | n + 1, x1, x2, x3, x4, x5, x6 => sn_Pf.ite (pf_Md_connect_310 M x2) (sn_Pf.ite (pf_Md_connect_310 M x2) (sn_Pf.ite (sn_Pf.gR (k := 51) (by decide) (sn_Pf.aI (k := 51) (by decide) (fun v11 => pf_Md_connect_132 M (f_Md_connect_87 M n) (g_Md_connect_87 n) (pf_Md_connect_87 M n) x1 x2 x3 x4 x5 x6 v11))) (sn_Pf.gR (k := 50) (by decide) (sn_Pf.aI (k := 50) (by decide) (fun v12 => pf_Md_connect_132 M (f_Md_connect_87 M n) (g_Md_connect_87 n) (pf_Md_connect_87 M n) x1 x2 x3 x4 x5 x6 v12)))))
set_option maxHeartbeats 4000000 in
set_option maxRecDepth 100000 in
theorem pf_Md_connect_82 (M : Nat) (x1 : Int32) (x2 : Int32) (x3 : Int32) (x4 : Int32) (t0 : Int32) : sn_Pf M (f_Md_connect_82 M x1 x2 x3 x4 t0) (g_Md_connect_82 x1 x2 x3 x4 t0) := pf_Md_connect_87 M sn_fuel x1 x2 x3 x4 t0 (0 : Int32)
set_option maxHeartbeats 4000000 in
set_option maxRecDepth 100000 in
theorem pf_Md_connect (M : Nat) (x1 : Int32) (x2 : Int32) (x3 : Int32) : sn_Pf M (f_Md_connect M x1 x2 x3) (g_Md_connect x1 x2 x3) := sn_Pf.nI (fun n13 => sn_Pf.ite (sn_Pf.ite (sn_Pf.gR (k := 60) (by decide) (sn_Pf.aI (k := 60) (by decide) (fun v14 => pf_Md_connect_82 M x1 x2 x3 n13 (v14 + (1 : Int32))))) (pf_Md_connect_82 M x1 x2 x3 n13 (1 : Int32))) (sn_Pf.nI (fun n15 => sn_Pf.gR (k := 61) (by decide) (sn_Pf.aI (k := 61) (by decide) (fun v16 => sn_Pf.ite (sn_Pf.gR (k := 61) (by decide) (sn_Pf.bI (k := 61) (by decide) (sn_Pf.nn (sn_Pf.cV (pf_Md_join M x2 n15) (sn_Pf.nn (sn_Pf.cV (pf_Md_back M x2 (8 : Int32)) (sn_Pf.V))))))) (sn_Pf.nn (sn_Pf.cV (pf_Md_letGo M x2) (sn_Pf.V))))))))
set_option maxHeartbeats 4000000 in
set_option maxRecDepth 100000 in
theorem pf_Md_controls_29 (M : Nat) (t0 : Int32) : sn_Pf M (f_Md_controls_29 M t0) (g_Md_controls_29 t0) := sn_Pf.Z
set_option maxHeartbeats 4000000 in
set_option maxRecDepth 100000 in
theorem pf_Md_controls (M : Nat) (x1 : Int32) (x2 : Int32) (x3 : Int32) : sn_Pf M (f_Md_controls M x1 x2 x3) (g_Md_controls x1 x2 x3) := sn_Pf.ite (sn_Pf.ite (pf_Md_controls_29 M (0 : Int32)) (pf_Md_controls_29 M (1 : Int32))) (sn_Pf.ite (pf_Md_controls_29 M (0 : Int32)) (pf_Md_controls_29 M (1 : Int32)))
set_option maxHeartbeats 4000000 in
set_option maxRecDepth 100000 in
theorem pf_Md_takeCall (M : Nat) (x1 : Int32) (x2 : Int32) (x3 : Int32) : sn_Pf M (f_Md_takeCall M x1 x2 x3) (g_Md_takeCall x1 x2 x3) := sn_Pf.nI (fun n1 => sn_Pf.nn (sn_Pf.cV (pf_Md_becomes M x1 (4 : Int32) (0 : Int32) (0 : Int32)) (sn_Pf.gR (k := 60) (by decide) (sn_Pf.bI (k := 60) (by decide) (sn_Pf.gR (k := 59) (by decide) (sn_Pf.bI (k := 59) (by decide) (sn_Pf.gR (k := 58) (by decide) (sn_Pf.bI (k := 58) (by decide) (sn_Pf.nn (sn_Pf.cV (pf_Md_connect M (x1 / (24 : Int32)) ((100 : Int32) + x1) n1) (sn_Pf.V)))))))))))
set_option maxHeartbeats 4000000 in
set_option maxRecDepth 100000 in
theorem pf_Md_circuitGets_406 (M : Nat) : sn_Pf M (f_Md_circuitGets_406 M) (g_Md_circuitGets_406) := sn_Pf.V
set_option maxHeartbeats 4000000 in
set_option maxRecDepth 100000 in
theorem pf_Md_circuitGets_255 (M : Nat) (x7 : Int32) (x8 : Int32) (x10 : Int32) : sn_Pf M (f_Md_circuitGets_255 M x7 x8 x10) (g_Md_circuitGets_255 x7 x8 x10) := sn_Pf.ite (pf_Md_circuitGets_406 M) (sn_Pf.gR (k := 59) (by decide) (sn_Pf.bI (k := 59) (by decide) (sn_Pf.nn (sn_Pf.cV (pf_Md_say M x8 (12 : Int32) (0 : Int32)) (sn_Pf.nn (sn_Pf.cV (pf_Md_becomes M x8 (8 : Int32) (30 : Int32) (0 : Int32)) (pf_Md_circuitGets_406 M)))))))
set_option maxHeartbeats 4000000 in
set_option maxRecDepth 100000 in
theorem pf_Md_circuitGets_240 (M : Nat) (x4 : Int32) (x11 : Int32) (t1 : Int32) (t2 : Int32) (t3 : Int32) : sn_Pf M (f_Md_circuitGets_240 M x4 x11 (some M) t1 t2 t3) (g_Md_circuitGets_240 x4 x11 t1 t2 t3) := sn_Pf.nn (sn_Pf.cV (pf_Md_becomes M t1 t2 t3 (0 : Int32)) (sn_Pf.nn (sn_Pf.cV (pf_Md_back M x11 x4) (pf_Md_circuitGets_406 M))))
set_option maxHeartbeats 4000000 in
set_option maxRecDepth 100000 in
theorem pf_Md_circuitGets_205 (M : Nat) (x4 : Int32) (x7 : Int32) (x8 : Int32) (x9 : Int32) (x10 : Int32) (x11 : Int32) : sn_Pf M (f_Md_circuitGets_205 M x4 x7 x8 x9 x10 x11) (g_Md_circuitGets_205 x4 x7 x8 x9 x10 x11) := sn_Pf.ite (pf_Md_circuitGets_255 M x7 x8 x10) (sn_Pf.ite (pf_Md_circuitGets_255 M x7 x8 x10) (sn_Pf.ite (pf_Md_circuitGets_240 M x4 x11 x8 (x10 + (1 : Int32)) (0 : Int32)) (pf_Md_circuitGets_240 M x4 x11 x8 (x10 + (1 : Int32)) (60 : Int32))))
set_option maxHeartbeats 4000000 in
set_option maxRecDepth 100000 in
theorem pf_Md_circuitGets_346 (M : Nat) (x11 : Int32) (x12 : Int32) : sn_Pf M (f_Md_circuitGets_346 M x11 x12) (g_Md_circuitGets_346 x11 x12) := sn_Pf.ite (pf_Md_circuitGets_406 M) (sn_Pf.nn (sn_Pf.cV (pf_Md_letGo M x11) (pf_Md_circuitGets_406 M)))
set_option maxHeartbeats 4000000 in
set_option maxRecDepth 100000 in
theorem pf_Md_circuitGets_337 (M : Nat) (x8 : Int32) (x11 : Int32) (x12 : Int32) : sn_Pf M (f_Md_circuitGets_337 M x8 x11 x12) (g_Md_circuitGets_337 x8 x11 x12) := sn_Pf.nn (sn_Pf.cV (pf_Md_becomes M x8 (0 : Int32) (0 : Int32) (0 : Int32)) (pf_Md_circuitGets_346 M x11 x12))
set_option maxHeartbeats 4000000 in
set_option maxRecDepth 100000 in
theorem pf_Md_circuitGets_325 (M : Nat) (x4 : Int32) (x8 : Int32) (x11 : Int32) (x12 : Int32) : sn_Pf M (f_Md_circuitGets_325 M x4 x8 x11 x12) (g_Md_circuitGets_325 x4 x8 x11 x12) := sn_Pf.ite (pf_Md_circuitGets_337 M x8 x11 x12) (sn_Pf.ite (pf_Md_circuitGets_346 M x11 x12) (pf_Md_circuitGets_337 M x8 x11 x12))
set_option maxHeartbeats 4000000 in
set_option maxRecDepth 100000 in
theorem pf_Md_circuitGets_292 (M : Nat) (x4 : Int32) (x7 : Int32) (x8 : Int32) (x9 : Int32) (x11 : Int32) (x12 : Int32) : sn_Pf M (f_Md_circuitGets_292 M x4 x7 x8 x9 x11 x12) (g_Md_circuitGets_292 x4 x7 x8 x9 x11 x12) := sn_Pf.nn (sn_Pf.cV (pf_Md_says M x8 (11 : Int32) x7 (0 : Int32)) (sn_Pf.ite (sn_Pf.ite (pf_Md_circuitGets_325 M x4 x8 x11 x12) (sn_Pf.nn (sn_Pf.cV (pf_Md_part M ((100 : Int32) + x8)) (pf_Md_circuitGets_325 M x4 x8 x11 x12)))) (pf_Md_circuitGets_406 M)))
set_option maxHeartbeats 4000000 in
set_option maxRecDepth 100000 in
theorem pf_Md_circuitGets_402 (M : Nat) (t1 : Int32) (t2 : Int32) : sn_Pf M (f_Md_circuitGets_402 M (some (md_ad M 56)) t1 t2) (g_Md_circuitGets_402 t1 t2) := sn_Pf.bZ (k := 56) (by decide) (pf_Md_circuitGets_406 M)
set_option maxHeartbeats 4000000 in
set_option maxRecDepth 100000 in
theorem pf_Md_circuitGets_384 (M : Nat) (x4 : Int32) (x8 : Int32) : sn_Pf M (f_Md_circuitGets_384 M x4 x8) (g_Md_circuitGets_384 x4 x8) := sn_Pf.gR (k := 56) (by decide) (sn_Pf.ite (pf_Md_circuitGets_402 M x8 (0 : Int32)) (pf_Md_circuitGets_402 M x8 (1 : Int32)))
set_option maxHeartbeats 4000000 in
set_option maxRecDepth 100000 in
theorem pf_Md_circuitGets_202 (M : Nat) : sn_Pf M (f_Md_circuitGets_202 M) (g_Md_circuitGets_202) := pf_Md_circuitGets_406 M
set_option maxHeartbeats 4000000 in
set_option maxRecDepth 100000 in
theorem pf_Md_circuitGets_75 (M : Nat) (x1 : Int32) (x2 : Int32) (x4 : Int32) (x5 : Int32) (x6 : Int32) (x7 : Int32) (x8 : Int32) (x9 : Int32) (x10 : Int32) (x11 : Int32) (t0 : Int32) : sn_Pf M (f_Md_circuitGets_75 M x1 x2 x4 x5 x6 x7 x8 x9 x10 x11 t0) (g_Md_circuitGets_75 x1 x2 x4 x5 x6 x7 x8 x9 x10 x11 t0) := sn_Pf.swC (sn_Pf.ite (sn_Pf.ite (pf_Md_circuitGets_406 M) (sn_Pf.nn (sn_Pf.cI (pf_Md_controls M x1 x2 x6) (fun v9 => sn_Pf.ite (pf_Md_circuitGets_406 M) (sn_Pf.gR (k := 58) (by decide) (sn_Pf.aI (k := 58) (by decide) (fun v10 => sn_Pf.nn (sn_Pf.cV (pf_Md_part M ((100 : Int32) + x8)) (sn_Pf.nn (sn_Pf.cV (pf_Md_takeCall M x8 x5 x7) (sn_Pf.ite (pf_Md_circuitGets_202 M) (sn_Pf.nn (sn_Pf.cV (pf_Md_connect M x1 x11 v10) (pf_Md_circuitGets_202 M)))))))))))))) (sn_Pf.nn (sn_Pf.cV (pf_Md_takeCall M x8 x5 x7) (pf_Md_circuitGets_406 M)))) (sn_Pf.swC (pf_Md_circuitGets_205 M x4 x7 x8 x9 x10 x11) (sn_Pf.swC (pf_Md_circuitGets_205 M x4 x7 x8 x9 x10 x11) (sn_Pf.swC (pf_Md_circuitGets_292 M x4 x7 x8 x9 x11 t0) (sn_Pf.swC (sn_Pf.ite (pf_Md_circuitGets_406 M) (sn_Pf.ite (pf_Md_circuitGets_406 M) (sn_Pf.nn (sn_Pf.cV (pf_Md_becomes M x8 (0 : Int32) (0 : Int32) (0 : Int32)) (pf_Md_circuitGets_406 M))))) (sn_Pf.swC (pf_Md_circuitGets_292 M x4 x7 x8 x9 x11 t0) (sn_Pf.swC (pf_Md_circuitGets_384 M x4 x8) (sn_Pf.swC (pf_Md_circuitGets_384 M x4 x8) (sn_Pf.swN (pf_Md_circuitGets_406 M)))))))))
set_option maxHeartbeats 4000000 in
set_option maxRecDepth 100000 in
theorem pf_Md_circuitGets_74 (M : Nat) (x1 : Int32) (x2 : Int32) (x4 : Int32) (x5 : Int32) (x6 : Int32) (x7 : Int32) (x8 : Int32) (x9 : Int32) (x10 : Int32) (x11 : Int32) : sn_Pf M (f_Md_circuitGets_74 M x1 x2 x4 x5 x6 x7 x8 x9 x10 x11) (g_Md_circuitGets_74 x1 x2 x4 x5 x6 x7 x8 x9 x10 x11) := pf_Md_circuitGets_75 M x1 x2 x4 x5 x6 x7 x8 x9 x10 x11 (0 : Int32)
set_option maxHeartbeats 4000000 in
set_option maxRecDepth 100000 in
theorem pf_Md_circuitGets_37 (M : Nat) (x1 : Int32) (x2 : Int32) (x4 : Int32) (x5 : Int32) (x6 : Int32) (x7 : Int32) (x8 : Int32) (t0 : Int32) : sn_Pf M (f_Md_circuitGets_37 M x1 x2 x4 x5 x6 x7 x8 t0) (g_Md_circuitGets_37 x1 x2 x4 x5 x6 x7 x8 t0) := sn_Pf.gR (k := 52) (by decide) (sn_Pf.aI (k := 52) (by decide) (fun v16 => sn_Pf.gR (k := 57) (by decide) (sn_Pf.aI (k := 57) (by decide) (fun v17 => sn_Pf.ite (pf_Md_circuitGets_74 M x1 x2 x4 x5 x6 x7 x8 t0 v16 v17) (sn_Pf.ite (pf_Md_circuitGets_74 M x1 x2 x4 x5 x6 x7 x8 t0 v16 v17) (pf_Md_circuitGets_75 M x1 x2 x4 x5 x6 x7 x8 t0 v16 v17 (1 : Int32)))))))
set_option maxHeartbeats 4000000 in
set_option maxRecDepth 100000 in
theorem pf_Md_circuitGets (M : Nat) (x1 : Int32) (x2 : Int32) (x3 : Int32) (x4 : Int32) (x5 : Int32) : sn_Pf M (f_Md_circuitGets M x1 x2 x3 x4 x5) (g_Md_circuitGets x1 x2 x3 x4 x5) := sn_Pf.nI (fun n18 => sn_Pf.nI (fun n19 => sn_Pf.nn (sn_Pf.cI (pf_Md_flowAt M x1 x2 n18) (fun v20 => sn_Pf.gR (k := 59) (by decide) (sn_Pf.aI (k := 59) (by decide) (fun v21 => sn_Pf.ite (pf_Md_circuitGets_37 M x1 x2 x4 x5 n18 n19 v20 (0 : Int32)) (pf_Md_circuitGets_37 M x1 x2 x4 x5 n18 n19 v20 (1 : Int32))))))))
set_option maxHeartbeats 4000000 in
set_option maxRecDepth 100000 in
theorem pf_Md_openAt_2 (M : Nat) : ∀ (n : Nat) (x1 : Int32) (x2 : Int32) (x3 : Int32), sn_Pf M (f_Md_openAt_2 M n x1 x2 x3) (g_Md_openAt_2 n x1 x2 x3)
  | 0, _, _, _ => sn_Pf.z0
  | n + 1, x1, x2, x3 => sn_Pf.gR (k := 27) (by decide) (sn_Pf.aI (k := 27) (by decide) (fun v1 => sn_Pf.ite (sn_Pf.I) (sn_Pf.gR (k := 26) (by decide) (sn_Pf.aI (k := 26) (by decide) (fun v2 => sn_Pf.ite (pf_Md_openAt_2 M n x1 x2 (x3 + (1 : Int32))) (sn_Pf.I))))))
set_option maxHeartbeats 4000000 in
set_option maxRecDepth 100000 in
theorem pf_Md_openAt (M : Nat) (x1 : Int32) (x2 : Int32) : sn_Pf M (f_Md_openAt M x1 x2) (g_Md_openAt x1 x2) := pf_Md_openAt_2 M sn_fuel x1 x2 (0 : Int32)
set_option maxHeartbeats 4000000 in
set_option maxRecDepth 100000 in
theorem pf_Md_overEnds_337 (M : Nat) (fk211 : Int32 → Int32 → Int32 → Int32 → Int32 → sn_M) (k211 : Int32 → Int32 → Int32 → Int32 → Int32 → sn_G) (hk211 : ∀ (x1 : Int32) (x2 : Int32) (x5 : Int32) (x6 : Int32) (x7 : Int32), sn_Pf M (fk211 x1 x2 x5 x6 x7) (k211 x1 x2 x5 x6 x7)) (x1 : Int32) (x2 : Int32) (x5 : Int32) (x6 : Int32) (x7 : Int32) : sn_Pf M (f_Md_overEnds_337 fk211 M x1 x2 x5 x6 x7) (g_Md_overEnds_337 k211 x1 x2 x5 x6 x7) := hk211 x1 x2 x5 x6 (x7 + (1 : Int32))
set_option maxHeartbeats 4000000 in
set_option maxRecDepth 100000 in
theorem pf_Md_overEnds_288 (M : Nat) (fk211 : Int32 → Int32 → Int32 → Int32 → Int32 → sn_M) (k211 : Int32 → Int32 → Int32 → Int32 → Int32 → sn_G) (hk211 : ∀ (x1 : Int32) (x2 : Int32) (x5 : Int32) (x6 : Int32) (x7 : Int32), sn_Pf M (fk211 x1 x2 x5 x6 x7) (k211 x1 x2 x5 x6 x7)) : ∀ (n : Nat) (x1 : Int32) (x2 : Int32) (x5 : Int32) (x6 : Int32) (x7 : Int32) (x8 : Int32) (x9 : Int32), sn_Pf M (f_Md_overEnds_288 fk211 M n x1 x2 x5 x6 x7 x8 x9) (g_Md_overEnds_288 k211 n x1 x2 x5 x6 x7 x8 x9)
  | 0, _, _, _, _, _, _, _ => sn_Pf.z0
  | n + 1, x1, x2, x5, x6, x7, x8, x9 => sn_Pf.gR (k := 47) (by decide) (sn_Pf.aI (k := 47) (by decide) (fun v1 => sn_Pf.ite (sn_Pf.gR (k := 47) (by decide) (sn_Pf.bI (k := 47) (by decide) (pf_Md_overEnds_337 M fk211 k211 hk211 x1 x2 x5 x6 x7))) (sn_Pf.gR (k := 63) (by decide) (sn_Pf.gR (k := 46) (by decide) (sn_Pf.aJ (k := 46) (by decide) (fun v2 => sn_Pf.bJ (k := 63) (by decide) (pf_Md_overEnds_288 M fk211 k211 hk211 n x1 x2 x5 (x6 + (1 : Int32)) x7 x8 (x9 + (1 : Int32)))))))))
set_option maxHeartbeats 4000000 in
set_option maxRecDepth 100000 in
theorem pf_Md_overEnds_451 (M : Nat) (fk346 : Int32 → Int32 → Int32 → Int32 → sn_M) (k346 : Int32 → Int32 → Int32 → Int32 → sn_G) (hk346 : ∀ (x1 : Int32) (x5 : Int32) (x6 : Int32) (x7 : Int32), sn_Pf M (fk346 x1 x5 x6 x7) (k346 x1 x5 x6 x7)) (x1 : Int32) (x5 : Int32) (x6 : Int32) (x7 : Int32) : sn_Pf M (f_Md_overEnds_451 fk346 M x1 x5 x6 x7) (g_Md_overEnds_451 k346 x1 x5 x6 x7) := hk346 x1 x5 x6 (x7 + (1 : Int32))
set_option maxHeartbeats 4000000 in
set_option maxRecDepth 100000 in
theorem pf_Md_overEnds_346 (M : Nat) : ∀ (n : Nat) (x1 : Int32) (x5 : Int32) (x6 : Int32) (x7 : Int32), sn_Pf M (f_Md_overEnds_346 M n x1 x5 x6 x7) (g_Md_overEnds_346 n x1 x5 x6 x7)
  | 0, _, _, _, _ => sn_Pf.z0
  | n + 1, x1, x5, x6, x7 => sn_Pf.ite (sn_Pf.nn (sn_Pf.cV (pf_Md_look M x1) (sn_Pf.V))) (sn_Pf.gR (k := 63) (by decide) (sn_Pf.aJ (k := 63) (by decide) (fun v4 => sn_Pf.cI (pf_Md_kindOf M v4) (fun v5 => sn_Pf.ite (pf_Md_overEnds_451 M (f_Md_overEnds_346 M n) (g_Md_overEnds_346 n) (pf_Md_overEnds_346 M n) x1 x5 x6 x7) (sn_Pf.cI (pf_Md_kindOf M v4) (fun v6 => sn_Pf.ite (sn_Pf.cI (pf_Md_flowOf M v4) (fun v7 => sn_Pf.nn (sn_Pf.cI (pf_Md_isOpen M x1 x5 v7) (fun v8 => sn_Pf.ite (sn_Pf.cI (pf_Md_kindOf M v4) (fun v9 => sn_Pf.ite (sn_Pf.gS (k := 7) rfl (fun v10 => sn_Pf.pS (k := 7) rfl (pf_Md_overEnds_451 M (f_Md_overEnds_346 M n) (g_Md_overEnds_346 n) (pf_Md_overEnds_346 M n) x1 x5 x6 x7))) (sn_Pf.cI (pf_Md_toOf M v4) (fun v11 => sn_Pf.nn (sn_Pf.cV (pf_Md_route M x1 v11 v4 (-1 : Int32)) (pf_Md_overEnds_451 M (f_Md_overEnds_346 M n) (g_Md_overEnds_346 n) (pf_Md_overEnds_346 M n) x1 x5 x6 x7)))))) (sn_Pf.cI (pf_Md_flowOf M v4) (fun v13 => sn_Pf.nn (sn_Pf.cV (pf_Md_give M x1 x5 v13 v4) (pf_Md_overEnds_451 M (f_Md_overEnds_346 M n) (g_Md_overEnds_346 n) (pf_Md_overEnds_346 M n) x1 x5 x6 x7)))))))) (pf_Md_overEnds_451 M (f_Md_overEnds_346 M n) (g_Md_overEnds_346 n) (pf_Md_overEnds_346 M n) x1 x5 x6 x7)))))))
set_option maxHeartbeats 4000000 in
set_option maxRecDepth 100000 in
theorem pf_Md_overEnds_211 (M : Nat) : ∀ (n : Nat) (x1 : Int32) (x2 : Int32) (x5 : Int32) (x6 : Int32) (x7 : Int32), sn_Pf M (f_Md_overEnds_211 M n x1 x2 x5 x6 x7) (g_Md_overEnds_211 n x1 x2 x5 x6 x7)
  | 0, _, _, _, _, _ => sn_Pf.z0
  | n + 1, x1, x2, x5, x6, x7 => sn_Pf.ite (pf_Md_overEnds_346 M sn_fuel x1 x5 x6 (0 : Int32)) (sn_Pf.nn (sn_Pf.cI (pf_Md_flowAt M x1 x5 x7) (fun v15 => sn_Pf.gR (k := 42) (by decide) (sn_Pf.aI (k := 42) (by decide) (fun v16 => sn_Pf.ite (pf_Md_overEnds_337 M (f_Md_overEnds_211 M n) (g_Md_overEnds_211 n) (pf_Md_overEnds_211 M n) x1 x2 x5 x6 x7) (sn_Pf.gR (k := 43) (by decide) (sn_Pf.aI (k := 43) (by decide) (fun v17 => sn_Pf.ite (sn_Pf.gR (k := 42) (by decide) (sn_Pf.bI (k := 42) (by decide) (sn_Pf.gR (k := 43) (by decide) (sn_Pf.bI (k := 43) (by decide) (sn_Pf.gR (k := 41) (by decide) (sn_Pf.nn (sn_Pf.cI (pf_Md_bestOf M x1 x5 x7) (fun v18 => sn_Pf.bI (k := 41) (by decide) (pf_Md_overEnds_288 M (f_Md_overEnds_211 M n) (g_Md_overEnds_211 n) (pf_Md_overEnds_211 M n) sn_fuel x1 x2 x5 x6 x7 v15 (0 : Int32)))))))))) (pf_Md_overEnds_337 M (f_Md_overEnds_211 M n) (g_Md_overEnds_211 n) (pf_Md_overEnds_211 M n) x1 x2 x5 x6 x7)))))))))
set_option maxHeartbeats 4000000 in
set_option maxRecDepth 100000 in
theorem pf_Md_overEnds_143 (M : Nat) : ∀ (n : Nat) (x1 : Int32) (x2 : Int32) (x4 : Int32) (x5 : Int32) (x6 : Int32) (x7 : Int32), sn_Pf M (f_Md_overEnds_143 M n x1 x2 x4 x5 x6 x7) (g_Md_overEnds_143 n x1 x2 x4 x5 x6 x7)
  | 0, _, _, _, _, _, _ => sn_Pf.z0
  | n + 1, x1, x2, x4, x5, x6, x7 => sn_Pf.gR (k := 29) (by decide) (sn_Pf.aI (k := 29) (by decide) (fun v19 => sn_Pf.ite (sn_Pf.gR (k := 27) (by decide) (sn_Pf.bI (k := 27) (by decide) (sn_Pf.gR (k := 29) (by decide) (sn_Pf.bI (k := 29) (by decide) (sn_Pf.gR (k := 21) (by decide) (sn_Pf.bI (k := 21) (by decide) (pf_Md_overEnds_211 M sn_fuel x1 x2 x5 x6 (0 : Int32)))))))) (sn_Pf.gR (k := 63) (by decide) (sn_Pf.gR (k := 28) (by decide) (sn_Pf.aJ (k := 28) (by decide) (fun v20 => sn_Pf.bJ (k := 63) (by decide) (pf_Md_overEnds_143 M n x1 x2 x4 x5 (x6 + (1 : Int32)) (x7 + (1 : Int32)))))))))
set_option maxHeartbeats 4000000 in
set_option maxRecDepth 100000 in
theorem pf_Md_overEnds_99 (M : Nat) : ∀ (n : Nat) (x1 : Int32) (x2 : Int32) (x4 : Int32) (x5 : Int32) (x6 : Int32) (x7 : Int32), sn_Pf M (f_Md_overEnds_99 M n x1 x2 x4 x5 x6 x7) (g_Md_overEnds_99 n x1 x2 x4 x5 x6 x7)
  | 0, _, _, _, _, _, _ => sn_Pf.z0
  | n + 1, x1, x2, x4, x5, x6, x7 => sn_Pf.gR (k := 27) (by decide) (sn_Pf.aI (k := 27) (by decide) (fun v21 => sn_Pf.ite (pf_Md_overEnds_143 M sn_fuel x1 x2 x4 x5 x6 (0 : Int32)) (sn_Pf.gR (k := 63) (by decide) (sn_Pf.gR (k := 25) (by decide) (sn_Pf.aJ (k := 25) (by decide) (fun v22 => sn_Pf.bJ (k := 63) (by decide) (pf_Md_overEnds_99 M n x1 x2 x4 x5 (x6 + (1 : Int32)) (x7 + (1 : Int32)))))))))
set_option maxHeartbeats 4000000 in
set_option maxRecDepth 100000 in
theorem pf_Md_overEnds_93 (M : Nat) (x1 : Int32) (x2 : Int32) (x4 : Int32) (x5 : Int32) : sn_Pf M (f_Md_overEnds_93 M x1 x2 x4 x5) (g_Md_overEnds_93 x1 x2 x4 x5) := pf_Md_overEnds_99 M sn_fuel x1 x2 x4 x5 (0 : Int32) (0 : Int32)
set_option maxHeartbeats 4000000 in
set_option maxRecDepth 100000 in
theorem pf_Md_overEnds (M : Nat) (x1 : Int32) (x2 : Int32) (x3 : Int32) : sn_Pf M (f_Md_overEnds M x1 x2 x3) (g_Md_overEnds x1 x2 x3) := sn_Pf.nn (sn_Pf.cI (pf_Md_endAt M x2 x1) (fun v23 => sn_Pf.gR (k := 40) (by decide) (sn_Pf.aI (k := 40) (by decide) (fun v24 => sn_Pf.ite (sn_Pf.nn (sn_Pf.cI (pf_Md_otherOf M v23) (fun v25 => sn_Pf.gR (k := 40) (by decide) (sn_Pf.bI (k := 40) (by decide) (sn_Pf.ite (sn_Pf.nn (sn_Pf.cI (pf_Md_openAt M v23 x3) (fun v26 => sn_Pf.ite (pf_Md_overEnds_93 M x1 x2 v23 v25) (sn_Pf.nn (sn_Pf.cI (pf_Md_openAt M v23 x3) (fun v27 => sn_Pf.nn (sn_Pf.cV (pf_Md_acknowledge M v23 (v27 + (1 : Int32))) (pf_Md_overEnds_93 M x1 x2 v23 v25)))))))) (sn_Pf.gS (k := 7) rfl (fun v29 => sn_Pf.gR (k := 27) (by decide) (sn_Pf.aI (k := 27) (by decide) (fun v30 => sn_Pf.pS (k := 7) rfl (sn_Pf.gR (k := 27) (by decide) (sn_Pf.bI (k := 27) (by decide) (pf_Md_overEnds_93 M x1 x2 v23 v25)))))))))))) (sn_Pf.V)))))
set_option maxHeartbeats 4000000 in
set_option maxRecDepth 100000 in
theorem pf_Md_over_47 (M : Nat) (x1 : Int32) (x2 : Int32) (x4 : Int32) (x5 : Int32) (x6 : Int32) : sn_Pf M (f_Md_over_47 M x1 x2 x4 x5 x6) (g_Md_over_47 x1 x2 x4 x5 x6) := sn_Pf.gR (k := 37) (by decide) (sn_Pf.aI (k := 37) (by decide) (fun v1 => sn_Pf.gR (k := 13) (by decide) (sn_Pf.aI (k := 13) (by decide) (fun v2 => sn_Pf.cJ (pf_Md_message M (2 : Int32) x1 x2 (0 : Int32) (x5 + ((16 : Int32) * v1)) v2) (fun v3 => sn_Pf.nn (sn_Pf.cV (pf_Md_otherWay M x1 x2 v3) (sn_Pf.nn (sn_Pf.cV (pf_Md_overEnds M x1 x5 x4) (sn_Pf.V)))))))))
set_option maxHeartbeats 4000000 in
set_option maxRecDepth 100000 in
theorem pf_Md_over (M : Nat) (x1 : Int32) (x2 : Int32) (x3 : Int32) (x4 : Int32) : sn_Pf M (f_Md_over M x1 x2 x3 x4) (g_Md_over x1 x2 x3 x4) := sn_Pf.nI (fun n6 => sn_Pf.nn (sn_Pf.cI (pf_Md_endAt M n6 x1) (fun v7 => sn_Pf.gR (k := 38) (by decide) (sn_Pf.aI (k := 38) (by decide) (fun v8 => sn_Pf.ite (sn_Pf.gR (k := 10) (by decide) (sn_Pf.aI (k := 10) (by decide) (fun v9 => sn_Pf.ite (pf_Md_over_47 M x1 x2 x4 n6 v7) (sn_Pf.nn (sn_Pf.cV (pf_Md_fail M v7 (1 : Int32)) (pf_Md_over_47 M x1 x2 x4 n6 v7)))))) (sn_Pf.V))))))
set_option maxHeartbeats 4000000 in
set_option maxRecDepth 100000 in
theorem pf_Md_get_50 (M : Nat) : sn_Pf M (f_Md_get_50 M) (g_Md_get_50) := sn_Pf.V
set_option maxHeartbeats 4000000 in
set_option maxRecDepth 100000 in
theorem pf_Md_get_311 (M : Nat) : sn_Pf M (f_Md_get_311 M) (g_Md_get_311) := sn_Pf.V
set_option maxHeartbeats 4000000 in
set_option maxRecDepth 100000 in
theorem pf_Md_get_285 (M : Nat) (x1 : Int32) (t1 : Int32) (t2 : Int32) : sn_Pf M (f_Md_get_285 M x1 (some (md_ad M 48)) t1 t2) (g_Md_get_285 x1 t1 t2) := sn_Pf.bZ (k := 48) (by decide) (sn_Pf.nn (sn_Pf.cV (pf_Md_look M x1) (pf_Md_get_311 M)))
set_option maxHeartbeats 4000000 in
set_option maxRecDepth 100000 in
theorem pf_Md_get_255 (M : Nat) (x1 : Int32) (l2 : Int64) (x4 : Int32) (x5 : Int32) : sn_Pf M (f_Md_get_255 M x1 l2 x4 x5) (g_Md_get_255 x1 l2 x4 x5) := sn_Pf.gR (k := 48) (by decide) (sn_Pf.cI (pf_Md_kindOf M l2) (fun v2 => sn_Pf.ite (pf_Md_get_285 M x1 ((((36 : Int32) * x1) + ((6 : Int32) * x4)) + x5) (0 : Int32)) (pf_Md_get_285 M x1 ((((36 : Int32) * x1) + ((6 : Int32) * x4)) + x5) (1 : Int32))))
set_option maxHeartbeats 4000000 in
set_option maxRecDepth 100000 in
theorem pf_Md_get (M : Nat) (x1 : Int32) (l2 : Int64) : sn_Pf M (f_Md_get M x1 l2) (g_Md_get x1 l2) := sn_Pf.cI (pf_Md_toOf M l2) (fun v3 => sn_Pf.ite (sn_Pf.cI (pf_Md_fromOf M l2) (fun v4 => sn_Pf.cI (pf_Md_oneOf M l2) (fun v5 => sn_Pf.gS (k := 8) rfl (fun v6 => sn_Pf.pS (k := 8) rfl (sn_Pf.cI (pf_Md_kindOf M l2) (fun v7 => sn_Pf.pS (k := 9) rfl (sn_Pf.cI (pf_Md_kindOf M l2) (fun v8 => sn_Pf.swC (sn_Pf.cI (pf_Md_twoOf M l2) (fun v9 => sn_Pf.nn (sn_Pf.cV (pf_Md_over M x1 v4 v5 v9) (pf_Md_get_311 M)))) (sn_Pf.swC (sn_Pf.gR (k := 38) (by decide) (sn_Pf.nn (sn_Pf.cI (pf_Md_endAt M (v5 &&& (15 : Int32)) x1) (fun v11 => sn_Pf.aI (k := 38) (by decide) (fun v12 => sn_Pf.ite (pf_Md_get_311 M) (sn_Pf.cI (pf_Md_twoOf M l2) (fun v13 => sn_Pf.nn (sn_Pf.cV (pf_Md_overEnds M x1 (v5 &&& (15 : Int32)) v13) (pf_Md_get_311 M))))))))) (sn_Pf.swC (sn_Pf.cI (pf_Md_twoOf M l2) (fun v15 => sn_Pf.cJ (pf_Md_message M (4 : Int32) x1 v4 v5 v5 v15) (fun v16 => sn_Pf.nn (sn_Pf.cV (pf_Md_otherWay M x1 v4 v16) (pf_Md_get_311 M))))) (sn_Pf.swC (sn_Pf.gR (k := 42) (by decide) (sn_Pf.nn (sn_Pf.cI (pf_Md_flowAt M x1 v4 v5) (fun v18 => sn_Pf.aI (k := 42) (by decide) (fun v19 => sn_Pf.ite (pf_Md_get_311 M) (sn_Pf.gR (k := 45) (by decide) (sn_Pf.nn (sn_Pf.cI (pf_Md_flowAt M x1 v4 v5) (fun v20 => sn_Pf.aI (k := 45) (by decide) (fun v21 => sn_Pf.cI (pf_Md_twoOf M l2) (fun v22 => sn_Pf.ite (pf_Md_get_311 M) (sn_Pf.nn (sn_Pf.cV (pf_Md_backEnds M x1 v4 v5) (pf_Md_get_311 M)))))))))))))) (sn_Pf.swC (pf_Md_get_255 M x1 l2 v4 v5) (sn_Pf.swC (pf_Md_get_255 M x1 l2 v4 v5) (sn_Pf.swN (sn_Pf.cI (pf_Md_kindOf M l2) (fun v24 => sn_Pf.cI (pf_Md_twoOf M l2) (fun v25 => sn_Pf.nn (sn_Pf.cV (pf_Md_circuitGets M x1 v4 v5 v24 v25) (pf_Md_get_311 M))))))))))))))))))) (sn_Pf.nJ (fun n27 => sn_Pf.cI (pf_Md_hopsOf M n27) (fun v28 => sn_Pf.ite (sn_Pf.cI (pf_Md_toOf M l2) (fun v29 => sn_Pf.nn (sn_Pf.cV (pf_Md_route M x1 v29 n27 (-1 : Int32)) (pf_Md_get_50 M)))) (sn_Pf.gS (k := 7) rfl (fun v31 => sn_Pf.pS (k := 7) rfl (pf_Md_get_50 M)))))))
set_option maxHeartbeats 4000000 in
set_option maxRecDepth 100000 in
theorem pf_Md_treat_207 (M : Nat) : sn_Pf M (f_Md_treat_207 M) (g_Md_treat_207) := sn_Pf.V
set_option maxHeartbeats 4000000 in
set_option maxRecDepth 100000 in
theorem pf_Md_treat_178 (M : Nat) (x1 : Int32) (x2 : Int32) : sn_Pf M (f_Md_treat_178 M x1 x2) (g_Md_treat_178 x1 x2) := sn_Pf.gR (k := 31) (by decide) (sn_Pf.aI (k := 31) (by decide) (fun v1 => sn_Pf.gR (k := 13) (by decide) (sn_Pf.aI (k := 13) (by decide) (fun v2 => sn_Pf.ite (pf_Md_treat_207 M) (sn_Pf.gR (k := 15) (by decide) (sn_Pf.gR (k := 15) (by decide) (sn_Pf.aI (k := 15) (by decide) (fun v3 => sn_Pf.bI (k := 15) (by decide) (pf_Md_treat_207 M)))))))))
set_option maxHeartbeats 4000000 in
set_option maxRecDepth 100000 in
theorem pf_Md_treat_102 (M : Nat) (x1 : Int32) (x2 : Int32) : sn_Pf M (f_Md_treat_102 M x1 x2) (g_Md_treat_102 x1 x2) := sn_Pf.gR (k := 32) (by decide) (sn_Pf.aI (k := 32) (by decide) (fun v4 => sn_Pf.gR (k := 15) (by decide) (sn_Pf.aI (k := 15) (by decide) (fun v5 => sn_Pf.ite (sn_Pf.gR (k := 30) (by decide) (sn_Pf.aI (k := 30) (by decide) (fun v6 => sn_Pf.ite (pf_Md_treat_178 M x1 x2) (sn_Pf.gR (k := 31) (by decide) (sn_Pf.aI (k := 31) (by decide) (fun v7 => sn_Pf.gR (k := 13) (by decide) (sn_Pf.aI (k := 13) (by decide) (fun v8 => sn_Pf.ite (pf_Md_treat_178 M x1 x2) (sn_Pf.gR (k := 13) (by decide) (sn_Pf.gR (k := 31) (by decide) (sn_Pf.aI (k := 31) (by decide) (fun v9 => sn_Pf.bI (k := 13) (by decide) (sn_Pf.nn (sn_Pf.cI (pf_Md_exchangeOf M x1) (fun v10 => sn_Pf.gR (k := 35) (by decide) (sn_Pf.aJ (k := 35) (by decide) (fun v11 => sn_Pf.nn (sn_Pf.cV (pf_Md_get M v10 v11) (pf_Md_treat_207 M))))))))))))))))))) (sn_Pf.V)))))
set_option maxHeartbeats 4000000 in
set_option maxRecDepth 100000 in
theorem pf_Md_treat_101 (M : Nat) (x1 : Int32) (x2 : Int32) (t1 : Int32) (t2 : Int32) : sn_Pf M (f_Md_treat_101 M x1 x2 (some (md_ad M 21)) t1 t2) (g_Md_treat_101 x1 x2 t1 t2) := sn_Pf.bI (k := 21) (by decide) (pf_Md_treat_102 M x1 x2)
set_option maxHeartbeats 4000000 in
set_option maxRecDepth 100000 in
theorem pf_Md_treat_55 (M : Nat) (x1 : Int32) (x2 : Int32) : sn_Pf M (f_Md_treat_55 M x1 x2) (g_Md_treat_55 x1 x2) := sn_Pf.gR (k := 34) (by decide) (sn_Pf.aI (k := 34) (by decide) (fun v13 => sn_Pf.gR (k := 14) (by decide) (sn_Pf.aI (k := 14) (by decide) (fun v14 => sn_Pf.ite (pf_Md_treat_102 M x1 x2) (sn_Pf.gR (k := 14) (by decide) (sn_Pf.gR (k := 34) (by decide) (sn_Pf.aI (k := 34) (by decide) (fun v15 => sn_Pf.bI (k := 14) (by decide) (sn_Pf.gR (k := 21) (by decide) (sn_Pf.gR (k := 27) (by decide) (sn_Pf.aI (k := 27) (by decide) (fun v16 => sn_Pf.ite (pf_Md_treat_101 M x1 x2 x1 (-1 : Int32)) (pf_Md_treat_101 M x1 x2 x1 (0 : Int32))))))))))))))
set_option maxHeartbeats 4000000 in
set_option maxRecDepth 100000 in
theorem pf_Md_treat_54 (M : Nat) (x1 : Int32) (x2 : Int32) (t1 : Int32) (t2 : Int32) : sn_Pf M (f_Md_treat_54 M x1 x2 (some (md_ad M 20)) t1 t2) (g_Md_treat_54 x1 x2 t1 t2) := sn_Pf.bI (k := 20) (by decide) (pf_Md_treat_55 M x1 x2)
set_option maxHeartbeats 4000000 in
set_option maxRecDepth 100000 in
theorem pf_Md_treat (M : Nat) (x1 : Int32) : sn_Pf M (f_Md_treat M x1) (g_Md_treat x1) := sn_Pf.nI (fun n17 => sn_Pf.gR (k := 33) (by decide) (sn_Pf.aI (k := 33) (by decide) (fun v18 => sn_Pf.nn (sn_Pf.cI (pf_Md_openAt M x1 v18) (fun v19 => sn_Pf.ite (pf_Md_treat_55 M x1 n17) (sn_Pf.nn (sn_Pf.cV (pf_Md_acknowledge M x1 (v19 + (1 : Int32))) (sn_Pf.gR (k := 20) (by decide) (sn_Pf.gR (k := 27) (by decide) (sn_Pf.aI (k := 27) (by decide) (fun v21 => sn_Pf.ite (pf_Md_treat_54 M x1 n17 x1 (0 : Int32)) (sn_Pf.gS (k := 6) rfl (fun v22 => pf_Md_treat_54 M x1 n17 x1 (v22 + (20 : Int32)))))))))))))))
set_option maxHeartbeats 4000000 in
set_option maxRecDepth 100000 in
theorem pf_Md_serving_72 (M : Nat) : sn_Pf M (f_Md_serving_72 M) (g_Md_serving_72) := sn_Pf.V
set_option maxHeartbeats 4000000 in
set_option maxRecDepth 100000 in
theorem pf_Md_serving_99 (M : Nat) : sn_Pf M (f_Md_serving_99 M) (g_Md_serving_99) := sn_Pf.V
set_option maxHeartbeats 4000000 in
set_option maxRecDepth 100000 in
theorem pf_Md_serving_93 (M : Nat) (x1 : Int32) : sn_Pf M (f_Md_serving_93 M x1) (g_Md_serving_93 x1) := sn_Pf.nn (sn_Pf.cV (pf_Md_fail M x1 (0 : Int32)) (pf_Md_serving_99 M))
set_option maxHeartbeats 4000000 in
set_option maxRecDepth 100000 in
theorem pf_Md_serving_129 (M : Nat) (x1 : Int32) : sn_Pf M (f_Md_serving_129 M x1) (g_Md_serving_129 x1) := sn_Pf.nn (sn_Pf.cV (pf_Md_treat M x1) (sn_Pf.V))
set_option maxHeartbeats 4000000 in
set_option maxRecDepth 100000 in
theorem pf_Md_serving_41 (M : Nat) (x1 : Int32) (x2 : Int32) (x3 : Int32) : sn_Pf M (f_Md_serving_41 M x1 x2 x3) (g_Md_serving_41 x1 x2 x3) := sn_Pf.ite (sn_Pf.ite (sn_Pf.gR (k := 10) (by decide) (sn_Pf.aI (k := 10) (by decide) (fun v3 => sn_Pf.ite (pf_Md_serving_129 M x1) (sn_Pf.gR (k := 10) (by decide) (sn_Pf.bI (k := 10) (by decide) (sn_Pf.gR (k := 11) (by decide) (sn_Pf.bI (k := 11) (by decide) (sn_Pf.nn (sn_Pf.cV (pf_Md_up M x1) (pf_Md_serving_129 M x1)))))))))) (sn_Pf.gR (k := 10) (by decide) (sn_Pf.aI (k := 10) (by decide) (fun v5 => sn_Pf.ite (pf_Md_serving_93 M x1) (sn_Pf.ite (pf_Md_serving_99 M) (pf_Md_serving_93 M x1)))))) (sn_Pf.gR (k := 16) (by decide) (sn_Pf.aI (k := 16) (by decide) (fun v6 => sn_Pf.bI (k := 16) (by decide) (sn_Pf.gR (k := 16) (by decide) (sn_Pf.aI (k := 16) (by decide) (fun v7 => sn_Pf.ite (pf_Md_serving_72 M) (sn_Pf.nn (sn_Pf.cV (pf_Md_fail M x1 (0 : Int32)) (pf_Md_serving_72 M)))))))))
set_option maxHeartbeats 4000000 in
set_option maxRecDepth 100000 in
theorem pf_Md_serving (M : Nat) (x1 : Int32) (x2 : Int32) (x3 : Int32) : sn_Pf M (f_Md_serving M x1 x2 x3) (g_Md_serving x1 x2 x3) := sn_Pf.gR (k := 19) (by decide) (sn_Pf.aI (k := 19) (by decide) (fun v9 => sn_Pf.bI (k := 19) (by decide) (sn_Pf.gR (k := 19) (by decide) (sn_Pf.aI (k := 19) (by decide) (fun v10 => sn_Pf.ite (pf_Md_serving_41 M x1 x2 x3) (sn_Pf.gR (k := 16) (by decide) (sn_Pf.aI (k := 16) (by decide) (fun v11 => sn_Pf.ite (pf_Md_serving_41 M x1 x2 x3) (sn_Pf.gR (k := 16) (by decide) (sn_Pf.aI (k := 16) (by decide) (fun v12 => sn_Pf.bI (k := 16) (by decide) (pf_Md_serving_41 M x1 x2 x3))))))))))))
set_option maxHeartbeats 4000000 in
set_option maxRecDepth 100000 in
theorem pf_Md_arrive_224 (M : Nat) : sn_Pf M (f_Md_arrive_224 M) (g_Md_arrive_224) := sn_Pf.V
set_option maxHeartbeats 4000000 in
set_option maxRecDepth 100000 in
theorem pf_Md_arrive_181 (M : Nat) (t1 : Int32) (t2 : Int32) : sn_Pf M (f_Md_arrive_181 M (some M) t1 t2) (g_Md_arrive_181 t1 t2) := sn_Pf.nn (sn_Pf.cV (pf_Md_prove M t1 t2) (pf_Md_arrive_224 M))
set_option maxHeartbeats 4000000 in
set_option maxRecDepth 100000 in
theorem pf_Md_arrive_176 (M : Nat) (t1 : Int32) : sn_Pf M (f_Md_arrive_176 M (some M) t1) (g_Md_arrive_176 t1) := pf_Md_arrive_181 M t1 (1 : Int32)
set_option maxHeartbeats 4000000 in
set_option maxRecDepth 100000 in
theorem pf_Md_arrive_146 (M : Nat) (x1 : Int32) (x3 : Int32) : sn_Pf M (f_Md_arrive_146 M x1 x3) (g_Md_arrive_146 x1 x3) := sn_Pf.gR (k := 10) (by decide) (sn_Pf.bI (k := 10) (by decide) (sn_Pf.gR (k := 17) (by decide) (sn_Pf.bI (k := 17) (by decide) (sn_Pf.gR (k := 23) (by decide) (sn_Pf.aI (k := 23) (by decide) (fun v2 => sn_Pf.ite (pf_Md_arrive_176 M x1) (sn_Pf.ite (pf_Md_arrive_181 M x1 (0 : Int32)) (pf_Md_arrive_176 M x1))))))))
set_option maxHeartbeats 4000000 in
set_option maxRecDepth 100000 in
theorem pf_Md_arrive_132 (M : Nat) (x1 : Int32) (x2 : Int32) (x3 : Int32) : sn_Pf M (f_Md_arrive_132 M x1 x2 x3) (g_Md_arrive_132 x1 x2 x3) := sn_Pf.ite (pf_Md_arrive_224 M) (sn_Pf.ite (pf_Md_arrive_146 M x1 x3) (sn_Pf.ite (pf_Md_arrive_224 M) (pf_Md_arrive_146 M x1 x3)))
set_option maxHeartbeats 4000000 in
set_option maxRecDepth 100000 in
theorem pf_Md_arrive_76 (M : Nat) (x1 : Int32) (x2 : Int32) (x3 : Int32) : sn_Pf M (f_Md_arrive_76 M x1 x2 x3) (g_Md_arrive_76 x1 x2 x3) := sn_Pf.gR (k := 10) (by decide) (sn_Pf.aI (k := 10) (by decide) (fun v3 => sn_Pf.ite (sn_Pf.gR (k := 10) (by decide) (sn_Pf.aI (k := 10) (by decide) (fun v4 => sn_Pf.ite (sn_Pf.gR (k := 10) (by decide) (sn_Pf.aI (k := 10) (by decide) (fun v5 => sn_Pf.ite (sn_Pf.gR (k := 10) (by decide) (sn_Pf.aI (k := 10) (by decide) (fun v6 => sn_Pf.ite (pf_Md_arrive_224 M) (sn_Pf.nn (sn_Pf.cV (pf_Md_serving M x1 x2 x3) (pf_Md_arrive_224 M)))))) (sn_Pf.nn (sn_Pf.cV (pf_Md_proving M x1 x2 x3) (pf_Md_arrive_224 M)))))) (sn_Pf.ite (pf_Md_arrive_132 M x1 x2 x3) (sn_Pf.ite (pf_Md_arrive_132 M x1 x2 x3) (sn_Pf.nn (sn_Pf.cV (pf_Md_fail M x1 (0 : Int32)) (pf_Md_arrive_132 M x1 x2 x3)))))))) (sn_Pf.ite (pf_Md_arrive_224 M) (sn_Pf.ite (pf_Md_arrive_224 M) (sn_Pf.ite (pf_Md_arrive_224 M) (sn_Pf.nn (sn_Pf.cV (pf_Md_align M x1) (pf_Md_arrive_224 M))))))))
set_option maxHeartbeats 4000000 in
set_option maxRecDepth 100000 in
theorem pf_Md_arrive_62 (M : Nat) (x1 : Int32) (x2 : Int32) (x3 : Int32) : sn_Pf M (f_Md_arrive_62 M x1 x2 x3) (g_Md_arrive_62 x1 x2 x3) := sn_Pf.gR (k := 38) (by decide) (sn_Pf.gR (k := 39) (by decide) (sn_Pf.aI (k := 39) (by decide) (fun v11 => sn_Pf.bI (k := 38) (by decide) (pf_Md_arrive_76 M x1 x2 x3))))
set_option maxHeartbeats 4000000 in
set_option maxRecDepth 100000 in
theorem pf_Md_arrive_39 (M : Nat) (x1 : Int32) (x2 : Int32) (x3 : Int32) : sn_Pf M (f_Md_arrive_39 M x1 x2 x3) (g_Md_arrive_39 x1 x2 x3) := sn_Pf.ite (pf_Md_arrive_76 M x1 x2 x3) (sn_Pf.gR (k := 10) (by decide) (sn_Pf.aI (k := 10) (by decide) (fun v12 => sn_Pf.ite (pf_Md_arrive_76 M x1 x2 x3) (sn_Pf.ite (pf_Md_arrive_62 M x1 x2 x3) (sn_Pf.ite (pf_Md_arrive_76 M x1 x2 x3) (pf_Md_arrive_62 M x1 x2 x3))))))
set_option maxHeartbeats 4000000 in
set_option maxRecDepth 100000 in
theorem pf_Md_arrive (M : Nat) (x1 : Int32) : sn_Pf M (f_Md_arrive M x1) (g_Md_arrive x1) := sn_Pf.gR (k := 3) (by decide) (sn_Pf.aI (k := 3) (by decide) (fun v13 => sn_Pf.gR (k := 30) (by decide) (sn_Pf.aI (k := 30) (by decide) (fun v14 => sn_Pf.gR (k := 22) (by decide) (sn_Pf.aI (k := 22) (by decide) (fun v15 => sn_Pf.ite (pf_Md_arrive_39 M x1 v13 v14) (sn_Pf.gR (k := 22) (by decide) (sn_Pf.aI (k := 22) (by decide) (fun v16 => sn_Pf.bI (k := 22) (by decide) (pf_Md_arrive_39 M x1 (1 : Int32) v14))))))))))
set_option maxHeartbeats 4000000 in
set_option maxRecDepth 100000 in
theorem pf_Md_timer_129 (M : Nat) : sn_Pf M (f_Md_timer_129 M) (g_Md_timer_129) := sn_Pf.V
set_option maxHeartbeats 4000000 in
set_option maxRecDepth 100000 in
theorem pf_Md_timer_101 (M : Nat) (x1 : Int32) : sn_Pf M (f_Md_timer_101 M x1) (g_Md_timer_101 x1) := sn_Pf.gR (k := 20) (by decide) (sn_Pf.aI (k := 20) (by decide) (fun v1 => sn_Pf.ite (pf_Md_timer_129 M) (sn_Pf.gR (k := 20) (by decide) (sn_Pf.aI (k := 20) (by decide) (fun v2 => sn_Pf.gS (k := 6) rfl (fun v3 => sn_Pf.ite (pf_Md_timer_129 M) (sn_Pf.nn (sn_Pf.cV (pf_Md_fail M x1 (0 : Int32)) (pf_Md_timer_129 M)))))))))
set_option maxHeartbeats 4000000 in
set_option maxRecDepth 100000 in
theorem pf_Md_timer (M : Nat) (x1 : Int32) : sn_Pf M (f_Md_timer M x1) (g_Md_timer x1) := sn_Pf.gR (k := 11) (by decide) (sn_Pf.aI (k := 11) (by decide) (fun v5 => sn_Pf.ite (pf_Md_timer_101 M x1) (sn_Pf.gR (k := 11) (by decide) (sn_Pf.aI (k := 11) (by decide) (fun v6 => sn_Pf.gS (k := 6) rfl (fun v7 => sn_Pf.ite (pf_Md_timer_101 M x1) (sn_Pf.gR (k := 11) (by decide) (sn_Pf.bI (k := 11) (by decide) (sn_Pf.gR (k := 10) (by decide) (sn_Pf.aI (k := 10) (by decide) (fun v8 => sn_Pf.ite (sn_Pf.gR (k := 10) (by decide) (sn_Pf.aI (k := 10) (by decide) (fun v9 => sn_Pf.ite (sn_Pf.nn (sn_Pf.cV (pf_Md_fail M x1 (0 : Int32)) (pf_Md_timer_101 M x1))) (sn_Pf.gR (k := 10) (by decide) (sn_Pf.bI (k := 10) (by decide) (sn_Pf.gR (k := 11) (by decide) (sn_Pf.gS (k := 6) rfl (fun v11 => sn_Pf.bI (k := 11) (by decide) (sn_Pf.nn (sn_Pf.cV (pf_Md_fresh M x1) (pf_Md_timer_101 M x1))))))))))) (sn_Pf.gR (k := 2) (by decide) (sn_Pf.aI (k := 2) (by decide) (fun v13 => sn_Pf.ite (pf_Md_timer_101 M x1) (sn_Pf.nn (sn_Pf.cV (pf_Md_start M x1) (pf_Md_timer_101 M x1)))))))))))))))))
set_option maxHeartbeats 4000000 in
set_option maxRecDepth 100000 in
theorem pf_Md_send_424 (M : Nat) : sn_Pf M (f_Md_send_424 M) (g_Md_send_424) := sn_Pf.V
set_option maxHeartbeats 4000000 in
set_option maxRecDepth 100000 in
theorem pf_Md_send_374 (M : Nat) : ∀ (n : Nat) (x1 : Int32) (x3 : Int32), sn_Pf M (f_Md_send_374 M n x1 x3) (g_Md_send_374 n x1 x3)
  | 0, _, _ => sn_Pf.z0
  | n + 1, x1, x3 => sn_Pf.gR (k := 29) (by decide) (sn_Pf.aI (k := 29) (by decide) (fun v1 => sn_Pf.ite (sn_Pf.gR (k := 29) (by decide) (sn_Pf.aI (k := 29) (by decide) (fun v2 => sn_Pf.bI (k := 29) (by decide) (pf_Md_send_424 M)))) (sn_Pf.gR (k := 28) (by decide) (sn_Pf.gR (k := 28) (by decide) (sn_Pf.aJ (k := 28) (by decide) (fun v3 => sn_Pf.bJ (k := 28) (by decide) (pf_Md_send_374 M n x1 (x3 + (1 : Int32)))))))))
set_option maxHeartbeats 4000000 in
set_option maxRecDepth 100000 in
theorem pf_Md_send_315 (M : Nat) (x1 : Int32) : sn_Pf M (f_Md_send_315 M x1) (g_Md_send_315 x1) := sn_Pf.gR (k := 25) (by decide) (sn_Pf.gR (k := 27) (by decide) (sn_Pf.aI (k := 27) (by decide) (fun v4 => sn_Pf.gR (k := 28) (by decide) (sn_Pf.aJ (k := 28) (by decide) (fun v5 => sn_Pf.bJ (k := 25) (by decide) (sn_Pf.gR (k := 26) (by decide) (sn_Pf.gR (k := 27) (by decide) (sn_Pf.aI (k := 27) (by decide) (fun v6 => sn_Pf.gR (k := 12) (by decide) (sn_Pf.aI (k := 12) (by decide) (fun v7 => sn_Pf.bI (k := 26) (by decide) (sn_Pf.gR (k := 27) (by decide) (sn_Pf.aI (k := 27) (by decide) (fun v8 => sn_Pf.bI (k := 27) (by decide) (pf_Md_send_374 M sn_fuel x1 (1 : Int32))))))))))))))))
set_option maxHeartbeats 4000000 in
set_option maxRecDepth 100000 in
theorem pf_Md_send_119 (M : Nat) (x1 : Int32) (x2 : Int32) (t1 : Int32) (t2 : Int32) : sn_Pf M (f_Md_send_119 M x1 x2 (some (md_ad M 30)) t1 t2) (g_Md_send_119 x1 x2 t1 t2) := sn_Pf.bI (k := 30) (by decide) (sn_Pf.ite (sn_Pf.gR (k := 21) (by decide) (sn_Pf.aI (k := 21) (by decide) (fun v9 => sn_Pf.ite (sn_Pf.gR (k := 29) (by decide) (sn_Pf.aI (k := 29) (by decide) (fun v10 => sn_Pf.ite (pf_Md_send_424 M) (sn_Pf.gR (k := 27) (by decide) (sn_Pf.aI (k := 27) (by decide) (fun v11 => sn_Pf.ite (pf_Md_send_424 M) (sn_Pf.gR (k := 12) (by decide) (sn_Pf.gR (k := 12) (by decide) (sn_Pf.aI (k := 12) (by decide) (fun v12 => sn_Pf.bI (k := 12) (by decide) (sn_Pf.gR (k := 30) (by decide) (sn_Pf.bI (k := 30) (by decide) (sn_Pf.gR (k := 31) (by decide) (sn_Pf.gR (k := 12) (by decide) (sn_Pf.aI (k := 12) (by decide) (fun v13 => sn_Pf.bI (k := 31) (by decide) (sn_Pf.gR (k := 35) (by decide) (sn_Pf.gR (k := 28) (by decide) (sn_Pf.aJ (k := 28) (by decide) (fun v14 => sn_Pf.bJ (k := 35) (by decide) (sn_Pf.gR (k := 27) (by decide) (sn_Pf.aI (k := 27) (by decide) (fun v15 => sn_Pf.ite (pf_Md_send_315 M x1) (sn_Pf.gR (k := 20) (by decide) (sn_Pf.gS (k := 6) rfl (fun v16 => sn_Pf.bI (k := 20) (by decide) (pf_Md_send_315 M x1))))))))))))))))))))))))))) (sn_Pf.gR (k := 30) (by decide) (sn_Pf.bI (k := 30) (by decide) (sn_Pf.gR (k := 31) (by decide) (sn_Pf.gR (k := 26) (by decide) (sn_Pf.gR (k := 21) (by decide) (sn_Pf.aI (k := 21) (by decide) (fun v17 => sn_Pf.aI (k := 26) (by decide) (fun v18 => sn_Pf.bI (k := 31) (by decide) (sn_Pf.gR (k := 35) (by decide) (sn_Pf.gR (k := 25) (by decide) (sn_Pf.gR (k := 21) (by decide) (sn_Pf.aI (k := 21) (by decide) (fun v19 => sn_Pf.aJ (k := 25) (by decide) (fun v20 => sn_Pf.bJ (k := 35) (by decide) (sn_Pf.gR (k := 21) (by decide) (sn_Pf.aI (k := 21) (by decide) (fun v21 => sn_Pf.bI (k := 21) (by decide) (sn_Pf.gR (k := 21) (by decide) (sn_Pf.aI (k := 21) (by decide) (fun v22 => sn_Pf.gR (k := 27) (by decide) (sn_Pf.aI (k := 27) (by decide) (fun v23 => sn_Pf.ite (pf_Md_send_424 M) (sn_Pf.gR (k := 21) (by decide) (sn_Pf.bI (k := 21) (by decide) (pf_Md_send_424 M)))))))))))))))))))))))))))) (sn_Pf.V))
set_option maxHeartbeats 4000000 in
set_option maxRecDepth 100000 in
theorem pf_Md_send (M : Nat) (x1 : Int32) : sn_Pf M (f_Md_send M x1) (g_Md_send x1) := sn_Pf.gR (k := 10) (by decide) (sn_Pf.aI (k := 10) (by decide) (fun v24 => sn_Pf.gR (k := 36) (by decide) (sn_Pf.bZ (k := 36) (by decide) (sn_Pf.gR (k := 39) (by decide) (sn_Pf.gR (k := 37) (by decide) (sn_Pf.aI (k := 37) (by decide) (fun v25 => sn_Pf.bI (k := 39) (by decide) (sn_Pf.gR (k := 31) (by decide) (sn_Pf.gR (k := 12) (by decide) (sn_Pf.aI (k := 12) (by decide) (fun v26 => sn_Pf.bI (k := 31) (by decide) (sn_Pf.gR (k := 32) (by decide) (sn_Pf.gR (k := 14) (by decide) (sn_Pf.aI (k := 14) (by decide) (fun v27 => sn_Pf.bI (k := 32) (by decide) (sn_Pf.gR (k := 33) (by decide) (sn_Pf.gR (k := 13) (by decide) (sn_Pf.aI (k := 13) (by decide) (fun v28 => sn_Pf.bI (k := 33) (by decide) (sn_Pf.gR (k := 34) (by decide) (sn_Pf.gR (k := 15) (by decide) (sn_Pf.aI (k := 15) (by decide) (fun v29 => sn_Pf.bI (k := 34) (by decide) (sn_Pf.gR (k := 30) (by decide) (sn_Pf.ite (sn_Pf.ite (sn_Pf.ite (pf_Md_send_119 M x1 v24 x1 (4 : Int32)) (sn_Pf.gR (k := 23) (by decide) (sn_Pf.aI (k := 23) (by decide) (fun v30 => sn_Pf.ite (pf_Md_send_119 M x1 v24 x1 (2 : Int32)) (pf_Md_send_119 M x1 v24 x1 (3 : Int32)))))) (pf_Md_send_119 M x1 v24 x1 (1 : Int32))) (pf_Md_send_119 M x1 v24 x1 (0 : Int32)))))))))))))))))))))))))))
set_option maxHeartbeats 4000000 in
set_option maxRecDepth 100000 in
theorem pf_Md_lineTimer_190 (M : Nat) : sn_Pf M (f_Md_lineTimer_190 M) (g_Md_lineTimer_190) := sn_Pf.V
set_option maxHeartbeats 4000000 in
set_option maxRecDepth 100000 in
theorem pf_Md_lineTimer_139 (M : Nat) (x1 : Int32) : sn_Pf M (f_Md_lineTimer_139 M x1) (g_Md_lineTimer_139 x1) := sn_Pf.gR (k := 52) (by decide) (sn_Pf.aI (k := 52) (by decide) (fun v1 => sn_Pf.ite (pf_Md_lineTimer_190 M) (sn_Pf.gR (k := 54) (by decide) (sn_Pf.aI (k := 54) (by decide) (fun v2 => sn_Pf.ite (pf_Md_lineTimer_190 M) (sn_Pf.gR (k := 54) (by decide) (sn_Pf.aI (k := 54) (by decide) (fun v3 => sn_Pf.gS (k := 6) rfl (fun v4 => sn_Pf.ite (pf_Md_lineTimer_190 M) (sn_Pf.nn (sn_Pf.cV (pf_Md_say M x1 (12 : Int32) (0 : Int32)) (sn_Pf.nn (sn_Pf.cV (pf_Md_becomes M x1 (8 : Int32) (30 : Int32) (0 : Int32)) (pf_Md_lineTimer_190 M))))))))))))))
set_option maxHeartbeats 4000000 in
set_option maxRecDepth 100000 in
theorem pf_Md_lineTimer_49 (M : Nat) (x1 : Int32) : sn_Pf M (f_Md_lineTimer_49 M x1) (g_Md_lineTimer_49 x1) := sn_Pf.gR (k := 57) (by decide) (sn_Pf.aI (k := 57) (by decide) (fun v7 => sn_Pf.nn (sn_Pf.cV (pf_Md_letGo M ((100 : Int32) + x1)) (sn_Pf.nn (sn_Pf.cV (pf_Md_letGo M v7) (pf_Md_lineTimer_139 M x1))))))
set_option maxHeartbeats 4000000 in
set_option maxRecDepth 100000 in
theorem pf_Md_lineTimer (M : Nat) (x1 : Int32) : sn_Pf M (f_Md_lineTimer M x1) (g_Md_lineTimer x1) := sn_Pf.gR (k := 53) (by decide) (sn_Pf.aI (k := 53) (by decide) (fun v10 => sn_Pf.ite (pf_Md_lineTimer_139 M x1) (sn_Pf.gR (k := 53) (by decide) (sn_Pf.aI (k := 53) (by decide) (fun v11 => sn_Pf.gS (k := 6) rfl (fun v12 => sn_Pf.ite (pf_Md_lineTimer_139 M x1) (sn_Pf.gR (k := 53) (by decide) (sn_Pf.bI (k := 53) (by decide) (sn_Pf.gR (k := 52) (by decide) (sn_Pf.aI (k := 52) (by decide) (fun v13 => sn_Pf.ite (pf_Md_lineTimer_49 M x1) (sn_Pf.gR (k := 52) (by decide) (sn_Pf.aI (k := 52) (by decide) (fun v14 => sn_Pf.ite (sn_Pf.gR (k := 52) (by decide) (sn_Pf.aI (k := 52) (by decide) (fun v15 => sn_Pf.ite (sn_Pf.gR (k := 52) (by decide) (sn_Pf.aI (k := 52) (by decide) (fun v16 => sn_Pf.ite (pf_Md_lineTimer_139 M x1) (sn_Pf.nn (sn_Pf.cV (pf_Md_say M x1 (12 : Int32) (0 : Int32)) (sn_Pf.gR (k := 53) (by decide) (sn_Pf.gS (k := 6) rfl (fun v18 => sn_Pf.bI (k := 53) (by decide) (pf_Md_lineTimer_139 M x1))))))))) (sn_Pf.nn (sn_Pf.cV (pf_Md_say M x1 (10 : Int32) (0 : Int32)) (sn_Pf.gR (k := 53) (by decide) (sn_Pf.gS (k := 6) rfl (fun v20 => sn_Pf.bI (k := 53) (by decide) (pf_Md_lineTimer_139 M x1))))))))) (pf_Md_lineTimer_49 M x1)))))))))))))))
set_option maxHeartbeats 4000000 in
set_option maxRecDepth 100000 in
theorem pf_Md_one_136 (M : Nat) (fk66 : Int32 → Int32 → sn_M) (k66 : Int32 → Int32 → sn_G) (hk66 : ∀ (x1 : Int32) (x2 : Int32), sn_Pf M (fk66 x1 x2) (k66 x1 x2)) (x1 : Int32) (x2 : Int32) : sn_Pf M (f_Md_one_136 fk66 M x1 x2) (g_Md_one_136 k66 x1 x2) := hk66 x1 (x2 + (1 : Int32))
set_option maxHeartbeats 4000000 in
set_option maxRecDepth 100000 in
theorem pf_Md_one_97 (M : Nat) (fk66 : Int32 → Int32 → sn_M) (k66 : Int32 → Int32 → sn_G) (hk66 : ∀ (x1 : Int32) (x2 : Int32), sn_Pf M (fk66 x1 x2) (k66 x1 x2)) (x1 : Int32) (x2 : Int32) : sn_Pf M (f_Md_one_97 fk66 M x1 x2) (g_Md_one_97 k66 x1 x2) := sn_Pf.gR (k := 40) (by decide) (sn_Pf.nn (sn_Pf.cI (pf_Md_endAt M x2 x1) (fun v1 => sn_Pf.aI (k := 40) (by decide) (fun v2 => sn_Pf.ite (pf_Md_one_136 M fk66 k66 hk66 x1 x2) (sn_Pf.gR (k := 40) (by decide) (sn_Pf.nn (sn_Pf.cI (pf_Md_endAt M x2 x1) (fun v3 => sn_Pf.aI (k := 40) (by decide) (fun v4 => sn_Pf.gS (k := 6) rfl (fun v5 => sn_Pf.ite (pf_Md_one_136 M fk66 k66 hk66 x1 x2) (sn_Pf.nn (sn_Pf.cV (pf_Md_overEnds M x1 x2 (-1 : Int32)) (pf_Md_one_136 M fk66 k66 hk66 x1 x2)))))))))))))
set_option maxHeartbeats 4000000 in
set_option maxRecDepth 100000 in
theorem pf_Md_one_238 (M : Nat) (fk152 : Int32 → Int32 → Int32 → sn_M) (k152 : Int32 → Int32 → Int32 → sn_G) (hk152 : ∀ (x1 : Int32) (x2 : Int32) (x3 : Int32), sn_Pf M (fk152 x1 x2 x3) (k152 x1 x2 x3)) (x1 : Int32) (x2 : Int32) (x3 : Int32) : sn_Pf M (f_Md_one_238 fk152 M x1 x2 x3) (g_Md_one_238 k152 x1 x2 x3) := hk152 x1 x2 (x3 + (1 : Int32))
set_option maxHeartbeats 4000000 in
set_option maxRecDepth 100000 in
theorem pf_Md_one_152 (M : Nat) (fk144 : Int32 → Int32 → sn_M) (k144 : Int32 → Int32 → sn_G) (hk144 : ∀ (x1 : Int32) (x2 : Int32), sn_Pf M (fk144 x1 x2) (k144 x1 x2)) : ∀ (n : Nat) (x1 : Int32) (x2 : Int32) (x3 : Int32), sn_Pf M (f_Md_one_152 fk144 M n x1 x2 x3) (g_Md_one_152 k144 n x1 x2 x3)
  | 0, _, _, _ => sn_Pf.z0
  | n + 1, x1, x2, x3 => sn_Pf.ite (hk144 x1 (x2 + (1 : Int32))) (sn_Pf.nn (sn_Pf.cI (pf_Md_flowAt M x1 x2 x3) (fun v7 => sn_Pf.gR (k := 44) (by decide) (sn_Pf.aI (k := 44) (by decide) (fun v8 => sn_Pf.ite (pf_Md_one_238 M (f_Md_one_152 fk144 M n) (g_Md_one_152 k144 n) (pf_Md_one_152 M fk144 k144 hk144 n) x1 x2 x3) (sn_Pf.gR (k := 44) (by decide) (sn_Pf.aI (k := 44) (by decide) (fun v9 => sn_Pf.gS (k := 6) rfl (fun v10 => sn_Pf.ite (sn_Pf.gR (k := 41) (by decide) (sn_Pf.aI (k := 41) (by decide) (fun v11 => sn_Pf.nn (sn_Pf.cI (pf_Md_endAt M v11 x1) (fun v12 => sn_Pf.gR (k := 45) (by decide) (sn_Pf.aI (k := 45) (by decide) (fun v13 => sn_Pf.cJ (pf_Md_message M (3 : Int32) x1 x2 x3 x3 v13) (fun v14 => sn_Pf.nn (sn_Pf.cV (pf_Md_waitAt M v12 v14) (sn_Pf.gR (k := 44) (by decide) (sn_Pf.gS (k := 6) rfl (fun v16 => sn_Pf.bI (k := 44) (by decide) (pf_Md_one_238 M (f_Md_one_152 fk144 M n) (g_Md_one_152 k144 n) (pf_Md_one_152 M fk144 k144 hk144 n) x1 x2 x3))))))))))))) (pf_Md_one_238 M (f_Md_one_152 fk144 M n) (g_Md_one_152 k144 n) (pf_Md_one_152 M fk144 k144 hk144 n) x1 x2 x3))))))))))
set_option maxHeartbeats 4000000 in
set_option maxRecDepth 100000 in
theorem pf_Md_one_144 (M : Nat) (fk58 : Int32 → sn_M) (k58 : Int32 → sn_G) (hk58 : ∀ (x1 : Int32), sn_Pf M (fk58 x1) (k58 x1)) : ∀ (n : Nat) (x1 : Int32) (x2 : Int32), sn_Pf M (f_Md_one_144 fk58 M n x1 x2) (g_Md_one_144 k58 n x1 x2)
  | 0, _, _ => sn_Pf.z0
  | n + 1, x1, x2 => sn_Pf.ite (hk58 (x1 + (1 : Int32))) (pf_Md_one_152 M (f_Md_one_144 fk58 M n) (g_Md_one_144 k58 n) (pf_Md_one_144 M fk58 k58 hk58 n) sn_fuel x1 x2 (0 : Int32))
set_option maxHeartbeats 4000000 in
set_option maxRecDepth 100000 in
theorem pf_Md_one_66 (M : Nat) (fk58 : Int32 → sn_M) (k58 : Int32 → sn_G) (hk58 : ∀ (x1 : Int32), sn_Pf M (fk58 x1) (k58 x1)) : ∀ (n : Nat) (x1 : Int32) (x2 : Int32), sn_Pf M (f_Md_one_66 fk58 M n x1 x2) (g_Md_one_66 k58 n x1 x2)
  | 0, _, _ => sn_Pf.z0
  | n + 1, x1, x2 => sn_Pf.gS (k := 4) rfl (fun v17 => sn_Pf.ite (pf_Md_one_144 M fk58 k58 hk58 sn_fuel x1 (0 : Int32)) (sn_Pf.gR (k := 0) (by decide) (sn_Pf.aI (k := 0) (by decide) (fun v18 => sn_Pf.ite (pf_Md_one_97 M (f_Md_one_66 fk58 M n) (g_Md_one_66 k58 n) (pf_Md_one_66 M fk58 k58 hk58 n) x1 x2) (sn_Pf.gR (k := 1) (by decide) (sn_Pf.aI (k := 1) (by decide) (fun v19 => sn_Pf.ite (pf_Md_one_97 M (f_Md_one_66 fk58 M n) (g_Md_one_66 k58 n) (pf_Md_one_66 M fk58 k58 hk58 n) x1 x2) (pf_Md_one_136 M (f_Md_one_66 fk58 M n) (g_Md_one_66 k58 n) (pf_Md_one_66 M fk58 k58 hk58 n) x1 x2))))))))
set_option maxHeartbeats 4000000 in
set_option maxRecDepth 100000 in
theorem pf_Md_one_278 (M : Nat) : ∀ (n : Nat) (x1 : Int32), sn_Pf M (f_Md_one_278 M n x1) (g_Md_one_278 n x1)
  | 0, _ => sn_Pf.z0
  | n + 1, x1 => sn_Pf.gS (k := 4) rfl (fun v20 => sn_Pf.ite (sn_Pf.gS (k := 5) rfl (fun v21 => sn_Pf.pS (k := 5) rfl (sn_Pf.V))) (sn_Pf.nn (sn_Pf.cV (pf_Md_send M x1) (pf_Md_one_278 M n (x1 + (1 : Int32))))))
set_option maxHeartbeats 4000000 in
set_option maxRecDepth 100000 in
theorem pf_Md_one_258 (M : Nat) : ∀ (n : Nat) (x1 : Int32), sn_Pf M (f_Md_one_258 M n x1) (g_Md_one_258 n x1)
  | 0, _ => sn_Pf.z0
  | n + 1, x1 => sn_Pf.ite (pf_Md_one_278 M sn_fuel (0 : Int32)) (sn_Pf.nn (sn_Pf.cV (pf_Md_lineTimer M x1) (pf_Md_one_258 M n (x1 + (1 : Int32)))))
set_option maxHeartbeats 4000000 in
set_option maxRecDepth 100000 in
theorem pf_Md_one_58 (M : Nat) : ∀ (n : Nat) (x1 : Int32), sn_Pf M (f_Md_one_58 M n x1) (g_Md_one_58 n x1)
  | 0, _ => sn_Pf.z0
  | n + 1, x1 => sn_Pf.ite (pf_Md_one_258 M sn_fuel (0 : Int32)) (pf_Md_one_66 M (f_Md_one_58 M n) (g_Md_one_58 n) (pf_Md_one_58 M n) sn_fuel x1 (0 : Int32))
set_option maxHeartbeats 4000000 in
set_option maxRecDepth 100000 in
theorem pf_Md_one_35 (M : Nat) : ∀ (n : Nat) (x1 : Int32), sn_Pf M (f_Md_one_35 M n x1) (g_Md_one_35 n x1)
  | 0, _ => sn_Pf.z0
  | n + 1, x1 => sn_Pf.gS (k := 4) rfl (fun v24 => sn_Pf.ite (pf_Md_one_58 M sn_fuel (0 : Int32)) (sn_Pf.nn (sn_Pf.cV (pf_Md_timer M x1) (pf_Md_one_35 M n (x1 + (1 : Int32))))))
set_option maxHeartbeats 4000000 in
set_option maxRecDepth 100000 in
theorem pf_Md_one_2 (M : Nat) : ∀ (n : Nat) (x1 : Int32), sn_Pf M (f_Md_one_2 M n x1) (g_Md_one_2 n x1)
  | 0, _ => sn_Pf.z0
  | n + 1, x1 => sn_Pf.gS (k := 4) rfl (fun v26 => sn_Pf.ite (sn_Pf.gS (k := 6) rfl (fun v27 => sn_Pf.pS (k := 6) rfl (pf_Md_one_35 M sn_fuel (0 : Int32)))) (sn_Pf.nn (sn_Pf.cV (pf_Md_arrive M x1) (pf_Md_one_2 M n (x1 + (1 : Int32))))))
set_option maxHeartbeats 4000000 in
set_option maxRecDepth 100000 in
theorem pf_Md_one (M : Nat) : sn_Pf M (f_Md_one M) (g_Md_one) := pf_Md_one_2 M sn_fuel (0 : Int32)
set_option maxHeartbeats 4000000 in
set_option maxRecDepth 100000 in
theorem pf_Md_link_38 (M : Nat) : sn_Pf M (f_Md_link_38 M) (g_Md_link_38) := sn_Pf.I
set_option maxHeartbeats 4000000 in
set_option maxRecDepth 100000 in
theorem pf_Md_link_77 (M : Nat) (t1 : Int32) (t2 : Int32) : sn_Pf M (f_Md_link_77 M (some (md_ad M 1)) t1 t2) (g_Md_link_77 t1 t2) := sn_Pf.bI (k := 1) (by decide) (sn_Pf.gS (k := 4) rfl (fun v1 => sn_Pf.pS (k := 4) rfl (sn_Pf.gS (k := 4) rfl (fun v2 => sn_Pf.I))))
set_option maxHeartbeats 4000000 in
set_option maxRecDepth 100000 in
theorem pf_Md_link_58 (M : Nat) (x1 : Int32) (x2 : Int32) (t1 : Int32) (t2 : Int32) : sn_Pf M (f_Md_link_58 M x1 x2 (some (md_ad M 0)) t1 t2) (g_Md_link_58 x1 x2 t1 t2) := sn_Pf.bI (k := 0) (by decide) (sn_Pf.gR (k := 1) (by decide) (sn_Pf.gS (k := 4) rfl (fun v3 => sn_Pf.ite (pf_Md_link_77 M v3 x1) (pf_Md_link_77 M v3 x2))))
set_option maxHeartbeats 4000000 in
set_option maxRecDepth 100000 in
theorem pf_Md_link (M : Nat) (x1 : Int32) (x2 : Int32) : sn_Pf M (f_Md_link M x1 x2) (g_Md_link x1 x2) := sn_Pf.cI (pf_Md_isExchange M x1) (fun v4 => sn_Pf.ite (pf_Md_link_38 M) (sn_Pf.cI (pf_Md_isExchange M x2) (fun v5 => sn_Pf.ite (pf_Md_link_38 M) (sn_Pf.ite (pf_Md_link_38 M) (sn_Pf.gS (k := 4) rfl (fun v6 => sn_Pf.ite (pf_Md_link_38 M) (sn_Pf.nn (sn_Pf.cI (pf_Md_setSize M x1 x2) (fun v7 => sn_Pf.ite (sn_Pf.gR (k := 0) (by decide) (sn_Pf.gS (k := 4) rfl (fun v8 => sn_Pf.ite (pf_Md_link_58 M x1 x2 v8 x2) (pf_Md_link_58 M x1 x2 v8 x1)))) (pf_Md_link_38 M))))))))))
set_option maxHeartbeats 4000000 in
set_option maxRecDepth 100000 in
theorem pf_Md_canBeTold_22 (M : Nat) (t0 : Int32) : sn_Pf M (f_Md_canBeTold_22 t0) (g_Md_canBeTold_22 t0) := sn_Pf.Z
set_option maxHeartbeats 4000000 in
set_option maxRecDepth 100000 in
theorem pf_Md_canBeTold_17 (M : Nat) : sn_Pf M (f_Md_canBeTold_17) (g_Md_canBeTold_17) := pf_Md_canBeTold_22 M (1 : Int32)
set_option maxHeartbeats 4000000 in
set_option maxRecDepth 100000 in
theorem pf_Md_canBeTold_21 (M : Nat) : sn_Pf M (f_Md_canBeTold_21) (g_Md_canBeTold_21) := pf_Md_canBeTold_22 M (0 : Int32)
set_option maxHeartbeats 4000000 in
set_option maxRecDepth 100000 in
theorem pf_Md_canBeTold (M : Nat) (x0 : Int32) (x1 : Int32) : sn_Pf M (f_Md_canBeTold x0 x1) (g_Md_canBeTold x0 x1) := sn_Pf.ite (pf_Md_canBeTold_17 M) (sn_Pf.cI (pf_Md_isExchange M x1) (fun v1 => sn_Pf.ite (pf_Md_canBeTold_21 M) (sn_Pf.ite (pf_Md_canBeTold_21 M) (pf_Md_canBeTold_17 M))))
set_option maxHeartbeats 4000000 in
set_option maxRecDepth 100000 in
theorem pf_Md_route__47 (M : Nat) : sn_Pf M (f_Md_route__47 M) (g_Md_route__47) := sn_Pf.Z
set_option maxHeartbeats 4000000 in
set_option maxRecDepth 100000 in
theorem pf_Md_route__49 (M : Nat) (x1 : Int32) (x2 : Int32) (x3 : Int32) (x4 : Int32) : sn_Pf M (f_Md_route__49 M x1 x2 x3 x4) (g_Md_route__49 x1 x2 x3 x4) := sn_Pf.gR (k := 50) (by decide) (sn_Pf.bI (k := 50) (by decide) (sn_Pf.gR (k := 51) (by decide) (sn_Pf.bI (k := 51) (by decide) (sn_Pf.nn (sn_Pf.cV (pf_Md_look M x1) (sn_Pf.Z))))))
set_option maxHeartbeats 4000000 in
set_option maxRecDepth 100000 in
theorem pf_Md_route_ (M : Nat) (x1 : Int32) (x2 : Int32) (x3 : Int32) (x4 : Int32) : sn_Pf M (f_Md_route_ M x1 x2 x3 x4) (g_Md_route_ x1 x2 x3 x4) := sn_Pf.cI (pf_Md_isExchange M x1) (fun v2 => sn_Pf.ite (pf_Md_route__47 M) (sn_Pf.cI (pf_Md_isExchange M x2) (fun v3 => sn_Pf.ite (pf_Md_route__47 M) (sn_Pf.ite (pf_Md_route__47 M) (sn_Pf.cI (pf_Md_canBeTold M x1 x3) (fun v4 => sn_Pf.ite (pf_Md_route__47 M) (sn_Pf.cI (pf_Md_canBeTold M x1 x4) (fun v5 => sn_Pf.ite (pf_Md_route__47 M) (sn_Pf.ite (pf_Md_route__49 M x1 x2 x3 x4) (sn_Pf.ite (pf_Md_route__49 M x1 x2 x3 x4) (pf_Md_route__47 M)))))))))))
set_option maxHeartbeats 4000000 in
set_option maxRecDepth 100000 in
theorem pf_Md_isLink_17 (M : Nat) (t0 : Int32) : sn_Pf M (f_Md_isLink_17 M t0) (g_Md_isLink_17 t0) := sn_Pf.Z
set_option maxHeartbeats 4000000 in
set_option maxRecDepth 100000 in
theorem pf_Md_isLink_16 (M : Nat) : sn_Pf M (f_Md_isLink_16 M) (g_Md_isLink_16) := pf_Md_isLink_17 M (0 : Int32)
set_option maxHeartbeats 4000000 in
set_option maxRecDepth 100000 in
theorem pf_Md_isLink (M : Nat) (x1 : Int32) : sn_Pf M (f_Md_isLink M x1) (g_Md_isLink x1) := sn_Pf.ite (pf_Md_isLink_16 M) (sn_Pf.gS (k := 4) rfl (fun v1 => sn_Pf.ite (pf_Md_isLink_16 M) (pf_Md_isLink_17 M (1 : Int32))))
set_option maxHeartbeats 4000000 in
set_option maxRecDepth 100000 in
theorem pf_Md_isEnd_22 (M : Nat) (t0 : Int32) : sn_Pf M (f_Md_isEnd_22 M t0) (g_Md_isEnd_22 t0) := sn_Pf.Z
set_option maxHeartbeats 4000000 in
set_option maxRecDepth 100000 in
theorem pf_Md_isEnd_21 (M : Nat) : sn_Pf M (f_Md_isEnd_21 M) (g_Md_isEnd_21) := pf_Md_isEnd_22 M (0 : Int32)
set_option maxHeartbeats 4000000 in
set_option maxRecDepth 100000 in
theorem pf_Md_isEnd_17 (M : Nat) : sn_Pf M (f_Md_isEnd_17 M) (g_Md_isEnd_17) := pf_Md_isEnd_22 M (1 : Int32)
set_option maxHeartbeats 4000000 in
set_option maxRecDepth 100000 in
theorem pf_Md_isEnd (M : Nat) (x1 : Int32) (x2 : Int32) : sn_Pf M (f_Md_isEnd M x1 x2) (g_Md_isEnd x1 x2) := sn_Pf.nn (sn_Pf.cI (pf_Md_isLink M x1) (fun v1 => sn_Pf.ite (pf_Md_isEnd_21 M) (sn_Pf.ite (pf_Md_isEnd_17 M) (sn_Pf.ite (pf_Md_isEnd_21 M) (pf_Md_isEnd_17 M)))))
set_option maxHeartbeats 4000000 in
set_option maxRecDepth 100000 in
theorem pf_Md_activate_18 (M : Nat) : sn_Pf M (f_Md_activate_18 M) (g_Md_activate_18) := sn_Pf.Z
set_option maxHeartbeats 4000000 in
set_option maxRecDepth 100000 in
theorem pf_Md_activate_86 (M : Nat) (fk31 : Int32 → Int32 → Int32 → sn_M) (k31 : Int32 → Int32 → Int32 → sn_G) (hk31 : ∀ (x1 : Int32) (x2 : Int32) (x3 : Int32), sn_Pf M (fk31 x1 x2 x3) (k31 x1 x2 x3)) (x1 : Int32) (x2 : Int32) (x3 : Int32) : sn_Pf M (f_Md_activate_86 fk31 M x1 x2 x3) (g_Md_activate_86 k31 x1 x2 x3) := hk31 x1 x2 (x3 + (1 : Int32))
set_option maxHeartbeats 4000000 in
set_option maxRecDepth 100000 in
theorem pf_Md_activate_67 (M : Nat) (fk31 : Int32 → Int32 → Int32 → sn_M) (k31 : Int32 → Int32 → Int32 → sn_G) (hk31 : ∀ (x1 : Int32) (x2 : Int32) (x3 : Int32), sn_Pf M (fk31 x1 x2 x3) (k31 x1 x2 x3)) (x1 : Int32) (x2 : Int32) (x3 : Int32) : sn_Pf M (f_Md_activate_67 fk31 M x1 x2 x3) (g_Md_activate_67 k31 x1 x2 x3) := sn_Pf.ite (pf_Md_activate_86 M fk31 k31 hk31 x1 x2 x3) (sn_Pf.gR (k := 10) (by decide) (sn_Pf.aI (k := 10) (by decide) (fun v1 => sn_Pf.ite (pf_Md_activate_86 M fk31 k31 hk31 x1 x2 x3) (sn_Pf.nn (sn_Pf.cV (pf_Md_fail M x3 (0 : Int32)) (pf_Md_activate_86 M fk31 k31 hk31 x1 x2 x3))))))
set_option maxHeartbeats 4000000 in
set_option maxRecDepth 100000 in
theorem pf_Md_activate_31 (M : Nat) : ∀ (n : Nat) (x1 : Int32) (x2 : Int32) (x3 : Int32), sn_Pf M (f_Md_activate_31 M n x1 x2 x3) (g_Md_activate_31 n x1 x2 x3)
  | 0, _, _, _ => sn_Pf.z0
  | n + 1, x1, x2, x3 => sn_Pf.ite (sn_Pf.Z) (sn_Pf.ite (pf_Md_activate_67 M (f_Md_activate_31 M n) (g_Md_activate_31 n) (pf_Md_activate_31 M n) x1 x2 x3) (sn_Pf.gR (k := 10) (by decide) (sn_Pf.aI (k := 10) (by decide) (fun v3 => sn_Pf.ite (pf_Md_activate_67 M (f_Md_activate_31 M n) (g_Md_activate_31 n) (pf_Md_activate_31 M n) x1 x2 x3) (sn_Pf.gR (k := 11) (by decide) (sn_Pf.aI (k := 11) (by decide) (fun v4 => sn_Pf.ite (pf_Md_activate_67 M (f_Md_activate_31 M n) (g_Md_activate_31 n) (pf_Md_activate_31 M n) x1 x2 x3) (sn_Pf.nn (sn_Pf.cV (pf_Md_start M x3) (pf_Md_activate_67 M (f_Md_activate_31 M n) (g_Md_activate_31 n) (pf_Md_activate_31 M n) x1 x2 x3))))))))))
set_option maxHeartbeats 4000000 in
set_option maxRecDepth 100000 in
theorem pf_Md_activate (M : Nat) (x1 : Int32) (x2 : Int32) : sn_Pf M (f_Md_activate M x1 x2) (g_Md_activate x1 x2) := sn_Pf.nn (sn_Pf.cI (pf_Md_isLink M x1) (fun v6 => sn_Pf.ite (pf_Md_activate_18 M) (sn_Pf.gR (k := 2) (by decide) (sn_Pf.aI (k := 2) (by decide) (fun v7 => sn_Pf.ite (sn_Pf.gR (k := 2) (by decide) (sn_Pf.bZ (k := 2) (by decide) (sn_Pf.nI (fun n8 => pf_Md_activate_31 M sn_fuel x1 x2 n8)))) (pf_Md_activate_18 M))))))
set_option maxHeartbeats 4000000 in
set_option maxRecDepth 100000 in
theorem pf_Md_cut (M : Nat) (x1 : Int32) (x2 : Int32) : sn_Pf M (f_Md_cut M x1 x2) (g_Md_cut x1 x2) := sn_Pf.nn (sn_Pf.cI (pf_Md_isLink M x1) (fun v1 => sn_Pf.ite (sn_Pf.gR (k := 3) (by decide) (sn_Pf.bZ (k := 3) (by decide) (sn_Pf.Z))) (sn_Pf.Z)))
set_option maxHeartbeats 4000000 in
set_option maxRecDepth 100000 in
theorem pf_Md_damage_19 (M : Nat) : sn_Pf M (f_Md_damage_19 M) (g_Md_damage_19) := sn_Pf.Z
set_option maxHeartbeats 4000000 in
set_option maxRecDepth 100000 in
theorem pf_Md_damage (M : Nat) (x1 : Int32) (x2 : Int32) (x3 : Int32) : sn_Pf M (f_Md_damage M x1 x2 x3) (g_Md_damage x1 x2 x3) := sn_Pf.nn (sn_Pf.cI (pf_Md_isEnd M x1 x2) (fun v1 => sn_Pf.ite (pf_Md_damage_19 M) (sn_Pf.ite (pf_Md_damage_19 M) (sn_Pf.ite (sn_Pf.gR (k := 22) (by decide) (sn_Pf.bI (k := 22) (by decide) (sn_Pf.Z))) (pf_Md_damage_19 M)))))
set_option maxHeartbeats 4000000 in
set_option maxRecDepth 100000 in
theorem pf_Md_tick_11 (M : Nat) : sn_Pf M (f_Md_tick_11 M) (g_Md_tick_11) := sn_Pf.I
set_option maxHeartbeats 4000000 in
set_option maxRecDepth 100000 in
theorem pf_Md_tick_15 (M : Nat) : ∀ (n : Nat) (x1 : Int32) (x2 : Int32), sn_Pf M (f_Md_tick_15 M n x1 x2) (g_Md_tick_15 n x1 x2)
  | 0, _, _ => sn_Pf.z0
  | n + 1, x1, x2 => sn_Pf.ite (sn_Pf.gS (k := 5) rfl (fun v1 => sn_Pf.I)) (sn_Pf.nn (sn_Pf.cV (pf_Md_one M) (pf_Md_tick_15 M n x1 (x2 + (1 : Int32)))))
set_option maxHeartbeats 4000000 in
set_option maxRecDepth 100000 in
theorem pf_Md_tick (M : Nat) (x1 : Int32) : sn_Pf M (f_Md_tick M x1) (g_Md_tick x1) := sn_Pf.ite (pf_Md_tick_11 M) (sn_Pf.ite (pf_Md_tick_15 M sn_fuel x1 (0 : Int32)) (pf_Md_tick_11 M))
set_option maxHeartbeats 4000000 in
set_option maxRecDepth 100000 in
theorem pf_Md_personAt_33 (M : Nat) (t0 : Int32) : sn_Pf M (f_Md_personAt_33 t0) (g_Md_personAt_33 t0) := sn_Pf.I
set_option maxHeartbeats 4000000 in
set_option maxRecDepth 100000 in
theorem pf_Md_personAt_32 (M : Nat) : sn_Pf M (f_Md_personAt_32) (g_Md_personAt_32) := pf_Md_personAt_33 M (-1 : Int32)
set_option maxHeartbeats 4000000 in
set_option maxRecDepth 100000 in
theorem pf_Md_personAt (M : Nat) (x0 : Int32) : sn_Pf M (f_Md_personAt x0) (g_Md_personAt x0) := sn_Pf.ite (pf_Md_personAt_32 M) (sn_Pf.ite (pf_Md_personAt_32 M) (sn_Pf.ite (pf_Md_personAt_32 M) (pf_Md_personAt_33 M (((4 : Int32) * (x0 / (10 : Int32))) + (x0 % (10 : Int32))))))
set_option maxHeartbeats 4000000 in
set_option maxRecDepth 100000 in
theorem pf_Md_dial_32 (M : Nat) : sn_Pf M (f_Md_dial_32 M) (g_Md_dial_32) := sn_Pf.Z
set_option maxHeartbeats 4000000 in
set_option maxRecDepth 100000 in
theorem pf_Md_dial (M : Nat) (x1 : Int32) (x2 : Int32) : sn_Pf M (f_Md_dial M x1 x2) (g_Md_dial x1 x2) := sn_Pf.cI (pf_Md_personAt M x1) (fun v1 => sn_Pf.ite (pf_Md_dial_32 M) (sn_Pf.gR (k := 61) (by decide) (sn_Pf.aI (k := 61) (by decide) (fun v2 => sn_Pf.ite (pf_Md_dial_32 M) (sn_Pf.cI (pf_Md_personAt M x2) (fun v3 => sn_Pf.ite (pf_Md_dial_32 M) (sn_Pf.ite (sn_Pf.gR (k := 61) (by decide) (sn_Pf.bI (k := 61) (by decide) (sn_Pf.nn (sn_Pf.cV (pf_Md_connect M (x1 / (10 : Int32)) v1 x2) (sn_Pf.Z))))) (pf_Md_dial_32 M))))))))
set_option maxHeartbeats 4000000 in
set_option maxRecDepth 100000 in
theorem pf_Md_answer_20 (M : Nat) : sn_Pf M (f_Md_answer_20 M) (g_Md_answer_20) := sn_Pf.Z
set_option maxHeartbeats 4000000 in
set_option maxRecDepth 100000 in
theorem pf_Md_answer (M : Nat) (x1 : Int32) : sn_Pf M (f_Md_answer M x1) (g_Md_answer x1) := sn_Pf.cI (pf_Md_personAt M x1) (fun v1 => sn_Pf.ite (pf_Md_answer_20 M) (sn_Pf.gR (k := 61) (by decide) (sn_Pf.aI (k := 61) (by decide) (fun v2 => sn_Pf.ite (sn_Pf.gR (k := 61) (by decide) (sn_Pf.bI (k := 61) (by decide) (sn_Pf.gR (k := 62) (by decide) (sn_Pf.aI (k := 62) (by decide) (fun v3 => sn_Pf.nn (sn_Pf.cV (pf_Md_back M v3 (9 : Int32)) (sn_Pf.Z))))))) (pf_Md_answer_20 M)))))
set_option maxHeartbeats 4000000 in
set_option maxRecDepth 100000 in
theorem pf_Md_hang_29 (M : Nat) : sn_Pf M (f_Md_hang_29 M) (g_Md_hang_29) := sn_Pf.Z
set_option maxHeartbeats 4000000 in
set_option maxRecDepth 100000 in
theorem pf_Md_hang_77 (M : Nat) : sn_Pf M (f_Md_hang_77 M) (g_Md_hang_77) := sn_Pf.Z
set_option maxHeartbeats 4000000 in
set_option maxRecDepth 100000 in
theorem pf_Md_hang_53 (M : Nat) (x2 : Int32) (x3 : Int32) (t0 : Int32) : sn_Pf M (f_Md_hang_53 M x2 x3 t0) (g_Md_hang_53 x2 x3 t0) := sn_Pf.gR (k := 61) (by decide) (sn_Pf.bI (k := 61) (by decide) (sn_Pf.ite (pf_Md_hang_77 M) (sn_Pf.nn (sn_Pf.cV (pf_Md_part M x2) (sn_Pf.nn (sn_Pf.cV (pf_Md_letGo M x3) (pf_Md_hang_77 M)))))))
set_option maxHeartbeats 4000000 in
set_option maxRecDepth 100000 in
theorem pf_Md_hang (M : Nat) (x1 : Int32) : sn_Pf M (f_Md_hang M x1) (g_Md_hang x1) := sn_Pf.cI (pf_Md_personAt M x1) (fun v3 => sn_Pf.ite (pf_Md_hang_29 M) (sn_Pf.gR (k := 61) (by decide) (sn_Pf.aI (k := 61) (by decide) (fun v4 => sn_Pf.ite (pf_Md_hang_29 M) (sn_Pf.gR (k := 61) (by decide) (sn_Pf.aI (k := 61) (by decide) (fun v5 => sn_Pf.ite (sn_Pf.gR (k := 62) (by decide) (sn_Pf.aI (k := 62) (by decide) (fun v6 => sn_Pf.gR (k := 61) (by decide) (sn_Pf.aI (k := 61) (by decide) (fun v7 => sn_Pf.ite (pf_Md_hang_53 M v3 v6 (0 : Int32)) (pf_Md_hang_53 M v3 v6 (1 : Int32))))))) (pf_Md_hang_29 M))))))))
set_option maxHeartbeats 4000000 in
set_option maxRecDepth 100000 in
theorem pf_Md_isFlow_23 (M : Nat) (t0 : Int32) : sn_Pf M (f_Md_isFlow_23 M t0) (g_Md_isFlow_23 t0) := sn_Pf.Z
set_option maxHeartbeats 4000000 in
set_option maxRecDepth 100000 in
theorem pf_Md_isFlow_22 (M : Nat) : sn_Pf M (f_Md_isFlow_22 M) (g_Md_isFlow_22) := pf_Md_isFlow_23 M (0 : Int32)
set_option maxHeartbeats 4000000 in
set_option maxRecDepth 100000 in
theorem pf_Md_isFlow (M : Nat) (x1 : Int32) (x2 : Int32) (x3 : Int32) : sn_Pf M (f_Md_isFlow M x1 x2 x3) (g_Md_isFlow x1 x2 x3) := sn_Pf.nn (sn_Pf.cI (pf_Md_areNeighbours M x1 x2) (fun v1 => sn_Pf.ite (pf_Md_isFlow_22 M) (sn_Pf.ite (pf_Md_isFlow_22 M) (sn_Pf.ite (pf_Md_isFlow_22 M) (pf_Md_isFlow_23 M (1 : Int32))))))
set_option maxHeartbeats 4000000 in
set_option maxRecDepth 100000 in
theorem pf_Md_block_27 (M : Nat) : sn_Pf M (f_Md_block_27 M) (g_Md_block_27) := sn_Pf.Z
set_option maxHeartbeats 4000000 in
set_option maxRecDepth 100000 in
theorem pf_Md_block_63 (M : Nat) (t1 : Int32) (t2 : Int32) : sn_Pf M (f_Md_block_63 M (some M) t1 t2) (g_Md_block_63 t1 t2) := sn_Pf.nn (sn_Pf.cV (pf_Md_say M t1 t2 (0 : Int32)) (sn_Pf.Z))
set_option maxHeartbeats 4000000 in
set_option maxRecDepth 100000 in
theorem pf_Md_block (M : Nat) (x1 : Int32) (x2 : Int32) (x3 : Int32) (x4 : Int32) : sn_Pf M (f_Md_block M x1 x2 x3 x4) (g_Md_block x1 x2 x3 x4) := sn_Pf.nn (sn_Pf.cI (pf_Md_isFlow M x1 x2 x3) (fun v2 => sn_Pf.ite (pf_Md_block_27 M) (sn_Pf.gR (k := 55) (by decide) (sn_Pf.nn (sn_Pf.cI (pf_Md_flowAt M x1 x2 x3) (fun v3 => sn_Pf.aI (k := 55) (by decide) (fun v4 => sn_Pf.ite (sn_Pf.gR (k := 55) (by decide) (sn_Pf.nn (sn_Pf.cI (pf_Md_flowAt M x1 x2 x3) (fun v5 => sn_Pf.bZ (k := 55) (by decide) (sn_Pf.nn (sn_Pf.cI (pf_Md_flowAt M x1 x2 x3) (fun v6 => sn_Pf.ite (pf_Md_block_63 M v6 (14 : Int32)) (pf_Md_block_63 M v6 (13 : Int32))))))))) (pf_Md_block_27 M))))))))
set_option maxHeartbeats 4000000 in
set_option maxRecDepth 100000 in
theorem pf_Md_left_14 (M : Nat) (t0 : Int32) : sn_Pf M (f_Md_left_14 M t0) (g_Md_left_14 t0) := sn_Pf.I
set_option maxHeartbeats 4000000 in
set_option maxRecDepth 100000 in
theorem pf_Md_left (M : Nat) (x1 : Int32) : sn_Pf M (f_Md_left M x1) (g_Md_left x1) := sn_Pf.ite (sn_Pf.gS (k := 6) rfl (fun v1 => pf_Md_left_14 M (x1 - v1))) (pf_Md_left_14 M (0 : Int32))
set_option maxHeartbeats 4000000 in
set_option maxRecDepth 100000 in
theorem pf_Md_end_224 (M : Nat) (t0 : Int32) : sn_Pf M (f_Md_end_224 M t0) (g_Md_end_224 t0) := sn_Pf.I
set_option maxHeartbeats 4000000 in
set_option maxRecDepth 100000 in
theorem pf_Md_end_195 (M : Nat) (t0 : Int32) : sn_Pf M (f_Md_end_195 M t0) (g_Md_end_195 t0) := sn_Pf.I
set_option maxHeartbeats 4000000 in
set_option maxRecDepth 100000 in
theorem pf_Md_end (M : Nat) (x1 : Int32) (x2 : Int32) (x3 : Int32) : sn_Pf M (f_Md_end M x1 x2 x3) (g_Md_end x1 x2 x3) := sn_Pf.nn (sn_Pf.cI (pf_Md_isEnd M x1 x2) (fun v1 => sn_Pf.ite (sn_Pf.nI (fun n2 => sn_Pf.swC (sn_Pf.gR (k := 10) (by decide) (sn_Pf.aI (k := 10) (by decide) (fun v3 => sn_Pf.I))) (sn_Pf.swC (sn_Pf.gR (k := 11) (by decide) (sn_Pf.aI (k := 11) (by decide) (fun v4 => sn_Pf.nn (sn_Pf.cI (pf_Md_left M v4) (fun v5 => sn_Pf.I))))) (sn_Pf.swC (sn_Pf.gR (k := 12) (by decide) (sn_Pf.aI (k := 12) (by decide) (fun v6 => sn_Pf.I))) (sn_Pf.swC (sn_Pf.gR (k := 13) (by decide) (sn_Pf.aI (k := 13) (by decide) (fun v7 => sn_Pf.I))) (sn_Pf.swC (sn_Pf.gR (k := 14) (by decide) (sn_Pf.aI (k := 14) (by decide) (fun v8 => sn_Pf.I))) (sn_Pf.swC (sn_Pf.gR (k := 15) (by decide) (sn_Pf.aI (k := 15) (by decide) (fun v9 => sn_Pf.I))) (sn_Pf.swC (sn_Pf.gR (k := 27) (by decide) (sn_Pf.aI (k := 27) (by decide) (fun v10 => sn_Pf.I))) (sn_Pf.swC (sn_Pf.gR (k := 29) (by decide) (sn_Pf.aI (k := 29) (by decide) (fun v11 => sn_Pf.I))) (sn_Pf.swC (sn_Pf.gR (k := 16) (by decide) (sn_Pf.aI (k := 16) (by decide) (fun v12 => sn_Pf.I))) (sn_Pf.swC (sn_Pf.gR (k := 17) (by decide) (sn_Pf.aI (k := 17) (by decide) (fun v13 => sn_Pf.I))) (sn_Pf.swC (sn_Pf.gR (k := 23) (by decide) (sn_Pf.aI (k := 23) (by decide) (fun v14 => sn_Pf.ite (pf_Md_end_195 M (0 : Int32)) (pf_Md_end_195 M (1 : Int32))))) (sn_Pf.swC (sn_Pf.gR (k := 20) (by decide) (sn_Pf.aI (k := 20) (by decide) (fun v15 => sn_Pf.nn (sn_Pf.cI (pf_Md_left M v15) (fun v16 => sn_Pf.I))))) (sn_Pf.swC (sn_Pf.gR (k := 21) (by decide) (sn_Pf.aI (k := 21) (by decide) (fun v17 => sn_Pf.ite (pf_Md_end_224 M (1 : Int32)) (pf_Md_end_224 M (0 : Int32))))) (sn_Pf.swC (sn_Pf.gR (k := 22) (by decide) (sn_Pf.aI (k := 22) (by decide) (fun v18 => sn_Pf.I))) (sn_Pf.swC (sn_Pf.gR (k := 37) (by decide) (sn_Pf.aI (k := 37) (by decide) (fun v19 => sn_Pf.I))) (sn_Pf.swC (sn_Pf.gR (k := 38) (by decide) (sn_Pf.aI (k := 38) (by decide) (fun v20 => sn_Pf.I))) (sn_Pf.swN (sn_Pf.I))))))))))))))))))) (sn_Pf.I)))
set_option maxHeartbeats 4000000 in
set_option maxRecDepth 100000 in
theorem pf_Md_octets_31 (M : Nat) (t0 : Int32) : sn_Pf M (f_Md_octets_31 M t0) (g_Md_octets_31 t0) := sn_Pf.I
set_option maxHeartbeats 4000000 in
set_option maxRecDepth 100000 in
theorem pf_Md_octets (M : Nat) (x1 : Int32) : sn_Pf M (f_Md_octets M x1) (g_Md_octets x1) := sn_Pf.gR (k := 30) (by decide) (sn_Pf.aI (k := 30) (by decide) (fun v1 => sn_Pf.ite (sn_Pf.gR (k := 30) (by decide) (sn_Pf.aI (k := 30) (by decide) (fun v2 => sn_Pf.ite (pf_Md_octets_31 M (6 : Int32)) (pf_Md_octets_31 M (5 : Int32))))) (pf_Md_octets_31 M (13 : Int32))))
set_option maxHeartbeats 4000000 in
set_option maxRecDepth 100000 in
theorem pf_Md_plain_51 (M : Nat) (t0 : Int32) : sn_Pf M (f_Md_plain_51 M t0) (g_Md_plain_51 t0) := sn_Pf.I
set_option maxHeartbeats 4000000 in
set_option maxRecDepth 100000 in
theorem pf_Md_plain_113 (M : Nat) (t0 : Int32) : sn_Pf M (f_Md_plain_113 M t0) (g_Md_plain_113 t0) := sn_Pf.I
set_option maxHeartbeats 4000000 in
set_option maxRecDepth 100000 in
theorem pf_Md_plain_211 (M : Nat) (t0 : Int32) : sn_Pf M (f_Md_plain_211 M t0) (g_Md_plain_211 t0) := sn_Pf.I
set_option maxHeartbeats 4000000 in
set_option maxRecDepth 100000 in
theorem pf_Md_plain (M : Nat) (x1 : Int32) (x2 : Int32) : sn_Pf M (f_Md_plain M x1 x2) (g_Md_plain x1 x2) := sn_Pf.gR (k := 30) (by decide) (sn_Pf.aI (k := 30) (by decide) (fun v1 => sn_Pf.ite (sn_Pf.ite (sn_Pf.ite (sn_Pf.ite (sn_Pf.gR (k := 35) (by decide) (sn_Pf.aJ (k := 35) (by decide) (fun v2 => sn_Pf.ite (sn_Pf.ite (sn_Pf.ite (sn_Pf.ite (sn_Pf.cI (pf_Md_hopsOf M v2) (fun v3 => pf_Md_plain_211 M v3)) (sn_Pf.cI (pf_Md_twoOf M v2) (fun v4 => pf_Md_plain_211 M (v4 &&& (255 : Int32))))) (sn_Pf.cI (pf_Md_oneOf M v2) (fun v5 => pf_Md_plain_211 M v5))) (sn_Pf.cI (pf_Md_toOf M v2) (fun v6 => sn_Pf.cI (pf_Md_fromOf M v2) (fun v7 => sn_Pf.cI (pf_Md_flowOf M v2) (fun v8 => sn_Pf.I))))) (sn_Pf.cI (pf_Md_kindOf M v2) (fun v9 => sn_Pf.I))))) (sn_Pf.ite (pf_Md_plain_113 M (8 : Int32)) (pf_Md_plain_113 M (0 : Int32)))) (sn_Pf.gR (k := 31) (by decide) (sn_Pf.aI (k := 31) (by decide) (fun v10 => sn_Pf.gR (k := 32) (by decide) (sn_Pf.aI (k := 32) (by decide) (fun v11 => sn_Pf.I)))))) (sn_Pf.gR (k := 33) (by decide) (sn_Pf.aI (k := 33) (by decide) (fun v12 => sn_Pf.gR (k := 34) (by decide) (sn_Pf.aI (k := 34) (by decide) (fun v13 => sn_Pf.I)))))) (sn_Pf.ite (sn_Pf.ite (sn_Pf.ite (sn_Pf.gR (k := 39) (by decide) (sn_Pf.aI (k := 39) (by decide) (fun v14 => pf_Md_plain_51 M (v1 + ((4 : Int32) * v14))))) (pf_Md_plain_51 M v1)) (pf_Md_plain_51 M (1 : Int32))) (pf_Md_plain_51 M (255 : Int32)))))
set_option maxHeartbeats 4000000 in
set_option maxRecDepth 100000 in
theorem pf_Md_octetOf_84 (M : Nat) (fk48 : Int32 → Int32 → Int32 → Int32 → Int32 → Int32 → Int32 → sn_M) (k48 : Int32 → Int32 → Int32 → Int32 → Int32 → Int32 → Int32 → sn_G) (hk48 : ∀ (x1 : Int32) (x2 : Int32) (x3 : Int32) (x4 : Int32) (x5 : Int32) (x6 : Int32) (x7 : Int32), sn_Pf M (fk48 x1 x2 x3 x4 x5 x6 x7) (k48 x1 x2 x3 x4 x5 x6 x7)) (x1 : Int32) (x2 : Int32) (x3 : Int32) (x5 : Int32) (x6 : Int32) (x7 : Int32) (t0 : Int32) : sn_Pf M (f_Md_octetOf_84 fk48 M x1 x2 x3 x5 x6 x7 t0) (g_Md_octetOf_84 k48 x1 x2 x3 x5 x6 x7 t0) := hk48 x1 x2 x3 t0 x5 x6 (x7 + (1 : Int32))
set_option maxHeartbeats 4000000 in
set_option maxRecDepth 100000 in
theorem pf_Md_octetOf_48 (M : Nat) (fk28 : Int32 → Int32 → Int32 → Int32 → Int32 → sn_M) (k28 : Int32 → Int32 → Int32 → Int32 → Int32 → sn_G) (hk28 : ∀ (x1 : Int32) (x2 : Int32) (x3 : Int32) (x4 : Int32) (x5 : Int32), sn_Pf M (fk28 x1 x2 x3 x4 x5) (k28 x1 x2 x3 x4 x5)) : ∀ (n : Nat) (x1 : Int32) (x2 : Int32) (x3 : Int32) (x4 : Int32) (x5 : Int32) (x6 : Int32) (x7 : Int32), sn_Pf M (f_Md_octetOf_48 fk28 M n x1 x2 x3 x4 x5 x6 x7) (g_Md_octetOf_48 k28 n x1 x2 x3 x4 x5 x6 x7)
  | 0, _, _, _, _, _, _, _ => sn_Pf.z0
  | n + 1, x1, x2, x3, x4, x5, x6, x7 => sn_Pf.ite (hk28 x1 x2 x3 x4 (x5 + (1 : Int32))) (sn_Pf.ite (pf_Md_octetOf_84 M (f_Md_octetOf_48 fk28 M n) (g_Md_octetOf_48 k28 n) (pf_Md_octetOf_48 M fk28 k28 hk28 n) x1 x2 x3 x5 x6 x7 (x4 >>> ((1 : Int32) &&& 31))) (pf_Md_octetOf_84 M (f_Md_octetOf_48 fk28 M n) (g_Md_octetOf_48 k28 n) (pf_Md_octetOf_48 M fk28 k28 hk28 n) x1 x2 x3 x5 x6 x7 ((x4 >>> ((1 : Int32) &&& 31)) ^^^ (33800 : Int32))))
set_option maxHeartbeats 4000000 in
set_option maxRecDepth 100000 in
theorem pf_Md_octetOf_127 (M : Nat) (t0 : Int32) : sn_Pf M (f_Md_octetOf_127 M t0) (g_Md_octetOf_127 t0) := sn_Pf.I
set_option maxHeartbeats 4000000 in
set_option maxRecDepth 100000 in
theorem pf_Md_octetOf_28 (M : Nat) : ∀ (n : Nat) (x1 : Int32) (x2 : Int32) (x3 : Int32) (x4 : Int32) (x5 : Int32), sn_Pf M (f_Md_octetOf_28 M n x1 x2 x3 x4 x5) (g_Md_octetOf_28 n x1 x2 x3 x4 x5)
  | 0, _, _, _, _, _ => sn_Pf.z0
  | n + 1, x1, x2, x3, x4, x5 => sn_Pf.ite (sn_Pf.nI (fun n1 => sn_Pf.ite (pf_Md_octetOf_127 M (n1 >>> ((8 : Int32) &&& 31))) (pf_Md_octetOf_127 M (n1 &&& (255 : Int32))))) (sn_Pf.nn (sn_Pf.cI (pf_Md_plain M x1 x5) (fun v2 => pf_Md_octetOf_48 M (f_Md_octetOf_28 M n) (g_Md_octetOf_28 n) (pf_Md_octetOf_28 M n) sn_fuel x1 x2 x3 x4 x5 v2 (0 : Int32))))
set_option maxHeartbeats 4000000 in
set_option maxRecDepth 100000 in
theorem pf_Md_octetOf (M : Nat) (x1 : Int32) (x2 : Int32) : sn_Pf M (f_Md_octetOf M x1 x2) (g_Md_octetOf x1 x2) := sn_Pf.nn (sn_Pf.cI (pf_Md_octets M x1) (fun v3 => sn_Pf.ite (pf_Md_octetOf_28 M sn_fuel x1 x2 v3 (65535 : Int32) (0 : Int32)) (sn_Pf.nn (sn_Pf.cI (pf_Md_plain M x1 x2) (fun v4 => sn_Pf.I)))))
set_option maxHeartbeats 4000000 in
set_option maxRecDepth 100000 in
theorem pf_Md_octet_39 (M : Nat) : sn_Pf M (f_Md_octet_39 M) (g_Md_octet_39) := sn_Pf.I
set_option maxHeartbeats 4000000 in
set_option maxRecDepth 100000 in
theorem pf_Md_octet (M : Nat) (x1 : Int32) (x2 : Int32) (x3 : Int32) : sn_Pf M (f_Md_octet M x1 x2 x3) (g_Md_octet x1 x2 x3) := sn_Pf.nn (sn_Pf.cI (pf_Md_isEnd M x1 x2) (fun v1 => sn_Pf.ite (pf_Md_octet_39 M) (sn_Pf.gR (k := 36) (by decide) (sn_Pf.aI (k := 36) (by decide) (fun v2 => sn_Pf.ite (pf_Md_octet_39 M) (sn_Pf.ite (pf_Md_octet_39 M) (sn_Pf.nn (sn_Pf.cI (pf_Md_octets M (((2 : Int32) * x1) + x2)) (fun v3 => sn_Pf.ite (sn_Pf.nn (sn_Pf.cI (pf_Md_octetOf M (((2 : Int32) * x1) + x2) x3) (fun v4 => sn_Pf.I))) (pf_Md_octet_39 M))))))))))
set_option maxHeartbeats 4000000 in
set_option maxRecDepth 100000 in
theorem pf_Md_bits_22 (M : Nat) : sn_Pf M (f_Md_bits_22 M) (g_Md_bits_22) := sn_Pf.I
set_option maxHeartbeats 4000000 in
set_option maxRecDepth 100000 in
theorem pf_Md_bits_104 (M : Nat) (fk61 : Int32 → Int32 → Int32 → Int32 → Int32 → Int32 → sn_M) (k61 : Int32 → Int32 → Int32 → Int32 → Int32 → Int32 → sn_G) (hk61 : ∀ (x3 : Int32) (x4 : Int32) (x5 : Int32) (x6 : Int32) (x7 : Int32) (x8 : Int32), sn_Pf M (fk61 x3 x4 x5 x6 x7 x8) (k61 x3 x4 x5 x6 x7 x8)) (x3 : Int32) (x4 : Int32) (x5 : Int32) (x6 : Int32) (x7 : Int32) (x8 : Int32) : sn_Pf M (f_Md_bits_104 fk61 M x3 x4 x5 x6 x7 x8) (g_Md_bits_104 k61 x3 x4 x5 x6 x7 x8) := hk61 x3 x4 x5 x6 x7 (x8 + (1 : Int32))
set_option maxHeartbeats 4000000 in
set_option maxRecDepth 100000 in
theorem pf_Md_bits_87 (M : Nat) (fk61 : Int32 → Int32 → Int32 → Int32 → Int32 → Int32 → sn_M) (k61 : Int32 → Int32 → Int32 → Int32 → Int32 → Int32 → sn_G) (hk61 : ∀ (x3 : Int32) (x4 : Int32) (x5 : Int32) (x6 : Int32) (x7 : Int32) (x8 : Int32), sn_Pf M (fk61 x3 x4 x5 x6 x7 x8) (k61 x3 x4 x5 x6 x7 x8)) (x3 : Int32) (x4 : Int32) (x6 : Int32) (x7 : Int32) (x8 : Int32) (t0 : Int32) : sn_Pf M (f_Md_bits_87 fk61 M x3 x4 x6 x7 x8 t0) (g_Md_bits_87 k61 x3 x4 x6 x7 x8 t0) := sn_Pf.ite (pf_Md_bits_104 M fk61 k61 hk61 x3 (x4 + (1 : Int32)) t0 x6 x7 x8) (pf_Md_bits_104 M fk61 k61 hk61 x3 ((x4 + (1 : Int32)) + (1 : Int32)) (0 : Int32) x6 x7 x8)
set_option maxHeartbeats 4000000 in
set_option maxRecDepth 100000 in
theorem pf_Md_bits_61 (M : Nat) (fk39 : Int32 → Int32 → Int32 → Int32 → sn_M) (k39 : Int32 → Int32 → Int32 → Int32 → sn_G) (hk39 : ∀ (x3 : Int32) (x4 : Int32) (x5 : Int32) (x6 : Int32), sn_Pf M (fk39 x3 x4 x5 x6) (k39 x3 x4 x5 x6)) : ∀ (n : Nat) (x3 : Int32) (x4 : Int32) (x5 : Int32) (x6 : Int32) (x7 : Int32) (x8 : Int32), sn_Pf M (f_Md_bits_61 fk39 M n x3 x4 x5 x6 x7 x8) (g_Md_bits_61 k39 n x3 x4 x5 x6 x7 x8)
  | 0, _, _, _, _, _, _ => sn_Pf.z0
  | n + 1, x3, x4, x5, x6, x7, x8 => sn_Pf.ite (hk39 x3 x4 x5 (x6 + (1 : Int32))) (sn_Pf.ite (pf_Md_bits_87 M (f_Md_bits_61 fk39 M n) (g_Md_bits_61 k39 n) (pf_Md_bits_61 M fk39 k39 hk39 n) x3 x4 x6 x7 x8 (0 : Int32)) (pf_Md_bits_87 M (f_Md_bits_61 fk39 M n) (g_Md_bits_61 k39 n) (pf_Md_bits_61 M fk39 k39 hk39 n) x3 x4 x6 x7 x8 (x5 + (1 : Int32))))
set_option maxHeartbeats 4000000 in
set_option maxRecDepth 100000 in
theorem pf_Md_bits_39 (M : Nat) : ∀ (n : Nat) (x3 : Int32) (x4 : Int32) (x5 : Int32) (x6 : Int32), sn_Pf M (f_Md_bits_39 M n x3 x4 x5 x6) (g_Md_bits_39 n x3 x4 x5 x6)
  | 0, _, _, _, _ => sn_Pf.z0
  | n + 1, x3, x4, x5, x6 => sn_Pf.nn (sn_Pf.cI (pf_Md_octets M x3) (fun v1 => sn_Pf.ite (sn_Pf.I) (sn_Pf.nn (sn_Pf.cI (pf_Md_octetOf M x3 x6) (fun v2 => pf_Md_bits_61 M (f_Md_bits_39 M n) (g_Md_bits_39 n) (pf_Md_bits_39 M n) sn_fuel x3 x4 x5 x6 v2 (0 : Int32))))))
set_option maxHeartbeats 4000000 in
set_option maxRecDepth 100000 in
theorem pf_Md_bits (M : Nat) (x1 : Int32) (x2 : Int32) : sn_Pf M (f_Md_bits M x1 x2) (g_Md_bits x1 x2) := sn_Pf.nn (sn_Pf.cI (pf_Md_isEnd M x1 x2) (fun v3 => sn_Pf.ite (pf_Md_bits_22 M) (sn_Pf.gR (k := 36) (by decide) (sn_Pf.aI (k := 36) (by decide) (fun v4 => sn_Pf.ite (sn_Pf.nI (fun n5 => pf_Md_bits_39 M sn_fuel n5 (0 : Int32) (0 : Int32) (0 : Int32))) (pf_Md_bits_22 M))))))
set_option maxHeartbeats 4000000 in
set_option maxRecDepth 100000 in
theorem pf_Md_flow_85 (M : Nat) (t0 : Int32) : sn_Pf M (f_Md_flow_85 M t0) (g_Md_flow_85 t0) := sn_Pf.I
set_option maxHeartbeats 4000000 in
set_option maxRecDepth 100000 in
theorem pf_Md_flow (M : Nat) (x1 : Int32) (x2 : Int32) (x3 : Int32) (x4 : Int32) : sn_Pf M (f_Md_flow M x1 x2 x3 x4) (g_Md_flow x1 x2 x3 x4) := sn_Pf.nn (sn_Pf.cI (pf_Md_isFlow M x1 x2 x3) (fun v1 => sn_Pf.ite (sn_Pf.nn (sn_Pf.cI (pf_Md_flowAt M x1 x2 x3) (fun v2 => sn_Pf.ite (sn_Pf.ite (sn_Pf.ite (sn_Pf.ite (pf_Md_flow_85 M (-1 : Int32)) (sn_Pf.gR (k := 43) (by decide) (sn_Pf.aI (k := 43) (by decide) (fun v3 => pf_Md_flow_85 M v3)))) (sn_Pf.gR (k := 47) (by decide) (sn_Pf.aI (k := 47) (by decide) (fun v4 => pf_Md_flow_85 M v4)))) (sn_Pf.gR (k := 42) (by decide) (sn_Pf.aI (k := 42) (by decide) (fun v5 => pf_Md_flow_85 M v5)))) (sn_Pf.gR (k := 41) (by decide) (sn_Pf.aI (k := 41) (by decide) (fun v6 => pf_Md_flow_85 M v6)))))) (sn_Pf.I)))
set_option maxHeartbeats 4000000 in
set_option maxRecDepth 100000 in
theorem pf_Md_next_19 (M : Nat) : sn_Pf M (f_Md_next_19 M) (g_Md_next_19) := sn_Pf.I
set_option maxHeartbeats 4000000 in
set_option maxRecDepth 100000 in
theorem pf_Md_next_66 (M : Nat) : sn_Pf M (f_Md_next_66 M) (g_Md_next_66) := sn_Pf.I
set_option maxHeartbeats 4000000 in
set_option maxRecDepth 100000 in
theorem pf_Md_next_103 (M : Nat) (t0 : Int32) : sn_Pf M (f_Md_next_103 M t0) (g_Md_next_103 t0) := sn_Pf.I
set_option maxHeartbeats 4000000 in
set_option maxRecDepth 100000 in
theorem pf_Md_next_134 (M : Nat) (t0 : Int32) : sn_Pf M (f_Md_next_134 M t0) (g_Md_next_134 t0) := sn_Pf.I
set_option maxHeartbeats 4000000 in
set_option maxRecDepth 100000 in
theorem pf_Md_next (M : Nat) (x1 : Int32) (x2 : Int32) (x3 : Int32) : sn_Pf M (f_Md_next M x1 x2 x3) (g_Md_next x1 x2 x3) := sn_Pf.cI (pf_Md_isExchange M x1) (fun v1 => sn_Pf.ite (pf_Md_next_19 M) (sn_Pf.cI (pf_Md_isExchange M x2) (fun v2 => sn_Pf.ite (pf_Md_next_19 M) (sn_Pf.ite (sn_Pf.ite (sn_Pf.nI (fun n3 => sn_Pf.ite (pf_Md_next_66 M) (sn_Pf.ite (pf_Md_next_66 M) (sn_Pf.ite (pf_Md_next_66 M) (sn_Pf.nn (sn_Pf.cI (pf_Md_areNeighbours M x1 n3) (fun v4 => sn_Pf.ite (sn_Pf.nI (fun n5 => sn_Pf.ite (sn_Pf.gR (k := 49) (by decide) (sn_Pf.aI (k := 49) (by decide) (fun v6 => sn_Pf.ite (sn_Pf.gR (k := 49) (by decide) (sn_Pf.aI (k := 49) (by decide) (fun v7 => sn_Pf.ite (pf_Md_next_134 M (0 : Int32)) (pf_Md_next_134 M (1 : Int32))))) (pf_Md_next_134 M (-1 : Int32))))) (sn_Pf.gR (k := 48) (by decide) (sn_Pf.aI (k := 48) (by decide) (fun v8 => sn_Pf.ite (pf_Md_next_103 M (0 : Int32)) (pf_Md_next_103 M (1 : Int32))))))) (pf_Md_next_66 M)))))))) (sn_Pf.nn (sn_Pf.cI (pf_Md_nextOf M x1 x2) (fun v9 => sn_Pf.I)))) (pf_Md_next_19 M)))))
set_option maxHeartbeats 4000000 in
set_option maxRecDepth 100000 in
theorem pf_Md_legTold_50 (M : Nat) (t0 : Int32) : sn_Pf M (f_Md_legTold_50 M t0) (g_Md_legTold_50 t0) := sn_Pf.I
set_option maxHeartbeats 4000000 in
set_option maxRecDepth 100000 in
theorem pf_Md_legTold (M : Nat) (x1 : Int32) : sn_Pf M (f_Md_legTold M x1) (g_Md_legTold x1) := sn_Pf.ite (sn_Pf.ite (pf_Md_legTold_50 M (((100 : Int32) + ((10 : Int32) * (((x1 - (100 : Int32)) % (24 : Int32)) / (4 : Int32)))) + ((x1 - (100 : Int32)) % (4 : Int32)))) (pf_Md_legTold_50 M (((10 : Int32) * (x1 / (4 : Int32))) + (x1 % (4 : Int32))))) (pf_Md_legTold_50 M (-1 : Int32))
set_option maxHeartbeats 4000000 in
set_option maxRecDepth 100000 in
theorem pf_Md_circuit_119 (M : Nat) (t0 : Int32) : sn_Pf M (f_Md_circuit_119 M t0) (g_Md_circuit_119 t0) := sn_Pf.I
set_option maxHeartbeats 4000000 in
set_option maxRecDepth 100000 in
theorem pf_Md_circuit_103 (M : Nat) (t0 : Int32) : sn_Pf M (f_Md_circuit_103 M t0) (g_Md_circuit_103 t0) := sn_Pf.I
set_option maxHeartbeats 4000000 in
set_option maxRecDepth 100000 in
theorem pf_Md_circuit (M : Nat) (x1 : Int32) (x2 : Int32) (x3 : Int32) (x4 : Int32) : sn_Pf M (f_Md_circuit M x1 x2 x3 x4) (g_Md_circuit x1 x2 x3 x4) := sn_Pf.nn (sn_Pf.cI (pf_Md_isFlow M x1 x2 x3) (fun v1 => sn_Pf.ite (sn_Pf.nn (sn_Pf.cI (pf_Md_flowAt M x1 x2 x3) (fun v2 => sn_Pf.swC (sn_Pf.gR (k := 52) (by decide) (sn_Pf.aI (k := 52) (by decide) (fun v3 => sn_Pf.I))) (sn_Pf.swC (sn_Pf.gR (k := 53) (by decide) (sn_Pf.aI (k := 53) (by decide) (fun v4 => sn_Pf.nn (sn_Pf.cI (pf_Md_left M v4) (fun v5 => sn_Pf.I))))) (sn_Pf.swC (sn_Pf.gR (k := 55) (by decide) (sn_Pf.aI (k := 55) (by decide) (fun v6 => sn_Pf.ite (pf_Md_circuit_103 M (0 : Int32)) (pf_Md_circuit_103 M (1 : Int32))))) (sn_Pf.swC (sn_Pf.gR (k := 56) (by decide) (sn_Pf.aI (k := 56) (by decide) (fun v7 => sn_Pf.ite (pf_Md_circuit_119 M (0 : Int32)) (pf_Md_circuit_119 M (1 : Int32))))) (sn_Pf.swC (sn_Pf.gR (k := 57) (by decide) (sn_Pf.aI (k := 57) (by decide) (fun v8 => sn_Pf.nn (sn_Pf.cI (pf_Md_legTold M v8) (fun v9 => sn_Pf.I))))) (sn_Pf.swC (sn_Pf.gR (k := 58) (by decide) (sn_Pf.aI (k := 58) (by decide) (fun v10 => sn_Pf.I))) (sn_Pf.swC (sn_Pf.gR (k := 59) (by decide) (sn_Pf.aI (k := 59) (by decide) (fun v11 => sn_Pf.I))) (sn_Pf.swC (sn_Pf.gR (k := 60) (by decide) (sn_Pf.aI (k := 60) (by decide) (fun v12 => sn_Pf.I))) (sn_Pf.swN (sn_Pf.I)))))))))))) (sn_Pf.I)))
set_option maxHeartbeats 4000000 in
set_option maxRecDepth 100000 in
theorem pf_Md_talks_169 (M : Nat) (t0 : Int32) : sn_Pf M (f_Md_talks_169 M t0) (g_Md_talks_169 t0) := sn_Pf.I
set_option maxHeartbeats 4000000 in
set_option maxRecDepth 100000 in
theorem pf_Md_talks_168 (M : Nat) : sn_Pf M (f_Md_talks_168 M) (g_Md_talks_168) := pf_Md_talks_169 M (-1 : Int32)
set_option maxHeartbeats 4000000 in
set_option maxRecDepth 100000 in
theorem pf_Md_talks_140 (M : Nat) (x2 : Int32) : sn_Pf M (f_Md_talks_140 M x2) (g_Md_talks_140 x2) := sn_Pf.ite (pf_Md_talks_168 M) (sn_Pf.ite (pf_Md_talks_168 M) (sn_Pf.gR (k := 61) (by decide) (sn_Pf.aI (k := 61) (by decide) (fun v1 => sn_Pf.ite (pf_Md_talks_168 M) (sn_Pf.nn (sn_Pf.cI (pf_Md_legTold M x2) (fun v2 => pf_Md_talks_169 M v2)))))))
set_option maxHeartbeats 4000000 in
set_option maxRecDepth 100000 in
theorem pf_Md_talks_133 (M : Nat) (fk23 : Int32 → Int32 → sn_M) (k23 : Int32 → Int32 → sn_G) (hk23 : ∀ (x2 : Int32) (x3 : Int32), sn_Pf M (fk23 x2 x3) (k23 x2 x3)) (x3 : Int32) (t0 : Int32) : sn_Pf M (f_Md_talks_133 fk23 M x3 t0) (g_Md_talks_133 k23 x3 t0) := hk23 t0 (x3 + (1 : Int32))
set_option maxHeartbeats 4000000 in
set_option maxRecDepth 100000 in
theorem pf_Md_talks_115 (M : Nat) (fk23 : Int32 → Int32 → sn_M) (k23 : Int32 → Int32 → sn_G) (hk23 : ∀ (x2 : Int32) (x3 : Int32), sn_Pf M (fk23 x2 x3) (k23 x2 x3)) (x3 : Int32) (x5 : Int32) (t0 : Int32) : sn_Pf M (f_Md_talks_115 fk23 M x3 x5 t0) (g_Md_talks_115 k23 x3 x5 t0) := sn_Pf.ite (pf_Md_talks_133 M fk23 k23 hk23 x3 (-1 : Int32)) (sn_Pf.gR (k := 57) (by decide) (sn_Pf.aI (k := 57) (by decide) (fun v3 => pf_Md_talks_133 M fk23 k23 hk23 x3 v3)))
set_option maxHeartbeats 4000000 in
set_option maxRecDepth 100000 in
theorem pf_Md_talks_110 (M : Nat) (fk23 : Int32 → Int32 → sn_M) (k23 : Int32 → Int32 → sn_G) (hk23 : ∀ (x2 : Int32) (x3 : Int32), sn_Pf M (fk23 x2 x3) (k23 x2 x3)) (x3 : Int32) (x5 : Int32) : sn_Pf M (f_Md_talks_110 fk23 M x3 x5) (g_Md_talks_110 k23 x3 x5) := pf_Md_talks_115 M fk23 k23 hk23 x3 x5 (1 : Int32)
set_option maxHeartbeats 4000000 in
set_option maxRecDepth 100000 in
theorem pf_Md_talks_114 (M : Nat) (fk23 : Int32 → Int32 → sn_M) (k23 : Int32 → Int32 → sn_G) (hk23 : ∀ (x2 : Int32) (x3 : Int32), sn_Pf M (fk23 x2 x3) (k23 x2 x3)) (x3 : Int32) (x5 : Int32) : sn_Pf M (f_Md_talks_114 fk23 M x3 x5) (g_Md_talks_114 k23 x3 x5) := pf_Md_talks_115 M fk23 k23 hk23 x3 x5 (0 : Int32)
set_option maxHeartbeats 4000000 in
set_option maxRecDepth 100000 in
theorem pf_Md_talks_87 (M : Nat) (fk23 : Int32 → Int32 → sn_M) (k23 : Int32 → Int32 → sn_G) (hk23 : ∀ (x2 : Int32) (x3 : Int32), sn_Pf M (fk23 x2 x3) (k23 x2 x3)) (x3 : Int32) (x5 : Int32) : sn_Pf M (f_Md_talks_87 fk23 M x3 x5) (g_Md_talks_87 k23 x3 x5) := sn_Pf.gR (k := 52) (by decide) (sn_Pf.aI (k := 52) (by decide) (fun v4 => sn_Pf.ite (pf_Md_talks_110 M fk23 k23 hk23 x3 x5) (sn_Pf.gR (k := 52) (by decide) (sn_Pf.aI (k := 52) (by decide) (fun v5 => sn_Pf.ite (pf_Md_talks_114 M fk23 k23 hk23 x3 x5) (pf_Md_talks_110 M fk23 k23 hk23 x3 x5))))))
set_option maxHeartbeats 4000000 in
set_option maxRecDepth 100000 in
theorem pf_Md_talks_23 (M : Nat) : ∀ (n : Nat) (x2 : Int32) (x3 : Int32), sn_Pf M (f_Md_talks_23 M n x2 x3) (g_Md_talks_23 n x2 x3)
  | 0, _, _ => sn_Pf.z0
  | n + 1, x2, x3 => sn_Pf.ite (pf_Md_talks_140 M x2) (sn_Pf.ite (pf_Md_talks_140 M x2) (sn_Pf.nI (fun n6 => sn_Pf.nn (sn_Pf.cI (pf_Md_flowAt M ((n6 % (24 : Int32)) / (4 : Int32)) (n6 / (24 : Int32)) (n6 % (4 : Int32))) (fun v7 => sn_Pf.gR (k := 52) (by decide) (sn_Pf.aI (k := 52) (by decide) (fun v8 => sn_Pf.ite (pf_Md_talks_87 M (f_Md_talks_23 M n) (g_Md_talks_23 n) (pf_Md_talks_23 M n) x3 v7) (sn_Pf.gR (k := 52) (by decide) (sn_Pf.aI (k := 52) (by decide) (fun v9 => sn_Pf.ite (pf_Md_talks_114 M (f_Md_talks_23 M n) (g_Md_talks_23 n) (pf_Md_talks_23 M n) x3 v7) (pf_Md_talks_87 M (f_Md_talks_23 M n) (g_Md_talks_23 n) (pf_Md_talks_23 M n) x3 v7)))))))))))
set_option maxHeartbeats 4000000 in
set_option maxRecDepth 100000 in
theorem pf_Md_talks_20 (M : Nat) (t0 : Int32) : sn_Pf M (f_Md_talks_20 M t0) (g_Md_talks_20 t0) := pf_Md_talks_23 M sn_fuel t0 (0 : Int32)
set_option maxHeartbeats 4000000 in
set_option maxRecDepth 100000 in
theorem pf_Md_talks (M : Nat) (x1 : Int32) : sn_Pf M (f_Md_talks M x1) (g_Md_talks x1) := sn_Pf.gR (k := 61) (by decide) (sn_Pf.aI (k := 61) (by decide) (fun v10 => sn_Pf.ite (pf_Md_talks_20 M (-1 : Int32)) (sn_Pf.gR (k := 62) (by decide) (sn_Pf.aI (k := 62) (by decide) (fun v11 => pf_Md_talks_20 M v11)))))
set_option maxHeartbeats 4000000 in
set_option maxRecDepth 100000 in
theorem pf_Md_subscriber_57 (M : Nat) (t0 : Int32) : sn_Pf M (f_Md_subscriber_57 M t0) (g_Md_subscriber_57 t0) := sn_Pf.I
set_option maxHeartbeats 4000000 in
set_option maxRecDepth 100000 in
theorem pf_Md_subscriber (M : Nat) (x1 : Int32) (x2 : Int32) : sn_Pf M (f_Md_subscriber M x1 x2) (g_Md_subscriber x1 x2) := sn_Pf.cI (pf_Md_personAt M x1) (fun v1 => sn_Pf.ite (sn_Pf.ite (sn_Pf.ite (sn_Pf.ite (pf_Md_subscriber_57 M (-1 : Int32)) (sn_Pf.nn (sn_Pf.cI (pf_Md_talks M v1) (fun v2 => pf_Md_subscriber_57 M v2)))) (sn_Pf.gR (k := 62) (by decide) (sn_Pf.aI (k := 62) (by decide) (fun v3 => sn_Pf.nn (sn_Pf.cI (pf_Md_legTold M v3) (fun v4 => pf_Md_subscriber_57 M v4)))))) (sn_Pf.gR (k := 61) (by decide) (sn_Pf.aI (k := 61) (by decide) (fun v5 => pf_Md_subscriber_57 M v5)))) (sn_Pf.I))
set_option maxHeartbeats 4000000 in
set_option maxRecDepth 100000 in
theorem pf_Md_counted_48 (M : Nat) (t0 : Int32) : sn_Pf M (f_Md_counted_48 M t0) (g_Md_counted_48 t0) := sn_Pf.I
set_option maxHeartbeats 4000000 in
set_option maxRecDepth 100000 in
theorem pf_Md_counted (M : Nat) (x1 : Int32) : sn_Pf M (f_Md_counted M x1) (g_Md_counted x1) := sn_Pf.ite (sn_Pf.ite (sn_Pf.ite (sn_Pf.ite (pf_Md_counted_48 M (-1 : Int32)) (sn_Pf.gS (k := 9) rfl (fun v1 => pf_Md_counted_48 M v1))) (sn_Pf.gS (k := 8) rfl (fun v2 => pf_Md_counted_48 M v2))) (sn_Pf.gS (k := 7) rfl (fun v3 => pf_Md_counted_48 M v3))) (sn_Pf.gS (k := 5) rfl (fun v4 => pf_Md_counted_48 M v4))
