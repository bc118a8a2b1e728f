/-! LAYER 2: changing back -/
theorem bst_ne {σ : sn_FS} {x n s l : Nat} (hl : l < nl σ) (his : isof σ l x n = true) (h5 : σ.1 10 (en σ l x) = 5) : ∃ l', bst σ x n s = some l' := by
  cases hb : bst σ x n s with
  | some l' => exact ⟨l', rfl⟩
  | none =>
    exfalso
    obtain ⟨j, hj, ej⟩ := List.getElem_of_mem (mem_setOf hl his)
    unfold bst at hb
    rw [List.findSome?_eq_none_iff] at hb
    obtain ⟨N, hN⟩ : ∃ N, N = (setOf σ x n).length := ⟨_, rfl⟩
    rw [← hN] at hb
    have hlen : 0 < N := by omega
    have hj' : j < N := by omega
    have hk := hb ((j + (N - s % N)) % N) (List.mem_range.mpr (Nat.mod_lt _ hlen))
    have hsm := Nat.mod_lt s hlen
    have hmod : (s + (j + (N - s % N)) % N) % N = j := by
      rw [Nat.add_mod, Nat.mod_mod, ← Nat.add_mod]
      have h1 : s + (j + (N - s % N)) = j + N * (s / N + 1) := by
        have := Nat.div_add_mod s N
        rw [Nat.mul_add]
        omega
      rw [h1, Nat.add_mul_mod_self_left, Nat.mod_eq_of_lt hj']
    rw [hmod] at hk
    have hg : (setOf σ x n)[j]? = some l := by rw [← ej]; exact List.getElem?_eq_getElem (by omega)
    rw [hg] at hk
    simp [h5] at hk
/-- the timers that a step may set -/
def tmL : List Nat := [11, 20, 40, 44, 53, 54]
def TS (σ τ : sn_FS) : Prop := τ.1 6 0 = σ.1 6 0 ∧ ∀ k i, k ∈ tmL → τ.1 k i = σ.1 k i ∨ τ.1 k i = 0 ∨ ∃ v, 0 < v ∧ v ≤ 60 ∧ τ.1 k i = σ.1 6 0 + nI v
theorem TS.rf {σ : sn_FS} : TS σ σ := ⟨rfl, fun _ _ _ => Or.inl rfl⟩
theorem TS.tr {a b c : sn_FS} (h1 : TS a b) (h2 : TS b c) : TS a c := by
  refine ⟨h2.1.trans h1.1, fun k i hk => ?_⟩
  rcases h2.2 k i hk with q | q | ⟨v, v1, v2, q⟩
  · rw [q]; exact h1.2 k i hk
  · exact Or.inr (Or.inl q)
  · exact Or.inr (Or.inr ⟨v, v1, v2, by rw [q, h1.1]⟩)
theorem TS.of {σ τ : sn_FS} (h6 : τ.1 6 0 = σ.1 6 0) (h : ∀ k i, k ∈ tmL → τ.1 k i = σ.1 k i) : TS σ τ := ⟨h6, fun k i hk => Or.inl (h k i hk)⟩
/-- a changeover under way ends before the link's end starts again -/
def DI (σ : sn_FS) : Prop := ∀ e, e < 20 → ¬ σ.1 40 e = 0 → σ.1 11 e = σ.1 40 e + 2
theorem DI.mk' {σ τ : sn_FS} (h : DI σ) (h40 : ∀ i, i < 20 → τ.1 40 i = 0 ∨ τ.1 40 i = σ.1 40 i ∧ τ.1 11 i = σ.1 11 i) : DI τ := by
  intro e he hne
  rcases h40 e he with q | ⟨q1, q2⟩
  · exact absurd q hne
  · rw [q1, q2]; exact h e he (by rw [← q1]; exact hne)
def nrL : List Nat := [10, 11, 12, 13, 14, 15, 16, 17, 18, 19, 22, 23, 30, 36, 37, 38, 39, 40]
theorem nr_of {k : Nat} (h : k ∈ nrL) : (10 ≤ k ∧ k ≤ 19) ∨ k = 22 ∨ k = 23 ∨ k = 30 ∨ (36 ≤ k ∧ k ≤ 40) := by
  simp only [nrL, List.mem_cons, List.not_mem_nil, or_false] at h; omega
def FR0 (σ τ : sn_FS) : Prop := (∀ k i, k < 6 ∨ (50 ≤ k ∧ k ≤ 62) → τ.1 k i = σ.1 k i) ∧ (∀ k i, k ∈ nrL → 2 * nl σ ≤ i → τ.1 k i = σ.1 k i) ∧ ∀ x n s, n < 6 → s < 4 → nb σ x n = false → τ.1 45 (fl x n s) = σ.1 45 (fl x n s)
theorem FR0.sp {σ τ : sn_FS} (h : FR0 σ τ) : SP σ τ := ⟨fun i => h.1 0 i (by omega), fun i => h.1 1 i (by omega), fun i => h.1 4 i (by omega)⟩
theorem FR0.rf {σ : sn_FS} : FR0 σ σ := ⟨fun _ _ _ => rfl, fun _ _ _ _ => rfl, fun _ _ _ _ _ _ => rfl⟩
theorem FR0.tr {a b c : sn_FS} (h1 : FR0 a b) (h2 : FR0 b c) : FR0 a c := by
  have hs := h1.sp
  refine ⟨fun k i hk => (h2.1 k i hk).trans (h1.1 k i hk), fun k i hk hi => (h2.2.1 k i hk (by rw [hs.nlE]; exact hi)).trans (h1.2.1 k i hk hi), fun x n s hn hs' hb => ?_⟩
  exact (h2.2.2 x n s hn hs' (by rw [hs.nbE]; exact hb)).trans (h1.2.2 x n s hn hs' hb)
/-- credits and rounds stay; ends stay in their states, or fall out -/
def RK (σ τ : sn_FS) : Prop := ∀ i, τ.1 16 i = σ.1 16 i ∧ τ.1 17 i = σ.1 17 i ∧ (τ.1 10 i = σ.1 10 i ∨ τ.1 10 i = 0)
def FR (σ τ : sn_FS) : Prop := FR0 σ τ ∧ RK σ τ
theorem FR.rf {σ : sn_FS} : FR σ σ := ⟨FR0.rf, fun _ => ⟨rfl, rfl, Or.inl rfl⟩⟩
theorem FR.tr {a b c : sn_FS} (h1 : FR a b) (h2 : FR b c) : FR a c := by
  refine ⟨h1.1.tr h2.1, fun i => ?_⟩
  obtain ⟨a1, a2, a3⟩ := h1.2 i
  obtain ⟨b1, b2, b3⟩ := h2.2 i
  refine ⟨b1.trans a1, b2.trans a2, ?_⟩
  rcases b3 with q | q
  · rw [q]; exact a3
  · exact Or.inr q
theorem FR.of {σ τ : sn_FS} (h : ∀ k i, k < 6 ∨ (50 ≤ k ∧ k ≤ 62) ∨ (10 ≤ k ∧ k ≤ 19) ∨ k = 22 ∨ k = 23 ∨ k = 30 ∨ (36 ≤ k ∧ k ≤ 40) ∨ k = 45 → τ.1 k i = σ.1 k i) : FR σ τ := ⟨⟨fun k i hk => h k i (by omega), fun k i hk _ => h k i (by have := nr_of hk; omega), fun x n s _ _ _ => h 45 _ (by omega)⟩, fun i => ⟨h 16 i (by decide), h 17 i (by decide), Or.inl (h 10 i (by decide))⟩⟩
theorem FR.sp {σ τ : sn_FS} (h : FR σ τ) : SP σ τ := h.1.sp
def Rr1 (σ : sn_FS) (e : Nat) : Prop := ((4 : Int32) ≤ σ.1 10 e → ∃ c, c ≤ 5 ∧ σ.1 16 e = nI c) ∧ (σ.1 10 e = 3 → ∃ r, r ≤ 4 ∧ σ.1 17 e = nI r)
def RI (σ : sn_FS) : Prop := ∀ e, e < 20 → Rr1 σ e
theorem FR.ri {σ τ : sn_FS} (h : FR σ τ) (hr : RI σ) : RI τ := by
  intro e he
  obtain ⟨a1, a2, a3⟩ := h.2 e
  obtain ⟨b1, b2⟩ := hr e he
  rcases a3 with q | q
  · exact ⟨by rw [q, a1]; exact b1, by rw [q, a2]; exact b2⟩
  · exact ⟨by rw [q]; intro z; exact absurd z (by decide), by rw [q]; intro z; exact absurd z (by decide)⟩
/-- both do the same -/
def Inv (σ η : sn_FS) : Prop := HR σ η ∧ WI σ ∧ LkA σ ∧ DI σ ∧ ClOk σ
def Sm (kk : Nat → Nat) (g : sn_G) (f : sn_M) (rv : Option Value) (σ η : sn_FS) : Prop := ∃ τ θ, g σ = some (none, τ) ∧ f (Kap kk σ η) = some (rv, Kap kk τ θ) ∧ Inv τ θ ∧ PE η θ ∧ TS σ τ ∧ FR σ τ
theorem QC.ts {σ τ : sn_FS} (h : QC σ τ) : TS σ τ := TS.of (h.at (by decide)) (fun k i hk => h.at (by revert hk; unfold tmL; simp only [List.mem_cons, List.not_mem_nil, or_false]; omega))
theorem QC.fr {σ τ : sn_FS} (h : QC σ τ) : FR σ τ := FR.of (fun k i hk => h.at (by omega))
theorem QC.di {σ τ : sn_FS} (h : QC σ τ) (hd : DI σ) : DI τ := hd.mk' (fun i _ => Or.inr ⟨h.at (by decide), h.at (by decide)⟩)
theorem QC.lk {σ τ : sn_FS} (h : QC σ τ) (h49 : ∀ i, τ.1 49 i = σ.1 49 i) (hl : LkA σ) : LkA τ := hl.mk' h.sp (fun k i hk => by
  by_cases c : k = 49
  · rw [c]; exact h49 i
  · exact h.at (by omega))
theorem HR_eq {τ ω θ : sn_FS} (hH : HR τ θ) (hI : ∀ k i, τ.1 k i = ω.1 k i) (h35 : ∀ i, ω.2 35 i = τ.2 35 i) (hJ : ∀ t, t < 3 → ∀ i, exT τ t i → ∀ j, j < cl τ (sk t) i → ω.2 (jk t) (cp t * i + j) = τ.2 (jk t) (cp t * i + j)) : HR ω θ := by
  have hs : SP τ ω := ⟨fun i => (hI 0 i).symm, fun i => (hI 1 i).symm, fun i => (hI 4 i).symm⟩
  exact ⟨hH.1.mk' hs (fun t ht i hi => ⟨congrArg Int32.toNatClampNeg (hI _ _).symm, fun j hj => hJ t ht i hi j hj⟩) (fun t ht i => ⟨rfl, fun j => rfl⟩), hH.2.1.mk' hs (fun k' i _ _ => (hI _ _).symm) h35 (fun e j => ⟨rfl, rfl⟩), hH.2.2.mk' hs (fun i q => by rw [hI]; exact q) (fun i => (hI _ _).symm) (fun e => rfl)⟩
/-- giving a list on one flow -/
def S_gvs (x n s : Nat) : List Msg → sn_FS → sn_FS
  | [], σ => σ
  | m :: ms, σ => S_gvs x n s ms (S_give x n s (wR m) σ)
theorem S_gvs_I {x n s k i : Nat} (h : k ≠ 7 ∧ k ≠ 29 ∧ k ≠ 47) : ∀ (ms : List Msg) (σ : sn_FS), (S_gvs x n s ms σ).1 k i = σ.1 k i
  | [], σ => rfl
  | m :: ms, σ => (S_gvs_I h ms _).trans (S_give_I σ h)
theorem S_gvs_J {x n s k i : Nat} (h : k ≠ 28 ∧ k ≠ 46) : ∀ (ms : List Msg) (σ : sn_FS), (S_gvs x n s ms σ).2 k i = σ.2 k i
  | [], σ => rfl
  | m :: ms, σ => (S_gvs_J h ms _).trans (S_give_J h)
theorem opb_at {σ τ : sn_FS} {x n s : Nat} (h1 : τ.1 41 (fl x n s) = σ.1 41 (fl x n s)) (h2 : τ.1 42 (fl x n s) = σ.1 42 (fl x n s)) : opb τ x n s = opb σ x n s := by unfold opb; rw [h1, h2]
theorem QC_gvs {x n s : Nat} (hx : x < 6) (hn : n < 6) (hs : s < 4) : ∀ (ms : List Msg) (σ : sn_FS), WI σ → opb σ x n s = true → QC σ (S_gvs x n s ms σ)
  | [], σ, _, _ => QC.rf
  | m :: ms, σ, hw, ho => by
    have h1 := QC_give hw hx hn hs ho (wR m)
    exact h1.tr (QC_gvs hx hn hs ms _ (h1.wi hw) (by rw [opb_at (h1.at (by decide)) (h1.at (by decide))]; exact ho))
theorem S_gvs_49 {x n s : Nat} (ms : List Msg) (σ : sn_FS) (i : Nat) : (S_gvs x n s ms σ).1 49 i = σ.1 49 i := S_gvs_I (by decide) ms σ
/-- the reference changes back -/
theorem gl_be59 {x n s f w : Nat} (hf : f < 144) (hw : w ≤ 64) : ∀ (d fuel j : Nat) (σ : sn_FS), w - j = d → d < fuel → j ≤ w → ∃ J', Cpd σ.2 J' j w (fun p => σ.2 46 (64 * f + (p + j))) ∧ g_Md_backEnds_59 fuel (nI x) (nI n) (nI s) (nI f) (nI w) (nI j) σ = g_Md_backEnds_95 sn_fuel (nI x) (nI n) (nI s) (nI f) (nI w) 0 (σ.1, J')
  | 0, fuel + 1, j, σ, hd, _, hj => by
    have hjo : j = w := by omega
    subst hjo
    have e1 : (nI j ≤ nI j) = True := eq_true (nI_le (by omega) (by omega))
    refine ⟨σ.2, ⟨fun _ _ _ => rfl, fun _ _ => rfl, fun p h1 h2 => by omega⟩, ?_⟩
    simp only [g_Md_backEnds_59, e1, if_true]
  | d + 1, fuel + 1, j, σ, hd, hf2, hj => by
    have d46 : 64 * f + j < md_len 46 := by show _ < 9216; omega
    have d63 : j < md_len 63 := by show _ < 400; omega
    have e1 : (nI w ≤ nI j) = False := eq_false (nI_ge (by omega) (by omega))
    have e2 : ((64 : Int32) * nI f) + nI j = nI (64 * f + j) := by
      have : (64 : Int32) * nI f = nI (64 * f) := pk_mul 64 f
      rw [this, nI_add]
    obtain ⟨J', ⟨c1, c2, c3⟩, hg⟩ := gl_be59 (x := x) (n := n) (s := s) hf hw d fuel (j + 1) (sJ σ 63 j (σ.2 46 (64 * f + j))) (by omega) (by omega) (by omega)
    refine ⟨J', ⟨fun k i hk => (c1 k i hk).trans (sn_up_ne _ _ _ _ hk), fun p hp => (c2 p (by omega)).trans (sn_up_nk σ.2 63 63 (k := j) (j := p) _ (by omega)), fun p h1 h2 => ?_⟩, ?_⟩
    · by_cases cc : p = j
      · subst cc
        rw [c2 _ (by omega)]
        show sn_up σ.2 63 p _ 63 p = _
        rw [sn_up_same]; exact congrArg (σ.2 46) (by omega)
      · rw [c3 p (by omega) h2]
        show sn_up σ.2 63 j (σ.2 46 (64 * f + j)) 46 _ = _
        rw [sn_up_ne _ _ _ _ (by decide)]; exact congrArg (σ.2 46) (by omega)
    · simp only [g_Md_backEnds_59, e1, if_false, e2, q_J_at d46, w_J_at d63, nI_1]
      exact hg
theorem gl_be95 {x n s : Nat} (hx : x < 6) (hn : n < 6) (hs : s < 4) : ∀ (ms : List Msg) (fuel c : Nat) (σ : sn_FS), ms.length < fuel → c + ms.length ≤ 64 → GvOk σ → ¬ σ.1 41 (fl x n s) = -1 → (∀ j (h : j < ms.length), σ.2 63 (c + j) = wR ms[j]) → g_Md_backEnds_95 fuel (nI x) (nI n) (nI s) (nI (fl x n s)) (nI (c + ms.length)) (nI c) σ = some (none, S_gvs x n s ms σ)
  | [], fuel + 1, c, σ, _, hc, _, _, _ => by
    have e1 : (nI (c + ([] : List Msg).length) ≤ nI c) = True := eq_true (nI_le (by simp) (by simp at hc; omega))
    simp only [g_Md_backEnds_95, e1, if_true, z_V, S_gvs]
  | m :: ms, fuel + 1, c, σ, hf, hc, hG, h41, hw => by
    simp only [List.length_cons] at hf hc
    have d41 : fl x n s < md_len 41 := fl_lt hx hn hs
    have d63 : c < md_len 63 := by show _ < 400; omega
    have hlen : c + (m :: ms).length = c + 1 + ms.length := by simp only [List.length_cons]; omega
    have e1 : (nI (c + 1 + ms.length) ≤ nI c) = False := eq_false (nI_ge (by omega) (by omega))
    have hw0 : σ.2 63 c = wR m := hw 0 (by simp)
    have hgv := gl_give hG hx hn hs (m := wR m) (Or.inl h41)
    have ih := gl_be95 hx hn hs ms fuel (c + 1) (S_give x n s (wR m) σ) (by omega) (by omega) (S_give_Gv hG) (by rw [S_give_I σ (by decide)]; exact h41) (fun j hj => by
      rw [S_give_J (by decide), Nat.add_assoc, Nat.add_comm 1 j]
      exact hw (j + 1) (by simp only [List.length_cons]; omega))
    rw [hlen]
    simp only [g_Md_backEnds_95, e1, if_false, q_I_at d41, h41, not_false_eq_true, if_true, q_J_at d63, hw0, y_V_at hgv, g_Md_backEnds_140, nI_1, ih, S_gvs]
def S_bb (x n s : Nat) (σ : sn_FS) : sn_FS := sI (sI (sI σ 41 (fl x n s) (oI (bst σ x n s))) 42 (fl x n s) 0) 44 (fl x n s) 0
theorem gl_backEnds {σ : sn_FS} {x n s : Nat} {ms : List Msg} (hx : x < 6) (hn : n < 6) (hs : s < 4) (hP : PlanOk σ) (hG : GvOk (sI (S_bb x n s σ) 47 (fl x n s) 0)) (h47 : σ.1 47 (fl x n s) = nI ms.length) (hl : ms.length ≤ 64) (hw : ∀ j (h : j < ms.length), σ.2 46 (64 * fl x n s + j) = wR ms[j]) (hb : ∃ l, bst σ x n s = some l) : ∃ J', (∀ k i, k ≠ 63 → J' k i = σ.2 k i) ∧ g_Md_backEnds (nI x) (nI n) (nI s) σ = some (none, S_gvs x n s ms ((sI (S_bb x n s σ) 47 (fl x n s) 0).1, J')) := by
  have hf := fl_lt hx hn hs
  have d41 : fl x n s < md_len 41 := hf
  have d42 : fl x n s < md_len 42 := hf
  have d44 : fl x n s < md_len 44 := hf
  have d47 : fl x n s < md_len 47 := hf
  have hs2 : SP σ (sI (sI σ 42 (fl x n s) 0) 44 (fl x n s) 0) := (SP.sI (k := 42) (by decide)).tr (SP.sI (k := 44) (by decide))
  have hbe := gl_bestOf (hs2.plan hP) hx hn hs
  rw [bst_eq hs2 (fun i => by rw [sI_ne (by decide), sI_ne (by decide)])] at hbe
  have hst : sI (sI (sI (sI σ 42 (fl x n s) 0) 44 (fl x n s) 0) 41 (fl x n s) (oI (bst σ x n s))) 47 (fl x n s) 0 = sI (S_bb x n s σ) 47 (fl x n s) 0 := by
    unfold S_bb
    rw [sI_sw (k := 44) (k' := 41) (by decide), sI_sw (k := 42) (k' := 41) (by decide)]
  obtain ⟨J', ⟨c1, c2, c3⟩, hg⟩ := gl_be59 (x := x) (n := n) (s := s) hf hl ms.length sn_fuel 0 (sI (S_bb x n s σ) 47 (fl x n s) 0) (by omega) (by unfold sn_fuel; omega) (by omega)
  have hg : g_Md_backEnds_59 sn_fuel (nI x) (nI n) (nI s) (nI (fl x n s)) (nI ms.length) 0 (sI (S_bb x n s σ) 47 (fl x n s) 0) = _ := hg
  obtain ⟨l, hbl⟩ := hb
  have hl10 := (bst_ok hbl).1
  have hnl := hP.2.1
  have h41 : ¬ (sI (S_bb x n s σ) 47 (fl x n s) 0).1 41 (fl x n s) = -1 := by
    have : (sI (S_bb x n s σ) 47 (fl x n s) 0).1 41 (fl x n s) = nI l := by unfold S_bb; rw [hbl]; simp only [sn_upE, Nat.reduceEqDiff, reduceIte]; rfl
    rw [this]; exact nI_m1 (by omega)
  have h95 := gl_be95 hx hn hs ms sn_fuel 0 ((sI (S_bb x n s σ) 47 (fl x n s) 0).1, J') (by unfold sn_fuel; omega) (by omega) hG h41 (fun j hj => by
    show J' 63 (0 + j) = _
    rw [c3 (0 + j) (by omega) (by omega), ← hw j hj]
    show σ.2 46 _ = _
    exact congrArg (σ.2 46) (by omega))
  rw [Nat.zero_add] at h95
  have h95 : g_Md_backEnds_95 sn_fuel (nI x) (nI n) (nI s) (nI (fl x n s)) (nI ms.length) 0 _ = _ := h95
  refine ⟨J', c1, ?_⟩
  rw [← h95, ← hg, ← hst]
  simp only [g_Md_backEnds, y_I_at (gl_flowAt σ x n s), q_I_at d47, h47, w_I_at d42, w_I_at d44, y_I_at hbe, w_I_at d41, w_I_at d47]
/-- the class changes back -/
def XF (f : Nat) (ρ σ : sn_FS) : Prop := (∀ k i, ¬ (k = 47 ∧ i = f) → σ.1 k i = ρ.1 k i) ∧ ∀ k i, k ≠ 63 → ¬ (k = 46 ∧ 64 * f ≤ i ∧ i < 64 * f + 64) → σ.2 k i = ρ.2 k i
theorem XF.at {f : Nat} {ρ σ : sn_FS} (h : XF f ρ σ) {k i : Nat} (hk : k ≠ 47) : σ.1 k i = ρ.1 k i := h.1 k i (fun q => hk q.1)
theorem XF.sp {f : Nat} {ρ σ : sn_FS} (h : XF f ρ σ) : SP ρ σ := ⟨fun i => h.at (by decide), fun i => h.at (by decide), fun i => h.at (by decide)⟩
theorem XF_lost {f : Nat} {ρ σ : sn_FS} (h : XF f ρ σ) : XF f (S_lost ρ) (S_lost σ) := by
  refine ⟨fun k i a => ?_, fun k i a b => h.2 k i a b⟩
  show (if k = 7 then _ else _) = (if k = 7 then _ else _)
  rw [h.at (k := 7) (by decide), h.1 k i a]
theorem XF_wait {f : Nat} {ρ σ : sn_FS} (h : XF f ρ σ) (e : Nat) (m : Int64) : XF f (S_wait e m ρ) (S_wait e m σ) := by
  have h29 : σ.1 29 e = ρ.1 29 e := h.at (by decide)
  unfold S_wait
  rw [h29]
  split
  · exact XF_lost h
  · refine ⟨fun k i a => ?_, fun k i a b => ?_⟩
    · simp only [sn_upE]
      rw [h.1 k i a]
    · simp only [sn_upE]
      rw [h.2 k i a b]
theorem XF_give {f : Nat} {ρ σ : sn_FS} (h : XF f ρ σ) {x n s : Nat} (h42 : ρ.1 42 (fl x n s) = 0) (m : Int64) : XF f (S_give x n s m ρ) (S_give x n s m σ) := by
  unfold S_give
  rw [h.at (k := 42) (by decide), h.at (k := 41) (by decide), h.sp.enE, if_pos h42, if_pos h42]
  exact XF_wait h _ m
theorem XF_pop {f : Nat} {ρ σ : sn_FS} (h : XF f ρ σ) : XF f ρ (S_pop 2 f σ) := by
  refine ⟨fun k j a => ?_, fun k p a b => ?_⟩
  · show sn_up σ.1 47 f _ k j = ρ.1 k j
    rw [← h.1 k j a]
    simp only [sn_upE]
    by_cases c1 : k = 47
    · have c2 : ¬ j = f := fun q => a ⟨c1, q⟩
      simp [c2]
    · simp [c1]
  · show (if k = 46 ∧ 64 * f ≤ p ∧ p < 64 * f + 64 then _ else σ.2 k p) = ρ.2 k p
    rw [if_neg b]; exact h.2 k p a b
variable {kk : Nat → Nat}
theorem fl_cb73 {x n s : Nat} (hx : x < 6) (hn : n < 6) (hs : s < 4) : ∀ (ms : List Msg) (fuel : Nat) (ρ σ η : sn_FS), ms.length < fuel → ms.length ≤ 64 → KOk kk σ → HR σ η → GvOk σ → XF (fl x n s) ρ σ → nb σ x n = true → ρ.1 42 (fl x n s) = 0 → ¬ ρ.1 41 (fl x n s) = -1 → σ.1 47 (fl x n s) = nI ms.length → (∀ m ∈ ms, MV σ m) → (∀ j (h : j < ms.length), σ.2 46 (64 * fl x n s + j) = wR ms[j]) → ∃ τ θ, f_Tr_changeBack_73 11 fuel (some (aF (fl x n s))) (nI ms.length) (Kap kk σ η) = some (none, Kap kk τ θ) ∧ HR τ θ ∧ PE η θ ∧ XF (fl x n s) (S_gvs x n s ms ρ) τ ∧ τ.1 47 (fl x n s) = 0
  | [], fuel + 1, ρ, σ, η, _, _, _, hH, _, hX, _, _, _, h47, _, _ => by
    have o1 : (nI ([] : List Msg).length ≤ 0) = True := eq_true (by decide)
    refine ⟨σ, η, ?_, hH, PE.rf, hX, h47⟩
    simp only [f_Tr_changeBack_73, o1, if_true, r_V]
  | m :: ms, fuel + 1, ρ, σ, η, hf, hc, hK, hH, hG, hX, hb, h42, h41, h47, hm, hw => by
    simp only [List.length_cons] at hf hc
    have hn' : σ.1 47 (fl x n s) = nI (ms.length + 1) := h47
    have hmv := hm m List.mem_cons_self
    have hcl := cl_n hn' (by omega)
    have hff := fl_lt hx hn hs
    obtain ⟨g1, g2, -⟩ := fl_x (x := x) hn hs
    have hi : exT σ 2 (fl x n s) := ⟨hff, by rw [g1, g2]; exact hb⟩
    have hw0 : σ.2 46 (64 * fl x n s) = wR m := hw 0 (by simp)
    obtain ⟨θ1, a1, a2, a3⟩ := fl_pop hK hH (t := 2) (by decide) hi hn' (by show _ ≤ 64; omega) hmv.1 hw0
    have hs1 := S_pop_SP (i := fl x n s) (t := 2) (by decide) σ
    have hG1 := S_pop_Gv (i := fl x n s) (t := 2) hG (by decide) (by show cl σ 47 _ ≤ 64; omega)
    have hX1 := XF_pop hX
    have h41' : ¬ (S_pop 2 (fl x n s) σ).1 41 (fl x n s) = -1 := by rw [hX1.at (by decide)]; exact h41
    have ho : opb (S_pop 2 (fl x n s) σ) x n s = true := by unfold opb; simp [h41']
    have hb1 : nb (S_pop 2 (fl x n s) σ) x n = true := by
      have : nb (S_pop 2 (fl x n s) σ) x n = nb σ x n := by unfold nb; rw [hs1.setOfE]
      rw [this]; exact hb
    obtain ⟨θ2, b1, b2, b3⟩ := fl_give (hK.sp hs1) a2 hG1 hx hn hs hb1 ho (m := m) (by rw [MV.sp hs1]; exact hmv)
    have hX2 := XF_give hX1 h42 (wR m)
    have hs2 := S_give_SP x n s (wR m) (S_pop 2 (fl x n s) σ)
    have hs12 := hs1.tr hs2
    have e42 : (S_give x n s (wR m) (S_pop 2 (fl x n s) σ)).1 47 (fl x n s) = nI ms.length ∧ ∀ p, (S_give x n s (wR m) (S_pop 2 (fl x n s) σ)).2 46 p = (S_pop 2 (fl x n s) σ).2 46 p := by
      have h0 : (S_pop 2 (fl x n s) σ).1 42 (fl x n s) = 0 := by rw [hX1.at (by decide)]; exact h42
      have e1 : (S_pop 2 (fl x n s) σ).1 47 (fl x n s) = nI ms.length := by
        show sn_up σ.1 47 (fl x n s) _ 47 (fl x n s) = _
        rw [sn_up_same]
        show nI (cl σ 47 (fl x n s) - 1) = _
        rw [hcl]; rfl
      unfold S_give
      rw [if_pos h0]
      unfold S_wait
      split
      · exact ⟨by rw [S_lost_I _ (by decide)]; exact e1, fun p => rfl⟩
      · refine ⟨by rw [sI_ne (by decide)]; exact e1, fun p => ?_⟩
        simp only [sn_upE, Nat.reduceEqDiff, reduceIte]
    obtain ⟨τ, θ3, c1, c2, c3, c4, c5⟩ := fl_cb73 hx hn hs ms fuel (S_give x n s (wR m) ρ) (S_give x n s (wR m) (S_pop 2 (fl x n s) σ)) θ2 (by omega) (by omega) (hK.sp hs12) b2 (S_give_Gv hG1) hX2 (by
      have : nb (S_give x n s (wR m) (S_pop 2 (fl x n s) σ)) x n = nb σ x n := by unfold nb; rw [hs12.setOfE]
      rw [this]; exact hb) (by rw [S_give_I ρ (by decide)]; exact h42) (by rw [S_give_I ρ (by decide)]; exact h41) e42.1 (fun m' h' => by rw [MV.sp hs12]; exact hm m' (List.mem_cons_of_mem _ h')) (fun j hj => by
      rw [e42.2]
      show (if (46 : Nat) = 46 ∧ 64 * fl x n s ≤ 64 * fl x n s + j ∧ 64 * fl x n s + j < 64 * fl x n s + 64 then σ.2 46 (64 * fl x n s + j + 1) else _) = _
      rw [if_pos ⟨rfl, by omega, by omega⟩, Nat.add_assoc]
      exact hw (j + 1) (by simp only [List.length_cons]; omega))
    refine ⟨τ, θ3, ?_, c2, (a3.tr b3).tr c3, c4, c5⟩
    obtain ⟨⟨k1, k2, k3, k4, k5, k6, k7, k8, k9, k10, k11, k12, k13, k14, k15, k16, k17, k18, k19, k20, k21, k22⟩, kE, kF, kP, k4s⟩ := id hK
    obtain ⟨f1, f2, f3, f4⟩ := hK.flow hx hn hs hb
    have o1 : (nI (ms.length + 1) ≤ 0) = False := eq_false (nI_ge (b := ms.length + 1) (a := 0) (by omega) (by omega))
    have a1 : f_Qu_takeFirst (aKQ (fl x n s)) _ = _ := a1
    rw [← c1]
    show f_Tr_changeBack_73 11 (fuel + 1) (some (aF (fl x n s))) (nI (ms.length + 1)) _ = _
    simp only [f_Tr_changeBack_73, x_ite, o1, if_false, x_gR, f1, if_true, rr_F6, x_nn, f2, x_cJ a1, k11, x_cV b1, nI_dec]
