/-! LAYER 2: a link comes up -/
theorem setFrom_mem {σ : sn_FS} {x n i l : Nat} (h : l ∈ setFrom σ x n i) : l < nl σ ∧ i ≤ l ∧ isof σ l x n = true := by
  unfold setFrom at h
  obtain ⟨h1, h2⟩ := List.mem_filter.mp h
  have h3 := List.mem_range'_1.mp h1
  exact ⟨by omega, by omega, h2⟩
theorem bst_ok {σ : sn_FS} {x n s l : Nat} (h : bst σ x n s = some l) : l < nl σ ∧ isof σ l x n = true ∧ σ.1 10 (en σ l x) = 5 := by
  unfold bst at h
  obtain ⟨k, -, hk⟩ := List.exists_of_findSome?_eq_some h
  obtain ⟨l', h1, h2⟩ := Option.bind_eq_some_iff.mp hk
  split at h2
  · rename_i h5
    cases h2
    have hm := setFrom_mem (List.mem_of_getElem? h1)
    exact ⟨hm.1, hm.2.2, h5⟩
  · cases h2
def S_up1 (x n s : Nat) (σ : sn_FS) : sn_FS :=
  if σ.1 42 (fl x n s) = 0 then
    if σ.1 41 (fl x n s) = -1 then sI σ 41 (fl x n s) (oI (bst σ x n s))
    else if oI (bst σ x n s) = σ.1 41 (fl x n s) then σ
    else sI (sI (S_give x n s (wR (3, x, n, s, s, ((σ.1 45 (fl x n s)).toNatClampNeg + 1) % 256, 0)) (sI σ 45 (fl x n s) ((σ.1 45 (fl x n s) + 1) &&& 255))) 42 (fl x n s) 2) 44 (fl x n s) (σ.1 6 0 + 20)
  else σ
def S_upF (x n : Nat) : Nat → sn_FS → sn_FS
  | 0, σ => σ
  | r + 1, σ => S_upF x n r (S_up1 x n (4 - (r + 1)) σ)
def S_upT (x n : Nat) : Nat → sn_FS → sn_FS
  | 0, σ => σ
  | r + 1, σ => S_upT x n r (sI σ 49 (36 * x + 6 * n + (6 - (r + 1))) 0)
def anyOpen (σ : sn_FS) (x n : Nat) : Nat → Bool
  | 0 => false
  | r + 1 => opb σ x n (4 - (r + 1)) || anyOpen σ x n r
def S_up (e : Nat) (σ : sn_FS) : sn_FS := S_look (ex σ e) (if anyOpen σ (ex σ e) (ot σ e) 4 then S_upF (ex σ e) (ot σ e) 4 σ else S_upT (ex σ e) (ot σ e) 6 (S_upF (ex σ e) (ot σ e) 4 σ))
def BegOk (σ : sn_FS) : Prop := ∀ f, f < 144 → ∃ v, v < 256 ∧ σ.1 45 f = nI v
theorem S_up1_I {x n s k i : Nat} (σ : sn_FS) (h : k ≠ 7 ∧ k ≠ 29 ∧ k ≠ 47 ∧ k ≠ 41 ∧ k ≠ 42 ∧ k ≠ 44 ∧ k ≠ 45) : (S_up1 x n s σ).1 k i = σ.1 k i := by
  obtain ⟨h1, h2, h3, h4, h5, h6, h7⟩ := h
  unfold S_up1
  split
  · split
    · exact sI_ne h4
    · split
      · rfl
      · rw [sI_ne h6, sI_ne h5, S_give_I _ ⟨h1, h2, h3⟩, sI_ne h7]
  · rfl
theorem and255 {v : Nat} (h : v < 2 ^ 31) : (nI v + 1) &&& (255 : Int32) = nI ((v + 1) % 256) := by
  rw [nI_1]
  exact pk_andN (by omega) (m := 255) 8 (by decide)
theorem S_up1_ok {x n s : Nat} (hx : x < 6) (hn : n < 6) (hs : s < 4) {σ : sn_FS} (h : GvOk σ) (hB : BegOk σ) : GvOk (S_up1 x n s σ) ∧ BegOk (S_up1 x n s σ) := by
  have hf := fl_lt hx hn hs
  obtain ⟨v, hv, ev⟩ := hB _ hf
  unfold S_up1
  split
  · rename_i c0
    split
    · have hs2 : SP σ (sI σ 41 (fl x n s) (oI (bst σ x n s))) := SP.sI (by decide)
      refine ⟨⟨hs2.plan h.1, fun e he => by rw [sI_ne (by decide)]; exact h.2.1 e he, fun f hf => by rw [sI_ne (by decide)]; exact h.2.2.1 f hf, fun f hf2 => ?_⟩, fun f hf2 => by rw [sI_ne (by decide)]; exact hB f hf2⟩
      rw [hs2.nlE, sI_ne (k' := 42) (by decide)]
      by_cases c : f = fl x n s
      · subst c; rw [sI_same]; intro _
        cases hb : bst σ x n s with
        | none => exact Or.inl rfl
        | some l => exact Or.inr ⟨l, (bst_ok hb).1, rfl⟩
      · rw [sI_nk c]; exact h.2.2.2 f hf2
    · split
      · exact ⟨h, hB⟩
      · have hG : GvOk (S_give x n s (wR (3, x, n, s, s, ((σ.1 45 (fl x n s)).toNatClampNeg + 1) % 256, 0)) (sI σ 45 (fl x n s) ((σ.1 45 (fl x n s) + 1) &&& 255))) := S_give_Gv (h.sI (k := 45) (by decide))
        generalize hτ : S_give x n s (wR (3, x, n, s, s, ((σ.1 45 (fl x n s)).toNatClampNeg + 1) % 256, 0)) (sI σ 45 (fl x n s) ((σ.1 45 (fl x n s) + 1) &&& 255)) = τ at hG
        have h45 : ∀ i, τ.1 45 i = (sI σ 45 (fl x n s) ((σ.1 45 (fl x n s) + 1) &&& 255)).1 45 i := fun i => by rw [← hτ]; exact S_give_I _ (by decide)
        have hs2 : SP τ (sI τ 42 (fl x n s) 2) := SP.sI (by decide)
        have hG2 : GvOk (sI τ 42 (fl x n s) 2) := by
          refine ⟨hs2.plan hG.1, fun e he => by rw [sI_ne (by decide)]; exact hG.2.1 e he, fun f hf => by rw [sI_ne (by decide)]; exact hG.2.2.1 f hf, fun f hf2 => ?_⟩
          rw [hs2.nlE, sI_ne (k' := 41) (by decide)]
          by_cases c : f = fl x n s
          · subst c; rw [sI_same]; intro q; exact absurd q (by decide)
          · rw [sI_nk c]; exact hG.2.2.2 f hf2
        refine ⟨hG2.sI (k := 44) (by decide), fun f hf2 => ?_⟩
        rw [sI_ne (by decide), sI_ne (by decide), h45]
        by_cases c : f = fl x n s
        · subst c; rw [sI_same, ev, and255 (by omega)]; exact ⟨_, Nat.mod_lt _ (by decide), rfl⟩
        · rw [sI_nk c]; exact hB f hf2
  · exact ⟨h, hB⟩
theorem S_upF_I {x n k i : Nat} (h : k ≠ 7 ∧ k ≠ 29 ∧ k ≠ 47 ∧ k ≠ 41 ∧ k ≠ 42 ∧ k ≠ 44 ∧ k ≠ 45) : ∀ (r : Nat) (σ : sn_FS), (S_upF x n r σ).1 k i = σ.1 k i
  | 0, σ => rfl
  | r + 1, σ => (S_upF_I h r _).trans (S_up1_I σ h)
theorem S_upF_ok {x n : Nat} (hx : x < 6) (hn : n < 6) : ∀ (r : Nat) {σ : sn_FS}, r ≤ 4 → GvOk σ → BegOk σ → GvOk (S_upF x n r σ) ∧ BegOk (S_upF x n r σ)
  | 0, σ, _, h, hB => ⟨h, hB⟩
  | r + 1, σ, hr, h, hB => by
    obtain ⟨a, b⟩ := S_up1_ok hx hn (show 4 - (r + 1) < 4 by omega) h hB
    exact S_upF_ok hx hn r (by omega) a b
theorem S_upT_I {x n k i : Nat} (h : k ≠ 49) : ∀ (r : Nat) (σ : sn_FS), (S_upT x n r σ).1 k i = σ.1 k i
  | 0, σ => rfl
  | r + 1, σ => (S_upT_I h r _).trans (sI_ne h)
theorem S_upT_Gv {x n : Nat} : ∀ (r : Nat) {σ : sn_FS}, GvOk σ → GvOk (S_upT x n r σ)
  | 0, σ, h => h
  | r + 1, σ, h => S_upT_Gv r (h.sI (k := 49) (by decide))
theorem gl_up_206 {x n : Nat} (hx : x < 6) (hn : n < 6) : ∀ (r fuel : Nat) (σ : sn_FS), r ≤ 6 → r < fuel → GvOk σ → ToldOk σ → g_Md_up_206 fuel (nI x) (nI n) 0 (nI (6 - r)) σ = some (none, S_look x (S_upT x n r σ))
  | 0, fuel + 1, σ, _, _, h, hT => by
    have o1 : ((6 : Int32) ≤ nI (6 - 0)) = True := eq_true (by decide)
    simp only [g_Md_up_206, o1, if_true, g_Md_up_242, y_V_at (gl_look h hT hx), z_V, S_upT]
  | r + 1, fuel + 1, σ, hr, hf, h, hT => by
    have hd : 6 - (r + 1) < 6 := by omega
    have hdd : 6 - (r + 1) + 1 = 6 - r := by omega
    generalize hN : 6 - (r + 1) = d at hd hdd
    have o1 : ((6 : Int32) ≤ nI d) = False := eq_false (nI_ge (b := 6) hd (by omega))
    have e36 : ((36 : Int32) * nI x + (6 : Int32) * nI n) + nI d = nI (36 * x + 6 * n + d) := by
      have a1 : (36 : Int32) * nI x = nI (36 * x) := pk_mul 36 x
      have a2 : (6 : Int32) * nI n = nI (6 * n) := pk_mul 6 n
      rw [a1, a2, nI_add, nI_add]
    have d49 : 36 * x + 6 * n + d < md_len 49 := by show _ < 216; omega
    have hS : S_upT x n (r + 1) σ = S_upT x n r (sI σ 49 (36 * x + 6 * n + d) 0) := by simp only [S_upT, hN]
    rw [hS]
    simp only [g_Md_up_206, o1, if_false, not_true_eq_false, e36, w_I_at d49, nI_1, hdd]
    exact gl_up_206 hx hn r fuel _ (by omega) (by omega) (h.sI (by decide)) (hT.mk' (fun i => sI_ne (by decide)) (fun i => sI_ne (by decide)))
theorem gl_up_206' {x n : Nat} {σ : sn_FS} (hx : x < 6) (h : GvOk σ) (hT : ToldOk σ) : g_Md_up_206 sn_fuel (nI x) (nI n) 1 0 σ = some (none, S_look x σ) := by
  obtain ⟨k, hk⟩ := fuel3
  have o1 : ((6 : Int32) ≤ 0) = False := eq_false (by decide)
  have o2 : ((1 : Int32) = 0) = False := eq_false (by decide)
  simp only [hk, g_Md_up_206, o1, o2, if_false, not_false_eq_true, if_true, g_Md_up_242, y_V_at (gl_look h hT hx), z_V]
theorem gl_up_56 {x n : Nat} {w : Int32} (hx : x < 6) (hn : n < 6) : ∀ (r fuel : Nat) (σ : sn_FS), r ≤ 4 → r < fuel → GvOk σ → BegOk σ → g_Md_up_56 fuel (nI x) (nI n) w (nI (4 - r)) σ = g_Md_up_206 sn_fuel (nI x) (nI n) w 0 (S_upF x n r σ)
  | 0, fuel + 1, σ, _, _, _, _ => by
    have o1 : ((4 : Int32) ≤ nI (4 - 0)) = True := eq_true (by decide)
    simp only [g_Md_up_56, o1, if_true, S_upF]
  | r + 1, fuel + 1, σ, hr, hf, h, hB => by
    have hs : 4 - (r + 1) < 4 := by omega
    have hss : 4 - (r + 1) + 1 = 4 - r := by omega
    have hok := S_up1_ok hx hn hs h hB
    have hS0 : S_upF x n (r + 1) σ = S_upF x n r (S_up1 x n (4 - (r + 1)) σ) := rfl
    generalize hN : 4 - (r + 1) = s at hs hss hok hS0
    have o1 : ((4 : Int32) ≤ nI s) = False := eq_false (nI_ge (b := 4) hs (by omega))
    have hf1 := fl_lt hx hn hs
    have d41 : fl x n s < md_len 41 := hf1
    have d42 : fl x n s < md_len 42 := hf1
    have d44 : fl x n s < md_len 44 := hf1
    have d45 : fl x n s < md_len 45 := hf1
    obtain ⟨v, hv, ev⟩ := hB _ hf1
    have ih := gl_up_56 (w := w) hx hn r fuel _ (by omega) (by omega) hok.1 hok.2
    rw [hS0, ← ih]
    simp only [g_Md_up_56, o1, if_false, y_I_at (gl_flowAt σ x n s), q_I_at d42, g_Md_up_197, nI_1, hss]
    by_cases c0 : σ.1 42 (fl x n s) = 0
    · simp only [c0, if_true, y_I_at (gl_bestOf h.1 hx hn hs), q_I_at d41]
      by_cases c1 : σ.1 41 (fl x n s) = -1
      · have e1 : S_up1 x n s σ = sI σ 41 (fl x n s) (oI (bst σ x n s)) := by unfold S_up1; rw [if_pos c0, if_pos c1]
        simp only [c1, not_true_eq_false, if_false, w_I_at d41, e1]
      · by_cases c2 : oI (bst σ x n s) = σ.1 41 (fl x n s)
        · have e1 : S_up1 x n s σ = σ := by unfold S_up1; rw [if_pos c0, if_neg c1, if_pos c2]
          simp only [c1, not_false_eq_true, if_true, c2, e1, q_I_at d41]
        · have e1 : S_up1 x n s σ = sI (sI (S_give x n s (wR (3, x, n, s, s, ((σ.1 45 (fl x n s)).toNatClampNeg + 1) % 256, 0)) (sI σ 45 (fl x n s) ((σ.1 45 (fl x n s) + 1) &&& 255))) 42 (fl x n s) 2) 44 (fl x n s) (σ.1 6 0 + 20) := by unfold S_up1; rw [if_pos c0, if_neg c1, if_neg c2]
          have hop : opn (sI σ 45 (fl x n s) ((σ.1 45 (fl x n s) + 1) &&& 255)) x n s := Or.inl (by rw [sI_ne (by decide)]; exact c1)
          have hG : GvOk (sI σ 45 (fl x n s) ((σ.1 45 (fl x n s) + 1) &&& 255)) := h.sI (by decide)
          have hmk : MOk (3, x, n, s, s, (v + 1) % 256, 0) := ⟨(by omega : 3 < 16), hx, hn, hs, (by omega : s < 256), (by omega : (v + 1) % 256 < 65536), (by omega : 0 < 9)⟩
          have hme : g_Md_message (3 : Int32) (nI x) (nI n) (nI s) (nI s) (nI ((v + 1) % 256)) (sI σ 45 (fl x n s) ((σ.1 45 (fl x n s) + 1) &&& 255)) = some (some (.long (wR (3, x, n, s, s, (v + 1) % 256, 0))), sI σ 45 (fl x n s) ((σ.1 45 (fl x n s) + 1) &&& 255)) := gl_message hmk _
          have hgi := gl_give hG (m := wR (3, x, n, s, s, (v + 1) % 256, 0)) hx hn hs hop
          have hr45 : (sI σ 45 (fl x n s) ((σ.1 45 (fl x n s) + 1) &&& 255)).1 45 (fl x n s) = nI ((v + 1) % 256) := by rw [sI_same, ev]; exact and255 (by omega)
          have hcl : (σ.1 45 (fl x n s)).toNatClampNeg = v := by rw [ev]; exact nI_clamp (by omega)
          have e6 : sn_up (S_give x n s (wR (3, x, n, s, s, (v + 1) % 256, 0)) (sI σ 45 (fl x n s) ((σ.1 45 (fl x n s) + 1) &&& 255))).1 42 (fl x n s) 2 6 0 = σ.1 6 0 := by rw [sn_up_ne _ _ _ _ (by decide), S_give_I _ (by decide), sI_ne (by decide)]
          rw [e1, hcl]
          simp only [c1, not_false_eq_true, if_true]
          rw [q_I_at d41, if_neg c2, q_I_at d45, w_I_at d45, q_I_at d45, hr45, y_J_at hme, y_V_at hgi, w_I_at d42]
          simp only [q_S]
          rw [w_I_at d44, e6]
    · have e1 : S_up1 x n s σ = σ := by unfold S_up1; rw [if_neg c0]
      simp only [c0, if_false, e1]
theorem gl_up_18 {x n : Nat} (hx : x < 6) (hn : n < 6) : ∀ (r fuel : Nat) (σ : sn_FS) (b : Bool), r ≤ 4 → r < fuel → g_Md_up_18 fuel (nI x) (nI n) (if b then 1 else 0) (nI (4 - r)) σ = g_Md_up_56 sn_fuel (nI x) (nI n) (if b || anyOpen σ x n r then 1 else 0) 0 σ
  | 0, fuel + 1, σ, b, _, _ => by
    have o1 : ((4 : Int32) ≤ nI (4 - 0)) = True := eq_true (by decide)
    simp only [g_Md_up_18, o1, if_true, anyOpen, Bool.or_false]
  | r + 1, fuel + 1, σ, b, hr, hf => by
    have hs : 4 - (r + 1) < 4 := by omega
    have hss : 4 - (r + 1) + 1 = 4 - r := by omega
    have hA : anyOpen σ x n (r + 1) = (opb σ x n (4 - (r + 1)) || anyOpen σ x n r) := rfl
    generalize hN : 4 - (r + 1) = s at hs hss hA
    have o1 : ((4 : Int32) ≤ nI s) = False := eq_false (nI_ge (b := 4) hs (by omega))
    have o2 : ((1 : Int32) = 0) = False := eq_false (by decide)
    have ih := fun b => gl_up_18 hx hn r fuel σ b (by omega) (by omega)
    rw [hA]
    cases b with
    | true =>
      have ih1 := ih true
      simp only [if_true, Bool.true_or] at ih1 ⊢
      simp only [g_Md_up_18, o1, if_false, o2, not_false_eq_true, if_true, g_Md_up_40, g_Md_up_45, nI_1, hss]
      exact ih1
    | false =>
      simp only [Bool.false_eq_true, if_false, g_Md_up_18, o1, not_true_eq_false, y_I_at (gl_opb σ hx hn hs), g_Md_up_40, g_Md_up_45, nI_1, hss, Bool.false_or]
      by_cases ho : opb σ x n s = true
      · have ih1 := ih true
        simp only [if_true, Bool.true_or] at ih1
        simp only [ho, if_true, o2, if_false, Bool.true_or]
        exact ih1
      · have ih1 := ih false
        simp only [Bool.false_eq_true, if_false, Bool.false_or] at ih1
        simp only [ho, Bool.false_eq_true, if_false, if_true, Bool.false_or]
        exact ih1
theorem gl_up {σ : sn_FS} (h : GvOk σ) (hT : ToldOk σ) (hB : BegOk σ) {e : Nat} (he : e < 2 * nl σ) : g_Md_up (nI e) σ = some (none, S_up e σ) := by
  obtain ⟨x1, x2, x3⟩ := h.1.ex_lt he
  obtain ⟨hG, hB2⟩ := S_upF_ok x1 x2 4 (by omega) h hB
  have hT2 := hT.mk' (τ := S_upF (ex σ e) (ot σ e) 4 σ) (fun i => S_upF_I (by decide) 4 σ) (fun i => S_upF_I (by decide) 4 σ)
  have h18 := gl_up_18 x1 x2 4 sn_fuel σ false (by omega) (by unfold sn_fuel; omega)
  simp only [Bool.false_eq_true, if_false, Bool.false_or] at h18
  rw [show nI (4 - 4) = (0 : Int32) from rfl] at h18
  have h56 := fun w => gl_up_56 (w := w) x1 x2 4 sn_fuel σ (by omega) (by unfold sn_fuel; omega) h hB
  simp only [show nI (4 - 4) = (0 : Int32) from rfl] at h56
  simp only [g_Md_up, y_I_at (gl_exchangeOf h.1 he), y_I_at (gl_otherOf h.1 he), h18, h56, S_up]
  by_cases ha : anyOpen σ (ex σ e) (ot σ e) 4 = true
  · simp only [ha, if_true]; exact gl_up_206' x1 hG hT2
  · simp only [ha, Bool.false_eq_true, if_false]
    have := gl_up_206 x1 x2 6 sn_fuel _ (by omega) (by unfold sn_fuel; omega) hG hT2
    exact this
