/-! LAYER 2: looking, starting, failing -/
theorem GvOk.sI {σ : sn_FS} (h : GvOk σ) {k i : Nat} {v : Int32} (hk : k ≠ 0 ∧ k ≠ 1 ∧ k ≠ 4 ∧ k ≠ 29 ∧ k ≠ 47 ∧ k ≠ 41 ∧ k ≠ 42) : GvOk (sI σ k i v) := by
  obtain ⟨k1, k2, k3, k4, k5, k6, k7⟩ := hk
  exact h.mk' (SP.sI ⟨k1, k2, k3⟩) (fun e he => by rw [sI_ne (Ne.symm k4)]; exact h.2.1 e he) (fun f hf => by rw [sI_ne (Ne.symm k5)]; exact h.2.2.1 f hf) (fun i => sI_ne (Ne.symm k6)) (fun i => sI_ne (Ne.symm k7))
theorem ToldOk.mk' {σ τ : sn_FS} (h : ToldOk σ) (h1 : ∀ i, τ.1 50 i = σ.1 50 i) (h2 : ∀ i, τ.1 51 i = σ.1 51 i) : ToldOk τ := fun i hi => by rw [h1, h2]; exact h i hi
def lkI (nx : Option Nat) (n : Nat) : Bool := decide (nx = none) || decide (nx = some n)
def isI (nx : Option Nat) (n : Nat) : Int32 := if lkI nx n then 1 else 2
def isK (nx : Option Nat) (n : Nat) : Nat := if lkI nx n then 5 else 6
def S_look1 (x d : Nat) (nx : Option Nat) (n : Nat) (σ : sn_FS) : sn_FS :=
  if n = d ∨ n = x ∨ nb σ x n = false ∨ opb σ x n 0 = false then σ
  else if σ.1 49 (36 * x + 6 * n + d) = isI nx n then σ
  else S_give x n 0 (wR (isK nx n, x, n, 0, d, 0, 0)) (sI σ 49 (36 * x + 6 * n + d) (isI nx n))
def S_lookR (x d : Nat) (nx : Option Nat) : Nat → sn_FS → sn_FS
  | 0, σ => σ
  | r + 1, σ => S_lookR x d nx r (S_look1 x d nx (6 - (r + 1)) σ)
def S_lookQ (x : Nat) : Nat → sn_FS → sn_FS
  | 0, σ => σ
  | r + 1, σ => S_lookQ x r (if 6 - (r + 1) = x then σ else S_lookR x (6 - (r + 1)) (way σ x (6 - (r + 1)) 0 none) 6 σ)
def S_look (x : Nat) (σ : sn_FS) : sn_FS := S_lookQ x 6 σ
theorem S_look1_I {x d n k i : Nat} {nx : Option Nat} (σ : sn_FS) (h : k ≠ 7 ∧ k ≠ 29 ∧ k ≠ 47 ∧ k ≠ 49) : (S_look1 x d nx n σ).1 k i = σ.1 k i := by
  unfold S_look1
  split
  · rfl
  · split
    · rfl
    · rw [S_give_I _ ⟨h.1, h.2.1, h.2.2.1⟩]; exact sI_ne h.2.2.2
theorem S_look1_Gv {x d n : Nat} {nx : Option Nat} {σ : sn_FS} (h : GvOk σ) : GvOk (S_look1 x d nx n σ) := by
  unfold S_look1
  split
  · exact h
  · split
    · exact h
    · exact S_give_Gv (h.sI (k := 49) (by decide))
theorem S_lookR_I {x d k i : Nat} {nx : Option Nat} (h : k ≠ 7 ∧ k ≠ 29 ∧ k ≠ 47 ∧ k ≠ 49) : ∀ (r : Nat) (σ : sn_FS), (S_lookR x d nx r σ).1 k i = σ.1 k i
  | 0, σ => rfl
  | r + 1, σ => (S_lookR_I h r _).trans (S_look1_I σ h)
theorem S_lookR_Gv {x d : Nat} {nx : Option Nat} : ∀ (r : Nat) {σ : sn_FS}, GvOk σ → GvOk (S_lookR x d nx r σ)
  | 0, σ, h => h
  | r + 1, σ, h => S_lookR_Gv r (S_look1_Gv h)
theorem S_lookQ_I {x k i : Nat} (h : k ≠ 7 ∧ k ≠ 29 ∧ k ≠ 47 ∧ k ≠ 49) : ∀ (r : Nat) (σ : sn_FS), (S_lookQ x r σ).1 k i = σ.1 k i
  | 0, σ => rfl
  | r + 1, σ => by
    refine (S_lookQ_I h r _).trans ?_
    split
    · rfl
    · exact S_lookR_I h _ _
theorem S_lookQ_Gv {x : Nat} : ∀ (r : Nat) {σ : sn_FS}, GvOk σ → GvOk (S_lookQ x r σ)
  | 0, σ, h => h
  | r + 1, σ, h => by
    refine S_lookQ_Gv r ?_
    split
    · exact h
    · exact S_lookR_Gv _ h
theorem S_look_I {x k i : Nat} (σ : sn_FS) (h : k ≠ 7 ∧ k ≠ 29 ∧ k ≠ 47 ∧ k ≠ 49) : (S_look x σ).1 k i = σ.1 k i := S_lookQ_I h 6 σ
theorem S_look_Gv {x : Nat} {σ : sn_FS} (h : GvOk σ) : GvOk (S_look x σ) := S_lookQ_Gv 6 h
theorem gl_look_26 {x d : Nat} (hx : x < 6) (hd : d < 6) {nx : Option Nat} (hnx : ∀ n, nx = some n → n < 6) (K : Int32 → Int32 → sn_G) : ∀ (r fuel : Nat) (σ : sn_FS), r ≤ 6 → r < fuel → GvOk σ → g_Md_look_26 K fuel (nI x) (nI d) (oI nx) (nI (6 - r)) σ = K (nI x) (nI (d + 1)) (S_lookR x d nx r σ)
  | 0, fuel + 1, σ, _, _, h => by
    have o1 : ((6 : Int32) ≤ nI (6 - 0)) = True := eq_true (by decide)
    simp only [g_Md_look_26, o1, if_true, g_Md_look_166, nI_1, S_lookR]
  | r + 1, fuel + 1, σ, hr, hf, h => by
    have hn : 6 - (r + 1) < 6 := by omega
    have hnn : 6 - (r + 1) + 1 = 6 - r := by omega
    generalize hN : 6 - (r + 1) = n at hn hnn
    have o1 : ((6 : Int32) ≤ nI n) = False := eq_false (nI_ge (b := 6) hn (by omega))
    have o2 : nI n = nI d ↔ n = d := nI_eq (by omega) (by omega)
    have o3 : nI n = nI x ↔ n = x := nI_eq (by omega) (by omega)
    have ih : ∀ τ, GvOk τ → g_Md_look_26 K fuel (nI x) (nI d) (oI nx) (nI (6 - r)) τ = K (nI x) (nI (d + 1)) (S_lookR x d nx r τ) := fun τ hτ => gl_look_26 hx hd hnx K r fuel τ (by omega) (by omega) hτ
    have o4 : ((1 : Int32) = 0) = False := eq_false (by decide)
    have e36 : ((36 : Int32) * nI x + (6 : Int32) * nI n) + nI d = nI (36 * x + 6 * n + d) := by
      have a1 : (36 : Int32) * nI x = nI (36 * x) := pk_mul 36 x
      have a2 : (6 : Int32) * nI n = nI (6 * n) := pk_mul 6 n
      rw [a1, a2, nI_add, nI_add]
    have d49 : 36 * x + 6 * n + d < md_len 49 := by show _ < 216; omega
    have hop := gl_opb σ (s := 0) hx hn (by omega)
    rw [nI_0] at hop
    have hS : S_lookR x d nx (r + 1) σ = S_lookR x d nx r (S_look1 x d nx n σ) := by simp only [S_lookR, hN]
    rw [hS]
    simp only [g_Md_look_26, o1, if_false, o2, o3, g_Md_look_160, nI_1, hnn]
    by_cases c1 : n = d
    · have : S_look1 x d nx n σ = σ := by simp [S_look1, c1]
      rw [this, if_pos c1]; exact ih σ h
    · rw [if_neg c1]
      by_cases c2 : n = x
      · have : S_look1 x d nx n σ = σ := by simp [S_look1, c2]
        rw [this, if_pos c2]; exact ih σ h
      · rw [if_neg c2, y_I_at (gl_areNb h.1 hx hn)]
        by_cases c3 : nb σ x n = true
        · by_cases c4 : opb σ x n 0 = true
          · have e1 : (oI nx = (-1 : Int32)) ↔ nx = none := by
              cases nx with
              | none => simp [oI]
              | some a => simp only [oI]; exact ⟨fun q => absurd q (nI_m1 (by have := hnx a rfl; omega)), fun q => by cases q⟩
            have e2 : (oI nx = nI n) ↔ nx = some n := by
              cases nx with
              | none => simp only [oI]; exact ⟨fun q => absurd q.symm (nI_m1 (by omega)), fun q => by cases q⟩
              | some a => simp only [oI, Option.some.injEq]; exact nI_eq (by have := hnx a rfl; omega) (by omega)
            have key : ∀ (is : Int32) (kd : Nat), (is = 1 ∧ kd = 5) ∨ (is = 2 ∧ kd = 6) → is = isI nx n → kd = isK nx n → g_Md_look_85 (g_Md_look_26 K fuel) (nI x) (nI d) (oI nx) (nI n) is σ = K (nI x) (nI (d + 1)) (S_lookR x d nx r (S_look1 x d nx n σ)) := by
              intro is kd hc h1 h2
              simp only [g_Md_look_85, e36, q_I_at d49, g_Md_look_160, nI_1, hnn]
              by_cases c5 : σ.1 49 (36 * x + 6 * n + d) = is
              · have : S_look1 x d nx n σ = σ := by simp only [S_look1, c1, c2, c3, c4, ← h1, c5, false_or, Bool.true_eq_false, or_self, if_false, if_true]
                rw [this]; simp only [c5, not_true_eq_false, if_false]; exact ih σ h
              · have hS1 : S_look1 x d nx n σ = S_give x n 0 (wR (kd, x, n, 0, d, 0, 0)) (sI σ 49 (36 * x + 6 * n + d) is) := by simp only [S_look1, c1, c2, c3, c4, ← h1, ← h2, c5, false_or, Bool.true_eq_false, or_self, if_false]
                have hG : GvOk (sI σ 49 (36 * x + 6 * n + d) is) := h.sI (by decide)
                have hop2 : opn (sI σ 49 (36 * x + 6 * n + d) is) x n 0 := by
                  have := opb_iff.mp c4
                  unfold opn at this ⊢
                  rw [sI_ne (by decide), sI_ne (by decide)]; exact this
                have hmk : MOk (kd, x, n, 0, d, 0, 0) := ⟨(by omega : kd < 16), hx, hn, (by omega : 0 < 4), (by omega : d < 256), (by omega : 0 < 65536), (by omega : 0 < 9)⟩
                have hme := gl_message hmk (sI σ 49 (36 * x + 6 * n + d) is)
                have hgi := gl_give hG (m := wR (kd, x, n, 0, d, 0, 0)) hx hn (s := 0) (by omega) hop2
                rw [nI_0] at hme hgi
                rw [hS1]
                simp only [c5, not_false_eq_true, if_true, w_I_at d49]
                rcases hc with ⟨rfl, rfl⟩ | ⟨rfl, rfl⟩
                · have o5 : ((1 : Int32) = 1) = True := eq_true rfl
                  have hme2 : g_Md_message (5 : Int32) (nI x) (nI n) 0 (nI d) 0 (sI σ 49 (36 * x + 6 * n + d) 1) = some (some (.long (wR (5, x, n, 0, d, 0, 0))), sI σ 49 (36 * x + 6 * n + d) 1) := hme
                  simp only [o5, not_true_eq_false, if_false, g_Md_look_148, y_J_at hme2, y_V_at hgi, g_Md_look_160, nI_1, hnn]
                  exact ih _ (S_give_Gv hG)
                · have o5 : ((2 : Int32) = 1) = False := eq_false (by decide)
                  have hme2 : g_Md_message (6 : Int32) (nI x) (nI n) 0 (nI d) 0 (sI σ 49 (36 * x + 6 * n + d) 2) = some (some (.long (wR (6, x, n, 0, d, 0, 0))), sI σ 49 (36 * x + 6 * n + d) 2) := hme
                  simp only [o5, not_false_eq_true, if_true, g_Md_look_148, y_J_at hme2, y_V_at hgi, g_Md_look_160, nI_1, hnn]
                  exact ih _ (S_give_Gv hG)
            simp only [c3, if_true, o4, if_false, y_I_at hop, c4, not_false_eq_true, e1, e2, g_Md_look_80]
            by_cases c6 : nx = none
            · rw [if_pos c6]
              exact key 1 5 (Or.inl ⟨rfl, rfl⟩) (by simp [isI, lkI, c6]) (by simp [isK, lkI, c6])
            · rw [if_neg c6]
              by_cases c7 : nx = some n
              · rw [if_neg (fun q => q c7)]
                exact key 1 5 (Or.inl ⟨rfl, rfl⟩) (by simp [isI, lkI, c7]) (by simp [isK, lkI, c7])
              · rw [if_pos c7]
                exact key 2 6 (Or.inr ⟨rfl, rfl⟩) (by simp [isI, lkI, c6, c7]) (by simp [isK, lkI, c6, c7])
          · have : S_look1 x d nx n σ = σ := by simp [S_look1, c4]
            rw [this]
            simp only [c3, if_true, o4, if_false, y_I_at hop, c4, Bool.false_eq_true, not_true_eq_false]
            exact ih σ h
        · have : S_look1 x d nx n σ = σ := by simp [S_look1, c3]
          rw [this]
          simp only [c3, Bool.false_eq_true, if_false, if_true]
          exact ih σ h
theorem gl_look_2 {x : Nat} (hx : x < 6) : ∀ (r fuel : Nat) (σ : sn_FS), r ≤ 6 → r < fuel → GvOk σ → ToldOk σ → g_Md_look_2 fuel (nI x) (nI (6 - r)) σ = some (none, S_lookQ x r σ)
  | 0, fuel + 1, σ, _, _, h, _ => by
    have o1 : ((6 : Int32) ≤ nI (6 - 0)) = True := eq_true (by decide)
    simp only [g_Md_look_2, o1, if_true, z_V, S_lookQ]
  | r + 1, fuel + 1, σ, hr, hf, h, hT => by
    have hn : 6 - (r + 1) < 6 := by omega
    have hnn : 6 - (r + 1) + 1 = 6 - r := by omega
    generalize hN : 6 - (r + 1) = d at hn hnn
    have o1 : ((6 : Int32) ≤ nI d) = False := eq_false (nI_ge (b := 6) hn (by omega))
    have o3 : nI d = nI x ↔ d = x := nI_eq (by omega) (by omega)
    have hS : S_lookQ x (r + 1) σ = S_lookQ x r (if d = x then σ else S_lookR x d (way σ x d 0 none) 6 σ) := by simp only [S_lookQ, hN]
    rw [hS]
    simp only [g_Md_look_2, o1, if_false, o3, g_Md_look_166, nI_1, hnn]
    by_cases c1 : d = x
    · simp only [c1, not_true_eq_false, if_false, if_true]
      exact gl_look_2 hx r fuel σ (by omega) (by omega) h hT
    · simp only [c1, not_false_eq_true, if_true, if_false, y_I_at (gl_nextOf h hT hx hn)]
      have h26 := gl_look_26 hx hn (nx := way σ x d 0 none) (fun n hw => (way_lt hT hx hn hw).1) (g_Md_look_2 fuel) 6 sn_fuel σ (by omega) (by unfold sn_fuel; omega) h
      rw [show nI (6 - 6) = (0 : Int32) from rfl] at h26
      rw [h26, hnn]
      exact gl_look_2 hx r fuel _ (by omega) (by omega) (S_lookR_Gv 6 h) (hT.mk' (fun i => S_lookR_I (by decide) 6 σ) (fun i => S_lookR_I (by decide) 6 σ))
theorem gl_look {σ : sn_FS} (h : GvOk σ) (hT : ToldOk σ) {x : Nat} (hx : x < 6) : g_Md_look (nI x) σ = some (none, S_look x σ) := gl_look_2 hx 6 sn_fuel σ (by omega) (by unfold sn_fuel; omega) h hT
