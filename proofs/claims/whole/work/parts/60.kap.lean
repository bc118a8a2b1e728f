/-! LAYER 2, the class: its memory as a function of the reference's state σ and of what is its own, η -/
def aE (e : Nat) : Nat := 64 * e + 94
def aU (e : Nat) : Nat := 64 * e + 95
def aW (e : Nat) : Nat := 64 * e + 96
def aUQ (e : Nat) : Nat := 64 * e + 97
def aUR (e : Nat) : Nat := 64 * e + 98
def aWQ (e : Nat) : Nat := 64 * e + 99
def aWR (e : Nat) : Nat := 64 * e + 100
def aF (e : Nat) : Nat := 64 * e + 104
def aKQ (e : Nat) : Nat := 64 * e + 105
def aKR (e : Nat) : Nat := 64 * e + 106
def aC (e : Nat) : Nat := 64 * e + 114
def aP (e : Nat) : Nat := 64 * e + 115
def k_T : List ((Nat × Nat) × Nat) := [((4, 0), 0), ((5, 0), 1), ((6, 0), 2), ((7, 0), 3), ((9, 0), 50), ((10, 0), 51), ((15, 0), 48), ((2, 1), 6), ((3, 1), 4), ((11, 8), 7), ((11, 9), 8), ((11, 10), 9), ((94, 7), 36), ((94, 8), 10), ((94, 9), 11), ((94, 10), 37), ((94, 11), 38), ((94, 12), 22), ((94, 13), 40), ((94, 14), 23), ((94, 16), 17), ((94, 17), 18), ((94, 18), 16), ((95, 1), 30), ((95, 6), 39), ((96, 2), 12), ((96, 3), 13), ((96, 4), 14), ((96, 5), 15), ((96, 6), 21), ((96, 7), 20), ((97, 3), 27), ((99, 3), 29), ((104, 3), 42), ((104, 5), 44), ((104, 6), 45), ((105, 3), 47), ((114, 4), 52), ((114, 6), 53), ((114, 7), 54), ((114, 8), 55), ((114, 9), 56), ((114, 10), 58), ((114, 11), 59), ((114, 12), 60), ((115, 4), 61)]
def k_arr (a : Nat) : Bool := [4, 5, 6, 7, 9, 10, 15].contains a
def k_key (a j : Nat) : Nat × Nat := if a < 64 then (if k_arr a then (a, 0) else (a, j + 1)) else (64 + a % 64, j + 1)
def k_ix (a j : Nat) : Nat := if a < 64 then (if k_arr a then j else 0) else a / 64 - 1
def k_loc (a j : Nat) : Option (Nat × Nat) := (k_T.lookup (k_key a j)).map (fun k => (k, k_ix a j))
def tcd (v : Int32) : Int32 := if v = 1 then 5 else if v = 2 then 6 else 0
def ccd (v : Int32) : Int32 := nI (v.toBitVec.toNat % 16)
def setSz (σ : sn_FS) (j : Nat) : Int32 := nI (setOf σ (j / 6) (j % 6)).length
/-- what is neither shared nor the class's own -/
def k_st (σ : sn_FS) (a j : Nat) : Option Int32 :=
  if a < 64 then (if a = 8 then some (setSz σ j) else if a = 16 then some (tcd (σ.1 49 j)) else none)
  else if a % 64 = 30 then (if j = 1 then some (nI ((a / 64 - 1) / 2)) else if j = 2 then some (nI (ex σ (a / 64 - 1))) else if j = 3 then some (nI (ot σ (a / 64 - 1))) else if j = 18 then some (ccd (σ.1 19 (a / 64 - 1))) else none)
  else if a % 64 = 40 then (if j = 0 then some (nI ((a / 64 - 1) % 24 / 4)) else none)
  else if a % 64 = 50 then (if j = 0 then some (nI ((a / 64 - 1) / 24)) else if j = 1 then some (nI ((a / 64 - 1) % 24 / 4)) else if j = 2 then some (nI ((a / 64 - 1) % 4)) else none)
  else if a % 64 = 51 then (if j = 0 then some (nI ((a / 64 - 1) / 4)) else if j = 1 then some (-1) else if j = 2 then some (nI ((a / 64 - 1) % 4)) else if j = 11 then some 0 else none)
  else none
def kI (σ η : sn_FS) (a j : Nat) : Int32 := match k_loc a j with
  | some p => σ.1 p.1 p.2
  | none => match k_st σ a j with
    | some v => v
    | none => η.1 a j
def k_end (σ : sn_FS) (x : Nat) (v : Int32) : Option Nat := if v = -1 then none else some (aE (en σ v.toNatClampNeg x))
def k_leg (v : Int32) : Option Nat := if v = -1 then none else if v < 100 then some (aP v.toNatClampNeg) else some (aC (v.toNatClampNeg - 100))
def k_sr (a j : Nat) : Option Nat :=
  if a = 1 then [2, 3, 11, 17, 22][j]? else if a = 3 then (if j = 0 then none else [4, 5, 6, 7, 8, 9, 10][j - 1]?) else if a = 11 then [3, 2, 12, 13, 14, 15, 16][j]? else if a = 17 then [3, 2, 18, 19, 20][j]? else if a = 20 then [21][j]? else none
def kR (σ : sn_FS) (a j : Nat) : Option Nat :=
  if a < 64 then (if a = 12 then (if j < 2 * nl σ then some (aE j) else none)
    else if a = 13 then ((setOf σ (j / 24) (j % 24 / 4))[j % 4]?).map (fun l => aE (en σ l (j / 24)))
    else if a = 14 then (if j < 144 ∧ nb σ (j / 24) (j % 24 / 4) = true then some (aF j) else none)
    else if a = 18 then (if j < 24 then some (aP j) else none)
    else if a = 19 then (if j < 144 ∧ nb σ (j / 24) (j % 24 / 4) = true then some (aC j) else none)
    else k_sr a j)
  else if a % 64 = 30 then (if j = 0 then some 2 else if j = 4 then some (aW (a / 64 - 1)) else if j = 5 then some (aU (a / 64 - 1)) else none)
  else if a % 64 = 32 then (if j = 0 then some 2 else if j = 7 then some (aUQ (a / 64 - 1)) else if j = 8 then some (aWQ (a / 64 - 1)) else none)
  else if a % 64 = 33 then (if j = 0 then some (aUR (a / 64 - 1)) else none)
  else if a % 64 = 35 then (if j = 0 then some (aWR (a / 64 - 1)) else none)
  else if a % 64 = 40 then (if j = 1 then k_end σ ((a / 64 - 1) / 24) (σ.1 41 (a / 64 - 1)) else if j = 3 then k_end σ ((a / 64 - 1) / 24) (σ.1 43 (a / 64 - 1)) else if j = 6 then some (aKQ (a / 64 - 1)) else none)
  else if a % 64 = 41 then (if j = 0 then some (aKR (a / 64 - 1)) else none)
  else if a % 64 = 50 then (if j = 4 then k_leg (σ.1 57 (a / 64 - 1)) else none)
  else if a % 64 = 51 then (if j = 4 then k_leg (σ.1 62 (a / 64 - 1)) else none)
  else none
def kL (a : Nat) : Nat := if a < 64 then [0, 5, 1, 8, 10, 10, 10, 10, 36, 36, 36, 10, 20, 144, 144, 216, 216, 5, 24, 144, 3, 16, 13].getD a 0 else if a % 64 = 34 then 32 else if a % 64 = 36 then 64 else if a % 64 = 42 then 64 else if a % 64 = 30 then 19 else if a % 64 = 31 then 7 else if a % 64 = 32 then 9 else if a % 64 = 33 then 3 else if a % 64 = 35 then 3 else if a % 64 = 40 then 7 else if a % 64 = 41 then 3 else if a % 64 = 50 then 12 else if a % 64 = 51 then 12 else 0
def Kap (kk : Nat → Nat) (σ η : sn_FS) : sn_Mem := (0, 0, kk, kL, kI σ η, η.2, kR σ)
theorem k_lookup {L : List ((Nat × Nat) × Nat)} {p : Nat × Nat} {k : Nat} (h : L.lookup p = some k) : (p, k) ∈ L := by
  induction L with
  | nil => cases h
  | cons q L ih =>
    obtain ⟨a, b⟩ := q
    simp only [List.lookup_cons] at h
    split at h
    · rename_i e
      cases h
      have : p = a := by simpa using e
      rw [this]; exact List.mem_cons_self
    · exact List.mem_cons_of_mem _ (ih h)
theorem k_T_inj : ∀ p ∈ k_T, ∀ q ∈ k_T, p.2 = q.2 → p.1 = q.1 := by decide +kernel
theorem k_loc_inj {a j a' j' : Nat} {p : Nat × Nat} (h : k_loc a j = some p) (h' : k_loc a' j' = some p) : a = a' ∧ j = j' := by
  unfold k_loc at h h'
  obtain ⟨k, h1, h2⟩ := Option.map_eq_some_iff.mp h
  obtain ⟨k', h1', h2'⟩ := Option.map_eq_some_iff.mp h'
  subst h2
  have hk : k' = k := congrArg Prod.fst h2'
  have hi : k_ix a' j' = k_ix a j := congrArg Prod.snd h2'
  subst hk
  have he := k_T_inj _ (k_lookup h1) _ (k_lookup h1') rfl
  simp only [k_key] at he
  unfold k_ix at hi
  by_cases c : a < 64
  · by_cases c' : a' < 64
    · simp only [c, c', if_true] at he hi
      by_cases d : k_arr a = true
      · by_cases d' : k_arr a' = true
        · simp only [d, d', if_true, Prod.mk.injEq, and_true] at he hi
          exact ⟨he, hi.symm⟩
        · simp only [d, d', if_true, Bool.false_eq_true, if_false, Prod.mk.injEq] at he
          omega
      · by_cases d' : k_arr a' = true
        · simp only [d, d', if_true, Bool.false_eq_true, if_false, Prod.mk.injEq] at he
          omega
        · simp only [d, d', Bool.false_eq_true, if_false, Prod.mk.injEq] at he
          omega
    · simp only [c, c', if_true, if_false] at he
      split at he <;> simp only [Prod.mk.injEq] at he <;> omega
  · by_cases c' : a' < 64
    · simp only [c, c', if_true, if_false] at he
      split at he <;> simp only [Prod.mk.injEq] at he <;> omega
    · simp only [c, c', if_false, Prod.mk.injEq] at he hi
      omega
theorem setOf_SP {σ τ : sn_FS} (h : SP σ τ) : setSz τ = setSz σ := by funext j; simp only [setSz, h.setOfE]
theorem SP.nbE {σ τ : sn_FS} (h : SP σ τ) : nb τ = nb σ := by funext x n; simp only [nb, h.setOfE]
theorem SP.kend {σ τ : sn_FS} (h : SP σ τ) : k_end τ = k_end σ := by funext x n; simp only [k_end, h.enE]
/-- the shared cells agree -/
def KEq (σ τ : sn_FS) : Prop := SP σ τ ∧ (∀ p ∈ k_T, ∀ i, τ.1 p.2 i = σ.1 p.2 i) ∧ (∀ i, τ.1 49 i = σ.1 49 i) ∧ (∀ i, ccd (τ.1 19 i) = ccd (σ.1 19 i)) ∧ (∀ i, τ.1 41 i = σ.1 41 i) ∧ (∀ i, τ.1 43 i = σ.1 43 i) ∧ (∀ i, τ.1 57 i = σ.1 57 i) ∧ ∀ i, τ.1 62 i = σ.1 62 i
theorem k_st_eq {σ τ : sn_FS} (h : SP σ τ) (h1 : ∀ i, τ.1 49 i = σ.1 49 i) (h2 : ∀ i, ccd (τ.1 19 i) = ccd (σ.1 19 i)) : k_st τ = k_st σ := by
  funext a j
  simp only [k_st, setOf_SP h, h.exE, h.otE, h1, h2]
theorem kR_eq {σ τ : sn_FS} (h : SP σ τ) (h1 : ∀ i, τ.1 41 i = σ.1 41 i) (h2 : ∀ i, τ.1 43 i = σ.1 43 i) (h3 : ∀ i, τ.1 57 i = σ.1 57 i) (h4 : ∀ i, τ.1 62 i = σ.1 62 i) : kR τ = kR σ := by
  funext a j
  simp only [kR, h.nlE, h.setOfE, h.nbE, h.enE, h.kend, h1, h2, h3, h4]
theorem k_loc_T {a j : Nat} {p : Nat × Nat} (h : k_loc a j = some p) : ∃ q ∈ k_T, q.2 = p.1 := by
  unfold k_loc at h
  obtain ⟨k, h1, h2⟩ := Option.map_eq_some_iff.mp h
  subst h2
  exact ⟨_, k_lookup h1, rfl⟩
theorem Kap_ext {kk : Nat → Nat} {σ τ η : sn_FS} (h : KEq σ τ) : Kap kk τ η = Kap kk σ η := by
  obtain ⟨h0, h1, h2, h3, h4, h5, h6, h7⟩ := h
  have e1 : kI τ η = kI σ η := by
    funext a j
    simp only [kI, k_st_eq h0 h2 h3]
    split
    · rename_i p hp
      obtain ⟨q, hq, e⟩ := k_loc_T hp
      rw [← e]; exact h1 q hq p.2
    · rfl
  simp only [Kap, e1, kR_eq h0 h4 h5 h6 h7]
theorem Kw {kk : Nat → Nat} {σ η : sn_FS} {a j k i : Nat} {v : Int32} (h : k_loc a j = some (k, i)) (hk : k ∉ [0, 1, 4, 49, 19, 41, 43, 57, 62]) : u_I (Kap kk σ η) a j v = Kap kk (sI σ k i v) η := by
  simp only [List.mem_cons, List.not_mem_nil, or_false, not_or] at hk
  obtain ⟨k0, k1, k4, k49, k19, k41, k43, k57, k62⟩ := hk
  have hS : SP σ (sI σ k i v) := SP.sI ⟨k0, k1, k4⟩
  have e1 : sn_up (kI σ η) a j v = kI (sI σ k i v) η := by
    funext b j'
    by_cases c : b = a ∧ j' = j
    · obtain ⟨rfl, rfl⟩ := c
      rw [sn_up_same]
      simp only [kI, h]
      exact (sI_same (σ := σ)).symm
    · have e2 : sn_up (kI σ η) a j v b j' = kI σ η b j' := by
        simp only [sn_up]
        by_cases c1 : b = a
        · by_cases c2 : j' = j
          · exact absurd ⟨c1, c2⟩ c
          · simp [c2]
        · simp [c1]
      rw [e2]
      simp only [kI, k_st_eq hS (fun i => sI_ne (Ne.symm k49)) (fun i => congrArg ccd (sI_ne (Ne.symm k19)))]
      split
      · rename_i p hp
        have hne : ¬ (p.1 = k ∧ p.2 = i) := fun q => by
          have : p = (k, i) := Prod.ext q.1 q.2
          exact c (k_loc_inj (this ▸ hp) h)
        show _ = sn_up σ.1 k i v p.1 p.2
        simp only [sn_up]
        by_cases c1 : p.1 = k
        · by_cases c2 : p.2 = i
          · exact absurd ⟨c1, c2⟩ hne
          · simp [c2]
        · simp [c1]
      · rfl
  have e3 : kR (sI σ k i v) = kR σ := kR_eq hS (fun i => sI_ne (Ne.symm k41)) (fun i => sI_ne (Ne.symm k43)) (fun i => sI_ne (Ne.symm k57)) (fun i => sI_ne (Ne.symm k62))
  show (_, _, _, _, sn_up (kI σ η) a j v, _, _) = Kap kk (sI σ k i v) η
  rw [e1]
  simp only [Kap, e3]
theorem Kh {kk : Nat → Nat} {σ η : sn_FS} {a j : Nat} {v : Int32} (h : k_loc a j = none) (hk : k_st σ a j = none) : u_I (Kap kk σ η) a j v = Kap kk σ (sI η a j v) := by
  have e1 : sn_up (kI σ η) a j v = kI σ (sI η a j v) := by
    funext b j'
    by_cases c : b = a ∧ j' = j
    · obtain ⟨rfl, rfl⟩ := c
      rw [sn_up_same]
      simp only [kI, h, hk]
      exact (sI_same (σ := η)).symm
    · have e2 : ∀ f : Nat → Nat → Int32, sn_up f a j v b j' = f b j' := fun f => by
        simp only [sn_up]
        by_cases c1 : b = a
        · by_cases c2 : j' = j
          · exact absurd ⟨c1, c2⟩ c
          · simp [c2]
        · simp [c1]
      rw [e2]
      simp only [kI]
      split
      · rfl
      · split
        · rfl
        · exact (e2 η.1).symm
  show (_, _, _, _, sn_up (kI σ η) a j v, _, _) = Kap kk σ (sI η a j v)
  rw [e1]
  rfl
theorem KJ {kk : Nat → Nat} {σ η : sn_FS} {a j : Nat} {v : Int64} : u_J (Kap kk σ η) a j v = Kap kk σ (sJ η a j v) := rfl
theorem k_md (e f : Nat) (h : f < 64) : (64 * e + (64 + f)) % 64 = f ∧ (64 * e + (64 + f)) / 64 - 1 = e ∧ ¬ 64 * e + (64 + f) < 64 := by omega
theorem k_locO {e f j : Nat} (h : f < 64) : k_loc (64 * e + (64 + f)) j = (k_T.lookup (64 + f, j + 1)).map (fun k => (k, e)) := by
  obtain ⟨h1, h2, h3⟩ := k_md e f h
  simp only [k_loc, k_key, k_ix, h1, h2, h3, if_false]
theorem kI_loc {σ η : sn_FS} {a j k i : Nat} (h : k_loc a j = some (k, i)) : kI σ η a j = σ.1 k i := by simp only [kI, h]
theorem kI_st {σ η : sn_FS} {a j : Nat} {v : Int32} (h : k_loc a j = none) (h2 : k_st σ a j = some v) : kI σ η a j = v := by simp only [kI, h, h2]
theorem kI_hid {σ η : sn_FS} {a j : Nat} (h : k_loc a j = none) (h2 : k_st σ a j = none) : kI σ η a j = η.1 a j := by simp only [kI, h, h2]
section Rules
variable {kk : Nat → Nat} {σ η : sn_FS} {c j a : Nat} {i v : Int32} {w : Int64} {r : Option Nat}
theorem x_gI {K : Int32 → sn_M} : g_I c j (some a) K (Kap kk σ η) = if kk a = c then K (kI σ η a j) (Kap kk σ η) else none := rfl
theorem x_gJ {K : Int64 → sn_M} : g_J c j (some a) K (Kap kk σ η) = if kk a = c then K (η.2 a j) (Kap kk σ η) else none := rfl
theorem x_gR {K : Option Nat → sn_M} : g_R c j (some a) K (Kap kk σ η) = if kk a = c then K (kR σ a j) (Kap kk σ η) else none := rfl
theorem x_pI {K : sn_M} : p_I c j (some a) v K (Kap kk σ η) = if kk a = c then K (u_I (Kap kk σ η) a j v) else none := rfl
theorem x_pZ {K : sn_M} : p_Z c j (some a) v K (Kap kk σ η) = if kk a = c ∧ (v = 0 ∨ v = 1) then K (u_I (Kap kk σ η) a j v) else none := rfl
theorem x_pJ {K : sn_M} : p_J c j (some a) w K (Kap kk σ η) = if kk a = c then K (Kap kk σ (sJ η a j w)) else none := rfl
theorem x_pR {K : sn_M} : p_R c j (some a) r K (Kap kk σ η) = if kk a = c then K (u_R (Kap kk σ η) a j r) else none := rfl
theorem x_nn {K : Nat → sn_M} : n_n c (some a) K (Kap kk σ η) = if kk a = c then K a (Kap kk σ η) else none := rfl
theorem x_aI {K : Int32 → sn_M} {p : Nat} (hp : p < kL a) (hL : kL a ≤ 1000) : a_I c (some a) (nI p) K (Kap kk σ η) = if kk a = c then K (kI σ η a p) (Kap kk σ η) else none := by
  have h1 : ¬ (nI p < 0 ∨ kL a ≤ (nI p).toNatClampNeg) := nI_in hp (by omega)
  show (if kk a = c ∧ ¬ (nI p < 0 ∨ kL a ≤ (nI p).toNatClampNeg) then K (kI σ η a (nI p).toNatClampNeg) (Kap kk σ η) else none) = _
  rw [nI_clamp (show p < 2 ^ 31 by omega)] at *
  simp only [h1, not_false_eq_true, and_true]
theorem x_aJ {K : Int64 → sn_M} {p : Nat} (hp : p < kL a) (hL : kL a ≤ 1000) : a_J c (some a) (nI p) K (Kap kk σ η) = if kk a = c then K (η.2 a p) (Kap kk σ η) else none := by
  have h1 : ¬ (nI p < 0 ∨ kL a ≤ (nI p).toNatClampNeg) := nI_in hp (by omega)
  show (if kk a = c ∧ ¬ (nI p < 0 ∨ kL a ≤ (nI p).toNatClampNeg) then K (η.2 a (nI p).toNatClampNeg) (Kap kk σ η) else none) = _
  rw [nI_clamp (show p < 2 ^ 31 by omega)] at *
  simp only [h1, not_false_eq_true, and_true]
theorem x_aR {K : Option Nat → sn_M} {p : Nat} (hp : p < kL a) (hL : kL a ≤ 1000) : a_R c (some a) (nI p) K (Kap kk σ η) = if kk a = c then K (kR σ a p) (Kap kk σ η) else none := by
  have h1 : ¬ (nI p < 0 ∨ kL a ≤ (nI p).toNatClampNeg) := nI_in hp (by omega)
  show (if kk a = c ∧ ¬ (nI p < 0 ∨ kL a ≤ (nI p).toNatClampNeg) then K (kR σ a (nI p).toNatClampNeg) (Kap kk σ η) else none) = _
  rw [nI_clamp (show p < 2 ^ 31 by omega)] at *
  simp only [h1, not_false_eq_true, and_true]
theorem x_bI {K : sn_M} {p : Nat} (hp : p < kL a) (hL : kL a ≤ 1000) : b_I c (some a) (nI p) v K (Kap kk σ η) = if kk a = c then K (u_I (Kap kk σ η) a p v) else none := by
  have h1 : ¬ (nI p < 0 ∨ kL a ≤ (nI p).toNatClampNeg) := nI_in hp (by omega)
  show (if kk a = c ∧ ¬ (nI p < 0 ∨ kL a ≤ (nI p).toNatClampNeg) then K (u_I (Kap kk σ η) a (nI p).toNatClampNeg v) else none) = _
  rw [nI_clamp (show p < 2 ^ 31 by omega)] at *
  simp only [h1, not_false_eq_true, and_true]
theorem x_bZ {K : sn_M} {p : Nat} (hp : p < kL a) (hL : kL a ≤ 1000) (hv : v = 0 ∨ v = 1) : b_Z c (some a) (nI p) v K (Kap kk σ η) = if kk a = c then K (u_I (Kap kk σ η) a p v) else none := by
  have h1 : ¬ (nI p < 0 ∨ kL a ≤ (nI p).toNatClampNeg) := nI_in hp (by omega)
  show (if (kk a = c ∧ ¬ (nI p < 0 ∨ kL a ≤ (nI p).toNatClampNeg)) ∧ (v = 0 ∨ v = 1) then K (u_I (Kap kk σ η) a (nI p).toNatClampNeg v) else none) = _
  rw [nI_clamp (show p < 2 ^ 31 by omega)] at *
  simp only [h1, not_false_eq_true, and_true, hv]
theorem x_bJ {K : sn_M} {p : Nat} (hp : p < kL a) (hL : kL a ≤ 1000) : b_J c (some a) (nI p) w K (Kap kk σ η) = if kk a = c then K (Kap kk σ (sJ η a p w)) else none := by
  have h1 : ¬ (nI p < 0 ∨ kL a ≤ (nI p).toNatClampNeg) := nI_in hp (by omega)
  show (if kk a = c ∧ ¬ (nI p < 0 ∨ kL a ≤ (nI p).toNatClampNeg) then K (Kap kk σ (sJ η a (nI p).toNatClampNeg w)) else none) = _
  rw [nI_clamp (show p < 2 ^ 31 by omega)] at *
  simp only [h1, not_false_eq_true, and_true]
theorem x_len {K : Int32 → sn_M} : a_len c (some a) K (Kap kk σ η) = if kk a = c then K (kL a).toInt32 (Kap kk σ η) else none := rfl
theorem x_cV {f K : sn_M} {κ κ' : sn_Mem} (h : f κ = some (none, κ')) : c_V f K κ = K κ' := by simp only [c_V, h]
theorem x_cI {f : sn_M} {K : Int32 → sn_M} {κ κ' : sn_Mem} {v : Int32} (h : f κ = some (some (.int v), κ')) : c_I f K κ = K v κ' := by simp only [c_I, h]
theorem x_cJ {f : sn_M} {K : Int64 → sn_M} {κ κ' : sn_Mem} {v : Int64} (h : f κ = some (some (.long v), κ')) : c_J f K κ = K v κ' := by simp only [c_J, h]
theorem x_cR {f : sn_M} {K : Option Nat → sn_M} {κ κ' : sn_Mem} {v : Option Nat} (h : f κ = some (some (va_rf v), κ')) : c_R f K κ = K v κ' := by cases v <;> simp only [c_R, h, va_rf]
theorem l_E6 (e : Nat) : k_loc (aE e) 6 = some (36, e) := k_locO (f := 30) (by decide)
theorem rd_E6 (e : Nat) : kI σ η (aE e) 6 = σ.1 36 e := kI_loc (l_E6 e)
theorem wr_E6 (e : Nat) : u_I (Kap kk σ η) (aE e) 6 v = Kap kk (sI σ 36 e v) η := Kw (l_E6 e) (by decide)
theorem l_E7 (e : Nat) : k_loc (aE e) 7 = some (10, e) := k_locO (f := 30) (by decide)
theorem rd_E7 (e : Nat) : kI σ η (aE e) 7 = σ.1 10 e := kI_loc (l_E7 e)
theorem wr_E7 (e : Nat) : u_I (Kap kk σ η) (aE e) 7 v = Kap kk (sI σ 10 e v) η := Kw (l_E7 e) (by decide)
theorem l_E8 (e : Nat) : k_loc (aE e) 8 = some (11, e) := k_locO (f := 30) (by decide)
theorem rd_E8 (e : Nat) : kI σ η (aE e) 8 = σ.1 11 e := kI_loc (l_E8 e)
theorem wr_E8 (e : Nat) : u_I (Kap kk σ η) (aE e) 8 v = Kap kk (sI σ 11 e v) η := Kw (l_E8 e) (by decide)
theorem l_E9 (e : Nat) : k_loc (aE e) 9 = some (37, e) := k_locO (f := 30) (by decide)
theorem rd_E9 (e : Nat) : kI σ η (aE e) 9 = σ.1 37 e := kI_loc (l_E9 e)
theorem wr_E9 (e : Nat) : u_I (Kap kk σ η) (aE e) 9 v = Kap kk (sI σ 37 e v) η := Kw (l_E9 e) (by decide)
theorem l_E10 (e : Nat) : k_loc (aE e) 10 = some (38, e) := k_locO (f := 30) (by decide)
theorem rd_E10 (e : Nat) : kI σ η (aE e) 10 = σ.1 38 e := kI_loc (l_E10 e)
theorem wr_E10 (e : Nat) : u_I (Kap kk σ η) (aE e) 10 v = Kap kk (sI σ 38 e v) η := Kw (l_E10 e) (by decide)
theorem l_E11 (e : Nat) : k_loc (aE e) 11 = some (22, e) := k_locO (f := 30) (by decide)
theorem rd_E11 (e : Nat) : kI σ η (aE e) 11 = σ.1 22 e := kI_loc (l_E11 e)
theorem wr_E11 (e : Nat) : u_I (Kap kk σ η) (aE e) 11 v = Kap kk (sI σ 22 e v) η := Kw (l_E11 e) (by decide)
theorem l_E12 (e : Nat) : k_loc (aE e) 12 = some (40, e) := k_locO (f := 30) (by decide)
theorem rd_E12 (e : Nat) : kI σ η (aE e) 12 = σ.1 40 e := kI_loc (l_E12 e)
theorem wr_E12 (e : Nat) : u_I (Kap kk σ η) (aE e) 12 v = Kap kk (sI σ 40 e v) η := Kw (l_E12 e) (by decide)
theorem l_E13 (e : Nat) : k_loc (aE e) 13 = some (23, e) := k_locO (f := 30) (by decide)
theorem rd_E13 (e : Nat) : kI σ η (aE e) 13 = σ.1 23 e := kI_loc (l_E13 e)
theorem wr_E13 (e : Nat) : u_I (Kap kk σ η) (aE e) 13 v = Kap kk (sI σ 23 e v) η := Kw (l_E13 e) (by decide)
theorem l_E15 (e : Nat) : k_loc (aE e) 15 = some (17, e) := k_locO (f := 30) (by decide)
theorem rd_E15 (e : Nat) : kI σ η (aE e) 15 = σ.1 17 e := kI_loc (l_E15 e)
theorem wr_E15 (e : Nat) : u_I (Kap kk σ η) (aE e) 15 v = Kap kk (sI σ 17 e v) η := Kw (l_E15 e) (by decide)
theorem l_E16 (e : Nat) : k_loc (aE e) 16 = some (18, e) := k_locO (f := 30) (by decide)
theorem rd_E16 (e : Nat) : kI σ η (aE e) 16 = σ.1 18 e := kI_loc (l_E16 e)
theorem wr_E16 (e : Nat) : u_I (Kap kk σ η) (aE e) 16 v = Kap kk (sI σ 18 e v) η := Kw (l_E16 e) (by decide)
theorem l_E17 (e : Nat) : k_loc (aE e) 17 = some (16, e) := k_locO (f := 30) (by decide)
theorem rd_E17 (e : Nat) : kI σ η (aE e) 17 = σ.1 16 e := kI_loc (l_E17 e)
theorem wr_E17 (e : Nat) : u_I (Kap kk σ η) (aE e) 17 v = Kap kk (sI σ 16 e v) η := Kw (l_E17 e) (by decide)
theorem l_U0 (e : Nat) : k_loc (aU e) 0 = some (30, e) := k_locO (f := 31) (by decide)
theorem rd_U0 (e : Nat) : kI σ η (aU e) 0 = σ.1 30 e := kI_loc (l_U0 e)
theorem wr_U0 (e : Nat) : u_I (Kap kk σ η) (aU e) 0 v = Kap kk (sI σ 30 e v) η := Kw (l_U0 e) (by decide)
theorem l_U5 (e : Nat) : k_loc (aU e) 5 = some (39, e) := k_locO (f := 31) (by decide)
theorem rd_U5 (e : Nat) : kI σ η (aU e) 5 = σ.1 39 e := kI_loc (l_U5 e)
theorem wr_U5 (e : Nat) : u_I (Kap kk σ η) (aU e) 5 v = Kap kk (sI σ 39 e v) η := Kw (l_U5 e) (by decide)
theorem l_W1 (e : Nat) : k_loc (aW e) 1 = some (12, e) := k_locO (f := 32) (by decide)
theorem rd_W1 (e : Nat) : kI σ η (aW e) 1 = σ.1 12 e := kI_loc (l_W1 e)
theorem wr_W1 (e : Nat) : u_I (Kap kk σ η) (aW e) 1 v = Kap kk (sI σ 12 e v) η := Kw (l_W1 e) (by decide)
theorem l_W2 (e : Nat) : k_loc (aW e) 2 = some (13, e) := k_locO (f := 32) (by decide)
theorem rd_W2 (e : Nat) : kI σ η (aW e) 2 = σ.1 13 e := kI_loc (l_W2 e)
theorem wr_W2 (e : Nat) : u_I (Kap kk σ η) (aW e) 2 v = Kap kk (sI σ 13 e v) η := Kw (l_W2 e) (by decide)
theorem l_W3 (e : Nat) : k_loc (aW e) 3 = some (14, e) := k_locO (f := 32) (by decide)
theorem rd_W3 (e : Nat) : kI σ η (aW e) 3 = σ.1 14 e := kI_loc (l_W3 e)
theorem wr_W3 (e : Nat) : u_I (Kap kk σ η) (aW e) 3 v = Kap kk (sI σ 14 e v) η := Kw (l_W3 e) (by decide)
theorem l_W4 (e : Nat) : k_loc (aW e) 4 = some (15, e) := k_locO (f := 32) (by decide)
theorem rd_W4 (e : Nat) : kI σ η (aW e) 4 = σ.1 15 e := kI_loc (l_W4 e)
theorem wr_W4 (e : Nat) : u_I (Kap kk σ η) (aW e) 4 v = Kap kk (sI σ 15 e v) η := Kw (l_W4 e) (by decide)
theorem l_W5 (e : Nat) : k_loc (aW e) 5 = some (21, e) := k_locO (f := 32) (by decide)
theorem rd_W5 (e : Nat) : kI σ η (aW e) 5 = σ.1 21 e := kI_loc (l_W5 e)
theorem wr_W5 (e : Nat) : u_I (Kap kk σ η) (aW e) 5 v = Kap kk (sI σ 21 e v) η := Kw (l_W5 e) (by decide)
theorem l_W6 (e : Nat) : k_loc (aW e) 6 = some (20, e) := k_locO (f := 32) (by decide)
theorem rd_W6 (e : Nat) : kI σ η (aW e) 6 = σ.1 20 e := kI_loc (l_W6 e)
theorem wr_W6 (e : Nat) : u_I (Kap kk σ η) (aW e) 6 v = Kap kk (sI σ 20 e v) η := Kw (l_W6 e) (by decide)
theorem l_UQ2 (e : Nat) : k_loc (aUQ e) 2 = some (27, e) := k_locO (f := 33) (by decide)
theorem rd_UQ2 (e : Nat) : kI σ η (aUQ e) 2 = σ.1 27 e := kI_loc (l_UQ2 e)
theorem wr_UQ2 (e : Nat) : u_I (Kap kk σ η) (aUQ e) 2 v = Kap kk (sI σ 27 e v) η := Kw (l_UQ2 e) (by decide)
theorem l_WQ2 (e : Nat) : k_loc (aWQ e) 2 = some (29, e) := k_locO (f := 35) (by decide)
theorem rd_WQ2 (e : Nat) : kI σ η (aWQ e) 2 = σ.1 29 e := kI_loc (l_WQ2 e)
theorem wr_WQ2 (e : Nat) : u_I (Kap kk σ η) (aWQ e) 2 v = Kap kk (sI σ 29 e v) η := Kw (l_WQ2 e) (by decide)
theorem l_F2 (e : Nat) : k_loc (aF e) 2 = some (42, e) := k_locO (f := 40) (by decide)
theorem rd_F2 (e : Nat) : kI σ η (aF e) 2 = σ.1 42 e := kI_loc (l_F2 e)
theorem wr_F2 (e : Nat) : u_I (Kap kk σ η) (aF e) 2 v = Kap kk (sI σ 42 e v) η := Kw (l_F2 e) (by decide)
theorem l_F4 (e : Nat) : k_loc (aF e) 4 = some (44, e) := k_locO (f := 40) (by decide)
theorem rd_F4 (e : Nat) : kI σ η (aF e) 4 = σ.1 44 e := kI_loc (l_F4 e)
theorem wr_F4 (e : Nat) : u_I (Kap kk σ η) (aF e) 4 v = Kap kk (sI σ 44 e v) η := Kw (l_F4 e) (by decide)
theorem l_F5 (e : Nat) : k_loc (aF e) 5 = some (45, e) := k_locO (f := 40) (by decide)
theorem rd_F5 (e : Nat) : kI σ η (aF e) 5 = σ.1 45 e := kI_loc (l_F5 e)
theorem wr_F5 (e : Nat) : u_I (Kap kk σ η) (aF e) 5 v = Kap kk (sI σ 45 e v) η := Kw (l_F5 e) (by decide)
theorem l_KQ2 (e : Nat) : k_loc (aKQ e) 2 = some (47, e) := k_locO (f := 41) (by decide)
theorem rd_KQ2 (e : Nat) : kI σ η (aKQ e) 2 = σ.1 47 e := kI_loc (l_KQ2 e)
theorem wr_KQ2 (e : Nat) : u_I (Kap kk σ η) (aKQ e) 2 v = Kap kk (sI σ 47 e v) η := Kw (l_KQ2 e) (by decide)
theorem l_C3 (e : Nat) : k_loc (aC e) 3 = some (52, e) := k_locO (f := 50) (by decide)
theorem rd_C3 (e : Nat) : kI σ η (aC e) 3 = σ.1 52 e := kI_loc (l_C3 e)
theorem wr_C3 (e : Nat) : u_I (Kap kk σ η) (aC e) 3 v = Kap kk (sI σ 52 e v) η := Kw (l_C3 e) (by decide)
theorem l_C5 (e : Nat) : k_loc (aC e) 5 = some (53, e) := k_locO (f := 50) (by decide)
theorem rd_C5 (e : Nat) : kI σ η (aC e) 5 = σ.1 53 e := kI_loc (l_C5 e)
theorem wr_C5 (e : Nat) : u_I (Kap kk σ η) (aC e) 5 v = Kap kk (sI σ 53 e v) η := Kw (l_C5 e) (by decide)
theorem l_C6 (e : Nat) : k_loc (aC e) 6 = some (54, e) := k_locO (f := 50) (by decide)
theorem rd_C6 (e : Nat) : kI σ η (aC e) 6 = σ.1 54 e := kI_loc (l_C6 e)
theorem wr_C6 (e : Nat) : u_I (Kap kk σ η) (aC e) 6 v = Kap kk (sI σ 54 e v) η := Kw (l_C6 e) (by decide)
theorem l_C7 (e : Nat) : k_loc (aC e) 7 = some (55, e) := k_locO (f := 50) (by decide)
theorem rd_C7 (e : Nat) : kI σ η (aC e) 7 = σ.1 55 e := kI_loc (l_C7 e)
theorem wr_C7 (e : Nat) : u_I (Kap kk σ η) (aC e) 7 v = Kap kk (sI σ 55 e v) η := Kw (l_C7 e) (by decide)
theorem l_C8 (e : Nat) : k_loc (aC e) 8 = some (56, e) := k_locO (f := 50) (by decide)
theorem rd_C8 (e : Nat) : kI σ η (aC e) 8 = σ.1 56 e := kI_loc (l_C8 e)
theorem wr_C8 (e : Nat) : u_I (Kap kk σ η) (aC e) 8 v = Kap kk (sI σ 56 e v) η := Kw (l_C8 e) (by decide)
theorem l_C9 (e : Nat) : k_loc (aC e) 9 = some (58, e) := k_locO (f := 50) (by decide)
theorem rd_C9 (e : Nat) : kI σ η (aC e) 9 = σ.1 58 e := kI_loc (l_C9 e)
theorem wr_C9 (e : Nat) : u_I (Kap kk σ η) (aC e) 9 v = Kap kk (sI σ 58 e v) η := Kw (l_C9 e) (by decide)
theorem l_C10 (e : Nat) : k_loc (aC e) 10 = some (59, e) := k_locO (f := 50) (by decide)
theorem rd_C10 (e : Nat) : kI σ η (aC e) 10 = σ.1 59 e := kI_loc (l_C10 e)
theorem wr_C10 (e : Nat) : u_I (Kap kk σ η) (aC e) 10 v = Kap kk (sI σ 59 e v) η := Kw (l_C10 e) (by decide)
theorem l_C11 (e : Nat) : k_loc (aC e) 11 = some (60, e) := k_locO (f := 50) (by decide)
theorem rd_C11 (e : Nat) : kI σ η (aC e) 11 = σ.1 60 e := kI_loc (l_C11 e)
theorem wr_C11 (e : Nat) : u_I (Kap kk σ η) (aC e) 11 v = Kap kk (sI σ 60 e v) η := Kw (l_C11 e) (by decide)
theorem l_P3 (e : Nat) : k_loc (aP e) 3 = some (61, e) := k_locO (f := 51) (by decide)
theorem rd_P3 (e : Nat) : kI σ η (aP e) 3 = σ.1 61 e := kI_loc (l_P3 e)
theorem wr_P3 (e : Nat) : u_I (Kap kk σ η) (aP e) 3 v = Kap kk (sI σ 61 e v) η := Kw (l_P3 e) (by decide)
theorem rd_s2_0 : kI σ η 2 0 = σ.1 6 0 := id rfl
theorem wr_s2_0 : u_I (Kap kk σ η) 2 0 v = Kap kk (sI σ 6 0 v) η := Kw (k := 6) (i := 0) (by decide) (by decide)
theorem rd_s3_0 : kI σ η 3 0 = σ.1 4 0 := id rfl
theorem rd_s11_7 : kI σ η 11 7 = σ.1 7 0 := id rfl
theorem wr_s11_7 : u_I (Kap kk σ η) 11 7 v = Kap kk (sI σ 7 0 v) η := Kw (k := 7) (i := 0) (by decide) (by decide)
theorem rd_s11_8 : kI σ η 11 8 = σ.1 8 0 := id rfl
theorem wr_s11_8 : u_I (Kap kk σ η) 11 8 v = Kap kk (sI σ 8 0 v) η := Kw (k := 8) (i := 0) (by decide) (by decide)
theorem rd_s11_9 : kI σ η 11 9 = σ.1 9 0 := id rfl
theorem wr_s11_9 : u_I (Kap kk σ η) 11 9 v = Kap kk (sI σ 9 0 v) η := Kw (k := 9) (i := 0) (by decide) (by decide)
theorem rd_a4 (p : Nat) : kI σ η 4 p = σ.1 0 p := id rfl
theorem rd_a5 (p : Nat) : kI σ η 5 p = σ.1 1 p := id rfl
theorem rd_a6 (p : Nat) : kI σ η 6 p = σ.1 2 p := id rfl
theorem wr_a6 (p : Nat) : u_I (Kap kk σ η) 6 p v = Kap kk (sI σ 2 p v) η := Kw (k := 2) (i := p) rfl (by decide)
theorem rd_a7 (p : Nat) : kI σ η 7 p = σ.1 3 p := id rfl
theorem wr_a7 (p : Nat) : u_I (Kap kk σ η) 7 p v = Kap kk (sI σ 3 p v) η := Kw (k := 3) (i := p) rfl (by decide)
theorem rd_a9 (p : Nat) : kI σ η 9 p = σ.1 50 p := id rfl
theorem wr_a9 (p : Nat) : u_I (Kap kk σ η) 9 p v = Kap kk (sI σ 50 p v) η := Kw (k := 50) (i := p) rfl (by decide)
theorem rd_a10 (p : Nat) : kI σ η 10 p = σ.1 51 p := id rfl
theorem wr_a10 (p : Nat) : u_I (Kap kk σ η) 10 p v = Kap kk (sI σ 51 p v) η := Kw (k := 51) (i := p) rfl (by decide)
theorem rd_a15 (p : Nat) : kI σ η 15 p = σ.1 48 p := id rfl
theorem wr_a15 (p : Nat) : u_I (Kap kk σ η) 15 p v = Kap kk (sI σ 48 p v) η := Kw (k := 48) (i := p) rfl (by decide)
theorem rd_a8 (p : Nat) : kI σ η 8 p = setSz σ p := id rfl
theorem rd_a16 (p : Nat) : kI σ η 16 p = tcd (σ.1 49 p) := id rfl
theorem rd_E1 (e : Nat) : kI σ η (aE e) 1 = nI (e / 2) := by
  obtain ⟨h1, h2, h3⟩ := k_md e 30 (by decide)
  refine kI_st (k_locO (f := 30) (by decide)) ?_
  simp only [k_st, aE, show 64 * e + 94 = 64 * e + (64 + 30) from rfl, h1, h2, h3, if_false, if_true, Nat.reduceEqDiff, reduceIte]
theorem rd_E2 (e : Nat) : kI σ η (aE e) 2 = nI (ex σ e) := by
  obtain ⟨h1, h2, h3⟩ := k_md e 30 (by decide)
  refine kI_st (k_locO (f := 30) (by decide)) ?_
  simp only [k_st, aE, show 64 * e + 94 = 64 * e + (64 + 30) from rfl, h1, h2, h3, if_false, if_true, Nat.reduceEqDiff, reduceIte]
theorem rd_E3 (e : Nat) : kI σ η (aE e) 3 = nI (ot σ e) := by
  obtain ⟨h1, h2, h3⟩ := k_md e 30 (by decide)
  refine kI_st (k_locO (f := 30) (by decide)) ?_
  simp only [k_st, aE, show 64 * e + 94 = 64 * e + (64 + 30) from rfl, h1, h2, h3, if_false, if_true, Nat.reduceEqDiff, reduceIte]
theorem rd_E18 (e : Nat) : kI σ η (aE e) 18 = ccd (σ.1 19 e) := by
  obtain ⟨h1, h2, h3⟩ := k_md e 30 (by decide)
  refine kI_st (k_locO (f := 30) (by decide)) ?_
  simp only [k_st, aE, show 64 * e + 94 = 64 * e + (64 + 30) from rfl, h1, h2, h3, if_false, if_true, Nat.reduceEqDiff, reduceIte]
theorem rd_F0 (e : Nat) : kI σ η (aF e) 0 = nI (e % 24 / 4) := by
  obtain ⟨h1, h2, h3⟩ := k_md e 40 (by decide)
  refine kI_st (k_locO (f := 40) (by decide)) ?_
  simp only [k_st, aF, show 64 * e + 104 = 64 * e + (64 + 40) from rfl, h1, h2, h3, if_false, if_true, Nat.reduceEqDiff, reduceIte]
theorem rd_C0 (e : Nat) : kI σ η (aC e) 0 = nI (e / 24) := by
  obtain ⟨h1, h2, h3⟩ := k_md e 50 (by decide)
  refine kI_st (k_locO (f := 50) (by decide)) ?_
  simp only [k_st, aC, show 64 * e + 114 = 64 * e + (64 + 50) from rfl, h1, h2, h3, if_false, if_true, Nat.reduceEqDiff, reduceIte]
theorem rd_C1 (e : Nat) : kI σ η (aC e) 1 = nI (e % 24 / 4) := by
  obtain ⟨h1, h2, h3⟩ := k_md e 50 (by decide)
  refine kI_st (k_locO (f := 50) (by decide)) ?_
  simp only [k_st, aC, show 64 * e + 114 = 64 * e + (64 + 50) from rfl, h1, h2, h3, if_false, if_true, Nat.reduceEqDiff, reduceIte]
theorem rd_C2 (e : Nat) : kI σ η (aC e) 2 = nI (e % 4) := by
  obtain ⟨h1, h2, h3⟩ := k_md e 50 (by decide)
  refine kI_st (k_locO (f := 50) (by decide)) ?_
  simp only [k_st, aC, show 64 * e + 114 = 64 * e + (64 + 50) from rfl, h1, h2, h3, if_false, if_true, Nat.reduceEqDiff, reduceIte]
theorem rd_P0 (e : Nat) : kI σ η (aP e) 0 = nI (e / 4) := by
  obtain ⟨h1, h2, h3⟩ := k_md e 51 (by decide)
  refine kI_st (k_locO (f := 51) (by decide)) ?_
  simp only [k_st, aP, show 64 * e + 115 = 64 * e + (64 + 51) from rfl, h1, h2, h3, if_false, if_true, Nat.reduceEqDiff, reduceIte]
theorem rd_P1 (e : Nat) : kI σ η (aP e) 1 = -1 := by
  obtain ⟨h1, h2, h3⟩ := k_md e 51 (by decide)
  refine kI_st (k_locO (f := 51) (by decide)) ?_
  simp only [k_st, aP, show 64 * e + 115 = 64 * e + (64 + 51) from rfl, h1, h2, h3, if_false, if_true, Nat.reduceEqDiff, reduceIte]
theorem rd_P2 (e : Nat) : kI σ η (aP e) 2 = nI (e % 4) := by
  obtain ⟨h1, h2, h3⟩ := k_md e 51 (by decide)
  refine kI_st (k_locO (f := 51) (by decide)) ?_
  simp only [k_st, aP, show 64 * e + 115 = 64 * e + (64 + 51) from rfl, h1, h2, h3, if_false, if_true, Nat.reduceEqDiff, reduceIte]
theorem rd_P11 (e : Nat) : kI σ η (aP e) 11 = 0 := by
  obtain ⟨h1, h2, h3⟩ := k_md e 51 (by decide)
  refine kI_st (k_locO (f := 51) (by decide)) ?_
  simp only [k_st, aP, show 64 * e + 115 = 64 * e + (64 + 51) from rfl, h1, h2, h3, if_false, if_true, Nat.reduceEqDiff, reduceIte]
theorem hs_E14 (e : Nat) : k_st σ (aE e) 14 = none := by
  obtain ⟨h1, h2, h3⟩ := k_md e 30 (by decide)
  simp only [k_st, aE, show 64 * e + 94 = 64 * e + (64 + 30) from rfl, h1, h2, h3, if_false, Nat.reduceEqDiff, reduceIte]
theorem rd_E14 (e : Nat) : kI σ η (aE e) 14 = η.1 (aE e) 14 := kI_hid (k_locO (f := 30) (by decide)) (hs_E14 e)
theorem wr_E14 (e : Nat) : u_I (Kap kk σ η) (aE e) 14 v = Kap kk σ (sI η (aE e) 14 v) := Kh (k_locO (f := 30) (by decide)) (hs_E14 e)
theorem hs_U1 (e : Nat) : k_st σ (aU e) 1 = none := by
  obtain ⟨h1, h2, h3⟩ := k_md e 31 (by decide)
  simp only [k_st, aU, show 64 * e + 95 = 64 * e + (64 + 31) from rfl, h1, h2, h3, if_false, Nat.reduceEqDiff, reduceIte]
theorem rd_U1 (e : Nat) : kI σ η (aU e) 1 = η.1 (aU e) 1 := kI_hid (k_locO (f := 31) (by decide)) (hs_U1 e)
theorem wr_U1 (e : Nat) : u_I (Kap kk σ η) (aU e) 1 v = Kap kk σ (sI η (aU e) 1 v) := Kh (k_locO (f := 31) (by decide)) (hs_U1 e)
theorem hs_U2 (e : Nat) : k_st σ (aU e) 2 = none := by
  obtain ⟨h1, h2, h3⟩ := k_md e 31 (by decide)
  simp only [k_st, aU, show 64 * e + 95 = 64 * e + (64 + 31) from rfl, h1, h2, h3, if_false, Nat.reduceEqDiff, reduceIte]
theorem rd_U2 (e : Nat) : kI σ η (aU e) 2 = η.1 (aU e) 2 := kI_hid (k_locO (f := 31) (by decide)) (hs_U2 e)
theorem wr_U2 (e : Nat) : u_I (Kap kk σ η) (aU e) 2 v = Kap kk σ (sI η (aU e) 2 v) := Kh (k_locO (f := 31) (by decide)) (hs_U2 e)
theorem hs_U3 (e : Nat) : k_st σ (aU e) 3 = none := by
  obtain ⟨h1, h2, h3⟩ := k_md e 31 (by decide)
  simp only [k_st, aU, show 64 * e + 95 = 64 * e + (64 + 31) from rfl, h1, h2, h3, if_false, Nat.reduceEqDiff, reduceIte]
theorem rd_U3 (e : Nat) : kI σ η (aU e) 3 = η.1 (aU e) 3 := kI_hid (k_locO (f := 31) (by decide)) (hs_U3 e)
theorem wr_U3 (e : Nat) : u_I (Kap kk σ η) (aU e) 3 v = Kap kk σ (sI η (aU e) 3 v) := Kh (k_locO (f := 31) (by decide)) (hs_U3 e)
theorem hs_U4 (e : Nat) : k_st σ (aU e) 4 = none := by
  obtain ⟨h1, h2, h3⟩ := k_md e 31 (by decide)
  simp only [k_st, aU, show 64 * e + 95 = 64 * e + (64 + 31) from rfl, h1, h2, h3, if_false, Nat.reduceEqDiff, reduceIte]
theorem rd_U4 (e : Nat) : kI σ η (aU e) 4 = η.1 (aU e) 4 := kI_hid (k_locO (f := 31) (by decide)) (hs_U4 e)
theorem wr_U4 (e : Nat) : u_I (Kap kk σ η) (aU e) 4 v = Kap kk σ (sI η (aU e) 4 v) := Kh (k_locO (f := 31) (by decide)) (hs_U4 e)
theorem hs_UQ1 (e : Nat) : k_st σ (aUQ e) 1 = none := by
  obtain ⟨h1, h2, h3⟩ := k_md e 33 (by decide)
  simp only [k_st, aUQ, show 64 * e + 97 = 64 * e + (64 + 33) from rfl, h1, h2, h3, if_false, Nat.reduceEqDiff, reduceIte]
theorem rd_UQ1 (e : Nat) : kI σ η (aUQ e) 1 = η.1 (aUQ e) 1 := kI_hid (k_locO (f := 33) (by decide)) (hs_UQ1 e)
theorem wr_UQ1 (e : Nat) : u_I (Kap kk σ η) (aUQ e) 1 v = Kap kk σ (sI η (aUQ e) 1 v) := Kh (k_locO (f := 33) (by decide)) (hs_UQ1 e)
theorem hs_WQ1 (e : Nat) : k_st σ (aWQ e) 1 = none := by
  obtain ⟨h1, h2, h3⟩ := k_md e 35 (by decide)
  simp only [k_st, aWQ, show 64 * e + 99 = 64 * e + (64 + 35) from rfl, h1, h2, h3, if_false, Nat.reduceEqDiff, reduceIte]
theorem rd_WQ1 (e : Nat) : kI σ η (aWQ e) 1 = η.1 (aWQ e) 1 := kI_hid (k_locO (f := 35) (by decide)) (hs_WQ1 e)
theorem wr_WQ1 (e : Nat) : u_I (Kap kk σ η) (aWQ e) 1 v = Kap kk σ (sI η (aWQ e) 1 v) := Kh (k_locO (f := 35) (by decide)) (hs_WQ1 e)
theorem hs_KQ1 (e : Nat) : k_st σ (aKQ e) 1 = none := by
  obtain ⟨h1, h2, h3⟩ := k_md e 41 (by decide)
  simp only [k_st, aKQ, show 64 * e + 105 = 64 * e + (64 + 41) from rfl, h1, h2, h3, if_false, Nat.reduceEqDiff, reduceIte]
theorem rd_KQ1 (e : Nat) : kI σ η (aKQ e) 1 = η.1 (aKQ e) 1 := kI_hid (k_locO (f := 41) (by decide)) (hs_KQ1 e)
theorem wr_KQ1 (e : Nat) : u_I (Kap kk σ η) (aKQ e) 1 v = Kap kk σ (sI η (aKQ e) 1 v) := Kh (k_locO (f := 41) (by decide)) (hs_KQ1 e)
theorem rd_s20_1 : kI σ η 20 1 = η.1 20 1 := id rfl
theorem wr_s20_1 : u_I (Kap kk σ η) 20 1 v = Kap kk σ (sI η 20 1 v) := Kh rfl rfl
theorem rd_s20_2 : kI σ η 20 2 = η.1 20 2 := id rfl
theorem wr_s20_2 : u_I (Kap kk σ η) 20 2 v = Kap kk σ (sI η 20 2 v) := Kh rfl rfl
theorem rd_a22 (p : Nat) : kI σ η 22 p = η.1 22 p := id rfl
theorem wr_a22 (p : Nat) : u_I (Kap kk σ η) 22 p v = Kap kk σ (sI η 22 p v) := Kh rfl rfl
theorem rr_s1_0 : kR σ 1 0 = some 2 := id rfl
theorem rr_s1_1 : kR σ 1 1 = some 3 := id rfl
theorem rr_s1_2 : kR σ 1 2 = some 11 := id rfl
theorem rr_s1_3 : kR σ 1 3 = some 17 := id rfl
theorem rr_s1_4 : kR σ 1 4 = some 22 := id rfl
theorem rr_s11_0 : kR σ 11 0 = some 3 := id rfl
theorem rr_s11_1 : kR σ 11 1 = some 2 := id rfl
theorem rr_s11_2 : kR σ 11 2 = some 12 := id rfl
theorem rr_s11_3 : kR σ 11 3 = some 13 := id rfl
theorem rr_s11_4 : kR σ 11 4 = some 14 := id rfl
theorem rr_s11_5 : kR σ 11 5 = some 15 := id rfl
theorem rr_s11_6 : kR σ 11 6 = some 16 := id rfl
theorem rr_s17_0 : kR σ 17 0 = some 3 := id rfl
theorem rr_s17_1 : kR σ 17 1 = some 2 := id rfl
theorem rr_s17_2 : kR σ 17 2 = some 18 := id rfl
theorem rr_s17_3 : kR σ 17 3 = some 19 := id rfl
theorem rr_s17_4 : kR σ 17 4 = some 20 := id rfl
theorem rr_s20_0 : kR σ 20 0 = some 21 := id rfl
theorem rr_s3_1 : kR σ 3 1 = some 4 := id rfl
theorem rr_s3_2 : kR σ 3 2 = some 5 := id rfl
theorem rr_s3_3 : kR σ 3 3 = some 6 := id rfl
theorem rr_s3_4 : kR σ 3 4 = some 7 := id rfl
theorem rr_s3_5 : kR σ 3 5 = some 8 := id rfl
theorem rr_s3_6 : kR σ 3 6 = some 9 := id rfl
theorem rr_s3_7 : kR σ 3 7 = some 10 := id rfl
theorem rr_a12 (p : Nat) : kR σ 12 p = if p < 2 * nl σ then some (aE p) else none := id rfl
theorem rr_a13 (p : Nat) : kR σ 13 p = ((setOf σ (p / 24) (p % 24 / 4))[p % 4]?).map (fun l => aE (en σ l (p / 24))) := id rfl
theorem rr_a14 (p : Nat) : kR σ 14 p = if p < 144 ∧ nb σ (p / 24) (p % 24 / 4) = true then some (aF p) else none := id rfl
theorem rr_a18 (p : Nat) : kR σ 18 p = if p < 24 then some (aP p) else none := id rfl
theorem rr_a19 (p : Nat) : kR σ 19 p = if p < 144 ∧ nb σ (p / 24) (p % 24 / 4) = true then some (aC p) else none := id rfl
theorem rr_E0 (e : Nat) : kR σ (aE e) 0 = some 2 := by
  obtain ⟨h1, h2, h3⟩ := k_md e 30 (by decide)
  simp only [kR, aE, show 64 * e + 94 = 64 * e + (64 + 30) from rfl, h1, h2, h3, if_false, if_true, Nat.reduceEqDiff, reduceIte]
theorem rr_E4 (e : Nat) : kR σ (aE e) 4 = some (aW e) := by
  obtain ⟨h1, h2, h3⟩ := k_md e 30 (by decide)
  simp only [kR, aE, show 64 * e + 94 = 64 * e + (64 + 30) from rfl, h1, h2, h3, if_false, if_true, Nat.reduceEqDiff, reduceIte]
theorem rr_E5 (e : Nat) : kR σ (aE e) 5 = some (aU e) := by
  obtain ⟨h1, h2, h3⟩ := k_md e 30 (by decide)
  simp only [kR, aE, show 64 * e + 94 = 64 * e + (64 + 30) from rfl, h1, h2, h3, if_false, if_true, Nat.reduceEqDiff, reduceIte]
theorem rr_W0 (e : Nat) : kR σ (aW e) 0 = some 2 := by
  obtain ⟨h1, h2, h3⟩ := k_md e 32 (by decide)
  simp only [kR, aW, show 64 * e + 96 = 64 * e + (64 + 32) from rfl, h1, h2, h3, if_false, if_true, Nat.reduceEqDiff, reduceIte]
theorem rr_W7 (e : Nat) : kR σ (aW e) 7 = some (aUQ e) := by
  obtain ⟨h1, h2, h3⟩ := k_md e 32 (by decide)
  simp only [kR, aW, show 64 * e + 96 = 64 * e + (64 + 32) from rfl, h1, h2, h3, if_false, if_true, Nat.reduceEqDiff, reduceIte]
theorem rr_W8 (e : Nat) : kR σ (aW e) 8 = some (aWQ e) := by
  obtain ⟨h1, h2, h3⟩ := k_md e 32 (by decide)
  simp only [kR, aW, show 64 * e + 96 = 64 * e + (64 + 32) from rfl, h1, h2, h3, if_false, if_true, Nat.reduceEqDiff, reduceIte]
theorem rr_UQ0 (e : Nat) : kR σ (aUQ e) 0 = some (aUR e) := by
  obtain ⟨h1, h2, h3⟩ := k_md e 33 (by decide)
  simp only [kR, aUQ, show 64 * e + 97 = 64 * e + (64 + 33) from rfl, h1, h2, h3, if_false, if_true, Nat.reduceEqDiff, reduceIte]
theorem rr_WQ0 (e : Nat) : kR σ (aWQ e) 0 = some (aWR e) := by
  obtain ⟨h1, h2, h3⟩ := k_md e 35 (by decide)
  simp only [kR, aWQ, show 64 * e + 99 = 64 * e + (64 + 35) from rfl, h1, h2, h3, if_false, if_true, Nat.reduceEqDiff, reduceIte]
theorem rr_F1 (e : Nat) : kR σ (aF e) 1 = k_end σ (e / 24) (σ.1 41 e) := by
  obtain ⟨h1, h2, h3⟩ := k_md e 40 (by decide)
  simp only [kR, aF, show 64 * e + 104 = 64 * e + (64 + 40) from rfl, h1, h2, h3, if_false, if_true, Nat.reduceEqDiff, reduceIte]
theorem rr_F3 (e : Nat) : kR σ (aF e) 3 = k_end σ (e / 24) (σ.1 43 e) := by
  obtain ⟨h1, h2, h3⟩ := k_md e 40 (by decide)
  simp only [kR, aF, show 64 * e + 104 = 64 * e + (64 + 40) from rfl, h1, h2, h3, if_false, if_true, Nat.reduceEqDiff, reduceIte]
theorem rr_F6 (e : Nat) : kR σ (aF e) 6 = some (aKQ e) := by
  obtain ⟨h1, h2, h3⟩ := k_md e 40 (by decide)
  simp only [kR, aF, show 64 * e + 104 = 64 * e + (64 + 40) from rfl, h1, h2, h3, if_false, if_true, Nat.reduceEqDiff, reduceIte]
theorem rr_KQ0 (e : Nat) : kR σ (aKQ e) 0 = some (aKR e) := by
  obtain ⟨h1, h2, h3⟩ := k_md e 41 (by decide)
  simp only [kR, aKQ, show 64 * e + 105 = 64 * e + (64 + 41) from rfl, h1, h2, h3, if_false, if_true, Nat.reduceEqDiff, reduceIte]
theorem rr_C4 (e : Nat) : kR σ (aC e) 4 = k_leg (σ.1 57 e) := by
  obtain ⟨h1, h2, h3⟩ := k_md e 50 (by decide)
  simp only [kR, aC, show 64 * e + 114 = 64 * e + (64 + 50) from rfl, h1, h2, h3, if_false, if_true, Nat.reduceEqDiff, reduceIte]
theorem rr_P4 (e : Nat) : kR σ (aP e) 4 = k_leg (σ.1 62 e) := by
  obtain ⟨h1, h2, h3⟩ := k_md e 51 (by decide)
  simp only [kR, aP, show 64 * e + 115 = 64 * e + (64 + 51) from rfl, h1, h2, h3, if_false, if_true, Nat.reduceEqDiff, reduceIte]
end Rules
