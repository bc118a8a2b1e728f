/-! LAYER 2: both objects at the start -/
def r0 (z : Nat) : Nat → Nat := fun a => if a < 22 then z + (a - 1) else if a = 22 then z + 45 else z + (21 + (a / 64 - 1))
theorem r0_P (z p : Nat) : r0 z (64 * p + (64 + 51)) = z + (21 + p) := by
  obtain ⟨h1, h2, h3⟩ := k_md p 51 (by decide)
  unfold r0
  rw [if_neg (by omega), if_neg (by omega), h2]
theorem s0_nbf (f : Nat) : nbf s0 f = false := by simp [nbf, s0_nb]
/-- what there is -/
theorem s0_live {a : Nat} (h : kd0 s0 a ≠ 0) : (1 ≤ a ∧ a ≤ 22) ∨ ∃ p, p < 24 ∧ a = 64 * p + (64 + 51) := by
  by_cases c : a < 64
  · unfold kd0 at h
    rw [kdL_S _ _ _ _ c] at h
    have : ∀ a, a < 64 → kdS.getD a 0 ≠ 0 → 1 ≤ a ∧ a ≤ 22 := by decide
    exact Or.inl (this a c h)
  · obtain ⟨e, t, ht, rfl⟩ : ∃ e t, t < 64 ∧ a = 64 * e + (64 + t) := ⟨a / 64 - 1, a % 64, by omega, by omega⟩
    unfold kd0 at h
    rw [kdL_O _ _ _ _ _ ht, s0_nl, s0_nbf] at h
    refine Or.inr ?_
    by_cases q : t = 51
    · subst q
      refine ⟨e, ?_, rfl⟩
      by_cases z : e < 24
      · exact z
      · simp [z] at h
    · simp [q] at h
theorem s0_hi {k i : Nat} (hk : k = 50 ∨ k = 51) : s0.1 k i = ltm 36 i := by
  unfold ltm
  rcases hk with rfl | rfl
  · by_cases c : i < 36
    · rw [if_pos c]; exact s0_2 rfl rfl rfl c
    · rw [if_neg c]
      have e1 : c_1 50 = none := rfl
      have e3 : c_3 50 = none := rfl
      have e4 : c_4 50 = none := rfl
      simp only [s0, Fi, e1, e3, e4, c, Option.getD_none, ite_self, if_false]; rfl
  · by_cases c : i < 36
    · rw [if_pos c]; exact s0_2 rfl rfl rfl c
    · rw [if_neg c]
      have e1 : c_1 51 = none := rfl
      have e3 : c_3 51 = none := rfl
      have e4 : c_4 51 = none := rfl
      simp only [s0, Fi, e1, e3, e4, c, Option.getD_none, ite_self, if_false]; rfl
theorem kI_s0 {a j : Nat} (ha : a < 64) (h9 : a ≠ 9) (h10 : a ≠ 10) : kI s0 h0 a j = 0 := by
  unfold kI
  split
  · rename_i p hp
    unfold k_loc at hp
    obtain ⟨k, h1, h2⟩ := Option.map_eq_some_iff.mp hp
    subst h2
    have hm := k_lookup h1
    have hkey : (k_key a j).1 = a := by unfold k_key; rw [if_pos ha]; split <;> rfl
    have key : ∀ q ∈ k_T, q.1.1 < 64 → q.1.1 ≠ 9 → q.1.1 ≠ 10 → c_1 q.2 = none ∧ c_2 q.2 = none ∧ c_3 q.2 = none ∧ c_4 q.2 = none := by decide
    obtain ⟨q1, q2, q3, q4⟩ := key _ hm (by rw [hkey]; exact ha) (by rw [hkey]; exact h9) (by rw [hkey]; exact h10)
    exact s0_0 q1 q2 q3 q4 _
  · have hs : ∀ v, k_st s0 a j = some v → v = 0 := fun v hv => by
      unfold k_st at hv
      rw [if_pos ha] at hv
      split at hv
      · cases hv
        unfold setSz
        rw [s0_set]; rfl
      · split at hv
        · cases hv
          rw [s0_0 rfl rfl rfl rfl]; rfl
        · cases hv
    split
    · rename_i v hv
      exact hs v hv
    · show (if 64 ≤ a ∧ a % 64 = 51 ∧ j = 9 then (-1 : Int32) else 0) = 0
      rw [if_neg (by omega)]
theorem kI_s9 (j : Nat) : kI s0 h0 9 j = ltm 36 j := s0_hi (Or.inl rfl)
theorem kI_s10 (j : Nat) : kI s0 h0 10 j = ltm 36 j := s0_hi (Or.inr rfl)
theorem kR_s0 {a j : Nat} (ha : a < 64) (h18 : a ≠ 18) : kR s0 a j = if a = 12 ∨ a = 13 ∨ a = 14 ∨ a = 19 then none else k_sr a j := by
  unfold kR
  rw [if_pos ha]
  by_cases c12 : a = 12
  · subst c12; rw [if_pos rfl, s0_nl, if_neg (by omega), if_pos (by simp)]
  · rw [if_neg c12]
    by_cases c13 : a = 13
    · subst c13; rw [if_pos rfl, s0_set, if_pos (by simp)]; rfl
    · rw [if_neg c13]
      by_cases c14 : a = 14
      · subst c14; rw [if_pos rfl, s0_nb, if_neg (by simp), if_pos (by simp)]
      · rw [if_neg c14, if_neg h18]
        by_cases c19 : a = 19
        · subst c19; rw [if_pos rfl, s0_nb, if_neg (by simp), if_pos (by simp)]
        · rw [if_neg c19, if_neg (by omega)]
theorem lgs_at {p : Nat} : ∀ {t : Nat}, p < t → (lgs t)[p]? = some (4, 12, cUI (cUI (cUI (cUI (cUI cI0 3 0) 9 (-1)) 0 (nI (p / 4))) 1 (-1)) 2 (nI (p % 4)), cR0)
  | 0, h => by omega
  | t + 1, h => by
    rw [lgs_s]
    by_cases c : p < t
    · rw [List.getElem?_append_left (by rw [lgs_l]; exact c)]
      exact lgs_at c
    · have : p = t := by omega
      subst this
      rw [List.getElem?_append_right (by rw [lgs_l]; omega), lgs_l, Nat.sub_self]
      rfl
theorem snC_P {z p : Nat} (hp : p < 24) : (snC z)[21 + p]? = some (4, 12, cUI (cUI (cUI (cUI (cUI cI0 3 0) 9 (-1)) 0 (nI (p / 4))) 1 (-1)) 2 (nI (p % 4)), cR0) := by
  unfold snC
  rw [List.getElem?_append_left (by simp [lgs_l]; omega), List.getElem?_append_right (by simp)]
  have : 21 + p - List.length [(11, 5, cI0, cUR (cUR (cUR (cUR (cUR cR0 0 (some (z + 1))) 1 (some (z + 2))) 2 (some (z + 10))) 3 (some (z + 16))) 4 (some (z + 45))), (1, 1, cI0, cR0), (5, 8, cI0, cUR (cUR (cUR (cUR (cUR (cUR (cUR cR0 1 (some (z + 3))) 2 (some (z + 4))) 3 (some (z + 5))) 4 (some (z + 6))) 5 (some (z + 7))) 6 (some (z + 8))) 7 (some (z + 9))), (21, 10, cI0, cR0), (21, 10, cI0, cR0), (23, 10, cI0, cR0), (23, 10, cI0, cR0), (21, 36, cI0, cR0), (21, 36, ltm 36, cR0), (21, 36, ltm 36, cR0), (8, 10, cI0, cUR (cUR (cUR (cUR (cUR (cUR (cUR cR0 2 (some (z + 11))) 3 (some (z + 12))) 4 (some (z + 13))) 5 (some (z + 14))) 6 (some (z + 15))) 0 (some (z + 2))) 1 (some (z + 1))), (24, 20, cI0, cR0), (24, 144, cI0, cR0), (25, 144, cI0, cR0), (23, 216, cI0, cR0), (21, 216, cI0, cR0), (7, 5, cI0, cUR (cUR (cUR (cUR (cUR cR0 2 (some (z + 17))) 3 (some (z + 18))) 4 (some (z + 19))) 0 (some (z + 2))) 1 (some (z + 1))), (26, 24, cI0, rrm (z) 24), (26, 144, cI0, cR0), (6, 3, cI0, cUR cR0 0 (some (z + 20))), (22, 16, cI0, cR0)] = p := by simp
  rw [this]
  exact lgs_at hp
theorem snC_45 {z : Nat} : (snC z)[45]? = some (21, 13, cI0, cR0) := by
  unfold snC
  rw [List.getElem?_append_right (by simp [lgs_l])]
  simp [lgs_l]
theorem snC_len {z : Nat} : (snC z).length = 46 := by simp [snC, lgs_l]
/-- a cell as it is at the start -/
def Ck0 (z a : Nat) (c : Cel) : Prop := c.1 = kd0 s0 a ∧ c.2.1 = kL a ∧ (∀ j, c.2.2.1 j = kI s0 h0 a j) ∧ ∀ j, c.2.2.2 j = fQ (r0 z) (kd0 s0) (kR s0 a j)
theorem fQ_k (z a j : Nat) (L : List Nat) (hL : ∀ q ∈ L, 1 ≤ q ∧ q ≤ 22) : fQ (r0 z) (kd0 s0) L[j]? = (L[j]?).map (r0 z) := by
  cases h : L[j]? with
  | none => rfl
  | some b => rw [fQ_s (kd0_S (hL b (List.mem_of_getElem? h)).1 (hL b (List.mem_of_getElem? h)).2)]; rfl
theorem ck0_z {z a n k : Nat} (ha : a < 64) (h9 : a ≠ 9) (h10 : a ≠ 10) (h18 : a ≠ 18) (hk : k = kd0 s0 a) (hn : n = kL a) (hs : ∀ j, k_sr a j = none) : Ck0 z a (k, n, cI0, cR0) := by
  refine ⟨hk, hn, fun j => (kI_s0 ha h9 h10).symm, fun j => ?_⟩
  rw [kR_s0 ha h18, hs j, ite_self]; rfl
theorem snC_S {z a : Nat} (h1 : 1 ≤ a) (h2 : a ≤ 21) : ∃ c, (snC z)[a - 1]? = some c ∧ Ck0 z a c := by
  have hsr : ∀ a, a ≠ 1 → a ≠ 3 → a ≠ 11 → a ≠ 17 → a ≠ 20 → ∀ j, k_sr a j = none := fun a q1 q3 q11 q17 q20 j => by
    unfold k_sr
    rw [if_neg q1, if_neg q3, if_neg q11, if_neg q17, if_neg q20]
  have hcs : a = 1 ∨ a = 2 ∨ a = 3 ∨ a = 4 ∨ a = 5 ∨ a = 6 ∨ a = 7 ∨ a = 8 ∨ a = 9 ∨ a = 10 ∨ a = 11 ∨ a = 12 ∨ a = 13 ∨ a = 14 ∨ a = 15 ∨ a = 16 ∨ a = 17 ∨ a = 18 ∨ a = 19 ∨ a = 20 ∨ a = 21 := by omega
  rcases hcs with rfl | rfl | rfl | rfl | rfl | rfl | rfl | rfl | rfl | rfl | rfl | rfl | rfl | rfl | rfl | rfl | rfl | rfl | rfl | rfl | rfl
  · refine ⟨_, rfl, rfl, rfl, fun j => (kI_s0 (by decide) (by decide) (by decide)).symm, fun j => ?_⟩
    rw [kR_s0 (by decide) (by decide), if_neg (by decide)]
    show _ = fQ _ _ ([2, 3, 11, 17, 22][j]?)
    rw [fQ_k z 1 j _ (by decide)]
    match j with
    | 0 => rfl
    | 1 => rfl
    | 2 => rfl
    | 3 => rfl
    | 4 => rfl
    | j + 5 => rfl
  · exact ⟨_, rfl, ck0_z (by decide) (by decide) (by decide) (by decide) rfl rfl (hsr _ (by decide) (by decide) (by decide) (by decide) (by decide))⟩
  · refine ⟨_, rfl, rfl, rfl, fun j => (kI_s0 (by decide) (by decide) (by decide)).symm, fun j => ?_⟩
    rw [kR_s0 (by decide) (by decide), if_neg (by decide)]
    match j with
    | 0 => rfl
    | j + 1 =>
      show _ = fQ _ _ ([4, 5, 6, 7, 8, 9, 10][j]?)
      rw [fQ_k z 3 j _ (by decide)]
      match j with
      | 0 => rfl
      | 1 => rfl
      | 2 => rfl
      | 3 => rfl
      | 4 => rfl
      | 5 => rfl
      | 6 => rfl
      | j + 7 => rfl
  · exact ⟨_, rfl, ck0_z (by decide) (by decide) (by decide) (by decide) rfl rfl (hsr _ (by decide) (by decide) (by decide) (by decide) (by decide))⟩
  · exact ⟨_, rfl, ck0_z (by decide) (by decide) (by decide) (by decide) rfl rfl (hsr _ (by decide) (by decide) (by decide) (by decide) (by decide))⟩
  · exact ⟨_, rfl, ck0_z (by decide) (by decide) (by decide) (by decide) rfl rfl (hsr _ (by decide) (by decide) (by decide) (by decide) (by decide))⟩
  · exact ⟨_, rfl, ck0_z (by decide) (by decide) (by decide) (by decide) rfl rfl (hsr _ (by decide) (by decide) (by decide) (by decide) (by decide))⟩
  · exact ⟨_, rfl, ck0_z (by decide) (by decide) (by decide) (by decide) rfl rfl (hsr _ (by decide) (by decide) (by decide) (by decide) (by decide))⟩
  · refine ⟨_, rfl, rfl, rfl, fun j => (kI_s9 j).symm, fun j => ?_⟩
    rw [kR_s0 (by decide) (by decide), if_neg (by decide)]; rfl
  · refine ⟨_, rfl, rfl, rfl, fun j => (kI_s10 j).symm, fun j => ?_⟩
    rw [kR_s0 (by decide) (by decide), if_neg (by decide)]; rfl
  · refine ⟨_, rfl, rfl, rfl, fun j => (kI_s0 (by decide) (by decide) (by decide)).symm, fun j => ?_⟩
    rw [kR_s0 (by decide) (by decide), if_neg (by decide)]
    show _ = fQ _ _ ([3, 2, 12, 13, 14, 15, 16][j]?)
    rw [fQ_k z 11 j _ (by decide)]
    match j with
    | 0 => rfl
    | 1 => rfl
    | 2 => rfl
    | 3 => rfl
    | 4 => rfl
    | 5 => rfl
    | 6 => rfl
    | j + 7 => rfl
  · exact ⟨_, rfl, ck0_z (by decide) (by decide) (by decide) (by decide) rfl rfl (hsr _ (by decide) (by decide) (by decide) (by decide) (by decide))⟩
  · exact ⟨_, rfl, ck0_z (by decide) (by decide) (by decide) (by decide) rfl rfl (hsr _ (by decide) (by decide) (by decide) (by decide) (by decide))⟩
  · exact ⟨_, rfl, ck0_z (by decide) (by decide) (by decide) (by decide) rfl rfl (hsr _ (by decide) (by decide) (by decide) (by decide) (by decide))⟩
  · exact ⟨_, rfl, ck0_z (by decide) (by decide) (by decide) (by decide) rfl rfl (hsr _ (by decide) (by decide) (by decide) (by decide) (by decide))⟩
  · exact ⟨_, rfl, ck0_z (by decide) (by decide) (by decide) (by decide) rfl rfl (hsr _ (by decide) (by decide) (by decide) (by decide) (by decide))⟩
  · refine ⟨_, rfl, rfl, rfl, fun j => (kI_s0 (by decide) (by decide) (by decide)).symm, fun j => ?_⟩
    rw [kR_s0 (by decide) (by decide), if_neg (by decide)]
    show _ = fQ _ _ ([3, 2, 18, 19, 20][j]?)
    rw [fQ_k z 17 j _ (by decide)]
    match j with
    | 0 => rfl
    | 1 => rfl
    | 2 => rfl
    | 3 => rfl
    | 4 => rfl
    | j + 5 => rfl
  · refine ⟨_, rfl, rfl, rfl, fun j => (kI_s0 (by decide) (by decide) (by decide)).symm, fun j => ?_⟩
    show rrm z 24 j = fQ _ _ (if j < 24 then some (64 * j + (64 + 51)) else none)
    unfold rrm
    by_cases c : j < 24
    · rw [if_pos c, if_pos c, fQ_s (kd0_P c), r0_P]
    · rw [if_neg c, if_neg c]; rfl
  · exact ⟨_, rfl, ck0_z (by decide) (by decide) (by decide) (by decide) rfl rfl (hsr _ (by decide) (by decide) (by decide) (by decide) (by decide))⟩
  · refine ⟨_, rfl, rfl, rfl, fun j => (kI_s0 (by decide) (by decide) (by decide)).symm, fun j => ?_⟩
    rw [kR_s0 (by decide) (by decide), if_neg (by decide)]
    show _ = fQ _ _ ([21][j]?)
    rw [fQ_k z 20 j _ (by decide)]
    match j with
    | 0 => rfl
    | j + 1 => rfl
  · exact ⟨_, rfl, ck0_z (by decide) (by decide) (by decide) (by decide) rfl rfl (hsr _ (by decide) (by decide) (by decide) (by decide) (by decide))⟩
theorem kI_O {σ η : sn_FS} {e t j : Nat} (ht : t < 64) : kI σ η (64 * e + (64 + t)) j = match k_T.lookup (64 + t, j + 1) with
    | some k => σ.1 k e
    | none => match k_st σ (64 * e + (64 + t)) j with
      | some v => v
      | none => η.1 (64 * e + (64 + t)) j := by
  unfold kI
  rw [k_locO ht]
  cases k_T.lookup (64 + t, j + 1) <;> rfl
theorem lk_none {t j : Nat} (h : ∀ q ∈ k_T, q.1.1 = 64 + t → q.1.2 ≠ j + 1) : k_T.lookup (64 + t, j + 1) = none := by
  cases hl : k_T.lookup (64 + t, j + 1) with
  | none => rfl
  | some k => exact absurd rfl (h _ (k_lookup hl) rfl)
theorem k_st51 {σ : sn_FS} {e j : Nat} : k_st σ (64 * e + (64 + 51)) j = if j = 0 then some (nI (e / 4)) else if j = 1 then some (-1) else if j = 2 then some (nI (e % 4)) else if j = 11 then some 0 else none := by
  obtain ⟨h1, h2, h3⟩ := k_md e 51 (by decide)
  simp only [k_st, h1, h2, h3, if_false, Nat.reduceEqDiff, reduceIte]
theorem ck0_P {z p : Nat} (hp : p < 24) : Ck0 z (64 * p + (64 + 51)) (4, 12, cUI (cUI (cUI (cUI (cUI cI0 3 0) 9 (-1)) 0 (nI (p / 4))) 1 (-1)) 2 (nI (p % 4)), cR0) := by
  obtain ⟨h1, h2, h3⟩ := k_md p 51 (by decide)
  refine ⟨?_, ?_, fun j => ?_, fun j => ?_⟩
  · show 4 = kd0 s0 (64 * p + (64 + 51))
    unfold kd0
    rw [kdL_O _ _ _ _ _ (by decide), if_neg (by omega), if_neg (by omega), if_neg (by omega), if_pos rfl, if_pos hp]
  · show 12 = kL (64 * p + (64 + 51))
    simp only [kL, h1, h3, if_false, Nat.reduceEqDiff, reduceIte]
  · show cUI (cUI (cUI (cUI (cUI cI0 3 0) 9 (-1)) 0 (nI (p / 4))) 1 (-1)) 2 (nI (p % 4)) j = _
    rw [kI_O (by decide)]
    by_cases c3 : j = 3
    · subst c3
      exact (s0_0 (k := 61) rfl rfl rfl rfl p).symm
    · have hk : ∀ q ∈ k_T, q.1.1 = 64 + 51 → q.1.2 = 4 := by decide
      rw [lk_none (fun q hq h => by have := hk q hq h; omega), k_st51]
      show _ = match (if j = 0 then some (nI (p / 4)) else if j = 1 then some (-1) else if j = 2 then some (nI (p % 4)) else if j = 11 then some 0 else none) with | some v => v | none => (if 64 ≤ 64 * p + (64 + 51) ∧ (64 * p + (64 + 51)) % 64 = 51 ∧ j = 9 then (-1 : Int32) else 0)
      unfold cUI cI0
      by_cases c0 : j = 0
      · subst c0; rfl
      · by_cases c1 : j = 1
        · subst c1; rfl
        · by_cases c2 : j = 2
          · subst c2; rfl
          · by_cases c9 : j = 9
            · subst c9
              show (-1 : Int32) = if 64 ≤ 64 * p + (64 + 51) ∧ (64 * p + (64 + 51)) % 64 = 51 ∧ 9 = 9 then (-1 : Int32) else 0
              rw [if_pos ⟨by omega, h1, rfl⟩]
            · by_cases c11 : j = 11
              · subst c11; rfl
              · simp only [c0, c1, c2, c3, c9, c11, if_false, and_false]
  · show none = fQ _ _ (kR s0 (64 * p + (64 + 51)) j)
    simp only [kR, h1, h2, h3, if_false, Nat.reduceEqDiff, reduceIte]
    by_cases c : j = 4
    · rw [if_pos c, s0_3 (v := -1) rfl rfl hp]; rfl
    · rw [if_neg c]; rfl
theorem lv_start {μ μ1 μ2 : sn_Mem} {us : Nat} (hb : Blk μ μ1 us (snC (m_sz μ))) (hs : ∀ b, b < m_sz μ + 46 → Sam μ1 μ2 b) (hz : m_sz μ2 = m_sz μ + 105) (hS : sn_St (m_sz μ + 46) μ2) (hV : sn_Vw (m_sz μ + 46) μ2 = s0) : Lv D0 (m_sz μ + 46) s0 (r0 (m_sz μ)) (kd0 s0) s0 h0 μ2 := by
  obtain ⟨b1, b2, b3, b4⟩ := hb
  have key : ∀ a, kd0 s0 a ≠ 0 → ∃ i c, (snC (m_sz μ))[i]? = some c ∧ i < 46 ∧ r0 (m_sz μ) a = m_sz μ + i ∧ Ck0 (m_sz μ) a c ∧ (a = if i < 21 then i + 1 else if i = 45 then 22 else 64 * (i - 21) + (64 + 51)) := fun a ha => by
    rcases s0_live ha with ⟨q1, q2⟩ | ⟨p, hp, rfl⟩
    · by_cases c : a = 22
      · subst c
        refine ⟨45, _, snC_45, by omega, rfl, ck0_z (by decide) (by decide) (by decide) (by decide) rfl rfl (fun j => rfl), rfl⟩
      · obtain ⟨x, hx, hc⟩ := snC_S (z := m_sz μ) q1 (show a ≤ 21 by omega)
        refine ⟨a - 1, x, hx, by omega, ?_, hc, ?_⟩
        · unfold r0; rw [if_pos (by omega)]
        · rw [if_pos (by omega)]; omega
    · refine ⟨21 + p, _, snC_P hp, by omega, r0_P _ _, ck0_P hp, ?_⟩
      rw [if_neg (by omega), if_neg (by omega)]; omega
  refine ⟨fun a ha => ?_, fun a b ha hb e => ?_, fun a ha => ?_, by omega, hS, hV⟩
  · obtain ⟨i, c, h1, h2, h3, ⟨k1, k2, k3, k4⟩, -⟩ := key a ha
    obtain ⟨d1, d2, d3, d4, d5⟩ := b4 i c h1
    rw [h3]
    obtain ⟨e1, e2, e3, e4, e5⟩ := hs (m_sz μ + i) (by omega)
    exact ⟨(e1.trans d1).trans k1, (e2.trans d2).trans k2, fun j => ((e3 j).trans (d3 j)).trans (k3 j), fun j => (e4 j).trans (d4 j), fun j => ⟨fun z => z.elim, fun _ => ((e5 j).trans (d5 j)).trans (k4 j)⟩⟩
  · obtain ⟨i, c, -, -, h3, -, h5⟩ := key a ha
    obtain ⟨i', c', -, -, h3', -, h5'⟩ := key b hb
    have : i = i' := by omega
    subst this
    rw [h5, h5']
  · obtain ⟨i, c, h1, h2, h3, -⟩ := key a ha
    omega
/-- both objects made -/
theorem rr_start {μ : sn_Mem} {P : Option (Option Value × sn_Mem) → Prop} {K : Option Nat → Option Nat → sn_M} (H : ∀ μ', Rr (m_sz μ) (m_sz μ + 46) 0 (m_sz μ + 105) (m_us μ + 20000) μ' → P (K (some (m_sz μ)) (some (m_sz μ + 46)) μ')) : P ((n_O 11 5 fun v163 => n_n 11 v163 fun o164 => c_V (f_Sn_init o164) (n_O 12 64 fun v165 => n_n 12 v165 fun o166 => c_V (f_Md_init o166) (K v163 v165))) μ) := by
  obtain ⟨μ1, e1, hb⟩ := x_Sn μ
  have hz1 : m_sz μ1 = m_sz μ + 46 := by rw [hb.1, snC_len]
  have hu1 : m_us μ1 = m_us μ + 1405 := hb.2.1
  have e2 : (n_O 11 5 fun v163 => n_n 11 v163 fun o164 => c_V (f_Sn_init o164) (n_O 12 64 fun v165 => n_n 12 v165 fun o166 => c_V (f_Md_init o166) (K v163 v165))) μ = (n_O 12 64 fun v165 => n_n 12 v165 fun o166 => c_V (f_Md_init o166) (K (some (m_sz μ)) v165)) μ1 := by
    show (if (if m_sz μ = m_sz μ then 11 else m_kd μ (m_sz μ)) = 11 then c_V (f_Sn_init (m_sz μ)) (n_O 12 64 fun v165 => n_n 12 v165 fun o166 => c_V (f_Md_init o166) (K (some (m_sz μ)) v165)) (u_N μ 11 5) else none) = _
    rw [if_pos rfl, if_pos rfl, x_cV e1]
  have e3 : (n_O 12 64 fun v165 => n_n 12 v165 fun o166 => c_V (f_Md_init o166) (K (some (m_sz μ)) v165)) μ1 = c_V (f_Md_init (m_sz μ1)) (K (some (m_sz μ)) (some (m_sz μ1))) (u_N μ1 12 64) := by
    show (if (if m_sz μ1 = m_sz μ1 then 12 else m_kd μ1 (m_sz μ1)) = 12 then c_V (f_Md_init (m_sz μ1)) (K (some (m_sz μ)) (some (m_sz μ1))) (u_N μ1 12 64) else none) = _
    rw [if_pos rfl, if_pos rfl]
  rw [e2, e3]
  have hd : Dn (fun μ' => Rr (m_sz μ) (m_sz μ + 46) 0 (m_sz μ + 105) (m_us μ + 20000) μ') (f_Md_init (m_sz μ1) (u_N μ1 12 64)) := by
    refine x_Md (μ := μ1) (P := Dn _) (fun μ2 a1 a2 a3 a4 a5 => ?_)
    have hV : sn_Vw (m_sz μ1) μ2 = s00 := Prod.ext (by funext k i; exact (a5 k i).1) (by funext k i; exact (a5 k i).2)
    obtain ⟨μ3, f1, f2, ⟨y1, y2, y3, y4, y5⟩, y6⟩ := lf_in1 (m_sz μ1) sn_fuel 0 μ2 a4 none s0 (by rw [hV]; exact gl_init)
    refine ⟨μ3, f1, r0 (m_sz μ), s0, h0, ?_, s0_GA, s0_T49, fun x n => by rw [s0_set]; simp, rfl, ?_, by omega, by omega⟩
    · refine lv_start hb (fun b hb' => ?_) (by omega) (by rw [← hz1]; exact a4.same y3 y4 y5) (by rw [← hz1]; exact f2)
      obtain ⟨c1, c2, c3, c4, c5⟩ := a3 b (by omega)
      exact ⟨by rw [y3]; exact c1, by rw [y4]; exact c2, fun j => (y6 b (Or.inl (by omega)) j).1.trans (c3 j), fun j => (y6 b (Or.inl (by omega)) j).2.trans (c4 j), fun j => by rw [y5]; exact c5 j⟩
    · show (s0.1 6 0).toNatClampNeg ≤ 0
      rw [s0_0 rfl rfl rfl rfl]; decide
  exact bk_cV hd (fun μ' h => by rw [hz1]; exact H μ' h)
