/-! LAYER 2: a link more: the class's memory before the new objects -/
section LkA
variable {σ τ η : sn_FS} {p q : Nat}
theorem kd0_E0 {e t : Nat} (he : ¬ e < 2 * nl σ) (h1 : 30 ≤ t) (h2 : t < 37) : kd0 σ (64 * e + (64 + t)) = 0 := by
  unfold kd0
  rw [kdL_O _ _ _ _ _ (by omega), if_pos ⟨h1, h2⟩, if_neg he]
theorem kd0_F0 {e t : Nat} (he : nbf σ e = false) (h1 : 40 ≤ t) (h2 : t < 43) : kd0 σ (64 * e + (64 + t)) = 0 := by
  unfold kd0
  rw [kdL_O _ _ _ _ _ (by omega), if_neg (by omega), if_pos ⟨h1, h2⟩, he]; rfl
theorem kd0_C0 {e : Nat} (he : nbf σ e = false) : kd0 σ (64 * e + (64 + 50)) = 0 := by
  unfold kd0
  rw [kdL_O _ _ _ _ _ (by omega), if_neg (by omega), if_neg (by omega), if_pos rfl, he]; rfl
theorem kd0_aE0 {e : Nat} (he : ¬ e < 2 * nl σ) : kd0 σ (aE e) = 0 := kd0_E0 (t := 30) he (by decide) (by decide)
theorem kd0_aF0 {e : Nat} (he : nbf σ e = false) : kd0 σ (aF e) = 0 := kd0_F0 (t := 40) he (by decide) (by decide)
theorem kd0_aC0 {e : Nat} (he : nbf σ e = false) : kd0 σ (aC e) = 0 := kd0_C0 he
theorem LkE.kst (h : LkE σ τ p q) {a j : Nat} (ha : kd0 σ a ≠ 0) (h8 : a ≠ 8) : k_st τ a j = k_st σ a j := by
  by_cases c : a < 64
  · unfold k_st
    rw [if_pos c, if_pos c, if_neg h8, if_neg h8, h.at (by decide)]
  · obtain ⟨e, t, ht, rfl⟩ : ∃ e t, t < 64 ∧ a = 64 * e + (64 + t) := ⟨a / 64 - 1, a % 64, by omega, by omega⟩
    obtain ⟨h1, h2, h3⟩ := k_md e t ht
    simp only [k_st, h1, h2, h3, if_false]
    by_cases c30 : t = 30
    · subst c30
      have he : e < 2 * nl σ := by
        by_cases z : e < 2 * nl σ
        · exact z
        · exact absurd (kd0_E0 z (by decide) (by decide)) ha
      rw [(h.exE he).1, (h.exE he).2, h.at (by decide)]
    · simp only [c30, if_false]
theorem LkE.kIo (h : LkE σ τ p q) {a j : Nat} (ha : kd0 σ a ≠ 0) (h8 : a ≠ 8) (hk : ∀ k i, k_loc a j = some (k, i) → τ.1 k i = σ.1 k i) : kI τ (hz (kd0 σ) η) a j = kI σ η a j := by
  unfold kI
  rw [h.kst ha h8, hz_1 ha]
  split
  · rename_i z hz
    exact hk z.1 z.2 hz
  · rfl
theorem LkE.kIn (h : LkE σ τ p q) {a j : Nat} (h3 : a = 3 → j ≠ 0) (h4 : a ≠ 4) (h5 : a ≠ 5) (k i : Nat) (hl : k_loc a j = some (k, i)) : τ.1 k i = σ.1 k i := by
  unfold k_loc at hl
  obtain ⟨k', h1, h2⟩ := Option.map_eq_some_iff.mp hl
  cases h2
  have hm := k_lookup h1
  have key : ∀ q ∈ k_T, (q.2 = 0 → q.1 = (4, 0)) ∧ (q.2 = 1 → q.1 = (5, 0)) ∧ (q.2 = 4 → q.1 = (3, 1)) := by decide
  obtain ⟨q0, q1, q4⟩ := key _ hm
  refine h.at ⟨fun z => ?_, fun z => ?_, fun z => ?_⟩
  · have := q0 z
    simp only [k_key] at this
    split at this
    · split at this
      · exact h4 (congrArg Prod.fst this)
      · have := congrArg Prod.snd this; simp at this
    · have := congrArg Prod.snd this; simp at this
  · have := q1 z
    simp only [k_key] at this
    split at this
    · split at this
      · exact h5 (congrArg Prod.fst this)
      · have := congrArg Prod.snd this; simp at this
    · have := congrArg Prod.snd this; simp at this
  · have := q4 z
    simp only [k_key] at this
    split at this
    · split at this
      · have := congrArg Prod.snd this; simp at this
      · have e1 : a = 3 := congrArg Prod.fst this
        have e2 : j + 1 = 1 := congrArg Prod.snd this
        exact h3 e1 (by omega)
    · have := congrArg Prod.fst this
      simp at this; omega
theorem LkE.kIE (h : LkE σ τ p q) {x n a j : Nat} (hx : x < 6) (hn : n < 6) (hpq : pq p q x n = true) (ha : kd0 σ a ≠ 0) : lkIm σ (kI σ η) x n a j = kI τ (hz (kd0 σ) η) a j := by
  have hne := pq_ne h.pl.1 hpq
  have hmm : p = min x n ∧ q = max x n := by simpa [pq] using hpq
  obtain ⟨h1, h2, h3', h4', h5', h6', h7', h8', h9', h10'⟩ := id h
  unfold lkIm
  simp only [sn_upE]
  by_cases c3 : a = 3
  · subst c3
    simp only [Nat.reduceEqDiff, reduceIte]
    by_cases c : j = 0
    · subst c
      rw [if_pos rfl]
      exact h5'.symm
    · rw [if_neg c]
      exact (h.kIo ha (by decide) (h.kIn (fun _ => c) (by decide) (by decide))).symm
  · rw [if_neg c3]
    by_cases c8 : a = 8
    · subst c8
      simp only [Nat.reduceEqDiff, reduceIte]
      rw [rd_a8, rd_a8]
      unfold setSz
      rw [h.set]
      have hj : pq p q (j / 6) (j % 6) = true ↔ j = n * 6 + x ∨ j = x * 6 + n := by
        rw [pq_or h1]
        rcases (pq_or h1).mp hpq with ⟨rfl, rfl⟩ | ⟨rfl, rfl⟩ <;> omega
      by_cases c1 : j = n * 6 + x
      · rw [if_pos c1, hj.mpr (Or.inl c1), show j / 6 = n by omega, show j % 6 = x by omega, setOf_sy]
        simp
      · rw [if_neg c1]
        by_cases c2 : j = x * 6 + n
        · rw [if_pos c2, hj.mpr (Or.inr c2), show j / 6 = x by omega, show j % 6 = n by omega]
          simp
        · rw [if_neg c2]
          have : pq p q (j / 6) (j % 6) = false := by
            cases z : pq p q (j / 6) (j % 6) with
            | false => rfl
            | true => rcases hj.mp z with w | w <;> contradiction
          rw [this]; simp
    · rw [if_neg c8, if_neg c8]
      by_cases c5 : a = 5
      · subst c5
        simp only [Nat.reduceEqDiff, reduceIte]
        rw [rd_a5, rd_a5]
        by_cases c : j = nl σ
        · rw [if_pos c, c, h8', hmm.2]
        · rw [if_neg c, (h6' j c).2]
      · rw [if_neg c5]
        by_cases c4 : a = 4
        · subst c4
          simp only [reduceIte]
          rw [rd_a4, rd_a4]
          by_cases c : j = nl σ
          · rw [if_pos c, c, h7', hmm.1]
          · rw [if_neg c, (h6' j c).1]
        · rw [if_neg c4]
          exact (h.kIo ha c8 (h.kIn (fun z => absurd z c3) c4 c5)).symm
theorem LkE.kend (h : LkE σ τ p q) {x : Nat} {v : Int32} (hv : v = -1 ∨ ∃ l, l < nl σ ∧ v = nI l) : k_end τ x v = k_end σ x v := by
  have := h.pl
  unfold k_end
  rcases hv with z | ⟨l, hl, z⟩
  · rw [if_pos z, if_pos z]
  · rw [z, nI_clamp (by omega), h.enE (by omega)]
theorem kR_sr {a j : Nat} (c : a < 64) (h : a ≠ 12 ∧ a ≠ 13 ∧ a ≠ 14 ∧ a ≠ 18 ∧ a ≠ 19) : kR σ a j = k_sr a j := by
  unfold kR
  rw [if_pos c, if_neg h.1, if_neg h.2.1, if_neg h.2.2.1, if_neg h.2.2.2.1, if_neg h.2.2.2.2]
theorem nbf_f {j : Nat} (d : ¬ (j < 144 ∧ nb σ (j / 24) (j % 24 / 4) = true)) : nbf σ j = false := by
  cases z : nbf σ j with
  | false => rfl
  | true => exact absurd (t_nbf z) d
theorem LkE.k12 (h : LkE σ τ p q) {ρ : Nat → Nat} {j : Nat} : fQ ρ (kd0 σ) (kR σ 12 j) = fQ ρ (kd0 σ) (kR τ 12 j) := by
  have hN := h.pl
  rw [rr_a12, rr_a12]
  by_cases d : j < 2 * nl σ
  · rw [if_pos d, if_pos (by omega)]
  · rw [if_neg d]
    by_cases d2 : j < 2 * nl τ
    · rw [if_pos d2, fQ_d (kd0_aE0 d), fQ_n]
    · rw [if_neg d2]
theorem LkE.k13 (h : LkE σ τ p q) {ρ : Nat → Nat} {j : Nat} : fQ ρ (kd0 σ) (kR σ 13 j) = fQ ρ (kd0 σ) (kR τ 13 j) := by
  have hN := h.pl
  rw [rr_a13, rr_a13, h.set]
  by_cases d : j % 4 < (setOf σ (j / 24) (j % 24 / 4)).length
  · rw [List.getElem?_append_left d, List.getElem?_eq_getElem d]
    have hl := in_setOf (List.getElem_mem d)
    simp only [Option.map_some]
    rw [h.enE (by omega)]
  · rw [List.getElem?_append_right (by omega), List.getElem?_eq_none (by omega)]
    cases z : (if pq p q (j / 24) (j % 24 / 4) = true then [nl σ] else [])[j % 4 - (setOf σ (j / 24) (j % 24 / 4)).length]? with
    | none => rw [Option.map_none, Option.map_none]
    | some l =>
      have hm := List.mem_of_getElem? z
      have hl : l = nl σ := by
        split at hm
        · simpa using hm
        · simp at hm
      subst hl
      rw [Option.map_none, Option.map_some, fQ_n, fQ_d (kd0_aE0 ?_)]
      unfold en; split <;> omega
theorem LkE.k14 (h : LkE σ τ p q) {ρ : Nat → Nat} {j : Nat} : fQ ρ (kd0 σ) (kR σ 14 j) = fQ ρ (kd0 σ) (kR τ 14 j) := by
  rw [rr_a14, rr_a14]
  by_cases d : j < 144 ∧ nb σ (j / 24) (j % 24 / 4) = true
  · rw [if_pos d, if_pos ⟨d.1, h.nb1 d.2⟩]
  · rw [if_neg d]
    by_cases d2 : j < 144 ∧ nb τ (j / 24) (j % 24 / 4) = true
    · rw [if_pos d2, fQ_n, fQ_d (kd0_aF0 (nbf_f d))]
    · rw [if_neg d2]
theorem LkE.k19 (h : LkE σ τ p q) {ρ : Nat → Nat} {j : Nat} : fQ ρ (kd0 σ) (kR σ 19 j) = fQ ρ (kd0 σ) (kR τ 19 j) := by
  rw [rr_a19, rr_a19]
  by_cases d : j < 144 ∧ nb σ (j / 24) (j % 24 / 4) = true
  · rw [if_pos d, if_pos ⟨d.1, h.nb1 d.2⟩]
  · rw [if_neg d]
    by_cases d2 : j < 144 ∧ nb τ (j / 24) (j % 24 / 4) = true
    · rw [if_pos d2, fQ_n, fQ_d (kd0_aC0 (nbf_f d))]
    · rw [if_neg d2]
theorem LkE.kRs (h : LkE σ τ p q) {ρ : Nat → Nat} {a j : Nat} (c : a < 64) : fQ ρ (kd0 σ) (kR σ a j) = fQ ρ (kd0 σ) (kR τ a j) := by
  by_cases c12 : a = 12
  · rw [c12]; exact h.k12
  · by_cases c13 : a = 13
    · rw [c13]; exact h.k13
    · by_cases c14 : a = 14
      · rw [c14]; exact h.k14
      · by_cases c18 : a = 18
        · rw [c18, rr_a18, rr_a18]
        · by_cases c19 : a = 19
          · rw [c19]; exact h.k19
          · rw [kR_sr c ⟨c12, c13, c14, c18, c19⟩, kR_sr c ⟨c12, c13, c14, c18, c19⟩]
theorem LkE.kRE (h : LkE σ τ p q) (hA : GA σ η) {ρ : Nat → Nat} {a j : Nat} (ha : kd0 σ a ≠ 0) : fQ ρ (kd0 σ) (kR σ a j) = fQ ρ (kd0 σ) (kR τ a j) := by
  by_cases c : a < 64
  · exact h.kRs c
  · obtain ⟨e, t, ht, rfl⟩ : ∃ e t, t < 64 ∧ a = 64 * e + (64 + t) := ⟨a / 64 - 1, a % 64, by omega, by omega⟩
    obtain ⟨h1, h2, h3⟩ := k_md e t ht
    simp only [kR, h1, h2, h3, if_false, h.at (k := 41) (by decide), h.at (k := 43) (by decide), h.at (k := 57) (by decide), h.at (k := 62) (by decide)]
    by_cases c40 : t = 40
    · subst c40
      have he : nbf σ e = true := by
        cases z : nbf σ e with
        | true => rfl
        | false => exact absurd (kd0_F0 (t := 40) z (by decide) (by decide)) ha
      have hc := hA.1.1.2.1.cur e (t_nbf he).1
      rw [h.kend hc.1, h.kend hc.2]
    · simp only [c40, if_false]
theorem LkE.rl (h : LkE σ τ p q) (hA : GA σ η) {ρ : Nat → Nat} {μ : sn_Mem} {x n : Nat} (hx : x < 6) (hn : n < 6) (hpq : pq p q x n = true) (hR : sn_Rn ρ (kd0 σ) (Kg (kd0 σ) (lkIm σ (kI σ η) x n) η.2 (kR σ)) μ) : Rl D0 ρ (kd0 σ) τ (hz (kd0 σ) η) μ := fun a ha => by
  obtain ⟨d1, d2, d3, d4, d5⟩ := hR.2.1 a ha
  refine ⟨d1, d2, fun j => (d3 j).trans (h.kIE hx hn hpq ha), fun j => (d4 j).trans (hz_2 ha j).symm, fun j => ⟨fun z => z.elim, fun _ => ?_⟩⟩
  rw [d5 j, ← h.kRE hA ha]
  show (kR σ a j).map ρ = _
  cases hr : kR σ a j with
  | none => rfl
  | some b => rw [fQ_s (hR.2.2 a j ha b hr)]; rfl
end LkA
