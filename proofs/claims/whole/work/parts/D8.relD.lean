/-! LAYER 2: a link more: ends made -/
section LkD
variable {σ τ η θ : sn_FS} {p q M ne : Nat} {F C : Nat → Bool} {σr : sn_FS} {ρ : Nat → Nat} {μ : sn_Mem} {P : Option (Option Value × sn_Mem) → Prop}
theorem kst30 {e j : Nat} : k_st τ (64 * e + (64 + 30)) j = if j = 1 then some (nI (e / 2)) else if j = 2 then some (nI (ex τ e)) else if j = 3 then some (nI (ot τ e)) else if j = 18 then some (ccd (τ.1 19 e)) else none := by
  obtain ⟨h1, h2, h3⟩ := k_md e 30 (by decide)
  simp only [k_st, h1, h2, h3, if_false, if_true, Nat.reduceEqDiff, reduceIte]
theorem kR30 {e j : Nat} : kR τ (64 * e + (64 + 30)) j = if j = 0 then some 2 else if j = 4 then some (64 * e + (64 + 30) + 2) else if j = 5 then some (64 * e + (64 + 30) + 1) else none := by
  obtain ⟨h1, h2, h3⟩ := k_md e 30 (by decide)
  simp only [kR, h1, h2, h3, if_false, if_true, Nat.reduceEqDiff, reduceIte]; rfl
theorem kR32 {e j : Nat} : kR τ (64 * e + (64 + 32)) j = if j = 0 then some 2 else if j = 7 then some (64 * e + (64 + 30) + 3) else if j = 8 then some (64 * e + (64 + 30) + 5) else none := by
  obtain ⟨h1, h2, h3⟩ := k_md e 32 (by decide)
  simp only [kR, h1, h2, h3, if_false, if_true, Nat.reduceEqDiff, reduceIte]; rfl
theorem kR33 {e j : Nat} : kR τ (64 * e + (64 + 33)) j = if j = 0 then some (64 * e + (64 + 30) + 4) else none := by
  obtain ⟨h1, h2, h3⟩ := k_md e 33 (by decide)
  simp only [kR, h1, h2, h3, if_false, if_true, Nat.reduceEqDiff, reduceIte]; rfl
theorem kR35 {e j : Nat} : kR τ (64 * e + (64 + 35)) j = if j = 0 then some (64 * e + (64 + 30) + 6) else none := by
  obtain ⟨h1, h2, h3⟩ := k_md e 35 (by decide)
  simp only [kR, h1, h2, h3, if_false, if_true, Nat.reduceEqDiff, reduceIte]; rfl
theorem kR3n {e t j : Nat} (ht : t = 31 ∨ t = 34 ∨ t = 36) : kR τ (64 * e + (64 + t)) j = none := by
  obtain ⟨h1, h2, h3⟩ := k_md e t (by omega)
  rcases ht with rfl | rfl | rfl <;> simp only [kR, h1, h3, if_false, Nat.reduceEqDiff, reduceIte]
theorem kdL_chE {a : Nat} (ha : ¬ (64 * ne + (64 + 30) ≤ a ∧ a < 64 * ne + (64 + 30) + 7)) : kdL (ne + 1) F C a = kdL ne F C a := by
  by_cases c : a < 64
  · rw [kdL_S _ _ _ _ c, kdL_S _ _ _ _ c]
  · obtain ⟨e, t, ht, rfl⟩ : ∃ e t, t < 64 ∧ a = 64 * e + (64 + t) := ⟨a / 64 - 1, a % 64, by omega, by omega⟩
    rw [kdL_O _ _ _ _ _ ht, kdL_O _ _ _ _ _ ht]
    by_cases d : 30 ≤ t ∧ t < 37
    · rw [if_pos d, if_pos d]
      by_cases z : e < ne
      · rw [if_pos z, if_pos (by omega)]
      · rw [if_neg z, if_neg (by omega)]
    · rw [if_neg d, if_neg d]
theorem lv_setSize {D : Nat → Nat → Prop} {kk : Nat → Nat} (hL : Lv D M σr ρ kk τ θ μ) (k3 : kk 3 = 5) (k8 : kk 8 = 21) (hD : ¬ D 3 5) {x n : Nat} (hx : x < 6) (hn : n < 6) : f_Pl_setSize (ρ 3) (nI x) (nI n) μ = some (some (.int (nI (setOf τ x n).length)), μ) := by
  have o1 : ∀ a : Nat, a < 6 → (nI a < 0) = False := fun a ha => eq_false (nI_pos (by omega))
  have o2 : ((6 : Int32) ≤ nI x) = False := eq_false (nI_ge (b := 6) hx (by omega))
  have o3 : (nI n < (6 : Int32)) = True := eq_true (nI_lt (b := 6) hn (by omega))
  have e1 : nI x * (6 : Int32) + nI n = nI (x * 6 + n) := by
    have : nI x * (6 : Int32) = nI (x * 6) := pk_mul x 6
    rw [this, nI_add]
  have k80 : kk 8 ≠ 0 := by rw [k8]; decide
  simp only [f_Pl_setSize, o1 x hx, o1 n hn, o2, o3, if_false, if_true]
  rw [lv_gR hL k3 (by decide) hD, rr_s3_5, fQ_s k80, e1, lv_aI hL k8 (by decide) (show x * 6 + n < 36 by omega) (by decide), rd_a8]
  unfold setSz
  rw [show (x * 6 + n) / 6 = x by omega, show (x * 6 + n) % 6 = n by omega]; rfl
theorem LSt.endc (h : LkE σ τ p q) (hA : GA σ η) (hS : LSt σ τ η M σr ne F C ρ μ) (hlt : ne < 2 * nl τ) {μ1 : sn_Mem} (hb1 : Blk μ μ1 137 (enC (m_sz μ) (nI (ne / 2)) (nI (ex τ ne)) (nI (ot τ ne)) (ρ 2))) : Lv (fun a j => kdL ne F C a ≠ 0 ∧ ∃ i, i < 7 ∧ kR τ a j = some (64 * ne + (64 + 30) + i)) M σr (rX ρ (64 * ne + (64 + 30)) 7 (m_sz μ)) (kdL (ne + 1) F C) τ (hz (kd0 σ) η) μ1 := by
  obtain ⟨hL, f1, f2, c1, c2, n1, n2⟩ := hS
  have hN := h.pl
  obtain ⟨fr, v20, v21, v27, v29⟩ := hA.fre (e := ne) n1 (by omega)
  have at' : ∀ k, k ∈ nrL → τ.1 k ne = frv k := fun k hk => by rw [h.at (by have := nr_of hk; omega)]; exact fr k hk
  have dead : ∀ i, i < 7 → kd0 σ (64 * ne + (64 + 30) + i) = 0 := fun i hi => by
    rw [show 64 * ne + (64 + 30) + i = 64 * ne + (64 + (30 + i)) by omega]
    exact kd0_E0 (by omega) (by omega) (by omega)
  have live : ∀ i, i < 7 → kdL (ne + 1) F C (64 * ne + (64 + 30) + i) = kdE (30 + i) := fun i hi => by
    rw [show 64 * ne + (64 + 30) + i = 64 * ne + (64 + (30 + i)) by omega, kdL_O _ _ _ _ _ (by omega), if_pos (by omega), if_pos (by omega)]
  have hlive : ∀ i, i < 7 → kdL (ne + 1) F C (64 * ne + (64 + 30) + i) ≠ 0 := fun i hi => by
    rw [live i hi]; exact kdE_n _ (by omega) (by omega)
  have l2 : kdL (ne + 1) F C 2 ≠ 0 := kdL_S1 (by decide) (by decide)
  have r2 : rX ρ (64 * ne + (64 + 30)) 7 (m_sz μ) 2 = ρ 2 := rX_o (by omega)
  refine hL.ext hb1 (64 * ne + (64 + 30)) (kdL (ne + 1) F C) (fun i hi => ?_) (fun a ha => kdL_chE ha) (fun i c hc => ?_)
  · have hi : i < 7 := hi
    rw [show 64 * ne + (64 + 30) + i = 64 * ne + (64 + (30 + i)) by omega, kdL_O _ _ _ _ _ (by omega), if_pos (by omega), if_neg (by omega)]
  · show _ ∧ _ ∧ _ ∧ _ ∧ _ ∧ ∀ j, c.2.2.2 j = fQ (rX ρ (64 * ne + (64 + 30)) 7 (m_sz μ)) (kdL (ne + 1) F C) (kR τ (64 * ne + (64 + 30) + i) j)
    match i with
    | 0 =>
      obtain rfl := Option.some.inj hc
      obtain ⟨m1, m2, m3⟩ := k_md ne 30 (by decide)
      refine ⟨live 0 (by decide), (by decide : (2 : Nat) ≠ 0), ?_, fun j => ?_, fun j => hz_00 (dead 0 (by decide)) j, fun j => ?_⟩
      · show 19 = kL (64 * ne + (64 + 30))
        simp only [kL, m1, m3, if_false, Nat.reduceEqDiff, reduceIte]
      · show cUI (cUI (cUI (cUI cI0 7 0) 1 (nI (ne / 2))) 2 (nI (ex τ ne))) 3 (nI (ot τ ne)) j = kI τ _ (64 * ne + (64 + 30)) j
        by_cases j1 : j = 1
        · subst j1; rw [kI_O (by decide), kst30]; rfl
        · by_cases j2 : j = 2
          · subst j2; rw [kI_O (by decide), kst30]; rfl
          · by_cases j3 : j = 3
            · subst j3; rw [kI_O (by decide), kst30]; rfl
            · have e0 : cUI (cUI (cUI (cUI cI0 7 0) 1 (nI (ne / 2))) 2 (nI (ex τ ne))) 3 (nI (ot τ ne)) j = 0 := by simp only [cUI, j1, j2, j3, if_false, cI0, ite_self]
              rw [e0]
              by_cases j18 : j = 18
              · subst j18
                rw [kI_O (by decide), kst30]
                show (0 : Int32) = ccd (τ.1 19 ne)
                rw [at' 19 (by decide)]; rfl
              · refine (kI_z (by decide) (by rw [kst30, if_neg j1, if_neg j2, if_neg j3, if_neg j18]) (fun q hq e => ?_) (hz_0 (dead 0 (by decide)) j)).symm
                have key : ∀ q ∈ k_T, q.1.1 = 64 + 30 → q.2 ∈ nrL ∧ frv q.2 = 0 := by decide
                obtain ⟨w1, w2⟩ := key q hq e
                rw [at' _ w1, w2]
      · show cUR (cUR (cUR cR0 5 (some (m_sz μ + 1))) 0 (some (ρ 2))) 4 (some (m_sz μ + 2)) j = fQ _ _ (kR τ (64 * ne + (64 + 30)) j)
        rw [kR30]
        unfold cUR cR0
        by_cases j0 : j = 0
        · subst j0
          show some (ρ 2) = fQ _ _ (some 2)
          rw [fQ_s l2, r2]
        · by_cases j4 : j = 4
          · subst j4
            show some (m_sz μ + 2) = fQ _ _ (some (64 * ne + (64 + 30) + 2))
            rw [fQ_s (hlive 2 (by decide)), rX_i (by decide)]
          · rw [if_neg j4, if_neg j0, if_neg j0, if_neg j4]
            by_cases j5 : j = 5
            · rw [if_pos j5, if_pos j5, fQ_s (hlive 1 (by decide)), rX_i (by decide)]
            · rw [if_neg j5, if_neg j5]; rfl
    | 1 =>
      obtain rfl := Option.some.inj hc
      obtain ⟨m1, m2, m3⟩ := k_md ne 31 (by decide)
      refine ⟨live 1 (by decide), (by decide : (9 : Nat) ≠ 0), ?_, fun j => ?_, fun j => hz_00 (dead 1 (by decide)) j, fun j => ?_⟩
      · show 7 = kL (64 * ne + (64 + 31))
        simp only [kL, m1, m3, if_false, Nat.reduceEqDiff, reduceIte]
      · show (0 : Int32) = kI τ _ (64 * ne + (64 + 31)) j
        refine (kI_z (by decide) (kst_n (by decide) (by decide)) (fun q hq e => ?_) (hz_0 (dead 1 (by decide)) j)).symm
        have key : ∀ q ∈ k_T, q.1.1 = 64 + 31 → q.2 ∈ nrL ∧ frv q.2 = 0 := by decide
        obtain ⟨w1, w2⟩ := key q hq e
        rw [at' _ w1, w2]
      · show none = fQ _ _ (kR τ (64 * ne + (64 + 31)) j)
        rw [kR3n (by decide)]; rfl
    | 2 =>
      obtain rfl := Option.some.inj hc
      obtain ⟨m1, m2, m3⟩ := k_md ne 32 (by decide)
      refine ⟨live 2 (by decide), (by decide : (10 : Nat) ≠ 0), ?_, fun j => ?_, fun j => hz_00 (dead 2 (by decide)) j, fun j => ?_⟩
      · show 9 = kL (64 * ne + (64 + 32))
        simp only [kL, m1, m3, if_false, Nat.reduceEqDiff, reduceIte]
      · show cUI (cUI (cUI (cUI (cUI (cUI cI0 1 127) 2 127) 3 1) 4 1) 5 (-1)) 6 0 j = kI τ _ (64 * ne + (64 + 32)) j
        rw [kI_O (by decide), kst_n (by decide) (by decide)]
        match j with
        | 0 => exact (hz_0 (dead 2 (by decide)) 0).symm
        | 1 => exact (at' 12 (by decide)).symm
        | 2 => exact (at' 13 (by decide)).symm
        | 3 => exact (at' 14 (by decide)).symm
        | 4 => exact (at' 15 (by decide)).symm
        | 5 =>
          show (-1 : Int32) = τ.1 21 ne
          rw [h.at (by decide)]; exact v21.symm
        | 6 =>
          show (0 : Int32) = τ.1 20 ne
          rw [h.at (by decide)]; exact v20.symm
        | j + 7 =>
          have key : ∀ q ∈ k_T, q.1.1 = 64 + 32 → q.1.2 ≤ 7 := by decide
          rw [lk_none (fun q hq e => by have := key q hq e; omega)]
          exact (hz_0 (dead 2 (by decide)) (j + 7)).symm
      · show cUR (cUR (cUR cR0 7 (some (m_sz μ + 3))) 8 (some (m_sz μ + 5))) 0 (some (ρ 2)) j = fQ _ _ (kR τ (64 * ne + (64 + 32)) j)
        rw [kR32]
        unfold cUR cR0
        by_cases j0 : j = 0
        · subst j0
          rw [if_pos rfl, if_pos rfl, fQ_s l2, r2]
        · rw [if_neg j0, if_neg j0]
          by_cases j7 : j = 7
          · subst j7
            rw [if_neg (by decide), if_pos rfl, if_pos rfl, fQ_s (hlive 3 (by decide)), rX_i (by decide)]
          · rw [if_neg j7, if_neg j7]
            by_cases j8 : j = 8
            · rw [if_pos j8, if_pos j8, fQ_s (hlive 5 (by decide)), rX_i (by decide)]
            · rw [if_neg j8, if_neg j8]; rfl
    | 3 =>
      obtain rfl := Option.some.inj hc
      obtain ⟨m1, m2, m3⟩ := k_md ne 33 (by decide)
      refine ⟨live 3 (by decide), (by decide : (6 : Nat) ≠ 0), ?_, fun j => ?_, fun j => hz_00 (dead 3 (by decide)) j, fun j => ?_⟩
      · show 3 = kL (64 * ne + (64 + 33))
        simp only [kL, m1, m3, if_false, Nat.reduceEqDiff, reduceIte]
      · show (0 : Int32) = kI τ _ (64 * ne + (64 + 33)) j
        refine (kI_z (by decide) (kst_n (by decide) (by decide)) (fun q hq e => ?_) (hz_0 (dead 3 (by decide)) j)).symm
        have key : ∀ q ∈ k_T, q.1.1 = 64 + 33 → q.2 = 27 := by decide
        rw [key q hq e, h.at (by decide)]; exact v27
      · show cUR cR0 0 (some (m_sz μ + 4)) j = fQ _ _ (kR τ (64 * ne + (64 + 33)) j)
        rw [kR33]
        unfold cUR cR0
        by_cases j0 : j = 0
        · rw [if_pos j0, if_pos j0, fQ_s (hlive 4 (by decide)), rX_i (by decide)]
        · rw [if_neg j0, if_neg j0]; rfl
    | 4 =>
      obtain rfl := Option.some.inj hc
      obtain ⟨m1, m2, m3⟩ := k_md ne 34 (by decide)
      refine ⟨live 4 (by decide), (by decide : (22 : Nat) ≠ 0), ?_, fun j => ?_, fun j => hz_00 (dead 4 (by decide)) j, fun j => ?_⟩
      · show 32 = kL (64 * ne + (64 + 34))
        simp only [kL, m1, m3, if_false, Nat.reduceEqDiff, reduceIte]
      · show (0 : Int32) = kI τ _ (64 * ne + (64 + 34)) j
        refine (kI_z (by decide) (kst_n (by decide) (by decide)) (fun q hq e => ?_) (hz_0 (dead 4 (by decide)) j)).symm
        have key : ∀ q ∈ k_T, q.1.1 ≠ 64 + 34 := by decide
        exact absurd e (key q hq)
      · show none = fQ _ _ (kR τ (64 * ne + (64 + 34)) j)
        rw [kR3n (by decide)]; rfl
    | 5 =>
      obtain rfl := Option.some.inj hc
      obtain ⟨m1, m2, m3⟩ := k_md ne 35 (by decide)
      refine ⟨live 5 (by decide), (by decide : (6 : Nat) ≠ 0), ?_, fun j => ?_, fun j => hz_00 (dead 5 (by decide)) j, fun j => ?_⟩
      · show 3 = kL (64 * ne + (64 + 35))
        simp only [kL, m1, m3, if_false, Nat.reduceEqDiff, reduceIte]
      · show (0 : Int32) = kI τ _ (64 * ne + (64 + 35)) j
        refine (kI_z (by decide) (kst_n (by decide) (by decide)) (fun q hq e => ?_) (hz_0 (dead 5 (by decide)) j)).symm
        have key : ∀ q ∈ k_T, q.1.1 = 64 + 35 → q.2 = 29 := by decide
        rw [key q hq e, h.at (by decide)]; exact v29
      · show cUR cR0 0 (some (m_sz μ + 6)) j = fQ _ _ (kR τ (64 * ne + (64 + 35)) j)
        rw [kR35]
        unfold cUR cR0
        by_cases j0 : j = 0
        · rw [if_pos j0, if_pos j0, fQ_s (hlive 6 (by decide)), rX_i (by decide)]
        · rw [if_neg j0, if_neg j0]; rfl
    | 6 =>
      obtain rfl := Option.some.inj hc
      obtain ⟨m1, m2, m3⟩ := k_md ne 36 (by decide)
      refine ⟨live 6 (by decide), (by decide : (22 : Nat) ≠ 0), ?_, fun j => ?_, fun j => hz_00 (dead 6 (by decide)) j, fun j => ?_⟩
      · show 64 = kL (64 * ne + (64 + 36))
        simp only [kL, m1, m3, if_false, Nat.reduceEqDiff, reduceIte]
      · show (0 : Int32) = kI τ _ (64 * ne + (64 + 36)) j
        refine (kI_z (by decide) (kst_n (by decide) (by decide)) (fun q hq e => ?_) (hz_0 (dead 6 (by decide)) j)).symm
        have key : ∀ q ∈ k_T, q.1.1 ≠ 64 + 36 := by decide
        exact absurd e (key q hq)
      · show none = fQ _ _ (kR τ (64 * ne + (64 + 36)) j)
        rw [kR3n (by decide)]; rfl
    | i + 7 => cases hc
/-- one end made -/
theorem LSt.end_ (h : LkE σ τ p q) (hA : GA σ η) (h4 : S4 τ) (hS : LSt σ τ η M σr ne F C ρ μ) (hlt : ne < 2 * nl τ) (H : ∀ ρ' μ', LSt σ τ η M σr (ne + 1) F C ρ' μ' → (∀ a, a < 64 → ρ' a = ρ a) → m_sz μ' = m_sz μ + 7 → m_us μ' = m_us μ + 137 → P (f_Tr_addEnd_60 (ρ' 11) sn_fuel (nI (ot τ ne)) (nI (ex τ ne * 6 + ot τ ne)) 0 μ')) : P (f_Tr_addEnd (ρ 11) (nI ne) (nI (ex τ ne)) (nI (ot τ ne)) μ) := by
  have hS0 := hS
  obtain ⟨hL, f1, f2, c1, c2, n1, n2⟩ := hS
  have hN := h.pl
  obtain ⟨en1, en2⟩ := h.enN n1 hlt
  have hxn : ex τ ne < 6 ∧ ot τ ne < 6 ∧ pq p q (ex τ ne) (ot τ ne) = true := by
    rcases en2 with ⟨-, q1, q2⟩ | ⟨-, q1, q2⟩
    · rw [q1, q2]; exact ⟨by omega, by omega, (pq_or hN.1).mpr (Or.inl ⟨rfl, rfl⟩)⟩
    · rw [q1, q2]; exact ⟨by omega, by omega, (pq_or hN.1).mpr (Or.inr ⟨rfl, rfl⟩)⟩
  obtain ⟨hx, hn, hpq⟩ := hxn
  have hset := h.set (ex τ ne) (ot τ ne)
  rw [hpq, if_pos rfl] at hset
  have hlen4 := h4 (ex τ ne) (ot τ ne)
  have hen : en τ (nl σ) (ex τ ne) = ne := by
    unfold en
    rw [h.new.1]
    rcases en2 with ⟨q0, q1, q2⟩ | ⟨q0, q1, q2⟩
    · rw [q1, if_pos rfl]; omega
    · rw [q1, if_neg (by omega)]; omega
  have e1 : nI (ex τ ne) * (6 : Int32) + nI (ot τ ne) = nI (ex τ ne * 6 + ot τ ne) := by
    have : nI (ex τ ne) * (6 : Int32) = nI (ex τ ne * 6) := pk_mul _ 6
    rw [this, nI_add]
  have e2 : nI ne / (2 : Int32) = nI (ne / 2) := pk_div (d := 2) (by omega) (by decide) (by decide)
  have k11 : kdL ne F C 11 = 8 := rfl
  have d11 := hL.1 11 (by rw [k11]; decide)
  unfold f_Tr_addEnd
  show P ((n_O 2 19 fun v => g_R 8 1 (some (ρ 11)) fun w => n_n 2 v fun o => c_V (f_En_init o (nI ne / (2 : Int32)) (nI (ex τ ne)) (nI (ot τ ne)) w) (g_R 8 2 (some (ρ 11)) fun v10 => b_R 24 2 v10 (nI ne) v (g_R 8 3 (some (ρ 11)) fun v11 => g_R 8 0 (some (ρ 11)) fun v12 => n_n 5 v12 fun a13 => c_I (f_Pl_setSize a13 (nI (ex τ ne)) (nI (ot τ ne))) fun v14 => b_R 24 2 v11 ((((nI (ex τ ne) * (6 : Int32) + nI (ot τ ne)) * (4 : Int32)) + v14) - (1 : Int32)) v (f_Tr_addEnd_60 (ρ 11) sn_fuel (nI (ot τ ne)) (nI (ex τ ne) * (6 : Int32) + nI (ot τ ne)) (0 : Int32))))) μ)
  rw [e1, e2]
  refine bk_En (Blk.rf (μ := μ)) (T := ρ 11) (clk := ρ 2) (hL.2.2.1 11 (by rw [k11]; decide)).1 (d11.1.trans k11) (by rw [(d11.2.2.2.2 1).2 id, rr_s11_1]; exact fQ_s (kdL_S1 (by decide) (by decide))) (fun μ1 hb1 => ?_)
  have hb1 : Blk μ μ1 137 (enC (m_sz μ) (nI (ne / 2)) (nI (ex τ ne)) (nI (ot τ ne)) (ρ 2)) := hb1
  have hE := LSt.endc h hA hS0 hlt hb1
  obtain ⟨ρ', hρ⟩ : ∃ ρ', ρ' = rX ρ (64 * ne + (64 + 30)) 7 (m_sz μ) := ⟨_, rfl⟩
  have hst : ∀ a, a < 64 → ρ' a = ρ a := fun a ha => by rw [hρ]; exact rX_o (by omega)
  have hz0 : ρ' (64 * ne + (64 + 30)) = m_sz μ := by rw [hρ]; exact rX_i (i := 0) (by decide)
  rw [← hρ] at hE
  have hb0 : kdL (ne + 1) F C (64 * ne + (64 + 30)) = 2 := by rw [kdL_O _ _ _ _ _ (by decide), if_pos (by decide), if_pos (by omega)]; rfl
  have lS : ∀ a, 1 ≤ a → a ≤ 22 → kdL (ne + 1) F C a ≠ 0 := fun a q1 q2 => kdL_S1 q1 q2
  have nD : ∀ a j b, kR τ a j = some b → b ≤ 22 → ¬ (kdL ne F C a ≠ 0 ∧ ∃ i, i < 7 ∧ kR τ a j = some (64 * ne + (64 + 30) + i)) := fun a j b q1 q2 q3 => by
    obtain ⟨-, i, -, q4⟩ := q3
    rw [q1] at q4
    have := Option.some.inj q4
    omega
  have k12 : kR τ 12 ne = some (64 * ne + (64 + 30)) := by rw [rr_a12, if_pos hlt]; rfl
  show P ((g_R 8 2 (some (ρ 11)) fun v10 => b_R 24 2 v10 (nI ne) (some (m_sz μ)) (g_R 8 3 (some (ρ 11)) fun v11 => g_R 8 0 (some (ρ 11)) fun v12 => n_n 5 v12 fun a13 => c_I (f_Pl_setSize a13 (nI (ex τ ne)) (nI (ot τ ne))) fun v14 => b_R 24 2 v11 ((nI (ex τ ne * 6 + ot τ ne) * (4 : Int32)) + v14 - (1 : Int32)) (some (m_sz μ)) (f_Tr_addEnd_60 (ρ 11) sn_fuel (nI (ot τ ne)) (nI (ex τ ne * 6 + ot τ ne)) (0 : Int32)))) μ1)
  rw [← hst 11 (by decide), ← hz0]
  rw [lv_gR hE (a := 11) (c := 8) rfl (by decide) (nD 11 2 12 rr_s11_2 (by decide)), rr_s11_2, fQ_s (lS 12 (by decide) (by decide))]
  rw [lv_bR hE (a := 12) (c := 24) rfl (by decide) (show ne < 20 by omega) (by decide) hb0 (by decide)]
  have hput := hE.put (A := 12) (p := ne) (b := 64 * ne + (64 + 30)) (lS 12 (by decide) (by decide)) (by rw [hb0]; decide) k12
  have nD2 : ∀ a j b, kR τ a j = some b → b ≤ 22 → ¬ ((kdL ne F C a ≠ 0 ∧ ∃ i, i < 7 ∧ kR τ a j = some (64 * ne + (64 + 30) + i)) ∧ ¬ (a = 12 ∧ j = ne)) := fun a j b q1 q2 q3 => nD a j b q1 q2 q3.1
  rw [lv_gR hput (a := 11) (c := 8) rfl (by decide) (nD2 11 3 13 rr_s11_3 (by decide)), rr_s11_3, fQ_s (lS 13 (by decide) (by decide))]
  rw [lv_gR hput (a := 11) (c := 8) rfl (by decide) (nD2 11 0 3 rr_s11_0 (by decide)), rr_s11_0, fQ_s (lS 3 (by decide) (by decide))]
  rw [lv_nn hput (a := 3) (c := 5) rfl (by decide), x_cI (lv_setSize hput rfl rfl (nD2 3 5 8 rr_s3_5 (by decide)) hx hn)]
  have hl1 : (setOf τ (ex τ ne) (ot τ ne)).length = (setOf σ (ex τ ne) (ot τ ne)).length + 1 := by rw [hset]; simp
  obtain ⟨L, hLL⟩ : ∃ L, L = (setOf σ (ex τ ne) (ot τ ne)).length := ⟨_, rfl⟩
  rw [← hLL] at hl1
  have e3 : (nI (ex τ ne * 6 + ot τ ne) * (4 : Int32)) + nI (setOf τ (ex τ ne) (ot τ ne)).length - (1 : Int32) = nI ((ex τ ne * 6 + ot τ ne) * 4 + L) := by
    have : nI (ex τ ne * 6 + ot τ ne) * (4 : Int32) = nI ((ex τ ne * 6 + ot τ ne) * 4) := pk_mul _ 4
    rw [this, nI_add, show (1 : Int32) = nI 1 from rfl, nI_sub (by omega), hl1]; rfl
  rw [e3]
  have k13 : kR τ 13 ((ex τ ne * 6 + ot τ ne) * 4 + L) = some (64 * ne + (64 + 30)) := by
    rw [rr_a13, show ((ex τ ne * 6 + ot τ ne) * 4 + L) / 24 = ex τ ne by omega, show ((ex τ ne * 6 + ot τ ne) * 4 + L) % 24 / 4 = ot τ ne by omega, show ((ex τ ne * 6 + ot τ ne) * 4 + L) % 4 = L by omega, hset, hLL, List.getElem?_append_right (Nat.le_refl _), Nat.sub_self]
    show some (aE (en τ (nl σ) (ex τ ne))) = _
    rw [hen]; rfl
  rw [lv_bR hput (a := 13) (c := 24) rfl (by decide) (show (ex τ ne * 6 + ot τ ne) * 4 + L < 144 by omega) (by decide) hb0 (by decide)]
  have hput2 := hput.put (A := 13) (p := (ex τ ne * 6 + ot τ ne) * 4 + L) (b := 64 * ne + (64 + 30)) (lS 13 (by decide) (by decide)) (by rw [hb0]; decide) k13
  refine H ρ' _ ⟨hput2.clr (fun a j ha => ?_), f1, f2, c1, c2, by omega, by omega⟩ hst hb1.1 hb1.2.1
  rintro ⟨⟨⟨d1, i, hi, d2⟩, d3⟩, d4⟩
  rcases uq_E h hA f2 n1 hlt d1 hi d2 with w | ⟨w1, w2⟩
  · exact d3 w
  · refine d4 ⟨w1, ?_⟩
    rw [w2, hl1]; omega
end LkD
