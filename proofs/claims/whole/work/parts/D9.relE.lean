/-! LAYER 2: link, both alike -/
section LkE2
variable {σ τ η : sn_FS} {p q M ne : Nat} {F C : Nat → Bool} {σr : sn_FS} {ρ : Nat → Nat} {μ : sn_Mem}
theorem LSt.st {a c : Nat} (hS : LSt σ τ η M σr ne F C ρ μ) (hc : kdS.getD a 0 = c) (ha : a < 64) : kdL ne F C a = c := by rw [kdL_S _ _ _ _ ha, hc]
/-- four flows -/
theorem LSt.fls (h : LkE σ τ p q) (hA : GA σ η) {x n : Nat} (hx : x < 6) (hn : n < 6) (hb : nb τ x n = true) : ∀ (r s fuel : Nat) (ρ : Nat → Nat) (F : Nat → Bool) (μ : sn_Mem), s + r = 4 → r < fuel → LSt σ τ η M σr ne F C ρ μ → Dn (fun μ' => ∃ ρ' F', LSt σ τ η M σr ne F' C ρ' μ' ∧ (∀ a, a < 64 → ρ' a = ρ a) ∧ (∀ f, F f = true → F' f = true) ∧ (∀ s', s ≤ s' → s' < 4 → F' (fl x n s') = true) ∧ m_sz μ' ≤ m_sz μ + 3 * r ∧ m_us μ' ≤ m_us μ + 74 * r) (f_Tr_addEnd_60 (ρ 11) fuel (nI n) (nI (x * 6 + n)) (nI s) μ)
  | 0, s, fuel + 1, ρ, F, μ, hs, hf, hS => by
    have : s = 4 := by omega
    subst this
    unfold f_Tr_addEnd_60
    rw [if_pos (by decide)]
    exact bk_V ⟨ρ, F, hS, fun _ _ => rfl, fun _ z => z, fun s' q1 q2 => by omega, by omega, by omega⟩
  | r + 1, s, fuel + 1, ρ, F, μ, hs, hf, hS => by
    have hL := hS.1
    have o1 : ¬ (4 : Int32) ≤ nI s := fun z => by
      have := (nI_leI (a := 4) (b := s) (by omega) (by omega)).mp z
      omega
    have hfl : fl x n s < 144 := by unfold fl; omega
    have ea : fl x n s / 24 = x := by unfold fl; omega
    have eb : fl x n s % 24 / 4 = n := by unfold fl; omega
    have hnb : nbf τ (fl x n s) = true := nbf_t ⟨hfl, by rw [ea, eb]; exact hb⟩
    have e1 : nI (x * 6 + n) * (4 : Int32) + nI s = nI (fl x n s) := by
      have : nI (x * 6 + n) * (4 : Int32) = nI ((x * 6 + n) * 4) := pk_mul _ 4
      rw [this, nI_add]; congr 1; unfold fl; omega
    have k14 : kR τ 14 (fl x n s) = some (64 * fl x n s + (64 + 40)) := by rw [rr_a14, if_pos (t_nbf hnb)]; rfl
    have l14 : kdL ne F C 14 ≠ 0 := kdL_S1 (by decide) (by decide)
    unfold f_Tr_addEnd_60
    rw [if_neg o1, lv_gR hL (a := 11) (c := 8) rfl (by decide) id, rr_s11_4, fQ_s l14, e1, lv_aR hL (a := 14) (c := 25) rfl (by decide) (show fl x n s < 144 from hfl) (by decide) id, k14]
    cases hF : F (fl x n s) with
    | true =>
      have lf : kdL ne F C (64 * fl x n s + (64 + 40)) ≠ 0 := by rw [kdL_F1 hF (by decide) (by decide)]; decide
      rw [fQ_s lf, if_pos (by simp)]
      unfold f_Tr_addEnd_101
      rw [n1]
      obtain ⟨μ', z, ρ', F', y1, y2, y3, y4, y5, y6⟩ := LSt.fls h hA hx hn hb r (s + 1) fuel ρ F μ (by omega) (by omega) hS
      refine ⟨μ', z, ρ', F', y1, y2, y3, fun s' q1 q2 => ?_, by omega, by omega⟩
      by_cases c : s' = s
      · rw [c]; exact y3 _ hF
      · exact y4 s' (by omega) q2
    | false =>
      have lf : kdL ne F C (64 * fl x n s + (64 + 40)) = 0 := kdL_F0 hF (by decide) (by decide)
      rw [fQ_d lf, if_neg (by simp), lv_gR hL (a := 11) (c := 8) rfl (by decide) id, rr_s11_4, fQ_s l14]
      have key := LSt.flow (P := Dn (fun μ' => ∃ ρ' F', LSt σ τ η M σr ne F' C ρ' μ' ∧ (∀ a, a < 64 → ρ' a = ρ a) ∧ (∀ f, F f = true → F' f = true) ∧ (∀ s', s ≤ s' → s' < 4 → F' (fl x n s') = true) ∧ m_sz μ' ≤ m_sz μ + 3 * (r + 1) ∧ m_us μ' ≤ m_us μ + 74 * (r + 1))) (K := f_Tr_addEnd_101 (f_Tr_addEnd_60 (ρ 11) fuel) (ρ 11) (nI n) (nI (x * 6 + n)) (nI s)) h hA hS hfl hnb hF (fun ρ1 μ1 g1 g2 g3 g4 => by
        unfold f_Tr_addEnd_101
        rw [n1, ← g2 11 (by decide)]
        obtain ⟨μ', z, ρ', F', y1, y2, y3, y4, y5, y6⟩ := LSt.fls h hA hx hn hb r (s + 1) fuel ρ1 _ μ1 (by omega) (by omega) g1
        refine ⟨μ', z, ρ', F', y1, fun a ha => (y2 a ha).trans (g2 a ha), fun f hf => y3 f (by simp [hf]), fun s' q1 q2 => ?_, by omega, by omega⟩
        by_cases c : s' = s
        · rw [c]; exact y3 _ (by simp)
        · exact y4 s' (by omega) q2)
      rw [eb] at key
      exact key
/-- an end with its flows -/
theorem LSt.addEnd (h : LkE σ τ p q) (hA : GA σ η) (h4 : S4 τ) (hS : LSt σ τ η M σr ne F C ρ μ) (hlt : ne < 2 * nl τ) : Dn (fun μ' => ∃ ρ' F', LSt σ τ η M σr (ne + 1) F' C ρ' μ' ∧ (∀ a, a < 64 → ρ' a = ρ a) ∧ (∀ f, F f = true → F' f = true) ∧ (∀ s', s' < 4 → F' (fl (ex τ ne) (ot τ ne) s') = true) ∧ m_sz μ' ≤ m_sz μ + 19 ∧ m_us μ' ≤ m_us μ + 433) (f_Tr_addEnd (ρ 11) (nI ne) (nI (ex τ ne)) (nI (ot τ ne)) μ) := by
  have hN := h.pl
  have hxn : ex τ ne < 6 ∧ ot τ ne < 6 ∧ nb τ (ex τ ne) (ot τ ne) = true := by
    have hb := nb_end (h.plan hA.1.1.2.1.1) hlt
    rcases (h.enN hS.2.2.2.2.2.1 hlt).2 with ⟨-, q1, q2⟩ | ⟨-, q1, q2⟩
    · rw [q1, q2] at hb ⊢; exact ⟨by omega, by omega, hb⟩
    · rw [q1, q2] at hb ⊢; exact ⟨by omega, by omega, hb⟩
  refine LSt.end_ h hA h4 hS hlt (fun ρ1 μ1 g1 g2 g3 g4 => ?_)
  obtain ⟨μ', z, ρ', F', y1, y2, y3, y4, y5, y6⟩ := LSt.fls h hA hxn.1 hxn.2.1 hxn.2.2 4 0 sn_fuel ρ1 F μ1 rfl (by decide) g1
  exact ⟨μ', z, ρ', F', y1, fun a ha => (y2 a ha).trans (g2 a ha), y3, fun s' q => y4 s' (by omega) q, by omega, by omega⟩
/-- one circuit -/
theorem LSt.cir (h : LkE σ τ p q) (hA : GA σ η) {x n s : Nat} (hx : x < 6) (hn : n < 6) (hs : s < 4) (hb : nb τ x n = true) (hS : LSt σ τ η M σr ne F C ρ μ) : Dn (fun μ' => ∃ ρ' C', LSt σ τ η M σr ne F C' ρ' μ' ∧ (∀ a, a < 64 → ρ' a = ρ a) ∧ (∀ f, C f = true → C' f = true) ∧ C' (fl x n s) = true ∧ m_sz μ' ≤ m_sz μ + 1 ∧ m_us μ' ≤ m_us μ + 12) (f_Sw_addCircuit (ρ 17) (nI x) (nI n) (nI s) μ) := by
  have hL := hS.1
  have hfl : fl x n s < 144 := by unfold fl; omega
  have ea : fl x n s / 24 = x := by unfold fl; omega
  have eb : fl x n s % 24 / 4 = n := by unfold fl; omega
  have ec : fl x n s % 4 = s := by unfold fl; omega
  have hnb : nbf τ (fl x n s) = true := nbf_t ⟨hfl, by rw [ea, eb]; exact hb⟩
  have e1 : (nI x * (6 : Int32) + nI n) * (4 : Int32) + nI s = nI (fl x n s) := by
    have a1 : nI x * (6 : Int32) = nI (x * 6) := pk_mul _ 6
    have a2 : nI (x * 6 + n) * (4 : Int32) = nI ((x * 6 + n) * 4) := pk_mul _ 4
    rw [a1, nI_add, a2, nI_add]; congr 1; unfold fl; omega
  have k19 : kR τ 19 (fl x n s) = some (64 * fl x n s + (64 + 50)) := by rw [rr_a19, if_pos (t_nbf hnb)]; rfl
  have l19 : kdL ne F C 19 ≠ 0 := kdL_S1 (by decide) (by decide)
  unfold f_Sw_addCircuit
  rw [e1]
  show Dn _ ((g_R 7 3 (some (ρ 17)) fun v2 => a_R 26 v2 (nI (fl x n s)) fun v3 => (if ¬ v3 = none then f_Sw_addCircuit_39 (ρ 17) else g_R 7 3 (some (ρ 17)) fun v4 => n_O 4 12 fun v5 => n_n 4 v5 fun o6 => c_V (f_Lg_init o6 (nI x) (nI n) (nI s)) (b_R 26 4 v4 (nI (fl x n s)) v5 (f_Sw_addCircuit_39 (ρ 17))))) μ)
  rw [lv_gR hL (a := 17) (c := 7) rfl (by decide) id, rr_s17_3, fQ_s l19, lv_aR hL (a := 19) (c := 26) rfl (by decide) (show fl x n s < 144 from hfl) (by decide) id, k19]
  cases hC : C (fl x n s) with
  | true =>
    have lf : kdL ne F C (64 * fl x n s + (64 + 50)) ≠ 0 := by rw [kdL_C1 hC]; decide
    rw [fQ_s lf, if_pos (by simp)]
    exact bk_V ⟨ρ, C, hS, fun _ _ => rfl, fun _ z => z, hC, by omega, by omega⟩
  | false =>
    have lf : kdL ne F C (64 * fl x n s + (64 + 50)) = 0 := kdL_C0 hC
    rw [fQ_d lf, if_neg (by simp), lv_gR hL (a := 17) (c := 7) rfl (by decide) id, rr_s17_3, fQ_s l19]
    have key := LSt.legs (P := Dn (fun μ' => ∃ ρ' C', LSt σ τ η M σr ne F C' ρ' μ' ∧ (∀ a, a < 64 → ρ' a = ρ a) ∧ (∀ f, C f = true → C' f = true) ∧ C' (fl x n s) = true ∧ m_sz μ' ≤ m_sz μ + 1 ∧ m_us μ' ≤ m_us μ + 12)) (K := f_Sw_addCircuit_39 (ρ 17)) h hA hS hfl hnb hC (fun ρ1 μ1 g1 g2 g3 g4 => bk_V ⟨ρ1, _, g1, g2, fun f hf => by simp [hf], by simp, by omega, by omega⟩)
    rw [ea, eb, ec] at key
    exact key
theorem LSt.cirs (h : LkE σ τ p q) (hA : GA σ η) {x n : Nat} (hx : x < 6) (hn : n < 6) (hb : nb τ x n = true) : ∀ (r s fuel : Nat) (ρ : Nat → Nat) (C : Nat → Bool) (μ : sn_Mem), s + r = 4 → r < fuel → LSt σ τ η M σr ne F C ρ μ → Dn (fun μ' => ∃ ρ' C', LSt σ τ η M σr ne F C' ρ' μ' ∧ (∀ a, a < 64 → ρ' a = ρ a) ∧ (∀ f, C f = true → C' f = true) ∧ (∀ s', s ≤ s' → s' < 4 → C' (fl x n s') = true ∧ C' (fl n x s') = true) ∧ m_sz μ' ≤ m_sz μ + 2 * r ∧ m_us μ' ≤ m_us μ + 24 * r) (f_Sw_addCircuits_2 (ρ 17) fuel (nI x) (nI n) (nI s) μ)
  | 0, s, fuel + 1, ρ, C, μ, hs, hf, hS => by
    have : s = 4 := by omega
    subst this
    unfold f_Sw_addCircuits_2
    rw [if_pos (by decide)]
    exact bk_V ⟨ρ, C, hS, fun _ _ => rfl, fun _ z => z, fun s' q1 q2 => by omega, by omega, by omega⟩
  | r + 1, s, fuel + 1, ρ, C, μ, hs, hf, hS => by
    have o1 : ¬ (4 : Int32) ≤ nI s := fun z => by
      have := (nI_leI (a := 4) (b := s) (by omega) (by omega)).mp z
      omega
    unfold f_Sw_addCircuits_2
    rw [if_neg o1, lv_nn hS.1 (a := 17) (c := 7) rfl (by decide)]
    refine bk_cV (LSt.cir h hA hx hn (by omega) hb hS) (fun μ1 g => ?_)
    obtain ⟨ρ1, C1, g1, g2, g3, g4, g5, g6⟩ := g
    rw [← g2 17 (by decide), lv_nn g1.1 (a := 17) (c := 7) rfl (by decide)]
    refine bk_cV (LSt.cir h hA hn hx (by omega) (by rw [nb_sy]; exact hb) g1) (fun μ2 k => ?_)
    obtain ⟨ρ2, C2, k1, k2, k3, k4, k5, k6⟩ := k
    rw [← k2 17 (by decide), n1]
    obtain ⟨μ', z, ρ', C', y1, y2, y3, y4, y5, y6⟩ := LSt.cirs h hA hx hn hb r (s + 1) fuel ρ2 C2 μ2 (by omega) (by omega) k1
    refine ⟨μ', z, ρ', C', y1, fun a ha => ((y2 a ha).trans (k2 a ha)).trans (g2 a ha), fun f hf => y3 f (k3 f (g3 f hf)), fun s' q1 q2 => ?_, by omega, by omega⟩
    by_cases c : s' = s
    · rw [c]; exact ⟨y3 _ (k3 _ g4), y3 _ k4⟩
    · exact y4 s' (by omega) q2
/-- all that is between two -/
theorem F_all (h : LkE σ τ p q) (f1 : ∀ f, nbf σ f = true → F f = true) (f2 : ∀ f, F f = true → nbf τ f = true) (f3 : ∀ s, s < 4 → F (fl p q s) = true ∧ F (fl q p s) = true) : F = nbf τ := by
  funext f
  cases c : nbf τ f with
  | false =>
    cases d : F f with
    | false => rfl
    | true => rw [f2 f d] at c; cases c
  | true =>
    have hc := t_nbf c
    rw [h.nbE] at hc
    cases d : nb σ (f / 24) (f % 24 / 4) with
    | true => exact f1 f (nbf_t ⟨hc.1, d⟩)
    | false =>
      rw [d, Bool.false_or] at hc
      have hs := f3 (f % 4) (by omega)
      rcases (pq_or h.pl.1).mp hc.2 with ⟨w1, w2⟩ | ⟨w1, w2⟩
      · have : fl p q (f % 4) = f := by unfold fl; omega
        rw [this] at hs; exact hs.1
      · have : fl q p (f % 4) = f := by unfold fl; omega
        rw [this] at hs; exact hs.2
/-- the ends of a new link -/
theorem LSt.ends (h : LkE σ τ p q) (hA : GA σ η) (h4 : S4 τ) (hS : LSt σ τ η M σr (2 * nl σ) (nbf σ) (nbf σ) ρ μ) : Dn (fun μ' => ∃ ρ', LSt σ τ η M σr (2 * nl τ) (nbf τ) (nbf σ) ρ' μ' ∧ (∀ a, a < 64 → ρ' a = ρ a) ∧ m_sz μ' ≤ m_sz μ + 38 ∧ m_us μ' ≤ m_us μ + 866) (f_Tr_addEnds (ρ 11) (nI (nl σ)) μ) := by
  have hN := h.pl
  obtain ⟨h1, h2, h3, h4', h5, h6, h7, h8, h9, h10⟩ := id h
  have hL := hS.1
  have l : ∀ (ne : Nat) (F C : Nat → Bool) a, 1 ≤ a → a ≤ 22 → kdL ne F C a ≠ 0 := fun ne F C a q1 q2 => kdL_S1 q1 q2
  have hil : f_Pl_isLink (ρ 3) (nI (nl σ)) μ = some (some (.int 1), μ) := by
    have o1 : ¬ nI (nl σ) < 0 := nI_pos (by omega)
    have o2 : ¬ nI (nl σ + 1) ≤ nI (nl σ) := nI_ge (by omega) (by omega)
    unfold f_Pl_isLink
    rw [if_neg o1, lv_gI hL (a := 3) (c := 5) rfl (by decide), rd_s3_0, h5, if_neg o2]; rfl
  have x0 : ex τ (2 * nl σ) = p ∧ ot τ (2 * nl σ) = q := by
    rcases (h.enN (e := 2 * nl σ) (by omega) (by omega)).2 with z | z
    · exact z.2
    · omega
  have x1 : ex τ (2 * nl σ + 1) = q ∧ ot τ (2 * nl σ + 1) = p := by
    rcases (h.enN (e := 2 * nl σ + 1) (by omega) (by omega)).2 with z | z
    · omega
    · exact z.2
  have m2 : (2 : Int32) * nI (nl σ) = nI (2 * nl σ) := pk_mul 2 (nl σ)
  have d4 : nl σ < 10 := h3
  unfold f_Tr_addEnds
  rw [lv_gR hL (a := 11) (c := 8) rfl (by decide) id, rr_s11_0, fQ_s (l _ _ _ 3 (by decide) (by decide)), lv_nn hL (a := 3) (c := 5) rfl (by decide), x_cI hil, if_neg (by decide)]
  rw [lv_gR hL (a := 11) (c := 8) rfl (by decide) id, rr_s11_0, fQ_s (l _ _ _ 3 (by decide) (by decide)), lv_gR hL (a := 3) (c := 5) rfl (by decide) id, rr_s3_1, fQ_s (l _ _ _ 4 (by decide) (by decide)), lv_aI hL (a := 4) (c := 21) rfl (by decide) d4 (by decide), rd_a4, h7]
  rw [lv_gR hL (a := 11) (c := 8) rfl (by decide) id, rr_s11_0, fQ_s (l _ _ _ 3 (by decide) (by decide)), lv_gR hL (a := 3) (c := 5) rfl (by decide) id, rr_s3_2, fQ_s (l _ _ _ 5 (by decide) (by decide)), lv_aI hL (a := 5) (c := 21) rfl (by decide) d4 (by decide), rd_a5, h8]
  rw [lv_nn hL (a := 11) (c := 8) rfl (by decide), m2]
  have A1 := LSt.addEnd h hA h4 hS (by omega)
  rw [x0.1, x0.2] at A1
  refine bk_cV A1 (fun μ1 g => ?_)
  obtain ⟨ρ1, F1, g1, g2, g3, g4, g5, g6⟩ := g
  have hL1 := g1.1
  rw [← g2 11 (by decide)]
  rw [lv_gR hL1 (a := 11) (c := 8) rfl (by decide) id, rr_s11_0, fQ_s (l _ _ _ 3 (by decide) (by decide)), lv_gR hL1 (a := 3) (c := 5) rfl (by decide) id, rr_s3_2, fQ_s (l _ _ _ 5 (by decide) (by decide)), lv_aI hL1 (a := 5) (c := 21) rfl (by decide) d4 (by decide), rd_a5, h8]
  rw [lv_gR hL1 (a := 11) (c := 8) rfl (by decide) id, rr_s11_0, fQ_s (l _ _ _ 3 (by decide) (by decide)), lv_gR hL1 (a := 3) (c := 5) rfl (by decide) id, rr_s3_1, fQ_s (l _ _ _ 4 (by decide) (by decide)), lv_aI hL1 (a := 4) (c := 21) rfl (by decide) d4 (by decide), rd_a4, h7]
  rw [lv_nn hL1 (a := 11) (c := 8) rfl (by decide), n1]
  have A2 := LSt.addEnd h hA h4 g1 (by omega)
  rw [x1.1, x1.2] at A2
  refine bk_cV A2 (fun μ2 k => ?_)
  obtain ⟨ρ2, F2, k1, k2, k3, k4, k5, k6⟩ := k
  have hF : F2 = nbf τ := F_all h k1.2.1 k1.2.2.1 (fun s hs => ⟨k3 _ (g4 s hs), k4 s hs⟩)
  subst hF
  have hne : 2 * nl σ + 1 + 1 = 2 * nl τ := by omega
  rw [hne] at k1
  exact bk_V ⟨ρ2, k1, fun a ha => (k2 a ha).trans (g2 a ha), by omega, by omega⟩
end LkE2
