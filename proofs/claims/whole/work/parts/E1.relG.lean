/-! LAYER 2: every call on both objects, and the law -/
theorem Rr.mono {X M c s u c' s' u' : Nat} {μ : sn_Mem} (h : Rr X M c s u μ) (hc : c ≤ c') (hs : s ≤ s') (hu : u ≤ u') : Rr X M c' s' u' μ := by
  obtain ⟨ρ, σ, η, h1, h2, h3, h4, h5, h6, h7, h8⟩ := h
  exact ⟨ρ, σ, η, h1, h2, h3, h4, h5, by omega, by omega, by omega⟩
theorem StpR.mono {X M c s u c' s' u' : Nat} {F G : sn_M} {μ : sn_Mem} (h : StpR X M c s u F G μ) (hc : c ≤ c') (hs : s ≤ s') (hu : u ≤ u') : StpR X M c' s' u' F G μ := by
  obtain ⟨v, μ1, μ2, h1, h2, h3, h4⟩ := h
  exact ⟨v, μ1, μ2, h1, h2, h3, h4.mono hc hs hu⟩
section Law
variable {X M c s u : Nat} {μ : sn_Mem}
theorem st_link (hR : Rr X M c s u μ) (x1 x2 : Int32) : StpR X M (c + 200) (s + 46) (u + 962) (f_Sn_link X x1 x2) (f_Md_link M x1 x2) μ := by
  obtain ⟨ρ, σ, η, h, hA, hT, h4, rfl, hc, hs, hu⟩ := hR
  exact stp_link h hA hT h4 hc hs hu x1 x2
theorem st_route (hR : Rr X M c s u μ) (x1 x2 x3 x4 : Int32) : StpR X M (c + 200) (s + 46) (u + 962) (f_Sn_route X x1 x2 x3 x4) (f_Md_route_ M x1 x2 x3 x4) μ := by
  obtain ⟨ρ, σ, η, h, hA, hT, h4, rfl, hc, hs, hu⟩ := hR
  exact (stpR_op h hA hT h4 hc hs hu (re_Sn_route h.2.1 1 (kd0_S (by decide) (by decide)) x1 x2 x3 x4) (lf_Md_route_ M x1 x2 x3 x4) (pf_Md_route_ M x1 x2 x3 x4) (op_route (kd0_ok h4) hA x1 x2 x3 x4)).mono (by omega) (by omega) (by omega)
theorem st_activate (hR : Rr X M c s u μ) (x1 : Int32) {x2 : Int32} (hx : x2 = 0 ∨ x2 = 1) : StpR X M (c + 200) (s + 46) (u + 962) (f_Sn_activate X x1 x2) (f_Md_activate M x1 x2) μ := by
  obtain ⟨ρ, σ, η, h, hA, hT, h4, rfl, hc, hs, hu⟩ := hR
  exact (stpR_op h hA hT h4 hc hs hu (re_Sn_activate h.2.1 1 (kd0_S (by decide) (by decide)) x1 x2) (lf_Md_activate M x1 x2) (pf_Md_activate M x1 x2) (op_activate (kd0_ok h4) hA x1 hx)).mono (by omega) (by omega) (by omega)
theorem st_cut (hR : Rr X M c s u μ) (x1 : Int32) {x2 : Int32} (hx : x2 = 0 ∨ x2 = 1) : StpR X M (c + 200) (s + 46) (u + 962) (f_Sn_cut X x1 x2) (f_Md_cut M x1 x2) μ := by
  obtain ⟨ρ, σ, η, h, hA, hT, h4, rfl, hc, hs, hu⟩ := hR
  exact (stpR_op h hA hT h4 hc hs hu (re_Sn_cut h.2.1 1 (kd0_S (by decide) (by decide)) x1 x2) (lf_Md_cut M x1 x2) (pf_Md_cut M x1 x2) (op_cut (kd0_ok h4) hA x1 hx)).mono (by omega) (by omega) (by omega)
theorem st_damage (hR : Rr X M c s u μ) (x1 x2 x3 : Int32) : StpR X M (c + 200) (s + 46) (u + 962) (f_Sn_damage X x1 x2 x3) (f_Md_damage M x1 x2 x3) μ := by
  obtain ⟨ρ, σ, η, h, hA, hT, h4, rfl, hc, hs, hu⟩ := hR
  exact (stpR_op h hA hT h4 hc hs hu (re_Sn_damage h.2.1 1 (kd0_S (by decide) (by decide)) x1 x2 x3) (lf_Md_damage M x1 x2 x3) (pf_Md_damage M x1 x2 x3) (op_damage (kd0_ok h4) hA x1 x2 x3)).mono (by omega) (by omega) (by omega)
theorem st_tick (hR : Rr X M c s u μ) (x1 : Int32) (hb : c + 200 < 20000) : StpR X M (c + 200) (s + 46) (u + 962) (f_Sn_tick X x1) (f_Md_tick M x1) μ := by
  obtain ⟨ρ, σ, η, h, hA, hT, h4, rfl, hc, hs, hu⟩ := hR
  exact (stpR_op h hA hT h4 hc hs hu (re_Sn_tick h.2.1 1 (kd0_S (by decide) (by decide)) x1) (lf_Md_tick M x1) (pf_Md_tick M x1) (op_tick (kd0_ok h4) hA (by omega) x1)).mono (by omega) (by omega) (by omega)
theorem st_dial (hR : Rr X M c s u μ) (x1 x2 : Int32) : StpR X M (c + 200) (s + 46) (u + 962) (f_Sn_dial X x1 x2) (f_Md_dial M x1 x2) μ := by
  obtain ⟨ρ, σ, η, h, hA, hT, h4, rfl, hc, hs, hu⟩ := hR
  exact (stpR_op h hA hT h4 hc hs hu (re_Sn_dial h.2.1 1 (kd0_S (by decide) (by decide)) x1 x2) (lf_Md_dial M x1 x2) (pf_Md_dial M x1 x2) (op_dial (kd0_ok h4) hA x1 x2)).mono (by omega) (by omega) (by omega)
theorem st_answer (hR : Rr X M c s u μ) (x1 : Int32) : StpR X M (c + 200) (s + 46) (u + 962) (f_Sn_answer X x1) (f_Md_answer M x1) μ := by
  obtain ⟨ρ, σ, η, h, hA, hT, h4, rfl, hc, hs, hu⟩ := hR
  exact (stpR_op h hA hT h4 hc hs hu (re_Sn_answer h.2.1 1 (kd0_S (by decide) (by decide)) x1) (lf_Md_answer M x1) (pf_Md_answer M x1) (op_answer (kd0_ok h4) hA x1)).mono (by omega) (by omega) (by omega)
theorem st_hang (hR : Rr X M c s u μ) (x1 : Int32) : StpR X M (c + 200) (s + 46) (u + 962) (f_Sn_hang X x1) (f_Md_hang M x1) μ := by
  obtain ⟨ρ, σ, η, h, hA, hT, h4, rfl, hc, hs, hu⟩ := hR
  exact (stpR_op h hA hT h4 hc hs hu (re_Sn_hang h.2.1 1 (kd0_S (by decide) (by decide)) x1) (lf_Md_hang M x1) (pf_Md_hang M x1) (op_hang (kd0_ok h4) hA x1)).mono (by omega) (by omega) (by omega)
theorem st_block (hR : Rr X M c s u μ) (x1 x2 x3 : Int32) {x4 : Int32} (hx : x4 = 0 ∨ x4 = 1) : StpR X M (c + 200) (s + 46) (u + 962) (f_Sn_block X x1 x2 x3 x4) (f_Md_block M x1 x2 x3 x4) μ := by
  obtain ⟨ρ, σ, η, h, hA, hT, h4, rfl, hc, hs, hu⟩ := hR
  exact (stpR_op h hA hT h4 hc hs hu (re_Sn_block h.2.1 1 (kd0_S (by decide) (by decide)) x1 x2 x3 x4) (lf_Md_block M x1 x2 x3 x4) (pf_Md_block M x1 x2 x3 x4) (op_block (kd0_ok h4) hA x1 x2 x3 hx)).mono (by omega) (by omega) (by omega)
theorem st_end (hR : Rr X M c s u μ) (x1 x2 x3 : Int32) : StpR X M (c + 200) (s + 46) (u + 962) (f_Sn_end X x1 x2 x3) (f_Md_end M x1 x2 x3) μ := by
  obtain ⟨ρ, σ, η, h, hA, hT, h4, rfl, hc, hs, hu⟩ := hR
  exact (stpR_op h hA hT h4 hc hs hu (re_Sn_end h.2.1 1 (kd0_S (by decide) (by decide)) x1 x2 x3) (lf_Md_end M x1 x2 x3) (pf_Md_end M x1 x2 x3) (op_end (kd0_ok h4) hA x1 x2 x3)).mono (by omega) (by omega) (by omega)
theorem st_octet (hR : Rr X M c s u μ) (x1 x2 x3 : Int32) : StpR X M (c + 200) (s + 46) (u + 962) (f_Sn_octet X x1 x2 x3) (f_Md_octet M x1 x2 x3) μ := by
  obtain ⟨ρ, σ, η, h, hA, hT, h4, rfl, hc, hs, hu⟩ := hR
  exact (stpR_op h hA hT h4 hc hs hu (re_Sn_octet h.2.1 1 (kd0_S (by decide) (by decide)) x1 x2 x3) (lf_Md_octet M x1 x2 x3) (pf_Md_octet M x1 x2 x3) (op_octet (kd0_ok h4) hA x1 x2 x3)).mono (by omega) (by omega) (by omega)
theorem st_bits (hR : Rr X M c s u μ) (x1 x2 : Int32) : StpR X M (c + 200) (s + 46) (u + 962) (f_Sn_bits X x1 x2) (f_Md_bits M x1 x2) μ := by
  obtain ⟨ρ, σ, η, h, hA, hT, h4, rfl, hc, hs, hu⟩ := hR
  exact (stpR_op h hA hT h4 hc hs hu (re_Sn_bits h.2.1 1 (kd0_S (by decide) (by decide)) x1 x2) (lf_Md_bits M x1 x2) (pf_Md_bits M x1 x2) (op_bits (kd0_ok h4) hA x1 x2)).mono (by omega) (by omega) (by omega)
theorem st_flow (hR : Rr X M c s u μ) (x1 x2 x3 x4 : Int32) : StpR X M (c + 200) (s + 46) (u + 962) (f_Sn_flow X x1 x2 x3 x4) (f_Md_flow M x1 x2 x3 x4) μ := by
  obtain ⟨ρ, σ, η, h, hA, hT, h4, rfl, hc, hs, hu⟩ := hR
  exact (stpR_op h hA hT h4 hc hs hu (re_Sn_flow h.2.1 1 (kd0_S (by decide) (by decide)) x1 x2 x3 x4) (lf_Md_flow M x1 x2 x3 x4) (pf_Md_flow M x1 x2 x3 x4) (op_flow (kd0_ok h4) hA x1 x2 x3 x4)).mono (by omega) (by omega) (by omega)
theorem st_next (hR : Rr X M c s u μ) (x1 x2 x3 : Int32) : StpR X M (c + 200) (s + 46) (u + 962) (f_Sn_next X x1 x2 x3) (f_Md_next M x1 x2 x3) μ := by
  obtain ⟨ρ, σ, η, h, hA, hT, h4, rfl, hc, hs, hu⟩ := hR
  exact (stpR_op h hA hT h4 hc hs hu (re_Sn_next h.2.1 1 (kd0_S (by decide) (by decide)) x1 x2 x3) (lf_Md_next M x1 x2 x3) (pf_Md_next M x1 x2 x3) (op_next (kd0_ok h4) hA hT x1 x2 x3)).mono (by omega) (by omega) (by omega)
theorem st_circuit (hR : Rr X M c s u μ) (x1 x2 x3 x4 : Int32) : StpR X M (c + 200) (s + 46) (u + 962) (f_Sn_circuit X x1 x2 x3 x4) (f_Md_circuit M x1 x2 x3 x4) μ := by
  obtain ⟨ρ, σ, η, h, hA, hT, h4, rfl, hc, hs, hu⟩ := hR
  exact (stpR_op h hA hT h4 hc hs hu (re_Sn_circuit h.2.1 1 (kd0_S (by decide) (by decide)) x1 x2 x3 x4) (lf_Md_circuit M x1 x2 x3 x4) (pf_Md_circuit M x1 x2 x3 x4) (op_circuit (kd0_ok h4) hA x1 x2 x3 x4)).mono (by omega) (by omega) (by omega)
theorem st_subscriber (hR : Rr X M c s u μ) (x1 x2 : Int32) : StpR X M (c + 200) (s + 46) (u + 962) (f_Sn_subscriber X x1 x2) (f_Md_subscriber M x1 x2) μ := by
  obtain ⟨ρ, σ, η, h, hA, hT, h4, rfl, hc, hs, hu⟩ := hR
  exact (stpR_op h hA hT h4 hc hs hu (re_Sn_subscriber h.2.1 1 (kd0_S (by decide) (by decide)) x1 x2) (lf_Md_subscriber M x1 x2) (pf_Md_subscriber M x1 x2) (op_subscriber (kd0_ok h4) hA x1 x2)).mono (by omega) (by omega) (by omega)
theorem st_counted (hR : Rr X M c s u μ) (x1 : Int32) : StpR X M (c + 200) (s + 46) (u + 962) (f_Sn_counted X x1) (f_Md_counted M x1) μ := by
  obtain ⟨ρ, σ, η, h, hA, hT, h4, rfl, hc, hs, hu⟩ := hR
  exact (stpR_op h hA hT h4 hc hs hu (re_Sn_counted h.2.1 1 (kd0_S (by decide) (by decide)) x1) (lf_Md_counted M x1) (pf_Md_counted M x1) (op_counted (kd0_ok h4) hA x1)).mono (by omega) (by omega) (by omega)
theorem Rr.kX (hR : Rr X M c s u μ) : m_kd μ X = 11 := by
  obtain ⟨ρ, σ, η, h, hA, hT, h4, rfl, hc, hs, hu⟩ := hR
  exact (h.1 1 (kd0_S (by decide) (by decide))).1
def FinL (S U : Nat) (y : Option (Option Value × sn_Mem)) : Prop := ∃ μF, y = some (some (.int 1), μF) ∧ m_sz μF ≤ S ∧ m_us μF ≤ U
variable {S U : Nat}
theorem law_op {F G : Nat → sn_M} {K : sn_M} (hR : Rr X M c s u μ) (hS : StpR X M (c + 200) (s + 46) (u + 962) (F X) (G M) μ) (H : ∀ μ', Rr X M (c + 200) (s + 46) (u + 962) μ' → FinL S U (K μ')) : FinL S U ((n_n 11 (some X) fun a => c_I (F a) fun v => n_n 12 (some M) fun a' => c_I (G a') fun w => (if v = w then K else r_Z (0 : Int32))) μ) := by
  obtain ⟨v, μ1, μ2, e1, e2, e3, e4⟩ := hS
  have z1 : (n_n 11 (some X) fun a => c_I (F a) fun v => n_n 12 (some M) fun a' => c_I (G a') fun w => (if v = w then K else r_Z (0 : Int32))) μ = (c_I (F X) fun v => n_n 12 (some M) fun a' => c_I (G a') fun w => (if v = w then K else r_Z (0 : Int32))) μ := by
    show (if m_kd μ X = 11 then _ else none) = _
    rw [if_pos hR.kX]
  have z2 : (n_n 12 (some M) fun a' => c_I (G a') fun w => (if v = w then K else r_Z (0 : Int32))) μ1 = (c_I (G M) fun w => (if v = w then K else r_Z (0 : Int32))) μ1 := by
    show (if m_kd μ1 M = 12 then _ else none) = _
    rw [if_pos e2]
  rw [z1, x_cI e1, z2, x_cI e3, if_pos rfl]
  exact H μ2 e4
theorem sw_all {Q : sn_M → Prop} {d : sn_M} (hd : Q d) (x : Int32) : ∀ (ks : List Int32) (fs : List sn_M), (∀ f ∈ fs, Q f) → Q (sn_sw x ks fs d)
  | [], _, _ => by unfold sn_sw; exact hd
  | k :: ks, [], _ => by unfold sn_sw; exact hd
  | k :: ks, f :: fs, h => by
    unfold sn_sw
    by_cases c : x = k
    · rw [if_pos c]; exact h f List.mem_cons_self
    · rw [if_neg c]; exact sw_all hd x ks fs (fun g hg => h g (List.mem_cons_of_mem _ hg))
theorem aS_at {L i : Nat} {xs : Nat → Int32} {K : Int32 → sn_M} (hi : i < L) (hL : L ≤ 320) : a_S L xs (nI i) K = K (xs i) := by
  funext μ
  unfold a_S
  rw [if_pos (nI_in hi (by omega)), nI_clamp (by omega)]
theorem law_loop {L : Nat} {xs : Nat → Int32} (b : Nat) (hL : L ≤ 320) : ∀ (r t fuel s u : Nat) (μ : sn_Mem), 5 * t + r = L + 5 → t ≤ 64 → r < fuel → s + 46 * r ≤ S → u + 962 * r ≤ U → Rr X M (200 * t) s u μ → FinL S U (f_La_law_18 b L xs fuel (some X) (some M) (nI (5 * t)) μ) := by
  intro r
  induction r using Nat.strongRecOn with
  | ind r ih =>
    intro t fuel s u μ h1 h2 h3 h4 h5 hR
    obtain ⟨n, rfl⟩ : ∃ n, fuel = n + 1 := ⟨fuel - 1, by omega⟩
    unfold f_La_law_18
    show FinL S U ((if (nI L - (5 : Int32)) < nI (5 * t) then r_Z (1 : Int32) else _) μ)
    by_cases c : L < 5 * t + 5
    · have hc : (nI L - (5 : Int32)) < nI (5 * t) := by
        by_cases d : 5 ≤ L
        · rw [show (5 : Int32) = nI 5 from rfl, nI_sub d]
          exact (nI_ltI (a := L - 5) (b := 5 * t) (by omega) (by omega)).mpr (by omega)
        · have e : (nI L - (5 : Int32)).toInt < 0 := by
            have : ∀ L, L < 5 → (nI L - (5 : Int32)).toInt < 0 := by decide
            exact this L (by omega)
          rw [Int32.lt_iff_toInt_lt, nI_toInt (show 5 * t < 2 ^ 31 by omega)]
          omega
      rw [if_pos hc]
      obtain ⟨ρ, σ, η, g1, g2, g3, g4, g5, g6, g7, g8⟩ := hR
      exact ⟨μ, rfl, by omega, by omega⟩
    · have hc : ¬ (nI L - (5 : Int32)) < nI (5 * t) := by
        rw [show (5 : Int32) = nI 5 from rfl, nI_sub (by omega)]
        exact fun z => by have := (nI_ltI (a := L - 5) (b := 5 * t) (by omega) (by omega)).mp z; omega
      rw [if_neg hc]
      have a0 : ∀ K : Int32 → sn_M, a_S L xs (nI (5 * t)) K = K (xs (5 * t)) := fun K => aS_at (by omega) hL
      have a1 : ∀ K : Int32 → sn_M, a_S L xs (nI (5 * t) + (1 : Int32)) K = K (xs (5 * t + 1)) := fun K => by rw [show (1 : Int32) = nI 1 from rfl, nI_add]; exact aS_at (by omega) hL
      have a2 : ∀ K : Int32 → sn_M, a_S L xs (nI (5 * t) + (2 : Int32)) K = K (xs (5 * t + 2)) := fun K => by rw [show (2 : Int32) = nI 2 from rfl, nI_add]; exact aS_at (by omega) hL
      have a3 : ∀ K : Int32 → sn_M, a_S L xs (nI (5 * t) + (3 : Int32)) K = K (xs (5 * t + 3)) := fun K => by rw [show (3 : Int32) = nI 3 from rfl, nI_add]; exact aS_at (by omega) hL
      have a4 : ∀ K : Int32 → sn_M, a_S L xs (nI (5 * t) + (4 : Int32)) K = K (xs (5 * t + 4)) := fun K => by rw [show (4 : Int32) = nI 4 from rfl, nI_add]; exact aS_at (by omega) hL
      have nx : ∀ μ', Rr X M (200 * t + 200) (s + 46) (u + 962) μ' → FinL S U (f_La_law_842 (f_La_law_18 b L xs n) b L xs (some X) (some M) (nI (5 * t)) μ') := fun μ' hR' => by
        unfold f_La_law_842
        rw [show (5 : Int32) = nI 5 from rfl, nI_add, show 5 * t + 5 = 5 * (t + 1) by omega]
        exact ih (r - 5) (by omega) (t + 1) n (s + 46) (u + 962) μ' (by omega) (by omega) (by omega) (by omega) (by omega) (hR'.mono (by omega) (Nat.le_refl _) (Nat.le_refl _))
      have sk := nx μ (hR.mono (by omega) (by omega) (by omega))
      have t01 : ∀ y : Int32, y = 0 ∨ y = 1 → y = 0 ∨ y = 1 := fun _ h => h
      simp only [a0, a1, a2, a3, a4, f_La_law_225, f_La_law_247, f_La_law_274, f_La_law_296, f_La_law_478, f_La_law_510]
      refine sw_all (Q := fun f => FinL S U (f μ)) sk _ _ _ ?_
      refine List.forall_mem_cons.mpr ⟨?_, ?_⟩
      · exact law_op (F := fun a => f_Sn_link a (xs (5 * t + 1)) (xs (5 * t + 2))) (G := fun a => f_Md_link a (xs (5 * t + 1)) (xs (5 * t + 2))) hR (st_link hR _ _) nx
      refine List.forall_mem_cons.mpr ⟨?_, ?_⟩
      · exact law_op (F := fun a => f_Sn_route a (xs (5 * t + 1)) (xs (5 * t + 2)) (xs (5 * t + 3)) (xs (5 * t + 4))) (G := fun a => f_Md_route_ a (xs (5 * t + 1)) (xs (5 * t + 2)) (xs (5 * t + 3)) (xs (5 * t + 4))) hR (st_route hR _ _ _ _) nx
      refine List.forall_mem_cons.mpr ⟨?_, ?_⟩
      · by_cases c2 : xs (5 * t + 2) = 0
        · simp only [c2, if_true, if_false]
          exact law_op (F := fun a => f_Sn_activate a (xs (5 * t + 1)) (0 : Int32)) (G := fun a => f_Md_activate a (xs (5 * t + 1)) (0 : Int32)) hR (st_activate hR _ (Or.inl rfl)) nx
        · simp only [c2, if_true, if_false]
          exact law_op (F := fun a => f_Sn_activate a (xs (5 * t + 1)) (1 : Int32)) (G := fun a => f_Md_activate a (xs (5 * t + 1)) (1 : Int32)) hR (st_activate hR _ (Or.inr rfl)) nx
      refine List.forall_mem_cons.mpr ⟨?_, ?_⟩
      · by_cases c2 : xs (5 * t + 2) = 0
        · simp only [c2, if_true, if_false]
          exact law_op (F := fun a => f_Sn_cut a (xs (5 * t + 1)) (0 : Int32)) (G := fun a => f_Md_cut a (xs (5 * t + 1)) (0 : Int32)) hR (st_cut hR _ (Or.inl rfl)) nx
        · simp only [c2, if_true, if_false]
          exact law_op (F := fun a => f_Sn_cut a (xs (5 * t + 1)) (1 : Int32)) (G := fun a => f_Md_cut a (xs (5 * t + 1)) (1 : Int32)) hR (st_cut hR _ (Or.inr rfl)) nx
      refine List.forall_mem_cons.mpr ⟨?_, ?_⟩
      · exact law_op (F := fun a => f_Sn_damage a (xs (5 * t + 1)) (xs (5 * t + 2)) (xs (5 * t + 3))) (G := fun a => f_Md_damage a (xs (5 * t + 1)) (xs (5 * t + 2)) (xs (5 * t + 3))) hR (st_damage hR _ _ _) nx
      refine List.forall_mem_cons.mpr ⟨?_, ?_⟩
      · exact law_op (F := fun a => f_Sn_tick a (xs (5 * t + 1))) (G := fun a => f_Md_tick a (xs (5 * t + 1))) hR (st_tick hR _ (by omega)) nx
      refine List.forall_mem_cons.mpr ⟨?_, ?_⟩
      · exact law_op (F := fun a => f_Sn_dial a (xs (5 * t + 1)) (xs (5 * t + 2))) (G := fun a => f_Md_dial a (xs (5 * t + 1)) (xs (5 * t + 2))) hR (st_dial hR _ _) nx
      refine List.forall_mem_cons.mpr ⟨?_, ?_⟩
      · exact law_op (F := fun a => f_Sn_answer a (xs (5 * t + 1))) (G := fun a => f_Md_answer a (xs (5 * t + 1))) hR (st_answer hR _) nx
      refine List.forall_mem_cons.mpr ⟨?_, ?_⟩
      · exact law_op (F := fun a => f_Sn_hang a (xs (5 * t + 1))) (G := fun a => f_Md_hang a (xs (5 * t + 1))) hR (st_hang hR _) nx
      refine List.forall_mem_cons.mpr ⟨?_, ?_⟩
      · by_cases c2 : xs (5 * t + 4) = 0
        · simp only [c2, if_true, if_false]
          exact law_op (F := fun a => f_Sn_block a (xs (5 * t + 1)) (xs (5 * t + 2)) (xs (5 * t + 3)) (0 : Int32)) (G := fun a => f_Md_block a (xs (5 * t + 1)) (xs (5 * t + 2)) (xs (5 * t + 3)) (0 : Int32)) hR (st_block hR _ _ _ (Or.inl rfl)) nx
        · simp only [c2, if_true, if_false]
          exact law_op (F := fun a => f_Sn_block a (xs (5 * t + 1)) (xs (5 * t + 2)) (xs (5 * t + 3)) (1 : Int32)) (G := fun a => f_Md_block a (xs (5 * t + 1)) (xs (5 * t + 2)) (xs (5 * t + 3)) (1 : Int32)) hR (st_block hR _ _ _ (Or.inr rfl)) nx
      refine List.forall_mem_cons.mpr ⟨?_, ?_⟩
      · exact law_op (F := fun a => f_Sn_end a (xs (5 * t + 1)) (xs (5 * t + 2)) (xs (5 * t + 3))) (G := fun a => f_Md_end a (xs (5 * t + 1)) (xs (5 * t + 2)) (xs (5 * t + 3))) hR (st_end hR _ _ _) nx
      refine List.forall_mem_cons.mpr ⟨?_, ?_⟩
      · exact law_op (F := fun a => f_Sn_octet a (xs (5 * t + 1)) (xs (5 * t + 2)) (xs (5 * t + 3))) (G := fun a => f_Md_octet a (xs (5 * t + 1)) (xs (5 * t + 2)) (xs (5 * t + 3))) hR (st_octet hR _ _ _) nx
      refine List.forall_mem_cons.mpr ⟨?_, ?_⟩
      · exact law_op (F := fun a => f_Sn_bits a (xs (5 * t + 1)) (xs (5 * t + 2))) (G := fun a => f_Md_bits a (xs (5 * t + 1)) (xs (5 * t + 2))) hR (st_bits hR _ _) nx
      refine List.forall_mem_cons.mpr ⟨?_, ?_⟩
      · exact law_op (F := fun a => f_Sn_flow a (xs (5 * t + 1)) (xs (5 * t + 2)) (xs (5 * t + 3)) (xs (5 * t + 4))) (G := fun a => f_Md_flow a (xs (5 * t + 1)) (xs (5 * t + 2)) (xs (5 * t + 3)) (xs (5 * t + 4))) hR (st_flow hR _ _ _ _) nx
      refine List.forall_mem_cons.mpr ⟨?_, ?_⟩
      · exact law_op (F := fun a => f_Sn_next a (xs (5 * t + 1)) (xs (5 * t + 2)) (xs (5 * t + 3))) (G := fun a => f_Md_next a (xs (5 * t + 1)) (xs (5 * t + 2)) (xs (5 * t + 3))) hR (st_next hR _ _ _) nx
      refine List.forall_mem_cons.mpr ⟨?_, ?_⟩
      · exact law_op (F := fun a => f_Sn_circuit a (xs (5 * t + 1)) (xs (5 * t + 2)) (xs (5 * t + 3)) (xs (5 * t + 4))) (G := fun a => f_Md_circuit a (xs (5 * t + 1)) (xs (5 * t + 2)) (xs (5 * t + 3)) (xs (5 * t + 4))) hR (st_circuit hR _ _ _ _) nx
      refine List.forall_mem_cons.mpr ⟨?_, ?_⟩
      · exact law_op (F := fun a => f_Sn_subscriber a (xs (5 * t + 1)) (xs (5 * t + 2))) (G := fun a => f_Md_subscriber a (xs (5 * t + 1)) (xs (5 * t + 2))) hR (st_subscriber hR _ _) nx
      refine List.forall_mem_cons.mpr ⟨?_, ?_⟩
      · exact law_op (F := fun a => f_Sn_counted a (xs (5 * t + 1))) (G := fun a => f_Md_counted a (xs (5 * t + 1))) hR (st_counted hR _) nx
      exact fun f hf => absurd hf List.not_mem_nil
end Law
def sn_mem0 (sz : Nat) : sn_Mem := (sz, 0, fun _ => 0, fun _ => 0, fun _ _ => 0, fun _ _ => 0, fun _ _ => none)
theorem law_true (b L : Nat) (xs : Nat → Int32) (sz : Nat) (hL : L ≤ 320) : ∃ μF : sn_Mem, f_La_law b L xs (sn_mem0 sz) = some (some (.int 1), μF) ∧ m_sz μF ≤ sz + 600000 ∧ m_us μF ≤ 7302250 := by
  refine rr_start (μ := sn_mem0 sz) (P := FinL (sz + 600000) 7302250) (K := fun r1 r2 => f_La_law_18 b L xs sn_fuel r1 r2 (0 : Int32)) (fun μ' hR => ?_)
  refine law_loop b hL (L + 5) 0 sn_fuel (sz + 105) 20000 μ' (by omega) (by omega) ?_ (by omega) (by omega) (hR.mono (by omega) (Nat.le_refl _) (show 0 + 20000 ≤ 20000 by decide))
  show L + 5 < 1048576
  omega
