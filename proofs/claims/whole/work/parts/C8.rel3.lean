/-! LAYER 2: the reference's object made -/
def mdL : List (Nat × Nat × Nat) := ((List.range 64).filter (fun k => decide (md_kd k ≠ 0))).map (fun k => (k, md_kd k, md_len k))
def ini (M : Nat) : List (Nat × Nat × Nat) → sn_M → sn_M
  | [], K => K
  | q :: L, K => n_A q.2.1 (nI q.2.2) fun v => p_R 12 q.1 (some M) v (ini M L K)
def rfi : List (Nat × Nat × Nat) → Nat → Nat → Option Nat
  | [], _, _ => none
  | q :: L, i, j => match rfi L (i + 1) j with
    | some t => some t
    | none => if j = q.1 then some i else none
def rfz (z : Nat) (L : List (Nat × Nat × Nat)) (i : Nat) (R : Nat → Option Nat) : Nat → Option Nat := fun j => match rfi L i j with
  | some t => some (z + t)
  | none => R j
theorem rfz_s (z : Nat) (q : Nat × Nat × Nat) (L : List (Nat × Nat × Nat)) (i : Nat) (R : Nat → Option Nat) : rfz z L (i + 1) (cUR R q.1 (some (z + i))) = rfz z (q :: L) i R := by
  funext j
  unfold rfz
  show _ = match (match rfi L (i + 1) j with | some t => some t | none => if j = q.1 then some i else none) with | some t => some (z + t) | none => R j
  cases h : rfi L (i + 1) j with
  | some t => rfl
  | none =>
    show cUR R q.1 (some (z + i)) j = match (if j = q.1 then some i else none) with | some t => some (z + t) | none => R j
    unfold cUR
    by_cases c : j = q.1
    · rw [if_pos c, if_pos c]
    · rw [if_neg c, if_neg c]
def mdc (q : Nat × Nat × Nat) : Cel := (q.2.1, q.2.2, cI0, cR0)
def sumL : List (Nat × Nat × Nat) → Nat
  | [] => 0
  | q :: L => q.2.2 + sumL L
theorem x_ini {μ : sn_Mem} {P : Option (Option Value × sn_Mem) → Prop} {K : sn_M} : ∀ (L : List (Nat × Nat × Nat)) (μ1 : sn_Mem) (us : Nat) (R : Nat → Option Nat) (arr : List Cel), (∀ q ∈ L, q.2.2 ≤ 10000) → Blk μ μ1 us ((12, 64, cI0, R) :: arr) → (∀ μ', Blk μ μ' (us + sumL L) ((12, 64, cI0, rfz (m_sz μ) L (1 + arr.length) R) :: (arr ++ L.map mdc)) → P (K μ')) → P (ini (m_sz μ) L K μ1)
  | [], μ1, us, R, arr, _, h, H => by
    refine H μ1 ?_
    rw [List.map_nil, List.append_nil]
    exact h
  | q :: L, μ1, us, R, arr, hq, h, H => by
    show P (n_A q.2.1 (nI q.2.2) (fun v => p_R 12 q.1 (some (m_sz μ)) v (ini (m_sz μ) L K)) μ1)
    refine bk_nA h (hq q List.mem_cons_self) (fun μ2 h2 => ?_)
    refine bk_pR h2 (i := 0) (x := (12, 64, cI0, R)) rfl rfl (fun μ3 h3 => ?_)
    have e : ((12, 64, cI0, R) :: arr : List Cel).length = 1 + arr.length := by simp; omega
    have h3 : Blk μ μ3 (us + q.2.2) ((12, 64, cI0, cUR R q.1 (some (m_sz μ + ((12, 64, cI0, R) :: arr : List Cel).length))) :: (arr ++ [mdc q])) := h3
    rw [e] at h3
    refine x_ini L μ3 (us + q.2.2) _ (arr ++ [mdc q]) (fun q' h' => hq q' (List.mem_cons_of_mem _ h')) h3 (fun μ' h' => H μ' ?_)
    have e2 : 1 + (arr ++ [mdc q]).length = 1 + arr.length + 1 := by simp; omega
    rw [e2, rfz_s, List.append_assoc] at h'
    have e3 : us + q.2.2 + sumL L = us + sumL (q :: L) := by show _ = us + (q.2.2 + sumL L); omega
    rw [e3] at h'
    exact h'
set_option maxRecDepth 20000 in
theorem md_ini (M : Nat) : f_Md_init M = ini M mdL (f_Md_init_492 M sn_fuel 0) := rfl
theorem md_pos : ∀ k, k < 64 → md_kd k ≠ 0 → rfi mdL 1 k = some (1 + (if k < 4 then k else k - 6)) ∧ mdL[(if k < 4 then k else k - 6)]? = some (k, md_kd k, md_len k) := by decide +kernel
theorem md_sum : sumL mdL = 15488 ∧ mdL.length = 58 ∧ ∀ q ∈ mdL, q.2.2 ≤ 10000 := by decide +kernel
/-- its rows are there, and zero -/
theorem x_Md {μ : sn_Mem} {P : Option (Option Value × sn_Mem) → Prop} (H : ∀ μ', m_sz μ' = m_sz μ + 59 → m_us μ' = m_us μ + 15552 → (∀ b, b < m_sz μ → Sam μ μ' b) → sn_St (m_sz μ) μ' → (∀ k i, (sn_Vw (m_sz μ) μ').1 k i = 0 ∧ (sn_Vw (m_sz μ) μ').2 k i = 0) → P (f_Md_init_492 (m_sz μ) sn_fuel 0 μ')) : P (f_Md_init (m_sz μ) (u_N μ 12 64)) := by
  have h0 : Blk μ (u_N μ 12 64) (0 + 64) ([] ++ [(12, 64, cI0, cR0)]) := Blk.rf.nw 12 64
  rw [md_ini]
  refine x_ini mdL (u_N μ 12 64) 64 cR0 [] md_sum.2.2 h0 (fun μ' h => ?_)
  obtain ⟨a1, a2, a3, a4⟩ := h
  have hlen : ((12, 64, cI0, rfz (m_sz μ) mdL (1 + ([] : List Cel).length) cR0) :: ([] ++ mdL.map mdc) : List Cel).length = 59 := by
    rw [List.length_cons, List.length_append, List.length_map, md_sum.2.1]; rfl
  rw [hlen] at a1 a3
  have c0 := a4 0 _ rfl
  rw [Nat.add_zero] at c0
  obtain ⟨c1, c2, c3, c4, c5⟩ := c0
  have cA : ∀ k, k < 64 → md_kd k ≠ 0 → CIs μ' (md_ad (m_sz μ) k) (md_kd k, md_len k, cI0, cR0) := fun k hk hn => by
    have := a4 (1 + (if k < 4 then k else k - 6)) (md_kd k, md_len k, cI0, cR0) (by
      rw [show 1 + (if k < 4 then k else k - 6) = (if k < 4 then k else k - 6) + 1 from Nat.add_comm _ _, List.getElem?_cons_succ, List.nil_append, List.getElem?_map, (md_pos k hk hn).2]; rfl)
    have e : m_sz μ + (1 + (if k < 4 then k else k - 6)) = md_ad (m_sz μ) k := by unfold md_ad; omega
    rw [e] at this
    exact this
  refine H μ' a1 (by rw [a2, md_sum.1]) (fun b hb => a3 b (Or.inl hb)) ⟨c1, fun k hk hn => ⟨?_, (cA k hk hn).1, (cA k hk hn).2.1⟩⟩ (fun k i => ⟨?_, ?_⟩)
  · rw [c5 k]
    show rfz (m_sz μ) mdL 1 cR0 k = _
    unfold rfz
    rw [(md_pos k hk hn).1]
    show some (m_sz μ + (1 + _)) = _
    unfold md_ad
    congr 1; omega
  · show (if md_kd k = 0 then m_I μ' (m_sz μ) k else m_I μ' (md_ad (m_sz μ) k) i) = 0
    by_cases q : md_kd k = 0
    · rw [if_pos q, c3 k]; rfl
    · have hk : k < 64 := by
        by_cases z : k < 64
        · exact z
        · exact absurd (md_kd_out (by omega)) q
      rw [if_neg q, (cA k hk q).2.2.1 i]; rfl
  · show (if md_kd k = 32 then m_J μ' (md_ad (m_sz μ) k) i else 0) = 0
    by_cases q : md_kd k = 32
    · have hk : k < 64 := by
        by_cases z : k < 64
        · exact z
        · have := md_kd_out (k := k) (by omega); omega
      rw [if_pos q, (cA k hk (by omega)).2.2.2.1 i]
    · rw [if_neg q]
