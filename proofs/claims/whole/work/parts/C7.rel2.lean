/-! LAYER 2: the class's object made -/
section Bk2
variable {μ0 μ : sn_Mem} {us : Nat} {cs : List Cel} {P : Option (Option Value × sn_Mem) → Prop}
theorem bk_len (h : Blk μ0 μ us cs) {i c : Nat} {x : Cel} (hi : cs[i]? = some x) (hc : x.1 = c) {K : Int32 → sn_M} (H : P (K (nI x.2.1) μ)) : P (a_len c (some (m_sz μ0 + i)) K μ) := by
  have e : a_len c (some (m_sz μ0 + i)) K μ = K (nI x.2.1) μ := by
    show (if m_kd μ (m_sz μ0 + i) = c then K ((m_ln μ (m_sz μ0 + i)).toInt32) μ else none) = _
    rw [if_pos ((h.2.2.2 i x hi).1.trans hc), (h.2.2.2 i x hi).2.1]; rfl
  rw [e]; exact H
theorem bk_Lg (h : Blk μ0 μ us cs) {x n s : Int32} {K : Option Nat → sn_M} (H : ∀ μ', Blk μ0 μ' (us + 12) (cs ++ lgC x n s) → P (K (some (m_sz μ0 + cs.length)) μ')) : P ((n_O 4 12 fun v => n_n 4 v fun o => c_V (f_Lg_init o x n s) (K v)) μ) := by
  obtain ⟨μ', a, b⟩ := x_Lg μ x n s
  have e : (n_O 4 12 fun v => n_n 4 v fun o => c_V (f_Lg_init o x n s) (K v)) μ = K (some (m_sz μ0 + cs.length)) μ' := by
    show (if (if m_sz μ = m_sz μ then 4 else m_kd μ (m_sz μ)) = 4 then c_V (f_Lg_init (m_sz μ) x n s) (K (some (m_sz μ))) (u_N μ 4 12) else none) = _
    rw [if_pos rfl, if_pos rfl, x_cV a, h.1]
  rw [e]; exact H μ' (h.app b)
theorem bk_Fl (h : Blk μ0 μ us cs) {n : Int32} {K : Option Nat → sn_M} (H : ∀ μ', Blk μ0 μ' (us + 74) (cs ++ flC (m_sz μ0 + cs.length) n) → P (K (some (m_sz μ0 + cs.length)) μ')) : P ((n_O 3 7 fun v => n_n 3 v fun o => c_V (f_Fl_init o n) (K v)) μ) := by
  obtain ⟨μ', a, b⟩ := x_Fl μ n
  have e : (n_O 3 7 fun v => n_n 3 v fun o => c_V (f_Fl_init o n) (K v)) μ = K (some (m_sz μ0 + cs.length)) μ' := by
    show (if (if m_sz μ = m_sz μ then 3 else m_kd μ (m_sz μ)) = 3 then c_V (f_Fl_init (m_sz μ) n) (K (some (m_sz μ))) (u_N μ 3 7) else none) = _
    rw [if_pos rfl, if_pos rfl, x_cV a, h.1]
  rw [e]
  have hb := h.app b
  rw [h.1] at hb
  exact H μ' hb
theorem bk_En (h : Blk μ0 μ us cs) {T clk : Nat} (hT : T < m_sz μ0) (hk : m_kd μ0 T = 8) (hR : m_R μ0 T 1 = some clk) {l x n : Int32} {K : Option Nat → sn_M} (H : ∀ μ', Blk μ0 μ' (us + 137) (cs ++ enC (m_sz μ0 + cs.length) l x n clk) → P (K (some (m_sz μ0 + cs.length)) μ')) : P ((n_O 2 19 fun v => g_R 8 1 (some T) fun w => n_n 2 v fun o => c_V (f_En_init o l x n w) (K v)) μ) := by
  obtain ⟨μ', a, b⟩ := x_En μ l x n clk
  obtain ⟨t1, t2, t3, t4, t5⟩ := h.2.2.1 T (Or.inl hT)
  have hne : ¬ T = m_sz μ := by rw [h.1]; omega
  have e : (n_O 2 19 fun v => g_R 8 1 (some T) fun w => n_n 2 v fun o => c_V (f_En_init o l x n w) (K v)) μ = K (some (m_sz μ0 + cs.length)) μ' := by
    show (if (if T = m_sz μ then 2 else m_kd μ T) = 8 then (if (if m_sz μ = m_sz μ then 2 else m_kd μ (m_sz μ)) = 2 then c_V (f_En_init (m_sz μ) l x n (if T = m_sz μ then none else m_R μ T 1)) (K (some (m_sz μ))) (u_N μ 2 19) else none) else none) = _
    rw [if_neg hne, if_neg hne, t1, hk, if_pos rfl, if_pos rfl, if_pos rfl, t5 1, hR, x_cV a, h.1]
  rw [e]
  have hb := h.app b
  rw [h.1] at hb
  exact H μ' hb
end Bk2
def ltm (t : Nat) : Nat → Int32 := fun j => if j < t then -1 else 0
theorem ltm_s (t : Nat) : cUI (ltm t) t (-1) = ltm (t + 1) := by
  funext j
  unfold cUI ltm
  by_cases c : j = t
  · rw [if_pos c, if_pos (by omega)]
  · rw [if_neg c]
    by_cases d : j < t
    · rw [if_pos d, if_pos (by omega)]
    · rw [if_neg d, if_neg (by omega)]
theorem ltm_0 : ltm 0 = cI0 := by funext j; unfold ltm cI0; rw [if_neg (by omega)]
theorem x_Pl62 {μ : sn_Mem} {us : Nat} {A : List Cel} {x2 : Cel} (hl : A.length = 8) (h2 : A[2]? = some x2) (hk : x2.1 = 5) (h6 : x2.2.2.2 6 = some (m_sz μ + 8)) (h7 : x2.2.2.2 7 = some (m_sz μ + 9)) : ∀ (r fuel t : Nat) (μ1 : sn_Mem), t + r = 36 → r < fuel → Blk μ μ1 us (A ++ [(21, 36, ltm t, cR0), (21, 36, ltm t, cR0)]) → Dn (fun μ' => Blk μ μ' us (A ++ [(21, 36, ltm 36, cR0), (21, 36, ltm 36, cR0)])) (f_Pl_init_62 (m_sz μ + 2) fuel (nI t) μ1)
  | 0, fuel + 1, t, μ1, ht, _, h => by
    have : t = 36 := by omega
    subst this
    rw [f_Pl_init_62, if_pos (by decide)]
    exact bk_V h
  | r + 1, fuel + 1, t, μ1, ht, hf, h => by
    have hle : ¬ (36 : Int32) ≤ nI t := fun q => by
      have := (nI_leI (a := 36) (b := t) (by omega) (by omega)).mp q
      omega
    have g2 : ∀ c d : Cel, (A ++ [c, d])[2]? = some x2 := fun c d => by rw [List.getElem?_append_left (by omega)]; exact h2
    have g8 : ∀ c d : Cel, (A ++ [c, d])[8]? = some c := fun c d => by rw [List.getElem?_append_right (by omega), hl]; rfl
    have g9 : ∀ c d : Cel, (A ++ [c, d])[9]? = some d := fun c d => by rw [List.getElem?_append_right (by omega), hl]; rfl
    have s8 : ∀ c d e : Cel, (A ++ [c, d]).set 8 e = A ++ [e, d] := fun c d e => by rw [List.set_append_right _ _ (by omega), hl]; rfl
    have s9 : ∀ c d e : Cel, (A ++ [c, d]).set 9 e = A ++ [c, e] := fun c d e => by rw [List.set_append_right _ _ (by omega), hl]; rfl
    rw [f_Pl_init_62, if_neg hle]
    refine bk_gR h (i := 2) (x := x2) (g2 _ _) hk ?_
    rw [h6]
    refine bk_bI h (i := 8) (x := (21, 36, ltm t, cR0)) (g8 _ _) rfl (show t < 36 by omega) (show 36 ≤ 10000 by decide) (fun μ2 h2 => ?_)
    rw [s8] at h2
    refine bk_gR h2 (i := 2) (x := x2) (g2 _ _) hk ?_
    rw [h7]
    refine bk_bI h2 (i := 9) (x := (21, 36, ltm t, cR0)) (g9 _ _) rfl (show t < 36 by omega) (show 36 ≤ 10000 by decide) (fun μ3 h3 => ?_)
    rw [s9] at h3
    have h3 : Blk μ μ3 us (A ++ [(21, 36, cUI (ltm t) t (-1), cR0), (21, 36, cUI (ltm t) t (-1), cR0)]) := h3
    rw [ltm_s] at h3
    rw [nI_1]
    exact x_Pl62 hl (by assumption) hk h6 h7 r fuel (t + 1) μ3 (by omega) (by omega) h3
def rrm (z t : Nat) : Nat → Option Nat := fun j => if j < t then some (z + (21 + j)) else none
theorem rrm_s (z t : Nat) : cUR (rrm z t) t (some (z + (21 + t))) = rrm z (t + 1) := by
  funext j
  unfold cUR rrm
  by_cases c : j = t
  · rw [if_pos c, if_pos (by omega), c]
  · rw [if_neg c]
    by_cases d : j < t
    · rw [if_pos d, if_pos (by omega)]
    · rw [if_neg d, if_neg (by omega)]
theorem rrm_0 (z : Nat) : rrm z 0 = cR0 := by funext j; unfold rrm cR0; rw [if_neg (by omega)]
def lgs (t : Nat) : List Cel := (List.range t).flatMap (fun s => lgC (nI (s / 4)) (-1) (nI (s % 4)))
theorem lgs_l : ∀ t, (lgs t).length = t
  | 0 => rfl
  | t + 1 => by
    unfold lgs
    rw [List.range_succ, List.flatMap_append, List.length_append]
    have := lgs_l t
    unfold lgs at this
    rw [this]; rfl
theorem lgs_s (t : Nat) : lgs (t + 1) = lgs t ++ lgC (nI (t / 4)) (-1) (nI (t % 4)) := by
  unfold lgs
  rw [List.range_succ, List.flatMap_append]; simp
theorem d4s : ∀ t, t < 24 → nI t / (4 : Int32) = nI (t / 4) ∧ nI t % (4 : Int32) = nI (t % 4) := by decide +kernel
theorem x_Sw48 {μ : sn_Mem} {us : Nat} {A D : List Cel} {x16 : Cel} (hl : A.length = 17) (hD : D.length = 3) (h16 : A[16]? = some x16) (hk : x16.1 = 7) (h2 : x16.2.2.2 2 = some (m_sz μ + 17)) : ∀ (r fuel t : Nat) (μ1 : sn_Mem), t + r = 24 → r < fuel → Blk μ μ1 (us + 12 * t) ((A ++ [(26, 24, cI0, rrm (m_sz μ) t)] ++ D) ++ lgs t) → Dn (fun μ' => Blk μ μ' (us + 288) ((A ++ [(26, 24, cI0, rrm (m_sz μ) 24)] ++ D) ++ lgs 24)) (f_Sw_init_48 (m_sz μ + 16) fuel (nI t) μ1)
  | 0, fuel + 1, t, μ1, ht, _, h => by
    have : t = 24 := by omega
    subst this
    have g16 : ((A ++ [(26, 24, cI0, rrm (m_sz μ) 24)] ++ D) ++ lgs 24)[16]? = some x16 := by rw [List.getElem?_append_left (by simp; omega), List.getElem?_append_left (by simp; omega), List.getElem?_append_left (by omega)]; exact h16
    have g17 : ((A ++ [(26, 24, cI0, rrm (m_sz μ) 24)] ++ D) ++ lgs 24)[17]? = some (26, 24, cI0, rrm (m_sz μ) 24) := by rw [List.getElem?_append_left (by simp; omega), List.getElem?_append_left (by simp; omega), List.getElem?_append_right (by omega), hl]; rfl
    rw [f_Sw_init_48]
    refine bk_gR h (i := 16) (x := x16) g16 hk ?_
    rw [h2]
    refine bk_len h (i := 17) g17 rfl ?_
    rw [if_pos (show nI 24 ≤ nI 24 by decide)]
    exact bk_V h
  | r + 1, fuel + 1, t, μ1, ht, hf, h => by
    have g16 : ((A ++ [(26, 24, cI0, rrm (m_sz μ) t)] ++ D) ++ lgs t)[16]? = some x16 := by rw [List.getElem?_append_left (by simp; omega), List.getElem?_append_left (by simp; omega), List.getElem?_append_left (by omega)]; exact h16
    have g17 : ((A ++ [(26, 24, cI0, rrm (m_sz μ) t)] ++ D) ++ lgs t)[17]? = some (26, 24, cI0, rrm (m_sz μ) t) := by rw [List.getElem?_append_left (by simp; omega), List.getElem?_append_left (by simp; omega), List.getElem?_append_right (by omega), hl]; rfl
    have hle : ¬ nI 24 ≤ nI t := fun q => by
      have := (nI_leI (a := 24) (b := t) (by omega) (by omega)).mp q
      omega
    obtain ⟨q1, q2⟩ := d4s t (by omega)
    have hlen : ((A ++ [(26, 24, cI0, rrm (m_sz μ) t)] ++ D) ++ lgs t).length = 21 + t := by simp [lgs_l]; omega
    rw [f_Sw_init_48]
    refine bk_gR h (i := 16) (x := x16) g16 hk ?_
    rw [h2]
    refine bk_len h (i := 17) g17 rfl ?_
    rw [if_neg hle]
    refine bk_gR h (i := 16) (x := x16) g16 hk ?_
    rw [h2, q1, q2]
    refine bk_Lg h (fun μ2 h2' => ?_)
    have hcs : ((A ++ [(26, 24, cI0, rrm (m_sz μ) t)] ++ D) ++ lgs t) ++ lgC (nI (t / 4)) (-1) (nI (t % 4)) = (A ++ [(26, 24, cI0, rrm (m_sz μ) t)] ++ D) ++ lgs (t + 1) := by rw [lgs_s, List.append_assoc]
    rw [hcs] at h2'
    rw [hlen]
    have g17' : ((A ++ [(26, 24, cI0, rrm (m_sz μ) t)] ++ D) ++ lgs (t + 1))[17]? = some (26, 24, cI0, rrm (m_sz μ) t) := by rw [List.getElem?_append_left (by simp; omega), List.getElem?_append_left (by simp; omega), List.getElem?_append_right (by omega), hl]; rfl
    have gN : ∃ y : Cel, ((A ++ [(26, 24, cI0, rrm (m_sz μ) t)] ++ D) ++ lgs (t + 1))[21 + t]? = some y ∧ y.1 = 4 := by
      rw [← hcs, List.getElem?_append_right (by omega), hlen, Nat.sub_self]
      exact ⟨_, rfl, rfl⟩
    obtain ⟨y, y1, y2⟩ := gN
    refine bk_bR h2' (i := 17) (i' := 21 + t) g17' rfl (show t < 24 by omega) (show 24 ≤ 10000 by decide) y1 y2 (fun μ3 h3 => ?_)
    have hset : ((A ++ [(26, 24, cI0, rrm (m_sz μ) t)] ++ D) ++ lgs (t + 1)).set 17 (26, 24, cI0, cUR (rrm (m_sz μ) t) t (some (m_sz μ + (21 + t)))) = (A ++ [(26, 24, cI0, rrm (m_sz μ) (t + 1))] ++ D) ++ lgs (t + 1) := by
      rw [List.set_append_left _ _ (by simp; omega), List.set_append_left _ _ (by simp; omega), List.set_append_right _ _ (by omega), hl, rrm_s]; rfl
    have h3 : Blk μ μ3 (us + 12 * t + 12) (((A ++ [(26, 24, cI0, rrm (m_sz μ) t)] ++ D) ++ lgs (t + 1)).set 17 (26, 24, cI0, cUR (rrm (m_sz μ) t) t (some (m_sz μ + (21 + t))))) := h3
    rw [hset, show us + 12 * t + 12 = us + 12 * (t + 1) by omega] at h3
    rw [nI_1]
    exact x_Sw48 hl hD h16 hk h2 r fuel (t + 1) μ3 (by omega) (by omega) h3
def snC (z : Nat) : List Cel := [(11, 5, cI0, cUR (cUR (cUR (cUR (cUR cR0 0 (some (z + 1))) 1 (some (z + 2))) 2 (some (z + 10))) 3 (some (z + 16))) 4 (some (z + 45))), (1, 1, cI0, cR0), (5, 8, cI0, cUR (cUR (cUR (cUR (cUR (cUR (cUR cR0 1 (some (z + 3))) 2 (some (z + 4))) 3 (some (z + 5))) 4 (some (z + 6))) 5 (some (z + 7))) 6 (some (z + 8))) 7 (some (z + 9))), (21, 10, cI0, cR0), (21, 10, cI0, cR0), (23, 10, cI0, cR0), (23, 10, cI0, cR0), (21, 36, cI0, cR0), (21, 36, ltm 36, cR0), (21, 36, ltm 36, cR0), (8, 10, cI0, cUR (cUR (cUR (cUR (cUR (cUR (cUR cR0 2 (some (z + 11))) 3 (some (z + 12))) 4 (some (z + 13))) 5 (some (z + 14))) 6 (some (z + 15))) 0 (some (z + 2))) 1 (some (z + 1))), (24, 20, cI0, cR0), (24, 144, cI0, cR0), (25, 144, cI0, cR0), (23, 216, cI0, cR0), (21, 216, cI0, cR0), (7, 5, cI0, cUR (cUR (cUR (cUR (cUR cR0 2 (some (z + 17))) 3 (some (z + 18))) 4 (some (z + 19))) 0 (some (z + 2))) 1 (some (z + 1))), (26, 24, cI0, rrm (z) 24), (26, 144, cI0, cR0), (6, 3, cI0, cUR cR0 0 (some (z + 20))), (22, 16, cI0, cR0)] ++ lgs 24 ++ [(21, 13, cI0, cR0)]
set_option maxRecDepth 4000 in
theorem x_Sn (μ : sn_Mem) : Dn (fun μ' => Blk μ μ' 1405 (snC (m_sz μ))) (f_Sn_init (m_sz μ) (u_N μ 11 5)) := by
  unfold snC
  have h0 : Blk μ (u_N μ 11 5) 5 [(11, 5, cI0, cR0)] := Blk.rf.nw 11 5
  obtain ⟨μ0, e0⟩ : ∃ μ0, μ0 = u_N μ 11 5 := ⟨_, rfl⟩
  rw [← e0] at h0 ⊢
  unfold f_Sn_init
  refine bk_nO h0 (fun μ1 h1 => ?_)
  have h1 : Blk μ μ1 6 [(11, 5, cI0, cR0), (1, 1, cI0, cR0)] := h1
  refine bk_nn h1 (i := 1) (x := (1, 1, cI0, cR0)) rfl rfl ?_
  refine bk_cV (Q := fun μ' => μ' = μ1) ⟨μ1, rfl, rfl⟩ (fun μ' e => ?_)
  subst e
  refine bk_pR h1 (i := 0) (x := (11, 5, cI0, cR0)) rfl rfl (fun μ2 h2 => ?_)
  have h2 : Blk μ μ2 6 [(11, 5, cI0, cUR cR0 0 (some (m_sz μ + 1))), (1, 1, cI0, cR0)] := h2
  refine bk_nO h2 (fun μ3 h3 => ?_)
  have h3 : Blk μ μ3 14 [(11, 5, cI0, cUR cR0 0 (some (m_sz μ + 1))), (1, 1, cI0, cR0), (5, 8, cI0, cR0)] := h3
  refine bk_nn h3 (i := 2) (x := (5, 8, cI0, cR0)) rfl rfl ?_
  refine bk_cV (Q := fun μ' => Blk μ μ' 162 [(11, 5, cI0, cUR cR0 0 (some (m_sz μ + 1))), (1, 1, cI0, cR0), (5, 8, cI0, cUR (cUR (cUR (cUR (cUR (cUR (cUR cR0 1 (some (m_sz μ + 3))) 2 (some (m_sz μ + 4))) 3 (some (m_sz μ + 5))) 4 (some (m_sz μ + 6))) 5 (some (m_sz μ + 7))) 6 (some (m_sz μ + 8))) 7 (some (m_sz μ + 9))), (21, 10, cI0, cR0), (21, 10, cI0, cR0), (23, 10, cI0, cR0), (23, 10, cI0, cR0), (21, 36, cI0, cR0), (21, 36, ltm 36, cR0), (21, 36, ltm 36, cR0)]) ?_ (fun μ18 h18 => ?_)
  · unfold f_Pl_init
    refine bk_nA (n := 10) h3 (by decide) (fun μ4 h4 => ?_)
    have h4 : Blk μ μ4 24 [(11, 5, cI0, cUR cR0 0 (some (m_sz μ + 1))), (1, 1, cI0, cR0), (5, 8, cI0, cR0), (21, 10, cI0, cR0)] := h4
    refine bk_pR h4 (i := 2) (x := (5, 8, cI0, cR0)) rfl rfl (fun μ5 h5 => ?_)
    have h5 : Blk μ μ5 24 [(11, 5, cI0, cUR cR0 0 (some (m_sz μ + 1))), (1, 1, cI0, cR0), (5, 8, cI0, cUR cR0 1 (some (m_sz μ + 3))), (21, 10, cI0, cR0)] := h5
    refine bk_nA (n := 10) h5 (by decide) (fun μ6 h6 => ?_)
    have h6 : Blk μ μ6 34 [(11, 5, cI0, cUR cR0 0 (some (m_sz μ + 1))), (1, 1, cI0, cR0), (5, 8, cI0, cUR cR0 1 (some (m_sz μ + 3))), (21, 10, cI0, cR0), (21, 10, cI0, cR0)] := h6
    refine bk_pR h6 (i := 2) (x := (5, 8, cI0, cUR cR0 1 (some (m_sz μ + 3)))) rfl rfl (fun μ7 h7 => ?_)
    have h7 : Blk μ μ7 34 [(11, 5, cI0, cUR cR0 0 (some (m_sz μ + 1))), (1, 1, cI0, cR0), (5, 8, cI0, cUR (cUR cR0 1 (some (m_sz μ + 3))) 2 (some (m_sz μ + 4))), (21, 10, cI0, cR0), (21, 10, cI0, cR0)] := h7
    refine bk_nA (n := 10) h7 (by decide) (fun μ8 h8 => ?_)
    have h8 : Blk μ μ8 44 [(11, 5, cI0, cUR cR0 0 (some (m_sz μ + 1))), (1, 1, cI0, cR0), (5, 8, cI0, cUR (cUR cR0 1 (some (m_sz μ + 3))) 2 (some (m_sz μ + 4))), (21, 10, cI0, cR0), (21, 10, cI0, cR0), (23, 10, cI0, cR0)] := h8
    refine bk_pR h8 (i := 2) (x := (5, 8, cI0, cUR (cUR cR0 1 (some (m_sz μ + 3))) 2 (some (m_sz μ + 4)))) rfl rfl (fun μ9 h9 => ?_)
    have h9 : Blk μ μ9 44 [(11, 5, cI0, cUR cR0 0 (some (m_sz μ + 1))), (1, 1, cI0, cR0), (5, 8, cI0, cUR (cUR (cUR cR0 1 (some (m_sz μ + 3))) 2 (some (m_sz μ + 4))) 3 (some (m_sz μ + 5))), (21, 10, cI0, cR0), (21, 10, cI0, cR0), (23, 10, cI0, cR0)] := h9
    refine bk_nA (n := 10) h9 (by decide) (fun μ10 h10 => ?_)
    have h10 : Blk μ μ10 54 [(11, 5, cI0, cUR cR0 0 (some (m_sz μ + 1))), (1, 1, cI0, cR0), (5, 8, cI0, cUR (cUR (cUR cR0 1 (some (m_sz μ + 3))) 2 (some (m_sz μ + 4))) 3 (some (m_sz μ + 5))), (21, 10, cI0, cR0), (21, 10, cI0, cR0), (23, 10, cI0, cR0), (23, 10, cI0, cR0)] := h10
    refine bk_pR h10 (i := 2) (x := (5, 8, cI0, cUR (cUR (cUR cR0 1 (some (m_sz μ + 3))) 2 (some (m_sz μ + 4))) 3 (some (m_sz μ + 5)))) rfl rfl (fun μ11 h11 => ?_)
    have h11 : Blk μ μ11 54 [(11, 5, cI0, cUR cR0 0 (some (m_sz μ + 1))), (1, 1, cI0, cR0), (5, 8, cI0, cUR (cUR (cUR (cUR cR0 1 (some (m_sz μ + 3))) 2 (some (m_sz μ + 4))) 3 (some (m_sz μ + 5))) 4 (some (m_sz μ + 6))), (21, 10, cI0, cR0), (21, 10, cI0, cR0), (23, 10, cI0, cR0), (23, 10, cI0, cR0)] := h11
    refine bk_nA (n := 36) h11 (by decide) (fun μ12 h12 => ?_)
    have h12 : Blk μ μ12 90 [(11, 5, cI0, cUR cR0 0 (some (m_sz μ + 1))), (1, 1, cI0, cR0), (5, 8, cI0, cUR (cUR (cUR (cUR cR0 1 (some (m_sz μ + 3))) 2 (some (m_sz μ + 4))) 3 (some (m_sz μ + 5))) 4 (some (m_sz μ + 6))), (21, 10, cI0, cR0), (21, 10, cI0, cR0), (23, 10, cI0, cR0), (23, 10, cI0, cR0), (21, 36, cI0, cR0)] := h12
    refine bk_pR h12 (i := 2) (x := (5, 8, cI0, cUR (cUR (cUR (cUR cR0 1 (some (m_sz μ + 3))) 2 (some (m_sz μ + 4))) 3 (some (m_sz μ + 5))) 4 (some (m_sz μ + 6)))) rfl rfl (fun μ13 h13 => ?_)
    have h13 : Blk μ μ13 90 [(11, 5, cI0, cUR cR0 0 (some (m_sz μ + 1))), (1, 1, cI0, cR0), (5, 8, cI0, cUR (cUR (cUR (cUR (cUR cR0 1 (some (m_sz μ + 3))) 2 (some (m_sz μ + 4))) 3 (some (m_sz μ + 5))) 4 (some (m_sz μ + 6))) 5 (some (m_sz μ + 7))), (21, 10, cI0, cR0), (21, 10, cI0, cR0), (23, 10, cI0, cR0), (23, 10, cI0, cR0), (21, 36, cI0, cR0)] := h13
    refine bk_nA (n := 36) h13 (by decide) (fun μ14 h14 => ?_)
    have h14 : Blk μ μ14 126 [(11, 5, cI0, cUR cR0 0 (some (m_sz μ + 1))), (1, 1, cI0, cR0), (5, 8, cI0, cUR (cUR (cUR (cUR (cUR cR0 1 (some (m_sz μ + 3))) 2 (some (m_sz μ + 4))) 3 (some (m_sz μ + 5))) 4 (some (m_sz μ + 6))) 5 (some (m_sz μ + 7))), (21, 10, cI0, cR0), (21, 10, cI0, cR0), (23, 10, cI0, cR0), (23, 10, cI0, cR0), (21, 36, cI0, cR0), (21, 36, cI0, cR0)] := h14
    refine bk_pR h14 (i := 2) (x := (5, 8, cI0, cUR (cUR (cUR (cUR (cUR cR0 1 (some (m_sz μ + 3))) 2 (some (m_sz μ + 4))) 3 (some (m_sz μ + 5))) 4 (some (m_sz μ + 6))) 5 (some (m_sz μ + 7)))) rfl rfl (fun μ15 h15 => ?_)
    have h15 : Blk μ μ15 126 [(11, 5, cI0, cUR cR0 0 (some (m_sz μ + 1))), (1, 1, cI0, cR0), (5, 8, cI0, cUR (cUR (cUR (cUR (cUR (cUR cR0 1 (some (m_sz μ + 3))) 2 (some (m_sz μ + 4))) 3 (some (m_sz μ + 5))) 4 (some (m_sz μ + 6))) 5 (some (m_sz μ + 7))) 6 (some (m_sz μ + 8))), (21, 10, cI0, cR0), (21, 10, cI0, cR0), (23, 10, cI0, cR0), (23, 10, cI0, cR0), (21, 36, cI0, cR0), (21, 36, cI0, cR0)] := h15
    refine bk_nA (n := 36) h15 (by decide) (fun μ16 h16 => ?_)
    have h16 : Blk μ μ16 162 [(11, 5, cI0, cUR cR0 0 (some (m_sz μ + 1))), (1, 1, cI0, cR0), (5, 8, cI0, cUR (cUR (cUR (cUR (cUR (cUR cR0 1 (some (m_sz μ + 3))) 2 (some (m_sz μ + 4))) 3 (some (m_sz μ + 5))) 4 (some (m_sz μ + 6))) 5 (some (m_sz μ + 7))) 6 (some (m_sz μ + 8))), (21, 10, cI0, cR0), (21, 10, cI0, cR0), (23, 10, cI0, cR0), (23, 10, cI0, cR0), (21, 36, cI0, cR0), (21, 36, cI0, cR0), (21, 36, cI0, cR0)] := h16
    refine bk_pR h16 (i := 2) (x := (5, 8, cI0, cUR (cUR (cUR (cUR (cUR (cUR cR0 1 (some (m_sz μ + 3))) 2 (some (m_sz μ + 4))) 3 (some (m_sz μ + 5))) 4 (some (m_sz μ + 6))) 5 (some (m_sz μ + 7))) 6 (some (m_sz μ + 8)))) rfl rfl (fun μ17 h17 => ?_)
    have h17 : Blk μ μ17 162 [(11, 5, cI0, cUR cR0 0 (some (m_sz μ + 1))), (1, 1, cI0, cR0), (5, 8, cI0, cUR (cUR (cUR (cUR (cUR (cUR (cUR cR0 1 (some (m_sz μ + 3))) 2 (some (m_sz μ + 4))) 3 (some (m_sz μ + 5))) 4 (some (m_sz μ + 6))) 5 (some (m_sz μ + 7))) 6 (some (m_sz μ + 8))) 7 (some (m_sz μ + 9))), (21, 10, cI0, cR0), (21, 10, cI0, cR0), (23, 10, cI0, cR0), (23, 10, cI0, cR0), (21, 36, cI0, cR0), (21, 36, cI0, cR0), (21, 36, cI0, cR0)] := h17
    have hL := x_Pl62 (μ := μ) (us := 162) (A := [(11, 5, cI0, cUR cR0 0 (some (m_sz μ + 1))), (1, 1, cI0, cR0), (5, 8, cI0, cUR (cUR (cUR (cUR (cUR (cUR (cUR cR0 1 (some (m_sz μ + 3))) 2 (some (m_sz μ + 4))) 3 (some (m_sz μ + 5))) 4 (some (m_sz μ + 6))) 5 (some (m_sz μ + 7))) 6 (some (m_sz μ + 8))) 7 (some (m_sz μ + 9))), (21, 10, cI0, cR0), (21, 10, cI0, cR0), (23, 10, cI0, cR0), (23, 10, cI0, cR0), (21, 36, cI0, cR0)]) (x2 := (5, 8, cI0, cUR (cUR (cUR (cUR (cUR (cUR (cUR cR0 1 (some (m_sz μ + 3))) 2 (some (m_sz μ + 4))) 3 (some (m_sz μ + 5))) 4 (some (m_sz μ + 6))) 5 (some (m_sz μ + 7))) 6 (some (m_sz μ + 8))) 7 (some (m_sz μ + 9)))) rfl rfl rfl rfl rfl 36 sn_fuel 0 μ17 rfl (by unfold sn_fuel; omega) (by rw [ltm_0]; exact h17)
    exact hL
  refine bk_pR h18 (i := 0) (x := (11, 5, cI0, cUR cR0 0 (some (m_sz μ + 1)))) rfl rfl (fun μ19 h19 => ?_)
  have h19 : Blk μ μ19 162 [(11, 5, cI0, cUR (cUR cR0 0 (some (m_sz μ + 1))) 1 (some (m_sz μ + 2))), (1, 1, cI0, cR0), (5, 8, cI0, cUR (cUR (cUR (cUR (cUR (cUR (cUR cR0 1 (some (m_sz μ + 3))) 2 (some (m_sz μ + 4))) 3 (some (m_sz μ + 5))) 4 (some (m_sz μ + 6))) 5 (some (m_sz μ + 7))) 6 (some (m_sz μ + 8))) 7 (some (m_sz μ + 9))), (21, 10, cI0, cR0), (21, 10, cI0, cR0), (23, 10, cI0, cR0), (23, 10, cI0, cR0), (21, 36, cI0, cR0), (21, 36, ltm 36, cR0), (21, 36, ltm 36, cR0)] := h19
  refine bk_nO h19 (fun μ20 h20 => ?_)
  have h20 : Blk μ μ20 172 [(11, 5, cI0, cUR (cUR cR0 0 (some (m_sz μ + 1))) 1 (some (m_sz μ + 2))), (1, 1, cI0, cR0), (5, 8, cI0, cUR (cUR (cUR (cUR (cUR (cUR (cUR cR0 1 (some (m_sz μ + 3))) 2 (some (m_sz μ + 4))) 3 (some (m_sz μ + 5))) 4 (some (m_sz μ + 6))) 5 (some (m_sz μ + 7))) 6 (some (m_sz μ + 8))) 7 (some (m_sz μ + 9))), (21, 10, cI0, cR0), (21, 10, cI0, cR0), (23, 10, cI0, cR0), (23, 10, cI0, cR0), (21, 36, cI0, cR0), (21, 36, ltm 36, cR0), (21, 36, ltm 36, cR0), (8, 10, cI0, cR0)] := h20
  refine bk_gR h20 (i := 0) (x := (11, 5, cI0, cUR (cUR cR0 0 (some (m_sz μ + 1))) 1 (some (m_sz μ + 2)))) rfl rfl ?_
  refine bk_gR h20 (i := 0) (x := (11, 5, cI0, cUR (cUR cR0 0 (some (m_sz μ + 1))) 1 (some (m_sz μ + 2)))) rfl rfl ?_
  refine bk_nn h20 (i := 10) (x := (8, 10, cI0, cR0)) rfl rfl ?_
  refine bk_cV (Q := fun μ' => Blk μ μ' 912 [(11, 5, cI0, cUR (cUR cR0 0 (some (m_sz μ + 1))) 1 (some (m_sz μ + 2))), (1, 1, cI0, cR0), (5, 8, cI0, cUR (cUR (cUR (cUR (cUR (cUR (cUR cR0 1 (some (m_sz μ + 3))) 2 (some (m_sz μ + 4))) 3 (some (m_sz μ + 5))) 4 (some (m_sz μ + 6))) 5 (some (m_sz μ + 7))) 6 (some (m_sz μ + 8))) 7 (some (m_sz μ + 9))), (21, 10, cI0, cR0), (21, 10, cI0, cR0), (23, 10, cI0, cR0), (23, 10, cI0, cR0), (21, 36, cI0, cR0), (21, 36, ltm 36, cR0), (21, 36, ltm 36, cR0), (8, 10, cI0, cUR (cUR (cUR (cUR (cUR (cUR (cUR cR0 2 (some (m_sz μ + 11))) 3 (some (m_sz μ + 12))) 4 (some (m_sz μ + 13))) 5 (some (m_sz μ + 14))) 6 (some (m_sz μ + 15))) 0 (some (m_sz μ + 2))) 1 (some (m_sz μ + 1))), (24, 20, cI0, cR0), (24, 144, cI0, cR0), (25, 144, cI0, cR0), (23, 216, cI0, cR0), (21, 216, cI0, cR0)]) ?_ (fun μ33 h33 => ?_)
  · unfold f_Tr_init
    refine bk_nA (n := 20) h20 (by decide) (fun μ21 h21 => ?_)
    have h21 : Blk μ μ21 192 [(11, 5, cI0, cUR (cUR cR0 0 (some (m_sz μ + 1))) 1 (some (m_sz μ + 2))), (1, 1, cI0, cR0), (5, 8, cI0, cUR (cUR (cUR (cUR (cUR (cUR (cUR cR0 1 (some (m_sz μ + 3))) 2 (some (m_sz μ + 4))) 3 (some (m_sz μ + 5))) 4 (some (m_sz μ + 6))) 5 (some (m_sz μ + 7))) 6 (some (m_sz μ + 8))) 7 (some (m_sz μ + 9))), (21, 10, cI0, cR0), (21, 10, cI0, cR0), (23, 10, cI0, cR0), (23, 10, cI0, cR0), (21, 36, cI0, cR0), (21, 36, ltm 36, cR0), (21, 36, ltm 36, cR0), (8, 10, cI0, cR0), (24, 20, cI0, cR0)] := h21
    refine bk_pR h21 (i := 10) (x := (8, 10, cI0, cR0)) rfl rfl (fun μ22 h22 => ?_)
    have h22 : Blk μ μ22 192 [(11, 5, cI0, cUR (cUR cR0 0 (some (m_sz μ + 1))) 1 (some (m_sz μ + 2))), (1, 1, cI0, cR0), (5, 8, cI0, cUR (cUR (cUR (cUR (cUR (cUR (cUR cR0 1 (some (m_sz μ + 3))) 2 (some (m_sz μ + 4))) 3 (some (m_sz μ + 5))) 4 (some (m_sz μ + 6))) 5 (some (m_sz μ + 7))) 6 (some (m_sz μ + 8))) 7 (some (m_sz μ + 9))), (21, 10, cI0, cR0), (21, 10, cI0, cR0), (23, 10, cI0, cR0), (23, 10, cI0, cR0), (21, 36, cI0, cR0), (21, 36, ltm 36, cR0), (21, 36, ltm 36, cR0), (8, 10, cI0, cUR cR0 2 (some (m_sz μ + 11))), (24, 20, cI0, cR0)] := h22
    refine bk_nA (n := 144) h22 (by decide) (fun μ23 h23 => ?_)
    have h23 : Blk μ μ23 336 [(11, 5, cI0, cUR (cUR cR0 0 (some (m_sz μ + 1))) 1 (some (m_sz μ + 2))), (1, 1, cI0, cR0), (5, 8, cI0, cUR (cUR (cUR (cUR (cUR (cUR (cUR cR0 1 (some (m_sz μ + 3))) 2 (some (m_sz μ + 4))) 3 (some (m_sz μ + 5))) 4 (some (m_sz μ + 6))) 5 (some (m_sz μ + 7))) 6 (some (m_sz μ + 8))) 7 (some (m_sz μ + 9))), (21, 10, cI0, cR0), (21, 10, cI0, cR0), (23, 10, cI0, cR0), (23, 10, cI0, cR0), (21, 36, cI0, cR0), (21, 36, ltm 36, cR0), (21, 36, ltm 36, cR0), (8, 10, cI0, cUR cR0 2 (some (m_sz μ + 11))), (24, 20, cI0, cR0), (24, 144, cI0, cR0)] := h23
    refine bk_pR h23 (i := 10) (x := (8, 10, cI0, cUR cR0 2 (some (m_sz μ + 11)))) rfl rfl (fun μ24 h24 => ?_)
    have h24 : Blk μ μ24 336 [(11, 5, cI0, cUR (cUR cR0 0 (some (m_sz μ + 1))) 1 (some (m_sz μ + 2))), (1, 1, cI0, cR0), (5, 8, cI0, cUR (cUR (cUR (cUR (cUR (cUR (cUR cR0 1 (some (m_sz μ + 3))) 2 (some (m_sz μ + 4))) 3 (some (m_sz μ + 5))) 4 (some (m_sz μ + 6))) 5 (some (m_sz μ + 7))) 6 (some (m_sz μ + 8))) 7 (some (m_sz μ + 9))), (21, 10, cI0, cR0), (21, 10, cI0, cR0), (23, 10, cI0, cR0), (23, 10, cI0, cR0), (21, 36, cI0, cR0), (21, 36, ltm 36, cR0), (21, 36, ltm 36, cR0), (8, 10, cI0, cUR (cUR cR0 2 (some (m_sz μ + 11))) 3 (some (m_sz μ + 12))), (24, 20, cI0, cR0), (24, 144, cI0, cR0)] := h24
    refine bk_nA (n := 144) h24 (by decide) (fun μ25 h25 => ?_)
    have h25 : Blk μ μ25 480 [(11, 5, cI0, cUR (cUR cR0 0 (some (m_sz μ + 1))) 1 (some (m_sz μ + 2))), (1, 1, cI0, cR0), (5, 8, cI0, cUR (cUR (cUR (cUR (cUR (cUR (cUR cR0 1 (some (m_sz μ + 3))) 2 (some (m_sz μ + 4))) 3 (some (m_sz μ + 5))) 4 (some (m_sz μ + 6))) 5 (some (m_sz μ + 7))) 6 (some (m_sz μ + 8))) 7 (some (m_sz μ + 9))), (21, 10, cI0, cR0), (21, 10, cI0, cR0), (23, 10, cI0, cR0), (23, 10, cI0, cR0), (21, 36, cI0, cR0), (21, 36, ltm 36, cR0), (21, 36, ltm 36, cR0), (8, 10, cI0, cUR (cUR cR0 2 (some (m_sz μ + 11))) 3 (some (m_sz μ + 12))), (24, 20, cI0, cR0), (24, 144, cI0, cR0), (25, 144, cI0, cR0)] := h25
    refine bk_pR h25 (i := 10) (x := (8, 10, cI0, cUR (cUR cR0 2 (some (m_sz μ + 11))) 3 (some (m_sz μ + 12)))) rfl rfl (fun μ26 h26 => ?_)
    have h26 : Blk μ μ26 480 [(11, 5, cI0, cUR (cUR cR0 0 (some (m_sz μ + 1))) 1 (some (m_sz μ + 2))), (1, 1, cI0, cR0), (5, 8, cI0, cUR (cUR (cUR (cUR (cUR (cUR (cUR cR0 1 (some (m_sz μ + 3))) 2 (some (m_sz μ + 4))) 3 (some (m_sz μ + 5))) 4 (some (m_sz μ + 6))) 5 (some (m_sz μ + 7))) 6 (some (m_sz μ + 8))) 7 (some (m_sz μ + 9))), (21, 10, cI0, cR0), (21, 10, cI0, cR0), (23, 10, cI0, cR0), (23, 10, cI0, cR0), (21, 36, cI0, cR0), (21, 36, ltm 36, cR0), (21, 36, ltm 36, cR0), (8, 10, cI0, cUR (cUR (cUR cR0 2 (some (m_sz μ + 11))) 3 (some (m_sz μ + 12))) 4 (some (m_sz μ + 13))), (24, 20, cI0, cR0), (24, 144, cI0, cR0), (25, 144, cI0, cR0)] := h26
    refine bk_nA (n := 216) h26 (by decide) (fun μ27 h27 => ?_)
    have h27 : Blk μ μ27 696 [(11, 5, cI0, cUR (cUR cR0 0 (some (m_sz μ + 1))) 1 (some (m_sz μ + 2))), (1, 1, cI0, cR0), (5, 8, cI0, cUR (cUR (cUR (cUR (cUR (cUR (cUR cR0 1 (some (m_sz μ + 3))) 2 (some (m_sz μ + 4))) 3 (some (m_sz μ + 5))) 4 (some (m_sz μ + 6))) 5 (some (m_sz μ + 7))) 6 (some (m_sz μ + 8))) 7 (some (m_sz μ + 9))), (21, 10, cI0, cR0), (21, 10, cI0, cR0), (23, 10, cI0, cR0), (23, 10, cI0, cR0), (21, 36, cI0, cR0), (21, 36, ltm 36, cR0), (21, 36, ltm 36, cR0), (8, 10, cI0, cUR (cUR (cUR cR0 2 (some (m_sz μ + 11))) 3 (some (m_sz μ + 12))) 4 (some (m_sz μ + 13))), (24, 20, cI0, cR0), (24, 144, cI0, cR0), (25, 144, cI0, cR0), (23, 216, cI0, cR0)] := h27
    refine bk_pR h27 (i := 10) (x := (8, 10, cI0, cUR (cUR (cUR cR0 2 (some (m_sz μ + 11))) 3 (some (m_sz μ + 12))) 4 (some (m_sz μ + 13)))) rfl rfl (fun μ28 h28 => ?_)
    have h28 : Blk μ μ28 696 [(11, 5, cI0, cUR (cUR cR0 0 (some (m_sz μ + 1))) 1 (some (m_sz μ + 2))), (1, 1, cI0, cR0), (5, 8, cI0, cUR (cUR (cUR (cUR (cUR (cUR (cUR cR0 1 (some (m_sz μ + 3))) 2 (some (m_sz μ + 4))) 3 (some (m_sz μ + 5))) 4 (some (m_sz μ + 6))) 5 (some (m_sz μ + 7))) 6 (some (m_sz μ + 8))) 7 (some (m_sz μ + 9))), (21, 10, cI0, cR0), (21, 10, cI0, cR0), (23, 10, cI0, cR0), (23, 10, cI0, cR0), (21, 36, cI0, cR0), (21, 36, ltm 36, cR0), (21, 36, ltm 36, cR0), (8, 10, cI0, cUR (cUR (cUR (cUR cR0 2 (some (m_sz μ + 11))) 3 (some (m_sz μ + 12))) 4 (some (m_sz μ + 13))) 5 (some (m_sz μ + 14))), (24, 20, cI0, cR0), (24, 144, cI0, cR0), (25, 144, cI0, cR0), (23, 216, cI0, cR0)] := h28
    refine bk_nA (n := 216) h28 (by decide) (fun μ29 h29 => ?_)
    have h29 : Blk μ μ29 912 [(11, 5, cI0, cUR (cUR cR0 0 (some (m_sz μ + 1))) 1 (some (m_sz μ + 2))), (1, 1, cI0, cR0), (5, 8, cI0, cUR (cUR (cUR (cUR (cUR (cUR (cUR cR0 1 (some (m_sz μ + 3))) 2 (some (m_sz μ + 4))) 3 (some (m_sz μ + 5))) 4 (some (m_sz μ + 6))) 5 (some (m_sz μ + 7))) 6 (some (m_sz μ + 8))) 7 (some (m_sz μ + 9))), (21, 10, cI0, cR0), (21, 10, cI0, cR0), (23, 10, cI0, cR0), (23, 10, cI0, cR0), (21, 36, cI0, cR0), (21, 36, ltm 36, cR0), (21, 36, ltm 36, cR0), (8, 10, cI0, cUR (cUR (cUR (cUR cR0 2 (some (m_sz μ + 11))) 3 (some (m_sz μ + 12))) 4 (some (m_sz μ + 13))) 5 (some (m_sz μ + 14))), (24, 20, cI0, cR0), (24, 144, cI0, cR0), (25, 144, cI0, cR0), (23, 216, cI0, cR0), (21, 216, cI0, cR0)] := h29
    refine bk_pR h29 (i := 10) (x := (8, 10, cI0, cUR (cUR (cUR (cUR cR0 2 (some (m_sz μ + 11))) 3 (some (m_sz μ + 12))) 4 (some (m_sz μ + 13))) 5 (some (m_sz μ + 14)))) rfl rfl (fun μ30 h30 => ?_)
    have h30 : Blk μ μ30 912 [(11, 5, cI0, cUR (cUR cR0 0 (some (m_sz μ + 1))) 1 (some (m_sz μ + 2))), (1, 1, cI0, cR0), (5, 8, cI0, cUR (cUR (cUR (cUR (cUR (cUR (cUR cR0 1 (some (m_sz μ + 3))) 2 (some (m_sz μ + 4))) 3 (some (m_sz μ + 5))) 4 (some (m_sz μ + 6))) 5 (some (m_sz μ + 7))) 6 (some (m_sz μ + 8))) 7 (some (m_sz μ + 9))), (21, 10, cI0, cR0), (21, 10, cI0, cR0), (23, 10, cI0, cR0), (23, 10, cI0, cR0), (21, 36, cI0, cR0), (21, 36, ltm 36, cR0), (21, 36, ltm 36, cR0), (8, 10, cI0, cUR (cUR (cUR (cUR (cUR cR0 2 (some (m_sz μ + 11))) 3 (some (m_sz μ + 12))) 4 (some (m_sz μ + 13))) 5 (some (m_sz μ + 14))) 6 (some (m_sz μ + 15))), (24, 20, cI0, cR0), (24, 144, cI0, cR0), (25, 144, cI0, cR0), (23, 216, cI0, cR0), (21, 216, cI0, cR0)] := h30
    refine bk_pR h30 (i := 10) (x := (8, 10, cI0, cUR (cUR (cUR (cUR (cUR cR0 2 (some (m_sz μ + 11))) 3 (some (m_sz μ + 12))) 4 (some (m_sz μ + 13))) 5 (some (m_sz μ + 14))) 6 (some (m_sz μ + 15)))) rfl rfl (fun μ31 h31 => ?_)
    have h31 : Blk μ μ31 912 [(11, 5, cI0, cUR (cUR cR0 0 (some (m_sz μ + 1))) 1 (some (m_sz μ + 2))), (1, 1, cI0, cR0), (5, 8, cI0, cUR (cUR (cUR (cUR (cUR (cUR (cUR cR0 1 (some (m_sz μ + 3))) 2 (some (m_sz μ + 4))) 3 (some (m_sz μ + 5))) 4 (some (m_sz μ + 6))) 5 (some (m_sz μ + 7))) 6 (some (m_sz μ + 8))) 7 (some (m_sz μ + 9))), (21, 10, cI0, cR0), (21, 10, cI0, cR0), (23, 10, cI0, cR0), (23, 10, cI0, cR0), (21, 36, cI0, cR0), (21, 36, ltm 36, cR0), (21, 36, ltm 36, cR0), (8, 10, cI0, cUR (cUR (cUR (cUR (cUR (cUR cR0 2 (some (m_sz μ + 11))) 3 (some (m_sz μ + 12))) 4 (some (m_sz μ + 13))) 5 (some (m_sz μ + 14))) 6 (some (m_sz μ + 15))) 0 (some (m_sz μ + 2))), (24, 20, cI0, cR0), (24, 144, cI0, cR0), (25, 144, cI0, cR0), (23, 216, cI0, cR0), (21, 216, cI0, cR0)] := h31
    refine bk_pR h31 (i := 10) (x := (8, 10, cI0, cUR (cUR (cUR (cUR (cUR (cUR cR0 2 (some (m_sz μ + 11))) 3 (some (m_sz μ + 12))) 4 (some (m_sz μ + 13))) 5 (some (m_sz μ + 14))) 6 (some (m_sz μ + 15))) 0 (some (m_sz μ + 2)))) rfl rfl (fun μ32 h32 => ?_)
    have h32 : Blk μ μ32 912 [(11, 5, cI0, cUR (cUR cR0 0 (some (m_sz μ + 1))) 1 (some (m_sz μ + 2))), (1, 1, cI0, cR0), (5, 8, cI0, cUR (cUR (cUR (cUR (cUR (cUR (cUR cR0 1 (some (m_sz μ + 3))) 2 (some (m_sz μ + 4))) 3 (some (m_sz μ + 5))) 4 (some (m_sz μ + 6))) 5 (some (m_sz μ + 7))) 6 (some (m_sz μ + 8))) 7 (some (m_sz μ + 9))), (21, 10, cI0, cR0), (21, 10, cI0, cR0), (23, 10, cI0, cR0), (23, 10, cI0, cR0), (21, 36, cI0, cR0), (21, 36, ltm 36, cR0), (21, 36, ltm 36, cR0), (8, 10, cI0, cUR (cUR (cUR (cUR (cUR (cUR (cUR cR0 2 (some (m_sz μ + 11))) 3 (some (m_sz μ + 12))) 4 (some (m_sz μ + 13))) 5 (some (m_sz μ + 14))) 6 (some (m_sz μ + 15))) 0 (some (m_sz μ + 2))) 1 (some (m_sz μ + 1))), (24, 20, cI0, cR0), (24, 144, cI0, cR0), (25, 144, cI0, cR0), (23, 216, cI0, cR0), (21, 216, cI0, cR0)] := h32
    exact bk_V h32
  refine bk_pR h33 (i := 0) (x := (11, 5, cI0, cUR (cUR cR0 0 (some (m_sz μ + 1))) 1 (some (m_sz μ + 2)))) rfl rfl (fun μ34 h34 => ?_)
  have h34 : Blk μ μ34 912 [(11, 5, cI0, cUR (cUR (cUR cR0 0 (some (m_sz μ + 1))) 1 (some (m_sz μ + 2))) 2 (some (m_sz μ + 10))), (1, 1, cI0, cR0), (5, 8, cI0, cUR (cUR (cUR (cUR (cUR (cUR (cUR cR0 1 (some (m_sz μ + 3))) 2 (some (m_sz μ + 4))) 3 (some (m_sz μ + 5))) 4 (some (m_sz μ + 6))) 5 (some (m_sz μ + 7))) 6 (some (m_sz μ + 8))) 7 (some (m_sz μ + 9))), (21, 10, cI0, cR0), (21, 10, cI0, cR0), (23, 10, cI0, cR0), (23, 10, cI0, cR0), (21, 36, cI0, cR0), (21, 36, ltm 36, cR0), (21, 36, ltm 36, cR0), (8, 10, cI0, cUR (cUR (cUR (cUR (cUR (cUR (cUR cR0 2 (some (m_sz μ + 11))) 3 (some (m_sz μ + 12))) 4 (some (m_sz μ + 13))) 5 (some (m_sz μ + 14))) 6 (some (m_sz μ + 15))) 0 (some (m_sz μ + 2))) 1 (some (m_sz μ + 1))), (24, 20, cI0, cR0), (24, 144, cI0, cR0), (25, 144, cI0, cR0), (23, 216, cI0, cR0), (21, 216, cI0, cR0)] := h34
  refine bk_nO h34 (fun μ35 h35 => ?_)
  have h35 : Blk μ μ35 917 [(11, 5, cI0, cUR (cUR (cUR cR0 0 (some (m_sz μ + 1))) 1 (some (m_sz μ + 2))) 2 (some (m_sz μ + 10))), (1, 1, cI0, cR0), (5, 8, cI0, cUR (cUR (cUR (cUR (cUR (cUR (cUR cR0 1 (some (m_sz μ + 3))) 2 (some (m_sz μ + 4))) 3 (some (m_sz μ + 5))) 4 (some (m_sz μ + 6))) 5 (some (m_sz μ + 7))) 6 (some (m_sz μ + 8))) 7 (some (m_sz μ + 9))), (21, 10, cI0, cR0), (21, 10, cI0, cR0), (23, 10, cI0, cR0), (23, 10, cI0, cR0), (21, 36, cI0, cR0), (21, 36, ltm 36, cR0), (21, 36, ltm 36, cR0), (8, 10, cI0, cUR (cUR (cUR (cUR (cUR (cUR (cUR cR0 2 (some (m_sz μ + 11))) 3 (some (m_sz μ + 12))) 4 (some (m_sz μ + 13))) 5 (some (m_sz μ + 14))) 6 (some (m_sz μ + 15))) 0 (some (m_sz μ + 2))) 1 (some (m_sz μ + 1))), (24, 20, cI0, cR0), (24, 144, cI0, cR0), (25, 144, cI0, cR0), (23, 216, cI0, cR0), (21, 216, cI0, cR0), (7, 5, cI0, cR0)] := h35
  refine bk_gR h35 (i := 0) (x := (11, 5, cI0, cUR (cUR (cUR cR0 0 (some (m_sz μ + 1))) 1 (some (m_sz μ + 2))) 2 (some (m_sz μ + 10)))) rfl rfl ?_
  refine bk_gR h35 (i := 0) (x := (11, 5, cI0, cUR (cUR (cUR cR0 0 (some (m_sz μ + 1))) 1 (some (m_sz μ + 2))) 2 (some (m_sz μ + 10)))) rfl rfl ?_
  refine bk_nn h35 (i := 16) (x := (7, 5, cI0, cR0)) rfl rfl ?_
  refine bk_cV (Q := fun μ' => Blk μ μ' (1104 + 288) ([(11, 5, cI0, cUR (cUR (cUR cR0 0 (some (m_sz μ + 1))) 1 (some (m_sz μ + 2))) 2 (some (m_sz μ + 10))), (1, 1, cI0, cR0), (5, 8, cI0, cUR (cUR (cUR (cUR (cUR (cUR (cUR cR0 1 (some (m_sz μ + 3))) 2 (some (m_sz μ + 4))) 3 (some (m_sz μ + 5))) 4 (some (m_sz μ + 6))) 5 (some (m_sz μ + 7))) 6 (some (m_sz μ + 8))) 7 (some (m_sz μ + 9))), (21, 10, cI0, cR0), (21, 10, cI0, cR0), (23, 10, cI0, cR0), (23, 10, cI0, cR0), (21, 36, cI0, cR0), (21, 36, ltm 36, cR0), (21, 36, ltm 36, cR0), (8, 10, cI0, cUR (cUR (cUR (cUR (cUR (cUR (cUR cR0 2 (some (m_sz μ + 11))) 3 (some (m_sz μ + 12))) 4 (some (m_sz μ + 13))) 5 (some (m_sz μ + 14))) 6 (some (m_sz μ + 15))) 0 (some (m_sz μ + 2))) 1 (some (m_sz μ + 1))), (24, 20, cI0, cR0), (24, 144, cI0, cR0), (25, 144, cI0, cR0), (23, 216, cI0, cR0), (21, 216, cI0, cR0), (7, 5, cI0, cUR (cUR (cUR (cUR (cUR cR0 2 (some (m_sz μ + 17))) 3 (some (m_sz μ + 18))) 4 (some (m_sz μ + 19))) 0 (some (m_sz μ + 2))) 1 (some (m_sz μ + 1)))] ++ [(26, 24, cI0, rrm (m_sz μ) 24)] ++ [(26, 144, cI0, cR0), (6, 3, cI0, cUR cR0 0 (some (m_sz μ + 20))), (22, 16, cI0, cR0)] ++ lgs 24)) ?_ (fun μ45 h45 => ?_)
  · unfold f_Sw_init
    refine bk_nA (n := 24) h35 (by decide) (fun μ36 h36 => ?_)
    have h36 : Blk μ μ36 941 [(11, 5, cI0, cUR (cUR (cUR cR0 0 (some (m_sz μ + 1))) 1 (some (m_sz μ + 2))) 2 (some (m_sz μ + 10))), (1, 1, cI0, cR0), (5, 8, cI0, cUR (cUR (cUR (cUR (cUR (cUR (cUR cR0 1 (some (m_sz μ + 3))) 2 (some (m_sz μ + 4))) 3 (some (m_sz μ + 5))) 4 (some (m_sz μ + 6))) 5 (some (m_sz μ + 7))) 6 (some (m_sz μ + 8))) 7 (some (m_sz μ + 9))), (21, 10, cI0, cR0), (21, 10, cI0, cR0), (23, 10, cI0, cR0), (23, 10, cI0, cR0), (21, 36, cI0, cR0), (21, 36, ltm 36, cR0), (21, 36, ltm 36, cR0), (8, 10, cI0, cUR (cUR (cUR (cUR (cUR (cUR (cUR cR0 2 (some (m_sz μ + 11))) 3 (some (m_sz μ + 12))) 4 (some (m_sz μ + 13))) 5 (some (m_sz μ + 14))) 6 (some (m_sz μ + 15))) 0 (some (m_sz μ + 2))) 1 (some (m_sz μ + 1))), (24, 20, cI0, cR0), (24, 144, cI0, cR0), (25, 144, cI0, cR0), (23, 216, cI0, cR0), (21, 216, cI0, cR0), (7, 5, cI0, cR0), (26, 24, cI0, cR0)] := h36
    refine bk_pR h36 (i := 16) (x := (7, 5, cI0, cR0)) rfl rfl (fun μ37 h37 => ?_)
    have h37 : Blk μ μ37 941 [(11, 5, cI0, cUR (cUR (cUR cR0 0 (some (m_sz μ + 1))) 1 (some (m_sz μ + 2))) 2 (some (m_sz μ + 10))), (1, 1, cI0, cR0), (5, 8, cI0, cUR (cUR (cUR (cUR (cUR (cUR (cUR cR0 1 (some (m_sz μ + 3))) 2 (some (m_sz μ + 4))) 3 (some (m_sz μ + 5))) 4 (some (m_sz μ + 6))) 5 (some (m_sz μ + 7))) 6 (some (m_sz μ + 8))) 7 (some (m_sz μ + 9))), (21, 10, cI0, cR0), (21, 10, cI0, cR0), (23, 10, cI0, cR0), (23, 10, cI0, cR0), (21, 36, cI0, cR0), (21, 36, ltm 36, cR0), (21, 36, ltm 36, cR0), (8, 10, cI0, cUR (cUR (cUR (cUR (cUR (cUR (cUR cR0 2 (some (m_sz μ + 11))) 3 (some (m_sz μ + 12))) 4 (some (m_sz μ + 13))) 5 (some (m_sz μ + 14))) 6 (some (m_sz μ + 15))) 0 (some (m_sz μ + 2))) 1 (some (m_sz μ + 1))), (24, 20, cI0, cR0), (24, 144, cI0, cR0), (25, 144, cI0, cR0), (23, 216, cI0, cR0), (21, 216, cI0, cR0), (7, 5, cI0, cUR cR0 2 (some (m_sz μ + 17))), (26, 24, cI0, cR0)] := h37
    refine bk_nA (n := 144) h37 (by decide) (fun μ38 h38 => ?_)
    have h38 : Blk μ μ38 1085 [(11, 5, cI0, cUR (cUR (cUR cR0 0 (some (m_sz μ + 1))) 1 (some (m_sz μ + 2))) 2 (some (m_sz μ + 10))), (1, 1, cI0, cR0), (5, 8, cI0, cUR (cUR (cUR (cUR (cUR (cUR (cUR cR0 1 (some (m_sz μ + 3))) 2 (some (m_sz μ + 4))) 3 (some (m_sz μ + 5))) 4 (some (m_sz μ + 6))) 5 (some (m_sz μ + 7))) 6 (some (m_sz μ + 8))) 7 (some (m_sz μ + 9))), (21, 10, cI0, cR0), (21, 10, cI0, cR0), (23, 10, cI0, cR0), (23, 10, cI0, cR0), (21, 36, cI0, cR0), (21, 36, ltm 36, cR0), (21, 36, ltm 36, cR0), (8, 10, cI0, cUR (cUR (cUR (cUR (cUR (cUR (cUR cR0 2 (some (m_sz μ + 11))) 3 (some (m_sz μ + 12))) 4 (some (m_sz μ + 13))) 5 (some (m_sz μ + 14))) 6 (some (m_sz μ + 15))) 0 (some (m_sz μ + 2))) 1 (some (m_sz μ + 1))), (24, 20, cI0, cR0), (24, 144, cI0, cR0), (25, 144, cI0, cR0), (23, 216, cI0, cR0), (21, 216, cI0, cR0), (7, 5, cI0, cUR cR0 2 (some (m_sz μ + 17))), (26, 24, cI0, cR0), (26, 144, cI0, cR0)] := h38
    refine bk_pR h38 (i := 16) (x := (7, 5, cI0, cUR cR0 2 (some (m_sz μ + 17)))) rfl rfl (fun μ39 h39 => ?_)
    have h39 : Blk μ μ39 1085 [(11, 5, cI0, cUR (cUR (cUR cR0 0 (some (m_sz μ + 1))) 1 (some (m_sz μ + 2))) 2 (some (m_sz μ + 10))), (1, 1, cI0, cR0), (5, 8, cI0, cUR (cUR (cUR (cUR (cUR (cUR (cUR cR0 1 (some (m_sz μ + 3))) 2 (some (m_sz μ + 4))) 3 (some (m_sz μ + 5))) 4 (some (m_sz μ + 6))) 5 (some (m_sz μ + 7))) 6 (some (m_sz μ + 8))) 7 (some (m_sz μ + 9))), (21, 10, cI0, cR0), (21, 10, cI0, cR0), (23, 10, cI0, cR0), (23, 10, cI0, cR0), (21, 36, cI0, cR0), (21, 36, ltm 36, cR0), (21, 36, ltm 36, cR0), (8, 10, cI0, cUR (cUR (cUR (cUR (cUR (cUR (cUR cR0 2 (some (m_sz μ + 11))) 3 (some (m_sz μ + 12))) 4 (some (m_sz μ + 13))) 5 (some (m_sz μ + 14))) 6 (some (m_sz μ + 15))) 0 (some (m_sz μ + 2))) 1 (some (m_sz μ + 1))), (24, 20, cI0, cR0), (24, 144, cI0, cR0), (25, 144, cI0, cR0), (23, 216, cI0, cR0), (21, 216, cI0, cR0), (7, 5, cI0, cUR (cUR cR0 2 (some (m_sz μ + 17))) 3 (some (m_sz μ + 18))), (26, 24, cI0, cR0), (26, 144, cI0, cR0)] := h39
    refine bk_nO h39 (fun μ40 h40 => ?_)
    have h40 : Blk μ μ40 1088 [(11, 5, cI0, cUR (cUR (cUR cR0 0 (some (m_sz μ + 1))) 1 (some (m_sz μ + 2))) 2 (some (m_sz μ + 10))), (1, 1, cI0, cR0), (5, 8, cI0, cUR (cUR (cUR (cUR (cUR (cUR (cUR cR0 1 (some (m_sz μ + 3))) 2 (some (m_sz μ + 4))) 3 (some (m_sz μ + 5))) 4 (some (m_sz μ + 6))) 5 (some (m_sz μ + 7))) 6 (some (m_sz μ + 8))) 7 (some (m_sz μ + 9))), (21, 10, cI0, cR0), (21, 10, cI0, cR0), (23, 10, cI0, cR0), (23, 10, cI0, cR0), (21, 36, cI0, cR0), (21, 36, ltm 36, cR0), (21, 36, ltm 36, cR0), (8, 10, cI0, cUR (cUR (cUR (cUR (cUR (cUR (cUR cR0 2 (some (m_sz μ + 11))) 3 (some (m_sz μ + 12))) 4 (some (m_sz μ + 13))) 5 (some (m_sz μ + 14))) 6 (some (m_sz μ + 15))) 0 (some (m_sz μ + 2))) 1 (some (m_sz μ + 1))), (24, 20, cI0, cR0), (24, 144, cI0, cR0), (25, 144, cI0, cR0), (23, 216, cI0, cR0), (21, 216, cI0, cR0), (7, 5, cI0, cUR (cUR cR0 2 (some (m_sz μ + 17))) 3 (some (m_sz μ + 18))), (26, 24, cI0, cR0), (26, 144, cI0, cR0), (6, 3, cI0, cR0)] := h40
    refine bk_nn h40 (i := 19) (x := (6, 3, cI0, cR0)) rfl rfl ?_
    refine bk_cV (bk_Qu (n := 16) h40 (i := 19) (x := (6, 3, cI0, cR0)) rfl rfl (by decide) (by decide)) (fun μ41 h41 => ?_)
    have h41 : Blk μ μ41 1104 [(11, 5, cI0, cUR (cUR (cUR cR0 0 (some (m_sz μ + 1))) 1 (some (m_sz μ + 2))) 2 (some (m_sz μ + 10))), (1, 1, cI0, cR0), (5, 8, cI0, cUR (cUR (cUR (cUR (cUR (cUR (cUR cR0 1 (some (m_sz μ + 3))) 2 (some (m_sz μ + 4))) 3 (some (m_sz μ + 5))) 4 (some (m_sz μ + 6))) 5 (some (m_sz μ + 7))) 6 (some (m_sz μ + 8))) 7 (some (m_sz μ + 9))), (21, 10, cI0, cR0), (21, 10, cI0, cR0), (23, 10, cI0, cR0), (23, 10, cI0, cR0), (21, 36, cI0, cR0), (21, 36, ltm 36, cR0), (21, 36, ltm 36, cR0), (8, 10, cI0, cUR (cUR (cUR (cUR (cUR (cUR (cUR cR0 2 (some (m_sz μ + 11))) 3 (some (m_sz μ + 12))) 4 (some (m_sz μ + 13))) 5 (some (m_sz μ + 14))) 6 (some (m_sz μ + 15))) 0 (some (m_sz μ + 2))) 1 (some (m_sz μ + 1))), (24, 20, cI0, cR0), (24, 144, cI0, cR0), (25, 144, cI0, cR0), (23, 216, cI0, cR0), (21, 216, cI0, cR0), (7, 5, cI0, cUR (cUR cR0 2 (some (m_sz μ + 17))) 3 (some (m_sz μ + 18))), (26, 24, cI0, cR0), (26, 144, cI0, cR0), (6, 3, cI0, cUR cR0 0 (some (m_sz μ + 20))), (22, 16, cI0, cR0)] := h41
    refine bk_pR h41 (i := 16) (x := (7, 5, cI0, cUR (cUR cR0 2 (some (m_sz μ + 17))) 3 (some (m_sz μ + 18)))) rfl rfl (fun μ42 h42 => ?_)
    have h42 : Blk μ μ42 1104 [(11, 5, cI0, cUR (cUR (cUR cR0 0 (some (m_sz μ + 1))) 1 (some (m_sz μ + 2))) 2 (some (m_sz μ + 10))), (1, 1, cI0, cR0), (5, 8, cI0, cUR (cUR (cUR (cUR (cUR (cUR (cUR cR0 1 (some (m_sz μ + 3))) 2 (some (m_sz μ + 4))) 3 (some (m_sz μ + 5))) 4 (some (m_sz μ + 6))) 5 (some (m_sz μ + 7))) 6 (some (m_sz μ + 8))) 7 (some (m_sz μ + 9))), (21, 10, cI0, cR0), (21, 10, cI0, cR0), (23, 10, cI0, cR0), (23, 10, cI0, cR0), (21, 36, cI0, cR0), (21, 36, ltm 36, cR0), (21, 36, ltm 36, cR0), (8, 10, cI0, cUR (cUR (cUR (cUR (cUR (cUR (cUR cR0 2 (some (m_sz μ + 11))) 3 (some (m_sz μ + 12))) 4 (some (m_sz μ + 13))) 5 (some (m_sz μ + 14))) 6 (some (m_sz μ + 15))) 0 (some (m_sz μ + 2))) 1 (some (m_sz μ + 1))), (24, 20, cI0, cR0), (24, 144, cI0, cR0), (25, 144, cI0, cR0), (23, 216, cI0, cR0), (21, 216, cI0, cR0), (7, 5, cI0, cUR (cUR (cUR cR0 2 (some (m_sz μ + 17))) 3 (some (m_sz μ + 18))) 4 (some (m_sz μ + 19))), (26, 24, cI0, cR0), (26, 144, cI0, cR0), (6, 3, cI0, cUR cR0 0 (some (m_sz μ + 20))), (22, 16, cI0, cR0)] := h42
    refine bk_pR h42 (i := 16) (x := (7, 5, cI0, cUR (cUR (cUR cR0 2 (some (m_sz μ + 17))) 3 (some (m_sz μ + 18))) 4 (some (m_sz μ + 19)))) rfl rfl (fun μ43 h43 => ?_)
    have h43 : Blk μ μ43 1104 [(11, 5, cI0, cUR (cUR (cUR cR0 0 (some (m_sz μ + 1))) 1 (some (m_sz μ + 2))) 2 (some (m_sz μ + 10))), (1, 1, cI0, cR0), (5, 8, cI0, cUR (cUR (cUR (cUR (cUR (cUR (cUR cR0 1 (some (m_sz μ + 3))) 2 (some (m_sz μ + 4))) 3 (some (m_sz μ + 5))) 4 (some (m_sz μ + 6))) 5 (some (m_sz μ + 7))) 6 (some (m_sz μ + 8))) 7 (some (m_sz μ + 9))), (21, 10, cI0, cR0), (21, 10, cI0, cR0), (23, 10, cI0, cR0), (23, 10, cI0, cR0), (21, 36, cI0, cR0), (21, 36, ltm 36, cR0), (21, 36, ltm 36, cR0), (8, 10, cI0, cUR (cUR (cUR (cUR (cUR (cUR (cUR cR0 2 (some (m_sz μ + 11))) 3 (some (m_sz μ + 12))) 4 (some (m_sz μ + 13))) 5 (some (m_sz μ + 14))) 6 (some (m_sz μ + 15))) 0 (some (m_sz μ + 2))) 1 (some (m_sz μ + 1))), (24, 20, cI0, cR0), (24, 144, cI0, cR0), (25, 144, cI0, cR0), (23, 216, cI0, cR0), (21, 216, cI0, cR0), (7, 5, cI0, cUR (cUR (cUR (cUR cR0 2 (some (m_sz μ + 17))) 3 (some (m_sz μ + 18))) 4 (some (m_sz μ + 19))) 0 (some (m_sz μ + 2))), (26, 24, cI0, cR0), (26, 144, cI0, cR0), (6, 3, cI0, cUR cR0 0 (some (m_sz μ + 20))), (22, 16, cI0, cR0)] := h43
    refine bk_pR h43 (i := 16) (x := (7, 5, cI0, cUR (cUR (cUR (cUR cR0 2 (some (m_sz μ + 17))) 3 (some (m_sz μ + 18))) 4 (some (m_sz μ + 19))) 0 (some (m_sz μ + 2)))) rfl rfl (fun μ44 h44 => ?_)
    have h44 : Blk μ μ44 1104 [(11, 5, cI0, cUR (cUR (cUR cR0 0 (some (m_sz μ + 1))) 1 (some (m_sz μ + 2))) 2 (some (m_sz μ + 10))), (1, 1, cI0, cR0), (5, 8, cI0, cUR (cUR (cUR (cUR (cUR (cUR (cUR cR0 1 (some (m_sz μ + 3))) 2 (some (m_sz μ + 4))) 3 (some (m_sz μ + 5))) 4 (some (m_sz μ + 6))) 5 (some (m_sz μ + 7))) 6 (some (m_sz μ + 8))) 7 (some (m_sz μ + 9))), (21, 10, cI0, cR0), (21, 10, cI0, cR0), (23, 10, cI0, cR0), (23, 10, cI0, cR0), (21, 36, cI0, cR0), (21, 36, ltm 36, cR0), (21, 36, ltm 36, cR0), (8, 10, cI0, cUR (cUR (cUR (cUR (cUR (cUR (cUR cR0 2 (some (m_sz μ + 11))) 3 (some (m_sz μ + 12))) 4 (some (m_sz μ + 13))) 5 (some (m_sz μ + 14))) 6 (some (m_sz μ + 15))) 0 (some (m_sz μ + 2))) 1 (some (m_sz μ + 1))), (24, 20, cI0, cR0), (24, 144, cI0, cR0), (25, 144, cI0, cR0), (23, 216, cI0, cR0), (21, 216, cI0, cR0), (7, 5, cI0, cUR (cUR (cUR (cUR (cUR cR0 2 (some (m_sz μ + 17))) 3 (some (m_sz μ + 18))) 4 (some (m_sz μ + 19))) 0 (some (m_sz μ + 2))) 1 (some (m_sz μ + 1))), (26, 24, cI0, cR0), (26, 144, cI0, cR0), (6, 3, cI0, cUR cR0 0 (some (m_sz μ + 20))), (22, 16, cI0, cR0)] := h44
    have hL := x_Sw48 (μ := μ) (us := 1104) (A := [(11, 5, cI0, cUR (cUR (cUR cR0 0 (some (m_sz μ + 1))) 1 (some (m_sz μ + 2))) 2 (some (m_sz μ + 10))), (1, 1, cI0, cR0), (5, 8, cI0, cUR (cUR (cUR (cUR (cUR (cUR (cUR cR0 1 (some (m_sz μ + 3))) 2 (some (m_sz μ + 4))) 3 (some (m_sz μ + 5))) 4 (some (m_sz μ + 6))) 5 (some (m_sz μ + 7))) 6 (some (m_sz μ + 8))) 7 (some (m_sz μ + 9))), (21, 10, cI0, cR0), (21, 10, cI0, cR0), (23, 10, cI0, cR0), (23, 10, cI0, cR0), (21, 36, cI0, cR0), (21, 36, ltm 36, cR0), (21, 36, ltm 36, cR0), (8, 10, cI0, cUR (cUR (cUR (cUR (cUR (cUR (cUR cR0 2 (some (m_sz μ + 11))) 3 (some (m_sz μ + 12))) 4 (some (m_sz μ + 13))) 5 (some (m_sz μ + 14))) 6 (some (m_sz μ + 15))) 0 (some (m_sz μ + 2))) 1 (some (m_sz μ + 1))), (24, 20, cI0, cR0), (24, 144, cI0, cR0), (25, 144, cI0, cR0), (23, 216, cI0, cR0), (21, 216, cI0, cR0), (7, 5, cI0, cUR (cUR (cUR (cUR (cUR cR0 2 (some (m_sz μ + 17))) 3 (some (m_sz μ + 18))) 4 (some (m_sz μ + 19))) 0 (some (m_sz μ + 2))) 1 (some (m_sz μ + 1)))]) (D := [(26, 144, cI0, cR0), (6, 3, cI0, cUR cR0 0 (some (m_sz μ + 20))), (22, 16, cI0, cR0)]) (x16 := (7, 5, cI0, cUR (cUR (cUR (cUR (cUR cR0 2 (some (m_sz μ + 17))) 3 (some (m_sz μ + 18))) 4 (some (m_sz μ + 19))) 0 (some (m_sz μ + 2))) 1 (some (m_sz μ + 1)))) rfl rfl rfl rfl rfl 24 sn_fuel 0 μ44 rfl (by unfold sn_fuel; omega) (by rw [rrm_0]; exact h44)
    exact hL
  have h45 : Blk μ μ45 1392 ([(11, 5, cI0, cUR (cUR (cUR cR0 0 (some (m_sz μ + 1))) 1 (some (m_sz μ + 2))) 2 (some (m_sz μ + 10))), (1, 1, cI0, cR0), (5, 8, cI0, cUR (cUR (cUR (cUR (cUR (cUR (cUR cR0 1 (some (m_sz μ + 3))) 2 (some (m_sz μ + 4))) 3 (some (m_sz μ + 5))) 4 (some (m_sz μ + 6))) 5 (some (m_sz μ + 7))) 6 (some (m_sz μ + 8))) 7 (some (m_sz μ + 9))), (21, 10, cI0, cR0), (21, 10, cI0, cR0), (23, 10, cI0, cR0), (23, 10, cI0, cR0), (21, 36, cI0, cR0), (21, 36, ltm 36, cR0), (21, 36, ltm 36, cR0), (8, 10, cI0, cUR (cUR (cUR (cUR (cUR (cUR (cUR cR0 2 (some (m_sz μ + 11))) 3 (some (m_sz μ + 12))) 4 (some (m_sz μ + 13))) 5 (some (m_sz μ + 14))) 6 (some (m_sz μ + 15))) 0 (some (m_sz μ + 2))) 1 (some (m_sz μ + 1))), (24, 20, cI0, cR0), (24, 144, cI0, cR0), (25, 144, cI0, cR0), (23, 216, cI0, cR0), (21, 216, cI0, cR0), (7, 5, cI0, cUR (cUR (cUR (cUR (cUR cR0 2 (some (m_sz μ + 17))) 3 (some (m_sz μ + 18))) 4 (some (m_sz μ + 19))) 0 (some (m_sz μ + 2))) 1 (some (m_sz μ + 1))), (26, 24, cI0, rrm (m_sz μ) 24), (26, 144, cI0, cR0), (6, 3, cI0, cUR cR0 0 (some (m_sz μ + 20))), (22, 16, cI0, cR0)] ++ lgs 24) := h45
  refine bk_pR h45 (i := 0) (x := (11, 5, cI0, cUR (cUR (cUR cR0 0 (some (m_sz μ + 1))) 1 (some (m_sz μ + 2))) 2 (some (m_sz μ + 10)))) rfl rfl (fun μ46 h46 => ?_)
  have h46 : Blk μ μ46 1392 ([(11, 5, cI0, cUR (cUR (cUR (cUR cR0 0 (some (m_sz μ + 1))) 1 (some (m_sz μ + 2))) 2 (some (m_sz μ + 10))) 3 (some (m_sz μ + 16))), (1, 1, cI0, cR0), (5, 8, cI0, cUR (cUR (cUR (cUR (cUR (cUR (cUR cR0 1 (some (m_sz μ + 3))) 2 (some (m_sz μ + 4))) 3 (some (m_sz μ + 5))) 4 (some (m_sz μ + 6))) 5 (some (m_sz μ + 7))) 6 (some (m_sz μ + 8))) 7 (some (m_sz μ + 9))), (21, 10, cI0, cR0), (21, 10, cI0, cR0), (23, 10, cI0, cR0), (23, 10, cI0, cR0), (21, 36, cI0, cR0), (21, 36, ltm 36, cR0), (21, 36, ltm 36, cR0), (8, 10, cI0, cUR (cUR (cUR (cUR (cUR (cUR (cUR cR0 2 (some (m_sz μ + 11))) 3 (some (m_sz μ + 12))) 4 (some (m_sz μ + 13))) 5 (some (m_sz μ + 14))) 6 (some (m_sz μ + 15))) 0 (some (m_sz μ + 2))) 1 (some (m_sz μ + 1))), (24, 20, cI0, cR0), (24, 144, cI0, cR0), (25, 144, cI0, cR0), (23, 216, cI0, cR0), (21, 216, cI0, cR0), (7, 5, cI0, cUR (cUR (cUR (cUR (cUR cR0 2 (some (m_sz μ + 17))) 3 (some (m_sz μ + 18))) 4 (some (m_sz μ + 19))) 0 (some (m_sz μ + 2))) 1 (some (m_sz μ + 1))), (26, 24, cI0, rrm (m_sz μ) 24), (26, 144, cI0, cR0), (6, 3, cI0, cUR cR0 0 (some (m_sz μ + 20))), (22, 16, cI0, cR0)] ++ lgs 24) := h46
  refine bk_nA (n := 13) h46 (by decide) (fun μ47 h47 => ?_)
  have h47 : Blk μ μ47 1405 ([(11, 5, cI0, cUR (cUR (cUR (cUR cR0 0 (some (m_sz μ + 1))) 1 (some (m_sz μ + 2))) 2 (some (m_sz μ + 10))) 3 (some (m_sz μ + 16))), (1, 1, cI0, cR0), (5, 8, cI0, cUR (cUR (cUR (cUR (cUR (cUR (cUR cR0 1 (some (m_sz μ + 3))) 2 (some (m_sz μ + 4))) 3 (some (m_sz μ + 5))) 4 (some (m_sz μ + 6))) 5 (some (m_sz μ + 7))) 6 (some (m_sz μ + 8))) 7 (some (m_sz μ + 9))), (21, 10, cI0, cR0), (21, 10, cI0, cR0), (23, 10, cI0, cR0), (23, 10, cI0, cR0), (21, 36, cI0, cR0), (21, 36, ltm 36, cR0), (21, 36, ltm 36, cR0), (8, 10, cI0, cUR (cUR (cUR (cUR (cUR (cUR (cUR cR0 2 (some (m_sz μ + 11))) 3 (some (m_sz μ + 12))) 4 (some (m_sz μ + 13))) 5 (some (m_sz μ + 14))) 6 (some (m_sz μ + 15))) 0 (some (m_sz μ + 2))) 1 (some (m_sz μ + 1))), (24, 20, cI0, cR0), (24, 144, cI0, cR0), (25, 144, cI0, cR0), (23, 216, cI0, cR0), (21, 216, cI0, cR0), (7, 5, cI0, cUR (cUR (cUR (cUR (cUR cR0 2 (some (m_sz μ + 17))) 3 (some (m_sz μ + 18))) 4 (some (m_sz μ + 19))) 0 (some (m_sz μ + 2))) 1 (some (m_sz μ + 1))), (26, 24, cI0, rrm (m_sz μ) 24), (26, 144, cI0, cR0), (6, 3, cI0, cUR cR0 0 (some (m_sz μ + 20))), (22, 16, cI0, cR0)] ++ lgs 24 ++ [(21, 13, cI0, cR0)]) := h47
  refine bk_pR h47 (i := 0) (x := (11, 5, cI0, cUR (cUR (cUR (cUR cR0 0 (some (m_sz μ + 1))) 1 (some (m_sz μ + 2))) 2 (some (m_sz μ + 10))) 3 (some (m_sz μ + 16)))) rfl rfl (fun μ48 h48 => ?_)
  have h48 : Blk μ μ48 1405 ([(11, 5, cI0, cUR (cUR (cUR (cUR (cUR cR0 0 (some (m_sz μ + 1))) 1 (some (m_sz μ + 2))) 2 (some (m_sz μ + 10))) 3 (some (m_sz μ + 16))) 4 (some (m_sz μ + 45))), (1, 1, cI0, cR0), (5, 8, cI0, cUR (cUR (cUR (cUR (cUR (cUR (cUR cR0 1 (some (m_sz μ + 3))) 2 (some (m_sz μ + 4))) 3 (some (m_sz μ + 5))) 4 (some (m_sz μ + 6))) 5 (some (m_sz μ + 7))) 6 (some (m_sz μ + 8))) 7 (some (m_sz μ + 9))), (21, 10, cI0, cR0), (21, 10, cI0, cR0), (23, 10, cI0, cR0), (23, 10, cI0, cR0), (21, 36, cI0, cR0), (21, 36, ltm 36, cR0), (21, 36, ltm 36, cR0), (8, 10, cI0, cUR (cUR (cUR (cUR (cUR (cUR (cUR cR0 2 (some (m_sz μ + 11))) 3 (some (m_sz μ + 12))) 4 (some (m_sz μ + 13))) 5 (some (m_sz μ + 14))) 6 (some (m_sz μ + 15))) 0 (some (m_sz μ + 2))) 1 (some (m_sz μ + 1))), (24, 20, cI0, cR0), (24, 144, cI0, cR0), (25, 144, cI0, cR0), (23, 216, cI0, cR0), (21, 216, cI0, cR0), (7, 5, cI0, cUR (cUR (cUR (cUR (cUR cR0 2 (some (m_sz μ + 17))) 3 (some (m_sz μ + 18))) 4 (some (m_sz μ + 19))) 0 (some (m_sz μ + 2))) 1 (some (m_sz μ + 1))), (26, 24, cI0, rrm (m_sz μ) 24), (26, 144, cI0, cR0), (6, 3, cI0, cUR cR0 0 (some (m_sz μ + 20))), (22, 16, cI0, cR0)] ++ lgs 24 ++ [(21, 13, cI0, cR0)]) := h48
  exact bk_V h48
