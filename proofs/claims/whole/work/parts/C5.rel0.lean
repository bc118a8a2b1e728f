/-! LAYER 2: objects made: the real memory -/
abbrev Cel : Type := Nat × Nat × (Nat → Int32) × (Nat → Option Nat)
def CIs (μ : sn_Mem) (a : Nat) (c : Cel) : Prop := m_kd μ a = c.1 ∧ m_ln μ a = c.2.1 ∧ (∀ j, m_I μ a j = c.2.2.1 j) ∧ (∀ j, m_J μ a j = 0) ∧ ∀ j, m_R μ a j = c.2.2.2 j
def Sam (μ μ' : sn_Mem) (b : Nat) : Prop := m_kd μ' b = m_kd μ b ∧ m_ln μ' b = m_ln μ b ∧ (∀ j, m_I μ' b j = m_I μ b j) ∧ (∀ j, m_J μ' b j = m_J μ b j) ∧ ∀ j, m_R μ' b j = m_R μ b j
theorem Sam.rf {μ : sn_Mem} {b : Nat} : Sam μ μ b := ⟨rfl, rfl, fun _ => rfl, fun _ => rfl, fun _ => rfl⟩
theorem Sam.tr {a b c : sn_Mem} {x : Nat} (h1 : Sam a b x) (h2 : Sam b c x) : Sam a c x := ⟨h2.1.trans h1.1, h2.2.1.trans h1.2.1, fun j => (h2.2.2.1 j).trans (h1.2.2.1 j), fun j => (h2.2.2.2.1 j).trans (h1.2.2.2.1 j), fun j => (h2.2.2.2.2 j).trans (h1.2.2.2.2 j)⟩
/-- from the memory μ on, cells were made: these, in order -/
def Blk (μ μ' : sn_Mem) (us : Nat) (cs : List Cel) : Prop := m_sz μ' = m_sz μ + cs.length ∧ m_us μ' = m_us μ + us ∧ (∀ b, b < m_sz μ ∨ m_sz μ + cs.length ≤ b → Sam μ μ' b) ∧ ∀ i c, cs[i]? = some c → CIs μ' (m_sz μ + i) c
def cI0 : Nat → Int32 := fun _ => 0
def cR0 : Nat → Option Nat := fun _ => none
def cUI (f : Nat → Int32) (k : Nat) (v : Int32) : Nat → Int32 := fun j => if j = k then v else f j
def cUR (f : Nat → Option Nat) (k : Nat) (v : Option Nat) : Nat → Option Nat := fun j => if j = k then v else f j
theorem Blk.rf {μ : sn_Mem} : Blk μ μ 0 [] := ⟨rfl, rfl, fun _ _ => Sam.rf, fun i c h => by simp at h⟩
def Dn (Q : sn_Mem → Prop) (y : Option (Option Value × sn_Mem)) : Prop := ∃ μ', y = some (none, μ') ∧ Q μ'
section Bk
variable {μ0 μ : sn_Mem} {us : Nat} {cs : List Cel} {P : Option (Option Value × sn_Mem) → Prop}
theorem Blk.nw (h : Blk μ0 μ us cs) (c n : Nat) : Blk μ0 (u_N μ c n) (us + n) (cs ++ [(c, n, cI0, cR0)]) := by
  obtain ⟨h1, h2, h3, h4⟩ := h
  refine ⟨?_, ?_, fun b hb => ?_, fun i x hx => ?_⟩
  · show m_sz μ + 1 = _
    rw [h1]; simp; omega
  · show m_us μ + n = _
    rw [h2]; omega
  · simp only [List.length_append, List.length_cons, List.length_nil] at hb
    have hne : b ≠ m_sz μ := by rw [h1]; omega
    refine (h3 b (by omega)).tr ⟨?_, ?_, fun j => ?_, fun j => ?_, fun j => ?_⟩
    · exact if_neg hne
    · exact if_neg hne
    · exact if_neg hne
    · exact if_neg hne
    · exact if_neg hne
  · by_cases q : i < cs.length
    · rw [List.getElem?_append_left q] at hx
      obtain ⟨a1, a2, a3, a4, a5⟩ := h4 i x hx
      have hne : m_sz μ0 + i ≠ m_sz μ := by rw [h1]; omega
      exact ⟨(if_neg hne).trans a1, (if_neg hne).trans a2, fun j => (if_neg hne).trans (a3 j), fun j => (if_neg hne).trans (a4 j), fun j => (if_neg hne).trans (a5 j)⟩
    · have hi : i = cs.length := by
        by_cases z : i = cs.length
        · exact z
        · rw [List.getElem?_eq_none (by simp; omega)] at hx; cases hx
      subst hi
      simp at hx
      subst hx
      have he : m_sz μ0 + cs.length = m_sz μ := h1.symm
      exact ⟨if_pos he, if_pos he, fun j => if_pos he, fun j => if_pos he, fun j => if_pos he⟩
theorem Blk.wI (h : Blk μ0 μ us cs) {i : Nat} {x : Cel} (hi : cs[i]? = some x) (k : Nat) (v : Int32) : Blk μ0 (u_I μ (m_sz μ0 + i) k v) us (cs.set i (x.1, x.2.1, cUI x.2.2.1 k v, x.2.2.2)) := by
  obtain ⟨h1, h2, h3, h4⟩ := h
  have hl : i < cs.length := by
    by_cases z : i < cs.length
    · exact z
    · rw [List.getElem?_eq_none (by omega)] at hi; cases hi
  refine ⟨by rw [List.length_set]; exact h1, h2, fun b hb => ?_, fun i' x' hx => ?_⟩
  · rw [List.length_set] at hb
    have hne : b ≠ m_sz μ0 + i := by omega
    exact (h3 b hb).tr ⟨rfl, rfl, fun j => sn_up_ne _ _ _ _ hne, fun j => rfl, fun j => rfl⟩
  · by_cases e : i' = i
    · subst e
      rw [List.getElem?_set_self hl] at hx
      cases hx
      obtain ⟨a1, a2, a3, a4, a5⟩ := h4 i' x hi
      refine ⟨a1, a2, fun j => ?_, a4, a5⟩
      show sn_up (m_I μ) (m_sz μ0 + i') k v (m_sz μ0 + i') j = if j = k then v else x.2.2.1 j
      rw [sn_upE, if_pos rfl]
      by_cases q : j = k
      · rw [if_pos q, if_pos q]
      · rw [if_neg q, if_neg q]; exact a3 j
    · rw [List.getElem?_set_ne (Ne.symm e)] at hx
      obtain ⟨a1, a2, a3, a4, a5⟩ := h4 i' x' hx
      exact ⟨a1, a2, fun j => (sn_up_ne _ _ _ _ (by omega)).trans (a3 j), a4, a5⟩
theorem Blk.wR (h : Blk μ0 μ us cs) {i : Nat} {x : Cel} (hi : cs[i]? = some x) (k : Nat) (v : Option Nat) : Blk μ0 (u_R μ (m_sz μ0 + i) k v) us (cs.set i (x.1, x.2.1, x.2.2.1, cUR x.2.2.2 k v)) := by
  obtain ⟨h1, h2, h3, h4⟩ := h
  have hl : i < cs.length := by
    by_cases z : i < cs.length
    · exact z
    · rw [List.getElem?_eq_none (by omega)] at hi; cases hi
  refine ⟨by rw [List.length_set]; exact h1, h2, fun b hb => ?_, fun i' x' hx => ?_⟩
  · rw [List.length_set] at hb
    have hne : b ≠ m_sz μ0 + i := by omega
    exact (h3 b hb).tr ⟨rfl, rfl, fun j => rfl, fun j => rfl, fun j => sn_up_ne _ _ _ _ hne⟩
  · by_cases e : i' = i
    · subst e
      rw [List.getElem?_set_self hl] at hx
      cases hx
      obtain ⟨a1, a2, a3, a4, a5⟩ := h4 i' x hi
      refine ⟨a1, a2, a3, a4, fun j => ?_⟩
      show sn_up (m_R μ) (m_sz μ0 + i') k v (m_sz μ0 + i') j = if j = k then v else x.2.2.2 j
      rw [sn_upE, if_pos rfl]
      by_cases q : j = k
      · rw [if_pos q, if_pos q]
      · rw [if_neg q, if_neg q]; exact a5 j
    · rw [List.getElem?_set_ne (Ne.symm e)] at hx
      obtain ⟨a1, a2, a3, a4, a5⟩ := h4 i' x' hx
      exact ⟨a1, a2, a3, a4, fun j => (sn_up_ne _ _ _ _ (by omega)).trans (a5 j)⟩
/-- an old cell is written -/
theorem Blk.oR (h : Blk μ0 μ us cs) {A : Nat} (hA : A < m_sz μ0) (k : Nat) (v : Option Nat) : Blk (u_R μ0 A k v) (u_R μ A k v) us cs := by
  obtain ⟨h1, h2, h3, h4⟩ := h
  refine ⟨h1, h2, fun b hb => ?_, fun i x hx => ?_⟩
  · obtain ⟨a1, a2, a3, a4, a5⟩ := h3 b hb
    refine ⟨a1, a2, a3, a4, fun j => ?_⟩
    show sn_up (m_R μ) A k v b j = sn_up (m_R μ0) A k v b j
    rw [sn_upE, sn_upE, a5 j]
  · obtain ⟨a1, a2, a3, a4, a5⟩ := h4 i x hx
    exact ⟨a1, a2, a3, a4, fun j => (sn_up_ne _ _ _ _ (show m_sz μ0 + i ≠ A by omega)).trans (a5 j)⟩
theorem bk_nO (h : Blk μ0 μ us cs) {c n : Nat} {K : Option Nat → sn_M} (H : ∀ μ', Blk μ0 μ' (us + n) (cs ++ [(c, n, cI0, cR0)]) → P (K (some (m_sz μ0 + cs.length)) μ')) : P (n_O c n K μ) := by
  have e : n_O c n K μ = K (some (m_sz μ0 + cs.length)) (u_N μ c n) := by
    show K (some (m_sz μ)) (u_N μ c n) = _
    rw [h.1]
  rw [e]
  exact H _ (h.nw c n)
theorem bk_nA (h : Blk μ0 μ us cs) {c n : Nat} (hn : n ≤ 10000) {K : Option Nat → sn_M} (H : ∀ μ', Blk μ0 μ' (us + n) (cs ++ [(c, n, cI0, cR0)]) → P (K (some (m_sz μ0 + cs.length)) μ')) : P (n_A c (nI n) K μ) := by
  have e : n_A c (nI n) K μ = K (some (m_sz μ0 + cs.length)) (u_N μ c n) := by
    unfold n_A
    rw [nI_clamp (by omega), if_pos ⟨nI_pos (by omega), hn⟩]
    show K (some (m_sz μ)) (u_N μ c n) = _
    rw [h.1]
  rw [e]
  exact H _ (h.nw c n)
theorem bk_nn (h : Blk μ0 μ us cs) {i c : Nat} {x : Cel} (hi : cs[i]? = some x) (hc : x.1 = c) {K : Nat → sn_M} (H : P (K (m_sz μ0 + i) μ)) : P (n_n c (some (m_sz μ0 + i)) K μ) := by
  have e : n_n c (some (m_sz μ0 + i)) K μ = K (m_sz μ0 + i) μ := by
    show (if m_kd μ (m_sz μ0 + i) = c then _ else none) = _
    rw [if_pos ((h.2.2.2 i x hi).1.trans hc)]
  rw [e]; exact H
theorem bk_pI (h : Blk μ0 μ us cs) {i c k : Nat} {v : Int32} {x : Cel} (hi : cs[i]? = some x) (hc : x.1 = c) {K : sn_M} (H : ∀ μ', Blk μ0 μ' us (cs.set i (x.1, x.2.1, cUI x.2.2.1 k v, x.2.2.2)) → P (K μ')) : P (p_I c k (some (m_sz μ0 + i)) v K μ) := by
  have e : p_I c k (some (m_sz μ0 + i)) v K μ = K (u_I μ (m_sz μ0 + i) k v) := by
    show (if m_kd μ (m_sz μ0 + i) = c then _ else none) = _
    rw [if_pos ((h.2.2.2 i x hi).1.trans hc)]
  rw [e]; exact H _ (h.wI hi k v)
theorem bk_pR (h : Blk μ0 μ us cs) {i c k : Nat} {v : Option Nat} {x : Cel} (hi : cs[i]? = some x) (hc : x.1 = c) {K : sn_M} (H : ∀ μ', Blk μ0 μ' us (cs.set i (x.1, x.2.1, x.2.2.1, cUR x.2.2.2 k v)) → P (K μ')) : P (p_R c k (some (m_sz μ0 + i)) v K μ) := by
  have e : p_R c k (some (m_sz μ0 + i)) v K μ = K (u_R μ (m_sz μ0 + i) k v) := by
    show (if m_kd μ (m_sz μ0 + i) = c then _ else none) = _
    rw [if_pos ((h.2.2.2 i x hi).1.trans hc)]
  rw [e]; exact H _ (h.wR hi k v)
theorem bk_gR (h : Blk μ0 μ us cs) {i c k : Nat} {x : Cel} (hi : cs[i]? = some x) (hc : x.1 = c) {K : Option Nat → sn_M} (H : P (K (x.2.2.2 k) μ)) : P (g_R c k (some (m_sz μ0 + i)) K μ) := by
  have e : g_R c k (some (m_sz μ0 + i)) K μ = K (x.2.2.2 k) μ := by
    show (if m_kd μ (m_sz μ0 + i) = c then K (m_R μ (m_sz μ0 + i) k) μ else none) = _
    rw [if_pos ((h.2.2.2 i x hi).1.trans hc), (h.2.2.2 i x hi).2.2.2.2 k]
  rw [e]; exact H
theorem bk_bI (h : Blk μ0 μ us cs) {i c p : Nat} {v : Int32} {x : Cel} (hi : cs[i]? = some x) (hc : x.1 = c) (hp : p < x.2.1) (hL : x.2.1 ≤ 10000) {K : sn_M} (H : ∀ μ', Blk μ0 μ' us (cs.set i (x.1, x.2.1, cUI x.2.2.1 p v, x.2.2.2)) → P (K μ')) : P (b_I c (some (m_sz μ0 + i)) (nI p) v K μ) := by
  have e : b_I c (some (m_sz μ0 + i)) (nI p) v K μ = K (u_I μ (m_sz μ0 + i) p v) := by
    show (if m_kd μ (m_sz μ0 + i) = c ∧ ¬ (nI p < 0 ∨ m_ln μ (m_sz μ0 + i) ≤ (nI p).toNatClampNeg) then K (u_I μ (m_sz μ0 + i) (nI p).toNatClampNeg v) else none) = _
    rw [(h.2.2.2 i x hi).2.1, if_pos ⟨(h.2.2.2 i x hi).1.trans hc, nI_in hp (by omega)⟩, nI_clamp (by omega)]
  rw [e]; exact H _ (h.wI hi p v)
theorem bk_bR (h : Blk μ0 μ us cs) {i i' c d p : Nat} {x y : Cel} (hi : cs[i]? = some x) (hc : x.1 = c) (hp : p < x.2.1) (hL : x.2.1 ≤ 10000) (hy : cs[i']? = some y) (hd : y.1 = d) {K : sn_M} (H : ∀ μ', Blk μ0 μ' us (cs.set i (x.1, x.2.1, x.2.2.1, cUR x.2.2.2 p (some (m_sz μ0 + i')))) → P (K μ')) : P (b_R c d (some (m_sz μ0 + i)) (nI p) (some (m_sz μ0 + i')) K μ) := by
  have e : b_R c d (some (m_sz μ0 + i)) (nI p) (some (m_sz μ0 + i')) K μ = K (u_R μ (m_sz μ0 + i) p (some (m_sz μ0 + i'))) := by
    show (if (m_kd μ (m_sz μ0 + i) = c ∧ ¬ (nI p < 0 ∨ m_ln μ (m_sz μ0 + i) ≤ (nI p).toNatClampNeg)) ∧ m_kd μ (m_sz μ0 + i') = d then K (u_R μ (m_sz μ0 + i) (nI p).toNatClampNeg (some (m_sz μ0 + i'))) else none) = _
    rw [(h.2.2.2 i x hi).2.1, if_pos ⟨⟨(h.2.2.2 i x hi).1.trans hc, nI_in hp (by omega)⟩, (h.2.2.2 i' y hy).1.trans hd⟩, nI_clamp (by omega)]
  rw [e]; exact H _ (h.wR hi p _)
/-- a new object is put into an old row -/
theorem bk_oR (h : Blk μ0 μ us cs) {A i' c d p : Nat} {y : Cel} (hA : A < m_sz μ0) (hc : m_kd μ0 A = c) (hp : p < m_ln μ0 A) (hL : m_ln μ0 A ≤ 10000) (hy : cs[i']? = some y) (hd : y.1 = d) {K : sn_M} (H : ∀ μ', Blk (u_R μ0 A p (some (m_sz μ0 + i'))) μ' us cs → P (K μ')) : P (b_R c d (some A) (nI p) (some (m_sz μ0 + i')) K μ) := by
  obtain ⟨a1, a2, -⟩ := h.2.2.1 A (Or.inl hA)
  have e : b_R c d (some A) (nI p) (some (m_sz μ0 + i')) K μ = K (u_R μ A p (some (m_sz μ0 + i'))) := by
    show (if (m_kd μ A = c ∧ ¬ (nI p < 0 ∨ m_ln μ A ≤ (nI p).toNatClampNeg)) ∧ m_kd μ (m_sz μ0 + i') = d then K (u_R μ A (nI p).toNatClampNeg (some (m_sz μ0 + i'))) else none) = _
    rw [a1, a2, if_pos ⟨⟨hc, nI_in hp (by omega)⟩, (h.2.2.2 i' y hy).1.trans hd⟩, nI_clamp (by omega)]
  rw [e]; exact H _ (h.oR hA p _)
/-- reading old cells -/
theorem bk_ogR (h : Blk μ0 μ us cs) {A c k : Nat} (hA : A < m_sz μ0) (hc : m_kd μ0 A = c) {K : Option Nat → sn_M} (H : P (K (m_R μ0 A k) μ)) : P (g_R c k (some A) K μ) := by
  obtain ⟨a1, a2, a3, a4, a5⟩ := h.2.2.1 A (Or.inl hA)
  have e : g_R c k (some A) K μ = K (m_R μ0 A k) μ := by
    show (if m_kd μ A = c then K (m_R μ A k) μ else none) = _
    rw [if_pos (a1.trans hc), a5 k]
  rw [e]; exact H
theorem bk_oaR (h : Blk μ0 μ us cs) {A c p : Nat} (hA : A < m_sz μ0) (hc : m_kd μ0 A = c) (hp : p < m_ln μ0 A) (hL : m_ln μ0 A ≤ 10000) {K : Option Nat → sn_M} (H : P (K (m_R μ0 A p) μ)) : P (a_R c (some A) (nI p) K μ) := by
  obtain ⟨a1, a2, a3, a4, a5⟩ := h.2.2.1 A (Or.inl hA)
  have e : a_R c (some A) (nI p) K μ = K (m_R μ0 A p) μ := by
    show (if m_kd μ A = c ∧ ¬ (nI p < 0 ∨ m_ln μ A ≤ (nI p).toNatClampNeg) then K (m_R μ A (nI p).toNatClampNeg) μ else none) = _
    rw [a2, if_pos ⟨a1.trans hc, nI_in hp (by omega)⟩, nI_clamp (by omega), a5 p]
  rw [e]; exact H
theorem bk_onn (h : Blk μ0 μ us cs) {A c : Nat} (hA : A < m_sz μ0) (hc : m_kd μ0 A = c) {K : Nat → sn_M} (H : P (K A μ)) : P (n_n c (some A) K μ) := by
  have e : n_n c (some A) K μ = K A μ := by
    show (if m_kd μ A = c then K A μ else none) = _
    rw [if_pos ((h.2.2.1 A (Or.inl hA)).1.trans hc)]
  rw [e]; exact H
theorem bk_cV {f K : sn_M} {Q : sn_Mem → Prop} (hf : Dn Q (f μ)) (H : ∀ μ', Q μ' → P (K μ')) : P (c_V f K μ) := by
  obtain ⟨μ', a, b⟩ := hf
  have e : c_V f K μ = K μ' := by simp only [c_V, a]
  rw [e]; exact H μ' b
theorem bk_cI {f : sn_M} {K : Int32 → sn_M} {v : Int32} (hf : f μ = some (some (.int v), μ)) (H : P (K v μ)) : P (c_I f K μ) := by
  have e : c_I f K μ = K v μ := by simp only [c_I, hf]
  rw [e]; exact H
theorem mx1 : ∀ n, n < 100 → 0 < n → ∀ μ : sn_Mem, f_Ma_max (nI n) (1 : Int32) μ = some (some (.int (nI n)), μ) := by
  intro n hn h0 μ
  unfold f_Ma_max f_Ma_max_10
  by_cases c : nI n < (1 : Int32)
  · have := (nI_ltI (a := n) (b := 1) (by omega) (by omega)).mp c
    omega
  · rw [if_neg c]; rfl
theorem bk_V {Q : sn_Mem → Prop} (h : Q μ) : Dn Q (r_V μ) := ⟨μ, rfl, h⟩
theorem bk_Qu (h : Blk μ0 μ us cs) {i n : Nat} {x : Cel} (hi : cs[i]? = some x) (hc : x.1 = 6) (hn : n < 100) (h0 : 0 < n) : Dn (fun μ' => Blk μ0 μ' (us + n) ((cs ++ [(22, n, cI0, cR0)]).set i (x.1, x.2.1, x.2.2.1, cUR x.2.2.2 0 (some (m_sz μ0 + cs.length))))) (f_Qu_init (m_sz μ0 + i) (nI n) μ) := by
  have hl : i < cs.length := by
    by_cases z : i < cs.length
    · exact z
    · rw [List.getElem?_eq_none (by omega)] at hi; cases hi
  unfold f_Qu_init
  refine bk_cI (mx1 n hn h0 μ) ?_
  refine bk_nA h (by omega) (fun μ1 h1 => ?_)
  refine bk_pR h1 (x := x) (by rw [List.getElem?_append_left hl]; exact hi) hc (fun μ2 h2 => ?_)
  exact bk_V h2
end Bk
