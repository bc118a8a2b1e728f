/-! LAYER 2: both objects in the real memory -/
def fQ (ρ kk : Nat → Nat) (o : Option Nat) : Option Nat := o.bind (fun b => if kk b = 0 then none else some (ρ b))
theorem fQ_s {ρ kk : Nat → Nat} {b : Nat} (h : kk b ≠ 0) : fQ ρ kk (some b) = some (ρ b) := by simp [fQ, h]
theorem fQ_d {ρ kk : Nat → Nat} {b : Nat} (h : kk b = 0) : fQ ρ kk (some b) = none := by simp [fQ, h]
theorem fQ_n {ρ kk : Nat → Nat} : fQ ρ kk none = none := rfl
def Rl (D : Nat → Nat → Prop) (ρ kk : Nat → Nat) (σ η : sn_FS) (μ : sn_Mem) : Prop := ∀ a, kk a ≠ 0 → m_kd μ (ρ a) = kk a ∧ m_ln μ (ρ a) = kL a ∧ (∀ j, m_I μ (ρ a) j = kI σ η a j) ∧ (∀ j, m_J μ (ρ a) j = η.2 a j) ∧ ∀ j, (D a j → m_R μ (ρ a) j = none) ∧ (¬ D a j → m_R μ (ρ a) j = fQ ρ kk (kR σ a j))
def Lv (D : Nat → Nat → Prop) (M : Nat) (σr : sn_FS) (ρ kk : Nat → Nat) (σ η : sn_FS) (μ : sn_Mem) : Prop := Rl D ρ kk σ η μ ∧ sn_HI ρ kk ∧ (∀ a, kk a ≠ 0 → ρ a < m_sz μ ∧ (ρ a < M ∨ M + 59 ≤ ρ a)) ∧ M + 59 ≤ m_sz μ ∧ sn_St M μ ∧ sn_Vw M μ = σr
def D0 : Nat → Nat → Prop := fun _ _ => False
theorem St_same {M : Nat} {μ μ' : sn_Mem} (h : sn_St M μ) (hs : ∀ b, M ≤ b → b < M + 59 → Sam μ μ' b) : sn_St M μ' ∧ sn_Vw M μ' = sn_Vw M μ := by
  obtain ⟨m1, m2, m3, m4, m5⟩ := hs M (by omega) (by omega)
  have ha : ∀ k, k < 64 → md_kd k ≠ 0 → Sam μ μ' (md_ad M k) := fun k hk hn => hs _ (by have := (md_ad_in (M := M) hk hn).1; omega) (md_ad_in hk hn).2
  have hk : ∀ k, md_kd k ≠ 0 → k < 64 := fun k q => by
    by_cases z : k < 64
    · exact z
    · exact absurd (md_kd_out (by omega)) q
  refine ⟨⟨m1.trans h.1, fun k q n => ⟨(m5 k).trans (h.2 k q n).1, (ha k q n).1.trans (h.2 k q n).2.1, (ha k q n).2.1.trans (h.2 k q n).2.2⟩⟩, ?_⟩
  refine Prod.ext ?_ ?_
  · funext k i
    show (if md_kd k = 0 then m_I μ' M k else m_I μ' (md_ad M k) i) = if md_kd k = 0 then m_I μ M k else m_I μ (md_ad M k) i
    by_cases q : md_kd k = 0
    · rw [if_pos q, if_pos q, m3 k]
    · rw [if_neg q, if_neg q, (ha k (hk k q) q).2.2.1 i]
  · funext k i
    show (if md_kd k = 32 then m_J μ' (md_ad M k) i else 0) = if md_kd k = 32 then m_J μ (md_ad M k) i else 0
    by_cases q : md_kd k = 32
    · rw [if_pos q, if_pos q, (ha k (hk k (by omega)) (by omega)).2.2.2.1 i]
    · rw [if_neg q, if_neg q]
def rX (ρ : Nat → Nat) (B m z : Nat) : Nat → Nat := fun a => if B ≤ a ∧ a < B + m then z + (a - B) else ρ a
theorem rX_i {ρ : Nat → Nat} {B m z i : Nat} (h : i < m) : rX ρ B m z (B + i) = z + i := by
  unfold rX
  rw [if_pos (by omega)]; omega
theorem rX_o {ρ : Nat → Nat} {B m z a : Nat} (h : ¬ (B ≤ a ∧ a < B + m)) : rX ρ B m z a = ρ a := if_neg h
section LvS
variable {D : Nat → Nat → Prop} {M : Nat} {σr : sn_FS} {ρ kk : Nat → Nat} {σ η : sn_FS} {μ : sn_Mem}
theorem Lv.ext {μ1 : sn_Mem} {us : Nat} {cs : List Cel} (h : Lv D0 M σr ρ kk σ η μ) (hb : Blk μ μ1 us cs) (B : Nat) (kk' : Nat → Nat) (h0 : ∀ i, i < cs.length → kk (B + i) = 0) (h1 : ∀ a, ¬ (B ≤ a ∧ a < B + cs.length) → kk' a = kk a) (hc : ∀ i c, cs[i]? = some c → kk' (B + i) = c.1 ∧ c.1 ≠ 0 ∧ c.2.1 = kL (B + i) ∧ (∀ j, c.2.2.1 j = kI σ η (B + i) j) ∧ (∀ j, η.2 (B + i) j = 0) ∧ ∀ j, c.2.2.2 j = fQ (rX ρ B cs.length (m_sz μ)) kk' (kR σ (B + i) j)) : Lv (fun a j => kk a ≠ 0 ∧ ∃ i, i < cs.length ∧ kR σ a j = some (B + i)) M σr (rX ρ B cs.length (m_sz μ)) kk' σ η μ1 := by
  obtain ⟨g1, g2, g3, g4, g5, g6⟩ := h
  obtain ⟨b1, b2, b3, b4⟩ := hb
  have hs := St_same g5 (fun b q1 q2 => b3 b (Or.inl (by omega)))
  have cse : ∀ a, (∃ i, i < cs.length ∧ a = B + i) ∨ ¬ (B ≤ a ∧ a < B + cs.length) := fun a => by
    by_cases q : B ≤ a ∧ a < B + cs.length
    · exact Or.inl ⟨a - B, by omega, by omega⟩
    · exact Or.inr q
  refine ⟨fun a ha => ?_, fun a b ha hb e => ?_, fun a ha => ?_, by omega, hs.1, hs.2.trans g6⟩
  · rcases cse a with ⟨i, hi, rfl⟩ | q
    · have hci : cs[i]? = some cs[i] := List.getElem?_eq_getElem hi
      obtain ⟨c1, c2, c3, c4, c5, c6⟩ := hc i _ hci
      obtain ⟨d1, d2, d3, d4, d5⟩ := b4 i _ hci
      rw [rX_i hi]
      refine ⟨d1.trans c1.symm, d2.trans c3, fun j => (d3 j).trans (c4 j), fun j => (d4 j).trans (c5 j).symm, fun j => ⟨fun z => absurd (h0 i hi) z.1, fun _ => (d5 j).trans (c6 j)⟩⟩
    · have hk := h1 a q
      have ha' : kk a ≠ 0 := by rw [← hk]; exact ha
      obtain ⟨d1, d2, d3, d4, d5⟩ := g1 a ha'
      obtain ⟨e1, e2, e3, e4, e5⟩ := b3 (ρ a) (Or.inl (g3 a ha').1)
      rw [rX_o q, hk]
      refine ⟨e1.trans d1, e2.trans d2, fun j => (e3 j).trans (d3 j), fun j => (e4 j).trans (d4 j), fun j => ⟨fun z => ?_, fun z => ?_⟩⟩
      · obtain ⟨-, i, hi, e⟩ := z
        rw [e5 j, (d5 j).2 id, e, fQ_d (h0 i hi)]
      · rw [e5 j, (d5 j).2 id]
        cases hr : kR σ a j with
        | none => rfl
        | some b =>
          rcases cse b with ⟨i, hi, rfl⟩ | q'
          · exact absurd ⟨ha', i, hi, hr⟩ z
          · simp only [fQ, Option.bind_some, h1 b q', rX_o q']
  · rcases cse a with ⟨i, hi, rfl⟩ | q
    · rcases cse b with ⟨i', hi', rfl⟩ | q'
      · rw [rX_i hi, rX_i hi'] at e; omega
      · have := (g3 b (by rw [← h1 b q']; exact hb)).1
        rw [rX_i hi, rX_o q'] at e; omega
    · rcases cse b with ⟨i', hi', rfl⟩ | q'
      · have := (g3 a (by rw [← h1 a q]; exact ha)).1
        rw [rX_i hi', rX_o q] at e; omega
      · rw [rX_o q, rX_o q'] at e
        exact g2 a b (by rw [← h1 a q]; exact ha) (by rw [← h1 b q']; exact hb) e
  · rcases cse a with ⟨i, hi, rfl⟩ | q
    · rw [rX_i hi]; omega
    · rw [rX_o q]
      have := g3 a (by rw [← h1 a q]; exact ha)
      omega
theorem Lv.put {A p b : Nat} (h : Lv D M σr ρ kk σ η μ) (hA : kk A ≠ 0) (hb : kk b ≠ 0) (hR : kR σ A p = some b) : Lv (fun a j => D a j ∧ ¬ (a = A ∧ j = p)) M σr ρ kk σ η (u_R μ (ρ A) p (some (ρ b))) := by
  obtain ⟨g1, g2, g3, g4, g5, g6⟩ := h
  have hs := St_same (μ' := u_R μ (ρ A) p (some (ρ b))) g5 (fun b q1 q2 => ⟨rfl, rfl, fun _ => rfl, fun _ => rfl, fun j => sn_up_ne _ _ _ _ (by have := (g3 A hA).2; omega)⟩)
  refine ⟨fun a ha => ?_, g2, g3, g4, hs.1, hs.2.trans g6⟩
  obtain ⟨d1, d2, d3, d4, d5⟩ := g1 a ha
  refine ⟨d1, d2, d3, d4, fun j => ?_⟩
  show (D a j ∧ ¬ (a = A ∧ j = p) → sn_up (m_R μ) (ρ A) p (some (ρ b)) (ρ a) j = none) ∧ (¬ (D a j ∧ ¬ (a = A ∧ j = p)) → sn_up (m_R μ) (ρ A) p (some (ρ b)) (ρ a) j = fQ ρ kk (kR σ a j))
  by_cases c : a = A ∧ j = p
  · obtain ⟨rfl, rfl⟩ := c
    rw [sn_up_same, hR, fQ_s hb]
    exact ⟨fun z => absurd ⟨rfl, rfl⟩ z.2, fun _ => rfl⟩
  · have e : sn_up (m_R μ) (ρ A) p (some (ρ b)) (ρ a) j = m_R μ (ρ a) j := by
      rw [sn_upE]
      by_cases q : ρ a = ρ A
      · have := g2 a A ha hA q
        rw [if_pos q, if_neg (fun z => c ⟨this, z⟩)]
      · rw [if_neg q]
    rw [e]
    exact ⟨fun z => (d5 j).1 z.1, fun z => (d5 j).2 (fun w => z ⟨w, c⟩)⟩
theorem Lv.clr (h : Lv D M σr ρ kk σ η μ) (hD : ∀ a j, kk a ≠ 0 → ¬ D a j) : Lv D0 M σr ρ kk σ η μ := by
  obtain ⟨g1, g2⟩ := h
  refine ⟨fun a ha => ?_, g2⟩
  obtain ⟨d1, d2, d3, d4, d5⟩ := g1 a ha
  exact ⟨d1, d2, d3, d4, fun j => ⟨fun z => z.elim, fun _ => (d5 j).2 (hD a j ha)⟩⟩
variable {a c k p : Nat}
theorem lv_gR (h : Lv D M σr ρ kk σ η μ) (ha : kk a = c) (hc : c ≠ 0) (hD : ¬ D a k) {K : Option Nat → sn_M} : g_R c k (some (ρ a)) K μ = K (fQ ρ kk (kR σ a k)) μ := by
  obtain ⟨d1, d2, d3, d4, d5⟩ := h.1 a (by rw [ha]; exact hc)
  show (if m_kd μ (ρ a) = c then K (m_R μ (ρ a) k) μ else none) = _
  rw [if_pos (d1.trans ha), (d5 k).2 hD]
theorem lv_nn (h : Lv D M σr ρ kk σ η μ) (ha : kk a = c) (hc : c ≠ 0) {K : Nat → sn_M} : n_n c (some (ρ a)) K μ = K (ρ a) μ := by
  obtain ⟨d1, d2, d3, d4, d5⟩ := h.1 a (by rw [ha]; exact hc)
  show (if m_kd μ (ρ a) = c then K (ρ a) μ else none) = _
  rw [if_pos (d1.trans ha)]
theorem lv_gI (h : Lv D M σr ρ kk σ η μ) (ha : kk a = c) (hc : c ≠ 0) {K : Int32 → sn_M} : g_I c k (some (ρ a)) K μ = K (kI σ η a k) μ := by
  obtain ⟨d1, d2, d3, d4, d5⟩ := h.1 a (by rw [ha]; exact hc)
  show (if m_kd μ (ρ a) = c then K (m_I μ (ρ a) k) μ else none) = _
  rw [if_pos (d1.trans ha), d3]
theorem lv_aI (h : Lv D M σr ρ kk σ η μ) (ha : kk a = c) (hc : c ≠ 0) (hp : p < kL a) (hL : kL a ≤ 1000) {K : Int32 → sn_M} : a_I c (some (ρ a)) (nI p) K μ = K (kI σ η a p) μ := by
  obtain ⟨d1, d2, d3, d4, d5⟩ := h.1 a (by rw [ha]; exact hc)
  show (if m_kd μ (ρ a) = c ∧ ¬ (nI p < 0 ∨ m_ln μ (ρ a) ≤ (nI p).toNatClampNeg) then K (m_I μ (ρ a) (nI p).toNatClampNeg) μ else none) = _
  rw [d2, if_pos ⟨d1.trans ha, nI_in hp (by omega)⟩, nI_clamp (by omega), d3]
theorem lv_aR (h : Lv D M σr ρ kk σ η μ) (ha : kk a = c) (hc : c ≠ 0) (hp : p < kL a) (hL : kL a ≤ 1000) (hD : ¬ D a p) {K : Option Nat → sn_M} : a_R c (some (ρ a)) (nI p) K μ = K (fQ ρ kk (kR σ a p)) μ := by
  obtain ⟨d1, d2, d3, d4, d5⟩ := h.1 a (by rw [ha]; exact hc)
  show (if m_kd μ (ρ a) = c ∧ ¬ (nI p < 0 ∨ m_ln μ (ρ a) ≤ (nI p).toNatClampNeg) then K (m_R μ (ρ a) (nI p).toNatClampNeg) μ else none) = _
  rw [d2, if_pos ⟨d1.trans ha, nI_in hp (by omega)⟩, nI_clamp (by omega), (d5 p).2 hD]
theorem lv_bR {b d : Nat} (h : Lv D M σr ρ kk σ η μ) (ha : kk a = c) (hc : c ≠ 0) (hp : p < kL a) (hL : kL a ≤ 1000) (hb : kk b = d) (hd : d ≠ 0) {K : sn_M} : b_R c d (some (ρ a)) (nI p) (some (ρ b)) K μ = K (u_R μ (ρ a) p (some (ρ b))) := by
  obtain ⟨d1, d2, d3, d4, d5⟩ := h.1 a (by rw [ha]; exact hc)
  have hb1 := (h.1 b (by rw [hb]; exact hd)).1
  show (if (m_kd μ (ρ a) = c ∧ ¬ (nI p < 0 ∨ m_ln μ (ρ a) ≤ (nI p).toNatClampNeg)) ∧ m_kd μ (ρ b) = d then K (u_R μ (ρ a) (nI p).toNatClampNeg (some (ρ b))) else none) = _
  rw [d2, if_pos ⟨⟨d1.trans ha, nI_in hp (by omega)⟩, hb1.trans hb⟩, nI_clamp (by omega)]
/-- with no dead reference: as before -/
theorem Lv.rn (h : Lv D0 M σr ρ kk σ η μ) (ho : ∀ a j, kk a ≠ 0 → sn_okr kk (kR σ a j)) : sn_Rn ρ kk (Kap kk σ η) μ := by
  refine ⟨rfl, fun a ha => ?_, ho⟩
  obtain ⟨d1, d2, d3, d4, d5⟩ := h.1 a ha
  refine ⟨d1, d2, d3, d4, fun j => ?_⟩
  rw [(d5 j).2 id]
  show fQ ρ kk (kR σ a j) = (kR σ a j).map ρ
  cases hr : kR σ a j with
  | none => rfl
  | some b => rw [fQ_s (ho a j ha b hr)]; rfl
theorem rn_Rl (h : sn_Rn ρ kk (Kap kk σ η) μ) : Rl D0 ρ kk σ η μ := fun a ha => by
  obtain ⟨d1, d2, d3, d4, d5⟩ := h.2.1 a ha
  refine ⟨d1, d2, d3, d4, fun j => ⟨fun z => z.elim, fun _ => ?_⟩⟩
  rw [d5 j]
  show (kR σ a j).map ρ = fQ ρ kk (kR σ a j)
  cases hr : kR σ a j with
  | none => rfl
  | some b => rw [fQ_s (h.2.2 a j ha b hr)]; rfl
end LvS
/-- the kinds of what there is: ends below ne, flows F, circuits C -/
def kdE (t : Nat) : Nat := [2, 9, 10, 6, 22, 6, 22].getD (t - 30) 0
def kdF (t : Nat) : Nat := [3, 6, 22].getD (t - 40) 0
def kdS : List Nat := [0, 11, 1, 5, 21, 21, 23, 23, 21, 21, 21, 8, 24, 24, 25, 23, 21, 7, 26, 26, 6, 22, 21]
def kdL (ne : Nat) (F C : Nat → Bool) (a : Nat) : Nat := if a < 64 then kdS.getD a 0 else if 30 ≤ a % 64 ∧ a % 64 < 37 then (if a / 64 - 1 < ne then kdE (a % 64) else 0) else if 40 ≤ a % 64 ∧ a % 64 < 43 then (if F (a / 64 - 1) then kdF (a % 64) else 0) else if a % 64 = 50 then (if C (a / 64 - 1) then 4 else 0) else if a % 64 = 51 then (if a / 64 - 1 < 24 then 4 else 0) else 0
def nbf (σ : sn_FS) (f : Nat) : Bool := decide (f < 144) && nb σ (f / 24) (f % 24 / 4)
def kd0 (σ : sn_FS) : Nat → Nat := kdL (2 * nl σ) (nbf σ) (nbf σ)
def S4 (σ : sn_FS) : Prop := ∀ x n, (setOf σ x n).length ≤ 4
theorem kdL_O (ne : Nat) (F C : Nat → Bool) (e t : Nat) (ht : t < 64) : kdL ne F C (64 * e + (64 + t)) = if 30 ≤ t ∧ t < 37 then (if e < ne then kdE t else 0) else if 40 ≤ t ∧ t < 43 then (if F e then kdF t else 0) else if t = 50 then (if C e then 4 else 0) else if t = 51 then (if e < 24 then 4 else 0) else 0 := by
  obtain ⟨h1, h2, h3⟩ := k_md e t ht
  simp only [kdL, h1, h2, h3, if_false]
theorem kdL_S (ne : Nat) (F C : Nat → Bool) (a : Nat) (ha : a < 64) : kdL ne F C a = kdS.getD a 0 := if_pos ha
theorem kdE_n : ∀ t, t < 37 → 30 ≤ t → kdE t ≠ 0 := by decide
theorem kdF_n : ∀ t, t < 43 → 40 ≤ t → kdF t ≠ 0 := by decide
theorem kd0_ok {σ : sn_FS} (h4 : S4 σ) : KOk (kd0 σ) σ := by
  refine ⟨⟨rfl, rfl, rfl, rfl, rfl, rfl, rfl, rfl, rfl, rfl, rfl, rfl, rfl, rfl, rfl, rfl, rfl, rfl, rfl, rfl, rfl, rfl⟩, fun e he => ?_, fun f hf hb => ?_, fun p hp => ?_, h4⟩
  · have h : ∀ t, t < 37 → 30 ≤ t → kd0 σ (64 * e + (64 + t)) = kdE t := fun t h1 h2 => by
      unfold kd0
      rw [kdL_O _ _ _ _ _ (by omega), if_pos ⟨h2, h1⟩, if_pos he]
    exact ⟨h 30 (by decide) (by decide), h 31 (by decide) (by decide), h 32 (by decide) (by decide), h 33 (by decide) (by decide), h 34 (by decide) (by decide), h 35 (by decide) (by decide), h 36 (by decide) (by decide)⟩
  · have hn : nbf σ f = true := by simp [nbf, hf, hb]
    have h : ∀ t, t < 43 → 40 ≤ t → kd0 σ (64 * f + (64 + t)) = kdF t := fun t h1 h2 => by
      unfold kd0
      rw [kdL_O _ _ _ _ _ (by omega), if_neg (by omega), if_pos ⟨h2, h1⟩, if_pos hn]
    refine ⟨h 40 (by decide) (by decide), h 41 (by decide) (by decide), h 42 (by decide) (by decide), ?_⟩
    show kdL _ _ _ (64 * f + (64 + 50)) = 4
    rw [kdL_O _ _ _ _ _ (by omega), if_neg (by omega), if_neg (by omega), if_pos rfl, if_pos hn]
  · show kdL _ _ _ (64 * p + (64 + 51)) = 4
    rw [kdL_O _ _ _ _ _ (by omega), if_neg (by omega), if_neg (by omega), if_neg (by omega), if_pos rfl, if_pos hp]
theorem kd0_SP {σ τ : sn_FS} (h : SP σ τ) : kd0 τ = kd0 σ := by
  have : nbf τ = nbf σ := by funext f; simp only [nbf, h.nbE]
  unfold kd0
  rw [this, h.nlE]
