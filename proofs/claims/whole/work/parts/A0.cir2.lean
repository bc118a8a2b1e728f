/-! LAYER 2: letting go, going back -/
def tmv (σ : sn_FS) (n : Nat) : Int32 := if n = 0 then 0 else σ.1 6 0 + nI n
def S_bec (c s n l : Nat) (σ : sn_FS) : sn_FS := if s = 0 ∨ 7 ≤ s then sI (sI (sI (sI (sI σ 52 c (nI s)) 53 c (tmv σ n)) 54 c (tmv σ l)) 58 c (-1)) 60 c 0 else sI (sI (sI σ 52 c (nI s)) 53 c (tmv σ n)) 54 c (tmv σ l)
theorem S_bec_I {σ : sn_FS} {c s n l k i : Nat} (h : (k ≠ 52 ∧ k ≠ 53 ∧ k ≠ 54 ∧ k ≠ 58 ∧ k ≠ 60) ∨ i ≠ c) : (S_bec c s n l σ).1 k i = σ.1 k i := by
  unfold S_bec
  rcases h with h | h
  · split
    · rw [sI_ne h.2.2.2.2, sI_ne h.2.2.2.1, sI_ne h.2.2.1, sI_ne h.2.1, sI_ne h.1]
    · rw [sI_ne h.2.2.1, sI_ne h.2.1, sI_ne h.1]
  · split
    · rw [sI_nk h, sI_nk h, sI_nk h, sI_nk h, sI_nk h]
    · rw [sI_nk h, sI_nk h, sI_nk h]
theorem S_bec_at {σ : sn_FS} {c s n l : Nat} : (S_bec c s n l σ).1 52 c = nI s ∧ (S_bec c s n l σ).1 53 c = tmv σ n ∧ (S_bec c s n l σ).1 54 c = tmv σ l ∧ (s = 0 ∨ 7 ≤ s → (S_bec c s n l σ).1 58 c = -1 ∧ (S_bec c s n l σ).1 60 c = 0) ∧ (¬ (s = 0 ∨ 7 ≤ s) → (S_bec c s n l σ).1 58 c = σ.1 58 c ∧ (S_bec c s n l σ).1 60 c = σ.1 60 c) := by
  unfold S_bec
  by_cases h : s = 0 ∨ 7 ≤ s
  · rw [if_pos h]
    exact ⟨by simp only [sn_upE, Nat.reduceEqDiff, reduceIte], by simp only [sn_upE, Nat.reduceEqDiff, reduceIte], by simp only [sn_upE, Nat.reduceEqDiff, reduceIte], fun _ => ⟨by simp only [sn_upE, Nat.reduceEqDiff, reduceIte], by simp only [sn_upE, Nat.reduceEqDiff, reduceIte]⟩, fun q => absurd h q⟩
  · rw [if_neg h]
    exact ⟨by simp only [sn_upE, Nat.reduceEqDiff, reduceIte], by simp only [sn_upE, Nat.reduceEqDiff, reduceIte], by simp only [sn_upE, Nat.reduceEqDiff, reduceIte], fun q => absurd q h, fun _ => ⟨by simp only [sn_upE, Nat.reduceEqDiff, reduceIte], by simp only [sn_upE, Nat.reduceEqDiff, reduceIte]⟩⟩
theorem S_bec_CF {σ : sn_FS} {c s n l : Nat} : CF σ (S_bec c s n l σ) := by
  unfold S_bec
  split
  · exact ((((CF.rf.sI (by decide)).sI (by decide)).sI (by decide)).sI (by decide)).sI (by decide)
  · exact ((CF.rf.sI (by decide)).sI (by decide)).sI (by decide)
theorem gl_becomes {σ : sn_FS} {c s n l : Nat} (hc : c < 144) (hs : s ≤ 8) (hn : n < 100) (hl : l < 100) (ms : List Msg) : g_Md_becomes (nI c) (nI s) (nI n) (nI l) (Rt ms σ) = some (none, Rt ms (S_bec c s n l σ)) := by
  have d52 : c < md_len 52 := hc
  have d53 : c < md_len 53 := hc
  have d54 : c < md_len 54 := hc
  have d58 : c < md_len 58 := hc
  have d60 : c < md_len 60 := hc
  have h6 : ∀ τ : sn_FS, τ.1 6 0 = σ.1 6 0 → ∀ K : Int32 → sn_G, q_S 6 K (Rt ms τ) = K (σ.1 6 0) (Rt ms τ) := fun τ h K => by
    show K ((Rt ms τ).1 6 0) (Rt ms τ) = _
    rw [Rt_q (by decide), h]
  have z : ∀ v, v < 100 → ((nI v = 0) ↔ v = 0) := fun v hv => ⟨fun q => nI_inj (a := v) (b := 0) (by omega) (by omega) q, fun q => by rw [q]; rfl⟩
  have e48 : ∀ t2 : Int32, g_Md_becomes_48 (nI c) (nI s) (nI c) t2 (Rt ms (sI (sI σ 52 c (nI s)) 53 c (tmv σ n))) = some (none, Rt ms (if s = 0 ∨ 7 ≤ s then sI (sI (sI (sI (sI σ 52 c (nI s)) 53 c (tmv σ n)) 54 c t2) 58 c (-1)) 60 c 0 else sI (sI (sI σ 52 c (nI s)) 53 c (tmv σ n)) 54 c t2)) := by
    intro t2
    unfold g_Md_becomes_48
    rw [wRt d54 (by decide)]
    have z7 : (nI s < (7 : Int32)) ↔ s < 7 := nI_ltI (a := s) (b := 7) (by omega) (by omega)
    by_cases c0 : s = 0
    · rw [if_pos ((z s (by omega)).mpr c0), if_pos (Or.inl c0)]
      unfold g_Md_becomes_59
      rw [wRt d58 (by decide)]
      unfold g_Md_becomes_66
      rw [if_pos ((z s (by omega)).mpr c0)]
      unfold g_Md_becomes_76
      rw [wRt d60 (by decide)]; rfl
    · have n0 : ¬ nI s = 0 := fun q => c0 ((z s (by omega)).mp q)
      rw [if_neg n0]
      by_cases c7 : s < 7
      · rw [if_pos (z7.mpr c7), if_neg (by omega)]
        unfold g_Md_becomes_66
        rw [if_neg n0, if_pos (z7.mpr c7)]; rfl
      · rw [if_neg (fun q => c7 (z7.mp q)), if_pos (Or.inr (by omega))]
        unfold g_Md_becomes_59
        rw [wRt d58 (by decide)]
        unfold g_Md_becomes_66
        rw [if_neg n0, if_neg (fun q => c7 (z7.mp q))]
        unfold g_Md_becomes_76
        rw [wRt d60 (by decide)]; rfl
  have e26 : ∀ t2, t2 = tmv σ n → g_Md_becomes_26 (nI c) (nI s) (nI l) (nI c) t2 (Rt ms (sI σ 52 c (nI s))) = some (none, Rt ms (S_bec c s n l σ)) := by
    intro t2 ht
    subst ht
    unfold g_Md_becomes_26
    rw [wRt d53 (by decide)]
    by_cases c0 : l = 0
    · have ht : tmv σ l = 0 := by unfold tmv; rw [if_pos c0]
      rw [if_neg (fun q => q ((z l hl).mpr c0)), e48]
      unfold S_bec
      rw [ht]
    · have ht : tmv σ l = σ.1 6 0 + nI l := by unfold tmv; rw [if_neg c0]
      rw [if_pos (fun q => c0 ((z l hl).mp q)), h6 _ (by rw [sI_ne (by decide), sI_ne (by decide)]), e48]
      unfold S_bec
      rw [ht]
  unfold g_Md_becomes
  rw [wRt d52 (by decide)]
  by_cases c0 : n = 0
  · rw [if_neg (fun q => q ((z n hn).mpr c0))]
    exact e26 _ (by unfold tmv; rw [if_pos c0])
  · rw [if_pos (fun q => c0 ((z n hn).mp q)), h6 _ (sI_ne (by decide))]
    exact e26 _ (by unfold tmv; rw [if_neg c0])
theorem S_bec_ts {σ : sn_FS} {c s n l : Nat} (hn : n ≤ 60) (hl : l ≤ 60) : TS σ (S_bec c s n l σ) := by
  refine ⟨S_bec_CF.1 6 0 (by decide), fun k i hk => ?_⟩
  have hv : ∀ n, n ≤ 60 → tmv σ n = 0 ∨ ∃ v, 0 < v ∧ v ≤ 60 ∧ tmv σ n = σ.1 6 0 + nI v := fun n hn => by
    unfold tmv
    by_cases c : n = 0
    · rw [if_pos c]; exact Or.inl rfl
    · rw [if_neg c]; exact Or.inr ⟨n, by omega, hn, rfl⟩
  by_cases ci : i = c
  · rw [ci]
    by_cases c3 : k = 53
    · rw [c3, S_bec_at.2.1]; exact Or.inr (hv n hn)
    · by_cases c4 : k = 54
      · rw [c4, S_bec_at.2.2.1]; exact Or.inr (hv l hl)
      · left; have := tm_of hk; exact S_bec_I (Or.inl (by omega))
  · left; exact S_bec_I (Or.inr ci)
theorem CF_ts {σ τ : sn_FS} (h : CF σ τ) (h5 : ∀ i, τ.1 53 i = σ.1 53 i ∧ τ.1 54 i = σ.1 54 i) : TS σ τ := ⟨h.1 6 0 (by decide), fun k i hk => Or.inl (by
  rcases tm_of hk with rfl | rfl | rfl | rfl | rfl | rfl
  · exact h.1 _ _ (by decide)
  · exact h.1 _ _ (by decide)
  · exact h.1 _ _ (by decide)
  · exact h.1 _ _ (by decide)
  · exact (h5 i).1
  · exact (h5 i).2)⟩
/-- keeping what always holds -/
theorem C1.mk' {σ τ : sn_FS} {c : Nat} (h : C1 σ c) (hcf : CF σ τ) (hk : ∀ k, 52 ≤ k → k ≤ 60 → k ≠ 57 → τ.1 k c = σ.1 k c) (h57 : τ.1 57 c = σ.1 57 c ∨ τ.1 57 c = -1 ∨ (¬ σ.1 52 c = 0 ∧ ¬ (7 : Int32) ≤ σ.1 52 c)) : C1 τ c := by
  obtain ⟨a1, a2, a3, a4, a5, a6, a7, a8, a9, a10, a11⟩ := h
  have g := fun k (h : 52 ≤ k ∧ k ≤ 60 ∧ k ≠ 57) => hk k h.1 h.2.1 h.2.2
  unfold C1
  rw [g 52 (by decide), g 53 (by decide), g 54 (by decide), g 55 (by decide), g 56 (by decide), g 58 (by decide), g 59 (by decide), g 60 (by decide), hcf.sp.nbE]
  refine ⟨a1, a2, a3, a4, a5, fun q => ⟨?_, (a6 q).2⟩, a7, a8, a9, a10, fun q => ?_⟩
  · rcases h57 with z | z | z
    · rw [z]; exact (a6 q).1
    · exact z
    · rcases q with q | q
      · exact absurd q z.1
      · exact absurd q z.2
  · obtain ⟨b1, b2, b3, b4, b5, b6, b7, b8, b9⟩ := a11 q
    refine ⟨b1, b2, b3, b4, b5, ?_, b7, b8, b9⟩
    rcases h57 with z | z | z
    · rw [z]; exact b6
    · exact z
    · exact absurd b1 z.1
theorem P1.mk' {σ τ : sn_FS} {p : Nat} (h : P1 σ p) (h61 : τ.1 61 p = σ.1 61 p) (h62 : τ.1 62 p = σ.1 62 p ∨ τ.1 62 p = -1 ∨ (¬ σ.1 61 p = 0 ∧ ¬ σ.1 61 p = 5)) : P1 τ p := by
  unfold P1
  rw [h61]
  refine ⟨h.1, fun q => ?_⟩
  rcases h62 with z | z | z
  · rw [z]; exact h.2 q
  · exact z
  · rcases q with q | q
    · exact absurd q z.1
    · exact absurd q z.2
theorem lgv_57 {σ : sn_FS} {c : Nat} : lgv σ (100 + c) = σ.1 57 c := by unfold lgv; rw [if_pos (by omega), Nat.add_sub_cancel_left]
theorem lgv_62 {σ : sn_FS} {p : Nat} (h : p < 24) : lgv σ p = σ.1 62 p := by unfold lgv; rw [if_neg (by omega)]
theorem CI.part {σ : sn_FS} (h : CI σ) {g : Nat} (hg : VL σ g) : CI (S_part g σ) := by
  refine ⟨S_part_J h.1 hg, fun c hc => ?_, fun p hp => ?_⟩
  · refine (h.2.1 c hc).mk' S_part_CF (fun k _ h1 h2 => S_part_I ⟨h2, by omega⟩) ?_
    have := S_part_lg h.1 (g' := 100 + c) hg (Or.inr ⟨by omega, by omega⟩)
    rw [lgv_57, lgv_57] at this
    rw [this]
    split
    · exact Or.inr (Or.inl rfl)
    · split
      · exact Or.inr (Or.inl rfl)
      · exact Or.inl rfl
  · refine (h.2.2 p hp).mk' (S_part_I (by decide)) ?_
    have := S_part_lg h.1 (g' := p) hg (Or.inl hp)
    rw [lgv_62 hp, lgv_62 hp] at this
    rw [this]
    split
    · exact Or.inr (Or.inl rfl)
    · split
      · exact Or.inr (Or.inl rfl)
      · exact Or.inl rfl
/-- both do the same to circuits -/
def Ct (kk : Nat → Nat) (g : sn_G) (f : sn_M) (rv : Option Value) (b : Nat) (σ σ' : sn_FS) (new : List Msg) : Prop := (∀ ms, g (Rt ms σ) = some (none, Rt (ms ++ new) σ')) ∧ (∀ η ms, PQ η ms → ms.length + b ≤ 16 → ∃ θ, f (Kap kk σ η) = some (rv, Kap kk σ' θ) ∧ PQ θ (ms ++ new) ∧ HE η θ) ∧ new.length ≤ b ∧ (∀ m ∈ new, MV σ m) ∧ CF σ σ' ∧ TS σ σ' ∧ CI σ'
def Cb (kk : Nat → Nat) (σ : sn_FS) : Prop := KOk kk σ ∧ GvOk σ ∧ ToldOk σ
variable {kk : Nat → Nat} {σ : sn_FS}
theorem CF.cb {τ : sn_FS} (h : CF σ τ) (hB : Cb kk σ) : Cb kk τ := ⟨hB.1.sp h.sp, h.gv hB.2.1, h.told hB.2.2⟩
theorem Ct.id {g : sn_G} {f : sn_M} {rv : Option Value} {b : Nat} (hI : CI σ) (hg : ∀ ms, g (Rt ms σ) = some (none, Rt ms σ)) (hf : ∀ η, f (Kap kk σ η) = some (rv, Kap kk σ η)) : Ct kk g f rv b σ σ [] := ⟨fun ms => by rw [List.append_nil]; exact hg ms, fun η ms hP _ => ⟨η, hf η, by rw [List.append_nil]; exact hP, HE.rf⟩, Nat.zero_le _, (fun m h => by cases h), CF.rf, TS.rf, hI⟩
/-- one thing, then another -/
theorem Ct.bind {g g1 g2 : sn_G} {f f1 f2 : sn_M} {rv r1 r2 : Option Value} {b b1 b2 : Nat} {τ ω : sn_FS} {n1 n2 : List Msg} (h1 : Ct kk g1 f1 r1 b1 σ τ n1) (h2 : Ct kk g2 f2 r2 b2 τ ω n2) (hb : b1 + b2 ≤ b) (hg : ∀ ms ms' ρ, g1 (Rt ms σ) = some (none, Rt ms' τ) → g2 (Rt ms' τ) = some (none, ρ) → g (Rt ms σ) = some (none, ρ)) (hf : ∀ η θ κ, f1 (Kap kk σ η) = some (r1, Kap kk τ θ) → f2 (Kap kk τ θ) = some (r2, κ) → f (Kap kk σ η) = some (rv, κ)) : Ct kk g f rv b σ ω (n1 ++ n2) := by
  obtain ⟨a1, a2, a3, a4, a5, a6, a7⟩ := h1
  obtain ⟨b1', b2', b3, b4, b5, b6, b7⟩ := h2
  refine ⟨fun ms => ?_, fun η ms hP hl => ?_, by simp; omega, fun m hm => ?_, a5.tr b5, a6.tr b6, b7⟩
  · rw [← List.append_assoc]
    exact hg ms _ _ (a1 ms) (b1' _)
  · obtain ⟨θ, c1, c2, c3⟩ := a2 η ms hP (by omega)
    obtain ⟨ζ, d1, d2, d3⟩ := b2' θ _ c2 (by simp; omega)
    exact ⟨ζ, hf η θ _ c1 d1, by rw [← List.append_assoc]; exact d2, c3.tr d3⟩
  · rcases List.mem_append.mp hm with q | q
    · exact a4 m q
    · have := b4 m q; rw [MV.sp a5.sp] at this; exact this
