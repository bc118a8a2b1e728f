/-! LAYER 2: the class takes from its queues while the reference has emptied them -/
def XE (e : Nat) (P : Nat → Prop) (σ τ : sn_FS) : Prop := (∀ k i, ¬ (k = 27 ∧ i = e) → ¬ (k = 29 ∧ i = e) → ¬ (k = 47 ∧ P i) → τ.1 k i = σ.1 k i) ∧ ∀ k i, k ≠ 63 → ¬ (k = 25 ∧ 32 * e ≤ i ∧ i < 32 * e + 32) → ¬ (k = 28 ∧ 64 * e ≤ i ∧ i < 64 * e + 64) → ¬ (k = 46 ∧ P (i / 64)) → τ.2 k i = σ.2 k i
def FX (e : Nat) (P : Nat → Prop) (σ : sn_FS) : Prop := (∀ x n s, x < 6 → n < 6 → s < 4 → σ.1 42 (fl x n s) = 0 → σ.1 41 (fl x n s) = -1 ∨ ∃ l, l < nl σ ∧ σ.1 41 (fl x n s) = nI l ∧ en σ l x ≠ e) ∧ ∀ f, P f → σ.1 42 f = 0
theorem FX.mk' {e : Nat} {P : Nat → Prop} {σ τ : sn_FS} (h : FX e P σ) (hs : SP σ τ) (h1 : ∀ k i, k = 41 ∨ k = 42 → τ.1 k i = σ.1 k i) : FX e P τ := by
  refine ⟨fun x n s hx hn hs4 h0 => ?_, fun f hf => by rw [h1 42 _ (Or.inr rfl)]; exact h.2 f hf⟩
  rw [h1 42 _ (Or.inr rfl)] at h0
  rw [h1 41 _ (Or.inl rfl), hs.nlE, hs.enE]
  exact h.1 x n s hx hn hs4 h0
theorem WI.fx {σ : sn_FS} (hw : WI σ) {e : Nat} {P : Nat → Prop} (h5 : ¬ σ.1 10 e = 5) (hP : ∀ f, P f → σ.1 42 f = 0) : FX e P σ := by
  refine ⟨fun x n s hx hn hs h0 => ?_, hP⟩
  rcases (hw.f1 hx hn hs).1 with q | ⟨l, a, b, c, d⟩
  · exact Or.inl q
  · exact Or.inr ⟨l, a, c, fun q => h5 (q ▸ d)⟩
section XEs
variable {e : Nat} {P : Nat → Prop} {σ τ : sn_FS}
theorem XE.at (h : XE e P σ τ) {k i : Nat} (hk : k ≠ 27 ∧ k ≠ 29 ∧ k ≠ 47) : τ.1 k i = σ.1 k i := h.1 k i (fun q => hk.1 q.1) (fun q => hk.2.1 q.1) (fun q => hk.2.2 q.1)
theorem XE.sp (h : XE e P σ τ) : SP σ τ := ⟨fun i => h.at (by decide), fun i => h.at (by decide), fun i => h.at (by decide)⟩
theorem XE_lost (h : XE e P σ τ) : XE e P (S_lost σ) (S_lost τ) := by
  refine ⟨fun k i a b c => ?_, h.2⟩
  unfold S_lost
  show (if k = 7 then τ.1 7 0 + 1 else τ.1 k i) = if k = 7 then σ.1 7 0 + 1 else σ.1 k i
  rw [h.at (k := 7) (by decide), h.1 k i a b c]
theorem XE_wait (h : XE e P σ τ) {e' : Nat} (he : e' ≠ e) (m : Int64) : XE e P (S_wait e' m σ) (S_wait e' m τ) := by
  have h29 : τ.1 29 e' = σ.1 29 e' := h.1 29 e' (fun q => by omega) (fun q => he q.2) (fun q => by omega)
  unfold S_wait
  rw [h29]
  split
  · exact XE_lost h
  · refine ⟨fun k i a b c => ?_, fun k i a b c d => ?_⟩
    · simp only [sn_upE]
      rw [h.1 k i a b c]
    · simp only [sn_upE]
      rw [h.2 k i a b c d]
theorem XE_give (h : XE e P σ τ) (hF : FX e P σ) {x n s : Nat} (hx : x < 6) (hn : n < 6) (hs : s < 4) (hnl : nl σ ≤ 10) (ho : opb σ x n s = true) (m : Int64) : XE e P (S_give x n s m σ) (S_give x n s m τ) := by
  unfold S_give
  rw [h.at (k := 42) (by decide), h.at (k := 41) (by decide), h.sp.enE]
  by_cases c0 : σ.1 42 (fl x n s) = 0
  · rw [if_pos c0, if_pos c0]
    rcases hF.1 x n s hx hn hs c0 with q | ⟨l, a, b, c⟩
    · simp [opb, q, c0] at ho
    · rw [b, nI_clamp (by omega)]
      exact XE_wait h c m
  · rw [if_neg c0, if_neg c0]
    have h47 : τ.1 47 (fl x n s) = σ.1 47 (fl x n s) := h.1 47 _ (fun q => by omega) (fun q => by omega) (fun q => c0 (hF.2 _ q.2))
    rw [h47]
    split
    · exact XE_lost h
    · refine ⟨fun k i a b c => ?_, fun k i a b c d => ?_⟩
      · simp only [sn_upE]
        rw [h.1 k i a b c]
      · simp only [sn_upE]
        rw [h.2 k i a b c d]
theorem XE_ag (h : XE e P σ τ) (hF : FX e P σ) (hT : ToldOk σ) (hnl : nl σ ≤ 10) {x n : Nat} {m : Msg} (hx : x < 6) (hn : n < 6) (hm : MOk m) : XE e P (S_ag x n m σ) (S_ag x n m τ) := by
  obtain ⟨q1, q2, q3, q4, q5, q6, q7⟩ := hm
  have e1 : opb τ = opb σ := opb_eq (fun k i q => h.at (by omega))
  have e2 : way τ = way σ := way_eq h.sp (fun k i q => h.at (by omega))
  unfold S_ag
  rw [e1]
  split
  · exact h
  · split
    · rename_i ho; exact XE_give h hF hx hn q4 hnl ho _
    · split
      · unfold S_route
        rw [e2]
        cases hw : way σ x (mT m) (mL m) none with
        | none => exact XE_lost h
        | some n' =>
          obtain ⟨h1, h2, h3⟩ := way_lt hT hx q3 hw
          exact XE_give h hF hx h1 q4 hnl (okw_nb h2).2 _
      · exact XE_lost h
/-- the queues that are being emptied -/
def DQ (e : Nat) (P : Nat → Prop) (σ τ : sn_FS) : Prop := τ.1 27 e = σ.1 27 e ∧ τ.1 29 e = σ.1 29 e ∧ (∀ f, P f → τ.1 47 f = σ.1 47 f) ∧ (∀ i, τ.2 25 i = σ.2 25 i) ∧ (∀ j, j < 64 → τ.2 28 (64 * e + j) = σ.2 28 (64 * e + j)) ∧ ∀ f, P f → ∀ j, j < 64 → τ.2 46 (64 * f + j) = σ.2 46 (64 * f + j)
theorem DQ_lost : DQ e P σ (S_lost σ) := ⟨S_lost_I σ (by decide), S_lost_I σ (by decide), fun f _ => S_lost_I σ (by decide), fun i => rfl, fun j _ => rfl, fun f _ j _ => rfl⟩
theorem DQ_wait (hG : GvOk σ) {e' : Nat} (he : e' ≠ e) (h20 : e' < 20) (m : Int64) : DQ e P σ (S_wait e' m σ) := by
  obtain ⟨w, hw, ew⟩ := hG.2.1 e' h20
  unfold S_wait
  split
  · exact DQ_lost
  · rename_i c
    have hlt : w < 64 := by
      have : w ≠ 64 := fun q => c (by rw [ew, q]; rfl)
      omega
    refine ⟨sI_ne (by decide), sI_nk (Ne.symm he), fun f _ => sI_ne (by decide), fun i => by simp only [sn_upE, Nat.reduceEqDiff, reduceIte], fun j hj => ?_, fun f _ j _ => by simp only [sn_upE, Nat.reduceEqDiff, reduceIte]⟩
    simp only [sn_upE, Nat.reduceEqDiff, reduceIte]
    rw [ew, nI_clamp (by omega), if_neg (by omega)]
theorem DQ_give (hG : GvOk σ) (hF : FX e P σ) {x n s : Nat} (hx : x < 6) (hn : n < 6) (hs : s < 4) (ho : opb σ x n s = true) (m : Int64) : DQ e P σ (S_give x n s m σ) := by
  have hn10 := hG.1.2.1
  unfold S_give
  by_cases c0 : σ.1 42 (fl x n s) = 0
  · rw [if_pos c0]
    rcases hF.1 x n s hx hn hs c0 with q | ⟨l, a, b, c⟩
    · simp [opb, q, c0] at ho
    · rw [b, nI_clamp (by omega)]
      exact DQ_wait hG c (en_lt hG.1 a).2 m
  · rw [if_neg c0]
    obtain ⟨w, hw, ew⟩ := hG.2.2.1 _ (fl_lt hx hn hs)
    split
    · exact DQ_lost
    · rename_i c
      have hlt : w < 64 := by
        have : w ≠ 64 := fun q => c (by rw [ew, q]; rfl)
        omega
      have hne : ∀ f, P f → f ≠ fl x n s := fun f hf q => c0 (hF.2 _ (q ▸ hf))
      refine ⟨sI_ne (by decide), sI_ne (by decide), fun f hf => sI_nk (hne f hf), fun i => by simp only [sn_upE, Nat.reduceEqDiff, reduceIte], fun j hj => by simp only [sn_upE, Nat.reduceEqDiff, reduceIte], fun f hf j hj => ?_⟩
      have := hne f hf
      simp only [sn_upE, Nat.reduceEqDiff, reduceIte]
      rw [ew, nI_clamp (by omega), if_neg (by omega)]
theorem DQ_ag (hG : GvOk σ) (hF : FX e P σ) (hT : ToldOk σ) {x n : Nat} {m : Msg} (hx : x < 6) (hn : n < 6) (hm : MOk m) : DQ e P σ (S_ag x n m σ) := by
  obtain ⟨q1, q2, q3, q4, q5, q6, q7⟩ := hm
  have rf : DQ e P σ σ := ⟨rfl, rfl, fun _ _ => rfl, fun _ => rfl, fun _ _ => rfl, fun _ _ _ _ => rfl⟩
  unfold S_ag
  split
  · exact rf
  · split
    · rename_i ho; exact DQ_give hG hF hx hn q4 ho _
    · split
      · unfold S_route
        cases hw : way σ x (mT m) (mL m) none with
        | none => exact DQ_lost
        | some n' =>
          obtain ⟨h1, h2, h3⟩ := way_lt hT hx q3 hw
          exact DQ_give hG hF hx h1 q4 (okw_nb h2).2 _
      · exact DQ_lost
/-- a queue among those being emptied -/
def inD (e : Nat) (P : Nat → Prop) (t i : Nat) : Prop := if t = 2 then P i else i = e
theorem DQ.at (h : DQ e P σ τ) {t i : Nat} (ht : t < 3) (hD : inD e P t i) : τ.1 (sk t) i = σ.1 (sk t) i ∧ ∀ j, j < cp t → τ.2 (jk t) (cp t * i + j) = σ.2 (jk t) (cp t * i + j) := by
  obtain ⟨a1, a2, a3, a4, a5, a6⟩ := h
  rcases t3 ht with rfl | rfl | rfl
  · have : i = e := hD
    subst this
    exact ⟨a1, fun j _ => a4 _⟩
  · have : i = e := hD
    subst this
    exact ⟨a2, a5⟩
  · exact ⟨a3 i hD, a6 i hD⟩
theorem XE_pop (h : XE e P σ τ) {t i : Nat} (ht : t < 3) (hD : inD e P t i) : XE e P σ (S_pop t i τ) := by
  refine ⟨fun k j a b c => ?_, fun k p a b c d => ?_⟩
  · have hne : ¬ (k = sk t ∧ j = i) := by
      rintro ⟨rfl, rfl⟩
      rcases t3 ht with rfl | rfl | rfl
      · exact a ⟨rfl, hD⟩
      · exact b ⟨rfl, hD⟩
      · exact c ⟨rfl, hD⟩
    show sn_up τ.1 (sk t) i _ k j = σ.1 k j
    rw [← h.1 k j a b c]
    simp only [sn_upE]
    by_cases c1 : k = sk t
    · by_cases c2 : j = i
      · exact absurd ⟨c1, c2⟩ hne
      · simp [c2]
    · simp [c1]
  · show (if k = jk t ∧ cp t * i ≤ p ∧ p < cp t * i + cp t then _ else τ.2 k p) = σ.2 k p
    rw [if_neg]
    · exact h.2 k p a b c d
    · rintro ⟨rfl, h1, h2⟩
      rcases t3 ht with rfl | rfl | rfl
      · have : i = e := hD
        subst this
        exact b ⟨rfl, h1, h2⟩
      · have : i = e := hD
        subst this
        exact c ⟨rfl, h1, h2⟩
      · have h1 : 64 * i ≤ p := h1
        have h2 : p < 64 * i + 64 := h2
        have : p / 64 = i := by omega
        exact d ⟨rfl, this ▸ hD⟩
theorem pop_other {t i t' i' : Nat} (ht : t < 3) (ht' : t' < 3) (hne : ¬ (t' = t ∧ i' = i)) : (S_pop t i σ).1 (sk t') i' = σ.1 (sk t') i' ∧ ∀ j, j < cp t' → (S_pop t i σ).2 (jk t') (cp t' * i' + j) = σ.2 (jk t') (cp t' * i' + j) := by
  by_cases ee : t' = t
  · subst ee
    have hie : i' ≠ i := fun q => hne ⟨rfl, q⟩
    refine ⟨sn_up_nk _ _ _ _ hie, fun j hj => ?_⟩
    show (if jk t' = jk t' ∧ cp t' * i ≤ cp t' * i' + j ∧ cp t' * i' + j < cp t' * i + cp t' then _ else σ.2 (jk t') (cp t' * i' + j)) = _
    rw [if_neg]
    rintro ⟨-, h1, h2⟩
    rcases Nat.lt_or_gt_of_ne hie with g | g
    · have : cp t' * i' + cp t' ≤ cp t' * i := by rw [← Nat.mul_succ]; exact Nat.mul_le_mul_left _ g
      omega
    · have : cp t' * i + cp t' ≤ cp t' * i' := by rw [← Nat.mul_succ]; exact Nat.mul_le_mul_left _ g
      omega
  · refine ⟨sn_up_ne _ _ _ _ (fun e => ee (sk_inj ht' ht e)), fun j hj => ?_⟩
    show (if jk t' = jk t ∧ _ then _ else σ.2 (jk t') (cp t' * i' + j)) = _
    rw [if_neg (fun q => ee (jk_inj ht' ht q.1))]
end XEs
theorem S_pop_Gv {σ : sn_FS} (h : GvOk σ) {t i : Nat} (ht : t < 3) (hc : cl σ (sk t) i ≤ 64) : GvOk (S_pop t i σ) := by
  have hs := S_pop_SP (i := i) ht σ
  have g : ∀ k j, (k = 29 ∨ k = 47) → (∃ w, w ≤ 64 ∧ σ.1 k j = nI w) → ∃ w, w ≤ 64 ∧ (S_pop t i σ).1 k j = nI w := by
    intro k j _ hk
    show ∃ w, w ≤ 64 ∧ sn_up σ.1 (sk t) i _ k j = nI w
    simp only [sn_upE]
    by_cases c1 : k = sk t
    · by_cases c2 : j = i
      · simp only [c1, c2, if_true]; exact ⟨_, by omega, rfl⟩
      · simp only [c2, if_false, ite_self]; exact hk
    · simp only [c1, if_false]; exact hk
  have h4 : sk t ≠ 41 ∧ sk t ≠ 42 := by rcases t3 ht with rfl | rfl | rfl <;> decide
  exact h.mk' hs (fun e he => g _ _ (Or.inl rfl) (h.2.1 e he)) (fun f hf => g _ _ (Or.inr rfl) (h.2.2.1 f hf)) (fun j => S_pop_I σ (Ne.symm h4.1)) (fun j => S_pop_I σ (Ne.symm h4.2))
/-- a state of the class while it gives again -/
def AG (kk : Nat → Nat) (e : Nat) (P : Nat → Prop) (ρ σ η : sn_FS) : Prop := XE e P ρ σ ∧ FX e P ρ ∧ KOk kk σ ∧ HR σ η ∧ GvOk σ ∧ ToldOk ρ ∧ e < 2 * nl σ
theorem AG.told {kk : Nat → Nat} {e : Nat} {P : Nat → Prop} {ρ σ η : sn_FS} (h : AG kk e P ρ σ η) : ToldOk σ := h.2.2.2.2.2.1.mk' (fun i => h.1.at (by decide)) (fun i => h.1.at (by decide))
theorem fl_agq {kk : Nat → Nat} {e : Nat} {P : Nat → Prop} {t i x n : Nat} (ht : t < 3) (hD : inD e P t i) : ∀ (ms : List Msg) (fuel : Nat) (ρ σ η : sn_FS), ms.length < fuel → ms.length ≤ cp t → AG kk e P ρ σ η → exT σ t i → ex σ e = x → ot σ e = n → σ.1 (sk t) i = nI ms.length → (∀ m ∈ ms, MV σ m) → (∀ j (h : j < ms.length), σ.2 (jk t) (cp t * i + j) = wR ms[j]) → ∃ τ θ, f_Tr_giveAgain_5 11 fuel (some (aE e)) (some (qA t i)) (nI ms.length) (Kap kk σ η) = some (none, Kap kk τ θ) ∧ AG kk e P (S_ags x n ms ρ) τ θ ∧ PE η θ ∧ SP σ τ ∧ τ.1 (sk t) i = 0 ∧ ∀ t' i', t' < 3 → inD e P t' i' → ¬ (t' = t ∧ i' = i) → τ.1 (sk t') i' = σ.1 (sk t') i' ∧ ∀ j, j < cp t' → τ.2 (jk t') (cp t' * i' + j) = σ.2 (jk t') (cp t' * i' + j)
  | [], fuel + 1, ρ, σ, η, _, _, hA, _, _, _, hn, _, _ => by
    have o1 : (nI ([] : List Msg).length ≤ 0) = True := eq_true (by decide)
    refine ⟨σ, η, ?_, hA, PE.rf, SP.rf, hn, fun t' i' _ _ _ => ⟨rfl, fun _ _ => rfl⟩⟩
    simp only [f_Tr_giveAgain_5, o1, if_true, r_V]
  | m :: ms, fuel + 1, ρ, σ, η, hf, hc, hA, hi, hx, hno, hn, hm, hw => by
    obtain ⟨hX, hF, hK, hH, hG, hT, he⟩ := id hA
    have hTσ := hA.told
    simp only [List.length_cons] at hf hc
    have hn' : σ.1 (sk t) i = nI (ms.length + 1) := hn
    have hmv := hm m List.mem_cons_self
    have hcl := cl_n hn' (by have := cp_le t; omega)
    have hw0 : σ.2 (jk t) (cp t * i) = wR m := hw 0 (by simp)
    obtain ⟨θ1, a1, a2, a3⟩ := fl_pop hK hH ht hi hn' hc hmv.1 hw0
    have hs1 := S_pop_SP (i := i) ht σ
    have hG1 := S_pop_Gv (i := i) hG ht (by have := cp_le t; omega)
    have hsk : ∀ k, k ≠ 27 → k ≠ 29 → k ≠ 47 → k ≠ sk t := fun k a b c => Ne.symm (sk_out ht ⟨a, b, c⟩)
    have hT1 : ToldOk (S_pop t i σ) := hTσ.mk' (fun j => S_pop_I σ (hsk _ (by decide) (by decide) (by decide))) (fun j => S_pop_I σ (hsk _ (by decide) (by decide) (by decide)))
    have he1 : e < 2 * nl (S_pop t i σ) := by rw [hs1.nlE]; exact he
    have hm1 : MV (S_pop t i σ) m := by rw [MV.sp hs1]; exact hmv
    obtain ⟨θ2, b1, b2, b3⟩ := fl_ag (hK.sp hs1) a2 hG1 hT1 (e := e) (t := t) (i := i) (fuel := fuel) (r := ms.length) hm1 he1
    obtain ⟨x1, x2, x3⟩ := hG.1.ex_lt he
    rw [hs1.exE, hs1.otE, hx, hno] at b1 b2
    rw [hx] at x1
    rw [hno] at x2
    have hX1 : XE e P ρ (S_pop t i σ) := XE_pop hX ht hD
    have hX2 : XE e P (S_ag x n m ρ) (S_ag x n m (S_pop t i σ)) := XE_ag hX1 hF hT (by rw [← hX.sp.nlE]; exact hG.1.2.1) x1 x2 hmv.1
    have hF2 : FX e P (S_ag x n m ρ) := hF.mk' (S_ag_SP ρ) (fun k i q => S_ag_I ρ (by omega))
    have hF1 : FX e P (S_pop t i σ) := hF.mk' hX1.sp (fun k j q => hX1.at (by omega))
    have hDQ := DQ_ag (e := e) (P := P) hG1 hF1 hT1 x1 x2 hmv.1
    have hs2 := S_ag_SP (x := x) (n := n) (m := m) (S_pop t i σ)
    have hs12 := hs1.tr hs2
    obtain ⟨d1, d2⟩ := hDQ.at ht hD
    have e1 : (S_pop t i σ).1 (sk t) i = nI ms.length := by
      show sn_up σ.1 (sk t) i _ (sk t) i = _
      rw [sn_up_same, hcl]; rfl
    have hlt := cp_le t
    obtain ⟨τ, θ3, c1, c2, c3, c4, c5, c6⟩ := fl_agq (x := x) (n := n) ht hD ms fuel (S_ag x n m ρ) (S_ag x n m (S_pop t i σ)) θ2 (by omega) (by omega) ⟨hX2, hF2, (hK.sp hs12), b2, S_ag_Gv hG1, hT.mk' (fun j => S_ag_I ρ (by decide)) (fun j => S_ag_I ρ (by decide)), by rw [hs12.nlE]; exact he⟩ (by rw [exT.sp hs12]; exact hi) (by rw [hs12.exE]; exact hx) (by rw [hs12.otE]; exact hno) (by rw [d1, e1]) (fun m' h' => by rw [MV.sp hs12]; exact hm m' (List.mem_cons_of_mem _ h')) (fun j hj => by
      rw [d2 j (by omega)]
      show (if jk t = jk t ∧ cp t * i ≤ cp t * i + j ∧ cp t * i + j < cp t * i + cp t then σ.2 (jk t) (cp t * i + j + 1) else _) = _
      rw [if_pos ⟨rfl, by omega, by omega⟩, Nat.add_assoc]
      exact hw (j + 1) (by simp only [List.length_cons]; omega))
    refine ⟨τ, θ3, ?_, c2, (a3.tr b3).tr c3, hs12.tr c4, c5, fun t' i' ht' hD' hne => ?_⟩
    · have o1 : (nI (m :: ms).length ≤ 0) = False := eq_false (fun q => by
        have := (nI_leI (a := (m :: ms).length) (b := 0) (by simp only [List.length_cons]; omega) (by omega)).mp q
        simp at this)
      have hkq : kk (qA t i) = 6 := by
        obtain ⟨hd, hR⟩ := hH.1 t ht i hi
        exact (QH_of hK ht hi hR hn' hc).1
      rw [← c1, ← b1]
      simp only [f_Tr_giveAgain_5, o1, if_false, x_nn, hkq, if_true, x_cJ a1]
      rfl
    · obtain ⟨p1, p2⟩ := c6 t' i' ht' hD' hne
      obtain ⟨r1, r2⟩ := hDQ.at ht' hD'
      obtain ⟨s1, s2⟩ := pop_other (σ := σ) ht ht' hne
      exact ⟨p1.trans (r1.trans s1), fun j hj => (p2 j hj).trans ((r2 j hj).trans (s2 j hj))⟩
theorem fl_giveAgain {kk : Nat → Nat} {e : Nat} {P : Nat → Prop} {t i x n : Nat} (ht : t < 3) (hD : inD e P t i) (ms : List Msg) (ρ σ η : sn_FS) (hc : ms.length ≤ cp t) (hA : AG kk e P ρ σ η) (hi : exT σ t i) (hx : ex σ e = x) (hno : ot σ e = n) (hn : σ.1 (sk t) i = nI ms.length) (hm : ∀ m ∈ ms, MV σ m) (hw : ∀ j (h : j < ms.length), σ.2 (jk t) (cp t * i + j) = wR ms[j]) : ∃ τ θ, f_Tr_giveAgain 11 (some (aE e)) (some (qA t i)) (Kap kk σ η) = some (none, Kap kk τ θ) ∧ AG kk e P (S_ags x n ms ρ) τ θ ∧ PE η θ ∧ SP σ τ ∧ τ.1 (sk t) i = 0 ∧ ∀ t' i', t' < 3 → inD e P t' i' → ¬ (t' = t ∧ i' = i) → τ.1 (sk t') i' = σ.1 (sk t') i' ∧ ∀ j, j < cp t' → τ.2 (jk t') (cp t' * i' + j) = σ.2 (jk t') (cp t' * i' + j) := by
  have hlt := cp_le t
  obtain ⟨hd, hR⟩ := hA.2.2.2.1.1 t ht i hi
  have hq := QH_of hA.2.2.1 ht hi hR hn hc
  obtain ⟨τ, θ, a1, a2⟩ := fl_agq ht hD ms sn_fuel ρ σ η (by unfold sn_fuel; omega) hc hA hi hx hno hn hm hw
  refine ⟨τ, θ, ?_, a2⟩
  rw [← a1]
  simp only [f_Tr_giveAgain, x_gI, hq.1, if_true, hq.2.2.2.2.2.2.2.2.2.2.1]
