/-! LAYER 2: a link more: the reference -/
def pq (p q x n : Nat) : Bool := decide (p = min x n) && decide (q = max x n)
def LkE (σ τ : sn_FS) (p q : Nat) : Prop := p < q ∧ q < 6 ∧ nl σ < 10 ∧ nl τ = nl σ + 1 ∧ τ.1 4 0 = nI (nl σ + 1) ∧ (∀ l, l ≠ nl σ → τ.1 0 l = σ.1 0 l ∧ τ.1 1 l = σ.1 1 l) ∧ τ.1 0 (nl σ) = nI p ∧ τ.1 1 (nl σ) = nI q ∧ (∀ k i, k ≠ 0 → k ≠ 1 → k ≠ 4 → τ.1 k i = σ.1 k i) ∧ τ.2 = σ.2
section Lk
variable {σ τ : sn_FS} {p q : Nat}
theorem LkE.pl (h : LkE σ τ p q) : p < q ∧ q < 6 ∧ nl σ < 10 ∧ nl τ = nl σ + 1 := ⟨h.1, h.2.1, h.2.2.1, h.2.2.2.1⟩
theorem LkE.at (h : LkE σ τ p q) {k i : Nat} (hk : k ≠ 0 ∧ k ≠ 1 ∧ k ≠ 4) : τ.1 k i = σ.1 k i := h.2.2.2.2.2.2.2.2.1 k i hk.1 hk.2.1 hk.2.2
theorem LkE.lh (h : LkE σ τ p q) {l : Nat} (hl : l ≠ nl σ) : lo τ l = lo σ l ∧ hi τ l = hi σ l := by
  obtain ⟨a, b⟩ := h.2.2.2.2.2.1 l hl
  exact ⟨congrArg _ a, congrArg _ b⟩
theorem LkE.new (h : LkE σ τ p q) : lo τ (nl σ) = p ∧ hi τ (nl σ) = q := by
  obtain ⟨h1, h2, h3, h4, h5, h6, h7, h8, h9, h10⟩ := h
  refine ⟨?_, ?_⟩
  · show (τ.1 0 (nl σ)).toNatClampNeg = p
    rw [h7, nI_clamp (by omega)]
  · show (τ.1 1 (nl σ)).toNatClampNeg = q
    rw [h8, nI_clamp (by omega)]
theorem LkE.isofE (h : LkE σ τ p q) {l : Nat} (hl : l ≠ nl σ) (x n : Nat) : isof τ l x n = isof σ l x n := by
  unfold isof; rw [(h.lh hl).1, (h.lh hl).2]
theorem LkE.isofN (h : LkE σ τ p q) (x n : Nat) : isof τ (nl σ) x n = pq p q x n := by
  unfold isof pq; rw [h.new.1, h.new.2]
theorem LkE.enE (h : LkE σ τ p q) {l : Nat} (hl : l ≠ nl σ) (x : Nat) : en τ l x = en σ l x := by
  unfold en; rw [(h.lh hl).1]
theorem LkE.exE (h : LkE σ τ p q) {e : Nat} (he : e < 2 * nl σ) : ex τ e = ex σ e ∧ ot τ e = ot σ e := by
  have := h.lh (l := e / 2) (by omega)
  unfold ex ot
  rw [this.1, this.2]; exact ⟨rfl, rfl⟩
theorem LkE.set (h : LkE σ τ p q) (x n : Nat) : setOf τ x n = setOf σ x n ++ if pq p q x n then [nl σ] else [] := by
  unfold setOf setFrom
  rw [h.pl.2.2.2, Nat.sub_zero, Nat.sub_zero, List.range'_concat, List.filter_append]
  congr 1
  · refine List.filter_congr (fun l hl => ?_)
    have := List.mem_range'_1.mp hl
    exact h.isofE (by omega) x n
  · simp only [Nat.zero_add, Nat.one_mul, List.filter_cons, h.isofN, List.filter_nil]
theorem pq_ne {x n : Nat} (h : p < q) (hp : pq p q x n = true) : x ≠ n := by
  unfold pq at hp
  simp only [Bool.and_eq_true, decide_eq_true_eq] at hp
  omega
theorem pq_or {x n : Nat} (h : p < q) : pq p q x n = true ↔ (x = p ∧ n = q) ∨ (x = q ∧ n = p) := by
  unfold pq
  simp only [Bool.and_eq_true, decide_eq_true_eq]
  omega
theorem LkE.nbE (h : LkE σ τ p q) (x n : Nat) : nb τ x n = (nb σ x n || pq p q x n) := by
  unfold nb
  rw [h.set]
  cases c : pq p q x n with
  | false => simp
  | true =>
    have := pq_ne h.pl.1 c
    simp [this]
theorem LkE.nb1 (h : LkE σ τ p q) {x n : Nat} (hb : nb σ x n = true) : nb τ x n = true := by rw [h.nbE, hb]; rfl
theorem LkE.nb0 (h : LkE σ τ p q) {x n : Nat} (hb : nb τ x n = false) : nb σ x n = false := by
  rw [h.nbE] at hb
  cases c : nb σ x n with
  | false => rfl
  | true => rw [c] at hb; cases hb
theorem LkE.plan (h : LkE σ τ p q) (hP : PlanOk σ) : PlanOk τ := by
  have h0 := h
  obtain ⟨h1, h2, h3, h4, h5, h6, h7, h8, h9, h10⟩ := h
  refine ⟨by rw [h4]; exact h5, by omega, fun l hl => ?_⟩
  by_cases c : l = nl σ
  · subst c
    rw [h0.new.1, h0.new.2]
    exact ⟨h7, h8, h1, h2⟩
  · rw [(h0.lh c).1, (h0.lh c).2, (h6 l c).1, (h6 l c).2]
    exact hP.2.2 l (by omega)
theorem LkE.mv (h : LkE σ τ p q) {m : Msg} (hm : MV σ m) : MV τ m := by
  obtain ⟨m1, m2, m3, m4, m5, m6, m7⟩ := hm
  refine ⟨m1, m2, m3, m4, h.nb1 m5, fun z => ?_, m7⟩
  obtain ⟨a, b, c⟩ := m6 z
  exact ⟨by rw [h.pl.2.2.2]; omega, by rw [h.isofE (by omega)]; exact b, c⟩
/-- flows between those that are no neighbours -/
theorem F1.no {x n s : Nat} (hP : PlanOk σ) (h : F1 σ x n s) (hb : nb σ x n = false) : σ.1 41 (fl x n s) = -1 ∧ σ.1 42 (fl x n s) = 0 ∧ σ.1 47 (fl x n s) = 0 ∧ σ.1 43 (fl x n s) = -1 ∧ σ.1 44 (fl x n s) = 0 := by
  obtain ⟨a, b⟩ := h
  have h41 : σ.1 41 (fl x n s) = -1 := by
    rcases a with q | ⟨l, l1, l2, -⟩
    · exact q
    · rw [nb_of hP l1 l2] at hb; cases hb
  rcases b with ⟨b1, b2, b3, b4⟩ | ⟨b1, b2, b3, l, l1, l2, -⟩ | ⟨b1, b2, b3⟩
  · exact ⟨h41, b1, b2, b3, b4⟩
  · rw [nb_of hP l1 l2] at hb; cases hb
  · exact absurd h41 b2
theorem LkE.opbE (h : LkE σ τ p q) (x n s : Nat) : opb τ x n s = opb σ x n s := by
  unfold opb
  rw [h.at (by decide), h.at (by decide)]
theorem LkE.okwE (h : LkE σ τ p q) (hW : WI σ) {x d n : Nat} (hx : x < 6) (hn : n < 6) : okw τ x d 0 n = okw σ x d 0 n := by
  unfold okw
  rw [h.opbE, h.at (k := 48) (by decide), h.nbE]
  cases c : nb σ x n with
  | true => simp
  | false =>
    obtain ⟨a1, a2, -⟩ := (hW.f1 hx hn (show 0 < 4 by decide)).no hW.1 c
    have : opb σ x n 0 = false := by unfold opb; rw [a1, a2]; rfl
    rw [this]; simp
theorem LkE.wayE (h : LkE σ τ p q) (hW : WI σ) {x d : Nat} (hx : x < 6) (hd : d < 6) : way τ x d 0 none = way σ x d 0 none := by
  have ht : ∀ k, k = 50 ∨ k = 51 → way1 τ k x d 0 none = way1 σ k x d 0 none := fun k hk => by
    unfold way1 tld
    rw [h.at (by omega)]
    have hT := hW.told (6 * x + d) (by omega)
    by_cases c : σ.1 k (6 * x + d) = -1
    · rw [if_pos c]; rfl
    · rw [if_neg c]
      have : ∃ n, n < 6 ∧ σ.1 k (6 * x + d) = nI n := by
        rcases hk with rfl | rfl
        · rcases hT.1 with q | q
          · exact absurd q c
          · exact q
        · rcases hT.2 with q | q
          · exact absurd q c
          · exact q
      obtain ⟨n, hn, e⟩ := this
      rw [e, nI_clamp (by omega)]
      simp only [Option.bind_some, h.okwE hW hx hn]
  unfold way
  rw [ht 50 (Or.inl rfl), ht 51 (Or.inr rfl)]
/-- what is the class's own: nothing where nothing is -/
def hz (kk : Nat → Nat) (η : sn_FS) : sn_FS := (fun a j => if kk a = 0 then 0 else η.1 a j, fun a j => if kk a = 0 then 0 else η.2 a j)
theorem hz_1 {kk : Nat → Nat} {η : sn_FS} {a : Nat} (h : kk a ≠ 0) (j : Nat) : (hz kk η).1 a j = η.1 a j := if_neg h
theorem hz_2 {kk : Nat → Nat} {η : sn_FS} {a : Nat} (h : kk a ≠ 0) (j : Nat) : (hz kk η).2 a j = η.2 a j := if_neg h
theorem hz_0 {kk : Nat → Nat} {η : sn_FS} {a : Nat} (h : kk a = 0) (j : Nat) : (hz kk η).1 a j = 0 := if_pos h
theorem hz_00 {kk : Nat → Nat} {η : sn_FS} {a : Nat} (h : kk a = 0) (j : Nat) : (hz kk η).2 a j = 0 := if_pos h
theorem live_q {t i : Nat} (ht : t < 3) (h : exT σ t i) : kd0 σ (qA t i) ≠ 0 ∧ kd0 σ (rA t i) ≠ 0 := by
  unfold exT at h
  match t, ht with
  | 0, _ => exact ⟨kd0_E (t := 33) h (by decide) (by decide), kd0_E (t := 34) h (by decide) (by decide)⟩
  | 1, _ => exact ⟨kd0_E (t := 35) h (by decide) (by decide), kd0_E (t := 36) h (by decide) (by decide)⟩
  | 2, _ => exact ⟨kd0_F (t := 41) (nbf_t h) (by decide) (by decide), kd0_F (t := 42) (nbf_t h) (by decide) (by decide)⟩
theorem dead_q {t i : Nat} (ht : t < 3) (h : ¬ exT σ t i) : kd0 σ (qA t i) = 0 := by
  unfold exT at h
  match t, ht with
  | 0, _ =>
    have h : ¬ i < 2 * nl σ := h
    show kdL _ _ _ (64 * i + (64 + 33)) = 0
    rw [kdL_O _ _ _ _ _ (by decide), if_pos (by omega), if_neg h]
  | 1, _ =>
    have h : ¬ i < 2 * nl σ := h
    show kdL _ _ _ (64 * i + (64 + 35)) = 0
    rw [kdL_O _ _ _ _ _ (by decide), if_pos (by omega), if_neg h]
  | 2, _ =>
    have h : ¬ (i < 144 ∧ nb σ (i / 24) (i % 24 / 4) = true) := h
    show kdL _ _ _ (64 * i + (64 + 41)) = 0
    rw [kdL_O _ _ _ _ _ (by decide), if_neg (by omega), if_pos (by omega), if_neg (fun z => h (t_nbf z))]
theorem LkE.exTE (h : LkE σ τ p q) {t i : Nat} (hx : exT σ t i) : exT τ t i := by
  unfold exT at hx ⊢
  have := h.pl.2.2.2
  split
  · rename_i c; rw [if_pos c] at hx; exact ⟨hx.1, h.nb1 hx.2⟩
  · rename_i c; rw [if_neg c] at hx; omega
/-- ends that are not there yet -/
theorem GA.fre {η : sn_FS} (hA : GA σ η) {e : Nat} (h1 : 2 * nl σ ≤ e) (h2 : e < 20) : (∀ k, k ∈ nrL → σ.1 k e = frv k) ∧ σ.1 20 e = 0 ∧ σ.1 21 e = -1 ∧ σ.1 27 e = 0 ∧ σ.1 29 e = 0 := by
  have hf := fun k hk => hA.2.1.1 k e hk h1 h2
  have h10 : σ.1 10 e = 0 := hf 10 (by decide)
  have h40 : σ.1 40 e = 0 := hf 40 (by decide)
  have hE := (hA.1.1.2.1.e1 h2).2.2.2.2.2.1 (by rw [h10]; decide)
  exact ⟨hf, hE.2.1, hE.1, (hE.2.2 h40).1, (hE.2.2 h40).2⟩
theorem LkE.ga {η : sn_FS} (h : LkE σ τ p q) (hA : GA σ η) : GA τ (hz (kd0 σ) η) := by
  have hA0 := hA
  obtain ⟨⟨⟨⟨hQ, hU, hP⟩, hW, hL, hD, hC⟩, hR, ⟨hJ, hc1, hp1⟩, hPQ⟩, ⟨hf1, hf2, hf3⟩, ⟨ht1, ht2⟩, h56⟩ := hA
  have hN := h.pl
  have hPl := hW.1
  refine ⟨⟨⟨⟨fun t ht i hi => ?_, fun e he => ?_, fun e he h3 => ?_⟩, ?_, ?_, ?_, ?_⟩, ?_, ⟨?_, fun c hc => ?_, fun p hp => ?_⟩, ?_⟩, ⟨fun k e hk h1 h2 => ?_, fun x n s hx hn hs hb => ?_, fun l hl => ?_⟩, ⟨fun i hi => ?_, fun f hf => ?_⟩, ?_⟩
  · by_cases c : exT σ t i
    · obtain ⟨hd, r1, r2, r3, r4⟩ := hQ t ht i c
      obtain ⟨l1, l2⟩ := live_q ht c
      have hcl : cl τ (sk t) i = cl σ (sk t) i := congrArg _ (h.at (by unfold sk; split; decide; split <;> decide))
      refine ⟨hd, r1, by rw [hcl]; exact r2, by rw [hz_1 l1]; exact r3, fun j hj => ?_⟩
      rw [hcl] at hj
      obtain ⟨m, m1, m2, m3⟩ := r4 j hj
      exact ⟨m, h.mv m1, by rw [h.2.2.2.2.2.2.2.2.2]; exact m2, by rw [hz_2 l2]; exact m3⟩
    · have h0 : cl τ (sk t) i = 0 := by
        show (τ.1 (sk t) i).toNatClampNeg = 0
        rw [h.at (by unfold sk; split; decide; split <;> decide)]
        unfold exT at c hi
        match t, ht with
        | 0, _ =>
          have c : ¬ i < 2 * nl σ := c
          have hi : i < 2 * nl τ := hi
          show (σ.1 27 i).toNatClampNeg = 0
          rw [(hA0.fre (e := i) (by omega) (by omega)).2.2.2.1]; rfl
        | 1, _ =>
          have c : ¬ i < 2 * nl σ := c
          have hi : i < 2 * nl τ := hi
          show (σ.1 29 i).toNatClampNeg = 0
          rw [(hA0.fre (e := i) (by omega) (by omega)).2.2.2.2]; rfl
        | 2, _ =>
          have c : ¬ (i < 144 ∧ nb σ (i / 24) (i % 24 / 4) = true) := c
          have hi : i < 144 ∧ nb τ (i / 24) (i % 24 / 4) = true := hi
          show (σ.1 47 i).toNatClampNeg = 0
          obtain ⟨x, n, s, hx, hn, hs, rfl⟩ := fl_split hi.1
          have e1 : fl x n s / 24 = x := by unfold fl; omega
          have e2 : fl x n s % 24 / 4 = n := by unfold fl; omega
          rw [e1, e2] at c
          have hb : nb σ x n = false := by
            cases z : nb σ x n with
            | false => rfl
            | true => exact absurd ⟨hi.1, z⟩ c
          rw [((hW.f1 hx hn hs).no hPl hb).2.2.1]; rfl
      refine ⟨0, by unfold cp; split <;> decide, by rw [h0]; exact Nat.zero_le _, hz_0 (dead_q ht c) 1, fun j hj => by rw [h0] at hj; omega⟩
  · by_cases c : e < 2 * nl σ
    · obtain ⟨a, b⟩ := hU e c
      have l1 : kd0 σ (aU e) ≠ 0 := kd0_E (t := 31) c (by decide) (by decide)
      rw [h.at (k := 30) (by decide), h.at (k := 31) (by decide), h.at (k := 32) (by decide), h.at (k := 33) (by decide), h.at (k := 34) (by decide), hz_1 l1, hz_1 l1, hz_1 l1, hz_1 l1, hz_2 l1, h.2.2.2.2.2.2.2.2.2]
      refine ⟨a, fun z => ?_⟩
      obtain ⟨m, m1, m2⟩ := b z
      exact ⟨m, h.mv m1, m2⟩
    · have h30 : τ.1 30 e = 0 := by rw [h.at (by decide)]; exact (hA0.fre (e := e) (by omega) (by omega)).1 30 (by decide)
      rw [h30]
      exact ⟨fun z => absurd z (by decide), fun z => absurd z (by decide)⟩
  · by_cases c : e < 2 * nl σ
    · have l1 : kd0 σ (aE e) ≠ 0 := kd0_E (t := 30) c (by decide) (by decide)
      rw [hz_1 l1, h.at (k := 24) (by decide)]
      exact hP e c (by rw [← h.at (k := 10) (by decide)]; exact h3)
    · have h10 : τ.1 10 e = 0 := by rw [h.at (by decide)]; exact (hA0.fre (e := e) (by omega) (by omega)).1 10 (by decide)
      rw [h10] at h3
      exact absurd h3 (by decide)
  · obtain ⟨w1, w2, w3, w4, w5, w6, w7⟩ := hW
    refine ⟨h.plan w1, fun e he => by rw [h.at (by decide)]; exact w2 e he, fun f hf => by rw [h.at (by decide)]; exact w3 f hf, fun i hi => by rw [h.at (k := 50) (by decide), h.at (k := 51) (by decide)]; exact w4 i hi, fun f hf => by rw [h.at (by decide)]; exact w5 f hf, fun e he => ?_, fun x n s hx hn hs => ?_⟩
    · have := w6 e he
      unfold E1 cl at this ⊢
      simp only [h.at (k := 10) (by decide), h.at (k := 12) (by decide), h.at (k := 13) (by decide), h.at (k := 37) (by decide), h.at (k := 27) (by decide), h.at (k := 21) (by decide), h.at (k := 26) (by decide), h.at (k := 20) (by decide), h.at (k := 40) (by decide), h.at (k := 29) (by decide), h.at (k := 16) (by decide), h.at (k := 17) (by decide), h.at (k := 22) (by decide), h.at (k := 30) (by decide), h.at (k := 31) (by decide), h.at (k := 33) (by decide), h.at (k := 24) (by decide)]
      exact this
    · obtain ⟨a, b⟩ := w7 x n s hx hn hs
      unfold F1
      simp only [h.at (k := 41) (by decide), h.at (k := 42) (by decide), h.at (k := 43) (by decide), h.at (k := 44) (by decide), h.at (k := 47) (by decide), h.at (k := 10) (by decide)]
      refine ⟨?_, ?_⟩
      · rcases a with q | ⟨l, l1, l2, l3, l4⟩
        · exact Or.inl q
        · exact Or.inr ⟨l, by omega, by rw [h.isofE (by omega)]; exact l2, l3, by rw [h.enE (by omega)]; exact l4⟩
      · rcases b with q | ⟨b1, b2, b3, l, l1, l2, l3⟩ | q
        · exact Or.inl q
        · exact Or.inr (Or.inl ⟨b1, b2, b3, l, by omega, by rw [h.isofE (by omega)]; exact l2, l3⟩)
        · exact Or.inr (Or.inr q)
  · intro x hx d n hd hn q1 q2 q3 hb ho
    rw [h.opbE] at ho
    rw [h.at (by decide), h.wayE hW hx hd]
    refine hL x hx d n hd hn q1 q2 q3 ?_ ho
    cases c : nb σ x n with
    | true => rfl
    | false =>
      obtain ⟨a1, a2, -⟩ := (hW.f1 hx hn (show 0 < 4 by decide)).no hPl c
      unfold opb at ho
      rw [a1, a2] at ho
      exact absurd ho (by decide)
  · intro e he hne
    rw [h.at (k := 40) (by decide)] at hne ⊢
    rw [h.at (k := 11) (by decide)]
    exact hD e he hne
  · unfold ClOk
    rw [h.at (by decide)]; exact hC
  · intro e he
    unfold Rr1
    rw [h.at (k := 10) (by decide), h.at (k := 16) (by decide), h.at (k := 17) (by decide)]
    exact hR e he
  · intro g hg
    have hlg : ∀ g, lgv τ g = lgv σ g := fun g => by unfold lgv; rw [h.at (k := 57) (by decide), h.at (k := 62) (by decide)]
    rw [hlg]
    have old : VL σ g ∨ lgv σ g = -1 := by
      rcases hg with q | ⟨q1, q2, q3⟩
      · exact Or.inl (Or.inl q)
      · cases c : nb σ ((g - 100) / 24) ((g - 100) % 24 / 4) with
        | true => exact Or.inl (Or.inr ⟨q1, q2, c⟩)
        | false =>
          refine Or.inr ?_
          unfold lgv
          rw [if_pos q1]
          exact ((hc1 (g - 100) (by omega)).2.2.2.2.2.2.2.2.2.2 c).2.2.2.2.2.1
    rcases old with q | q
    · rcases hJ g q with z | ⟨o, o1, o2⟩
      · exact Or.inl z
      · refine Or.inr ⟨o, ?_, by rw [hlg]; exact o2⟩
        rcases o1 with z | ⟨z1, z2, z3⟩
        · exact Or.inl z
        · exact Or.inr ⟨z1, z2, h.nb1 z3⟩
    · exact Or.inl q
  · have := hc1 c hc
    unfold C1 at this ⊢
    simp only [h.at (k := 52) (by decide), h.at (k := 53) (by decide), h.at (k := 54) (by decide), h.at (k := 55) (by decide), h.at (k := 56) (by decide), h.at (k := 57) (by decide), h.at (k := 58) (by decide), h.at (k := 59) (by decide), h.at (k := 60) (by decide)]
    obtain ⟨a1, a2, a3, a4, a5, a6, a7, a8, a9, a10, a11⟩ := this
    exact ⟨a1, a2, a3, a4, a5, a6, a7, a8, a9, a10, fun z => a11 (h.nb0 z)⟩
  · have := hp1 p hp
    unfold P1 at this ⊢
    rw [h.at (k := 61) (by decide), h.at (k := 62) (by decide)]
    exact this
  · obtain ⟨hd, p1, p2, p3, p4, p5⟩ := hPQ
    have l20 : kd0 σ 20 ≠ 0 := kd0_S (by decide) (by decide)
    exact ⟨hd, p1, p2, by rw [hz_1 l20]; exact p3, by rw [hz_1 l20]; exact p4, fun j hj => by simp at hj⟩
  · rw [h.at (by have := nr_of hk; omega)]
    exact hf1 k e hk (by omega) h2
  · rw [h.at (by decide)]
    exact hf2 x n s hx hn hs (h.nb0 hb)
  · rw [h.at (k := 2) (by decide), h.at (k := 3) (by decide)]
    obtain ⟨a, b, c⟩ := hf3 l hl
    exact ⟨a, b, fun z => c (by omega)⟩
  · have := ht1 i hi
    unfold Tm cl at this ⊢
    rw [h.at (k := 11) (by decide), h.at (k := 20) (by decide), h.at (k := 40) (by decide), h.at (k := 6) (by decide)]
    exact this
  · have := ht2 f hf
    unfold Tm cl at this ⊢
    rw [h.at (k := 44) (by decide), h.at (k := 53) (by decide), h.at (k := 54) (by decide), h.at (k := 6) (by decide)]
    exact this
  · rw [h.at (k := 5) (by decide), h.at (k := 6) (by decide)]
    exact h56
theorem LkE.t49 (h : LkE σ τ p q) (hT : T49 σ) : T49 τ := fun i hi => by rw [h.at (by decide)]; exact hT i hi
theorem LkE.s4 (h : LkE σ τ p q) (h4 : S4 σ) (hl : ¬ (setOf σ p q).length = 4) : S4 τ := fun x n => by
  rw [h.set]
  cases c : pq p q x n with
  | false => simp; exact h4 x n
  | true =>
    have : (setOf σ x n).length = (setOf σ p q).length := by
      rcases (pq_or h.pl.1).mp c with ⟨rfl, rfl⟩ | ⟨rfl, rfl⟩
      · rfl
      · rw [setOf_sy]
    have := h4 p q
    simp; omega
end Lk
