/-! LAYER 2: steps for messages -/
theorem LkA_look2 {σ τ : sn_FS} (h : LkA σ) (hT : ToldOk σ) (hs : SP σ τ) {x : Nat} (hx : x < 6) (h1 : ∀ k y i, k = 50 ∨ k = 51 → y < 6 → y ≠ x → i < 6 → τ.1 k (6 * y + i) = σ.1 k (6 * y + i)) (h48 : ∀ k y i, k = 48 ∨ k = 49 → y < 6 → y ≠ x → i < 36 → τ.1 k (36 * y + i) = σ.1 k (36 * y + i)) (ho : ∀ y n, y < 6 → y ≠ x → n < 6 → opb τ y n 0 = opb σ y n 0) : LkA (S_look x τ) := by
  intro y hy
  by_cases c : y = x
  · subst c; exact LkD_look
  · refine LkD_look' ?_ hy hx c
    intro d n hd hn c1 c2 c3 c4 c5
    have hway : way τ y d 0 none = way σ y d 0 none := by
      have key : ∀ k, k = 50 ∨ k = 51 → way1 τ k y d 0 none = way1 σ k y d 0 none := by
        intro k hk
        have e1 : tld τ k y d = tld σ k y d := by unfold tld; rw [h1 k y d hk hy c hd]
        unfold way1
        rw [e1]
        cases ht : tld σ k y d with
        | none => rfl
        | some n =>
          have hn := (tld_lt hT hk hy hd ht).1
          have e2 : okw τ y d 0 n = okw σ y d 0 n := by
            have := h48 48 y (6 * n + d) (Or.inl rfl) hy c (by omega)
            unfold okw
            rw [hs.nbE, ho y n hy c hn, Nat.add_assoc, this]
          simp only [Option.bind_some, e2]
      unfold way
      rw [key 50 (Or.inl rfl), key 51 (Or.inr rfl)]
    rw [hway, Nat.add_assoc, h48 49 y (6 * n + d) (Or.inr rfl) hy c (by omega), ← Nat.add_assoc]
    rw [hs.nbE] at c4
    rw [ho y n hy c hn] at c5
    exact h y hy d n hd hn c1 c2 c3 c4 c5
/-- an end falls out -/
theorem S_ff_44 {x n l i : Nat} : ∀ (r : Nat) (σ : sn_FS), (S_ff x n l r σ).1 44 i = σ.1 44 i ∨ (S_ff x n l r σ).1 44 i = 0
  | 0, σ => Or.inl rfl
  | r + 1, σ => by
    rcases S_ff_44 (x := x) (n := n) (l := l) (i := i) r (S_ff1 x n l (4 - (r + 1)) σ) with q | q
    · have h : (S_ff x n l (r + 1) σ).1 44 i = (S_ff1 x n l (4 - (r + 1)) σ).1 44 i := q
      rw [h]
      unfold S_ff1
      split
      · by_cases c : i = fl x n (4 - (r + 1))
        · right; rw [c]; simp only [sn_upE, Nat.reduceEqDiff, reduceIte]
        · left; rw [sI_nk c, sI_nk c, sI_nk c, sI_nk c]
      · exact Or.inl rfl
    · exact Or.inr q
theorem tm_of {k : Nat} (h : k ∈ tmL) : k = 11 ∨ k = 20 ∨ k = 40 ∨ k = 44 ∨ k = 53 ∨ k = 54 := by
  simpa only [tmL, List.mem_cons, List.not_mem_nil, or_false] using h
theorem S_out_ts {σ : sn_FS} {e : Nat} : TS σ (S_out e σ) := by
  refine ⟨S_out_I σ (by decide), fun k i hk => ?_⟩
  by_cases ci : i = e
  · rw [ci]
    rcases tm_of hk with rfl | rfl | rfl | rfl | rfl | rfl
    · exact Or.inr (Or.inr ⟨12, by omega, by omega, by unfold S_out; simp only [sn_upE, Nat.reduceEqDiff, reduceIte]; rfl⟩)
    · exact Or.inr (Or.inl (by unfold S_out; simp only [sn_upE, Nat.reduceEqDiff, reduceIte]))
    · exact Or.inl (S_out_I σ (by decide))
    · exact Or.inl (S_out_I σ (by decide))
    · exact Or.inl (S_out_I σ (by decide))
    · exact Or.inl (S_out_I σ (by decide))
  · left; unfold S_out; rw [sI_nk ci, sI_nk ci, sI_nk ci, sI_nk ci]
theorem takeOut_ts {σ : sn_FS} {e : Nat} : TS σ (S_takeOut e σ) := by
  unfold S_takeOut
  split
  · have h0 : TS σ (S_out e σ) := S_out_ts
    have h1 : TS (S_out e σ) (sI (S_out e σ) 40 e (σ.1 6 0 + 10)) := by
      refine ⟨sI_ne (by decide), fun k i hk => ?_⟩
      by_cases c : k = 40 ∧ i = e
      · obtain ⟨rfl, rfl⟩ := c
        exact Or.inr (Or.inr ⟨10, by omega, by omega, by rw [h0.1]; simp only [sn_upE, Nat.reduceEqDiff, reduceIte]; rfl⟩)
      · left
        by_cases c2 : k = 40
        · exact sI_nk (fun q => c ⟨c2, q⟩)
        · exact sI_ne c2
    refine (h0.tr h1).tr ⟨S_ff_I (by decide) 4 _, fun k i hk => ?_⟩
    by_cases c : k = 44
    · subst c
      rcases S_ff_44 (x := ex σ e) (n := ot σ e) (l := e / 2) (i := i) 4 (sI (S_out e σ) 40 e (σ.1 6 0 + 10)) with q | q
      · exact Or.inl q
      · exact Or.inr (Or.inl q)
    · left; have := tm_of hk; exact S_ff_I (by omega) 4 _
  · exact S_out_ts
theorem S_takeOut_i {σ : sn_FS} {e k i : Nat} (hi : i ≠ e) (hk : k < 41) : (S_takeOut e σ).1 k i = σ.1 k i := by
  have ho : (S_out e σ).1 k i = σ.1 k i := by unfold S_out; rw [sI_nk hi, sI_nk hi, sI_nk hi, sI_nk hi]
  unfold S_takeOut
  split
  · rw [S_ff_I (by omega), sI_nk hi]; exact ho
  · exact ho
theorem takeOut_fr {σ : sn_FS} {e : Nat} (he : e < 2 * nl σ) : FR σ (S_takeOut e σ) := ⟨⟨fun k i hk => S_takeOut_I σ (by omega), fun k i hk hi => S_takeOut_i (by omega) (by have := nr_of hk; omega), fun x n s _ _ _ => S_takeOut_I σ (by decide)⟩, fun i => ⟨S_takeOut_I σ (by decide), S_takeOut_I σ (by decide), by
  rw [S_takeOut_10]
  split
  · exact Or.inr rfl
  · exact Or.inl rfl⟩⟩
theorem takeOut_di {σ : sn_FS} (hw : WI σ) (hD : DI σ) {e : Nat} (h0 : ¬ σ.1 10 e = 0) : DI (S_takeOut e σ) := by
  intro e' he' hne
  by_cases c : σ.1 10 e = 5
  · have hS : S_takeOut e σ = S_ff (ex σ e) (ot σ e) (e / 2) 4 (sI (S_out e σ) 40 e (σ.1 6 0 + 10)) := by unfold S_takeOut; exact if_pos c
    rw [hS] at hne ⊢
    rw [S_ff_I (by decide)] at hne ⊢
    rw [S_ff_I (by decide)]
    by_cases ce : e' = e
    · subst ce
      unfold S_out
      simp only [sn_upE, Nat.reduceEqDiff, reduceIte]
      rw [Int32.add_assoc]; rfl
    · rw [sI_nk ce] at hne ⊢
      rw [sI_nk ce]
      unfold S_out at hne ⊢
      rw [sI_nk ce, sI_nk ce, sI_nk ce, sI_nk ce] at hne ⊢
      rw [sI_nk ce, sI_nk ce, sI_nk ce, sI_nk ce]
      exact hD e' he' hne
  · have hS : S_takeOut e σ = S_out e σ := by unfold S_takeOut; exact if_neg c
    rw [hS] at hne ⊢
    by_cases ce : e' = e
    · subst ce
      rw [S_out_I σ (by decide)] at hne
      exact absurd ((hw.e1 he').2.2.2.2.2.2.1 hne) h0
    · unfold S_out at hne ⊢
      rw [sI_nk ce, sI_nk ce, sI_nk ce, sI_nk ce] at hne ⊢
      rw [sI_nk ce, sI_nk ce, sI_nk ce, sI_nk ce]
      exact hD e' he' hne
theorem QC_fail {σ : sn_FS} {e : Nat} (hw : WI σ) (hcl : ClOk σ) (he : e < 2 * nl σ) (h0 : ¬ σ.1 10 e = 0) (b : Bool) : QC (S_takeOut e σ) (S_fail e b σ) := by
  have hw1 := WI_takeOut hw hcl he h0
  obtain ⟨x1, x2, x3⟩ := hw.1.ex_lt he
  unfold S_fail
  split
  · have h1 := QC_other hw1 x1 x2 (s := 0) (by decide) (S_over e σ)
    exact h1.tr (QC_look (h1.wi hw1) x1)
  · exact QC_look hw1 x1
theorem fail_pack {σ : sn_FS} {e : Nat} (hw : WI σ) (hL : LkA σ) (hD : DI σ) (hcl : ClOk σ) (he : e < 2 * nl σ) (h0 : ¬ σ.1 10 e = 0) (b : Bool) : WI (S_fail e b σ) ∧ LkA (S_fail e b σ) ∧ DI (S_fail e b σ) ∧ ClOk (S_fail e b σ) ∧ TS σ (S_fail e b σ) ∧ FR σ (S_fail e b σ) := by
  have hq := QC_fail hw hcl he h0 b
  have ht := (takeOut_ts (σ := σ) (e := e)).tr hq.ts
  exact ⟨WI_fail hw hcl he h0 b, LkA_fail hw hL he b, hq.di (takeOut_di hw hD h0), hcl.at ht.1, ht, (takeOut_fr he).tr hq.fr⟩
/-- numbers in messages -/
theorem a15 : ∀ v, v < 256 → nI v &&& (15 : Int32) = nI (v % 16) := by decide +kernel
theorem r16 : ∀ v, v < 256 → nI v % (16 : Int32) = nI (v % 16) := by decide +kernel
theorem s4 : ∀ v, v < 256 → nI v >>> ((4 : Int32) &&& 31) = nI (v / 16) := by decide +kernel
theorem d16 : ∀ v, v < 256 → nI v / (16 : Int32) = nI (v / 16) := by decide +kernel
variable {kk : Nat → Nat} {σ η : sn_FS}
theorem fl_isLink (hK : KOk kk σ) (hP : PlanOk σ) {l : Nat} (hl : l < nl σ) : f_Pl_isLink 3 (nI l) (Kap kk σ η) = some (some (.int 1), Kap kk σ η) := by
  obtain ⟨⟨k1, k2, k3, k4, k5, k6, k7, k8, k9, k10, k11, k12, k13, k14, k15, k16, k17, k18, k19, k20, k21, k22⟩, kE, kF, kP, k4s⟩ := id hK
  have hn10 := hP.2.1
  have o1 : (nI l < 0) = False := eq_false (nI_pos (by omega))
  have o2 : (nI (nl σ) ≤ nI l) = False := eq_false (nI_ge (by omega) (by omega))
  simp only [f_Pl_isLink, f_Pl_isLink_17, x_ite, o1, if_false, x_gI, k3, if_true, rd_s3_0, hP.1, o2, r_Z]
  simp
theorem fl_endOf (hK : KOk kk σ) (hP : PlanOk σ) {l sd : Nat} (hl : l < nl σ) (hs : sd < 2) : f_Tr_endOf 11 (nI l) (nI sd) (Kap kk σ η) = some (some (va_rf (some (aE (2 * l + sd)))), Kap kk σ η) := by
  obtain ⟨⟨k1, k2, k3, k4, k5, k6, k7, k8, k9, k10, k11, k12, k13, k14, k15, k16, k17, k18, k19, k20, k21, k22⟩, kE, kF, kP, k4s⟩ := id hK
  have hn10 := hP.2.1
  have e2 : ((2 : Int32) * nI l) + nI sd = nI (2 * l + sd) := by
    have : (2 : Int32) * nI l = nI (2 * l) := pk_mul 2 l
    rw [this, nI_add]
  have o0 : ((1 : Int32) = 0) = False := eq_false (by decide)
  have o1 : (nI sd < 0) = False := by
    rcases (by omega : sd = 0 ∨ sd = 1) with rfl | rfl <;> exact eq_false (by decide)
  have o2 : (nI sd ≤ 1) = True := by
    rcases (by omega : sd = 0 ∨ sd = 1) with rfl | rfl <;> exact eq_true (by decide)
  have o3 : (2 * l + sd < 2 * nl σ) = True := eq_true (by omega)
  have hp : 2 * l + sd < kL 12 := by show _ < 20; omega
  simp only [f_Tr_endOf, f_Tr_endOf_34, x_ite, x_gR, k11, if_true, rr_s11_0, x_nn, k3, x_cI (fl_isLink hK hP hl), o0, o1, o2, if_false, rr_s11_2, e2, x_aR hp (show kL 12 ≤ 1000 by decide), k12, rr_a12, o3, r_R]
