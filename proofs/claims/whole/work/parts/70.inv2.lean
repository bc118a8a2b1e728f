/-! LAYER 2: all have looked -/
theorem way_loc {σ τ : sn_FS} (hT : ToldOk σ) (hs : SP σ τ) {x d s : Nat} (hx : x < 6) (hd : d < 6) (h1 : ∀ k i, k = 48 ∨ k = 50 ∨ k = 51 → τ.1 k i = σ.1 k i) (ho : ∀ n, n < 6 → opb τ x n s = opb σ x n s) (but : Option Nat) : way τ x d s but = way σ x d s but := by
  have key : ∀ k, k = 50 ∨ k = 51 → way1 τ k x d s but = way1 σ k x d s but := by
    intro k hk
    have e1 : tld τ k x d = tld σ k x d := by unfold tld; rw [h1 k _ (by omega)]
    unfold way1
    rw [e1]
    cases ht : tld σ k x d with
    | none => rfl
    | some n =>
      have hn := (tld_lt hT hk hx hd ht).1
      have e2 : okw τ x d s n = okw σ x d s n := by unfold okw; rw [hs.nbE, ho n hn, h1 48 _ (by decide)]
      simp only [Option.bind_some, e2]
  unfold way
  rw [key 50 (Or.inl rfl), key 51 (Or.inr rfl)]
theorem LkD.loc {σ τ : sn_FS} {x : Nat} (h : LkD σ x) (hT : ToldOk σ) (hs : SP σ τ) (hx : x < 6) (h1 : ∀ k i, k = 48 ∨ k = 50 ∨ k = 51 → τ.1 k i = σ.1 k i) (h49 : ∀ i, i < 36 → τ.1 49 (36 * x + i) = σ.1 49 (36 * x + i)) (ho : ∀ n, n < 6 → opb τ x n 0 = opb σ x n 0) : LkD τ x := by
  intro d n hd hn c1 c2 c3 c4 c5
  rw [way_loc hT hs hx hd h1 ho none, Nat.add_assoc, h49 (6 * n + d) (by omega), ← Nat.add_assoc]
  rw [hs.nbE] at c4
  rw [ho n hn] at c5
  exact h d n hd hn c1 c2 c3 c4 c5
def LkA (σ : sn_FS) : Prop := ∀ x, x < 6 → LkD σ x
theorem LkA.mk' {σ τ : sn_FS} (h : LkA σ) (hs : SP σ τ) (h1 : ∀ k i, k = 41 ∨ k = 42 ∨ k = 48 ∨ k = 49 ∨ k = 50 ∨ k = 51 → τ.1 k i = σ.1 k i) : LkA τ := fun x hx => (h x hx).mk' hs h1
theorem LkA.mI {σ : sn_FS} (h : LkA σ) {k i : Nat} {v : Int32} (hk : k ∉ [0, 1, 4, 41, 42, 48, 49, 50, 51]) : LkA (sI σ k i v) := by
  simp only [List.mem_cons, List.not_mem_nil, or_false, not_or] at hk
  exact h.mk' (SP.sI (by omega)) (fun k' i' q => sI_ne (by omega))
theorem LkA_look {σ τ : sn_FS} (h : LkA σ) (hT : ToldOk σ) (hs : SP σ τ) {x : Nat} (hx : x < 6) (h1 : ∀ k i, k = 48 ∨ k = 50 ∨ k = 51 → τ.1 k i = σ.1 k i) (h49 : ∀ y i, y < 6 → y ≠ x → i < 36 → τ.1 49 (36 * y + i) = σ.1 49 (36 * y + i)) (ho : ∀ y n, y < 6 → y ≠ x → n < 6 → opb τ y n 0 = opb σ y n 0) : LkA (S_look x τ) := by
  intro y hy
  by_cases c : y = x
  · subst c; exact LkD_look
  · exact LkD_look' ((h y hy).loc hT hs hy h1 (fun i hi => h49 y i hy c hi) (fun n hn => ho y n hy c hn)) hy hx c
theorem S_takeOut_fl {σ : sn_FS} {e y n s k : Nat} (hP : PlanOk σ) (he : e < 2 * nl σ) (hy : y ≠ ex σ e) (hn : n < 6) (hs : s < 4) (hk : k = 41 ∨ k = 42) : (S_takeOut e σ).1 k (fl y n s) = σ.1 k (fl y n s) := by
  obtain ⟨x1, x2, x3⟩ := hP.ex_lt he
  unfold S_takeOut
  split
  · rw [S_ff_out 4 _ (fun s' h1 _ => by unfold fl; omega) (by omega), sI_ne (by omega), S_out_I σ (by omega)]
  · exact S_out_I σ (by omega)
theorem LkA_fail {σ : sn_FS} (hw : WI σ) (h : LkA σ) {e : Nat} (he : e < 2 * nl σ) (b : Bool) : LkA (S_fail e b σ) := by
  obtain ⟨x1, x2, x3⟩ := hw.1.ex_lt he
  unfold S_fail
  have key : ∀ τ, (∀ k i, k ≠ 7 → k ≠ 29 → k ≠ 47 → τ.1 k i = (S_takeOut e σ).1 k i) → LkA (S_look (ex σ e) τ) := by
    intro τ hτ
    have hs : SP σ τ := (S_takeOut_SP σ).tr ⟨fun i => hτ _ _ (by decide) (by decide) (by decide), fun i => hτ _ _ (by decide) (by decide) (by decide), fun i => hτ _ _ (by decide) (by decide) (by decide)⟩
    refine LkA_look h hw.told hs x1 (fun k i hk => ?_) (fun y i _ _ _ => ?_) (fun y n hy hne hn => ?_)
    · rw [hτ _ _ (by omega) (by omega) (by omega), S_takeOut_I σ (by omega)]
    · rw [hτ _ _ (by decide) (by decide) (by decide), S_takeOut_I σ (by decide)]
    · unfold opb
      rw [hτ _ _ (by decide) (by decide) (by decide), hτ _ _ (by decide) (by decide) (by decide), S_takeOut_fl hw.1 he hne hn (by decide) (Or.inl rfl), S_takeOut_fl hw.1 he hne hn (by decide) (Or.inr rfl)]
  split
  · exact key _ (fun k i q1 q2 q3 => S_other_I _ ⟨q1, q2, q3⟩)
  · exact key _ (fun k i _ _ _ => rfl)
theorem S_up1_out {σ : sn_FS} {x n s k f : Nat} (hk : k = 41 ∨ k = 42) (h : f ≠ fl x n s) : (S_up1 x n s σ).1 k f = σ.1 k f := by
  unfold S_up1
  split
  · split
    · exact sI_nk h
    · split
      · rfl
      · rw [sI_nk h, sI_nk h, S_give_I _ (by omega), sI_nk h]
  · rfl
theorem S_upF_out {x n k f : Nat} (hk : k = 41 ∨ k = 42) : ∀ (r : Nat) (σ : sn_FS), (∀ s, s < 4 → f ≠ fl x n s) → r ≤ 4 → (S_upF x n r σ).1 k f = σ.1 k f
  | 0, σ, _, _ => rfl
  | r + 1, σ, h, hr => (S_upF_out hk r _ h (by omega)).trans (S_up1_out hk (h _ (by omega)))
theorem S_upT_49 {x n i : Nat} : ∀ (r : Nat) (σ : sn_FS), r ≤ 6 → (∀ d, d < 6 → i ≠ 36 * x + 6 * n + d) → (S_upT x n r σ).1 49 i = σ.1 49 i
  | 0, σ, _, _ => rfl
  | r + 1, σ, hr, h => (S_upT_49 r _ (by omega) h).trans (sI_nk (h _ (by omega)))
theorem LkA_up {σ : sn_FS} (hw : WI σ) (h : LkA σ) {e : Nat} (he : e < 2 * nl σ) : LkA (S_up e σ) := by
  obtain ⟨x1, x2, x3⟩ := hw.1.ex_lt he
  unfold S_up
  have key : ∀ τ, (∀ k i, k ≠ 49 → τ.1 k i = (S_upF (ex σ e) (ot σ e) 4 σ).1 k i) → (∀ y i, y < 6 → y ≠ ex σ e → i < 36 → τ.1 49 (36 * y + i) = (S_upF (ex σ e) (ot σ e) 4 σ).1 49 (36 * y + i)) → LkA (S_look (ex σ e) τ) := by
    intro τ hτ hτ2
    have hs : SP σ τ := ⟨fun i => by rw [hτ _ _ (by decide), S_upF_I (by decide)], fun i => by rw [hτ _ _ (by decide), S_upF_I (by decide)], fun i => by rw [hτ _ _ (by decide), S_upF_I (by decide)]⟩
    refine LkA_look h hw.told hs x1 (fun k i hk => ?_) (fun y i hy hne hi => ?_) (fun y n hy hne hn => ?_)
    · rw [hτ _ _ (by omega), S_upF_I (by omega)]
    · rw [hτ2 y i hy hne hi, S_upF_I (by decide)]
    · unfold opb
      rw [hτ _ _ (by decide), hτ _ _ (by decide), S_upF_out (Or.inl rfl) 4 σ (fun s hs => by unfold fl; omega) (by omega), S_upF_out (Or.inr rfl) 4 σ (fun s hs => by unfold fl; omega) (by omega)]
  split
  · exact key _ (fun k i _ => rfl) (fun y i _ _ _ => rfl)
  · exact key _ (fun k i hk => S_upT_I hk 6 _) (fun y i hy hne hi => S_upT_49 6 _ (by omega) (fun d hd => by omega))
theorem LkA_start {σ : sn_FS} (h : LkA σ) {e : Nat} : LkA (S_start e σ) := (((h.mI (k := 10) (by decide)).mI (k := 11) (by decide)).mI (k := 37) (by decide)).mI (k := 23) (by decide)
