/-! LAYER 2: what always holds of ends and flows -/
def E1 (σ : sn_FS) (e : Nat) : Prop :=
  (∃ s, s ≤ 5 ∧ σ.1 10 e = nI s) ∧ (∃ v, v < 128 ∧ σ.1 12 e = nI v) ∧ (∃ v, v < 128 ∧ σ.1 13 e = nI v) ∧ (∃ v, v < 16 ∧ σ.1 37 e = nI v) ∧
  (∃ o, o ≤ 32 ∧ σ.1 27 e = nI o ∧ (σ.1 21 e = -1 ∨ ∃ r, r < o ∧ σ.1 21 e = nI r) ∧ ∀ i, i < o → σ.1 26 (32 * e + i) = nI ((cl σ 12 e + 129 - o + i) % 128)) ∧
  (¬ σ.1 10 e = 5 → σ.1 21 e = -1 ∧ σ.1 20 e = 0 ∧ (σ.1 40 e = 0 → σ.1 27 e = 0 ∧ σ.1 29 e = 0)) ∧
  (¬ σ.1 40 e = 0 → σ.1 10 e = 0) ∧
  ((4 : Int32) ≤ σ.1 10 e → ∃ c, c ≤ 6 ∧ σ.1 16 e = nI c) ∧ (σ.1 10 e = 3 → ∃ r, r ≤ 5 ∧ σ.1 17 e = nI r) ∧
  (∃ v, v < 1000 ∧ σ.1 22 e = nI v) ∧ (∃ u, u ≤ 5 ∧ σ.1 30 e = nI u) ∧ (∃ v, v < 128 ∧ σ.1 31 e = nI v) ∧ (∃ v, v < 128 ∧ σ.1 33 e = nI v) ∧ (σ.1 24 e = 0 ∨ σ.1 24 e = 1)
def F1 (σ : sn_FS) (x n s : Nat) : Prop :=
  (σ.1 41 (fl x n s) = -1 ∨ ∃ l, l < nl σ ∧ isof σ l x n = true ∧ σ.1 41 (fl x n s) = nI l ∧ σ.1 10 (en σ l x) = 5) ∧
  (σ.1 42 (fl x n s) = 0 ∧ σ.1 47 (fl x n s) = 0 ∧ σ.1 43 (fl x n s) = -1 ∧ σ.1 44 (fl x n s) = 0 ∨
   σ.1 42 (fl x n s) = 1 ∧ σ.1 41 (fl x n s) = -1 ∧ σ.1 44 (fl x n s) = 0 ∧ (∃ l, l < nl σ ∧ isof σ l x n = true ∧ σ.1 43 (fl x n s) = nI l) ∨
   σ.1 42 (fl x n s) = 2 ∧ ¬ σ.1 41 (fl x n s) = -1 ∧ σ.1 43 (fl x n s) = -1)
def WI (σ : sn_FS) : Prop := PlanOk σ ∧ (∀ e, e < 20 → ∃ w, w ≤ 64 ∧ σ.1 29 e = nI w) ∧ (∀ f, f < 144 → ∃ w, w ≤ 64 ∧ σ.1 47 f = nI w) ∧ ToldOk σ ∧ BegOk σ ∧ (∀ e, e < 20 → E1 σ e) ∧ ∀ x n s, x < 6 → n < 6 → s < 4 → F1 σ x n s
theorem fl_split {f : Nat} (h : f < 144) : ∃ x n s, x < 6 ∧ n < 6 ∧ s < 4 ∧ f = fl x n s := ⟨f / 24, f % 24 / 4, f % 4, by omega, by omega, by omega, by unfold fl; omega⟩
theorem WI.cur {σ : sn_FS} (h : WI σ) : CurOk σ := by
  intro f hf
  obtain ⟨x, n, s, hx, hn, hs, rfl⟩ := fl_split hf
  obtain ⟨h1, h2⟩ := h.2.2.2.2.2.2 x n s hx hn hs
  refine ⟨?_, ?_⟩
  · rcases h1 with q | ⟨l, a, b, c, d⟩
    · exact Or.inl q
    · exact Or.inr ⟨l, a, c⟩
  · rcases h2 with ⟨-, -, q, -⟩ | ⟨-, -, -, l, a, b, c⟩ | ⟨-, -, q⟩
    · exact Or.inl q
    · exact Or.inr ⟨l, a, c⟩
    · exact Or.inl q
theorem WI.gv {σ : sn_FS} (h : WI σ) : GvOk σ := ⟨h.1, h.2.1, h.2.2.1, fun f hf _ => (h.cur f hf).1⟩
theorem WI.told {σ : sn_FS} (h : WI σ) : ToldOk σ := h.2.2.2.1
theorem WI.beg {σ : sn_FS} (h : WI σ) : BegOk σ := h.2.2.2.2.1
theorem WI.e1 {σ : sn_FS} (h : WI σ) {e : Nat} (he : e < 20) : E1 σ e := h.2.2.2.2.2.1 e he
theorem WI.f1 {σ : sn_FS} (h : WI σ) {x n s : Nat} (hx : x < 6) (hn : n < 6) (hs : s < 4) : F1 σ x n s := h.2.2.2.2.2.2 x n s hx hn hs
theorem WI.lt {σ : sn_FS} (h : WI σ) : LTOk σ := fun e he => ⟨(h.e1 he).2.2.2.1, (h.e1 he).2.2.1⟩
/-- queues have changed, where they may -/
def QC (σ τ : sn_FS) : Prop := (∀ k i, k ≠ 7 → k ≠ 29 → k ≠ 47 → k ≠ 49 → τ.1 k i = σ.1 k i) ∧ (∀ e, e < 20 → τ.1 29 e = σ.1 29 e ∨ (σ.1 10 e = 5 ∧ ∃ w, w ≤ 64 ∧ τ.1 29 e = nI w)) ∧ ∀ f, f < 144 → τ.1 47 f = σ.1 47 f ∨ (¬ σ.1 42 f = 0 ∧ ∃ w, w ≤ 64 ∧ τ.1 47 f = nI w)
theorem QC.sp {σ τ : sn_FS} (h : QC σ τ) : SP σ τ := ⟨fun i => h.1 0 i (by decide) (by decide) (by decide) (by decide), fun i => h.1 1 i (by decide) (by decide) (by decide) (by decide), fun i => h.1 4 i (by decide) (by decide) (by decide) (by decide)⟩
theorem QC.at {σ τ : sn_FS} (h : QC σ τ) {k i : Nat} (hk : k ≠ 7 ∧ k ≠ 29 ∧ k ≠ 47 ∧ k ≠ 49) : τ.1 k i = σ.1 k i := h.1 k i hk.1 hk.2.1 hk.2.2.1 hk.2.2.2
theorem QC.rf {σ : sn_FS} : QC σ σ := ⟨fun _ _ _ _ _ _ => rfl, fun _ _ => Or.inl rfl, fun _ _ => Or.inl rfl⟩
theorem QC.tr {a b c : sn_FS} (h1 : QC a b) (h2 : QC b c) : QC a c := by
  refine ⟨fun k i p q r s => (h2.1 k i p q r s).trans (h1.1 k i p q r s), fun e he => ?_, fun f hf => ?_⟩
  · have h10 : b.1 10 e = a.1 10 e := h1.at (by decide)
    rcases h2.2.1 e he with q | ⟨q, w⟩
    · rw [q]; exact h1.2.1 e he
    · rw [h10] at q; exact Or.inr ⟨q, w⟩
  · have h42 : b.1 42 f = a.1 42 f := h1.at (by decide)
    rcases h2.2.2 f hf with q | ⟨q, w⟩
    · rw [q]; exact h1.2.2 f hf
    · rw [h42] at q; exact Or.inr ⟨q, w⟩
theorem QC.wi {σ τ : sn_FS} (h : QC σ τ) (hw : WI σ) : WI τ := by
  obtain ⟨w1, w2, w3, w4, w5, w6, w7⟩ := hw
  have hs := h.sp
  refine ⟨hs.plan w1, fun e he => ?_, fun f hf => ?_, w4.mk' (fun i => h.at (by decide)) (fun i => h.at (by decide)), fun f hf => by rw [h.at (by decide)]; exact w5 f hf, fun e he => ?_, fun x n s hx hn hs4 => ?_⟩
  · rcases h.2.1 e he with q | ⟨q, w⟩
    · rw [q]; exact w2 e he
    · exact w
  · rcases h.2.2 f hf with q | ⟨q, w⟩
    · rw [q]; exact w3 f hf
    · exact w
  · obtain ⟨a1, a2, a3, a4, a5, a6, a7, a8, a9, a10, a11, a12, a13, a14⟩ := w6 e he
    have hc : cl τ 12 e = cl σ 12 e := by unfold cl; rw [h.at (by decide)]
    refine ⟨?_, ?_, ?_, ?_, ?_, ?_, ?_, ?_, ?_, ?_, ?_, ?_, ?_, ?_⟩
    · rw [h.at (by decide)]; exact a1
    · rw [h.at (by decide)]; exact a2
    · rw [h.at (by decide)]; exact a3
    · rw [h.at (by decide)]; exact a4
    · obtain ⟨o, b1, b2, b3, b4⟩ := a5
      refine ⟨o, b1, by rw [h.at (by decide)]; exact b2, by rw [h.at (by decide)]; exact b3, fun i hi => by rw [h.at (by decide), hc]; exact b4 i hi⟩
    · intro q
      rw [h.at (k := 10) (by decide)] at q
      obtain ⟨b1, b2, b3⟩ := a6 q
      rw [h.at (k := 21) (by decide), h.at (k := 20) (by decide), h.at (k := 40) (by decide), h.at (k := 27) (by decide)]
      refine ⟨b1, b2, fun z => ⟨(b3 z).1, ?_⟩⟩
      rcases h.2.1 e he with y | ⟨y, -⟩
      · rw [y]; exact (b3 z).2
      · exact absurd y q
    · rw [h.at (by decide), h.at (by decide)]; exact a7
    · rw [h.at (by decide), h.at (by decide)]; exact a8
    · rw [h.at (by decide), h.at (by decide)]; exact a9
    · rw [h.at (by decide)]; exact a10
    · rw [h.at (by decide)]; exact a11
    · rw [h.at (by decide)]; exact a12
    · rw [h.at (by decide)]; exact a13
    · rw [h.at (by decide)]; exact a14
  · obtain ⟨a1, a2⟩ := w7 x n s hx hn hs4
    unfold F1
    rw [h.at (k := 41) (by decide), h.at (k := 42) (by decide), h.at (k := 43) (by decide), h.at (k := 44) (by decide), hs.nlE, hs.isofE, hs.enE]
    refine ⟨?_, ?_⟩
    · rcases a1 with q | ⟨l, b1, b2, b3, b4⟩
      · exact Or.inl q
      · exact Or.inr ⟨l, b1, b2, b3, by rw [h.at (by decide)]; exact b4⟩
    · rcases a2 with ⟨b1, b2, b3⟩ | q | q
      · refine Or.inl ⟨b1, ?_, b3⟩
        rcases h.2.2 _ (fl_lt hx hn hs4) with y | ⟨y, -⟩
        · rw [y]; exact b2
        · exact absurd b1 y
      · exact Or.inr (Or.inl q)
      · exact Or.inr (Or.inr q)
theorem QC_lost {σ : sn_FS} : QC σ (S_lost σ) := ⟨fun k i h _ _ _ => S_lost_I σ h, fun e _ => Or.inl (S_lost_I σ (by decide)), fun e _ => Or.inl (S_lost_I σ (by decide))⟩
theorem QC_wait {σ : sn_FS} (h : GvOk σ) {e : Nat} (h5 : σ.1 10 e = 5) (m : Int64) : QC σ (S_wait e m σ) := by
  have hG := S_wait_Gv h (e := e) (m := m)
  refine ⟨fun k i h1 h2 _ _ => S_wait_I σ ⟨h1, h2⟩, fun e' he => ?_, fun f _ => Or.inl (S_wait_I σ (by decide))⟩
  by_cases c : e' = e
  · subst c
    exact Or.inr ⟨h5, hG.2.1 e' he⟩
  · refine Or.inl ?_
    unfold S_wait
    split
    · exact S_lost_I σ (by decide)
    · exact sI_nk c
theorem QC_give {σ : sn_FS} (hw : WI σ) {x n s : Nat} (hx : x < 6) (hn : n < 6) (hs : s < 4) (ho : opb σ x n s = true) (m : Int64) : QC σ (S_give x n s m σ) := by
  have hG := hw.gv
  have hG2 := S_give_Gv hG (x := x) (n := n) (s := s) (m := m)
  by_cases c0 : σ.1 42 (fl x n s) = 0
  · have hS : S_give x n s m σ = S_wait (en σ (σ.1 41 (fl x n s)).toNatClampNeg x) m σ := by unfold S_give; rw [if_pos c0]
    rw [hS]
    have hn10 := hw.1.2.1
    rcases (hw.f1 hx hn hs).1 with q | ⟨l, b1, b2, b3, b4⟩
    · simp [opb, q, c0] at ho
    · rw [b3, nI_clamp (by omega)]
      exact QC_wait hG b4 m
  · refine ⟨fun k i h1 h2 h3 _ => S_give_I σ ⟨h1, h2, h3⟩, fun e he => Or.inl ?_, fun f hf => ?_⟩
    · unfold S_give
      rw [if_neg c0]
      split
      · exact S_lost_I σ (by decide)
      · exact sI_ne (by decide)
    · by_cases c : f = fl x n s
      · subst c
        exact Or.inr ⟨c0, hG2.2.2.1 _ hf⟩
      · refine Or.inl ?_
        unfold S_give
        rw [if_neg c0]
        split
        · exact S_lost_I σ (by decide)
        · exact sI_nk c
theorem QC_route {σ : sn_FS} (hw : WI σ) {x d s : Nat} {but : Option Nat} (hx : x < 6) (hd : d < 6) (hs : s < 4) (m : Int64) : QC σ (S_route x d s m but σ) := by
  unfold S_route
  cases h : way σ x d s but with
  | none => exact QC_lost
  | some n =>
    obtain ⟨h1, h2, h3⟩ := way_lt hw.told hx hd h
    exact QC_give hw hx h1 hs (okw_nb h2).2 m
theorem QC_other {σ : sn_FS} (hw : WI σ) {x n s : Nat} (hx : x < 6) (hn : n < 6) (hs : s < 4) (m : Int64) : QC σ (S_other x n s m σ) := by
  unfold S_other
  cases h : low5 σ x n 0 with
  | none => exact QC_route hw hx hn hs m
  | some l =>
    have := List.find?_some h
    simp only [decide_eq_true_eq] at this
    exact QC_wait hw.gv this m
theorem QC_sI49 {σ : sn_FS} {i : Nat} {v : Int32} : QC σ (sI σ 49 i v) := ⟨fun k i _ _ _ h => sI_ne h, fun e _ => Or.inl (sI_ne (by decide)), fun e _ => Or.inl (sI_ne (by decide))⟩
theorem QC_look1 {σ : sn_FS} (hw : WI σ) {x d n : Nat} {nx : Option Nat} (hx : x < 6) (hn : n < 6) : QC σ (S_look1 x d nx n σ) := by
  unfold S_look1
  split
  · exact QC.rf
  · rename_i c
    split
    · exact QC.rf
    · simp only [not_or, Bool.not_eq_false] at c
      refine QC_sI49.tr (QC_give (QC_sI49.wi hw) hx hn (by decide) ?_ _)
      have : opb (sI σ 49 (36 * x + 6 * n + d) (isI nx n)) x n 0 = opb σ x n 0 := by simp only [opb, sn_upE, Nat.reduceEqDiff, reduceIte]
      rw [this]; exact c.2.2.2
theorem QC_lookC {x : Nat} (hx : x < 6) : ∀ (r : Nat) (σ : sn_FS), r ≤ 36 → WI σ → QC σ (S_lookC x r σ)
  | 0, σ, _, _ => QC.rf
  | r + 1, σ, hr, hw => by
    have h1 : QC σ (if (36 - (r + 1)) / 6 = x then σ else S_look1 x ((36 - (r + 1)) / 6) (way σ x ((36 - (r + 1)) / 6) 0 none) ((36 - (r + 1)) % 6) σ) := by
      split
      · exact QC.rf
      · exact QC_look1 hw hx (by omega)
    exact h1.tr (QC_lookC hx r _ (by omega) (h1.wi hw))
theorem QC_look {σ : sn_FS} (hw : WI σ) {x : Nat} (hx : x < 6) : QC σ (S_look x σ) := by
  rw [S_look_C]; exact QC_lookC hx 36 σ (by omega) hw
/-- after looking, looking would change nothing -/
theorem S_look1_49 {σ : sn_FS} {x d n i : Nat} {nx : Option Nat} (h : i ≠ 36 * x + 6 * n + d) : (S_look1 x d nx n σ).1 49 i = σ.1 49 i := by
  unfold S_look1
  split
  · rfl
  · split
    · rfl
    · rw [S_give_I _ (by decide), sI_nk h]
theorem S_lookC_49 {x : Nat} : ∀ (r : Nat) (σ : sn_FS) (i : Nat), r ≤ 36 → (∀ j, 36 - r ≤ j → j < 36 → i ≠ 36 * x + 6 * (j % 6) + j / 6) → (S_lookC x r σ).1 49 i = σ.1 49 i
  | 0, σ, i, _, _ => rfl
  | r + 1, σ, i, hr, h => by
    refine (S_lookC_49 r _ i (by omega) (fun j h1 h2 => h j (by omega) h2)).trans ?_
    split
    · rfl
    · exact S_look1_49 (h (36 - (r + 1)) (by omega) (by omega))
theorem S_lookC_I {x k i : Nat} (h : k ≠ 7 ∧ k ≠ 29 ∧ k ≠ 47 ∧ k ≠ 49) : ∀ (r : Nat) (σ : sn_FS), (S_lookC x r σ).1 k i = σ.1 k i
  | 0, σ => rfl
  | r + 1, σ => by
    refine (S_lookC_I h r _).trans ?_
    split
    · rfl
    · exact S_look1_I σ h
theorem S_lookC_done {x : Nat} : ∀ (r : Nat) (σ : sn_FS), r ≤ 36 → ∀ j, 36 - r ≤ j → j < 36 → ¬ j / 6 = x → ¬ j % 6 = j / 6 → ¬ j % 6 = x → nb σ x (j % 6) = true → opb σ x (j % 6) 0 = true → (S_lookC x r σ).1 49 (36 * x + 6 * (j % 6) + j / 6) = isI (way σ x (j / 6) 0 none) (j % 6)
  | 0, σ, _, j, h1, h2 => by omega
  | r + 1, σ, hr, j, h1, h2 => by
    intro c1 c2 c3 c4 c5
    by_cases c : j = 36 - (r + 1)
    · subst c
      show (S_lookC x r (if (36 - (r + 1)) / 6 = x then σ else _)).1 49 _ = _
      rw [if_neg c1, S_lookC_49 r _ _ (by omega) (fun j h1 h2 => by omega)]
      unfold S_look1
      rw [if_neg (fun q => by
        rcases q with q | q | q | q
        · exact c2 q
        · exact c3 q
        · rw [c4] at q; cases q
        · rw [c5] at q; cases q)]
      split
      · assumption
      · rw [S_give_I _ (by decide), sI_same]
    · have hs : SP σ (if (36 - (r + 1)) / 6 = x then σ else S_look1 x ((36 - (r + 1)) / 6) (way σ x ((36 - (r + 1)) / 6) 0 none) ((36 - (r + 1)) % 6) σ) := by
        split
        · exact SP.rf
        · exact S_look1_SP σ
      have hk : ∀ k i, k ≠ 7 ∧ k ≠ 29 ∧ k ≠ 47 ∧ k ≠ 49 → (if (36 - (r + 1)) / 6 = x then σ else S_look1 x ((36 - (r + 1)) / 6) (way σ x ((36 - (r + 1)) / 6) 0 none) ((36 - (r + 1)) % 6) σ).1 k i = σ.1 k i := by
        intro k i h
        split
        · rfl
        · exact S_look1_I σ h
      have ih := S_lookC_done r (if (36 - (r + 1)) / 6 = x then σ else S_look1 x ((36 - (r + 1)) / 6) (way σ x ((36 - (r + 1)) / 6) 0 none) ((36 - (r + 1)) % 6) σ) (by omega) j (by omega) h2 c1 c2 c3 (by rw [hs.nbE]; exact c4) (by rw [opb_eq (fun k i h => hk k i (by omega))]; exact c5)
      rw [way_eq hs (fun k i h => hk k i (by omega))] at ih
      exact ih
theorem LkD_look {σ : sn_FS} {x : Nat} : LkD (S_look x σ) x := by
  rw [S_look_C]
  intro d n hd hn c1 c2 c3 c4 c5
  have hk : ∀ k i, k ≠ 7 ∧ k ≠ 29 ∧ k ≠ 47 ∧ k ≠ 49 → (S_lookC x 36 σ).1 k i = σ.1 k i := fun k i h => S_lookC_I h 36 σ
  have hs : SP σ (S_lookC x 36 σ) := ⟨fun i => hk _ _ (by decide), fun i => hk _ _ (by decide), fun i => hk _ _ (by decide)⟩
  rw [way_eq hs (fun k i h => hk k i (by omega))]
  rw [hs.nbE] at c4
  rw [opb_eq (fun k i h => hk k i (by omega))] at c5
  have h := S_lookC_done 36 σ (by omega) (6 * d + n) (by omega) (by omega) (x := x)
  have e1 : (6 * d + n) / 6 = d := by omega
  have e2 : (6 * d + n) % 6 = n := by omega
  rw [e1, e2] at h
  exact h c1 c2 c3 c4 c5
theorem LkD_look' {σ : sn_FS} {x y : Nat} (h : LkD σ y) (hy : y < 6) (hx : x < 6) (hne : y ≠ x) : LkD (S_look x σ) y := by
  rw [S_look_C]
  have hk : ∀ k i, k ≠ 7 ∧ k ≠ 29 ∧ k ≠ 47 ∧ k ≠ 49 → (S_lookC x 36 σ).1 k i = σ.1 k i := fun k i h => S_lookC_I h 36 σ
  have hs : SP σ (S_lookC x 36 σ) := ⟨fun i => hk _ _ (by decide), fun i => hk _ _ (by decide), fun i => hk _ _ (by decide)⟩
  intro d n hd hn c1 c2 c3 c4 c5
  rw [way_eq hs (fun k i h => hk k i (by omega)), S_lookC_49 36 σ _ (by omega) (fun j h1 h2 => by omega)]
  rw [hs.nbE] at c4
  rw [opb_eq (fun k i h => hk k i (by omega))] at c5
  exact h d n hd hn c1 c2 c3 c4 c5
