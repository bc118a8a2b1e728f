/-! LAYER 2: waiting, giving, routing -/
theorem sI_ne {σ : sn_FS} {k k' i j : Nat} {v : Int32} (h : k' ≠ k) : (sI σ k i v).1 k' j = σ.1 k' j := sn_up_ne _ _ _ _ h
theorem sI_same {σ : sn_FS} {k i : Nat} {v : Int32} : (sI σ k i v).1 k i = v := sn_up_same _ _ _ _
theorem sI_nk {σ : sn_FS} {k k' i j : Nat} {v : Int32} (h : j ≠ i) : (sI σ k i v).1 k' j = σ.1 k' j := sn_up_nk _ _ _ _ h
theorem fuel3 : ∃ n, sn_fuel = n + 3 := ⟨1048573, rfl⟩
theorem lo_eq {σ τ : sn_FS} (h : ∀ i, τ.1 0 i = σ.1 0 i) : lo τ = lo σ := by funext l; simp only [lo, h]
theorem hi_eq {σ τ : sn_FS} (h : ∀ i, τ.1 1 i = σ.1 1 i) : hi τ = hi σ := by funext l; simp only [hi, h]
/-- what is told of links is the same -/
def SP (σ τ : sn_FS) : Prop := (∀ i, τ.1 0 i = σ.1 0 i) ∧ (∀ i, τ.1 1 i = σ.1 1 i) ∧ ∀ i, τ.1 4 i = σ.1 4 i
theorem SP.rf {σ : sn_FS} : SP σ σ := ⟨fun _ => rfl, fun _ => rfl, fun _ => rfl⟩
theorem SP.tr {a b c : sn_FS} (h1 : SP a b) (h2 : SP b c) : SP a c := ⟨fun i => (h2.1 i).trans (h1.1 i), fun i => (h2.2.1 i).trans (h1.2.1 i), fun i => (h2.2.2 i).trans (h1.2.2 i)⟩
theorem SP.nlE {σ τ : sn_FS} (h : SP σ τ) : nl τ = nl σ := by simp only [nl, h.2.2]
theorem SP.isofE {σ τ : sn_FS} (h : SP σ τ) : isof τ = isof σ := by funext l a b; simp only [isof, lo_eq h.1, hi_eq h.2.1]
theorem SP.setOfE {σ τ : sn_FS} (h : SP σ τ) : setOf τ = setOf σ := by funext a b; simp only [setOf, setFrom, h.nlE, h.isofE]
theorem SP.enE {σ τ : sn_FS} (h : SP σ τ) : en τ = en σ := by funext l x; simp only [en, lo_eq h.1]
theorem SP.plan {σ τ : sn_FS} (h : SP σ τ) (hp : PlanOk σ) : PlanOk τ := by
  obtain ⟨p1, p2, p3⟩ := hp
  refine ⟨?_, by rw [h.nlE]; exact p2, fun l hl => ?_⟩
  · rw [h.nlE, h.2.2]; exact p1
  · rw [h.nlE] at hl
    rw [lo_eq h.1, hi_eq h.2.1, h.1, h.2.1]
    exact p3 l hl
theorem SP.sI {σ : sn_FS} {k i : Nat} {v : Int32} (h : k ≠ 0 ∧ k ≠ 1 ∧ k ≠ 4) : SP σ (sI σ k i v) := ⟨fun j => sn_up_ne _ _ _ _ (Ne.symm h.1), fun j => sn_up_ne _ _ _ _ (Ne.symm h.2.1), fun j => sn_up_ne _ _ _ _ (Ne.symm h.2.2)⟩
theorem SP.sJ {σ : sn_FS} {k i : Nat} {v : Int64} : SP σ (sJ σ k i v) := ⟨fun _ => rfl, fun _ => rfl, fun _ => rfl⟩
theorem SP.sS {σ : sn_FS} {k : Nat} {v : Int32} (h : k ≠ 0 ∧ k ≠ 1 ∧ k ≠ 4) : SP σ (sS σ k v) := ⟨fun j => if_neg (Ne.symm h.1), fun j => if_neg (Ne.symm h.2.1), fun j => if_neg (Ne.symm h.2.2)⟩
def S_lost (σ : sn_FS) : sn_FS := sS σ 7 (σ.1 7 0 + 1)
def S_wait (e : Nat) (m : Int64) (σ : sn_FS) : sn_FS := if σ.1 29 e = 64 then S_lost σ else sI (sJ σ 28 (64 * e + (σ.1 29 e).toNatClampNeg) m) 29 e (σ.1 29 e + 1)
def S_give (x n s : Nat) (m : Int64) (σ : sn_FS) : sn_FS :=
  if σ.1 42 (fl x n s) = 0 then S_wait (en σ (σ.1 41 (fl x n s)).toNatClampNeg x) m σ
  else if σ.1 47 (fl x n s) = 64 then S_lost σ else sI (sJ σ 46 (64 * fl x n s + (σ.1 47 (fl x n s)).toNatClampNeg) m) 47 (fl x n s) (σ.1 47 (fl x n s) + 1)
/-- what giving needs -/
def GvOk (σ : sn_FS) : Prop := PlanOk σ ∧ (∀ e, e < 20 → ∃ w, w ≤ 64 ∧ σ.1 29 e = nI w) ∧ (∀ f, f < 144 → ∃ w, w ≤ 64 ∧ σ.1 47 f = nI w) ∧ ∀ f, f < 144 → σ.1 42 f = 0 → σ.1 41 f = -1 ∨ ∃ l, l < nl σ ∧ σ.1 41 f = nI l
theorem S_lost_SP (σ : sn_FS) : SP σ (S_lost σ) := SP.sS (by decide)
theorem S_wait_SP (e : Nat) (m : Int64) (σ : sn_FS) : SP σ (S_wait e m σ) := by
  unfold S_wait
  split
  · exact S_lost_SP σ
  · exact SP.sJ.tr (SP.sI (by decide))
theorem S_give_SP (x n s : Nat) (m : Int64) (σ : sn_FS) : SP σ (S_give x n s m σ) := by
  unfold S_give
  split
  · exact S_wait_SP _ _ _
  · split
    · exact S_lost_SP σ
    · exact SP.sJ.tr (SP.sI (by decide))
/-- fields that giving leaves as they were -/
theorem S_lost_I {k i : Nat} (σ : sn_FS) (h : k ≠ 7) : (S_lost σ).1 k i = σ.1 k i := if_neg h
theorem S_wait_I {k i e : Nat} {m : Int64} (σ : sn_FS) (h : k ≠ 7 ∧ k ≠ 29) : (S_wait e m σ).1 k i = σ.1 k i := by
  unfold S_wait
  split
  · exact S_lost_I σ h.1
  · exact sn_up_ne _ _ _ _ h.2
theorem S_give_I {k i x n s : Nat} {m : Int64} (σ : sn_FS) (h : k ≠ 7 ∧ k ≠ 29 ∧ k ≠ 47) : (S_give x n s m σ).1 k i = σ.1 k i := by
  unfold S_give
  split
  · exact S_wait_I σ ⟨h.1, h.2.1⟩
  · split
    · exact S_lost_I σ h.1
    · exact sn_up_ne _ _ _ _ h.2.2
theorem GvOk.mk' {σ τ : sn_FS} (h : GvOk σ) (hs : SP σ τ) (h1 : ∀ e, e < 20 → ∃ w, w ≤ 64 ∧ τ.1 29 e = nI w) (h2 : ∀ f, f < 144 → ∃ w, w ≤ 64 ∧ τ.1 47 f = nI w) (h3 : ∀ i, τ.1 41 i = σ.1 41 i) (h4 : ∀ i, τ.1 42 i = σ.1 42 i) : GvOk τ :=
  ⟨hs.plan h.1, h1, h2, fun f hf h0 => by rw [h3, hs.nlE]; rw [h4] at h0; exact h.2.2.2 f hf h0⟩
theorem S_lost_Gv {σ : sn_FS} (h : GvOk σ) : GvOk (S_lost σ) := h.mk' (S_lost_SP σ) (fun e he => by rw [S_lost_I σ (by decide)]; exact h.2.1 e he) (fun f hf => by rw [S_lost_I σ (by decide)]; exact h.2.2.1 f hf) (fun i => S_lost_I σ (by decide)) (fun i => S_lost_I σ (by decide))
theorem S_wait_Gv {σ : sn_FS} (h : GvOk σ) {e : Nat} {m : Int64} : GvOk (S_wait e m σ) := by
  refine h.mk' (S_wait_SP e m σ) (fun e' he => ?_) (fun f hf => by rw [S_wait_I σ (by decide)]; exact h.2.2.1 f hf) (fun i => S_wait_I σ (by decide)) (fun i => S_wait_I σ (by decide))
  unfold S_wait
  split
  · rw [S_lost_I σ (by decide)]; exact h.2.1 e' he
  · rename_i hne
    show ∃ w, w ≤ 64 ∧ sn_up σ.1 29 e (σ.1 29 e + 1) 29 e' = nI w
    by_cases hee : e' = e
    · subst hee
      obtain ⟨w, hw, e1⟩ := h.2.1 e' he
      rw [sn_up_same, e1, nI_1]
      refine ⟨w + 1, ?_, rfl⟩
      have : w ≠ 64 := fun q => hne (by rw [e1, q]; rfl)
      omega
    · rw [sn_up_nk _ _ _ _ hee]; exact h.2.1 e' he
theorem S_give_Gv {σ : sn_FS} (h : GvOk σ) {x n s : Nat} {m : Int64} : GvOk (S_give x n s m σ) := by
  unfold S_give
  split
  · exact S_wait_Gv h
  · split
    · exact S_lost_Gv h
    · rename_i hne
      refine h.mk' (SP.sJ.tr (SP.sI (by decide))) (fun e he => ?_) (fun f hf => ?_) (fun i => sI_ne (k := 47) (k' := 41) (by decide)) (fun i => sI_ne (k := 47) (k' := 42) (by decide))
      · rw [sI_ne (k := 47) (k' := 29) (by decide)]; exact h.2.1 e he
      · by_cases hee : f = fl x n s
        · subst hee
          obtain ⟨w, hw, e1⟩ := h.2.2.1 _ hf
          rw [sI_same, e1, nI_1]
          refine ⟨w + 1, ?_, rfl⟩
          have : w ≠ 64 := fun q => hne (by rw [e1, q]; rfl)
          omega
        · rw [sI_nk hee]; exact h.2.2.1 f hf
theorem gl_waitAt {σ : sn_FS} {e : Nat} {m : Int64} (he : e < 20) (hw : ∃ w, w ≤ 64 ∧ σ.1 29 e = nI w) : g_Md_waitAt (nI e) m σ = some (none, S_wait e m σ) := by
  obtain ⟨w, hw, e1⟩ := hw
  have d1 : e < md_len 29 := he
  have e64 : (nI w = (64 : Int32)) ↔ w = 64 := nI_eq (b := 64) (by omega) (by omega)
  by_cases h64 : w = 64
  · simp only [g_Md_waitAt, q_I_at d1, e1, e64, h64, not_true_eq_false, if_false, q_S, w_S, z_V, S_wait, S_lost, if_true]
    rfl
  · have e2 : ((64 : Int32) * nI e) + nI w = nI (64 * e + w) := by
      have : (64 : Int32) * nI e = nI (64 * e) := pk_mul 64 e
      rw [this, nI_add]
    have d2 : 64 * e + w < md_len 28 := by show _ < 1280; omega
    have hcl : (nI w).toNatClampNeg = w := nI_clamp (by omega)
    simp only [g_Md_waitAt, q_I_at d1, e1, e64, h64, not_false_eq_true, if_true, e2, w_J_at d2, w_I_at d1, z_V, S_wait, if_false, hcl]
theorem gl_give {σ : sn_FS} (h : GvOk σ) {x n s : Nat} {m : Int64} (hx : x < 6) (hn : n < 6) (hs : s < 4) (ho : opn σ x n s) : g_Md_give (nI x) (nI n) (nI s) m σ = some (none, S_give x n s m σ) := by
  have hf := fl_lt hx hn hs
  have d1 : fl x n s < md_len 41 := hf
  have d2 : fl x n s < md_len 42 := hf
  have d3 : fl x n s < md_len 47 := hf
  simp only [g_Md_give, g_Md_give_96, y_I_at (gl_flowAt σ x n s), q_I_at d2, S_give]
  by_cases h0 : σ.1 42 (fl x n s) = 0
  · have hc : ∃ l, l < nl σ ∧ σ.1 41 (fl x n s) = nI l := by
      rcases h.2.2.2 _ hf h0 with q | q
      · rcases ho with q' | q'
        · exact absurd q q'
        · exact absurd h0 q'
      · exact q
    obtain ⟨l, hl, e1⟩ := hc
    have hn10 := h.1.2.1
    have hcl : (nI l).toNatClampNeg = l := nI_clamp (by omega)
    have hen := en_lt h.1 (x := x) hl
    simp only [h0, not_true_eq_false, if_false, if_true, q_I_at d1, e1, y_I_at (gl_endAt h.1 hl hx), hcl, y_V_at (gl_waitAt hen.2 (h.2.1 _ hen.2)), z_V]
  · obtain ⟨w, hw, e1⟩ := h.2.2.1 _ hf
    have e64 : (nI w = (64 : Int32)) ↔ w = 64 := nI_eq (b := 64) (by omega) (by omega)
    simp only [h0, not_false_eq_true, if_true, if_false, q_I_at d3, e1, e64]
    by_cases h64 : w = 64
    · simp only [h64, not_true_eq_false, if_false, if_true, q_S, w_S, z_V, S_lost]
    · have e2 : ((64 : Int32) * nI (fl x n s)) + nI w = nI (64 * fl x n s + w) := by
        have : (64 : Int32) * nI (fl x n s) = nI (64 * fl x n s) := pk_mul 64 _
        rw [this, nI_add]
      have d4 : 64 * fl x n s + w < md_len 46 := by show _ < 9216; omega
      have hcl : (nI w).toNatClampNeg = w := nI_clamp (by omega)
      simp only [h64, not_false_eq_true, if_true, if_false, q_I_at d3, e2, w_J_at d4, e1, w_I_at d3, z_V, hcl]
/-- neighbours -/
def nb (σ : sn_FS) (x n : Nat) : Bool := decide (x ≠ n) && decide (0 < (setOf σ x n).length)
theorem gl_isEx {a : Nat} (ha : a < 6) (σ : sn_FS) : g_Md_isExchange (nI a) σ = some (some (.int 1), σ) := by
  have e1 : (nI a < 0) = False := eq_false (nI_pos (by omega))
  have e2 : ((6 : Int32) ≤ nI a) = False := eq_false (nI_ge (b := 6) ha (by omega))
  simp [g_Md_isExchange, g_Md_isExchange_15, e1, e2, z_Z]
theorem gl_areNb {σ : sn_FS} (h : PlanOk σ) {a b : Nat} (ha : a < 6) (hb : b < 6) : g_Md_areNeighbours (nI a) (nI b) σ = some (some (.int (if nb σ a b then 1 else 0)), σ) := by
  have hn10 := h.2.1
  have hle := setOf_le (σ := σ) (x := a) (n := b)
  have e1 : ((1 : Int32) = 0) = False := eq_false (by decide)
  have e2 : nI a = nI b ↔ a = b := nI_eq (by omega) (by omega)
  simp only [g_Md_areNeighbours, g_Md_areNeighbours_32, g_Md_areNeighbours_33, y_I_at (gl_isEx ha σ), y_I_at (gl_isEx hb σ), e1, if_false, e2]
  by_cases hab : a = b
  · simp [hab, nb, z_Z]
  · have e3 : nI (setOf σ a b).length ≤ 0 ↔ (setOf σ a b).length ≤ 0 := nI_leI (b := 0) (by omega) (by omega)
    simp only [hab, if_false, y_I_at (gl_setSize h ha hb), e3]
    by_cases h0 : (setOf σ a b).length ≤ 0
    · have : ¬ 0 < (setOf σ a b).length := by omega
      simp only [h0, if_true, nb, this, decide_false, Bool.and_false, z_Z]; simp
    · have : 0 < (setOf σ a b).length := by omega
      simp only [h0, if_false, nb, this, decide_true, Bool.and_true, z_Z]; simp [hab]
