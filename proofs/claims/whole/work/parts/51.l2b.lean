/-! LAYER 2: ends, flows, the best link -/
def en (σ : sn_FS) (l x : Nat) : Nat := 2 * l + if lo σ l = x then 0 else 1
def ex (σ : sn_FS) (e : Nat) : Nat := if e % 2 = 0 then lo σ (e / 2) else hi σ (e / 2)
def ot (σ : sn_FS) (e : Nat) : Nat := if e % 2 = 0 then hi σ (e / 2) else lo σ (e / 2)
def fl (x n s : Nat) : Nat := 24 * x + 4 * n + s
theorem fl_lt {x n s : Nat} (hx : x < 6) (hn : n < 6) (hs : s < 4) : fl x n s < 144 := by unfold fl; omega
theorem en_lt {σ : sn_FS} (h : PlanOk σ) {l x : Nat} (hl : l < nl σ) : en σ l x < 2 * nl σ ∧ en σ l x < 20 := by
  have := h.2.1
  unfold en; split <;> omega
theorem gl_endAt {σ : sn_FS} (h : PlanOk σ) {l x : Nat} (hl : l < nl σ) (hx : x < 6) : g_Md_endAt (nI l) (nI x) σ = some (some (.int (nI (en σ l x))), σ) := by
  have hn := h.2.1
  obtain ⟨p1, p2, p3, p4⟩ := h.2.2 l hl
  have d0 : l < md_len 0 := by show l < 10; omega
  have e0 : nI (lo σ l) = nI x ↔ lo σ l = x := nI_eq (by omega) (by omega)
  have e2 : (2 : Int32) * nI l = nI (2 * l) := pk_mul 2 l
  simp only [g_Md_endAt, g_Md_endAt_18, q_I_at d0, p1, e0, e2]
  by_cases hx : lo σ l = x
  · simp only [hx, not_true_eq_false, if_false, z_I, en, if_true]
    exact congrArg (fun z => some (some (Value.int z), σ)) (nI_add (2 * l) 0)
  · simp only [hx, not_false_eq_true, if_true, z_I, en, if_false]
    exact congrArg (fun z => some (some (Value.int z), σ)) (nI_add (2 * l) 1)
theorem gl_exchangeOf {σ : sn_FS} (h : PlanOk σ) {e : Nat} (he : e < 2 * nl σ) : g_Md_exchangeOf (nI e) σ = some (some (.int (nI (ex σ e))), σ) := by
  have hn := h.2.1
  obtain ⟨p1, p2, p3, p4⟩ := h.2.2 (e / 2) (by omega)
  have d0 : e / 2 < md_len 0 := by show e / 2 < 10; omega
  have d1 : e / 2 < md_len 1 := by show e / 2 < 10; omega
  have e0 : nI (e % 2) = 0 ↔ e % 2 = 0 := nI_eq (b := 0) (by omega) (by omega)
  simp only [g_Md_exchangeOf, g_Md_exchangeOf_25, nI_half (by omega : e < 2 ^ 31), nI_odd e (by omega), e0, ex]
  by_cases ho : e % 2 = 0
  · simp only [ho, not_true_eq_false, if_false, if_true, q_I_at d0, p1, z_I]
  · simp only [ho, not_false_eq_true, if_true, if_false, q_I_at d1, p2, z_I]
theorem gl_otherOf {σ : sn_FS} (h : PlanOk σ) {e : Nat} (he : e < 2 * nl σ) : g_Md_otherOf (nI e) σ = some (some (.int (nI (ot σ e))), σ) := by
  have hn := h.2.1
  obtain ⟨p1, p2, p3, p4⟩ := h.2.2 (e / 2) (by omega)
  have d0 : e / 2 < md_len 0 := by show e / 2 < 10; omega
  have d1 : e / 2 < md_len 1 := by show e / 2 < 10; omega
  have e0 : nI (e % 2) = 0 ↔ e % 2 = 0 := nI_eq (b := 0) (by omega) (by omega)
  simp only [g_Md_otherOf, g_Md_otherOf_25, nI_half (by omega : e < 2 ^ 31), nI_odd e (by omega), e0, ot]
  by_cases ho : e % 2 = 0
  · simp only [ho, not_true_eq_false, if_false, if_true, q_I_at d1, p2, z_I]
  · simp only [ho, not_false_eq_true, if_true, if_false, q_I_at d0, p1, z_I]
theorem gl_flowAt (σ : sn_FS) (x n s : Nat) : g_Md_flowAt (nI x) (nI n) (nI s) σ = some (some (.int (nI (fl x n s))), σ) := by
  have e1 : (24 : Int32) * nI x = nI (24 * x) := pk_mul 24 x
  have e2 : (4 : Int32) * nI n = nI (4 * n) := pk_mul 4 n
  simp only [g_Md_flowAt, z_I, e1, e2, nI_add, fl]
def opn (σ : sn_FS) (x n s : Nat) : Prop := ¬ σ.1 41 (fl x n s) = -1 ∨ ¬ σ.1 42 (fl x n s) = 0
theorem gl_isOpen (σ : sn_FS) {x n s : Nat} (hx : x < 6) (hn : n < 6) (hs : s < 4) : (opn σ x n s → g_Md_isOpen (nI x) (nI n) (nI s) σ = some (some (.int 1), σ)) ∧ (¬ opn σ x n s → g_Md_isOpen (nI x) (nI n) (nI s) σ = some (some (.int 0), σ)) := by
  have hf := fl_lt hx hn hs
  have d1 : fl x n s < md_len 41 := hf
  have d2 : fl x n s < md_len 42 := hf
  simp only [g_Md_isOpen, g_Md_isOpen_31, g_Md_isOpen_36, y_I_at (gl_flowAt σ x n s), q_I_at d1, opn]
  by_cases h1 : σ.1 41 (fl x n s) = -1
  · simp only [h1, not_true_eq_false, if_false, false_or, y_I_at (gl_flowAt σ x n s), q_I_at d2]
    by_cases h2 : σ.1 42 (fl x n s) = 0
    · simp [h2, z_Z]
    · simp [h2, z_Z]
  · simp [h1, z_Z]
/-- the best link -/
def bst (σ : sn_FS) (x n s : Nat) : Option Nat :=
  (List.range (setOf σ x n).length).findSome? (fun k => ((setOf σ x n)[(s + k) % (setOf σ x n).length]?).bind (fun l => if σ.1 10 (en σ l x) = 5 then some l else none))
def oI : Option Nat → Int32
  | none => -1
  | some l => nI l
theorem gl_best_neg {σ : sn_FS} (h : PlanOk σ) {x n : Nat} (hx : x < 6) (hn : n < 6) (K : Int32 → Int32 → Int32 → Int32 → Int32 → sn_G) (x3 x4 x5 : Int32) : ∀ (d fuel i : Nat) (w : Int32), nl σ - i = d → d < fuel → i ≤ nl σ → w.toInt < 0 → -(2 : Int) ^ 20 + d < w.toInt → g_Md_bestOf_30 K fuel (nI x) (nI n) x3 x4 x5 w (nI i) σ = K (nI x) (nI n) x3 x4 (x5 + 1) σ
  | 0, fuel + 1, i, w, hd, _, hi, _, _ => by
    have hn := h.2.1
    have e1 : (nI (nl σ) ≤ nI i) = True := eq_true (nI_le (by omega) (by omega))
    simp only [g_Md_bestOf_30, q_S, h.1, e1, if_true]
  | d + 1, fuel + 1, i, w, hd, hf, hi, hw, hw2 => by
    have hn10 := h.2.1
    have hlt : i < nl σ := by omega
    have e1 : (nI (nl σ) ≤ nI i) = False := eq_false (nI_ge hlt (by omega))
    have e2 : (w = 0) = False := eq_false (fun e => by rw [e] at hw; exact absurd hw (by decide))
    have e3 : (w + (-1)).toInt = w.toInt - 1 := by
      have hb : (w + (-1)).toInt = (w.toInt + (-1 : Int32).toInt).bmod (2 ^ 32) := Int32.toInt_add w (-1)
      have h1 : ((-1 : Int32)).toInt = -1 := by decide
      rw [hb, h1, Int.bmod_def]
      have hl := Int32.le_toInt w
      omega
    simp only [g_Md_bestOf_30, q_S, h.1, e1, if_false, y_I_at (gl_isOf h hlt hx hn)]
    by_cases hs : isof σ i x n
    · have ih := gl_best_neg h hx hn K x3 x4 x5 d fuel (i + 1) (w + (-1)) (by omega) (by omega) (by omega) (by omega) (by omega)
      have e4 : ((1 : Int32) = 0) = False := eq_false (by decide)
      simp only [hs, if_true, e4, not_false_eq_true, e2, g_Md_bestOf_77, g_Md_bestOf_80, nI_1, ih]
    · have ih := gl_best_neg h hx hn K x3 x4 x5 d fuel (i + 1) w (by omega) (by omega) (by omega) (by omega) (by omega)
      simp only [hs, if_false, not_true_eq_false, g_Md_bestOf_80, nI_1]
      simpa using ih
theorem gl_best_in {σ : sn_FS} (h : PlanOk σ) {x n : Nat} (hx : x < 6) (hn : n < 6) (K : Int32 → Int32 → Int32 → Int32 → Int32 → sn_G) (x3 x4 x5 : Int32) : ∀ (d fuel i w : Nat), nl σ - i = d → d < fuel → i ≤ nl σ → w < 2 ^ 20 → g_Md_bestOf_30 K fuel (nI x) (nI n) x3 x4 x5 (nI w) (nI i) σ = match ((setFrom σ x n i)[w]?).bind (fun l => if σ.1 10 (en σ l x) = 5 then some l else none) with
      | some l => some (some (.int (nI l)), σ)
      | none => K (nI x) (nI n) x3 x4 (x5 + 1) σ
  | 0, fuel + 1, i, w, hd, _, hi, _ => by
    have hn := h.2.1
    have e1 : (nI (nl σ) ≤ nI i) = True := eq_true (nI_le (by omega) (by omega))
    simp only [g_Md_bestOf_30, q_S, h.1, e1, if_true, setFrom_end (by omega : nl σ ≤ i), List.getElem?_nil, Option.bind_none]
  | d + 1, fuel + 1, i, w, hd, hf, hi, hw => by
    have hn10 := h.2.1
    have hlt : i < nl σ := by omega
    have e1 : (nI (nl σ) ≤ nI i) = False := eq_false (nI_ge hlt (by omega))
    simp only [g_Md_bestOf_30, q_S, h.1, e1, if_false, y_I_at (gl_isOf h hlt hx hn)]
    rw [setFrom_step hlt]
    by_cases hs : isof σ i x n
    · have e4 : ((1 : Int32) = 0) = False := eq_false (by decide)
      simp only [hs, if_true, e4, not_false_eq_true]
      cases w with
      | zero =>
        have e5 : (nI 0 = 0) = True := eq_true rfl
        have d10 : en σ i x < md_len 10 := (en_lt h hlt).2
        simp only [e5, not_true_eq_false, if_false, y_I_at (gl_endAt h hlt hx), q_I_at d10, List.getElem?_cons_zero, Option.bind_some]
        by_cases h5 : σ.1 10 (en σ i x) = 5
        · simp only [h5, not_true_eq_false, if_false, if_true, z_I]
        · simp only [h5, not_false_eq_true, if_true, if_false, g_Md_bestOf_77, g_Md_bestOf_80, nI_1]
          have em : (nI 0 + (-1 : Int32)).toInt = -1 := by decide
          exact gl_best_neg h hx hn K x3 x4 x5 d fuel (i + 1) (nI 0 + (-1)) (by omega) (by omega) (by omega) (by omega) (by omega)
      | succ w =>
        have ih := gl_best_in h hx hn K x3 x4 x5 d fuel (i + 1) w (by omega) (by omega) (by omega) (by omega)
        have e5 : (nI (w + 1) = 0) = False := eq_false (nI_ne0 (by omega) (by omega))
        simp only [e5, not_false_eq_true, if_true, g_Md_bestOf_77, g_Md_bestOf_80, nI_1, pk_m1, ih, List.getElem?_cons_succ]
    · have ih := gl_best_in h hx hn K x3 x4 x5 d fuel (i + 1) w (by omega) (by omega) (by omega) (by omega)
      simp only [hs, if_false, not_true_eq_false, g_Md_bestOf_80, nI_1]
      simpa using ih
theorem gl_best_11 {σ : sn_FS} (h : PlanOk σ) {x n s : Nat} (hx : x < 6) (hn : n < 6) (hs : s < 4) : ∀ (d fuel k : Nat), (setOf σ x n).length - k = d → d < fuel → k ≤ (setOf σ x n).length → (setOf σ x n).length ≤ 10 → g_Md_bestOf_11 fuel (nI x) (nI n) (nI s) (nI (setOf σ x n).length) (nI k) σ = some (some (.int (oI ((List.range' k ((setOf σ x n).length - k)).findSome? (fun k => ((setOf σ x n)[(s + k) % (setOf σ x n).length]?).bind (fun l => if σ.1 10 (en σ l x) = 5 then some l else none))))), σ)
  | 0, fuel + 1, k, hd, _, hk, hm => by
    have e1 : (nI (setOf σ x n).length ≤ nI k) = True := eq_true (nI_le (by omega) (by omega))
    simp only [g_Md_bestOf_11, e1, if_true, z_I, hd, List.range'_zero, List.findSome?_nil, oI]
  | d + 1, fuel + 1, k, hd, hf, hk, hm => by
    have hn10 := h.2.1
    have hlt : k < (setOf σ x n).length := by omega
    have e1 : (nI (setOf σ x n).length ≤ nI k) = False := eq_false (nI_ge hlt (by omega))
    have e2 : (nI (setOf σ x n).length = 0) = False := eq_false (nI_ne0 (by omega) (by omega))
    have e3 : (nI s + nI k) % nI (setOf σ x n).length = nI ((s + k) % (setOf σ x n).length) := by rw [nI_add]; exact nI_mod (by omega) (by omega) (by omega)
    have hr : List.range' k ((setOf σ x n).length - k) = k :: List.range' (k + 1) ((setOf σ x n).length - (k + 1)) := by
      rw [show (setOf σ x n).length - k = ((setOf σ x n).length - (k + 1)) + 1 by omega, List.range'_succ]
    have hw : (s + k) % (setOf σ x n).length < 2 ^ 20 := by have := Nat.mod_lt (s + k) (show 0 < (setOf σ x n).length by omega); omega
    have hin := gl_best_in h hx hn (g_Md_bestOf_11 fuel) (nI s) (nI (setOf σ x n).length) (nI k) (nl σ) sn_fuel 0 ((s + k) % (setOf σ x n).length) (by omega) (by unfold sn_fuel; omega) (by omega) hw
    simp only [g_Md_bestOf_11, e1, if_false, y_D, e2, y_nI, e3]
    refine Eq.trans hin ?_
    rw [hr, List.findSome?_cons]
    have e0 : setFrom σ x n 0 = setOf σ x n := rfl
    rw [e0]
    cases hb : ((setOf σ x n)[(s + k) % (setOf σ x n).length]?).bind (fun l => if σ.1 10 (en σ l x) = 5 then some l else none) with
    | some l => simp only [oI]
    | none =>
      have ih := gl_best_11 h hx hn hs d fuel (k + 1) (by omega) (by omega) (by omega) hm
      simp only [nI_1, ih]
theorem setOf_le {σ : sn_FS} {x n : Nat} : (setOf σ x n).length ≤ nl σ := by
  unfold setOf setFrom
  refine Nat.le_trans (List.length_filter_le _ _) ?_
  simp
theorem gl_bestOf {σ : sn_FS} (h : PlanOk σ) {x n s : Nat} (hx : x < 6) (hn : n < 6) (hs : s < 4) : g_Md_bestOf (nI x) (nI n) (nI s) σ = some (some (.int (oI (bst σ x n s))), σ) := by
  have hn10 := h.2.1
  have hle := setOf_le (σ := σ) (x := x) (n := n)
  simp only [g_Md_bestOf, y_I_at (gl_setSize h hx hn)]
  have := gl_best_11 h hx hn hs (setOf σ x n).length sn_fuel 0 (by omega) (by unfold sn_fuel; omega) (by omega) (by omega)
  rw [Nat.sub_zero, ← List.range_eq_range'] at this
  exact this
