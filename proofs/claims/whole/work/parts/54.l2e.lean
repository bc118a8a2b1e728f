/-! LAYER 2: ways -/
/-- neighbours told, or none -/
def ToldOk (σ : sn_FS) : Prop := ∀ i, i < 36 → (σ.1 50 i = -1 ∨ ∃ n, n < 6 ∧ σ.1 50 i = nI n) ∧ (σ.1 51 i = -1 ∨ ∃ n, n < 6 ∧ σ.1 51 i = nI n)
def opb (σ : sn_FS) (x n s : Nat) : Bool := !(decide (σ.1 41 (fl x n s) = -1)) || !(decide (σ.1 42 (fl x n s) = 0))
theorem opb_iff {σ : sn_FS} {x n s : Nat} : opb σ x n s = true ↔ opn σ x n s := by simp [opb, opn]
theorem gl_opb (σ : sn_FS) {x n s : Nat} (hx : x < 6) (hn : n < 6) (hs : s < 4) : g_Md_isOpen (nI x) (nI n) (nI s) σ = some (some (.int (if opb σ x n s then 1 else 0)), σ) := by
  by_cases h : opb σ x n s = true
  · rw [(gl_isOpen σ hx hn hs).1 (opb_iff.mp h), if_pos h]
  · rw [(gl_isOpen σ hx hn hs).2 (fun q => h (opb_iff.mpr q)), if_neg h]
def okw (σ : sn_FS) (x d s n : Nat) : Bool := nb σ x n && (decide (σ.1 48 (36 * x + 6 * n + d) = 0) && opb σ x n s)
def tld (σ : sn_FS) (k x d : Nat) : Option Nat := if σ.1 k (6 * x + d) = -1 then none else some (σ.1 k (6 * x + d)).toNatClampNeg
def way1 (σ : sn_FS) (k x d s : Nat) (but : Option Nat) : Option Nat := (tld σ k x d).bind (fun n => if some n = but then none else if okw σ x d s n then some n else none)
def way (σ : sn_FS) (x d s : Nat) (but : Option Nat) : Option Nat := (way1 σ 50 x d s but).or (way1 σ 51 x d s but)
theorem tld_lt {σ : sn_FS} (h : ToldOk σ) {k x d n : Nat} (hk : k = 50 ∨ k = 51) (hx : x < 6) (hd : d < 6) (ht : tld σ k x d = some n) : n < 6 ∧ σ.1 k (6 * x + d) = nI n := by
  have h1 := h (6 * x + d) (by omega)
  unfold tld at ht
  split at ht
  · cases ht
  · rename_i hne
    have h2 : σ.1 k (6 * x + d) = -1 ∨ ∃ n, n < 6 ∧ σ.1 k (6 * x + d) = nI n := by rcases hk with e | e <;> subst e; exact h1.1; exact h1.2
    rcases h2 with e | ⟨m, hm, e⟩
    · exact absurd e hne
    · rw [e, nI_clamp (by omega)] at ht
      cases ht
      exact ⟨hm, e⟩
theorem way_lt {σ : sn_FS} (h : ToldOk σ) {x d s n : Nat} {but : Option Nat} (hx : x < 6) (hd : d < 6) (hw : way σ x d s but = some n) : n < 6 ∧ okw σ x d s n = true ∧ ¬ some n = but := by
  have key : ∀ k, k = 50 ∨ k = 51 → way1 σ k x d s but = some n → n < 6 ∧ okw σ x d s n = true ∧ ¬ some n = but := by
    intro k hk h1
    unfold way1 at h1
    obtain ⟨m, hm, h2⟩ := Option.bind_eq_some_iff.mp h1
    split at h2
    · cases h2
    · rename_i hb
      split at h2
      · rename_i ho
        cases h2
        exact ⟨(tld_lt h hk hx hd hm).1, ho, hb⟩
      · cases h2
  unfold way at hw
  cases h1 : way1 σ 50 x d s but with
  | some m => rw [h1] at hw; cases hw; exact key 50 (Or.inl rfl) h1
  | none => rw [h1] at hw; exact key 51 (Or.inr rfl) hw
def bI : Option Nat → Int32
  | none => -1
  | some n => nI n
def S_route (x d : Nat) (s : Nat) (m : Int64) (but : Option Nat) (σ : sn_FS) : sn_FS := match way σ x d s but with
  | some n => S_give x n s m σ
  | none => S_lost σ
theorem gl_route_39 {σ : sn_FS} (h : GvOk σ) (hT : ToldOk σ) {x d : Nat} {m : Msg} (hm : MOk m) {but : Option Nat} (hb : ∀ n, but = some n → n < 6) (hx : x < 6) (hd : d < 6) {k : Nat} (hk : k = 50 ∨ k = 51) (K : Int32 → Int32 → Int64 → Int32 → Int32 → sn_G) (x6 : Int32) : g_Md_route_39 K (nI x) (nI d) (wR m) (bI but) x6 (σ.1 k (6 * x + d)) σ = match way1 σ k x d (mL m) but with
    | some n => some (none, S_give x n (mL m) (wR m) σ)
    | none => K (nI x) (nI d) (wR m) (bI but) (x6 + 1) σ := by
  obtain ⟨q1, q2, q3, q4, q5, q6, q7⟩ := id hm
  unfold way1
  cases ht : tld σ k x d with
  | none =>
    have e1 : σ.1 k (6 * x + d) = -1 := by
      unfold tld at ht
      split at ht
      · assumption
      · cases ht
    simp only [g_Md_route_39, g_Md_route_114, e1, if_true, Option.bind_none]
  | some n =>
    obtain ⟨hn, e1⟩ := tld_lt hT hk hx hd ht
    have e2 : (nI n = (-1 : Int32)) = False := eq_false (nI_m1 (by omega))
    have e3 : (nI n = bI but) ↔ some n = but := by
      cases but with
      | none => simp [bI, e2]
      | some b => simp only [bI, Option.some.injEq]; exact nI_eq (by omega) (by have := hb b rfl; omega)
    simp only [g_Md_route_39, g_Md_route_114, e1, e2, if_false, e3, Option.bind_some]
    by_cases hbb : some n = but
    · simp only [hbb, if_true]
    · simp only [hbb, if_false, y_I_at (gl_areNb h.1 hx hn)]
      have e36 : ((36 : Int32) * nI x + (6 : Int32) * nI n) + nI d = nI (36 * x + 6 * n + d) := by
        have a1 : (36 : Int32) * nI x = nI (36 * x) := pk_mul 36 x
        have a2 : (6 : Int32) * nI n = nI (6 * n) := pk_mul 6 n
        rw [a1, a2, nI_add, nI_add]
      have d48 : 36 * x + 6 * n + d < md_len 48 := by show _ < 216; omega
      have o1 : ((1 : Int32) = 0) = False := eq_false (by decide)
      unfold okw
      by_cases hnb : nb σ x n = true
      · simp only [hnb, if_true, o1, not_false_eq_true, e36, q_I_at d48, Bool.true_and]
        by_cases hba : σ.1 48 (36 * x + 6 * n + d) = 0
        · simp only [hba, not_true_eq_false, if_false, y_I_at (gl_flowOf hm σ), y_I_at (gl_opb σ hx hn q4), decide_true, Bool.true_and]
          by_cases hop : opb σ x n (mL m) = true
          · simp only [hop, if_true, o1, if_false, y_I_at (gl_flowOf hm σ), y_V_at (gl_give h hx hn q4 (opb_iff.mp hop)), z_V]
          · simp only [hop, if_false, if_true]
            simp
        · simp [hba]
      · simp [hnb]
theorem gl_route {σ : sn_FS} (h : GvOk σ) (hT : ToldOk σ) {x d : Nat} {m : Msg} (hm : MOk m) {but : Option Nat} (hb : ∀ n, but = some n → n < 6) (hx : x < 6) (hd : d < 6) : g_Md_route (nI x) (nI d) (wR m) (bI but) σ = some (none, S_route x d (mL m) (wR m) but σ) := by
  obtain ⟨n, hn⟩ := fuel3
  have e6 : ((6 : Int32) * nI x) + nI d = nI (6 * x + d) := by
    have a1 : (6 : Int32) * nI x = nI (6 * x) := pk_mul 6 x
    rw [a1, nI_add]
  have d50 : 6 * x + d < md_len 50 := by show _ < 36; omega
  have d51 : 6 * x + d < md_len 51 := by show _ < 36; omega
  have o1 : ((2 : Int32) ≤ 0) = False := eq_false (by decide)
  have o2 : ((2 : Int32) ≤ 0 + 1) = False := eq_false (by decide)
  have o3 : ((2 : Int32) ≤ 0 + 1 + 1) = True := eq_true (by decide)
  have o4 : ((0 : Int32) + 1 = 0) = False := eq_false (by decide)
  simp only [g_Md_route, hn, g_Md_route_3, o1, if_false, not_true_eq_false, e6, q_I_at d50, gl_route_39 h hT hm hb hx hd (Or.inl rfl), S_route, way]
  cases h1 : way1 σ 50 x d (mL m) but with
  | some a => simp only [Option.some_or]
  | none =>
    simp only [Option.none_or, o2, if_false, o4, not_false_eq_true, if_true, q_I_at d51, gl_route_39 h hT hm hb hx hd (Or.inr rfl)]
    cases h2 : way1 σ 51 x d (mL m) but with
    | some a => simp only
    | none => simp only [o3, if_true, q_S, w_S, z_V, S_lost]
theorem gl_nextOf_36 {σ : sn_FS} (h : GvOk σ) (hT : ToldOk σ) {x d : Nat} (hx : x < 6) (hd : d < 6) {k : Nat} (hk : k = 50 ∨ k = 51) (K : Int32 → Int32 → Int32 → sn_G) (x3 : Int32) : g_Md_nextOf_36 K (nI x) (nI d) x3 (σ.1 k (6 * x + d)) σ = match way1 σ k x d 0 none with
    | some n => some (some (.int (nI n)), σ)
    | none => K (nI x) (nI d) (x3 + 1) σ := by
  unfold way1
  cases ht : tld σ k x d with
  | none =>
    have e1 : σ.1 k (6 * x + d) = -1 := by
      unfold tld at ht
      split at ht
      · assumption
      · cases ht
    simp only [g_Md_nextOf_36, g_Md_nextOf_88, e1, if_true, Option.bind_none]
  | some n =>
    obtain ⟨hn, e1⟩ := tld_lt hT hk hx hd ht
    have e2 : (nI n = (-1 : Int32)) = False := eq_false (nI_m1 (by omega))
    have o1 : ((1 : Int32) = 0) = False := eq_false (by decide)
    simp only [g_Md_nextOf_36, g_Md_nextOf_88, e1, e2, if_false, Option.bind_some, y_I_at (gl_areNb h.1 hx hn)]
    have e36 : ((36 : Int32) * nI x + (6 : Int32) * nI n) + nI d = nI (36 * x + 6 * n + d) := by
      have a1 : (36 : Int32) * nI x = nI (36 * x) := pk_mul 36 x
      have a2 : (6 : Int32) * nI n = nI (6 * n) := pk_mul 6 n
      rw [a1, a2, nI_add, nI_add]
    have d48 : 36 * x + 6 * n + d < md_len 48 := by show _ < 216; omega
    unfold okw
    by_cases hnb : nb σ x n = true
    · simp only [hnb, if_true, o1, if_false, e36, q_I_at d48, Bool.true_and]
      by_cases hba : σ.1 48 (36 * x + 6 * n + d) = 0
      · have hop := gl_opb σ (s := 0) hx hn (by omega)
        rw [nI_0] at hop
        simp only [hba, not_true_eq_false, if_false, y_I_at hop, decide_true, Bool.true_and]
        by_cases ho : opb σ x n 0 = true
        · simp [ho, z_I]
        · simp [ho]
      · simp [hba]
    · simp [hnb]
theorem gl_nextOf {σ : sn_FS} (h : GvOk σ) (hT : ToldOk σ) {x d : Nat} (hx : x < 6) (hd : d < 6) : g_Md_nextOf (nI x) (nI d) σ = some (some (.int (oI (way σ x d 0 none))), σ) := by
  obtain ⟨n, hn⟩ := fuel3
  have e6 : ((6 : Int32) * nI x) + nI d = nI (6 * x + d) := by
    have a1 : (6 : Int32) * nI x = nI (6 * x) := pk_mul 6 x
    rw [a1, nI_add]
  have d50 : 6 * x + d < md_len 50 := by show _ < 36; omega
  have d51 : 6 * x + d < md_len 51 := by show _ < 36; omega
  have o1 : ((2 : Int32) ≤ 0) = False := eq_false (by decide)
  have o2 : ((2 : Int32) ≤ 0 + 1) = False := eq_false (by decide)
  have o3 : ((2 : Int32) ≤ 0 + 1 + 1) = True := eq_true (by decide)
  have o4 : ((0 : Int32) + 1 = 0) = False := eq_false (by decide)
  simp only [g_Md_nextOf, hn, g_Md_nextOf_2, o1, if_false, not_true_eq_false, e6, q_I_at d50, gl_nextOf_36 h hT hx hd (Or.inl rfl), way]
  cases h1 : way1 σ 50 x d 0 none with
  | some a => simp only [Option.some_or, oI]
  | none =>
    simp only [Option.none_or, o2, if_false, o4, not_false_eq_true, if_true, q_I_at d51, gl_nextOf_36 h hT hx hd (Or.inr rfl)]
    cases h2 : way1 σ 51 x d 0 none with
    | some a => simp only [oI]
    | none => simp only [o3, if_true, z_I, oI]
/-- the other way -/
def low5 (σ : sn_FS) (x n i : Nat) : Option Nat := (setFrom σ x n i).find? (fun l => decide (σ.1 10 (en σ l x) = 5))
def S_other (x n s : Nat) (m : Int64) (σ : sn_FS) : sn_FS := match low5 σ x n 0 with
  | some l => S_wait (en σ l x) m σ
  | none => S_route x n s m (some n) σ
theorem gl_otherWay_3 {σ : sn_FS} (h : GvOk σ) (hT : ToldOk σ) {x n : Nat} {m : Msg} (hm : MOk m) (hx : x < 6) (hn : n < 6) : ∀ (d fuel i : Nat), nl σ - i = d → d < fuel → i ≤ nl σ → g_Md_otherWay_3 fuel (nI x) (nI n) (wR m) (nI i) σ = some (none, match low5 σ x n i with
    | some l => S_wait (en σ l x) (wR m) σ
    | none => S_route x n (mL m) (wR m) (some n) σ)
  | 0, fuel + 1, i, hd, _, hi => by
    have hn10 := h.1.2.1
    have e1 : (nI (nl σ) ≤ nI i) = True := eq_true (nI_le (by omega) (by omega))
    have hr := gl_route h hT hm (but := some n) (fun a e => by cases e; exact hn) hx hn
    simp only [bI] at hr
    simp only [g_Md_otherWay_3, q_S, h.1.1, e1, if_true, y_V_at hr, z_V, low5, setFrom_end (by omega : nl σ ≤ i), List.find?_nil]
  | d + 1, fuel + 1, i, hd, hf, hi => by
    have hn10 := h.1.2.1
    have hlt : i < nl σ := by omega
    have e1 : (nI (nl σ) ≤ nI i) = False := eq_false (nI_ge hlt (by omega))
    have o1 : ((1 : Int32) = 0) = False := eq_false (by decide)
    have ih := gl_otherWay_3 h hT hm hx hn d fuel (i + 1) (by omega) (by omega) (by omega)
    have hen := en_lt h.1 (x := x) hlt
    have d10 : en σ i x < md_len 10 := hen.2
    simp only [g_Md_otherWay_3, q_S, h.1.1, e1, if_false, y_I_at (gl_isOf h.1 hlt hx hn), low5]
    rw [setFrom_step hlt]
    by_cases hs : isof σ i x n
    · simp only [hs, if_true, o1, if_false, y_I_at (gl_endAt h.1 hlt hx), q_I_at d10, List.find?_cons]
      by_cases h5 : σ.1 10 (en σ i x) = 5
      · simp only [h5, not_true_eq_false, if_false, y_I_at (gl_endAt h.1 hlt hx), y_V_at (gl_waitAt hen.2 (h.2.1 _ hen.2)), z_V, decide_true]
      · simp only [h5, not_false_eq_true, if_true, g_Md_otherWay_52, nI_1, ih, low5, decide_false]
    · simp only [hs, if_false, if_true, g_Md_otherWay_52, nI_1]
      simpa [low5] using ih
theorem gl_otherWay {σ : sn_FS} (h : GvOk σ) (hT : ToldOk σ) {x n : Nat} {m : Msg} (hm : MOk m) (hx : x < 6) (hn : n < 6) : g_Md_otherWay (nI x) (nI n) (wR m) σ = some (none, S_other x n (mL m) (wR m) σ) := by
  have hn10 := h.1.2.1
  exact gl_otherWay_3 h hT hm hx hn (nl σ) sn_fuel 0 (by omega) (by unfold sn_fuel; omega) (by omega)
