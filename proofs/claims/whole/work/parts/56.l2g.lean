/-! LAYER 2: starting, failing -/
theorem nI_add' (a b : Nat) : nI (a + b) = nI a + nI b := (nI_add a b).symm
theorem PlanOk.ex_lt {σ : sn_FS} (h : PlanOk σ) {e : Nat} (he : e < 2 * nl σ) : ex σ e < 6 ∧ ot σ e < 6 ∧ ex σ e ≠ ot σ e := by
  obtain ⟨p1, p2, p3, p4⟩ := h.2.2 (e / 2) (by omega)
  unfold ex ot
  split <;> omega
theorem SP.exE {σ τ : sn_FS} (h : SP σ τ) : ex τ = ex σ := by funext e; simp only [ex, lo_eq h.1, hi_eq h.2.1]
theorem SP.otE {σ τ : sn_FS} (h : SP σ τ) : ot τ = ot σ := by funext e; simp only [ot, lo_eq h.1, hi_eq h.2.1]
/-- is another link of the set in service at this exchange, from the i-th on? -/
def oth5 (σ : sn_FS) (e : Nat) (i : Nat) : Bool := (setFrom σ (ex σ e) (ot σ e) i).any (fun l => decide (l ≠ e / 2) && decide (σ.1 10 (en σ l (ex σ e)) = 5))
def S_start (e : Nat) (σ : sn_FS) : sn_FS := sI (sI (sI (sI σ 10 e 1) 11 e (σ.1 6 0 + 30)) 37 e ((σ.1 37 e + 1) &&& 15)) 23 e (if oth5 σ e 0 then 0 else 1)
theorem gl_start_52 {σ0 : sn_FS} (h : PlanOk σ0) {e : Nat} (he : e < 2 * nl σ0) (τ : Int32 → sn_FS) (hτ : ∀ v, SP σ0 (τ v)) (h10 : ∀ v i, i ≠ e → (τ v).1 10 i = σ0.1 10 i) (hup : ∀ v w, sI (τ v) 23 e w = τ w) : ∀ (d fuel i : Nat) (v : Int32), nl σ0 - i = d → d < fuel → i ≤ nl σ0 → g_Md_start_52 fuel (nI e) (nI (ex σ0 e)) (nI i) (τ v) = some (none, τ (if oth5 σ0 e i then 0 else v))
  | 0, fuel + 1, i, v, hd, _, hi => by
    have hn10 := h.2.1
    have hp := (hτ v).plan h
    have e1 : (nI (nl σ0) ≤ nI i) = True := eq_true (nI_le (by omega) (by omega))
    have e0 : (τ v).1 4 0 = nI (nl σ0) := by rw [(hτ v).2.2]; exact h.1
    simp only [g_Md_start_52, q_S, e0, e1, if_true, z_V, oth5, setFrom_end (by omega : nl σ0 ≤ i), List.any_nil, Bool.false_eq_true, if_false]
  | d + 1, fuel + 1, i, v, hd, hf, hi => by
    have hn10 := h.2.1
    have hlt : i < nl σ0 := by omega
    have hp := (hτ v).plan h
    have hnl := (hτ v).nlE
    obtain ⟨x1, x2, x3⟩ := h.ex_lt he
    have e1 : (nI (nl σ0) ≤ nI i) = False := eq_false (nI_ge hlt (by omega))
    have e0 : (τ v).1 4 0 = nI (nl σ0) := by rw [(hτ v).2.2]; exact h.1
    have e2 : nI i = nI (e / 2) ↔ i = e / 2 := nI_eq (by omega) (by omega)
    have o1 : ((1 : Int32) = 0) = False := eq_false (by decide)
    have ih := fun w => gl_start_52 h he τ hτ h10 hup d fuel (i + 1) w (by omega) (by omega) (by omega)
    have hot := gl_otherOf hp (e := e) (by rw [hnl]; exact he)
    rw [(hτ v).otE] at hot
    have his := gl_isOf hp (l := i) (by rw [hnl]; exact hlt) x1 x2
    rw [(hτ v).isofE] at his
    have hen := gl_endAt hp (l := i) (by rw [hnl]; exact hlt) x1
    rw [(hτ v).enE] at hen
    have hlt2 := en_lt h (x := ex σ0 e) hlt
    have d10 : en σ0 i (ex σ0 e) < md_len 10 := hlt2.2
    have d23 : e < md_len 23 := by show e < 20; omega
    have hstep : oth5 σ0 e i = (if isof σ0 i (ex σ0 e) (ot σ0 e) then ((decide (i ≠ e / 2) && decide (σ0.1 10 (en σ0 i (ex σ0 e)) = 5)) || oth5 σ0 e (i + 1)) else oth5 σ0 e (i + 1)) := by
      unfold oth5
      rw [setFrom_step hlt]
      split <;> simp
    simp only [g_Md_start_52, q_S, e0, e1, if_false, nI_half (by omega : e < 2 ^ 31), e2, g_Md_start_103, nI_1]
    by_cases c1 : i = e / 2
    · rw [if_pos c1, ih v, hstep]
      simp [c1]
    · rw [if_neg c1, y_I_at hot, y_I_at his]
      by_cases c2 : isof σ0 i (ex σ0 e) (ot σ0 e) = true
      · simp only [c2, if_true, o1, if_false, y_I_at hen, q_I_at d10]
        have hne : en σ0 i (ex σ0 e) ≠ e := by unfold en; split <;> omega
        rw [h10 v _ hne]
        by_cases c3 : σ0.1 10 (en σ0 i (ex σ0 e)) = 5
        · simp only [c3, not_true_eq_false, if_false, w_Z_at d23 (Or.inl rfl), hup, ih, hstep, c2, if_true, ne_eq, c1, not_false_eq_true, decide_true, Bool.and_self, Bool.true_or]
          split <;> rfl
        · simp only [c3, not_false_eq_true, if_true, ih, hstep, c2, decide_false, Bool.and_false, Bool.false_or]
      · simp only [c2, Bool.false_eq_true, if_false, if_true, ih, hstep]
theorem sn_up_up {α : Type} (f : Nat → Nat → α) (a k : Nat) (v w : α) : sn_up (sn_up f a k v) a k w = sn_up f a k w := by
  funext b j
  by_cases h1 : b = a <;> by_cases h2 : j = k <;> simp [sn_up, h1, h2]
theorem gl_start {σ : sn_FS} (h : PlanOk σ) {e : Nat} (he : e < 2 * nl σ) : g_Md_start (nI e) σ = some (none, S_start e σ) := by
  have hn10 := h.2.1
  have d10 : e < md_len 10 := by show e < 20; omega
  have d11 : e < md_len 11 := by show e < 20; omega
  have d37 : e < md_len 37 := by show e < 20; omega
  have d23 : e < md_len 23 := by show e < 20; omega
  simp only [g_Md_start, y_I_at (gl_exchangeOf h he), w_I_at d10, q_S, w_I_at d11, q_I_at d37, w_I_at d37, w_Z_at d23 (Or.inr rfl)]
  have hs := gl_start_52 h he (fun v => sI (sI (sI (sI σ 10 e 1) 11 e (σ.1 6 0 + 30)) 37 e ((σ.1 37 e + 1) &&& 15)) 23 e v) (fun v => (((SP.sI (by decide)).tr (SP.sI (by decide))).tr (SP.sI (by decide))).tr (SP.sI (by decide))) (fun v i hi => by simp [sn_up, hi]) (fun v w => Prod.ext (sn_up_up _ _ _ _ _) rfl) (nl σ) sn_fuel 0 1 (by omega) (by unfold sn_fuel; omega) (by omega)
  have e6 : sn_up σ.1 10 e 1 6 0 = σ.1 6 0 := sn_up_ne _ _ _ _ (by decide)
  have e37 : sn_up (sn_up σ.1 10 e 1) 11 e (σ.1 6 0 + 30) 37 e = σ.1 37 e := by rw [sn_up_ne _ _ _ _ (by decide), sn_up_ne _ _ _ _ (by decide)]
  rw [nI_0] at hs
  rw [e6, e37]
  exact hs
/-- the flows of a set when its link l fails -/
def S_ff1 (x n l s : Nat) (σ : sn_FS) : sn_FS := if σ.1 41 (fl x n s) = nI l then sI (sI (sI (sI σ 41 (fl x n s) (-1)) 42 (fl x n s) 1) 43 (fl x n s) (nI l)) 44 (fl x n s) 0 else σ
def S_ff (x n l : Nat) : Nat → sn_FS → sn_FS
  | 0, σ => σ
  | r + 1, σ => S_ff x n l r (S_ff1 x n l (4 - (r + 1)) σ)
theorem gl_fail_85 {x n e : Nat} {b : Int32} (hx : x < 6) (hn : n < 6) (he : e < 20) : ∀ (r fuel : Nat) (σ : sn_FS), r ≤ 4 → r < fuel → g_Md_fail_85 fuel (nI e) b (nI x) (nI n) (nI (4 - r)) σ = g_Md_fail_85 (fuel - r) (nI e) b (nI x) (nI n) (nI 4) (S_ff x n (e / 2) r σ)
  | 0, fuel, σ, _, _ => rfl
  | r + 1, fuel + 1, σ, hr, hf => by
    have hs : 4 - (r + 1) < 4 := by omega
    have hss : 4 - (r + 1) + 1 = 4 - r := by omega
    generalize hS : 4 - (r + 1) = s at hs hss
    have o1 : ((4 : Int32) ≤ nI s) = False := eq_false (nI_ge (b := 4) hs (by omega))
    have hf1 := fl_lt hx hn hs
    have d41 : fl x n s < md_len 41 := hf1
    have d42 : fl x n s < md_len 42 := hf1
    have d43 : fl x n s < md_len 43 := hf1
    have d44 : fl x n s < md_len 44 := hf1
    have hX : S_ff x n (e / 2) (r + 1) σ = S_ff x n (e / 2) r (S_ff1 x n (e / 2) s σ) := by simp only [S_ff, hS]
    have ih := fun τ => gl_fail_85 (b := b) hx hn he r fuel τ (by omega) (by omega)
    rw [hX, show fuel + 1 - (r + 1) = fuel - r by omega, ← ih]
    conv => lhs; unfold g_Md_fail_85
    simp only [o1, if_false, y_I_at (gl_flowAt σ x n s), q_I_at d41, nI_half (by omega : e < 2 ^ 31), g_Md_fail_152, nI_1, hss]
    unfold S_ff1
    by_cases c1 : σ.1 41 (fl x n s) = nI (e / 2)
    · simp only [c1, if_true, w_I_at d41, w_I_at d42, w_I_at d43, w_I_at d44]
    · simp only [c1, if_false]
def S_out (e : Nat) (σ : sn_FS) : sn_FS := sI (sI (sI (sI σ 10 e 0) 11 e (σ.1 6 0 + 12)) 20 e 0) 21 e (-1)
def S_takeOut (e : Nat) (σ : sn_FS) : sn_FS := if σ.1 10 e = 5 then S_ff (ex σ e) (ot σ e) (e / 2) 4 (sI (S_out e σ) 40 e (σ.1 6 0 + 10)) else S_out e σ
def S_over (e : Nat) (σ : sn_FS) : Int64 := wR (1, ex σ e, ot σ e, 0, e / 2 + 16 * (σ.1 37 e).toNatClampNeg, (σ.1 13 e).toNatClampNeg, 0)
def S_fail (e : Nat) (byOver : Bool) (σ : sn_FS) : sn_FS := S_look (ex σ e) (if σ.1 10 e = 5 ∧ byOver = false then S_other (ex σ e) (ot σ e) 0 (S_over e σ) (S_takeOut e σ) else S_takeOut e σ)
theorem S_ff1_I {x n l s k i : Nat} (σ : sn_FS) (h : k ≠ 41 ∧ k ≠ 42 ∧ k ≠ 43 ∧ k ≠ 44) : (S_ff1 x n l s σ).1 k i = σ.1 k i := by
  unfold S_ff1
  split
  · rw [sI_ne h.2.2.2, sI_ne h.2.2.1, sI_ne h.2.1, sI_ne h.1]
  · rfl
theorem S_ff_I {x n l k i : Nat} (h : k ≠ 41 ∧ k ≠ 42 ∧ k ≠ 43 ∧ k ≠ 44) : ∀ (r : Nat) (σ : sn_FS), (S_ff x n l r σ).1 k i = σ.1 k i
  | 0, σ => rfl
  | r + 1, σ => (S_ff_I h r _).trans (S_ff1_I σ h)
theorem S_ff1_Gv {x n l s : Nat} {σ : sn_FS} (h : GvOk σ) : GvOk (S_ff1 x n l s σ) := by
  have hs : SP σ (S_ff1 x n l s σ) := ⟨fun i => S_ff1_I σ (by decide), fun i => S_ff1_I σ (by decide), fun i => S_ff1_I σ (by decide)⟩
  refine ⟨hs.plan h.1, fun e he => by rw [S_ff1_I σ (by decide)]; exact h.2.1 e he, fun f hf => by rw [S_ff1_I σ (by decide)]; exact h.2.2.1 f hf, fun f hf => ?_⟩
  rw [hs.nlE]
  unfold S_ff1
  split
  · rw [sI_ne (by decide), sI_ne (by decide), sI_ne (k := 44) (k' := 41) (by decide), sI_ne (k := 43) (k' := 41) (by decide), sI_ne (k := 42) (k' := 41) (by decide)]
    by_cases c : f = fl x n s
    · subst c; rw [sI_same]; intro q; exact absurd q (by decide)
    · rw [sI_nk c, sI_nk c, sI_nk c]; exact h.2.2.2 f hf
  · exact h.2.2.2 f hf
theorem S_ff_Gv {x n l : Nat} : ∀ (r : Nat) {σ : sn_FS}, GvOk σ → GvOk (S_ff x n l r σ)
  | 0, σ, h => h
  | r + 1, σ, h => S_ff_Gv r (S_ff1_Gv h)
theorem S_out_I {e k i : Nat} (σ : sn_FS) (h : k ≠ 10 ∧ k ≠ 11 ∧ k ≠ 20 ∧ k ≠ 21) : (S_out e σ).1 k i = σ.1 k i := by
  unfold S_out
  rw [sI_ne h.2.2.2, sI_ne h.2.2.1, sI_ne h.2.1, sI_ne h.1]
theorem S_out_Gv {e : Nat} {σ : sn_FS} (h : GvOk σ) : GvOk (S_out e σ) := (((h.sI (k := 10) (by decide)).sI (k := 11) (by decide)).sI (k := 20) (by decide)).sI (k := 21) (by decide)
theorem S_takeOut_I {e k i : Nat} (σ : sn_FS) (h : k ≠ 10 ∧ k ≠ 11 ∧ k ≠ 20 ∧ k ≠ 21 ∧ k ≠ 40 ∧ k ≠ 41 ∧ k ≠ 42 ∧ k ≠ 43 ∧ k ≠ 44) : (S_takeOut e σ).1 k i = σ.1 k i := by
  obtain ⟨h1, h2, h3, h4, h5, h6, h7, h8, h9⟩ := h
  unfold S_takeOut
  split
  · rw [S_ff_I ⟨h6, h7, h8, h9⟩, sI_ne h5, S_out_I σ ⟨h1, h2, h3, h4⟩]
  · exact S_out_I σ ⟨h1, h2, h3, h4⟩
theorem S_takeOut_Gv {e : Nat} {σ : sn_FS} (h : GvOk σ) : GvOk (S_takeOut e σ) := by
  unfold S_takeOut
  split
  · exact S_ff_Gv 4 ((S_out_Gv h).sI (k := 40) (by decide))
  · exact S_out_Gv h
theorem S_takeOut_SP {e : Nat} (σ : sn_FS) : SP σ (S_takeOut e σ) := ⟨fun i => S_takeOut_I σ (by decide), fun i => S_takeOut_I σ (by decide), fun i => S_takeOut_I σ (by decide)⟩
theorem S_route_I {x d s k i : Nat} {m : Int64} {but : Option Nat} (σ : sn_FS) (h : k ≠ 7 ∧ k ≠ 29 ∧ k ≠ 47) : (S_route x d s m but σ).1 k i = σ.1 k i := by
  unfold S_route
  split
  · exact S_give_I σ h
  · exact S_lost_I σ h.1
theorem S_route_Gv {x d s : Nat} {m : Int64} {but : Option Nat} {σ : sn_FS} (h : GvOk σ) : GvOk (S_route x d s m but σ) := by
  unfold S_route
  split
  · exact S_give_Gv h
  · exact S_lost_Gv h
theorem S_other_I {x n s k i : Nat} {m : Int64} (σ : sn_FS) (h : k ≠ 7 ∧ k ≠ 29 ∧ k ≠ 47) : (S_other x n s m σ).1 k i = σ.1 k i := by
  unfold S_other
  split
  · exact S_wait_I σ ⟨h.1, h.2.1⟩
  · exact S_route_I σ h
theorem S_other_Gv {x n s : Nat} {m : Int64} {σ : sn_FS} (h : GvOk σ) : GvOk (S_other x n s m σ) := by
  unfold S_other
  split
  · exact S_wait_Gv h
  · exact S_route_Gv h
theorem gl_fail_196 {σ : sn_FS} (h : GvOk σ) (hT : ToldOk σ) {x : Nat} (hx : x < 6) : g_Md_fail_196 (nI x) σ = some (none, S_look x σ) := by
  simp only [g_Md_fail_196, y_V_at (gl_look h hT hx), z_V]
theorem gl_fail {σ : sn_FS} (h : GvOk σ) (hT : ToldOk σ) {e : Nat} (he : e < 2 * nl σ) (hlf : ∃ v, v < 16 ∧ σ.1 37 e = nI v) (htk : ∃ v, v < 128 ∧ σ.1 13 e = nI v) (byOver : Bool) : g_Md_fail (nI e) (if byOver then 1 else 0) σ = some (none, S_fail e byOver σ) := by
  have hn10 := h.1.2.1
  obtain ⟨x1, x2, x3⟩ := h.1.ex_lt he
  obtain ⟨lf, hlf, elf⟩ := hlf
  obtain ⟨tk, htk, etk⟩ := htk
  have he20 : e < 20 := by omega
  have d10 : e < md_len 10 := he20
  have d11 : e < md_len 11 := he20
  have d20 : e < md_len 20 := he20
  have d21 : e < md_len 21 := he20
  have d40 : e < md_len 40 := he20
  have d37 : e < md_len 37 := he20
  have d13 : e < md_len 13 := he20
  have hTo := hT.mk' (τ := S_takeOut e σ) (fun i => S_takeOut_I σ (by decide)) (fun i => S_takeOut_I σ (by decide))
  have e6 : sn_up σ.1 10 e 0 6 0 = σ.1 6 0 := sn_up_ne _ _ _ _ (by decide)
  have e6' : sn_up (sn_up (sn_up (sn_up σ.1 10 e 0) 11 e (σ.1 6 0 + 12)) 20 e 0) 21 e (-1) 6 0 = σ.1 6 0 := by
    rw [sn_up_ne _ _ _ _ (by decide), sn_up_ne _ _ _ _ (by decide), sn_up_ne _ _ _ _ (by decide), sn_up_ne _ _ _ _ (by decide)]
  simp only [g_Md_fail, y_I_at (gl_exchangeOf h.1 he), y_I_at (gl_otherOf h.1 he), q_I_at d10]
  by_cases c5 : σ.1 10 e = 5
  · have hto : S_takeOut e σ = S_ff (ex σ e) (ot σ e) (e / 2) 4 (sI (S_out e σ) 40 e (σ.1 6 0 + 10)) := by unfold S_takeOut; rw [if_pos c5]
    have o1 : ((1 : Int32) = 0) = False := eq_false (by decide)
    simp only [c5, not_true_eq_false, if_false, g_Md_fail_28, w_I_at d10, q_S, w_I_at d11, w_I_at d20, w_I_at d21, o1, w_I_at d40, e6, e6']
    have hloop := gl_fail_85 (b := if byOver then 1 else 0) x1 x2 he20 4 sn_fuel (sI (S_out e σ) 40 e (σ.1 6 0 + 10)) (by omega) (by unfold sn_fuel; omega)
    rw [show nI (4 - 4) = (0 : Int32) from rfl, ← hto] at hloop
    refine hloop.trans ?_
    obtain ⟨f, hf⟩ : ∃ f, sn_fuel - 4 = f + 1 := ⟨1048571, rfl⟩
    have o4 : ((4 : Int32) ≤ nI 4) = True := eq_true (by decide)
    rw [hf]
    simp only [g_Md_fail_85, o4, if_true]
    cases byOver with
    | true =>
      simp only [if_true, o1, not_false_eq_true]
      rw [gl_fail_196 (S_takeOut_Gv h) hTo x1]
      unfold S_fail
      simp
    | false =>
      have e37 : (S_takeOut e σ).1 37 e = nI lf := by rw [S_takeOut_I σ (by decide)]; exact elf
      have e13 : (S_takeOut e σ).1 13 e = nI tk := by rw [S_takeOut_I σ (by decide)]; exact etk
      have e16 : nI (e / 2) + (16 : Int32) * nI lf = nI (e / 2 + 16 * lf) := by
        have a1 : (16 : Int32) * nI lf = nI (16 * lf) := pk_mul 16 lf
        rw [a1, nI_add]
      have hmk : MOk (1, ex σ e, ot σ e, 0, e / 2 + 16 * lf, tk, 0) := ⟨(by omega : 1 < 16), x1, x2, (by omega : 0 < 4), (by omega : e / 2 + 16 * lf < 256), (by omega : tk < 65536), (by omega : 0 < 9)⟩
      have hme : g_Md_message (1 : Int32) (nI (ex σ e)) (nI (ot σ e)) (0 : Int32) (nI (e / 2 + 16 * lf)) (nI tk) (S_takeOut e σ) = some (some (.long (wR (1, ex σ e, ot σ e, 0, e / 2 + 16 * lf, tk, 0))), S_takeOut e σ) := gl_message hmk _
      have hov : S_over e σ = wR (1, ex σ e, ot σ e, 0, e / 2 + 16 * lf, tk, 0) := by unfold S_over; rw [elf, etk, nI_clamp (by omega), nI_clamp (by omega)]
      have hoth := gl_otherWay (S_takeOut_Gv h (e := e)) hTo hmk x1 x2
      have hTo2 := hTo.mk' (τ := S_other (ex σ e) (ot σ e) 0 (S_over e σ) (S_takeOut e σ)) (fun i => S_other_I _ (by decide)) (fun i => S_other_I _ (by decide))
      rw [← hov] at hoth hme
      have o0 : ((if false = true then (1 : Int32) else 0) = 0) = True := eq_true rfl
      simp only [o0, not_true_eq_false, if_false, q_I_at d37, q_I_at d13, e37, e13, nI_half (by omega : e < 2 ^ 31), e16, y_J_at hme, y_V_at hoth]
      rw [gl_fail_196 (S_other_Gv (S_takeOut_Gv h)) hTo2 x1]
      unfold S_fail
      simp [c5]
  · have hto : S_takeOut e σ = S_out e σ := by unfold S_takeOut; rw [if_neg c5]
    simp only [c5, not_false_eq_true, if_true, g_Md_fail_28, w_I_at d10, q_S, w_I_at d11, w_I_at d20, w_I_at d21, e6]
    have hh := gl_fail_196 (S_takeOut_Gv h (e := e)) hTo x1
    rw [hto] at hh
    refine Eq.trans hh ?_
    unfold S_fail
    simp [c5, hto]
