/-! LAYER 2, the class: ways, the other way, looking -/
theorem bst_low {σ : sn_FS} {x n : Nat} : bst σ x n 0 = low5 σ x n 0 := by
  have key : ∀ (L : List Nat) (d i : Nat), i + d = L.length → (List.range' i d).findSome? (fun k => (L[(0 + k) % L.length]?).bind (fun l => if σ.1 10 (en σ l x) = 5 then some l else none)) = (L.drop i).find? (fun l => decide (σ.1 10 (en σ l x) = 5)) := by
    intro L d
    induction d with
    | zero => intro i hi; rw [List.drop_eq_nil_of_le (by omega)]; rfl
    | succ d ih =>
      intro i hi
      have hlt : i < L.length := by omega
      rw [List.range'_succ, List.findSome?_cons, List.drop_eq_getElem_cons hlt, List.find?_cons, Nat.zero_add, Nat.mod_eq_of_lt hlt, List.getElem?_eq_getElem hlt, Option.bind_some]
      by_cases c : σ.1 10 (en σ L[i] x) = 5
      · simp [c]
      · simp only [c, if_false, decide_false]
        exact ih (i + 1) (by omega)
  have h := key (setOf σ x n) (setOf σ x n).length 0 (by omega)
  rw [← List.range_eq_range', List.drop_zero] at h
  exact h
section Ways
variable {kk : Nat → Nat} {σ η : sn_FS}
def wR2 (x s : Nat) (o : Option Nat) : Option Nat := o.map (fun n => aF (fl x n s))
theorem fl_placeOf {x n d : Nat} (κ : sn_Mem) : f_Tr_placeOf (nI x) (nI n) (nI d) κ = some (some (.int (nI (36 * x + 6 * n + d))), κ) := by
  have a1 : nI x * (6 : Int32) = nI (x * 6) := pk_mul x 6
  have a2 : nI (x * 6 + n) * (6 : Int32) = nI ((x * 6 + n) * 6) := pk_mul _ 6
  simp only [f_Tr_placeOf, r_I, a1, nI_add, a2]
  congr 5; omega
theorem fl_way_step (hK : KOk kk σ) (hG : PlanOk σ) (hT : ToldOk σ) {x d s k : Nat} (hk : k = 50 ∨ k = 51) (hx : x < 6) (hd : d < 6) (hs : s < 4) {but : Option Nat} (hb : ∀ n, but = some n → n < 6) (K : Int32 → Int32 → Int32 → Int32 → Int32 → sn_M) (x5 : Int32) : (if ¬ bI (tldn σ k x d) = bI but then n_n 8 (some 11) fun a9 => c_R (f_Tr_flowTo a9 (nI x) (bI (tldn σ k x d)) (nI s)) fun v10 => f_Tr_wayTo_41 K 11 (nI x) (nI d) (nI s) (bI but) x5 (bI (tldn σ k x d)) v10 else f_Tr_wayTo_41 K 11 (nI x) (nI d) (nI s) (bI but) x5 (bI (tldn σ k x d)) none) (Kap kk σ η) = match way1 σ k x d s but with
    | some n => some (some (va_rf (some (aF (fl x n s)))), Kap kk σ η)
    | none => K (nI x) (nI d) (nI s) (bI but) (x5 + 1) (Kap kk σ η) := by
  have k11 := hK.1.2.2.2.2.2.2.2.2.2.2.1
  have k15 := hK.1.2.2.2.2.2.2.2.2.2.2.2.2.2.2.1
  have skip : f_Tr_wayTo_41 K 11 (nI x) (nI d) (nI s) (bI but) x5 (bI (tldn σ k x d)) none (Kap kk σ η) = K (nI x) (nI d) (nI s) (bI but) (x5 + 1) (Kap kk σ η) := by
    simp only [x_ite, f_Tr_wayTo_41, if_true, f_Tr_wayTo_74]
  cases ht : tld σ k x d with
  | none =>
    have e1 : tldn σ k x d = none := by simp [tldn, ht]
    have e2 : way1 σ k x d s but = none := by simp [way1, ht]
    rw [e1] at skip ⊢
    rw [e2]
    by_cases c : (bI none : Int32) = bI but
    · rw [if_neg (fun q => q c)]; exact skip
    · rw [if_pos c]
      have hf : f_Tr_flowTo 11 (nI x) (bI none) (nI s) (Kap kk σ η) = some (some (va_rf none), Kap kk σ η) := fl_flowTo_m hK (nI s)
      simp only [x_ite, x_nn, k11, if_true, x_cR hf]
      exact skip
  | some n =>
    obtain ⟨hn, -⟩ := tld_lt hT hk hx hd ht
    by_cases hnb : nb σ x n = true
    · have e1 : tldn σ k x d = some n := by simp [tldn, ht, hnb]
      have e3 : (bI (some n) = bI but) ↔ some n = but := by
        cases but with
        | none => simp only [bI]; exact ⟨fun q => absurd q (nI_m1 (by omega)), fun q => by cases q⟩
        | some b => simp only [bI, Option.some.injEq]; exact nI_eq (by omega) (by have := hb b rfl; omega)
      rw [e1] at skip ⊢
      by_cases c : some n = but
      · have e2 : way1 σ k x d s but = none := by subst c; simp [way1, ht]
        rw [if_neg (fun q => q (e3.mpr c)), e2]; exact skip
      · have hf : f_Tr_flowTo 11 (nI x) (bI (some n)) (nI s) (Kap kk σ η) = some (some (va_rf (some (aF (fl x n s)))), Kap kk σ η) := by
          have := fl_flowTo (η := η) hK hx hn hs
          simp only [x_ite, fR, hnb, if_true] at this
          exact this
        obtain ⟨f1, f2, f3, f4⟩ := hK.flow hx hn hs hnb
        have hbs : bI (some n) = nI n := rfl
        have o1 : (some (aF (fl x n s)) = none) = False := by simp
        have o2 : ((1 : Int32) = 0) = False := eq_false (by decide)
        have hp : 36 * x + 6 * n + d < kL 15 := by show _ < 216; omega
        have hpl := fl_placeOf (x := x) (n := n) (d := d) (Kap kk σ η)
        rw [if_pos (fun q => c (e3.mp q))]
        simp only [x_ite, x_nn, k11, if_true, x_cR hf, f_Tr_wayTo_41, o1, if_false, f1, x_cI (fl_isOpen hK hx hn hs hnb)]
        by_cases co : opb σ x n s = true
        · simp only [x_ite, co, if_true, o2, if_false, x_gR, k11, rr_s11_5, hbs, x_cI hpl, x_aI hp (by decide), k15, rd_a15]
          by_cases cb : σ.1 48 (36 * x + 6 * n + d) = 0
          · have e2 : way1 σ k x d s but = some n := by simp [way1, ht, c, okw, hnb, cb, co]
            simp only [x_ite, cb, not_true_eq_false, if_false, r_R, e2]
          · have e2 : way1 σ k x d s but = none := by simp [way1, ht, okw, cb]
            simp only [x_ite, cb, not_false_eq_true, if_true, f_Tr_wayTo_74, e2]
        · have e2 : way1 σ k x d s but = none := by simp [way1, ht, okw, co]
          simp only [x_ite, co, Bool.false_eq_true, if_false, if_true, f_Tr_wayTo_74, e2]
    · have e1 : tldn σ k x d = none := by simp [tldn, ht, hnb]
      have e2 : way1 σ k x d s but = none := by simp [way1, ht, okw, hnb]
      rw [e1] at skip ⊢
      rw [e2]
      by_cases c : (bI none : Int32) = bI but
      · rw [if_neg (fun q => q c)]; exact skip
      · rw [if_pos c]
        have hf : f_Tr_flowTo 11 (nI x) (bI none) (nI s) (Kap kk σ η) = some (some (va_rf none), Kap kk σ η) := fl_flowTo_m hK (nI s)
        simp only [x_ite, x_nn, k11, if_true, x_cR hf]
        exact skip
theorem fl_way_1 (hK : KOk kk σ) (hG : PlanOk σ) (hT : ToldOk σ) {x d s k : Nat} (hk : k = 50 ∨ k = 51) (hx : x < 6) (hd : d < 6) (hs : s < 4) {but : Option Nat} (hb : ∀ n, but = some n → n < 6) (x5 : Int32) (h5 : ¬ (2 : Int32) ≤ x5) (ht : f_Pl_told 3 (nI x) (nI d) x5 (Kap kk σ η) = some (some (.int (bI (tldn σ k x d))), Kap kk σ η)) (fuel : Nat) : f_Tr_wayTo_3 11 (fuel + 1) (nI x) (nI d) (nI s) (bI but) x5 (Kap kk σ η) = match way1 σ k x d s but with
    | some n => some (some (va_rf (some (aF (fl x n s)))), Kap kk σ η)
    | none => f_Tr_wayTo_3 11 fuel (nI x) (nI d) (nI s) (bI but) (x5 + 1) (Kap kk σ η) := by
  have k11 := hK.1.2.2.2.2.2.2.2.2.2.2.1
  have k3 := hK.1.2.2.1
  rw [← fl_way_step (η := η) hK hG hT hk hx hd hs hb (f_Tr_wayTo_3 11 fuel) x5]
  simp only [f_Tr_wayTo_3, h5, if_false, x_gR, k11, if_true, rr_s11_0, x_nn, k3, x_cI ht]
theorem fl_wayTo (hK : KOk kk σ) (hG : PlanOk σ) (hT : ToldOk σ) {x d s : Nat} (hx : x < 6) (hd : d < 6) (hs : s < 4) {but : Option Nat} (hb : ∀ n, but = some n → n < 6) : f_Tr_wayTo 11 (nI x) (nI d) (nI s) (bI but) (Kap kk σ η) = some (some (va_rf (wR2 x s (way σ x d s but))), Kap kk σ η) := by
  obtain ⟨n, hn⟩ := fuel3
  have o3 : ((2 : Int32) ≤ 0 + 1 + 1) = True := eq_true (by decide)
  obtain ⟨t1, t2⟩ := fl_told (η := η) hK hG hT hx hd
  have t2 := t2 (0 + 1) (by decide)
  have s1 := fl_way_1 hK hG hT (k := 50) (Or.inl rfl) hx hd hs hb 0 (by decide) t1 (n + 2)
  have s2 := fl_way_1 hK hG hT (k := 51) (Or.inr rfl) hx hd hs hb (0 + 1) (by decide) t2 (n + 1)
  simp only [f_Tr_wayTo, hn]
  rw [s1]
  cases h1 : way1 σ 50 x d s but with
  | some a => simp only [way, h1, Option.some_or, wR2, Option.map_some]
  | none =>
    simp only [way, h1, Option.none_or]
    rw [s2]
    cases h2 : way1 σ 51 x d s but with
    | some a => simp only [wR2, Option.map_some]
    | none =>
      simp only [wR2, Option.map_none]
      simp only [f_Tr_wayTo_3, o3, if_true, r_R]
theorem okw_nb {x d s n : Nat} (h : okw σ x d s n = true) : nb σ x n = true ∧ opb σ x n s = true := by
  simp only [okw, Bool.and_eq_true] at h
  exact ⟨h.1, h.2.2⟩
/-- giving on a way -/
theorem fl_giveWay (hK : KOk kk σ) (hH : HR σ η) (hG : GvOk σ) (hT : ToldOk σ) {x d s : Nat} (hx : x < 6) (hd : d < 6) (hs : s < 4) {but : Option Nat} {m : Msg} (hm : MV σ m) : Run kk (f_Tr_give 11 (wR2 x s (way σ x d s but)) (wC m)) σ η none (S_route x d s (wR m) but σ) := by
  unfold S_route
  cases hw : way σ x d s but with
  | none => exact fl_give_none hK hH _
  | some n =>
    obtain ⟨h1, h2, h3⟩ := way_lt hT hx hd hw
    obtain ⟨g1, g2⟩ := okw_nb h2
    exact fl_give hK hH hG hx h1 hs g1 g2 hm
theorem fl_other (hK : KOk kk σ) (hH : HR σ η) (hG : GvOk σ) (hT : ToldOk σ) {x n : Nat} (hx : x < 6) (hn : n < 6) {m : Msg} (hm : MV σ m) : Run kk (f_Tr_goOtherWay 11 (nI x) (nI n) (wC m)) σ η none (S_other x n (mL m) (wR m) σ) := by
  have k11 := hK.1.2.2.2.2.2.2.2.2.2.2.1
  have hb := fl_best (η := η) hK hG.1 hx hn (show 0 < 4 by decide)
  rw [nI_0] at hb
  obtain ⟨q1, q2, q3, q4, q5, q6, q7⟩ := id hm.1
  unfold S_other
  cases hl : low5 σ x n 0 with
  | some l =>
    rw [bst_low, hl] at hb
    have hb : f_Tr_best 11 (nI x) (nI n) 0 (Kap kk σ η) = some (some (va_rf (some (aE (en σ l x)))), Kap kk σ η) := hb
    have hlt := setFrom_mem (List.mem_of_find?_eq_some hl)
    have hen := en_lt hG.1 (x := x) hlt.1
    obtain ⟨θ, a1, a2, a3⟩ := fl_waitAt hK hH hG hen.1 hm
    refine ⟨θ, ?_, a2, a3⟩
    have o1 : (some (aE (en σ l x)) = none) = False := by simp
    simp only [x_ite, f_Tr_goOtherWay, f_Tr_goOtherWay_40, x_nn, k11, if_true, x_cR hb, o1, if_false, x_cV a1, r_V]
  | none =>
    rw [bst_low, hl] at hb
    have hb : f_Tr_best 11 (nI x) (nI n) 0 (Kap kk σ η) = some (some (va_rf none), Kap kk σ η) := hb
    have hway := fl_wayTo (η := η) hK hG.1 hT hx hn q4 (but := some n) (fun a e => by cases e; exact hn)
    have hway : f_Tr_wayTo 11 (nI x) (nI n) (nI (mL m)) (nI n) (Kap kk σ η) = _ := hway
    obtain ⟨θ, a1, a2, a3⟩ := fl_giveWay hK hH hG hT hx hn q4 (but := some n) hm
    refine ⟨θ, ?_, a2, a3⟩
    simp only [x_ite, f_Tr_goOtherWay, f_Tr_goOtherWay_40, x_nn, k11, if_true, x_cR hb, x_cI (fl_lane hm.1 _), x_cR hway, x_cV a1, r_V]
/-- looking, place by place -/
def S_lookC (x : Nat) : Nat → sn_FS → sn_FS
  | 0, σ => σ
  | r + 1, σ => S_lookC x r (if (36 - (r + 1)) / 6 = x then σ else S_look1 x ((36 - (r + 1)) / 6) (way σ x ((36 - (r + 1)) / 6) 0 none) ((36 - (r + 1)) % 6) σ)
end Ways
theorem way_eq {σ τ : sn_FS} (hs : SP σ τ) (h : ∀ k i, k = 41 ∨ k = 42 ∨ k = 48 ∨ k = 50 ∨ k = 51 → τ.1 k i = σ.1 k i) : way τ = way σ := by
  funext x d s but
  have e1 : opb τ = opb σ := by funext a b c; simp only [opb, h 41 _ (by decide), h 42 _ (by decide)]
  have e2 : okw τ = okw σ := by funext a b c d; simp only [okw, hs.nbE, e1, h 48 _ (by decide)]
  simp only [way, way1, tld, e2, h 50 _ (by decide), h 51 _ (by decide)]
theorem S_look1_SP {x d n : Nat} {nx : Option Nat} (σ : sn_FS) : SP σ (S_look1 x d nx n σ) := ⟨fun i => S_look1_I σ (by decide), fun i => S_look1_I σ (by decide), fun i => S_look1_I σ (by decide)⟩
theorem S_look1_way {x d n : Nat} {nx : Option Nat} (σ : sn_FS) : way (S_look1 x d nx n σ) = way σ := way_eq (S_look1_SP σ) (fun k i h => S_look1_I σ (by omega))
theorem S_look_C (x : Nat) (σ : sn_FS) : S_look x σ = S_lookC x 36 σ := by
  have hrow : ∀ (d q : Nat), d + q + 1 = 6 → ∀ (r : Nat) (σ : sn_FS), r ≤ 6 → S_lookC x (6 * q + r) σ = S_lookC x (6 * q) (if d = x then σ else S_lookR x d (way σ x d 0 none) r σ) := by
    intro d q hd r
    induction r with
    | zero => intro σ _; simp only [S_lookR, ite_self, Nat.add_zero]
    | succ r ih =>
      intro σ hr
      have e1 : (36 - (6 * q + r + 1)) / 6 = d := by omega
      have e2 : (36 - (6 * q + r + 1)) % 6 = 6 - (r + 1) := by omega
      show S_lookC x (6 * q + r + 1) σ = _
      simp only [S_lookC, e1, e2]
      rw [ih _ (by omega)]
      by_cases c : d = x
      · simp only [x_ite, c, if_true]
      · simp only [c, if_false, S_lookR, S_look1_way]
  have hcol : ∀ (q : Nat) (σ : sn_FS), q ≤ 6 → S_lookC x (6 * q) σ = S_lookQ x q σ := by
    intro q
    induction q with
    | zero => intro σ _; rfl
    | succ q ih =>
      intro σ hq
      have h := hrow (6 - (q + 1)) q (by omega) 6 σ (by omega)
      rw [show 6 * (q + 1) = 6 * q + 6 by omega, h, ih _ (by omega)]
      rfl
  exact (hcol 6 σ (by omega)).symm
theorem tcd_5 {v : Int32} : tcd v = 5 ↔ v = 1 := by
  unfold tcd
  split
  · simp [*]
  · split
    · rename_i h1 h2; subst h2; decide
    · rename_i h1 h2; exact ⟨fun q => absurd q (by decide), fun q => absurd q h1⟩
theorem tcd_6 {v : Int32} : tcd v = 6 ↔ v = 2 := by
  unfold tcd
  split
  · rename_i h1; subst h1; decide
  · split
    · simp [*]
    · rename_i h1 h2; exact ⟨fun q => absurd q (by decide), fun q => absurd q h2⟩
section Look
variable {kk : Nat → Nat} {σ η : sn_FS}
theorem fl_look1 (hK : KOk kk σ) (hH : HR σ η) (hG : GvOk σ) (hT : ToldOk σ) {x d n : Nat} (hx : x < 6) (hd : d < 6) (hn : n < 6) (fuel : Nat) : ∃ θ, f_Tr_look_2 11 (fuel + 1) (nI x) (nI (6 * d + n)) (Kap kk σ η) = f_Tr_look_2 11 fuel (nI x) (nI (6 * d + n + 1)) (Kap kk (if d = x then σ else S_look1 x d (way σ x d 0 none) n σ) θ) ∧ HR (if d = x then σ else S_look1 x d (way σ x d 0 none) n σ) θ ∧ PE η θ := by
  have k11 := hK.1.2.2.2.2.2.2.2.2.2.2.1
  have k16 := hK.1.2.2.2.2.2.2.2.2.2.2.2.2.2.2.2.1
  have o1 : ((36 : Int32) ≤ nI (6 * d + n)) = False := eq_false (nI_ge (b := 36) (by omega) (by omega))
  have e1 : nI (6 * d + n) / (6 : Int32) = nI d := by
    have : nI (6 * d + n) / (6 : Int32) = nI ((6 * d + n) / 6) := pk_div (d := 6) (by omega) (by omega) (by omega)
    rw [this]; congr 1; omega
  have e2 : nI (6 * d + n) % (6 : Int32) = nI n := by
    have : nI (6 * d + n) % (6 : Int32) = nI ((6 * d + n) % 6) := nI_mod (d := 6) (by omega) (by omega) (by omega)
    rw [this]; congr 1; omega
  have hfl := fl_flowTo (η := η) hK hx hn (show 0 < 4 by decide)
  rw [nI_0] at hfl
  have o2 : nI d = nI x ↔ d = x := nI_eq (by omega) (by omega)
  have o3 : nI d = nI n ↔ d = n := nI_eq (by omega) (by omega)
  have o4 : ((1 : Int32) = 0) = False := eq_false (by decide)
  by_cases cnb : nb σ x n = true
  · have hfl : f_Tr_flowTo 11 (nI x) (nI n) 0 (Kap kk σ η) = some (some (va_rf (some (aF (fl x n 0)))), Kap kk σ η) := by rw [hfl, fR, if_pos cnb]
    obtain ⟨f1, f2, f3, f4⟩ := hK.flow hx hn (show 0 < 4 by decide) cnb
    have o5 : (some (aF (fl x n 0)) = none) = False := by simp
    simp only [x_ite, f_Tr_look_2, o1, n_I, e1, e2, k11, if_true, x_cR hfl, o5, if_false, x_nn, f1, x_cI (fl_isOpen hK hx hn (show 0 < 4 by decide) cnb)]
    by_cases co : opb σ x n 0 = true
    · simp only [x_ite, co, if_true, o4, if_false, o2, o3]
      by_cases c1 : d = x
      · simp only [x_ite, c1, if_true, f_Tr_look_133, nI_1]
        exact ⟨η, rfl, hH, PE.rf⟩
      · by_cases c2 : d = n
        · have hS : S_look1 x d (way σ x d 0 none) n σ = σ := by simp [S_look1, c2]
          simp only [x_ite, c1, if_false, hS]
          simp only [x_ite, c2, not_true_eq_false, if_false, f_Tr_look_133, nI_1]
          exact ⟨η, rfl, hH, PE.rf⟩
        · have hway := fl_wayTo (η := η) hK hG.1 hT hx hd (show 0 < 4 by decide) (but := none) (fun a e => by cases e)
          rw [nI_0] at hway
          have hway : f_Tr_wayTo 11 (nI x) (nI d) 0 (-1) (Kap kk σ η) = _ := hway
          have hxn : n ≠ x := fun e => by subst e; simp [nb] at cnb
          have hpl := fl_placeOf (x := x) (n := n) (d := d) (Kap kk σ η)
          have hp : 36 * x + 6 * n + d < kL 16 := by show _ < 216; omega
          have key : ∀ (kd : Nat) (is : Int32), (kd = 5 ∧ is = 1) ∨ (kd = 6 ∧ is = 2) → is = isI (way σ x d 0 none) n → kd = isK (way σ x d 0 none) n → ∃ θ, f_Tr_look_84 (f_Tr_look_2 11 fuel) 11 (nI x) (nI (6 * d + n)) (nI d) (nI n) (some (aF (fl x n 0))) (nI kd) (Kap kk σ η) = f_Tr_look_2 11 fuel (nI x) (nI (6 * d + n + 1)) (Kap kk (S_look1 x d (way σ x d 0 none) n σ) θ) ∧ HR (S_look1 x d (way σ x d 0 none) n σ) θ ∧ PE η θ := by
            intro kd is hc h1 h2
            have ht : (tcd (σ.1 49 (36 * x + 6 * n + d)) = nI kd) ↔ σ.1 49 (36 * x + 6 * n + d) = is := by
              rcases hc with ⟨rfl, rfl⟩ | ⟨rfl, rfl⟩
              · exact tcd_5
              · exact tcd_6
            have htc : nI kd = tcd is := by rcases hc with ⟨rfl, rfl⟩ | ⟨rfl, rfl⟩ <;> rfl
            simp only [x_ite, f_Tr_look_84, x_cI hpl, x_gR, k11, if_true, rr_s11_6, x_aI hp (by decide), k16, rd_a16, ht]
            by_cases c5 : σ.1 49 (36 * x + 6 * n + d) = is
            · have hS : S_look1 x d (way σ x d 0 none) n σ = σ := by simp only [S_look1, Ne.symm c2, hxn, cnb, co, ← h1, c5, false_or, Bool.true_eq_false, or_self, if_false, if_true]
              rw [hS]
              simp only [x_ite, c5, if_true, f_Tr_look_133, nI_1]
              exact ⟨η, rfl, hH, PE.rf⟩
            · have hS : S_look1 x d (way σ x d 0 none) n σ = S_give x n 0 (wR (kd, x, n, 0, d, 0, 0)) (sI σ 49 (36 * x + 6 * n + d) is) := by simp only [S_look1, Ne.symm c2, hxn, cnb, co, ← h1, ← h2, c5, false_or, Bool.true_eq_false, or_self, if_false]
              have hs2 : SP σ (sI σ 49 (36 * x + 6 * n + d) is) := SP.sI (by decide)
              have hmk : MOk (kd, x, n, 0, d, 0, 0) := ⟨(by omega : kd < 16), hx, hn, (by omega : 0 < 4), (by omega : d < 256), (by omega : 0 < 65536), (by omega : 0 < 9)⟩
              have hmv : MV (sI σ 49 (36 * x + 6 * n + d) is) (kd, x, n, 0, d, 0, 0) := by
                rw [MV.sp hs2]
                exact ⟨hmk, (by omega : 0 < 8), (by omega : 1 ≤ kd), (by omega : kd ≤ 14), cnb, (fun (q : kd ≤ 2) => by omega), (fun (q : kd = 3 ∨ kd = 4) => by omega), (fun _ => hd), (fun (q : kd = 7) => by omega)⟩
              have ho2 : opb (sI σ 49 (36 * x + 6 * n + d) is) x n 0 = true := by
                have : opb (sI σ 49 (36 * x + 6 * n + d) is) x n 0 = opb σ x n 0 := by simp only [opb, sn_upE, Nat.reduceEqDiff, reduceIte]
                rw [this]; exact co
              obtain ⟨θ, a1, a2, a3⟩ := fl_give (hK.sp hs2) (hH.mI (k := 49) (i := 36 * x + 6 * n + d) (v := is) (by decide)) (hG.sI (by decide)) hx hn (show 0 < 4 by decide) (by rw [hs2.nbE]; exact cnb) ho2 hmv
              have hof := fl_of hmk (Kap kk (sI σ 49 (36 * x + 6 * n + d) is) η)
              rw [nI_0] at hof
              rw [hS]
              simp only [x_ite, c5, if_false, x_gR, k11, if_true, rr_s11_6, x_bI hp (by decide), k16]
              rw [htc, wr_a16, ← htc]
              simp only [x_ite, x_cJ hof, x_nn, k11, if_true, x_cV a1, f_Tr_look_133, nI_1]
              exact ⟨θ, rfl, a2, a3⟩
          cases hw : way σ x d 0 none with
          | none =>
            rw [hw] at hway
            have hway : f_Tr_wayTo 11 (nI x) (nI d) 0 (-1) (Kap kk σ η) = some (some (va_rf none), Kap kk σ η) := hway
            simp only [x_ite, c1, c2, not_false_eq_true, if_true, if_false, x_nn, k11, x_cR hway, f_Tr_look_78]
            rw [← hw]
            exact key 5 1 (Or.inl ⟨rfl, rfl⟩) (by simp [isI, lkI, hw]) (by simp [isK, lkI, hw])
          | some n' =>
            have o6 : (some (aF (fl x n' 0)) = none) = False := by simp
            have hn' := (way_lt hT hx hd hw).1
            have o7 : (some (aF (fl x n' 0)) = some (aF (fl x n 0))) ↔ n' = n := by
              simp only [Option.some.injEq, aF, fl]; omega
            rw [hw] at hway
            have hway : f_Tr_wayTo 11 (nI x) (nI d) 0 (-1) (Kap kk σ η) = some (some (va_rf (some (aF (fl x n' 0)))), Kap kk σ η) := hway
            simp only [x_ite, c1, c2, not_false_eq_true, if_true, if_false, x_nn, k11, x_cR hway, o6, o7]
            rw [← hw]
            by_cases c6 : n' = n
            · simp only [x_ite, c6, not_true_eq_false, if_false, f_Tr_look_78]
              exact key 5 1 (Or.inl ⟨rfl, rfl⟩) (by simp [isI, lkI, hw, c6]) (by simp [isK, lkI, hw, c6])
            · simp only [x_ite, c6, not_false_eq_true, if_true]
              exact key 6 2 (Or.inr ⟨rfl, rfl⟩) (by simp [isI, lkI, hw, c6]) (by simp [isK, lkI, hw, c6])
    · have hS : S_look1 x d (way σ x d 0 none) n σ = σ := by simp [S_look1, co]
      simp only [x_ite, co, Bool.false_eq_true, if_false, if_true, f_Tr_look_133, nI_1, hS, ite_self]
      exact ⟨η, rfl, hH, PE.rf⟩
  · have hS : S_look1 x d (way σ x d 0 none) n σ = σ := by simp [S_look1, cnb]
    have hfl : f_Tr_flowTo 11 (nI x) (nI n) 0 (Kap kk σ η) = some (some (va_rf none), Kap kk σ η) := by rw [hfl, fR, if_neg cnb]
    simp only [x_ite, f_Tr_look_2, o1, n_I, e1, e2, k11, x_nn, if_false, if_true, x_cR hfl, f_Tr_look_133, nI_1, hS, ite_self]
    exact ⟨η, rfl, hH, PE.rf⟩
theorem fl_lookC {x : Nat} (hx : x < 6) : ∀ (r fuel : Nat) (σ η : sn_FS), r ≤ 36 → r < fuel → KOk kk σ → HR σ η → GvOk σ → ToldOk σ → Run kk (f_Tr_look_2 11 fuel (nI x) (nI (36 - r))) σ η none (S_lookC x r σ)
  | 0, fuel + 1, σ, η, _, _, hK, hH, _, _ => by
    have o1 : ((36 : Int32) ≤ nI (36 - 0)) = True := eq_true (by decide)
    refine ⟨η, ?_, hH, PE.rf⟩
    simp only [x_ite, f_Tr_look_2, o1, if_true, r_V, S_lookC]
  | r + 1, fuel + 1, σ, η, hr, hf, hK, hH, hG, hT => by
    have e0 : 36 - (r + 1) = 6 * ((36 - (r + 1)) / 6) + (36 - (r + 1)) % 6 := by omega
    have e1 : 6 * ((36 - (r + 1)) / 6) + (36 - (r + 1)) % 6 + 1 = 36 - r := by omega
    obtain ⟨θ, a1, a2, a3⟩ := fl_look1 hK hH hG hT hx (d := (36 - (r + 1)) / 6) (n := (36 - (r + 1)) % 6) (by omega) (by omega) fuel
    rw [e1] at a1
    rw [← e0] at a1
    have hs : SP σ (if (36 - (r + 1)) / 6 = x then σ else S_look1 x ((36 - (r + 1)) / 6) (way σ x ((36 - (r + 1)) / 6) 0 none) ((36 - (r + 1)) % 6) σ) := by
      split
      · exact SP.rf
      · exact S_look1_SP σ
    have hG2 : GvOk (if (36 - (r + 1)) / 6 = x then σ else S_look1 x ((36 - (r + 1)) / 6) (way σ x ((36 - (r + 1)) / 6) 0 none) ((36 - (r + 1)) % 6) σ) := by
      split
      · exact hG
      · exact S_look1_Gv hG
    have hT2 : ToldOk (if (36 - (r + 1)) / 6 = x then σ else S_look1 x ((36 - (r + 1)) / 6) (way σ x ((36 - (r + 1)) / 6) 0 none) ((36 - (r + 1)) % 6) σ) := by
      split
      · exact hT
      · exact hT.mk' (fun i => S_look1_I σ (by decide)) (fun i => S_look1_I σ (by decide))
    obtain ⟨θ2, b1, b2, b3⟩ := fl_lookC hx r fuel _ θ (by omega) (by omega) (hK.sp hs) a2 hG2 hT2
    exact ⟨θ2, a1.trans b1, b2, a3.tr b3⟩
theorem fl_look (hK : KOk kk σ) (hH : HR σ η) (hG : GvOk σ) (hT : ToldOk σ) {x : Nat} (hx : x < 6) : Run kk (f_Tr_look 11 (nI x)) σ η none (S_look x σ) := by
  rw [S_look_C]
  exact fl_lookC hx 36 sn_fuel σ η (by omega) (by unfold sn_fuel; omega) hK hH hG hT
end Look
