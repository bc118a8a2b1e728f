/-! LAYER 2: the reference's object made: its loops -/
def g_in4 : Nat → Int32 → sn_G
  | 0, _ => z_0
  | n + 1, x1 => (if (20 : Int32) ≤ x1 then z_V else y_V (g_Md_fresh x1) (g_in4 n (x1 + (1 : Int32))))
def g_in3 : Nat → Int32 → sn_G
  | 0, _ => z_0
  | n + 1, x1 => (if (24 : Int32) ≤ x1 then g_in4 sn_fuel (0 : Int32) else w_I 62 x1 (-1 : Int32) (g_in3 n (x1 + (1 : Int32))))
def g_in2 : Nat → Int32 → sn_G
  | 0, _ => z_0
  | n + 1, x1 => (if (36 : Int32) ≤ x1 then g_in3 sn_fuel (0 : Int32) else w_I 50 x1 (-1 : Int32) (w_I 51 x1 (-1 : Int32) (g_in2 n (x1 + (1 : Int32)))))
def g_in1 : Nat → Int32 → sn_G
  | 0, _ => z_0
  | n + 1, x1 => (if (144 : Int32) ≤ x1 then g_in2 sn_fuel (0 : Int32) else w_I 41 x1 (-1 : Int32) (w_I 43 x1 (-1 : Int32) (w_I 57 x1 (-1 : Int32) (w_I 58 x1 (-1 : Int32) (g_in1 n (x1 + (1 : Int32)))))))
theorem lf_in4 (M : Nat) : ∀ n x1, sn_Lf M (f_Md_init_584 M n x1) (g_in4 n x1)
  | 0, _ => sn_Lf.z0
  | n + 1, x1 => sn_Lf.ite sn_Lf.V (sn_Lf.nn (sn_Lf.cV (lf_Md_fresh M x1) (lf_in4 M n (x1 + 1))))
theorem lf_in3 (M : Nat) : ∀ n x1, sn_Lf M (f_Md_init_563 M n x1) (g_in3 n x1)
  | 0, _ => sn_Lf.z0
  | n + 1, x1 => sn_Lf.ite (lf_in4 M sn_fuel 0) (sn_Lf.gR (k := 62) (by decide) (sn_Lf.bI (k := 62) (by decide) (lf_in3 M n (x1 + 1))))
theorem lf_in2 (M : Nat) : ∀ n x1, sn_Lf M (f_Md_init_535 M n x1) (g_in2 n x1)
  | 0, _ => sn_Lf.z0
  | n + 1, x1 => sn_Lf.ite (lf_in3 M sn_fuel 0) (sn_Lf.gR (k := 50) (by decide) (sn_Lf.bI (k := 50) (by decide) (sn_Lf.gR (k := 51) (by decide) (sn_Lf.bI (k := 51) (by decide) (lf_in2 M n (x1 + 1))))))
theorem lf_in1 (M : Nat) : ∀ n x1, sn_Lf M (f_Md_init_492 M n x1) (g_in1 n x1)
  | 0, _ => sn_Lf.z0
  | n + 1, x1 => sn_Lf.ite (lf_in2 M sn_fuel 0) (sn_Lf.gR (k := 41) (by decide) (sn_Lf.bI (k := 41) (by decide) (sn_Lf.gR (k := 43) (by decide) (sn_Lf.bI (k := 43) (by decide) (sn_Lf.gR (k := 57) (by decide) (sn_Lf.bI (k := 57) (by decide) (sn_Lf.gR (k := 58) (by decide) (sn_Lf.bI (k := 58) (by decide) (lf_in1 M n (x1 + 1))))))))))
def Fi (c : Nat → Option Int32) (i : Nat) (σ : sn_FS) : sn_FS := (fun k j => if j < i then (c k).getD (σ.1 k j) else σ.1 k j, σ.2)
theorem Fi_0 {c : Nat → Option Int32} {σ : sn_FS} : Fi c 0 σ = σ := by
  refine Prod.ext ?_ rfl
  funext k j
  show (if j < 0 then (c k).getD (σ.1 k j) else σ.1 k j) = σ.1 k j
  rw [if_neg (Nat.not_lt_zero j)]
theorem Fi_s {c : Nat → Option Int32} {i : Nat} {σ σ' : sn_FS} (h0 : σ'.2 = σ.2) (h1 : ∀ k j, j ≠ i → σ'.1 k j = (Fi c i σ).1 k j) (h2 : ∀ k, σ'.1 k i = (c k).getD (σ.1 k i)) : σ' = Fi c (i + 1) σ := by
  refine Prod.ext ?_ h0
  funext k j
  by_cases q : j = i
  · subst q
    rw [h2]
    exact (if_pos (by omega)).symm
  · rw [h1 k j q]
    show (if j < i then _ else _) = if j < i + 1 then _ else _
    by_cases p : j < i
    · rw [if_pos p, if_pos (by omega)]
    · rw [if_neg p, if_neg (by omega)]
theorem Fi_at {c : Nat → Option Int32} {i k : Nat} {σ : sn_FS} : (Fi c i σ).1 k i = σ.1 k i := if_neg (by omega)
def c_1 (k : Nat) : Option Int32 := if k = 58 then some (-1) else if k = 57 then some (-1) else if k = 43 then some (-1) else if k = 41 then some (-1) else none
def c_2 (k : Nat) : Option Int32 := if k = 51 then some (-1) else if k = 50 then some (-1) else none
def c_3 (k : Nat) : Option Int32 := if k = 62 then some (-1) else none
def c_4 (k : Nat) : Option Int32 := if k = 21 then some (-1) else if k = 19 then some 0 else if k = 16 then some 0 else if k = 15 then some 1 else if k = 14 then some 1 else if k = 13 then some 127 else if k = 12 then some 127 else none
theorem gd_ite {c : Prop} [Decidable c] {v w : Int32} {o : Option Int32} : (if c then some v else o).getD w = if c then v else o.getD w := by split <;> rfl
theorem md_lns : md_len 41 = 144 ∧ md_len 43 = 144 ∧ md_len 57 = 144 ∧ md_len 58 = 144 ∧ md_len 50 = 36 ∧ md_len 51 = 36 ∧ md_len 62 = 24 ∧ md_len 12 = 20 ∧ md_len 13 = 20 ∧ md_len 14 = 20 ∧ md_len 15 = 20 ∧ md_len 16 = 20 ∧ md_len 19 = 20 ∧ md_len 21 = 20 := by decide
theorem n1 (i : Nat) : nI i + (1 : Int32) = nI (i + 1) := (nI_add' i 1).symm
theorem gl_in4 (σ : sn_FS) : ∀ r i n, i + r = 20 → r < n → g_in4 n (nI i) (Fi c_4 i σ) = some (none, Fi c_4 20 σ)
  | 0, i, n, h, hn => by
    obtain ⟨n, rfl⟩ : ∃ m, n = m + 1 := ⟨n - 1, by omega⟩
    obtain rfl : i = 20 := by omega
    rfl
  | r + 1, i, n, h, hn => by
    obtain ⟨n, rfl⟩ : ∃ m, n = m + 1 := ⟨n - 1, by omega⟩
    have e : ((20 : Int32) ≤ nI i) = False := eq_false (fun q => by have := (nI_leI (a := 20) (b := i) (by omega) (by omega)).mp q; omega)
    obtain ⟨-, -, -, -, -, -, -, d1, d2, d3, d4, d5, d6, d7⟩ := md_lns
    have hf : g_Md_fresh (nI i) (Fi c_4 i σ) = some (none, Fi c_4 (i + 1) σ) := by
      simp only [g_Md_fresh, w_I_at (k := 12) (i := i) (by omega), w_I_at (k := 13) (i := i) (by omega), w_I_at (k := 14) (i := i) (by omega), w_I_at (k := 15) (i := i) (by omega), w_I_at (k := 16) (i := i) (by omega), w_I_at (k := 19) (i := i) (by omega), w_I_at (k := 21) (i := i) (by omega), z_V]
      congr 2
      refine Fi_s rfl (fun k j hj => ?_) (fun k => ?_)
      · simp only [sn_upE, hj, if_false, ite_self]
      · simp only [sn_upE, if_true, c_4, gd_ite, Fi_at]; rfl
    simp only [g_in4, e, if_false, y_V_at hf, n1]
    exact gl_in4 σ r (i + 1) n (by omega) (by omega)
theorem gl_in3 (σ : sn_FS) : ∀ r i n, i + r = 24 → r < n → g_in3 n (nI i) (Fi c_3 i σ) = g_in4 sn_fuel 0 (Fi c_3 24 σ)
  | 0, i, n, h, hn => by
    obtain ⟨n, rfl⟩ : ∃ m, n = m + 1 := ⟨n - 1, by omega⟩
    obtain rfl : i = 24 := by omega
    have e : ((24 : Int32) ≤ nI 24) = True := eq_true (by decide)
    simp only [g_in3, e, if_true]
  | r + 1, i, n, h, hn => by
    obtain ⟨n, rfl⟩ : ∃ m, n = m + 1 := ⟨n - 1, by omega⟩
    have e : ((24 : Int32) ≤ nI i) = False := eq_false (fun q => by have := (nI_leI (a := 24) (b := i) (by omega) (by omega)).mp q; omega)
    obtain ⟨-, -, -, -, -, -, d0, -⟩ := md_lns
    have hs : sI (Fi c_3 i σ) 62 i (-1) = Fi c_3 (i + 1) σ := by
      refine Fi_s rfl (fun k j hj => ?_) (fun k => ?_)
      · simp only [sn_upE, hj, if_false, ite_self]
      · simp only [sn_upE, if_true, c_3, gd_ite, Fi_at]; rfl
    simp only [g_in3, e, if_false, w_I_at (k := 62) (i := i) (by omega), hs, n1]
    exact gl_in3 σ r (i + 1) n (by omega) (by omega)
theorem gl_in2 (σ : sn_FS) : ∀ r i n, i + r = 36 → r < n → g_in2 n (nI i) (Fi c_2 i σ) = g_in3 sn_fuel 0 (Fi c_2 36 σ)
  | 0, i, n, h, hn => by
    obtain ⟨n, rfl⟩ : ∃ m, n = m + 1 := ⟨n - 1, by omega⟩
    obtain rfl : i = 36 := by omega
    have e : ((36 : Int32) ≤ nI 36) = True := eq_true (by decide)
    simp only [g_in2, e, if_true]
  | r + 1, i, n, h, hn => by
    obtain ⟨n, rfl⟩ : ∃ m, n = m + 1 := ⟨n - 1, by omega⟩
    have e : ((36 : Int32) ≤ nI i) = False := eq_false (fun q => by have := (nI_leI (a := 36) (b := i) (by omega) (by omega)).mp q; omega)
    obtain ⟨-, -, -, -, d0, d1, -⟩ := md_lns
    have hs : sI (sI (Fi c_2 i σ) 50 i (-1)) 51 i (-1) = Fi c_2 (i + 1) σ := by
      refine Fi_s rfl (fun k j hj => ?_) (fun k => ?_)
      · simp only [sn_upE, hj, if_false, ite_self]
      · simp only [sn_upE, if_true, c_2, gd_ite, Fi_at]; rfl
    simp only [g_in2, e, if_false, w_I_at (k := 50) (i := i) (by omega), w_I_at (k := 51) (i := i) (by omega), hs, n1]
    exact gl_in2 σ r (i + 1) n (by omega) (by omega)
theorem gl_in1 (σ : sn_FS) : ∀ r i n, i + r = 144 → r < n → g_in1 n (nI i) (Fi c_1 i σ) = g_in2 sn_fuel 0 (Fi c_1 144 σ)
  | 0, i, n, h, hn => by
    obtain ⟨n, rfl⟩ : ∃ m, n = m + 1 := ⟨n - 1, by omega⟩
    obtain rfl : i = 144 := by omega
    have e : ((144 : Int32) ≤ nI 144) = True := eq_true (by decide)
    simp only [g_in1, e, if_true]
  | r + 1, i, n, h, hn => by
    obtain ⟨n, rfl⟩ : ∃ m, n = m + 1 := ⟨n - 1, by omega⟩
    have e : ((144 : Int32) ≤ nI i) = False := eq_false (fun q => by have := (nI_leI (a := 144) (b := i) (by omega) (by omega)).mp q; omega)
    obtain ⟨d0, d1, d2, d3, -⟩ := md_lns
    have hs : sI (sI (sI (sI (Fi c_1 i σ) 41 i (-1)) 43 i (-1)) 57 i (-1)) 58 i (-1) = Fi c_1 (i + 1) σ := by
      refine Fi_s rfl (fun k j hj => ?_) (fun k => ?_)
      · simp only [sn_upE, hj, if_false, ite_self]
      · simp only [sn_upE, if_true, c_1, gd_ite, Fi_at]; rfl
    simp only [g_in1, e, if_false, w_I_at (k := 41) (i := i) (by omega), w_I_at (k := 43) (i := i) (by omega), w_I_at (k := 57) (i := i) (by omega), w_I_at (k := 58) (i := i) (by omega), hs, n1]
    exact gl_in1 σ r (i + 1) n (by omega) (by omega)
/-- the reference at the start -/
def s00 : sn_FS := (fun _ _ => 0, fun _ _ => 0)
def s0 : sn_FS := Fi c_4 20 (Fi c_3 24 (Fi c_2 36 (Fi c_1 144 s00)))
theorem gl_init : g_in1 sn_fuel 0 s00 = some (none, s0) := by
  have h1 := gl_in1 s00 144 0 sn_fuel rfl (by decide)
  have h2 := gl_in2 (Fi c_1 144 s00) 36 0 sn_fuel rfl (by decide)
  have h3 := gl_in3 (Fi c_2 36 (Fi c_1 144 s00)) 24 0 sn_fuel rfl (by decide)
  have h4 := gl_in4 (Fi c_3 24 (Fi c_2 36 (Fi c_1 144 s00))) 20 0 sn_fuel rfl (by decide)
  rw [Fi_0] at h1 h2 h3 h4
  exact h1.trans (h2.trans (h3.trans h4))
theorem s0_0 {k : Nat} (h1 : c_1 k = none) (h2 : c_2 k = none) (h3 : c_3 k = none) (h4 : c_4 k = none) (i : Nat) : s0.1 k i = 0 := by
  simp only [s0, Fi, h1, h2, h3, h4, Option.getD_none, ite_self]; rfl
theorem s0_1 {k i : Nat} {v : Int32} (h1 : c_1 k = some v) (h2 : c_2 k = none) (h3 : c_3 k = none) (h4 : c_4 k = none) (hi : i < 144) : s0.1 k i = v := by
  simp only [s0, Fi, h1, h2, h3, h4, hi, Option.getD_none, Option.getD_some, ite_self, if_true]
theorem s0_2 {k i : Nat} {v : Int32} (h2 : c_2 k = some v) (h3 : c_3 k = none) (h4 : c_4 k = none) (hi : i < 36) : s0.1 k i = v := by
  simp only [s0, Fi, h2, h3, h4, hi, Option.getD_none, Option.getD_some, ite_self, if_true]
theorem s0_3 {k i : Nat} {v : Int32} (h3 : c_3 k = some v) (h4 : c_4 k = none) (hi : i < 24) : s0.1 k i = v := by
  simp only [s0, Fi, h3, h4, hi, Option.getD_none, Option.getD_some, ite_self, if_true]
theorem s0_4 {k i : Nat} {v : Int32} (h4 : c_4 k = some v) (hi : i < 20) : s0.1 k i = v := by
  simp only [s0, Fi, h4, hi, Option.getD_some, if_true]
theorem s0_nl : nl s0 = 0 := by
  show (s0.1 4 0).toNatClampNeg = 0
  rw [s0_0 rfl rfl rfl rfl]; rfl
theorem s0_set (x n : Nat) : setOf s0 x n = [] := by
  simp only [setOf, setFrom, s0_nl]; rfl
theorem s0_nb (x n : Nat) : nb s0 x n = false := by
  simp [nb, s0_set]
def h0 : sn_FS := (fun a j => if 64 ≤ a ∧ a % 64 = 51 ∧ j = 9 then -1 else 0, fun _ _ => 0)
theorem s0_VL {g : Nat} (h : VL s0 g) : lgv s0 g = -1 := by
  rcases h with q | ⟨_, _, q⟩
  · unfold lgv
    rw [if_neg (by omega)]
    exact s0_3 rfl rfl q
  · rw [s0_nb] at q; cases q
theorem s0_GA : GA s0 h0 := by
  have z := fun (k : Nat) (h : c_1 k = none ∧ c_2 k = none ∧ c_3 k = none ∧ c_4 k = none) i => s0_0 h.1 h.2.1 h.2.2.1 h.2.2.2 i
  have no : ∀ t i, ¬ exT s0 t i := fun t i h => by
    unfold exT at h
    rw [s0_nl] at h
    split at h
    · rw [s0_nb] at h; exact absurd h.2 (by decide)
    · omega
  have hW : WI s0 := by
    refine ⟨⟨?_, by rw [s0_nl]; omega, fun l hl => by rw [s0_nl] at hl; omega⟩, fun e he => ⟨0, by omega, z 29 (by decide) e⟩, fun f hf => ⟨0, by omega, z 47 (by decide) f⟩, fun i hi => ⟨Or.inl (s0_2 rfl rfl rfl hi), Or.inl (s0_2 rfl rfl rfl hi)⟩, fun f hf => ⟨0, by omega, z 45 (by decide) f⟩, fun e he => ?_, fun x n s hx hn hs => ?_⟩
    · rw [s0_nl]; exact z 4 (by decide) 0
    · have h10 := z 10 (by decide) e
      refine ⟨⟨0, by omega, h10⟩, ⟨127, by omega, s0_4 rfl he⟩, ⟨127, by omega, s0_4 rfl he⟩, ⟨0, by omega, z 37 (by decide) e⟩, ⟨0, by omega, z 27 (by decide) e, Or.inl (s0_4 rfl he), fun i hi => by omega⟩, fun _ => ⟨s0_4 rfl he, z 20 (by decide) e, fun _ => ⟨z 27 (by decide) e, z 29 (by decide) e⟩⟩, fun _ => h10, fun q => ?_, fun q => ?_, ⟨0, by omega, z 22 (by decide) e⟩, ⟨0, by omega, z 30 (by decide) e⟩, ⟨0, by omega, z 31 (by decide) e⟩, ⟨0, by omega, z 33 (by decide) e⟩, Or.inl (z 24 (by decide) e)⟩
      · rw [h10] at q; exact absurd q (by decide)
      · rw [h10] at q; exact absurd q (by decide)
    · have hf : fl x n s < 144 := by unfold fl; omega
      exact ⟨Or.inl (s0_1 rfl rfl rfl rfl hf), Or.inl ⟨z 42 (by decide) _, z 47 (by decide) _, s0_1 rfl rfl rfl rfl hf, z 44 (by decide) _⟩⟩
  have h6 : s0.1 6 0 = nI 0 := z 6 (by decide) 0
  have hI : Inv s0 h0 := by
    refine ⟨⟨fun t ht i hi => absurd hi (no t i), fun e he => by rw [s0_nl] at he; omega, fun e he => by rw [s0_nl] at he; omega⟩, hW, (fun x hx d n _ _ _ _ _ hb => absurd hb (by rw [s0_nb]; decide) : LkA s0), (fun e he hne => absurd (z 40 (by decide) e) hne : DI s0), ⟨0, by omega, h6⟩⟩
  have hR : RI s0 := fun e he => by
    have h10 := z 10 (by decide) e
    exact ⟨fun q => by rw [h10] at q; exact absurd q (by decide), fun q => by rw [h10] at q; exact absurd q (by decide)⟩
  have hC : CI s0 := by
    refine ⟨fun g hg => Or.inl (s0_VL hg), fun c hc => ?_, fun p hp => ⟨⟨0, by omega, z 61 (by decide) p⟩, fun _ => s0_3 rfl rfl hp⟩⟩
    have h52 := z 52 (by decide) c
    have h57 : s0.1 57 c = -1 := s0_1 rfl rfl rfl rfl hc
    have h58 : s0.1 58 c = -1 := s0_1 rfl rfl rfl rfl hc
    have h53 := z 53 (by decide) c
    have h54 := z 54 (by decide) c
    refine ⟨⟨0, by omega, h52⟩, ⟨0, by omega, z 59 (by decide) c⟩, ⟨0, by omega, z 60 (by decide) c⟩, Or.inl h58, fun q => by rw [h52] at q; exact absurd q (by decide), fun _ => ⟨h57, h58, z 60 (by decide) c⟩, fun q => absurd h54 q, fun q => absurd h53 q, Or.inl (z 55 (by decide) c), Or.inl (z 56 (by decide) c), fun _ => ⟨h52, h53, h54, z 55 (by decide) c, z 56 (by decide) c, h57, h58, z 59 (by decide) c, z 60 (by decide) c⟩⟩
  have tm : ∀ k i, (c_1 k = none ∧ c_2 k = none ∧ c_3 k = none ∧ c_4 k = none) → Tm 1 s0 k i := fun k i hk => ⟨0, by omega, z k hk i, Or.inl rfl⟩
  refine ⟨⟨hI, hR, hC, 0, by omega, by simp, rfl, rfl, fun j hj => by simp at hj⟩, ⟨fun k e hk he he2 => ?_, fun x n s _ _ _ _ => z 45 (by decide) _, fun l hl => ⟨Or.inl (z 2 (by decide) l), Or.inl (z 3 (by decide) l), fun _ => ⟨z 2 (by decide) l, z 3 (by decide) l⟩⟩⟩, ⟨fun i hi => ⟨tm 11 i (by decide), tm 20 i (by decide), tm 40 i (by decide)⟩, fun f hf => ⟨tm 44 f (by decide), tm 53 f (by decide), tm 54 f (by decide)⟩⟩, ?_⟩
  · have hc : ∀ k, k ∈ nrL → (c_1 k = none ∧ c_2 k = none ∧ c_3 k = none ∧ c_4 k = none ∧ frv k = 0) ∨ c_4 k = some (frv k) := by decide
    rcases hc k hk with ⟨q1, q2, q3, q4, q5⟩ | q
    · rw [q5]; exact s0_0 q1 q2 q3 q4 e
    · exact s0_4 q he2
  · rw [h6, z 5 (by decide) 0]; rfl
theorem s0_T49 : T49 s0 := fun i _ => Or.inl (s0_0 rfl rfl rfl rfl i)
