/-! LAYER 2: a link more: both plans -/
def lkS (σ : sn_FS) (p q : Nat) : sn_FS := sS (sI (sI σ 0 (nl σ) (nI p)) 1 (nl σ) (nI q)) 4 (nI (nl σ + 1))
theorem lkS_E {σ : sn_FS} {p q : Nat} (h1 : p < q) (h2 : q < 6) (h3 : nl σ < 10) : LkE σ (lkS σ p q) p q := by
  refine ⟨h1, h2, h3, ?_, rfl, fun l hl => ?_, ?_, ?_, fun k i k0 k1 k4 => ?_, rfl⟩
  · show (nI (nl σ + 1)).toNatClampNeg = nl σ + 1
    exact nI_clamp (by omega)
  · simp only [lkS, sn_upE, Nat.reduceEqDiff, reduceIte, hl]; exact ⟨trivial, trivial⟩
  · simp only [lkS, sn_upE, Nat.reduceEqDiff, reduceIte]
  · simp only [lkS, sn_upE, Nat.reduceEqDiff, reduceIte]
  · simp only [lkS, sn_upE, k0, k1, k4, if_false]
section Lk2
variable {σ η : sn_FS} {kk : Nat → Nat}
theorem gl_link_no {x1 x2 : Int32} (h : two x1 x2 = false) : g_Md_link x1 x2 σ = some (some (.int (-1)), σ) := by
  unfold g_Md_link g_Md_link_38
  rw [y_I_at (gl_isX x1 σ)]
  unfold two at h
  by_cases h1 : xok x1 = true
  · rw [if_pos h1, if_neg (by decide), y_I_at (gl_isX x2 σ)]
    by_cases h2 : xok x2 = true
    · rw [if_pos h2, if_neg (by decide)]
      rw [h1, h2] at h
      have h3 : x1 = x2 := by simpa using h
      rw [if_pos h3]; rfl
    · rw [if_neg h2, if_pos rfl]; rfl
  · rw [if_neg h1, if_pos rfl]; rfl
theorem xok_n {a : Nat} (h : a < 6) : xok (nI a) = true := by
  unfold xok
  have h1 : ¬ nI a < 0 := nI_pos (by omega)
  have h2 : ¬ (6 : Int32) ≤ nI a := nI_ge (b := 6) h (by omega)
  simp [h1, h2]
theorem two_n {a b : Nat} (ha : a < 6) (hb : b < 6) (hne : a ≠ b) : two (nI a) (nI b) = true := by
  unfold two
  have : ¬ nI a = nI b := fun z => hne (nI_inj (by omega) (by omega) z)
  simp [xok_n ha, xok_n hb, this]
theorem gl_link {a b : Nat} (hP : PlanOk σ) (ha : a < 6) (hb : b < 6) (hne : a ≠ b) : g_Md_link (nI a) (nI b) σ = if nl σ = 10 ∨ (setOf σ a b).length = 4 then some (some (.int (-1)), σ) else some (some (.int (nI (nl σ))), lkS σ (min a b) (max a b)) := by
  have hl := hP.2.1
  have hs := setOf_le (σ := σ) (x := a) (n := b)
  have e1 : ((1 : Int32) = 0) = False := eq_false (by decide)
  have e2 : (nI a = nI b) = False := eq_false (fun z => hne (nI_inj (by omega) (by omega) z))
  have e3 : (nI (nl σ) = (10 : Int32)) = (nl σ = 10) := propext (nI_eq (b := 10) (by omega) (by omega))
  have e4 : (nI (setOf σ a b).length = (4 : Int32)) = ((setOf σ a b).length = 4) := propext (nI_eq (b := 4) (by omega) (by omega))
  have e5 : (nI b ≤ nI a) = (b ≤ a) := propext (nI_leI (by omega) (by omega))
  simp only [g_Md_link, g_Md_link_38, y_I_at (gl_isX _ σ), xok_n ha, xok_n hb, if_true, e1, if_false, e2, q_S, hP.1, e3, y_I_at (gl_setSize hP ha hb), e4, e5]
  by_cases c : nl σ = 10
  · rw [if_pos c, if_pos (Or.inl c)]; rfl
  · rw [if_neg c, y_I_at (gl_setSize hP ha hb)]
    simp only [e4]
    by_cases d : (setOf σ a b).length = 4
    · rw [if_neg (nn1 d), if_pos (Or.inr d)]; rfl
    · rw [if_pos d, if_neg (by omega)]
      show (if b ≤ a then g_Md_link_58 (nI a) (nI b) (σ.1 4 0) (nI b) else g_Md_link_58 (nI a) (nI b) (σ.1 4 0) (nI a)) σ = _
      rw [hP.1]
      have d0 : nl σ < md_len 0 := by show _ < 10; omega
      have d1 : nl σ < md_len 1 := by show _ < 10; omega
      have e6 : nI (nl σ) + (1 : Int32) = nI (nl σ + 1) := n1 _
      have e7 : nI (nl σ + 1) - (1 : Int32) = nI (nl σ) := by rw [show (1 : Int32) = nI 1 from rfl, nI_sub (by omega)]; rfl
      by_cases f : b ≤ a
      · rw [if_pos f]
        simp only [g_Md_link_58, g_Md_link_77, e5, f, if_true, w_I_at d0, q_S, sn_upE, Nat.reduceEqDiff, reduceIte, hP.1, w_I_at d1, w_S, e6, e7, z_I, lkS, Nat.min_eq_right f, Nat.max_eq_left f]
        rfl
      · rw [if_neg f]
        simp only [g_Md_link_58, g_Md_link_77, e5, f, if_false, w_I_at d0, q_S, sn_upE, Nat.reduceEqDiff, reduceIte, hP.1, w_I_at d1, w_S, e6, e7, z_I, lkS, Nat.min_eq_left (show a ≤ b by omega), Nat.max_eq_right (show a ≤ b by omega)]
        rfl
/-- the class's plan -/
def Kg (kk : Nat → Nat) (I : Nat → Nat → Int32) (J : Nat → Nat → Int64) (R : Nat → Nat → Option Nat) : sn_Mem := (0, 0, kk, kL, I, J, R)
variable {I : Nat → Nat → Int32} {J : Nat → Nat → Int64} {R : Nat → Nat → Option Nat} {c j a : Nat} {v : Int32}
theorem y_gR {K : Option Nat → sn_M} : g_R c j (some a) K (Kg kk I J R) = if kk a = c then K (R a j) (Kg kk I J R) else none := rfl
theorem y_gI {K : Int32 → sn_M} : g_I c j (some a) K (Kg kk I J R) = if kk a = c then K (I a j) (Kg kk I J R) else none := rfl
theorem y_pI {K : sn_M} : p_I c j (some a) v K (Kg kk I J R) = if kk a = c then K (Kg kk (sn_up I a j v) J R) else none := rfl
theorem y_aI {K : Int32 → sn_M} {p : Nat} (hp : p < kL a) (hL : kL a ≤ 1000) : a_I c (some a) (nI p) K (Kg kk I J R) = if kk a = c then K (I a p) (Kg kk I J R) else none := by
  have h1 : ¬ (nI p < 0 ∨ kL a ≤ (nI p).toNatClampNeg) := nI_in hp (by omega)
  show (if kk a = c ∧ ¬ (nI p < 0 ∨ kL a ≤ (nI p).toNatClampNeg) then K (I a (nI p).toNatClampNeg) (Kg kk I J R) else none) = _
  rw [nI_clamp (show p < 2 ^ 31 by omega)] at *
  simp only [h1, not_false_eq_true, and_true]
theorem y_bI {K : sn_M} {p : Nat} (hp : p < kL a) (hL : kL a ≤ 1000) : b_I c (some a) (nI p) v K (Kg kk I J R) = if kk a = c then K (Kg kk (sn_up I a p v) J R) else none := by
  have h1 : ¬ (nI p < 0 ∨ kL a ≤ (nI p).toNatClampNeg) := nI_in hp (by omega)
  show (if kk a = c ∧ ¬ (nI p < 0 ∨ kL a ≤ (nI p).toNatClampNeg) then K (Kg kk (sn_up I a (nI p).toNatClampNeg v) J R) else none) = _
  rw [nI_clamp (show p < 2 ^ 31 by omega)] at *
  simp only [h1, not_false_eq_true, and_true]
theorem fl_min6 {a b : Nat} (ha : a < 6) (hb : b < 6) (κ : sn_Mem) : f_Ma_min (nI a) (nI b) κ = some (some (.int (nI (min a b))), κ) := by
  have e : (nI b < nI a) = (b < a) := propext (nI_ltI (by omega) (by omega))
  simp only [f_Ma_min, f_Ma_min_10, e]
  by_cases c : b < a
  · rw [if_pos c, Nat.min_eq_right (by omega)]; rfl
  · rw [if_neg c, Nat.min_eq_left (by omega)]; rfl
theorem fl_max6 {a b : Nat} (ha : a < 6) (hb : b < 6) (κ : sn_Mem) : f_Ma_max (nI a) (nI b) κ = some (some (.int (nI (max a b))), κ) := by
  have e : (nI a < nI b) = (a < b) := propext (nI_ltI (by omega) (by omega))
  simp only [f_Ma_max, f_Ma_max_10, e]
  by_cases c : a < b
  · rw [if_pos c, Nat.max_eq_right (by omega)]; rfl
  · rw [if_neg c, Nat.max_eq_left (by omega)]; rfl
theorem fl_add_no {x1 x2 : Int32} (h : two x1 x2 = false) (κ : sn_Mem) : f_Pl_addLink 3 x1 x2 κ = some (some (.int (-1)), κ) := by
  unfold f_Pl_addLink
  rw [x_cI (fl_areTwo x1 x2 κ), h]; rfl
def lkIm (σ : sn_FS) (I : Nat → Nat → Int32) (a b : Nat) : Nat → Nat → Int32 := sn_up (sn_up (sn_up (sn_up (sn_up I 4 (nl σ) (nI (min a b))) 5 (nl σ) (nI (max a b))) 8 (a * 6 + b) (nI ((setOf σ a b).length + 1))) 8 (b * 6 + a) (nI ((setOf σ a b).length + 1))) 3 0 (nI (nl σ + 1))
theorem fl_addL {a b : Nat} (hK : KOk kk σ) (hP : PlanOk σ) (ha : a < 6) (hb : b < 6) (hne : a ≠ b) : f_Pl_addLink 3 (nI a) (nI b) (Kap kk σ η) = if nl σ = 10 ∨ (setOf σ a b).length = 4 then some (some (.int (-1)), Kap kk σ η) else some (some (.int (nI (nl σ))), Kg kk (lkIm σ (kI σ η) a b) η.2 (kR σ)) := by
  obtain ⟨⟨k1, k2, k3, k4, k5, k6, k7, k8, k9, k10, k11, k12, k13, k14, k15, k16, k17, k18, k19, k20, k21, k22⟩, kE, kF, kP, k4s⟩ := id hK
  have hl := hP.2.1
  have hs := k4s a b
  have e1 : ((1 : Int32) = 0) = False := eq_false (by decide)
  have e3 : ((10 : Int32) ≤ nI (nl σ)) = (10 ≤ nl σ) := propext (nI_leI (a := 10) (by omega) (by omega))
  have e4 : (nI (setOf σ a b).length < (4 : Int32)) = ((setOf σ a b).length < 4) := propext (nI_ltI (b := 4) (by omega) (by omega))
  have m : ∀ x y : Nat, nI x * (6 : Int32) + nI y = nI (x * 6 + y) := fun x y => by
    have : nI x * (6 : Int32) = nI (x * 6) := pk_mul x 6
    rw [this, nI_add]
  simp only [f_Pl_addLink, f_Pl_addLink_27, x_cI (fl_areTwo _ _ _), two_n ha hb hne, if_true, e1, if_false, x_gI, k3, rd_s3_0, hP.1, e3, x_ite, x_nn, x_cI (fl_setSize hK ha hb), e4]
  by_cases c : nl σ = 10
  · rw [if_pos (by omega), if_pos (Or.inl c)]; rfl
  · rw [if_neg (by omega)]
    by_cases d : (setOf σ a b).length = 4
    · rw [if_neg (by omega), if_pos (Or.inr d)]; rfl
    · rw [if_pos (by omega), if_neg (by omega)]
      have d4 : nl σ < kL 4 := by show _ < 10; omega
      have d5 : nl σ < kL 5 := by show _ < 10; omega
      have d8 : a * 6 + b < kL 8 := by show _ < 36; omega
      have d8' : b * 6 + a < kL 8 := by show _ < 36; omega
      have e6 : ∀ n, nI n + (1 : Int32) = nI (n + 1) := n1
      have e7 : nI (nl σ + 1) - (1 : Int32) = nI (nl σ) := by rw [show (1 : Int32) = nI 1 from rfl, nI_sub (by omega)]; rfl
      have hk : Kap kk σ η = Kg kk (kI σ η) η.2 (kR σ) := rfl
      have e8 : (b * 6 + a = a * 6 + b) = False := eq_false (by omega)
      have z1 : setSz σ (a * 6 + b) = nI (setOf σ a b).length := by unfold setSz; rw [show (a * 6 + b) / 6 = a by omega, show (a * 6 + b) % 6 = b by omega]
      have z2 : setSz σ (b * 6 + a) = nI (setOf σ a b).length := by unfold setSz; rw [show (b * 6 + a) / 6 = b by omega, show (b * 6 + a) % 6 = a by omega, setOf_sy]
      rw [hk]
      simp only [y_gR, k3, if_true, rr_s3_1, y_gI, rd_s3_0, hP.1, x_cI (fl_min6 ha hb _), y_bI d4 (show kL 4 ≤ 1000 by decide), k4, rr_s3_2, sn_upE, Nat.reduceEqDiff, reduceIte, x_cI (fl_max6 ha hb _), y_bI d5 (show kL 5 ≤ 1000 by decide), k5, rr_s3_5, m, y_aI d8 (show kL 8 ≤ 1000 by decide), y_bI d8 (show kL 8 ≤ 1000 by decide), k8, rd_a8, z1, y_aI d8' (show kL 8 ≤ 1000 by decide), y_bI d8' (show kL 8 ≤ 1000 by decide), e8, z2, e6, y_pI, e7, r_I, lkIm]
end Lk2
