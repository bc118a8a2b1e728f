/-! LAYER 2, the class: references written; queues -/
theorem sn_upE {α : Type} (f : Nat → Nat → α) (a k : Nat) (v : α) (b j : Nat) : sn_up f a k v b j = if b = a then (if j = k then v else f b j) else f b j := rfl
theorem k_wR {kk : Nat → Nat} {σ τ η : sn_FS} {a j : Nat} {r : Option Nat} (hI : kI τ η = kI σ η) (h1 : kR τ a j = r) (h2 : ∀ b j', ¬ (b = a ∧ j' = j) → kR τ b j' = kR σ b j') : u_R (Kap kk σ η) a j r = Kap kk τ η := by
  have e1 : sn_up (kR σ) a j r = kR τ := by
    funext b j'
    by_cases c : b = a ∧ j' = j
    · obtain ⟨rfl, rfl⟩ := c
      rw [sn_up_same, h1]
    · rw [h2 b j' c]
      simp only [sn_up]
      by_cases c1 : b = a
      · by_cases c2 : j' = j
        · exact absurd ⟨c1, c2⟩ c
        · simp [c2]
      · simp [c1]
  show (_, _, _, _, _, _, sn_up (kR σ) a j r) = Kap kk τ η
  rw [e1]
  simp only [Kap, hI]
theorem k_kI {σ η : sn_FS} {k i : Nat} {v : Int32} (hk : k = 41 ∨ k = 43 ∨ k = 57 ∨ k = 62) : kI (sI σ k i v) η = kI σ η := by
  have h0 : SP σ (sI σ k i v) := SP.sI (by omega)
  have hT : ∀ p ∈ k_T, p.2 ≠ 41 ∧ p.2 ≠ 43 ∧ p.2 ≠ 57 ∧ p.2 ≠ 62 := by decide +kernel
  funext a j
  simp only [kI, k_st_eq h0 (fun i => sI_ne (by omega)) (fun i => congrArg ccd (sI_ne (by omega)))]
  split
  · rename_i p hp
    obtain ⟨q, hq, e⟩ := k_loc_T hp
    have := hT q hq
    rw [← e]
    exact sI_ne (by omega)
  · rfl
theorem k_id {b f e : Nat} (hb : ¬ b < 64) (h : b % 64 = f) (he : b / 64 - 1 = e) : b = 64 * e + (64 + f) := by omega
theorem wR_F1 {kk : Nat → Nat} {σ η : sn_FS} {f : Nat} {v : Int32} : u_R (Kap kk σ η) (aF f) 1 (k_end σ (f / 24) v) = Kap kk (sI σ 41 f v) η := by
  have h0 : SP σ (sI σ 41 f v) := SP.sI (by decide)
  refine k_wR (k_kI (Or.inl rfl)) (by rw [rr_F1, h0.kend, sI_same]) (fun b j c => ?_)
  simp only [kR, h0.nlE, h0.setOfE, h0.nbE, h0.enE, h0.kend, sn_upE, Nat.reduceEqDiff, reduceIte]
  by_cases hb : b < 64
  · simp only [hb, if_true]
  by_cases hf : b % 64 = 40
  · by_cases hj : j = 1
    · have hne : b / 64 - 1 ≠ f := fun e => c ⟨k_id hb hf e, hj⟩
      simp only [hne, if_false]
    · simp only [hj, if_false]
  · simp only [hf, if_false]
theorem wR_F3 {kk : Nat → Nat} {σ η : sn_FS} {f : Nat} {v : Int32} : u_R (Kap kk σ η) (aF f) 3 (k_end σ (f / 24) v) = Kap kk (sI σ 43 f v) η := by
  have h0 : SP σ (sI σ 43 f v) := SP.sI (by decide)
  refine k_wR (k_kI (Or.inr (Or.inl rfl))) (by rw [rr_F3, h0.kend, sI_same]) (fun b j c => ?_)
  simp only [kR, h0.nlE, h0.setOfE, h0.nbE, h0.enE, h0.kend, sn_upE, Nat.reduceEqDiff, reduceIte]
  by_cases hb : b < 64
  · simp only [hb, if_true]
  by_cases hf : b % 64 = 40
  · by_cases hj : j = 3
    · have hne : b / 64 - 1 ≠ f := fun e => c ⟨k_id hb hf e, hj⟩
      simp only [hne, if_false]
    · simp only [hj, if_false]
  · simp only [hf, if_false]
theorem wR_C4 {kk : Nat → Nat} {σ η : sn_FS} {f : Nat} {v : Int32} : u_R (Kap kk σ η) (aC f) 4 (k_leg v) = Kap kk (sI σ 57 f v) η := by
  have h0 : SP σ (sI σ 57 f v) := SP.sI (by decide)
  refine k_wR (k_kI (by decide)) (by rw [rr_C4, sI_same]) (fun b j c => ?_)
  simp only [kR, h0.nlE, h0.setOfE, h0.nbE, h0.enE, h0.kend, sn_upE, Nat.reduceEqDiff, reduceIte]
  by_cases hb : b < 64
  · simp only [hb, if_true]
  by_cases hf : b % 64 = 50
  · by_cases hj : j = 4
    · have hne : b / 64 - 1 ≠ f := fun e => c ⟨k_id hb hf e, hj⟩
      simp only [hne, if_false]
    · simp only [hj, if_false]
  · simp only [hf, if_false]
theorem wR_P4 {kk : Nat → Nat} {σ η : sn_FS} {f : Nat} {v : Int32} : u_R (Kap kk σ η) (aP f) 4 (k_leg v) = Kap kk (sI σ 62 f v) η := by
  have h0 : SP σ (sI σ 62 f v) := SP.sI (by decide)
  refine k_wR (k_kI (by decide)) (by rw [rr_P4, sI_same]) (fun b j c => ?_)
  simp only [kR, h0.nlE, h0.setOfE, h0.nbE, h0.enE, h0.kend, sn_upE, Nat.reduceEqDiff, reduceIte]
  by_cases hb : b < 64
  · simp only [hb, if_true]
  by_cases hf : b % 64 = 51
  · by_cases hj : j = 4
    · have hne : b / 64 - 1 ≠ f := fun e => c ⟨k_id hb hf e, hj⟩
      simp only [hne, if_false]
    · simp only [hj, if_false]
  · simp only [hf, if_false]
theorem x_ite {c : Prop} {d : Decidable c} {f g : sn_M} {κ : sn_Mem} : (@ite sn_M c d f g) κ = @ite _ c d (f κ) (g κ) := by by_cases h : c <;> simp [h]
/-- numbers -/
theorem nI_sub {a b : Nat} (h : b ≤ a) : nI a - nI b = nI (a - b) := by
  have h1 : nI (a - b) + nI b = nI a := by rw [nI_add]; congr 1; omega
  rw [← h1]
  exact Int32.add_sub_cancel _ _
theorem toI (n : Nat) : n.toInt32 = nI n := rfl
/-- queues -/
def QH (kk : Nat → Nat) (σ η : sn_FS) (q r cap n hd : Nat) : Prop := kk q = 6 ∧ kk r = 22 ∧ kR σ q 0 = some r ∧ kL r = cap ∧ cap ≤ 64 ∧ hd < cap ∧ n ≤ cap ∧ η.1 q 1 = nI hd ∧ (∀ σ η, kI σ η q 1 = η.1 q 1) ∧ (∀ σ η v, u_I (Kap kk σ η) q 1 v = Kap kk σ (sI η q 1 v)) ∧ kI σ η q 2 = nI n ∧ ∀ x, kI σ (sI η q 1 x) q 2 = nI n
theorem md1 {a c : Nat} (h : a < c) : a % c = a := Nat.mod_eq_of_lt h
theorem md2 {a c : Nat} (h1 : c ≤ a) (h2 : a < 2 * c) : a % c = a - c := by rw [Nat.mod_eq_sub_mod h1, Nat.mod_eq_of_lt (by omega)]
section Queues
variable {kk : Nat → Nat} {σ η : sn_FS} {q r cap n hd : Nat}
theorem fl_add_full (h : QH kk σ η q r cap cap hd) (m : Int64) : f_Qu_add q m (Kap kk σ η) = some (some (.int 0), Kap kk σ η) := by
  obtain ⟨h1, h2, h3, h4, h5, h6, h7, h8, h9, h10, h11, h12⟩ := h
  have e1 : (nI cap < nI cap) = False := eq_false (fun e => by have := (nI_ltI (a := cap) (b := cap) (by omega) (by omega)).mp e; omega)
  simp only [f_Qu_add, x_gI, x_gR, x_len, h1, h2, h3, h4, h11, if_true, toI, e1, if_false, r_Z]
  simp
theorem fl_add (h : QH kk σ η q r cap n hd) (hn : n < cap) (m : Int64) : f_Qu_add q m (Kap kk σ η) = some (some (.int 1), u_I (Kap kk σ (sJ η r ((hd + n) % cap) m)) q 2 (nI (n + 1))) := by
  obtain ⟨h1, h2, h3, h4, h5, h6, h7, h8, h9, h10, h11, h12⟩ := h
  have e1 : (nI n < nI cap) = True := eq_true ((nI_ltI (a := n) (b := cap) (by omega) (by omega)).mpr hn)
  have e2 : (nI cap ≤ nI (hd + n)) ↔ cap ≤ hd + n := nI_leI (by omega) (by omega)
  have e3 : kI σ (sJ η r ((hd + n) % cap) m) q 2 = nI n := h11
  have key : ∀ p, p = (hd + n) % cap → f_Qu_add_48 q m (some r) (nI p) (Kap kk σ η) = some (some (.int 1), u_I (Kap kk σ (sJ η r ((hd + n) % cap) m)) q 2 (nI (n + 1))) := by
    intro p hp
    subst hp
    have hp : (hd + n) % cap < kL r := by rw [h4]; exact Nat.mod_lt _ (by omega)
    simp only [f_Qu_add_48, x_bJ hp (by omega), h2, if_true, x_gI, x_pI, h1, e3, nI_1, r_Z]
    simp
  simp only [f_Qu_add, x_gI, x_gR, x_len, h1, h2, h3, h4, h11, h9, h8, if_true, toI, e1, n_I, nI_add, e2]
  by_cases c : cap ≤ hd + n
  · simp only [c, if_true, x_gR, x_len, h1, h2, h3, h4, toI, nI_sub c]; exact key _ (md2 c (by omega)).symm
  · rw [if_neg c]; exact key _ (md1 (by omega)).symm
theorem fl_at (h : QH kk σ η q r cap n hd) {i : Nat} (hi : i < n) : f_Qu_at q (nI i) (Kap kk σ η) = some (some (.long (η.2 r ((hd + i) % cap))), Kap kk σ η) := by
  obtain ⟨h1, h2, h3, h4, h5, h6, h7, h8, h9, h10, h11, h12⟩ := h
  have e0 : (nI i < 0) = False := eq_false (nI_pos (by omega))
  have e1 : (nI i < nI n) = True := eq_true ((nI_ltI (a := i) (b := n) (by omega) (by omega)).mpr hi)
  have e2 : (nI cap ≤ nI (hd + i)) ↔ cap ≤ hd + i := nI_leI (by omega) (by omega)
  have key : ∀ p, p = (hd + i) % cap → f_Qu_at_45 q (some r) (nI p) (Kap kk σ η) = some (some (.long (η.2 r ((hd + i) % cap))), Kap kk σ η) := by
    intro p hp
    subst hp
    have hp : (hd + i) % cap < kL r := by rw [h4]; exact Nat.mod_lt _ (by omega)
    simp only [f_Qu_at_45, x_aJ hp (by omega), h2, if_true, r_J]
  simp only [f_Qu_at, e0, if_false, x_gI, x_gR, x_len, h1, h2, h3, h4, h11, h9, h8, if_true, toI, e1, n_I, nI_add, e2]
  by_cases c : cap ≤ hd + i
  · simp only [c, if_true, x_gR, x_len, h1, h2, h3, h4, toI, nI_sub c]; exact key _ (md2 c (by omega)).symm
  · rw [if_neg c]; exact key _ (md1 (by omega)).symm
theorem fl_drop (h : QH kk σ η q r cap n hd) {d : Nat} (hd2 : d ≤ n) : f_Qu_drop q (nI d) (Kap kk σ η) = some (none, u_I (Kap kk σ (sI η q 1 (nI ((hd + d) % cap)))) q 2 (nI (n - d))) := by
  obtain ⟨h1, h2, h3, h4, h5, h6, h7, h8, h9, h10, h11, h12⟩ := h
  have e2 : (nI cap ≤ nI (hd + d)) ↔ cap ≤ hd + d := nI_leI (by omega) (by omega)
  have e5 : ∀ x y, sI (sI η q 1 x) q 1 y = sI η q 1 y := fun x y => by
    show (sn_up (sn_up η.1 q 1 x) q 1 y, η.2) = (sn_up η.1 q 1 y, η.2)
    rw [sn_up_up]
  have key : f_Qu_drop_16 q (nI d) (Kap kk σ η) = some (none, u_I (Kap kk σ (sI η q 1 (nI ((hd + d) % cap)))) q 2 (nI (n - d))) := by
    simp only [f_Qu_drop_16, f_Qu_drop_57, x_gI, x_gR, x_pI, x_len, h1, h2, h3, h4, h9, h8, h10, if_true, toI, nI_add, sn_up_same, x_ite]
    by_cases c : cap ≤ hd + d
    · simp only [e2, c, if_true, nI_sub c, e5, h12, nI_sub hd2, r_V, md2 c (by omega : hd + d < 2 * cap)]
    · simp only [e2, c, if_false, e5, h12, nI_sub hd2, r_V, md1 (by omega : hd + d < cap)]
  have e4 : (nI n ≤ nI d) ↔ n ≤ d := nI_leI (by omega) (by omega)
  simp only [f_Qu_drop, x_gI, h1, h11, if_true, e4]
  by_cases c : n ≤ d
  · have : d = n := by omega
    subst this
    simp only [c, if_true, x_gI, h1, h11]; exact key
  · rw [if_neg c]; exact key
theorem fl_take (h : QH kk σ η q r cap n hd) (hn : 0 < n) : f_Qu_takeFirst q (Kap kk σ η) = some (some (.long (η.2 r hd)), u_I (Kap kk σ (sI η q 1 (nI ((hd + 1) % cap)))) q 2 (nI (n - 1))) := by
  have h1 := h.1
  have h6 := h.2.2.2.2.2.1
  have ha := fl_at h hn
  rw [Nat.add_zero, md1 h6] at ha
  have ha : f_Qu_at q (0 : Int32) (Kap kk σ η) = _ := ha
  have hdr := fl_drop h (d := 1) (by omega)
  have hdr : f_Qu_drop q (1 : Int32) (Kap kk σ η) = _ := hdr
  simp only [f_Qu_takeFirst, x_nn, h1, if_true, x_cJ ha, x_cV hdr, r_J]
end Queues
