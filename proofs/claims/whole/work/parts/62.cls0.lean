/-! LAYER 2, the class: kinds, messages, queues -/
def KOk (kk : Nat → Nat) (σ : sn_FS) : Prop := (kk 1 = 11 ∧ kk 2 = 1 ∧ kk 3 = 5 ∧ kk 4 = 21 ∧ kk 5 = 21 ∧ kk 6 = 23 ∧ kk 7 = 23 ∧ kk 8 = 21 ∧ kk 9 = 21 ∧ kk 10 = 21 ∧ kk 11 = 8 ∧ kk 12 = 24 ∧ kk 13 = 24 ∧ kk 14 = 25 ∧ kk 15 = 23 ∧ kk 16 = 21 ∧ kk 17 = 7 ∧ kk 18 = 26 ∧ kk 19 = 26 ∧ kk 20 = 6 ∧ kk 21 = 22 ∧ kk 22 = 21) ∧ (∀ e, e < 2 * nl σ → kk (aE e) = 2 ∧ kk (aU e) = 9 ∧ kk (aW e) = 10 ∧ kk (aUQ e) = 6 ∧ kk (aUR e) = 22 ∧ kk (aWQ e) = 6 ∧ kk (aWR e) = 22) ∧ (∀ f, f < 144 → nb σ (f / 24) (f % 24 / 4) = true → kk (aF f) = 3 ∧ kk (aKQ f) = 6 ∧ kk (aKR f) = 22 ∧ kk (aC f) = 4) ∧ (∀ p, p < 24 → kk (aP p) = 4) ∧ ∀ x n, (setOf σ x n).length ≤ 4
theorem KOk.sp {kk : Nat → Nat} {σ τ : sn_FS} (h : KOk kk σ) (hs : SP σ τ) : KOk kk τ := by
  obtain ⟨h1, h2, h3, h4, h5⟩ := h
  exact ⟨h1, fun e he => h2 e (by rw [hs.nlE] at he; exact he), fun f hf hn => h3 f hf (by rw [hs.nbE] at hn; exact hn), h4, fun x n => by rw [hs.setOfE]; exact h5 x n⟩
def numOk (v : Nat) : Prop := v < 60 ∧ v % 10 < 4
def MV (σ : sn_FS) (m : Msg) : Prop := MOk m ∧ mH m < 8 ∧ 1 ≤ mK m ∧ mK m ≤ 14 ∧ nb σ (mF m) (mT m) = true ∧ (mK m ≤ 2 → mA m % 16 < nl σ ∧ isof σ (mA m % 16) (mF m) (mT m) = true ∧ mB m < 128) ∧ (mK m = 3 ∨ mK m = 4 → mA m = mL m) ∧ (mK m = 5 ∨ mK m = 6 → mA m < 6) ∧ (mK m = 7 → numOk (mB m % 64) ∧ mB m / 64 ≤ 6)
theorem MV.sp {σ τ : sn_FS} (hs : SP σ τ) : MV τ = MV σ := by
  funext m
  simp only [MV, hs.nbE, hs.nlE, hs.isofE]
def RQ (V : Msg → Prop) (η : sn_FS) (q r cap n hd : Nat) (w : Nat → Int64) : Prop := hd < cap ∧ n ≤ cap ∧ η.1 q 1 = nI hd ∧ ∀ i, i < n → ∃ m, V m ∧ w i = wR m ∧ η.2 r ((hd + i) % cap) = wC m
def cl (σ : sn_FS) (k i : Nat) : Nat := (σ.1 k i).toNatClampNeg
def qo (t : Nat) : Nat := if t = 0 then 97 else if t = 1 then 99 else 105
def qA (t i : Nat) : Nat := 64 * i + qo t
def rA (t i : Nat) : Nat := 64 * i + (qo t + 1)
def cp (t : Nat) : Nat := if t = 0 then 32 else 64
def sk (t : Nat) : Nat := if t = 0 then 27 else if t = 1 then 29 else 47
def jk (t : Nat) : Nat := if t = 0 then 25 else if t = 1 then 28 else 46
def exT (σ : sn_FS) (t i : Nat) : Prop := if t = 2 then i < 144 ∧ nb σ (i / 24) (i % 24 / 4) = true else i < 2 * nl σ
def HQ (σ η : sn_FS) : Prop := ∀ t, t < 3 → ∀ i, exT σ t i → ∃ hd, RQ (MV σ) η (qA t i) (rA t i) (cp t) (cl σ (sk t) i) hd (fun j => σ.2 (jk t) (cp t * i + j))
theorem exT.sp {σ τ : sn_FS} (hs : SP σ τ) : exT τ = exT σ := by
  funext t i
  simp only [exT, hs.nbE, hs.nlE]
theorem cp_le (t : Nat) : 0 < cp t ∧ cp t ≤ 64 := by unfold cp; split <;> omega
theorem t3 {t : Nat} (h : t < 3) : t = 0 ∨ t = 1 ∨ t = 2 := by omega
theorem qr_ne {t i t' i' : Nat} (h : t < 3) (h' : t' < 3) : qA t i ≠ rA t' i' := by
  unfold qA rA qo
  rcases t3 h with rfl | rfl | rfl <;> rcases t3 h' with rfl | rfl | rfl <;> simp <;> omega
theorem qq_inj {t i t' i' : Nat} (h : t < 3) (h' : t' < 3) (e : qA t i = qA t' i') : t = t' ∧ i = i' := by
  unfold qA qo at e
  rcases t3 h with rfl | rfl | rfl <;> rcases t3 h' with rfl | rfl | rfl <;> simp at e ⊢ <;> omega
theorem rr_inj {t i t' i' : Nat} (h : t < 3) (h' : t' < 3) (e : rA t i = rA t' i') : t = t' ∧ i = i' := by
  unfold rA qo at e
  rcases t3 h with rfl | rfl | rfl <;> rcases t3 h' with rfl | rfl | rfl <;> simp at e ⊢ <;> omega
theorem sk_inj {t t' : Nat} (h : t < 3) (h' : t' < 3) (e : sk t = sk t') : t = t' := by
  unfold sk at e
  rcases t3 h with rfl | rfl | rfl <;> rcases t3 h' with rfl | rfl | rfl <;> simp at e ⊢
theorem jk_inj {t t' : Nat} (h : t < 3) (h' : t' < 3) (e : jk t = jk t') : t = t' := by
  unfold jk at e
  rcases t3 h with rfl | rfl | rfl <;> rcases t3 h' with rfl | rfl | rfl <;> simp at e ⊢
theorem sk_out {t k : Nat} (h : t < 3) (hk : k ≠ 27 ∧ k ≠ 29 ∧ k ≠ 47) : sk t ≠ k := by
  unfold sk
  rcases t3 h with rfl | rfl | rfl <;> simp <;> omega
theorem mod_ne {a b c : Nat} (h1 : a < b) (h2 : b < a + c) : a % c ≠ b % c := by
  intro e
  have h3 : (b - a) % c = 0 := Nat.sub_mod_eq_zero_of_mod_eq e.symm
  rw [Nat.mod_eq_of_lt (by omega)] at h3
  omega
theorem pl_ne {c i i' n j : Nat} (h : i' ≠ i) (hj : j < c) (hn : n < c) : c * i' + j ≠ c * i + n := by
  intro e
  rcases Nat.lt_or_gt_of_ne h with g | g
  · have : c * i' + c ≤ c * i := by rw [← Nat.mul_succ]; exact Nat.mul_le_mul_left _ g
    omega
  · have : c * i + c ≤ c * i' := by rw [← Nat.mul_succ]; exact Nat.mul_le_mul_left _ g
    omega
/-- the same words in the same queues -/
theorem HQ.mk' {σ τ η θ : sn_FS} (h : HQ σ η) (hs : SP σ τ) (h1 : ∀ t, t < 3 → ∀ i, exT σ t i → cl τ (sk t) i = cl σ (sk t) i ∧ ∀ j, j < cl σ (sk t) i → τ.2 (jk t) (cp t * i + j) = σ.2 (jk t) (cp t * i + j)) (h2 : ∀ t, t < 3 → ∀ i, θ.1 (qA t i) 1 = η.1 (qA t i) 1 ∧ ∀ j, θ.2 (rA t i) j = η.2 (rA t i) j) : HQ τ θ := by
  intro t ht i hi
  rw [exT.sp hs] at hi
  obtain ⟨hd, q1, q0, q2, q3⟩ := h t ht i hi
  obtain ⟨e1, e2⟩ := h1 t ht i hi
  obtain ⟨g1, g2⟩ := h2 t ht i
  refine ⟨hd, q1, by rw [e1]; exact q0, by rw [g1]; exact q2, fun j hj => ?_⟩
  rw [e1] at hj
  obtain ⟨m, m1, m2, m3⟩ := q3 j hj
  exact ⟨m, by rw [MV.sp hs]; exact m1, by rw [← m2]; exact e2 j hj, by rw [g2]; exact m3⟩
theorem HQ.mI {σ η : sn_FS} (h : HQ σ η) {k i : Nat} {v : Int32} (hk : k ≠ 0 ∧ k ≠ 1 ∧ k ≠ 4 ∧ k ≠ 27 ∧ k ≠ 29 ∧ k ≠ 47) : HQ (sI σ k i v) η :=
  h.mk' (SP.sI ⟨hk.1, hk.2.1, hk.2.2.1⟩) (fun t ht i _ => ⟨congrArg Int32.toNatClampNeg (sI_ne (sk_out ht hk.2.2.2)), fun j _ => rfl⟩) (fun t ht i => ⟨rfl, fun j => rfl⟩)
/-- a message is added -/
theorem HQ.add {σ η : sn_FS} (h : HQ σ η) {t i n hd : Nat} (ht : t < 3) (hi : exT σ t i) (hn : σ.1 (sk t) i = nI n) (hc : n < cp t) {m : Msg} (hm : MV σ m) (hR : RQ (MV σ) η (qA t i) (rA t i) (cp t) (cl σ (sk t) i) hd (fun j => σ.2 (jk t) (cp t * i + j))) : HQ (sI (sJ σ (jk t) (cp t * i + n) (wR m)) (sk t) i (nI (n + 1))) (sJ η (rA t i) ((hd + n) % cp t) (wC m)) := by
  have hcp := cp_le t
  have hs : SP σ (sI (sJ σ (jk t) (cp t * i + n) (wR m)) (sk t) i (nI (n + 1))) := (SP.sJ).tr (SP.sI (by rcases t3 ht with rfl | rfl | rfl <;> decide))
  have hcl : cl σ (sk t) i = n := by unfold cl; rw [hn]; exact nI_clamp (by omega)
  have e0 : cl (sI (sJ σ (jk t) (cp t * i + n) (wR m)) (sk t) i (nI (n + 1))) (sk t) i = n + 1 := by
    unfold cl
    rw [sI_same]; exact nI_clamp (by omega)
  intro t' ht' i' hi'
  rw [exT.sp hs] at hi'
  by_cases hee : t' = t ∧ i' = i
  · obtain ⟨rfl, rfl⟩ := hee
    obtain ⟨q1, q0, q2, q3⟩ := hR
    refine ⟨hd, q1, by rw [e0]; omega, q2, fun j hj => ?_⟩
    rw [e0] at hj
    rw [MV.sp hs]
    by_cases hjn : j = n
    · subst hjn
      refine ⟨m, hm, ?_, ?_⟩
      · show sn_up σ.2 (jk t') (cp t' * i' + j) (wR m) (jk t') (cp t' * i' + j) = wR m
        exact sn_up_same _ _ _ _
      · exact sn_up_same _ _ _ _
    · obtain ⟨m', m1, m2, m3⟩ := q3 j (by rw [hcl]; omega)
      refine ⟨m', m1, ?_, ?_⟩
      · show sn_up σ.2 (jk t') (cp t' * i' + n) (wR m) (jk t') (cp t' * i' + j) = wR m'
        rw [sn_up_nk _ _ _ _ (by omega)]; exact m2
      · show sn_up η.2 (rA t' i') ((hd + n) % cp t') (wC m) (rA t' i') ((hd + j) % cp t') = wC m'
        rw [sn_up_nk _ _ _ _ (mod_ne (by omega) (by omega))]; exact m3
  · obtain ⟨hd', q1, q0, q2, q3⟩ := h t' ht' i' hi'
    have e1 : cl (sI (sJ σ (jk t) (cp t * i + n) (wR m)) (sk t) i (nI (n + 1))) (sk t') i' = cl σ (sk t') i' := by
      unfold cl
      by_cases ee : t' = t
      · subst ee
        rw [sI_nk (fun e => hee ⟨rfl, e⟩)]
      · rw [sI_ne (fun e => ee (sk_inj ht' ht e))]
    refine ⟨hd', q1, by rw [e1]; exact q0, q2, fun j hj => ?_⟩
    rw [e1] at hj
    obtain ⟨m', m1, m2, m3⟩ := q3 j hj
    rw [MV.sp hs]
    refine ⟨m', m1, ?_, ?_⟩
    · show sn_up σ.2 (jk t) (cp t * i + n) (wR m) (jk t') (cp t' * i' + j) = wR m'
      by_cases ee : t' = t
      · subst ee
        have hne : i' ≠ i := fun e => hee ⟨rfl, e⟩
        rw [sn_up_nk]
        · exact m2
        · exact pl_ne hne (by omega) hc
      · rw [sn_up_ne _ _ _ _ (fun e => ee (jk_inj ht' ht e))]; exact m2
    · show sn_up η.2 (rA t i) ((hd + n) % cp t) (wC m) (rA t' i') ((hd' + j) % cp t') = wC m'
      rw [sn_up_ne _ _ _ _ (fun e => hee (rr_inj ht' ht e))]; exact m3
/-- messages are dropped in front -/
theorem HQ.drop {σ τ η : sn_FS} (h : HQ σ η) (hs : SP σ τ) {t i d hd : Nat} (ht : t < 3) (hi : exT σ t i) (hR : RQ (MV σ) η (qA t i) (rA t i) (cp t) (cl σ (sk t) i) hd (fun j => σ.2 (jk t) (cp t * i + j))) (h1 : cl τ (sk t) i + d ≤ cl σ (sk t) i) (h2 : ∀ j, j < cl τ (sk t) i → τ.2 (jk t) (cp t * i + j) = σ.2 (jk t) (cp t * i + (j + d))) (h3 : ∀ t', t' < 3 → ∀ i', exT σ t' i' → ¬ (t' = t ∧ i' = i) → cl τ (sk t') i' = cl σ (sk t') i' ∧ ∀ j, j < cl σ (sk t') i' → τ.2 (jk t') (cp t' * i' + j) = σ.2 (jk t') (cp t' * i' + j)) : HQ τ (sI η (qA t i) 1 (nI ((hd + d) % cp t))) := by
  have hcp := cp_le t
  intro t' ht' i' hi'
  rw [exT.sp hs] at hi'
  by_cases hee : t' = t ∧ i' = i
  · obtain ⟨rfl, rfl⟩ := hee
    obtain ⟨q1, q0, q2, q3⟩ := hR
    refine ⟨(hd + d) % cp t', Nat.mod_lt _ hcp.1, by omega, sI_same, fun j hj => ?_⟩
    obtain ⟨m, m1, m2, m3⟩ := q3 (j + d) (by omega)
    refine ⟨m, by rw [MV.sp hs]; exact m1, by rw [← m2]; exact h2 j hj, ?_⟩
    rw [← m3]
    show η.2 _ _ = η.2 _ _
    rw [Nat.mod_add_mod, Nat.add_assoc, Nat.add_comm d j]
  · obtain ⟨hd', q1, q0, q2, q3⟩ := h t' ht' i' hi'
    obtain ⟨e1, e2⟩ := h3 t' ht' i' hi' hee
    refine ⟨hd', q1, by rw [e1]; exact q0, ?_, fun j hj => ?_⟩
    · rw [sI_ne (fun e => hee (qq_inj ht' ht e))]; exact q2
    · rw [e1] at hj
      obtain ⟨m, m1, m2, m3⟩ := q3 j hj
      exact ⟨m, by rw [MV.sp hs]; exact m1, by rw [← m2]; exact e2 j hj, m3⟩
theorem QH_of {kk : Nat → Nat} {σ η : sn_FS} (hK : KOk kk σ) {t i n hd : Nat} (ht : t < 3) (hi : exT σ t i) (hR : RQ (MV σ) η (qA t i) (rA t i) (cp t) (cl σ (sk t) i) hd (fun j => σ.2 (jk t) (cp t * i + j))) (hn : σ.1 (sk t) i = nI n) (hn2 : n ≤ cp t) : QH kk σ η (qA t i) (rA t i) (cp t) n hd := by
  obtain ⟨q1, q0, q2, q3⟩ := hR
  rcases t3 ht with rfl | rfl | rfl
  · obtain ⟨k1, k2, k3, k4, k5, k6, k7⟩ := hK.2.1 i hi
    have e : kL (aUR i) = cp 0 := by
      obtain ⟨h1, h2, h3⟩ := k_md i 34 (by decide)
      simp only [kL, aUR, show 64 * i + 98 = 64 * i + (64 + 34) from rfl, h1, h3, if_false, if_true, Nat.reduceEqDiff, reduceIte]
      rfl
    exact ⟨k4, k5, rr_UQ0 i, e, (cp_le 0).2, q1, hn2, q2, fun σ η => rd_UQ1 i, fun σ η v => wr_UQ1 i, (rd_UQ2 i).trans hn, fun x => (rd_UQ2 i).trans hn⟩
  · obtain ⟨k1, k2, k3, k4, k5, k6, k7⟩ := hK.2.1 i hi
    have e : kL (aWR i) = cp 1 := by
      obtain ⟨h1, h2, h3⟩ := k_md i 36 (by decide)
      simp only [kL, aWR, show 64 * i + 100 = 64 * i + (64 + 36) from rfl, h1, h3, if_false, if_true, Nat.reduceEqDiff, reduceIte]
      rfl
    exact ⟨k6, k7, rr_WQ0 i, e, (cp_le 1).2, q1, hn2, q2, fun σ η => rd_WQ1 i, fun σ η v => wr_WQ1 i, (rd_WQ2 i).trans hn, fun x => (rd_WQ2 i).trans hn⟩
  · obtain ⟨k1, k2, k3, k4⟩ := hK.2.2.1 i hi.1 hi.2
    have e : kL (aKR i) = cp 2 := by
      obtain ⟨h1, h2, h3⟩ := k_md i 42 (by decide)
      simp only [kL, aKR, show 64 * i + 106 = 64 * i + (64 + 42) from rfl, h1, h3, if_false, if_true, Nat.reduceEqDiff, reduceIte]
      rfl
    exact ⟨k2, k3, rr_KQ0 i, e, (cp_le 2).2, q1, hn2, q2, fun σ η => rd_KQ1 i, fun σ η v => wr_KQ1 i, (rd_KQ2 i).trans hn, fun x => (rd_KQ2 i).trans hn⟩
theorem qw {kk : Nat → Nat} {σ η : sn_FS} {t i : Nat} {v : Int32} (ht : t < 3) : u_I (Kap kk σ η) (qA t i) 2 v = Kap kk (sI σ (sk t) i v) η := by
  rcases t3 ht with rfl | rfl | rfl
  · exact wr_UQ2 i
  · exact wr_WQ2 i
  · exact wr_KQ2 i
