/-! LAYER 2: acknowledging and treating -/
theorem Kap_of {kk : Nat → Nat} {σ τ η : sn_FS} (h : ∀ k i, k ∉ [5, 26, 31, 32, 33, 34] → τ.1 k i = σ.1 k i) : Kap kk τ η = Kap kk σ η := by
  have hT : ∀ p ∈ k_T, p.2 ∉ [5, 26, 31, 32, 33, 34] := by decide +kernel
  exact Kap_ext ⟨⟨fun i => h _ _ (by decide), fun i => h _ _ (by decide), fun i => h _ _ (by decide)⟩, fun p hp i => h _ _ (hT p hp), fun i => h _ _ (by decide), fun i => congrArg ccd (h _ _ (by decide)), fun i => h _ _ (by decide), fun i => h _ _ (by decide), fun i => h _ _ (by decide), fun i => h _ _ (by decide)⟩
def S_ackT (e t : Nat) (σ : sn_FS) : sn_FS := if ahd σ e t < cl σ 27 e then sI (S_ackn e (ahd σ e t + 1) σ) 20 e (if cl σ 27 e = ahd σ e t + 1 then 0 else σ.1 6 0 + 20) else σ
theorem S_ackT_I {e t k i : Nat} (σ : sn_FS) (h : k ≠ 20 ∧ k ≠ 21 ∧ k ≠ 26 ∧ k ≠ 27) : (S_ackT e t σ).1 k i = σ.1 k i := by
  unfold S_ackT
  split
  · unfold S_ackn
    rw [sI_ne h.1, sI_ne h.2.1, sI_ne h.2.2.2, S_sh2_I h.2.2.1]
  · rfl
theorem S_ackT_e {e t k i : Nat} (σ : sn_FS) (h : i ≠ e) (hk : k ≠ 26) : (S_ackT e t σ).1 k i = σ.1 k i := by
  unfold S_ackT
  split
  · unfold S_ackn
    rw [sI_nk h, sI_nk h, sI_nk h, S_sh2_I hk]
  · rfl
theorem S_ackT_SP {e t : Nat} (σ : sn_FS) : SP σ (S_ackT e t σ) := ⟨fun i => S_ackT_I σ (by decide), fun i => S_ackT_I σ (by decide), fun i => S_ackT_I σ (by decide)⟩
theorem cl_n {σ : sn_FS} {k i n : Nat} (h : σ.1 k i = nI n) (hn : n < 2 ^ 31) : cl σ k i = n := by unfold cl; rw [h]; exact nI_clamp hn
theorem ahd_lt {σ : sn_FS} {e t : Nat} : ahd σ e t < 128 := Nat.mod_lt _ (by decide)
/-- the fields of an end after acknowledging n of o -/
theorem S_ackn_at {σ : sn_FS} {e n o : Nat} (h27 : σ.1 27 e = nI o) (ho : o ≤ 32) : cl σ 27 e = o ∧ (S_ackn e n σ).1 27 e = nI (o - n) ∧ (S_ackn e n σ).1 21 e = ackR o n (σ.1 21 e) ∧ (∀ i, i < o - n → (S_ackn e n σ).1 26 (32 * e + i) = σ.1 26 (32 * e + (i + n)) ∧ (S_ackn e n σ).2 25 (32 * e + i) = σ.2 25 (32 * e + (i + n))) ∧ ∀ k i, k ≠ 26 → (k ≠ 27 ∧ k ≠ 21 ∨ i ≠ e) → (S_ackn e n σ).1 k i = σ.1 k i := by
  have hcl := cl_n h27 (by omega)
  unfold S_ackn
  rw [hcl]
  refine ⟨rfl, ?_, ?_, fun i hi => ⟨?_, ?_⟩, fun k i hk h => ?_⟩
  · rw [sI_ne (by decide), sI_same]
  · rw [sI_same]
  · rw [sI_ne (by decide), sI_ne (by decide)]
    simp only [S_sh2]
    rw [if_pos ⟨trivial, by omega, by omega⟩, Nat.add_assoc]
  · simp only [S_sh2]
    rw [if_pos ⟨trivial, by omega, by omega⟩, Nat.add_assoc]
  · rcases h with h | h
    · rw [sI_ne h.2, sI_ne h.1, S_sh2_I hk]
    · rw [sI_nk h, sI_nk h, S_sh2_I hk]
theorem S_ackn_26 {σ : sn_FS} {e n e' i : Nat} (h : e' ≠ e) (hi : i < 32) (ho : cl σ 27 e ≤ 32) : (S_ackn e n σ).1 26 (32 * e' + i) = σ.1 26 (32 * e' + i) ∧ (S_ackn e n σ).2 25 (32 * e' + i) = σ.2 25 (32 * e' + i) := by
  unfold S_ackn
  refine ⟨?_, ?_⟩
  · rw [sI_ne (by decide), sI_ne (by decide)]
    simp only [S_sh2]
    rw [if_neg (by omega)]
  · simp only [S_sh2]
    rw [if_neg (by omega)]
theorem S_ackn_J {σ : sn_FS} {e n k i : Nat} (h : k ≠ 25) : (S_ackn e n σ).2 k i = σ.2 k i := by
  simp only [S_ackn, S_sh2]
  rw [if_neg (fun q => h q.1)]
theorem ackR_ok {o n : Nat} {v : Int32} (hn : 0 < n) (hno : n ≤ o) (ho : o ≤ 32) (h : v = -1 ∨ ∃ r, r < o ∧ v = nI r) : ackR o n v = -1 ∨ ∃ r, r < o - n ∧ ackR o n v = nI r := by
  unfold ackR
  split
  · exact Or.inl rfl
  · split
    · exact Or.inl rfl
    · rename_i c1 c2
      rcases h with q | ⟨r, hr, q⟩
      · exact absurd q c2
      · right
        refine ⟨r - n, by omega, ?_⟩
        rw [q, nI_clamp (by omega)]
theorem E1_ackT {σ : sn_FS} {e t : Nat} (h : E1 σ e) (h5 : σ.1 10 e = 5) : E1 (S_ackT e t σ) e := by
  unfold S_ackT
  split
  · rename_i hlt
    obtain ⟨a1, ⟨v, hv, ev⟩, a3, a4, ⟨o, b1, b2, b3, b4⟩, a6, a7, a8, a9, a10, a11, a12, a13, a14⟩ := h
    obtain ⟨hcl, g27, g21, gJ, gk⟩ := S_ackn_at (n := ahd σ e t + 1) b2 b1
    rw [hcl] at hlt
    have hc12 : cl σ 12 e = v := cl_n ev (by omega)
    generalize hτ : sI (S_ackn e (ahd σ e t + 1) σ) 20 e (if cl σ 27 e = ahd σ e t + 1 then 0 else σ.1 6 0 + 20) = τ
    have f : ∀ k, k ≠ 26 → k ≠ 27 → k ≠ 21 → k ≠ 20 → τ.1 k e = σ.1 k e := fun k p q r s => by rw [← hτ, sI_ne s, gk k e p (Or.inl ⟨q, r⟩)]
    have f27 : τ.1 27 e = nI (o - (ahd σ e t + 1)) := by rw [← hτ, sI_ne (by decide)]; exact g27
    have f21 : τ.1 21 e = ackR o (ahd σ e t + 1) (σ.1 21 e) := by rw [← hτ, sI_ne (by decide)]; exact g21
    have f26 : ∀ i, i < o - (ahd σ e t + 1) → τ.1 26 (32 * e + i) = σ.1 26 (32 * e + (i + (ahd σ e t + 1))) := fun i hi => by rw [← hτ, sI_ne (by decide)]; exact (gJ i hi).1
    have c12 : cl τ 12 e = v := by unfold cl; rw [f 12 (by decide) (by decide) (by decide) (by decide), ev]; exact nI_clamp (by omega)
    unfold E1
    rw [f 10 (by decide) (by decide) (by decide) (by decide), f 12 (by decide) (by decide) (by decide) (by decide), f 13 (by decide) (by decide) (by decide) (by decide), f 37 (by decide) (by decide) (by decide) (by decide), f 40 (by decide) (by decide) (by decide) (by decide), f 29 (by decide) (by decide) (by decide) (by decide), f 16 (by decide) (by decide) (by decide) (by decide), f 17 (by decide) (by decide) (by decide) (by decide), f 22 (by decide) (by decide) (by decide) (by decide), f 30 (by decide) (by decide) (by decide) (by decide), f 31 (by decide) (by decide) (by decide) (by decide), f 33 (by decide) (by decide) (by decide) (by decide), f 24 (by decide) (by decide) (by decide) (by decide), f27, f21, c12]
    refine ⟨a1, ⟨v, hv, ev⟩, a3, a4, ⟨o - (ahd σ e t + 1), by omega, rfl, ackR_ok (by omega) (by omega) b1 b3, fun i hi => ?_⟩, fun q => absurd h5 q, a7, a8, a9, a10, a11, a12, a13, a14⟩
    rw [f26 i hi, b4 _ (by omega), hc12]
    congr 1; omega
  · exact h
theorem WI_ackT {σ : sn_FS} (hw : WI σ) {e t : Nat} (he : e < 20) (h5 : σ.1 10 e = 5) : WI (S_ackT e t σ) := by
  have hE := hw.e1 he
  obtain ⟨o, b1, b2, b3, b4⟩ := hE.2.2.2.2.1
  refine hw.mkE he (fun k i hk => S_ackT_I σ (by omega)) (fun k i hi hk => S_ackT_e σ hi hk) (fun e' i h1 h2 => ?_) (E1_ackT hE h5) (by rw [S_ackT_I σ (by decide)]; exact hw.2.1 e he) (fun _ => Or.inl (by rw [S_ackT_I σ (by decide)]; exact h5))
  unfold S_ackT
  split
  · rw [sI_ne (by decide)]; exact (S_ackn_26 h1 h2 (by rw [cl_n b2 (by omega)]; exact b1)).1
  · rfl
def mx0 (z : Int32) : Int32 := if 0 < z then z else 0
theorem mx_ok : ∀ r, r < 32 → ∀ a, a < 32 → mx0 (nI r - nI a - 1) = nI (r - (a + 1)) := by decide +kernel
theorem fl_max (z : Int32) (κ : sn_Mem) : f_Ma_max 0 z κ = some (some (.int (mx0 z)), κ) := by
  unfold mx0
  simp only [f_Ma_max, f_Ma_max_10, x_ite, r_I]
  split <;> rfl
section Ack
variable {kk : Nat → Nat} {σ η : sn_FS}
theorem fl_numberOf (hK : KOk kk σ) {e o v i : Nat} (he : e < 2 * nl σ) (h27 : σ.1 27 e = nI o) (ho : o ≤ 32) (h12 : σ.1 12 e = nI v) (hv : v < 128) (hi : i < 32) : f_Wi_numberOf (aW e) (nI i) (Kap kk σ η) = some (some (.int (nI ((v + 129 - o + i) % 128))), Kap kk σ η) := by
  obtain ⟨e1, e2, e3, e4, e5, e6, e7⟩ := hK.2.1 e he
  have hz : nI v - nI o + 1 + nI i = nI (v + 1 + i) - nI o := by
    have : nI (v + 1 + i) = nI v + 1 + nI i := by rw [← nI_add, ← nI_add]; rfl
    rw [this]; generalize nI v = a; generalize nI o = b; generalize nI i = c; grind
  have hf := fl_floorMod (nI (v + 1 + i) - nI o) (Kap kk σ η)
  rw [fm_sub (by omega) (by omega)] at hf
  have hm : (v + 1 + i + 256 - o) % 128 = (v + 129 - o + i) % 128 := by omega
  rw [hm] at hf
  simp only [f_Wi_numberOf, x_gI, x_gR, e3, e4, if_true, rd_W1, rr_W7, rd_UQ2, h12, h27, hz, x_cI hf, r_I]
theorem HR_ackn (hH : HR σ η) {e n o hd : Nat} (he : e < 2 * nl σ) (h27 : σ.1 27 e = nI o) (ho : o ≤ 32) (hn : n ≤ o) (hR : RQ (MV σ) η (qA 0 e) (rA 0 e) (cp 0) (cl σ (sk 0) e) hd (fun j => σ.2 (jk 0) (cp 0 * e + j))) : HR (S_ackn e n σ) (sI η (qA 0 e) 1 (nI ((hd + n) % 32))) := by
  obtain ⟨hcl, g27, g21, gJ, gk⟩ := S_ackn_at (n := n) h27 ho
  have hs : SP σ (S_ackn e n σ) := ⟨fun i => gk _ _ (by decide) (Or.inl (by decide)), fun i => gk _ _ (by decide) (Or.inl (by decide)), fun i => gk _ _ (by decide) (Or.inl (by decide))⟩
  have c27 : cl (S_ackn e n σ) 27 e = o - n := cl_n g27 (by omega)
  refine ⟨hH.1.drop hs (by decide) he hR ?_ (fun j hj => ?_) (fun t' ht' i' hi' hne => ?_), hH.2.1.mk' hs (fun k i h1 h2 => gk _ _ (by omega) (Or.inl (by omega))) (fun i => S_ackn_J (by decide)) (fun e' j => ⟨?_, rfl⟩), hH.2.2.mk' hs (fun i => ?_) (fun i => gk _ _ (by decide) (Or.inl (by decide))) (fun e' => ?_)⟩
  · show cl (S_ackn e n σ) 27 e + n ≤ cl σ 27 e
    rw [c27, hcl]; omega
  · have hj : j < cl (S_ackn e n σ) 27 e := hj
    rw [c27] at hj
    exact (gJ j hj).2
  · rcases t3 ht' with rfl | rfl | rfl
    · have hie : i' ≠ e := fun q => hne ⟨rfl, q⟩
      refine ⟨congrArg Int32.toNatClampNeg (gk _ _ (by decide) (Or.inr hie)), fun j hj => ?_⟩
      obtain ⟨hd', q1, q0, q2, q3⟩ := hH.1 0 (by decide) i' hi'
      have hj : j < cl σ 27 i' := hj
      have q0 : cl σ 27 i' ≤ 32 := q0
      exact (S_ackn_26 hie (by omega) (by rw [hcl]; exact ho)).2
    · exact ⟨congrArg Int32.toNatClampNeg (gk 29 _ (by decide) (Or.inl (by decide))), fun j hj => S_ackn_J (by decide)⟩
    · exact ⟨congrArg Int32.toNatClampNeg (gk 47 _ (by decide) (Or.inl (by decide))), fun j hj => S_ackn_J (by decide)⟩
  · exact sI_ne (aU_q (by decide)).2.1
  · rw [gk _ _ (by decide) (Or.inl (by decide))]; exact id
  · exact sI_ne (aU_q (by decide)).2.2.1
theorem fl_ack (hK : KOk kk σ) (hH : HR σ η) {e t : Nat} (he : e < 2 * nl σ) (hE : E0 σ e) (ht : t < 128) : Run kk (f_Wi_acknowledge (aW e) (nI t)) σ η none (S_ackT e t σ) := by
  obtain ⟨⟨k1, k2, k3, k4, k5, k6, k7, k8, k9, k10, k11, k12, k13, k14, k15, k16, k17, k18, k19, k20, k21, k22⟩, kE, kF, kP, k4s⟩ := id hK
  obtain ⟨e1, e2, e3, e4, e5, e6, e7⟩ := kE e he
  obtain ⟨⟨v, hv, ev⟩, o, b1, b2, b3, b4⟩ := hE
  have hcl := cl_n b2 (show o < 2 ^ 31 by omega)
  have hc12 := cl_n ev (show v < 2 ^ 31 by omega)
  obtain ⟨hd, hR⟩ := hH.1 0 (by decide) e he
  have hq := QH_of hK (t := 0) (i := e) (by decide) he hR b2 b1
  have hnum := fl_numberOf (η := η) hK (i := 0) he b2 b1 ev hv (by decide)
  rw [nI_0, Nat.add_zero] at hnum
  have hfm := fl_floorMod (nI t - nI ((v + 129 - o) % 128)) (Kap kk σ η)
  rw [fm_sub (by omega) (by omega)] at hfm
  have hah : (t + 256 - (v + 129 - o) % 128) % 128 = ahd σ e t := by unfold ahd; rw [hcl, hc12]
  rw [hah] at hfm
  have o1 : (nI (ahd σ e t) < nI o) ↔ ahd σ e t < o := nI_ltI (by have := ahd_lt (σ := σ) (e := e) (t := t); omega) (by omega)
  by_cases c : ahd σ e t < o
  · have hdr : f_Qu_drop (aUQ e) (nI (ahd σ e t + 1)) (Kap kk σ η) = some (none, Kap kk (sI σ 27 e (nI (o - (ahd σ e t + 1)))) (sI η (qA 0 e) 1 (nI ((hd + (ahd σ e t + 1)) % 32)))) := by
      have h := fl_drop hq (d := ahd σ e t + 1) (by omega)
      rw [qw (by decide)] at h
      exact h
    have hHR := (HR_ackn hH he b2 b1 (n := ahd σ e t + 1) (by omega) hR)
    have hS : S_ackT e t σ = sI (S_ackn e (ahd σ e t + 1) σ) 20 e (if o = ahd σ e t + 1 then 0 else σ.1 6 0 + 20) := by unfold S_ackT; rw [hcl, if_pos c]
    have hKe : Kap kk (sI (S_ackn e (ahd σ e t + 1) σ) 20 e (if o = ahd σ e t + 1 then 0 else σ.1 6 0 + 20)) (sI η (qA 0 e) 1 (nI ((hd + (ahd σ e t + 1)) % 32))) = Kap kk (sI (sI (sI σ 27 e (nI (o - (ahd σ e t + 1)))) 21 e (ackR o (ahd σ e t + 1) (σ.1 21 e))) 20 e (if o = ahd σ e t + 1 then 0 else σ.1 6 0 + 20)) (sI η (qA 0 e) 1 (nI ((hd + (ahd σ e t + 1)) % 32))) := by
      refine Kap_of (fun k i hk => ?_)
      simp only [List.mem_cons, List.not_mem_nil, or_false, not_or] at hk
      simp only [S_ackn, hcl, sn_upE]
      rw [S_sh2_I hk.2.1]
    rw [hS]
    refine ⟨_, ?_, hHR.mI (by decide), ⟨fun j => sI_ne (Ne.symm (aU_q (t := 0) (i := e) (e := 0) (by decide)).2.2.2.1), fun j => rfl⟩⟩
    rw [hKe]
    have o2 : (nI (o - (ahd σ e t + 1)) = 0) ↔ o = ahd σ e t + 1 := by
      rw [show (0 : Int32) = nI 0 from rfl, nI_eq (by omega) (by omega)]; omega
    have hnum1 : nI (ahd σ e t) + 1 = nI (ahd σ e t + 1) := nI_1 _
    by_cases c2 : o = ahd σ e t + 1
    · have hr : ackR o (ahd σ e t + 1) (σ.1 21 e) = -1 := by unfold ackR; rw [if_pos c2]
      have o2' : (nI (o - (ahd σ e t + 1)) = 0) = True := eq_true (o2.mpr c2)
      have hst : f_Wi_stop (aW e) (Kap kk (sI σ 27 e (nI (o - (ahd σ e t + 1)))) (sI η (qA 0 e) 1 (nI ((hd + (ahd σ e t + 1)) % 32)))) = some (none, Kap kk (sI (sI (sI σ 27 e (nI (o - (ahd σ e t + 1)))) 20 e 0) 21 e (-1)) (sI η (qA 0 e) 1 (nI ((hd + (ahd σ e t + 1)) % 32)))) := fl_stop e3
      rw [hr, if_pos c2, sI_sw (k := 21) (k' := 20) (by decide)]
      simp only [x_ite, f_Wi_acknowledge, x_nn, e3, if_true, x_cI hnum, x_cI hfm, x_gR, x_gI, rr_W7, e4, rd_UQ2, b2, o1, c, hnum1, x_cV hdr, sn_up_same, o2', not_true_eq_false, if_false, x_cV hst, r_V]
    · have o2' : (nI (o - (ahd σ e t + 1)) = 0) = False := eq_false (fun q => c2 (o2.mp q))
      rw [if_neg c2]
      rcases b3 with q | ⟨r, hr, q⟩
      · have hr : ackR o (ahd σ e t + 1) (σ.1 21 e) = -1 := by unfold ackR; rw [if_neg c2, if_pos q]
        have hid : sI (sI σ 27 e (nI (o - (ahd σ e t + 1)))) 21 e (-1) = sI σ 27 e (nI (o - (ahd σ e t + 1))) := sI_id (by rw [sI_ne (by decide)]; exact q)
        rw [hr, hid]
        simp only [x_ite, f_Wi_acknowledge, f_Wi_acknowledge_88, x_nn, e3, if_true, x_cI hnum, x_cI hfm, x_gR, x_gI, rr_W7, e4, rd_UQ2, b2, o1, c, hnum1, x_cV hdr, sn_up_same, o2', not_false_eq_true, rr_W0, k2, x_after k2, x_pI, wr_W6, rd_W5, sn_upE, Nat.reduceEqDiff, reduceIte, q, r_V]
      · have c4 : (nI r = (-1 : Int32)) = False := eq_false (nI_m1 (by omega))
        have hr2 : ackR o (ahd σ e t + 1) (σ.1 21 e) = nI (r - (ahd σ e t + 1)) := by unfold ackR; rw [if_neg c2, q, if_neg (nI_m1 (by omega)), nI_clamp (by omega)]
        have hmx := fl_max (nI r - nI (ahd σ e t) - 1) (Kap kk (sI (sI σ 27 e (nI (o - (ahd σ e t + 1)))) 20 e (σ.1 6 0 + 20)) (sI η (qA 0 e) 1 (nI ((hd + (ahd σ e t + 1)) % 32))))
        rw [mx_ok r (by omega) _ (by omega)] at hmx
        rw [hr2, sI_sw (k := 21) (k' := 20) (by decide)]
        simp only [x_ite, f_Wi_acknowledge, f_Wi_acknowledge_88, x_nn, e3, if_true, x_cI hnum, x_cI hfm, x_gR, x_gI, rr_W7, e4, rd_UQ2, b2, o1, c, hnum1, x_cV hdr, sn_up_same, o2', not_false_eq_true, rr_W0, k2, x_after k2, x_pI, wr_W6, wr_W5, rd_W5, sn_upE, Nat.reduceEqDiff, reduceIte, q, c4, if_false, x_cI hmx, r_V]
  · have hS : S_ackT e t σ = σ := by unfold S_ackT; rw [hcl, if_neg c]
    rw [hS]
    refine ⟨η, ?_, hH, PE.rf⟩
    simp only [x_ite, f_Wi_acknowledge, x_nn, e3, if_true, x_cI hnum, x_cI hfm, x_gR, x_gI, rr_W7, e4, rd_UQ2, b2, o1, c, if_false, r_V]
end Ack
