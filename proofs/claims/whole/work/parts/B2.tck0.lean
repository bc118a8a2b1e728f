/-! LAYER 2: what is posted is sent -/
variable {kk : Nat → Nat} {σ η : sn_FS}
theorem CI.eq {τ : sn_FS} (h : CI σ) (hs : SP σ τ) (hk : ∀ k i, 52 ≤ k → k ≤ 62 → τ.1 k i = σ.1 k i) : CI τ := by
  have g := fun k i (h : 52 ≤ k ∧ k ≤ 62) => hk k i h.1 h.2
  have hlg : ∀ a, lgv τ a = lgv σ a := fun a => by
    unfold lgv
    rw [g 57 _ (by decide), g 62 _ (by decide)]
  have hvl : VL τ = VL σ := by funext a; unfold VL; rw [hs.nbE]
  refine ⟨fun a ha => ?_, fun c hc => ?_, fun p hp => ?_⟩
  · rw [hvl] at ha ⊢
    simp only [hlg]
    exact h.1 a ha
  · have := h.2.1 c hc
    unfold C1 at this ⊢
    rw [g 52 c (by decide), g 53 c (by decide), g 54 c (by decide), g 55 c (by decide), g 56 c (by decide), g 57 c (by decide), g 58 c (by decide), g 59 c (by decide), g 60 c (by decide), hs.nbE]
    exact this
  · have := h.2.2 p hp
    unfold P1 at this ⊢
    rw [g 61 p (by decide), g 62 p (by decide)]
    exact this
theorem PQ.eq {θ : sn_FS} {ms : List Msg} (h : PQ η ms) (hE : PE η θ) : PQ θ ms := by
  obtain ⟨hd, h1, h2, h3, h4, h5⟩ := h
  exact ⟨hd, h1, h2, by rw [hE.1]; exact h3, by rw [hE.1]; exact h4, fun j hj => by rw [hE.2]; exact h5 j hj⟩
theorem RI.eq {τ : sn_FS} (h : RI σ) (hk : ∀ k i, k = 10 ∨ k = 16 ∨ k = 17 → τ.1 k i = σ.1 k i) : RI τ := by
  intro e he
  have := h e he
  unfold Rr1 at this ⊢
  rw [hk 10 e (by decide), hk 16 e (by decide), hk 17 e (by decide)]
  exact this
theorem CF.inv {τ θ : sn_FS} (hcf : CF σ τ) (hE : HE η θ) (h : Inv σ η) : Inv τ θ := by
  obtain ⟨hH, hw, hL, hD, hC⟩ := h
  have hH2 := hH.he hE
  refine ⟨⟨hH2.1.mk' hcf.sp (fun t ht i _ => ⟨?_, fun j _ => by rw [hcf.2]⟩) (fun t ht i => ⟨rfl, fun j => rfl⟩), hH2.2.1.mk' hcf.sp (fun k i h1 h2 => hcf.1 k i (by omega)) (fun i => by rw [hcf.2]) (fun e j => ⟨rfl, rfl⟩), hH2.2.2.mk' hcf.sp (fun i q => by rw [hcf.1 10 i (by decide)] at q; exact q) (fun i => hcf.1 24 i (by decide)) (fun e => rfl)⟩, hw.mk' (fun k i hk => hcf.1 k i ?_), hL.mk' hcf.sp (fun k i hk => hcf.1 k i (by omega)), hD.mk' (fun i _ => Or.inr ⟨hcf.1 40 i (by decide), hcf.1 11 i (by decide)⟩), hC.at (hcf.1 6 0 (by decide))⟩
  · unfold cl
    rcases t3 ht with rfl | rfl | rfl
    · rw [hcf.1 (sk 0) i (by decide)]
    · rw [hcf.1 (sk 1) i (by decide)]
    · rw [hcf.1 (sk 2) i (by decide)]
  · revert hk
    unfold wiL
    simp only [List.mem_cons, List.not_mem_nil, or_false]
    omega
theorem QC_Rt : ∀ (ms : List Msg) (σ : sn_FS), WI σ → (∀ m ∈ ms, MOk m) → QC σ (Rt ms σ)
  | [], σ, _, _ => QC.rf
  | m :: ms, σ, hw, hm => by
    have hmo := hm m List.mem_cons_self
    have h1 := QC_route hw (but := none) hmo.2.1 hmo.2.2.1 hmo.2.2.2.1 (wR m)
    exact h1.tr (QC_Rt ms _ (h1.wi hw) (fun m' h' => hm m' (List.mem_cons_of_mem _ h')))
theorem fl_send (hK : KOk kk σ) (hH : HR σ η) (hG : GvOk σ) (hT : ToldOk σ) {m : Msg} (hm : MV σ m) : Run kk (f_Tr_send 11 (wC m)) σ η none (S_route (mF m) (mT m) (mL m) (wR m) none σ) := by
  have hmo := hm.1
  obtain ⟨θ, a1, a2, a3⟩ := fl_giveWay (but := none) hK hH hG hT hmo.2.1 hmo.2.2.1 hmo.2.2.2.1 hm
  have hw := fl_wayTo (η := η) hK hG.1 hT hmo.2.1 hmo.2.2.1 hmo.2.2.2.1 (but := none) (fun n h => by cases h)
  have hw : f_Tr_wayTo 11 (nI (mF m)) (nI (mT m)) (nI (mL m)) (-1) (Kap kk σ η) = _ := hw
  refine ⟨θ, ?_, a2, a3⟩
  obtain ⟨⟨k1, k2, k3, k4, k5, k6, k7, k8, k9, k10, k11, k12, k13, k14, k15, k16, k17, k18, k19, k20, k21, k22⟩, kE, kF, kP, k4s⟩ := id hK
  simp only [f_Tr_send, x_cI (fl_from hmo _), x_cI (fl_to hmo _), x_cI (fl_lane hmo _), x_nn, k11, if_true, x_cR hw, x_cV a1, r_V]
theorem fl_posted : ∀ (ms : List Msg) (fuel : Nat) (σ η : sn_FS), ms.length < fuel → PQ η ms → KOk kk σ → HR σ η → GvOk σ → ToldOk σ → (∀ m ∈ ms, MV σ m) → ∃ θ, f_Sn_sendPosted_11 1 fuel (nI ms.length) (Kap kk σ η) = some (none, Kap kk (Rt ms σ) θ) ∧ HR (Rt ms σ) θ ∧ PQ θ []
  | [], fuel + 1, σ, η, hf, hP, hK, hH, hG, hT, hm => by
    have e : (nI 0 ≤ (0 : Int32)) = True := eq_true (by decide)
    refine ⟨η, ?_, hH, hP⟩
    simp only [f_Sn_sendPosted_11, List.length_nil, e, if_true, r_V]
    rfl
  | m :: ms, fuel + 1, σ, η, hf, hP, hK, hH, hG, hT, hm => by
    obtain ⟨hd, h1, h2, h3, h4, h5⟩ := hP
    have htk := fl_take (QH_post hK h1 h2 h3 h4) (by simp)
    rw [wr_s20_2] at htk
    have hw0 : η.2 21 hd = wC m := by
      have := h5 0 (by simp)
      rw [Nat.add_zero, md1 h1] at this
      exact this
    rw [hw0] at htk
    have hl : (m :: ms).length - 1 = ms.length := by simp
    rw [hl] at htk
    have hE : HE η (sI (sI η 20 1 (nI ((hd + 1) % 16))) 20 2 (nI ms.length)) := ⟨fun a j h => by rw [sI_ne h, sI_ne h], fun a j h => rfl⟩
    have hP1 : PQ (sI (sI η 20 1 (nI ((hd + 1) % 16))) 20 2 (nI ms.length)) ms := by
      refine ⟨(hd + 1) % 16, Nat.mod_lt _ (by decide), by simp at h2; omega, by simp only [sn_upE, Nat.reduceEqDiff, reduceIte], by simp only [sn_upE, Nat.reduceEqDiff, reduceIte], fun j hj => ?_⟩
      have := h5 (j + 1) (by simp; omega)
      have e : ((hd + 1) % 16 + j) % 16 = (hd + (j + 1)) % 16 := by omega
      show η.2 21 (((hd + 1) % 16 + j) % 16) = _
      rw [e, this]
      simp
    have hmv := hm m List.mem_cons_self
    obtain ⟨θ, a1, a2, a3⟩ := fl_send hK (hH.he hE) hG hT hmv
    have hs : SP σ (S_route (mF m) (mT m) (mL m) (wR m) none σ) := ⟨fun i => S_route_I σ (by decide), fun i => S_route_I σ (by decide), fun i => S_route_I σ (by decide)⟩
    obtain ⟨ζ, b1, b2, b3⟩ := fl_posted ms fuel _ θ (by simp at hf; omega) (hP1.eq a3) (hK.sp hs) a2 (S_route_Gv hG) (hT.mk' (fun i => S_route_I σ (by decide)) (fun i => S_route_I σ (by decide))) (fun m' h' => by rw [MV.sp hs]; exact hm m' (List.mem_cons_of_mem _ h'))
    refine ⟨ζ, ?_, b2, b3⟩
    obtain ⟨⟨k1, k2, k3, k4, k5, k6, k7, k8, k9, k10, k11, k12, k13, k14, k15, k16, k17, k18, k19, k20, k21, k22⟩, kE, kF, kP, k4s⟩ := id hK
    have e : (nI (m :: ms).length ≤ (0 : Int32)) = False := eq_false (fun q => by
      have := (nI_leI (a := (m :: ms).length) (b := 0) (by omega) (by omega)).mp q
      simp at this)
    have e2 : nI (m :: ms).length + (-1 : Int32) = nI ms.length := by
      have := nI_sub (a := (m :: ms).length) (b := 1) (by simp)
      rw [hl] at this
      have h1 : (-1 : Int32) = -(nI 1) := by decide
      rw [h1, ← Int32.sub_eq_add_neg, this]
    simp only [f_Sn_sendPosted_11, e, if_false, x_gR, k1, if_true, rr_s1_2, rr_s1_3, k17, rr_s17_4, x_nn, k20, x_cJ htk, k11, x_cV a1, e2]
    exact b1
theorem fl_sendPosted {ms : List Msg} (hP : PQ η ms) (hK : KOk kk σ) (hH : HR σ η) (hG : GvOk σ) (hT : ToldOk σ) (hm : ∀ m ∈ ms, MV σ m) : ∃ θ, f_Sn_sendPosted 1 (Kap kk σ η) = some (none, Kap kk (Rt ms σ) θ) ∧ HR (Rt ms σ) θ ∧ PQ θ [] := by
  have hl : ms.length ≤ 16 := by obtain ⟨hd, h1, h2, -⟩ := hP; exact h2
  have h4 : η.1 20 2 = nI ms.length := by obtain ⟨hd, h1, h2, h3, h4, -⟩ := hP; exact h4
  obtain ⟨θ, a1, a2, a3⟩ := fl_posted ms sn_fuel σ η (by unfold sn_fuel; omega) hP hK hH hG hT hm
  refine ⟨θ, ?_, a2, a3⟩
  obtain ⟨⟨k1, k2, k3, k4, k5, k6, k7, k8, k9, k10, k11, k12, k13, k14, k15, k16, k17, k18, k19, k20, k21, k22⟩, kE, kF, kP, k4s⟩ := id hK
  simp only [f_Sn_sendPosted, x_gR, k1, if_true, rr_s1_3, k17, rr_s17_4, x_gI, k20, rd_s20_2, h4]
  exact a1
/-- frames -/
def FR1 (σ τ : sn_FS) : Prop := (∀ k i, k < 6 ∨ k = 50 ∨ k = 51 → τ.1 k i = σ.1 k i) ∧ (∀ k i, k ∈ nrL → 2 * nl σ ≤ i → τ.1 k i = σ.1 k i) ∧ ∀ x n s, n < 6 → s < 4 → nb σ x n = false → τ.1 45 (fl x n s) = σ.1 45 (fl x n s)
theorem FR1.sp {σ τ : sn_FS} (h : FR1 σ τ) : SP σ τ := ⟨fun i => h.1 0 i (by omega), fun i => h.1 1 i (by omega), fun i => h.1 4 i (by omega)⟩
theorem FR1.rf {σ : sn_FS} : FR1 σ σ := ⟨fun _ _ _ => rfl, fun _ _ _ _ => rfl, fun _ _ _ _ _ _ => rfl⟩
theorem FR1.tr {a b c : sn_FS} (h1 : FR1 a b) (h2 : FR1 b c) : FR1 a c := by
  refine ⟨fun k i h => (h2.1 k i h).trans (h1.1 k i h), fun k i h hi => (h2.2.1 k i h (by rw [h1.sp.nlE]; exact hi)).trans (h1.2.1 k i h hi), fun x n s hn hs hb => (h2.2.2 x n s hn hs (by rw [h1.sp.nbE]; exact hb)).trans (h1.2.2 x n s hn hs hb)⟩
theorem FR0.f1 {σ τ : sn_FS} (h : FR0 σ τ) : FR1 σ τ := ⟨fun k i hk => h.1 k i (by omega), h.2.1, h.2.2⟩
theorem CF.f1 {σ τ : sn_FS} (h : CF σ τ) : FR1 σ τ := ⟨fun k i hk => h.1 k i (by omega), fun k i hk _ => h.1 k i (by have := nr_of hk; omega), fun x n s _ _ _ => h.1 45 _ (by decide)⟩
theorem QC.f1 {σ τ : sn_FS} (h : QC σ τ) : FR1 σ τ := h.fr.1.f1
/-- what holds all the time inside a call -/
def GI (σ η : sn_FS) : Prop := Inv σ η ∧ RI σ ∧ CI σ ∧ PQ η []
theorem GI.cb (h : GI σ η) (hK : KOk kk σ) : Cb kk σ := ⟨hK, h.1.2.1.gv, h.1.2.1.told⟩
theorem ct_fin {g : sn_G} {f : sn_M} {rv : Option Value} {b : Nat} {σ' : sn_FS} {new : List Msg} (hK : KOk kk σ) (hG : GI σ η) (h : Ct kk g f rv b σ σ' new) (hb : b ≤ 16) : ∃ θ1 θ, g σ = some (none, Rt new σ') ∧ f (Kap kk σ η) = some (rv, Kap kk σ' θ1) ∧ f_Sn_sendPosted 1 (Kap kk σ' θ1) = some (none, Kap kk (Rt new σ') θ) ∧ GI (Rt new σ') θ ∧ TS σ (Rt new σ') ∧ FR1 σ (Rt new σ') ∧ (new = [] → Kap kk (Rt new σ') θ = Kap kk σ' θ1) := by
  obtain ⟨hI, hR, hC, hP⟩ := hG
  obtain ⟨a1, a2, a3, a4, a5, a6, a7⟩ := h
  have hg := a1 []
  obtain ⟨θ1, b1, b2, b3⟩ := a2 η [] hP (by simp; exact hb)
  have hI1 := a5.inv b3 hI
  have hm1 : ∀ m ∈ new, MV σ' m := fun m hm => by rw [MV.sp a5.sp]; exact a4 m hm
  obtain ⟨θ, c1, c2, c3⟩ := fl_sendPosted b2 (hK.sp a5.sp) hI1.1 hI1.2.1.gv hI1.2.1.told hm1
  have hq := QC_Rt new σ' hI1.2.1 (fun m hm => (hm1 m hm).1)
  have hR1 : RI σ' := hR.eq (fun k i hk => a5.1 k i (by omega))
  refine ⟨θ1, θ, hg, b1, c1, ⟨⟨c2, hq.wi hI1.2.1, hq.lk (fun i => Rt_q (by decide) new σ') hI1.2.2.1, hq.di hI1.2.2.2.1, hI1.2.2.2.2.at (hq.at (by decide))⟩, hq.fr.ri hR1, a7.eq hq.sp (fun k i h1 h2 => hq.at (by omega)), c3⟩, a6.tr hq.ts, a5.f1.tr hq.f1, fun hn => ?_⟩
  subst hn
  have hl0 : θ1.1 20 2 = nI 0 := by obtain ⟨hd, h1, h2, h3, h4, -⟩ := b2; exact h4
  obtain ⟨⟨k1, k2, k3, k4, k5, k6, k7, k8, k9, k10, k11, k12, k13, k14, k15, k16, k17, k18, k19, k20, k21, k22⟩, kE, kF, kP, k4s⟩ := id hK
  have e : (nI 0 ≤ (0 : Int32)) = True := eq_true (by decide)
  obtain ⟨fu, hfu⟩ : ∃ fu, sn_fuel = fu + 1 := ⟨1048575, rfl⟩
  have : f_Sn_sendPosted 1 (Kap kk σ' θ1) = some (none, Kap kk σ' θ1) := by
    simp only [f_Sn_sendPosted, x_gR, k1, if_true, rr_s1_3, k17, rr_s17_4, x_gI, k20, rd_s20_2, hl0, hfu, f_Sn_sendPosted_11, e, r_V]
  rw [this] at c1
  exact (Prod.mk.inj (Option.some.inj c1)).2.symm
