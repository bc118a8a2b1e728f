/-! LAYER 2: a tick, whole -/
variable {kk : Nat → Nat} {σ η : sn_FS}
def frv (k : Nat) : Int32 := if k = 12 ∨ k = 13 then 127 else if k = 14 ∨ k = 15 then 1 else 0
/-- ends and flows that are not there yet; flags -/
def FrI (σ : sn_FS) : Prop := (∀ k e, k ∈ nrL → 2 * nl σ ≤ e → e < 20 → σ.1 k e = frv k) ∧ (∀ x n s, x < 6 → n < 6 → s < 4 → nb σ x n = false → σ.1 45 (fl x n s) = 0) ∧ ∀ l, l < 10 → (σ.1 2 l = 0 ∨ σ.1 2 l = 1) ∧ (σ.1 3 l = 0 ∨ σ.1 3 l = 1) ∧ (nl σ ≤ l → σ.1 2 l = 0 ∧ σ.1 3 l = 0)
theorem FrI.f1 {τ : sn_FS} (h : FrI σ) (hf : FR1 σ τ) : FrI τ := by
  obtain ⟨h1, h2, h3⟩ := h
  refine ⟨fun k e hk he h20 => ?_, fun x n s hx hn hs hb => ?_, fun l hl => ?_⟩
  · rw [hf.sp.nlE] at he
    rw [hf.2.1 k e hk he]; exact h1 k e hk he h20
  · rw [hf.sp.nbE] at hb
    rw [hf.2.2 x n s hn hs hb]; exact h2 x n s hx hn hs hb
  · rw [hf.1 2 l (by omega), hf.1 3 l (by omega), hf.sp.nlE]; exact h3 l hl
def TmA (d : Nat) (σ : sn_FS) : Prop := (∀ i, i < 20 → Tm d σ 11 i ∧ Tm d σ 20 i ∧ Tm d σ 40 i) ∧ ∀ f, f < 144 → Tm d σ 44 f ∧ Tm d σ 53 f ∧ Tm d σ 54 f
theorem TmA.ts {τ : sn_FS} {d : Nat} (h : TmA d σ) (hT : TS σ τ) (hC : ClOk σ) (hd : d ≤ 1) : TmA d τ :=
  ⟨fun i hi => ⟨(h.1 i hi).1.ts hT hC (by decide) hd, (h.1 i hi).2.1.ts hT hC (by decide) hd, (h.1 i hi).2.2.ts hT hC (by decide) hd⟩, fun f hf => ⟨(h.2 f hf).1.ts hT hC (by decide) hd, (h.2 f hf).2.1.ts hT hC (by decide) hd, (h.2 f hf).2.2.ts hT hC (by decide) hd⟩⟩
/-- what holds between calls -/
def GA (σ η : sn_FS) : Prop := GI σ η ∧ FrI σ ∧ TmA 1 σ ∧ σ.1 5 0 = σ.1 6 0
theorem sS_at {k i : Nat} {v : Int32} : (sS σ k v).1 k i = v := if_pos rfl
theorem inv_sS {k : Nat} {v : Int32} (h : Inv σ η) (hk : k = 5 ∨ k = 7 ∨ k = 8 ∨ k = 9) : Inv (sS σ k v) η := by
  obtain ⟨h1, h2, h3, h4, h5⟩ := h
  have hne : ∀ k' i, 10 ≤ k' → (sS σ k v).1 k' i = σ.1 k' i := fun k' i h => sS_ne (by omega)
  refine ⟨h1.mS (by rcases hk with rfl | rfl | rfl | rfl <;> decide), h2.mS (by rcases hk with rfl | rfl | rfl | rfl <;> decide), h3.mk' (SP.sS (by omega)) (fun k' i q => hne k' i (by omega)), h4.mk' (fun i _ => Or.inr ⟨hne _ _ (by decide), hne _ _ (by decide)⟩), h5.at (sS_ne (by omega))⟩
theorem GI.look (h : GI σ η) (hb : cl σ 6 0 + 1 < 20000) : GI (sS σ 6 (σ.1 6 0 + 1)) η ∧ cl (sS σ 6 (σ.1 6 0 + 1)) 6 0 = cl σ 6 0 + 1 := by
  obtain ⟨⟨h1, h2, h3, h4, h5⟩, hR, hC, hP⟩ := h
  obtain ⟨c1, c2⟩ := h5.cl
  have hne : ∀ k' i, k' ≠ 6 → (sS σ 6 (σ.1 6 0 + 1)).1 k' i = σ.1 k' i := fun k' i h => sS_ne h
  have e6 : (sS σ 6 (σ.1 6 0 + 1)).1 6 0 = nI (cl σ 6 0 + 1) := by
    rw [sS_at, c2, nI_1]
  have hsp : SP σ (sS σ 6 (σ.1 6 0 + 1)) := SP.sS (by decide)
  refine ⟨⟨⟨h1.mS (by decide), h2.mS (by decide), h3.mk' hsp (fun k' i q => hne k' i (by omega)), h4.mk' (fun i _ => Or.inr ⟨hne _ _ (by decide), hne _ _ (by decide)⟩), ⟨_, hb, e6⟩⟩, hR.eq (fun k i hk => hne k i (by omega)), hC.eq hsp (fun k i a b => hne k i (by omega)), hP⟩, ?_⟩
  unfold cl
  rw [e6]
  exact nI_clamp (by omega)
theorem Tm.look {k i : Nat} (h : Tm 1 σ k i) (hk : k ≠ 6) (hc : cl (sS σ 6 (σ.1 6 0 + 1)) 6 0 = cl σ 6 0 + 1) : Tm 0 (sS σ 6 (σ.1 6 0 + 1)) k i := by
  obtain ⟨v, a, b, c⟩ := h
  exact ⟨v, a, by rw [sS_ne hk]; exact b, by rw [hc]; omega⟩
theorem Tm.eq {τ : sn_FS} {d k i : Nat} (h : Tm d σ k i) (h6 : τ.1 6 0 = σ.1 6 0) (hk : τ.1 k i = σ.1 k i) : Tm d τ k i := by
  obtain ⟨v, a, b, c⟩ := h
  have : cl τ 6 0 = cl σ 6 0 := by unfold cl; rw [h6]
  exact ⟨v, a, by rw [hk]; exact b, by rw [this]; exact c⟩
theorem one_ok (hK : KOk kk σ) (hA : GA σ η) (hb : cl σ 6 0 + 1 < 20000) : ∃ τ θ, g_Md_one σ = some (none, τ) ∧ (∀ k15 x1 x2, f_Sn_tick_22 k15 1 sn_fuel x1 x2 0 (Kap kk σ η) = k15 x1 (x2 + 1) (Kap kk τ θ)) ∧ GA τ θ ∧ SP σ τ ∧ cl τ 6 0 = cl σ 6 0 + 1 := by
  obtain ⟨hG, hF, hT, h56⟩ := hA
  have hn10 := hG.1.2.1.1.2.1
  have hfu : (1000 : Nat) < sn_fuel := by unfold sn_fuel; omega
  have hCl := hG.1.2.2.2.2
  obtain ⟨τ1, θ1, a1, a2, a3, a4, a5⟩ := arr_loop (kk := kk) (2 * nl σ) sn_fuel sn_fuel 0 σ η (by omega) (by omega) (by omega) (by omega) hK hG (fun l hl => (hF.2.2 l hl).2.1)
  have a1 : g_Md_one_2 sn_fuel 0 σ = _ := a1
  have a2 : ∀ k15 x1 x2, f_Sn_tick_22 k15 1 sn_fuel x1 x2 0 (Kap kk σ η) = AFT k15 x1 x2 (Kap kk τ1 θ1) := a2
  have hT1 := hT.ts a4 hCl (by decide)
  have hc1 : cl τ1 6 0 = cl σ 6 0 := by unfold cl; rw [a4.1]
  obtain ⟨hG2, hc2⟩ := a3.look (by rw [hc1]; exact hb)
  obtain ⟨σ2, e2⟩ : ∃ σ2, σ2 = sS τ1 6 (τ1.1 6 0 + 1) := ⟨_, rfl⟩
  have hs2 : SP τ1 σ2 := by rw [e2]; exact SP.sS (by decide)
  have hK2 := (hK.sp a5.sp).sp hs2
  have hnl2 : nl σ2 = nl σ := by rw [hs2.nlE, a5.sp.nlE]
  have hT2 : TmA 0 σ2 := by
    rw [e2]
    exact ⟨fun i hi => ⟨(hT1.1 i hi).1.look (by decide) hc2, (hT1.1 i hi).2.1.look (by decide) hc2, (hT1.1 i hi).2.2.look (by decide) hc2⟩, fun f hf => ⟨(hT1.2 f hf).1.look (by decide) hc2, (hT1.2 f hf).2.1.look (by decide) hc2, (hT1.2 f hf).2.2.look (by decide) hc2⟩⟩
  have hF2 : FrI σ2 := by
    have hf1 := hF.f1 a5
    refine hf1.f1 ⟨fun k i hk => ?_, fun k i hk _ => ?_, fun x n s _ _ _ => ?_⟩
    · rw [e2]; exact sS_ne (by omega)
    · rw [e2]; exact sS_ne (by have := nr_of hk; omega)
    · rw [e2]; exact sS_ne (by decide)
  have h56' : σ2.1 5 0 = σ.1 5 0 ∧ σ2.1 6 0 = σ.1 6 0 + 1 := by
    rw [e2]
    refine ⟨by rw [sS_ne (by decide)]; exact a5.1 5 0 (by decide), ?_⟩
    rw [sS_at, a4.1]
  rw [← e2] at a1 hG2 hc2
  -- timers of links
  have hC2 := hG2.1.2.2.2.2
  obtain ⟨τ3, θ3, b1, b2, b3, b4, b5, b6, b7, b8⟩ := tm_ends (kk := kk) (2 * nl σ2) sn_fuel sn_fuel 0 σ2 θ1 (by omega) (by omega) (by omega) (by omega) hK2 hG2.1 hG2.2.1 (fun i hi => ⟨(hT2.1 i (by omega)).2.2, (hT2.1 i (by omega)).1, (hT2.1 i (by omega)).2.1, fun q => by omega⟩)
  have b1 : g_Md_one_35 sn_fuel 0 σ2 = _ := b1
  have b2 : f_Tr_runTimers_2 11 sn_fuel 0 (Kap kk σ2 θ1) = _ := b2
  have hT3 := hT2.ts b6 hC2 (by decide)
  have hC3 := b3.2.2.2.2
  have hnl3 : nl τ3 = nl σ2 := b7.sp.nlE
  obtain ⟨τ4, θ4, c1, c2, c3, c4, c5, c6, c7, c8, c9⟩ := tm_x6 (kk := kk) 6 sn_fuel sn_fuel τ3 θ3 (by omega) (by omega) (by omega) (hK2.sp b7.sp) b3 b4 (fun i hi => (hT3.1 i (by omega)).2.2) (fun x n s hx hn hs => (hT3.2 _ (fl_lt hx hn hs)).1)
  have c1 : g_Md_one_58 sn_fuel 0 τ3 = _ := c1
  have c2 : f_Tr_runTimers_33 11 sn_fuel 0 (Kap kk τ3 θ3) = _ := c2
  have hT4 := hT3.ts c6 hC3 (by decide)
  have hC4 := c3.2.2.2.2
  have hnl4 : nl τ4 = nl τ3 := c7.sp.nlE
  have hCI4 : CI τ4 := (hG2.2.2.1.eq b7.sp (fun k i x y => b7.1 k i (by omega))).eq c7.sp (fun k i x y => c7.1 k i (by omega))
  have hG4 : GI τ4 θ4 := ⟨c3, c4, hCI4, (hG2.2.2.2.eq b5).eq c5⟩
  -- circuits
  obtain ⟨τ5, θ5, d1, d2, d3, d4, d5, d6⟩ := ln_loop (kk := kk) 144 sn_fuel sn_fuel τ4 θ4 (by omega) (by omega) (by omega) ((hK2.sp b7.sp).sp c7.sp) hG4 (fun c hc => ⟨(hT4.2 c hc).2.1, (hT4.2 c hc).2.2, fun q => by omega⟩)
  have d1 : g_Md_one_258 sn_fuel 0 τ4 = _ := d1
  have d2 : f_Sn_runCircuitTimers_2 1 sn_fuel 0 (Kap kk τ4 θ4) = _ := d2
  have hC5 := d3.1.2.2.2.2
  have hnl5 : nl τ5 = nl τ4 := d5.sp.nlE
  -- units are sent
  obtain ⟨τ6, θ6, f1, f2, f3, f4, f5, f6, f7⟩ := snd_ends (kk := kk) (2 * nl τ5) sn_fuel sn_fuel 0 τ5 θ5 (by omega) (by omega) (by omega) (by omega) (((hK2.sp b7.sp).sp c7.sp).sp d5.sp) d3.1 d3.2.1
  have f1 : g_Md_one_278 sn_fuel 0 τ5 = _ := f1
  have f2 : f_Tr_sendUnits_2 11 sn_fuel 0 (Kap kk τ5 θ5) = _ := f2
  have hCI6 : CI τ6 := d3.2.2.1.eq f7.sp (fun k i x y => f7.1 k i (by omega))
  have hs7 : SP τ6 (sS τ6 5 (τ6.1 5 0 + 1)) := SP.sS (by decide)
  have hne7 : ∀ k i, k ≠ 5 → (sS τ6 5 (τ6.1 5 0 + 1)).1 k i = τ6.1 k i := fun k i h => sS_ne h
  have hfr : FR1 σ2 τ6 := ((b7.f1.tr c7.f1).tr d5).tr f7.f1
  have hFr6 : FrI τ6 := hF2.f1 hfr
  have hFr7 : FrI (sS τ6 5 (τ6.1 5 0 + 1)) := by
    obtain ⟨x1, x2, x3⟩ := hFr6
    refine ⟨fun k e hk he h20 => ?_, fun x n s hx hn hs hb => ?_, fun l hl => ?_⟩
    · rw [hs7.nlE] at he
      rw [hne7 k e (by have := nr_of hk; omega)]; exact x1 k e hk he h20
    · rw [hs7.nbE] at hb
      rw [hne7 45 _ (by decide)]; exact x2 x n s hx hn hs hb
    · rw [hne7 2 l (by decide), hne7 3 l (by decide), hs7.nlE]; exact x3 l hl
  have t36 : TS τ3 τ6 := (c6.tr d4).tr f6
  have t46 : TS τ4 τ6 := d4.tr f6
  have h6 : τ6.1 6 0 = σ2.1 6 0 := by rw [f6.1, d4.1, c6.1, b6.1]
  have hsp : SP σ τ6 := (((((a5.sp).tr hs2).tr b7.sp).tr c7.sp).tr d5.sp).tr f7.sp
  have hnl6 : nl τ6 = nl σ := hsp.nlE
  have hT6 : TmA 1 τ6 := by
    refine ⟨fun i hi => ?_, fun f hf => ?_⟩
    · by_cases ci : i < 2 * nl σ
      · have hi3 : i < 2 * nl τ3 := by rw [hnl3, hnl2]; exact ci
        obtain ⟨z1, z2⟩ := b8 i (by rw [hnl2]; exact ci)
        exact ⟨z1.ts t36 hC3 (by decide) (by decide), z2.ts t36 hC3 (by decide) (by decide), (c8 i hi3 (by omega)).ts t46 hC4 (by decide) (by decide)⟩
      · have he : 2 * nl τ6 ≤ i := by rw [hnl6]; omega
        have hE := f3.2.1.e1 hi
        have z10 : τ6.1 10 i = 0 := hFr6.1 10 i (by decide) he hi
        have z20 : τ6.1 20 i = 0 := (hE.2.2.2.2.2.1 (by rw [z10]; decide)).2.1
        exact ⟨Tm.z (hFr6.1 11 i (by decide) he hi), Tm.z z20, Tm.z (hFr6.1 40 i (by decide) he hi)⟩
    · obtain ⟨x, n, s, hx, hn, hs, rfl⟩ := fl_split hf
      obtain ⟨z1, z2⟩ := d6 _ hf
      exact ⟨(c9 x n s hx hn hs (by omega)).ts t46 hC4 (by decide) (by decide), z1.ts f6 hC5 (by decide) (by decide), z2.ts f6 hC5 (by decide) (by decide)⟩
  refine ⟨sS τ6 5 (τ6.1 5 0 + 1), θ6, ?_, fun k15 x1 x2 => ?_, ⟨⟨inv_sS f3 (by decide), f4.eq (fun k i hk => hne7 k i (by omega)), hCI6.eq hs7 (fun k i x y => hne7 k i (by omega)), d3.2.2.2.eq f5⟩, hFr7, ⟨fun i hi => ⟨(hT6.1 i hi).1.eq (hne7 6 0 (by decide)) (hne7 11 i (by decide)), (hT6.1 i hi).2.1.eq (hne7 6 0 (by decide)) (hne7 20 i (by decide)), (hT6.1 i hi).2.2.eq (hne7 6 0 (by decide)) (hne7 40 i (by decide))⟩, fun f hf => ⟨(hT6.2 f hf).1.eq (hne7 6 0 (by decide)) (hne7 44 f (by decide)), (hT6.2 f hf).2.1.eq (hne7 6 0 (by decide)) (hne7 53 f (by decide)), (hT6.2 f hf).2.2.eq (hne7 6 0 (by decide)) (hne7 54 f (by decide))⟩⟩, ?_⟩, hsp.tr hs7, ?_⟩
  · unfold g_Md_one
    rw [a1, b1, c1, d1, f1]
  · rw [a2]
    have hKap : Kap kk (sS τ6 5 (τ6.1 5 0 + 1)) θ6 = Kap kk τ6 θ6 := Kap_of (fun k i hk => hne7 k i (fun q => by subst q; exact hk (by decide)))
    rw [hKap]
    have hbl : ∀ kk' : kk 2 = 1, f_Ck_beginLooking 2 (Kap kk τ1 θ1) = some (none, Kap kk σ2 θ1) := fun k2 => by
      rw [e2]
      simp only [f_Ck_beginLooking, x_gI, k2, if_true, rd_s2_0, x_pI, wS_6, r_V]
    have hrt : f_Tr_runTimers 11 (Kap kk σ2 θ1) = some (none, Kap kk τ4 θ4) := by
      unfold f_Tr_runTimers
      rw [b2, c2]
    have hlt : f_Sn_runCircuitTimers 1 (Kap kk τ4 θ4) = some (none, Kap kk τ5 θ5) := d2
    have hsu : f_Tr_sendUnits 11 (Kap kk τ5 θ5) = some (none, Kap kk τ6 θ6) := f2
    obtain ⟨⟨k1, k2, k3, k4, k5, k6, k7, k8, k9, k10, k11, k12, k13, k14, k15, k16, k17, k18, k19, k20, k21, k22⟩, kE, kF, kP, k4s⟩ := id hK
    simp only [AFT, x_gR, k1, if_true, rr_s1_0, x_nn, k2, x_cV (hbl k2), rr_s1_2, k11, x_cV hrt, x_cV hlt, x_cV hsu]
  · rw [sS_at, hne7 6 0 (by decide), h6, h56'.2, hfr.1 5 0 (by decide), h56'.1, h56]
  · have : cl (sS τ6 5 (τ6.1 5 0 + 1)) 6 0 = cl σ2 6 0 := by unfold cl; rw [hne7 6 0 (by decide), h6]
    rw [this, hc2, hc1]
/-! calls: both alike -/
def Op (kk : Nat → Nat) (g : sn_G) (f : sn_M) (σ η : sn_FS) : Prop := ∃ v τ θ, g σ = some (some (.int v), τ) ∧ f (Kap kk σ η) = some (some (.int v), Kap kk τ θ) ∧ GA τ θ ∧ SP σ τ ∧ cl τ 6 0 ≤ cl σ 6 0 + 200
theorem tick_loop {n : Nat} (hn : n ≤ 200) : ∀ (r fuel fuel' : Nat) (σ η : sn_FS), r ≤ n → r < fuel → r < fuel' → KOk kk σ → GA σ η → cl σ 6 0 + r < 20000 → ∃ τ θ, g_Md_tick_15 fuel (nI n) (nI (n - r)) σ = some (some (.int (τ.1 5 0)), τ) ∧ f_Sn_tick_15 1 fuel' (nI n) (nI (n - r)) (Kap kk σ η) = some (some (.int (τ.1 6 0)), Kap kk τ θ) ∧ GA τ θ ∧ SP σ τ ∧ cl τ 6 0 = cl σ 6 0 + r
  | 0, fuel + 1, fuel' + 1, σ, η, _, _, _, hK, hA, hb => by
    refine ⟨σ, η, ?_, ?_, hA, SP.rf, rfl⟩
    · show (if nI n ≤ nI (n - 0) then (_ : sn_G) else (_ : sn_G)) σ = _
      rw [if_pos (nI_le (by omega) (by omega))]; rfl
    · have e : (nI n ≤ nI n) = True := eq_true (nI_le (by omega) (by omega))
      obtain ⟨⟨k1, k2, k3, k4, k5, k6, k7, k8, k9, k10, k11, k12, k13, k14, k15, k16, k17, k18, k19, k20, k21, k22⟩, kE, kF, kP, k4s⟩ := id hK
      simp only [f_Sn_tick_15, Nat.sub_zero, e, if_true, x_gR, k1, rr_s1_0, x_gI, k2, rd_s2_0, r_I]
  | r + 1, fuel + 1, fuel' + 1, σ, η, hr, hf, hf', hK, hA, hb => by
    obtain ⟨τ, θ, a1, a2, a3, a4, a5⟩ := one_ok hK hA (by omega)
    obtain ⟨ω, ζ, b1, b2, b3, b4, b5⟩ := tick_loop hn r fuel fuel' τ θ (by omega) (by omega) (by omega) (hK.sp a4) a3 (by omega)
    have e1 : n - (r + 1) + 1 = n - r := by omega
    have hle : ¬ nI n ≤ nI (n - (r + 1)) := fun q => by have := (nI_leI (a := n) (b := n - (r + 1)) (by omega) (by omega)).mp q; omega
    refine ⟨ω, ζ, ?_, ?_, b3, a4.tr b4, by omega⟩
    · show (if nI n ≤ nI (n - (r + 1)) then (_ : sn_G) else y_V g_Md_one (g_Md_tick_15 fuel (nI n) (nI (n - (r + 1)) + (1 : Int32)))) σ = _
      rw [if_neg hle, y_V_at a1, nI_1, e1, b1]
    · show (if nI n ≤ nI (n - (r + 1)) then (_ : sn_M) else f_Sn_tick_22 (f_Sn_tick_15 1 fuel') 1 sn_fuel (nI n) (nI (n - (r + 1))) (0 : Int32)) (Kap kk σ η) = _
      rw [if_neg hle, a2, nI_1, e1, b2]
theorem nat_of {x : Int32} (h0 : ¬ x < 0) {b : Nat} (hb : b < 2 ^ 31) (h : x < nI b) : ∃ v, v < b ∧ x = nI v := by
  have h1 : 0 ≤ x.toInt := by
    have := (not_congr Int32.lt_iff_toInt_lt).mp h0
    have e : (0 : Int32).toInt = 0 := by decide
    omega
  have h2 : x.toInt < b := by
    have := Int32.lt_iff_toInt_lt.mp h
    rw [nI_toInt hb] at this
    exact this
  refine ⟨x.toInt.toNat, by omega, ?_⟩
  apply Int32.toInt_inj.mp
  rw [nI_toInt (by omega)]
  omega
theorem op_tick (hK : KOk kk σ) (hA : GA σ η) (hb : cl σ 6 0 + 200 < 20000) (x1 : Int32) : Op kk (g_Md_tick x1) (f_Sn_tick 1 x1) σ η := by
  by_cases c0 : x1 < 0
  · refine ⟨-1, σ, η, ?_, ?_, hA, SP.rf, by omega⟩
    · unfold g_Md_tick; rw [if_pos c0]; rfl
    · unfold f_Sn_tick; rw [if_pos c0]; rfl
  · by_cases c2 : x1 ≤ (200 : Int32)
    · obtain ⟨n, hn, rfl⟩ := nat_of c0 (b := 201) (by omega) (by
        have h1 := Int32.le_iff_toInt_le.mp c2
        apply Int32.lt_iff_toInt_lt.mpr
        have e1 : (200 : Int32).toInt = 200 := by decide
        have e2 : (nI 201).toInt = 201 := by decide
        omega)
      have hfu : (1000 : Nat) < sn_fuel := by unfold sn_fuel; omega
      obtain ⟨τ, θ, a1, a2, a3, a4, a5⟩ := tick_loop (kk := kk) (n := n) (by omega) n sn_fuel sn_fuel σ η (Nat.le_refl _) (by omega) (by omega) hK hA (by omega)
      rw [Nat.sub_self] at a1 a2
      refine ⟨τ.1 6 0, τ, θ, ?_, ?_, a3, a4, by omega⟩
      · unfold g_Md_tick; rw [if_neg c0, if_pos c2, ← a3.2.2.2]; exact a1
      · unfold f_Sn_tick; rw [if_neg c0, if_pos c2]; exact a2
    · refine ⟨-1, σ, η, ?_, ?_, hA, SP.rf, by omega⟩
      · unfold g_Md_tick; rw [if_neg c0, if_neg c2]; rfl
      · unfold f_Sn_tick; rw [if_neg c0, if_neg c2]; rfl
