/-! LAYER 2: subscriber -/
variable {kk : Nat → Nat} {σ η : sn_FS}
theorem pigeon : ∀ (n : Nat) (l : List Nat), l.Nodup → (∀ v ∈ l, v < n) → l.length ≤ n
  | 0, l, _, h => by
    cases l with
    | nil => simp
    | cons a l => exact absurd (h a List.mem_cons_self) (by omega)
  | n + 1, l, hd, h => by
    by_cases c : n ∈ l
    · have h1 := pigeon n (l.erase n) (hd.erase n) (fun v hv => by
        obtain ⟨a, b⟩ := hd.mem_erase_iff.mp hv
        have := h v b
        omega)
      have h2 := List.length_erase_of_mem c
      omega
    · have h1 := pigeon n l hd (fun v hv => by
        have := h v hv
        have : v ≠ n := fun q => c (q ▸ hv)
        omega)
      omega
def rev (c : Nat) : Nat := fl (c % 24 / 4) (c / 24) (c % 4)
theorem rev_ok : ∀ c, c < 144 → rev c < 144 ∧ rev (rev c) = c ∧ rev c / 24 = c % 24 / 4 ∧ rev c % 24 / 4 = c / 24 ∧ rev c % 4 = c % 4 := by decide +kernel
def Ch (σ : sn_FS) (c : Nat) (vs : List Nat) : Prop := c ∉ vs ∧ vs.Nodup ∧ (∀ u ∈ vs, u < 144) ∧ c < 144 ∧ nb σ (c / 24) (c % 24 / 4) = true ∧ ∀ u ∈ c :: vs, (∃ p, p < 24 ∧ σ.1 57 u = nI p) ∨ ∃ t ∈ vs, σ.1 57 u = nI (100 + rev t)
theorem Ch.len {c : Nat} {vs : List Nat} (h : Ch σ c vs) : vs.length < 144 := by
  obtain ⟨h1, h2, h3, h4, -⟩ := h
  have := pigeon 144 (c :: vs) (List.nodup_cons.mpr ⟨h1, h2⟩) (fun v hv => by
    rcases List.mem_cons.mp hv with q | q
    · rw [q]; exact h4
    · exact h3 v q)
  simp at this
  omega
theorem tk_end (hK : KOk kk σ) {v : Int32} {k fuel fuel' : Nat} (hv : v = -1 ∨ ∃ p, p < 24 ∧ v = nI p) (hk : k ≤ 144) : ∃ w, g_Md_talks_23 (fuel + 1) v (nI k) σ = some (some (.int w), σ) ∧ f_Sw_talksWith_17 17 (fuel' + 1) (k_leg v) (nI k) (Kap kk σ η) = some (some (.int w), Kap kk σ η) := by
  have hKo := hK
  obtain ⟨⟨k1, k2, k3, k4, k5, k6, k7, k8, k9, k10, k11, k12, k13, k14, k15, k16, k17, k18, k19, k20, k21, k22⟩, kE, kF, kP, k4s⟩ := id hK
  have hL19 : kL 19 = 144 := rfl
  have h200 : ¬ (200 : Int32) ≤ nI k := fun q => by
    have := (nI_leI (a := 200) (b := k) (by omega) (by omega)).mp q
    omega
  have z10 : ((1 : Int32) = 0) = False := eq_false (by decide)
  rcases hv with rfl | ⟨p, hp, rfl⟩
  · refine ⟨-1, ?_, ?_⟩
    · rw [g_Md_talks_23, if_neg h200, if_pos (by decide)]
      unfold g_Md_talks_140
      rw [if_pos (by decide)]; rfl
    · rw [k_leg_m]
      have h103 : f_Sw_talksWith_103 17 none (Kap kk σ η) = some (some (.int (-1)), Kap kk σ η) := by
        unfold f_Sw_talksWith_103 f_Sw_talksWith_126 f_Sw_talksWith_127 f_Sw_talksWith_140
        rw [if_pos rfl, if_pos rfl]; rfl
      by_cases c : nI 144 ≤ nI k
      · simp only [f_Sw_talksWith_17, x_gR, k17, if_true, rr_s17_3, x_len, k19, hL19, toI, eq_true c, h103]
      · simp only [f_Sw_talksWith_17, x_gR, k17, if_true, rr_s17_3, x_len, k19, hL19, toI, eq_false c, if_false, h103]
  · have d61 : p < md_len 61 := hp
    have hV : VL σ p := Or.inl hp
    have haL : aL p = aP p := by unfold aL; rw [if_neg (by omega)]
    have hkl : k_leg (nI p) = some (aP p) := by rw [k_leg_n hV.vn, haL]
    have hkp := kP p hp
    have hsub := fl_isSub (kk := kk) (η := η) hKo hV
    rw [haL, if_pos (by omega)] at hsub
    have hcode := fl_code (kk := kk) (η := η) hKo hV
    rw [haL] at hcode
    have q1 : (some (aP p) = none) = False := by simp
    refine ⟨if σ.1 61 p = 4 then lgT p else -1, ?_, ?_⟩
    · rw [g_Md_talks_23, if_neg h200, if_pos (hV.vn.lt.mpr (by omega))]
      unfold g_Md_talks_140 g_Md_talks_168 g_Md_talks_169
      rw [if_neg (nI_pos (by omega)), if_neg (fun q => by have := hV.vn.ge.mp q; omega), q_I_at d61]
      by_cases c : σ.1 61 p = 4
      · rw [if_neg (fun q => q c), if_pos c, y_I_at (gl_legT hV.vn σ)]; rfl
      · rw [if_pos c, if_neg c]; rfl
    · rw [hkl]
      have h103 : f_Sw_talksWith_103 17 (some (aP p)) (Kap kk σ η) = some (some (.int (if σ.1 61 p = 4 then lgT p else -1)), Kap kk σ η) := by
        by_cases c : σ.1 61 p = 4
        · rw [if_pos c]
          simp only [f_Sw_talksWith_103, q1, if_false, x_nn, hkp, if_true, x_cI hsub, z10, x_gI, rd_P3, eq_true c, not_true_eq_false, f_Sw_talksWith_127, x_cI hcode, f_Sw_talksWith_140, r_I]
        · rw [if_neg c]
          simp only [f_Sw_talksWith_103, q1, if_false, x_nn, hkp, if_true, x_cI hsub, z10, x_gI, rd_P3, eq_false c, not_false_eq_true, f_Sw_talksWith_126, f_Sw_talksWith_127, f_Sw_talksWith_140, r_I]
      by_cases c : nI 144 ≤ nI k
      · simp only [f_Sw_talksWith_17, x_gR, k17, if_true, rr_s17_3, x_len, k19, hL19, toI, eq_true c, h103]
      · simp only [f_Sw_talksWith_17, x_gR, k17, if_true, rr_s17_3, x_len, k19, hL19, toI, eq_false c, if_false, q1, x_nn, hkp, x_cI hsub, z10, not_false_eq_true, h103]
def ans (σ : sn_FS) (c : Nat) : Bool := decide (σ.1 52 c = 3) || decide (σ.1 52 c = 6)
theorem fl_ans (hK : KOk kk σ) {c : Nat} (hc : c < 144) (hnb : nb σ (c / 24) (c % 24 / 4) = true) : f_Lg_isAnswered (aC c) (Kap kk σ η) = some (some (.int (if ans σ c then 1 else 0)), Kap kk σ η) := by
  obtain ⟨f1, f2, f3, f4⟩ := hK.2.2.1 c hc hnb
  unfold ans
  by_cases c3 : σ.1 52 c = 3
  · simp only [f_Lg_isAnswered, x_gI, f4, if_true, rd_C3, eq_true c3, f_Lg_isAnswered_17, f_Lg_isAnswered_22, r_Z]
    simp
  · by_cases c6 : σ.1 52 c = 6
    · simp only [f_Lg_isAnswered, x_gI, f4, if_true, rd_C3, eq_false c3, if_false, eq_true c6, not_true_eq_false, f_Lg_isAnswered_17, f_Lg_isAnswered_22, r_Z]
      simp
    · simp only [f_Lg_isAnswered, x_gI, f4, if_true, rd_C3, eq_false c3, if_false, eq_false c6, not_false_eq_true, f_Lg_isAnswered_22, r_Z]
      simp
theorem tk_loop (hK : KOk kk σ) (hJ : JOk σ) : ∀ (d fuel fuel' c : Nat) (vs : List Nat), 144 - vs.length = d → d < fuel → d < fuel' → Ch σ c vs → ∃ w, g_Md_talks_23 fuel (nI (100 + c)) (nI vs.length) σ = some (some (.int w), σ) ∧ f_Sw_talksWith_17 17 fuel' (some (aC c)) (nI vs.length) (Kap kk σ η) = some (some (.int w), Kap kk σ η)
  | 0, fuel, fuel', c, vs, hd, _, _, hC => by
    have := hC.len
    omega
  | d + 1, fuel + 1, fuel' + 1, c, vs, hd, hf, hf', hC => by
    have hKo := hK
    obtain ⟨⟨k1, k2, k3, k4, k5, k6, k7, k8, k9, k10, k11, k12, k13, k14, k15, k16, k17, k18, k19, k20, k21, k22⟩, kE, kF, kP, k4s⟩ := id hK
    have hlen := hC.len
    obtain ⟨c1, c2, c3, hc, hnb, c6⟩ := id hC
    obtain ⟨r1, r2, r3, r4, r5⟩ := rev_ok c hc
    have hnbr : nb σ (rev c / 24) (rev c % 24 / 4) = true := by rw [r3, r4, nb_sy]; exact hnb
    obtain ⟨f1, f2, f3, f4⟩ := kF c hc hnb
    obtain ⟨f1', f2', f3', f4'⟩ := kF _ r1 hnbr
    have hVc : VL σ (100 + c) := Or.inr ⟨by omega, by omega, by rw [Nat.add_sub_cancel_left]; exact hnb⟩
    have hVr : VL σ (100 + rev c) := Or.inr ⟨by omega, by omega, by rw [Nat.add_sub_cancel_left]; exact hnbr⟩
    have haL : aL (100 + c) = aC c := by unfold aL; rw [if_pos (by omega), Nat.add_sub_cancel_left]
    have d52 : c < md_len 52 := hc
    have d52' : rev c < md_len 52 := r1
    have d57' : rev c < md_len 57 := r1
    have hL19 : kL 19 = 144 := rfl
    have z10 : ((1 : Int32) = 0) = False := eq_false (by decide)
    have q1 : (some (aC c) = none) = False := by simp
    have q2 : (some (aC (rev c)) = none) = False := by simp
    have h200 : ¬ (200 : Int32) ≤ nI vs.length := fun q => by
      have := (nI_leI (a := 200) (b := vs.length) (by omega) (by omega)).mp q
      omega
    have h144 : (nI 144 ≤ nI vs.length) = False := eq_false (fun q => by
      have := (nI_leI (a := 144) (b := vs.length) (by omega) (by omega)).mp q
      omega)
    have hlt : ¬ nI (100 + c) < (100 : Int32) := fun q => by have := hVc.vn.lt.mp q; omega
    obtain ⟨v', hv'⟩ : ∃ v' : Int32, v' = if ans σ c = true ∧ ans σ (rev c) = true then σ.1 57 (rev c) else -1 := ⟨_, rfl⟩
    have hg : g_Md_talks_23 (fuel + 1) (nI (100 + c)) (nI vs.length) σ = g_Md_talks_23 fuel v' (nI (vs.length + 1)) σ := by
      have hsub : nI (100 + c) - (100 : Int32) = nI c := by rw [Vn.sub (by omega), Nat.add_sub_cancel_left]
      have hfa : g_Md_flowAt (nI (c % 24 / 4)) (nI (c / 24)) (nI (c % 4)) σ = some (some (.int (nI (rev c))), σ) := gl_flowAt σ _ _ _
      have h133 : ∀ t, g_Md_talks_133 (g_Md_talks_23 fuel) (nI vs.length) t = g_Md_talks_23 fuel t (nI (vs.length + 1)) := fun t => by unfold g_Md_talks_133; rw [nI_1]
      have h114 : g_Md_talks_114 (g_Md_talks_23 fuel) (nI vs.length) (nI (rev c)) σ = g_Md_talks_23 fuel (-1) (nI (vs.length + 1)) σ := by
        unfold g_Md_talks_114 g_Md_talks_115
        rw [if_pos rfl, h133]
      have h110 : g_Md_talks_110 (g_Md_talks_23 fuel) (nI vs.length) (nI (rev c)) σ = g_Md_talks_23 fuel (σ.1 57 (rev c)) (nI (vs.length + 1)) σ := by
        unfold g_Md_talks_110 g_Md_talks_115
        rw [if_neg (by decide), q_I_at d57', h133]
      have h87 : g_Md_talks_87 (g_Md_talks_23 fuel) (nI vs.length) (nI (rev c)) σ = g_Md_talks_23 fuel (if ans σ (rev c) = true then σ.1 57 (rev c) else -1) (nI (vs.length + 1)) σ := by
        unfold g_Md_talks_87 ans
        rw [q_I_at d52']
        by_cases a3 : σ.1 52 (rev c) = 3
        · rw [if_pos a3, h110, if_pos (by simp [a3])]
        · rw [if_neg a3, q_I_at d52']
          by_cases a6 : σ.1 52 (rev c) = 6
          · rw [if_neg (fun q => q a6), h110, if_pos (by simp [a6])]
          · rw [if_pos a6, h114, if_neg (by simp [a3, a6])]
      rw [g_Md_talks_23, if_neg h200, if_neg hlt, hsub]
      show (y_I (g_Md_flowAt ((nI c % (24 : Int32)) / (4 : Int32)) (nI c / (24 : Int32)) (nI c % (4 : Int32))) fun v7 => q_I 52 (nI c) fun v8 => (if v8 = (3 : Int32) then g_Md_talks_87 (g_Md_talks_23 fuel) (nI vs.length) v7 else q_I 52 (nI c) fun v9 => (if ¬ v9 = (6 : Int32) then g_Md_talks_114 (g_Md_talks_23 fuel) (nI vs.length) v7 else g_Md_talks_87 (g_Md_talks_23 fuel) (nI vs.length) v7))) σ = _
      rw [c24 c hc, cn4 c hc, cm4 c hc, y_I_at hfa, q_I_at d52, hv']
      by_cases a3 : σ.1 52 c = 3
      · have ha : ans σ c = true := by unfold ans; simp [a3]
        rw [if_pos a3, h87]
        simp only [ha, true_and]
      · rw [if_neg a3, q_I_at d52]
        by_cases a6 : σ.1 52 c = 6
        · have ha : ans σ c = true := by unfold ans; simp [a6]
          rw [if_neg (fun q => q a6), h87]
          simp only [ha, true_and]
        · have ha : ans σ c = false := by unfold ans; simp [a3, a6]
          rw [if_pos a6, h114]
          simp only [ha, Bool.false_eq_true, false_and, if_false]
    have hf0 : f_Sw_talksWith_17 17 (fuel' + 1) (some (aC c)) (nI vs.length) (Kap kk σ η) = f_Sw_talksWith_17 17 fuel' (k_leg v') (nI (vs.length + 1)) (Kap kk σ η) := by
      have hsub := fl_isSub (kk := kk) (η := η) hKo hVc
      rw [haL, if_neg (by omega)] at hsub
      have hca := fl_cirAt (η := η) hKo (x := c % 24 / 4) (n := c / 24) (i := c % 4) (by omega) (by omega) (by omega)
      have hcr : cR σ (c % 24 / 4) (c / 24) (c % 4) = some (aC (rev c)) := by unfold cR; rw [nb_sy, if_pos hnb]; rfl
      rw [hcr] at hca
      have ha1 := fl_ans (η := η) hKo hc hnb
      have ha2 := fl_ans (η := η) hKo r1 hnbr
      have h96 : ∀ t, f_Sw_talksWith_96 (f_Sw_talksWith_17 17 fuel') 17 (nI vs.length) t = f_Sw_talksWith_17 17 fuel' t (nI (vs.length + 1)) := fun t => by unfold f_Sw_talksWith_96; rw [nI_1]
      by_cases a1 : ans σ c = true
      · rw [if_pos a1] at ha1
        by_cases a2 : ans σ (rev c) = true
        · rw [if_pos a2] at ha2
          have ev : v' = σ.1 57 (rev c) := by rw [hv', if_pos ⟨a1, a2⟩]
          simp only [f_Sw_talksWith_17, x_gR, k17, if_true, rr_s17_3, x_len, k19, hL19, toI, h144, if_false, q1, x_nn, f4, x_cI hsub, not_true_eq_false, x_gI, rd_C1, rd_C0, rd_C2, x_cR hca, x_cI ha1, z10, q2, f4', x_cI ha2, f_Sw_talksWith_80, rr_C4, h96, ev]
        · rw [if_neg a2] at ha2
          have ev : v' = -1 := by rw [hv', if_neg (fun q => a2 q.2)]
          simp only [f_Sw_talksWith_17, x_gR, k17, if_true, rr_s17_3, x_len, k19, hL19, toI, h144, if_false, q1, x_nn, f4, x_cI hsub, not_true_eq_false, x_gI, rd_C1, rd_C0, rd_C2, x_cR hca, x_cI ha1, z10, q2, f4', x_cI ha2, f_Sw_talksWith_79, f_Sw_talksWith_80, h96, ev, k_leg_m]
      · rw [if_neg a1] at ha1
        have ev : v' = -1 := by rw [hv', if_neg (fun q => a1 q.1)]
        simp only [f_Sw_talksWith_17, x_gR, k17, if_true, rr_s17_3, x_len, k19, hL19, toI, h144, if_false, q1, x_nn, f4, x_cI hsub, not_true_eq_false, x_gI, rd_C1, rd_C0, rd_C2, x_cR hca, x_cI ha1, f_Sw_talksWith_79, f_Sw_talksWith_80, h96, ev, k_leg_m]
    rw [hg, hf0]
    obtain ⟨fu, rfl⟩ : ∃ fu, fuel = fu + 1 := ⟨fuel - 1, by omega⟩
    obtain ⟨fu', rfl⟩ : ∃ fu', fuel' = fu' + 1 := ⟨fuel' - 1, by omega⟩
    have hcases : (v' = -1 ∨ ∃ p, p < 24 ∧ v' = nI p) ∨ ∃ c', v' = nI (100 + c') ∧ Ch σ c' (c :: vs) := by
      by_cases ca : ans σ c = true ∧ ans σ (rev c) = true
      · rw [hv', if_pos ca]
        rcases hJ (100 + rev c) hVr with q | ⟨o, o1, o2, o3, o4, o5⟩
        · rw [lgv_57] at q; exact Or.inl (Or.inl q)
        · rw [lgv_57] at o4
          rcases o1 with ho | ⟨ho1, ho2, ho3⟩
          · exact Or.inl (Or.inr ⟨o, ho, o4⟩)
          · right
            have eo : o = 100 + (o - 100) := by omega
            have h57 : σ.1 57 (o - 100) = nI (100 + rev c) := by rw [← lgv_57, ← eo]; exact o5
            refine ⟨o - 100, by rw [o4, ← eo], ?_, List.nodup_cons.mpr ⟨c1, c2⟩, fun u hu => ?_, by omega, ho3, fun u hu => ?_⟩
            · intro hmem
              rcases c6 _ hmem with ⟨p, hp, e⟩ | ⟨t, ht, e⟩
              · rw [h57] at e
                have := nI_inj (by omega) (by omega) e
                omega
              · rw [h57] at e
                obtain ⟨t1, t2, -⟩ := rev_ok t (c3 t ht)
                have e1 := nI_inj (by omega) (by omega) e
                have e2 : rev c = rev t := by omega
                have e3 : c = t := by rw [← r2, e2, t2]
                exact c1 (e3 ▸ ht)
            · rcases List.mem_cons.mp hu with q | q
              · rw [q]; exact hc
              · exact c3 u q
            · rcases List.mem_cons.mp hu with q | q
              · exact Or.inr ⟨c, List.mem_cons_self, by rw [q]; exact h57⟩
              · rcases c6 u q with h | ⟨t, ht, e⟩
                · exact Or.inl h
                · exact Or.inr ⟨t, List.mem_cons_of_mem _ ht, e⟩
      · rw [hv', if_neg ca]; exact Or.inl (Or.inl rfl)
    rcases hcases with h | ⟨c', e, hC'⟩
    · exact tk_end hKo h (by omega)
    · have hVc' : Vn (100 + c') := Or.inr ⟨by omega, by have := hC'.2.2.2.1; omega⟩
      have haL' : k_leg v' = some (aC c') := by
        rw [e, k_leg_n hVc']
        unfold aL
        rw [if_pos (by omega), Nat.add_sub_cancel_left]
      rw [haL', e]
      exact tk_loop hK hJ d (fu + 1) (fu' + 1) c' (c :: vs) (by simp; omega) (by omega) (by omega) hC'
theorem op_subscriber (hK : KOk kk σ) (hA : GA σ η) (x1 x2 : Int32) : Op kk (g_Md_subscriber x1 x2) (f_Sn_subscriber 1 x1 x2) σ η := by
  have hKo := hK
  obtain ⟨⟨k1, k2, k3, k4, k5, k6, k7, k8, k9, k10, k11, k12, k13, k14, k15, k16, k17, k18, k19, k20, k21, k22⟩, kE, kF, kP, k4s⟩ := id hK
  have hCI := hA.1.2.2.1
  refine Al.op ?_ hA
  rcases p_cases (kk := kk) hKo x1 with ⟨v, hv, rfl, hg⟩ | ⟨hg, hf⟩
  · obtain ⟨s, es⟩ : ∃ s, s = 4 * (v / 10) + v % 10 := ⟨_, rfl⟩
    have hv2 := hv
    unfold numOk at hv2
    have hs : s < 24 := by omega
    have hsub := fl_subAt (η := η) hKo hv
    rw [← es] at hg hsub
    have hm1 : ¬ nI s = -1 := nI_m1 (by omega)
    have q1 : (some (aP s) = none) = False := by simp
    have d61 : s < md_len 61 := hs
    have d62 : s < md_len 62 := hs
    have hkp := kP s hs
    have hV : VL σ s := Or.inl hs
    have haL : aL s = aP s := by unfold aL; rw [if_neg (by omega)]
    have hgl : ∀ w, (if ¬ x2 = 0 then (if ¬ x2 = (1 : Int32) then (if ¬ x2 = (2 : Int32) then g_Md_subscriber_57 (-1 : Int32) else y_I (g_Md_talks (nI s)) fun v2 => g_Md_subscriber_57 v2) else q_I 62 (nI s) fun v3 => y_I (g_Md_legTold v3) fun v4 => g_Md_subscriber_57 v4) else q_I 61 (nI s) fun v5 => g_Md_subscriber_57 v5) σ = some (some (.int w), σ) → g_Md_subscriber (nI v) x2 σ = some (some (.int w), σ) := fun w h => by
      unfold g_Md_subscriber
      rw [y_I_at hg, if_pos hm1]
      exact h
    have hcl : ∀ w, (sn_sw x2 [0, 1, 2] [(g_I 4 3 (some (aP s)) fun v4 => r_I v4), (n_n 4 (some (aP s)) fun a5 => c_I (f_Lg_joinedCode a5) fun v6 => r_I v6), (g_R 11 3 (some 1) fun v7 => n_n 7 v7 fun a8 => c_I (f_Sw_talksWith a8 (some (aP s))) fun v9 => r_I v9)] (r_I (-1 : Int32))) (Kap kk σ η) = some (some (.int w), Kap kk σ η) → f_Sn_subscriber 1 (nI v) x2 (Kap kk σ η) = some (some (.int w), Kap kk σ η) := fun w h => by
      simp only [f_Sn_subscriber, x_gR, k1, if_true, rr_s1_3, x_nn, k17, x_cR hsub, q1, not_false_eq_true]
      exact h
    by_cases c0 : x2 = 0
    · subst c0
      refine ⟨σ.1 61 s, hgl _ ?_, hcl _ ?_⟩
      · rw [if_neg (fun q => q rfl), q_I_at d61]; rfl
      · show (g_I 4 3 (some (aP s)) fun v4 => r_I v4) (Kap kk σ η) = _
        simp only [x_gI, hkp, if_true, rd_P3, r_I]
    · by_cases c1 : x2 = 1
      · subst c1
        obtain ⟨w, a, b⟩ := al_leg (η := η) hKo hCI.1 hV
        rw [lgv_62 hs] at a
        rw [haL] at b
        refine ⟨w, hgl _ ?_, hcl _ ?_⟩
        · rw [if_pos c0, if_neg (fun q => q rfl), q_I_at d62, y_I_at a]; rfl
        · show (n_n 4 (some (aP s)) fun a5 => c_I (f_Lg_joinedCode a5) fun v6 => r_I v6) (Kap kk σ η) = _
          simp only [x_nn, hkp, if_true, x_cI b, r_I]
      · by_cases c2 : x2 = 2
        · subst c2
          obtain ⟨fu, hfu⟩ : ∃ fu, sn_fuel = fu + 1 := ⟨1048575, rfl⟩
          have key : ∃ w, g_Md_talks (nI s) σ = some (some (.int w), σ) ∧ f_Sw_talksWith 17 (some (aP s)) (Kap kk σ η) = some (some (.int w), Kap kk σ η) := by
            by_cases c4 : σ.1 61 s = 4
            · have hlp : ∃ w, g_Md_talks_23 sn_fuel (σ.1 62 s) 0 σ = some (some (.int w), σ) ∧ f_Sw_talksWith_17 17 sn_fuel (k_leg (σ.1 62 s)) 0 (Kap kk σ η) = some (some (.int w), Kap kk σ η) := by
                rcases hCI.1 s hV with q | ⟨o, o1, o2, o3, o4, o5⟩
                · rw [lgv_62 hs] at q
                  rw [hfu]
                  exact tk_end (k := 0) hKo (Or.inl q) (by omega)
                · rw [lgv_62 hs] at o4
                  rcases o1 with ho | ⟨ho1, ho2, ho3⟩
                  · rw [hfu]
                    exact tk_end (k := 0) hKo (Or.inr ⟨o, ho, o4⟩) (by omega)
                  · have eo : o = 100 + (o - 100) := by omega
                    have hCh : Ch σ (o - 100) [] := by
                      refine ⟨by simp, by simp, fun u hu => absurd hu List.not_mem_nil, by omega, ho3, fun u hu => ?_⟩
                      have hu : u = o - 100 := by simpa using hu
                      left
                      refine ⟨s, hs, ?_⟩
                      rw [hu, ← lgv_57, ← eo]; exact o5
                    have hkl : k_leg (nI o) = some (aC (o - 100)) := by
                      rw [k_leg_n (Or.inr ⟨ho1, ho2⟩)]
                      unfold aL
                      rw [if_pos ho1]
                    obtain ⟨w, a, b⟩ := tk_loop (η := η) hKo hCI.1 144 sn_fuel sn_fuel (o - 100) [] rfl (by unfold sn_fuel; omega) (by unfold sn_fuel; omega) hCh
                    rw [← eo] at a
                    rw [o4, hkl]
                    exact ⟨w, a, b⟩
              obtain ⟨w, a, b⟩ := hlp
              refine ⟨w, ?_, ?_⟩
              · unfold g_Md_talks g_Md_talks_20
                rw [q_I_at d61, if_neg (fun q => q c4), q_I_at d62]; exact a
              · simp only [f_Sw_talksWith, x_gI, hkp, if_true, rd_P3, eq_true c4, x_gR, rr_P4]
                exact b
            · refine ⟨-1, ?_, ?_⟩
              · unfold g_Md_talks g_Md_talks_20
                rw [q_I_at d61, if_pos c4, hfu, g_Md_talks_23, if_neg (by decide), if_pos (by decide)]
                unfold g_Md_talks_140
                rw [if_pos (by decide)]; rfl
              · simp only [f_Sw_talksWith, x_gI, hkp, if_true, rd_P3, eq_false c4, if_false, r_I]
          obtain ⟨w, a, b⟩ := key
          refine ⟨w, hgl _ ?_, hcl _ ?_⟩
          · rw [if_pos c0, if_pos c1, if_neg (fun q => q rfl), y_I_at a]; rfl
          · show (g_R 11 3 (some 1) fun v7 => n_n 7 v7 fun a8 => c_I (f_Sw_talksWith a8 (some (aP s))) fun v9 => r_I v9) (Kap kk σ η) = _
            simp only [x_gR, k1, if_true, rr_s1_3, x_nn, k17, x_cI b, r_I]
        · refine ⟨-1, hgl _ ?_, hcl _ ?_⟩
          · rw [if_pos c0, if_pos c1, if_pos c2]; rfl
          · simp only [sn_sw, c0, c1, c2, if_false, r_I]
  · refine ⟨-1, ?_, ?_⟩
    · unfold g_Md_subscriber
      rw [y_I_at hg, if_neg (fun q => q rfl)]; rfl
    · simp only [f_Sn_subscriber, x_gR, k1, if_true, rr_s1_3, x_nn, k17, x_cR (hf η), not_true_eq_false, if_false, r_I]
