/-! LAYER 2: octet, bits -/
variable {kk : Nat → Nat} {σ η θ : sn_FS}
theorem xbn (k22 : kk 22 = 21) {p : Nat} (hp : p < 13) {v : Int32} {K : sn_M} : b_I 21 (some 22) (nI p) v K (Kap kk σ η) = K (Kap kk σ (sI η 22 p v)) := by
  rw [x_bI (a := 22) hp (by decide), if_pos k22, wr_a22]
theorem xan (k22 : kk 22 = 21) {p : Nat} (hp : p < 13) {K : Int32 → sn_M} : a_I 21 (some 22) (nI p) K (Kap kk σ η) = K (η.1 22 p) (Kap kk σ η) := by
  rw [x_aI (a := 22) hp (by decide), if_pos k22, rd_a22]
theorem e8n (n : Nat) : (8 : Int32) * nI n = nI (8 * n) := pk_mul 8 n
theorem fl_check (k22 : kk 22 = 21) {n : Nat} (hn : n ≤ 13) : ∀ (d fuel i : Nat) (c : Int32), 8 * n - i = d → d < fuel → i ≤ 8 * n → f_Un_checkOf_5 fuel (some 22) (nI n) c (nI i) (Kap kk σ θ) = some (some (.int (crc (fun p => θ.1 22 p) d i c ^^^ 65535)), Kap kk σ θ)
  | 0, fuel + 1, i, c, hd, _, hi => by
    rw [f_Un_checkOf_5, e8n, if_pos (nI_le (by omega) (by omega))]; rfl
  | d + 1, fuel + 1, i, c, hd, hf, hi => by
    have hlt : ¬ nI (8 * n) ≤ nI i := fun q => by
      have := (nI_leI (a := 8 * n) (b := i) (by omega) (by omega)).mp q
      omega
    obtain ⟨a1, a2⟩ := i8 i (by omega)
    have ih := fun c => fl_check k22 hn d fuel (i + 1) c (by omega) (by omega) (by omega)
    rw [f_Un_checkOf_5, e8n, if_neg hlt, a1, xan k22 (by omega), a2, m31 _ (by omega)]
    show (if ¬ ((θ.1 22 (i / 8) >>> nI (i % 8)) &&& 1) = (c &&& (1 : Int32)) then f_Un_checkOf_48 (f_Un_checkOf_5 fuel) (some 22) (nI n) (nI i) ((c >>> ((1 : Int32) &&& 31)) ^^^ (33800 : Int32)) else f_Un_checkOf_48 (f_Un_checkOf_5 fuel) (some 22) (nI n) (nI i) (c >>> ((1 : Int32) &&& 31))) (Kap kk σ θ) = some (some (.int (crc (fun p => θ.1 22 p) d (i + 1) (crs (fun p => θ.1 22 p) i c) ^^^ 65535)), Kap kk σ θ)
    unfold f_Un_checkOf_48 crs
    rw [nI_1]
    by_cases q : ((θ.1 22 (i / 8) >>> nI (i % 8)) &&& 1) = (c &&& (1 : Int32))
    · rw [if_neg (nn1 q), if_pos q]; exact ih _
    · rw [if_pos q, if_neg q]; exact ih _
def S22 (η θ : sn_FS) : Prop := (∀ a j, a ≠ 22 → θ.1 a j = η.1 a j) ∧ θ.2 = η.2
theorem S22.rf : S22 η η := ⟨fun _ _ _ => rfl, rfl⟩
theorem S22.w {i : Nat} {v : Int32} (h : S22 η θ) : S22 η (sI θ 22 i v) := ⟨fun a j ha => by rw [sI_ne ha]; exact h.1 a j ha, h.2⟩
theorem GA.s22 (hA : GA σ η) (h : S22 η θ) : GA σ θ := by
  obtain ⟨⟨⟨h1, h2⟩, hR, hC, hP⟩, hr⟩ := hA
  refine ⟨⟨⟨⟨h1.1.mk' SP.rf (fun t ht i _ => ⟨rfl, fun j _ => rfl⟩) (fun t ht i => ⟨h.1 _ _ ?_, fun j => by rw [h.2]⟩), h1.2.1.mk' SP.rf (fun _ _ _ _ => rfl) (fun _ => rfl) (fun e j => ⟨h.1 _ _ (by unfold aU; omega), by rw [h.2]⟩), h1.2.2.mk' SP.rf (fun _ q => q) (fun _ => rfl) (fun e => h.1 _ _ (by unfold aE; omega))⟩, h2⟩, hR, hC, hP.eq ⟨fun j => h.1 20 j (by decide), fun j => by rw [h.2]⟩⟩, hr⟩
  unfold qA qo
  rcases t3 ht with rfl | rfl | rfl <;> simp <;> omega
theorem fl_spell (hK : KOk kk σ) {e u : Nat} {m : Msg} (he : e < 2 * nl σ) (h : UO σ e u m) (hU : 4 ≤ u → η.1 (aU e) 1 = σ.1 31 e ∧ η.1 (aU e) 2 = σ.1 32 e ∧ η.1 (aU e) 3 = σ.1 33 e ∧ η.1 (aU e) 4 = σ.1 34 e) (hM : u = 5 → η.2 (aU e) 6 = wC m) : ∃ θ, f_Un_spell (aU e) (some 22) (Kap kk σ η) = some (some (.int (nI (no u))), Kap kk σ θ) ∧ S22 η θ ∧ ∀ i, i < no u → θ.1 22 i = OC (PS σ e u m) (no u) i := by
  have hKo := hK
  obtain ⟨⟨k1, k2, k3, k4, k5, k6, k7, k8, k9, k10, k11, k12, k13, k14, k15, k16, k17, k18, k19, k20, k21, k22⟩, kE, kF, kP, k4s⟩ := id hK
  obtain ⟨e1, e2, e3, e4, e5, e6, e7⟩ := kE _ he
  obtain ⟨he20, hu, eu, hm⟩ := id h
  have hn := no_ge u
  have B0 : ∀ (η : sn_FS) (v : Int32) (K : sn_M), b_I 21 (some 22) (0 : Int32) v K (Kap kk σ η) = K (Kap kk σ (sI η 22 0 v)) := fun η v K => xbn (p := 0) k22 (by decide)
  have B1 : ∀ (η : sn_FS) (v : Int32) (K : sn_M), b_I 21 (some 22) (1 : Int32) v K (Kap kk σ η) = K (Kap kk σ (sI η 22 1 v)) := fun η v K => xbn (p := 1) k22 (by decide)
  have B2 : ∀ (η : sn_FS) (v : Int32) (K : sn_M), b_I 21 (some 22) (2 : Int32) v K (Kap kk σ η) = K (Kap kk σ (sI η 22 2 v)) := fun η v K => xbn (p := 2) k22 (by decide)
  have B3 : ∀ (η : sn_FS) (v : Int32) (K : sn_M), b_I 21 (some 22) (3 : Int32) v K (Kap kk σ η) = K (Kap kk σ (sI η 22 3 v)) := fun η v K => xbn (p := 3) k22 (by decide)
  have B8 : ∀ (η : sn_FS) (v : Int32) (K : sn_M), b_I 21 (some 22) (8 : Int32) v K (Kap kk σ η) = K (Kap kk σ (sI η 22 8 v)) := fun η v K => xbn (p := 8) k22 (by decide)
  have B9 : ∀ (η : sn_FS) (v : Int32) (K : sn_M), b_I 21 (some 22) (9 : Int32) v K (Kap kk σ η) = K (Kap kk σ (sI η 22 9 v)) := fun η v K => xbn (p := 9) k22 (by decide)
  have B10 : ∀ (η : sn_FS) (v : Int32) (K : sn_M), b_I 21 (some 22) (10 : Int32) v K (Kap kk σ η) = K (Kap kk σ (sI η 22 10 v)) := fun η v K => xbn (p := 10) k22 (by decide)
  have hne : aU e ≠ 22 := by unfold aU; omega
  -- its octets but the check
  have key : ∃ θ1, (∀ v, f_Un_spell_21 (aU e) (some 22) (nI (no u - 2)) (Kap kk σ θ1) = v → f_Un_spell (aU e) (some 22) (Kap kk σ η) = v) ∧ S22 η θ1 ∧ ∀ i, i < no u - 2 → θ1.1 22 i = PS σ e u m i := by
    by_cases c4 : u < 4
    · have l4 : ((4 : Int32) ≤ nI u) = False := eq_false (fun q => by
        have := (nI_leI (a := 4) (b := u) (by omega) (by omega)).mp q
        omega)
      have hno : no u - 2 = 4 := by unfold no; rw [if_neg (by omega), if_neg (by omega)]
      refine ⟨sI (sI (sI (sI η 22 0 255) 22 1 255) 22 2 1) 22 3 (if u < 2 then nI u else nI u + (4 : Int32) * σ.1 39 e), fun v hv => ?_, S22.rf.w.w.w.w, fun i hi => ?_⟩
      · rw [hno] at hv
        have hv : f_Un_spell_21 (aU e) (some 22) 4 _ = v := hv
        by_cases u2 : u < 2
        · rw [if_pos u2] at hv
          have l2 : (nI u < (2 : Int32)) = True := eq_true ((nI_ltI (a := u) (b := 2) (by omega) (by omega)).mpr u2)
          have hss : f_Un_spellState (aU e) (some 22) (Kap kk σ η) = some (some (.int 4), Kap kk σ (sI (sI (sI (sI η 22 0 255) 22 1 255) 22 2 1) 22 3 (nI u))) := by
            simp only [f_Un_spellState, B0, B1, B2, x_gI, e2, if_true, rd_U0, eu, l2, f_Un_spellState_44, B3, r_I]
          simp only [f_Un_spell, x_gI, e2, if_true, rd_U0, eu, l4, if_false, x_nn, x_cI hss]
          exact hv
        · rw [if_neg u2] at hv
          have l2 : (nI u < (2 : Int32)) = False := eq_false (fun q => u2 ((nI_ltI (a := u) (b := 2) (by omega) (by omega)).mp q))
          have hss : f_Un_spellState (aU e) (some 22) (Kap kk σ η) = some (some (.int 4), Kap kk σ (sI (sI (sI (sI η 22 0 255) 22 1 255) 22 2 1) 22 3 (nI u + (4 : Int32) * σ.1 39 e))) := by
            simp only [f_Un_spellState, B0, B1, B2, x_gI, e2, if_true, rd_U0, eu, l2, if_false, rd_U5, f_Un_spellState_44, B3, r_I]
          simp only [f_Un_spell, x_gI, e2, if_true, rd_U0, eu, l4, if_false, x_nn, x_cI hss]
          exact hv
      · unfold PS PL
        rw [if_pos c4]
        obtain rfl | rfl | rfl | rfl : i = 0 ∨ i = 1 ∨ i = 2 ∨ i = 3 := by omega
        all_goals simp only [sn_upE, Nat.reduceEqDiff, reduceIte]; try rfl
    · have l4 : ((4 : Int32) ≤ nI u) = True := eq_true ((nI_leI (a := 4) (b := u) (by omega) (by omega)).mpr (by omega))
      obtain ⟨u1, u2, u3, u4⟩ := hU (by omega)
      have g1 : ∀ i v, sn_up η.1 22 i v (aU e) 1 = σ.1 31 e := fun i v => by rw [sn_up_ne _ _ _ _ hne]; exact u1
      have g2 : ∀ i v, sn_up η.1 22 i v (aU e) 2 = σ.1 32 e := fun i v => by rw [sn_up_ne _ _ _ _ hne]; exact u2
      have hN : ∀ r, f_Un_spellNumbered (aU e) (some 22) (Kap kk σ η) = r ∨ True := fun r => Or.inr trivial
      have hpre : f_Un_spellNumbered (aU e) (some 22) (Kap kk σ η) = (if ¬ nI u = (5 : Int32) then f_Un_spellNumbered_48 (aU e) (some 22) (some 22) (2 : Int32) (0 : Int32) else f_Un_spellNumbered_48 (aU e) (some 22) (some 22) (2 : Int32) (8 : Int32)) (Kap kk σ (sI (sI η 22 0 (σ.1 33 e + (128 : Int32) * σ.1 34 e)) 22 1 (σ.1 31 e + (128 : Int32) * σ.1 32 e))) := by
        simp only [f_Un_spellNumbered, x_gI, e2, if_true, rd_U3, u3, rd_U4, u4, B0, rd_U1, g1, rd_U2, g2, B1, rd_U0, eu]
      by_cases c5 : u = 5
      · obtain ⟨hmo, ew⟩ := hm c5
        have hwC := hM c5
        have n5 : nI u = (5 : Int32) := by rw [c5]; rfl
        have hno : no u - 2 = 11 := by unfold no; rw [if_pos c5]
        obtain ⟨X, hX⟩ : ∃ X : Int32, X = (nI (mT m) ||| (nI (mF m) <<< ((14 : Int32) &&& 31))) ||| (nI (mL m) <<< ((28 : Int32) &&& 31)) := ⟨_, rfl⟩
        have hLB : ∀ j, (X >>> (((8 : Int32) * nI j) &&& 31)) &&& (255 : Int32) = LB m j := fun j => by unfold LB; rw [hX]
        have hstep : ∀ (fuel j : Nat) (ζ : sn_FS), j < 4 → f_Un_spellNumbered_101 (aU e) (fuel + 1) (some 22) X (nI j) (Kap kk σ ζ) = f_Un_spellNumbered_101 (aU e) fuel (some 22) X (nI (j + 1)) (Kap kk σ (sI ζ 22 (4 + j) (LB m j))) := fun fuel j ζ hj => by
          have hle : ¬ (4 : Int32) ≤ nI j := fun q => by
            have := (nI_leI (a := 4) (b := j) (by omega) (by omega)).mp q
            omega
          have e4 : (4 : Int32) + nI j = nI (4 + j) := nI_add 4 j
          rw [f_Un_spellNumbered_101, if_neg hle, e4, xbn k22 (by omega), hLB, nI_1]
        obtain ⟨ζ0, hζ0⟩ : ∃ ζ0, ζ0 = sI (sI (sI (sI η 22 0 (σ.1 33 e + (128 : Int32) * σ.1 34 e)) 22 1 (σ.1 31 e + (128 : Int32) * σ.1 32 e)) 22 2 8) 22 3 (nI (mK m)) := ⟨_, rfl⟩
        have hS0 : S22 η ζ0 := by rw [hζ0]; exact S22.rf.w.w.w.w
        obtain ⟨ζ4, hζ4⟩ : ∃ ζ4, ζ4 = sI (sI (sI (sI ζ0 22 4 (LB m 0)) 22 5 (LB m 1)) 22 6 (LB m 2)) 22 7 (LB m 3) := ⟨_, rfl⟩
        have hS4 : S22 η ζ4 := by rw [hζ4]; exact hS0.w.w.w.w
        have hJ4 : ζ4.2 (aU e) 6 = wC m := by rw [hS4.2]; exact hwC
        obtain ⟨fu, hfu⟩ : ∃ fu, sn_fuel = fu + 1 + 1 + 1 + 1 + 1 := ⟨1048571, rfl⟩
        have h101 : f_Un_spellNumbered_101 (aU e) sn_fuel (some 22) X 0 (Kap kk σ ζ0) = some (some (.int 11), Kap kk σ (sI (sI (sI ζ4 22 8 (nI (mA m))) 22 9 (nI (mB m) &&& (255 : Int32))) 22 10 (nI (mH m)))) := by
          have s0 : f_Un_spellNumbered_101 (aU e) (fu + 1 + 1 + 1 + 1 + 1) (some 22) X 0 (Kap kk σ ζ0) = _ := hstep (fu + 1 + 1 + 1 + 1) 0 ζ0 (by decide)
          rw [hfu, s0, hstep (fu + 1 + 1 + 1) (0 + 1) _ (by decide), hstep (fu + 1 + 1) (0 + 1 + 1) _ (by decide), hstep (fu + 1) (0 + 1 + 1 + 1) _ (by decide)]
          have eζ : sI (sI (sI (sI ζ0 22 (4 + 0) (LB m 0)) 22 (4 + (0 + 1)) (LB m (0 + 1))) 22 (4 + (0 + 1 + 1)) (LB m (0 + 1 + 1))) 22 (4 + (0 + 1 + 1 + 1)) (LB m (0 + 1 + 1 + 1)) = ζ4 := hζ4.symm
          rw [eζ]
          have l44 : ((4 : Int32) ≤ nI (0 + 1 + 1 + 1 + 1)) = True := eq_true (by decide)
          have j1 : ∀ i v, (sI ζ4 22 i v).2 (aU e) 6 = wC m := fun i v => hJ4
          simp only [f_Un_spellNumbered_101, l44, if_true, x_gJ, e2, hJ4, x_cI (fl_first hmo _), B8, x_cI (fl_second hmo _), B9, x_cI (fl_hops hmo _), B10, r_I]
        have h48 : f_Un_spellNumbered (aU e) (some 22) (Kap kk σ η) = some (some (.int 11), Kap kk σ (sI (sI (sI ζ4 22 8 (nI (mA m))) 22 9 (nI (mB m) &&& (255 : Int32))) 22 10 (nI (mH m)))) := by
          rw [hpre, if_neg (nn1 n5)]
          have o5 : (nI u = (5 : Int32)) = True := eq_true n5
          simp only [f_Un_spellNumbered_48, B2, x_gI, e2, if_true, rd_U0, eu, o5, x_gJ, hwC, x_cI (fl_to hmo _), x_cI (fl_from hmo _), x_cI (fl_lane hmo _), n_I, ← hX, x_cI (fl_kind hmo _), B3, ← hζ0]
          exact h101
        refine ⟨sI (sI (sI ζ4 22 8 (nI (mA m))) 22 9 (nI (mB m) &&& (255 : Int32))) 22 10 (nI (mH m)), fun v hv => ?_, hS4.w.w.w, fun i hi => ?_⟩
        · simp only [f_Un_spell, x_gI, e2, if_true, rd_U0, eu, l4, x_nn, x_cI h48]
          rw [hno] at hv
          exact hv
        · rw [hno] at hi
          rw [hζ4, hζ0]
          unfold PS PL
          rw [if_neg c4, c5]
          obtain rfl | rfl | rfl | rfl | rfl | rfl | rfl | rfl | rfl | rfl | rfl : i = 0 ∨ i = 1 ∨ i = 2 ∨ i = 3 ∨ i = 4 ∨ i = 5 ∨ i = 6 ∨ i = 7 ∨ i = 8 ∨ i = 9 ∨ i = 10 := by omega
          all_goals simp only [sn_upE, Nat.reduceEqDiff, reduceIte]; try rfl
      · have n5 : ¬ nI u = (5 : Int32) := fun q => c5 (nI_inj (a := u) (b := 5) (by omega) (by omega) q)
        have c4' : u = 4 := by omega
        have hno : no u - 2 = 3 := by unfold no; rw [if_neg c5, if_pos c4']
        have h48 : f_Un_spellNumbered (aU e) (some 22) (Kap kk σ η) = some (some (.int 3), Kap kk σ (sI (sI (sI η 22 0 (σ.1 33 e + (128 : Int32) * σ.1 34 e)) 22 1 (σ.1 31 e + (128 : Int32) * σ.1 32 e)) 22 2 0)) := by
          rw [hpre, if_pos n5]
          have o5 : (nI u = (5 : Int32)) = False := eq_false n5
          simp only [f_Un_spellNumbered_48, B2, x_gI, e2, if_true, rd_U0, eu, o5, if_false, r_I]
        refine ⟨sI (sI (sI η 22 0 (σ.1 33 e + (128 : Int32) * σ.1 34 e)) 22 1 (σ.1 31 e + (128 : Int32) * σ.1 32 e)) 22 2 0, fun v hv => ?_, S22.rf.w.w.w, fun i hi => ?_⟩
        · simp only [f_Un_spell, x_gI, e2, if_true, rd_U0, eu, l4, x_nn, x_cI h48]
          rw [hno] at hv
          exact hv
        · rw [hno] at hi
          unfold PS PL
          rw [if_neg c4, c4']
          obtain rfl | rfl | rfl : i = 0 ∨ i = 1 ∨ i = 2 := by omega
          all_goals simp only [sn_upE, Nat.reduceEqDiff, reduceIte]
  obtain ⟨θ1, k1', hS1, hR1⟩ := key
  have hchk := fl_check (σ := σ) (θ := θ1) k22 (n := no u - 2) (by omega) (8 * (no u - 2)) sn_fuel 0 65535 (by omega) (by unfold sn_fuel; omega) (by omega)
  have hce : crc (fun p => θ1.1 22 p) (8 * (no u - 2)) 0 65535 ^^^ 65535 = chk (PS σ e u m) (no u) := by
    unfold chk
    rw [crc_eq (R' := PS σ e u m) _ _ _ (fun j _ h2 => hR1 _ (by omega))]
  rw [hce] at hchk
  have hchk : f_Un_checkOf (some 22) (nI (no u - 2)) (Kap kk σ θ1) = some (some (.int (chk (PS σ e u m) (no u))), Kap kk σ θ1) := hchk
  have e1' : nI (no u - 2) + (1 : Int32) = nI (no u - 1) := by rw [nI_1]; congr 1; omega
  have e2' : nI (no u - 2) + (2 : Int32) = nI (no u) := by
    have : nI (no u - 2) + (2 : Int32) = nI (no u - 2 + 2) := nI_add _ 2
    rw [this]; congr 1; omega
  refine ⟨sI (sI θ1 22 (no u - 2) (chk (PS σ e u m) (no u) &&& (255 : Int32))) 22 (no u - 1) (chk (PS σ e u m) (no u) >>> ((8 : Int32) &&& 31)), k1' _ ?_, hS1.w.w, fun i hi => ?_⟩
  · unfold f_Un_spell_21
    rw [x_cI hchk, xbn k22 (by omega), e1', xbn k22 (by omega), e2']; rfl
  · unfold OC
    by_cases c1 : i = no u - 1
    · rw [if_neg (by omega), if_neg (by omega), c1]; simp only [sn_upE, Nat.reduceEqDiff, reduceIte]
    · rw [sI_nk c1]
      by_cases c2 : i = no u - 2
      · rw [if_neg (by omega), if_pos c2, c2]; simp only [sn_upE, Nat.reduceEqDiff, reduceIte]
      · rw [sI_nk c2, if_pos (by omega)]; exact hR1 i (by omega)
/-- the unit sent latest, spelled -/
theorem lat_cases (hK : KOk kk σ) (hA : GA σ η) (x1 x2 : Int32) : (∃ l sd u m θ, l < nl σ ∧ sd < 2 ∧ x1 = nI l ∧ x2 = nI sd ∧ UO σ (2 * l + sd) u m ∧ ¬ σ.1 36 (2 * l + sd) = 0 ∧ f_Sn_spellLatest 1 x1 x2 (Kap kk σ η) = some (some (.int (nI (no u))), Kap kk σ θ) ∧ S22 η θ ∧ ∀ i, i < no u → θ.1 22 i = OC (PS σ (2 * l + sd) u m) (no u) i) ∨ (f_Sn_spellLatest 1 x1 x2 (Kap kk σ η) = some (some (.int 0), Kap kk σ η) ∧ (g_Md_isEnd x1 x2 σ = some (some (.int 0), σ) ∨ ∃ l sd, l < nl σ ∧ sd < 2 ∧ x1 = nI l ∧ x2 = nI sd ∧ σ.1 36 (2 * l + sd) = 0)) := by
  have hKo := hK
  obtain ⟨⟨k1, k2, k3, k4, k5, k6, k7, k8, k9, k10, k11, k12, k13, k14, k15, k16, k17, k18, k19, k20, k21, k22⟩, kE, kF, kP, k4s⟩ := id hK
  have hP := hA.1.1.2.1.1
  have hn := hP.2.1
  rcases end_cases (kk := kk) hKo hP x1 x2 with ⟨l, sd, hl, hs, rfl, rfl⟩ | ⟨hg, hf⟩
  · have he : 2 * l + sd < 2 * nl σ := by omega
    have h20 : 2 * l + sd < 20 := by omega
    have hfe := fl_endOf (η := η) hKo hP hl hs
    obtain ⟨e1, e2, -⟩ := kE _ he
    have q1 : (some (aE (2 * l + sd)) = none) = False := by simp
    by_cases c : σ.1 36 (2 * l + sd) = 0
    · right
      refine ⟨?_, Or.inr ⟨l, sd, hl, hs, rfl, rfl, c⟩⟩
      simp only [f_Sn_spellLatest, x_gR, k1, if_true, rr_s1_2, x_nn, k11, x_cR hfe, q1, if_false, x_gI, e1, rd_E6, c, not_true_eq_false, f_Sn_spellLatest_21, f_Sn_spellLatest_36, r_I]
    · left
      obtain ⟨u, hu, eu⟩ := (hA.1.1.2.1.e1 h20).2.2.2.2.2.2.2.2.2.2.1
      obtain ⟨hU1, hU2⟩ := hA.1.1.1.2.1 _ he
      obtain ⟨m, hm⟩ : ∃ m : Msg, u = 5 → MOk m ∧ σ.2 35 (2 * l + sd) = wR m ∧ η.2 (aU (2 * l + sd)) 6 = wC m := by
        by_cases c5 : u = 5
        · obtain ⟨m, m1, m2, m3⟩ := hU2 (by rw [eu, c5]; rfl)
          exact ⟨m, fun _ => ⟨m1.1, m2, m3⟩⟩
        · exact ⟨(0, 0, 0, 0, 0, 0, 0), fun q => absurd q c5⟩
      have hUO : UO σ (2 * l + sd) u m := ⟨h20, hu, eu, fun q => ⟨(hm q).1, (hm q).2.1⟩⟩
      obtain ⟨θ, a1, a2, a3⟩ := fl_spell (η := η) hKo he hUO (fun q => hU1 (by rw [eu]; exact (nI_leI (a := 4) (b := u) (by omega) (by omega)).mpr q)) (fun q => (hm q).2.2)
      refine ⟨l, sd, u, m, θ, hl, hs, rfl, rfl, hUO, c, ?_, a2, a3⟩
      simp only [f_Sn_spellLatest, x_gR, k1, if_true, rr_s1_2, x_nn, k11, x_cR hfe, q1, if_false, x_gI, e1, rd_E6, c, not_false_eq_true, rr_E5, rr_s1_4, e2, x_cI a1, f_Sn_spellLatest_36, r_I]
  · right
    refine ⟨?_, Or.inl hg⟩
    simp only [f_Sn_spellLatest, x_gR, k1, if_true, rr_s1_2, x_nn, k11, x_cR (hf η), f_Sn_spellLatest_21, f_Sn_spellLatest_36, r_I]
theorem op_octet (hK : KOk kk σ) (hA : GA σ η) (x1 x2 x3 : Int32) : Op kk (g_Md_octet x1 x2 x3) (f_Sn_octet 1 x1 x2 x3) σ η := by
  have hKo := hK
  obtain ⟨⟨k1, k2, k3, k4, k5, k6, k7, k8, k9, k10, k11, k12, k13, k14, k15, k16, k17, k18, k19, k20, k21, k22⟩, kE, kF, kP, k4s⟩ := id hK
  have hP := hA.1.1.2.1.1
  have hn10 := hP.2.1
  rcases lat_cases (kk := kk) hKo hA x1 x2 with ⟨l, sd, u, m, θ, hl, hs, rfl, rfl, hUO, h36, hsp, hS, hR⟩ | ⟨hsp, hg⟩
  · have hn := no_ge u
    have d36 : 2 * l + sd < md_len 36 := hUO.1
    have hpre : g_Md_octet (nI l) (nI sd) x3 σ = (if x3 < 0 then g_Md_octet_39 else y_I (g_Md_octets (nI (2 * l + sd))) fun v3 => (if x3 < v3 then y_I (g_Md_octetOf (nI (2 * l + sd)) x3) fun v4 => z_I v4 else g_Md_octet_39)) σ := by
      unfold g_Md_octet
      rw [y_I_at (gl_isEnd1 hP hl hs), if_neg (by decide), e2l, q_I_at d36, if_neg h36]
    by_cases c0 : x3 < 0
    · refine ⟨-1, σ, θ, by rw [hpre, if_pos c0]; rfl, ?_, hA.s22 hS, SP.rf, by omega⟩
      simp only [f_Sn_octet, x_nn, k1, if_true, x_cI hsp, eq_true c0, f_Sn_octet_18, f_Sn_octet_28, r_I]
    · by_cases c1 : x3 < nI (no u)
      · obtain ⟨i, hi, rfl⟩ := nat_of c0 (by omega) c1
        refine ⟨OC (PS σ (2 * l + sd) u m) (no u) i, σ, θ, ?_, ?_, hA.s22 hS, SP.rf, by omega⟩
        · rw [hpre, if_neg c0, y_I_at (gl_octets hUO), if_pos c1, y_I_at (gl_octetOf hUO hi)]; rfl
        · simp only [f_Sn_octet, x_nn, k1, if_true, x_cI hsp, eq_false c0, if_false, eq_true c1, x_gR, rr_s1_4, xan k22 (show i < 13 by omega), hR i hi, f_Sn_octet_28, r_I]
      · refine ⟨-1, σ, θ, by rw [hpre, if_neg c0, y_I_at (gl_octets hUO), if_neg c1]; rfl, ?_, hA.s22 hS, SP.rf, by omega⟩
        simp only [f_Sn_octet, x_nn, k1, if_true, x_cI hsp, eq_false c0, if_false, eq_false c1, f_Sn_octet_18, f_Sn_octet_28, r_I]
  · refine ⟨-1, σ, η, ?_, ?_, hA, SP.rf, by omega⟩
    · unfold g_Md_octet
      rcases hg with hg | ⟨l, sd, hl, hs, rfl, rfl, c⟩
      · rw [y_I_at hg, if_pos rfl]; rfl
      · have d36 : 2 * l + sd < md_len 36 := by show _ < 20; omega
        rw [y_I_at (gl_isEnd1 hP hl hs), if_neg (by decide), e2l, q_I_at d36, if_pos c]; rfl
    · by_cases c0 : x3 < 0
      · simp only [f_Sn_octet, x_nn, k1, if_true, x_cI hsp, eq_true c0, f_Sn_octet_18, f_Sn_octet_28, r_I]
      · simp only [f_Sn_octet, x_nn, k1, if_true, x_cI hsp, eq_false c0, if_false, f_Sn_octet_18, f_Sn_octet_28, r_I]
/-- bits on the line -/
def bstp (R : Nat → Int32) (i : Nat) (s : Int32 × Int32) : Int32 × Int32 := if (if (R (i / 8) >>> nI (i % 8)) &&& 1 = 1 then s.1 + 1 else 0) = 5 then (0, s.2 + 1) else (if (R (i / 8) >>> nI (i % 8)) &&& 1 = 1 then s.1 + 1 else 0, s.2)
def blp (R : Nat → Int32) : Nat → Nat → Int32 × Int32 → Int32 × Int32
  | 0, _, s => s
  | d + 1, i, s => blp R d (i + 1) (bstp R i s)
theorem blp_app (R : Nat → Int32) : ∀ (a b i : Nat) (s : Int32 × Int32), blp R (a + b) i s = blp R b (i + a) (blp R a i s)
  | 0, b, i, c => by rw [Nat.zero_add]; rfl
  | a + 1, b, i, c => by
    have : a + 1 + b = (a + b) + 1 := by omega
    rw [this]
    show blp R (a + b) (i + 1) _ = blp R b (i + (a + 1)) (blp R a (i + 1) _)
    rw [blp_app R a b, show i + 1 + a = i + (a + 1) by omega]
theorem blp_eq {R R' : Nat → Int32} : ∀ (d i : Nat) (s : Int32 × Int32), (∀ j, i ≤ j → j < i + d → R (j / 8) = R' (j / 8)) → blp R d i s = blp R' d i s
  | 0, i, c, h => rfl
  | d + 1, i, c, h => by
    have e : bstp R i c = bstp R' i c := by unfold bstp; rw [h i (by omega) (by omega)]
    show blp R d (i + 1) (bstp R i c) = blp R' d (i + 1) (bstp R' i c)
    rw [e]
    exact blp_eq d (i + 1) _ (fun j h1 h2 => h j (by omega) (by omega))
theorem blp_add (R : Nat → Int32) : ∀ (d i : Nat) (o x y : Int32), blp R d i (o, x + y) = ((blp R d i (o, x)).1, (blp R d i (o, x)).2 + y)
  | 0, i, o, x, y => rfl
  | d + 1, i, o, x, y => by
    show blp R d (i + 1) (bstp R i (o, x + y)) = ((blp R d (i + 1) (bstp R i (o, x))).1, (blp R d (i + 1) (bstp R i (o, x))).2 + y)
    have e : ∃ o', ∃ x', bstp R i (o, x) = (o', x') ∧ bstp R i (o, x + y) = (o', x' + y) := by
      unfold bstp
      by_cases c : (if (R (i / 8) >>> nI (i % 8)) &&& 1 = 1 then o + 1 else 0) = 5
      · exact ⟨0, x + 1, by rw [if_pos c], by rw [if_pos c]; show (0, x + y + 1) = (0, x + 1 + y); rw [Int32.add_assoc, Int32.add_comm y 1, ← Int32.add_assoc]⟩
      · exact ⟨_, x, by rw [if_neg c], by rw [if_neg c]⟩
    obtain ⟨o', x', e1, e2⟩ := e
    rw [e1, e2, blp_add R d]
theorem ad11 (a b : Int32) : a + b + 1 + 1 = a + 1 + (b + 1) := by rw [Int32.add_assoc (a + b) 1 1, Int32.add_assoc a b, Int32.add_assoc a 1, ← Int32.add_assoc b 1 1, Int32.add_comm (b + 1) 1]
theorem gl_61 {R : Nat → Int32} {e k : Nat} {o : Int32} (ho : o = R k) (K : Int32 → Int32 → Int32 → Int32 → sn_G) : ∀ (r fuel : Nat) (s : Int32 × Int32), r ≤ 8 → r < fuel → g_Md_bits_61 K fuel (nI e) (s.2 + nI (8 * k + (8 - r))) s.1 (nI k) o (nI (8 - r)) σ = K (nI e) ((blp R r (8 * k + (8 - r)) s).2 + nI (8 * (k + 1))) (blp R r (8 * k + (8 - r)) s).1 (nI (k + 1)) σ
  | 0, fuel + 1, s, _, _ => by
    have e1 : 8 * k + (8 - 0) = 8 * (k + 1) := by omega
    rw [g_Md_bits_61, if_pos (by decide), nI_1, e1]; rfl
  | r + 1, fuel + 1, s, hr, hf => by
    have hb : 8 - (r + 1) < 8 := by omega
    have e1 : 8 - (r + 1) + 1 = 8 - r := by omega
    have ed : (8 * k + (8 - (r + 1))) / 8 = k := by omega
    have em : (8 * k + (8 - (r + 1))) % 8 = 8 - (r + 1) := by omega
    have hle : ¬ (8 : Int32) ≤ nI (8 - (r + 1)) := fun q => by
      have := (nI_leI (a := 8) (b := 8 - (r + 1)) (by omega) (by omega)).mp q
      omega
    have ih := fun s => gl_61 (e := e) ho K r fuel s (by omega) (by omega)
    have hi : 8 * k + (8 - (r + 1)) + 1 = 8 * k + (8 - r) := by omega
    have hb1 : blp R (r + 1) (8 * k + (8 - (r + 1))) s = blp R r (8 * k + (8 - r)) (bstp R (8 * k + (8 - (r + 1))) s) := by rw [← hi]; rfl
    have hbs : bstp R (8 * k + (8 - (r + 1))) s = if (if (o >>> nI (8 - (r + 1))) &&& 1 = 1 then s.1 + 1 else 0) = 5 then (0, s.2 + 1) else (if (o >>> nI (8 - (r + 1))) &&& 1 = 1 then s.1 + 1 else 0, s.2) := by
      unfold bstp
      rw [ed, em, ← ho]
    have h87 : ∀ t, t = (if (o >>> nI (8 - (r + 1))) &&& 1 = 1 then s.1 + 1 else 0) → g_Md_bits_87 (g_Md_bits_61 K fuel) (nI e) (s.2 + nI (8 * k + (8 - (r + 1)))) (nI k) o (nI (8 - (r + 1))) t σ = K (nI e) ((blp R (r + 1) (8 * k + (8 - (r + 1))) s).2 + nI (8 * (k + 1))) (blp R (r + 1) (8 * k + (8 - (r + 1))) s).1 (nI (k + 1)) σ := fun t ht => by
      rw [hb1, hbs, ← ht]
      unfold g_Md_bits_87 g_Md_bits_104
      rw [nI_1, e1]
      by_cases q : t = 5
      · rw [if_neg (nn1 q), if_pos q, ← ih (0, s.2 + 1)]
        congr 1
        show s.2 + nI (8 * k + (8 - (r + 1))) + 1 + 1 = s.2 + 1 + nI (8 * k + (8 - r))
        rw [← hi, ← nI_1]; exact ad11 _ _
      · rw [if_pos q, if_neg q, ← ih (t, s.2)]
        congr 1
        show s.2 + nI (8 * k + (8 - (r + 1))) + 1 = s.2 + nI (8 * k + (8 - r))
        rw [← hi, ← nI_1, Int32.add_assoc]
    rw [g_Md_bits_61, if_neg hle, m31 _ hb]
    by_cases q : (o >>> nI (8 - (r + 1))) &&& 1 = 1
    · rw [if_neg (nn1 q)]; exact h87 _ (by rw [if_pos q])
    · rw [if_pos q]; exact h87 _ (by rw [if_neg q])
theorem gl_39 {e u : Nat} {m : Msg} (h : UO σ e u m) : ∀ (r fuel : Nat) (s : Int32 × Int32), r ≤ no u → r < fuel → g_Md_bits_39 fuel (nI e) (s.2 + nI (8 * (no u - r))) s.1 (nI (no u - r)) σ = some (some (.int ((blp (OC (PS σ e u m) (no u)) (8 * r) (8 * (no u - r)) s).2 + nI (8 * no u))), σ)
  | 0, fuel + 1, s, _, _ => by
    have hn := no_ge u
    rw [g_Md_bits_39, y_I_at (gl_octets h), if_pos (nI_le (by omega) (by omega))]; rfl
  | r + 1, fuel + 1, s, hr, hf => by
    have hn := no_ge u
    have e1 : no u - (r + 1) + 1 = no u - r := by omega
    have hle : ¬ nI (no u) ≤ nI (no u - (r + 1)) := fun q => by
      have := (nI_leI (a := no u) (b := no u - (r + 1)) (by omega) (by omega)).mp q
      omega
    have h61 := gl_61 (σ := σ) (R := OC (PS σ e u m) (no u)) (e := e) (k := no u - (r + 1)) rfl (g_Md_bits_39 fuel) 8 sn_fuel s (by omega) (by unfold sn_fuel; omega)
    have h61 : g_Md_bits_61 (g_Md_bits_39 fuel) sn_fuel (nI e) (s.2 + nI (8 * (no u - (r + 1)))) s.1 (nI (no u - (r + 1))) (OC (PS σ e u m) (no u) (no u - (r + 1))) 0 σ = g_Md_bits_39 fuel (nI e) ((blp (OC (PS σ e u m) (no u)) 8 (8 * (no u - (r + 1))) s).2 + nI (8 * (no u - (r + 1) + 1))) (blp (OC (PS σ e u m) (no u)) 8 (8 * (no u - (r + 1))) s).1 (nI (no u - (r + 1) + 1)) σ := h61
    rw [g_Md_bits_39, y_I_at (gl_octets h), if_neg hle, y_I_at (gl_octetOf h (by omega)), h61, e1, gl_39 h r fuel _ (by omega) (by omega)]
    rw [show 8 * (r + 1) = 8 + 8 * r by omega, blp_app, show 8 * (no u - (r + 1)) + 8 = 8 * (no u - r) by omega]
theorem fl_bits (k22 : kk 22 = 21) {n : Nat} (hn : n ≤ 13) : ∀ (d fuel i : Nat) (s : Int32 × Int32), 8 * n - i = d → d < fuel → i ≤ 8 * n → f_Un_bitsOnLine_10 fuel (some 22) (nI n) s.2 s.1 (nI i) (Kap kk σ θ) = some (some (.int (blp (fun p => θ.1 22 p) d i s).2), Kap kk σ θ)
  | 0, fuel + 1, i, s, hd, _, hi => by
    rw [f_Un_bitsOnLine_10, e8n, if_pos (nI_le (by omega) (by omega))]; rfl
  | d + 1, fuel + 1, i, s, hd, hf, hi => by
    have hlt : ¬ nI (8 * n) ≤ nI i := fun q => by
      have := (nI_leI (a := 8 * n) (b := i) (by omega) (by omega)).mp q
      omega
    obtain ⟨a1, a2⟩ := i8 i (by omega)
    have ih := fun s => fl_bits k22 hn d fuel (i + 1) s (by omega) (by omega) (by omega)
    have h45 : ∀ t, t = (if (θ.1 22 (i / 8) >>> nI (i % 8)) &&& 1 = 1 then s.1 + 1 else 0) → f_Un_bitsOnLine_45 (f_Un_bitsOnLine_10 fuel) (some 22) (nI n) s.2 (nI i) t (Kap kk σ θ) = some (some (.int (blp (fun p => θ.1 22 p) d (i + 1) (bstp (fun p => θ.1 22 p) i s)).2), Kap kk σ θ) := fun t ht => by
      have hbs : bstp (fun p => θ.1 22 p) i s = if t = 5 then (0, s.2 + 1) else (t, s.2) := by rw [ht]; rfl
      rw [hbs]
      unfold f_Un_bitsOnLine_45 f_Un_bitsOnLine_56
      rw [nI_1]
      by_cases q : t = 5
      · rw [if_neg (nn1 q), if_pos q]; exact ih (0, s.2 + 1)
      · rw [if_pos q, if_neg q]; exact ih (t, s.2)
    rw [f_Un_bitsOnLine_10, e8n, if_neg hlt, a1, xan k22 (by omega), a2, m31 _ (by omega)]
    by_cases q : (θ.1 22 (i / 8) >>> nI (i % 8)) &&& 1 = 1
    · rw [if_neg (nn1 q)]; exact h45 _ (by rw [if_pos q])
    · rw [if_pos q]; exact h45 _ (by rw [if_neg q])
theorem op_bits (hK : KOk kk σ) (hA : GA σ η) (x1 x2 : Int32) : Op kk (g_Md_bits x1 x2) (f_Sn_bits 1 x1 x2) σ η := by
  have hKo := hK
  obtain ⟨⟨k1, k2, k3, k4, k5, k6, k7, k8, k9, k10, k11, k12, k13, k14, k15, k16, k17, k18, k19, k20, k21, k22⟩, kE, kF, kP, k4s⟩ := id hK
  have hP := hA.1.1.2.1.1
  have hn10 := hP.2.1
  rcases lat_cases (kk := kk) hKo hA x1 x2 with ⟨l, sd, u, m, θ, hl, hs, rfl, rfl, hUO, h36, hsp, hS, hR⟩ | ⟨hsp, hg⟩
  · have hn := no_ge u
    have d36 : 2 * l + sd < md_len 36 := hUO.1
    refine ⟨(blp (OC (PS σ (2 * l + sd) u m) (no u)) (8 * no u) 0 (0, 0)).2 + nI (8 * no u), σ, θ, ?_, ?_, hA.s22 hS, SP.rf, by omega⟩
    · have h39 := gl_39 hUO (no u) sn_fuel (0, 0) (Nat.le_refl _) (by unfold sn_fuel; omega)
      rw [Nat.sub_self] at h39
      have h39 : g_Md_bits_39 sn_fuel (nI (2 * l + sd)) 0 0 0 σ = _ := h39
      unfold g_Md_bits
      rw [y_I_at (gl_isEnd1 hP hl hs), if_neg (by decide), e2l, q_I_at d36, if_pos h36]
      exact h39
    · have hb := fl_bits (σ := σ) (θ := θ) k22 (n := no u) hn.2 (8 * no u) sn_fuel 0 (0, nI (8 * no u)) (by omega) (by unfold sn_fuel; omega) (by omega)
      have e0 : ((0 : Int32), nI (8 * no u)) = (0, 0 + nI (8 * no u)) := by
        have : (0 : Int32) + nI (8 * no u) = nI (8 * no u) := nI_add 0 _ |>.trans (by rw [Nat.zero_add])
        rw [this]
      have he := blp_eq (R := fun p => θ.1 22 p) (R' := OC (PS σ (2 * l + sd) u m) (no u)) (8 * no u) 0 (0, nI (8 * no u)) (fun j _ h2 => hR _ (by omega))
      rw [he, e0, blp_add] at hb
      have hb : f_Un_bitsOnLine_10 sn_fuel (some 22) (nI (no u)) (0 + nI (8 * no u)) 0 0 (Kap kk σ θ) = _ := hb
      have hbl : f_Un_bitsOnLine (some 22) (nI (no u)) (Kap kk σ θ) = some (some (.int ((blp (OC (PS σ (2 * l + sd) u m) (no u)) (8 * no u) 0 (0, 0)).2 + nI (8 * no u))), Kap kk σ θ) := by
        unfold f_Un_bitsOnLine
        rw [e8n]
        have : (0 : Int32) + nI (8 * no u) = nI (8 * no u) := nI_add 0 _ |>.trans (by rw [Nat.zero_add])
        rw [this] at hb
        exact hb
      have n0 : (nI (no u) = 0) = False := eq_false (fun q => by
        have := nI_inj (a := no u) (b := 0) (by omega) (by omega) q
        omega)
      simp only [f_Sn_bits, x_nn, k1, if_true, x_cI hsp, n0, not_false_eq_true, x_gR, rr_s1_4, x_cI hbl, f_Sn_bits_23, r_I]
  · refine ⟨-1, σ, η, ?_, ?_, hA, SP.rf, by omega⟩
    · unfold g_Md_bits
      rcases hg with hg | ⟨l, sd, hl, hs, rfl, rfl, c⟩
      · rw [y_I_at hg, if_pos rfl]; rfl
      · have d36 : 2 * l + sd < md_len 36 := by show _ < 20; omega
        rw [y_I_at (gl_isEnd1 hP hl hs), if_neg (by decide), e2l, q_I_at d36, if_neg (nn1 c)]; rfl
    · simp only [f_Sn_bits, x_nn, k1, if_true, x_cI hsp, not_true_eq_false, if_false, f_Sn_bits_23, r_I]
