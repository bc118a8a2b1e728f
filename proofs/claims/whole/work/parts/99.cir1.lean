/-! LAYER 2: legs -/
def aL (g : Nat) : Nat := if 100 ≤ g then aC (g - 100) else aP g
def Vn (g : Nat) : Prop := g < 24 ∨ (100 ≤ g ∧ g < 244)
def VL (σ : sn_FS) (g : Nat) : Prop := g < 24 ∨ (100 ≤ g ∧ g < 244 ∧ nb σ ((g - 100) / 24) ((g - 100) % 24 / 4) = true)
theorem VL.vn {σ : sn_FS} {g : Nat} (h : VL σ g) : Vn g := by rcases h with q | q; exact Or.inl q; exact Or.inr ⟨q.1, q.2.1⟩
def xg (g : Nat) : Nat := if 100 ≤ g then (g - 100) / 24 else g / 4
theorem xg_lt {g : Nat} (h : Vn g) : xg g < 6 := by unfold xg Vn at *; split <;> omega
def st (σ : sn_FS) (g : Nat) : Int32 := if 100 ≤ g then σ.1 52 (g - 100) else σ.1 61 g
def sSt (g : Nat) (v : Int32) (σ : sn_FS) : sn_FS := if 100 ≤ g then sI σ 52 (g - 100) v else sI σ 61 g v
def lgv (σ : sn_FS) (g : Nat) : Int32 := if 100 ≤ g then σ.1 57 (g - 100) else σ.1 62 g
def sLg (g : Nat) (v : Int32) (σ : sn_FS) : sn_FS := if 100 ≤ g then sI σ 57 (g - 100) v else sI σ 62 g v
theorem lgv_sLg {σ : sn_FS} {g g' : Nat} {v : Int32} : lgv (sLg g v σ) g' = if g' = g then v else lgv σ g' := by
  unfold lgv sLg
  by_cases c : 100 ≤ g
  · by_cases c' : 100 ≤ g'
    · simp only [c, c', if_true]
      by_cases e : g' = g
      · subst e; simp only [sn_upE, Nat.reduceEqDiff, reduceIte]
      · have e2 : ¬ g' - 100 = g - 100 := by omega
        rw [if_neg e]; simp only [sn_upE, Nat.reduceEqDiff, reduceIte, e2]
    · simp only [c, c', if_true, if_false]
      rw [if_neg (by omega)]; simp only [sn_upE, Nat.reduceEqDiff, reduceIte]
  · by_cases c' : 100 ≤ g'
    · simp only [c, c', if_true, if_false]
      rw [if_neg (by omega)]; simp only [sn_upE, Nat.reduceEqDiff, reduceIte]
    · simp only [c, c', if_false]
      by_cases e : g' = g
      · subst e; simp only [sn_upE, Nat.reduceEqDiff, reduceIte]
      · rw [if_neg e]; simp only [sn_upE, Nat.reduceEqDiff, reduceIte, e]
theorem sLg_I {σ : sn_FS} {g k i : Nat} {v : Int32} (h : k ≠ 57 ∧ k ≠ 62) : (sLg g v σ).1 k i = σ.1 k i := by
  unfold sLg
  split
  · exact sI_ne h.1
  · exact sI_ne h.2
theorem sLg_J {σ : sn_FS} {g : Nat} {v : Int32} : (sLg g v σ).2 = σ.2 := by unfold sLg; split <;> rfl
theorem st_sSt {σ : sn_FS} {g g' : Nat} {v : Int32} : st (sSt g v σ) g' = if g' = g then v else st σ g' := by
  unfold st sSt
  by_cases c : 100 ≤ g
  · by_cases c' : 100 ≤ g'
    · simp only [c, c', if_true]
      by_cases e : g' = g
      · subst e; simp only [sn_upE, Nat.reduceEqDiff, reduceIte]
      · have e2 : ¬ g' - 100 = g - 100 := by omega
        rw [if_neg e]; simp only [sn_upE, Nat.reduceEqDiff, reduceIte, e2]
    · simp only [c, c', if_true, if_false]
      rw [if_neg (by omega)]; simp only [sn_upE, Nat.reduceEqDiff, reduceIte]
  · by_cases c' : 100 ≤ g'
    · simp only [c, c', if_true, if_false]
      rw [if_neg (by omega)]; simp only [sn_upE, Nat.reduceEqDiff, reduceIte]
    · simp only [c, c', if_false]
      by_cases e : g' = g
      · subst e; simp only [sn_upE, Nat.reduceEqDiff, reduceIte]
      · rw [if_neg e]; simp only [sn_upE, Nat.reduceEqDiff, reduceIte, e]
theorem sSt_I {σ : sn_FS} {g k i : Nat} {v : Int32} (h : k ≠ 52 ∧ k ≠ 61) : (sSt g v σ).1 k i = σ.1 k i := by
  unfold sSt
  split
  · exact sI_ne h.1
  · exact sI_ne h.2
theorem sSt_J {σ : sn_FS} {g : Nat} {v : Int32} : (sSt g v σ).2 = σ.2 := by unfold sSt; split <;> rfl
theorem lgv_sSt {σ : sn_FS} {g g' : Nat} {v : Int32} : lgv (sSt g v σ) g' = lgv σ g' := by
  unfold lgv
  rw [sSt_I (by decide), sSt_I (by decide)]
theorem st_sLg {σ : sn_FS} {g g' : Nat} {v : Int32} : st (sLg g v σ) g' = st σ g' := by
  unfold st
  rw [sLg_I (by decide), sLg_I (by decide)]
/-- only circuits and subscribers have changed -/
def CF (σ τ : sn_FS) : Prop := (∀ k i, k < 52 ∨ 62 < k → τ.1 k i = σ.1 k i) ∧ τ.2 = σ.2
theorem CF.rf {σ : sn_FS} : CF σ σ := ⟨fun _ _ _ => rfl, rfl⟩
theorem CF.tr {a b c : sn_FS} (h1 : CF a b) (h2 : CF b c) : CF a c := ⟨fun k i hk => (h2.1 k i hk).trans (h1.1 k i hk), h2.2.trans h1.2⟩
theorem CF.sp {σ τ : sn_FS} (h : CF σ τ) : SP σ τ := ⟨fun i => h.1 0 i (by omega), fun i => h.1 1 i (by omega), fun i => h.1 4 i (by omega)⟩
theorem CF.sI {σ τ : sn_FS} (h : CF σ τ) {k i : Nat} {v : Int32} (hk : 52 ≤ k ∧ k ≤ 62) : CF σ (sI τ k i v) := ⟨fun k' i' h' => by rw [sI_ne (by omega)]; exact h.1 k' i' h', h.2⟩
theorem CF.sLg {σ τ : sn_FS} (h : CF σ τ) {g : Nat} {v : Int32} : CF σ (sLg g v τ) := ⟨fun k i hk => by rw [sLg_I (by omega)]; exact h.1 k i hk, by rw [sLg_J]; exact h.2⟩
theorem CF.sSt {σ τ : sn_FS} (h : CF σ τ) {g : Nat} {v : Int32} : CF σ (sSt g v τ) := ⟨fun k i hk => by rw [sSt_I (by omega)]; exact h.1 k i hk, by rw [sSt_J]; exact h.2⟩
theorem CF.gv {σ τ : sn_FS} (h : CF σ τ) (hG : GvOk σ) : GvOk τ := hG.mk' h.sp (fun e he => by rw [h.1 29 e (by decide)]; exact hG.2.1 e he) (fun f hf => by rw [h.1 47 f (by decide)]; exact hG.2.2.1 f hf) (fun i => h.1 41 i (by decide)) (fun i => h.1 42 i (by decide))
theorem CF.told {σ τ : sn_FS} (h : CF σ τ) (hT : ToldOk σ) : ToldOk τ := hT.mk' (fun i => h.1 50 i (by decide)) (fun i => h.1 51 i (by decide))
theorem CF.vl {σ τ : sn_FS} (h : CF σ τ) : VL τ = VL σ := by funext g; unfold VL; rw [h.sp.nbE]
/-- the reference's legs -/
theorem Vn.lt {g : Nat} (h : Vn g) : (nI g < (100 : Int32)) ↔ g < 100 := nI_ltI (a := g) (b := 100) (by unfold Vn at h; omega) (by omega)
theorem Vn.ge {g : Nat} (h : Vn g) : ((100 : Int32) ≤ nI g) ↔ 100 ≤ g := nI_leI (a := 100) (b := g) (by omega) (by unfold Vn at h; omega)
theorem Vn.sub {g : Nat} (h : 100 ≤ g) : nI g - (100 : Int32) = nI (g - 100) := nI_sub (a := g) (b := 100) h
theorem Vn.m1 {g : Nat} (h : Vn g) : ¬ nI g = (-1 : Int32) := nI_m1 (by unfold Vn at h; omega)
theorem gl_legOf {σ : sn_FS} {g : Nat} (h : Vn g) (ms : List Msg) : g_Md_legOf (nI g) (Rt ms σ) = some (some (.int (lgv σ g)), Rt ms σ) := by
  unfold g_Md_legOf lgv
  by_cases c : g < 100
  · have d62 : g < md_len 62 := by show _ < 24; unfold Vn at h; omega
    rw [if_pos (h.lt.mpr c), if_neg (by omega), qR d62 (by decide)]; rfl
  · have d57 : g - 100 < md_len 57 := by show _ < 144; unfold Vn at h; omega
    rw [if_neg (fun q => c (h.lt.mp q)), if_pos (by omega), Vn.sub (by omega), qR d57 (by decide)]; rfl
theorem gl_setLeg {σ : sn_FS} {g : Nat} (h : Vn g) (v : Int32) (ms : List Msg) : g_Md_setLeg (nI g) v (Rt ms σ) = some (none, Rt ms (sLg g v σ)) := by
  unfold g_Md_setLeg sLg
  by_cases c : g < 100
  · have d62 : g < md_len 62 := by show _ < 24; unfold Vn at h; omega
    rw [if_pos (h.lt.mpr c), if_neg (by omega), wRt d62 (by decide)]; rfl
  · have d57 : g - 100 < md_len 57 := by show _ < 144; unfold Vn at h; omega
    rw [if_neg (fun q => c (h.lt.mp q)), if_pos (by omega), Vn.sub (by omega), wRt d57 (by decide)]; rfl
theorem gl_join {σ : sn_FS} {a b : Nat} (ha : Vn a) (hb : Vn b) (ms : List Msg) : g_Md_join (nI a) (nI b) (Rt ms σ) = some (none, Rt ms (sLg b (nI a) (sLg a (nI b) σ))) := by
  unfold g_Md_join
  rw [y_V_at (gl_setLeg ha _ ms), y_V_at (gl_setLeg hb _ ms)]; rfl
/-- legs are joined in pairs, at one exchange -/
def JOk (σ : sn_FS) : Prop := ∀ g, VL σ g → lgv σ g = -1 ∨ ∃ o, VL σ o ∧ o ≠ g ∧ xg o = xg g ∧ lgv σ g = nI o ∧ lgv σ o = nI g
def S_part (g : Nat) (σ : sn_FS) : sn_FS := sLg g (-1) (if lgv σ g = -1 then σ else sLg (lgv σ g).toNatClampNeg (-1) σ)
theorem gl_part {σ : sn_FS} (hJ : JOk σ) {g : Nat} (h : VL σ g) (ms : List Msg) : g_Md_part (nI g) (Rt ms σ) = some (none, Rt ms (S_part g σ)) := by
  unfold g_Md_part S_part
  rw [y_I_at (gl_legOf h.vn ms)]
  rcases hJ g h with q | ⟨o, o1, o2, o3, o4, o5⟩
  · rw [if_pos q, if_pos q]
    unfold g_Md_part_17
    rw [y_V_at (gl_setLeg h.vn _ ms)]; rfl
  · have hm : ¬ nI o = (-1 : Int32) := o1.vn.m1
    have hcl : (nI o).toNatClampNeg = o := nI_clamp (by have := o1.vn; unfold Vn at this; omega)
    rw [o4, if_neg hm, if_neg hm, y_V_at (gl_setLeg o1.vn _ ms), hcl]
    unfold g_Md_part_17
    rw [y_V_at (gl_setLeg h.vn _ ms)]; rfl
theorem S_part_I {σ : sn_FS} {g k i : Nat} (h : k ≠ 57 ∧ k ≠ 62) : (S_part g σ).1 k i = σ.1 k i := by
  unfold S_part
  rw [sLg_I h]
  split
  · rfl
  · exact sLg_I h
theorem S_part_CF {σ : sn_FS} {g : Nat} : CF σ (S_part g σ) := by
  unfold S_part
  split
  · exact CF.rf.sLg
  · exact CF.rf.sLg.sLg
theorem S_part_lg {σ : sn_FS} (hJ : JOk σ) {g g' : Nat} (h : VL σ g) (h' : Vn g') : lgv (S_part g σ) g' = if g' = g then -1 else if lgv σ g = nI g' then -1 else lgv σ g' := by
  unfold S_part
  rw [lgv_sLg]
  by_cases c : g' = g
  · rw [if_pos c, if_pos c]
  · rw [if_neg c, if_neg c]
    rcases hJ g h with q | ⟨o, o1, o2, o3, o4, o5⟩
    · rw [if_pos q]
      by_cases c2 : lgv σ g = nI g'
      · rw [q] at c2; exact absurd c2.symm h'.m1
      · rw [if_neg c2]
    · have hm : ¬ nI o = (-1 : Int32) := o1.vn.m1
      have hV := o1.vn
      have hcl : (nI o).toNatClampNeg = o := nI_clamp (by unfold Vn at hV; omega)
      rw [o4, if_neg hm, hcl, lgv_sLg]
      by_cases c2 : g' = o
      · subst c2
        rw [if_pos rfl, if_pos rfl]
      · rw [if_neg c2, if_neg (fun z => c2 (nI_inj (by unfold Vn at h'; omega) (by unfold Vn at hV; omega) z.symm))]
theorem S_part_st {σ : sn_FS} {g g' : Nat} : st (S_part g σ) g' = st σ g' := by
  unfold st
  rw [S_part_I (by decide), S_part_I (by decide)]
theorem S_part_J {σ : sn_FS} (hJ : JOk σ) {g : Nat} (h : VL σ g) : JOk (S_part g σ) := by
  intro g' h'
  rw [S_part_CF.vl] at h'
  rw [S_part_lg hJ h h'.vn, S_part_CF.vl]
  by_cases c : g' = g
  · rw [if_pos c]; exact Or.inl rfl
  · rw [if_neg c]
    by_cases c2 : lgv σ g = nI g'
    · rw [if_pos c2]; exact Or.inl rfl
    · rw [if_neg c2]
      rcases hJ g' h' with q | ⟨o, o1, o2, o3, o4, o5⟩
      · exact Or.inl q
      · refine Or.inr ⟨o, o1, o2, o3, o4, ?_⟩
        have n1 : o ≠ g := fun q => by subst q; exact c2 o5
        have n2 : ¬ lgv σ g = nI o := fun q => by
          rcases hJ g h with z | ⟨p, p1, p2, p3, p4, p5⟩
          · rw [z] at q; exact absurd q.symm o1.vn.m1
          · have e1 : p = o := nI_inj (by have := p1.vn; unfold Vn at this; omega) (by have := o1.vn; unfold Vn at this; omega) (p4.symm.trans q)
            rw [e1, o5] at p5
            exact c (nI_inj (by have := h'.vn; unfold Vn at this; omega) (by have := h.vn; unfold Vn at this; omega) p5)
        rw [S_part_lg hJ h o1.vn, if_neg n1, if_neg n2]; exact o5
/-- joining two that are not joined -/
theorem join_J {σ : sn_FS} (hJ : JOk σ) {a b : Nat} (ha : VL σ a) (hb : VL σ b) (hab : a ≠ b) (hx : xg a = xg b) (la : lgv σ a = -1) (lb : lgv σ b = -1) : JOk (sLg b (nI a) (sLg a (nI b) σ)) := by
  intro g h
  have hcf : CF σ (sLg b (nI a) (sLg a (nI b) σ)) := CF.rf.sLg.sLg
  rw [hcf.vl] at h ⊢
  simp only [lgv_sLg]
  by_cases cb : g = b
  · subst cb
    right
    refine ⟨a, ha, hab, hx, by rw [if_pos rfl], ?_⟩
    rw [if_neg hab, if_pos rfl]
  · rw [if_neg cb]
    by_cases ca : g = a
    · subst ca
      right
      refine ⟨b, hb, Ne.symm cb, hx.symm, by rw [if_pos rfl], ?_⟩
      rw [if_pos rfl]
    · rw [if_neg ca]
      rcases hJ g h with q | ⟨o, o1, o2, o3, o4, o5⟩
      · exact Or.inl q
      · refine Or.inr ⟨o, o1, o2, o3, o4, ?_⟩
        have n1 : o ≠ b := fun q => by subst q; rw [lb] at o5; exact absurd o5.symm h.vn.m1
        have n2 : o ≠ a := fun q => by subst q; rw [la] at o5; exact absurd o5.symm h.vn.m1
        rw [if_neg n1, if_neg n2]; exact o5
theorem JOk.mk' {σ τ : sn_FS} (h : JOk σ) (hcf : CF σ τ) (h1 : ∀ g, lgv τ g = lgv σ g) : JOk τ := by
  intro g hg
  rw [hcf.vl] at hg ⊢
  simp only [h1]
  exact h g hg
/-- the class's legs -/
theorem k_leg_n {g : Nat} (h : Vn g) : k_leg (nI g) = some (aL g) := by
  unfold k_leg aL
  have hcl : (nI g).toNatClampNeg = g := nI_clamp (by unfold Vn at h; omega)
  rw [if_neg h.m1, hcl]
  by_cases c : g < 100
  · rw [if_pos (h.lt.mpr c), if_neg (by omega)]
  · rw [if_neg (fun q => c (h.lt.mp q)), if_pos (by omega)]
theorem k_leg_m : k_leg (-1) = none := by unfold k_leg; rw [if_pos rfl]
variable {kk : Nat → Nat} {σ η : sn_FS}
theorem KOk.leg (hK : KOk kk σ) {g : Nat} (h : VL σ g) : kk (aL g) = 4 := by
  obtain ⟨⟨k1, k2, k3, k4, k5, k6, k7, k8, k9, k10, k11, k12, k13, k14, k15, k16, k17, k18, k19, k20, k21, k22⟩, kE, kF, kP, k4s⟩ := id hK
  unfold aL
  rcases h with q | ⟨q1, q2, q3⟩
  · rw [if_neg (by omega)]; exact kP g q
  · rw [if_pos q1]; exact (kF (g - 100) (by omega) q3).2.2.2
theorem rd_L3 {g : Nat} : kI σ η (aL g) 3 = st σ g := by
  unfold aL st
  split
  · exact rd_C3 _
  · exact rd_P3 _
theorem wr_L3 {g : Nat} {v : Int32} : u_I (Kap kk σ η) (aL g) 3 v = Kap kk (sSt g v σ) η := by
  unfold aL sSt
  split
  · exact wr_C3 _
  · exact wr_P3 _
theorem rr_L4 {g : Nat} : kR σ (aL g) 4 = k_leg (lgv σ g) := by
  unfold aL lgv
  split
  · exact rr_C4 _
  · exact rr_P4 _
theorem wR_L4 {g : Nat} {v : Int32} : u_R (Kap kk σ η) (aL g) 4 (k_leg v) = Kap kk (sLg g v σ) η := by
  unfold aL sLg
  split
  · exact wR_C4
  · exact wR_P4
theorem rd_L0 {g : Nat} : kI σ η (aL g) 0 = nI (xg g) := by
  unfold aL xg
  split
  · exact rd_C0 _
  · exact rd_P0 _
def ng (g : Nat) : Int32 := if 100 ≤ g then nI ((g - 100) % 24 / 4) else -1
theorem rd_L1 {g : Nat} : kI σ η (aL g) 1 = ng g := by
  unfold aL ng
  split
  · exact rd_C1 _
  · exact rd_P1 _
def lng (σ : sn_FS) (g : Nat) : Int32 := if 100 ≤ g then σ.1 60 (g - 100) else 0
theorem rd_L11 {g : Nat} : kI σ η (aL g) 11 = lng σ g := by
  unfold aL lng
  split
  · exact rd_C11 _
  · exact rd_P11 _
theorem fl_isSub (hK : KOk kk σ) {g : Nat} (h : VL σ g) : f_Lg_isSubscriber (aL g) (Kap kk σ η) = some (some (.int (if g < 100 then 1 else 0)), Kap kk σ η) := by
  have h4 := hK.leg h
  have hV := h.vn
  by_cases c : g < 100
  · have e1 : ng g = -1 := by unfold ng; rw [if_neg (by omega)]
    rw [if_pos c]
    simp only [f_Lg_isSubscriber, x_gI, h4, if_true, rd_L1, e1, not_true_eq_false, if_false, f_Lg_isSubscriber_13, r_Z]
    simp
  · have e1 : (ng g = -1) = False := eq_false (by unfold ng; rw [if_pos (by omega)]; exact nI_m1 (by omega))
    rw [if_neg c]
    simp only [f_Lg_isSubscriber, x_gI, h4, if_true, rd_L1, e1, not_false_eq_true, f_Lg_isSubscriber_13, r_Z]
    simp
theorem fl_part (hK : KOk kk σ) (hJ : JOk σ) {g : Nat} (h : VL σ g) : f_Lg_part (aL g) (Kap kk σ η) = some (some (va_rf (k_leg (lgv σ g))), Kap kk (S_part g σ) η) := by
  have h4 := hK.leg h
  have hw : ∀ (τ : sn_FS) (g : Nat), u_R (Kap kk τ η) (aL g) 4 none = Kap kk (sLg g (-1) τ) η := fun τ g => by rw [← k_leg_m]; exact wR_L4
  rcases hJ g h with q | ⟨o, o1, o2, o3, o4, o5⟩
  · have hS : S_part g σ = sLg g (-1) σ := by unfold S_part; rw [if_pos q]
    simp only [f_Lg_part, x_gR, h4, if_true, rr_L4, q, k_leg_m, f_Lg_part_14, x_pR, hw, r_R, hS]
  · have hV := o1.vn
    have hcl : (nI o).toNatClampNeg = o := nI_clamp (by unfold Vn at hV; omega)
    have hS : S_part g σ = sLg g (-1) (sLg o (-1) σ) := by unfold S_part; rw [o4, if_neg o1.vn.m1, hcl]
    have ho4 := hK.leg o1
    have q1 : (some (aL o) = none) = False := by simp
    simp only [f_Lg_part, x_gR, h4, if_true, rr_L4, o4, k_leg_n hV, q1, if_false, x_pR, ho4, hw, f_Lg_part_14, r_R, hS]
theorem fl_join (hK : KOk kk σ) {a b : Nat} (ha : VL σ a) (hb : VL σ b) : f_Sw_join (some (aL a)) (some (aL b)) (Kap kk σ η) = some (none, Kap kk (sLg b (nI a) (sLg a (nI b) σ)) η) := by
  have h1 := hK.leg ha
  have h2 := hK.leg hb
  have w1 : ∀ τ : sn_FS, u_R (Kap kk τ η) (aL a) 4 (some (aL b)) = Kap kk (sLg a (nI b) τ) η := fun τ => by rw [← k_leg_n hb.vn]; exact wR_L4
  have w2 : ∀ τ : sn_FS, u_R (Kap kk τ η) (aL b) 4 (some (aL a)) = Kap kk (sLg b (nI a) τ) η := fun τ => by rw [← k_leg_n ha.vn]; exact wR_L4
  simp only [f_Sw_join, x_pR, h1, h2, if_true, w1, w2, r_V]
/-- what always holds of circuits and subscribers -/
def C1 (σ : sn_FS) (c : Nat) : Prop := (∃ l, l ≤ 8 ∧ σ.1 52 c = nI l) ∧ (∃ v, v < 64 ∧ σ.1 59 c = nI v) ∧ (∃ v, v ≤ 6 ∧ σ.1 60 c = nI v) ∧ (σ.1 58 c = -1 ∨ ∃ v, numOk v ∧ σ.1 58 c = nI v) ∧ (σ.1 52 c = 1 → ¬ σ.1 58 c = -1) ∧ (σ.1 52 c = 0 ∨ (7 : Int32) ≤ σ.1 52 c → σ.1 57 c = -1 ∧ σ.1 58 c = -1 ∧ σ.1 60 c = 0) ∧ (¬ σ.1 54 c = 0 → σ.1 52 c = 7) ∧ (¬ σ.1 53 c = 0 → σ.1 52 c = 1 ∨ σ.1 52 c = 2 ∨ σ.1 52 c = 7 ∨ σ.1 52 c = 8) ∧ (σ.1 55 c = 0 ∨ σ.1 55 c = 1) ∧ (σ.1 56 c = 0 ∨ σ.1 56 c = 1) ∧ (nb σ (c / 24) (c % 24 / 4) = false → σ.1 52 c = 0 ∧ σ.1 53 c = 0 ∧ σ.1 54 c = 0 ∧ σ.1 55 c = 0 ∧ σ.1 56 c = 0 ∧ σ.1 57 c = -1 ∧ σ.1 58 c = -1 ∧ σ.1 59 c = 0 ∧ σ.1 60 c = 0)
def P1 (σ : sn_FS) (p : Nat) : Prop := (∃ v, v ≤ 5 ∧ σ.1 61 p = nI v) ∧ (σ.1 61 p = 0 ∨ σ.1 61 p = 5 → σ.1 62 p = -1)
def CI (σ : sn_FS) : Prop := JOk σ ∧ (∀ c, c < 144 → C1 σ c) ∧ ∀ p, p < 24 → P1 σ p
