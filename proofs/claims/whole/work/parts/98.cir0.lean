/-! LAYER 2: circuits: what is said is routed, or posted -/
theorem sS_sI {σ : sn_FS} {k i k' : Nat} {v w : Int32} (h : k ≠ k') : sS (sI σ k i v) k' w = sI (sS σ k' w) k i v := by
  refine Prod.ext (funext fun a => funext fun b => ?_) rfl
  show (if a = k' then w else sn_up σ.1 k i v a b) = sn_up (fun a b => if a = k' then w else σ.1 a b) k i v a b
  simp only [sn_upE]
  by_cases c : a = k'
  · subst c
    simp only [if_true, if_neg (Ne.symm h)]
  · simp only [c, if_false]
theorem lost_sI {σ : sn_FS} {k i : Nat} {v : Int32} (h : 52 ≤ k) : S_lost (sI σ k i v) = sI (S_lost σ) k i v := by
  unfold S_lost
  rw [sI_ne (by omega), sS_sI (by omega)]
theorem wait_sI {σ : sn_FS} {e k i : Nat} {v : Int32} {m : Int64} (h : 52 ≤ k) : S_wait e m (sI σ k i v) = sI (S_wait e m σ) k i v := by
  unfold S_wait
  have h29 : (sI σ k i v).1 29 e = σ.1 29 e := sI_ne (by omega)
  rw [h29]
  split
  · exact lost_sI h
  · exact sI_sw (σ := sJ σ 28 (64 * e + (σ.1 29 e).toNatClampNeg) m) (by omega)
theorem give_sI {σ : sn_FS} {x n s k i : Nat} {v : Int32} {m : Int64} (h : 52 ≤ k) : S_give x n s m (sI σ k i v) = sI (S_give x n s m σ) k i v := by
  unfold S_give
  have h42 : (sI σ k i v).1 42 (fl x n s) = σ.1 42 (fl x n s) := sI_ne (by omega)
  have h41 : (sI σ k i v).1 41 (fl x n s) = σ.1 41 (fl x n s) := sI_ne (by omega)
  have h47 : (sI σ k i v).1 47 (fl x n s) = σ.1 47 (fl x n s) := sI_ne (by omega)
  have hs : SP σ (sI σ k i v) := SP.sI (by omega)
  rw [h42, h41, h47, hs.enE]
  split
  · exact wait_sI h
  · split
    · exact lost_sI h
    · exact sI_sw (σ := sJ σ 46 (64 * fl x n s + (σ.1 47 (fl x n s)).toNatClampNeg) m) (by omega)
theorem route_sI {σ : sn_FS} {x d s k i : Nat} {v : Int32} {m : Int64} {but : Option Nat} (h : 52 ≤ k) : S_route x d s m but (sI σ k i v) = sI (S_route x d s m but σ) k i v := by
  have hs : SP σ (sI σ k i v) := SP.sI (by omega)
  have hw : way (sI σ k i v) = way σ := way_eq hs (fun k' i' q => sI_ne (by omega))
  unfold S_route
  rw [hw]
  cases way σ x d s but with
  | some n => exact give_sI h
  | none => exact lost_sI h
/-- messages are routed from the exchanges that make them -/
def Rt : List Msg → sn_FS → sn_FS
  | [], σ => σ
  | m :: ms, σ => Rt ms (S_route (mF m) (mT m) (mL m) (wR m) none σ)
theorem Rt_app : ∀ (a b : List Msg) (σ : sn_FS), Rt (a ++ b) σ = Rt b (Rt a σ)
  | [], b, σ => rfl
  | m :: a, b, σ => Rt_app a b _
theorem Rt_w {k i : Nat} {v : Int32} (h : 52 ≤ k) : ∀ (ms : List Msg) (σ : sn_FS), sI (Rt ms σ) k i v = Rt ms (sI σ k i v)
  | [], σ => rfl
  | m :: ms, σ => by
    show sI (Rt ms (S_route _ _ _ _ _ σ)) k i v = Rt ms (S_route _ _ _ _ _ (sI σ k i v))
    rw [Rt_w h ms, route_sI h]
theorem Rt_q {k i : Nat} (h : k ≠ 7 ∧ k ≠ 29 ∧ k ≠ 47) : ∀ (ms : List Msg) (σ : sn_FS), (Rt ms σ).1 k i = σ.1 k i
  | [], σ => rfl
  | m :: ms, σ => (Rt_q h ms _).trans (S_route_I σ h)
theorem Rt_SP (ms : List Msg) (σ : sn_FS) : SP σ (Rt ms σ) := ⟨fun i => Rt_q (by decide) ms σ, fun i => Rt_q (by decide) ms σ, fun i => Rt_q (by decide) ms σ⟩
theorem Rt_Gv : ∀ (ms : List Msg) (σ : sn_FS), GvOk σ → GvOk (Rt ms σ)
  | [], σ, h => h
  | m :: ms, σ, h => Rt_Gv ms _ (S_route_Gv h)
theorem Rt_T {σ : sn_FS} (ms : List Msg) (h : ToldOk σ) : ToldOk (Rt ms σ) := h.mk' (fun i => Rt_q (by decide) ms σ) (fun i => Rt_q (by decide) ms σ)
theorem qR {k i : Nat} {K : Int32 → sn_G} {ms : List Msg} {σ : sn_FS} (h : i < md_len k) (hk : 50 ≤ k) : q_I k (nI i) K (Rt ms σ) = K (σ.1 k i) (Rt ms σ) := by rw [q_I_at h, Rt_q (by omega)]
theorem wRt {k i : Nat} {v : Int32} {K : sn_G} {ms : List Msg} {σ : sn_FS} (h : i < md_len k) (hk : 52 ≤ k) : w_I k (nI i) v K (Rt ms σ) = K (Rt ms (sI σ k i v)) := by rw [w_I_at h, Rt_w hk]
theorem wRz {k i : Nat} {v : Int32} {K : sn_G} {ms : List Msg} {σ : sn_FS} (h : i < md_len k) (hk : 52 ≤ k) (hv : v = 0 ∨ v = 1) : w_Z k (nI i) v K (Rt ms σ) = K (Rt ms (sI σ k i v)) := by rw [w_Z_at h hv, Rt_w hk]
/-- what a circuit's end says -/
def mS (kd c n b : Nat) : Msg := (kd, c / 24, c % 24 / 4, c % 4, c % 4 + 4 * n, b, 0)
theorem mS_ok {kd c n b : Nat} (hk : kd < 16) (hc : c < 144) (hn : n < 64) (hb : b < 65536) : MOk (mS kd c n b) := ⟨hk, show c / 24 < 6 by omega, show c % 24 / 4 < 6 by omega, show c % 4 < 4 by omega, show c % 4 + 4 * n < 256 by omega, hb, show (0 : Nat) < 9 by decide⟩
theorem mS_mv {σ : sn_FS} {kd c n b : Nat} (hk : 7 ≤ kd) (hk2 : kd ≤ 14) (hc : c < 144) (hn : n < 64) (hb : b < 65536) (hnb : nb σ (c / 24) (c % 24 / 4) = true) (h7 : kd = 7 → numOk (b % 64) ∧ b / 64 ≤ 6) : MV σ (mS kd c n b) := ⟨mS_ok (by omega) hc hn hb, show (0 : Nat) < 8 by decide, show 1 ≤ kd by omega, hk2, hnb, fun q => absurd (show kd ≤ 2 from q) (by omega), fun q => by rcases q with q | q; exact absurd (show kd = 3 from q) (by omega); exact absurd (show kd = 4 from q) (by omega), fun q => by rcases q with q | q; exact absurd (show kd = 5 from q) (by omega); exact absurd (show kd = 6 from q) (by omega), h7⟩
theorem c24 : ∀ c, c < 144 → nI c / (24 : Int32) = nI (c / 24) := by decide +kernel
theorem cn4 : ∀ c, c < 144 → (nI c % (24 : Int32)) / (4 : Int32) = nI (c % 24 / 4) := by decide +kernel
theorem cm4 : ∀ c, c < 144 → nI c % (4 : Int32) = nI (c % 4) := by decide +kernel
theorem gl_says {σ : sn_FS} (hG : GvOk σ) (hT : ToldOk σ) {kd c n b : Nat} (hk : kd < 16) (hc : c < 144) (hn : n < 64) (hb : b < 65536) (ms : List Msg) : g_Md_says (nI c) (nI kd) (nI n) (nI b) (Rt ms σ) = some (none, Rt (ms ++ [mS kd c n b]) σ) := by
  have hmo := mS_ok hk hc hn hb
  have hms := gl_message (k := kd) (f := c / 24) (t := c % 24 / 4) (s := c % 4) (a := c % 4 + 4 * n) (b := b) hmo (Rt ms σ)
  have hrt := gl_route (Rt_Gv ms σ hG) (Rt_T ms hT) hmo (but := none) (fun n h => by cases h) (x := c / 24) (d := c % 24 / 4) (by omega) (by omega)
  have e1 : nI (c % 4) + ((4 : Int32) * nI n) = nI (c % 4 + 4 * n) := by
    have : (4 : Int32) * nI n = nI (4 * n) := pk_mul 4 n
    rw [this, nI_add]
  have hrt : g_Md_route (nI (c / 24)) (nI (c % 24 / 4)) (wR (kd, c / 24, c % 24 / 4, c % 4, c % 4 + 4 * n, b, 0)) (-1) (Rt ms σ) = some (none, S_route (c / 24) (c % 24 / 4) (c % 4) (wR (mS kd c n b)) none (Rt ms σ)) := hrt
  simp only [g_Md_says, y_nI, c24 c hc, cn4 c hc, cm4 c hc, e1, y_J_at hms, y_V_at hrt, z_V]
  rw [Rt_app]
  rfl
theorem gl_say {σ : sn_FS} (hG : GvOk σ) (hT : ToldOk σ) {kd c n b : Nat} (hk : kd < 16) (hc : c < 144) (hn : n < 64) (en : σ.1 59 c = nI n) (hb : b < 65536) (ms : List Msg) : g_Md_say (nI c) (nI kd) (nI b) (Rt ms σ) = some (none, Rt (ms ++ [mS kd c n b]) σ) := by
  have d59 : c < md_len 59 := hc
  unfold g_Md_say
  rw [qR d59 (by decide), en, y_V_at (gl_says hG hT hk hc hn hb ms)]
  rfl
/-- the posted -/
def PQ (η : sn_FS) (ms : List Msg) : Prop := ∃ hd, hd < 16 ∧ ms.length ≤ 16 ∧ η.1 20 1 = nI hd ∧ η.1 20 2 = nI ms.length ∧ ∀ j (h : j < ms.length), η.2 21 ((hd + j) % 16) = wC ms[j]
def HE (η θ : sn_FS) : Prop := (∀ a j, a ≠ 20 → θ.1 a j = η.1 a j) ∧ ∀ a j, a ≠ 21 → θ.2 a j = η.2 a j
theorem HE.rf {η : sn_FS} : HE η η := ⟨fun _ _ _ => rfl, fun _ _ _ => rfl⟩
theorem HE.tr {a b c : sn_FS} (h1 : HE a b) (h2 : HE b c) : HE a c := ⟨fun x j h => (h2.1 x j h).trans (h1.1 x j h), fun x j h => (h2.2 x j h).trans (h1.2 x j h)⟩
theorem HR.he {σ η θ : sn_FS} (h : HR σ η) (hE : HE η θ) : HR σ θ := by
  refine ⟨h.1.mk' SP.rf (fun t ht i _ => ⟨rfl, fun j _ => rfl⟩) (fun t ht i => ⟨hE.1 _ _ (aU_q (e := 0) ht).2.2.2.1, fun j => hE.2 _ _ (aU_q (e := 0) ht).2.2.2.2⟩), h.2.1.mk' SP.rf (fun _ _ _ _ => rfl) (fun _ => rfl) (fun e j => ⟨hE.1 _ _ (by unfold aU; omega), hE.2 _ _ (by unfold aU; omega)⟩), h.2.2.mk' SP.rf (fun _ q => q) (fun _ => rfl) (fun e => hE.1 _ _ (by unfold aE; omega))⟩
variable {kk : Nat → Nat} {σ η : sn_FS}
theorem QH_post (hK : KOk kk σ) {n hd : Nat} (h1 : hd < 16) (h2 : n ≤ 16) (h3 : η.1 20 1 = nI hd) (h4 : η.1 20 2 = nI n) : QH kk σ η 20 21 16 n hd := by
  obtain ⟨⟨k1, k2, k3, k4, k5, k6, k7, k8, k9, k10, k11, k12, k13, k14, k15, k16, k17, k18, k19, k20, k21, k22⟩, kE, kF, kP, k4s⟩ := id hK
  refine ⟨k20, k21, rr_s20_0, rfl, by omega, h1, h2, h3, fun σ η => rd_s20_1, fun σ η v => wr_s20_1, by rw [rd_s20_2]; exact h4, fun x => ?_⟩
  rw [rd_s20_2]
  show sn_up η.1 20 1 x 20 2 = _
  rw [sn_up_nk η.1 20 20 (k := 1) (j := 2) x (by decide)]; exact h4
theorem fl_padd (hK : KOk kk σ) {ms : List Msg} (hP : PQ η ms) (hl : ms.length < 16) (m : Msg) : ∃ θ, f_Qu_add 20 (wC m) (Kap kk σ η) = some (some (.int 1), Kap kk σ θ) ∧ PQ θ (ms ++ [m]) ∧ HE η θ := by
  obtain ⟨hd, h1, h2, h3, h4, h5⟩ := hP
  have hq := fl_add (QH_post hK h1 h2 h3 h4) hl (wC m)
  rw [wr_s20_2] at hq
  refine ⟨_, hq, ⟨hd, h1, by simp; omega, ?_, ?_, fun j hj => ?_⟩, fun a j h => sI_ne h, fun a j h => sn_up_ne _ _ _ _ h⟩
  · simp only [sn_upE, Nat.reduceEqDiff, reduceIte]; exact h3
  · simp only [sn_upE, Nat.reduceEqDiff, reduceIte]; simp
  · show sn_up η.2 21 ((hd + ms.length) % 16) (wC m) 21 ((hd + j) % 16) = _
    by_cases c : j < ms.length
    · rw [List.getElem_append_left c, sn_up_nk η.2 21 21 (k := (hd + ms.length) % 16) (j := (hd + j) % 16) _ (mod_ne (by omega) (by omega))]
      exact h5 j c
    · simp at hj
      have : j = ms.length := by omega
      subst this
      rw [sn_up_same]
      simp
theorem fl_post (hK : KOk kk σ) {kd c n b : Nat} (hk : kd < 16) (hc : c < 144) (hn : n < 64) (hb : b < 65536) (hnb : nb σ (c / 24) (c % 24 / 4) = true) {ms : List Msg} (hP : PQ η ms) (hl : ms.length < 16) : ∃ θ, f_Sw_post 17 (some (aC c)) (nI kd) (nI n) (nI b) (Kap kk σ η) = some (none, Kap kk σ θ) ∧ PQ θ (ms ++ [mS kd c n b]) ∧ HE η θ := by
  obtain ⟨θ, a1, a2, a3⟩ := fl_padd hK hP hl (mS kd c n b)
  refine ⟨θ, ?_, a2, a3⟩
  obtain ⟨⟨k1, k2, k3, k4, k5, k6, k7, k8, k9, k10, k11, k12, k13, k14, k15, k16, k17, k18, k19, k20, k21, k22⟩, kE, kF, kP, k4s⟩ := id hK
  obtain ⟨f1, f2, f3, f4⟩ := kF c hc hnb
  have hof := fl_of (k := kd) (f := c / 24) (t := c % 24 / 4) (s := c % 4) (a := c % 4 + 4 * n) (b := b) (mS_ok hk hc hn hb) (Kap kk σ η)
  have e1 : nI (c % 4) + ((4 : Int32) * nI n) = nI (c % 4 + 4 * n) := by
    have : (4 : Int32) * nI n = nI (4 * n) := pk_mul 4 n
    rw [this, nI_add]
  have a1 : f_Qu_add 20 (wC (kd, c / 24, c % 24 / 4, c % 4, c % 4 + 4 * n, b, 0)) (Kap kk σ η) = _ := a1
  simp only [f_Sw_post, x_gI, f4, if_true, rd_C2, e1, n_I, x_gR, k17, rr_s17_4, rd_C0, rd_C1, x_cJ hof, x_nn, k20, x_cI a1, r_V]
