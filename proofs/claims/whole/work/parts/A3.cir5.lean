/-! LAYER 2: connecting -/
theorem t10 : ∀ v, v < 60 → nI v / (10 : Int32) = nI (v / 10) := by decide +kernel
theorem t1m : ∀ v, v < 60 → nI v % (10 : Int32) = nI (v % 10) := by decide +kernel
theorem i4 : ∀ v, v < 8 → nI v / (4 : Int32) = nI (v / 4) := by decide +kernel
theorem i4m : ∀ v, v < 8 → nI v % (4 : Int32) = nI (v % 4) := by decide +kernel
theorem a63 : ∀ v, v < 64 → (nI v + 1) &&& (63 : Int32) = nI ((v + 1) % 64) := by decide +kernel
theorem r64 : ∀ v, v < 64 → (nI v + 1) % (64 : Int32) = nI ((v + 1) % 64) := by decide +kernel
variable {kk : Nat → Nat} {σ : sn_FS}
def inC (σ : sn_FS) (g : Nat) : Prop := (g < 100 → ¬ σ.1 61 g = 0 ∧ ¬ σ.1 61 g = 5) ∧ (100 ≤ g → ¬ σ.1 52 (g - 100) = 0 ∧ ¬ (7 : Int32) ≤ σ.1 52 (g - 100))
def Cf (σ τ : sn_FS) (g : Nat) : Prop := ∀ g', Vn g' → g' ≠ g → ¬ st σ g' = 0 → lgv τ g' = lgv σ g' ∧ st τ g' = st σ g'
theorem inC.ns {g : Nat} (h : inC σ g) : ¬ st σ g = 0 := by
  unfold st
  by_cases c : 100 ≤ g
  · rw [if_pos c]; exact (h.2 c).1
  · rw [if_neg c]; exact (h.1 (by omega)).1
/-- subscribers and circuits by their numbers -/
theorem fl_subAt {η : sn_FS} (hK : KOk kk σ) {v : Nat} (h : numOk v) : f_Sw_subscriberAt 17 (nI v) (Kap kk σ η) = some (some (va_rf (some (aP (4 * (v / 10) + v % 10)))), Kap kk σ η) := by
  obtain ⟨⟨k1, k2, k3, k4, k5, k6, k7, k8, k9, k10, k11, k12, k13, k14, k15, k16, k17, k18, k19, k20, k21, k22⟩, kE, kF, kP, k4s⟩ := id hK
  obtain ⟨h1, h2⟩ := h
  have o1 : (nI v < 0) = False := eq_false (nI_pos (by omega))
  have o2 : ((60 : Int32) ≤ nI v) = False := eq_false (nI_ge (b := 60) (by omega) (by omega))
  have o3 : ((4 : Int32) ≤ nI (v % 10)) = False := eq_false (nI_ge (b := 4) (by omega) (by omega))
  have o4 : ((1 : Int32) = 0) = False := eq_false (by decide)
  have e1 : (nI (v / 10) * (4 : Int32)) + nI (v % 10) = nI (4 * (v / 10) + v % 10) := by
    have : nI (v / 10) * (4 : Int32) = nI ((v / 10) * 4) := pk_mul _ 4
    rw [this, nI_add, Nat.mul_comm]
  have hp : 4 * (v / 10) + v % 10 < kL 18 := by show _ < 24; omega
  have o5 : (4 * (v / 10) + v % 10 < 24) = True := eq_true (by omega)
  simp only [f_Sw_subscriberAt, o1, o2, t1m v h1, o3, if_false, f_Sw_subscriberAt_23, o4, x_gR, k17, if_true, rr_s17_2, t10 v h1, e1, x_aR hp (show kL 18 ≤ 1000 by decide), k18, rr_a18, o5, f_Sw_subscriberAt_48, r_R]
def cR (σ : sn_FS) (x n i : Nat) : Option Nat := if nb σ x n then some (aC (fl x n i)) else none
theorem fl_cirAt {η : sn_FS} (hK : KOk kk σ) {x n i : Nat} (hx : x < 6) (hn : n < 6) (hi : i < 4) : f_Sw_circuitAt 17 (nI x) (nI n) (nI i) (Kap kk σ η) = some (some (va_rf (cR σ x n i)), Kap kk σ η) := by
  obtain ⟨⟨k1, k2, k3, k4, k5, k6, k7, k8, k9, k10, k11, k12, k13, k14, k15, k16, k17, k18, k19, k20, k21, k22⟩, kE, kF, kP, k4s⟩ := id hK
  have o1 : ∀ a, a < 6 → (nI a < 0) = False := fun a _ => eq_false (nI_pos (by omega))
  have o2 : ∀ a, a < 6 → ((6 : Int32) ≤ nI a) = False := fun a _ => eq_false (nI_ge (b := 6) (by omega) (by omega))
  have o3 : (nI i < (4 : Int32)) = True := eq_true (nI_lt (b := 4) (by omega) (by omega))
  have e1 : (((nI x * (6 : Int32)) + nI n) * (4 : Int32)) + nI i = nI (fl x n i) := by
    have q1 : nI x * (6 : Int32) = nI (x * 6) := pk_mul x 6
    have q2 : nI (x * 6 + n) * (4 : Int32) = nI ((x * 6 + n) * 4) := pk_mul _ 4
    rw [q1, nI_add, q2, nI_add]
    congr 1
    unfold fl; omega
  have hf := fl_lt hx hn hi
  have hp : fl x n i < kL 19 := hf
  obtain ⟨g1, g2, -⟩ := fl_x (x := x) hn hi
  have hcR : (if fl x n i < 144 ∧ nb σ x n = true then some (aC (fl x n i)) else none) = cR σ x n i := by
    unfold cR
    by_cases c : nb σ x n = true
    · rw [if_pos ⟨hf, c⟩, if_pos c]
    · rw [if_neg (fun q => c q.2), if_neg c]
  simp only [f_Sw_circuitAt, o1 x hx, o2 x hx, o1 n hn, o2 n hn, o1 i (by omega), o3, if_false, if_true, x_gR, k17, rr_s17_3, e1, x_aR hp (show kL 19 ≤ 1000 by decide), k19, rr_a19, g1, g2, hcR, r_R]
theorem fl_cirAt_m {η : sn_FS} {x : Nat} (s : Int32) (hx : x < 6) : f_Sw_circuitAt 17 (nI x) (-1) s (Kap kk σ η) = some (some (va_rf none), Kap kk σ η) := by
  have o1 : (nI x < 0) = False := eq_false (nI_pos (by omega))
  have o2 : ((6 : Int32) ≤ nI x) = False := eq_false (nI_ge (b := 6) (by omega) (by omega))
  have o3 : ((-1 : Int32) < 0) = True := eq_true (by decide)
  simp only [f_Sw_circuitAt, o1, o2, o3, if_false, if_true, f_Sw_circuitAt_29, r_R]
/-- the first circuit that is free -/
def fre1 (σ : sn_FS) (c : Nat) : Bool := decide (σ.1 52 c = 0) && decide (σ.1 55 c = 0) && decide (σ.1 56 c = 0)
def fre (σ : sn_FS) (x n : Nat) : Nat → Option Nat
  | 0 => none
  | r + 1 => if fre1 σ (fl x n (4 - (r + 1))) then some (fl x n (4 - (r + 1))) else fre σ x n r
theorem fre_is {x n c : Nat} (hx : x < 6) (hn : n < 6) : ∀ r, r ≤ 4 → fre σ x n r = some c → c < 144 ∧ c / 24 = x ∧ c % 24 / 4 = n ∧ σ.1 52 c = 0
  | 0, _, h => by cases h
  | r + 1, hr, h => by
    unfold fre at h
    split at h
    · rename_i q
      cases h
      obtain ⟨g1, g2, -⟩ := fl_x (x := x) (n := n) (s := 4 - (r + 1)) hn (by omega)
      refine ⟨fl_lt hx hn (by omega), g1, g2, ?_⟩
      unfold fre1 at q
      simp only [Bool.and_eq_true, decide_eq_true_eq] at q
      exact q.1.1
    · exact fre_is hx hn r (by omega) h
/-- the reference takes a circuit -/
def gTk (g len to : Nat) (c : Nat) : sn_G := y_V (g_Md_join (nI g) ((100 : Int32) + nI c)) (y_V (g_Md_becomes (nI c) (1 : Int32) (20 : Int32) (0 : Int32)) (w_I 58 (nI c) (nI to) (q_I 59 (nI c) fun v8 => w_I 59 (nI c) ((v8 + (1 : Int32)) &&& (63 : Int32)) (w_I 60 (nI c) (nI len) (y_V (g_Md_say (nI c) (7 : Int32) (nI to + ((64 : Int32) * nI len))) (z_V))))))
theorem gl_c176 {x n g to e len : Nat} {x6 : Int32} (hx : x < 6) (hn : n < 6) (K : Int32 → Int32 → Int32 → Int32 → Int32 → Int32 → sn_G) (ms : List Msg) : ∀ (r fuel : Nat), r ≤ 4 → r < fuel → g_Md_connect_176 K fuel (nI x) (nI g) (nI to) (nI e) (nI len) x6 (nI n) (nI (4 - r)) (Rt ms σ) = match fre σ x n r with
    | some c => gTk g len to c (Rt ms σ)
    | none => K (nI x) (nI g) (nI to) (nI e) (nI len) (x6 + 1) (Rt ms σ)
  | 0, fuel + 1, _, _ => by
    have o1 : ((4 : Int32) ≤ nI (4 - 0)) = True := eq_true (by decide)
    simp only [g_Md_connect_176, o1, if_true, g_Md_connect_304, fre]
  | r + 1, fuel + 1, hr, hf => by
    have hs : 4 - (r + 1) < 4 := by omega
    have hss : 4 - (r + 1) + 1 = 4 - r := by omega
    have hF : fre σ x n (r + 1) = if fre1 σ (fl x n (4 - (r + 1))) then some (fl x n (4 - (r + 1))) else fre σ x n r := rfl
    have ih := gl_c176 (g := g) (to := to) (e := e) (len := len) (x6 := x6) hx hn K ms r fuel (by omega) (by omega)
    generalize hS : 4 - (r + 1) = s at hs hss hF
    have o1 : ((4 : Int32) ≤ nI s) = False := eq_false (nI_ge (b := 4) hs (by omega))
    have hff := fl_lt hx hn hs
    have d52 : fl x n s < md_len 52 := hff
    have d55 : fl x n s < md_len 55 := hff
    have d56 : fl x n s < md_len 56 := hff
    rw [hF]
    have hnx : g_Md_connect_298 (g_Md_connect_176 K fuel) (nI x) (nI g) (nI to) (nI e) (nI len) x6 (nI n) (nI s) (Rt ms σ) = match fre σ x n r with
      | some c => gTk g len to c (Rt ms σ)
      | none => K (nI x) (nI g) (nI to) (nI e) (nI len) (x6 + 1) (Rt ms σ) := by
      unfold g_Md_connect_298
      rw [nI_1, hss]; exact ih
    unfold g_Md_connect_176
    rw [if_neg (show ¬ (4 : Int32) ≤ nI s by rw [o1]; exact id), y_I_at (gl_flowAt _ x n s), qR d52 (by decide)]
    by_cases c1 : σ.1 52 (fl x n s) = 0
    · rw [if_neg (fun q => q c1), qR d55 (by decide)]
      by_cases c2 : σ.1 55 (fl x n s) = 0
      · rw [if_neg (fun q => q c2), qR d56 (by decide)]
        by_cases c3 : σ.1 56 (fl x n s) = 0
        · have hfr : fre1 σ (fl x n s) = true := by unfold fre1; simp [c1, c2, c3]
          rw [if_pos c3, if_pos hfr]
          rfl
        · have hfr : ¬ fre1 σ (fl x n s) = true := by unfold fre1; simp [c3]
          rw [if_neg c3, if_neg hfr]; exact hnx
      · have hfr : ¬ fre1 σ (fl x n s) = true := by unfold fre1; simp [c2]
        rw [if_pos c2, if_neg hfr]; exact hnx
    · have hfr : ¬ fre1 σ (fl x n s) = true := by unfold fre1; simp [c1]
      rw [if_pos c1, if_neg hfr]; exact hnx
/-- by one of the neighbours told -/
def fk (σ : sn_FS) (k x e g : Nat) : Option Nat := match tldn σ k x e with
  | none => none
  | some n => if ng g = nI n then none else fre σ x n 4
theorem gl_c132 (hP : PlanOk σ) (hT : ToldOk σ) {k x g to e len : Nat} {x6 : Int32} (hk : k = 50 ∨ k = 51) (hx : x < 6) (he : e < 6) (hg : Vn g) (K : Int32 → Int32 → Int32 → Int32 → Int32 → Int32 → sn_G) (ms : List Msg) : g_Md_connect_132 K (nI x) (nI g) (nI to) (nI e) (nI len) x6 (σ.1 k (6 * x + e)) (Rt ms σ) = match fk σ k x e g with
    | some c => gTk g len to c (Rt ms σ)
    | none => K (nI x) (nI g) (nI to) (nI e) (nI len) (x6 + 1) (Rt ms σ) := by
  have hi : 6 * x + e < 36 := by omega
  have hTi := hT (6 * x + e) hi
  have hv : σ.1 k (6 * x + e) = -1 ∨ ∃ n, n < 6 ∧ σ.1 k (6 * x + e) = nI n := by rcases hk with rfl | rfl; exact hTi.1; exact hTi.2
  have hnx : ∀ ρ, g_Md_connect_304 K (nI x) (nI g) (nI to) (nI e) (nI len) x6 ρ = K (nI x) (nI g) (nI to) (nI e) (nI len) (x6 + 1) ρ := fun ρ => rfl
  rcases hv with q | ⟨n, hn, q⟩
  · have ht : tldn σ k x e = none := by unfold tldn tld; rw [if_pos q]; rfl
    unfold fk g_Md_connect_132
    rw [ht, q, if_pos rfl]
    exact hnx _
  · have hm : ¬ nI n = (-1 : Int32) := nI_m1 (by omega)
    have hcl : (nI n).toNatClampNeg = n := nI_clamp (by omega)
    have ht : tldn σ k x e = if nb σ x n then some n else none := by unfold tldn tld; rw [q, if_neg hm, hcl]; rfl
    have hnb := gl_areNb ((Rt_SP ms σ).plan hP) hx hn
    rw [(Rt_SP ms σ).nbE] at hnb
    unfold fk g_Md_connect_132
    rw [ht, q, if_neg hm, y_I_at hnb]
    by_cases cn : nb σ x n = true
    · rw [if_pos cn, if_pos cn, if_neg (by decide)]
      have h176 := gl_c176 (σ := σ) (g := g) (to := to) (e := e) (len := len) (x6 := x6) hx hn K ms 4 sn_fuel (by omega) (by unfold sn_fuel; omega)
      have h173 : g_Md_connect_173 K (nI x) (nI g) (nI to) (nI e) (nI len) x6 (nI n) (Rt ms σ) = _ := h176
      by_cases cg : g < 100
      · have hng : ¬ ng g = nI n := by unfold ng; rw [if_neg (by omega)]; exact fun z => hm z.symm
        rw [if_pos (hg.lt.mpr cg), h173]
        simp only [hng, if_false]
      · rw [if_neg (fun z => cg (hg.lt.mp z)), Vn.sub (by omega), cn4 (g - 100) (by unfold Vn at hg; omega)]
        have hng : ng g = nI ((g - 100) % 24 / 4) := by unfold ng; rw [if_pos (by omega)]
        by_cases ce : nI ((g - 100) % 24 / 4) = nI n
        · rw [if_neg (fun z => z ce), hng]
          simp only [ce, if_true]
          exact hnx _
        · rw [if_pos ce, h173, hng]
          simp only [ce, if_false]
    · rw [if_neg cn, if_neg cn, if_pos rfl]
      exact hnx _
theorem gl_c87 (hP : PlanOk σ) (hT : ToldOk σ) {x g to e len : Nat} (hx : x < 6) (he : e < 6) (hg : Vn g) (hl : len < 100) (ms : List Msg) : g_Md_connect_82 (nI x) (nI g) (nI to) (nI e) (nI len) (Rt ms σ) = if 7 ≤ len then g_Md_connect_310 (nI g) (Rt ms σ) else match (fk σ 50 x e g).or (fk σ 51 x e g) with
    | some c => gTk g len to c (Rt ms σ)
    | none => g_Md_connect_310 (nI g) (Rt ms σ) := by
  obtain ⟨u, hu⟩ : ∃ u, sn_fuel = u + 1 + 1 + 1 := ⟨sn_fuel - 3, by unfold sn_fuel; omega⟩
  have hi : 6 * x + e < 36 := by omega
  have d50 : 6 * x + e < md_len 50 := hi
  have d51 : 6 * x + e < md_len 51 := hi
  have ex6 : ((6 : Int32) * nI x) + nI e = nI (6 * x + e) := by
    have : (6 : Int32) * nI x = nI (6 * x) := pk_mul 6 x
    rw [this, nI_add]
  unfold g_Md_connect_82
  rw [hu]
  by_cases c7 : 7 ≤ len
  · rw [if_pos c7]
    have o7 : ((7 : Int32) ≤ nI len) := (seven_of hl).mpr c7
    have z2 : ¬ (2 : Int32) ≤ 0 := by decide
    unfold g_Md_connect_87
    rw [if_neg z2, if_pos o7]
  · have o7 : ¬ (7 : Int32) ≤ nI len := fun q => c7 ((seven_of hl).mp q)
    rw [if_neg c7]
    have s0 : g_Md_connect_87 (u + 1 + 1 + 1) (nI x) (nI g) (nI to) (nI e) (nI len) 0 (Rt ms σ) = g_Md_connect_132 (g_Md_connect_87 (u + 1 + 1)) (nI x) (nI g) (nI to) (nI e) (nI len) 0 (σ.1 50 (6 * x + e)) (Rt ms σ) := by
      conv => lhs; unfold g_Md_connect_87
      rw [if_neg (by decide), if_neg o7, if_neg (fun q => q rfl), ex6, qR d50 (by decide)]
    have s1 : g_Md_connect_87 (u + 1 + 1) (nI x) (nI g) (nI to) (nI e) (nI len) (0 + 1) (Rt ms σ) = g_Md_connect_132 (g_Md_connect_87 (u + 1)) (nI x) (nI g) (nI to) (nI e) (nI len) (0 + 1) (σ.1 51 (6 * x + e)) (Rt ms σ) := by
      conv => lhs; unfold g_Md_connect_87
      rw [if_neg (by decide), if_neg o7, if_pos (by decide), ex6, qR d51 (by decide)]
    have s2 : g_Md_connect_87 (u + 1) (nI x) (nI g) (nI to) (nI e) (nI len) (0 + 1 + 1) (Rt ms σ) = g_Md_connect_310 (nI g) (Rt ms σ) := by
      conv => lhs; unfold g_Md_connect_87
      rw [if_pos (by decide)]
    rw [s0, gl_c132 hP hT (Or.inl rfl) hx he hg]
    cases h0 : fk σ 50 x e g with
    | some c => rfl
    | none =>
      show g_Md_connect_87 (u + 1 + 1) (nI x) (nI g) (nI to) (nI e) (nI len) (0 + 1) (Rt ms σ) = _
      rw [s1, gl_c132 hP hT (Or.inr rfl) hx he hg]
      cases h1 : fk σ 51 x e g with
      | some c => rfl
      | none => exact s2
