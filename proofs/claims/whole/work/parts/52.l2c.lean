/-! LAYER 2: messages: kind, from, to, flow, two numbers, hops; as words of the reference and of the class -/
abbrev Msg : Type := Nat × Nat × Nat × Nat × Nat × Nat × Nat
abbrev mK (m : Msg) : Nat := m.1
abbrev mF (m : Msg) : Nat := m.2.1
abbrev mT (m : Msg) : Nat := m.2.2.1
abbrev mL (m : Msg) : Nat := m.2.2.2.1
abbrev mA (m : Msg) : Nat := m.2.2.2.2.1
abbrev mB (m : Msg) : Nat := m.2.2.2.2.2.1
abbrev mH (m : Msg) : Nat := m.2.2.2.2.2.2
def MOk (m : Msg) : Prop := mK m < 16 ∧ mF m < 6 ∧ mT m < 6 ∧ mL m < 4 ∧ mA m < 256 ∧ mB m < 65536 ∧ mH m < 9
def eR (m : Msg) : Nat := mK m + 16 * mF m + 256 * mT m + 4096 * mL m + 65536 * mA m + 16777216 * mB m + 1099511627776 * mH m
def eC (m : Msg) : Nat := mK m + 16 * mF m + 128 * mT m + 1024 * mL m + 4096 * mA m + 1048576 * mB m + 68719476736 * mH m
def wR (m : Msg) : Int64 := lN (eR m)
def wC (m : Msg) : Int64 := lN (eC m)
theorem eR_lt {m : Msg} (h : MOk m) : eR m < 2 ^ 50 := by obtain ⟨h1, h2, h3, h4, h5, h6, h7⟩ := h; unfold eR; omega
theorem eC_lt {m : Msg} (h : MOk m) : eC m < 2 ^ 50 := by obtain ⟨h1, h2, h3, h4, h5, h6, h7⟩ := h; unfold eC; omega
theorem shr_at {n k : Nat} (hn : n < 2 ^ 62) (c : Int32) (hc : ((c.toInt64 &&& 63).toBitVec.smod 64).toNat = k) : lN n >>> (c.toInt64 &&& 63) = lN (n / 2 ^ k) := pf_shr hc hn
theorem msk_at {n : Nat} (hn : n < 2 ^ 64) (c : Int64) (k : Nat) (hk : k < 64) (hc : c = lN (2 ^ k - 1)) : lN n &&& c = lN (n % 2 ^ k) := by rw [hc]; exact wb_mask hn hk
theorem gl_kindOf {m : Msg} (h : MOk m) (σ : sn_FS) : g_Md_kindOf (wR m) σ = some (some (.int (nI (mK m))), σ) := by
  have h0 := eR_lt h
  obtain ⟨h1, h2, h3, h4, h5, h6, h7⟩ := h
  simp only [g_Md_kindOf, z_I, wR]
  rw [msk_at (by omega) 15 4 (by decide) rfl, lN_i]
  congr 5; unfold eR; omega
theorem gl_fromOf {m : Msg} (h : MOk m) (σ : sn_FS) : g_Md_fromOf (wR m) σ = some (some (.int (nI (mF m))), σ) := by
  have h0 := eR_lt h
  obtain ⟨h1, h2, h3, h4, h5, h6, h7⟩ := h
  simp only [g_Md_fromOf, z_I, wR]
  rw [shr_at (by omega) 4 (k := 4) (by decide), msk_at (Nat.lt_of_le_of_lt (Nat.div_le_self _ _) (by omega)) 15 4 (by decide) rfl, lN_i]
  congr 5; unfold eR; omega
theorem gl_toOf {m : Msg} (h : MOk m) (σ : sn_FS) : g_Md_toOf (wR m) σ = some (some (.int (nI (mT m))), σ) := by
  have h0 := eR_lt h
  obtain ⟨h1, h2, h3, h4, h5, h6, h7⟩ := h
  simp only [g_Md_toOf, z_I, wR]
  rw [shr_at (by omega) 8 (k := 8) (by decide), msk_at (Nat.lt_of_le_of_lt (Nat.div_le_self _ _) (by omega)) 15 4 (by decide) rfl, lN_i]
  congr 5; unfold eR; omega
theorem gl_flowOf {m : Msg} (h : MOk m) (σ : sn_FS) : g_Md_flowOf (wR m) σ = some (some (.int (nI (mL m))), σ) := by
  have h0 := eR_lt h
  obtain ⟨h1, h2, h3, h4, h5, h6, h7⟩ := h
  simp only [g_Md_flowOf, z_I, wR]
  rw [shr_at (by omega) 12 (k := 12) (by decide), msk_at (Nat.lt_of_le_of_lt (Nat.div_le_self _ _) (by omega)) 15 4 (by decide) rfl, lN_i]
  congr 5; unfold eR; omega
theorem gl_oneOf {m : Msg} (h : MOk m) (σ : sn_FS) : g_Md_oneOf (wR m) σ = some (some (.int (nI (mA m))), σ) := by
  have h0 := eR_lt h
  obtain ⟨h1, h2, h3, h4, h5, h6, h7⟩ := h
  simp only [g_Md_oneOf, z_I, wR]
  rw [shr_at (by omega) 16 (k := 16) (by decide), msk_at (Nat.lt_of_le_of_lt (Nat.div_le_self _ _) (by omega)) 255 8 (by decide) rfl, lN_i]
  congr 5; unfold eR; omega
theorem gl_twoOf {m : Msg} (h : MOk m) (σ : sn_FS) : g_Md_twoOf (wR m) σ = some (some (.int (nI (mB m))), σ) := by
  have h0 := eR_lt h
  obtain ⟨h1, h2, h3, h4, h5, h6, h7⟩ := h
  simp only [g_Md_twoOf, z_I, wR]
  rw [shr_at (by omega) 24 (k := 24) (by decide), msk_at (Nat.lt_of_le_of_lt (Nat.div_le_self _ _) (by omega)) 65535 16 (by decide) rfl, lN_i]
  congr 5; unfold eR; omega
theorem gl_hopsOf {m : Msg} (h : MOk m) (σ : sn_FS) : g_Md_hopsOf (wR m) σ = some (some (.int (nI (mH m))), σ) := by
  have h0 := eR_lt h
  obtain ⟨h1, h2, h3, h4, h5, h6, h7⟩ := h
  simp only [g_Md_hopsOf, z_I, wR]
  rw [shr_at (by omega) 40 (k := 40) (by decide), lN_i]
  congr 5; unfold eR; omega
theorem shl_at (n : Nat) (c : Int32) (k : Nat) (hk : k < 64) (hc : c = nI k) : lN n <<< (c.toInt64 &&& 63) = lN (n * 2 ^ k) := by rw [hc]; exact wb_shl n hk
theorem or_at {k a b : Nat} (ha : a < 2 ^ k) (h : a + b * 2 ^ k < 2 ^ 64) : lN a ||| lN (b * 2 ^ k) = lN (a + b * 2 ^ k) := g_or' rfl ha h
theorem gl_message {k f t s a b : Nat} (h : MOk (k, f, t, s, a, b, 0)) (σ : sn_FS) : g_Md_message (nI k) (nI f) (nI t) (nI s) (nI a) (nI b) σ = some (some (.long (wR (k, f, t, s, a, b, 0))), σ) := by
  obtain ⟨h1, h2, h3, h4, h5, h6, h7⟩ := h
  dsimp only [mK, mF, mT, mL, mA, mB, mH] at h1 h2 h3 h4 h5 h6 h7
  simp only [g_Md_message, z_J]
  rw [nI_l (by omega : k < 2 ^ 31), nI_l (by omega : f < 2 ^ 31), nI_l (by omega : t < 2 ^ 31), nI_l (by omega : s < 2 ^ 31), nI_l (by omega : a < 2 ^ 31), nI_l (by omega : b < 2 ^ 31)]
  rw [shl_at f 4 4 (by decide) rfl, shl_at t 8 8 (by decide) rfl, shl_at s 12 12 (by decide) rfl, shl_at a 16 16 (by decide) rfl, shl_at b 24 24 (by decide) rfl]
  rw [or_at (k := 4) (by omega) (by omega), or_at (k := 8) (by omega) (by omega), or_at (k := 12) (by omega) (by omega), or_at (k := 16) (by omega) (by omega), or_at (k := 24) (by omega) (by omega)]
  congr 4
  unfold wR eR
  congr 1
  dsimp only [mK, mF, mT, mL, mA, mB, mH]
  omega
def hop (m : Msg) : Msg := (mK m, mF m, mT m, mL m, mA m, mB m, mH m + 1)
theorem wR_hop (m : Msg) : wR m + (1099511627776 : Int64) = wR (hop m) := by
  have e : (1099511627776 : Int64) = lN 1099511627776 := rfl
  rw [e]
  unfold wR
  rw [lN_add]
  refine congrArg lN ?_
  unfold eR hop
  dsimp only [mK, mF, mT, mL, mA, mB, mH]
  omega
theorem wC_hop (m : Msg) : wC m + (68719476736 : Int64) = wC (hop m) := by
  have e : (68719476736 : Int64) = lN 68719476736 := rfl
  rw [e]
  unfold wC
  rw [lN_add]
  refine congrArg lN ?_
  unfold eC hop
  dsimp only [mK, mF, mT, mL, mA, mB, mH]
  omega
/-- the class's words -/
theorem mi_at {n : Nat} (hn : n < 2 ^ 64) (c : Int32) (k : Nat) (hk : k ≤ 30) (hc : c.toBitVec.toNat = 2 ^ k - 1) : (lN n).toInt32 &&& c = nI (n % 2 ^ k) := by
  rw [lN_i, pk_and _ k hc]
  congr 1
  show (BitVec.ofNat 32 n).toNat % 2 ^ k = n % 2 ^ k
  rw [BitVec.toNat_ofNat, Nat.mod_mod_of_dvd]
  exact Nat.pow_dvd_pow 2 (by omega)
theorem fl_kind {m : Msg} (h : MOk m) (μ : sn_Mem) : f_Ms_kind (wC m) μ = some (some (.int (nI (mK m))), μ) := by
  have h0 := eC_lt h
  obtain ⟨h1, h2, h3, h4, h5, h6, h7⟩ := h
  simp only [f_Ms_kind, r_I, wC]
  rw [mi_at (by omega) 15 4 (by decide) (by decide)]
  congr 5; unfold eC; omega
theorem fl_from {m : Msg} (h : MOk m) (μ : sn_Mem) : f_Ms_from (wC m) μ = some (some (.int (nI (mF m))), μ) := by
  have h0 := eC_lt h
  obtain ⟨h1, h2, h3, h4, h5, h6, h7⟩ := h
  simp only [f_Ms_from, r_I, wC]
  rw [shr_at (by omega) 4 (k := 4) (by decide), mi_at (Nat.lt_of_le_of_lt (Nat.div_le_self _ _) (by omega)) 7 3 (by decide) (by decide)]
  congr 5; unfold eC; omega
theorem fl_to {m : Msg} (h : MOk m) (μ : sn_Mem) : f_Ms_to (wC m) μ = some (some (.int (nI (mT m))), μ) := by
  have h0 := eC_lt h
  obtain ⟨h1, h2, h3, h4, h5, h6, h7⟩ := h
  simp only [f_Ms_to, r_I, wC]
  rw [shr_at (by omega) 7 (k := 7) (by decide), mi_at (Nat.lt_of_le_of_lt (Nat.div_le_self _ _) (by omega)) 7 3 (by decide) (by decide)]
  congr 5; unfold eC; omega
theorem fl_lane {m : Msg} (h : MOk m) (μ : sn_Mem) : f_Ms_lane (wC m) μ = some (some (.int (nI (mL m))), μ) := by
  have h0 := eC_lt h
  obtain ⟨h1, h2, h3, h4, h5, h6, h7⟩ := h
  simp only [f_Ms_lane, r_I, wC]
  rw [shr_at (by omega) 10 (k := 10) (by decide), mi_at (Nat.lt_of_le_of_lt (Nat.div_le_self _ _) (by omega)) 3 2 (by decide) (by decide)]
  congr 5; unfold eC; omega
theorem fl_first {m : Msg} (h : MOk m) (μ : sn_Mem) : f_Ms_first (wC m) μ = some (some (.int (nI (mA m))), μ) := by
  have h0 := eC_lt h
  obtain ⟨h1, h2, h3, h4, h5, h6, h7⟩ := h
  simp only [f_Ms_first, r_I, wC]
  rw [shr_at (by omega) 12 (k := 12) (by decide), mi_at (Nat.lt_of_le_of_lt (Nat.div_le_self _ _) (by omega)) 255 8 (by decide) (by decide)]
  congr 5; unfold eC; omega
theorem fl_second {m : Msg} (h : MOk m) (μ : sn_Mem) : f_Ms_second (wC m) μ = some (some (.int (nI (mB m))), μ) := by
  have h0 := eC_lt h
  obtain ⟨h1, h2, h3, h4, h5, h6, h7⟩ := h
  simp only [f_Ms_second, r_I, wC]
  rw [shr_at (by omega) 20 (k := 20) (by decide), mi_at (Nat.lt_of_le_of_lt (Nat.div_le_self _ _) (by omega)) 65535 16 (by decide) (by decide)]
  congr 5; unfold eC; omega
theorem fl_hops {m : Msg} (h : MOk m) (μ : sn_Mem) : f_Ms_hops (wC m) μ = some (some (.int (nI (mH m))), μ) := by
  have h0 := eC_lt h
  obtain ⟨h1, h2, h3, h4, h5, h6, h7⟩ := h
  simp only [f_Ms_hops, r_I, wC]
  rw [shr_at (by omega) 36 (k := 36) (by decide), mi_at (Nat.lt_of_le_of_lt (Nat.div_le_self _ _) (by omega)) 15 4 (by decide) (by decide)]
  congr 5; unfold eC; omega
theorem fl_hopped (m : Msg) (μ : sn_Mem) : f_Ms_hopped (wC m) μ = some (some (.long (wC (hop m))), μ) := by
  simp only [f_Ms_hopped, r_J, wC_hop]
theorem shi_at {n k : Nat} (c : Int32) (hc : ((c &&& 31).toBitVec.smod 32).toNat = k) (h : n * 2 ^ k < 2 ^ 31) : nI n <<< (c &&& 31) = nI (n * 2 ^ k) := pk_shlN _ k hc (by omega)
theorem fl_of {k f t s a b : Nat} (h : MOk (k, f, t, s, a, b, 0)) (μ : sn_Mem) : f_Ms_of (nI k) (nI f) (nI t) (nI s) (nI a) (nI b) μ = some (some (.long (wC (k, f, t, s, a, b, 0))), μ) := by
  obtain ⟨h1, h2, h3, h4, h5, h6, h7⟩ := h
  dsimp only [mK, mF, mT, mL, mA, mB, mH] at h1 h2 h3 h4 h5 h6 h7
  simp only [f_Ms_of, r_J, n_J]
  rw [pk_andN (by omega : a < 2 ^ 32) 8 (by decide), pk_andN (by omega : b < 2 ^ 32) 16 (by decide), Nat.mod_eq_of_lt h5, Nat.mod_eq_of_lt h6]
  rw [shi_at (n := f) 4 (k := 4) (by decide) (by omega), shi_at (n := t) 7 (k := 7) (by decide) (by omega), shi_at (n := s) 10 (k := 10) (by decide) (by omega)]
  rw [nI_l (by omega : k < 2 ^ 31), nI_l (by omega : f * 2 ^ 4 < 2 ^ 31), nI_l (by omega : t * 2 ^ 7 < 2 ^ 31), nI_l (by omega : s * 2 ^ 10 < 2 ^ 31), nI_l (by omega : a < 2 ^ 31), nI_l (by omega : b < 2 ^ 31)]
  rw [shl_at a 12 12 (by decide) rfl, shl_at b 20 20 (by decide) rfl]
  have e1 : lN (a * 2 ^ 12) ||| lN (b * 2 ^ 20) = lN (a * 2 ^ 12 + b * 2 ^ 20) := or_at (k := 20) (by omega) (by omega)
  have e2 : lN (a * 2 ^ 12 + b * 2 ^ 20) ||| lN k = lN ((a + b * 2 ^ 8) * 2 ^ 12 + k) := by
    rw [show a * 2 ^ 12 + b * 2 ^ 20 = (a + b * 2 ^ 8) * 2 ^ 12 by omega]
    exact g_or (k := 12) rfl (by omega) (by omega)
  have e3 : lN ((a + b * 2 ^ 8) * 2 ^ 12 + k) ||| lN (f * 2 ^ 4) = lN ((a + b * 2 ^ 8) * 2 ^ 12 + k + f * 2 ^ 4) := by
    have hor : ∀ p q r : Nat, p < 2 ^ 64 → q < 2 ^ 64 → p ||| q = r → lN p ||| lN q = lN r := fun p q r hp hq hr => by rw [wb_or hp hq, hr]
    refine hor _ _ _ (by omega) (by omega) ?_
    have := Nat.two_pow_add_eq_or_of_lt (i := 12) (b := k) (by omega) (a + b * 2 ^ 8)
    have h4' := Nat.two_pow_add_eq_or_of_lt (i := 12) (b := k + f * 2 ^ 4) (by omega) (a + b * 2 ^ 8)
    have h5' := Nat.two_pow_add_eq_or_of_lt (i := 4) (b := k) (by omega) f
    rw [show (a + b * 2 ^ 8) * 2 ^ 12 + k = 2 ^ 12 * (a + b * 2 ^ 8) + k by omega, this, Nat.or_assoc, show k ||| f * 2 ^ 4 = k + f * 2 ^ 4 by rw [Nat.or_comm, show f * 2 ^ 4 = 2 ^ 4 * f by omega, ← h5']; omega, ← h4']
    omega
  have e4 : lN ((a + b * 2 ^ 8) * 2 ^ 12 + k + f * 2 ^ 4) ||| lN (t * 2 ^ 7) = lN ((a + b * 2 ^ 8) * 2 ^ 12 + k + f * 2 ^ 4 + t * 2 ^ 7) := by
    have hor : ∀ p q r : Nat, p < 2 ^ 64 → q < 2 ^ 64 → p ||| q = r → lN p ||| lN q = lN r := fun p q r hp hq hr => by rw [wb_or hp hq, hr]
    refine hor _ _ _ (by omega) (by omega) ?_
    have g1 := Nat.two_pow_add_eq_or_of_lt (i := 12) (b := k + f * 2 ^ 4) (by omega) (a + b * 2 ^ 8)
    have g2 := Nat.two_pow_add_eq_or_of_lt (i := 12) (b := k + f * 2 ^ 4 + t * 2 ^ 7) (by omega) (a + b * 2 ^ 8)
    have g3 := Nat.two_pow_add_eq_or_of_lt (i := 7) (b := k + f * 2 ^ 4) (by omega) t
    rw [show (a + b * 2 ^ 8) * 2 ^ 12 + k + f * 2 ^ 4 = 2 ^ 12 * (a + b * 2 ^ 8) + (k + f * 2 ^ 4) by omega, g1, Nat.or_assoc, show (k + f * 2 ^ 4) ||| t * 2 ^ 7 = k + f * 2 ^ 4 + t * 2 ^ 7 by rw [Nat.or_comm, show t * 2 ^ 7 = 2 ^ 7 * t by omega, ← g3]; omega, ← g2]
    omega
  have e5 : lN ((a + b * 2 ^ 8) * 2 ^ 12 + k + f * 2 ^ 4 + t * 2 ^ 7) ||| lN (s * 2 ^ 10) = lN ((a + b * 2 ^ 8) * 2 ^ 12 + k + f * 2 ^ 4 + t * 2 ^ 7 + s * 2 ^ 10) := by
    have hor : ∀ p q r : Nat, p < 2 ^ 64 → q < 2 ^ 64 → p ||| q = r → lN p ||| lN q = lN r := fun p q r hp hq hr => by rw [wb_or hp hq, hr]
    refine hor _ _ _ (by omega) (by omega) ?_
    have g1 := Nat.two_pow_add_eq_or_of_lt (i := 12) (b := k + f * 2 ^ 4 + t * 2 ^ 7) (by omega) (a + b * 2 ^ 8)
    have g2 := Nat.two_pow_add_eq_or_of_lt (i := 12) (b := k + f * 2 ^ 4 + t * 2 ^ 7 + s * 2 ^ 10) (by omega) (a + b * 2 ^ 8)
    have g3 := Nat.two_pow_add_eq_or_of_lt (i := 10) (b := k + f * 2 ^ 4 + t * 2 ^ 7) (by omega) s
    rw [show (a + b * 2 ^ 8) * 2 ^ 12 + k + f * 2 ^ 4 + t * 2 ^ 7 = 2 ^ 12 * (a + b * 2 ^ 8) + (k + f * 2 ^ 4 + t * 2 ^ 7) by omega, g1, Nat.or_assoc, show (k + f * 2 ^ 4 + t * 2 ^ 7) ||| s * 2 ^ 10 = k + f * 2 ^ 4 + t * 2 ^ 7 + s * 2 ^ 10 by rw [Nat.or_comm, show s * 2 ^ 10 = 2 ^ 10 * s by omega, ← g3]; omega, ← g2]
    omega
  rw [e1, e2, e3, e4, e5]
  congr 4
  unfold wC eC
  congr 1
  dsimp only [mK, mF, mT, mL, mA, mB, mH]
  omega
