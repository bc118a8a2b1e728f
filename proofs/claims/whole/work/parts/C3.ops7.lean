/-! LAYER 2: octets -/
variable {kk : Nat → Nat} {σ η : sn_FS}
theorem nn1 {p : Prop} (h : p) : ¬ ¬ p := fun q => q h
theorem and1 (x : Int32) : x &&& 1 = if x.toBitVec.getLsbD 0 then 1 else 0 := by
  apply Int32.toBitVec_inj.mp
  rw [Int32.toBitVec_and]
  have h1 : (1 : Int32).toBitVec = 1#32 := rfl
  rw [h1, BitVec.and_one_eq_setWidth_ofBool_getLsbD]
  cases x.toBitVec.getLsbD 0 <;> rfl
theorem xor1' (a c : Int32) : ((a ^^^ c) &&& 1 = 1) ↔ ¬ (a &&& 1 = c &&& 1) := by
  rw [and1 (a ^^^ c), and1 a, and1 c, Int32.toBitVec_xor, BitVec.getLsbD_xor]
  cases a.toBitVec.getLsbD 0 <;> cases c.toBitVec.getLsbD 0 <;> decide
/-- the check -/
def crs (R : Nat → Int32) (i : Nat) (c : Int32) : Int32 := if (R (i / 8) >>> nI (i % 8)) &&& 1 = c &&& 1 then c >>> ((1 : Int32) &&& 31) else (c >>> ((1 : Int32) &&& 31)) ^^^ 33800
def crc (R : Nat → Int32) : Nat → Nat → Int32 → Int32
  | 0, _, c => c
  | d + 1, i, c => crc R d (i + 1) (crs R i c)
theorem crc_app (R : Nat → Int32) : ∀ (a b i : Nat) (c : Int32), crc R (a + b) i c = crc R b (i + a) (crc R a i c)
  | 0, b, i, c => by rw [Nat.zero_add]; rfl
  | a + 1, b, i, c => by
    have : a + 1 + b = (a + b) + 1 := by omega
    rw [this]
    show crc R (a + b) (i + 1) _ = crc R b (i + (a + 1)) (crc R a (i + 1) _)
    rw [crc_app R a b, show i + 1 + a = i + (a + 1) by omega]
theorem crc_eq {R R' : Nat → Int32} : ∀ (d i : Nat) (c : Int32), (∀ j, i ≤ j → j < i + d → R (j / 8) = R' (j / 8)) → crc R d i c = crc R' d i c
  | 0, i, c, h => rfl
  | d + 1, i, c, h => by
    have e : crs R i c = crs R' i c := by unfold crs; rw [h i (by omega) (by omega)]
    show crc R d (i + 1) (crs R i c) = crc R' d (i + 1) (crs R' i c)
    rw [e]
    exact crc_eq d (i + 1) _ (fun j h1 h2 => h j (by omega) (by omega))
theorem m31 : ∀ b, b < 8 → nI b &&& 31 = nI b := by decide +kernel
theorem i8 : ∀ i, i < 128 → nI i / (8 : Int32) = nI (i / 8) ∧ nI i % (8 : Int32) = nI (i % 8) := by decide +kernel
theorem gl_48 {R : Nat → Int32} {e x2 n k : Nat} {o : Int32} (ho : o = R k) (K : Int32 → Int32 → Int32 → Int32 → Int32 → sn_G) : ∀ (r fuel : Nat) (c : Int32), r ≤ 8 → r < fuel → g_Md_octetOf_48 K fuel (nI e) (nI x2) (nI n) c (nI k) o (nI (8 - r)) σ = K (nI e) (nI x2) (nI n) (crc R r (8 * k + (8 - r)) c) (nI (k + 1)) σ
  | 0, fuel + 1, c, _, _ => by
    rw [g_Md_octetOf_48, if_pos (by decide), nI_1]; rfl
  | r + 1, fuel + 1, c, hr, hf => by
    have hb : 8 - (r + 1) < 8 := by omega
    have e1 : 8 - (r + 1) + 1 = 8 - r := by omega
    have ed : (8 * k + (8 - (r + 1))) / 8 = k := by omega
    have em : (8 * k + (8 - (r + 1))) % 8 = 8 - (r + 1) := by omega
    have hle : ¬ (8 : Int32) ≤ nI (8 - (r + 1)) := fun q => by
      have := (nI_leI (a := 8) (b := 8 - (r + 1)) (by omega) (by omega)).mp q
      omega
    have hc : crs R (8 * k + (8 - (r + 1))) c = if ((o >>> nI (8 - (r + 1))) ^^^ c) &&& 1 = 1 then (c >>> ((1 : Int32) &&& 31)) ^^^ 33800 else c >>> ((1 : Int32) &&& 31) := by
      unfold crs
      rw [ed, em, ← ho]
      by_cases q : (o >>> nI (8 - (r + 1))) &&& 1 = c &&& 1
      · rw [if_pos q, if_neg (fun z => (xor1' _ _).mp z q)]
      · rw [if_neg q, if_pos ((xor1' _ _).mpr q)]
    have ih := fun c => gl_48 (x2 := x2) (n := n) (e := e) ho K r fuel c (by omega) (by omega)
    have hi : 8 * k + (8 - (r + 1)) + 1 = 8 * k + (8 - r) := by omega
    rw [g_Md_octetOf_48, if_neg hle, m31 _ hb]
    show _ = K (nI e) (nI x2) (nI n) (crc R r (8 * k + (8 - (r + 1)) + 1) (crs R (8 * k + (8 - (r + 1))) c)) (nI (k + 1)) σ
    rw [hc, hi]
    unfold g_Md_octetOf_84
    rw [nI_1, e1]
    by_cases q : ((o >>> nI (8 - (r + 1))) ^^^ c) &&& 1 = 1
    · rw [if_neg (fun z => z q), if_pos q]; exact ih _
    · rw [if_pos q, if_neg q]; exact ih _
/-- octets of a unit -/
def LB (m : Msg) (j : Nat) : Int32 := (((nI (mT m) ||| (nI (mF m) <<< ((14 : Int32) &&& 31))) ||| (nI (mL m) <<< ((28 : Int32) &&& 31))) >>> (((8 : Int32) * nI j) &&& 31)) &&& (255 : Int32)
theorem lb_d : ∀ T, T < 6 → ∀ F, F < 6 → ∀ L, L < 4 → ∀ j, j < 4 → ((Int32.toUInt32 ((nI T + (nI F <<< ((14 : Int32) &&& 31))) + (nI L <<< ((28 : Int32) &&& 31))) >>> (Int32.toUInt32 ((8 : Int32) * (nI (j + 4) - (4 : Int32))) &&& Int32.toUInt32 31)).toInt32 &&& (255 : Int32)) = (((nI T ||| (nI F <<< ((14 : Int32) &&& 31))) ||| (nI L <<< ((28 : Int32) &&& 31))) >>> (((8 : Int32) * nI j) &&& 31)) &&& (255 : Int32) := by decide +kernel
def PL (u : Nat) (v39 v33 v34 v31 v32 : Int32) (m : Msg) (i : Nat) : Int32 :=
  if u < 4 then (if i < 2 then 255 else if i = 2 then 1 else if u < 2 then nI u else nI u + (4 : Int32) * v39)
  else if i = 0 then v33 + (128 : Int32) * v34 else if i = 1 then v31 + (128 : Int32) * v32 else if i = 2 then (if u = 4 then 0 else 8)
  else if i = 3 then nI (mK m) else if i < 8 then LB m (i - 4) else if i = 8 then nI (mA m) else if i = 9 then nI (mB m) &&& (255 : Int32) else nI (mH m)
def no (u : Nat) : Nat := if u = 5 then 13 else if u = 4 then 5 else 6
theorem no_ge (u : Nat) : 5 ≤ no u ∧ no u ≤ 13 := by
  unfold no
  split
  · omega
  · split <;> omega
abbrev PS (σ : sn_FS) (e u : Nat) (m : Msg) : Nat → Int32 := PL u (σ.1 39 e) (σ.1 33 e) (σ.1 34 e) (σ.1 31 e) (σ.1 32 e) m
def UO (σ : sn_FS) (e u : Nat) (m : Msg) : Prop := e < 20 ∧ u ≤ 5 ∧ σ.1 30 e = nI u ∧ (u = 5 → MOk m ∧ σ.2 35 e = wR m)
theorem gl_octets {e u : Nat} {m : Msg} (h : UO σ e u m) : g_Md_octets (nI e) σ = some (some (.int (nI (no u))), σ) := by
  obtain ⟨he, hu, eu, -⟩ := h
  have d30 : e < md_len 30 := he
  unfold g_Md_octets g_Md_octets_31 no
  rw [q_I_at d30, eu]
  have n5 : (nI u = (5 : Int32)) ↔ u = 5 := nI_eq (a := u) (b := 5) (by omega) (by omega)
  have n4 : (nI u = (4 : Int32)) ↔ u = 4 := nI_eq (a := u) (b := 4) (by omega) (by omega)
  by_cases c5 : u = 5
  · rw [if_neg (nn1 (n5.mpr c5)), if_pos c5]; rfl
  · rw [if_pos ((not_congr n5).mpr c5), q_I_at d30, eu, if_neg c5]
    by_cases c4 : u = 4
    · rw [if_neg (nn1 (n4.mpr c4)), if_pos c4]; rfl
    · rw [if_pos ((not_congr n4).mpr c4), if_neg c4]; rfl
theorem gl_plain {e u i : Nat} {m : Msg} (h : UO σ e u m) (hi : i < no u - 2) : g_Md_plain (nI e) (nI i) σ = some (some (.int (PS σ e u m i)), σ) := by
  obtain ⟨he, hu, eu, hm⟩ := h
  have d30 : e < md_len 30 := he
  have d31 : e < md_len 31 := he
  have d32 : e < md_len 32 := he
  have d33 : e < md_len 33 := he
  have d34 : e < md_len 34 := he
  have d35 : e < md_len 35 := he
  have d39 : e < md_len 39 := he
  have hi13 : i < 13 := by have := no_ge u; omega
  have n0 : (nI i = (0 : Int32)) ↔ i = 0 := nI_eq (a := i) (b := 0) (by omega) (by omega)
  have n1 : (nI i = (1 : Int32)) ↔ i = 1 := nI_eq (a := i) (b := 1) (by omega) (by omega)
  have n2 : (nI i = (2 : Int32)) ↔ i = 2 := nI_eq (a := i) (b := 2) (by omega) (by omega)
  have n3 : (nI i = (3 : Int32)) ↔ i = 3 := nI_eq (a := i) (b := 3) (by omega) (by omega)
  have n8 : (nI i = (8 : Int32)) ↔ i = 8 := nI_eq (a := i) (b := 8) (by omega) (by omega)
  have n9 : (nI i = (9 : Int32)) ↔ i = 9 := nI_eq (a := i) (b := 9) (by omega) (by omega)
  have l2 : ((2 : Int32) ≤ nI i) ↔ 2 ≤ i := nI_leI (a := 2) (b := i) (by omega) (by omega)
  have l8 : ((8 : Int32) ≤ nI i) ↔ 8 ≤ i := nI_leI (a := 8) (b := i) (by omega) (by omega)
  have m2 : ((2 : Int32) ≤ nI u) ↔ 2 ≤ u := nI_leI (a := 2) (b := u) (by omega) (by omega)
  have w4 : (nI u = (4 : Int32)) ↔ u = 4 := nI_eq (a := u) (b := 4) (by omega) (by omega)
  unfold g_Md_plain PS PL
  rw [q_I_at d30, eu]
  by_cases c4 : u < 4
  · have l4 : ¬ (4 : Int32) ≤ nI u := fun q => by
      have := (nI_leI (a := 4) (b := u) (by omega) (by omega)).mp q
      omega
    rw [if_neg l4, if_pos c4]
    by_cases i2 : i < 2
    · rw [if_neg ((not_congr l2).mpr (by omega)), if_pos i2]; rfl
    · rw [if_pos (l2.mpr (by omega)), if_neg i2]
      by_cases e2 : i = 2
      · rw [if_neg (nn1 (n2.mpr e2)), if_pos e2]; rfl
      · rw [if_pos ((not_congr n2).mpr e2), if_neg e2]
        by_cases u2 : u < 2
        · rw [if_neg ((not_congr m2).mpr (by omega)), if_pos u2]; rfl
        · rw [if_pos (m2.mpr (by omega)), if_neg u2, q_I_at d39]; rfl
  · have l4 : (4 : Int32) ≤ nI u := (nI_leI (a := 4) (b := u) (by omega) (by omega)).mpr (by omega)
    rw [if_pos l4, if_neg c4]
    by_cases i0 : i = 0
    · rw [if_neg (nn1 (n0.mpr i0)), if_pos i0, q_I_at d33, q_I_at d34]; rfl
    · rw [if_pos ((not_congr n0).mpr i0), if_neg i0]
      by_cases i1 : i = 1
      · rw [if_neg (nn1 (n1.mpr i1)), if_pos i1, q_I_at d31, q_I_at d32]; rfl
      · rw [if_pos ((not_congr n1).mpr i1), if_neg i1]
        by_cases i2 : i = 2
        · rw [if_neg (nn1 (n2.mpr i2)), if_pos i2]
          by_cases u4 : u = 4
          · rw [if_neg (nn1 (w4.mpr u4)), if_pos u4]; rfl
          · rw [if_pos ((not_congr w4).mpr u4), if_neg u4]; rfl
        · rw [if_pos ((not_congr n2).mpr i2), if_neg i2]
          have u5 : u = 5 := by
            by_cases q : u = 5
            · exact q
            · have : u = 4 := by omega
              rw [this] at hi
              have : no 4 = 5 := rfl
              omega
          obtain ⟨hmo, ew⟩ := hm u5
          rw [q_J_at d35, ew]
          by_cases i3 : i = 3
          · rw [if_neg (nn1 (n3.mpr i3)), if_pos i3, y_I_at (gl_kindOf hmo σ)]; rfl
          · rw [if_pos ((not_congr n3).mpr i3), if_neg i3]
            by_cases i8 : i < 8
            · rw [if_neg ((not_congr l8).mpr (by omega)), if_pos i8, y_I_at (gl_toOf hmo σ), y_I_at (gl_fromOf hmo σ), y_I_at (gl_flowOf hmo σ)]
              obtain ⟨j, rfl⟩ : ∃ j, i = j + 4 := ⟨i - 4, by omega⟩
              rw [lb_d _ hmo.2.2.1 _ hmo.2.1 _ hmo.2.2.2.1 j (by omega), Nat.add_sub_cancel]
              rfl
            · rw [if_pos (l8.mpr (by omega)), if_neg i8]
              by_cases e8 : i = 8
              · rw [if_neg (nn1 (n8.mpr e8)), if_pos e8, y_I_at (gl_oneOf hmo σ)]; rfl
              · rw [if_pos ((not_congr n8).mpr e8), if_neg e8]
                by_cases e9 : i = 9
                · rw [if_neg (nn1 (n9.mpr e9)), if_pos e9, y_I_at (gl_twoOf hmo σ)]; rfl
                · rw [if_pos ((not_congr n9).mpr e9), if_neg e9, y_I_at (gl_hopsOf hmo σ)]; rfl
def chk (R : Nat → Int32) (n : Nat) : Int32 := crc R (8 * (n - 2)) 0 65535 ^^^ 65535
def OC (R : Nat → Int32) (n i : Nat) : Int32 := if i < n - 2 then R i else if i = n - 2 then chk R n &&& (255 : Int32) else chk R n >>> ((8 : Int32) &&& 31)
theorem gl_28 {e u x2 : Nat} {m : Msg} (h : UO σ e u m) (hx : no u - 2 ≤ x2) (hx2 : x2 < no u) : ∀ (r fuel : Nat) (c : Int32), r ≤ no u - 2 → r < fuel → c = crc (PS σ e u m) (8 * (no u - 2 - r)) 0 65535 → g_Md_octetOf_28 fuel (nI e) (nI x2) (nI (no u)) c (nI (no u - 2 - r)) σ = some (some (.int (OC (PS σ e u m) (no u) x2)), σ)
  | 0, fuel + 1, c, _, _, hc => by
    have hn := no_ge u
    have es : nI (no u) - (2 : Int32) = nI (no u - 2) := nI_sub (a := no u) (b := 2) (by omega)
    have hle : nI (no u - 2) ≤ nI (no u - 2 - 0) := nI_le (by omega) (by omega)
    rw [g_Md_octetOf_28, es, if_pos hle]
    show (if ¬ nI x2 = nI (no u - 2) then g_Md_octetOf_127 ((c ^^^ 65535) >>> ((8 : Int32) &&& 31)) else g_Md_octetOf_127 ((c ^^^ 65535) &&& (255 : Int32))) σ = _
    have hck : c ^^^ 65535 = chk (PS σ e u m) (no u) := by rw [hc]; rfl
    have hO : OC (PS σ e u m) (no u) x2 = if x2 = no u - 2 then chk (PS σ e u m) (no u) &&& (255 : Int32) else chk (PS σ e u m) (no u) >>> ((8 : Int32) &&& 31) := by
      unfold OC
      rw [if_neg (by omega)]
    rw [hck, hO]
    have nx : (nI x2 = nI (no u - 2)) ↔ x2 = no u - 2 := nI_eq (by omega) (by omega)
    by_cases q : x2 = no u - 2
    · rw [if_neg (nn1 (nx.mpr q)), if_pos q]; rfl
    · rw [if_pos ((not_congr nx).mpr q), if_neg q]; rfl
  | r + 1, fuel + 1, c, hr, hf, hc => by
    have hn := no_ge u
    have es : nI (no u) - (2 : Int32) = nI (no u - 2) := nI_sub (a := no u) (b := 2) (by omega)
    have hle : ¬ nI (no u - 2) ≤ nI (no u - 2 - (r + 1)) := fun q => by
      have := (nI_leI (a := no u - 2) (b := no u - 2 - (r + 1)) (by omega) (by omega)).mp q
      omega
    have e1 : no u - 2 - (r + 1) + 1 = no u - 2 - r := by omega
    have h48 := gl_48 (σ := σ) (R := PS σ e u m) (e := e) (x2 := x2) (n := no u) (k := no u - 2 - (r + 1)) rfl (g_Md_octetOf_28 fuel) 8 sn_fuel c (by omega) (by unfold sn_fuel; omega)
    have h48 : g_Md_octetOf_48 (g_Md_octetOf_28 fuel) sn_fuel (nI e) (nI x2) (nI (no u)) c (nI (no u - 2 - (r + 1))) (PS σ e u m (no u - 2 - (r + 1))) 0 σ = _ := h48
    rw [g_Md_octetOf_28, es, if_neg hle, y_I_at (gl_plain h (by omega)), h48, e1]
    refine gl_28 h hx hx2 r fuel _ (by omega) (by omega) ?_
    rw [hc, show 8 * (no u - 2 - r) = 8 * (no u - 2 - (r + 1)) + 8 by omega, crc_app, Nat.zero_add]
    rfl
theorem gl_octetOf {e u i : Nat} {m : Msg} (h : UO σ e u m) (hi : i < no u) : g_Md_octetOf (nI e) (nI i) σ = some (some (.int (OC (PS σ e u m) (no u) i)), σ) := by
  have hn := no_ge u
  have es : nI (no u) - (2 : Int32) = nI (no u - 2) := nI_sub (a := no u) (b := 2) (by omega)
  unfold g_Md_octetOf
  rw [y_I_at (gl_octets h), es]
  by_cases c : no u - 2 ≤ i
  · rw [if_pos ((nI_leI (by omega) (by omega)).mpr c)]
    have := gl_28 h c hi (no u - 2) sn_fuel 65535 (Nat.le_refl _) (by unfold sn_fuel; omega) (by rw [Nat.sub_self]; rfl)
    rw [Nat.sub_self] at this
    exact this
  · rw [if_neg (fun q => c ((nI_leI (by omega) (by omega)).mp q)), y_I_at (gl_plain h (by omega))]
    unfold OC
    rw [if_pos (by omega)]; rfl
