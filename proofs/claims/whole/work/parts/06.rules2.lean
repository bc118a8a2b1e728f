section Rules2
variable {X : sn_X} {cc : ByteArray} {own nm : String} {ret : Option FieldType} {nL fr lo pc q : Nat} {lv lv' : sn_L} {st : List sn_V} {f : sn_M}
theorem sn_Ok.put {D : sn_D} {base : Nat} {s : State} {μ0 μ ν : sn_Mem} {H H1 : Heap} {locs : List Loc} {a i : Nat} (ok : sn_Ok D base s μ0 μ H locs) (hR : sn_Rep D base ν H1) (ho : ∀ q, q ≠ a → H1[q]? = H[q]?) (ha : base ≤ a) (hz : m_sz ν = m_sz μ) (hu : m_us ν = m_us μ) : sn_Ok D base s μ0 ν H1 (locs ++ [⟨a, i⟩]) := by
  refine ⟨hR, fun q hq => ?_, fun q hq => ?_, by rw [hz]; exact ok.2.2.2.1, by rw [hu]; exact ok.2.2.2.2.1, ok.2.2.2.2.2⟩
  · rw [ho q (by omega)]
    exact ok.2.1 q hq
  · rcases List.mem_append.mp hq with h | h
    · exact ok.2.2.1 q h
    · rw [List.mem_singleton.mp h]; exact ha
theorem g_I_use {c k : Nat} {r : Option Nat} {K : Int32 → sn_M} {μ : sn_Mem} {x : Option Value × sn_Mem} (h : g_I c k r K μ = some x) : ∃ a, r = some a ∧ m_kd μ a = c ∧ K (m_I μ a k) μ = some x := by
  cases r with
  | none => cases h
  | some a =>
    by_cases hk : m_kd μ a = c
    · exact ⟨a, rfl, hk, by simpa only [g_I, hk, if_true] using h⟩
    · simp [g_I, hk] at h
theorem sn_Mono.gI {c k : Nat} {r : Option Nat} {K : Int32 → sn_M} (h : ∀ v, sn_Mono (K v)) : sn_Mono (g_I c k r K) := by
  intro μ x ν hf
  obtain ⟨a, -, -, h2⟩ := g_I_use hf
  exact h _ μ x ν h2
theorem r_gI (C : sn_Cx X cc own ret nm nL fr lo) {idx c k : Nat} {fin : Bool} {ty : FieldType} {r : Option Nat} {K : Int32 → sn_M} (hd : decode cc pc = .ok (.getfield idx, 3)) (hq : pc + 3 = q) (hF : sn_F own idx c k fin ty) (hc : sn_ft c k = 0) (h : ∀ v, sn_S X q lv (vI v :: st) (K v)) : sn_S X pc lv (vA r :: st) (g_I (c + 1) k r K) := by
  obtain ⟨p, l, e, fr', lo', s, m, args, below, meth, cO, D, base, nL', μ0, rF, μF⟩ := X
  obtain ⟨⟨rfl, rfl, rfl⟩, hx, hb, hml, hown, hts, hr, hlk, hnm, hK⟩ := C
  subst hq
  refine ⟨sn_Mono.gI (fun v => (h v).1), fun ls H locs μ hl ok hf => ?_⟩
  obtain ⟨a, rfl, hk, h2⟩ := g_I_use hf
  refine sn_get hx hb hown hts hK hF ok.1 hk hd ?_
  have h3 := (h (m_I μ a k)).2 ls H locs μ hl ok h2
  have e1 : sn_fv μ a c k = sn_v (vI (m_I μ a k)) := by simp only [sn_fv, hc]; rfl
  rw [e1]
  exact h3
theorem g_J_use {c k : Nat} {r : Option Nat} {K : Int64 → sn_M} {μ : sn_Mem} {x : Option Value × sn_Mem} (h : g_J c k r K μ = some x) : ∃ a, r = some a ∧ m_kd μ a = c ∧ K (m_J μ a k) μ = some x := by
  cases r with
  | none => cases h
  | some a =>
    by_cases hk : m_kd μ a = c
    · exact ⟨a, rfl, hk, by simpa only [g_J, hk, if_true] using h⟩
    · simp [g_J, hk] at h
theorem sn_Mono.gJ {c k : Nat} {r : Option Nat} {K : Int64 → sn_M} (h : ∀ v, sn_Mono (K v)) : sn_Mono (g_J c k r K) := by
  intro μ x ν hf
  obtain ⟨a, -, -, h2⟩ := g_J_use hf
  exact h _ μ x ν h2
theorem r_gJ (C : sn_Cx X cc own ret nm nL fr lo) {idx c k : Nat} {fin : Bool} {ty : FieldType} {r : Option Nat} {K : Int64 → sn_M} (hd : decode cc pc = .ok (.getfield idx, 3)) (hq : pc + 3 = q) (hF : sn_F own idx c k fin ty) (hc : sn_ft c k = 1) (h : ∀ v, sn_S X q lv (vJ v :: st) (K v)) : sn_S X pc lv (vA r :: st) (g_J (c + 1) k r K) := by
  obtain ⟨p, l, e, fr', lo', s, m, args, below, meth, cO, D, base, nL', μ0, rF, μF⟩ := X
  obtain ⟨⟨rfl, rfl, rfl⟩, hx, hb, hml, hown, hts, hr, hlk, hnm, hK⟩ := C
  subst hq
  refine ⟨sn_Mono.gJ (fun v => (h v).1), fun ls H locs μ hl ok hf => ?_⟩
  obtain ⟨a, rfl, hk, h2⟩ := g_J_use hf
  refine sn_get hx hb hown hts hK hF ok.1 hk hd ?_
  have h3 := (h (m_J μ a k)).2 ls H locs μ hl ok h2
  have e1 : sn_fv μ a c k = sn_v (vJ (m_J μ a k)) := by simp only [sn_fv, hc]; rfl
  rw [e1]
  exact h3
theorem g_R_use {c k : Nat} {r : Option Nat} {K : Option Nat → sn_M} {μ : sn_Mem} {x : Option Value × sn_Mem} (h : g_R c k r K μ = some x) : ∃ a, r = some a ∧ m_kd μ a = c ∧ K (m_R μ a k) μ = some x := by
  cases r with
  | none => cases h
  | some a =>
    by_cases hk : m_kd μ a = c
    · exact ⟨a, rfl, hk, by simpa only [g_R, hk, if_true] using h⟩
    · simp [g_R, hk] at h
theorem sn_Mono.gR {c k : Nat} {r : Option Nat} {K : Option Nat → sn_M} (h : ∀ v, sn_Mono (K v)) : sn_Mono (g_R c k r K) := by
  intro μ x ν hf
  obtain ⟨a, -, -, h2⟩ := g_R_use hf
  exact h _ μ x ν h2
theorem r_gR (C : sn_Cx X cc own ret nm nL fr lo) {idx c k : Nat} {fin : Bool} {ty : FieldType} {r : Option Nat} {K : Option Nat → sn_M} (hd : decode cc pc = .ok (.getfield idx, 3)) (hq : pc + 3 = q) (hF : sn_F own idx c k fin ty) (hc : sn_ft c k = 2) (h : ∀ v, sn_S X q lv (vA v :: st) (K v)) : sn_S X pc lv (vA r :: st) (g_R (c + 1) k r K) := by
  obtain ⟨p, l, e, fr', lo', s, m, args, below, meth, cO, D, base, nL', μ0, rF, μF⟩ := X
  obtain ⟨⟨rfl, rfl, rfl⟩, hx, hb, hml, hown, hts, hr, hlk, hnm, hK⟩ := C
  subst hq
  refine ⟨sn_Mono.gR (fun v => (h v).1), fun ls H locs μ hl ok hf => ?_⟩
  obtain ⟨a, rfl, hk, h2⟩ := g_R_use hf
  refine sn_get hx hb hown hts hK hF ok.1 hk hd ?_
  have h3 := (h (m_R μ a k)).2 ls H locs μ hl ok h2
  have e1 : sn_fv μ a c k = sn_v (vA (m_R μ a k)) := by simp only [sn_fv, hc]; rfl
  rw [e1]
  exact h3
theorem p_I_use {c k : Nat} {r : Option Nat} {x : Int32} {K : sn_M} {μ : sn_Mem} {y : Option Value × sn_Mem} (h : p_I c k r x K μ = some y) : ∃ a, r = some a ∧ (m_kd μ a = c) ∧ K (u_I μ a k x) = some y := by
  cases r with
  | none => cases h
  | some a =>
    by_cases hk : m_kd μ a = c
    · exact ⟨a, rfl, hk, by simpa only [p_I, hk, if_true, and_self] using h⟩
    · simp only [p_I, hk, if_false] at h
      cases h
theorem sn_Mono.pI {c k : Nat} {r : Option Nat} {x : Int32} {K : sn_M} (h : sn_Mono K) : sn_Mono (p_I c k r x K) := by
  intro μ y ν hf
  obtain ⟨a, -, -, h2⟩ := p_I_use hf
  have h3 := h _ _ _ h2
  exact h3
theorem r_pI (C : sn_Cx X cc own ret nm nL fr lo) {idx c k : Nat} {fin : Bool} {ty : FieldType} {r : Option Nat} {x : Int32} (hd : decode cc pc = .ok (.putfield idx, 3)) (hq : pc + 3 = q) (hF : sn_F own idx c k fin ty) (hc : sn_ft c k = 0) (hty : ty = .int) (hi : fin = false ∨ (nm = "<init>" ∧ ∃ T N, sn_cls[c]? = some (own, T, N))) (h : sn_S X q lv st f) : sn_S X pc lv (vI x :: vA r :: st) (p_I (c + 1) k r x f) := by
  obtain ⟨p, l, e, fr', lo', s, m, args, below, meth, cO, D, base, nL', μ0, rF, μF⟩ := X
  obtain ⟨⟨rfl, rfl, rfl⟩, hx, hb, hml, hown, hts, hr, hlk, hnm, hK⟩ := C
  subst hq
  refine ⟨h.1.pI, fun ls H locs μ hl ok hf => ?_⟩
  obtain ⟨a, rfl, hk, h2⟩ := p_I_use hf
  have hn : narrow ty (.int x) = .int x := by subst hty; rfl
  have hfi : fits ty (.int x) = true := by subst hty; rfl
  rw [← hnm] at hi
  refine sn_put hx hb hown hts hK hF hi ok.1 hk hn hfi hd (ν := u_I μ a k x) rfl rfl rfl ?_ ?_ ?_ (sn_fv_I x hc) (fun H1 i hR ho ha => h.2 ls H1 _ (u_I μ a k x) hl (ok.put (ν := u_I μ a k x) hR ho ha rfl rfl) h2)
  · intro b j hb2; exact sn_up_ne _ _ _ _ hb2
  · intro b j hb2; rfl
  · intro b j hb2; rfl
theorem p_Z_use {c k : Nat} {r : Option Nat} {x : Int32} {K : sn_M} {μ : sn_Mem} {y : Option Value × sn_Mem} (h : p_Z c k r x K μ = some y) : ∃ a, r = some a ∧ (m_kd μ a = c ∧ (x = 0 ∨ x = 1)) ∧ K (u_I μ a k x) = some y := by
  cases r with
  | none => cases h
  | some a =>
    by_cases hk : m_kd μ a = c ∧ (x = 0 ∨ x = 1)
    · exact ⟨a, rfl, hk, by simpa only [p_Z, hk, if_true, and_self] using h⟩
    · simp only [p_Z, hk, if_false] at h
      cases h
theorem sn_Mono.pZ {c k : Nat} {r : Option Nat} {x : Int32} {K : sn_M} (h : sn_Mono K) : sn_Mono (p_Z c k r x K) := by
  intro μ y ν hf
  obtain ⟨a, -, -, h2⟩ := p_Z_use hf
  have h3 := h _ _ _ h2
  exact h3
theorem r_pZ (C : sn_Cx X cc own ret nm nL fr lo) {idx c k : Nat} {fin : Bool} {ty : FieldType} {r : Option Nat} {x : Int32} (hd : decode cc pc = .ok (.putfield idx, 3)) (hq : pc + 3 = q) (hF : sn_F own idx c k fin ty) (hc : sn_ft c k = 0) (hty : ty = .boolean) (hi : fin = false ∨ (nm = "<init>" ∧ ∃ T N, sn_cls[c]? = some (own, T, N))) (h : sn_S X q lv st f) : sn_S X pc lv (vI x :: vA r :: st) (p_Z (c + 1) k r x f) := by
  obtain ⟨p, l, e, fr', lo', s, m, args, below, meth, cO, D, base, nL', μ0, rF, μF⟩ := X
  obtain ⟨⟨rfl, rfl, rfl⟩, hx, hb, hml, hown, hts, hr, hlk, hnm, hK⟩ := C
  subst hq
  refine ⟨h.1.pZ, fun ls H locs μ hl ok hf => ?_⟩
  obtain ⟨a, rfl, hk, h2⟩ := p_Z_use hf
  have hn : narrow ty (.int x) = .int x := by subst hty; rcases hk.2 with e | e <;> subst e <;> decide
  have hfi : fits ty (.int x) = true := by subst hty; rcases hk.2 with e | e <;> subst e <;> decide
  rw [← hnm] at hi
  refine sn_put hx hb hown hts hK hF hi ok.1 hk.1 hn hfi hd (ν := u_I μ a k x) rfl rfl rfl ?_ ?_ ?_ (sn_fv_I x hc) (fun H1 i hR ho ha => h.2 ls H1 _ (u_I μ a k x) hl (ok.put (ν := u_I μ a k x) hR ho ha rfl rfl) h2)
  · intro b j hb2; exact sn_up_ne _ _ _ _ hb2
  · intro b j hb2; rfl
  · intro b j hb2; rfl
theorem p_J_use {c k : Nat} {r : Option Nat} {x : Int64} {K : sn_M} {μ : sn_Mem} {y : Option Value × sn_Mem} (h : p_J c k r x K μ = some y) : ∃ a, r = some a ∧ (m_kd μ a = c) ∧ K (u_J μ a k x) = some y := by
  cases r with
  | none => cases h
  | some a =>
    by_cases hk : m_kd μ a = c
    · exact ⟨a, rfl, hk, by simpa only [p_J, hk, if_true, and_self] using h⟩
    · simp only [p_J, hk, if_false] at h
      cases h
theorem sn_Mono.pJ {c k : Nat} {r : Option Nat} {x : Int64} {K : sn_M} (h : sn_Mono K) : sn_Mono (p_J c k r x K) := by
  intro μ y ν hf
  obtain ⟨a, -, -, h2⟩ := p_J_use hf
  have h3 := h _ _ _ h2
  exact h3
theorem r_pJ (C : sn_Cx X cc own ret nm nL fr lo) {idx c k : Nat} {fin : Bool} {ty : FieldType} {r : Option Nat} {x : Int64} (hd : decode cc pc = .ok (.putfield idx, 3)) (hq : pc + 3 = q) (hF : sn_F own idx c k fin ty) (hc : sn_ft c k = 1) (hty : ty = .long) (hi : fin = false ∨ (nm = "<init>" ∧ ∃ T N, sn_cls[c]? = some (own, T, N))) (h : sn_S X q lv st f) : sn_S X pc lv (vJ x :: vA r :: st) (p_J (c + 1) k r x f) := by
  obtain ⟨p, l, e, fr', lo', s, m, args, below, meth, cO, D, base, nL', μ0, rF, μF⟩ := X
  obtain ⟨⟨rfl, rfl, rfl⟩, hx, hb, hml, hown, hts, hr, hlk, hnm, hK⟩ := C
  subst hq
  refine ⟨h.1.pJ, fun ls H locs μ hl ok hf => ?_⟩
  obtain ⟨a, rfl, hk, h2⟩ := p_J_use hf
  have hn : narrow ty (.long x) = .long x := by subst hty; rfl
  have hfi : fits ty (.long x) = true := by subst hty; rfl
  rw [← hnm] at hi
  refine sn_put hx hb hown hts hK hF hi ok.1 hk hn hfi hd (ν := u_J μ a k x) rfl rfl rfl ?_ ?_ ?_ (sn_fv_J x hc) (fun H1 i hR ho ha => h.2 ls H1 _ (u_J μ a k x) hl (ok.put (ν := u_J μ a k x) hR ho ha rfl rfl) h2)
  · intro b j hb2; rfl
  · intro b j hb2; exact sn_up_ne _ _ _ _ hb2
  · intro b j hb2; rfl
theorem p_R_use {c k : Nat} {r : Option Nat} {x : Option Nat} {K : sn_M} {μ : sn_Mem} {y : Option Value × sn_Mem} (h : p_R c k r x K μ = some y) : ∃ a, r = some a ∧ (m_kd μ a = c) ∧ K (u_R μ a k x) = some y := by
  cases r with
  | none => cases h
  | some a =>
    by_cases hk : m_kd μ a = c
    · exact ⟨a, rfl, hk, by simpa only [p_R, hk, if_true, and_self] using h⟩
    · simp only [p_R, hk, if_false] at h
      cases h
theorem sn_Mono.pR {c k : Nat} {r : Option Nat} {x : Option Nat} {K : sn_M} (h : sn_Mono K) : sn_Mono (p_R c k r x K) := by
  intro μ y ν hf
  obtain ⟨a, -, -, h2⟩ := p_R_use hf
  have h3 := h _ _ _ h2
  exact h3
theorem r_pR (C : sn_Cx X cc own ret nm nL fr lo) {idx c k : Nat} {fin : Bool} {ty : FieldType} {r : Option Nat} {x : Option Nat} (hd : decode cc pc = .ok (.putfield idx, 3)) (hq : pc + 3 = q) (hF : sn_F own idx c k fin ty) (hc : sn_ft c k = 2) (hty : (∃ n, ty = .object n) ∨ ∃ n, ty = .array n) (hi : fin = false ∨ (nm = "<init>" ∧ ∃ T N, sn_cls[c]? = some (own, T, N))) (h : sn_S X q lv st f) : sn_S X pc lv (vA x :: vA r :: st) (p_R (c + 1) k r x f) := by
  obtain ⟨p, l, e, fr', lo', s, m, args, below, meth, cO, D, base, nL', μ0, rF, μF⟩ := X
  obtain ⟨⟨rfl, rfl, rfl⟩, hx, hb, hml, hown, hts, hr, hlk, hnm, hK⟩ := C
  subst hq
  refine ⟨h.1.pR, fun ls H locs μ hl ok hf => ?_⟩
  obtain ⟨a, rfl, hk, h2⟩ := p_R_use hf
  have hn : narrow ty (va_rf x) = va_rf x := by rcases hty with ⟨n, rfl⟩ | ⟨n, rfl⟩ <;> cases x <;> rfl
  have hfi : fits ty (va_rf x) = true := by rcases hty with ⟨n, rfl⟩ | ⟨n, rfl⟩ <;> cases x <;> rfl
  rw [← hnm] at hi
  refine sn_put hx hb hown hts hK hF hi ok.1 hk hn hfi hd (ν := u_R μ a k x) rfl rfl rfl ?_ ?_ ?_ (sn_fv_R x hc) (fun H1 i hR ho ha => h.2 ls H1 _ (u_R μ a k x) hl (ok.put (ν := u_R μ a k x) hR ho ha rfl rfl) h2)
  · intro b j hb2; rfl
  · intro b j hb2; rfl
  · intro b j hb2; exact sn_up_ne _ _ _ _ hb2
theorem a_I_use {c : Nat} {r : Option Nat} {i : Int32} {K : Int32 → sn_M} {μ : sn_Mem} {x : Option Value × sn_Mem} (h : a_I c r i K μ = some x) : ∃ a, r = some a ∧ (m_kd μ a = c ∧ ¬ (i < 0 ∨ m_ln μ a ≤ i.toNatClampNeg)) ∧ K (m_I μ a i.toNatClampNeg) μ = some x := by
  cases r with
  | none => cases h
  | some a =>
    by_cases hk : m_kd μ a = c ∧ ¬ (i < 0 ∨ m_ln μ a ≤ i.toNatClampNeg)
    · exact ⟨a, rfl, hk, by simpa only [a_I, hk, if_true, and_self, not_false_eq_true] using h⟩
    · simp only [a_I, hk, if_false] at h
      cases h
theorem sn_Mono.aI {c : Nat} {r : Option Nat} {i : Int32} {K : Int32 → sn_M} (h : ∀ v, sn_Mono (K v)) : sn_Mono (a_I c r i K) := by
  intro μ x ν hf
  obtain ⟨a, -, -, h2⟩ := a_I_use hf
  exact h _ μ x ν h2
theorem a_J_use {c : Nat} {r : Option Nat} {i : Int32} {K : Int64 → sn_M} {μ : sn_Mem} {x : Option Value × sn_Mem} (h : a_J c r i K μ = some x) : ∃ a, r = some a ∧ (m_kd μ a = c ∧ ¬ (i < 0 ∨ m_ln μ a ≤ i.toNatClampNeg)) ∧ K (m_J μ a i.toNatClampNeg) μ = some x := by
  cases r with
  | none => cases h
  | some a =>
    by_cases hk : m_kd μ a = c ∧ ¬ (i < 0 ∨ m_ln μ a ≤ i.toNatClampNeg)
    · exact ⟨a, rfl, hk, by simpa only [a_J, hk, if_true, and_self, not_false_eq_true] using h⟩
    · simp only [a_J, hk, if_false] at h
      cases h
theorem sn_Mono.aJ {c : Nat} {r : Option Nat} {i : Int32} {K : Int64 → sn_M} (h : ∀ v, sn_Mono (K v)) : sn_Mono (a_J c r i K) := by
  intro μ x ν hf
  obtain ⟨a, -, -, h2⟩ := a_J_use hf
  exact h _ μ x ν h2
theorem a_R_use {c : Nat} {r : Option Nat} {i : Int32} {K : Option Nat → sn_M} {μ : sn_Mem} {x : Option Value × sn_Mem} (h : a_R c r i K μ = some x) : ∃ a, r = some a ∧ (m_kd μ a = c ∧ ¬ (i < 0 ∨ m_ln μ a ≤ i.toNatClampNeg)) ∧ K (m_R μ a i.toNatClampNeg) μ = some x := by
  cases r with
  | none => cases h
  | some a =>
    by_cases hk : m_kd μ a = c ∧ ¬ (i < 0 ∨ m_ln μ a ≤ i.toNatClampNeg)
    · exact ⟨a, rfl, hk, by simpa only [a_R, hk, if_true, and_self, not_false_eq_true] using h⟩
    · simp only [a_R, hk, if_false] at h
      cases h
theorem sn_Mono.aR {c : Nat} {r : Option Nat} {i : Int32} {K : Option Nat → sn_M} (h : ∀ v, sn_Mono (K v)) : sn_Mono (a_R c r i K) := by
  intro μ x ν hf
  obtain ⟨a, -, -, h2⟩ := a_R_use hf
  exact h _ μ x ν h2
theorem r_aI (C : sn_Cx X cc own ret nm nL fr lo) {r : Option Nat} {i : Int32} {K : Int32 → sn_M} {kd : Nat} (hkd : kd = 21 ∨ kd = 31) (hd : decode cc pc = .ok (.iaload, 1)) (hq : pc + 1 = q) (h : ∀ v, sn_S X q lv (vI v :: st) (K v)) : sn_S X pc lv (vI i :: vA r :: st) (a_I kd r i K) := by
  obtain ⟨p, l, e, fr', lo', s, m, args, below, meth, cO, D, base, nL', μ0, rF, μF⟩ := X
  obtain ⟨⟨rfl, rfl, rfl⟩, hx, hb, hml, hown, hts, hr, hlk, hnm, hK⟩ := C
  subst hq
  refine ⟨sn_Mono.aI (fun v => (h v).1), fun ls H locs μ hl ok hf => ?_⟩
  obtain ⟨a, rfl, ⟨hk, hin⟩, h2⟩ := a_I_use hf
  obtain ⟨hba, hc⟩ := ok.1.arr hk (by omega)
  have hA : ArrOfT s (D.2.2 kd) .int := by rcases hkd with e | e <;> rw [e] <;> first | exact (hK.1.2 0 _ rfl).1 | exact (hK.1.2 6 _ rfl).1
  have hav : ∀ j, sn_av μ kd a j = sn_v (vI (m_I μ a j)) := by rcases hkd with e | e <;> rw [e] <;> intro j <;> rfl
  refine W.iald hx hb hc (hA _ _) (fun h => by cases h) (by rw [arrV_size]; exact hin) (v := sn_v (vI (m_I μ a i.toNatClampNeg))) ?_ rfl rfl hd ((h _).2 ls H locs μ hl ok h2)
  rw [arrV_read _ _ (by omega), hav]
theorem r_aZ (C : sn_Cx X cc own ret nm nL fr lo) {r : Option Nat} {i : Int32} {K : Int32 → sn_M} {kd : Nat} (hkd : kd = 23 ∨ kd = 33) (hd : decode cc pc = .ok (.baload, 1)) (hq : pc + 1 = q) (h : ∀ v, sn_S X q lv (vI v :: st) (K v)) : sn_S X pc lv (vI i :: vA r :: st) (a_I kd r i K) := by
  obtain ⟨p, l, e, fr', lo', s, m, args, below, meth, cO, D, base, nL', μ0, rF, μF⟩ := X
  obtain ⟨⟨rfl, rfl, rfl⟩, hx, hb, hml, hown, hts, hr, hlk, hnm, hK⟩ := C
  subst hq
  refine ⟨sn_Mono.aI (fun v => (h v).1), fun ls H locs μ hl ok hf => ?_⟩
  obtain ⟨a, rfl, ⟨hk, hin⟩, h2⟩ := a_I_use hf
  obtain ⟨hba, hc⟩ := ok.1.arr hk (by omega)
  have hA : ArrOfT s (D.2.2 kd) .boolean := by rcases hkd with e | e <;> rw [e] <;> first | exact (hK.1.2 2 _ rfl).1 | exact (hK.1.2 8 _ rfl).1
  have hav : ∀ j, sn_av μ kd a j = sn_v (vI (m_I μ a j)) := by rcases hkd with e | e <;> rw [e] <;> intro j <;> rfl
  refine W.zald hx hb hc (hA _ _) (fun h => by cases h) (by rw [arrV_size]; exact hin) (v := sn_v (vI (m_I μ a i.toNatClampNeg))) ?_ rfl rfl hd ((h _).2 ls H locs μ hl ok h2)
  rw [arrV_read _ _ (by omega), hav]
theorem r_aJ (C : sn_Cx X cc own ret nm nL fr lo) {r : Option Nat} {i : Int32} {K : Int64 → sn_M} {kd : Nat} (hkd : kd = 22 ∨ kd = 32) (hd : decode cc pc = .ok (.laload, 1)) (hq : pc + 1 = q) (h : ∀ v, sn_S X q lv (vJ v :: st) (K v)) : sn_S X pc lv (vI i :: vA r :: st) (a_J kd r i K) := by
  obtain ⟨p, l, e, fr', lo', s, m, args, below, meth, cO, D, base, nL', μ0, rF, μF⟩ := X
  obtain ⟨⟨rfl, rfl, rfl⟩, hx, hb, hml, hown, hts, hr, hlk, hnm, hK⟩ := C
  subst hq
  refine ⟨sn_Mono.aJ (fun v => (h v).1), fun ls H locs μ hl ok hf => ?_⟩
  obtain ⟨a, rfl, ⟨hk, hin⟩, h2⟩ := a_J_use hf
  obtain ⟨hba, hc⟩ := ok.1.arr hk (by omega)
  have hA : ArrOfT s (D.2.2 kd) .long := by rcases hkd with e | e <;> rw [e] <;> first | exact (hK.1.2 1 _ rfl).1 | exact (hK.1.2 7 _ rfl).1
  have hav : ∀ j, sn_av μ kd a j = sn_v (vJ (m_J μ a j)) := by rcases hkd with e | e <;> rw [e] <;> intro j <;> rfl
  refine W.lald hx hb hc (hA _ _) (fun h => by cases h) (by rw [arrV_size]; exact hin) (v := sn_v (vJ (m_J μ a i.toNatClampNeg))) ?_ rfl rfl hd ((h _).2 ls H locs μ hl ok h2)
  rw [arrV_read _ _ (by omega), hav]
theorem r_aR (C : sn_Cx X cc own ret nm nL fr lo) {r : Option Nat} {i : Int32} {K : Option Nat → sn_M} {kd tyi : Nat} {C0 : String} (hkd : 23 < kd ∧ kd < 31) (hty : ∀ D : sn_D, (sn_tys D)[tyi]? = some (D.2.2 kd, .object C0)) (hd : decode cc pc = .ok (.aaload, 1)) (hq : pc + 1 = q) (h : ∀ v, sn_S X q lv (vA v :: st) (K v)) : sn_S X pc lv (vI i :: vA r :: st) (a_R kd r i K) := by
  obtain ⟨p, l, e, fr', lo', s, m, args, below, meth, cO, D, base, nL', μ0, rF, μF⟩ := X
  obtain ⟨⟨rfl, rfl, rfl⟩, hx, hb, hml, hown, hts, hr, hlk, hnm, hK⟩ := C
  subst hq
  refine ⟨sn_Mono.aR (fun v => (h v).1), fun ls H locs μ hl ok hf => ?_⟩
  obtain ⟨a, rfl, ⟨hk, hin⟩, h2⟩ := a_R_use hf
  obtain ⟨hba, hc⟩ := ok.1.arr hk (by omega)
  have hA : ArrOfT s (D.2.2 kd) (.object C0) := (hK.1.2 tyi _ (hty D)).1
  refine W.aald hx hb hc (hA _ _) rfl (fun h => by cases h) (by rw [arrV_size]; exact hin) (v := sn_v (vA (m_R μ a i.toNatClampNeg))) ?_ rfl rfl hd ((h _).2 ls H locs μ hl ok h2)
  rw [arrV_read _ _ (by omega)]
  have e1 : sn_av μ kd a i.toNatClampNeg = va_rf (m_R μ a i.toNatClampNeg) := by
    unfold sn_av
    split <;> first | omega | rfl
  rw [e1]; rfl
theorem b_I_use {c : Nat} {r : Option Nat} {i : Int32} {x : Int32} {K : sn_M} {μ : sn_Mem} {y : Option Value × sn_Mem} (h : b_I c r i x K μ = some y) : ∃ a, r = some a ∧ (m_kd μ a = c ∧ ¬ (i < 0 ∨ m_ln μ a ≤ i.toNatClampNeg)) ∧ K (u_I μ a i.toNatClampNeg x) = some y := by
  cases r with
  | none => cases h
  | some a =>
    by_cases hk : m_kd μ a = c ∧ ¬ (i < 0 ∨ m_ln μ a ≤ i.toNatClampNeg)
    · exact ⟨a, rfl, hk, by simpa only [b_I, hk, if_true, and_self, not_false_eq_true] using h⟩
    · simp only [b_I, hk, if_false] at h
      cases h
theorem sn_Mono.bI {c : Nat} {r : Option Nat} {i : Int32} {x : Int32} {K : sn_M} (h : sn_Mono K) : sn_Mono (b_I c r i x K) := by
  intro μ y ν hf
  obtain ⟨a, -, -, h2⟩ := b_I_use hf
  have h3 := h _ _ _ h2
  exact h3
theorem r_bI (C : sn_Cx X cc own ret nm nL fr lo) {r : Option Nat} {i : Int32} {x : Int32} {kd : Nat} (hkd : kd = 21 ∨ kd = 31) (hd : decode cc pc = .ok (.iastore, 1)) (hq : pc + 1 = q) (h : sn_S X q lv st f) : sn_S X pc lv (vI x :: vI i :: vA r :: st) (b_I kd r i x f) := by
  obtain ⟨p, l, e, fr', lo', s, m, args, below, meth, cO, D, base, nL', μ0, rF, μF⟩ := X
  obtain ⟨⟨rfl, rfl, rfl⟩, hx, hb, hml, hown, hts, hr, hlk, hnm, hK⟩ := C
  subst hq
  refine ⟨h.1.bI, fun ls H locs μ hl ok hf => ?_⟩
  obtain ⟨a, rfl, hkk, h2⟩ := b_I_use hf
  obtain ⟨hk, hin⟩ := hkk
  obtain ⟨hba, hc⟩ := ok.1.arr hk (by omega)
  have hA : ArrOfT s (D.2.2 kd) .int := by rcases hkd with e | e <;> rw [e] <;> first | exact (hK.1.2 0 _ rfl).1 | exact (hK.1.2 6 _ rfl).1
  refine W.iast hx hb hc (hA _ _) (fun h => by cases h) (by rw [arrV_size]; exact hin) rfl rfl hd fun H1 e1 e2 e3 => ?_
  refine h.2 ls H1 _ (u_I μ a i.toNatClampNeg x) hl (ok.put (ν := u_I μ a i.toNatClampNeg x) (ok.1.set e2 e3 rfl rfl rfl ?_ ?_ ?_ (fun _ => ?_)) e3 hba rfl rfl) h2
  · intro b j hb2; exact sn_up_ne _ _ _ _ hb2
  · intro b j hb2; rfl
  · intro b j hb2; rfl
  · unfold sn_Cell
    rw [show m_kd (u_I μ a i.toNatClampNeg x) a = kd from hk, if_neg (by omega), e1, arrV_store]
    congr 2
    funext j
    by_cases hj : j = i.toNatClampNeg
    · rcases hkd with e | e <;> subst e <;> simp [updV, sn_av, sn_up, hj, m_I, m_J, m_R, u_I]
    · rcases hkd with e | e <;> subst e <;> simp [updV, sn_av, sn_up, hj, m_I, m_J, m_R, u_I]
theorem b_Z_use {c : Nat} {r : Option Nat} {i : Int32} {x : Int32} {K : sn_M} {μ : sn_Mem} {y : Option Value × sn_Mem} (h : b_Z c r i x K μ = some y) : ∃ a, r = some a ∧ ((m_kd μ a = c ∧ ¬ (i < 0 ∨ m_ln μ a ≤ i.toNatClampNeg)) ∧ (x = 0 ∨ x = 1)) ∧ K (u_I μ a i.toNatClampNeg x) = some y := by
  cases r with
  | none => cases h
  | some a =>
    by_cases hk : (m_kd μ a = c ∧ ¬ (i < 0 ∨ m_ln μ a ≤ i.toNatClampNeg)) ∧ (x = 0 ∨ x = 1)
    · exact ⟨a, rfl, hk, by simpa only [b_Z, hk, if_true, and_self, not_false_eq_true] using h⟩
    · simp only [b_Z, hk, if_false] at h
      cases h
theorem sn_Mono.bZ {c : Nat} {r : Option Nat} {i : Int32} {x : Int32} {K : sn_M} (h : sn_Mono K) : sn_Mono (b_Z c r i x K) := by
  intro μ y ν hf
  obtain ⟨a, -, -, h2⟩ := b_Z_use hf
  have h3 := h _ _ _ h2
  exact h3
theorem r_bZ (C : sn_Cx X cc own ret nm nL fr lo) {r : Option Nat} {i : Int32} {x : Int32} {kd : Nat} (hkd : kd = 23 ∨ kd = 33) (hd : decode cc pc = .ok (.bastore, 1)) (hq : pc + 1 = q) (h : sn_S X q lv st f) : sn_S X pc lv (vI x :: vI i :: vA r :: st) (b_Z kd r i x f) := by
  obtain ⟨p, l, e, fr', lo', s, m, args, below, meth, cO, D, base, nL', μ0, rF, μF⟩ := X
  obtain ⟨⟨rfl, rfl, rfl⟩, hx, hb, hml, hown, hts, hr, hlk, hnm, hK⟩ := C
  subst hq
  refine ⟨h.1.bZ, fun ls H locs μ hl ok hf => ?_⟩
  obtain ⟨a, rfl, hkk, h2⟩ := b_Z_use hf
  obtain ⟨hk, hin⟩ := hkk.1
  obtain ⟨hba, hc⟩ := ok.1.arr hk (by omega)
  have hA : ArrOfT s (D.2.2 kd) .boolean := by rcases hkd with e | e <;> rw [e] <;> first | exact (hK.1.2 2 _ rfl).1 | exact (hK.1.2 8 _ rfl).1
  refine W.zast hx hb hc (hA _ _) (fun h => by cases h) (by rw [arrV_size]; exact hin) rfl rfl hd fun H1 e1 e2 e3 => ?_
  have hz : narrow .boolean (.int x) = .int x := by rcases hkk.2 with e | e <;> subst e <;> decide
  rw [hz] at e1
  refine h.2 ls H1 _ (u_I μ a i.toNatClampNeg x) hl (ok.put (ν := u_I μ a i.toNatClampNeg x) (ok.1.set e2 e3 rfl rfl rfl ?_ ?_ ?_ (fun _ => ?_)) e3 hba rfl rfl) h2
  · intro b j hb2; exact sn_up_ne _ _ _ _ hb2
  · intro b j hb2; rfl
  · intro b j hb2; rfl
  · unfold sn_Cell
    rw [show m_kd (u_I μ a i.toNatClampNeg x) a = kd from hk, if_neg (by omega), e1, arrV_store]
    congr 2
    funext j
    by_cases hj : j = i.toNatClampNeg
    · rcases hkd with e | e <;> subst e <;> simp [updV, sn_av, sn_up, hj, m_I, m_J, m_R, u_I]
    · rcases hkd with e | e <;> subst e <;> simp [updV, sn_av, sn_up, hj, m_I, m_J, m_R, u_I]
theorem b_J_use {c : Nat} {r : Option Nat} {i : Int32} {x : Int64} {K : sn_M} {μ : sn_Mem} {y : Option Value × sn_Mem} (h : b_J c r i x K μ = some y) : ∃ a, r = some a ∧ (m_kd μ a = c ∧ ¬ (i < 0 ∨ m_ln μ a ≤ i.toNatClampNeg)) ∧ K (u_J μ a i.toNatClampNeg x) = some y := by
  cases r with
  | none => cases h
  | some a =>
    by_cases hk : m_kd μ a = c ∧ ¬ (i < 0 ∨ m_ln μ a ≤ i.toNatClampNeg)
    · exact ⟨a, rfl, hk, by simpa only [b_J, hk, if_true, and_self, not_false_eq_true] using h⟩
    · simp only [b_J, hk, if_false] at h
      cases h
theorem sn_Mono.bJ {c : Nat} {r : Option Nat} {i : Int32} {x : Int64} {K : sn_M} (h : sn_Mono K) : sn_Mono (b_J c r i x K) := by
  intro μ y ν hf
  obtain ⟨a, -, -, h2⟩ := b_J_use hf
  have h3 := h _ _ _ h2
  exact h3
theorem r_bJ (C : sn_Cx X cc own ret nm nL fr lo) {r : Option Nat} {i : Int32} {x : Int64} {kd : Nat} (hkd : kd = 22 ∨ kd = 32) (hd : decode cc pc = .ok (.lastore, 1)) (hq : pc + 1 = q) (h : sn_S X q lv st f) : sn_S X pc lv (vJ x :: vI i :: vA r :: st) (b_J kd r i x f) := by
  obtain ⟨p, l, e, fr', lo', s, m, args, below, meth, cO, D, base, nL', μ0, rF, μF⟩ := X
  obtain ⟨⟨rfl, rfl, rfl⟩, hx, hb, hml, hown, hts, hr, hlk, hnm, hK⟩ := C
  subst hq
  refine ⟨h.1.bJ, fun ls H locs μ hl ok hf => ?_⟩
  obtain ⟨a, rfl, hkk, h2⟩ := b_J_use hf
  obtain ⟨hk, hin⟩ := hkk
  obtain ⟨hba, hc⟩ := ok.1.arr hk (by omega)
  have hA : ArrOfT s (D.2.2 kd) .long := by rcases hkd with e | e <;> rw [e] <;> first | exact (hK.1.2 1 _ rfl).1 | exact (hK.1.2 7 _ rfl).1
  refine W.last hx hb hc (hA _ _) (fun h => by cases h) (by rw [arrV_size]; exact hin) rfl rfl hd fun H1 e1 e2 e3 => ?_
  refine h.2 ls H1 _ (u_J μ a i.toNatClampNeg x) hl (ok.put (ν := u_J μ a i.toNatClampNeg x) (ok.1.set e2 e3 rfl rfl rfl ?_ ?_ ?_ (fun _ => ?_)) e3 hba rfl rfl) h2
  · intro b j hb2; rfl
  · intro b j hb2; exact sn_up_ne _ _ _ _ hb2
  · intro b j hb2; rfl
  · unfold sn_Cell
    rw [show m_kd (u_J μ a i.toNatClampNeg x) a = kd from hk, if_neg (by omega), e1, arrV_store]
    congr 2
    funext j
    by_cases hj : j = i.toNatClampNeg
    · rcases hkd with e | e <;> subst e <;> simp [updV, sn_av, sn_up, hj, m_I, m_J, m_R, u_J]
    · rcases hkd with e | e <;> subst e <;> simp [updV, sn_av, sn_up, hj, m_I, m_J, m_R, u_J]
theorem b_R_use {c d : Nat} {r : Option Nat} {i : Int32} {x : Option Nat} {K : sn_M} {μ : sn_Mem} {y : Option Value × sn_Mem} (h : b_R c d r i x K μ = some y) : ∃ a w, r = some a ∧ x = some w ∧ ((m_kd μ a = c ∧ ¬ (i < 0 ∨ m_ln μ a ≤ i.toNatClampNeg)) ∧ m_kd μ w = d) ∧ K (u_R μ a i.toNatClampNeg (some w)) = some y := by
  cases r with
  | none => cases h
  | some a => cases x with
    | none => cases h
    | some w =>
      by_cases hk : (m_kd μ a = c ∧ ¬ (i < 0 ∨ m_ln μ a ≤ i.toNatClampNeg)) ∧ m_kd μ w = d
      · exact ⟨a, w, rfl, rfl, hk, by simpa only [b_R, hk, if_true, and_self, not_false_eq_true] using h⟩
      · simp only [b_R, hk, if_false] at h
        cases h
theorem sn_Mono.bR {c d : Nat} {r : Option Nat} {i : Int32} {x : Option Nat} {K : sn_M} (h : sn_Mono K) : sn_Mono (b_R c d r i x K) := by
  intro μ y ν hf
  obtain ⟨a, w, -, -, -, h2⟩ := b_R_use hf
  have h3 := h _ _ _ h2
  exact h3
theorem r_bR (C : sn_Cx X cc own ret nm nL fr lo) {r : Option Nat} {i : Int32} {x : Option Nat} {kd tyi c1 N : Nat} {C0 : String} {T : u_T} (hkd : 23 < kd ∧ kd < 31) (hty : ∀ D : sn_D, (sn_tys D)[tyi]? = some (D.2.2 kd, .object C0)) (hc1 : sn_cls[c1]? = some (C0, T, N)) (hc20 : c1 < 20) (hd : decode cc pc = .ok (.aastore, 1)) (hq : pc + 1 = q) (h : sn_S X q lv st f) : sn_S X pc lv (vA x :: vI i :: vA r :: st) (b_R kd (c1 + 1) r i x f) := by
  obtain ⟨p, l, e, fr', lo', s, m, args, below, meth, cO, D, base, nL', μ0, rF, μF⟩ := X
  obtain ⟨⟨rfl, rfl, rfl⟩, hx, hb, hml, hown, hts, hr, hlk, hnm, hK⟩ := C
  subst hq
  refine ⟨h.1.bR, fun ls H locs μ hl ok hf => ?_⟩
  obtain ⟨a, w, rfl, rfl, ⟨⟨hk, hin⟩, hw⟩, h2⟩ := b_R_use hf
  obtain ⟨hba, hc⟩ := ok.1.arr hk (by omega)
  obtain ⟨-, cellV, g1, g2, g3, -⟩ := ok.1.obj hw hc20 hc1
  have hcls := (hK.1.1 c1 _ hc1).2
  obtain ⟨kA, comp, k1, k2, k3, -⟩ := (hK.1.2 tyi _ (hty D)).2
  have hcomp : comp = D.1 c1 := Option.some.inj (k3.symm.trans hcls.1)
  subst hcomp
  obtain ⟨kC, hkC, -⟩ := hcls.2
  have h0 : ¬ i < 0 := fun q => hin (Or.inl q)
  have hlt : i.toNatClampNeg < m_ln μ a := Nat.not_le.mp fun q => hin (Or.inr q)
  refine W.aast hx hb hc (fun q h => by cases h) (fun h => by cases h) k1 k2 rfl hkC ⟨h0, by rw [arrV_size]; exact hlt⟩ g1 (fun q h => by rw [g3] at h; cases h) (by rw [g2]; exact hkC) (by rw [g2]; exact va_assign hcls) rfl rfl hd fun H1 e1 e2 e3 => ?_
  refine h.2 ls H1 _ (u_R μ a i.toNatClampNeg (some w)) hl (ok.put (ν := u_R μ a i.toNatClampNeg (some w)) (ok.1.set e2 e3 rfl rfl rfl ?_ ?_ ?_ (fun _ => ?_)) e3 hba rfl rfl) h2
  · intro b j hb2; rfl
  · intro b j hb2; rfl
  · intro b j hb2; exact sn_up_ne _ _ _ _ hb2
  · unfold sn_Cell
    rw [show m_kd (u_R μ a i.toNatClampNeg (some w)) a = kd from hk, if_neg (by omega), e1, arrV_store]
    congr 2
    funext j
    have e1 : ∀ (ν : sn_Mem) (j : Nat), sn_av ν kd a j = va_rf (m_R ν a j) := by
      intro ν j
      unfold sn_av
      split <;> first | omega | rfl
    rw [e1]
    by_cases hj : j = i.toNatClampNeg
    · simp [updV, sn_up, hj, m_R, u_R, va_rf]
    · simp [updV, e1, sn_up, hj, m_R, u_R]
theorem a_len_use {c : Nat} {r : Option Nat} {K : Int32 → sn_M} {μ : sn_Mem} {x : Option Value × sn_Mem} (h : a_len c r K μ = some x) : ∃ a, r = some a ∧ m_kd μ a = c ∧ K ((m_ln μ a).toInt32) μ = some x := by
  cases r with
  | none => cases h
  | some a =>
    by_cases hk : m_kd μ a = c
    · exact ⟨a, rfl, hk, by simpa only [a_len, hk, if_true] using h⟩
    · simp [a_len, hk] at h
theorem sn_Mono.alen {c : Nat} {r : Option Nat} {K : Int32 → sn_M} (h : ∀ v, sn_Mono (K v)) : sn_Mono (a_len c r K) := by
  intro μ x ν hf
  obtain ⟨a, -, -, h2⟩ := a_len_use hf
  exact h _ μ x ν h2
theorem r_alen (C : sn_Cx X cc own ret nm nL fr lo) {r : Option Nat} {K : Int32 → sn_M} {kd tyi : Nat} {ty : FieldType} (hkd : 20 < kd) (hty : ∀ D : sn_D, (sn_tys D)[tyi]? = some (D.2.2 kd, ty)) (hd : decode cc pc = .ok (.arraylength, 1)) (hq : pc + 1 = q) (h : ∀ v, sn_S X q lv (vI v :: st) (K v)) : sn_S X pc lv (vA r :: st) (a_len kd r K) := by
  obtain ⟨p, l, e, fr', lo', s, m, args, below, meth, cO, D, base, nL', μ0, rF, μF⟩ := X
  obtain ⟨⟨rfl, rfl, rfl⟩, hx, hb, hml, hown, hts, hr, hlk, hnm, hK⟩ := C
  subst hq
  refine ⟨sn_Mono.alen (fun v => (h v).1), fun ls H locs μ hl ok hf => ?_⟩
  obtain ⟨a, rfl, hk, h2⟩ := a_len_use hf
  obtain ⟨hba, hc⟩ := ok.1.arr hk (by omega)
  have hA : ArrOfT s (D.2.2 kd) ty := (hK.1.2 tyi _ (hty D)).1
  exact W.alen hx hb hc (hA _ _) (by rw [arrV_size]) rfl rfl hd ((h _).2 ls H locs μ hl ok h2)
theorem r_vret (C : sn_Cx X cc own ret nm nL fr lo) (hd : decode cc pc = .ok (.return_, 1)) (hr0 : ret = none) : sn_S X pc lv [] r_V := by
  obtain ⟨p, l, e, fr', lo', s, m, args, below, meth, cO, D, base, nL', μ0, rF, μF⟩ := X
  obtain ⟨⟨rfl, rfl, rfl⟩, hx, hb, hml, hown, hts, hr, hlk, hnm, hK⟩ := C
  refine ⟨fun μ r ν h => by cases h; exact ⟨Nat.le_refl _, Nat.le_refl _⟩, fun ls H locs μ hl ok hf => ?_⟩
  cases hf
  exact W.vret hx hb (hr.trans hr0) (fun t ht _ => ⟨rfl, by rw [ht]; exact ok.1, fun q hq => by rw [ht]; exact ok.2.1 q hq⟩) ok.2.2.1 hd hlk
theorem r_iret (C : sn_Cx X cc own ret nm nL fr lo) {v : Int32} (hd : decode cc pc = .ok (.ireturn, 1)) (hr0 : ret = some .int) : sn_S X pc lv [vI v] (r_I v) := by
  obtain ⟨p, l, e, fr', lo', s, m, args, below, meth, cO, D, base, nL', μ0, rF, μF⟩ := X
  obtain ⟨⟨rfl, rfl, rfl⟩, hx, hb, hml, hown, hts, hr, hlk, hnm, hK⟩ := C
  refine ⟨fun μ r ν h => by cases h; exact ⟨Nat.le_refl _, Nat.le_refl _⟩, fun ls H locs μ hl ok hf => ?_⟩
  cases hf
  exact W.iret hx hb (hr.trans hr0) (fun t ht _ => ⟨rfl, by rw [ht]; exact ok.1, fun q hq => by rw [ht]; exact ok.2.1 q hq⟩) ok.2.2.1 hd hlk
theorem r_lret (C : sn_Cx X cc own ret nm nL fr lo) {v : Int64} (hd : decode cc pc = .ok (.lreturn, 1)) (hr0 : ret = some .long) : sn_S X pc lv [vJ v] (r_J v) := by
  obtain ⟨p, l, e, fr', lo', s, m, args, below, meth, cO, D, base, nL', μ0, rF, μF⟩ := X
  obtain ⟨⟨rfl, rfl, rfl⟩, hx, hb, hml, hown, hts, hr, hlk, hnm, hK⟩ := C
  refine ⟨fun μ r ν h => by cases h; exact ⟨Nat.le_refl _, Nat.le_refl _⟩, fun ls H locs μ hl ok hf => ?_⟩
  cases hf
  exact W.lret hx hb (hr.trans hr0) (fun t ht _ => ⟨rfl, by rw [ht]; exact ok.1, fun q hq => by rw [ht]; exact ok.2.1 q hq⟩) ok.2.2.1 hd hlk
theorem r_Z_use {v : Int32} {μ : sn_Mem} {x : Option Value × sn_Mem} (h : r_Z v μ = some x) : (v = 0 ∨ v = 1) ∧ x = (some (.int v), μ) := by
  by_cases hv : v = 0 ∨ v = 1
  · simp only [r_Z, hv, if_true] at h
    exact ⟨hv, (Option.some.inj h).symm⟩
  · simp only [r_Z, hv, if_false] at h
    cases h
theorem r_zret (C : sn_Cx X cc own ret nm nL fr lo) {v : Int32} (hd : decode cc pc = .ok (.ireturn, 1)) (hr0 : ret = some .boolean) : sn_S X pc lv [vI v] (r_Z v) := by
  obtain ⟨p, l, e, fr', lo', s, m, args, below, meth, cO, D, base, nL', μ0, rF, μF⟩ := X
  obtain ⟨⟨rfl, rfl, rfl⟩, hx, hb, hml, hown, hts, hr, hlk, hnm, hK⟩ := C
  refine ⟨fun μ r ν h => by obtain ⟨-, e⟩ := r_Z_use h; cases e; exact ⟨Nat.le_refl _, Nat.le_refl _⟩, fun ls H locs μ hl ok hf => ?_⟩
  obtain ⟨hv, e⟩ := r_Z_use hf
  cases e
  have hz : narrow .boolean (.int v) = .int v := by rcases hv with e | e <;> subst e <;> decide
  exact W.zret hx hb (hr.trans hr0) hz (fun t ht _ => ⟨rfl, by rw [ht]; exact ok.1, fun q hq => by rw [ht]; exact ok.2.1 q hq⟩) ok.2.2.1 hd hlk
theorem r_aret (C : sn_Cx X cc own ret nm nL fr lo) {v : Option Nat} {rt : FieldType} (hd : decode cc pc = .ok (.areturn, 1)) (hr0 : ret = some rt) (hrt : (∃ n, rt = .object n) ∨ ∃ t, rt = .array t) : sn_S X pc lv [vA v] (r_R v) := by
  obtain ⟨p, l, e, fr', lo', s, m, args, below, meth, cO, D, base, nL', μ0, rF, μF⟩ := X
  obtain ⟨⟨rfl, rfl, rfl⟩, hx, hb, hml, hown, hts, hr, hlk, hnm, hK⟩ := C
  refine ⟨fun μ r ν h => by cases h; exact ⟨Nat.le_refl _, Nat.le_refl _⟩, fun ls H locs μ hl ok hf => ?_⟩
  cases hf
  exact W.aret hx hb (hr.trans hr0) hrt (va_rf_or v) (fun t ht _ => ⟨rfl, by rw [ht]; exact ok.1, fun q hq => by rw [ht]; exact ok.2.1 q hq⟩) ok.2.2.1 hd hlk
end Rules2
