/-! rules that touch the memory -/
def sn_ok (ty : FieldType) (n : Nat) : Prop := match ty with
  | .int => n = 0
  | .boolean => n = 0
  | .long => n = 1
  | .object _ => n = 2
  | .array _ => n = 2
  | _ => False
def sn_CF (c : Nat) (C : String) (T : u_T) (N : Nat) (tyf : Nat → FieldType) : Prop := sn_cls[c]? = some (C, T, N) ∧ c < 20 ∧ (∀ w ∈ u_ws C T N, w ∈ sn_tbl) ∧ (∀ k, k < N → parseFieldDescriptor (T k).2.2.1 = some (tyf k)) ∧ (∀ a, a < N → ∀ b, b < N → a ≠ b → (T a).2.1 ≠ (T b).2.1) ∧ ∀ k, k < N → sn_ok (tyf k) (sn_ft c k)
def sn_F (own : String) (idx c k : Nat) (fin : Bool) (ty : FieldType) : Prop := ∃ (C : String) (T : u_T) (N : Nat) (tyf : Nat → FieldType), sn_CF c C T N tyf ∧ k < N ∧ (T k).1 = C ∧ (T k).2.2.2 = fin ∧ tyf k = ty ∧ Cond.fieldLink own idx C (T k).2.1 (T k).2.2.1 ∈ sn_tbl
theorem sn_Rep.obj {D : sn_D} {base : Nat} {μ : sn_Mem} {H : Heap} (h : sn_Rep D base μ H) {a c : Nat} (hk : m_kd μ a = c + 1) (hc : c < 20) {C : String} {T : u_T} {N : Nat} (hq : sn_cls[c]? = some (C, T, N)) :
    base ≤ a ∧ ∃ cell : Cell, H[a]? = some cell ∧ cell.cls = D.1 c ∧ cell.vm = .none ∧ ∀ j, j < N → cell.slots[D.2.1 c j]? = some (sn_fv μ a c j) := by
  obtain ⟨h1, h2⟩ := h.2 a (by omega)
  refine ⟨h1, ?_⟩
  unfold sn_Cell at h2
  rw [hk, if_pos (by omega)] at h2
  obtain ⟨q, e, cell, g1, g2, g3, g4⟩ := h2
  have e1 : q = (C, T, N) := Option.some.inj (e.symm.trans hq)
  subst e1
  exact ⟨cell, g1, g2, g3, g4⟩
theorem sn_Rep.arr {D : sn_D} {base : Nat} {μ : sn_Mem} {H : Heap} (h : sn_Rep D base μ H) {a c : Nat} (hk : m_kd μ a = c) (hc : 20 < c) : base ≤ a ∧ H[a]? = some (arrV (D.2.2 c) (m_ln μ a) (sn_av μ c a)) := by
  obtain ⟨h1, h2⟩ := h.2 a (by omega)
  refine ⟨h1, ?_⟩
  unfold sn_Cell at h2
  rw [hk, if_neg (by omega)] at h2
  exact h2
theorem sn_Cell.lt {D : sn_D} {μ : sn_Mem} {H : Heap} {a : Nat} (h : sn_Cell D μ a H) : a < H.size := by
  unfold sn_Cell at h
  split at h
  · obtain ⟨q, e, cell, g1, -⟩ := h
    exact (Array.getElem?_eq_some_iff.mp g1).1
  · exact (Array.getElem?_eq_some_iff.mp h).1
theorem sn_Rep.lt {D : sn_D} {base : Nat} {μ : sn_Mem} {H : Heap} (h : sn_Rep D base μ H) {a : Nat} (hk : m_kd μ a ≠ 0) : a < m_sz μ := by
  rw [← h.1]
  exact (h.2 a hk).2.lt
theorem sn_Cell.other {D : sn_D} {μ ν : sn_Mem} {H H1 : Heap} {b : Nat} (h : sn_Cell D μ b H) (hH : H1[b]? = H[b]?) (hk : m_kd ν b = m_kd μ b) (hl : m_ln ν b = m_ln μ b) (hI : ∀ j, m_I ν b j = m_I μ b j) (hJ : ∀ j, m_J ν b j = m_J μ b j) (hR : ∀ j, m_R ν b j = m_R μ b j) : sn_Cell D ν b H1 := by
  unfold sn_Cell at h ⊢
  have e1 : ∀ c j, sn_fv ν b c j = sn_fv μ b c j := fun c j => by simp only [sn_fv, hI, hJ, hR]
  have e2 : ∀ k, sn_av ν k b = sn_av μ k b := fun k => by funext j; simp only [sn_av, hI, hJ, hR]
  rw [hk, hl]
  split at h
  · rename_i hc
    rw [if_pos hc]
    obtain ⟨q, e, g⟩ := h
    exact ⟨q, e, (g.kept hH).to (fun k _ => (e1 _ k).symm)⟩
  · rename_i hc
    rw [if_neg hc, e2, hH]
    exact h
/-- one cell is written -/
theorem sn_Rep.set {D : sn_D} {base : Nat} {μ ν : sn_Mem} {H H1 : Heap} {a : Nat} (h : sn_Rep D base μ H) (hz : H1.size = H.size) (ho : ∀ q, q ≠ a → H1[q]? = H[q]?) (hs : m_sz ν = m_sz μ) (hk : m_kd ν = m_kd μ) (hl : m_ln ν = m_ln μ)
    (hI : ∀ b j, b ≠ a → m_I ν b j = m_I μ b j) (hJ : ∀ b j, b ≠ a → m_J ν b j = m_J μ b j) (hR : ∀ b j, b ≠ a → m_R ν b j = m_R μ b j) (ha : m_kd μ a ≠ 0 → sn_Cell D ν a H1) : sn_Rep D base ν H1 := by
  refine ⟨by rw [hz, hs]; exact h.1, fun b hb => ?_⟩
  rw [hk] at hb
  refine ⟨(h.2 b hb).1, ?_⟩
  by_cases e : b = a
  · subst e; exact ha hb
  · exact (h.2 b hb).2.other (ho b e) (by rw [hk]) (by rw [hl]) (fun j => hI b j e) (fun j => hJ b j e) (fun j => hR b j e)
theorem sn_up_same {α : Type} (f : Nat → Nat → α) (a k : Nat) (v : α) : sn_up f a k v a k = v := by simp [sn_up]
theorem sn_up_ne {α : Type} (f : Nat → Nat → α) {a b : Nat} (k j : Nat) (v : α) (h : b ≠ a) : sn_up f a k v b j = f b j := by simp [sn_up, h]
theorem sn_up_nk {α : Type} (f : Nat → Nat → α) (a b : Nat) {k j : Nat} (v : α) (h : j ≠ k) : sn_up f a k v b j = f b j := by simp [sn_up, h]
theorem sn_fv_I {μ : sn_Mem} {a c k : Nat} (v : Int32) (h : sn_ft c k = 0) (j : Nat) : updV (sn_fv μ a c) k (.int v) j = sn_fv (u_I μ a k v) a c j := by
  by_cases e : j = k
  · subst e; simp [updV, sn_fv, h, sn_up, m_I, m_J, m_R, u_I, u_J, u_R]
  · simp [updV, sn_fv, sn_up, e, m_I, m_J, m_R, u_I, u_J, u_R]
theorem sn_fv_J {μ : sn_Mem} {a c k : Nat} (v : Int64) (h : sn_ft c k = 1) (j : Nat) : updV (sn_fv μ a c) k (.long v) j = sn_fv (u_J μ a k v) a c j := by
  by_cases e : j = k
  · subst e; simp [updV, sn_fv, h, sn_up, m_I, m_J, m_R, u_I, u_J, u_R]
  · simp [updV, sn_fv, sn_up, e, m_I, m_J, m_R, u_I, u_J, u_R]
theorem sn_fv_R {μ : sn_Mem} {a c k : Nat} (v : Option Nat) (h : sn_ft c k = 2) (j : Nat) : updV (sn_fv μ a c) k (va_rf v) j = sn_fv (u_R μ a k v) a c j := by
  by_cases e : j = k
  · subst e; simp [updV, sn_fv, h, sn_up, m_I, m_J, m_R, u_I, u_J, u_R]
  · simp [updV, sn_fv, sn_up, e, m_I, m_J, m_R, u_I, u_J, u_R]
section Mem1
variable {p : Program} {l : Launch} {e : Env} {R : Room} {s : State} {m : MethodId} {args : Array Value} {below : List Frame} {meth : Method} {c0 : Code} {H : Heap} {locs : List Loc} {cells slots : Nat} {Q : State → Prop}
variable {cc : ByteArray} {pc : Nat} {ls : Array Slot} {rest : List Value} {D : sn_D} {base : Nat} {μ : sn_Mem} {own : String} {idx c k a : Nat} {fin : Bool} {ty : FieldType}
theorem sn_get (hx : p.tables.exec = Jvm.exec) (hb : c0.code = cc) (hown : s.vm.findClass own = some m.cls) (hts : ∀ w ∈ sn_tbl, w.before args s = true) (hK : sn_K D s) (hF : sn_F own idx c k fin ty) (h : sn_Rep D base μ H) (hk : m_kd μ a = c + 1) (hd : decode cc pc = .ok (.getfield idx, 3))
    (kk : W p l e R s m args below meth c0 H locs cells slots Q (F0 m (pc + 3) ls (sn_fv μ a c k :: rest))) : W p l e R s m args below meth c0 H locs cells slots Q (F0 m pc ls (.ref a :: rest)) := by
  obtain ⟨C, T, N, tyf, ⟨hc, hc20, hin, hty, hnm, hft⟩, hkN, hT1, hfin, htk, hlink⟩ := hF
  obtain ⟨-, cell, q1, q2, q3, q4⟩ := h.obj hk hc20 hc
  obtain ⟨hS, hfc, kC, hkC, hkind⟩ := hK.1.1 c _ hc
  obtain ⟨cf, kf, fi, f, hi, hsl⟩ := hS k hkN
  have hst := (u_facts hfc hkC (u_lays hts hin hkN) hi).1
  rw [hT1] at hi
  refine W.getf hx hb hown (hts _ hlink) hi hst q1 (by rw [q3]; exact fun h => by cases h) (v := sn_fv μ a c k) ?_ rfl rfl hd kk
  rw [hsl]
  exact q4 k hkN
theorem sn_put (hx : p.tables.exec = Jvm.exec) (hb : c0.code = cc) (hown : s.vm.findClass own = some m.cls) (hts : ∀ w ∈ sn_tbl, w.before args s = true) (hK : sn_K D s) (hF : sn_F own idx c k fin ty) (hi2 : fin = false ∨ (meth.name = "<init>" ∧ ∃ T N, sn_cls[c]? = some (own, T, N))) (h : sn_Rep D base μ H) (hk : m_kd μ a = c + 1) {v : Value} (hn : narrow ty v = v) (hfit : fits ty v = true) (hd : decode cc pc = .ok (.putfield idx, 3))
    {ν : sn_Mem} (hs : m_sz ν = m_sz μ) (hkd : m_kd ν = m_kd μ) (hl : m_ln ν = m_ln μ) (hI : ∀ b j, b ≠ a → m_I ν b j = m_I μ b j) (hJ : ∀ b j, b ≠ a → m_J ν b j = m_J μ b j) (hR : ∀ b j, b ≠ a → m_R ν b j = m_R μ b j) (hv : ∀ j, updV (sn_fv μ a c) k v j = sn_fv ν a c j)
    (kk : ∀ (H1 : Heap) (i : Nat), sn_Rep D base ν H1 → (∀ q, q ≠ a → H1[q]? = H[q]?) → base ≤ a → W p l e R s m args below meth c0 H1 (locs ++ [⟨a, i⟩]) cells slots Q (F0 m (pc + 3) ls rest)) : W p l e R s m args below meth c0 H locs cells slots Q (F0 m pc ls (v :: .ref a :: rest)) := by
  obtain ⟨C, T, N, tyf, ⟨hc, hc20, hin, hty, hnm, hft⟩, hkN, hT1, hfin, htk, hlink⟩ := hF
  obtain ⟨hba, cell, q1, q2, q3, q4⟩ := h.obj hk hc20 hc
  have hap := va_apart (own := own) hts hin tyf hty hnm hK.1 hc
  obtain ⟨hS, hfc, kC, hkC, hkind⟩ := hK.1.1 c _ hc
  obtain ⟨cf, kf, fi, f, hi, hsl⟩ := hS k hkN
  have hst := (u_facts hfc hkC (u_lays hts hin hkN) hi).1
  have hlay := hts _ (hin _ (u_in_lay hkN))
  unfold u_lay at hlay
  have hpd : parseFieldDescriptor (T k).2.2.1 = some ty := by rw [← htk]; exact hty k hkN
  have fin_of : ∀ H1 : Heap, H1[a]? = some (cell.setSlot (D.2.1 c k) v) → H1.size = H.size → (∀ q, q ≠ a → H1[q]? = H[q]?) → sn_Rep D base ν H1 := by
    intro H1 e1 e2 e3
    refine h.set e2 e3 hs hkd hl hI hJ hR (fun _ => ?_)
    unfold sn_Cell
    rw [hkd, hk, if_pos (by omega)]
    exact ⟨_, hc, t_OB.to (V := updV (sn_fv μ a c) k v) ⟨_, e1, q2, q3, t_set q4 hap hkN v⟩ (fun j _ => hv j)⟩
  cases fin with
  | false =>
    rw [if_neg (by rw [hfin]; decide)] at hlay
    have h6 := u_store hfc hkC hkind hlay hi hpd hn hfit
    rw [hT1] at hi
    refine W.putK hx hb (f := f) ⟨hown, hts _ hlink, ⟨_, _, _, hi⟩, hst⟩ (by rw [q2]; exact h6) q1 q3 (by rw [hsl]; exact k2_hasslot (q4 k hkN)) rfl rfl hd fun H1 e1 e2 e3 => ?_
    rw [hsl] at e1
    exact kk H1 f.slot (fin_of H1 e1 e2 e3) e3 hba
  | true =>
    rcases hi2 with h0 | ⟨hin2, T', N', hc'⟩
    · cases h0
    · have hC : C = own := by
        have := Option.some.inj (hc.symm.trans hc')
        exact congrArg Prod.fst this
      rw [if_pos hfin] at hlay
      have hcf : m.cls = cf := by
        obtain ⟨_, _, c', _, _, _, -, -, hf', -, -, -, hown2, -⟩ := Cond.laysFinal_spec hlay
        have e1 : c' = cf := by have := hi.symm.trans hf'; simp at this; exact this.1.symm
        rw [hT1, hC] at hown2
        rw [← e1]; exact Option.some.inj (hown.symm.trans hown2)
      have h6 := u_fits hfc hkC hkind (Or.inr hlay) hi hpd hn hfit
      rw [hT1] at hi
      refine W.putFinK hx hb hown (hts _ hlink) hi hst hcf hin2 (by rw [q2]; exact h6) q1 q3 (by rw [hsl]; exact k2_hasslot (q4 k hkN)) rfl rfl hd fun H1 e1 e2 e3 => ?_
      rw [hsl] at e1
      exact kk H1 f.slot (fin_of H1 e1 e2 e3) e3 hba
end Mem1
