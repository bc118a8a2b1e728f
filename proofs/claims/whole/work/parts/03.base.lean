/-! the memory, its programs, and what it is for the machine to follow one of them -/
abbrev sn_V : Type := Int32 ⊕ (Int64 ⊕ Option Nat)
abbrev vI (x : Int32) : sn_V := .inl x
abbrev vJ (x : Int64) : sn_V := .inr (.inl x)
abbrev vA (r : Option Nat) : sn_V := .inr (.inr r)
def sn_v : sn_V → Value
  | .inl x => .int x
  | .inr (.inl x) => .long x
  | .inr (.inr r) => va_rf r
def sn_c : sn_V → Nat
  | .inl _ => 1
  | .inr (.inl _) => 2
  | .inr (.inr _) => 1
theorem sn_vc (v : sn_V) : (sn_v v).category = sn_c v := by
  rcases v with x | x | _ | r <;> rfl
abbrev sn_L : Type := List (Nat × sn_V)
def sn_lv (l : sn_L) : List (Nat × Value) := l.map (fun q => (q.1, sn_v q.2))
def sn_s1 (i : Nat) (v : sn_V) (l : sn_L) : sn_L := (i, v) :: l.filter (fun q => !(q.1 == i) && !(q.1 + 1 == i && sn_c q.2 == 2))
def sn_s2 (i : Nat) (v : sn_V) (l : sn_L) : sn_L := (i, v) :: l.filter (fun q => !(q.1 == i) && (!(q.1 == i + 1) && !(q.1 + 1 == i && sn_c q.2 == 2)))
theorem sn_s1_eq (i : Nat) (v : sn_V) (l : sn_L) : (i, sn_v v) :: (sn_lv l).filter (fun q => !(q.1 == i) && !(q.1 + 1 == i && q.2.category == 2)) = sn_lv (sn_s1 i v l) := by
  simp only [sn_lv, sn_s1, List.map_cons, List.filter_map, Function.comp_def, sn_vc]
theorem sn_s2_eq (i : Nat) (v : sn_V) (l : sn_L) : (i, sn_v v) :: (sn_lv l).filter (fun q => !(q.1 == i) && (!(q.1 == i + 1) && !(q.1 + 1 == i && q.2.category == 2))) = sn_lv (sn_s2 i v l) := by
  simp only [sn_lv, sn_s2, List.map_cons, List.filter_map, Function.comp_def, sn_vc]
theorem sn_lv_at {ls : Array Slot} {nL k i : Nat} {lv : sn_L} {v : sn_V} (h : lv_has ls nL (sn_lv lv)) (hk : lv[k]? = some (i, v)) : ls[i]? = some (.val (sn_v v)) :=
  lv_at h k (by simp [sn_lv, hk])
/-- size, slots used, kinds, lengths, ints, longs, references -/
abbrev sn_Mem : Type := Nat × Nat × (Nat → Nat) × (Nat → Nat) × (Nat → Nat → Int32) × (Nat → Nat → Int64) × (Nat → Nat → Option Nat)
abbrev m_sz (μ : sn_Mem) : Nat := μ.1
abbrev m_us (μ : sn_Mem) : Nat := μ.2.1
abbrev m_kd (μ : sn_Mem) : Nat → Nat := μ.2.2.1
abbrev m_ln (μ : sn_Mem) : Nat → Nat := μ.2.2.2.1
abbrev m_I (μ : sn_Mem) : Nat → Nat → Int32 := μ.2.2.2.2.1
abbrev m_J (μ : sn_Mem) : Nat → Nat → Int64 := μ.2.2.2.2.2.1
abbrev m_R (μ : sn_Mem) : Nat → Nat → Option Nat := μ.2.2.2.2.2.2
def sn_up {α : Type} (f : Nat → Nat → α) (a k : Nat) (v : α) : Nat → Nat → α := fun b j => if b = a then if j = k then v else f b j else f b j
abbrev u_I (μ : sn_Mem) (a k : Nat) (v : Int32) : sn_Mem := (m_sz μ, m_us μ, m_kd μ, m_ln μ, sn_up (m_I μ) a k v, m_J μ, m_R μ)
abbrev u_J (μ : sn_Mem) (a k : Nat) (v : Int64) : sn_Mem := (m_sz μ, m_us μ, m_kd μ, m_ln μ, m_I μ, sn_up (m_J μ) a k v, m_R μ)
abbrev u_R (μ : sn_Mem) (a k : Nat) (v : Option Nat) : sn_Mem := (m_sz μ, m_us μ, m_kd μ, m_ln μ, m_I μ, m_J μ, sn_up (m_R μ) a k v)
/-- a new cell of kind c, with n slots -/
abbrev u_N (μ : sn_Mem) (c n : Nat) : sn_Mem := (m_sz μ + 1, m_us μ + n, fun b => if b = m_sz μ then c else m_kd μ b, fun b => if b = m_sz μ then n else m_ln μ b, fun b j => if b = m_sz μ then 0 else m_I μ b j, fun b j => if b = m_sz μ then 0 else m_J μ b j, fun b j => if b = m_sz μ then none else m_R μ b j)
abbrev sn_M : Type := sn_Mem → Option (Option Value × sn_Mem)
/-- the answers -/
def r_V : sn_M := fun μ => some (none, μ)
def r_I (v : Int32) : sn_M := fun μ => some (some (.int v), μ)
def r_Z (v : Int32) : sn_M := fun μ => if v = 0 ∨ v = 1 then some (some (.int v), μ) else none
def r_J (v : Int64) : sn_M := fun μ => some (some (.long v), μ)
def r_R (v : Option Nat) : sn_M := fun μ => some (some (va_rf v), μ)
/-- fields -/
def g_I (c k : Nat) (r : Option Nat) (K : Int32 → sn_M) : sn_M := fun μ => match r with
  | none => none
  | some a => if m_kd μ a = c then K (m_I μ a k) μ else none
def g_J (c k : Nat) (r : Option Nat) (K : Int64 → sn_M) : sn_M := fun μ => match r with
  | none => none
  | some a => if m_kd μ a = c then K (m_J μ a k) μ else none
def g_R (c k : Nat) (r : Option Nat) (K : Option Nat → sn_M) : sn_M := fun μ => match r with
  | none => none
  | some a => if m_kd μ a = c then K (m_R μ a k) μ else none
def p_I (c k : Nat) (r : Option Nat) (v : Int32) (K : sn_M) : sn_M := fun μ => match r with
  | none => none
  | some a => if m_kd μ a = c then K (u_I μ a k v) else none
def p_Z (c k : Nat) (r : Option Nat) (v : Int32) (K : sn_M) : sn_M := fun μ => match r with
  | none => none
  | some a => if m_kd μ a = c ∧ (v = 0 ∨ v = 1) then K (u_I μ a k v) else none
def p_J (c k : Nat) (r : Option Nat) (v : Int64) (K : sn_M) : sn_M := fun μ => match r with
  | none => none
  | some a => if m_kd μ a = c then K (u_J μ a k v) else none
def p_R (c k : Nat) (r : Option Nat) (v : Option Nat) (K : sn_M) : sn_M := fun μ => match r with
  | none => none
  | some a => if m_kd μ a = c then K (u_R μ a k v) else none
/-- arrays: kinds 21, 31 int, 22, 32 long, 23, 33 boolean (the second ones: the reference's), 24 to 26 of references -/
def a_I (c : Nat) (r : Option Nat) (i : Int32) (K : Int32 → sn_M) : sn_M := fun μ => match r with
  | none => none
  | some a => if m_kd μ a = c ∧ ¬ (i < 0 ∨ m_ln μ a ≤ i.toNatClampNeg) then K (m_I μ a i.toNatClampNeg) μ else none
def a_J (c : Nat) (r : Option Nat) (i : Int32) (K : Int64 → sn_M) : sn_M := fun μ => match r with
  | none => none
  | some a => if m_kd μ a = c ∧ ¬ (i < 0 ∨ m_ln μ a ≤ i.toNatClampNeg) then K (m_J μ a i.toNatClampNeg) μ else none
def a_R (c : Nat) (r : Option Nat) (i : Int32) (K : Option Nat → sn_M) : sn_M := fun μ => match r with
  | none => none
  | some a => if m_kd μ a = c ∧ ¬ (i < 0 ∨ m_ln μ a ≤ i.toNatClampNeg) then K (m_R μ a i.toNatClampNeg) μ else none
def b_I (c : Nat) (r : Option Nat) (i : Int32) (v : Int32) (K : sn_M) : sn_M := fun μ => match r with
  | none => none
  | some a => if m_kd μ a = c ∧ ¬ (i < 0 ∨ m_ln μ a ≤ i.toNatClampNeg) then K (u_I μ a i.toNatClampNeg v) else none
def b_Z (c : Nat) (r : Option Nat) (i : Int32) (v : Int32) (K : sn_M) : sn_M := fun μ => match r with
  | none => none
  | some a => if (m_kd μ a = c ∧ ¬ (i < 0 ∨ m_ln μ a ≤ i.toNatClampNeg)) ∧ (v = 0 ∨ v = 1) then K (u_I μ a i.toNatClampNeg v) else none
def b_J (c : Nat) (r : Option Nat) (i : Int32) (v : Int64) (K : sn_M) : sn_M := fun μ => match r with
  | none => none
  | some a => if m_kd μ a = c ∧ ¬ (i < 0 ∨ m_ln μ a ≤ i.toNatClampNeg) then K (u_J μ a i.toNatClampNeg v) else none
/-- the stored object is of the kind d -/
def b_R (c d : Nat) (r : Option Nat) (i : Int32) (v : Option Nat) (K : sn_M) : sn_M := fun μ => match r, v with
  | some a, some w => if (m_kd μ a = c ∧ ¬ (i < 0 ∨ m_ln μ a ≤ i.toNatClampNeg)) ∧ m_kd μ w = d then K (u_R μ a i.toNatClampNeg (some w)) else none
  | _, _ => none
def a_len (c : Nat) (r : Option Nat) (K : Int32 → sn_M) : sn_M := fun μ => match r with
  | none => none
  | some a => if m_kd μ a = c then K ((m_ln μ a).toInt32) μ else none
/-- makings -/
def n_O (c n : Nat) (K : Option Nat → sn_M) : sn_M := fun μ => K (some (m_sz μ)) (u_N μ c n)
def n_A (c : Nat) (n : Int32) (K : Option Nat → sn_M) : sn_M := fun μ => if ¬ n < 0 ∧ n.toNatClampNeg ≤ 10000 then K (some (m_sz μ)) (u_N μ c n.toNatClampNeg) else none
/-- a division's test -/
def n_D (y : Int32) (K : sn_M) : sn_M := fun μ => if y = 0 then none else K μ
/-- a reference to an object of kind c -/
def n_n (c : Nat) (r : Option Nat) (K : Nat → sn_M) : sn_M := fun μ => match r with
  | none => none
  | some a => if m_kd μ a = c then K a μ else none
/-- a value is named -/
def n_I (v : Int32) (K : Int32 → sn_M) : sn_M := K v
def n_J (v : Int64) (K : Int64 → sn_M) : sn_M := K v
/-- calls -/
def c_V (f K : sn_M) : sn_M := fun μ => match f μ with
  | some (none, ν) => K ν
  | _ => none
def c_I (f : sn_M) (K : Int32 → sn_M) : sn_M := fun μ => match f μ with
  | some (some (.int v), ν) => K v ν
  | _ => none
def c_J (f : sn_M) (K : Int64 → sn_M) : sn_M := fun μ => match f μ with
  | some (some (.long v), ν) => K v ν
  | _ => none
def c_R (f : sn_M) (K : Option Nat → sn_M) : sn_M := fun μ => match f μ with
  | some (some .null, ν) => K none ν
  | some (some (.ref a), ν) => K (some a) ν
  | _ => none
/-- nothing -/
def r_0 : sn_M := fun _ => none
def sn_Mono (f : sn_M) : Prop := ∀ μ r ν, f μ = some (r, ν) → m_sz μ ≤ m_sz ν ∧ m_us μ ≤ m_us ν
/-- the classes' numbers, their slots, the arrays' classes -/
abbrev sn_D : Type := (Nat → ClassId) × (Nat → Nat → Nat) × (Nat → ClassId)
def sn_tys (D : sn_D) : List (ClassId × FieldType) := [(D.2.2 21, .int), (D.2.2 22, .long), (D.2.2 23, .boolean), (D.2.2 24, .object sn_e24), (D.2.2 25, .object sn_e25), (D.2.2 26, .object sn_e26), (D.2.2 31, .int), (D.2.2 32, .long), (D.2.2 33, .boolean)]
def sn_K (D : sn_D) (U : State) : Prop := va_K (D.1, D.2.1) sn_cls (sn_tys D) U ∧ (va_AO sn_e24 U ∧ va_AO sn_e25 U ∧ va_AO sn_e26 U) ∧ va_Nw (.methodLinkNest R11 11 sn_y1 "SignalNetwork") U ∧ va_Nw (.methodLinkNest R1 11 sn_y2 "SignalNetwork") U
theorem sn_K.moved {D : sn_D} {s U : State} (hW : s.WarmedH U.vm) (h : sn_K D s) : sn_K D U :=
  ⟨va_K.moved hW.alike h.1, ⟨va_AO.moved hW.alike h.2.1.1, va_AO.moved hW.alike h.2.1.2.1, va_AO.moved hW.alike h.2.1.2.2⟩, va_Nw.warmM hW h.2.2.1, va_Nw.warmM hW h.2.2.2⟩
theorem sn_K.same {D : sn_D} {u U : State} (e : u.vm = U.vm) (h : sn_K D u) : sn_K D U :=
  have hA : u.vm.Alike U.vm := e ▸ Vm.Alike.refl u.vm
  ⟨va_K.moved hA h.1, ⟨va_AO.moved hA h.2.1.1, va_AO.moved hA h.2.1.2.1, va_AO.moved hA h.2.1.2.2⟩, va_Nw.same rfl e h.2.2.1, va_Nw.same rfl e h.2.2.2⟩
def sn_fv (μ : sn_Mem) (a c j : Nat) : Value := match sn_ft c j with
  | 0 => .int (m_I μ a j)
  | 1 => .long (m_J μ a j)
  | _ => va_rf (m_R μ a j)
def sn_av (μ : sn_Mem) (k a j : Nat) : Value := match k with
  | 21 => .int (m_I μ a j)
  | 22 => .long (m_J μ a j)
  | 23 => .int (m_I μ a j)
  | 31 => .int (m_I μ a j)
  | 32 => .long (m_J μ a j)
  | 33 => .int (m_I μ a j)
  | _ => va_rf (m_R μ a j)
def sn_Cell (D : sn_D) (μ : sn_Mem) (a : Nat) (H : Heap) : Prop :=
  if m_kd μ a ≤ 20 then ∃ q : vw_C, sn_cls[m_kd μ a - 1]? = some q ∧ t_OB a (D.1 (m_kd μ a - 1)) q.2.2 (D.2.1 (m_kd μ a - 1)) H (sn_fv μ a (m_kd μ a - 1))
  else H[a]? = some (arrV (D.2.2 (m_kd μ a)) (m_ln μ a) (sn_av μ (m_kd μ a) a))
def sn_Rep (D : sn_D) (base : Nat) (μ : sn_Mem) (H : Heap) : Prop := H.size = m_sz μ ∧ ∀ a, m_kd μ a ≠ 0 → base ≤ a ∧ sn_Cell D μ a H
def sn_Ok (D : sn_D) (base : Nat) (s : State) (μ0 μ : sn_Mem) (H : Heap) (locs : List Loc) : Prop :=
  sn_Rep D base μ H ∧ (∀ q, q < base → H[q]? = s.heap[q]?) ∧ (∀ q ∈ locs, base ≤ q.base) ∧ m_sz μ0 ≤ m_sz μ ∧ m_us μ0 ≤ m_us μ ∧ base ≤ m_sz μ0
def sn_Q (D : sn_D) (base : Nat) (rF : Option Value) (μF : sn_Mem) : Array Value → State → Outcome → State → Prop := fun _ st oc t =>
  oc = .returned rF ∧ sn_Rep D base μF t.heap ∧ ∀ q, q < base → t.heap[q]? = st.heap[q]?
/-- all that stands still in a walk: program, launch, env, frames, locals, start, method, arguments, below, method, code, numbers, base, maxLocals, memory at the start, answer and memory at the end -/
abbrev sn_X : Type := Program × Launch × Env × Nat × Nat × State × MethodId × Array Value × List Frame × Method × Code × sn_D × Nat × Nat × sn_Mem × Option Value × sn_Mem
/-- what a walk knows: its bytes, its class, its answer's type, its name -/
def sn_Cx (X : sn_X) (cc : ByteArray) (own : String) (ret : Option FieldType) (nm : String) (nL fr lo : Nat) : Prop := match X with
  | (p, _, _, fr', lo', s, m, args, _, meth, c, D, _, nL', _, _, _) =>
    (fr' = fr ∧ lo' = lo ∧ nL' = nL) ∧ p.tables.exec = Jvm.exec ∧ c.code = cc ∧ c.maxLocals = nL ∧ s.vm.findClass own = some m.cls ∧ (∀ w ∈ sn_tbl, w.before args s = true) ∧ meth.sig.returnType = ret ∧ meth.locks = false ∧ meth.name = nm ∧ sn_K D s
/-- from here the machine follows f -/
def sn_S (X : sn_X) (pc : Nat) (lv : sn_L) (st : List sn_V) (f : sn_M) : Prop := sn_Mono f ∧ match X with
  | (p, l, e, fr, lo, s, m, args, below, meth, c, D, base, nL, μ0, rF, μF) =>
    ∀ (ls : Array Slot) (H : Heap) (locs : List Loc) (μ : sn_Mem), lv_has ls nL (sn_lv lv) → sn_Ok D base s μ0 μ H locs → f μ = some (rF, μF) →
      W p l e { frames := fr, cells := m_sz μF - m_sz μ0, slots := m_us μF - m_us μ0, locals := lo } s m args below meth c H locs (m_sz μ - m_sz μ0) (m_us μ - m_us μ0)
        (MQ below (sn_Q D base rF μF) args s (m_sz μF - m_sz μ0) (m_us μF - m_us μ0) (fun q => base ≤ q)) (F0 m pc ls (st.map sn_v))
