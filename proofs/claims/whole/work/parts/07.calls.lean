/-! makings, calls, switches, a method's contract -/
theorem sn_Rep.new {D : sn_D} {base : Nat} {μ : sn_Mem} {H H1 : Heap} {c n : Nat} (h : sn_Rep D base μ H) (hb : base ≤ m_sz μ) (hz : H1.size = m_sz μ + 1) (ho : ∀ q, q < m_sz μ → H1[q]? = H[q]?) (ha : sn_Cell D (u_N μ c n) (m_sz μ) H1) : sn_Rep D base (u_N μ c n) H1 := by
  refine ⟨hz, fun b hb2 => ?_⟩
  by_cases e : b = m_sz μ
  · subst e; exact ⟨hb, ha⟩
  · have hk : m_kd (u_N μ c n) b = m_kd μ b := by simp [m_kd, u_N, e]
    rw [hk] at hb2
    have hlt := h.lt hb2
    refine ⟨(h.2 b hb2).1, (h.2 b hb2).2.other (ho b hlt) hk ?_ ?_ ?_ ?_⟩
    · simp [m_ln, u_N, e]
    · intro j; simp [m_I, u_N, e]
    · intro j; simp [m_J, u_N, e]
    · intro j; simp [m_R, u_N, e]
theorem sn_Ok.new {D : sn_D} {base : Nat} {s : State} {μ0 μ : sn_Mem} {H H1 : Heap} {locs : List Loc} {c n : Nat} (ok : sn_Ok D base s μ0 μ H locs) (hR : sn_Rep D base (u_N μ c n) H1) (ho : ∀ q, q < m_sz μ → H1[q]? = H[q]?) : sn_Ok D base s μ0 (u_N μ c n) H1 locs := by
  obtain ⟨h1, h2, h3, h4, h5, h6⟩ := ok
  refine ⟨hR, fun q hq => ?_, h3, Nat.le_succ_of_le h4, Nat.le_trans h5 (Nat.le_add_right _ _), h6⟩
  rw [ho q (by omega)]
  exact h2 q hq
section Rules3
variable {X : sn_X} {cc : ByteArray} {own nm : String} {ret : Option FieldType} {nL fr lo pc q : Nat} {lv lv' : sn_L} {st : List sn_V} {f : sn_M}
theorem sn_Mono.nO {c n : Nat} {K : Option Nat → sn_M} (h : ∀ v, sn_Mono (K v)) : sn_Mono (n_O c n K) := by
  intro μ x ν hf
  have h3 := h _ _ _ _ hf
  exact ⟨Nat.le_trans (Nat.le_succ _) h3.1, Nat.le_trans (Nat.le_add_right _ _) h3.2⟩
theorem r_new (C : sn_Cx X cc own ret nm nL fr lo) {idx c n N : Nat} {CN : String} {T : u_T} {tyf : Nat → FieldType} {K : Option Nat → sn_M} (hd : decode cc pc = .ok (.new idx, 3)) (hq : pc + 3 = q) (hCF : sn_CF c CN T N tyf) (w1 : Cond.classLink own idx CN ∈ sn_tbl) (w2 : Cond.instantiable CN n ∈ sn_tbl) (w3 : Cond.initialized CN ∈ sn_tbl) (h : ∀ v, sn_S X q lv (vA v :: st) (K v)) : sn_S X pc lv st (n_O (c + 1) n K) := by
  obtain ⟨p, l, e, fr', lo', s, m, args, below, meth, cO, D, base, nL', μ0, rF, μF⟩ := X
  obtain ⟨⟨rfl, rfl, rfl⟩, hx, hb, hml, hown, hts, hr, hlk, hnm, hK⟩ := C
  subst hq
  refine ⟨sn_Mono.nO (fun v => (h v).1), fun ls H locs μ hl ok hf => ?_⟩
  have hm := (h _).1 _ _ _ hf
  obtain ⟨hc, hc20, hin, hty, hnm2, hft⟩ := hCF
  obtain ⟨hS, hfc, kC, hkC, hkind⟩ := hK.1.1 c _ hc
  obtain ⟨ok1, ok2, ok3, ok4, ok5, ok6⟩ := id ok
  have hm1 : m_sz μ + 1 ≤ m_sz μF := hm.1
  have hm2 : m_us μ + n ≤ m_us μF := hm.2
  refine W.newcK hx hb hown (hts _ w1) (hts _ w2) (hts _ w3) rfl hd (show m_sz μ - m_sz μ0 + 1 ≤ m_sz μF - m_sz μ0 by omega) (show m_us μ - m_us μ0 + n ≤ m_us μF - m_us μ0 by omega) hfc (h := m_sz μ) ok1.1 (fun H1 kC' hk1 e1 e2 e3 => ?_)
  have hR : sn_Rep D base (u_N μ (c + 1) n) H1 := by
    refine ok1.new (by omega) e2 e3 ?_
    unfold sn_Cell
    have hk0 : m_kd (u_N μ (c + 1) n) (m_sz μ) = c + 1 := by simp [m_kd, u_N]
    rw [hk0, if_pos (by omega)]
    refine ⟨_, hc, t_OB.to (u_born tyf hts hin (hK.1.1 c _ hc) hk1 e1 hty) (fun k hk => ?_)⟩
    have h9 := hft k hk
    show defaultValue (tyf k) = sn_fv (u_N μ (c + 1) n) (m_sz μ) c k
    generalize tyf k = ty at h9
    unfold sn_fv
    cases ty <;> simp only [sn_ok] at h9 <;> (first | (rw [h9]; simp [defaultValue, m_I, m_J, m_R, u_N, va_rf]) | (exact h9.elim))
  have h3 := (h (some (m_sz μ))).2 ls H1 locs (u_N μ (c + 1) n) hl (ok.new hR e3) hf
  have e4 : m_sz (u_N μ (c + 1) n) - m_sz μ0 = m_sz μ - m_sz μ0 + 1 := by show m_sz μ + 1 - m_sz μ0 = _; omega
  have e5 : m_us (u_N μ (c + 1) n) - m_us μ0 = m_us μ - m_us μ0 + n := by show m_us μ + n - m_us μ0 = _; omega
  rw [e4, e5] at h3
  exact h3
theorem n_A_use {c : Nat} {n : Int32} {K : Option Nat → sn_M} {μ : sn_Mem} {x : Option Value × sn_Mem} (h : n_A c n K μ = some x) : (¬ n < 0 ∧ n.toNatClampNeg ≤ 10000) ∧ K (some (m_sz μ)) (u_N μ c n.toNatClampNeg) = some x := by
  by_cases hk : ¬ n < 0 ∧ n.toNatClampNeg ≤ 10000
  · exact ⟨hk, by simpa only [n_A, hk, if_true, and_self, not_false_eq_true] using h⟩
  · simp only [n_A, hk, if_false] at h
    cases h
theorem sn_Mono.nA {c : Nat} {n : Int32} {K : Option Nat → sn_M} (h : ∀ v, sn_Mono (K v)) : sn_Mono (n_A c n K) := by
  intro μ x ν hf
  have h3 := h _ _ _ _ (n_A_use hf).2
  exact ⟨Nat.le_trans (Nat.le_succ _) h3.1, Nat.le_trans (Nat.le_add_right _ _) h3.2⟩
theorem r_newa (C : sn_Cx X cc own ret nm nL fr lo) {aty : ArrayType} {kd tyi : Nat} {ty : FieldType} {n : Int32} {K : Option Nat → sn_M} (hkd : 20 < kd) (hta : newarray.typeOf aty = ty) (hty : ∀ D : sn_D, (sn_tys D)[tyi]? = some (D.2.2 kd, ty)) (hpr : (ty = .int ∧ (kd = 21 ∨ kd = 31)) ∨ (ty = .long ∧ (kd = 22 ∨ kd = 32)) ∨ (ty = .boolean ∧ (kd = 23 ∨ kd = 33))) (hw : Cond.arrayClass ty ∈ sn_tbl) (hd : decode cc pc = .ok (.newarray aty, 2)) (hq : pc + 2 = q) (h : ∀ v, sn_S X q lv (vA v :: st) (K v)) : sn_S X pc lv (vI n :: st) (n_A kd n K) := by
  obtain ⟨p, l, e, fr', lo', s, m, args, below, meth, cO, D, base, nL', μ0, rF, μF⟩ := X
  obtain ⟨⟨rfl, rfl, rfl⟩, hx, hb, hml, hown, hts, hr, hlk, hnm, hK⟩ := C
  subst hq
  subst hta
  refine ⟨sn_Mono.nA (fun v => (h v).1), fun ls H locs μ hl ok hf => ?_⟩
  obtain ⟨⟨hn0, hn1⟩, h2⟩ := n_A_use hf
  have hm := (h _).1 _ _ _ h2
  obtain ⟨ok1, ok2, ok3, ok4, ok5, ok6⟩ := id ok
  have hm1 : m_sz μ + 1 ≤ m_sz μF := hm.1
  have hm2 : m_us μ + n.toNatClampNeg ≤ m_us μF := hm.2
  have hRA := (hK.1.2 tyi _ (hty D)).2
  have hcb : componentBytes (newarray.typeOf aty) ≤ 8 := by rcases hpr with ⟨e, -⟩ | ⟨e, -⟩ | ⟨e, -⟩ <;> rw [e] <;> decide
  have hbytes : n.toNatClampNeg * componentBytes (newarray.typeOf aty) ≤ 536870912 := Nat.le_trans (Nat.mul_le_mul hn1 hcb) (by decide)
  refine va_newaK hx hb (hts _ hw) rfl hd rfl hn0 rfl hbytes (show m_sz μ - m_sz μ0 + 1 ≤ m_sz μF - m_sz μ0 by omega) (show m_us μ - m_us μ0 + n.toNatClampNeg ≤ m_us μF - m_us μ0 by omega) (h := m_sz μ) ok1.1 (fun H1 cA e1 e2 e3 hAr hfc => ?_)
  have hcA : cA = D.2.2 kd := by
    have h9 : s.vm.findClass ("[" ++ (newarray.typeOf aty).toString) = some (D.2.2 kd) := by
      rcases hpr with ⟨e, -⟩ | ⟨e, -⟩ | ⟨e, -⟩ <;> rw [e] at hRA ⊢ <;> exact hRA
    exact Option.some.inj (hfc.symm.trans h9)
  subst hcA
  have hR : sn_Rep D base (u_N μ kd n.toNatClampNeg) H1 := by
    refine ok1.new (by omega) e2 e3 ?_
    unfold sn_Cell
    have hk0 : m_kd (u_N μ kd n.toNatClampNeg) (m_sz μ) = kd := by simp [m_kd, u_N]
    have hk1 : m_ln (u_N μ kd n.toNatClampNeg) (m_sz μ) = n.toNatClampNeg := by simp [m_ln, u_N]
    rw [hk0, hk1, if_neg (by omega), e1]
    congr 2
    funext j
    rcases hpr with ⟨e, e'⟩ | ⟨e, e'⟩ | ⟨e, e'⟩ <;> rcases e' with e' | e' <;> subst e' <;> rw [e] <;> simp [sn_av, defaultValue, m_I, m_J, u_N]
  have h3 := (h (some (m_sz μ))).2 ls H1 locs (u_N μ kd n.toNatClampNeg) hl (ok.new hR e3) h2
  have e4 : m_sz (u_N μ kd n.toNatClampNeg) - m_sz μ0 = m_sz μ - m_sz μ0 + 1 := by show m_sz μ + 1 - m_sz μ0 = _; omega
  have e5 : m_us (u_N μ kd n.toNatClampNeg) - m_us μ0 = m_us μ - m_us μ0 + n.toNatClampNeg := by show m_us μ + n.toNatClampNeg - m_us μ0 = _; omega
  rw [e4, e5] at h3
  exact h3
theorem r_anewa (C : sn_Cx X cc own ret nm nL fr lo) {idx kd tyi : Nat} {C0 : String} {n : Int32} {K : Option Nat → sn_M} (hkd : 23 < kd ∧ kd < 31) (hty : ∀ D : sn_D, (sn_tys D)[tyi]? = some (D.2.2 kd, .object C0)) (hov : ∀ (D : sn_D) (U : State), sn_K D U → va_AO C0 U) (hw : Cond.classLink own idx C0 ∈ sn_tbl) (hd : decode cc pc = .ok (.anewarray idx, 3)) (hq : pc + 3 = q) (h : ∀ v, sn_S X q lv (vA v :: st) (K v)) : sn_S X pc lv (vI n :: st) (n_A kd n K) := by
  obtain ⟨p, l, e, fr', lo', s, m, args, below, meth, cO, D, base, nL', μ0, rF, μF⟩ := X
  obtain ⟨⟨rfl, rfl, rfl⟩, hx, hb, hml, hown, hts, hr, hlk, hnm, hK⟩ := C
  subst hq
  refine ⟨sn_Mono.nA (fun v => (h v).1), fun ls H locs μ hl ok hf => ?_⟩
  obtain ⟨⟨hn0, hn1⟩, h2⟩ := n_A_use hf
  have hm := (h _).1 _ _ _ h2
  obtain ⟨ok1, ok2, ok3, ok4, ok5, ok6⟩ := id ok
  have hm1 : m_sz μ + 1 ≤ m_sz μF := hm.1
  have hm2 : m_us μ + n.toNatClampNeg ≤ m_us μF := hm.2
  obtain ⟨kA0, comp0, -, -, -, hRA⟩ := (hK.1.2 tyi _ (hty D)).2
  refine W.anew hx hb hown (hts _ hw) (va_AO.use (hov D s hK)) rfl hd rfl hn0 (by omega) (show m_sz μ - m_sz μ0 + 1 ≤ m_sz μF - m_sz μ0 by omega) (show m_us μ - m_us μ0 + n.toNatClampNeg ≤ m_us μF - m_us μ0 by omega) (fun cA kA comp h5 h6 h7 h8 => ?_)
  have hcA : cA = D.2.2 kd := Option.some.inj (h5.symm.trans hRA)
  subst hcA
  rw [arrV_new]
  have e3 : ∀ q, q < m_sz μ → (H.push (arrV (D.2.2 kd) n.toNatClampNeg fun _ => .null))[q]? = H[q]? := fun q hq => by
    rw [Array.getElem?_push, if_neg (by rw [ok1.1]; omega)]
  have hR : sn_Rep D base (u_N μ kd n.toNatClampNeg) (H.push (arrV (D.2.2 kd) n.toNatClampNeg fun _ => .null)) := by
    refine ok1.new (by omega) (by rw [Array.size_push, ok1.1]) e3 ?_
    unfold sn_Cell
    have hk0 : m_kd (u_N μ kd n.toNatClampNeg) (m_sz μ) = kd := by simp [m_kd, u_N]
    have hk1 : m_ln (u_N μ kd n.toNatClampNeg) (m_sz μ) = n.toNatClampNeg := by simp [m_ln, u_N]
    rw [hk0, hk1, if_neg (by omega), Array.getElem?_push, if_pos ok1.1.symm]
    congr 2
    funext j
    have e9 : sn_av (u_N μ kd n.toNatClampNeg) kd (m_sz μ) j = va_rf (m_R (u_N μ kd n.toNatClampNeg) (m_sz μ) j) := by
      unfold sn_av
      split <;> first | omega | rfl
    rw [e9]; simp [m_R, u_N, va_rf]
  have h3 := (h (some (m_sz μ))).2 ls _ locs (u_N μ kd n.toNatClampNeg) hl (ok.new hR e3) h2
  have e4 : m_sz (u_N μ kd n.toNatClampNeg) - m_sz μ0 = m_sz μ - m_sz μ0 + 1 := by show m_sz μ + 1 - m_sz μ0 = _; omega
  have e5 : m_us (u_N μ kd n.toNatClampNeg) - m_us μ0 = m_us μ - m_us μ0 + n.toNatClampNeg := by show m_us μ + n.toNatClampNeg - m_us μ0 = _; omega
  rw [e4, e5] at h3
  rw [show H.size = m_sz μ from ok1.1]
  exact h3
theorem r_objInit (C : sn_Cx X cc own ret nm nL fr lo) {idx : Nat} {r : Option Nat} (hd : decode cc pc = .ok (.invokespecial idx, 3)) (hq : pc + 3 = q) (w1 : Cond.methodLink own idx Lib.objectInit ∈ sn_tbl) (w2 : Cond.instanceMethod Lib.objectInit ∈ sn_tbl) (w3 : Cond.code Lib.objectInit ⟨#[0xb1]⟩ 1 none ∈ sn_tbl) (hfr : 1 ≤ fr) (hlo : 12 ≤ lo) (a : Nat) (hr : r = some a) (h : sn_S X q lv [] f) : sn_S X pc lv [vA r] f := by
  obtain ⟨p, l, e, fr', lo', s, m, args, below, meth, cO, D, base, nL', μ0, rF, μF⟩ := X
  obtain ⟨⟨rfl, rfl, rfl⟩, hx, hb, hml, hown, hts, hr9, hlk, hnm, hK⟩ := C
  subst hq
  subst hr
  refine ⟨h.1, fun ls H locs μ hl ok hf => ?_⟩
  exact W.objInit hx hb hown (hts _ w1) (hts _ w2) (hts _ w3) rfl (hl.1.trans hml.symm) rfl hd hfr hlo (h.2 ls H locs μ hl ok hf)
end Rules3
def sn_P (D : sn_D) (base : Nat) (μ0 : sn_Mem) (As : List Value) : Array Value → State → Prop := fun v U => v = As.toArray ∧ sn_Rep D base μ0 U.heap ∧ base ≤ m_sz μ0 ∧ sn_K D U
/-- a method follows f -/
def sn_Con (y : MethodName) (cc : ByteArray) (maxL : Nat) (ret : Option FieldType) (fr lo : Nat) (As : List sn_V) (f : sn_M) : Prop := sn_Mono f ∧ ∀ (l : Launch) (D : sn_D) (base : Nat) (μ0 : sn_Mem) (rF : Option Value) (μF : sn_Mem), f μ0 = some (rF, μF) →
  Met l y (Cond.code y cc maxL ret :: sn_tbl) { frames := fr, cells := m_sz μF - m_sz μ0, slots := m_us μF - m_us μ0, locals := lo } (sn_P D base μ0 (As.map sn_v)) (sn_Q D base rF μF) (m_sz μF - m_sz μ0) (m_us μF - m_us μ0) (fun q => base ≤ q)
def sn_args : Nat → List sn_V → sn_L
  | _, [] => []
  | i, v :: vs => (i, v) :: sn_args (if sn_c v = 2 then i + 2 else i + 1) vs
theorem sn_args_eq : ∀ (As : List sn_V) (i : Nat), sn_lv (sn_args i As) = lv_args i (As.map sn_v)
  | [], _ => rfl
  | v :: vs, i => by
    have h := sn_args_eq vs (if sn_c v = 2 then i + 2 else i + 1)
    show (i, sn_v v) :: sn_lv (sn_args _ vs) = (i, sn_v v) :: lv_args (if (sn_v v).category = 2 then i + 2 else i + 1) (vs.map sn_v)
    rw [h, sn_vc]
def sn_len : List sn_V → Nat
  | [] => 0
  | v :: vs => sn_c v + sn_len vs
theorem sn_len_eq : ∀ As : List sn_V, (lg_sl (As.map sn_v)).length = sn_len As
  | [] => rfl
  | v :: vs => by
    have h := sn_len_eq vs
    rcases v with x | x | _ | r <;> simp [lg_sl, sn_v, va_rf, sn_len, sn_c, Value.category, ← h] <;> omega
theorem sn_Con.of {y : MethodName} {cc : ByteArray} {maxL : Nat} {ret : Option FieldType} {fr lo : Nat} {As : List sn_V} {f : sn_M} (hy : plainName y.cls = true) (hlen : sn_len As ≤ maxL) (hm : sn_Mono f)
    (h : ∀ X : sn_X, sn_Cx X cc y.cls ret y.name maxL fr lo → sn_S X 0 (sn_args 0 As) [] f) : sn_Con y cc maxL ret fr lo As f := by
  refine ⟨hm, fun l D base μ0 rF μF hf => ?_⟩
  refine Met.ofW (cc := cc) (maxL := maxL) (ret := ret) hy rfl ?_
  intro p e s m args below meth c s₁ B hml hv
  obtain ⟨rfl, hRep, hbs, hK⟩ := hv
  have hts := atoms_spec (ws := Cond.code y cc maxL ret :: sn_tbl) B.pre
  have hC : sn_Cx (p, l, e, fr, lo, s, m, (As.map sn_v).toArray, below, meth, c, D, base, maxL, μ0, rF, μF) cc y.cls ret y.name maxL fr lo :=
    ⟨⟨rfl, rfl, rfl⟩, B.exec, B.bytes, hml, findClass_of_methodNamed B.named, fun w hw => hts w (List.mem_cons_of_mem _ hw), B.returns, B.notSynchronized, (name_of_methodNamed B.named B.method).1, hK⟩
  have hS := (h _ hC).2
  have hl := lv_entry (As.map sn_v) (n := maxL) (by rw [sn_len_eq]; exact hlen)
  rw [lg_entry_eq]
  rw [← sn_args_eq] at hl
  have h1 := hS _ s.heap [] μ0 hl ⟨hRep, fun _ _ => rfl, (fun _ h => absurd h List.not_mem_nil), Nat.le_refl _, Nat.le_refl _, hbs⟩ hf
  simp only [Nat.sub_self] at h1
  exact h1
/-- the words of a method that is called -/
def sn_Y (y : MethodName) (cc : ByteArray) (maxL : Nat) (ret : Option FieldType) (n : Nat) : Prop := Cond.code y cc maxL ret ∈ sn_tbl ∧ Cond.initialized y.cls ∈ sn_tbl ∧ (y.cls ≠ "java/lang/invoke/MethodHandle" ∧ y.cls ≠ "java/lang/invoke/VarHandle" ∧ (parseMethodDescriptor y.desc).map (fun d => d.parameters.length) = some n)
theorem sn_goodIn {w : Cond} (h : w ∈ sn_tbl) : GoodIn sn_tbl (w :: sn_tbl) := by
  intro v hv
  have hm : v ∈ sn_tbl := (List.mem_cons.mp hv).elim (fun e => e ▸ h) id
  exact ⟨hm, good_of_word (List.mem_filter.mp hm).2⟩
theorem sn_P.blind {D : sn_D} {base : Nat} {μ0 : sn_Mem} {As : List Value} : FrameBlind (sn_P D base μ0 As) := fun a U g mk h => ⟨h.1, h.2.1, h.2.2.1, sn_K.same (u := U) (U := U.calling g mk a) rfl h.2.2.2⟩
section Calls2
variable {p : Program} {l : Launch} {e : Env} {R : Room} {s : State} {m : MethodId} {args : Array Value} {below : List Frame} {meth : Method} {c : Code} {H : Heap} {locs : List Loc} {cells slots mc ms : Nat} {Q : State → Prop} {pc : Nat} {ls : Array Slot} {st0 rest : List Value} {D : sn_D} {base : Nat} {r1 : Option Value} {μ1 : sn_Mem} {a : Array Value}
theorem sn_after (hr : va_Run p l e R s m args below meth c H locs cells slots mc ms (F0 m pc ls st0) rest (sn_Q D base r1 μ1 a) (fun q => base ≤ q))
    (kk : ∀ (H1 : Heap) (L : List Loc), sn_Rep D base μ1 H1 → (∀ q, q < base → H1[q]? = H[q]?) → (∀ q ∈ L, base ≤ q.base) → W p l e R s m args below meth c H1 (locs ++ L) (cells + mc) (slots + ms) Q (F0 m (pc + 3) ls (r1.toList ++ rest))) :
    W p l e R s m args below meth c H locs cells slots Q (F0 m pc ls st0) := by
  intro T hT X
  obtain ⟨v, st₀, t, T', L, h0, X', hL, e1, e2, ⟨hv, hR, hF⟩, st⟩ := hr T hT X
  cases hv
  obtain ⟨t2, a1, b1⟩ := kk t.heap L hR (fun q hq => by rw [hF q hq, h0]) hL T' e1 X'
  exact ⟨t2, st t2 a1, b1⟩
end Calls2
/-- what a call's answer brings: nothing, an int, a long, a reference -/
theorem c_V_use {f K : sn_M} {μ : sn_Mem} {x : Option Value × sn_Mem} (h : c_V f K μ = some x) : ∃ ν, f μ = some (none, ν) ∧ K ν = some x := by
  unfold c_V at h
  split at h
  · rename_i ν hν; exact ⟨ν, hν, h⟩
  · cases h
theorem c_I_use {f : sn_M} {K : Int32 → sn_M} {μ : sn_Mem} {x : Option Value × sn_Mem} (h : c_I f K μ = some x) : ∃ v ν, f μ = some (some (.int v), ν) ∧ K v ν = some x := by
  unfold c_I at h
  split at h
  · rename_i v ν hν; exact ⟨v, ν, hν, h⟩
  · cases h
theorem c_J_use {f : sn_M} {K : Int64 → sn_M} {μ : sn_Mem} {x : Option Value × sn_Mem} (h : c_J f K μ = some x) : ∃ v ν, f μ = some (some (.long v), ν) ∧ K v ν = some x := by
  unfold c_J at h
  split at h
  · rename_i v ν hν; exact ⟨v, ν, hν, h⟩
  · cases h
theorem c_R_use {f : sn_M} {K : Option Nat → sn_M} {μ : sn_Mem} {x : Option Value × sn_Mem} (h : c_R f K μ = some x) : ∃ v ν, f μ = some (some (va_rf v), ν) ∧ K v ν = some x := by
  unfold c_R at h
  split at h
  · rename_i ν hν; exact ⟨none, ν, hν, h⟩
  · rename_i a ν hν; exact ⟨some a, ν, hν, h⟩
  · cases h
theorem sn_Mono.cV {f K : sn_M} (h1 : sn_Mono f) (h2 : sn_Mono K) : sn_Mono (c_V f K) := by
  intro μ x ν hf
  obtain ⟨ν1, h3, h4⟩ := c_V_use hf
  have a := h1 _ _ _ h3; have b := h2 _ _ _ h4
  exact ⟨Nat.le_trans a.1 b.1, Nat.le_trans a.2 b.2⟩
theorem sn_Mono.cI {f : sn_M} {K : Int32 → sn_M} (h1 : sn_Mono f) (h2 : ∀ v, sn_Mono (K v)) : sn_Mono (c_I f K) := by
  intro μ x ν hf
  obtain ⟨v, ν1, h3, h4⟩ := c_I_use hf
  have a := h1 _ _ _ h3; have b := h2 _ _ _ _ h4
  exact ⟨Nat.le_trans a.1 b.1, Nat.le_trans a.2 b.2⟩
theorem sn_Mono.cJ {f : sn_M} {K : Int64 → sn_M} (h1 : sn_Mono f) (h2 : ∀ v, sn_Mono (K v)) : sn_Mono (c_J f K) := by
  intro μ x ν hf
  obtain ⟨v, ν1, h3, h4⟩ := c_J_use hf
  have a := h1 _ _ _ h3; have b := h2 _ _ _ _ h4
  exact ⟨Nat.le_trans a.1 b.1, Nat.le_trans a.2 b.2⟩
theorem sn_Mono.cR {f : sn_M} {K : Option Nat → sn_M} (h1 : sn_Mono f) (h2 : ∀ v, sn_Mono (K v)) : sn_Mono (c_R f K) := by
  intro μ x ν hf
  obtain ⟨v, ν1, h3, h4⟩ := c_R_use hf
  have a := h1 _ _ _ h3; have b := h2 _ _ _ _ h4
  exact ⟨Nat.le_trans a.1 b.1, Nat.le_trans a.2 b.2⟩
theorem n_n_use {c : Nat} {r : Option Nat} {K : Nat → sn_M} {μ : sn_Mem} {x : Option Value × sn_Mem} (h : n_n c r K μ = some x) : ∃ a, r = some a ∧ m_kd μ a = c ∧ K a μ = some x := by
  cases r with
  | none => cases h
  | some a =>
    by_cases hk : m_kd μ a = c
    · exact ⟨a, rfl, hk, by simpa only [n_n, hk, if_true] using h⟩
    · simp [n_n, hk] at h
theorem sn_Mono.nn {c : Nat} {r : Option Nat} {K : Nat → sn_M} (h : ∀ v, sn_Mono (K v)) : sn_Mono (n_n c r K) := by
  intro μ x ν hf
  obtain ⟨a, -, -, h2⟩ := n_n_use hf
  exact h _ μ x ν h2
section Rules4
variable {X : sn_X} {cc : ByteArray} {own nm : String} {ret : Option FieldType} {nL fr lo pc q : Nat} {lv lv' : sn_L} {st stk : List sn_V} {f : sn_M}
variable {y : MethodName} {ccY : ByteArray} {maxL n frY loY idx cy N : Nat} {retY : Option FieldType} {T : u_T} {As : List sn_V}
theorem sn_sum (l : List sn_V) : ((l.map sn_v).map fun v => v.category).sum = (l.map sn_c).sum := by
  rw [List.map_map]
  congr 1
  exact List.map_congr_left (fun v _ => sn_vc v)
theorem r_cvV (C : sn_Cx X cc own ret nm nL fr lo) {r : Option Nat} {g : Nat → sn_M} {K : sn_M} (hd : decode cc pc = .ok (.invokevirtual idx, 3)) (hq : pc + 3 = q) (hY : sn_Y y ccY maxL retY n) (hl : Cond.methodLink own idx y ∈ sn_tbl) (hi1 : Cond.instanceMethod y ∈ sn_tbl) (hi2 : Cond.selects y.cls y y ∈ sn_tbl) (hcy : sn_cls[cy]? = some (y.cls, T, N)) (hc20 : cy < 20) (hn : As.length = n) (hfr : frY + 1 ≤ fr) (hlo : 8 + (maxL + 11) + loY ≤ lo) (hst : (st.map sn_c).sum ≤ 8) (hS : stk = As.reverse ++ vA r :: st) (hM : ∀ a, sn_Con y ccY maxL retY frY loY (vA (some a) :: As) (g a)) (h : sn_S X q lv st K) : sn_S X pc lv stk (n_n (cy + 1) r (fun a => c_V (g a) K)) := by
  obtain ⟨p, l, e, fr', lo', s, m, args, below, meth, cO, D, base, nL', μ0, rF, μF⟩ := X
  obtain ⟨⟨rfl, rfl, rfl⟩, hx, hb, hml, hown, hts, hr, hlk, hnm, hK⟩ := C
  subst hq
  subst hS
  refine ⟨sn_Mono.nn (fun a => sn_Mono.cV (hM a).1 h.1), fun ls H locs μ hl2 ok hf => ?_⟩
  obtain ⟨a, rfl, hk, h3⟩ := n_n_use hf
  obtain ⟨ν, hν, h4⟩ := c_V_use h3
  obtain ⟨-, cellB, g1, g2, g3, -⟩ := ok.1.obj hk hc20 hcy
  have m1 := (hM a).1 _ _ _ hν
  have m2 := h.1 _ _ _ h4
  obtain ⟨ok1, ok2, ok3, ok4, ok5, ok6⟩ := id ok
  refine sn_after (D := D) (base := base) (r1 := none) (μ1 := ν) (rest := st.map sn_v) (va_runV (As := As.map sn_v) (rest := st.map sn_v) ⟨hx, hb, hml, hown, hts⟩ ((hM a).2 l D base μ _ _ hν) ⟨(callB_of (rm := { frames := frY, cells := m_sz ν - m_sz μ, slots := m_us ν - m_us μ, locals := loY }) n hts (sn_goodIn hY.1) rfl rfl rfl (hts _ hY.2.1) (hts _ hl) hY.2.2 ⟨hfr, hlo⟩), hts _ hi1, hts _ hi2⟩ ⟨sn_P.blind, ⟨cellB, g1, by rw [g3]; rfl, by rw [g2]; exact (hK.1.1 cy _ hcy).2.1⟩, fun U hU hW => ⟨rfl, by rw [hU]; exact ok1, by omega, sn_K.moved hW hK⟩⟩ rfl (by rw [List.length_map]; exact hn) hl2.1 (by simp [sn_v, va_rf]) (by rw [sn_sum]; show 2 * 0 + _ ≤ 8; omega) hd ⟨?_, ?_⟩) (fun H1 L hR hF hL => ?_)
  · show m_sz μ - m_sz μ0 + (m_sz ν - m_sz μ) ≤ m_sz μF - m_sz μ0; omega
  · show m_us μ - m_us μ0 + (m_us ν - m_us μ) ≤ m_us μF - m_us μ0; omega
  have h5 := h.2 ls H1 (locs ++ L) ν hl2 ⟨hR, fun q hq => by rw [hF q hq]; exact ok2 q hq, fun q hq => (List.mem_append.mp hq).elim (ok3 q) (hL q), by omega, by omega, ok6⟩ h4
  have e4 : m_sz ν - m_sz μ0 = m_sz μ - m_sz μ0 + (m_sz ν - m_sz μ) := by omega
  have e5 : m_us ν - m_us μ0 = m_us μ - m_us μ0 + (m_us ν - m_us μ) := by omega
  rw [e4, e5] at h5
  exact h5
theorem r_cvI (C : sn_Cx X cc own ret nm nL fr lo) {r : Option Nat} {g : Nat → sn_M} {K : Int32 → sn_M} (hd : decode cc pc = .ok (.invokevirtual idx, 3)) (hq : pc + 3 = q) (hY : sn_Y y ccY maxL retY n) (hl : Cond.methodLink own idx y ∈ sn_tbl) (hi1 : Cond.instanceMethod y ∈ sn_tbl) (hi2 : Cond.selects y.cls y y ∈ sn_tbl) (hcy : sn_cls[cy]? = some (y.cls, T, N)) (hc20 : cy < 20) (hn : As.length = n) (hfr : frY + 1 ≤ fr) (hlo : 8 + (maxL + 11) + loY ≤ lo) (hst : (st.map sn_c).sum ≤ 8) (hS : stk = As.reverse ++ vA r :: st) (hM : ∀ a, sn_Con y ccY maxL retY frY loY (vA (some a) :: As) (g a)) (h : ∀ v, sn_S X q lv (vI v :: st) (K v)) : sn_S X pc lv stk (n_n (cy + 1) r (fun a => c_I (g a) K)) := by
  obtain ⟨p, l, e, fr', lo', s, m, args, below, meth, cO, D, base, nL', μ0, rF, μF⟩ := X
  obtain ⟨⟨rfl, rfl, rfl⟩, hx, hb, hml, hown, hts, hr, hlk, hnm, hK⟩ := C
  subst hq
  subst hS
  refine ⟨sn_Mono.nn (fun a => sn_Mono.cI (hM a).1 (fun v => (h v).1)), fun ls H locs μ hl2 ok hf => ?_⟩
  obtain ⟨a, rfl, hk, h3⟩ := n_n_use hf
  obtain ⟨v, ν, hν, h4⟩ := c_I_use h3
  obtain ⟨-, cellB, g1, g2, g3, -⟩ := ok.1.obj hk hc20 hcy
  have m1 := (hM a).1 _ _ _ hν
  have m2 := (h v).1 _ _ _ h4
  obtain ⟨ok1, ok2, ok3, ok4, ok5, ok6⟩ := id ok
  refine sn_after (D := D) (base := base) (r1 := some (.int v)) (μ1 := ν) (rest := st.map sn_v) (va_runV (As := As.map sn_v) (rest := st.map sn_v) ⟨hx, hb, hml, hown, hts⟩ ((hM a).2 l D base μ _ _ hν) ⟨(callB_of (rm := { frames := frY, cells := m_sz ν - m_sz μ, slots := m_us ν - m_us μ, locals := loY }) n hts (sn_goodIn hY.1) rfl rfl rfl (hts _ hY.2.1) (hts _ hl) hY.2.2 ⟨hfr, hlo⟩), hts _ hi1, hts _ hi2⟩ ⟨sn_P.blind, ⟨cellB, g1, by rw [g3]; rfl, by rw [g2]; exact (hK.1.1 cy _ hcy).2.1⟩, fun U hU hW => ⟨rfl, by rw [hU]; exact ok1, by omega, sn_K.moved hW hK⟩⟩ rfl (by rw [List.length_map]; exact hn) hl2.1 (by simp [sn_v, va_rf]) (by rw [sn_sum]; show 2 * 0 + _ ≤ 8; omega) hd ⟨?_, ?_⟩) (fun H1 L hR hF hL => ?_)
  · show m_sz μ - m_sz μ0 + (m_sz ν - m_sz μ) ≤ m_sz μF - m_sz μ0; omega
  · show m_us μ - m_us μ0 + (m_us ν - m_us μ) ≤ m_us μF - m_us μ0; omega
  have h5 := (h v).2 ls H1 (locs ++ L) ν hl2 ⟨hR, fun q hq => by rw [hF q hq]; exact ok2 q hq, fun q hq => (List.mem_append.mp hq).elim (ok3 q) (hL q), by omega, by omega, ok6⟩ h4
  have e4 : m_sz ν - m_sz μ0 = m_sz μ - m_sz μ0 + (m_sz ν - m_sz μ) := by omega
  have e5 : m_us ν - m_us μ0 = m_us μ - m_us μ0 + (m_us ν - m_us μ) := by omega
  rw [e4, e5] at h5
  exact h5
theorem r_cvJ (C : sn_Cx X cc own ret nm nL fr lo) {r : Option Nat} {g : Nat → sn_M} {K : Int64 → sn_M} (hd : decode cc pc = .ok (.invokevirtual idx, 3)) (hq : pc + 3 = q) (hY : sn_Y y ccY maxL retY n) (hl : Cond.methodLink own idx y ∈ sn_tbl) (hi1 : Cond.instanceMethod y ∈ sn_tbl) (hi2 : Cond.selects y.cls y y ∈ sn_tbl) (hcy : sn_cls[cy]? = some (y.cls, T, N)) (hc20 : cy < 20) (hn : As.length = n) (hfr : frY + 1 ≤ fr) (hlo : 8 + (maxL + 11) + loY ≤ lo) (hst : (st.map sn_c).sum ≤ 8) (hS : stk = As.reverse ++ vA r :: st) (hM : ∀ a, sn_Con y ccY maxL retY frY loY (vA (some a) :: As) (g a)) (h : ∀ v, sn_S X q lv (vJ v :: st) (K v)) : sn_S X pc lv stk (n_n (cy + 1) r (fun a => c_J (g a) K)) := by
  obtain ⟨p, l, e, fr', lo', s, m, args, below, meth, cO, D, base, nL', μ0, rF, μF⟩ := X
  obtain ⟨⟨rfl, rfl, rfl⟩, hx, hb, hml, hown, hts, hr, hlk, hnm, hK⟩ := C
  subst hq
  subst hS
  refine ⟨sn_Mono.nn (fun a => sn_Mono.cJ (hM a).1 (fun v => (h v).1)), fun ls H locs μ hl2 ok hf => ?_⟩
  obtain ⟨a, rfl, hk, h3⟩ := n_n_use hf
  obtain ⟨v, ν, hν, h4⟩ := c_J_use h3
  obtain ⟨-, cellB, g1, g2, g3, -⟩ := ok.1.obj hk hc20 hcy
  have m1 := (hM a).1 _ _ _ hν
  have m2 := (h v).1 _ _ _ h4
  obtain ⟨ok1, ok2, ok3, ok4, ok5, ok6⟩ := id ok
  refine sn_after (D := D) (base := base) (r1 := some (.long v)) (μ1 := ν) (rest := st.map sn_v) (va_runV (As := As.map sn_v) (rest := st.map sn_v) ⟨hx, hb, hml, hown, hts⟩ ((hM a).2 l D base μ _ _ hν) ⟨(callB_of (rm := { frames := frY, cells := m_sz ν - m_sz μ, slots := m_us ν - m_us μ, locals := loY }) n hts (sn_goodIn hY.1) rfl rfl rfl (hts _ hY.2.1) (hts _ hl) hY.2.2 ⟨hfr, hlo⟩), hts _ hi1, hts _ hi2⟩ ⟨sn_P.blind, ⟨cellB, g1, by rw [g3]; rfl, by rw [g2]; exact (hK.1.1 cy _ hcy).2.1⟩, fun U hU hW => ⟨rfl, by rw [hU]; exact ok1, by omega, sn_K.moved hW hK⟩⟩ rfl (by rw [List.length_map]; exact hn) hl2.1 (by simp [sn_v, va_rf]) (by rw [sn_sum]; show 2 * 0 + _ ≤ 8; omega) hd ⟨?_, ?_⟩) (fun H1 L hR hF hL => ?_)
  · show m_sz μ - m_sz μ0 + (m_sz ν - m_sz μ) ≤ m_sz μF - m_sz μ0; omega
  · show m_us μ - m_us μ0 + (m_us ν - m_us μ) ≤ m_us μF - m_us μ0; omega
  have h5 := (h v).2 ls H1 (locs ++ L) ν hl2 ⟨hR, fun q hq => by rw [hF q hq]; exact ok2 q hq, fun q hq => (List.mem_append.mp hq).elim (ok3 q) (hL q), by omega, by omega, ok6⟩ h4
  have e4 : m_sz ν - m_sz μ0 = m_sz μ - m_sz μ0 + (m_sz ν - m_sz μ) := by omega
  have e5 : m_us ν - m_us μ0 = m_us μ - m_us μ0 + (m_us ν - m_us μ) := by omega
  rw [e4, e5] at h5
  exact h5
theorem r_cvR (C : sn_Cx X cc own ret nm nL fr lo) {r : Option Nat} {g : Nat → sn_M} {K : Option Nat → sn_M} (hd : decode cc pc = .ok (.invokevirtual idx, 3)) (hq : pc + 3 = q) (hY : sn_Y y ccY maxL retY n) (hl : Cond.methodLink own idx y ∈ sn_tbl) (hi1 : Cond.instanceMethod y ∈ sn_tbl) (hi2 : Cond.selects y.cls y y ∈ sn_tbl) (hcy : sn_cls[cy]? = some (y.cls, T, N)) (hc20 : cy < 20) (hn : As.length = n) (hfr : frY + 1 ≤ fr) (hlo : 8 + (maxL + 11) + loY ≤ lo) (hst : (st.map sn_c).sum ≤ 8) (hS : stk = As.reverse ++ vA r :: st) (hM : ∀ a, sn_Con y ccY maxL retY frY loY (vA (some a) :: As) (g a)) (h : ∀ v, sn_S X q lv (vA v :: st) (K v)) : sn_S X pc lv stk (n_n (cy + 1) r (fun a => c_R (g a) K)) := by
  obtain ⟨p, l, e, fr', lo', s, m, args, below, meth, cO, D, base, nL', μ0, rF, μF⟩ := X
  obtain ⟨⟨rfl, rfl, rfl⟩, hx, hb, hml, hown, hts, hr, hlk, hnm, hK⟩ := C
  subst hq
  subst hS
  refine ⟨sn_Mono.nn (fun a => sn_Mono.cR (hM a).1 (fun v => (h v).1)), fun ls H locs μ hl2 ok hf => ?_⟩
  obtain ⟨a, rfl, hk, h3⟩ := n_n_use hf
  obtain ⟨v, ν, hν, h4⟩ := c_R_use h3
  obtain ⟨-, cellB, g1, g2, g3, -⟩ := ok.1.obj hk hc20 hcy
  have m1 := (hM a).1 _ _ _ hν
  have m2 := (h v).1 _ _ _ h4
  obtain ⟨ok1, ok2, ok3, ok4, ok5, ok6⟩ := id ok
  refine sn_after (D := D) (base := base) (r1 := some (va_rf v)) (μ1 := ν) (rest := st.map sn_v) (va_runV (As := As.map sn_v) (rest := st.map sn_v) ⟨hx, hb, hml, hown, hts⟩ ((hM a).2 l D base μ _ _ hν) ⟨(callB_of (rm := { frames := frY, cells := m_sz ν - m_sz μ, slots := m_us ν - m_us μ, locals := loY }) n hts (sn_goodIn hY.1) rfl rfl rfl (hts _ hY.2.1) (hts _ hl) hY.2.2 ⟨hfr, hlo⟩), hts _ hi1, hts _ hi2⟩ ⟨sn_P.blind, ⟨cellB, g1, by rw [g3]; rfl, by rw [g2]; exact (hK.1.1 cy _ hcy).2.1⟩, fun U hU hW => ⟨rfl, by rw [hU]; exact ok1, by omega, sn_K.moved hW hK⟩⟩ rfl (by rw [List.length_map]; exact hn) hl2.1 (by simp [sn_v, va_rf]) (by rw [sn_sum]; show 2 * 0 + _ ≤ 8; omega) hd ⟨?_, ?_⟩) (fun H1 L hR hF hL => ?_)
  · show m_sz μ - m_sz μ0 + (m_sz ν - m_sz μ) ≤ m_sz μF - m_sz μ0; omega
  · show m_us μ - m_us μ0 + (m_us ν - m_us μ) ≤ m_us μF - m_us μ0; omega
  have h5 := (h v).2 ls H1 (locs ++ L) ν hl2 ⟨hR, fun q hq => by rw [hF q hq]; exact ok2 q hq, fun q hq => (List.mem_append.mp hq).elim (ok3 q) (hL q), by omega, by omega, ok6⟩ h4
  have e4 : m_sz ν - m_sz μ0 = m_sz μ - m_sz μ0 + (m_sz ν - m_sz μ) := by omega
  have e5 : m_us ν - m_us μ0 = m_us μ - m_us μ0 + (m_us ν - m_us μ) := by omega
  rw [e4, e5] at h5
  exact h5
theorem r_csV (C : sn_Cx X cc own ret nm nL fr lo) {g : sn_M} {K : sn_M} (hd : decode cc pc = .ok (.invokestatic idx, 3)) (hq : pc + 3 = q) (hY : sn_Y y ccY maxL retY n) (hl : Cond.methodLink own idx y ∈ sn_tbl) (hi1 : Cond.static y ∈ sn_tbl) (hn : As.length = n) (hfr : frY + 1 ≤ fr) (hlo : 8 + (maxL + 11) + loY ≤ lo) (hst : (st.map sn_c).sum ≤ 8) (hS : stk = As.reverse ++ st) (hM : sn_Con y ccY maxL retY frY loY As g) (h : sn_S X q lv st K) : sn_S X pc lv stk (c_V g K) := by
  obtain ⟨p, l, e, fr', lo', s, m, args, below, meth, cO, D, base, nL', μ0, rF, μF⟩ := X
  obtain ⟨⟨rfl, rfl, rfl⟩, hx, hb, hml, hown, hts, hr, hlk, hnm, hK⟩ := C
  subst hq
  subst hS
  refine ⟨sn_Mono.cV hM.1 h.1, fun ls H locs μ hl2 ok hf => ?_⟩
  obtain ⟨ν, hν, h4⟩ := c_V_use hf
  have m1 := hM.1 _ _ _ hν
  have m2 := h.1 _ _ _ h4
  obtain ⟨ok1, ok2, ok3, ok4, ok5, ok6⟩ := id ok
  refine sn_after (D := D) (base := base) (r1 := none) (μ1 := ν) (rest := st.map sn_v) (va_runS (As := As.map sn_v) (rest := st.map sn_v) ⟨hx, hb, hml, hown, hts⟩ (hM.2 l D base μ _ _ hν) ⟨(callB_of (rm := { frames := frY, cells := m_sz ν - m_sz μ, slots := m_us ν - m_us μ, locals := loY }) n hts (sn_goodIn hY.1) rfl rfl rfl (hts _ hY.2.1) (hts _ hl) hY.2.2 ⟨hfr, hlo⟩), hts _ hi1⟩ ⟨sn_P.blind, fun U hU hW => ⟨rfl, by rw [hU]; exact ok1, by omega, sn_K.moved hW hK⟩⟩ rfl (by rw [List.length_map]; exact hn) hl2.1 (by simp) (by rw [sn_sum]; show 2 * 0 + _ ≤ 8; omega) hd ⟨?_, ?_⟩) (fun H1 L hR hF hL => ?_)
  · show m_sz μ - m_sz μ0 + (m_sz ν - m_sz μ) ≤ m_sz μF - m_sz μ0; omega
  · show m_us μ - m_us μ0 + (m_us ν - m_us μ) ≤ m_us μF - m_us μ0; omega
  have h5 := h.2 ls H1 (locs ++ L) ν hl2 ⟨hR, fun q hq => by rw [hF q hq]; exact ok2 q hq, fun q hq => (List.mem_append.mp hq).elim (ok3 q) (hL q), by omega, by omega, ok6⟩ h4
  have e4 : m_sz ν - m_sz μ0 = m_sz μ - m_sz μ0 + (m_sz ν - m_sz μ) := by omega
  have e5 : m_us ν - m_us μ0 = m_us μ - m_us μ0 + (m_us ν - m_us μ) := by omega
  rw [e4, e5] at h5
  exact h5
theorem r_csI (C : sn_Cx X cc own ret nm nL fr lo) {g : sn_M} {K : Int32 → sn_M} (hd : decode cc pc = .ok (.invokestatic idx, 3)) (hq : pc + 3 = q) (hY : sn_Y y ccY maxL retY n) (hl : Cond.methodLink own idx y ∈ sn_tbl) (hi1 : Cond.static y ∈ sn_tbl) (hn : As.length = n) (hfr : frY + 1 ≤ fr) (hlo : 8 + (maxL + 11) + loY ≤ lo) (hst : (st.map sn_c).sum ≤ 8) (hS : stk = As.reverse ++ st) (hM : sn_Con y ccY maxL retY frY loY As g) (h : ∀ v, sn_S X q lv (vI v :: st) (K v)) : sn_S X pc lv stk (c_I g K) := by
  obtain ⟨p, l, e, fr', lo', s, m, args, below, meth, cO, D, base, nL', μ0, rF, μF⟩ := X
  obtain ⟨⟨rfl, rfl, rfl⟩, hx, hb, hml, hown, hts, hr, hlk, hnm, hK⟩ := C
  subst hq
  subst hS
  refine ⟨sn_Mono.cI hM.1 (fun v => (h v).1), fun ls H locs μ hl2 ok hf => ?_⟩
  obtain ⟨v, ν, hν, h4⟩ := c_I_use hf
  have m1 := hM.1 _ _ _ hν
  have m2 := (h v).1 _ _ _ h4
  obtain ⟨ok1, ok2, ok3, ok4, ok5, ok6⟩ := id ok
  refine sn_after (D := D) (base := base) (r1 := some (.int v)) (μ1 := ν) (rest := st.map sn_v) (va_runS (As := As.map sn_v) (rest := st.map sn_v) ⟨hx, hb, hml, hown, hts⟩ (hM.2 l D base μ _ _ hν) ⟨(callB_of (rm := { frames := frY, cells := m_sz ν - m_sz μ, slots := m_us ν - m_us μ, locals := loY }) n hts (sn_goodIn hY.1) rfl rfl rfl (hts _ hY.2.1) (hts _ hl) hY.2.2 ⟨hfr, hlo⟩), hts _ hi1⟩ ⟨sn_P.blind, fun U hU hW => ⟨rfl, by rw [hU]; exact ok1, by omega, sn_K.moved hW hK⟩⟩ rfl (by rw [List.length_map]; exact hn) hl2.1 (by simp) (by rw [sn_sum]; show 2 * 0 + _ ≤ 8; omega) hd ⟨?_, ?_⟩) (fun H1 L hR hF hL => ?_)
  · show m_sz μ - m_sz μ0 + (m_sz ν - m_sz μ) ≤ m_sz μF - m_sz μ0; omega
  · show m_us μ - m_us μ0 + (m_us ν - m_us μ) ≤ m_us μF - m_us μ0; omega
  have h5 := (h v).2 ls H1 (locs ++ L) ν hl2 ⟨hR, fun q hq => by rw [hF q hq]; exact ok2 q hq, fun q hq => (List.mem_append.mp hq).elim (ok3 q) (hL q), by omega, by omega, ok6⟩ h4
  have e4 : m_sz ν - m_sz μ0 = m_sz μ - m_sz μ0 + (m_sz ν - m_sz μ) := by omega
  have e5 : m_us ν - m_us μ0 = m_us μ - m_us μ0 + (m_us ν - m_us μ) := by omega
  rw [e4, e5] at h5
  exact h5
theorem r_csJ (C : sn_Cx X cc own ret nm nL fr lo) {g : sn_M} {K : Int64 → sn_M} (hd : decode cc pc = .ok (.invokestatic idx, 3)) (hq : pc + 3 = q) (hY : sn_Y y ccY maxL retY n) (hl : Cond.methodLink own idx y ∈ sn_tbl) (hi1 : Cond.static y ∈ sn_tbl) (hn : As.length = n) (hfr : frY + 1 ≤ fr) (hlo : 8 + (maxL + 11) + loY ≤ lo) (hst : (st.map sn_c).sum ≤ 8) (hS : stk = As.reverse ++ st) (hM : sn_Con y ccY maxL retY frY loY As g) (h : ∀ v, sn_S X q lv (vJ v :: st) (K v)) : sn_S X pc lv stk (c_J g K) := by
  obtain ⟨p, l, e, fr', lo', s, m, args, below, meth, cO, D, base, nL', μ0, rF, μF⟩ := X
  obtain ⟨⟨rfl, rfl, rfl⟩, hx, hb, hml, hown, hts, hr, hlk, hnm, hK⟩ := C
  subst hq
  subst hS
  refine ⟨sn_Mono.cJ hM.1 (fun v => (h v).1), fun ls H locs μ hl2 ok hf => ?_⟩
  obtain ⟨v, ν, hν, h4⟩ := c_J_use hf
  have m1 := hM.1 _ _ _ hν
  have m2 := (h v).1 _ _ _ h4
  obtain ⟨ok1, ok2, ok3, ok4, ok5, ok6⟩ := id ok
  refine sn_after (D := D) (base := base) (r1 := some (.long v)) (μ1 := ν) (rest := st.map sn_v) (va_runS (As := As.map sn_v) (rest := st.map sn_v) ⟨hx, hb, hml, hown, hts⟩ (hM.2 l D base μ _ _ hν) ⟨(callB_of (rm := { frames := frY, cells := m_sz ν - m_sz μ, slots := m_us ν - m_us μ, locals := loY }) n hts (sn_goodIn hY.1) rfl rfl rfl (hts _ hY.2.1) (hts _ hl) hY.2.2 ⟨hfr, hlo⟩), hts _ hi1⟩ ⟨sn_P.blind, fun U hU hW => ⟨rfl, by rw [hU]; exact ok1, by omega, sn_K.moved hW hK⟩⟩ rfl (by rw [List.length_map]; exact hn) hl2.1 (by simp) (by rw [sn_sum]; show 2 * 0 + _ ≤ 8; omega) hd ⟨?_, ?_⟩) (fun H1 L hR hF hL => ?_)
  · show m_sz μ - m_sz μ0 + (m_sz ν - m_sz μ) ≤ m_sz μF - m_sz μ0; omega
  · show m_us μ - m_us μ0 + (m_us ν - m_us μ) ≤ m_us μF - m_us μ0; omega
  have h5 := (h v).2 ls H1 (locs ++ L) ν hl2 ⟨hR, fun q hq => by rw [hF q hq]; exact ok2 q hq, fun q hq => (List.mem_append.mp hq).elim (ok3 q) (hL q), by omega, by omega, ok6⟩ h4
  have e4 : m_sz ν - m_sz μ0 = m_sz μ - m_sz μ0 + (m_sz ν - m_sz μ) := by omega
  have e5 : m_us ν - m_us μ0 = m_us μ - m_us μ0 + (m_us ν - m_us μ) := by omega
  rw [e4, e5] at h5
  exact h5
theorem r_csR (C : sn_Cx X cc own ret nm nL fr lo) {g : sn_M} {K : Option Nat → sn_M} (hd : decode cc pc = .ok (.invokestatic idx, 3)) (hq : pc + 3 = q) (hY : sn_Y y ccY maxL retY n) (hl : Cond.methodLink own idx y ∈ sn_tbl) (hi1 : Cond.static y ∈ sn_tbl) (hn : As.length = n) (hfr : frY + 1 ≤ fr) (hlo : 8 + (maxL + 11) + loY ≤ lo) (hst : (st.map sn_c).sum ≤ 8) (hS : stk = As.reverse ++ st) (hM : sn_Con y ccY maxL retY frY loY As g) (h : ∀ v, sn_S X q lv (vA v :: st) (K v)) : sn_S X pc lv stk (c_R g K) := by
  obtain ⟨p, l, e, fr', lo', s, m, args, below, meth, cO, D, base, nL', μ0, rF, μF⟩ := X
  obtain ⟨⟨rfl, rfl, rfl⟩, hx, hb, hml, hown, hts, hr, hlk, hnm, hK⟩ := C
  subst hq
  subst hS
  refine ⟨sn_Mono.cR hM.1 (fun v => (h v).1), fun ls H locs μ hl2 ok hf => ?_⟩
  obtain ⟨v, ν, hν, h4⟩ := c_R_use hf
  have m1 := hM.1 _ _ _ hν
  have m2 := (h v).1 _ _ _ h4
  obtain ⟨ok1, ok2, ok3, ok4, ok5, ok6⟩ := id ok
  refine sn_after (D := D) (base := base) (r1 := some (va_rf v)) (μ1 := ν) (rest := st.map sn_v) (va_runS (As := As.map sn_v) (rest := st.map sn_v) ⟨hx, hb, hml, hown, hts⟩ (hM.2 l D base μ _ _ hν) ⟨(callB_of (rm := { frames := frY, cells := m_sz ν - m_sz μ, slots := m_us ν - m_us μ, locals := loY }) n hts (sn_goodIn hY.1) rfl rfl rfl (hts _ hY.2.1) (hts _ hl) hY.2.2 ⟨hfr, hlo⟩), hts _ hi1⟩ ⟨sn_P.blind, fun U hU hW => ⟨rfl, by rw [hU]; exact ok1, by omega, sn_K.moved hW hK⟩⟩ rfl (by rw [List.length_map]; exact hn) hl2.1 (by simp) (by rw [sn_sum]; show 2 * 0 + _ ≤ 8; omega) hd ⟨?_, ?_⟩) (fun H1 L hR hF hL => ?_)
  · show m_sz μ - m_sz μ0 + (m_sz ν - m_sz μ) ≤ m_sz μF - m_sz μ0; omega
  · show m_us μ - m_us μ0 + (m_us ν - m_us μ) ≤ m_us μF - m_us μ0; omega
  have h5 := (h v).2 ls H1 (locs ++ L) ν hl2 ⟨hR, fun q hq => by rw [hF q hq]; exact ok2 q hq, fun q hq => (List.mem_append.mp hq).elim (ok3 q) (hL q), by omega, by omega, ok6⟩ h4
  have e4 : m_sz ν - m_sz μ0 = m_sz μ - m_sz μ0 + (m_sz ν - m_sz μ) := by omega
  have e5 : m_us ν - m_us μ0 = m_us μ - m_us μ0 + (m_us ν - m_us μ) := by omega
  rw [e4, e5] at h5
  exact h5
theorem r_ciV (C : sn_Cx X cc own ret nm nL fr lo) {r : Option Nat} {g : Nat → sn_M} {K : sn_M} (hd : decode cc pc = .ok (.invokespecial idx, 3)) (hq : pc + 3 = q) (hY : sn_Y y ccY maxL retY n) (hl : Cond.methodLink own idx y ∈ sn_tbl) (hi1 : Cond.instanceMethod y ∈ sn_tbl) (hin : y.name = "<init>") (hrv : retY = none) (hn : As.length = n) (hfr : frY + 1 ≤ fr) (hlo : 8 + (maxL + 11) + loY ≤ lo) (hst : (st.map sn_c).sum ≤ 8) (hS : stk = As.reverse ++ vA r :: st) (hM : ∀ a, sn_Con y ccY maxL retY frY loY (vA (some a) :: As) (g a)) (h : sn_S X q lv st K) : sn_S X pc lv stk (n_n (cy + 1) r (fun a => c_V (g a) K)) := by
  obtain ⟨p, l, e, fr', lo', s, m, args, below, meth, cO, D, base, nL', μ0, rF, μF⟩ := X
  obtain ⟨⟨rfl, rfl, rfl⟩, hx, hb, hml, hown, hts, hr, hlk, hnm, hK⟩ := C
  subst hq
  subst hS
  refine ⟨sn_Mono.nn (fun a => sn_Mono.cV (hM a).1 h.1), fun ls H locs μ hl2 ok hf => ?_⟩
  obtain ⟨a, rfl, hk, h3⟩ := n_n_use hf
  obtain ⟨ν, hν, h4⟩ := c_V_use h3
  have m1 := (hM a).1 _ _ _ hν
  have m2 := h.1 _ _ _ h4
  obtain ⟨ok1, ok2, ok3, ok4, ok5, ok6⟩ := id ok
  subst hrv
  refine sn_after (D := D) (base := base) (r1 := none) (μ1 := ν) (rest := st.map sn_v) (va_runI (As := As.map sn_v) (rest := st.map sn_v) ⟨hx, hb, hml, hown, hts⟩ ((hM a).2 l D base μ _ _ hν) ⟨(callB_of (rm := { frames := frY, cells := m_sz ν - m_sz μ, slots := m_us ν - m_us μ, locals := loY }) n hts (sn_goodIn hY.1) rfl rfl rfl (hts _ hY.2.1) (hts _ hl) hY.2.2 ⟨hfr, hlo⟩), hin, hts _ hi1⟩ ⟨sn_P.blind, fun U hU hW => ⟨rfl, by rw [hU]; exact ok1, by omega, sn_K.moved hW hK⟩⟩ rfl (by rw [List.length_map]; exact hn) hl2.1 (by simp [sn_v, va_rf]) (by rw [sn_sum]; show 2 * 0 + _ ≤ 8; omega) hd ⟨?_, ?_⟩) (fun H1 L hR hF hL => ?_)
  · show m_sz μ - m_sz μ0 + (m_sz ν - m_sz μ) ≤ m_sz μF - m_sz μ0; omega
  · show m_us μ - m_us μ0 + (m_us ν - m_us μ) ≤ m_us μF - m_us μ0; omega
  have h5 := h.2 ls H1 (locs ++ L) ν hl2 ⟨hR, fun q hq => by rw [hF q hq]; exact ok2 q hq, fun q hq => (List.mem_append.mp hq).elim (ok3 q) (hL q), by omega, by omega, ok6⟩ h4
  have e4 : m_sz ν - m_sz μ0 = m_sz μ - m_sz μ0 + (m_sz ν - m_sz μ) := by omega
  have e5 : m_us ν - m_us μ0 = m_us μ - m_us μ0 + (m_us ν - m_us μ) := by omega
  rw [e4, e5] at h5
  exact h5
theorem r_cnV (C : sn_Cx X cc own ret nm nL fr lo) {r : Option Nat} {g : Nat → sn_M} {host : String} {K : sn_M} (hd : decode cc pc = .ok (.invokespecial idx, 3)) (hq : pc + 3 = q) (hY : sn_Y y ccY maxL retY n) (hl : ∀ (D : sn_D) (U : State), sn_K D U → va_Nw (.methodLinkNest own idx y host) U) (hi1 : Cond.instanceMethod y ∈ sn_tbl) (hin : y.name = "<init>") (hrv : retY = none) (hn : As.length = n) (hfr : frY + 1 ≤ fr) (hlo : 8 + (maxL + 11) + loY ≤ lo) (hst : (st.map sn_c).sum ≤ 8) (hS : stk = As.reverse ++ vA r :: st) (hM : ∀ a, sn_Con y ccY maxL retY frY loY (vA (some a) :: As) (g a)) (h : sn_S X q lv st K) : sn_S X pc lv stk (n_n (cy + 1) r (fun a => c_V (g a) K)) := by
  obtain ⟨p, l, e, fr', lo', s, m, args, below, meth, cO, D, base, nL', μ0, rF, μF⟩ := X
  obtain ⟨⟨rfl, rfl, rfl⟩, hx, hb, hml, hown, hts, hr, hlk, hnm, hK⟩ := C
  subst hq
  subst hS
  refine ⟨sn_Mono.nn (fun a => sn_Mono.cV (hM a).1 h.1), fun ls H locs μ hl2 ok hf => ?_⟩
  obtain ⟨a, rfl, hk, h3⟩ := n_n_use hf
  obtain ⟨ν, hν, h4⟩ := c_V_use h3
  have m1 := (hM a).1 _ _ _ hν
  have m2 := h.1 _ _ _ h4
  obtain ⟨ok1, ok2, ok3, ok4, ok5, ok6⟩ := id ok
  subst hrv
  refine sn_after (D := D) (base := base) (r1 := none) (μ1 := ν) (rest := st.map sn_v) (va_runIN (As := As.map sn_v) (rest := st.map sn_v) ⟨hx, hb, hml, hown, hts⟩ ((hM a).2 l D base μ _ _ hν) ⟨(va_cnB (rm := { frames := frY, cells := m_sz ν - m_sz μ, slots := m_us ν - m_us μ, locals := loY }) n hts (sn_goodIn hY.1) rfl rfl rfl (hl D s hK) (hts _ hY.2.1) hY.2.2 ⟨hfr, hlo⟩), hin, hts _ hi1⟩ ⟨sn_P.blind, fun U hU hW => ⟨rfl, by rw [hU]; exact ok1, by omega, sn_K.moved hW hK⟩⟩ rfl (by rw [List.length_map]; exact hn) hl2.1 (by simp [sn_v, va_rf]) (by rw [sn_sum]; show 2 * 0 + _ ≤ 8; omega) hd ⟨?_, ?_⟩) (fun H1 L hR hF hL => ?_)
  · show m_sz μ - m_sz μ0 + (m_sz ν - m_sz μ) ≤ m_sz μF - m_sz μ0; omega
  · show m_us μ - m_us μ0 + (m_us ν - m_us μ) ≤ m_us μF - m_us μ0; omega
  have h5 := h.2 ls H1 (locs ++ L) ν hl2 ⟨hR, fun q hq => by rw [hF q hq]; exact ok2 q hq, fun q hq => (List.mem_append.mp hq).elim (ok3 q) (hL q), by omega, by omega, ok6⟩ h4
  have e4 : m_sz ν - m_sz μ0 = m_sz μ - m_sz μ0 + (m_sz ν - m_sz μ) := by omega
  have e5 : m_us ν - m_us μ0 = m_us μ - m_us μ0 + (m_us ν - m_us μ) := by omega
  rw [e4, e5] at h5
  exact h5
def sn_sw (x : Int32) : List Int32 → List sn_M → sn_M → sn_M
  | k :: ks, f :: fs, d => if x = k then f else sn_sw x ks fs d
  | _, _, d => d
def sn_all (X : sn_X) (lv : sn_L) (st : List sn_V) : List sn_M → List Nat → Prop
  | [], _ => True
  | f :: fs, t :: ts => sn_S X t lv st f ∧ sn_all X lv st fs ts
  | _ :: _, [] => False
theorem sn_sw_mono {x : Int32} {d : sn_M} (hd : sn_Mono d) : ∀ (ks : List Int32) (fs : List sn_M), (∀ f ∈ fs, sn_Mono f) → sn_Mono (sn_sw x ks fs d)
  | [], [], _ => hd
  | [], _ :: _, _ => hd
  | _ :: _, [], _ => hd
  | k :: ks, f :: fs, h => sn_Mono.ite (h f List.mem_cons_self) (sn_sw_mono hd ks fs (fun q hq => h q (List.mem_cons_of_mem _ hq)))
theorem sn_all_mono {X : sn_X} {lv : sn_L} {st : List sn_V} : ∀ (fs : List sn_M) (ts : List Nat), sn_all X lv st fs ts → ∀ f ∈ fs, sn_Mono f
  | [], _, _, f, h => absurd h List.not_mem_nil
  | g :: fs, t :: ts, h, f, hf => (List.mem_cons.mp hf).elim (fun e => e ▸ h.1.1) (fun e => sn_all_mono fs ts h.2 f e)
  | _ :: _, [], h, _, _ => h.elim
theorem sn_all_at {X : sn_X} {lv : sn_L} {st : List sn_V} : ∀ (fs : List sn_M) (ts : List Nat), sn_all X lv st fs ts → ∀ (i : Nat) (f : sn_M) (t : Nat), fs[i]? = some f → ts[i]? = some t → sn_S X t lv st f
  | [], _, _, i, f, t, h, _ => by simp at h
  | g :: fs, u :: ts, h, 0, f, t, hf, ht => by
    have e1 : g = f := by simpa using hf
    have e2 : u = t := by simpa using ht
    subst e1; subst e2; exact h.1
  | g :: fs, u :: ts, h, i + 1, f, t, hf, ht => sn_all_at fs ts h.2 i f t (by simpa using hf) (by simpa using ht)
  | _ :: _, [], h, _, _, _, _, _ => h.elim
theorem sn_sw_out {x : Int32} {d : sn_M} : ∀ (ks : List Int32) (fs : List sn_M), (∀ k ∈ ks, ¬ x = k) → sn_sw x ks fs d = d
  | [], [], _ => rfl
  | [], _ :: _, _ => rfl
  | _ :: _, [], _ => rfl
  | k :: ks, f :: fs, h => by
    show (if x = k then f else sn_sw x ks fs d) = d
    rw [if_neg (h k List.mem_cons_self)]
    exact sn_sw_out ks fs (fun q hq => h q (List.mem_cons_of_mem _ hq))
theorem sn_sw_at {x : Int32} {d : sn_M} : ∀ (ks : List Int32) (fs : List sn_M) (i : Nat) (f : sn_M), ks[i]? = some x → fs[i]? = some f → (∀ j : Nat, j < i → ¬ ks[j]? = some x) → sn_sw x ks fs d = f
  | [], _, i, f, h, _, _ => by simp at h
  | _ :: _, [], i, f, _, h, _ => by simp at h
  | k :: ks, g :: fs, 0, f, h, hf, _ => by
    have e : k = x := by simpa using h
    have e2 : g = f := by simpa using hf
    show (if x = k then g else sn_sw x ks fs d) = f
    rw [if_pos e.symm, e2]
  | k :: ks, g :: fs, i + 1, f, h, hf, hn => by
    show (if x = k then g else sn_sw x ks fs d) = f
    rw [if_neg (fun e => hn 0 (Nat.succ_pos i) (by simp [e]))]
    exact sn_sw_at ks fs i f (by simpa using h) (by simpa using hf) (fun j hj => by have := hn (j + 1) (Nat.succ_lt_succ hj); simpa using this)
theorem r_table (C : sn_Cx X cc own ret nm nL fr lo) {dflt lw hi : Int} {offs : Array Int} {len tD : Nat} {x : Int32} {ks : List Int32} {fs : List sn_M} {ts : List Nat} {d : sn_M} (hd : decode cc pc = .ok (.tableswitch dflt lw hi offs, len)) (hD : (pc : Int) + dflt = (tD : Int)) (hc : ks.map Int32.toInt = (List.range ks.length).map (fun i : Nat => lw + (i : Int)) ∧ offs.toList.map (fun z => (pc : Int) + z) = ts.map (fun t : Nat => (t : Int)) ∧ hi - lw + 1 = ks.length ∧ offs.size = ks.length ∧ ts.length = ks.length) (hfl : fs.length = ks.length) (hdf : sn_S X tD lv st d) (hall : sn_all X lv st fs ts) : sn_S X pc lv (vI x :: st) (sn_sw x ks fs d) := by
  obtain ⟨p, l, e, fr', lo', s, m, args, below, meth, cO, D, base, nL', μ0, rF, μF⟩ := X
  obtain ⟨⟨rfl, rfl, rfl⟩, hx, hb, hml, hown, hts, hr, hlk, hnm, hK⟩ := C
  obtain ⟨hc1, hc2, hc3, hc4, hc5⟩ := hc
  refine ⟨sn_sw_mono hdf.1 ks fs (sn_all_mono fs ts hall), fun ls H locs μ hl ok hf => ?_⟩
  have hkey : ∀ (i : Nat) (k : Int32), ks[i]? = some k → k.toInt = lw + (i : Int) := by
    intro i k hk
    have hil : i < ks.length := (List.getElem?_eq_some_iff.mp hk).1
    have h1 : (ks.map Int32.toInt)[i]? = some k.toInt := by simp [hk]
    rw [hc1] at h1
    simpa [hil] using h1.symm
  by_cases hout : x.toInt < lw ∨ hi < x.toInt
  · have hno : ∀ k ∈ ks, ¬ x = k := by
      intro k hk hxk
      obtain ⟨i, hi2⟩ := List.getElem?_of_mem hk
      have hil : i < ks.length := (List.getElem?_eq_some_iff.mp hi2).1
      have h2 := hkey i k hi2
      rw [hxk, h2] at hout
      omega
    rw [sn_sw_out ks fs hno] at hf
    exact lv_tableOut hx hb hd hout hD (hdf.2 ls H locs μ hl ok hf)
  · have h1 : ¬ x.toInt < lw := fun h => hout (Or.inl h)
    have h2 : ¬ hi < x.toInt := fun h => hout (Or.inr h)
    have hil : (x.toInt - lw).toNat < ks.length := by omega
    obtain ⟨k, hk⟩ : ∃ k, ks[(x.toInt - lw).toNat]? = some k := ⟨_, List.getElem?_eq_getElem hil⟩
    obtain ⟨g, hg⟩ : ∃ g, fs[(x.toInt - lw).toNat]? = some g := ⟨_, List.getElem?_eq_getElem (by omega)⟩
    obtain ⟨t, ht⟩ : ∃ t, ts[(x.toInt - lw).toNat]? = some t := ⟨_, List.getElem?_eq_getElem (by omega)⟩
    obtain ⟨off, hoff⟩ : ∃ off, offs[(x.toInt - lw).toNat]? = some off := ⟨_, Array.getElem?_eq_getElem (by omega)⟩
    have a4 := hkey _ k hk
    have hxk : x = k := Int32.toInt_inj.mp (by rw [a4]; omega)
    have a5 : (pc : Int) + off = (t : Int) := by
      have h3 : (offs.toList.map (fun z => (pc : Int) + z))[(x.toInt - lw).toNat]? = some ((pc : Int) + off) := by simp [hoff]
      rw [hc2] at h3
      simpa [ht] using h3.symm
    have hne : ∀ j : Nat, j < (x.toInt - lw).toNat → ¬ ks[j]? = some x := by
      intro j hj hq'
      have b2 := hkey j x hq'
      omega
    rw [← hxk] at hk
    rw [sn_sw_at ks fs _ g hk hg hne] at hf
    exact lv_tableIn hx hb hd h1 h2 hoff a5 ((sn_all_at fs ts hall _ g t hg ht).2 ls H locs μ hl ok hf)
theorem sn_lk {X : sn_X} {lv : sn_L} {st : List sn_V} {pc tD : Nat} {df : Int} {d : sn_M} {x : Int32} (hD : (pc : Int) + df = (tD : Int)) (hdf : sn_S X tD lv st d) : ∀ (ps : List (Int × Int)) (ks : List Int32) (fs : List sn_M) (ts : List Nat), ps.map Prod.fst = ks.map Int32.toInt → ps.map (fun q => (pc : Int) + q.2) = ts.map (fun t : Nat => (t : Int)) → fs.length = ks.length → sn_all X lv st fs ts → ∃ t : Nat, (pc : Int) + Op.lookupswitch.offset ps df x.toInt = (t : Int) ∧ sn_S X t lv st (sn_sw x ks fs d)
  | [], [], fs, ts, _, _, hl, _ => by
    cases fs with
    | nil => exact ⟨tD, hD, hdf⟩
    | cons g gs => simp at hl
  | [], _ :: _, _, _, h, _, _, _ => by simp at h
  | _ :: _, [], _, _, h, _, _, _ => by simp at h
  | _ :: _, _ :: _, [], _, _, _, h, _ => by simp at h
  | _ :: _, _ :: _, _ :: _, [], _, h, _, _ => by simp at h
  | (a, o) :: ps, k :: ks, f :: fs, t :: ts, h1, h2, h3, h4 => by
    have e1 : a = k.toInt := by have := h1; simp at this; exact this.1
    have e2 : (pc : Int) + o = (t : Int) := by have := h2; simp at this; exact this.1
    rw [Op.lookupswitch.offset_cons]
    by_cases hx : x = k
    · refine ⟨t, ?_, ?_⟩
      · rw [if_pos (by rw [e1, hx])]; exact e2
      · show sn_S X t lv st (if x = k then f else sn_sw x ks fs d)
        rw [if_pos hx]; exact h4.1
    · obtain ⟨t', b1, b2⟩ := sn_lk hD hdf ps ks fs ts (by have := h1; simp at this; exact this.2) (by have := h2; simp at this; simpa using this.2) (by simpa using h3) h4.2
      refine ⟨t', ?_, ?_⟩
      · rw [if_neg (fun e => hx (Int32.toInt_inj.mp (by rw [← e1]; first | exact e.symm | exact e)))]; exact b1
      · show sn_S X t' lv st (if x = k then f else sn_sw x ks fs d)
        rw [if_neg hx]; exact b2
theorem r_lookup (C : sn_Cx X cc own ret nm nL fr lo) {dflt : Int} {ps : Array (Int × Int)} {len tD : Nat} {x : Int32} {ks : List Int32} {fs : List sn_M} {ts : List Nat} {d : sn_M} (hd : decode cc pc = .ok (.lookupswitch dflt ps, len)) (hD : (pc : Int) + dflt = (tD : Int)) (hc : ps.toList.map Prod.fst = ks.map Int32.toInt ∧ ps.toList.map (fun q => (pc : Int) + q.2) = ts.map (fun t : Nat => (t : Int)) ∧ (ps.toList.zip (ps.toList.drop 1)).all (fun (a, next) => a.1 < next.1) = true) (hfl : fs.length = ks.length) (hdf : sn_S X tD lv st d) (hall : sn_all X lv st fs ts) : sn_S X pc lv (vI x :: st) (sn_sw x ks fs d) := by
  obtain ⟨t, h1, h2⟩ := sn_lk (x := x) hD hdf ps.toList ks fs ts hc.1 hc.2.1 hfl hall
  obtain ⟨p, l, e, fr', lo', s, m, args, below, meth, cO, D, base, nL', μ0, rF, μF⟩ := X
  obtain ⟨⟨rfl, rfl, rfl⟩, hx, hb, hml, hown, hts, hr, hlk, hnm, hK⟩ := C
  exact ⟨h2.1, fun ls H locs μ hl ok hf => lv_lookup hx hb hd hc.2.2 rfl h1 (h2.2 ls H locs μ hl ok hf)⟩
end Rules4
theorem sn_S.zero {X : sn_X} {pc : Nat} {lv : sn_L} {st : List sn_V} : sn_S X pc lv st r_0 := by
  obtain ⟨p, l, e, fr', lo', s, m, args, below, meth, cO, D, base, nL', μ0, rF, μF⟩ := X
  exact ⟨(fun μ r ν h => by cases h), (fun ls H locs μ hl ok hf => by cases hf)⟩
theorem sn_Mono.r0 : sn_Mono r_0 := fun μ r ν h => by cases h
theorem sn_Mono.rV : sn_Mono r_V := fun μ r ν h => by cases h; exact ⟨Nat.le_refl _, Nat.le_refl _⟩
theorem sn_Mono.rI {v : Int32} : sn_Mono (r_I v) := fun μ r ν h => by cases h; exact ⟨Nat.le_refl _, Nat.le_refl _⟩
theorem sn_Mono.rJ {v : Int64} : sn_Mono (r_J v) := fun μ r ν h => by cases h; exact ⟨Nat.le_refl _, Nat.le_refl _⟩
theorem sn_Mono.rR {v : Option Nat} : sn_Mono (r_R v) := fun μ r ν h => by cases h; exact ⟨Nat.le_refl _, Nat.le_refl _⟩
theorem sn_Mono.rZ {v : Int32} : sn_Mono (r_Z v) := fun μ r ν h => by obtain ⟨-, e⟩ := r_Z_use h; cases e; exact ⟨Nat.le_refl _, Nat.le_refl _⟩
theorem sn_Mono.nI {v : Int32} {K : Int32 → sn_M} (h : ∀ x, sn_Mono (K x)) : sn_Mono (n_I v K) := h v
theorem sn_Mono.nJ {v : Int64} {K : Int64 → sn_M} (h : ∀ x, sn_Mono (K x)) : sn_Mono (n_J v K) := h v
def sn_fuel : Nat := 1048576
