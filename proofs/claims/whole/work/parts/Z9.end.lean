/-! THE CLAIM OUT OF ONE WALK OF THE LAW'S BODY. Your part is whole_start (and what it stands on); all else here is the same for every law, but numbers. -/
def R_law : String := "SignalNetworkLaw"
def lw_P (b : Addr) (xs : List Int32) (args : Array Value) (s : State) : Prop := args = #[.ref b] ∧ s.IntsAt b xs ∧ xs.length ≤ 320 ∧ (Jvm.Cond.and given_1 narrow_1).before args s = true
def lw_Q (_ : Array Value) (s : State) (o : Outcome) (t : State) : Prop := o = .returned (some (.int 1)) ∧ Framed s o t [] 600000 7302250
def lw_Z (below : List Frame) (a : Array Value) (s : State) : State → Prop := fun t => ∃ o, t.status = .running ∧ Ended t below o ∧ lw_Q a s o t
/-- the law's own end, with 1 on the stack, nothing written that was there before, its room as the claim has it -/
theorem lw_ret {p : Program} {l : Launch} {e : Env} {s : State} {m : MethodId} {below : List Frame} {meth : Method} {c : Code} {b : Nat} (hx : p.tables.exec = Jvm.exec) (hb : c.code = code) (hr : meth.sig.returnType = ret) (hlocks : meth.locks = false) {pc : Nat} {H : Heap} {ls : Array Slot} (hdg : decode code pc = .ok (.ireturn, 1)) : W p l e room_1 s m #[Value.ref b] below meth c H [] 600000 7302250 (lw_Z below #[Value.ref b] s) (F0 m pc ls [.int 1]) := by
  intro T hT X
  obtain ⟨fs, hret, hrun, hended, hW, hframe⟩ := X.leave (v := some (.int 1)) (hlocks := hlocks) (fun h => by rw [hr] at h; cases h)
  have hmeth' : T.vm.method? m = some meth := X.method'
  refine ⟨T.setFrames fs, ?_, .returned (some (.int 1)), hrun, hended, rfl, ⟨_, rfl⟩, hW, hframe⟩
  jvm_step X.here [X.here.top, hx, hb, hdg, hmeth', hr, ret, narrow_b1]
  (try refine ⟨rfl, ?_⟩); (try refine ⟨rfl, ?_⟩)
  first | (intro acts; rw [hret _ acts rfl rfl rfl]) | rw [hret _ _ rfl rfl rfl]
  exact Steps.refl _
/-- what holds at the law's entry: the machine, the code, the tables' words (any of lw_tbl by 'hts w (by decide +kernel)'), the script of L ints xs at the cell b, what the Statement gives of the start (any of its parts by flat_of_before) -/
def lw_At (p : Program) (s : State) (m : MethodId) (meth : Method) (c : Code) (b L : Nat) (xs : Nat → Int32) : Prop :=
  p.tables.exec = Jvm.exec ∧ c.code = code ∧ meth.sig.returnType = ret ∧ c.maxLocals = 4 ∧ s.vm.findClass R_law = some m.cls ∧ (∀ w ∈ lw_tbl, w.before #[Value.ref b] s = true) ∧ va_X b L xs s s.heap ∧ b < s.heap.size ∧ meth.locks = false ∧ (Jvm.Cond.and given_1 narrow_1).before #[Value.ref b] s = true
theorem sn_room {s : State} {pl : Platform} {r r' : Room} (hf : r.frames ≤ r'.frames) (hl : r.locals ≤ r'.locals) (hc : r.cells ≤ r'.cells) (hs : r.slots ≤ r'.slots) (h : s.hasRoom pl r' = true) : s.hasRoom pl r = true := by
  simp only [State.hasRoom, Bool.and_eq_true, decide_eq_true_eq] at h ⊢
  obtain ⟨⟨⟨⟨y, a, b, c, d, e⟩, f⟩, g⟩, i⟩ := h
  exact ⟨⟨⟨⟨by omega, by omega, by omega, by omega, by omega, e⟩, by omega⟩, by omega⟩, i⟩
theorem sn_big {p : Program} {l : Launch} {e : Env} {R R' : Room} {s : State} {m : MethodId} {args : Array Value} {below : List Frame} {meth : Method} {c : Code} {H : Heap} {locs : List Loc} {cells slots : Nat} {Q Q' : State → Prop} {g : JFrame} (hf : R'.frames ≤ R.frames) (hl : R'.locals ≤ R.locals) (hc : R'.cells ≤ R.cells) (hs : R'.slots ≤ R.slots) (hQ : ∀ t, Q t → Q' t) (h : W p l e R' s m args below meth c H locs cells slots Q g) : W p l e R s m args below meth c H locs cells slots Q' g := by
  intro T hT X
  obtain ⟨t, a1, b1⟩ := h T hT ⟨X.admits, X.cas, X.clock, X.frames, sn_room hf hl hc hs X.room, X.hears, X.method, X.code, X.here, X.tail, X.warmed, X.limits, X.bytes, X.same⟩
  exact ⟨t, a1, hQ t b1⟩
theorem sn_dA {s : State} {args : Array Value} (hts : ∀ w ∈ lw_tbl, w.before args s = true) : ∃ d : Nat → ClassId, ∀ (D1 : Nat → ClassId) (D2 : Nat → Nat → Nat) (k : Nat) (q : ClassId × FieldType), (sn_tys (D1, D2, d))[k]? = some q → ArrOfT s q.1 q.2 ∧ va_RA s q.1 q.2 := by
  obtain ⟨c1, k1, p1, a1, b1, e1⟩ := Cond.arrayClass_spec (hts (Cond.arrayClass .int) (List.mem_append_right _ (List.mem_of_getElem? (l := tables_1) (i := 73) (by decide +kernel))))
  obtain ⟨c2, k2, p2, a2, b2, e2⟩ := Cond.arrayClass_spec (hts (Cond.arrayClass .long) (List.mem_append_right _ (List.mem_of_getElem? (l := tables_1) (i := 151) (by decide +kernel))))
  obtain ⟨c3, k3, p3, a3, b3, e3⟩ := Cond.arrayClass_spec (hts (Cond.arrayClass .boolean) (List.mem_append_right _ (List.mem_of_getElem? (l := tables_1) (i := 74) (by decide +kernel))))
  obtain ⟨p4, c4, k4, f4, -, b4, e4, a4⟩ := Cond.arrayOver_spec (hts (Cond.arrayOver (.object "SignalNetwork$End")) (List.mem_append_right _ (List.mem_of_getElem? (l := tables_1) (i := 82) (by decide +kernel))))
  obtain ⟨p5, c5, k5, f5, -, b5, e5, a5⟩ := Cond.arrayOver_spec (hts (Cond.arrayOver (.object "SignalNetwork$Flow")) (List.mem_append_right _ (List.mem_of_getElem? (l := tables_1) (i := 84) (by decide +kernel))))
  obtain ⟨p6, c6, k6, f6, -, b6, e6, a6⟩ := Cond.arrayOver_spec (hts (Cond.arrayOver (.object "SignalNetwork$Leg")) (List.mem_append_right _ (List.mem_of_getElem? (l := tables_1) (i := 126) (by decide +kernel))))
  refine ⟨fun k => if k = 21 ∨ k = 31 then c1 else if k = 22 ∨ k = 32 then c2 else if k = 23 ∨ k = 33 then c3 else if k = 24 then c4 else if k = 25 then c5 else c6, fun D1 D2 k q hq => ?_⟩
  have hA : ∀ (c : ClassId) (k : Class) (comp : ClassId) (ty : FieldType), s.vm.classes[c]? = some k → k.kind = .array comp ty → ArrOfT s c ty := fun c k comp ty h1 h2 n z => ⟨fun k h => (by cases h), k, h1, comp, h2⟩
  match k, hq with
  | 0, hq => cases hq; exact ⟨hA c1 k1 p1 _ b1 e1, a1⟩
  | 1, hq => cases hq; exact ⟨hA c2 k2 p2 _ b2 e2, a2⟩
  | 2, hq => cases hq; exact ⟨hA c3 k3 p3 _ b3 e3, a3⟩
  | 3, hq => cases hq; exact ⟨hA c4 k4 p4 _ b4 e4, k4, p4, b4, e4, f4, a4⟩
  | 4, hq => cases hq; exact ⟨hA c5 k5 p5 _ b5 e5, k5, p5, b5, e5, f5, a5⟩
  | 5, hq => cases hq; exact ⟨hA c6 k6 p6 _ b6 e6, k6, p6, b6, e6, f6, a6⟩
  | 6, hq => cases hq; exact ⟨hA c1 k1 p1 _ b1 e1, a1⟩
  | 7, hq => cases hq; exact ⟨hA c2 k2 p2 _ b2 e2, a2⟩
  | 8, hq => cases hq; exact ⟨hA c3 k3 p3 _ b3 e3, a3⟩
  | k + 9, hq => simp [sn_tys] at hq
set_option maxHeartbeats 4000000 in
set_option maxRecDepth 100000 in
theorem whole_start {p : Program} {e : Env} {s : State} {m : MethodId} {below : List Frame} {meth : Method} {c : Code} (l : Launch) {b L : Nat} {xs : Nat → Int32} (hL : L ≤ 320) (C0 : lw_At p s m meth c b L xs) : W p l e room_1 s m #[Value.ref b] below meth c s.heap [] 0 0 (lw_Z below #[Value.ref b] s) (entryFrame m ([Value.ref b] : List Value).toArray 4) := by
  obtain ⟨hx, hb, hr, hml, hown, hts, hX, hbl, hlocks, hgv⟩ := id C0
  have hts1 : ∀ w ∈ sn_tbl, w.before #[Value.ref b] s = true := fun w hw => hts w (List.mem_filter.mp hw).1
  have key : ∀ q ∈ sn_cls, ∃ (cC : ClassId) (iS : Nat → Nat), u_Kn s q.1 q.2.1 q.2.2 cC iS := List.forall_mem_cons.mpr ⟨u_known (n := 1) hts1 in0 (hts1 _ In_Ck), List.forall_mem_cons.mpr ⟨u_known (n := 19) hts1 in1 (hts1 _ In_En), List.forall_mem_cons.mpr ⟨u_known (n := 7) hts1 in2 (hts1 _ In_Fl), List.forall_mem_cons.mpr ⟨u_known (n := 12) hts1 in3 (hts1 _ In_Lg), List.forall_mem_cons.mpr ⟨u_known (n := 8) hts1 in5 (hts1 _ In_Pl), List.forall_mem_cons.mpr ⟨u_known (n := 3) hts1 in6 (hts1 _ In_Qu), List.forall_mem_cons.mpr ⟨u_known (n := 5) hts1 in7 (hts1 _ In_Sw), List.forall_mem_cons.mpr ⟨u_known (n := 10) hts1 in8 (hts1 _ In_Tr), List.forall_mem_cons.mpr ⟨u_known (n := 7) hts1 in9 (hts1 _ In_Un), List.forall_mem_cons.mpr ⟨u_known (n := 9) hts1 in10 (hts1 _ In_Wi), List.forall_mem_cons.mpr ⟨u_known (n := 5) hts1 in11 (hts1 _ In_Sn), List.forall_mem_cons.mpr ⟨u_known (n := 64) hts1 in12 (hts1 _ In_Md), fun _ h => absurd h List.not_mem_nil⟩⟩⟩⟩⟩⟩⟩⟩⟩⟩⟩⟩
  obtain ⟨dC, dI, hKc⟩ : ∃ (dC : Nat → ClassId) (dI : Nat → Nat → Nat), ∀ (k : Nat) (q : vw_C), sn_cls[k]? = some q → u_Kn s q.1 q.2.1 q.2.2 (dC k) (dI k) := by
    have h : ∀ k : Nat, ∃ (cC : ClassId) (iS : Nat → Nat), ∀ q : vw_C, sn_cls[k]? = some q → u_Kn s q.1 q.2.1 q.2.2 cC iS := by
      intro k
      cases hq : sn_cls[k]? with
      | none => exact ⟨0, fun _ => 0, fun q h => by cases h⟩
      | some q =>
        obtain ⟨cC, iS, h⟩ := key q (List.mem_of_getElem? hq)
        exact ⟨cC, iS, fun q' h' => by cases h'; exact h⟩
    exact ⟨fun k => (h k).choose, fun k => (h k).choose_spec.choose, fun k q hq => (h k).choose_spec.choose_spec q hq⟩
  obtain ⟨dA, hAc⟩ := sn_dA hts
  have hK : sn_K (dC, dI, dA) s := ⟨⟨hKc, hAc dC dI⟩, ⟨va_AO.of (hts _ (List.mem_append_right _ (List.mem_of_getElem? (l := tables_1) (i := 82) (by decide +kernel)))), va_AO.of (hts _ (List.mem_append_right _ (List.mem_of_getElem? (l := tables_1) (i := 84) (by decide +kernel)))), va_AO.of (hts _ (List.mem_append_right _ (List.mem_of_getElem? (l := tables_1) (i := 126) (by decide +kernel))))⟩, va_Nw.of rfl (hts _ (List.mem_append_right _ (List.mem_of_getElem? (l := tables_1) (i := 25) (by decide +kernel)))), va_Nw.of rfl (hts _ (List.mem_append_right _ (List.mem_of_getElem? (l := tables_1) (i := 281) (by decide +kernel))))⟩
  obtain ⟨μF, hf, hz, hu⟩ := law_true b L xs s.heap.size hL
  have C : sn_Cx (p, l, e, 16, 394, s, m, #[Value.ref b], below, meth, c, (dC, dI, dA), s.heap.size, 4, sn_mem0 s.heap.size, some (.int 1), μF) c_La_law "SignalNetworkLaw" (some .boolean) meth.name 4 16 394 :=
    ⟨⟨rfl, rfl, rfl⟩, hx, hb, hml, hown, hts1, hr, hlocks, rfl, hK⟩
  have hS := (s_La_law C b L xs ⟨hX, hbl⟩).2
  have hl := lv_entry ([.ref b]) (n := 4) (Nat.le_of_ble_eq_true rfl)
  rw [lg_entry_eq]
  have hRep : sn_Rep (dC, dI, dA) s.heap.size (sn_mem0 s.heap.size) s.heap := ⟨rfl, fun a h => absurd rfl h⟩
  have h1 := hS _ s.heap [] (sn_mem0 s.heap.size) hl ⟨hRep, fun _ _ => rfl, (fun _ h => absurd h List.not_mem_nil), Nat.le_refl _, Nat.le_refl _, Nat.le_refl _⟩ hf
  simp only [Nat.sub_self] at h1
  have hz2 : m_sz μF - m_sz (sn_mem0 s.heap.size) ≤ 600000 := by show m_sz μF - s.heap.size ≤ 600000; omega
  have hu2 : m_us μF - m_us (sn_mem0 s.heap.size) ≤ 7302250 := by show m_us μF - 0 ≤ 7302250; omega
  refine sn_big ?_ ?_ hz2 hu2 ?_ h1
  · exact Nat.le_of_ble_eq_true rfl
  · exact Nat.le_of_ble_eq_true rfl
  · rintro t ⟨o, h2, h3, ⟨ho, -, -⟩, Lc, ⟨hv, hW, hsame⟩, hLc⟩
    exact ⟨o, h2, h3, ho, hv, hW, hsame.weaken (fun y hy hlt => absurd hlt (Nat.not_lt.mpr (hLc y hy))) hz2 hu2⟩
set_option maxHeartbeats 4000000 in
theorem lw_walk (l : Launch) (b : Addr) (xs : List Int32) : MetFree l x (headSpec (Jvm.Cond.code x code maxLocals ret :: tables_1) room_1) (lw_P b xs) (fun _ _ _ _ _ => True) lw_Q := by
  refine MetFree.of_bodyS (code := code) (maxLocals := maxLocals) (ret := ret) (by decide) ?_ ?_
  · intro args s m h hn
    obtain ⟨meth, c, h1, h2, h3, h4, h5, h6, -, -⟩ := Cond.code_spec hn (atoms_spec (ws := Jvm.Cond.code x code maxLocals ret :: tables_1) h _ List.mem_cons_self)
    exact ⟨meth, c, h1, h2, h3, h4, h5, h6⟩
  · intro p e s m args below meth c s₁ B hml0 hP _
    obtain ⟨rfl, hx, hbd, hgv⟩ := hP
    obtain ⟨scr, harrAt, hlist, hof, hsmall⟩ := hx
    obtain ⟨hcb, hkn, -, -⟩ := State.arrayAt?_spec harrAt
    have hown : s.vm.findClass R_law = some m.cls := findClass_of_methodNamed B.named
    have hts0 : ∀ c ∈ (Jvm.Cond.code x code maxLocals ret :: tables_1), c.before #[Value.ref b] s = true := atoms_spec (ws := Jvm.Cond.code x code maxLocals ret :: tables_1) B.pre
    have hts : ∀ w ∈ lw_tbl, w.before #[Value.ref b] s = true := k2_hts_sels lw_privs (fun w hw => hts0 w (List.mem_cons_of_mem _ hw)) lw_privs_ok
    have hml : c.maxLocals = 4 := B.maxLocals_eq (hts0 _ List.mem_cons_self)
    have X₀ : Stand p l e room_1 s m #[Value.ref b] below meth c s₁ [] 0 0 := Stand.of_body B
    have hh0 : s₁.heap = s.heap := by rw [B.state]; rfl
    have hsz : scr.slots.size = xs.length := by rw [← Array.length_toList, hlist, List.length_map]
    have hval : ∀ j : Nat, j < xs.length → scr.slots[j]? = some (.int (xs.getD j 0)) := fun j hj => by
      rw [← Array.getElem?_toList, hlist]
      simp [hj]
    have hbl : b < s.heap.size := (Array.getElem?_eq_some_iff.mp hcb).1
    have hX : va_X b xs.length (fun j => xs.getD j 0) s s.heap := ⟨scr, hcb, hof, hkn, hsz, hval⟩
    have K : W p l e room_1 s m #[Value.ref b] below meth c s₁.heap [] 0 0 (lw_Z below #[Value.ref b] s) (entryFrame m ([Value.ref b] : List Value).toArray 4) := by
      rw [hh0]
      exact whole_start l hbd ⟨B.exec, B.bytes, B.returns, hml, hown, hts, hX, hbl, B.notSynchronized, hgv⟩
    obtain ⟨t, a1, o, b1, b2, b3⟩ := K s₁ rfl X₀
    exact ⟨t, o, a1, b1, b2, b3⟩
theorem lw_pre_spec {args : Array Value} {s : State} (h : (Jvm.Cond.and given_1 narrow_1).before args s = true) (hr : rest_1_c.before args s = true) : ∃ (b : Addr) (xs : List Int32), lw_P b xs args s := by
  have hs := flat_of_before _ h
  have hq := flat_of_before _ hr
  have hc : (Cond.count 1).before args s = true := hs _ (by decide +kernel)
  have harr : (Cond.arrayOf (.arg 0) .int).before args s = true := hs _ (by decide +kernel)
  have hle : (Cond.le (.length (.arg 0)) (.int 320)).before args s = true := hs _ (by decide +kernel)
  have hlen : (Cond.isInt (.length (.arg 0))).before args s = true := hq _ (by decide +kernel)
  have hall : (Cond.all (.arg 0) (.isInt (.elem (.arg 0) (.index 0)))).before args s = true := hq _ (by decide +kernel)
  obtain ⟨b, xs, hb, hx⟩ := State.ints_of_pre rfl harr hlen hall
  have hsm : xs.length < 2 ^ 31 := hx.choose_spec.2.2.2
  have hev : (Term.length (.arg 0)).eval args s none [] s = some (.int xs.length.toInt32) := hx.length_eval hb
  have hv := Cond.le_ints hev (show (Term.int 320).eval args s none [] s = some (.int 320) from rfl)
  have hd : xs.length.toInt32 ≤ 320 := by
    simpa [Cond.before, Cond.holds, hv] using hle
  have hN : xs.length ≤ 320 := (Int32.ofNat_le_ofNat hsm (by decide)).mp (show Int32.ofNat xs.length ≤ Int32.ofNat 320 from hd)
  exact ⟨b, xs, Cond.one_arg hc (show args[0]? = some (.ref b) from hb), hx, hN, h⟩
theorem lw_comes (l : Launch) : Comes l x (Jvm.Cond.code x code maxLocals ret :: tables_1) room_1 (fun tb e args s => Calls_1 tb e args s ∧ rest_1 tb e args s ∧ Pre_1 tb e args s)
    (fun _ _ args s o t => lw_Q args s o t) := by
  intro p e ha hc hk s m args below hf hfit hheap happ hpre
  obtain ⟨b, xs, hP⟩ := lw_pre_spec hpre.2.2 hpre.2.1
  obtain ⟨k, o, h1, h2, h3, hQ⟩ := lw_walk l b xs p e ha hc hk s m args below hf ((Spec.applies_iff_loose hf).mp happ).1 hP trivial
  exact ⟨k, o, h1, h2, h3, hQ⟩
theorem lw_frame {s t : State} {o : Outcome} {args : Array Value} (h : Framed s o t [] 600000 7302250) :
    Framed s o t (fieldLocs frame_1_writes args s ++ arrayLocs frame_1_arrays args s ++ staticLocs frame_1_statics s) 600000 7302250 := h
theorem lw_limb (L : Cond) (hL : ∀ (args : Array Value) (s t : State), L.after args s (.returned (some (.int 1))) t = true) :
    ArmFor flags0 classFile x code maxLocals ret World_1 tables_1 room_1 Calls_1 rest_1 Pre_1
      (fun tb e a s o t => postC L tb e a s o t ∧ Framed s o t (fieldLocs frame_1_writes a s ++ arrayLocs frame_1_arrays a s ++ staticLocs frame_1_statics s) 600000 7302250) := by
  intro l _ _ _ p e ha hc hk s m args below hf hfit hheap happ hpre
  obtain ⟨k, o, h1, h2, h3, rfl, hF⟩ := lw_comes l p e ha hc hk s m args below hf hfit hheap happ hpre
  exact ⟨k, _, h1, h2, h3, hL args s _, lw_frame hF⟩
theorem i_vc : Claimed_1_1 ∧ Claimed_1_2 := ⟨lw_limb limb_1_1 (fun args s t => by simp [limb_1_1, Cond.after, Cond.holds, Cond.value]), lw_limb limb_1_2 (fun args s t => Cond.after_iff.mpr (by
  first | (rw [show limb_1_2 = Cond.eq .result (.int 1) from rfl, Cond.eq_ints (x := 1) (y := 1) rfl rfl]; simp; done) | (simp [limb_1_2, Cond.value, Term.eval]; done)))⟩
