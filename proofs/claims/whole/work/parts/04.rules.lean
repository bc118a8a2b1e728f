section Rules
variable {X : sn_X} {cc : ByteArray} {own nm : String} {ret : Option FieldType} {nL fr lo pc q : Nat} {lv lv' : sn_L} {st : List sn_V} {f : sn_M}
theorem r_iconst (C : sn_Cx X cc own ret nm nL fr lo) {n : Int} {v : Int32} (hd : decode cc pc = .ok (.iconst n, 1)) (hq : pc + 1 = q) (hv : Int32.ofInt n = v) (h : sn_S X q lv (vI v :: st) f) : sn_S X pc lv st f := by
  obtain ⟨p, l, e, fr', lo', s, m, args, below, meth, c, D, base, nL', μ0, rF, μF⟩ := X
  obtain ⟨⟨rfl, rfl, rfl⟩, hx, hb, hml, hown, hts, hr, hlk, hnm, hK⟩ := C
  subst hq
  exact ⟨h.1, fun ls H locs μ hl ok hf => lv_iconst hx hb hd hv (h.2 ls H locs μ hl ok hf)⟩
theorem r_bipush (C : sn_Cx X cc own ret nm nL fr lo) {n : Int} {v : Int32} (hd : decode cc pc = .ok (.bipush n, 2)) (hq : pc + 2 = q) (hv : (Int8.ofInt n).toInt32 = v) (h : sn_S X q lv (vI v :: st) f) : sn_S X pc lv st f := by
  obtain ⟨p, l, e, fr', lo', s, m, args, below, meth, c, D, base, nL', μ0, rF, μF⟩ := X
  obtain ⟨⟨rfl, rfl, rfl⟩, hx, hb, hml, hown, hts, hr, hlk, hnm, hK⟩ := C
  subst hq
  exact ⟨h.1, fun ls H locs μ hl ok hf => lv_bipush hx hb hd hv (h.2 ls H locs μ hl ok hf)⟩
theorem r_sipush (C : sn_Cx X cc own ret nm nL fr lo) {n : Int} {v : Int32} (hd : decode cc pc = .ok (.sipush n, 3)) (hq : pc + 3 = q) (hv : (Int16.ofInt n).toInt32 = v) (h : sn_S X q lv (vI v :: st) f) : sn_S X pc lv st f := by
  obtain ⟨p, l, e, fr', lo', s, m, args, below, meth, c, D, base, nL', μ0, rF, μF⟩ := X
  obtain ⟨⟨rfl, rfl, rfl⟩, hx, hb, hml, hown, hts, hr, hlk, hnm, hK⟩ := C
  subst hq
  exact ⟨h.1, fun ls H locs μ hl ok hf => lv_sipush hx hb hd hv (h.2 ls H locs μ hl ok hf)⟩
theorem r_lconst (C : sn_Cx X cc own ret nm nL fr lo) {n : Fin 2} {v : Int64} (hd : decode cc pc = .ok (.lconst n, 1)) (hq : pc + 1 = q) (hv : Int64.ofNat (n : Nat) = v) (h : sn_S X q lv (vJ v :: st) f) : sn_S X pc lv st f := by
  obtain ⟨p, l, e, fr', lo', s, m, args, below, meth, c, D, base, nL', μ0, rF, μF⟩ := X
  obtain ⟨⟨rfl, rfl, rfl⟩, hx, hb, hml, hown, hts, hr, hlk, hnm, hK⟩ := C
  subst hq
  exact ⟨h.1, fun ls H locs μ hl ok hf => lv_lconst hx hb hd hv (h.2 ls H locs μ hl ok hf)⟩
theorem r_ldc (C : sn_Cx X cc own ret nm nL fr lo) {n : Nat} {v : Int32} (hd : decode cc pc = .ok (.ldc n, 2)) (hq : pc + 2 = q) (hw : Cond.constant own n v ∈ sn_tbl) (h : sn_S X q lv (vI v :: st) f) : sn_S X pc lv st f := by
  obtain ⟨p, l, e, fr', lo', s, m, args, below, meth, c, D, base, nL', μ0, rF, μF⟩ := X
  obtain ⟨⟨rfl, rfl, rfl⟩, hx, hb, hml, hown, hts, hr, hlk, hnm, hK⟩ := C
  subst hq
  exact ⟨h.1, fun ls H locs μ hl ok hf => lv_ldc hx hb hown (hts _ hw) hd (h.2 ls H locs μ hl ok hf)⟩
theorem r_ldc_w (C : sn_Cx X cc own ret nm nL fr lo) {n : Nat} {v : Int32} (hd : decode cc pc = .ok (.ldc_w n, 3)) (hq : pc + 3 = q) (hw : Cond.constant own n v ∈ sn_tbl) (h : sn_S X q lv (vI v :: st) f) : sn_S X pc lv st f := by
  obtain ⟨p, l, e, fr', lo', s, m, args, below, meth, c, D, base, nL', μ0, rF, μF⟩ := X
  obtain ⟨⟨rfl, rfl, rfl⟩, hx, hb, hml, hown, hts, hr, hlk, hnm, hK⟩ := C
  subst hq
  exact ⟨h.1, fun ls H locs μ hl ok hf => lv_ldcw hx hb hown (hts _ hw) hd (h.2 ls H locs μ hl ok hf)⟩
theorem r_ldc2_w (C : sn_Cx X cc own ret nm nL fr lo) {n : Nat} {v : Int64} (hd : decode cc pc = .ok (.ldc2_w n, 3)) (hq : pc + 3 = q) (hw : Cond.constantLong own n v ∈ sn_tbl) (h : sn_S X q lv (vJ v :: st) f) : sn_S X pc lv st f := by
  obtain ⟨p, l, e, fr', lo', s, m, args, below, meth, c, D, base, nL', μ0, rF, μF⟩ := X
  obtain ⟨⟨rfl, rfl, rfl⟩, hx, hb, hml, hown, hts, hr, hlk, hnm, hK⟩ := C
  subst hq
  exact ⟨h.1, fun ls H locs μ hl ok hf => lv_ldc2 hx hb hown (hts _ hw) hd (h.2 ls H locs μ hl ok hf)⟩
theorem r_null (C : sn_Cx X cc own ret nm nL fr lo)  (hd : decode cc pc = .ok (.aconst_null, 1)) (hq : pc + 1 = q)  (h : sn_S X q lv (vA none :: st) f) : sn_S X pc lv st f := by
  obtain ⟨p, l, e, fr', lo', s, m, args, below, meth, c, D, base, nL', μ0, rF, μF⟩ := X
  obtain ⟨⟨rfl, rfl, rfl⟩, hx, hb, hml, hown, hts, hr, hlk, hnm, hK⟩ := C
  subst hq
  exact ⟨h.1, fun ls H locs μ hl ok hf => lv_null hx hb hd (h.2 ls H locs μ hl ok hf)⟩
theorem r_iload_n (C : sn_Cx X cc own ret nm nL fr lo) {k : Fin 4} {i pl : Nat} {x : Int32} (hd : decode cc pc = .ok (.iload_n k, 1)) (hq : pc + 1 = q) (hi : (k : Nat) = i) (hp : lv[pl]? = some (i, vI x)) (h : sn_S X q lv (vI x :: st) f) : sn_S X pc lv st f := by
  obtain ⟨p, l, e, fr', lo', s, m, args, below, meth, c, D, base, nL', μ0, rF, μF⟩ := X
  obtain ⟨⟨rfl, rfl, rfl⟩, hx, hb, hml, hown, hts, hr, hlk, hnm, hK⟩ := C
  subst hq
  exact ⟨h.1, fun ls H locs μ hl ok hf => lv_iload_n hx hb hd hi (sn_lv_at hl hp) (h.2 ls H locs μ hl ok hf)⟩
theorem r_iload (C : sn_Cx X cc own ret nm nL fr lo) {i pl : Nat} {x : Int32} (hd : decode cc pc = .ok (.iload i, 2)) (hq : pc + 2 = q) (hp : lv[pl]? = some (i, vI x)) (h : sn_S X q lv (vI x :: st) f) : sn_S X pc lv st f := by
  obtain ⟨p, l, e, fr', lo', s, m, args, below, meth, c, D, base, nL', μ0, rF, μF⟩ := X
  obtain ⟨⟨rfl, rfl, rfl⟩, hx, hb, hml, hown, hts, hr, hlk, hnm, hK⟩ := C
  subst hq
  exact ⟨h.1, fun ls H locs μ hl ok hf => lv_iload hx hb hd (sn_lv_at hl hp) (h.2 ls H locs μ hl ok hf)⟩
theorem r_lload_n (C : sn_Cx X cc own ret nm nL fr lo) {k : Fin 4} {i pl : Nat} {x : Int64} (hd : decode cc pc = .ok (.lload_n k, 1)) (hq : pc + 1 = q) (hi : (k : Nat) = i) (hp : lv[pl]? = some (i, vJ x)) (h : sn_S X q lv (vJ x :: st) f) : sn_S X pc lv st f := by
  obtain ⟨p, l, e, fr', lo', s, m, args, below, meth, c, D, base, nL', μ0, rF, μF⟩ := X
  obtain ⟨⟨rfl, rfl, rfl⟩, hx, hb, hml, hown, hts, hr, hlk, hnm, hK⟩ := C
  subst hq
  exact ⟨h.1, fun ls H locs μ hl ok hf => lv_lload_n hx hb hd hi (sn_lv_at hl hp) (h.2 ls H locs μ hl ok hf)⟩
theorem r_lload (C : sn_Cx X cc own ret nm nL fr lo) {i pl : Nat} {x : Int64} (hd : decode cc pc = .ok (.lload i, 2)) (hq : pc + 2 = q) (hp : lv[pl]? = some (i, vJ x)) (h : sn_S X q lv (vJ x :: st) f) : sn_S X pc lv st f := by
  obtain ⟨p, l, e, fr', lo', s, m, args, below, meth, c, D, base, nL', μ0, rF, μF⟩ := X
  obtain ⟨⟨rfl, rfl, rfl⟩, hx, hb, hml, hown, hts, hr, hlk, hnm, hK⟩ := C
  subst hq
  exact ⟨h.1, fun ls H locs μ hl ok hf => lv_lload hx hb hd (sn_lv_at hl hp) (h.2 ls H locs μ hl ok hf)⟩
theorem r_aload_n (C : sn_Cx X cc own ret nm nL fr lo) {k : Fin 4} {i pl : Nat} {x : Option Nat} (hd : decode cc pc = .ok (.aload_n k, 1)) (hq : pc + 1 = q) (hi : (k : Nat) = i) (hp : lv[pl]? = some (i, vA x)) (h : sn_S X q lv (vA x :: st) f) : sn_S X pc lv st f := by
  obtain ⟨p, l, e, fr', lo', s, m, args, below, meth, c, D, base, nL', μ0, rF, μF⟩ := X
  obtain ⟨⟨rfl, rfl, rfl⟩, hx, hb, hml, hown, hts, hr, hlk, hnm, hK⟩ := C
  subst hq
  refine ⟨h.1, fun ls H locs μ hl ok hf => ?_⟩
  have h1 := h.2 ls H locs μ hl ok hf
  have h2 := sn_lv_at hl hp
  cases x with
  | none => exact lv_aload_nN hx hb hd hi h2 h1
  | some y => exact lv_aload_n hx hb hd hi h2 h1
theorem r_aload (C : sn_Cx X cc own ret nm nL fr lo) {i pl : Nat} {x : Option Nat} (hd : decode cc pc = .ok (.aload i, 2)) (hq : pc + 2 = q) (hp : lv[pl]? = some (i, vA x)) (h : sn_S X q lv (vA x :: st) f) : sn_S X pc lv st f := by
  obtain ⟨p, l, e, fr', lo', s, m, args, below, meth, c, D, base, nL', μ0, rF, μF⟩ := X
  obtain ⟨⟨rfl, rfl, rfl⟩, hx, hb, hml, hown, hts, hr, hlk, hnm, hK⟩ := C
  subst hq
  refine ⟨h.1, fun ls H locs μ hl ok hf => ?_⟩
  have h1 := h.2 ls H locs μ hl ok hf
  have h2 := sn_lv_at hl hp
  cases x with
  | none => exact lv_aloadN hx hb hd h2 h1
  | some y => exact lv_aload hx hb hd h2 h1
theorem r_istore_n (C : sn_Cx X cc own ret nm nL fr lo) {k : Fin 4} {i : Nat} {x : Int32} (hd : decode cc pc = .ok (.istore_n k, 1)) (hq : pc + 1 = q) (hi : (k : Nat) = i) (hn : i < nL) (hl : sn_s1 i (vI x) lv = lv') (h : sn_S X q lv' st f) : sn_S X pc lv (vI x :: st) f := by
  obtain ⟨p, l, e, fr', lo', s, m, args, below, meth, c, D, base, nL', μ0, rF, μF⟩ := X
  obtain ⟨⟨rfl, rfl, rfl⟩, hx, hb, hml, hown, hts, hr, hlk, hnm, hK⟩ := C
  subst hq
  subst hl
  refine ⟨h.1, fun ls H locs μ hl ok hf => ?_⟩
  exact lv_istore_n hx hb hd hi hl hn (sn_s1_eq i (vI x) lv) (fun ls' hl' => h.2 ls' H locs μ hl' ok hf)
theorem r_istore (C : sn_Cx X cc own ret nm nL fr lo) {i : Nat} {x : Int32} (hd : decode cc pc = .ok (.istore i, 2)) (hq : pc + 2 = q) (hn : i < nL) (hl : sn_s1 i (vI x) lv = lv') (h : sn_S X q lv' st f) : sn_S X pc lv (vI x :: st) f := by
  obtain ⟨p, l, e, fr', lo', s, m, args, below, meth, c, D, base, nL', μ0, rF, μF⟩ := X
  obtain ⟨⟨rfl, rfl, rfl⟩, hx, hb, hml, hown, hts, hr, hlk, hnm, hK⟩ := C
  subst hq
  subst hl
  refine ⟨h.1, fun ls H locs μ hl ok hf => ?_⟩
  exact lv_istore hx hb hd hl hn (sn_s1_eq i (vI x) lv) (fun ls' hl' => h.2 ls' H locs μ hl' ok hf)
theorem r_lstore_n (C : sn_Cx X cc own ret nm nL fr lo) {k : Fin 4} {i : Nat} {x : Int64} (hd : decode cc pc = .ok (.lstore_n k, 1)) (hq : pc + 1 = q) (hi : (k : Nat) = i) (hn : i + 1 < nL) (hl : sn_s2 i (vJ x) lv = lv') (h : sn_S X q lv' st f) : sn_S X pc lv (vJ x :: st) f := by
  obtain ⟨p, l, e, fr', lo', s, m, args, below, meth, c, D, base, nL', μ0, rF, μF⟩ := X
  obtain ⟨⟨rfl, rfl, rfl⟩, hx, hb, hml, hown, hts, hr, hlk, hnm, hK⟩ := C
  subst hq
  subst hl
  refine ⟨h.1, fun ls H locs μ hl ok hf => ?_⟩
  exact lv_lstore_n hx hb hd hi hl hn (sn_s2_eq i (vJ x) lv) (fun ls' hl' => h.2 ls' H locs μ hl' ok hf)
theorem r_lstore (C : sn_Cx X cc own ret nm nL fr lo) {i : Nat} {x : Int64} (hd : decode cc pc = .ok (.lstore i, 2)) (hq : pc + 2 = q) (hn : i + 1 < nL) (hl : sn_s2 i (vJ x) lv = lv') (h : sn_S X q lv' st f) : sn_S X pc lv (vJ x :: st) f := by
  obtain ⟨p, l, e, fr', lo', s, m, args, below, meth, c, D, base, nL', μ0, rF, μF⟩ := X
  obtain ⟨⟨rfl, rfl, rfl⟩, hx, hb, hml, hown, hts, hr, hlk, hnm, hK⟩ := C
  subst hq
  subst hl
  refine ⟨h.1, fun ls H locs μ hl ok hf => ?_⟩
  exact lv_lstore hx hb hd hl hn (sn_s2_eq i (vJ x) lv) (fun ls' hl' => h.2 ls' H locs μ hl' ok hf)
theorem r_astore_n (C : sn_Cx X cc own ret nm nL fr lo) {k : Fin 4} {i : Nat} {x : Option Nat} (hd : decode cc pc = .ok (.astore_n k, 1)) (hq : pc + 1 = q) (hi : (k : Nat) = i) (hn : i < nL) (hl : sn_s1 i (vA x) lv = lv') (h : sn_S X q lv' st f) : sn_S X pc lv (vA x :: st) f := by
  obtain ⟨p, l, e, fr', lo', s, m, args, below, meth, c, D, base, nL', μ0, rF, μF⟩ := X
  obtain ⟨⟨rfl, rfl, rfl⟩, hx, hb, hml, hown, hts, hr, hlk, hnm, hK⟩ := C
  subst hq
  subst hl
  refine ⟨h.1, fun ls H locs μ hl ok hf => ?_⟩
  cases x with
  | none => exact lv_astore_nN hx hb hd hi hl hn (sn_s1_eq i (vA none) lv) (fun ls' hl' => h.2 ls' H locs μ hl' ok hf)
  | some y => exact lv_astore_n hx hb hd hi hl hn (sn_s1_eq i (vA (some y)) lv) (fun ls' hl' => h.2 ls' H locs μ hl' ok hf)
theorem r_astore (C : sn_Cx X cc own ret nm nL fr lo) {i : Nat} {x : Option Nat} (hd : decode cc pc = .ok (.astore i, 2)) (hq : pc + 2 = q) (hn : i < nL) (hl : sn_s1 i (vA x) lv = lv') (h : sn_S X q lv' st f) : sn_S X pc lv (vA x :: st) f := by
  obtain ⟨p, l, e, fr', lo', s, m, args, below, meth, c, D, base, nL', μ0, rF, μF⟩ := X
  obtain ⟨⟨rfl, rfl, rfl⟩, hx, hb, hml, hown, hts, hr, hlk, hnm, hK⟩ := C
  subst hq
  subst hl
  refine ⟨h.1, fun ls H locs μ hl ok hf => ?_⟩
  cases x with
  | none => exact lv_astoreN hx hb hd hl hn (sn_s1_eq i (vA none) lv) (fun ls' hl' => h.2 ls' H locs μ hl' ok hf)
  | some y => exact lv_astore hx hb hd hl hn (sn_s1_eq i (vA (some y)) lv) (fun ls' hl' => h.2 ls' H locs μ hl' ok hf)
theorem r_iinc (C : sn_Cx X cc own ret nm nL fr lo) {i pl : Nat} {n : Int} {x v : Int32} (hd : decode cc pc = .ok (.iinc i n, 3)) (hq : pc + 3 = q) (hp : lv[pl]? = some (i, vI x)) (hv : x + Int32.ofInt n = v) (hn : i < nL) (hl : sn_s1 i (vI v) lv = lv') (h : sn_S X q lv' st f) : sn_S X pc lv st f := by
  obtain ⟨p, l, e, fr', lo', s, m, args, below, meth, c, D, base, nL', μ0, rF, μF⟩ := X
  obtain ⟨⟨rfl, rfl, rfl⟩, hx, hb, hml, hown, hts, hr, hlk, hnm, hK⟩ := C
  subst hq
  subst hl
  refine ⟨h.1, fun ls H locs μ hl ok hf => ?_⟩
  exact lv_iinc hx hb hd hl (k := pl) (by simp [sn_lv, hp, sn_v]) hv hn (sn_s1_eq i (vI v) lv) (fun ls' hl' => h.2 ls' H locs μ hl' ok hf)
theorem r_iadd (C : sn_Cx X cc own ret nm nL fr lo) {x y : Int32} (hd : decode cc pc = .ok (.iadd, 1)) (hq : pc + 1 = q)  (h : sn_S X q lv (vI (x + y) :: st) f) : sn_S X pc lv (vI y :: vI x :: st) f := by
  obtain ⟨p, l, e, fr', lo', s, m, args, below, meth, c, D, base, nL', μ0, rF, μF⟩ := X
  obtain ⟨⟨rfl, rfl, rfl⟩, hx, hb, hml, hown, hts, hr, hlk, hnm, hK⟩ := C
  subst hq
  exact ⟨h.1, fun ls H locs μ hl ok hf => lv_iadd hx hb hd (h.2 ls H locs μ hl ok hf)⟩
theorem r_isub (C : sn_Cx X cc own ret nm nL fr lo) {x y : Int32} (hd : decode cc pc = .ok (.isub, 1)) (hq : pc + 1 = q)  (h : sn_S X q lv (vI (x - y) :: st) f) : sn_S X pc lv (vI y :: vI x :: st) f := by
  obtain ⟨p, l, e, fr', lo', s, m, args, below, meth, c, D, base, nL', μ0, rF, μF⟩ := X
  obtain ⟨⟨rfl, rfl, rfl⟩, hx, hb, hml, hown, hts, hr, hlk, hnm, hK⟩ := C
  subst hq
  exact ⟨h.1, fun ls H locs μ hl ok hf => lv_isub hx hb hd (h.2 ls H locs μ hl ok hf)⟩
theorem r_imul (C : sn_Cx X cc own ret nm nL fr lo) {x y : Int32} (hd : decode cc pc = .ok (.imul, 1)) (hq : pc + 1 = q)  (h : sn_S X q lv (vI (x * y) :: st) f) : sn_S X pc lv (vI y :: vI x :: st) f := by
  obtain ⟨p, l, e, fr', lo', s, m, args, below, meth, c, D, base, nL', μ0, rF, μF⟩ := X
  obtain ⟨⟨rfl, rfl, rfl⟩, hx, hb, hml, hown, hts, hr, hlk, hnm, hK⟩ := C
  subst hq
  exact ⟨h.1, fun ls H locs μ hl ok hf => lv_imul hx hb hd (h.2 ls H locs μ hl ok hf)⟩
theorem r_iand (C : sn_Cx X cc own ret nm nL fr lo) {x y : Int32} (hd : decode cc pc = .ok (.iand, 1)) (hq : pc + 1 = q)  (h : sn_S X q lv (vI (x &&& y) :: st) f) : sn_S X pc lv (vI y :: vI x :: st) f := by
  obtain ⟨p, l, e, fr', lo', s, m, args, below, meth, c, D, base, nL', μ0, rF, μF⟩ := X
  obtain ⟨⟨rfl, rfl, rfl⟩, hx, hb, hml, hown, hts, hr, hlk, hnm, hK⟩ := C
  subst hq
  exact ⟨h.1, fun ls H locs μ hl ok hf => lv_iand hx hb hd (h.2 ls H locs μ hl ok hf)⟩
theorem r_ior (C : sn_Cx X cc own ret nm nL fr lo) {x y : Int32} (hd : decode cc pc = .ok (.ior, 1)) (hq : pc + 1 = q)  (h : sn_S X q lv (vI (x ||| y) :: st) f) : sn_S X pc lv (vI y :: vI x :: st) f := by
  obtain ⟨p, l, e, fr', lo', s, m, args, below, meth, c, D, base, nL', μ0, rF, μF⟩ := X
  obtain ⟨⟨rfl, rfl, rfl⟩, hx, hb, hml, hown, hts, hr, hlk, hnm, hK⟩ := C
  subst hq
  exact ⟨h.1, fun ls H locs μ hl ok hf => lv_ior hx hb hd (h.2 ls H locs μ hl ok hf)⟩
theorem r_ixor (C : sn_Cx X cc own ret nm nL fr lo) {x y : Int32} (hd : decode cc pc = .ok (.ixor, 1)) (hq : pc + 1 = q)  (h : sn_S X q lv (vI (x ^^^ y) :: st) f) : sn_S X pc lv (vI y :: vI x :: st) f := by
  obtain ⟨p, l, e, fr', lo', s, m, args, below, meth, c, D, base, nL', μ0, rF, μF⟩ := X
  obtain ⟨⟨rfl, rfl, rfl⟩, hx, hb, hml, hown, hts, hr, hlk, hnm, hK⟩ := C
  subst hq
  exact ⟨h.1, fun ls H locs μ hl ok hf => lv_ixor hx hb hd (h.2 ls H locs μ hl ok hf)⟩
theorem r_ishl (C : sn_Cx X cc own ret nm nL fr lo) {x y : Int32} (hd : decode cc pc = .ok (.ishl, 1)) (hq : pc + 1 = q)  (h : sn_S X q lv (vI (x <<< (y &&& 31)) :: st) f) : sn_S X pc lv (vI y :: vI x :: st) f := by
  obtain ⟨p, l, e, fr', lo', s, m, args, below, meth, c, D, base, nL', μ0, rF, μF⟩ := X
  obtain ⟨⟨rfl, rfl, rfl⟩, hx, hb, hml, hown, hts, hr, hlk, hnm, hK⟩ := C
  subst hq
  exact ⟨h.1, fun ls H locs μ hl ok hf => lv_ishl hx hb hd (h.2 ls H locs μ hl ok hf)⟩
theorem r_ishr (C : sn_Cx X cc own ret nm nL fr lo) {x y : Int32} (hd : decode cc pc = .ok (.ishr, 1)) (hq : pc + 1 = q)  (h : sn_S X q lv (vI (x >>> (y &&& 31)) :: st) f) : sn_S X pc lv (vI y :: vI x :: st) f := by
  obtain ⟨p, l, e, fr', lo', s, m, args, below, meth, c, D, base, nL', μ0, rF, μF⟩ := X
  obtain ⟨⟨rfl, rfl, rfl⟩, hx, hb, hml, hown, hts, hr, hlk, hnm, hK⟩ := C
  subst hq
  exact ⟨h.1, fun ls H locs μ hl ok hf => lv_ishr hx hb hd (h.2 ls H locs μ hl ok hf)⟩
theorem r_iushr (C : sn_Cx X cc own ret nm nL fr lo) {x y : Int32} (hd : decode cc pc = .ok (.iushr, 1)) (hq : pc + 1 = q)  (h : sn_S X q lv (vI (x.toUInt32 >>> (y.toUInt32 &&& Int32.toUInt32 31)).toInt32 :: st) f) : sn_S X pc lv (vI y :: vI x :: st) f := by
  obtain ⟨p, l, e, fr', lo', s, m, args, below, meth, c, D, base, nL', μ0, rF, μF⟩ := X
  obtain ⟨⟨rfl, rfl, rfl⟩, hx, hb, hml, hown, hts, hr, hlk, hnm, hK⟩ := C
  subst hq
  exact ⟨h.1, fun ls H locs μ hl ok hf => lv_iushr hx hb hd rfl (h.2 ls H locs μ hl ok hf)⟩
theorem r_ladd (C : sn_Cx X cc own ret nm nL fr lo) {x y : Int64} (hd : decode cc pc = .ok (.ladd, 1)) (hq : pc + 1 = q)  (h : sn_S X q lv (vJ (x + y) :: st) f) : sn_S X pc lv (vJ y :: vJ x :: st) f := by
  obtain ⟨p, l, e, fr', lo', s, m, args, below, meth, c, D, base, nL', μ0, rF, μF⟩ := X
  obtain ⟨⟨rfl, rfl, rfl⟩, hx, hb, hml, hown, hts, hr, hlk, hnm, hK⟩ := C
  subst hq
  exact ⟨h.1, fun ls H locs μ hl ok hf => lv_ladd hx hb hd (h.2 ls H locs μ hl ok hf)⟩
theorem r_land (C : sn_Cx X cc own ret nm nL fr lo) {x y : Int64} (hd : decode cc pc = .ok (.land, 1)) (hq : pc + 1 = q)  (h : sn_S X q lv (vJ (x &&& y) :: st) f) : sn_S X pc lv (vJ y :: vJ x :: st) f := by
  obtain ⟨p, l, e, fr', lo', s, m, args, below, meth, c, D, base, nL', μ0, rF, μF⟩ := X
  obtain ⟨⟨rfl, rfl, rfl⟩, hx, hb, hml, hown, hts, hr, hlk, hnm, hK⟩ := C
  subst hq
  exact ⟨h.1, fun ls H locs μ hl ok hf => lv_land hx hb hd (h.2 ls H locs μ hl ok hf)⟩
theorem r_lor (C : sn_Cx X cc own ret nm nL fr lo) {x y : Int64} (hd : decode cc pc = .ok (.lor, 1)) (hq : pc + 1 = q)  (h : sn_S X q lv (vJ (x ||| y) :: st) f) : sn_S X pc lv (vJ y :: vJ x :: st) f := by
  obtain ⟨p, l, e, fr', lo', s, m, args, below, meth, c, D, base, nL', μ0, rF, μF⟩ := X
  obtain ⟨⟨rfl, rfl, rfl⟩, hx, hb, hml, hown, hts, hr, hlk, hnm, hK⟩ := C
  subst hq
  exact ⟨h.1, fun ls H locs μ hl ok hf => lv_lor hx hb hd (h.2 ls H locs μ hl ok hf)⟩
theorem r_lshl (C : sn_Cx X cc own ret nm nL fr lo) {x : Int64} {y : Int32} (hd : decode cc pc = .ok (.lshl, 1)) (hq : pc + 1 = q)  (h : sn_S X q lv (vJ (x <<< (y.toInt64 &&& 63)) :: st) f) : sn_S X pc lv (vI y :: vJ x :: st) f := by
  obtain ⟨p, l, e, fr', lo', s, m, args, below, meth, c, D, base, nL', μ0, rF, μF⟩ := X
  obtain ⟨⟨rfl, rfl, rfl⟩, hx, hb, hml, hown, hts, hr, hlk, hnm, hK⟩ := C
  subst hq
  exact ⟨h.1, fun ls H locs μ hl ok hf => lv_lshl hx hb hd rfl (h.2 ls H locs μ hl ok hf)⟩
theorem r_lshr (C : sn_Cx X cc own ret nm nL fr lo) {x : Int64} {y : Int32} (hd : decode cc pc = .ok (.lshr, 1)) (hq : pc + 1 = q)  (h : sn_S X q lv (vJ (x >>> (y.toInt64 &&& 63)) :: st) f) : sn_S X pc lv (vI y :: vJ x :: st) f := by
  obtain ⟨p, l, e, fr', lo', s, m, args, below, meth, c, D, base, nL', μ0, rF, μF⟩ := X
  obtain ⟨⟨rfl, rfl, rfl⟩, hx, hb, hml, hown, hts, hr, hlk, hnm, hK⟩ := C
  subst hq
  exact ⟨h.1, fun ls H locs μ hl ok hf => lv_lshr hx hb hd rfl (h.2 ls H locs μ hl ok hf)⟩
theorem r_i2l (C : sn_Cx X cc own ret nm nL fr lo) {x : Int32} (hd : decode cc pc = .ok (.i2l, 1)) (hq : pc + 1 = q)  (h : sn_S X q lv (vJ x.toInt64 :: st) f) : sn_S X pc lv (vI x :: st) f := by
  obtain ⟨p, l, e, fr', lo', s, m, args, below, meth, c, D, base, nL', μ0, rF, μF⟩ := X
  obtain ⟨⟨rfl, rfl, rfl⟩, hx, hb, hml, hown, hts, hr, hlk, hnm, hK⟩ := C
  subst hq
  exact ⟨h.1, fun ls H locs μ hl ok hf => lv_i2l hx hb hd rfl (h.2 ls H locs μ hl ok hf)⟩
theorem r_l2i (C : sn_Cx X cc own ret nm nL fr lo) {x : Int64} (hd : decode cc pc = .ok (.l2i, 1)) (hq : pc + 1 = q)  (h : sn_S X q lv (vI x.toInt32 :: st) f) : sn_S X pc lv (vJ x :: st) f := by
  obtain ⟨p, l, e, fr', lo', s, m, args, below, meth, c, D, base, nL', μ0, rF, μF⟩ := X
  obtain ⟨⟨rfl, rfl, rfl⟩, hx, hb, hml, hown, hts, hr, hlk, hnm, hK⟩ := C
  subst hq
  exact ⟨h.1, fun ls H locs μ hl ok hf => lv_l2i hx hb hd rfl (h.2 ls H locs μ hl ok hf)⟩
theorem r_lcmp (C : sn_Cx X cc own ret nm nL fr lo) {x y : Int64} (hd : decode cc pc = .ok (.lcmp, 1)) (hq : pc + 1 = q)  (h : sn_S X q lv (vI (lg_cmp x y) :: st) f) : sn_S X pc lv (vJ y :: vJ x :: st) f := by
  obtain ⟨p, l, e, fr', lo', s, m, args, below, meth, c, D, base, nL', μ0, rF, μF⟩ := X
  obtain ⟨⟨rfl, rfl, rfl⟩, hx, hb, hml, hown, hts, hr, hlk, hnm, hK⟩ := C
  subst hq
  exact ⟨h.1, fun ls H locs μ hl ok hf => W.lcmp hx hb hd (h.2 ls H locs μ hl ok hf)⟩
theorem r_idivc (C : sn_Cx X cc own ret nm nL fr lo) {x y : Int32} (hd : decode cc pc = .ok (.idiv, 1)) (hq : pc + 1 = q) (hne : ¬ y = 0) (h : sn_S X q lv (vI (x / y) :: st) f) : sn_S X pc lv (vI y :: vI x :: st) f := by
  obtain ⟨p, l, e, fr', lo', s, m, args, below, meth, c, D, base, nL', μ0, rF, μF⟩ := X
  obtain ⟨⟨rfl, rfl, rfl⟩, hx, hb, hml, hown, hts, hr, hlk, hnm, hK⟩ := C
  subst hq
  exact ⟨h.1, fun ls H locs μ hl ok hf => lv_idiv hx hb hd hne (h.2 ls H locs μ hl ok hf)⟩
theorem r_iremc (C : sn_Cx X cc own ret nm nL fr lo) {x y : Int32} (hd : decode cc pc = .ok (.irem, 1)) (hq : pc + 1 = q) (hne : ¬ y = 0) (h : sn_S X q lv (vI (x % y) :: st) f) : sn_S X pc lv (vI y :: vI x :: st) f := by
  obtain ⟨p, l, e, fr', lo', s, m, args, below, meth, c, D, base, nL', μ0, rF, μF⟩ := X
  obtain ⟨⟨rfl, rfl, rfl⟩, hx, hb, hml, hown, hts, hr, hlk, hnm, hK⟩ := C
  subst hq
  rw [← irem_eq_mod] at h
  exact ⟨h.1, fun ls H locs μ hl ok hf => lv_irem hx hb hd hne (h.2 ls H locs μ hl ok hf)⟩
theorem sn_Mono.D {y : Int32} {K : sn_M} (h : sn_Mono K) : sn_Mono (n_D y K) := by
  intro μ r ν hf
  by_cases hy : y = 0
  · simp [n_D, hy] at hf
  · simp only [n_D, hy, if_false] at hf
    exact h _ _ _ hf
theorem n_D_use {y : Int32} {K : sn_M} {μ : sn_Mem} {r : Option Value × sn_Mem} (hf : n_D y K μ = some r) : ¬ y = 0 ∧ K μ = some r := by
  by_cases hy : y = 0
  · simp [n_D, hy] at hf
  · simp only [n_D, hy, if_false] at hf
    exact ⟨hy, hf⟩
theorem r_irem (C : sn_Cx X cc own ret nm nL fr lo) {x y : Int32} (hd : decode cc pc = .ok (.irem, 1)) (hq : pc + 1 = q) (h : sn_S X q lv (vI (x % y) :: st) f) : sn_S X pc lv (vI y :: vI x :: st) (n_D y f) := by
  obtain ⟨p, l, e, fr', lo', s, m, args, below, meth, c, D, base, nL', μ0, rF, μF⟩ := X
  obtain ⟨⟨rfl, rfl, rfl⟩, hx, hb, hml, hown, hts, hr, hlk, hnm, hK⟩ := C
  subst hq
  rw [← irem_eq_mod] at h
  exact ⟨h.1.D, fun ls H locs μ hl ok hf => lv_irem hx hb hd (n_D_use hf).1 (h.2 ls H locs μ hl ok (n_D_use hf).2)⟩
theorem r_idiv (C : sn_Cx X cc own ret nm nL fr lo) {x y : Int32} (hd : decode cc pc = .ok (.idiv, 1)) (hq : pc + 1 = q) (h : sn_S X q lv (vI (x / y) :: st) f) : sn_S X pc lv (vI y :: vI x :: st) (n_D y f) := by
  obtain ⟨p, l, e, fr', lo', s, m, args, below, meth, c, D, base, nL', μ0, rF, μF⟩ := X
  obtain ⟨⟨rfl, rfl, rfl⟩, hx, hb, hml, hown, hts, hr, hlk, hnm, hK⟩ := C
  subst hq
  exact ⟨h.1.D, fun ls H locs μ hl ok hf => lv_idiv hx hb hd (n_D_use hf).1 (h.2 ls H locs μ hl ok (n_D_use hf).2)⟩
theorem r_dup (C : sn_Cx X cc own ret nm nL fr lo) {a : sn_V} (hd : decode cc pc = .ok (.dup, 1)) (hq : pc + 1 = q) (ha : sn_c a = 1) (h : sn_S X q lv (a :: a :: st) f) : sn_S X pc lv (a :: st) f := by
  obtain ⟨p, l, e, fr', lo', s, m, args, below, meth, c, D, base, nL', μ0, rF, μF⟩ := X
  obtain ⟨⟨rfl, rfl, rfl⟩, hx, hb, hml, hown, hts, hr, hlk, hnm, hK⟩ := C
  subst hq
  exact ⟨h.1, fun ls H locs μ hl ok hf => lv_dup hx hb hd ((sn_vc a).trans ha) (h.2 ls H locs μ hl ok hf)⟩
theorem r_pop (C : sn_Cx X cc own ret nm nL fr lo) {a : sn_V} (hd : decode cc pc = .ok (.pop, 1)) (hq : pc + 1 = q) (ha : sn_c a = 1) (h : sn_S X q lv st f) : sn_S X pc lv (a :: st) f := by
  obtain ⟨p, l, e, fr', lo', s, m, args, below, meth, c, D, base, nL', μ0, rF, μF⟩ := X
  obtain ⟨⟨rfl, rfl, rfl⟩, hx, hb, hml, hown, hts, hr, hlk, hnm, hK⟩ := C
  subst hq
  exact ⟨h.1, fun ls H locs μ hl ok hf => lv_pop hx hb hd ((sn_vc a).trans ha) (h.2 ls H locs μ hl ok hf)⟩
theorem r_dup2 (C : sn_Cx X cc own ret nm nL fr lo) {a b : sn_V} (hd : decode cc pc = .ok (.dup2, 1)) (hq : pc + 1 = q) (ha : sn_c a = 1) (hb2 : sn_c b = 1) (h : sn_S X q lv (a :: b :: a :: b :: st) f) : sn_S X pc lv (a :: b :: st) f := by
  obtain ⟨p, l, e, fr', lo', s, m, args, below, meth, c, D, base, nL', μ0, rF, μF⟩ := X
  obtain ⟨⟨rfl, rfl, rfl⟩, hx, hb, hml, hown, hts, hr, hlk, hnm, hK⟩ := C
  subst hq
  exact ⟨h.1, fun ls H locs μ hl ok hf => lv_dup2_11 hx hb hd ((sn_vc a).trans ha) ((sn_vc b).trans hb2) (h.2 ls H locs μ hl ok hf)⟩
theorem r_nI {v : Int32} {K : Int32 → sn_M} (h : ∀ x, sn_S X pc lv (vI x :: st) (K x)) : sn_S X pc lv (vI v :: st) (n_I v K) := h v
theorem r_nJ {v : Int64} {K : Int64 → sn_M} (h : ∀ x, sn_S X pc lv (vJ x :: st) (K x)) : sn_S X pc lv (vJ v :: st) (n_J v K) := h v
theorem r_sub (ks : List Nat) (hs : ks.filterMap (fun k => lv[k]?) = lv') (h : sn_S X pc lv' st f) : sn_S X pc lv st f := by
  obtain ⟨p, l, e, fr', lo', s, m, args, below, meth, c, D, base, nL', μ0, rF, μF⟩ := X
  refine ⟨h.1, fun ls H locs μ hl ok hf => h.2 ls H locs μ (lv_sub hl ks ?_) ok hf⟩
  subst hs
  simp only [lv_pick, sn_lv, List.map_filterMap, List.getElem?_map]
theorem sn_Mono.ite {c : Prop} {d : Decidable c} {A B : sn_M} (h1 : sn_Mono A) (h2 : sn_Mono B) : sn_Mono (@ite sn_M c d A B) := by
  by_cases hc : c
  · rw [if_pos hc]; exact h1
  · rw [if_neg hc]; exact h2
theorem r_if_eq (C : sn_Cx X cc own ret nm nL fr lo) {x : Int32} {off : Int} {tgt : Nat} {A B : sn_M} (hd : decode cc pc = .ok (.ifCond .eq off, 3)) (ht : (pc : Int) + off = (tgt : Int)) (hq : pc + 3 = q) (hA : sn_S X tgt lv st A) (hB : sn_S X q lv st B) : sn_S X pc lv (vI x :: st) (if x = 0 then A else B) := by
  obtain ⟨p, l, e, fr', lo', s, m, args, below, meth, c, D, base, nL', μ0, rF, μF⟩ := X
  obtain ⟨⟨rfl, rfl, rfl⟩, hx, hb, hml, hown, hts, hr, hlk, hnm, hK⟩ := C
  subst hq
  refine ⟨hA.1.ite hB.1, fun ls H locs μ hl ok hf => ?_⟩
  exact lv_if_eq hx hb hd ht (fun k => hA.2 ls H locs μ hl ok (by rw [if_pos k] at hf; exact hf)) (fun k => hB.2 ls H locs μ hl ok (by rw [if_neg k] at hf; exact hf))
theorem r_icmp_eq (C : sn_Cx X cc own ret nm nL fr lo) {x y : Int32} {off : Int} {tgt : Nat} {A B : sn_M} (hd : decode cc pc = .ok (.if_icmp .eq off, 3)) (ht : (pc : Int) + off = (tgt : Int)) (hq : pc + 3 = q) (hA : sn_S X tgt lv st A) (hB : sn_S X q lv st B) : sn_S X pc lv (vI y :: vI x :: st) (if x = y then A else B) := by
  obtain ⟨p, l, e, fr', lo', s, m, args, below, meth, c, D, base, nL', μ0, rF, μF⟩ := X
  obtain ⟨⟨rfl, rfl, rfl⟩, hx, hb, hml, hown, hts, hr, hlk, hnm, hK⟩ := C
  subst hq
  refine ⟨hA.1.ite hB.1, fun ls H locs μ hl ok hf => ?_⟩
  exact lv_icmp_eq hx hb hd ht (fun k => hA.2 ls H locs μ hl ok (by rw [if_pos k] at hf; exact hf)) (fun k => hB.2 ls H locs μ hl ok (by rw [if_neg k] at hf; exact hf))
theorem r_if_ne (C : sn_Cx X cc own ret nm nL fr lo) {x : Int32} {off : Int} {tgt : Nat} {A B : sn_M} (hd : decode cc pc = .ok (.ifCond .ne off, 3)) (ht : (pc : Int) + off = (tgt : Int)) (hq : pc + 3 = q) (hA : sn_S X tgt lv st A) (hB : sn_S X q lv st B) : sn_S X pc lv (vI x :: st) (if ¬ x = 0 then A else B) := by
  obtain ⟨p, l, e, fr', lo', s, m, args, below, meth, c, D, base, nL', μ0, rF, μF⟩ := X
  obtain ⟨⟨rfl, rfl, rfl⟩, hx, hb, hml, hown, hts, hr, hlk, hnm, hK⟩ := C
  subst hq
  refine ⟨hA.1.ite hB.1, fun ls H locs μ hl ok hf => ?_⟩
  exact lv_if_ne hx hb hd ht (fun k => hA.2 ls H locs μ hl ok (by rw [if_pos k] at hf; exact hf)) (fun k => hB.2 ls H locs μ hl ok (by rw [if_neg (fun z => z k)] at hf; exact hf))
theorem r_icmp_ne (C : sn_Cx X cc own ret nm nL fr lo) {x y : Int32} {off : Int} {tgt : Nat} {A B : sn_M} (hd : decode cc pc = .ok (.if_icmp .ne off, 3)) (ht : (pc : Int) + off = (tgt : Int)) (hq : pc + 3 = q) (hA : sn_S X tgt lv st A) (hB : sn_S X q lv st B) : sn_S X pc lv (vI y :: vI x :: st) (if ¬ x = y then A else B) := by
  obtain ⟨p, l, e, fr', lo', s, m, args, below, meth, c, D, base, nL', μ0, rF, μF⟩ := X
  obtain ⟨⟨rfl, rfl, rfl⟩, hx, hb, hml, hown, hts, hr, hlk, hnm, hK⟩ := C
  subst hq
  refine ⟨hA.1.ite hB.1, fun ls H locs μ hl ok hf => ?_⟩
  exact lv_icmp_ne hx hb hd ht (fun k => hA.2 ls H locs μ hl ok (by rw [if_pos k] at hf; exact hf)) (fun k => hB.2 ls H locs μ hl ok (by rw [if_neg (fun z => z k)] at hf; exact hf))
theorem r_if_lt (C : sn_Cx X cc own ret nm nL fr lo) {x : Int32} {off : Int} {tgt : Nat} {A B : sn_M} (hd : decode cc pc = .ok (.ifCond .lt off, 3)) (ht : (pc : Int) + off = (tgt : Int)) (hq : pc + 3 = q) (hA : sn_S X tgt lv st A) (hB : sn_S X q lv st B) : sn_S X pc lv (vI x :: st) (if x < 0 then A else B) := by
  obtain ⟨p, l, e, fr', lo', s, m, args, below, meth, c, D, base, nL', μ0, rF, μF⟩ := X
  obtain ⟨⟨rfl, rfl, rfl⟩, hx, hb, hml, hown, hts, hr, hlk, hnm, hK⟩ := C
  subst hq
  refine ⟨hA.1.ite hB.1, fun ls H locs μ hl ok hf => ?_⟩
  exact lv_if_lt hx hb hd ht (fun k => hA.2 ls H locs μ hl ok (by rw [if_pos k] at hf; exact hf)) (fun k => hB.2 ls H locs μ hl ok (by rw [if_neg k] at hf; exact hf))
theorem r_icmp_lt (C : sn_Cx X cc own ret nm nL fr lo) {x y : Int32} {off : Int} {tgt : Nat} {A B : sn_M} (hd : decode cc pc = .ok (.if_icmp .lt off, 3)) (ht : (pc : Int) + off = (tgt : Int)) (hq : pc + 3 = q) (hA : sn_S X tgt lv st A) (hB : sn_S X q lv st B) : sn_S X pc lv (vI y :: vI x :: st) (if x < y then A else B) := by
  obtain ⟨p, l, e, fr', lo', s, m, args, below, meth, c, D, base, nL', μ0, rF, μF⟩ := X
  obtain ⟨⟨rfl, rfl, rfl⟩, hx, hb, hml, hown, hts, hr, hlk, hnm, hK⟩ := C
  subst hq
  refine ⟨hA.1.ite hB.1, fun ls H locs μ hl ok hf => ?_⟩
  exact lv_icmp_lt hx hb hd ht (fun k => hA.2 ls H locs μ hl ok (by rw [if_pos k] at hf; exact hf)) (fun k => hB.2 ls H locs μ hl ok (by rw [if_neg k] at hf; exact hf))
theorem r_if_ge (C : sn_Cx X cc own ret nm nL fr lo) {x : Int32} {off : Int} {tgt : Nat} {A B : sn_M} (hd : decode cc pc = .ok (.ifCond .ge off, 3)) (ht : (pc : Int) + off = (tgt : Int)) (hq : pc + 3 = q) (hA : sn_S X tgt lv st A) (hB : sn_S X q lv st B) : sn_S X pc lv (vI x :: st) (if 0 ≤ x then A else B) := by
  obtain ⟨p, l, e, fr', lo', s, m, args, below, meth, c, D, base, nL', μ0, rF, μF⟩ := X
  obtain ⟨⟨rfl, rfl, rfl⟩, hx, hb, hml, hown, hts, hr, hlk, hnm, hK⟩ := C
  subst hq
  refine ⟨hA.1.ite hB.1, fun ls H locs μ hl ok hf => ?_⟩
  exact lv_if_ge hx hb hd ht (fun k => hA.2 ls H locs μ hl ok (by rw [if_pos k] at hf; exact hf)) (fun k => hB.2 ls H locs μ hl ok (by rw [if_neg k] at hf; exact hf))
theorem r_icmp_ge (C : sn_Cx X cc own ret nm nL fr lo) {x y : Int32} {off : Int} {tgt : Nat} {A B : sn_M} (hd : decode cc pc = .ok (.if_icmp .ge off, 3)) (ht : (pc : Int) + off = (tgt : Int)) (hq : pc + 3 = q) (hA : sn_S X tgt lv st A) (hB : sn_S X q lv st B) : sn_S X pc lv (vI y :: vI x :: st) (if y ≤ x then A else B) := by
  obtain ⟨p, l, e, fr', lo', s, m, args, below, meth, c, D, base, nL', μ0, rF, μF⟩ := X
  obtain ⟨⟨rfl, rfl, rfl⟩, hx, hb, hml, hown, hts, hr, hlk, hnm, hK⟩ := C
  subst hq
  refine ⟨hA.1.ite hB.1, fun ls H locs μ hl ok hf => ?_⟩
  exact lv_icmp_ge hx hb hd ht (fun k => hA.2 ls H locs μ hl ok (by rw [if_pos k] at hf; exact hf)) (fun k => hB.2 ls H locs μ hl ok (by rw [if_neg k] at hf; exact hf))
theorem r_if_gt (C : sn_Cx X cc own ret nm nL fr lo) {x : Int32} {off : Int} {tgt : Nat} {A B : sn_M} (hd : decode cc pc = .ok (.ifCond .gt off, 3)) (ht : (pc : Int) + off = (tgt : Int)) (hq : pc + 3 = q) (hA : sn_S X tgt lv st A) (hB : sn_S X q lv st B) : sn_S X pc lv (vI x :: st) (if 0 < x then A else B) := by
  obtain ⟨p, l, e, fr', lo', s, m, args, below, meth, c, D, base, nL', μ0, rF, μF⟩ := X
  obtain ⟨⟨rfl, rfl, rfl⟩, hx, hb, hml, hown, hts, hr, hlk, hnm, hK⟩ := C
  subst hq
  refine ⟨hA.1.ite hB.1, fun ls H locs μ hl ok hf => ?_⟩
  exact lv_if_gt hx hb hd ht (fun k => hA.2 ls H locs μ hl ok (by rw [if_pos k] at hf; exact hf)) (fun k => hB.2 ls H locs μ hl ok (by rw [if_neg k] at hf; exact hf))
theorem r_icmp_gt (C : sn_Cx X cc own ret nm nL fr lo) {x y : Int32} {off : Int} {tgt : Nat} {A B : sn_M} (hd : decode cc pc = .ok (.if_icmp .gt off, 3)) (ht : (pc : Int) + off = (tgt : Int)) (hq : pc + 3 = q) (hA : sn_S X tgt lv st A) (hB : sn_S X q lv st B) : sn_S X pc lv (vI y :: vI x :: st) (if y < x then A else B) := by
  obtain ⟨p, l, e, fr', lo', s, m, args, below, meth, c, D, base, nL', μ0, rF, μF⟩ := X
  obtain ⟨⟨rfl, rfl, rfl⟩, hx, hb, hml, hown, hts, hr, hlk, hnm, hK⟩ := C
  subst hq
  refine ⟨hA.1.ite hB.1, fun ls H locs μ hl ok hf => ?_⟩
  exact lv_icmp_gt hx hb hd ht (fun k => hA.2 ls H locs μ hl ok (by rw [if_pos k] at hf; exact hf)) (fun k => hB.2 ls H locs μ hl ok (by rw [if_neg k] at hf; exact hf))
theorem r_if_le (C : sn_Cx X cc own ret nm nL fr lo) {x : Int32} {off : Int} {tgt : Nat} {A B : sn_M} (hd : decode cc pc = .ok (.ifCond .le off, 3)) (ht : (pc : Int) + off = (tgt : Int)) (hq : pc + 3 = q) (hA : sn_S X tgt lv st A) (hB : sn_S X q lv st B) : sn_S X pc lv (vI x :: st) (if x ≤ 0 then A else B) := by
  obtain ⟨p, l, e, fr', lo', s, m, args, below, meth, c, D, base, nL', μ0, rF, μF⟩ := X
  obtain ⟨⟨rfl, rfl, rfl⟩, hx, hb, hml, hown, hts, hr, hlk, hnm, hK⟩ := C
  subst hq
  refine ⟨hA.1.ite hB.1, fun ls H locs μ hl ok hf => ?_⟩
  exact lv_if_le hx hb hd ht (fun k => hA.2 ls H locs μ hl ok (by rw [if_pos k] at hf; exact hf)) (fun k => hB.2 ls H locs μ hl ok (by rw [if_neg k] at hf; exact hf))
theorem r_icmp_le (C : sn_Cx X cc own ret nm nL fr lo) {x y : Int32} {off : Int} {tgt : Nat} {A B : sn_M} (hd : decode cc pc = .ok (.if_icmp .le off, 3)) (ht : (pc : Int) + off = (tgt : Int)) (hq : pc + 3 = q) (hA : sn_S X tgt lv st A) (hB : sn_S X q lv st B) : sn_S X pc lv (vI y :: vI x :: st) (if x ≤ y then A else B) := by
  obtain ⟨p, l, e, fr', lo', s, m, args, below, meth, c, D, base, nL', μ0, rF, μF⟩ := X
  obtain ⟨⟨rfl, rfl, rfl⟩, hx, hb, hml, hown, hts, hr, hlk, hnm, hK⟩ := C
  subst hq
  refine ⟨hA.1.ite hB.1, fun ls H locs μ hl ok hf => ?_⟩
  exact lv_icmp_le hx hb hd ht (fun k => hA.2 ls H locs μ hl ok (by rw [if_pos k] at hf; exact hf)) (fun k => hB.2 ls H locs μ hl ok (by rw [if_neg k] at hf; exact hf))
theorem r_acmp_eq (C : sn_Cx X cc own ret nm nL fr lo) {rx ry : Option Nat} {off : Int} {tgt : Nat} {A B : sn_M} (hd : decode cc pc = .ok (.if_acmp .eq off, 3)) (ht : (pc : Int) + off = (tgt : Int)) (hq : pc + 3 = q) (hA : sn_S X tgt lv st A) (hB : sn_S X q lv st B) : sn_S X pc lv (vA ry :: vA rx :: st) (if rx = ry then A else B) := by
  obtain ⟨p, l, e, fr', lo', s, m, args, below, meth, c, D, base, nL', μ0, rF, μF⟩ := X
  obtain ⟨⟨rfl, rfl, rfl⟩, hx, hb, hml, hown, hts, hr, hlk, hnm, hK⟩ := C
  subst hq
  refine ⟨hA.1.ite hB.1, fun ls H locs μ hl ok hf => ?_⟩
  exact lv_acmp_eq hx hb hd ht (fun k => hA.2 ls H locs μ hl ok (by rw [if_pos k] at hf; exact hf)) (fun k => hB.2 ls H locs μ hl ok (by rw [if_neg k] at hf; exact hf))
theorem r_acmp_ne (C : sn_Cx X cc own ret nm nL fr lo) {rx ry : Option Nat} {off : Int} {tgt : Nat} {A B : sn_M} (hd : decode cc pc = .ok (.if_acmp .ne off, 3)) (ht : (pc : Int) + off = (tgt : Int)) (hq : pc + 3 = q) (hA : sn_S X tgt lv st A) (hB : sn_S X q lv st B) : sn_S X pc lv (vA ry :: vA rx :: st) (if ¬ rx = ry then A else B) := by
  obtain ⟨p, l, e, fr', lo', s, m, args, below, meth, c, D, base, nL', μ0, rF, μF⟩ := X
  obtain ⟨⟨rfl, rfl, rfl⟩, hx, hb, hml, hown, hts, hr, hlk, hnm, hK⟩ := C
  subst hq
  refine ⟨hA.1.ite hB.1, fun ls H locs μ hl ok hf => ?_⟩
  exact lv_acmp_ne hx hb hd ht (fun k => hA.2 ls H locs μ hl ok (by rw [if_pos k] at hf; exact hf)) (fun k => hB.2 ls H locs μ hl ok (by rw [if_neg (fun z => z k)] at hf; exact hf))
theorem r_ifnull (C : sn_Cx X cc own ret nm nL fr lo) {r : Option Nat} {off : Int} {tgt : Nat} {A B : sn_M} (hd : decode cc pc = .ok (.ifnull off, 3)) (ht : (pc : Int) + off = (tgt : Int)) (hq : pc + 3 = q) (hA : sn_S X tgt lv st A) (hB : sn_S X q lv st B) : sn_S X pc lv (vA r :: st) (if r = none then A else B) := by
  obtain ⟨p, l, e, fr', lo', s, m, args, below, meth, c, D, base, nL', μ0, rF, μF⟩ := X
  obtain ⟨⟨rfl, rfl, rfl⟩, hx, hb, hml, hown, hts, hr, hlk, hnm, hK⟩ := C
  subst hq
  refine ⟨hA.1.ite hB.1, fun ls H locs μ hl ok hf => ?_⟩
  cases r with
  | none => exact lv_ifnullN hx hb hd ht (hA.2 ls H locs μ hl ok hf)
  | some y => exact lv_ifnull hx hb hd (hB.2 ls H locs μ hl ok (by simpa using hf))
theorem r_ifnonnull (C : sn_Cx X cc own ret nm nL fr lo) {r : Option Nat} {off : Int} {tgt : Nat} {A B : sn_M} (hd : decode cc pc = .ok (.ifnonnull off, 3)) (ht : (pc : Int) + off = (tgt : Int)) (hq : pc + 3 = q) (hA : sn_S X tgt lv st A) (hB : sn_S X q lv st B) : sn_S X pc lv (vA r :: st) (if ¬ r = none then A else B) := by
  obtain ⟨p, l, e, fr', lo', s, m, args, below, meth, c, D, base, nL', μ0, rF, μF⟩ := X
  obtain ⟨⟨rfl, rfl, rfl⟩, hx, hb, hml, hown, hts, hr, hlk, hnm, hK⟩ := C
  subst hq
  refine ⟨hA.1.ite hB.1, fun ls H locs μ hl ok hf => ?_⟩
  cases r with
  | none => exact lv_ifnonnullN hx hb hd (hB.2 ls H locs μ hl ok (by simpa using hf))
  | some y => exact lv_ifnonnull hx hb hd ht (hA.2 ls H locs μ hl ok (by simpa using hf))
theorem r_goto (C : sn_Cx X cc own ret nm nL fr lo) {off : Int} {tgt : Nat} (hd : decode cc pc = .ok (.goto off, 3)) (ht : (pc : Int) + off = (tgt : Int)) (h : sn_S X tgt lv st f) : sn_S X pc lv st f := by
  obtain ⟨p, l, e, fr', lo', s, m, args, below, meth, c, D, base, nL', μ0, rF, μF⟩ := X
  obtain ⟨⟨rfl, rfl, rfl⟩, hx, hb, hml, hown, hts, hr, hlk, hnm, hK⟩ := C
  exact ⟨h.1, fun ls H locs μ hl ok hf => lv_goto hx hb hd ht (h.2 ls H locs μ hl ok hf)⟩
end Rules
