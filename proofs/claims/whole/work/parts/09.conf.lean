theorem sn_Con.ofF {y : MethodName} {cc : ByteArray} {maxL : Nat} {ret : Option FieldType} {fr lo : Nat} {As : List sn_V} {f : sn_M} (hy : plainFor y = true) (hlen : sn_len As ≤ maxL) (hm : sn_Mono f)
    (h : ∀ X : sn_X, sn_Cx X cc y.cls ret y.name maxL fr lo → sn_S X 0 (sn_args 0 As) [] f) : sn_Con y cc maxL ret fr lo As f := by
  refine ⟨hm, fun l D base μ0 rF μF hf => ?_⟩
  refine va_MetF (cc := cc) (maxL := maxL) (ret := ret) hy rfl ?_
  intro p e s m args below meth c s₁ B hml hv
  obtain ⟨rfl, hRep, hbs, hK⟩ := hv
  have hts := atoms_spec (ws := Cond.code y cc maxL ret :: sn_tbl) B.pre
  have hC : sn_Cx (p, l, e, fr, lo, s, m, (As.map sn_v).toArray, below, meth, c, D, base, maxL, μ0, rF, μF) cc y.cls ret y.name maxL fr lo :=
    ⟨⟨rfl, rfl, rfl⟩, B.exec, B.bytes, hml, findClass_of_methodNamed B.named, fun w hw => hts w (List.mem_cons_of_mem _ hw), B.returns, B.notSynchronized, (name_of_methodNamed B.named B.method).1, hK⟩
  have hS := (h _ hC).2
  have hl := lv_entry (As.map sn_v) (n := maxL) (by rw [sn_len_eq]; exact hlen)
  rw [lg_entry_eq]
  rw [← sn_args_eq] at hl
  have h1 := hS _ s.heap [] μ0 hl ⟨hRep, fun _ _ => rfl, (fun _ h => absurd h List.not_mem_nil), Nat.le_refl _, Nat.le_refl _, hbs⟩ hf
  simp only [Nat.sub_self] at h1
  exact h1
