/-! the law: its script -/
def a_S (L : Nat) (xs : Nat → Int32) (i : Int32) (K : Int32 → sn_M) : sn_M := fun μ => if ¬ (i < 0 ∨ L ≤ i.toNatClampNeg) then K (xs i.toNatClampNeg) μ else none
def a_SL (L : Nat) (K : Int32 → sn_M) : sn_M := K L.toInt32
def sn_Sc (X : sn_X) (b L : Nat) (xs : Nat → Int32) : Prop := match X with
  | (_, _, _, _, _, s, _, _, _, _, _, _, base, _, _, _, _) => va_X b L xs s s.heap ∧ b < base
theorem a_S_use {L : Nat} {xs : Nat → Int32} {i : Int32} {K : Int32 → sn_M} {μ : sn_Mem} {x : Option Value × sn_Mem} (h : a_S L xs i K μ = some x) : (¬ (i < 0 ∨ L ≤ i.toNatClampNeg)) ∧ K (xs i.toNatClampNeg) μ = some x := by
  by_cases hk : ¬ (i < 0 ∨ L ≤ i.toNatClampNeg)
  · exact ⟨hk, by simpa only [a_S, hk, if_true, not_false_eq_true] using h⟩
  · simp only [a_S, hk, if_false] at h
    cases h
theorem sn_Mono.aS {L : Nat} {xs : Nat → Int32} {i : Int32} {K : Int32 → sn_M} (h : ∀ v, sn_Mono (K v)) : sn_Mono (a_S L xs i K) := by
  intro μ x ν hf
  exact h _ μ x ν (a_S_use hf).2
theorem sn_Mono.aSL {L : Nat} {K : Int32 → sn_M} (h : ∀ v, sn_Mono (K v)) : sn_Mono (a_SL L K) := h _
section LawRules
variable {X : sn_X} {cc : ByteArray} {own nm : String} {ret : Option FieldType} {nL fr lo pc q : Nat} {lv : sn_L} {st : List sn_V} {b L : Nat} {xs : Nat → Int32}
theorem r_sld (C : sn_Cx X cc own ret nm nL fr lo) (hSc : sn_Sc X b L xs) {i : Int32} {K : Int32 → sn_M} (hd : decode cc pc = .ok (.iaload, 1)) (hq : pc + 1 = q) (h : ∀ v, sn_S X q lv (vI v :: st) (K v)) : sn_S X pc lv (vI i :: vA (some b) :: st) (a_S L xs i K) := by
  obtain ⟨p, l, e, fr', lo', s, m, args, below, meth, cO, D, base, nL', μ0, rF, μF⟩ := X
  obtain ⟨⟨rfl, rfl, rfl⟩, hx, hb, hml, hown, hts, hr, hlk, hnm, hK⟩ := C
  subst hq
  obtain ⟨⟨scr, h1, h2, h3, h4, h5⟩, hbb⟩ := hSc
  refine ⟨sn_Mono.aS (fun v => (h v).1), fun ls H locs μ hl ok hf => ?_⟩
  obtain ⟨hin, h6⟩ := a_S_use hf
  have hc : H[b]? = some scr := (ok.2.1 b hbb).trans h1
  exact W.iald hx hb hc h2 h3 (by rw [h4]; exact hin) (h5 _ (by omega)) rfl rfl hd ((h _).2 ls H locs μ hl ok h6)
theorem r_slen (C : sn_Cx X cc own ret nm nL fr lo) (hSc : sn_Sc X b L xs) {K : Int32 → sn_M} (hd : decode cc pc = .ok (.arraylength, 1)) (hq : pc + 1 = q) (h : ∀ v, sn_S X q lv (vI v :: st) (K v)) : sn_S X pc lv (vA (some b) :: st) (a_SL L K) := by
  obtain ⟨p, l, e, fr', lo', s, m, args, below, meth, cO, D, base, nL', μ0, rF, μF⟩ := X
  obtain ⟨⟨rfl, rfl, rfl⟩, hx, hb, hml, hown, hts, hr, hlk, hnm, hK⟩ := C
  subst hq
  obtain ⟨⟨scr, h1, h2, h3, h4, h5⟩, hbb⟩ := hSc
  refine ⟨sn_Mono.aSL (fun v => (h v).1), fun ls H locs μ hl ok hf => ?_⟩
  have hc : H[b]? = some scr := (ok.2.1 b hbb).trans h1
  exact W.alen hx hb hc h2 (by rw [h4]) rfl rfl hd ((h _).2 ls H locs μ hl ok hf)
end LawRules
