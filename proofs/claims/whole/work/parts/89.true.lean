def sn_mem0 (sz : Nat) : sn_Mem := (sz, 0, fun _ => 0, fun _ => 0, fun _ _ => 0, fun _ _ => 0, fun _ _ => none)
theorem law_true (b L : Nat) (xs : Nat → Int32) (sz : Nat) (hL : L ≤ 320) : ∃ μF : sn_Mem, f_La_law b L xs (sn_mem0 sz) = some (some (.int 1), μF) ∧ m_sz μF ≤ sz + 600000 ∧ m_us μF ≤ 7302250 := by
  sorry
