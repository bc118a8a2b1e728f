/-! LAYER 2: ends, flows, legs made -/
theorem Blk.app {μ0 μ μ' : sn_Mem} {us us' : Nat} {cs cs' : List Cel} (h : Blk μ0 μ us cs) (h' : Blk μ μ' us' cs') : Blk μ0 μ' (us + us') (cs ++ cs') := by
  obtain ⟨a1, a2, a3, a4⟩ := h
  obtain ⟨b1, b2, b3, b4⟩ := h'
  refine ⟨by rw [b1, a1, List.length_append]; omega, by rw [b2, a2]; omega, fun b hb => ?_, fun i c hi => ?_⟩
  · rw [List.length_append] at hb
    exact (a3 b (by omega)).tr (b3 b (by rw [a1]; omega))
  · by_cases q : i < cs.length
    · rw [List.getElem?_append_left q] at hi
      obtain ⟨c1, c2, c3, c4, c5⟩ := a4 i c hi
      obtain ⟨d1, d2, d3, d4, d5⟩ := b3 (m_sz μ0 + i) (Or.inl (by rw [a1]; omega))
      exact ⟨d1.trans c1, d2.trans c2, fun j => (d3 j).trans (c3 j), fun j => (d4 j).trans (c4 j), fun j => (d5 j).trans (c5 j)⟩
    · rw [List.getElem?_append_right (by omega)] at hi
      have := b4 _ c hi
      rw [a1] at this
      have e : m_sz μ0 + cs.length + (i - cs.length) = m_sz μ0 + i := by omega
      rw [e] at this
      exact this
def enC (z : Nat) (l x n : Int32) (clk : Nat) : List Cel := [(2, 19, cUI (cUI (cUI (cUI cI0 7 0) 1 l) 2 x) 3 n, cUR (cUR (cUR cR0 5 (some (z + 1))) 0 (some clk)) 4 (some (z + 2))), (9, 7, cI0, cR0), (10, 9, cUI (cUI (cUI (cUI (cUI (cUI cI0 1 127) 2 127) 3 1) 4 1) 5 (-1)) 6 0, cUR (cUR (cUR cR0 7 (some (z + 3))) 8 (some (z + 5))) 0 (some clk)), (6, 3, cI0, cUR cR0 0 (some (z + 4))), (22, 32, cI0, cR0), (6, 3, cI0, cUR cR0 0 (some (z + 6))), (22, 64, cI0, cR0)]
theorem x_En (μ : sn_Mem) (l x n : Int32) (clk : Nat) : Dn (fun μ' => Blk μ μ' 137 (enC (m_sz μ) l x n clk)) (f_En_init (m_sz μ) l x n (some clk) (u_N μ 2 19)) := by
  unfold enC
  have h0 : Blk μ (u_N μ 2 19) 19 [(2, 19, cI0, cR0)] := Blk.rf.nw 2 19
  obtain ⟨μ0, e0⟩ : ∃ μ0, μ0 = u_N μ 2 19 := ⟨_, rfl⟩
  rw [← e0] at h0 ⊢
  unfold f_En_init
  refine bk_nO h0 (fun μ1 h1 => ?_)
  have h1 : Blk μ μ1 26 [(2, 19, cI0, cR0), (9, 7, cI0, cR0)] := h1
  refine bk_nn h1 (i := 1) (x := (9, 7, cI0, cR0)) rfl rfl ?_
  refine bk_cV (Q := fun μ' => μ' = μ1) ⟨μ1, rfl, rfl⟩ (fun μ' e => ?_)
  subst e
  refine bk_pR h1 (i := 0) (x := (2, 19, cI0, cR0)) rfl rfl (fun μ2 h2 => ?_)
  have h2 : Blk μ μ2 26 [(2, 19, cI0, cUR cR0 5 (some (m_sz μ + 1))), (9, 7, cI0, cR0)] := h2
  refine bk_pI h2 (i := 0) (x := (2, 19, cI0, cUR cR0 5 (some (m_sz μ + 1)))) rfl rfl (fun μ3 h3 => ?_)
  have h3 : Blk μ μ3 26 [(2, 19, cUI cI0 7 0, cUR cR0 5 (some (m_sz μ + 1))), (9, 7, cI0, cR0)] := h3
  refine bk_pI h3 (i := 0) (x := (2, 19, cUI cI0 7 0, cUR cR0 5 (some (m_sz μ + 1)))) rfl rfl (fun μ4 h4 => ?_)
  have h4 : Blk μ μ4 26 [(2, 19, cUI (cUI cI0 7 0) 1 l, cUR cR0 5 (some (m_sz μ + 1))), (9, 7, cI0, cR0)] := h4
  refine bk_pI h4 (i := 0) (x := (2, 19, cUI (cUI cI0 7 0) 1 l, cUR cR0 5 (some (m_sz μ + 1)))) rfl rfl (fun μ5 h5 => ?_)
  have h5 : Blk μ μ5 26 [(2, 19, cUI (cUI (cUI cI0 7 0) 1 l) 2 x, cUR cR0 5 (some (m_sz μ + 1))), (9, 7, cI0, cR0)] := h5
  refine bk_pI h5 (i := 0) (x := (2, 19, cUI (cUI (cUI cI0 7 0) 1 l) 2 x, cUR cR0 5 (some (m_sz μ + 1)))) rfl rfl (fun μ6 h6 => ?_)
  have h6 : Blk μ μ6 26 [(2, 19, cUI (cUI (cUI (cUI cI0 7 0) 1 l) 2 x) 3 n, cUR cR0 5 (some (m_sz μ + 1))), (9, 7, cI0, cR0)] := h6
  refine bk_pR h6 (i := 0) (x := (2, 19, cUI (cUI (cUI (cUI cI0 7 0) 1 l) 2 x) 3 n, cUR cR0 5 (some (m_sz μ + 1)))) rfl rfl (fun μ7 h7 => ?_)
  have h7 : Blk μ μ7 26 [(2, 19, cUI (cUI (cUI (cUI cI0 7 0) 1 l) 2 x) 3 n, cUR (cUR cR0 5 (some (m_sz μ + 1))) 0 (some clk)), (9, 7, cI0, cR0)] := h7
  refine bk_nO h7 (fun μ8 h8 => ?_)
  have h8 : Blk μ μ8 35 [(2, 19, cUI (cUI (cUI (cUI cI0 7 0) 1 l) 2 x) 3 n, cUR (cUR cR0 5 (some (m_sz μ + 1))) 0 (some clk)), (9, 7, cI0, cR0), (10, 9, cI0, cR0)] := h8
  refine bk_nn h8 (i := 2) (x := (10, 9, cI0, cR0)) rfl rfl ?_
  refine bk_cV (Q := fun μ' => Blk μ μ' 137 [(2, 19, cUI (cUI (cUI (cUI cI0 7 0) 1 l) 2 x) 3 n, cUR (cUR cR0 5 (some (m_sz μ + 1))) 0 (some clk)), (9, 7, cI0, cR0), (10, 9, cUI (cUI (cUI (cUI (cUI (cUI cI0 1 127) 2 127) 3 1) 4 1) 5 (-1)) 6 0, cUR (cUR (cUR cR0 7 (some (m_sz μ + 3))) 8 (some (m_sz μ + 5))) 0 (some clk)), (6, 3, cI0, cUR cR0 0 (some (m_sz μ + 4))), (22, 32, cI0, cR0), (6, 3, cI0, cUR cR0 0 (some (m_sz μ + 6))), (22, 64, cI0, cR0)]) ?_ (fun μ22 h22 => ?_)
  · unfold f_Wi_init
    refine bk_nO h8 (fun μ9 h9 => ?_)
    have h9 : Blk μ μ9 38 [(2, 19, cUI (cUI (cUI (cUI cI0 7 0) 1 l) 2 x) 3 n, cUR (cUR cR0 5 (some (m_sz μ + 1))) 0 (some clk)), (9, 7, cI0, cR0), (10, 9, cI0, cR0), (6, 3, cI0, cR0)] := h9
    refine bk_nn h9 (i := 3) (x := (6, 3, cI0, cR0)) rfl rfl ?_
    refine bk_cV (bk_Qu (n := 32) h9 (i := 3) (x := (6, 3, cI0, cR0)) rfl rfl (by decide) (by decide)) (fun μ10 h10 => ?_)
    have h10 : Blk μ μ10 70 [(2, 19, cUI (cUI (cUI (cUI cI0 7 0) 1 l) 2 x) 3 n, cUR (cUR cR0 5 (some (m_sz μ + 1))) 0 (some clk)), (9, 7, cI0, cR0), (10, 9, cI0, cR0), (6, 3, cI0, cUR cR0 0 (some (m_sz μ + 4))), (22, 32, cI0, cR0)] := h10
    refine bk_pR h10 (i := 2) (x := (10, 9, cI0, cR0)) rfl rfl (fun μ11 h11 => ?_)
    have h11 : Blk μ μ11 70 [(2, 19, cUI (cUI (cUI (cUI cI0 7 0) 1 l) 2 x) 3 n, cUR (cUR cR0 5 (some (m_sz μ + 1))) 0 (some clk)), (9, 7, cI0, cR0), (10, 9, cI0, cUR cR0 7 (some (m_sz μ + 3))), (6, 3, cI0, cUR cR0 0 (some (m_sz μ + 4))), (22, 32, cI0, cR0)] := h11
    refine bk_nO h11 (fun μ12 h12 => ?_)
    have h12 : Blk μ μ12 73 [(2, 19, cUI (cUI (cUI (cUI cI0 7 0) 1 l) 2 x) 3 n, cUR (cUR cR0 5 (some (m_sz μ + 1))) 0 (some clk)), (9, 7, cI0, cR0), (10, 9, cI0, cUR cR0 7 (some (m_sz μ + 3))), (6, 3, cI0, cUR cR0 0 (some (m_sz μ + 4))), (22, 32, cI0, cR0), (6, 3, cI0, cR0)] := h12
    refine bk_nn h12 (i := 5) (x := (6, 3, cI0, cR0)) rfl rfl ?_
    refine bk_cV (bk_Qu (n := 64) h12 (i := 5) (x := (6, 3, cI0, cR0)) rfl rfl (by decide) (by decide)) (fun μ13 h13 => ?_)
    have h13 : Blk μ μ13 137 [(2, 19, cUI (cUI (cUI (cUI cI0 7 0) 1 l) 2 x) 3 n, cUR (cUR cR0 5 (some (m_sz μ + 1))) 0 (some clk)), (9, 7, cI0, cR0), (10, 9, cI0, cUR cR0 7 (some (m_sz μ + 3))), (6, 3, cI0, cUR cR0 0 (some (m_sz μ + 4))), (22, 32, cI0, cR0), (6, 3, cI0, cUR cR0 0 (some (m_sz μ + 6))), (22, 64, cI0, cR0)] := h13
    refine bk_pR h13 (i := 2) (x := (10, 9, cI0, cUR cR0 7 (some (m_sz μ + 3)))) rfl rfl (fun μ14 h14 => ?_)
    have h14 : Blk μ μ14 137 [(2, 19, cUI (cUI (cUI (cUI cI0 7 0) 1 l) 2 x) 3 n, cUR (cUR cR0 5 (some (m_sz μ + 1))) 0 (some clk)), (9, 7, cI0, cR0), (10, 9, cI0, cUR (cUR cR0 7 (some (m_sz μ + 3))) 8 (some (m_sz μ + 5))), (6, 3, cI0, cUR cR0 0 (some (m_sz μ + 4))), (22, 32, cI0, cR0), (6, 3, cI0, cUR cR0 0 (some (m_sz μ + 6))), (22, 64, cI0, cR0)] := h14
    refine bk_pR h14 (i := 2) (x := (10, 9, cI0, cUR (cUR cR0 7 (some (m_sz μ + 3))) 8 (some (m_sz μ + 5)))) rfl rfl (fun μ15 h15 => ?_)
    have h15 : Blk μ μ15 137 [(2, 19, cUI (cUI (cUI (cUI cI0 7 0) 1 l) 2 x) 3 n, cUR (cUR cR0 5 (some (m_sz μ + 1))) 0 (some clk)), (9, 7, cI0, cR0), (10, 9, cI0, cUR (cUR (cUR cR0 7 (some (m_sz μ + 3))) 8 (some (m_sz μ + 5))) 0 (some clk)), (6, 3, cI0, cUR cR0 0 (some (m_sz μ + 4))), (22, 32, cI0, cR0), (6, 3, cI0, cUR cR0 0 (some (m_sz μ + 6))), (22, 64, cI0, cR0)] := h15
    refine bk_nn h15 (i := 2) (x := (10, 9, cI0, cUR (cUR (cUR cR0 7 (some (m_sz μ + 3))) 8 (some (m_sz μ + 5))) 0 (some clk))) rfl rfl ?_
    refine bk_cV (Q := fun μ' => Blk μ μ' 137 [(2, 19, cUI (cUI (cUI (cUI cI0 7 0) 1 l) 2 x) 3 n, cUR (cUR cR0 5 (some (m_sz μ + 1))) 0 (some clk)), (9, 7, cI0, cR0), (10, 9, cUI (cUI (cUI (cUI (cUI (cUI cI0 1 127) 2 127) 3 1) 4 1) 5 (-1)) 6 0, cUR (cUR (cUR cR0 7 (some (m_sz μ + 3))) 8 (some (m_sz μ + 5))) 0 (some clk)), (6, 3, cI0, cUR cR0 0 (some (m_sz μ + 4))), (22, 32, cI0, cR0), (6, 3, cI0, cUR cR0 0 (some (m_sz μ + 6))), (22, 64, cI0, cR0)]) ?_ (fun μ' h => bk_V h)
    unfold f_Wi_reset
    refine bk_pI h15 (i := 2) (x := (10, 9, cI0, cUR (cUR (cUR cR0 7 (some (m_sz μ + 3))) 8 (some (m_sz μ + 5))) 0 (some clk))) rfl rfl (fun μ16 h16 => ?_)
    have h16 : Blk μ μ16 137 [(2, 19, cUI (cUI (cUI (cUI cI0 7 0) 1 l) 2 x) 3 n, cUR (cUR cR0 5 (some (m_sz μ + 1))) 0 (some clk)), (9, 7, cI0, cR0), (10, 9, cUI cI0 1 127, cUR (cUR (cUR cR0 7 (some (m_sz μ + 3))) 8 (some (m_sz μ + 5))) 0 (some clk)), (6, 3, cI0, cUR cR0 0 (some (m_sz μ + 4))), (22, 32, cI0, cR0), (6, 3, cI0, cUR cR0 0 (some (m_sz μ + 6))), (22, 64, cI0, cR0)] := h16
    refine bk_pI h16 (i := 2) (x := (10, 9, cUI cI0 1 127, cUR (cUR (cUR cR0 7 (some (m_sz μ + 3))) 8 (some (m_sz μ + 5))) 0 (some clk))) rfl rfl (fun μ17 h17 => ?_)
    have h17 : Blk μ μ17 137 [(2, 19, cUI (cUI (cUI (cUI cI0 7 0) 1 l) 2 x) 3 n, cUR (cUR cR0 5 (some (m_sz μ + 1))) 0 (some clk)), (9, 7, cI0, cR0), (10, 9, cUI (cUI cI0 1 127) 2 127, cUR (cUR (cUR cR0 7 (some (m_sz μ + 3))) 8 (some (m_sz μ + 5))) 0 (some clk)), (6, 3, cI0, cUR cR0 0 (some (m_sz μ + 4))), (22, 32, cI0, cR0), (6, 3, cI0, cUR cR0 0 (some (m_sz μ + 6))), (22, 64, cI0, cR0)] := h17
    refine bk_pI h17 (i := 2) (x := (10, 9, cUI (cUI cI0 1 127) 2 127, cUR (cUR (cUR cR0 7 (some (m_sz μ + 3))) 8 (some (m_sz μ + 5))) 0 (some clk))) rfl rfl (fun μ18 h18 => ?_)
    have h18 : Blk μ μ18 137 [(2, 19, cUI (cUI (cUI (cUI cI0 7 0) 1 l) 2 x) 3 n, cUR (cUR cR0 5 (some (m_sz μ + 1))) 0 (some clk)), (9, 7, cI0, cR0), (10, 9, cUI (cUI (cUI cI0 1 127) 2 127) 3 1, cUR (cUR (cUR cR0 7 (some (m_sz μ + 3))) 8 (some (m_sz μ + 5))) 0 (some clk)), (6, 3, cI0, cUR cR0 0 (some (m_sz μ + 4))), (22, 32, cI0, cR0), (6, 3, cI0, cUR cR0 0 (some (m_sz μ + 6))), (22, 64, cI0, cR0)] := h18
    refine bk_pI h18 (i := 2) (x := (10, 9, cUI (cUI (cUI cI0 1 127) 2 127) 3 1, cUR (cUR (cUR cR0 7 (some (m_sz μ + 3))) 8 (some (m_sz μ + 5))) 0 (some clk))) rfl rfl (fun μ19 h19 => ?_)
    have h19 : Blk μ μ19 137 [(2, 19, cUI (cUI (cUI (cUI cI0 7 0) 1 l) 2 x) 3 n, cUR (cUR cR0 5 (some (m_sz μ + 1))) 0 (some clk)), (9, 7, cI0, cR0), (10, 9, cUI (cUI (cUI (cUI cI0 1 127) 2 127) 3 1) 4 1, cUR (cUR (cUR cR0 7 (some (m_sz μ + 3))) 8 (some (m_sz μ + 5))) 0 (some clk)), (6, 3, cI0, cUR cR0 0 (some (m_sz μ + 4))), (22, 32, cI0, cR0), (6, 3, cI0, cUR cR0 0 (some (m_sz μ + 6))), (22, 64, cI0, cR0)] := h19
    refine bk_nn h19 (i := 2) (x := (10, 9, cUI (cUI (cUI (cUI cI0 1 127) 2 127) 3 1) 4 1, cUR (cUR (cUR cR0 7 (some (m_sz μ + 3))) 8 (some (m_sz μ + 5))) 0 (some clk))) rfl rfl ?_
    refine bk_cV (Q := fun μ' => Blk μ μ' 137 [(2, 19, cUI (cUI (cUI (cUI cI0 7 0) 1 l) 2 x) 3 n, cUR (cUR cR0 5 (some (m_sz μ + 1))) 0 (some clk)), (9, 7, cI0, cR0), (10, 9, cUI (cUI (cUI (cUI (cUI (cUI cI0 1 127) 2 127) 3 1) 4 1) 5 (-1)) 6 0, cUR (cUR (cUR cR0 7 (some (m_sz μ + 3))) 8 (some (m_sz μ + 5))) 0 (some clk)), (6, 3, cI0, cUR cR0 0 (some (m_sz μ + 4))), (22, 32, cI0, cR0), (6, 3, cI0, cUR cR0 0 (some (m_sz μ + 6))), (22, 64, cI0, cR0)]) ?_ (fun μ' h => bk_V h)
    unfold f_Wi_stop
    refine bk_pI h19 (i := 2) (x := (10, 9, cUI (cUI (cUI (cUI cI0 1 127) 2 127) 3 1) 4 1, cUR (cUR (cUR cR0 7 (some (m_sz μ + 3))) 8 (some (m_sz μ + 5))) 0 (some clk))) rfl rfl (fun μ20 h20 => ?_)
    have h20 : Blk μ μ20 137 [(2, 19, cUI (cUI (cUI (cUI cI0 7 0) 1 l) 2 x) 3 n, cUR (cUR cR0 5 (some (m_sz μ + 1))) 0 (some clk)), (9, 7, cI0, cR0), (10, 9, cUI (cUI (cUI (cUI (cUI cI0 1 127) 2 127) 3 1) 4 1) 5 (-1), cUR (cUR (cUR cR0 7 (some (m_sz μ + 3))) 8 (some (m_sz μ + 5))) 0 (some clk)), (6, 3, cI0, cUR cR0 0 (some (m_sz μ + 4))), (22, 32, cI0, cR0), (6, 3, cI0, cUR cR0 0 (some (m_sz μ + 6))), (22, 64, cI0, cR0)] := h20
    refine bk_pI h20 (i := 2) (x := (10, 9, cUI (cUI (cUI (cUI (cUI cI0 1 127) 2 127) 3 1) 4 1) 5 (-1), cUR (cUR (cUR cR0 7 (some (m_sz μ + 3))) 8 (some (m_sz μ + 5))) 0 (some clk))) rfl rfl (fun μ21 h21 => ?_)
    have h21 : Blk μ μ21 137 [(2, 19, cUI (cUI (cUI (cUI cI0 7 0) 1 l) 2 x) 3 n, cUR (cUR cR0 5 (some (m_sz μ + 1))) 0 (some clk)), (9, 7, cI0, cR0), (10, 9, cUI (cUI (cUI (cUI (cUI (cUI cI0 1 127) 2 127) 3 1) 4 1) 5 (-1)) 6 0, cUR (cUR (cUR cR0 7 (some (m_sz μ + 3))) 8 (some (m_sz μ + 5))) 0 (some clk)), (6, 3, cI0, cUR cR0 0 (some (m_sz μ + 4))), (22, 32, cI0, cR0), (6, 3, cI0, cUR cR0 0 (some (m_sz μ + 6))), (22, 64, cI0, cR0)] := h21
    exact bk_V h21
  · skip
    refine bk_pR h22 (i := 0) (x := (2, 19, cUI (cUI (cUI (cUI cI0 7 0) 1 l) 2 x) 3 n, cUR (cUR cR0 5 (some (m_sz μ + 1))) 0 (some clk))) rfl rfl (fun μ23 h23 => ?_)
    have h23 : Blk μ μ23 137 [(2, 19, cUI (cUI (cUI (cUI cI0 7 0) 1 l) 2 x) 3 n, cUR (cUR (cUR cR0 5 (some (m_sz μ + 1))) 0 (some clk)) 4 (some (m_sz μ + 2))), (9, 7, cI0, cR0), (10, 9, cUI (cUI (cUI (cUI (cUI (cUI cI0 1 127) 2 127) 3 1) 4 1) 5 (-1)) 6 0, cUR (cUR (cUR cR0 7 (some (m_sz μ + 3))) 8 (some (m_sz μ + 5))) 0 (some clk)), (6, 3, cI0, cUR cR0 0 (some (m_sz μ + 4))), (22, 32, cI0, cR0), (6, 3, cI0, cUR cR0 0 (some (m_sz μ + 6))), (22, 64, cI0, cR0)] := h23
    exact bk_V h23
def flC (z : Nat) (n : Int32) : List Cel := [(3, 7, cUI (cUI cI0 2 0) 0 n, cUR cR0 6 (some (z + 1))), (6, 3, cI0, cUR cR0 0 (some (z + 2))), (22, 64, cI0, cR0)]
theorem x_Fl (μ : sn_Mem) (n : Int32) : Dn (fun μ' => Blk μ μ' 74 (flC (m_sz μ) n)) (f_Fl_init (m_sz μ) n (u_N μ 3 7)) := by
  unfold flC
  have h0 : Blk μ (u_N μ 3 7) 7 [(3, 7, cI0, cR0)] := Blk.rf.nw 3 7
  obtain ⟨μ0, e0⟩ : ∃ μ0, μ0 = u_N μ 3 7 := ⟨_, rfl⟩
  rw [← e0] at h0 ⊢
  unfold f_Fl_init
  refine bk_pI h0 (i := 0) (x := (3, 7, cI0, cR0)) rfl rfl (fun μ1 h1 => ?_)
  have h1 : Blk μ μ1 7 [(3, 7, cUI cI0 2 0, cR0)] := h1
  refine bk_nO h1 (fun μ2 h2 => ?_)
  have h2 : Blk μ μ2 10 [(3, 7, cUI cI0 2 0, cR0), (6, 3, cI0, cR0)] := h2
  refine bk_nn h2 (i := 1) (x := (6, 3, cI0, cR0)) rfl rfl ?_
  refine bk_cV (bk_Qu (n := 64) h2 (i := 1) (x := (6, 3, cI0, cR0)) rfl rfl (by decide) (by decide)) (fun μ3 h3 => ?_)
  have h3 : Blk μ μ3 74 [(3, 7, cUI cI0 2 0, cR0), (6, 3, cI0, cUR cR0 0 (some (m_sz μ + 2))), (22, 64, cI0, cR0)] := h3
  refine bk_pR h3 (i := 0) (x := (3, 7, cUI cI0 2 0, cR0)) rfl rfl (fun μ4 h4 => ?_)
  have h4 : Blk μ μ4 74 [(3, 7, cUI cI0 2 0, cUR cR0 6 (some (m_sz μ + 1))), (6, 3, cI0, cUR cR0 0 (some (m_sz μ + 2))), (22, 64, cI0, cR0)] := h4
  refine bk_pI h4 (i := 0) (x := (3, 7, cUI cI0 2 0, cUR cR0 6 (some (m_sz μ + 1)))) rfl rfl (fun μ5 h5 => ?_)
  have h5 : Blk μ μ5 74 [(3, 7, cUI (cUI cI0 2 0) 0 n, cUR cR0 6 (some (m_sz μ + 1))), (6, 3, cI0, cUR cR0 0 (some (m_sz μ + 2))), (22, 64, cI0, cR0)] := h5
  exact bk_V h5
def lgC (x n s : Int32) : List Cel := [(4, 12, cUI (cUI (cUI (cUI (cUI cI0 3 0) 9 (-1)) 0 x) 1 n) 2 s, cR0)]
theorem x_Lg (μ : sn_Mem) (x n s : Int32) : Dn (fun μ' => Blk μ μ' 12 (lgC x n s)) (f_Lg_init (m_sz μ) x n s (u_N μ 4 12)) := by
  unfold lgC
  have h0 : Blk μ (u_N μ 4 12) 12 [(4, 12, cI0, cR0)] := Blk.rf.nw 4 12
  obtain ⟨μ0, e0⟩ : ∃ μ0, μ0 = u_N μ 4 12 := ⟨_, rfl⟩
  rw [← e0] at h0 ⊢
  unfold f_Lg_init
  refine bk_pI h0 (i := 0) (x := (4, 12, cI0, cR0)) rfl rfl (fun μ1 h1 => ?_)
  have h1 : Blk μ μ1 12 [(4, 12, cUI cI0 3 0, cR0)] := h1
  refine bk_pI h1 (i := 0) (x := (4, 12, cUI cI0 3 0, cR0)) rfl rfl (fun μ2 h2 => ?_)
  have h2 : Blk μ μ2 12 [(4, 12, cUI (cUI cI0 3 0) 9 (-1), cR0)] := h2
  refine bk_pI h2 (i := 0) (x := (4, 12, cUI (cUI cI0 3 0) 9 (-1), cR0)) rfl rfl (fun μ3 h3 => ?_)
  have h3 : Blk μ μ3 12 [(4, 12, cUI (cUI (cUI cI0 3 0) 9 (-1)) 0 x, cR0)] := h3
  refine bk_pI h3 (i := 0) (x := (4, 12, cUI (cUI (cUI cI0 3 0) 9 (-1)) 0 x, cR0)) rfl rfl (fun μ4 h4 => ?_)
  have h4 : Blk μ μ4 12 [(4, 12, cUI (cUI (cUI (cUI cI0 3 0) 9 (-1)) 0 x) 1 n, cR0)] := h4
  refine bk_pI h4 (i := 0) (x := (4, 12, cUI (cUI (cUI (cUI cI0 3 0) 9 (-1)) 0 x) 1 n, cR0)) rfl rfl (fun μ5 h5 => ?_)
  have h5 : Blk μ μ5 12 [(4, 12, cUI (cUI (cUI (cUI (cUI cI0 3 0) 9 (-1)) 0 x) 1 n) 2 s, cR0)] := h5
  exact bk_V h5
