section WK2
variable (v fw fc fr u gw gd gs gn : Nat → Int32) (w : Int32)
theorem wk_k (hleg : ¬ fX3_isLegal w = 0) : (fX3_work u gw gd gs gn w).1 = 0 ∨ ¬ (fX3_work u gw gd gs gn w).1 ≤ 0 := by
  have hr : ∀ r : Int32, (r = 0 ∨ r = 6 ∨ r = 7) → (r = 0 ∨ ¬ r ≤ 0) := by
    intro r h
    rcases h with h | h | h <;> subst h <;> decide
  have hj : ∀ x : Int32, (if (x &&& 3) = 0 then (0 : Int32) else 5) = 0 ∨ ¬ (if (x &&& 3) = 0 then (0 : Int32) else 5) ≤ 0 := by
    intro x
    split <;> decide
  rcases legal_op hleg with o | o | o | o | o | o | o | o | o | o | o
  · rw [fX3_work, if_pos o]
    rcases f3_load hleg o with f | f | f | f | f
    · rw [(loads_1 _ _ _ _ _ _ _ (Or.inl f)).1]; exact hr _ (ref1_v _)
    · rw [(loads_2 _ _ _ _ _ _ _ (Or.inl f)).1]; exact hr _ (ref2_v _)
    · rw [(loads_4 _ _ _ _ _ _ _ f).1]; exact hr _ (ref4_v _)
    · rw [(loads_1 _ _ _ _ _ _ _ (Or.inr f)).1]; exact hr _ (ref1_v _)
    · rw [(loads_2 _ _ _ _ _ _ _ (Or.inr f)).1]; exact hr _ (ref2_v _)
  · simp (config := { decide := true }) only [fX3_work, o, if_true, if_false]
  · simp (config := { decide := true }) only [fX3_work, o, if_true, if_false]
    left
    repeat' split
    all_goals rfl
  · simp (config := { decide := true }) only [fX3_work, o, if_true, if_false]
  · simp (config := { decide := true }) only [fX3_work, o, if_true, if_false]
    rw [fX3_stores]
    rcases f3_store hleg o with f | f | f
    · rw [if_pos f]
      split <;> exact hr _ (ref1_v _)
    · rw [if_neg (by rw [f]; decide), if_pos f]
      split <;> exact hr _ (ref2_v _)
    · rw [if_neg (by rw [f]; decide), if_neg (by rw [f]; decide)]
      split <;> exact hr _ (ref4_v _)
  · simp (config := { decide := true }) only [fX3_work, o, if_true, if_false]
    left
    split
    all_goals rfl
  · simp (config := { decide := true }) only [fX3_work, o, if_true, if_false]
  · simp (config := { decide := true }) only [fX3_work, o, if_true, if_false]
    by_cases h : fX3_holds (fX3_f3 w) (gn (fX3_rs1 w).toNatClampNeg) (gn (fX3_rs2 w).toNatClampNeg) = 0
    · rw [if_pos h]
      exact Or.inl rfl
    · rw [if_neg h, jump_1]
      exact hj _
  · simp (config := { decide := true }) only [fX3_work, o, if_true, if_false]
    rw [jump_1]
    exact hj _
  · simp (config := { decide := true }) only [fX3_work, o, if_true, if_false]
    rw [jump_1]
    exact hj _
  · simp (config := { decide := true }) only [fX3_work, o, if_true, if_false]
    split
    · exact Or.inr (show ¬ (1 : Int32) ≤ 0 by decide)
    · exact Or.inr (show ¬ (2 : Int32) ≤ 0 by decide)
/-- the register that the word writes -/
theorem wk_rd (hleg : ¬ fX3_isLegal w = 0) (hk : (fX3_work u gw gd gs gn w).1 = 0) : (fX3_work u gw gd gs gn w).2.1 17 = if fX1_writesRd w = 0 then 0 else fX1_rd w := by
  have hw : fX1_writesRd w = (if (fX3_opcode w) = 3 then 1 else (if (fX3_opcode w) = 19 then 1 else (if (fX3_opcode w) = 23 then 1 else (if (fX3_opcode w) = 51 then 1 else (if (fX3_opcode w) = 55 then 1 else (if (fX3_opcode w) = 103 then 1 else (if (fX3_opcode w) = 111 then 1 else 0))))))) := rfl
  rw [hw, e_rd]
  rcases legal_op hleg with o | o | o | o | o | o | o | o | o | o | o
  · simp (config := { decide := true }) only [fX3_work, o, if_true, if_false]
    rw [ld_oth _ _ _ _ _ _ _ (by decide)]
    rfl
  · simp (config := { decide := true }) only [fX3_work, o, if_true, if_false]
    rfl
  · simp (config := { decide := true }) only [fX3_work, o, if_true, if_false]
    repeat' split
    all_goals rfl
  · simp (config := { decide := true }) only [fX3_work, o, if_true, if_false]
    rfl
  · simp (config := { decide := true }) only [fX3_work, o, if_true, if_false]
    rfl
  · simp (config := { decide := true }) only [fX3_work, o, if_true, if_false]
    split
    all_goals rfl
  · simp (config := { decide := true }) only [fX3_work, o, if_true, if_false]
    rfl
  · simp (config := { decide := true }) only [fX3_work, o, if_true, if_false]
    split
    · rfl
    · rw [jump_2]
      rfl
  · simp (config := { decide := true }) only [fX3_work, o, if_true, if_false]
    rw [jump_2]
    rfl
  · simp (config := { decide := true }) only [fX3_work, o, if_true, if_false]
    rw [jump_2]
    rfl
  · simp (config := { decide := true }) only [fX3_work, o, if_true, if_false] at hk
    split at hk
    · exact absurd hk (show ¬ (1 : Int32) = 0 by decide)
    · exact absurd hk (show ¬ (2 : Int32) = 0 by decide)
/-- the value that it brings there -/
theorem wk_val (hM : MemB fc gd) (ha : fX2_rs1Of v fw fc fr w = gn (fX3_rs1 w).toNatClampNeg) (hb : fX2_rs2Of v fw fc fr w = gn (fX3_rs2 w).toNatClampNeg) (hpc : v 9 = u 11) (hleg : ¬ fX3_isLegal w = 0) (hk : (fX3_work u gw gd gs gn w).1 = 0) (hn : ¬ (fX3_work u gw gd gs gn w).2.1 17 = 0) : fX2_resultOf v fw fc fr w = (fX3_work u gw gd gs gn w).2.1 18 := by
  rw [fX2_resultOf, e_op]
  rcases legal_op hleg with o | o | o | o | o | o | o | o | o | o | o
  · rw [if_pos o, adr_l v fw fc fr gn w o ha, e_f3]
    rw [fX3_work, if_pos o] at hk ⊢
    show _ = (fX3_loads _ _ _ _ _ _ _).2 18
    replace hk : (fX3_loads _ _ _ _ _ _ _).1 = 0 := hk
    rcases f3_load hleg o with f | f | f | f | f
    · obtain ⟨l1, l2⟩ := loads_1 (upd u 17 (fX3_rd w)) gw gd gs gn w (gn (fX3_rs1 w).toNatClampNeg) (Or.inl f)
      rw [l1] at hk
      rw [l2 hk, if_pos f, f]
      obtain ⟨j, hj, e⟩ := ix_rez1 hk
      rw [e]
      exact ld_b _ _ _ _ _ _ _ hM (by omega)
    · obtain ⟨l1, l2⟩ := loads_2 (upd u 17 (fX3_rd w)) gw gd gs gn w (gn (fX3_rs1 w).toNatClampNeg) (Or.inl f)
      rw [l1] at hk
      rw [l2 hk, if_pos f, f]
      obtain ⟨j, hj, e⟩ := ix_rez2 hk
      rw [e] at hk ⊢
      exact ld_h _ _ _ _ _ _ _ hM (by omega) (rez2_even (by omega) hk)
    · obtain ⟨l1, l2⟩ := loads_4 (upd u 17 (fX3_rd w)) gw gd gs gn w (gn (fX3_rs1 w).toNatClampNeg) f
      rw [l1] at hk
      rw [l2 hk, f]
      obtain ⟨j, hj, e⟩ := ix_rez4 hk
      rw [e] at hk ⊢
      exact ld_w _ _ _ _ _ _ _ hM (by omega) (rez4_even (by omega) hk)
    · obtain ⟨l1, l2⟩ := loads_1 (upd u 17 (fX3_rd w)) gw gd gs gn w (gn (fX3_rs1 w).toNatClampNeg) (Or.inr f)
      rw [l1] at hk
      rw [l2 hk, if_neg (by rw [f]; decide), f]
      obtain ⟨j, hj, e⟩ := ix_rez1 hk
      rw [e]
      exact ld_bu _ _ _ _ _ _ _ hM (by omega)
    · obtain ⟨l1, l2⟩ := loads_2 (upd u 17 (fX3_rd w)) gw gd gs gn w (gn (fX3_rs1 w).toNatClampNeg) (Or.inr f)
      rw [l1] at hk
      rw [l2 hk, if_neg (by rw [f]; decide), f]
      obtain ⟨j, hj, e⟩ := ix_rez2 hk
      rw [e] at hk ⊢
      exact ld_hu _ _ _ _ _ _ _ hM (by omega) (rez2_even (by omega) hk)
  · refine absurd ?_ hn
    simp (config := { decide := true }) only [fX3_work, o, if_true, if_false]
    rfl
  · simp only [e_f3, e_f7, ha, e_immI, e_reckon]
    simp (config := { decide := true }) only [fX3_work, o, if_true, if_false]
    by_cases h5 : fX3_f3 w = 5
    · rw [if_pos h5, if_pos h5]
      by_cases h7 : fX3_f7 w = 32
      · rw [if_pos h7, if_pos h7]
        rfl
      · rw [if_neg h7, if_neg h7]
        rfl
    · rw [if_neg h5, if_neg h5]
      rfl
  · rw [hpc, e_immU]
    simp (config := { decide := true }) only [fX3_work, o, if_true, if_false]
    rfl
  · refine absurd ?_ hn
    simp (config := { decide := true }) only [fX3_work, o, if_true, if_false]
    rfl
  · simp only [e_f3, e_f7, ha, hb, e_reckon]
    simp (config := { decide := true }) only [fX3_work, o, if_true, if_false]
    by_cases h7 : fX3_f7 w = 32
    · rw [if_pos h7, if_pos h7]
      rfl
    · rw [if_neg h7, if_neg h7]
      rfl
  · rw [e_immU]
    simp (config := { decide := true }) only [fX3_work, o, if_true, if_false]
    rfl
  · refine absurd ?_ hn
    simp (config := { decide := true }) only [fX3_work, o, if_true, if_false]
    split
    · rfl
    · rw [jump_2]
      rfl
  · rw [hpc]
    simp (config := { decide := true }) only [fX3_work, o, if_true, if_false]
    rw [jump_2]
    rfl
  · rw [hpc]
    simp (config := { decide := true }) only [fX3_work, o, if_true, if_false]
    rw [jump_2]
    rfl
  · simp (config := { decide := true }) only [fX3_work, o, if_true, if_false] at hk
    split at hk
    · exact absurd hk (show ¬ (1 : Int32) = 0 by decide)
    · exact absurd hk (show ¬ (2 : Int32) = 0 by decide)
/-- where the run goes on -/
theorem wk_stay (hleg : ¬ fX3_isLegal w = 0) (ha : fX2_rs1Of v fw fc fr w = gn (fX3_rs1 w).toNatClampNeg) (hb : fX2_rs2Of v fw fc fr w = gn (fX3_rs2 w).toNatClampNeg) (hj : fX2_jumps v fw fc fr w = 0) : (fX3_work u gw gd gs gn w).2.1 20 = u 20 ∧ (fX3_work u gw gd gs gn w).2.1 19 = u 19 := by
  rcases legal_op hleg with o | o | o | o | o | o | o | o | o | o | o
  · simp (config := { decide := true }) only [fX3_work, o, if_true, if_false]
    rw [ld_oth _ _ _ _ _ _ _ (by decide), ld_oth _ _ _ _ _ _ _ (by decide)]
    exact ⟨rfl, rfl⟩
  · simp (config := { decide := true }) only [fX3_work, o, if_true, if_false]
    exact ⟨rfl, rfl⟩
  · simp (config := { decide := true }) only [fX3_work, o, if_true, if_false]
    repeat' split
    all_goals exact ⟨rfl, rfl⟩
  · simp (config := { decide := true }) only [fX3_work, o, if_true, if_false]
    exact ⟨rfl, rfl⟩
  · simp (config := { decide := true }) only [fX3_work, o, if_true, if_false]
    exact ⟨rfl, rfl⟩
  · simp (config := { decide := true }) only [fX3_work, o, if_true, if_false]
    split
    all_goals exact ⟨rfl, rfl⟩
  · simp (config := { decide := true }) only [fX3_work, o, if_true, if_false]
    exact ⟨rfl, rfl⟩
  · rw [jm_99 v fw fc fr gn w hleg o ha hb] at hj
    simp (config := { decide := true }) only [fX3_work, o, if_true, if_false]
    rw [if_pos hj]
    exact ⟨rfl, rfl⟩
  · rw [jm_103 v fw fc fr w o] at hj
    exact absurd hj (by decide)
  · rw [jm_111 v fw fc fr w o] at hj
    exact absurd hj (by decide)
  · simp (config := { decide := true }) only [fX3_work, o, if_true, if_false]
    split
    all_goals exact ⟨rfl, rfl⟩
theorem wk_go (hleg : ¬ fX3_isLegal w = 0) (ha : fX2_rs1Of v fw fc fr w = gn (fX3_rs1 w).toNatClampNeg) (hb : fX2_rs2Of v fw fc fr w = gn (fX3_rs2 w).toNatClampNeg) (hpc : v 9 = u 11) (hj : ¬ fX2_jumps v fw fc fr w = 0) : (fX3_work u gw gd gs gn w).2.1 20 = 1 ∧ (fX3_work u gw gd gs gn w).2.1 19 = fX2_targetOf v fw fc fr w ∧ ¬ fX3_opcode w = 3 := by
  by_cases o : fX3_opcode w = 99
  · rw [jm_99 v fw fc fr gn w hleg o ha hb] at hj
    rw [tg_99 v fw fc fr u w o hpc]
    refine ⟨?_, ?_, by rw [o]; decide⟩
    · simp (config := { decide := true }) only [fX3_work, o, if_true, if_false]
      rw [if_neg hj, jump_2]
      rfl
    · simp (config := { decide := true }) only [fX3_work, o, if_true, if_false]
      rw [if_neg hj, jump_2]
      rfl
  by_cases o2 : fX3_opcode w = 103
  · rw [tg_103 v fw fc fr gn w o2 ha]
    refine ⟨?_, ?_, by rw [o2]; decide⟩
    · simp (config := { decide := true }) only [fX3_work, o2, if_true, if_false]
      rw [jump_2]
      rfl
    · simp (config := { decide := true }) only [fX3_work, o2, if_true, if_false]
      rw [jump_2]
      rfl
  by_cases o3 : fX3_opcode w = 111
  · rw [tg_111 v fw fc fr u w o3 hpc]
    refine ⟨?_, ?_, by rw [o3]; decide⟩
    · simp (config := { decide := true }) only [fX3_work, o3, if_true, if_false]
      rw [jump_2]
      rfl
    · simp (config := { decide := true }) only [fX3_work, o3, if_true, if_false]
      rw [jump_2]
      rfl
  exact absurd (jm_no v fw fc fr w o o2 o3) hj
/-- what it does to the data memory -/
theorem wk_mem (hM : MemB fc gd) (ha : fX2_rs1Of v fw fc fr w = gn (fX3_rs1 w).toNatClampNeg) (hb : fX2_rs2Of v fw fc fr w = gn (fX3_rs2 w).toNatClampNeg) (hleg : ¬ fX3_isLegal w = 0) (hk : (fX3_work u gw gd gs gn w).1 = 0) (o : fX3_opcode w = 35) : MemB (fX2_storeAt v fw fc fr (fX2_addressOf v fw fc fr w) (fX1_f3 w) (fX2_rs2Of v fw fc fr w)) (fX3_work u gw gd gs gn w).2.2 := by
  rw [adr_s v fw fc fr gn w o ha, hb, e_f3]
  simp (config := { decide := true }) only [fX3_work, o, if_true, if_false] at hk ⊢
  rw [fX3_stores] at hk ⊢
  rcases f3_store hleg o with f | f | f
  · rw [if_pos f] at hk ⊢
    have h0 : fX3_refusal1 (gn (fX3_rs1 w).toNatClampNeg + fX3_immediateS w) = 0 := by
      by_cases q : fX3_refusal1 (gn (fX3_rs1 w).toNatClampNeg + fX3_immediateS w) = 0
      · exact q
      · rw [if_neg q] at hk
        exact hk
    rw [if_pos h0, f]
    obtain ⟨j, hj, e⟩ := ix_rez1 h0
    rw [e]
    exact mem_s1 v (upd (upd u 17 (fX3_rd w)) 17 0) fw gw fc fr gd gs gn hM (by omega) _
  · rw [if_neg (by rw [f]; decide), if_pos f] at hk ⊢
    have h0 : fX3_refusal2 (gn (fX3_rs1 w).toNatClampNeg + fX3_immediateS w) = 0 := by
      by_cases q : fX3_refusal2 (gn (fX3_rs1 w).toNatClampNeg + fX3_immediateS w) = 0
      · exact q
      · rw [if_neg q] at hk
        exact hk
    rw [if_pos h0, f]
    obtain ⟨j, hj, e⟩ := ix_rez2 h0
    rw [e] at h0 ⊢
    exact mem_s2 v (upd (upd u 17 (fX3_rd w)) 17 0) fw gw fc fr gd gs gn hM (by omega) (rez2_even (by omega) h0) _
  · rw [if_neg (by rw [f]; decide), if_neg (by rw [f]; decide)] at hk ⊢
    have h0 : fX3_refusal4 (gn (fX3_rs1 w).toNatClampNeg + fX3_immediateS w) = 0 := by
      by_cases q : fX3_refusal4 (gn (fX3_rs1 w).toNatClampNeg + fX3_immediateS w) = 0
      · exact q
      · rw [if_neg q] at hk
        exact hk
    rw [if_pos h0, f]
    obtain ⟨j, hj, e⟩ := ix_rez4 h0
    rw [e] at h0 ⊢
    exact mem_s4 v (upd (upd u 17 (fX3_rd w)) 17 0) fw gw fc fr gd gs gn hM (by omega) (rez4_even (by omega) h0) _
theorem wk_mem0 (h : ¬ fX3_opcode w = 35 ∨ ¬ (fX3_work u gw gd gs gn w).1 = 0) : (fX3_work u gw gd gs gn w).2.2 = gd := by
  by_cases o : fX3_opcode w = 35
  · have hk := h.resolve_left (fun q => q o)
    simp (config := { decide := true }) only [fX3_work, o, if_true, if_false] at hk ⊢
    rw [fX3_stores] at hk ⊢
    by_cases f : fX3_f3 w = 0
    · rw [if_pos f] at hk ⊢
      by_cases q : fX3_refusal1 (gn (fX3_rs1 w).toNatClampNeg + fX3_immediateS w) = 0
      · rw [if_pos q] at hk
        exact absurd q hk
      · rw [if_neg q]
    · rw [if_neg f] at hk ⊢
      by_cases f1 : fX3_f3 w = 1
      · rw [if_pos f1] at hk ⊢
        by_cases q : fX3_refusal2 (gn (fX3_rs1 w).toNatClampNeg + fX3_immediateS w) = 0
        · rw [if_pos q] at hk
          exact absurd q hk
        · rw [if_neg q]
      · rw [if_neg f1] at hk ⊢
        by_cases q : fX3_refusal4 (gn (fX3_rs1 w).toNatClampNeg + fX3_immediateS w) = 0
        · rw [if_pos q] at hk
          exact absurd q hk
        · rw [if_neg q]
  · rw [fX3_work]
    by_cases o3 : fX3_opcode w = 3
    · rw [if_pos o3]
    by_cases o15 : fX3_opcode w = 15
    · rw [if_neg o3, if_pos o15]
    by_cases o19 : fX3_opcode w = 19
    · rw [if_neg o3, if_neg o15, if_pos o19]
      repeat' split
      all_goals rfl
    by_cases o23 : fX3_opcode w = 23
    · rw [if_neg o3, if_neg o15, if_neg o19, if_pos o23]
    rw [if_neg o3, if_neg o15, if_neg o19, if_neg o23, if_neg o]
    repeat' split
    all_goals rfl
end WK2
