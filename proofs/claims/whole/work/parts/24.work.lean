theorem legal_op {w : Int32} (h : ¬ fX3_isLegal w = 0) : fX3_opcode w = 3 ∨ fX3_opcode w = 15 ∨ fX3_opcode w = 19 ∨ fX3_opcode w = 23 ∨ fX3_opcode w = 35 ∨ fX3_opcode w = 51 ∨ fX3_opcode w = 55 ∨ fX3_opcode w = 99 ∨ fX3_opcode w = 103 ∨ fX3_opcode w = 111 ∨ fX3_opcode w = 115 := by
  by_cases h1 : fX3_opcode w = 3
  · exact Or.inl h1
  by_cases h2 : fX3_opcode w = 15
  · exact Or.inr (Or.inl h2)
  by_cases h3 : fX3_opcode w = 19
  · exact Or.inr (Or.inr (Or.inl h3))
  by_cases h4 : fX3_opcode w = 23
  · exact Or.inr (Or.inr (Or.inr (Or.inl h4)))
  by_cases h5 : fX3_opcode w = 35
  · exact Or.inr (Or.inr (Or.inr (Or.inr (Or.inl h5))))
  by_cases h6 : fX3_opcode w = 51
  · exact Or.inr (Or.inr (Or.inr (Or.inr (Or.inr (Or.inl h6)))))
  by_cases h7 : fX3_opcode w = 55
  · exact Or.inr (Or.inr (Or.inr (Or.inr (Or.inr (Or.inr (Or.inl h7))))))
  by_cases h8 : fX3_opcode w = 99
  · exact Or.inr (Or.inr (Or.inr (Or.inr (Or.inr (Or.inr (Or.inr (Or.inl h8)))))))
  by_cases h9 : fX3_opcode w = 103
  · exact Or.inr (Or.inr (Or.inr (Or.inr (Or.inr (Or.inr (Or.inr (Or.inr (Or.inl h9))))))))
  by_cases h10 : fX3_opcode w = 111
  · exact Or.inr (Or.inr (Or.inr (Or.inr (Or.inr (Or.inr (Or.inr (Or.inr (Or.inr (Or.inl h10)))))))))
  by_cases h11 : fX3_opcode w = 115
  · exact Or.inr (Or.inr (Or.inr (Or.inr (Or.inr (Or.inr (Or.inr (Or.inr (Or.inr (Or.inr h11)))))))))
  exact absurd (by rw [fX3_isLegal, if_neg h1, if_neg h2, if_neg h3, if_neg h4, if_neg h5, if_neg h6, if_neg h7, if_neg h8, if_neg h9, if_neg h10, if_neg h11]) h
/-- which f3 a legal load, store, branch has -/
theorem f3_load {w : Int32} (h : ¬ fX3_isLegal w = 0) (ho : fX3_opcode w = 3) : fX3_f3 w = 0 ∨ fX3_f3 w = 1 ∨ fX3_f3 w = 2 ∨ fX3_f3 w = 4 ∨ fX3_f3 w = 5 := by
  rw [fX3_isLegal, if_pos ho] at h
  obtain ⟨j, hj, e⟩ := f3_lt w
  rw [e] at h ⊢
  have h8 : j = 0 ∨ j = 1 ∨ j = 2 ∨ j = 3 ∨ j = 4 ∨ j = 5 ∨ j = 6 ∨ j = 7 := by omega
  rcases h8 with rfl | rfl | rfl | rfl | rfl | rfl | rfl | rfl
  · exact Or.inl rfl
  · exact Or.inr (Or.inl rfl)
  · exact Or.inr (Or.inr (Or.inl rfl))
  · exact absurd (by decide) h
  · exact Or.inr (Or.inr (Or.inr (Or.inl rfl)))
  · exact Or.inr (Or.inr (Or.inr (Or.inr rfl)))
  · exact absurd (by decide) h
  · exact absurd (by decide) h
theorem f3_store {w : Int32} (h : ¬ fX3_isLegal w = 0) (ho : fX3_opcode w = 35) : fX3_f3 w = 0 ∨ fX3_f3 w = 1 ∨ fX3_f3 w = 2 := by
  rw [fX3_isLegal, if_neg (by rw [ho]; decide), if_neg (by rw [ho]; decide), if_neg (by rw [ho]; decide), if_neg (by rw [ho]; decide), if_pos ho] at h
  obtain ⟨j, hj, e⟩ := f3_lt w
  rw [e] at h ⊢
  have h8 : j = 0 ∨ j = 1 ∨ j = 2 ∨ j = 3 ∨ j = 4 ∨ j = 5 ∨ j = 6 ∨ j = 7 := by omega
  rcases h8 with rfl | rfl | rfl | rfl | rfl | rfl | rfl | rfl
  · exact Or.inl rfl
  · exact Or.inr (Or.inl rfl)
  · exact Or.inr (Or.inr rfl)
  all_goals exact absurd (by decide) h
theorem f3_branch {w : Int32} (h : ¬ fX3_isLegal w = 0) (ho : fX3_opcode w = 99) : ∃ j : Nat, j < 8 ∧ j ≠ 2 ∧ j ≠ 3 ∧ fX3_f3 w = nI j := by
  rw [fX3_isLegal, if_neg (by rw [ho]; decide), if_neg (by rw [ho]; decide), if_neg (by rw [ho]; decide), if_neg (by rw [ho]; decide), if_neg (by rw [ho]; decide), if_neg (by rw [ho]; decide), if_neg (by rw [ho]; decide), if_pos ho] at h
  obtain ⟨j, hj, e⟩ := f3_lt w
  rw [e] at h
  refine ⟨j, hj, fun q => ?_, fun q => ?_, e⟩
  · subst q
    exact absurd (by decide) h
  · subst q
    exact absurd (by decide) h
theorem ref1_v (x : Int32) : fX3_refusal1 x = 0 ∨ fX3_refusal1 x = 6 ∨ fX3_refusal1 x = 7 := by
  unfold fX3_refusal1
  repeat' split
  all_goals decide
theorem ref2_v (x : Int32) : fX3_refusal2 x = 0 ∨ fX3_refusal2 x = 6 ∨ fX3_refusal2 x = 7 := by
  unfold fX3_refusal2
  repeat' split
  all_goals decide
theorem ref4_v (x : Int32) : fX3_refusal4 x = 0 ∨ fX3_refusal4 x = 6 ∨ fX3_refusal4 x = 7 := by
  unfold fX3_refusal4
  repeat' split
  all_goals decide
theorem acc_bytes (w : Int32) : fX1_accessBytes w = (1 : Int32) <<< (((fX3_f3 w) &&& 3) &&& 31) := by
  unfold fX1_accessBytes
  rw [e_f3]
/-- what a load does in the reference, by its f3 -/
theorem loads_1 (v fw fd fs fn : Nat → Int32) (w x : Int32) (hf : fX3_f3 w = 0 ∨ fX3_f3 w = 4) : (fX3_loads v fw fd fs fn w x).1 = fX3_refusal1 (x + (w >>> ((20 : Int32) &&& 31))) ∧ (fX3_refusal1 (x + (w >>> ((20 : Int32) &&& 31))) = 0 → (fX3_loads v fw fd fs fn w x).2 18 = if fX3_f3 w = 0 then (fX3_load1 v fw fd fs fn (x + (w >>> ((20 : Int32) &&& 31)))).toInt8.toInt32 else fX3_load1 v fw fd fs fn (x + (w >>> ((20 : Int32) &&& 31)))) := by
  unfold fX3_loads
  have hr := ref1_v (x + (w >>> ((20 : Int32) &&& 31)))
  generalize fX3_refusal1 (x + (w >>> ((20 : Int32) &&& 31))) = r at hr ⊢
  rcases hf with e | e <;> rw [e] <;> rcases hr with h | h | h <;> subst h <;> simp (config := { decide := true }) [upd]
theorem loads_2 (v fw fd fs fn : Nat → Int32) (w x : Int32) (hf : fX3_f3 w = 1 ∨ fX3_f3 w = 5) : (fX3_loads v fw fd fs fn w x).1 = fX3_refusal2 (x + (w >>> ((20 : Int32) &&& 31))) ∧ (fX3_refusal2 (x + (w >>> ((20 : Int32) &&& 31))) = 0 → (fX3_loads v fw fd fs fn w x).2 18 = if fX3_f3 w = 1 then (fX3_load2 v fw fd fs fn (x + (w >>> ((20 : Int32) &&& 31)))).toInt16.toInt32 else fX3_load2 v fw fd fs fn (x + (w >>> ((20 : Int32) &&& 31)))) := by
  unfold fX3_loads
  have hr := ref2_v (x + (w >>> ((20 : Int32) &&& 31)))
  generalize fX3_refusal2 (x + (w >>> ((20 : Int32) &&& 31))) = r at hr ⊢
  rcases hf with e | e <;> rw [e] <;> rcases hr with h | h | h <;> subst h <;> simp (config := { decide := true }) [upd]
theorem loads_4 (v fw fd fs fn : Nat → Int32) (w x : Int32) (hf : fX3_f3 w = 2) : (fX3_loads v fw fd fs fn w x).1 = fX3_refusal4 (x + (w >>> ((20 : Int32) &&& 31))) ∧ (fX3_refusal4 (x + (w >>> ((20 : Int32) &&& 31))) = 0 → (fX3_loads v fw fd fs fn w x).2 18 = fX3_load4 v fw fd fs fn (x + (w >>> ((20 : Int32) &&& 31)))) := by
  unfold fX3_loads
  have hr := ref4_v (x + (w >>> ((20 : Int32) &&& 31)))
  generalize fX3_refusal4 (x + (w >>> ((20 : Int32) &&& 31))) = r at hr ⊢
  rw [hf]
  rcases hr with h | h | h <;> subst h <;> simp (config := { decide := true }) [upd]
