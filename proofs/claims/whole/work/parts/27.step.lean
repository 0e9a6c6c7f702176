theorem e_bey (x : Int32) : fX2_isBeyond x 1023 = fX3_isBeyond x := rfl
theorem e_word (v fw fc fr u gw gd gs gn : Nat → Int32) (hw : ∀ k, k < 256 → fw k = gw k) {x : Int32} (h : fX3_isBeyond x = 0) : fX2_wordAt v fw fc fr x = fX3_wordAt u gw gd gs gn x := by
  rw [fX2_wordAt, e_bey, if_pos h, fX3_wordAt]
  obtain ⟨h1, h2⟩ := ix_x3beyond h
  obtain ⟨j, hj, rfl⟩ := nI_of2 (n := 1023) (by decide) h1 h2
  rw [pk_shrN (by omega) _ 2 (by decide), show (4 : Int32) = nI 4 from rfl, pk_div (by omega) (by decide) (by decide), nI_clamp (by omega)]
  exact hw _ (by omega)
theorem reads_irr (v fw fd fs fn v' fd' fs' fn' : Nat → Int32) (x r : Int32) : fX3_reads v fw fd fs fn x r = fX3_reads v' fw fd' fs' fn' x r := rfl
theorem leg_0 : fX1_isLegal 0 = 0 := by decide
/-- whether the next word waits -/
theorem e_waits (v fw fc fr u gw gd gs gn : Nat → Int32) (hw : ∀ k, k < 256 → fw k = gw k) (x w : Int32) : fX1_waitsFor (fX2_wordAt v fw fc fr x) w = if fX3_opcode w = 3 then (if fX3_rd w = 0 then 0 else fX3_reads u gw gd gs gn x (fX3_rd w)) else 0 := by
  rw [fX1_waitsFor, e_op, e_rd]
  by_cases o : fX3_opcode w = 3
  · rw [if_pos o, if_pos o]
    by_cases r0 : fX3_rd w = 0
    · rw [if_pos r0, if_pos r0]
    · rw [if_neg r0, if_neg r0, fX3_reads]
      by_cases hb : fX3_isBeyond x = 0
      · rw [if_pos hb, e_word v fw fc fr u gw gd gs gn hw hb, e_legal]
        generalize fX3_wordAt u gw gd gs gn x = W
        by_cases hl : fX3_isLegal W = 0
        · rw [if_pos hl, if_pos hl]
        · rw [if_neg hl, if_neg hl]
          have h1 : fX1_readsRs1 W = (if (fX3_opcode W) = 15 then 0 else (if (fX3_opcode W) = 23 then 0 else (if (fX3_opcode W) = 55 then 0 else (if (fX3_opcode W) = 111 then 0 else (if (fX3_opcode W) = 115 then 0 else 1))))) := rfl
          have h2 : fX1_readsRs2 W = (if (fX3_opcode W) = 35 then 1 else (if (fX3_opcode W) = 51 then 1 else (if (fX3_opcode W) = 99 then 1 else 0))) := rfl
          rw [h1, h2, e_rs1, e_rs2]
          generalize fX3_rs1 W = A
          generalize fX3_rs2 W = B
          generalize fX3_rd w = r
          generalize fX3_opcode W = p
          by_cases p55 : p = 55
          · subst p55
            simp (config := { decide := true }) only [if_true, if_false]
          by_cases p23 : p = 23
          · subst p23
            simp (config := { decide := true }) only [if_true, if_false]
          by_cases p111 : p = 111
          · subst p111
            simp (config := { decide := true }) only [if_true, if_false]
          by_cases p15 : p = 15
          · subst p15
            simp (config := { decide := true }) only [if_true, if_false]
          by_cases p115 : p = 115
          · subst p115
            simp (config := { decide := true }) only [if_true, if_false]
          by_cases p99 : p = 99
          · subst p99
            simp (config := { decide := true }) only [if_true, if_false]
          by_cases p35 : p = 35
          · subst p35
            simp (config := { decide := true }) only [if_true, if_false]
          by_cases p51 : p = 51
          · subst p51
            simp (config := { decide := true }) only [if_true, if_false]
          simp (config := { decide := true }) only [p55, p23, p111, p15, p115, p99, p35, p51, if_true, if_false]
      · rw [if_neg hb, fX2_wordAt, e_bey, if_neg hb, leg_0, if_pos rfl]
  · rw [if_neg o, if_neg o]
theorem go_9 (v fw fc fr : Nat → Int32) (w : Int32) : fX2_goOn v fw fc fr w 9 = if fX2_jumps v fw fc fr w = 0 then v 9 + 4 else fX2_targetOf v fw fc fr w := by
  unfold fX2_goOn
  split
  · split <;> rfl
  · rfl
theorem go_10 (v fw fc fr : Nat → Int32) (w : Int32) : fX2_goOn v fw fc fr w 10 = v 10 + (if fX2_jumps v fw fc fr w = 0 then (if fX1_waitsFor (fX2_wordAt v fw fc fr (v 9 + 4)) w = 0 then 1 else 2) else 3) := by
  have e : fX2_wordAt (upd v 9 (v 9 + 4)) fw fc fr (v 9 + 4) = fX2_wordAt v fw fc fr (v 9 + 4) := rfl
  unfold fX2_goOn
  rw [e]
  split
  · split <;> rfl
  · rfl
theorem go_oth (v fw fc fr : Nat → Int32) (w : Int32) {k : Nat} (h1 : k ≠ 9) (h2 : k ≠ 10) : fX2_goOn v fw fc fr w k = v k := by
  unfold fX2_goOn
  split
  · split <;> simp [upd, h1, h2]
  · simp [upd, h1, h2]
/-- a word that doesn't halt, in the class -/
theorem em_run (v fw fc fr : Nat → Int32) (hh : fX2_haltOf (upd (upd v 11 1) 12 (v 9)) fw fc fr (fX2_wordAt v fw fc fr (v 9)) = 0) : ∃ X fc' : Nat → Int32, fX2_endMemory v fw fc fr = (fX2_goOn X fw fc' fr (fX2_wordAt v fw fc fr (v 9)), fc') ∧ X 9 = v 9 ∧ X 10 = v 10 ∧ X 11 = 1 ∧ X 12 = v 9 ∧ X 13 = 0 ∧ X 14 = (if fX1_writesRd (fX2_wordAt v fw fc fr (v 9)) = 0 then 0 else fX1_rd (fX2_wordAt v fw fc fr (v 9))) ∧ (∃ Y : Nat → Int32, Y 9 = v 9 ∧ X 15 = fX2_resultOf Y fw fc fr (fX2_wordAt v fw fc fr (v 9))) ∧ ((fX1_opcode (fX2_wordAt v fw fc fr (v 9)) = 35 ∧ fc' = fX2_storeAt X fw fc fr (fX2_addressOf X fw fc fr (fX2_wordAt v fw fc fr (v 9))) (fX1_f3 (fX2_wordAt v fw fc fr (v 9))) (fX2_rs2Of X fw fc fr (fX2_wordAt v fw fc fr (v 9)))) ∨ (¬ fX1_opcode (fX2_wordAt v fw fc fr (v 9)) = 35 ∧ fc' = fc)) ∧ (∀ k, k < 9 → X k = v k) := by
  rw [fX2_endMemory, if_pos hh]
  by_cases h1 : fX1_writesRd (fX2_wordAt v fw fc fr (v 9)) = 0
  · rw [if_pos h1, if_pos h1]
    by_cases h2 : fX1_opcode (fX2_wordAt v fw fc fr (v 9)) = 35
    · rw [if_pos h2]
      refine ⟨_, _, rfl, rfl, rfl, rfl, rfl, hh, rfl, ⟨_, ?_, rfl⟩, Or.inl ⟨h2, rfl⟩, ?_⟩
      · rfl
      · intro k hk
        simp only [upd]
        rw [if_neg (by omega), if_neg (by omega), if_neg (by omega), if_neg (by omega), if_neg (by omega)]
    · rw [if_neg h2]
      refine ⟨_, _, rfl, rfl, rfl, rfl, rfl, hh, rfl, ⟨_, ?_, rfl⟩, Or.inr ⟨h2, rfl⟩, ?_⟩
      · rfl
      · intro k hk
        simp only [upd]
        rw [if_neg (by omega), if_neg (by omega), if_neg (by omega), if_neg (by omega), if_neg (by omega)]
  · rw [if_neg h1, if_neg h1]
    by_cases h2 : fX1_opcode (fX2_wordAt v fw fc fr (v 9)) = 35
    · rw [if_pos h2]
      refine ⟨_, _, rfl, rfl, rfl, rfl, rfl, hh, rfl, ⟨_, ?_, rfl⟩, Or.inl ⟨h2, rfl⟩, ?_⟩
      · rfl
      · intro k hk
        simp only [upd]
        rw [if_neg (by omega), if_neg (by omega), if_neg (by omega), if_neg (by omega), if_neg (by omega)]
    · rw [if_neg h2]
      refine ⟨_, _, rfl, rfl, rfl, rfl, rfl, hh, rfl, ⟨_, ?_, rfl⟩, Or.inr ⟨h2, rfl⟩, ?_⟩
      · rfl
      · intro k hk
        simp only [upd]
        rw [if_neg (by omega), if_neg (by omega), if_neg (by omega), if_neg (by omega), if_neg (by omega)]
theorem em_halt (v fw fc fr : Nat → Int32) (hh : ¬ fX2_haltOf (upd (upd v 11 1) 12 (v 9)) fw fc fr (fX2_wordAt v fw fc fr (v 9)) = 0) : fX2_endMemory v fw fc fr = (upd (upd (upd v 11 1) 12 (v 9)) 13 (fX2_haltOf (upd (upd v 11 1) 12 (v 9)) fw fc fr (fX2_wordAt v fw fc fr (v 9))), fc) := by
  rw [fX2_endMemory, if_neg hh]
