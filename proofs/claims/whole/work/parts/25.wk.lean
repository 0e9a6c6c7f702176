theorem rez2_even {j : Nat} (hj : j < 2 ^ 31) (h : fX3_refusal2 (nI j) = 0) : j % 2 = 0 := by
  unfold fX3_refusal2 at h
  by_cases q : nI j - nI j / 2 * 2 = 0
  · rw [show (2 : Int32) = nI 2 from rfl, pk_rem hj (by decide) (by decide), ← nI_0, nI_eq (by omega) (by decide)] at q
    exact q
  · rw [if_neg q] at h
    exact absurd h (by decide)
theorem rez4_even {j : Nat} (hj : j < 2 ^ 31) (h : fX3_refusal4 (nI j) = 0) : j % 4 = 0 := by
  unfold fX3_refusal4 at h
  by_cases q : nI j - nI j / 4 * 4 = 0
  · rw [show (4 : Int32) = nI 4 from rfl, pk_rem hj (by decide) (by decide), ← nI_0, nI_eq (by omega) (by decide)] at q
    exact q
  · rw [if_neg q] at h
    exact absurd h (by decide)
/-- loads, on both sides -/
theorem ld_b (v fw fr u gw gs gn : Nat → Int32) {fc gd : Nat → Int32} (hM : MemB fc gd) {j : Nat} (hj : j < 256) : fX2_loadAt v fw fc fr (nI j) 0 = (fX3_load1 u gw gd gs gn (nI j)).toInt8.toInt32 := by
  rw [fX2_loadAt, if_pos rfl]
  refine congrArg Int8.toInt32 (i8_ext fun i hi => ?_)
  rw [from_bt hM hj (by omega), l1_bt u gw gd gs gn hj (by omega), show i / 8 = 0 by omega, show i % 8 = i by omega]
  simp [hi]
theorem ld_bu (v fw fr u gw gs gn : Nat → Int32) {fc gd : Nat → Int32} (hM : MemB fc gd) {j : Nat} (hj : j < 256) : fX2_loadAt v fw fc fr (nI j) 4 = fX3_load1 u gw gd gs gn (nI j) := by
  rw [fX2_loadAt, if_neg (by decide), if_neg (by decide), if_neg (by decide), if_neg (by decide), if_pos rfl]
  refine b_ext fun i hi => ?_
  rw [b_and, b_255, l1_bt u gw gd gs gn hj hi]
  by_cases h : i < 8
  · rw [from_bt hM hj (by omega), show i / 8 = 0 by omega, show i % 8 = i by omega]
    simp [h]
  · simp [h]
theorem ld_h (v fw fr u gw gs gn : Nat → Int32) {fc gd : Nat → Int32} (hM : MemB fc gd) {j : Nat} (hj : j < 255) (h2 : j % 2 = 0) : fX2_loadAt v fw fc fr (nI j) 1 = (fX3_load2 u gw gd gs gn (nI j)).toInt16.toInt32 := by
  rw [fX2_loadAt, if_neg (by decide), if_pos rfl]
  refine congrArg Int16.toInt32 (i16_ext fun i hi => ?_)
  rw [from_bt hM (by omega) (by omega), l2_bt u gw gd gs gn hj (by omega)]
  simp [hi]
theorem ld_hu (v fw fr u gw gs gn : Nat → Int32) {fc gd : Nat → Int32} (hM : MemB fc gd) {j : Nat} (hj : j < 255) (h2 : j % 2 = 0) : fX2_loadAt v fw fc fr (nI j) 5 = fX3_load2 u gw gd gs gn (nI j) := by
  rw [fX2_loadAt, if_neg (by decide), if_neg (by decide), if_neg (by decide), if_neg (by decide), if_neg (by decide), if_pos rfl]
  refine b_ext fun i hi => ?_
  rw [b_and, b_65535, l2_bt u gw gd gs gn hj hi]
  by_cases h : i < 16
  · rw [from_bt hM (by omega) (by omega)]
    simp [h]
  · simp [h]
theorem ld_w (v fw fr u gw gs gn : Nat → Int32) {fc gd : Nat → Int32} (hM : MemB fc gd) {j : Nat} (hj : j < 253) (h4 : j % 4 = 0) : fX2_loadAt v fw fc fr (nI j) 2 = fX3_load4 u gw gd gs gn (nI j) := by
  rw [fX2_loadAt, if_neg (by decide), if_neg (by decide), if_pos rfl]
  refine b_ext fun i hi => ?_
  rw [l4_bt u gw gd gs gn hj hi, from_bt hM (by omega) (by omega)]
theorem jump_1 (v fw fd fs fn : Nat → Int32) (x : Int32) : (fX3_jump v fw fd fs fn x).1 = if (x &&& 3) = 0 then 0 else 5 := by
  unfold fX3_jump
  split <;> rfl
theorem jump_2 (v fw fd fs fn : Nat → Int32) (x : Int32) : (fX3_jump v fw fd fs fn x).2 = upd (upd v 19 x) 20 1 := by
  unfold fX3_jump
  split <;> rfl
section WK
variable (v fw fc fr u gw gd gs gn : Nat → Int32) (w : Int32)
theorem adr_l (o : fX3_opcode w = 3) (ha : fX2_rs1Of v fw fc fr w = gn (fX3_rs1 w).toNatClampNeg) : fX2_addressOf v fw fc fr w = gn (fX3_rs1 w).toNatClampNeg + (w >>> ((20 : Int32) &&& 31)) := by
  rw [fX2_addressOf, e_op, if_neg (by rw [o]; decide), ha, e_immI]
theorem adr_s (o : fX3_opcode w = 35) (ha : fX2_rs1Of v fw fc fr w = gn (fX3_rs1 w).toNatClampNeg) : fX2_addressOf v fw fc fr w = gn (fX3_rs1 w).toNatClampNeg + fX3_immediateS w := by
  rw [fX2_addressOf, e_op, if_pos o, ha, e_immS]
theorem jm_99 (hleg : ¬ fX3_isLegal w = 0) (o : fX3_opcode w = 99) (ha : fX2_rs1Of v fw fc fr w = gn (fX3_rs1 w).toNatClampNeg) (hb : fX2_rs2Of v fw fc fr w = gn (fX3_rs2 w).toNatClampNeg) : fX2_jumps v fw fc fr w = fX3_holds (fX3_f3 w) (gn (fX3_rs1 w).toNatClampNeg) (gn (fX3_rs2 w).toNatClampNeg) := by
  rw [fX2_jumps, e_op, if_pos o, e_f3, ha, hb]
  obtain ⟨j, hj, h2, h3, e⟩ := f3_branch hleg o
  rw [e]
  exact e_branch j hj h2 h3 _ _
theorem jm_103 (o : fX3_opcode w = 103) : fX2_jumps v fw fc fr w = 1 := by
  rw [fX2_jumps, e_op, if_neg (by rw [o]; decide), if_pos o]
theorem jm_111 (o : fX3_opcode w = 111) : fX2_jumps v fw fc fr w = 1 := by
  rw [fX2_jumps, e_op, if_neg (by rw [o]; decide), if_neg (by rw [o]; decide), if_pos o]
theorem jm_no (h1 : ¬ fX3_opcode w = 99) (h2 : ¬ fX3_opcode w = 103) (h3 : ¬ fX3_opcode w = 111) : fX2_jumps v fw fc fr w = 0 := by
  rw [fX2_jumps, e_op, if_neg h1, if_neg h2, if_neg h3]
theorem tg_99 (o : fX3_opcode w = 99) (hpc : v 9 = u 11) : fX2_targetOf v fw fc fr w = u 11 + fX3_immediateB w := by
  rw [fX2_targetOf, e_op, if_neg (by rw [o]; decide), if_neg (by rw [o]; decide), e_immB, hpc]
theorem tg_103 (o : fX3_opcode w = 103) (ha : fX2_rs1Of v fw fc fr w = gn (fX3_rs1 w).toNatClampNeg) : fX2_targetOf v fw fc fr w = (gn (fX3_rs1 w).toNatClampNeg + (w >>> ((20 : Int32) &&& 31))) &&& (-2) := by
  rw [fX2_targetOf, e_op, if_pos o, ha, e_immI]
theorem tg_111 (o : fX3_opcode w = 111) (hpc : v 9 = u 11) : fX2_targetOf v fw fc fr w = u 11 + fX3_immediateJ w := by
  rw [fX2_targetOf, e_op, if_neg (by rw [o]; decide), if_pos o, e_immJ, hpc]
/-- the kind with which the word halts, or 0 -/
theorem wk_halt (ha : fX2_rs1Of v fw fc fr w = gn (fX3_rs1 w).toNatClampNeg) (hb : fX2_rs2Of v fw fc fr w = gn (fX3_rs2 w).toNatClampNeg) (hpc : v 9 = u 11) (hbey : fX2_isBeyond (v 9) 1023 = 0) (hleg : ¬ fX3_isLegal w = 0) : fX2_haltOf v fw fc fr w = (fX3_work u gw gd gs gn w).1 := by
  rw [fX2_haltOf, if_pos hbey, if_neg (by rw [e_legal]; exact hleg), e_op]
  rcases legal_op hleg with o | o | o | o | o | o | o | o | o | o | o
  · rw [if_pos o, fX3_work, if_pos o, acc_bytes, adr_l v fw fc fr gn w o ha]
    rcases f3_load hleg o with f | f | f | f | f
    · rw [(loads_1 _ _ _ _ _ _ _ (Or.inl f)).1, f, show (1 : Int32) <<< (((0 : Int32) &&& 3) &&& 31) = 1 from by decide, e_ref1]
    · rw [(loads_2 _ _ _ _ _ _ _ (Or.inl f)).1, f, show (1 : Int32) <<< (((1 : Int32) &&& 3) &&& 31) = 2 from by decide, e_ref2]
    · rw [(loads_4 _ _ _ _ _ _ _ f).1, f, show (1 : Int32) <<< (((2 : Int32) &&& 3) &&& 31) = 4 from by decide, e_ref4]
    · rw [(loads_1 _ _ _ _ _ _ _ (Or.inr f)).1, f, show (1 : Int32) <<< (((4 : Int32) &&& 3) &&& 31) = 1 from by decide, e_ref1]
    · rw [(loads_2 _ _ _ _ _ _ _ (Or.inr f)).1, f, show (1 : Int32) <<< (((5 : Int32) &&& 3) &&& 31) = 2 from by decide, e_ref2]
  · simp (config := { decide := true }) only [fX3_work, o, if_true, if_false]
  · simp (config := { decide := true }) only [fX3_work, o, if_true, if_false]
    repeat' split
    all_goals rfl
  · simp (config := { decide := true }) only [fX3_work, o, if_true, if_false]
  · rw [if_neg (by rw [o]; decide), if_pos o, acc_bytes, adr_s v fw fc fr gn w o ha]
    simp (config := { decide := true }) only [fX3_work, o, if_true, if_false]
    rw [fX3_stores]
    rcases f3_store hleg o with f | f | f
    · rw [if_pos f, f, show (1 : Int32) <<< (((0 : Int32) &&& 3) &&& 31) = 1 from by decide, e_ref1]
      split <;> rfl
    · rw [if_neg (by rw [f]; decide), if_pos f, f, show (1 : Int32) <<< (((1 : Int32) &&& 3) &&& 31) = 2 from by decide, e_ref2]
      split <;> rfl
    · rw [if_neg (by rw [f]; decide), if_neg (by rw [f]; decide), f, show (1 : Int32) <<< (((2 : Int32) &&& 3) &&& 31) = 4 from by decide, e_ref4]
      split <;> rfl
  · simp (config := { decide := true }) only [fX3_work, o, if_true, if_false]
    split
    all_goals rfl
  · simp (config := { decide := true }) only [fX3_work, o, if_true, if_false]
  · rw [jm_99 v fw fc fr gn w hleg o ha hb, tg_99 v fw fc fr u w o hpc]
    simp (config := { decide := true }) only [fX3_work, o, if_true, if_false]
    by_cases h : fX3_holds (fX3_f3 w) (gn (fX3_rs1 w).toNatClampNeg) (gn (fX3_rs2 w).toNatClampNeg) = 0
    · rw [if_pos h, if_pos h]
    · rw [if_neg h, if_neg h, jump_1]
  · rw [jm_103 v fw fc fr w o, tg_103 v fw fc fr gn w o ha]
    simp (config := { decide := true }) only [fX3_work, o, if_true, if_false]
    rw [jump_1]
  · rw [jm_111 v fw fc fr w o, tg_111 v fw fc fr u w o hpc]
    simp (config := { decide := true }) only [fX3_work, o, if_true, if_false]
    rw [jump_1]
  · simp (config := { decide := true }) only [fX3_work, o, if_true, if_false]
    split <;> rfl
end WK
