/-! ===== a byte read unsigned ===== -/
theorem bp_b (x : Int32) : x.toInt8.toInt32 &&& 255 = x &&& 255 := by
  apply Int32.toBitVec_inj.mp
  rw [Int32.toBitVec_and, Int32.toBitVec_and, Int8.toBitVec_toInt32, Int32.toBitVec_toInt8]
  apply BitVec.eq_of_getLsbD_eq
  intro i hi
  rw [BitVec.getLsbD_and, BitVec.getLsbD_and]
  have hm : ∀ i < 32, 8 ≤ i → (255 : Int32).toBitVec.getLsbD i = false := by decide
  rcases Nat.lt_or_ge i 8 with z | z
  · rw [BitVec.getLsbD_signExtend, BitVec.getLsbD_signExtend, if_pos z, if_pos hi]
    simp only [z, hi, decide_true, Bool.true_and]
  · rw [hm i hi z]; simp
/-! the two data memories: words of 32 bits against bytes -/
def MemB (fc gd : Nat → Int32) : Prop := ∀ k, k < 64 → ∀ i, i < 32 → bt (fc k) i = bt (gd (4 * k + i / 8)) (i % 8)
theorem b_shl_8 (x : Int32) {i : Nat} (hi : i < 32) : bt (x <<< ((8 : Int32) &&& 31)) i = (decide (8 ≤ i) && bt x (i - 8)) := b_shl 8 (by omega) x hi
theorem at_k {j : Nat} (k : Nat) (h : j + k < 2 ^ 31) : (nI j + nI k).toNatClampNeg = j + k := by rw [nI_add]; exact nI_clamp h
theorem l1_bt (v fw fd fs fn : Nat → Int32) {j : Nat} (hj : j < 256) {i : Nat} (hi : i < 32) : bt (fX3_load1 v fw fd fs fn (nI j)) i = (decide (i < 8) && bt (fd j) i) := by
  unfold fX3_load1
  rw [show (nI j + 0).toNatClampNeg = j + 0 from at_k 0 (by omega), b_or, b_and, b_shl_8 _ hi, b_0, b_255]
  simp [Bool.and_comm]
theorem l2_bt (v fw fd fs fn : Nat → Int32) {j : Nat} (hj : j < 255) {i : Nat} (hi : i < 32) : bt (fX3_load2 v fw fd fs fn (nI j)) i = (decide (i < 16) && bt (fd (j + i / 8)) (i % 8)) := by
  unfold fX3_load2
  rw [show (nI j + 0).toNatClampNeg = j + 0 from at_k 0 (by omega), show (nI j + 1).toNatClampNeg = j + 1 from at_k 1 (by omega), b_or, b_and, b_shl_8 _ hi, b_255]
  by_cases h : i < 8
  · rw [show i / 8 = 0 by omega, show i % 8 = i by omega]
    simp [h, show ¬ 8 ≤ i by omega, show i < 16 by omega]
  · rw [b_or, b_and, b_shl_8 _ (by omega), b_0, b_255]
    by_cases h2 : i < 16
    · rw [show i / 8 = 1 by omega, show i % 8 = i - 8 by omega]
      simp [h, h2, show 8 ≤ i by omega, show i - 8 < 8 by omega]
    · simp [h, h2, show 8 ≤ i by omega, show ¬ i - 8 < 8 by omega]
theorem l4_bt (v fw fd fs fn : Nat → Int32) {j : Nat} (hj : j < 253) {i : Nat} (hi : i < 32) : bt (fX3_load4 v fw fd fs fn (nI j)) i = bt (fd (j + i / 8)) (i % 8) := by
  unfold fX3_load4
  rw [show (nI j + 0).toNatClampNeg = j + 0 from at_k 0 (by omega), show (nI j + 1).toNatClampNeg = j + 1 from at_k 1 (by omega), show (nI j + 2).toNatClampNeg = j + 2 from at_k 2 (by omega), show (nI j + 3).toNatClampNeg = j + 3 from at_k 3 (by omega), b_or, b_and, b_shl_8 _ hi, b_255]
  by_cases h : i < 8
  · rw [show i / 8 = 0 by omega, show i % 8 = i by omega]
    simp [h, show ¬ 8 ≤ i by omega]
  · rw [b_or, b_and, b_shl_8 _ (by omega), b_255]
    by_cases h2 : i < 16
    · rw [show i / 8 = 1 by omega, show i % 8 = i - 8 by omega]
      simp [h, show 8 ≤ i by omega, show i - 8 < 8 by omega, show ¬ 8 ≤ i - 8 by omega]
    · rw [b_or, b_and, b_shl_8 _ (by omega), b_255]
      by_cases h3 : i < 24
      · rw [show i / 8 = 2 by omega, show i % 8 = i - 8 - 8 by omega]
        simp [h, show 8 ≤ i by omega, show ¬ i - 8 < 8 by omega, show 8 ≤ i - 8 by omega, show i - 8 - 8 < 8 by omega, show ¬ 8 ≤ i - 8 - 8 by omega]
      · rw [b_or, b_and, b_shl_8 _ (by omega), b_0, b_255]
        rw [show i / 8 = 3 by omega, show i % 8 = i - 8 - 8 - 8 by omega]
        simp [h, show 8 ≤ i by omega, show ¬ i - 8 < 8 by omega, show 8 ≤ i - 8 by omega, show ¬ i - 8 - 8 < 8 by omega, show 8 ≤ i - 8 - 8 by omega, show i - 8 - 8 - 8 < 8 by omega]
theorem mem_word (v fw fd fs fn : Nat → Int32) {fc : Nat → Int32} (hM : MemB fc fd) {k : Nat} (hk : k < 64) : fX3_load4 v fw fd fs fn (nI (4 * k)) = fc k := by
  refine b_ext fun i hi => ?_
  rw [l4_bt v fw fd fs fn (by omega) hi, hM k hk i hi]
theorem cell_of {j : Nat} (hj : j < 256) : (fX2_cellOf (nI j)).toNatClampNeg = j / 4 := by
  show ((nI j &&& 255) >>> ((2 : Int32) &&& 31)).toNatClampNeg = j / 4
  rw [pk_andN (by omega) 8 (by decide), pk_shrN (by omega) _ 2 (by decide), nI_clamp (by omega), show j % 2 ^ 8 = j by omega]
theorem shift_of {j : Nat} (hj : j < 256) : fX2_shiftOf (nI j) = nI (8 * (j % 4)) := by
  show (nI j &&& 3) * 8 = _
  rw [pk_andN (by omega) 2 (by decide), show (8 : Int32) = nI 8 from rfl, pk_mul, Nat.mul_comm]
theorem from_bt {fc gd : Nat → Int32} (hM : MemB fc gd) {j : Nat} (hj : j < 256) {i : Nat} (hi : 8 * (j % 4) + i < 32) : bt (jushr (fc (fX2_cellOf (nI j)).toNatClampNeg) (fX2_shiftOf (nI j))) i = bt (gd (j + i / 8)) (i % 8) := by
  rw [cell_of hj, shift_of hj, show bt (jushr (fc (j / 4)) (nI (8 * (j % 4)))) i = bt (fc (j / 4)) (8 * (j % 4) + i) from b_ushr _ (by omega) _ i, hM (j / 4) (by omega) _ hi]
  rw [show 4 * (j / 4) + (8 * (j % 4) + i) / 8 = j + i / 8 by omega, show (8 * (j % 4) + i) % 8 = i % 8 by omega]
theorem i8_ext {x y : Int32} (h : ∀ i, i < 8 → bt x i = bt y i) : x.toInt8 = y.toInt8 := by
  apply Int8.toBitVec_inj.mp
  rw [Int32.toBitVec_toInt8, Int32.toBitVec_toInt8]
  apply BitVec.eq_of_getLsbD_eq
  intro i hi
  have := h i hi
  unfold bt at this
  rw [BitVec.getLsbD_signExtend, BitVec.getLsbD_signExtend, if_pos (show i < 32 by omega), if_pos (show i < 32 by omega), this]
theorem i16_ext {x y : Int32} (h : ∀ i, i < 16 → bt x i = bt y i) : x.toInt16 = y.toInt16 := by
  apply Int16.toBitVec_inj.mp
  rw [Int32.toBitVec_toInt16, Int32.toBitVec_toInt16]
  apply BitVec.eq_of_getLsbD_eq
  intro i hi
  have := h i hi
  unfold bt at this
  rw [BitVec.getLsbD_signExtend, BitVec.getLsbD_signExtend, if_pos (show i < 32 by omega), if_pos (show i < 32 by omega), this]
/-- a byte, written by the reference -/
theorem nar_bt (y : Int32) (n : Nat) (hn : n < 32) {i : Nat} (hi : i < 8) (hni : n + i < 32) : bt (vp_nar .byte ((y >>> (nI n &&& 31)).toInt8.toInt32)) i = bt y (n + i) := by
  rw [vp_nar_byte]
  have e : ∀ x : Int32, bt (x.toInt8.toInt32) i = bt x i := fun x => by
    have h := congrArg (fun z => bt z i) (bp_b x)
    simp only [b_and, b_255, hi, decide_true, Bool.and_true] at h
    exact h
  rw [e, e, b_sshr n hn y (by omega), if_pos hni]
