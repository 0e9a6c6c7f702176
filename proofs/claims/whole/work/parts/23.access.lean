/-- the remainder by a power of two is none just where the low bits are none -/
theorem rem_and (x : Int32) (k : Nat) (hk : k ≤ 2) {M m : Int32} (hM : M.toInt = 2 ^ k) (hm : m.toBitVec.toNat = 2 ^ k - 1) : x - x / M * M = 0 ↔ x &&& m = 0 := by
  rw [pk_and x k hm, ← Int32.toInt_inj, rem_toInt x M, hM, Int32.toInt_zero, toInt_tn]
  have hx := x.toBitVec.isLt
  have h4 : k = 0 ∨ k = 1 ∨ k = 2 := by omega
  have e0 : ∀ r : Nat, r < 4 → (nI r = 0 ↔ r = 0) := fun r hr => by rw [← nI_0, nI_eq (by omega) (by decide)]
  generalize x.toBitVec.toNat = n at hx ⊢
  rcases h4 with rfl | rfl | rfl
  · rw [e0 _ (by omega), ← Int.dvd_iff_tmod_eq_zero]
    show (1 : Int) ∣ _ ↔ n % 1 = 0
    split <;> omega
  · rw [e0 _ (by omega), ← Int.dvd_iff_tmod_eq_zero]
    show (2 : Int) ∣ _ ↔ n % 2 = 0
    split <;> omega
  · rw [e0 _ (by omega), ← Int.dvd_iff_tmod_eq_zero]
    show (4 : Int) ∣ _ ↔ n % 4 = 0
    split <;> omega
theorem bey_255 (x : Int32) : (if fX2_isBeyond x 255 = 0 then (0 : Int32) else 7) = if x < 0 then 7 else if x ≤ 255 then 0 else 7 := by
  unfold fX2_isBeyond
  by_cases h : x < 0
  · rw [if_pos h, if_pos h]
    rfl
  · rw [if_neg h, if_neg h]
    by_cases h2 : x ≤ 255
    · rw [if_pos h2, if_pos h2]
      rfl
    · rw [if_neg h2, if_neg h2]
      rfl
theorem e_ref1 (x : Int32) : fX2_haltOfAccess x 1 = fX3_refusal1 x := by
  unfold fX2_haltOfAccess fX3_refusal1
  rw [bey_255]
  have h := rem_and x 0 (by decide) (M := 1) (m := 1 - 1) (by decide) (by decide)
  by_cases q : x &&& (1 - 1) = 0
  · rw [if_pos q, if_pos (h.mpr q)]
  · rw [if_neg q, if_neg (fun z => q (h.mp z))]
theorem e_ref2 (x : Int32) : fX2_haltOfAccess x 2 = fX3_refusal2 x := by
  unfold fX2_haltOfAccess fX3_refusal2
  rw [bey_255]
  have h := rem_and x 1 (by decide) (M := 2) (m := 2 - 1) (by decide) (by decide)
  by_cases q : x &&& (2 - 1) = 0
  · rw [if_pos q, if_pos (h.mpr q)]
  · rw [if_neg q, if_neg (fun z => q (h.mp z))]
theorem e_ref4 (x : Int32) : fX2_haltOfAccess x 4 = fX3_refusal4 x := by
  unfold fX2_haltOfAccess fX3_refusal4
  rw [bey_255]
  have h := rem_and x 2 (by decide) (M := 4) (m := 4 - 1) (by decide) (by decide)
  by_cases q : x &&& (4 - 1) = 0
  · rw [if_pos q, if_pos (h.mpr q)]
  · rw [if_neg q, if_neg (fun z => q (h.mp z))]
