theorem mem_put {fc gd gd' : Nat → Int32} (hM : MemB fc gd) {j n : Nat} {y z : Int32} (hj : j < 256) (hn : 0 < n) (hr : j % 4 + n ≤ 4) (h1 : ∀ q, q < n → ∀ i, i < 8 → bt (gd' (j + q)) i = bt y (8 * q + i)) (h2 : ∀ p, p < 256 → (p < j ∨ j + n ≤ p) → gd' p = gd p)
    (hz : ∀ i, i < 32 → bt z i = if 8 * (j % 4) ≤ i ∧ i < 8 * (j % 4) + 8 * n then bt y (i - 8 * (j % 4)) else bt (fc (j / 4)) i) : MemB (upd fc (j / 4) z) gd' := by
  intro k hk i hi
  by_cases hkj : k = j / 4
  · subst hkj
    rw [pk_us, hz i hi]
    by_cases hc : 8 * (j % 4) ≤ i ∧ i < 8 * (j % 4) + 8 * n
    · rw [if_pos hc]
      have e1 : 4 * (j / 4) + i / 8 = j + (i / 8 - j % 4) := by omega
      rw [e1, h1 (i / 8 - j % 4) (by omega) (i % 8) (by omega)]
      congr 1
      omega
    · rw [if_neg hc, hM _ hk i hi, h2 _ (by omega) (by omega)]
  · rw [pk_un hkj, hM k hk i hi, h2 _ (by omega) (by omega)]
theorem z_bt (old y mask : Int32) {r n : Nat} (hr : r < 4) (hm : ∀ i, i < 32 → bt mask i = decide (i < 8 * n)) {i : Nat} (hi : i < 32) : bt ((old &&& ((mask <<< (nI (8 * r) &&& 31)) ^^^ (-1))) ||| ((y &&& mask) <<< (nI (8 * r) &&& 31))) i = if 8 * r ≤ i ∧ i < 8 * r + 8 * n then bt y (i - 8 * r) else bt old i := by
  rw [b_or, b_and, b_xor, b_shl _ (by omega) _ hi, b_shl _ (by omega) _ hi, b_m1 i hi, b_and]
  by_cases h1 : 8 * r ≤ i
  · rw [hm (i - 8 * r) (by omega)]
    by_cases h2 : i - 8 * r < 8 * n
    · rw [if_pos ⟨h1, by omega⟩]
      simp [h1, h2]
    · rw [if_neg (by omega)]
      simp [h1, h2]
  · rw [if_neg (by omega)]
    simp [h1]
theorem mk_255 : ∀ i, i < 32 → bt 255 i = decide (i < 8 * 1) := fun i _ => b_255 i
theorem mk_65535 : ∀ i, i < 32 → bt 65535 i = decide (i < 8 * 2) := fun i _ => b_65535 i
theorem mk_m1 : ∀ i, i < 32 → bt (-1) i = decide (i < 8 * 4) := by decide +kernel
theorem nar0 (y : Int32) {i : Nat} (hi : i < 8) : bt (vp_nar .byte ((y >>> ((0 : Int32) &&& 31)).toInt8.toInt32)) i = bt y (0 + i) := nar_bt y 0 (by decide) hi (by omega)
theorem nar8 (y : Int32) {i : Nat} (hi : i < 8) : bt (vp_nar .byte ((y >>> ((8 : Int32) &&& 31)).toInt8.toInt32)) i = bt y (8 + i) := nar_bt y 8 (by decide) hi (by omega)
theorem nar16 (y : Int32) {i : Nat} (hi : i < 8) : bt (vp_nar .byte ((y >>> ((16 : Int32) &&& 31)).toInt8.toInt32)) i = bt y (16 + i) := nar_bt y 16 (by decide) hi (by omega)
theorem nar24 (y : Int32) {i : Nat} (hi : i < 8) : bt (vp_nar .byte ((y >>> ((24 : Int32) &&& 31)).toInt8.toInt32)) i = bt y (24 + i) := nar_bt y 24 (by decide) hi (by omega)
theorem s1_in (v fw fd fs fn : Nat → Int32) {j : Nat} (hj : j < 256) (y : Int32) : ∀ q, q < 1 → ∀ i, i < 8 → bt (fX3_store1 v fw fd fs fn (nI j) y (j + q)) i = bt y (8 * q + i) := by
  intro q hq i hi
  unfold fX3_store1
  rw [show (nI j + 0).toNatClampNeg = j + 0 from at_k 0 (by omega)]
  rw [show q = 0 by omega, pk_us, nar0 y hi]
theorem s1_out (v fw fd fs fn : Nat → Int32) {j : Nat} (hj : j < 256) (y : Int32) : ∀ p, p < 256 → (p < j ∨ j + 1 ≤ p) → fX3_store1 v fw fd fs fn (nI j) y p = fd p := by
  intro p hp hc
  unfold fX3_store1
  rw [show (nI j + 0).toNatClampNeg = j + 0 from at_k 0 (by omega)]
  rw [pk_un (by omega)]
theorem s2_in (v fw fd fs fn : Nat → Int32) {j : Nat} (hj : j < 255) (y : Int32) : ∀ q, q < 2 → ∀ i, i < 8 → bt (fX3_store2 v fw fd fs fn (nI j) y (j + q)) i = bt y (8 * q + i) := by
  intro q hq i hi
  unfold fX3_store2
  rw [show (nI j + 0).toNatClampNeg = j + 0 from at_k 0 (by omega), show (nI j + 1).toNatClampNeg = j + 1 from at_k 1 (by omega)]
  have h : q = 0 ∨ q = 1 := by omega
  rcases h with rfl | rfl
  · rw [pk_un (by omega), pk_us, nar0 y hi]
  · rw [pk_us, nar8 y hi]
theorem s2_out (v fw fd fs fn : Nat → Int32) {j : Nat} (hj : j < 255) (y : Int32) : ∀ p, p < 256 → (p < j ∨ j + 2 ≤ p) → fX3_store2 v fw fd fs fn (nI j) y p = fd p := by
  intro p hp hc
  unfold fX3_store2
  rw [show (nI j + 0).toNatClampNeg = j + 0 from at_k 0 (by omega), show (nI j + 1).toNatClampNeg = j + 1 from at_k 1 (by omega)]
  rw [pk_un (by omega), pk_un (by omega)]
theorem s4_in (v fw fd fs fn : Nat → Int32) {j : Nat} (hj : j < 253) (y : Int32) : ∀ q, q < 4 → ∀ i, i < 8 → bt (fX3_store4 v fw fd fs fn (nI j) y (j + q)) i = bt y (8 * q + i) := by
  intro q hq i hi
  unfold fX3_store4
  rw [show (nI j + 0).toNatClampNeg = j + 0 from at_k 0 (by omega), show (nI j + 1).toNatClampNeg = j + 1 from at_k 1 (by omega), show (nI j + 2).toNatClampNeg = j + 2 from at_k 2 (by omega), show (nI j + 3).toNatClampNeg = j + 3 from at_k 3 (by omega)]
  have h : q = 0 ∨ q = 1 ∨ q = 2 ∨ q = 3 := by omega
  rcases h with rfl | rfl | rfl | rfl
  · rw [pk_un (by omega), pk_un (by omega), pk_un (by omega), pk_us, nar0 y hi]
  · rw [pk_un (by omega), pk_un (by omega), pk_us, nar8 y hi]
  · rw [pk_un (by omega), pk_us, nar16 y hi]
  · rw [pk_us, nar24 y hi]
theorem s4_out (v fw fd fs fn : Nat → Int32) {j : Nat} (hj : j < 253) (y : Int32) : ∀ p, p < 256 → (p < j ∨ j + 4 ≤ p) → fX3_store4 v fw fd fs fn (nI j) y p = fd p := by
  intro p hp hc
  unfold fX3_store4
  rw [show (nI j + 0).toNatClampNeg = j + 0 from at_k 0 (by omega), show (nI j + 1).toNatClampNeg = j + 1 from at_k 1 (by omega), show (nI j + 2).toNatClampNeg = j + 2 from at_k 2 (by omega), show (nI j + 3).toNatClampNeg = j + 3 from at_k 3 (by omega)]
  rw [pk_un (by omega), pk_un (by omega), pk_un (by omega), pk_un (by omega)]
/-- stores of one, two, four bytes, on both sides -/
theorem mem_s1 (v w fw gw fc fr fd fs fn : Nat → Int32) (hM : MemB fc fd) {j : Nat} (hj : j < 256) (y : Int32) : MemB (fX2_storeAt v fw fc fr (nI j) 0 y) (fX3_store1 w gw fd fs fn (nI j) y) := by
  rw [fX2_storeAt, if_pos rfl, cell_of hj, shift_of hj]
  exact mem_put hM hj (by decide) (by omega) (s1_in w gw fd fs fn hj y) (s1_out w gw fd fs fn hj y) (fun i hi => z_bt _ y 255 (by omega) mk_255 hi)
theorem mem_s2 (v w fw gw fc fr fd fs fn : Nat → Int32) (hM : MemB fc fd) {j : Nat} (hj : j < 255) (h2 : j % 2 = 0) (y : Int32) : MemB (fX2_storeAt v fw fc fr (nI j) 1 y) (fX3_store2 w gw fd fs fn (nI j) y) := by
  rw [fX2_storeAt, if_neg (by decide), if_pos rfl, cell_of (by omega), shift_of (by omega)]
  exact mem_put hM (by omega) (by decide) (by omega) (s2_in w gw fd fs fn hj y) (s2_out w gw fd fs fn hj y) (fun i hi => z_bt _ y 65535 (by omega) mk_65535 hi)
theorem mem_s4 (v w fw gw fc fr fd fs fn : Nat → Int32) (hM : MemB fc fd) {j : Nat} (hj : j < 253) (h4 : j % 4 = 0) (y : Int32) : MemB (fX2_storeAt v fw fc fr (nI j) 2 y) (fX3_store4 w gw fd fs fn (nI j) y) := by
  rw [fX2_storeAt, if_neg (by decide), if_neg (by decide), cell_of (by omega), shift_of (by omega)]
  exact mem_put hM (by omega) (by decide) (by omega) (s4_in w gw fd fs fn hj y) (s4_out w gw fd fs fn hj y) (fun i hi => z_bt _ y (-1) (by omega) mk_m1 hi)
theorem mem_data (w gw fc fd fs fn : Nat → Int32) (hM : MemB fc fd) {k : Nat} (hk : k < 64) (y : Int32) : MemB (upd fc k y) (fX3_store4 w gw fd fs fn (nI (4 * k)) y) := by
  have h := mem_put (j := 4 * k) (n := 4) (y := y) (z := y) hM (by omega) (by decide) (by omega) (s4_in w gw fd fs fn (by omega) y) (s4_out w gw fd fs fn (by omega) y) (fun i hi => by
    rw [show 4 * k % 4 = 0 by omega, if_pos (by omega)]
    rfl)
  rw [show 4 * k / 4 = k by omega] at h
  exact h
