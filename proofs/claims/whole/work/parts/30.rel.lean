abbrev T3 : Type := (Nat → Int32) × (Nat → Int32) × (Nat → Int32)
def iterX2 (fw : Nat → Int32) : Nat → T3 → T3
  | 0, t => t
  | n + 1, t => iterX2 fw n (fX2_oneClock t.1 fw t.2.1 t.2.2)
theorem oc_14 (v fw fc fr u gw gd gs gn : Nat → Int32) {n m dd : Nat} (h : RelB v fw fc fr u gw gd gs n m) : vp_in (v 14) 32 := h.2.2.2.2.2.2.2.2.2.2.2.2.1
theorem CLOCKS (fw gw : Nat → Int32) : ∀ (k : Nat) (t : T3) (s : T4) (n m dd : Nat), RelB t.1 fw t.2.1 t.2.2 s.1 gw s.2.1 s.2.2.1 n m → DueOK s.1 n dd → PendOK t.1 s.1 → NowOK s.1 s.2.2.1 s.2.2.2 → m + k ≤ 20000 →
    ∃ dd' : Nat, RelB (iterX2 fw k t).1 fw (iterX2 fw k t).2.1 (iterX2 fw k t).2.2 (iterX3 gw k s).1 gw (iterX3 gw k s).2.1 (iterX3 gw k s).2.2.1 (n + k) (m + k) ∧ DueOK (iterX3 gw k s).1 (n + k) dd' ∧ PendOK (iterX2 fw k t).1 (iterX3 gw k s).1 ∧ NowOK (iterX3 gw k s).1 (iterX3 gw k s).2.2.1 (iterX3 gw k s).2.2.2 := by
  intro k
  induction k with
  | zero =>
    intro t s n m dd h1 h2 h3 h4 h5
    exact ⟨dd, h1, h2, h3, h4⟩
  | succ k ih =>
    intro t s n m dd h1 h2 h3 h4 h5
    obtain ⟨dd', g1, g2, g3, g4⟩ := TICK h1 h2 h3 h4 (by omega)
    have r := ih (fX2_oneClock t.1 fw t.2.1 t.2.2) (fX3_tick s.1 gw s.2.1 s.2.2.1 s.2.2.2) (n + 1) (m + 1) dd' g1 g2 g3 g4 (by omega)
    rw [show n + 1 + k = n + (k + 1) by omega, show m + 1 + k = m + (k + 1) by omega] at r
    exact r
/-- every clock keeps the register that waits in its range -/
theorem it_14 (fw gw : Nat → Int32) {t : T3} {s : T4} {n m dd : Nat} (h1 : RelB t.1 fw t.2.1 t.2.2 s.1 gw s.2.1 s.2.2.1 n m) (h2 : DueOK s.1 n dd) (h3 : PendOK t.1 s.1) (h4 : NowOK s.1 s.2.2.1 s.2.2.2) {k : Nat} (h5 : m + k ≤ 20000) : vp_in ((iterX2 fw k t).1 14) 32 := by
  obtain ⟨dd', g, -⟩ := CLOCKS fw gw k t s n m dd h1 h2 h3 h4 h5
  exact g.2.2.2.2.2.2.2.2.2.2.2.2.1
/-- the two objects side by side, between calls -/
def Rel (v fw fc fr u gw gd gs gn : Nat → Int32) : Prop := ∃ n m dd : Nat, RelB v fw fc fr u gw gd gs n m ∧ DueOK u n dd ∧ PendOK v u ∧ (n = 0 → u 14 = 0) ∧ (n ≠ 0 → NowOK u gs gn)
theorem rel_u0 {v fw fc fr u gw gd gs gn : Nat → Int32} (x : Int32) (h : Rel v fw fc fr u gw gd gs gn) : Rel v fw fc fr (upd u 0 x) gw gd gs gn := by
  obtain ⟨n, m, dd, h1, h2, h3, h4, h5⟩ := h
  exact ⟨n, m, dd, h1, h2, h3, h4, h5⟩
theorem nI_le0 {n : Nat} (h : n < 2 ^ 31) : nI n ≤ 0 ↔ n = 0 := by
  rw [← nI_0, nI_leI h (by decide)]
  omega
theorem nI_is0 {n : Nat} (h : n < 2 ^ 31) : nI n = 0 ↔ n = 0 := by
  rw [← nI_0, nI_eq h (by decide)]
theorem lt_of_ngt {k : Int32} {M : Int32} {N : Nat} (h1 : ¬ k < 0) (h2 : ¬ M < k) (hM : M.toInt = N) : ∃ j : Nat, j ≤ N ∧ k = nI j := nI_of2 hM h1 (nle_of_nlt h2)
theorem ge_gt {k M M' : Int32} (h : M'.toInt = M.toInt + 1) : M' ≤ k ↔ M < k := by
  rw [Int32.le_iff_toInt_le, Int32.lt_iff_toInt_lt]
  omega
theorem R_word {v fw fc fr u gw gd gs gn : Nat → Int32} (h : Rel v fw fc fr u gw gd gs gn) (k w : Int32) : (fX2_word v fw fc fr k w).1 = (fX3_word u gw gd gs gn k w).1 ∧ Rel v (fX2_word v fw fc fr k w).2 fc fr (fX3_word u gw gd gs gn k w).2.1 (fX3_word u gw gd gs gn k w).2.2 gd gs gn := by
  obtain ⟨n, m, dd, h1, h2, h3, h4, h5⟩ := id h
  have a5 : v 4 = u 5 := h1.2.2.2.2.1
  have a15 : u 5 = nI n := h1.2.2.2.2.2.2.2.2.2.2.2.2.2.2.1
  have hnm := h1.2.2.2.2.2.2.2.2.2.2.2.2.2.2.2.2
  have e1 : v 4 = 0 ↔ n = 0 := by rw [a5, a15, nI_is0 (by omega)]
  have e2 : u 5 ≤ 0 ↔ n = 0 := by rw [a15, nI_le0 (by omega)]
  rw [fX2_word, fX3_word]
  by_cases c1 : k < 0
  · rw [if_pos c1, if_pos c1]
    exact ⟨rfl, rel_u0 0 h⟩
  · rw [if_neg c1, if_neg c1]
    by_cases c2 : (255 : Int32) < k
    · rw [if_pos ((ge_gt (by decide)).mpr c2), if_pos c2]
      exact ⟨rfl, rel_u0 0 h⟩
    · rw [if_neg (fun q => c2 ((ge_gt (by decide)).mp q)), if_neg c2]
      by_cases c3 : n = 0
      · rw [if_pos (e1.mpr c3), if_pos (e2.mpr c3)]
        refine ⟨rfl, n, m, dd, ?_, h2, h3, h4, h5⟩
        obtain ⟨a1, ar⟩ := h1
        refine ⟨fun j hj => ?_, ar⟩
        show upd fw k.toNatClampNeg w j = upd gw k.toNatClampNeg w j
        by_cases z : j = k.toNatClampNeg
        · rw [z, pk_us, pk_us]
        · rw [pk_un z, pk_un z]
          exact a1 j hj
      · rw [if_neg (fun q => c3 (e1.mp q)), if_neg (fun q => c3 (e2.mp q))]
        exact ⟨rfl, rel_u0 0 h⟩
theorem R_data {v fw fc fr u gw gd gs gn : Nat → Int32} (h : Rel v fw fc fr u gw gd gs gn) (k w : Int32) : (fX2_data v fw fc fr k w).1 = (fX3_data u gw gd gs gn k w).1 ∧ Rel v fw (fX2_data v fw fc fr k w).2 fr (fX3_data u gw gd gs gn k w).2.1 gw (fX3_data u gw gd gs gn k w).2.2 gs gn := by
  obtain ⟨n, m, dd, h1, h2, h3, h4, h5⟩ := id h
  have a5 : v 4 = u 5 := h1.2.2.2.2.1
  have a15 : u 5 = nI n := h1.2.2.2.2.2.2.2.2.2.2.2.2.2.2.1
  have hnm := h1.2.2.2.2.2.2.2.2.2.2.2.2.2.2.2.2
  have e1 : v 4 = 0 ↔ n = 0 := by rw [a5, a15, nI_is0 (by omega)]
  have e2 : u 5 ≤ 0 ↔ n = 0 := by rw [a15, nI_le0 (by omega)]
  rw [fX2_data, fX3_data]
  by_cases c1 : k < 0
  · rw [if_pos c1, if_pos c1]
    exact ⟨rfl, rel_u0 0 h⟩
  · rw [if_neg c1, if_neg c1]
    by_cases c2 : (63 : Int32) < k
    · rw [if_pos ((ge_gt (by decide)).mpr c2), if_pos c2]
      exact ⟨rfl, rel_u0 0 h⟩
    · rw [if_neg (fun q => c2 ((ge_gt (by decide)).mp q)), if_neg c2]
      by_cases c3 : n = 0
      · rw [if_pos (e1.mpr c3), if_pos (e2.mpr c3)]
        refine ⟨rfl, n, m, dd, ?_, h2, h3, h4, h5⟩
        obtain ⟨a1, a2, ar⟩ := h1
        obtain ⟨j, hj, rfl⟩ := lt_of_ngt (N := 63) c1 c2 (by decide)
        refine ⟨a1, ?_, ar⟩
        show MemB (upd fc (nI j).toNatClampNeg w) (fX3_store4 (upd u 0 0) gw gd gs gn (4 * nI j) w)
        rw [nI_clamp (by omega), show (4 : Int32) = nI 4 from rfl, pk_mul]
        exact mem_data (upd u 0 0) gw fc gd gs gn a2 (by omega) w
      · rw [if_neg (fun q => c3 (e1.mp q)), if_neg (fun q => c3 (e2.mp q))]
        exact ⟨rfl, rel_u0 0 h⟩
theorem R_set {v fw fc fr u gw gd gs gn : Nat → Int32} (h : Rel v fw fc fr u gw gd gs gn) (k w : Int32) : (fX2_set v fw fc fr k w).1 = (fX3_set u gw gd gs gn k w).1 ∧ Rel v fw fc (fX2_set v fw fc fr k w).2 (fX3_set u gw gd gs gn k w).2.1 gw gd (fX3_set u gw gd gs gn k w).2.2 gn := by
  obtain ⟨n, m, dd, h1, h2, h3, h4, h5⟩ := id h
  have a5 : v 4 = u 5 := h1.2.2.2.2.1
  have a15 : u 5 = nI n := h1.2.2.2.2.2.2.2.2.2.2.2.2.2.2.1
  have hnm := h1.2.2.2.2.2.2.2.2.2.2.2.2.2.2.2.2
  have e1 : v 4 = 0 ↔ n = 0 := by rw [a5, a15, nI_is0 (by omega)]
  have e2 : u 5 ≤ 0 ↔ n = 0 := by rw [a15, nI_le0 (by omega)]
  rw [fX2_set, fX3_set]
  by_cases c1 : k < 1
  · rw [if_pos c1, if_pos c1]
    exact ⟨rfl, rel_u0 0 h⟩
  · rw [if_neg c1, if_neg c1]
    by_cases c2 : (31 : Int32) < k
    · rw [if_pos ((ge_gt (by decide)).mpr c2), if_pos c2]
      exact ⟨rfl, rel_u0 0 h⟩
    · rw [if_neg (fun q => c2 ((ge_gt (by decide)).mp q)), if_neg c2]
      by_cases c3 : n = 0
      · rw [if_pos (e1.mpr c3), if_pos (e2.mpr c3)]
        refine ⟨rfl, n, m, dd, ?_, h2, h3, h4, fun q => absurd c3 q⟩
        obtain ⟨a1, a2, a3, ar⟩ := h1
        refine ⟨a1, a2, fun j hj => ?_, ar⟩
        show upd fr k.toNatClampNeg w j = upd gs k.toNatClampNeg w j
        by_cases z : j = k.toNatClampNeg
        · rw [z, pk_us, pk_us]
        · rw [pk_un z, pk_un z]
          exact a3 j hj
      · rw [if_neg (fun q => c3 (e1.mp q)), if_neg (fun q => c3 (e2.mp q))]
        exact ⟨rfl, rel_u0 0 h⟩
theorem R_reset {v fw fc fr u gw gd gs gn : Nat → Int32} (h : Rel v fw fc fr u gw gd gs gn) : Rel (fX2_reset v fw fc fr) fw fc fr (fX3_reset u gw gd gs gn) gw gd gs gn := by
  obtain ⟨n, m, dd, h1, h2, h3, h4, h5⟩ := h
  obtain ⟨a1, a2, a3, a4, a5, a6, a7, a8, a9, a10, a11, a12, a13, a14, a15, a16, a17, a18⟩ := h1
  exact ⟨0, m, 4, ⟨a1, a2, a3, a4, rfl, rfl, rfl, rfl, rfl, rfl, rfl, rfl, a13, a14, rfl, a16, Nat.zero_le _, a18⟩, ⟨rfl, by omega, Or.inl ⟨rfl, by omega⟩⟩, Or.inl rfl, fun _ => rfl, fun q => absurd rfl q⟩
theorem R_state {v fw fc fr u gw gd gs gn : Nat → Int32} (h : Rel v fw fc fr u gw gd gs gn) (k : Int32) : fX2_state v fw fc fr k = (fX3_state u gw gd gs gn k).1 ∧ Rel v fw fc fr (fX3_state u gw gd gs gn k).2 gw gd gs gn := by
  have h0 := rel_u0 0 h
  obtain ⟨n, m, dd, h1, -⟩ := h
  obtain ⟨a1, a2, a3, a4, a5, a6, a7, a8, a9, -⟩ := h1
  rw [fX2_state, fX3_state, a4, a5, a6, a7, a8, a9]
  repeat' split
  all_goals exact ⟨rfl, h0⟩
theorem R_register {v fw fc fr u gw gd gs gn : Nat → Int32} (h : Rel v fw fc fr u gw gd gs gn) (k : Int32) : Rel v fw fc fr (fX3_register u gw gd gs gn k).2 gw gd gs gn ∧ ((k < 0 ∨ ¬ k < 32) → (fX3_register u gw gd gs gn k).2 0 = 1) ∧ (¬ k < 0 → k < 32 → (fX3_register u gw gd gs gn k).2 0 = 0 ∧ fr k.toNatClampNeg = (fX3_register u gw gd gs gn k).1) := by
  have h0 := rel_u0 0 h
  have h9 := rel_u0 1 h
  obtain ⟨n, m, dd, h1, -⟩ := h
  obtain ⟨a1, a2, a3, -⟩ := h1
  rw [fX3_register]
  have e : k ≤ 31 ↔ k < 32 := by
    rw [Int32.le_iff_toInt_le, Int32.lt_iff_toInt_lt, show (31 : Int32).toInt = 31 from by decide, show (32 : Int32).toInt = 32 from by decide]
    omega
  by_cases c1 : k < 0
  · rw [if_pos c1]
    exact ⟨h9, fun _ => rfl, fun q => absurd c1 q⟩
  · rw [if_neg c1]
    by_cases c2 : k ≤ 31
    · rw [if_pos c2]
      refine ⟨h0, fun q => ?_, fun _ _ => ⟨rfl, ?_⟩⟩
      · rcases q with q | q
        · exact absurd q c1
        · exact absurd (e.mp c2) q
      · obtain ⟨j, hj, rfl⟩ := nI_of2 (n := 31) (by decide) c1 c2
        rw [nI_clamp (by omega)]
        exact a3 j (by omega)
    · rw [if_neg c2]
      exact ⟨h9, fun _ => rfl, fun _ q => absurd (e.mpr q) c2⟩
theorem R_memory {v fw fc fr u gw gd gs gn : Nat → Int32} (h : Rel v fw fc fr u gw gd gs gn) (k : Int32) : Rel v fw fc fr (fX3_memory u gw gd gs gn k).2 gw gd gs gn ∧ ((k < 0 ∨ ¬ k < 64) → (fX3_memory u gw gd gs gn k).2 0 = 1) ∧ (¬ k < 0 → k < 64 → (fX3_memory u gw gd gs gn k).2 0 = 0 ∧ fc k.toNatClampNeg = (fX3_memory u gw gd gs gn k).1) := by
  have h0 := rel_u0 0 h
  have h9 := rel_u0 1 h
  obtain ⟨n, m, dd, h1, -⟩ := h
  obtain ⟨a1, a2, -⟩ := h1
  rw [fX3_memory]
  have e : k ≤ 63 ↔ k < 64 := by
    rw [Int32.le_iff_toInt_le, Int32.lt_iff_toInt_lt, show (63 : Int32).toInt = 63 from by decide, show (64 : Int32).toInt = 64 from by decide]
    omega
  by_cases c1 : k < 0
  · rw [if_pos c1]
    exact ⟨h9, fun _ => rfl, fun q => absurd c1 q⟩
  · rw [if_neg c1]
    by_cases c2 : k ≤ 63
    · rw [if_pos c2]
      refine ⟨h0, fun q => ?_, fun _ _ => ⟨rfl, ?_⟩⟩
      · rcases q with q | q
        · exact absurd q c1
        · exact absurd (e.mp c2) q
      · obtain ⟨j, hj, rfl⟩ := nI_of2 (n := 63) (by decide) c1 c2
        show fc (nI j).toNatClampNeg = fX3_load4 (upd u 0 0) gw gd gs gn (4 * nI j)
        rw [nI_clamp (by omega), show (4 : Int32) = nI 4 from rfl, pk_mul]
        exact (mem_word (upd u 0 0) gw gd gs gn a2 (by omega)).symm
    · rw [if_neg c2]
      exact ⟨h9, fun _ => rfl, fun _ q => absurd (e.mpr q) c2⟩
