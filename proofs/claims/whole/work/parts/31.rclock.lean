theorem st_0 (u gw gd gs gn : Nat → Int32) : (fX3_step u gw gd gs gn).1 0 = u 0 := by
  by_cases hb : fX3_isBeyond (u 11) = 0
  · by_cases hl : fX3_isLegal (fX3_wordAt (pre3 u) gw gd gs gn (u 11)) = 0
    · rw [st_illegal u gw gd gs gn hb hl]
      rfl
    · by_cases hk : (fX3_work (pre3 u) gw gd gs gn (fX3_wordAt (pre3 u) gw gd gs gn (u 11))).1 ≤ 0
      · rw [st_run u gw gd gs gn hb hl _ rfl hk]
        show (fX3_work (pre3 u) gw gd gs gn (fX3_wordAt (pre3 u) gw gd gs gn (u 11))).2.1 0 = u 0
        rw [wk_oth _ _ _ _ _ _ (by decide) (by decide) (by decide) (by decide)]
        rfl
      · rw [st_halt u gw gd gs gn hb hl _ rfl hk]
        show (fX3_work (pre3 u) gw gd gs gn (fX3_wordAt (pre3 u) gw gd gs gn (u 11))).2.1 0 = u 0
        rw [wk_oth _ _ _ _ _ _ (by decide) (by decide) (by decide) (by decide)]
        rfl
  · rw [st_beyond u gw gd gs gn hb]
    rfl
theorem wr_0 (u gw gd gs gn : Nat → Int32) : (fX3_write u gw gd gs gn).1 0 = u 0 := by
  unfold fX3_write
  repeat' split
  all_goals rfl
theorem fi_0 (u gw gd gs gn : Nat → Int32) : (fireX3 u gw gd gs gn).1 0 = u 0 := by
  unfold fireX3
  split
  · split
    · exact st_0 u gw gd gs gn
    · rfl
  · rfl
theorem tk_0 (u gw gd gs gn : Nat → Int32) : (fX3_tick u gw gd gs gn).1 0 = u 0 := by
  by_cases h : u 14 = 0
  · rw [tk_no u gw gd gs gn h]
    show (fireX3 _ _ _ _ _).1 0 = u 0
    rw [fi_0]
    rfl
  · rw [tk_yes u gw gd gs gn h]
    show (fireX3 _ _ _ _ _).1 0 = u 0
    rw [fi_0, wr_0]
    rfl
theorem it_0 (gw : Nat → Int32) : ∀ (k : Nat) (s : T4), (iterX3 gw k s).1 0 = s.1 0 := by
  intro k
  induction k with
  | zero => intro s; rfl
  | succ k ih =>
    intro s
    show (iterX3 gw k (fX3_tick s.1 gw s.2.1 s.2.2.1 s.2.2.2)).1 0 = s.1 0
    rw [ih]
    exact tk_0 _ _ _ _ _
theorem cp_in (gs gn : Nat → Int32) {k : Nat} (hk : k < 32) : cpX3 gs gn 32 k = gs k := by
  unfold cpX3
  rw [if_pos hk]
theorem R_clock1 {v fw fc fr u gw gd gs gn : Nat → Int32} (h : Rel v fw fc fr u gw gd gs gn) {x : Int32} (hx : x < 1 ∨ ¬ x ≤ 200) : fX3_clock u gw gd gs gn x = (0, upd u 0 1, gd, gs, gn) := by
  rw [fX3_clock]
  by_cases c1 : x < 1
  · rw [if_pos c1]
  · rw [if_neg c1, if_neg (hx.resolve_left c1)]
theorem R_clock2 {v fw fc fr u gw gd gs gn : Nat → Int32} (h : Rel v fw fc fr u gw gd gs gn) {x : Int32} (c1 : ¬ x < 1) (c2 : x ≤ 200) (c3 : ¬ v 3 + x ≤ 20000) : fX3_clock u gw gd gs gn x = (0, upd u 0 2, gd, gs, gn) := by
  obtain ⟨n, m, dd, h1, -⟩ := h
  rw [fX3_clock, if_neg c1, if_pos c2, if_neg (by rw [← h1.2.2.2.1]; exact c3)]
theorem R_clock3 {v fw fc fr u gw gd gs gn : Nat → Int32} (h : Rel v fw fc fr u gw gd gs gn) {x : Int32} (c1 : ¬ x < 1) (c2 : x ≤ 200) (c3 : v 3 + x ≤ 20000) :
    Rel (iterX2 fw x.toNatClampNeg (v, fc, fr)).1 fw (iterX2 fw x.toNatClampNeg (v, fc, fr)).2.1 (iterX2 fw x.toNatClampNeg (v, fc, fr)).2.2 (fX3_clock u gw gd gs gn x).2.1 gw (fX3_clock u gw gd gs gn x).2.2.1 (fX3_clock u gw gd gs gn x).2.2.2.1 (fX3_clock u gw gd gs gn x).2.2.2.2 ∧ (fX3_clock u gw gd gs gn x).2.1 0 = 0 ∧ (iterX2 fw x.toNatClampNeg (v, fc, fr)).1 5 = (fX3_clock u gw gd gs gn x).1 := by
  obtain ⟨n, m, dd, h1, h2, h3, h4, h5⟩ := rel_u0 0 h
  obtain ⟨N, hN, rfl⟩ := nI_of2 (n := 200) (by decide) (n1_pos c1) c2
  have hN1 : N ≠ 0 := fun q => c1 (by rw [q]; decide)
  have a4 : v 3 = u 6 := h1.2.2.2.1
  have a15 : u 5 = nI n := h1.2.2.2.2.2.2.2.2.2.2.2.2.2.2.1
  have a16 : u 6 = nI m := h1.2.2.2.2.2.2.2.2.2.2.2.2.2.2.2.1
  have hnm := h1.2.2.2.2.2.2.2.2.2.2.2.2.2.2.2.2
  have hmN : m + N ≤ 20000 := by
    rw [a4, a16, nI_add] at c3
    exact (nI_leI (by omega) (by decide)).mp (show nI (m + N) ≤ nI 20000 from c3)
  rw [nI_clamp (by omega), fX3_clock, if_neg c1, if_pos c2, if_pos (by rw [← a4]; exact c3), nI_clamp (by omega)]
  by_cases c4 : u 5 = 0
  · rw [if_pos c4]
    have hn0 : n = 0 := (nI_is0 (by omega)).mp (a15.symm.trans c4)
    have hNow : NowOK (upd u 0 0) gs (cpX3 gs gn 32) := fun k hk => by
      rw [cp_in gs gn hk, if_neg (fun q => ?_)]
      have := h4 hn0
      rw [this] at q
      exact absurd q.1.1 (by decide)
    obtain ⟨dd', g1, g2, g3, g4⟩ := CLOCKS fw gw N (v, fc, fr) (upd u 0 0, gd, gs, cpX3 gs gn 32) n m dd h1 h2 h3 hNow hmN
    refine ⟨⟨n + N, m + N, dd', g1, g2, g3, fun q => absurd q (by omega), fun _ => g4⟩, ?_, ?_⟩
    · show (iterX3 gw N (upd u 0 0, gd, gs, cpX3 gs gn 32)).1 0 = 0
      rw [it_0]
      rfl
    · exact g1.2.2.2.2.2.1
  · rw [if_neg c4]
    have hn0 : n ≠ 0 := fun q => c4 (by rw [a15, q]; rfl)
    obtain ⟨dd', g1, g2, g3, g4⟩ := CLOCKS fw gw N (v, fc, fr) (upd u 0 0, gd, gs, gn) n m dd h1 h2 h3 (h5 hn0) hmN
    refine ⟨⟨n + N, m + N, dd', g1, g2, g3, fun q => absurd q (by omega), fun _ => g4⟩, ?_, ?_⟩
    · show (iterX3 gw N (upd u 0 0, gd, gs, gn)).1 0 = 0
      rw [it_0]
      rfl
    · exact g1.2.2.2.2.2.1
/-- every clock of a call keeps the register that waits in its range -/
theorem R_in14 {v fw fc fr u gw gd gs gn : Nat → Int32} (h : Rel v fw fc fr u gw gd gs gn) : vp_in (v 14) 32 ∧ vp_in (u 17) 32 := by
  obtain ⟨n, m, dd, h1, -⟩ := h
  exact ⟨h1.2.2.2.2.2.2.2.2.2.2.2.2.1, h1.2.2.2.2.2.2.2.2.2.2.2.2.2.1⟩
/-- the two new objects -/
theorem R_new {v u : Nat → Int32} (hv : ∀ k, k ≠ 6 → k ≠ 10 → v k = 0) (hv6 : v 6 = -1) (hv10 : v 10 = 4) (hu : ∀ k, k ≠ 8 → k ≠ 12 → u k = 0) (hu8 : u 8 = -1) (hu12 : u 12 = 4) : Rel v (fun _ => 0) (fun _ => 0) (fun _ => 0) u (fun _ => 0) (fun _ => 0) (fun _ => 0) (fun _ => 0) := by
  refine ⟨0, 0, 4, ⟨fun _ _ => rfl, fun k _ i _ => by rw [b_0, b_0], fun _ _ => rfl, ?_, ?_, ?_, ?_, ?_, ?_, ?_, ?_, ?_, ?_, ?_, ?_, ?_, Nat.le_refl _, by decide⟩, ⟨hu12, by decide, Or.inl ⟨hu 13 (by decide) (by decide), by decide⟩⟩, Or.inl (hu 14 (by decide) (by decide)), fun _ => hu 14 (by decide) (by decide), fun q => absurd rfl q⟩
  · rw [hv 3 (by decide) (by decide), hu 6 (by decide) (by decide)]
  · rw [hv 4 (by decide) (by decide), hu 5 (by decide) (by decide)]
  · rw [hv 5 (by decide) (by decide), hu 7 (by decide) (by decide)]
  · rw [hv6, hu8]
  · rw [hv 7 (by decide) (by decide), hu 9 (by decide) (by decide)]
  · rw [hv 8 (by decide) (by decide), hu 10 (by decide) (by decide)]
  · rw [hv 9 (by decide) (by decide), hu 11 (by decide) (by decide)]
  · rw [hv10, hu12]
  · rw [hv 11 (by decide) (by decide), hu 14 (by decide) (by decide)]
  · rw [hv 14 (by decide) (by decide)]; exact ix_0
  · rw [hu 17 (by decide) (by decide)]; exact ix_0
  · rw [hu 5 (by decide) (by decide)]; rfl
  · rw [hu 6 (by decide) (by decide)]; rfl
