abbrev pre3 (u : Nat → Int32) : Nat → Int32 := upd (upd (upd (upd u 19 ((u 11) + 4)) 20 0) 14 1) 15 (u 11)
def inc3 (K : Int32 × (Nat → Int32) × (Nat → Int32)) (gw gs gn : Nat → Int32) : Int32 :=
  if K.2.1 20 = 0 then (if K.2.1 17 ≤ 0 then 1 else if fX3_opcode (gw ((K.2.1 11) / 4).toNatClampNeg) = 3 then (if fX3_reads K.2.1 gw K.2.2 gs gn (K.2.1 19) (K.2.1 17) = 0 then 1 else 2) else 1) else 3
theorem st_beyond (u gw gd gs gn : Nat → Int32) (hb : ¬ fX3_isBeyond (u 11) = 0) : fX3_step u gw gd gs gn = (upd (upd (pre3 u) 16 4) 13 1, gd, gn) := by
  rw [fX3_step, if_neg hb]
theorem st_illegal (u gw gd gs gn : Nat → Int32) (hb : fX3_isBeyond (u 11) = 0) (hl : fX3_isLegal (fX3_wordAt (pre3 u) gw gd gs gn (u 11)) = 0) : fX3_step u gw gd gs gn = (upd (upd (pre3 u) 16 3) 13 1, gd, gn) := by
  rw [fX3_step, if_pos hb, if_pos hl]
theorem st_halt (u gw gd gs gn : Nat → Int32) (hb : fX3_isBeyond (u 11) = 0) (hl : ¬ fX3_isLegal (fX3_wordAt (pre3 u) gw gd gs gn (u 11)) = 0) (K : Int32 × (Nat → Int32) × (Nat → Int32)) (hK : fX3_work (pre3 u) gw gd gs gn (fX3_wordAt (pre3 u) gw gd gs gn (u 11)) = K) (hk : ¬ K.1 ≤ 0) : fX3_step u gw gd gs gn = (upd (upd K.2.1 16 K.1) 13 1, K.2.2, gn) := by
  rw [fX3_step, if_pos hb, if_neg hl, hK, if_neg hk]
theorem st_run (u gw gd gs gn : Nat → Int32) (hb : fX3_isBeyond (u 11) = 0) (hl : ¬ fX3_isLegal (fX3_wordAt (pre3 u) gw gd gs gn (u 11)) = 0) (K : Int32 × (Nat → Int32) × (Nat → Int32)) (hK : fX3_work (pre3 u) gw gd gs gn (fX3_wordAt (pre3 u) gw gd gs gn (u 11)) = K) (hk : K.1 ≤ 0) : fX3_step u gw gd gs gn = (upd (upd (upd K.2.1 16 K.1) 12 (K.2.1 12 + inc3 K gw gs gn)) 11 (K.2.1 19), K.2.2, if K.2.1 17 ≤ 0 then gn else upd gn (K.2.1 17).toNatClampNeg (K.2.1 18)) := by
  rw [fX3_step, if_pos hb, if_neg hl, hK, if_pos hk, inc3]
  have hw : ∀ V D N : Nat → Int32, fX3_wordAt V gw D gs N (K.2.1 11) = gw ((K.2.1 11) / 4).toNatClampNeg := fun _ _ _ => rfl
  have hr : ∀ V N : Nat → Int32, fX3_reads V gw K.2.2 gs N (K.2.1 19) (K.2.1 17) = fX3_reads K.2.1 gw K.2.2 gs gn (K.2.1 19) (K.2.1 17) := fun _ _ => rfl
  rw [hw, hw, hr]
  by_cases h17 : K.2.1 17 ≤ 0
  · rw [if_pos h17, if_pos h17, if_pos h17]
    by_cases h20 : K.2.1 20 = 0
    · rw [if_pos h20, if_pos h20]
      split <;> rfl
    · rw [if_neg h20, if_neg h20]
      split <;> rfl
  · rw [if_neg h17, if_neg h17, if_neg h17]
    by_cases h20 : K.2.1 20 = 0
    · simp only [h20, if_true]
      by_cases h3 : fX3_opcode (gw ((K.2.1 11) / 4).toNatClampNeg) = 3
      · rw [if_pos h3, if_pos h3]
        by_cases h5 : fX3_reads K.2.1 gw K.2.2 gs gn (K.2.1 19) (K.2.1 17) = 0
        · rw [if_pos h5, if_pos h5]
        · rw [if_neg h5, if_neg h5]
      · rw [if_neg h3, if_neg h3]
    · simp only [h20, if_false]
      by_cases h3 : fX3_opcode (gw ((K.2.1 11) / 4).toNatClampNeg) = 3
      · rw [if_pos h3]
        split <;> rfl
      · rw [if_neg h3]
/-- what holds behind a step, on both sides -/
def AfterStep (v u gn E fcE S gdS gnS : Nat → Int32) : Prop :=
  E 11 = 1 ∧ S 14 = 1 ∧ E 12 = S 15 ∧ E 13 = S 16 ∧ E 9 = S 11 ∧ E 10 = S 12 ∧ vp_in (E 14) 32 ∧ MemB fcE gdS ∧ (∀ k, k < 9 → E k = v k) ∧ (∀ k, k < 11 → S k = u k) ∧
  ((S 16 = 0 ∧ S 13 = u 13 ∧ E 14 = S 17 ∧ (¬ S 17 = 0 → E 15 = S 18) ∧ (∀ k, k < 32 → gnS k = if ¬ S 17 = 0 ∧ (S 17).toNatClampNeg = k then S 18 else gn k) ∧ (S 12 = u 12 + 1 ∨ S 12 = u 12 + 2 ∨ S 12 = u 12 + 3)) ∨ (¬ S 16 ≤ 0 ∧ S 13 = 1 ∧ S 12 = u 12 ∧ gnS = gn))
theorem in_le {x : Int32} {n : Nat} (h : vp_in x n) : x ≤ 0 ↔ x = 0 := by
  rw [vp_in_iff] at h
  rw [Int32.le_iff_toInt_le, ← Int32.toInt_inj, Int32.toInt_zero]
  omega
theorem in_rd (w : Int32) : vp_in (if fX1_writesRd w = 0 then 0 else fX1_rd w) 32 := by
  split
  · exact ix_0
  · exact ix_rd w
theorem STEP (v fw fc fr u gw gd gs gn : Nat → Int32) (hw : ∀ k, k < 256 → fw k = gw k) (hM : MemB fc gd) (hr : ∀ k, k < 32 → fr k = gn k) (hpc : v 9 = u 11) (hmc : v 10 = u 12) (hv : vp_in (v 14) 32) :
    AfterStep v u gn (fX2_endMemory v fw fc fr).1 (fX2_endMemory v fw fc fr).2 (fX3_step u gw gd gs gn).1 (fX3_step u gw gd gs gn).2.1 (fX3_step u gw gd gs gn).2.2 := by
  by_cases hb : fX3_isBeyond (u 11) = 0
  · have eW : fX2_wordAt v fw fc fr (v 9) = fX3_wordAt (pre3 u) gw gd gs gn (u 11) := by
      rw [hpc]
      exact e_word v fw fc fr (pre3 u) gw gd gs gn hw hb
    have hbv : fX2_isBeyond (v 9) 1023 = 0 := by rw [e_bey, hpc]; exact hb
    by_cases hl : fX3_isLegal (fX3_wordAt (pre3 u) gw gd gs gn (u 11)) = 0
    · have hh : fX2_haltOf (upd (upd v 11 1) 12 (v 9)) fw fc fr (fX2_wordAt v fw fc fr (v 9)) = 3 := by
        rw [eW, fX2_haltOf, if_pos (show fX2_isBeyond ((upd (upd v 11 1) 12 (v 9)) 9) 1023 = 0 from hbv), if_pos (by rw [e_legal]; exact hl)]
      rw [em_halt v fw fc fr (by rw [hh]; decide), st_illegal u gw gd gs gn hb hl, hh]
      exact ⟨rfl, rfl, hpc, rfl, hpc, hmc, hv, hM, fun k hk => by simp only [upd]; rw [if_neg (by omega), if_neg (by omega), if_neg (by omega)], fun k hk => by simp only [upd]; rw [if_neg (by omega), if_neg (by omega), if_neg (by omega), if_neg (by omega), if_neg (by omega), if_neg (by omega)], Or.inr ⟨show ¬ (3 : Int32) ≤ 0 by decide, rfl, rfl, rfl⟩⟩
    · generalize hWe : fX3_wordAt (pre3 u) gw gd gs gn (u 11) = W at eW hl
      have hrs1 : ∀ V : Nat → Int32, fX2_rs1Of V fw fc fr W = gn (fX3_rs1 W).toNatClampNeg := fun V => by
        obtain ⟨j, hj, e⟩ : ∃ j : Nat, j < 32 ∧ fX3_rs1 W = nI j := pk_andE _ 5 (by decide)
        rw [fX2_rs1Of, e_rs1, e, nI_clamp (by omega)]
        exact hr j hj
      have hrs2 : ∀ V : Nat → Int32, fX2_rs2Of V fw fc fr W = gn (fX3_rs2 W).toNatClampNeg := fun V => by
        obtain ⟨j, hj, e⟩ : ∃ j : Nat, j < 32 ∧ fX3_rs2 W = nI j := pk_andE _ 5 (by decide)
        rw [fX2_rs2Of, e_rs2, e, nI_clamp (by omega)]
        exact hr j hj
      have hh : fX2_haltOf (upd (upd v 11 1) 12 (v 9)) fw fc fr (fX2_wordAt v fw fc fr (v 9)) = (fX3_work (pre3 u) gw gd gs gn W).1 := by
        rw [eW]
        exact wk_halt (upd (upd v 11 1) 12 (v 9)) fw fc fr (pre3 u) gw gd gs gn W (hrs1 _) (hrs2 _) hpc hbv hl
      rcases wk_k (pre3 u) gw gd gs gn W hl with hk | hk
      · -- the word does something
        rw [hk] at hh
        obtain ⟨X, fc', eE, x9, x10, x11, x12, x13, x14, ⟨Y, y9, x15⟩, xm, xo⟩ := em_run v fw fc fr hh
        rw [eW] at eE x14 x15 xm
        have h17 := wk_rd (pre3 u) gw gd gs gn W hl hk
        have hval := wk_val Y fw fc fr (pre3 u) gw gd gs gn W hM (hrs1 _) (hrs2 _) (y9.trans hpc) hl hk
        have hoth := fun (k : Nat) (h1 : k ≠ 17) (h2 : k ≠ 18) (h3 : k ≠ 19) (h4 : k ≠ 20) => wk_oth (pre3 u) gw gd gs gn W h1 h2 h3 h4
        have hmem : MemB fc' (fX3_work (pre3 u) gw gd gs gn W).2.2 := by
          rcases xm with ⟨o, rfl⟩ | ⟨o, rfl⟩
          · exact wk_mem X fw fc fr (pre3 u) gw gd gs gn W hM (hrs1 _) (hrs2 _) hl hk o
          · rw [wk_mem0 (pre3 u) gw gd gs gn W (Or.inl o)]
            exact hM
        have hj0 : fX2_jumps X fw fc' fr W = fX2_jumps X fw fc fr W := rfl
        have ht0 : fX2_targetOf X fw fc' fr W = fX2_targetOf X fw fc fr W := rfl
        have hstay := wk_stay X fw fc fr (pre3 u) gw gd gs gn W hl (hrs1 _) (hrs2 _)
        have hgo := wk_go X fw fc fr (pre3 u) gw gd gs gn W hl (hrs1 _) (hrs2 _) (x9.trans hpc)
        have hwt := e_waits X fw fc' fr (fX3_work (pre3 u) gw gd gs gn W).2.1 gw (fX3_work (pre3 u) gw gd gs gn W).2.2 gs gn hw (X 9 + 4) W
        rw [eE, st_run u gw gd gs gn hb (by rw [hWe]; exact hl) (fX3_work (pre3 u) gw gd gs gn W) (by rw [hWe]) (by rw [hk]; decide)]
        dsimp only
        have hopw : fX3_opcode (gw (((fX3_work (pre3 u) gw gd gs gn W).2.1 11) / 4).toNatClampNeg) = fX3_opcode W := by
          rw [hoth 11 (by decide) (by decide) (by decide) (by decide)]
          exact congrArg fX3_opcode hWe
        have hin17 : vp_in ((fX3_work (pre3 u) gw gd gs gn W).2.1 17) 32 := ix_work _ _ _ _ _ _
        have h12 : (fX3_work (pre3 u) gw gd gs gn W).2.1 12 = u 12 := hoth 12 (by decide) (by decide) (by decide) (by decide)
        have h15 : (fX3_work (pre3 u) gw gd gs gn W).2.1 15 = u 11 := hoth 15 (by decide) (by decide) (by decide) (by decide)
        have h14 : (fX3_work (pre3 u) gw gd gs gn W).2.1 14 = 1 := hoth 14 (by decide) (by decide) (by decide) (by decide)
        have h13 : (fX3_work (pre3 u) gw gd gs gn W).2.1 13 = u 13 := hoth 13 (by decide) (by decide) (by decide) (by decide)
        have hinc : X 10 + (if fX2_jumps X fw fc' fr W = 0 then (if fX1_waitsFor (fX2_wordAt X fw fc' fr (X 9 + 4)) W = 0 then 1 else 2) else 3) = u 12 + inc3 (fX3_work (pre3 u) gw gd gs gn W) gw gs gn ∧ (if fX2_jumps X fw fc' fr W = 0 then X 9 + 4 else fX2_targetOf X fw fc' fr W) = (fX3_work (pre3 u) gw gd gs gn W).2.1 19 := by
          rw [x10, hmc, hj0, ht0, inc3]
          by_cases hj : fX2_jumps X fw fc fr W = 0
          · obtain ⟨s20, s19⟩ := hstay hj
            have s19' : (fX3_work (pre3 u) gw gd gs gn W).2.1 19 = X 9 + 4 := by rw [s19, x9, hpc]; rfl
            rw [if_pos hj, if_pos hj, s19', if_pos (show (fX3_work (pre3 u) gw gd gs gn W).2.1 20 = 0 by rw [s20]; rfl), hopw, hwt]
            refine ⟨congrArg (u 12 + ·) ?_, rfl⟩
            by_cases o : fX3_opcode W = 3
            · have hrd : (fX3_work (pre3 u) gw gd gs gn W).2.1 17 = fX3_rd W := by
                rw [h17, if_neg (by rw [fX1_writesRd, e_op, if_pos o]; decide), e_rd]
              rw [if_pos o, if_pos o, hrd]
              rw [hrd] at hin17
              by_cases r0 : fX3_rd W = 0
              · rw [if_pos r0, if_pos rfl, if_pos ((in_le hin17).mpr r0)]
              · rw [if_neg r0, if_neg (fun q => r0 ((in_le hin17).mp q))]
            · rw [if_neg o, if_neg o, if_pos rfl]
              split <;> rfl
          · obtain ⟨s20, s19, -⟩ := hgo hj
            rw [if_neg hj, if_neg hj, if_neg (by rw [s20]; decide), s19]
            exact ⟨rfl, rfl⟩
        refine ⟨?_, h14, ?_, ?_, ?_, ?_, ?_, hmem, ?_, ?_, Or.inl ⟨hk, h13, ?_, ?_, ?_, ?_⟩⟩
        · rw [go_oth _ _ _ _ _ (by decide) (by decide)]; exact x11
        · rw [go_oth _ _ _ _ _ (by decide) (by decide), x12, hpc]; exact h15.symm
        · rw [go_oth _ _ _ _ _ (by decide) (by decide), x13]; exact hk.symm
        · rw [go_9, hinc.2]; rfl
        · rw [go_10, hinc.1]
          show _ = (fX3_work (pre3 u) gw gd gs gn W).2.1 12 + _
          rw [h12]
        · rw [go_oth _ _ _ _ _ (by decide) (by decide), x14]; exact in_rd W
        · intro k hk9
          rw [go_oth _ _ _ _ _ (by omega) (by omega)]
          exact xo k hk9
        · intro k hk11
          simp only [upd]
          rw [if_neg (by omega), if_neg (by omega), if_neg (by omega), hoth k (by omega) (by omega) (by omega) (by omega)]
          simp only [upd]
          rw [if_neg (by omega), if_neg (by omega), if_neg (by omega), if_neg (by omega)]
        · rw [go_oth _ _ _ _ _ (by decide) (by decide), x14]; exact h17.symm
        · intro hn
          rw [go_oth _ _ _ _ _ (by decide) (by decide), x15]
          exact hval hn
        · intro k hk32
          show (if (fX3_work (pre3 u) gw gd gs gn W).2.1 17 ≤ 0 then gn else upd gn ((fX3_work (pre3 u) gw gd gs gn W).2.1 17).toNatClampNeg ((fX3_work (pre3 u) gw gd gs gn W).2.1 18)) k = if ¬ (fX3_work (pre3 u) gw gd gs gn W).2.1 17 = 0 ∧ ((fX3_work (pre3 u) gw gd gs gn W).2.1 17).toNatClampNeg = k then (fX3_work (pre3 u) gw gd gs gn W).2.1 18 else gn k
          by_cases z : (fX3_work (pre3 u) gw gd gs gn W).2.1 17 ≤ 0
          · rw [if_pos z, if_neg (fun q => q.1 ((in_le hin17).mp z))]
          · rw [if_neg z]
            by_cases zk : ((fX3_work (pre3 u) gw gd gs gn W).2.1 17).toNatClampNeg = k
            · rw [if_pos ⟨fun q => z ((in_le hin17).mpr q), zk⟩, zk]
              exact pk_us
            · rw [if_neg (fun q => zk q.2)]
              exact pk_un (fun q => zk q.symm)
        · show (fX3_work (pre3 u) gw gd gs gn W).2.1 12 + inc3 (fX3_work (pre3 u) gw gd gs gn W) gw gs gn = _ ∨ (fX3_work (pre3 u) gw gd gs gn W).2.1 12 + inc3 (fX3_work (pre3 u) gw gd gs gn W) gw gs gn = _ ∨ (fX3_work (pre3 u) gw gd gs gn W).2.1 12 + inc3 (fX3_work (pre3 u) gw gd gs gn W) gw gs gn = _
          rw [h12]
          unfold inc3
          repeat' split
          all_goals first | exact Or.inl rfl | exact Or.inr (Or.inl rfl) | exact Or.inr (Or.inr rfl)
      · -- it halts
        have hne : ¬ (fX3_work (pre3 u) gw gd gs gn W).1 = 0 := fun q => hk (by rw [q]; decide)
        have hoth := fun (k : Nat) (h1 : k ≠ 17) (h2 : k ≠ 18) (h3 : k ≠ 19) (h4 : k ≠ 20) => wk_oth (pre3 u) gw gd gs gn W h1 h2 h3 h4
        rw [em_halt v fw fc fr (by rw [hh]; exact hne), st_halt u gw gd gs gn hb (by rw [hWe]; exact hl) (fX3_work (pre3 u) gw gd gs gn W) (by rw [hWe]) hk, hh, wk_mem0 (pre3 u) gw gd gs gn W (Or.inr hne)]
        refine ⟨rfl, hoth 14 (by decide) (by decide) (by decide) (by decide), ?_, rfl, ?_, ?_, hv, hM, fun k hk => ?_, fun k hk => ?_, Or.inr ⟨hk, rfl, hoth 12 (by decide) (by decide) (by decide) (by decide), rfl⟩⟩
        · exact hpc.trans (hoth 15 (by decide) (by decide) (by decide) (by decide)).symm
        · exact hpc.trans (hoth 11 (by decide) (by decide) (by decide) (by decide)).symm
        · exact hmc.trans (hoth 12 (by decide) (by decide) (by decide) (by decide)).symm
        · simp only [upd]
          rw [if_neg (by omega), if_neg (by omega), if_neg (by omega)]
        · simp only [upd]
          rw [if_neg (by omega), if_neg (by omega), hoth k (by omega) (by omega) (by omega) (by omega)]
          simp only [upd]
          rw [if_neg (by omega), if_neg (by omega), if_neg (by omega), if_neg (by omega)]
  · have hbn : ¬ fX2_isBeyond (v 9) 1023 = 0 := by rw [e_bey, hpc]; exact hb
    have hh : fX2_haltOf (upd (upd v 11 1) 12 (v 9)) fw fc fr (fX2_wordAt v fw fc fr (v 9)) = 4 := by
      rw [fX2_haltOf, if_neg (show ¬ fX2_isBeyond ((upd (upd v 11 1) 12 (v 9)) 9) 1023 = 0 from hbn)]
    rw [em_halt v fw fc fr (by rw [hh]; decide), st_beyond u gw gd gs gn hb, hh]
    exact ⟨rfl, rfl, hpc, rfl, hpc, hmc, hv, hM, fun k hk => by simp only [upd]; rw [if_neg (by omega), if_neg (by omega), if_neg (by omega)], fun k hk => by simp only [upd]; rw [if_neg (by omega), if_neg (by omega), if_neg (by omega), if_neg (by omega), if_neg (by omega), if_neg (by omega)], Or.inr ⟨show ¬ (4 : Int32) ≤ 0 by decide, rfl, rfl, rfl⟩⟩
