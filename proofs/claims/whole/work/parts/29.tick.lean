/-- the two states side by side, but for what waits to be written -/
def RelB (v fw fc fr u gw gd gs : Nat → Int32) (n m : Nat) : Prop :=
  (∀ k, k < 256 → fw k = gw k) ∧ MemB fc gd ∧ (∀ k, k < 32 → fr k = gs k) ∧ v 3 = u 6 ∧ v 4 = u 5 ∧ v 5 = u 7 ∧ v 6 = u 8 ∧ v 7 = u 9 ∧ v 8 = u 10 ∧ v 9 = u 11 ∧ v 10 = u 12 ∧ v 11 = u 14 ∧ vp_in (v 14) 32 ∧ vp_in (u 17) 32 ∧ u 5 = nI n ∧ u 6 = nI m ∧ n ≤ m ∧ m ≤ 20000
def DueOK (u : Nat → Int32) (n dd : Nat) : Prop := u 12 = nI dd ∧ dd ≤ n + 4 ∧ ((u 13 = 0 ∧ n < dd) ∨ (u 13 = 1 ∧ dd ≤ n))
def PendOK (v u : Nat → Int32) : Prop := u 14 = 0 ∨ (u 14 = 1 ∧ v 12 = u 15 ∧ v 13 = u 16 ∧ ((u 16 = 0 ∧ v 14 = u 17 ∧ (¬ u 17 = 0 → v 15 = u 18)) ∨ ¬ u 16 ≤ 0))
def NowOK (u gs gn : Nat → Int32) : Prop := ∀ k, k < 32 → gn k = if (u 14 = 1 ∧ u 16 = 0) ∧ ¬ u 17 = 0 ∧ (u 17).toNatClampNeg = k then u 18 else gs k
def fireX2 (v fw fc fr : Nat → Int32) : (Nat → Int32) × (Nat → Int32) := if v 4 = v 10 then ((fX2_endMemory v fw fc fr).1, (fX2_endMemory v fw fc fr).2) else (v, fc)
def fireX3 (u gw gd gs gn : Nat → Int32) : (Nat → Int32) × (Nat → Int32) × (Nat → Int32) := if u 13 = 0 then (if u 5 = u 12 then ((fX3_step u gw gd gs gn).1, (fX3_step u gw gd gs gn).2.1, (fX3_step u gw gd gs gn).2.2) else (u, gd, gn)) else (u, gd, gn)
abbrev inc2 (v : Nat → Int32) : Nat → Int32 := upd (upd v 4 ((v 4) + 1)) 3 ((v 3) + 1)
abbrev incM (u : Nat → Int32) : Nat → Int32 := upd (upd u 5 ((u 5) + 1)) 6 ((u 6) + 1)
theorem oc_no (v fw fc fr : Nat → Int32) (h : v 11 = 0) : fX2_oneClock v fw fc fr = ((fireX2 (inc2 v) fw fc fr).1, (fireX2 (inc2 v) fw fc fr).2, fr) := by
  rw [fX2_oneClock, if_pos h, fireX2]
  have e : ((inc2 v) 4 = (inc2 v) 10) = ((v 4) + 1 = v 10) := rfl
  by_cases q : (v 4) + 1 = v 10
  · rw [if_pos q, if_pos (show (inc2 v) 4 = (inc2 v) 10 from q)]
  · rw [if_neg q, if_neg (show ¬ (inc2 v) 4 = (inc2 v) 10 from q)]
theorem oc_yes (v fw fc fr : Nat → Int32) (h : ¬ v 11 = 0) : fX2_oneClock v fw fc fr = ((fireX2 (fX2_endWrite (inc2 v) fw fc fr).1 fw fc (fX2_endWrite (inc2 v) fw fc fr).2).1, (fireX2 (fX2_endWrite (inc2 v) fw fc fr).1 fw fc (fX2_endWrite (inc2 v) fw fc fr).2).2, (fX2_endWrite (inc2 v) fw fc fr).2) := by
  rw [fX2_oneClock, if_neg h, fireX2]
  by_cases q : (fX2_endWrite (inc2 v) fw fc fr).1 4 = (fX2_endWrite (inc2 v) fw fc fr).1 10
  · rw [if_pos q, if_pos q]
  · rw [if_neg q, if_neg q]
theorem tk_no (u gw gd gs gn : Nat → Int32) (h : u 14 = 0) : fX3_tick u gw gd gs gn = ((fireX3 (incM u) gw gd gs gn).1, (fireX3 (incM u) gw gd gs gn).2.1, gs, (fireX3 (incM u) gw gd gs gn).2.2) := by
  rw [fX3_tick, if_pos h, fireX3]
  by_cases q : u 13 = 0
  · rw [if_pos q, if_pos (show (incM u) 13 = 0 from q)]
    by_cases z : (u 5) + 1 = u 12
    · rw [if_pos z, if_pos (show (incM u) 5 = (incM u) 12 from z)]
    · rw [if_neg z, if_neg (show ¬ (incM u) 5 = (incM u) 12 from z)]
  · rw [if_neg q, if_neg (show ¬ (incM u) 13 = 0 from q)]
theorem tk_yes (u gw gd gs gn : Nat → Int32) (h : ¬ u 14 = 0) : fX3_tick u gw gd gs gn = ((fireX3 (fX3_write (incM u) gw gd gs gn).1 gw gd (fX3_write (incM u) gw gd gs gn).2 gn).1, (fireX3 (fX3_write (incM u) gw gd gs gn).1 gw gd (fX3_write (incM u) gw gd gs gn).2 gn).2.1, (fX3_write (incM u) gw gd gs gn).2, (fireX3 (fX3_write (incM u) gw gd gs gn).1 gw gd (fX3_write (incM u) gw gd gs gn).2 gn).2.2) := by
  rw [fX3_tick, if_neg h, fireX3]
  by_cases q : (fX3_write (incM u) gw gd gs gn).1 13 = 0
  · rw [if_pos q, if_pos q]
    by_cases z : (fX3_write (incM u) gw gd gs gn).1 5 = (fX3_write (incM u) gw gd gs gn).1 12
    · rw [if_pos z, if_pos z]
    · rw [if_neg z, if_neg z]
  · rw [if_neg q, if_neg q]
/-- the clocks go on by one -/
theorem rel_inc {v fw fc fr u gw gd gs : Nat → Int32} {n m : Nat} (h : RelB v fw fc fr u gw gd gs n m) (hm : m < 20000) : RelB (inc2 v) fw fc fr (incM u) gw gd gs (n + 1) (m + 1) := by
  obtain ⟨a1, a2, a3, a4, a5, a6, a7, a8, a9, a10, a11, a12, a13, a14, a15, a16, a17, a18⟩ := h
  refine ⟨a1, a2, a3, ?_, ?_, a6, a7, a8, a9, a10, a11, a12, a13, a14, ?_, ?_, by omega, by omega⟩
  · show v 3 + 1 = u 6 + 1
    rw [a4]
  · show v 4 + 1 = u 5 + 1
    rw [a5]
  · show u 5 + 1 = nI (n + 1)
    rw [a15, nI_1]
  · show u 6 + 1 = nI (m + 1)
    rw [a16, nI_1]
/-- the word that waits is written -/
theorem rel_write {v fw fc fr u gw gd gs gn : Nat → Int32} {n m : Nat} (h : RelB v fw fc fr u gw gd gs n m) (h14 : u 14 = 1) (hp : PendOK v u) (hn : NowOK u gs gn) :
    RelB (fX2_endWrite v fw fc fr).1 fw fc (fX2_endWrite v fw fc fr).2 (fX3_write u gw gd gs gn).1 gw gd (fX3_write u gw gd gs gn).2 n m ∧ (fX3_write u gw gd gs gn).1 14 = 0 ∧ (∀ k, k < 32 → gn k = (fX3_write u gw gd gs gn).2 k) ∧ (fX3_write u gw gd gs gn).1 12 = u 12 ∧ (fX3_write u gw gd gs gn).1 13 = u 13 := by
  obtain ⟨a1, a2, a3, a4, a5, a6, a7, a8, a9, a10, a11, a12, a13, a14, a15, a16, a17, a18⟩ := h
  rcases hp with hp | ⟨-, p12, p13, hp⟩
  · rw [h14] at hp
    exact absurd hp (by decide)
  rcases hp with ⟨k0, p14, p15⟩ | k0
  · by_cases r0 : u 17 = 0
    · rw [fX2_endWrite, if_pos (p13.trans k0), if_pos (p14.trans r0), fX3_write, if_pos (by rw [k0]; decide), if_pos (by rw [r0]; decide)]
      refine ⟨⟨a1, a2, a3, a4, a5, ?_, p12, a8, a9, a10, a11, rfl, a13, a14, a15, a16, a17, a18⟩, rfl, ?_, rfl, rfl⟩
      · show v 5 + 1 = u 7 + 1
        rw [a6]
      · intro k hk
        rw [hn k hk, if_neg (fun q => q.2.1 r0)]
    · rw [fX2_endWrite, if_pos (p13.trans k0), if_neg (by rw [p14]; exact r0), fX3_write, if_pos (by rw [k0]; decide), if_neg (fun q => r0 ((in_le a14).mp q))]
      refine ⟨⟨a1, a2, ?_, a4, a5, ?_, p12, a8, a9, a10, a11, rfl, a13, a14, a15, a16, a17, a18⟩, rfl, ?_, rfl, rfl⟩
      · intro k hk
        show upd fr (v 14).toNatClampNeg (v 15) k = upd gs (u 17).toNatClampNeg (u 18) k
        rw [p14, p15 r0]
        by_cases z : k = (u 17).toNatClampNeg
        · rw [z, pk_us, pk_us]
        · rw [pk_un z, pk_un z]
          exact a3 k hk
      · show v 5 + 1 = u 7 + 1
        rw [a6]
      · intro k hk
        show gn k = upd gs (u 17).toNatClampNeg (u 18) k
        rw [hn k hk]
        by_cases z : k = (u 17).toNatClampNeg
        · rw [if_pos ⟨⟨h14, k0⟩, r0, z.symm⟩, z, pk_us]
        · rw [if_neg (fun q => z q.2.2.symm), pk_un z]
  · have hne : ¬ u 16 = 0 := fun q => k0 (by rw [q]; decide)
    rw [fX2_endWrite, if_neg (by rw [p13]; exact hne), fX3_write, if_neg k0]
    refine ⟨⟨a1, a2, a3, a4, a5, a6, a7, p13, p12, a10, a11, rfl, a13, a14, a15, a16, a17, a18⟩, rfl, ?_, rfl, rfl⟩
    intro k hk
    rw [hn k hk, if_neg (fun q => hne q.1.2)]
/-- the word whose turn it is goes to the data memory -/
theorem rel_fire {v fw fc fr u gw gd gs gn : Nat → Int32} {n m dd : Nat} (h : RelB v fw fc fr u gw gd gs (n + 1) m) (h14 : u 14 = 0) (hg : ∀ k, k < 32 → gn k = gs k) (hd : u 12 = nI dd ∧ dd ≤ n + 4 ∧ ((u 13 = 0 ∧ n < dd) ∨ (u 13 = 1 ∧ dd ≤ n))) :
    ∃ dd' : Nat, RelB (fireX2 v fw fc fr).1 fw (fireX2 v fw fc fr).2 fr (fireX3 u gw gd gs gn).1 gw (fireX3 u gw gd gs gn).2.1 gs (n + 1) m ∧ DueOK (fireX3 u gw gd gs gn).1 (n + 1) dd' ∧ PendOK (fireX2 v fw fc fr).1 (fireX3 u gw gd gs gn).1 ∧ NowOK (fireX3 u gw gd gs gn).1 gs (fireX3 u gw gd gs gn).2.2 := by
  have hB := h
  obtain ⟨a1, a2, a3, a4, a5, a6, a7, a8, a9, a10, a11, a12, a13, a14, a15, a16, a17, a18⟩ := h
  obtain ⟨d1, d2, d3⟩ := hd
  have e2 : v 4 = v 10 ↔ n + 1 = dd := by rw [a5, a11, a15, d1, nI_eq (by omega) (by omega)]
  have e3 : u 5 = u 12 ↔ n + 1 = dd := by rw [a15, d1, nI_eq (by omega) (by omega)]
  have hnow : NowOK u gs gn := fun k hk => by
    rw [hg k hk, if_neg (fun q => ?_)]
    rw [h14] at q
    exact absurd q.1.1 (by decide)
  by_cases hf : n + 1 = dd
  · rcases d3 with ⟨d3, d4⟩ | ⟨d3, d4⟩
    · have hs := STEP v fw fc fr u gw gd gs gn a1 a2 (fun k hk => (a3 k hk).trans (hg k hk).symm) a10 a11 a13
      rw [fireX2, if_pos (e2.mpr hf), fireX3, if_pos d3, if_pos (e3.mpr hf)]
      dsimp only
      obtain ⟨s1, s2, s3, s4, s5, s6, s7, s8, s9, s10, s11⟩ := hs
      have i17 : vp_in ((fX3_step u gw gd gs gn).1 17) 32 := st_17 u gw gd gs gn a14
      have hR : RelB (fX2_endMemory v fw fc fr).1 fw (fX2_endMemory v fw fc fr).2 fr (fX3_step u gw gd gs gn).1 gw (fX3_step u gw gd gs gn).2.1 gs (n + 1) m := by
        refine ⟨a1, s8, a3, ?_, ?_, ?_, ?_, ?_, ?_, s5, s6, s1.trans s2.symm, s7, i17, ?_, ?_, a17, a18⟩
        · rw [s9 3 (by decide), s10 6 (by decide), a4]
        · rw [s9 4 (by decide), s10 5 (by decide), a5]
        · rw [s9 5 (by decide), s10 7 (by decide), a6]
        · rw [s9 6 (by decide), s10 8 (by decide), a7]
        · rw [s9 7 (by decide), s10 9 (by decide), a8]
        · rw [s9 8 (by decide), s10 10 (by decide), a9]
        · rw [s10 5 (by decide), a15]
        · rw [s10 6 (by decide), a16]
      rcases s11 with ⟨t1, t2, t3, t4, t5, t6⟩ | ⟨t1, t2, t3, t4⟩
      · have hdd : ∃ q : Nat, 1 ≤ q ∧ q ≤ 3 ∧ (fX3_step u gw gd gs gn).1 12 = nI (dd + q) := by
          rcases t6 with t | t | t
          · exact ⟨1, by omega, by omega, by rw [t, d1, ← nI_add]; rfl⟩
          · exact ⟨2, by omega, by omega, by rw [t, d1, ← nI_add]; rfl⟩
          · exact ⟨3, by omega, by omega, by rw [t, d1, ← nI_add]; rfl⟩
        obtain ⟨q, q1, q2, q3⟩ := hdd
        refine ⟨dd + q, hR, ⟨q3, by omega, Or.inl ⟨by rw [t2]; exact d3, by omega⟩⟩, Or.inr ⟨s2, s3, s4, Or.inl ⟨t1, t3, t4⟩⟩, fun k hk => ?_⟩
        rw [t5 k hk]
        by_cases z : ¬ (fX3_step u gw gd gs gn).1 17 = 0 ∧ ((fX3_step u gw gd gs gn).1 17).toNatClampNeg = k
        · rw [if_pos z, if_pos ⟨⟨s2, t1⟩, z⟩]
        · rw [if_neg z, if_neg (fun y => z y.2), hg k hk]
      · refine ⟨dd, hR, ⟨by rw [t3, d1], by omega, Or.inr ⟨t2, by omega⟩⟩, Or.inr ⟨s2, s3, s4, Or.inr t1⟩, fun k hk => ?_⟩
        rw [t4, hg k hk, if_neg (fun y => t1 (by rw [y.1.2]; decide))]
    · exact absurd hf (by omega)
  · rw [fireX2, if_neg (fun q => hf (e2.mp q))]
    have e4 : fireX3 u gw gd gs gn = (u, gd, gn) := by
      rw [fireX3, if_neg (fun q => hf (e3.mp q))]
      split <;> rfl
    rw [e4]
    refine ⟨dd, hB, ⟨d1, by omega, ?_⟩, Or.inl h14, hnow⟩
    rcases d3 with ⟨d3, d4⟩ | ⟨d3, d4⟩
    · exact Or.inl ⟨d3, by omega⟩
    · exact Or.inr ⟨d3, by omega⟩
/-- ONE CLOCK, on both sides -/
theorem TICK {v fw fc fr u gw gd gs gn : Nat → Int32} {n m dd : Nat} (h : RelB v fw fc fr u gw gd gs n m) (hd : DueOK u n dd) (hp : PendOK v u) (hn : NowOK u gs gn) (hm : m < 20000) :
    ∃ dd' : Nat, RelB (fX2_oneClock v fw fc fr).1 fw (fX2_oneClock v fw fc fr).2.1 (fX2_oneClock v fw fc fr).2.2 (fX3_tick u gw gd gs gn).1 gw (fX3_tick u gw gd gs gn).2.1 (fX3_tick u gw gd gs gn).2.2.1 (n + 1) (m + 1) ∧ DueOK (fX3_tick u gw gd gs gn).1 (n + 1) dd' ∧ PendOK (fX2_oneClock v fw fc fr).1 (fX3_tick u gw gd gs gn).1 ∧ NowOK (fX3_tick u gw gd gs gn).1 (fX3_tick u gw gd gs gn).2.2.1 (fX3_tick u gw gd gs gn).2.2.2 := by
  have h1 := rel_inc h hm
  have a12 : v 11 = u 14 := h.2.2.2.2.2.2.2.2.2.2.2.1
  have hd1 : (incM u) 12 = nI dd ∧ dd ≤ n + 4 ∧ (((incM u) 13 = 0 ∧ n < dd) ∨ ((incM u) 13 = 1 ∧ dd ≤ n)) := hd
  by_cases h14 : u 14 = 0
  · rw [oc_no v fw fc fr (a12.trans h14), tk_no u gw gd gs gn h14]
    refine rel_fire h1 h14 (fun k hk => ?_) hd1
    rw [hn k hk, if_neg (fun q => ?_)]
    rw [h14] at q
    exact absurd q.1.1 (by decide)
  · have h141 : u 14 = 1 := by
      rcases hp with q | q
      · exact absurd q h14
      · exact q.1
    rw [oc_yes v fw fc fr (by rw [a12]; exact h14), tk_yes u gw gd gs gn h14]
    obtain ⟨w1, w2, w3, w4, w5⟩ := rel_write (gn := gn) h1 h141 hp hn
    refine rel_fire (dd := dd) w1 w2 w3 ?_
    rw [w4, w5]
    exact hd1
