abbrev T4 : Type := (Nat → Int32) × (Nat → Int32) × (Nat → Int32) × (Nat → Int32)
abbrev mdT (cI cB : ClassId) (h a b c d : Nat) (fw : Nat → Int32) (t : T4) : va_W := mdW cI cB h a b c d t.1 fw t.2.1 t.2.2.1 t.2.2.2
def iterX3 (fw : Nat → Int32) : Nat → T4 → T4
  | 0, t => t
  | n + 1, t => iterX3 fw n (fX3_tick t.1 fw t.2.1 t.2.2.1 t.2.2.2)
theorem wr_17 (v fw fd fs fn : Nat → Int32) : (fX3_write v fw fd fs fn).1 17 = v 17 := by
  unfold fX3_write
  repeat' split
  all_goals rfl
theorem st_17 (v fw fd fs fn : Nat → Int32) (hwf : vp_in (v 17) 32) : vp_in ((fX3_step v fw fd fs fn).1 17) 32 := by
  unfold fX3_step
  by_cases h1 : fX3_isBeyond (v 11) = 0
  · rw [if_pos h1]
    split
    · exact hwf
    · repeat' split
      all_goals exact ix_work _ _ _ _ _ _
  · rw [if_neg h1]
    exact hwf
theorem tk_17 (v fw fd fs fn : Nat → Int32) (hwf : vp_in (v 17) 32) : vp_in ((fX3_tick v fw fd fs fn).1 17) 32 := by
  unfold fX3_tick
  by_cases h14 : v 14 = 0
  · rw [if_pos h14]
    by_cases h13 : v 13 = 0
    · rw [if_pos h13]
      split
      · exact st_17 _ _ _ _ _ hwf
      · exact hwf
    · rw [if_neg h13]
      exact hwf
  · rw [if_neg h14]
    split
    · split
      · refine st_17 _ _ _ _ _ ?_
        rw [wr_17]
        exact hwf
      · show vp_in ((fX3_write _ _ _ _ _).1 17) 32
        rw [wr_17]
        exact hwf
    · show vp_in ((fX3_write _ _ _ _ _).1 17) 32
      rw [wr_17]
      exact hwf
set_option maxHeartbeats 4000000 in
set_option maxRecDepth 100000 in
theorem loopX3 {p : Program} {l : Launch} {e : Env} {s : State} {m : MethodId} {args : Array Value} {below : List Frame} {meth : Method} {c9 : Code} {Q : State → Prop} {A : Nat → Prop} (hx : p.tables.exec = Jvm.exec) (hb : c9.code = cX3_clock) (hml : c9.maxLocals = 3) (hown : s.vm.findClass RX3 = some m.cls) (hts : ∀ w ∈ wsX3_clock, w.before args s = true) (hA : ∀ q : Nat, s.heap.size ≤ q → A q) (dC : Nat → ClassId) (dI : Nat → Nat → Nat) (cI cB : ClassId) (h a b c d : Nat) (fw : Nat → Int32) (hK : va_K (dC, dI) vwCl (tyIB cI cB) s) (N : Nat) (hN : N < 2 ^ 31) : ∀ (k i : Nat) (t : T4) (H : Heap) (locs : List Loc) (ls : Array Slot), i + k = N → vp_in (t.1 17) 32 → va_P (dC, dI) vwCl (mdT cI cB h a b c d fw t) H → va_D A (mdT cI cB h a b c d fw t) → va_S A s.heap H locs → lv_has ls 3 [(0, .ref h), (1, .int (nI N)), (2, .int (nI i))] →
    (∀ (H : Heap) (locs : List Loc) (ls : Array Slot), va_P (dC, dI) vwCl (mdT cI cB h a b c d fw (iterX3 fw k t)) H → va_D A (mdT cI cB h a b c d fw (iterX3 fw k t)) → va_S A s.heap H locs → lv_has ls 3 [(0, .ref h)] → W p l e ({ frames := 4, cells := 0, slots := 0, locals := 94 } : Room) s m args below meth c9 H locs 0 0 Q (F0 m 145 ls [])) → W p l e ({ frames := 4, cells := 0, slots := 0, locals := 94 } : Room) s m args below meth c9 H locs 0 0 Q (F0 m 81 ls []) := by
  intro k
  induction k with
  | zero =>
    intro i t H locs ls hi hwf hP hD hS hl kk
    refine lv_iload_n hx hb dX3_clock_81 rfl (lv_at hl 2 rfl) ?_
    refine lv_iload_n hx hb dX3_clock_82 rfl (lv_at hl 1 rfl) ?_
    refine lv_icmp_ge (tgt := 145) hx hb dX3_clock_83 (by decide) (fun _ => ?_) (fun q => ?_)
    · exact kk H locs ls hP hD hS (lv_sub hl [0] rfl)
    · exact absurd (nI_le (by omega) (by omega)) q
  | succ k ih =>
    intro i t H locs ls hi hwf hP hD hS hl kk
    refine lv_iload_n hx hb dX3_clock_81 rfl (lv_at hl 2 rfl) ?_
    refine lv_iload_n hx hb dX3_clock_82 rfl (lv_at hl 1 rfl) ?_
    refine lv_icmp_ge (tgt := 145) hx hb dX3_clock_83 (by decide) (fun q => ?_) (fun _ => ?_)
    · exact absurd q (nI_ge (by omega) (by omega))
    · refine tickX3 hx hb hml hown hts hA dC dI cI cB h a b c d t.1 fw t.2.1 t.2.2.1 t.2.2.2 hK hP hD hS hwf hl (fun H locs hP hD hS => ?_)
      refine lv_iinc (v := nI (i + 1)) (lv' := [(2, .int (nI (i + 1))), (0, .ref h), (1, .int (nI N))]) hx hb dX3_clock_139 hl (k := 2) rfl (nI_1 i) (by decide) rfl (fun ls hl => ?_)
      refine lv_goto (tgt := 81) hx hb dX3_clock_142 (by decide) ?_
      exact ih (i + 1) (fX3_tick t.1 fw t.2.1 t.2.2.1 t.2.2.2) H locs ls (by omega) (tk_17 _ _ _ _ _ hwf) hP hD hS (lv_sub hl [1, 2, 0] rfl) kk
def cpX3 (fs fn : Nat → Int32) (i : Nat) : Nat → Int32 := fun j => if j < i then fs j else fn j
theorem cp_0 (fs fn : Nat → Int32) : cpX3 fs fn 0 = fn := by
  funext j
  simp [cpX3]
theorem cp_s (fs fn : Nat → Int32) (i : Nat) : upd (cpX3 fs fn i) i (fs i) = cpX3 fs fn (i + 1) := by
  funext j
  simp only [upd, cpX3]
  by_cases h : j = i
  · rw [if_pos h, if_pos (by omega), h]
  · rw [if_neg h]
    by_cases h2 : j < i
    · rw [if_pos h2, if_pos (by omega)]
    · rw [if_neg h2, if_neg (by omega)]
set_option maxHeartbeats 4000000 in
set_option maxRecDepth 100000 in
theorem copyX3 {p : Program} {l : Launch} {e : Env} {s : State} {m : MethodId} {args : Array Value} {below : List Frame} {meth : Method} {c9 : Code} {Q : State → Prop} {A : Nat → Prop} (hx : p.tables.exec = Jvm.exec) (hb : c9.code = cX3_clock) (hml : c9.maxLocals = 3) (hown : s.vm.findClass RX3 = some m.cls) (hts : ∀ w ∈ wsX3_clock, w.before args s = true) (hA : ∀ q : Nat, s.heap.size ≤ q → A q) (dC : Nat → ClassId) (dI : Nat → Nat → Nat) (cI cB : ClassId) (h a b c d : Nat) (v fw fd fs fn : Nat → Int32) (hK : va_K (dC, dI) vwCl (tyIB cI cB) s) {xn : Int32} : ∀ (k i : Nat) (H : Heap) (locs : List Loc) (ls : Array Slot), i + k = 32 → va_P (dC, dI) vwCl (mdW cI cB h a b c d v fw fd fs (cpX3 fs fn i)) H → va_D A (mdW cI cB h a b c d v fw fd fs (cpX3 fs fn i)) → va_S A s.heap H locs → lv_has ls 3 [(0, .ref h), (1, .int xn), (2, .int (nI i))] →
    (∀ (H : Heap) (locs : List Loc) (ls : Array Slot), va_P (dC, dI) vwCl (mdW cI cB h a b c d v fw fd fs (cpX3 fs fn 32)) H → va_D A (mdW cI cB h a b c d v fw fd fs (cpX3 fs fn 32)) → va_S A s.heap H locs → lv_has ls 3 [(0, .ref h), (1, .int xn)] → W p l e ({ frames := 4, cells := 0, slots := 0, locals := 94 } : Room) s m args below meth c9 H locs 0 0 Q (F0 m 79 ls [])) → W p l e ({ frames := 4, cells := 0, slots := 0, locals := 94 } : Room) s m args below meth c9 H locs 0 0 Q (F0 m 55 ls []) := by
  have hin : ∀ w ∈ wsX30, w ∈ wsX3_clock := by decide +kernel
  have hf_17 := hts (.fieldLink RX3 17 "PipeWorksModel" "seen" "[I") (by decide +kernel)
  have hf_20 := hts (.fieldLink RX3 20 "PipeWorksModel" "now" "[I") (by decide +kernel)
  intro k
  induction k with
  | zero =>
    intro i H locs ls hi hP hD hS hl kk
    refine lv_iload_n hx hb dX3_clock_55 rfl (lv_at hl 2 rfl) ?_
    refine lv_bipush (v := 32) hx hb dX3_clock_56 (by decide) ?_
    refine lv_icmp_ge (tgt := 79) hx hb dX3_clock_58 (by decide) (fun _ => ?_) (fun q => ?_)
    · have hi : i = 32 := by omega
      subst hi
      exact kk H locs ls hP hD hS (lv_sub hl [0, 1] rfl)
    · exact absurd (nI_le (a := 32) (by omega) (by omega)) q
  | succ k ih =>
    intro i H locs ls hi hP hD hS hl kk
    refine lv_iload_n hx hb dX3_clock_55 rfl (lv_at hl 2 rfl) ?_
    refine lv_bipush (v := 32) hx hb dX3_clock_56 (by decide) ?_
    refine lv_icmp_ge (tgt := 79) hx hb dX3_clock_58 (by decide) (fun q => ?_) (fun _ => ?_)
    · exact absurd q (nI_ge (b := 32) (by omega) (by omega))
    · have hii : vp_in (nI i) 32 := vp_in_nI (by omega) (by decide)
      refine lv_aload_n hx hb dX3_clock_61 rfl (lv_at hl 0 rfl) ?_
      refine va_get (D := (dC, dI)) (ci := 1) (v := .ref d) (C := RX3) (T := TX3) (N := 21) hx hb hts hin hown hK hP 0 rfl rfl 4 (by decide) hf_20 (fun _ h9 => h9) rfl dX3_clock_62 ?_
      refine lv_iload_n hx hb dX3_clock_65 rfl (lv_at hl 2 rfl) ?_
      refine lv_aload_n hx hb dX3_clock_66 rfl (lv_at hl 0 rfl) ?_
      refine va_get (D := (dC, dI)) (ci := 1) (v := .ref c) (C := RX3) (T := TX3) (N := 21) hx hb hts hin hown hK hP 0 rfl rfl 3 (by decide) hf_17 (fun _ h9 => h9) rfl dX3_clock_67 ?_
      refine lv_iload_n hx hb dX3_clock_70 rfl (lv_at hl 2 rfl) ?_
      refine va_iald hx hb hK hP 3 0 rfl rfl hii dX3_clock_71 ?_
      refine va_iast hx hb hK hP hD hS 4 0 rfl rfl hii dX3_clock_72 (fun H locs hP hD hS => ?_)
      have hcl : (nI i).toNatClampNeg = i := nI_clamp (by omega)
      rw [hcl, cp_s] at hP hD
      refine lv_iinc (v := nI (i + 1)) (lv' := [(2, .int (nI (i + 1))), (0, .ref h), (1, .int xn)]) hx hb dX3_clock_73 hl (k := 2) rfl (nI_1 i) (by decide) rfl (fun ls hl => ?_)
      refine lv_goto (tgt := 55) hx hb dX3_clock_76 (by decide) ?_
      exact ih (i + 1) H locs ls (by omega) hP hD hS (lv_sub hl [1, 2, 0] rfl) kk
theorem n1_pos {n : Int32} (h : ¬ n < 1) : ¬ n < 0 := by
  rw [Int32.lt_iff_toInt_lt, Int32.toInt_zero]
  rw [Int32.lt_iff_toInt_lt, show (1 : Int32).toInt = 1 from by decide] at h
  omega
def fX3_clock (v fw fd fs fn : Nat → Int32) (n : Int32) : Int32 × (Nat → Int32) × (Nat → Int32) × (Nat → Int32) × (Nat → Int32) := (if n < 1 then ((0 : Int32), upd v 0 1, fd, fs, fn) else (if n ≤ 200 then (if ((v 6) + n) ≤ 20000 then (if (v 5) = 0 then ((iterX3 fw n.toNatClampNeg ((upd v 0 0, fd, fs, (cpX3 fs fn 32)) : T4)).1 7, (iterX3 fw n.toNatClampNeg ((upd v 0 0, fd, fs, (cpX3 fs fn 32)) : T4))) else ((iterX3 fw n.toNatClampNeg ((upd v 0 0, fd, fs, fn) : T4)).1 7, (iterX3 fw n.toNatClampNeg ((upd v 0 0, fd, fs, fn) : T4)))) else ((0 : Int32), upd v 0 2, fd, fs, fn)) else ((0 : Int32), upd v 0 1, fd, fs, fn)))
set_option maxHeartbeats 4000000 in
set_option maxRecDepth 100000 in
theorem kX3_clock (l : Launch) (dC : Nat → ClassId) (dI : Nat → Nat → Nat) (cI cB : ClassId) (h a b c d : Nat) (sz : Nat) (v fw fd fs fn : Nat → Int32) (n : Int32) (hwf : vp_in (v 17) 32) : Met l yX3_clock wsX3_clock ({ frames := 4, cells := 0, slots := 0, locals := 94 }) (wr_Pc [.ref h, .int n] (dC, dI) vwCl (tyIB cI cB) (mdW cI cB h a b c d v fw fd fs fn) sz) (wr_Qi (fX3_clock v fw fd fs fn n).1 (mdW cI cB h a b c d ((fX3_clock v fw fd fs fn n).2.1) fw ((fX3_clock v fw fd fs fn n).2.2.1) ((fX3_clock v fw fd fs fn n).2.2.2.1) ((fX3_clock v fw fd fs fn n).2.2.2.2)) (dC, dI) vwCl (mdW cI cB h a b c d v fw fd fs fn) sz) 0 0 (va_A (mdW cI cB h a b c d v fw fd fs fn) sz) := by
  refine Met.ofW (cc := cX3_clock) (maxL := 3) (ret := (some .int)) (by decide) rfl ?_
  intro p e s m args below meth c9 s₁ B hml hv
  obtain ⟨rfl, hsz, hP, hK, hD0⟩ := hv
  have hx := B.exec
  have hb := B.bytes
  have hr := B.returns
  have hts := atoms_spec (ws := wsX3_clock) B.pre
  have hown : s.vm.findClass RX3 = some m.cls := findClass_of_methodNamed B.named
  have hlocks := B.notSynchronized
  subst hsz
  have hD := hD0.self (sz := s.heap.size)
  generalize hAe : va_A (mdW cI cB h a b c d v fw fd fs fn) s.heap.size = A at hD ⊢
  have hA : ∀ q : Nat, s.heap.size ≤ q → A q := fun q h => by rw [← hAe]; exact Or.inr h
  have hS : va_S A s.heap s.heap [] := va_S.rf
  have hin : ∀ w ∈ wsX30, w ∈ wsX3_clock := by decide +kernel
  have hf_30 := hts (.fieldLink RX3 30 "PipeWorksModel" "thrown" "I") (by decide +kernel)
  have hf_33 := hts (.fieldLink RX3 33 "PipeWorksModel" "clocks" "I") (by decide +kernel)
  have hf_40 := hts (.fieldLink RX3 40 "PipeWorksModel" "done" "I") (by decide +kernel)
  have hf_153 := hts (.fieldLink RX3 153 "PipeWorksModel" "all" "I") (by decide +kernel)
  have hl := lv_entry ([.ref h, .int n]) (n := 3) (Nat.le_of_ble_eq_true rfl)
  rw [lg_entry_eq]
  generalize (lg_sl ([.ref h, .int n]) ++ List.replicate (3 - (lg_sl ([.ref h, .int n])).length) Slot.unset).toArray = ls at hl ⊢
  have hl : lv_has ls 3 [(0, .ref h), (1, .int n)] := hl
  refine lv_aload_n hx hb dX3_clock_0 rfl (lv_at hl 0 rfl) ?_
  refine lv_iload_n hx hb dX3_clock_1 rfl (lv_at hl 1 rfl) ?_
  refine lv_iconst (v := 1) hx hb dX3_clock_2 (by decide) ?_
  refine lv_icmp_lt (tgt := 13) hx hb dX3_clock_3 (by decide) (fun c_3 => ?_) (fun c_3 => ?_)
  ·
    refine lv_iconst (v := 1) hx hb dX3_clock_13 (by decide) ?_
    refine lv_goto (tgt := 34) hx hb dX3_clock_14 (by decide) ?_
    refine va_put (D := (dC, dI)) (ci := 1) (v := .int 1) (ty := .int) (C := RX3) (T := TX3) (N := 21) hx hb hts hin tyX3 tyX3_ok nmX3 hown hK hP hD hS 0 rfl rfl 0 (by decide) hf_30 (fun _ h9 => h9) rfl (by decide +kernel) rfl rfl (Nat.le_of_ble_eq_true rfl) dX3_clock_34 (fun H locs hP hD hS => ?_)
    have hP : va_P (dC, dI) vwCl (mdW cI cB h a b c d (upd v 0 1) fw fd fs fn) H := hP
    have hD : va_D A (mdW cI cB h a b c d (upd v 0 1) fw fd fs fn) := hD
    refine lv_aload_n hx hb dX3_clock_37 rfl (lv_at hl 0 rfl) ?_
    refine va_get (D := (dC, dI)) (ci := 1) (v := .int 1) (C := RX3) (T := TX3) (N := 21) hx hb hts hin hown hK hP 0 rfl rfl 0 (by decide) hf_30 (fun _ h9 => h9) rfl dX3_clock_38 ?_
    refine lv_if_le (tgt := 46) hx hb dX3_clock_41 (by decide) (fun c_41 => ?_) (fun c_41 => ?_)
    · exact absurd c_41 (by decide)
    refine lv_iconst (v := 0) hx hb dX3_clock_44 (by decide) ?_
    have e9 : fX3_clock v fw fd fs fn n = ((0 : Int32), upd v 0 1, fd, fs, fn) := by rw [fX3_clock, if_pos c_3]
    exact W.iret (v := 0) hx hb hr (fun t ht hW => wr_endi (hAe ▸ hS) ht (by rw [e9]) (by rw [e9]; exact hP) (by rw [e9, hAe]; exact hD)) hS.2.2 dX3_clock_45
  ·
    refine lv_iload_n hx hb dX3_clock_6 rfl (lv_at hl 1 rfl) ?_
    refine lv_sipush (v := 200) hx hb dX3_clock_7 (by decide) ?_
    refine lv_icmp_le (tgt := 17) hx hb dX3_clock_10 (by decide) (fun c_10 => ?_) (fun c_10 => ?_)
    ·
      refine lv_aload_n hx hb dX3_clock_17 rfl (lv_at hl 0 rfl) ?_
      refine va_get (D := (dC, dI)) (ci := 1) (v := .int (v 6)) (C := RX3) (T := TX3) (N := 21) hx hb hts hin hown hK hP 0 rfl rfl 6 (by decide) hf_153 (fun _ h9 => h9) rfl dX3_clock_18 ?_
      refine lv_iload_n hx hb dX3_clock_21 rfl (lv_at hl 1 rfl) ?_
      refine lv_iadd hx hb dX3_clock_22 ?_
      refine lv_sipush (v := 20000) hx hb dX3_clock_23 (by decide) ?_
      refine lv_icmp_le (tgt := 33) hx hb dX3_clock_26 (by decide) (fun c_26 => ?_) (fun c_26 => ?_)
      ·
        refine lv_iconst (v := 0) hx hb dX3_clock_33 (by decide) ?_
        refine va_put (D := (dC, dI)) (ci := 1) (v := .int 0) (ty := .int) (C := RX3) (T := TX3) (N := 21) hx hb hts hin tyX3 tyX3_ok nmX3 hown hK hP hD hS 0 rfl rfl 0 (by decide) hf_30 (fun _ h9 => h9) rfl (by decide +kernel) rfl rfl (Nat.le_of_ble_eq_true rfl) dX3_clock_34 (fun H locs hP hD hS => ?_)
        have hP : va_P (dC, dI) vwCl (mdW cI cB h a b c d (upd v 0 0) fw fd fs fn) H := hP
        have hD : va_D A (mdW cI cB h a b c d (upd v 0 0) fw fd fs fn) := hD
        refine lv_aload_n hx hb dX3_clock_37 rfl (lv_at hl 0 rfl) ?_
        refine va_get (D := (dC, dI)) (ci := 1) (v := .int 0) (C := RX3) (T := TX3) (N := 21) hx hb hts hin hown hK hP 0 rfl rfl 0 (by decide) hf_30 (fun _ h9 => h9) rfl dX3_clock_38 ?_
        refine lv_if_le (tgt := 46) hx hb dX3_clock_41 (by decide) (fun c_41 => ?_) (fun c_41 => ?_)
        rotate_left
        · exact absurd c_41 (by decide)
        refine lv_aload_n hx hb dX3_clock_46 rfl (lv_at hl 0 rfl) ?_
        refine va_get (D := (dC, dI)) (ci := 1) (v := .int (v 5)) (C := RX3) (T := TX3) (N := 21) hx hb hts hin hown hK hP 0 rfl rfl 5 (by decide) hf_33 (fun _ h9 => h9) rfl dX3_clock_47 ?_
        refine lv_if_ne (tgt := 79) hx hb dX3_clock_50 (by decide) (fun c_50 => ?_) (fun c_50 => ?_)
        ·
          refine lv_iconst (v := 0) hx hb dX3_clock_79 (by decide) ?_
          refine lv_istore_n (lv' := [(2, .int 0), (0, .ref h), (1, .int n)]) hx hb dX3_clock_80 rfl hl (by decide) rfl (fun ls hl => ?_)
          obtain ⟨N, hN, hNe⟩ := nI_of (n1_pos c_3)
          rw [hNe] at hl
          refine loopX3 hx hb hml hown hts hA dC dI cI cB h a b c d fw hK N hN N 0 ((upd v 0 0, fd, fs, fn) : T4) H locs ls (by omega) hwf hP hD hS (lv_sub hl [1, 2, 0] rfl) (fun H locs ls hP hD hS hl => ?_)
          refine lv_aload_n hx hb dX3_clock_145 rfl (lv_at hl 0 rfl) ?_
          refine va_get (D := (dC, dI)) (ci := 1) (v := .int ((iterX3 fw N ((upd v 0 0, fd, fs, fn) : T4)).1 7)) (C := RX3) (T := TX3) (N := 21) hx hb hts hin hown hK hP 0 rfl rfl 7 (by decide) hf_40 (fun _ h9 => h9) rfl dX3_clock_146 ?_
          have e9 : fX3_clock v fw fd fs fn n = ((iterX3 fw N ((upd v 0 0, fd, fs, fn) : T4)).1 7, iterX3 fw N ((upd v 0 0, fd, fs, fn) : T4)) := by
            have hc9 : n.toNatClampNeg = N := by rw [hNe]; exact nI_clamp hN
            rw [fX3_clock, if_neg c_3, if_pos c_10, if_pos c_26, if_neg c_50, hc9]
          exact W.iret (v := (iterX3 fw N ((upd v 0 0, fd, fs, fn) : T4)).1 7) hx hb hr (fun t ht hW => wr_endi (hAe ▸ hS) ht (by rw [e9]) (by rw [e9]; exact hP) (by rw [e9, hAe]; exact hD)) hS.2.2 dX3_clock_149
        ·
          refine lv_iconst (v := 0) hx hb dX3_clock_53 (by decide) ?_
          refine lv_istore_n (lv' := [(2, .int 0), (0, .ref h), (1, .int n)]) hx hb dX3_clock_54 rfl hl (by decide) rfl (fun ls hl => ?_)
          have hP : va_P (dC, dI) vwCl (mdW cI cB h a b c d (upd v 0 0) fw fd fs (cpX3 fs fn 0)) H := by rw [cp_0]; exact hP
          have hD : va_D A (mdW cI cB h a b c d (upd v 0 0) fw fd fs (cpX3 fs fn 0)) := by rw [cp_0]; exact hD
          refine copyX3 hx hb hml hown hts hA dC dI cI cB h a b c d (upd v 0 0) fw fd fs fn hK 32 0 H locs ls rfl hP hD hS (lv_sub hl [1, 2, 0] rfl) (fun H locs ls hP hD hS hl => ?_)
          refine lv_iconst (v := 0) hx hb dX3_clock_79 (by decide) ?_
          refine lv_istore_n (lv' := [(2, .int 0), (0, .ref h), (1, .int n)]) hx hb dX3_clock_80 rfl hl (by decide) rfl (fun ls hl => ?_)
          obtain ⟨N, hN, hNe⟩ := nI_of (n1_pos c_3)
          rw [hNe] at hl
          refine loopX3 hx hb hml hown hts hA dC dI cI cB h a b c d fw hK N hN N 0 ((upd v 0 0, fd, fs, (cpX3 fs fn 32)) : T4) H locs ls (by omega) hwf hP hD hS (lv_sub hl [1, 2, 0] rfl) (fun H locs ls hP hD hS hl => ?_)
          refine lv_aload_n hx hb dX3_clock_145 rfl (lv_at hl 0 rfl) ?_
          refine va_get (D := (dC, dI)) (ci := 1) (v := .int ((iterX3 fw N ((upd v 0 0, fd, fs, (cpX3 fs fn 32)) : T4)).1 7)) (C := RX3) (T := TX3) (N := 21) hx hb hts hin hown hK hP 0 rfl rfl 7 (by decide) hf_40 (fun _ h9 => h9) rfl dX3_clock_146 ?_
          have e9 : fX3_clock v fw fd fs fn n = ((iterX3 fw N ((upd v 0 0, fd, fs, (cpX3 fs fn 32)) : T4)).1 7, iterX3 fw N ((upd v 0 0, fd, fs, (cpX3 fs fn 32)) : T4)) := by
            have hc9 : n.toNatClampNeg = N := by rw [hNe]; exact nI_clamp hN
            rw [fX3_clock, if_neg c_3, if_pos c_10, if_pos c_26, if_pos c_50, hc9]
          exact W.iret (v := (iterX3 fw N ((upd v 0 0, fd, fs, (cpX3 fs fn 32)) : T4)).1 7) hx hb hr (fun t ht hW => wr_endi (hAe ▸ hS) ht (by rw [e9]) (by rw [e9]; exact hP) (by rw [e9, hAe]; exact hD)) hS.2.2 dX3_clock_149
      ·
        refine lv_iconst (v := 2) hx hb dX3_clock_29 (by decide) ?_
        refine lv_goto (tgt := 34) hx hb dX3_clock_30 (by decide) ?_
        refine va_put (D := (dC, dI)) (ci := 1) (v := .int 2) (ty := .int) (C := RX3) (T := TX3) (N := 21) hx hb hts hin tyX3 tyX3_ok nmX3 hown hK hP hD hS 0 rfl rfl 0 (by decide) hf_30 (fun _ h9 => h9) rfl (by decide +kernel) rfl rfl (Nat.le_of_ble_eq_true rfl) dX3_clock_34 (fun H locs hP hD hS => ?_)
        have hP : va_P (dC, dI) vwCl (mdW cI cB h a b c d (upd v 0 2) fw fd fs fn) H := hP
        have hD : va_D A (mdW cI cB h a b c d (upd v 0 2) fw fd fs fn) := hD
        refine lv_aload_n hx hb dX3_clock_37 rfl (lv_at hl 0 rfl) ?_
        refine va_get (D := (dC, dI)) (ci := 1) (v := .int 2) (C := RX3) (T := TX3) (N := 21) hx hb hts hin hown hK hP 0 rfl rfl 0 (by decide) hf_30 (fun _ h9 => h9) rfl dX3_clock_38 ?_
        refine lv_if_le (tgt := 46) hx hb dX3_clock_41 (by decide) (fun c_41 => ?_) (fun c_41 => ?_)
        · exact absurd c_41 (by decide)
        refine lv_iconst (v := 0) hx hb dX3_clock_44 (by decide) ?_
        have e9 : fX3_clock v fw fd fs fn n = ((0 : Int32), upd v 0 2, fd, fs, fn) := by rw [fX3_clock, if_neg c_3, if_pos c_10, if_neg c_26]
        exact W.iret (v := 0) hx hb hr (fun t ht hW => wr_endi (hAe ▸ hS) ht (by rw [e9]) (by rw [e9]; exact hP) (by rw [e9, hAe]; exact hD)) hS.2.2 dX3_clock_45
    ·
      refine lv_iconst (v := 1) hx hb dX3_clock_13 (by decide) ?_
      refine lv_goto (tgt := 34) hx hb dX3_clock_14 (by decide) ?_
      refine va_put (D := (dC, dI)) (ci := 1) (v := .int 1) (ty := .int) (C := RX3) (T := TX3) (N := 21) hx hb hts hin tyX3 tyX3_ok nmX3 hown hK hP hD hS 0 rfl rfl 0 (by decide) hf_30 (fun _ h9 => h9) rfl (by decide +kernel) rfl rfl (Nat.le_of_ble_eq_true rfl) dX3_clock_34 (fun H locs hP hD hS => ?_)
      have hP : va_P (dC, dI) vwCl (mdW cI cB h a b c d (upd v 0 1) fw fd fs fn) H := hP
      have hD : va_D A (mdW cI cB h a b c d (upd v 0 1) fw fd fs fn) := hD
      refine lv_aload_n hx hb dX3_clock_37 rfl (lv_at hl 0 rfl) ?_
      refine va_get (D := (dC, dI)) (ci := 1) (v := .int 1) (C := RX3) (T := TX3) (N := 21) hx hb hts hin hown hK hP 0 rfl rfl 0 (by decide) hf_30 (fun _ h9 => h9) rfl dX3_clock_38 ?_
      refine lv_if_le (tgt := 46) hx hb dX3_clock_41 (by decide) (fun c_41 => ?_) (fun c_41 => ?_)
      · exact absurd c_41 (by decide)
      refine lv_iconst (v := 0) hx hb dX3_clock_44 (by decide) ?_
      have e9 : fX3_clock v fw fd fs fn n = ((0 : Int32), upd v 0 1, fd, fs, fn) := by rw [fX3_clock, if_neg c_3, if_neg c_10]
      exact W.iret (v := 0) hx hb hr (fun t ht hW => wr_endi (hAe ▸ hS) ht (by rw [e9]) (by rw [e9]; exact hP) (by rw [e9, hAe]; exact hD)) hS.2.2 dX3_clock_45
