def fX3_jump (v fw fd fs fn : Nat → Int32) (x : Int32) : Int32 × (Nat → Int32) := (if (x &&& 3) = 0 then ((0 : Int32), upd (upd v 19 x) 20 1) else ((5 : Int32), upd (upd v 19 x) 20 1))
set_option maxHeartbeats 4000000 in
set_option maxRecDepth 100000 in
theorem kX3_jump (l : Launch) (dC : Nat → ClassId) (dI : Nat → Nat → Nat) (cI cB : ClassId) (h a b c d : Nat) (sz : Nat) (v fw fd fs fn : Nat → Int32) (x : Int32) : Met l yX3_jump wsX3_jump ({ frames := 0, cells := 0, slots := 0, locals := 0 }) (wr_Pc [.ref h, .int x] (dC, dI) vwCl (tyIB cI cB) (mdW cI cB h a b c d v fw fd fs fn) sz) (wr_Qi (fX3_jump v fw fd fs fn x).1 (mdW cI cB h a b c d ((fX3_jump v fw fd fs fn x).2) fw fd fs fn) (dC, dI) vwCl (mdW cI cB h a b c d v fw fd fs fn) sz) 0 0 (va_A (mdW cI cB h a b c d v fw fd fs fn) sz) := by
  refine Met.ofW (cc := cX3_jump) (maxL := 2) (ret := (some .int)) (by decide) rfl ?_
  intro p e s m args below meth c9 s₁ B hml hv
  obtain ⟨rfl, hsz, hP, hK, hD0⟩ := hv
  have hx := B.exec
  have hb := B.bytes
  have hr := B.returns
  have hts := atoms_spec (ws := wsX3_jump) B.pre
  have hown : s.vm.findClass RX3 = some m.cls := findClass_of_methodNamed B.named
  have hlocks := B.notSynchronized
  subst hsz
  have hD := hD0.self (sz := s.heap.size)
  generalize hAe : va_A (mdW cI cB h a b c d v fw fd fs fn) s.heap.size = A at hD ⊢
  have hA : ∀ q : Nat, s.heap.size ≤ q → A q := fun q h => by rw [← hAe]; exact Or.inr h
  have hS : va_S A s.heap s.heap [] := va_S.rf
  have hin : ∀ w ∈ wsX30, w ∈ wsX3_jump := by decide +kernel
  have hf_92 := hts (.fieldLink RX3 92 "PipeWorksModel" "next" "I") (by decide +kernel)
  have hf_95 := hts (.fieldLink RX3 95 "PipeWorksModel" "jumps" "Z") (by decide +kernel)
  have hl := lv_entry ([.ref h, .int x]) (n := 2) (Nat.le_of_ble_eq_true rfl)
  rw [lg_entry_eq]
  generalize (lg_sl ([.ref h, .int x]) ++ List.replicate (2 - (lg_sl ([.ref h, .int x])).length) Slot.unset).toArray = ls at hl ⊢
  have hl : lv_has ls 2 [(0, .ref h), (1, .int x)] := hl
  refine lv_aload_n hx hb dX3_jump_0 rfl (lv_at hl 0 rfl) ?_
  refine lv_iload_n hx hb dX3_jump_1 rfl (lv_at hl 1 rfl) ?_
  refine va_put (D := (dC, dI)) (ci := 1) (v := .int x) (ty := .int) (C := RX3) (T := TX3) (N := 21) hx hb hts hin tyX3 tyX3_ok nmX3 hown hK hP hD hS 0 rfl rfl 19 (by decide) hf_92 (fun _ h9 => h9) rfl (by decide +kernel) rfl rfl (Nat.le_of_ble_eq_true rfl) dX3_jump_2 (fun H locs hP hD hS => ?_)
  have hP : va_P (dC, dI) vwCl (mdW cI cB h a b c d (upd v 19 x) fw fd fs fn) H := hP
  have hD : va_D A (mdW cI cB h a b c d (upd v 19 x) fw fd fs fn) := hD
  refine lv_aload_n hx hb dX3_jump_5 rfl (lv_at hl 0 rfl) ?_
  refine lv_iconst (v := 1) hx hb dX3_jump_6 (by decide) ?_
  refine va_put (D := (dC, dI)) (ci := 1) (v := .int 1) (ty := .boolean) (C := RX3) (T := TX3) (N := 21) hx hb hts hin tyX3 tyX3_ok nmX3 hown hK hP hD hS 0 rfl rfl 20 (by decide) hf_95 (fun _ h9 => h9) rfl (by decide +kernel) rfl rfl (Nat.le_of_ble_eq_true rfl) dX3_jump_7 (fun H locs hP hD hS => ?_)
  have hP : va_P (dC, dI) vwCl (mdW cI cB h a b c d (upd (upd v 19 x) 20 1) fw fd fs fn) H := hP
  have hD : va_D A (mdW cI cB h a b c d (upd (upd v 19 x) 20 1) fw fd fs fn) := hD
  refine lv_iload_n hx hb dX3_jump_10 rfl (lv_at hl 1 rfl) ?_
  refine lv_iconst (v := 3) hx hb dX3_jump_11 (by decide) ?_
  refine lv_iand hx hb dX3_jump_12 ?_
  refine lv_if_ne (tgt := 20) hx hb dX3_jump_13 (by decide) (fun c_13 => ?_) (fun c_13 => ?_)
  ·
    refine lv_iconst (v := 5) hx hb dX3_jump_20 (by decide) ?_
    have e9 : fX3_jump v fw fd fs fn x = ((5 : Int32), upd (upd v 19 x) 20 1) := by rw [fX3_jump, if_neg c_13]
    exact W.iret (v := 5) hx hb hr (fun t ht hW => wr_endi (hAe ▸ hS) ht (by rw [e9]) (by rw [e9]; exact hP) (by rw [e9, hAe]; exact hD)) hS.2.2 dX3_jump_21
  ·
    refine lv_iconst (v := 0) hx hb dX3_jump_16 (by decide) ?_
    refine lv_goto (tgt := 21) hx hb dX3_jump_17 (by decide) ?_
    have e9 : fX3_jump v fw fd fs fn x = ((0 : Int32), upd (upd v 19 x) 20 1) := by rw [fX3_jump, if_pos c_13]
    exact W.iret (v := 0) hx hb hr (fun t ht hW => wr_endi (hAe ▸ hS) ht (by rw [e9]) (by rw [e9]; exact hP) (by rw [e9, hAe]; exact hD)) hS.2.2 dX3_jump_21
def fX3_loads (v fw fd fs fn : Nat → Int32) (w x : Int32) : Int32 × (Nat → Int32) := (if ((fX3_f3 w) - (fX3_f3 w) / 4 * 4) = 0 then (if (fX3_refusal1 (x + (w >>> (20 &&& 31)))) ≤ 0 then (if (fX3_f3 w) = 0 then (if (fX3_f3 w) = 1 then ((0 : Int32), upd (upd (upd v 18 (fX3_load1 v fw fd fs fn (x + (w >>> (20 &&& 31))))) 18 (fX3_load1 v fw fd fs fn (x + (w >>> (20 &&& 31)))).toInt8.toInt32) 18 (fX3_load1 v fw fd fs fn (x + (w >>> (20 &&& 31)))).toInt8.toInt32.toInt16.toInt32) else ((0 : Int32), upd (upd v 18 (fX3_load1 v fw fd fs fn (x + (w >>> (20 &&& 31))))) 18 (fX3_load1 v fw fd fs fn (x + (w >>> (20 &&& 31)))).toInt8.toInt32)) else (if (fX3_f3 w) = 1 then ((0 : Int32), upd (upd v 18 (fX3_load1 v fw fd fs fn (x + (w >>> (20 &&& 31))))) 18 (fX3_load1 v fw fd fs fn (x + (w >>> (20 &&& 31)))).toInt16.toInt32) else ((0 : Int32), upd v 18 (fX3_load1 v fw fd fs fn (x + (w >>> (20 &&& 31))))))) else (fX3_refusal1 (x + (w >>> (20 &&& 31))), v)) else (if ((fX3_f3 w) - (fX3_f3 w) / 4 * 4) = 1 then (if (fX3_refusal2 (x + (w >>> (20 &&& 31)))) ≤ 0 then (if (fX3_f3 w) = 0 then (if (fX3_f3 w) = 1 then ((0 : Int32), upd (upd (upd v 18 (fX3_load2 v fw fd fs fn (x + (w >>> (20 &&& 31))))) 18 (fX3_load2 v fw fd fs fn (x + (w >>> (20 &&& 31)))).toInt8.toInt32) 18 (fX3_load2 v fw fd fs fn (x + (w >>> (20 &&& 31)))).toInt8.toInt32.toInt16.toInt32) else ((0 : Int32), upd (upd v 18 (fX3_load2 v fw fd fs fn (x + (w >>> (20 &&& 31))))) 18 (fX3_load2 v fw fd fs fn (x + (w >>> (20 &&& 31)))).toInt8.toInt32)) else (if (fX3_f3 w) = 1 then ((0 : Int32), upd (upd v 18 (fX3_load2 v fw fd fs fn (x + (w >>> (20 &&& 31))))) 18 (fX3_load2 v fw fd fs fn (x + (w >>> (20 &&& 31)))).toInt16.toInt32) else ((0 : Int32), upd v 18 (fX3_load2 v fw fd fs fn (x + (w >>> (20 &&& 31))))))) else (fX3_refusal2 (x + (w >>> (20 &&& 31))), v)) else (if (fX3_refusal4 (x + (w >>> (20 &&& 31)))) ≤ 0 then (if (fX3_f3 w) = 0 then (if (fX3_f3 w) = 1 then ((0 : Int32), upd (upd (upd v 18 (fX3_load4 v fw fd fs fn (x + (w >>> (20 &&& 31))))) 18 (fX3_load4 v fw fd fs fn (x + (w >>> (20 &&& 31)))).toInt8.toInt32) 18 (fX3_load4 v fw fd fs fn (x + (w >>> (20 &&& 31)))).toInt8.toInt32.toInt16.toInt32) else ((0 : Int32), upd (upd v 18 (fX3_load4 v fw fd fs fn (x + (w >>> (20 &&& 31))))) 18 (fX3_load4 v fw fd fs fn (x + (w >>> (20 &&& 31)))).toInt8.toInt32)) else (if (fX3_f3 w) = 1 then ((0 : Int32), upd (upd v 18 (fX3_load4 v fw fd fs fn (x + (w >>> (20 &&& 31))))) 18 (fX3_load4 v fw fd fs fn (x + (w >>> (20 &&& 31)))).toInt16.toInt32) else ((0 : Int32), upd v 18 (fX3_load4 v fw fd fs fn (x + (w >>> (20 &&& 31))))))) else (fX3_refusal4 (x + (w >>> (20 &&& 31))), v))))
set_option maxHeartbeats 4000000 in
set_option maxRecDepth 100000 in
theorem kX3_loads (l : Launch) (dC : Nat → ClassId) (dI : Nat → Nat → Nat) (cI cB : ClassId) (h a b c d : Nat) (sz : Nat) (v fw fd fs fn : Nat → Int32) (w x : Int32) : Met l yX3_loads wsX3_loads ({ frames := 1, cells := 0, slots := 0, locals := 24 }) (wr_Pc [.ref h, .int w, .int x] (dC, dI) vwCl (tyIB cI cB) (mdW cI cB h a b c d v fw fd fs fn) sz) (wr_Qi (fX3_loads v fw fd fs fn w x).1 (mdW cI cB h a b c d ((fX3_loads v fw fd fs fn w x).2) fw fd fs fn) (dC, dI) vwCl (mdW cI cB h a b c d v fw fd fs fn) sz) 0 0 (va_A (mdW cI cB h a b c d v fw fd fs fn) sz) := by
  refine Met.ofW (cc := cX3_loads) (maxL := 7) (ret := (some .int)) (by decide) rfl ?_
  intro p e s m args below meth c9 s₁ B hml hv
  obtain ⟨rfl, hsz, hP, hK, hD0⟩ := hv
  have hx := B.exec
  have hb := B.bytes
  have hr := B.returns
  have hts := atoms_spec (ws := wsX3_loads) B.pre
  have hown : s.vm.findClass RX3 = some m.cls := findClass_of_methodNamed B.named
  have hlocks := B.notSynchronized
  subst hsz
  have hD := hD0.self (sz := s.heap.size)
  generalize hAe : va_A (mdW cI cB h a b c d v fw fd fs fn) s.heap.size = A at hD ⊢
  have hA : ∀ q : Nat, s.heap.size ≤ q → A q := fun q h => by rw [← hAe]; exact Or.inr h
  have hS : va_S A s.heap s.heap [] := va_S.rf
  have hin : ∀ w ∈ wsX30, w ∈ wsX3_loads := by decide +kernel
  have hf_105 := hts (.fieldLink RX3 105 "PipeWorksModel" "result" "I") (by decide +kernel)
  have hl := lv_entry ([.ref h, .int w, .int x]) (n := 7) (Nat.le_of_ble_eq_true rfl)
  rw [lg_entry_eq]
  generalize (lg_sl ([.ref h, .int w, .int x]) ++ List.replicate (7 - (lg_sl ([.ref h, .int w, .int x])).length) Slot.unset).toArray = ls at hl ⊢
  have hl : lv_has ls 7 [(0, .ref h), (1, .int w), (2, .int x)] := hl
  refine lv_iload_n hx hb dX3_loads_0 rfl (lv_at hl 1 rfl) ?_
  refine ro_call (va_runS (As := [.int w]) (rest := []) ⟨hx, hb, hml, hown, hts⟩ (kX3_f3 l w ) (va_cwS 1 hts gX3_loads_X3_f3 rfl rfl rfl (by decide +kernel) ⟨Nat.le_of_ble_eq_true rfl, Nat.le_of_ble_eq_true rfl⟩) pu_preS rfl rfl hl.1 rfl (lv_room (Nat.le_of_ble_eq_true rfl)) dX3_loads_1 ⟨Nat.zero_le _, Nat.zero_le _⟩) hS (fun H locs hk hS => ?_)
  have hP := hk _ _ _ hP
  refine lv_istore_n (lv' := [(3, .int (fX3_f3 w)), (0, .ref h), (1, .int w), (2, .int x)]) hx hb dX3_loads_4 rfl hl (by decide) rfl (fun ls hl => ?_)
  refine lv_iload_n hx hb dX3_loads_5 rfl (lv_at hl 0 rfl) ?_
  refine lv_iconst (v := 4) hx hb dX3_loads_6 (by decide) ?_
  refine lv_irem hx hb dX3_loads_7 (by decide) ?_
  refine lv_if_ne (tgt := 15) hx hb dX3_loads_8 (by decide) (fun c_8 => ?_) (fun c_8 => ?_)
  ·
    refine lv_iload_n hx hb dX3_loads_15 rfl (lv_at hl 0 rfl) ?_
    refine lv_iconst (v := 4) hx hb dX3_loads_16 (by decide) ?_
    refine lv_irem hx hb dX3_loads_17 (by decide) ?_
    refine lv_iconst (v := 1) hx hb dX3_loads_18 (by decide) ?_
    refine lv_icmp_ne (tgt := 26) hx hb dX3_loads_19 (by decide) (fun c_19 => ?_) (fun c_19 => ?_)
    ·
      refine lv_iconst (v := 4) hx hb dX3_loads_26 (by decide) ?_
      refine lv_istore (lv' := [(4, .int 4), (3, .int (fX3_f3 w)), (0, .ref h), (1, .int w), (2, .int x)]) hx hb dX3_loads_27 hl (by decide) rfl (fun ls hl => ?_)
      refine lv_iload_n hx hb dX3_loads_29 rfl (lv_at hl 4 rfl) ?_
      refine lv_iload_n hx hb dX3_loads_30 rfl (lv_at hl 3 rfl) ?_
      refine lv_bipush (v := 20) hx hb dX3_loads_31 (by decide) ?_
      refine lv_ishr hx hb dX3_loads_33 ?_
      refine lv_iadd hx hb dX3_loads_34 ?_
      refine lv_istore (lv' := [(5, .int (x + (w >>> (20 &&& 31)))), (4, .int 4), (3, .int (fX3_f3 w)), (0, .ref h), (1, .int w), (2, .int x)]) hx hb dX3_loads_35 hl (by decide) rfl (fun ls hl => ?_)
      refine lv_iload hx hb dX3_loads_37 (lv_at hl 0 rfl) ?_
      refine lv_iload hx hb dX3_loads_39 (lv_at hl 1 rfl) ?_
      refine ro_call (va_runS (As := [.int (x + (w >>> (20 &&& 31))), .int 4]) (rest := []) ⟨hx, hb, hml, hown, hts⟩ (kX3_refusal4 l (x + (w >>> (20 &&& 31))) ) (va_cwS 2 hts gX3_loads_X3_refusal rfl rfl rfl (by decide +kernel) ⟨Nat.le_of_ble_eq_true rfl, Nat.le_of_ble_eq_true rfl⟩) pu_preS rfl rfl hl.1 rfl (lv_room (Nat.le_of_ble_eq_true rfl)) dX3_loads_41 ⟨Nat.zero_le _, Nat.zero_le _⟩) hS (fun H locs hk hS => ?_)
      have hP := hk _ _ _ hP
      refine lv_istore (lv' := [(6, .int (fX3_refusal4 (x + (w >>> (20 &&& 31))))), (5, .int (x + (w >>> (20 &&& 31)))), (4, .int 4), (3, .int (fX3_f3 w)), (0, .ref h), (1, .int w), (2, .int x)]) hx hb dX3_loads_44 hl (by decide) rfl (fun ls hl => ?_)
      refine lv_iload hx hb dX3_loads_46 (lv_at hl 0 rfl) ?_
      refine lv_if_le (tgt := 54) hx hb dX3_loads_48 (by decide) (fun c_48 => ?_) (fun c_48 => ?_)
      ·
        refine lv_aload_n hx hb dX3_loads_54 rfl (lv_at hl 4 rfl) ?_
        refine lv_aload_n hx hb dX3_loads_55 rfl (lv_at hl 4 rfl) ?_
        refine lv_iload hx hb dX3_loads_56 (lv_at hl 1 rfl) ?_
        refine lv_iload hx hb dX3_loads_58 (lv_at hl 2 rfl) ?_
        refine ro_call (va_runV (As := [.int (x + (w >>> (20 &&& 31))), .int 4]) (rest := [.ref h]) ⟨hx, hb, hml, hown, hts⟩ (kX3_load4 l dC dI cI cB h a b c d v fw fd fs fn (x + (w >>> (20 &&& 31))) (ix_ref4 c_48)) (cwV 2 hts gX3_loads_X3_load rfl rfl rfl (by decide +kernel) ⟨Nat.le_of_ble_eq_true rfl, Nat.le_of_ble_eq_true rfl⟩) (ro_preV hK hP (ci := 1) (q0 := 0) rfl rfl) rfl rfl hl.1 rfl (lv_room (Nat.le_of_ble_eq_true rfl)) dX3_loads_60 ⟨Nat.zero_le _, Nat.zero_le _⟩) hS (fun H locs hk hS => ?_)
        have hP := hk _ _ _ hP
        refine lv_topi (fun y_60 ey_60 => ?_)
        refine va_put (D := (dC, dI)) (ci := 1) (v := .int y_60) (ty := .int) (C := RX3) (T := TX3) (N := 21) hx hb hts hin tyX3 tyX3_ok nmX3 hown hK hP hD hS 0 rfl rfl 18 (by decide) hf_105 (fun _ h9 => h9) rfl (by decide +kernel) rfl rfl (Nat.le_of_ble_eq_true rfl) dX3_loads_63 (fun H locs hP hD hS => ?_)
        have hP : va_P (dC, dI) vwCl (mdW cI cB h a b c d (upd v 18 y_60) fw fd fs fn) H := hP
        have hD : va_D A (mdW cI cB h a b c d (upd v 18 y_60) fw fd fs fn) := hD
        refine lv_iload_n hx hb dX3_loads_66 rfl (lv_at hl 3 rfl) ?_
        refine lv_if_ne (tgt := 79) hx hb dX3_loads_67 (by decide) (fun c_67 => ?_) (fun c_67 => ?_)
        ·
          refine lv_iload_n hx hb dX3_loads_79 rfl (lv_at hl 3 rfl) ?_
          refine lv_iconst (v := 1) hx hb dX3_loads_80 (by decide) ?_
          refine lv_icmp_ne (tgt := 93) hx hb dX3_loads_81 (by decide) (fun c_81 => ?_) (fun c_81 => ?_)
          ·
            refine lv_iconst (v := 0) hx hb dX3_loads_93 (by decide) ?_
            have e9 : fX3_loads v fw fd fs fn w x = ((0 : Int32), upd v 18 y_60) := by rw [ey_60]; rw [fX3_loads, if_neg c_8, if_neg c_19, if_pos c_48, if_neg c_67, if_neg c_81]
            exact W.iret (v := 0) hx hb hr (fun t ht hW => wr_endi (hAe ▸ hS) ht (by rw [e9]) (by rw [e9]; exact hP) (by rw [e9, hAe]; exact hD)) hS.2.2 dX3_loads_94
          ·
            refine lv_aload_n hx hb dX3_loads_84 rfl (lv_at hl 4 rfl) ?_
            refine lv_aload_n hx hb dX3_loads_85 rfl (lv_at hl 4 rfl) ?_
            refine va_get (D := (dC, dI)) (ci := 1) (v := .int y_60) (C := RX3) (T := TX3) (N := 21) hx hb hts hin hown hK hP 0 rfl rfl 18 (by decide) hf_105 (fun _ h9 => h9) rfl dX3_loads_86 ?_
            refine lv_i2s (v := y_60.toInt16.toInt32) hx hb dX3_loads_89 rfl ?_
            refine lv_topi (fun y_89 ey_89 => ?_)
            refine va_put (D := (dC, dI)) (ci := 1) (v := .int y_89) (ty := .int) (C := RX3) (T := TX3) (N := 21) hx hb hts hin tyX3 tyX3_ok nmX3 hown hK hP hD hS 0 rfl rfl 18 (by decide) hf_105 (fun _ h9 => h9) rfl (by decide +kernel) rfl rfl (Nat.le_of_ble_eq_true rfl) dX3_loads_90 (fun H locs hP hD hS => ?_)
            have hP : va_P (dC, dI) vwCl (mdW cI cB h a b c d (upd (upd v 18 y_60) 18 y_89) fw fd fs fn) H := hP
            have hD : va_D A (mdW cI cB h a b c d (upd (upd v 18 y_60) 18 y_89) fw fd fs fn) := hD
            refine lv_iconst (v := 0) hx hb dX3_loads_93 (by decide) ?_
            have e9 : fX3_loads v fw fd fs fn w x = ((0 : Int32), upd (upd v 18 y_60) 18 y_89) := by rw [ey_89, ey_60]; rw [fX3_loads, if_neg c_8, if_neg c_19, if_pos c_48, if_neg c_67, if_pos c_81]
            exact W.iret (v := 0) hx hb hr (fun t ht hW => wr_endi (hAe ▸ hS) ht (by rw [e9]) (by rw [e9]; exact hP) (by rw [e9, hAe]; exact hD)) hS.2.2 dX3_loads_94
        ·
          refine lv_aload_n hx hb dX3_loads_70 rfl (lv_at hl 4 rfl) ?_
          refine lv_aload_n hx hb dX3_loads_71 rfl (lv_at hl 4 rfl) ?_
          refine va_get (D := (dC, dI)) (ci := 1) (v := .int y_60) (C := RX3) (T := TX3) (N := 21) hx hb hts hin hown hK hP 0 rfl rfl 18 (by decide) hf_105 (fun _ h9 => h9) rfl dX3_loads_72 ?_
          refine lv_i2b (v := y_60.toInt8.toInt32) hx hb dX3_loads_75 rfl ?_
          refine lv_topi (fun y_75 ey_75 => ?_)
          refine va_put (D := (dC, dI)) (ci := 1) (v := .int y_75) (ty := .int) (C := RX3) (T := TX3) (N := 21) hx hb hts hin tyX3 tyX3_ok nmX3 hown hK hP hD hS 0 rfl rfl 18 (by decide) hf_105 (fun _ h9 => h9) rfl (by decide +kernel) rfl rfl (Nat.le_of_ble_eq_true rfl) dX3_loads_76 (fun H locs hP hD hS => ?_)
          have hP : va_P (dC, dI) vwCl (mdW cI cB h a b c d (upd (upd v 18 y_60) 18 y_75) fw fd fs fn) H := hP
          have hD : va_D A (mdW cI cB h a b c d (upd (upd v 18 y_60) 18 y_75) fw fd fs fn) := hD
          refine lv_iload_n hx hb dX3_loads_79 rfl (lv_at hl 3 rfl) ?_
          refine lv_iconst (v := 1) hx hb dX3_loads_80 (by decide) ?_
          refine lv_icmp_ne (tgt := 93) hx hb dX3_loads_81 (by decide) (fun c_81 => ?_) (fun c_81 => ?_)
          ·
            refine lv_iconst (v := 0) hx hb dX3_loads_93 (by decide) ?_
            have e9 : fX3_loads v fw fd fs fn w x = ((0 : Int32), upd (upd v 18 y_60) 18 y_75) := by rw [ey_75, ey_60]; rw [fX3_loads, if_neg c_8, if_neg c_19, if_pos c_48, if_pos c_67, if_neg c_81]
            exact W.iret (v := 0) hx hb hr (fun t ht hW => wr_endi (hAe ▸ hS) ht (by rw [e9]) (by rw [e9]; exact hP) (by rw [e9, hAe]; exact hD)) hS.2.2 dX3_loads_94
          ·
            refine lv_aload_n hx hb dX3_loads_84 rfl (lv_at hl 4 rfl) ?_
            refine lv_aload_n hx hb dX3_loads_85 rfl (lv_at hl 4 rfl) ?_
            refine va_get (D := (dC, dI)) (ci := 1) (v := .int y_75) (C := RX3) (T := TX3) (N := 21) hx hb hts hin hown hK hP 0 rfl rfl 18 (by decide) hf_105 (fun _ h9 => h9) rfl dX3_loads_86 ?_
            refine lv_i2s (v := y_75.toInt16.toInt32) hx hb dX3_loads_89 rfl ?_
            refine lv_topi (fun y_89 ey_89 => ?_)
            refine va_put (D := (dC, dI)) (ci := 1) (v := .int y_89) (ty := .int) (C := RX3) (T := TX3) (N := 21) hx hb hts hin tyX3 tyX3_ok nmX3 hown hK hP hD hS 0 rfl rfl 18 (by decide) hf_105 (fun _ h9 => h9) rfl (by decide +kernel) rfl rfl (Nat.le_of_ble_eq_true rfl) dX3_loads_90 (fun H locs hP hD hS => ?_)
            have hP : va_P (dC, dI) vwCl (mdW cI cB h a b c d (upd (upd (upd v 18 y_60) 18 y_75) 18 y_89) fw fd fs fn) H := hP
            have hD : va_D A (mdW cI cB h a b c d (upd (upd (upd v 18 y_60) 18 y_75) 18 y_89) fw fd fs fn) := hD
            refine lv_iconst (v := 0) hx hb dX3_loads_93 (by decide) ?_
            have e9 : fX3_loads v fw fd fs fn w x = ((0 : Int32), upd (upd (upd v 18 y_60) 18 y_75) 18 y_89) := by rw [ey_89, ey_75, ey_60]; rw [fX3_loads, if_neg c_8, if_neg c_19, if_pos c_48, if_pos c_67, if_pos c_81]
            exact W.iret (v := 0) hx hb hr (fun t ht hW => wr_endi (hAe ▸ hS) ht (by rw [e9]) (by rw [e9]; exact hP) (by rw [e9, hAe]; exact hD)) hS.2.2 dX3_loads_94
      ·
        refine lv_iload hx hb dX3_loads_51 (lv_at hl 0 rfl) ?_
        have e9 : fX3_loads v fw fd fs fn w x = (fX3_refusal4 (x + (w >>> (20 &&& 31))), v) := by rw [fX3_loads, if_neg c_8, if_neg c_19, if_neg c_48]
        exact W.iret (v := fX3_refusal4 (x + (w >>> (20 &&& 31)))) hx hb hr (fun t ht hW => wr_endi (hAe ▸ hS) ht (by rw [e9]) (by rw [e9]; exact hP) (by rw [e9, hAe]; exact hD)) hS.2.2 dX3_loads_53
    ·
      refine lv_iconst (v := 2) hx hb dX3_loads_22 (by decide) ?_
      refine lv_goto (tgt := 27) hx hb dX3_loads_23 (by decide) ?_
      refine lv_istore (lv' := [(4, .int 2), (3, .int (fX3_f3 w)), (0, .ref h), (1, .int w), (2, .int x)]) hx hb dX3_loads_27 hl (by decide) rfl (fun ls hl => ?_)
      refine lv_iload_n hx hb dX3_loads_29 rfl (lv_at hl 4 rfl) ?_
      refine lv_iload_n hx hb dX3_loads_30 rfl (lv_at hl 3 rfl) ?_
      refine lv_bipush (v := 20) hx hb dX3_loads_31 (by decide) ?_
      refine lv_ishr hx hb dX3_loads_33 ?_
      refine lv_iadd hx hb dX3_loads_34 ?_
      refine lv_istore (lv' := [(5, .int (x + (w >>> (20 &&& 31)))), (4, .int 2), (3, .int (fX3_f3 w)), (0, .ref h), (1, .int w), (2, .int x)]) hx hb dX3_loads_35 hl (by decide) rfl (fun ls hl => ?_)
      refine lv_iload hx hb dX3_loads_37 (lv_at hl 0 rfl) ?_
      refine lv_iload hx hb dX3_loads_39 (lv_at hl 1 rfl) ?_
      refine ro_call (va_runS (As := [.int (x + (w >>> (20 &&& 31))), .int 2]) (rest := []) ⟨hx, hb, hml, hown, hts⟩ (kX3_refusal2 l (x + (w >>> (20 &&& 31))) ) (va_cwS 2 hts gX3_loads_X3_refusal rfl rfl rfl (by decide +kernel) ⟨Nat.le_of_ble_eq_true rfl, Nat.le_of_ble_eq_true rfl⟩) pu_preS rfl rfl hl.1 rfl (lv_room (Nat.le_of_ble_eq_true rfl)) dX3_loads_41 ⟨Nat.zero_le _, Nat.zero_le _⟩) hS (fun H locs hk hS => ?_)
      have hP := hk _ _ _ hP
      refine lv_istore (lv' := [(6, .int (fX3_refusal2 (x + (w >>> (20 &&& 31))))), (5, .int (x + (w >>> (20 &&& 31)))), (4, .int 2), (3, .int (fX3_f3 w)), (0, .ref h), (1, .int w), (2, .int x)]) hx hb dX3_loads_44 hl (by decide) rfl (fun ls hl => ?_)
      refine lv_iload hx hb dX3_loads_46 (lv_at hl 0 rfl) ?_
      refine lv_if_le (tgt := 54) hx hb dX3_loads_48 (by decide) (fun c_48 => ?_) (fun c_48 => ?_)
      ·
        refine lv_aload_n hx hb dX3_loads_54 rfl (lv_at hl 4 rfl) ?_
        refine lv_aload_n hx hb dX3_loads_55 rfl (lv_at hl 4 rfl) ?_
        refine lv_iload hx hb dX3_loads_56 (lv_at hl 1 rfl) ?_
        refine lv_iload hx hb dX3_loads_58 (lv_at hl 2 rfl) ?_
        refine ro_call (va_runV (As := [.int (x + (w >>> (20 &&& 31))), .int 2]) (rest := [.ref h]) ⟨hx, hb, hml, hown, hts⟩ (kX3_load2 l dC dI cI cB h a b c d v fw fd fs fn (x + (w >>> (20 &&& 31))) (ix_ref2 c_48)) (cwV 2 hts gX3_loads_X3_load rfl rfl rfl (by decide +kernel) ⟨Nat.le_of_ble_eq_true rfl, Nat.le_of_ble_eq_true rfl⟩) (ro_preV hK hP (ci := 1) (q0 := 0) rfl rfl) rfl rfl hl.1 rfl (lv_room (Nat.le_of_ble_eq_true rfl)) dX3_loads_60 ⟨Nat.zero_le _, Nat.zero_le _⟩) hS (fun H locs hk hS => ?_)
        have hP := hk _ _ _ hP
        refine lv_topi (fun y_60 ey_60 => ?_)
        refine va_put (D := (dC, dI)) (ci := 1) (v := .int y_60) (ty := .int) (C := RX3) (T := TX3) (N := 21) hx hb hts hin tyX3 tyX3_ok nmX3 hown hK hP hD hS 0 rfl rfl 18 (by decide) hf_105 (fun _ h9 => h9) rfl (by decide +kernel) rfl rfl (Nat.le_of_ble_eq_true rfl) dX3_loads_63 (fun H locs hP hD hS => ?_)
        have hP : va_P (dC, dI) vwCl (mdW cI cB h a b c d (upd v 18 y_60) fw fd fs fn) H := hP
        have hD : va_D A (mdW cI cB h a b c d (upd v 18 y_60) fw fd fs fn) := hD
        refine lv_iload_n hx hb dX3_loads_66 rfl (lv_at hl 3 rfl) ?_
        refine lv_if_ne (tgt := 79) hx hb dX3_loads_67 (by decide) (fun c_67 => ?_) (fun c_67 => ?_)
        ·
          refine lv_iload_n hx hb dX3_loads_79 rfl (lv_at hl 3 rfl) ?_
          refine lv_iconst (v := 1) hx hb dX3_loads_80 (by decide) ?_
          refine lv_icmp_ne (tgt := 93) hx hb dX3_loads_81 (by decide) (fun c_81 => ?_) (fun c_81 => ?_)
          ·
            refine lv_iconst (v := 0) hx hb dX3_loads_93 (by decide) ?_
            have e9 : fX3_loads v fw fd fs fn w x = ((0 : Int32), upd v 18 y_60) := by rw [ey_60]; rw [fX3_loads, if_neg c_8, if_pos c_19, if_pos c_48, if_neg c_67, if_neg c_81]
            exact W.iret (v := 0) hx hb hr (fun t ht hW => wr_endi (hAe ▸ hS) ht (by rw [e9]) (by rw [e9]; exact hP) (by rw [e9, hAe]; exact hD)) hS.2.2 dX3_loads_94
          ·
            refine lv_aload_n hx hb dX3_loads_84 rfl (lv_at hl 4 rfl) ?_
            refine lv_aload_n hx hb dX3_loads_85 rfl (lv_at hl 4 rfl) ?_
            refine va_get (D := (dC, dI)) (ci := 1) (v := .int y_60) (C := RX3) (T := TX3) (N := 21) hx hb hts hin hown hK hP 0 rfl rfl 18 (by decide) hf_105 (fun _ h9 => h9) rfl dX3_loads_86 ?_
            refine lv_i2s (v := y_60.toInt16.toInt32) hx hb dX3_loads_89 rfl ?_
            refine lv_topi (fun y_89 ey_89 => ?_)
            refine va_put (D := (dC, dI)) (ci := 1) (v := .int y_89) (ty := .int) (C := RX3) (T := TX3) (N := 21) hx hb hts hin tyX3 tyX3_ok nmX3 hown hK hP hD hS 0 rfl rfl 18 (by decide) hf_105 (fun _ h9 => h9) rfl (by decide +kernel) rfl rfl (Nat.le_of_ble_eq_true rfl) dX3_loads_90 (fun H locs hP hD hS => ?_)
            have hP : va_P (dC, dI) vwCl (mdW cI cB h a b c d (upd (upd v 18 y_60) 18 y_89) fw fd fs fn) H := hP
            have hD : va_D A (mdW cI cB h a b c d (upd (upd v 18 y_60) 18 y_89) fw fd fs fn) := hD
            refine lv_iconst (v := 0) hx hb dX3_loads_93 (by decide) ?_
            have e9 : fX3_loads v fw fd fs fn w x = ((0 : Int32), upd (upd v 18 y_60) 18 y_89) := by rw [ey_89, ey_60]; rw [fX3_loads, if_neg c_8, if_pos c_19, if_pos c_48, if_neg c_67, if_pos c_81]
            exact W.iret (v := 0) hx hb hr (fun t ht hW => wr_endi (hAe ▸ hS) ht (by rw [e9]) (by rw [e9]; exact hP) (by rw [e9, hAe]; exact hD)) hS.2.2 dX3_loads_94
        ·
          refine lv_aload_n hx hb dX3_loads_70 rfl (lv_at hl 4 rfl) ?_
          refine lv_aload_n hx hb dX3_loads_71 rfl (lv_at hl 4 rfl) ?_
          refine va_get (D := (dC, dI)) (ci := 1) (v := .int y_60) (C := RX3) (T := TX3) (N := 21) hx hb hts hin hown hK hP 0 rfl rfl 18 (by decide) hf_105 (fun _ h9 => h9) rfl dX3_loads_72 ?_
          refine lv_i2b (v := y_60.toInt8.toInt32) hx hb dX3_loads_75 rfl ?_
          refine lv_topi (fun y_75 ey_75 => ?_)
          refine va_put (D := (dC, dI)) (ci := 1) (v := .int y_75) (ty := .int) (C := RX3) (T := TX3) (N := 21) hx hb hts hin tyX3 tyX3_ok nmX3 hown hK hP hD hS 0 rfl rfl 18 (by decide) hf_105 (fun _ h9 => h9) rfl (by decide +kernel) rfl rfl (Nat.le_of_ble_eq_true rfl) dX3_loads_76 (fun H locs hP hD hS => ?_)
          have hP : va_P (dC, dI) vwCl (mdW cI cB h a b c d (upd (upd v 18 y_60) 18 y_75) fw fd fs fn) H := hP
          have hD : va_D A (mdW cI cB h a b c d (upd (upd v 18 y_60) 18 y_75) fw fd fs fn) := hD
          refine lv_iload_n hx hb dX3_loads_79 rfl (lv_at hl 3 rfl) ?_
          refine lv_iconst (v := 1) hx hb dX3_loads_80 (by decide) ?_
          refine lv_icmp_ne (tgt := 93) hx hb dX3_loads_81 (by decide) (fun c_81 => ?_) (fun c_81 => ?_)
          ·
            refine lv_iconst (v := 0) hx hb dX3_loads_93 (by decide) ?_
            have e9 : fX3_loads v fw fd fs fn w x = ((0 : Int32), upd (upd v 18 y_60) 18 y_75) := by rw [ey_75, ey_60]; rw [fX3_loads, if_neg c_8, if_pos c_19, if_pos c_48, if_pos c_67, if_neg c_81]
            exact W.iret (v := 0) hx hb hr (fun t ht hW => wr_endi (hAe ▸ hS) ht (by rw [e9]) (by rw [e9]; exact hP) (by rw [e9, hAe]; exact hD)) hS.2.2 dX3_loads_94
          ·
            refine lv_aload_n hx hb dX3_loads_84 rfl (lv_at hl 4 rfl) ?_
            refine lv_aload_n hx hb dX3_loads_85 rfl (lv_at hl 4 rfl) ?_
            refine va_get (D := (dC, dI)) (ci := 1) (v := .int y_75) (C := RX3) (T := TX3) (N := 21) hx hb hts hin hown hK hP 0 rfl rfl 18 (by decide) hf_105 (fun _ h9 => h9) rfl dX3_loads_86 ?_
            refine lv_i2s (v := y_75.toInt16.toInt32) hx hb dX3_loads_89 rfl ?_
            refine lv_topi (fun y_89 ey_89 => ?_)
            refine va_put (D := (dC, dI)) (ci := 1) (v := .int y_89) (ty := .int) (C := RX3) (T := TX3) (N := 21) hx hb hts hin tyX3 tyX3_ok nmX3 hown hK hP hD hS 0 rfl rfl 18 (by decide) hf_105 (fun _ h9 => h9) rfl (by decide +kernel) rfl rfl (Nat.le_of_ble_eq_true rfl) dX3_loads_90 (fun H locs hP hD hS => ?_)
            have hP : va_P (dC, dI) vwCl (mdW cI cB h a b c d (upd (upd (upd v 18 y_60) 18 y_75) 18 y_89) fw fd fs fn) H := hP
            have hD : va_D A (mdW cI cB h a b c d (upd (upd (upd v 18 y_60) 18 y_75) 18 y_89) fw fd fs fn) := hD
            refine lv_iconst (v := 0) hx hb dX3_loads_93 (by decide) ?_
            have e9 : fX3_loads v fw fd fs fn w x = ((0 : Int32), upd (upd (upd v 18 y_60) 18 y_75) 18 y_89) := by rw [ey_89, ey_75, ey_60]; rw [fX3_loads, if_neg c_8, if_pos c_19, if_pos c_48, if_pos c_67, if_pos c_81]
            exact W.iret (v := 0) hx hb hr (fun t ht hW => wr_endi (hAe ▸ hS) ht (by rw [e9]) (by rw [e9]; exact hP) (by rw [e9, hAe]; exact hD)) hS.2.2 dX3_loads_94
      ·
        refine lv_iload hx hb dX3_loads_51 (lv_at hl 0 rfl) ?_
        have e9 : fX3_loads v fw fd fs fn w x = (fX3_refusal2 (x + (w >>> (20 &&& 31))), v) := by rw [fX3_loads, if_neg c_8, if_pos c_19, if_neg c_48]
        exact W.iret (v := fX3_refusal2 (x + (w >>> (20 &&& 31)))) hx hb hr (fun t ht hW => wr_endi (hAe ▸ hS) ht (by rw [e9]) (by rw [e9]; exact hP) (by rw [e9, hAe]; exact hD)) hS.2.2 dX3_loads_53
  ·
    refine lv_iconst (v := 1) hx hb dX3_loads_11 (by decide) ?_
    refine lv_goto (tgt := 27) hx hb dX3_loads_12 (by decide) ?_
    refine lv_istore (lv' := [(4, .int 1), (3, .int (fX3_f3 w)), (0, .ref h), (1, .int w), (2, .int x)]) hx hb dX3_loads_27 hl (by decide) rfl (fun ls hl => ?_)
    refine lv_iload_n hx hb dX3_loads_29 rfl (lv_at hl 4 rfl) ?_
    refine lv_iload_n hx hb dX3_loads_30 rfl (lv_at hl 3 rfl) ?_
    refine lv_bipush (v := 20) hx hb dX3_loads_31 (by decide) ?_
    refine lv_ishr hx hb dX3_loads_33 ?_
    refine lv_iadd hx hb dX3_loads_34 ?_
    refine lv_istore (lv' := [(5, .int (x + (w >>> (20 &&& 31)))), (4, .int 1), (3, .int (fX3_f3 w)), (0, .ref h), (1, .int w), (2, .int x)]) hx hb dX3_loads_35 hl (by decide) rfl (fun ls hl => ?_)
    refine lv_iload hx hb dX3_loads_37 (lv_at hl 0 rfl) ?_
    refine lv_iload hx hb dX3_loads_39 (lv_at hl 1 rfl) ?_
    refine ro_call (va_runS (As := [.int (x + (w >>> (20 &&& 31))), .int 1]) (rest := []) ⟨hx, hb, hml, hown, hts⟩ (kX3_refusal1 l (x + (w >>> (20 &&& 31))) ) (va_cwS 2 hts gX3_loads_X3_refusal rfl rfl rfl (by decide +kernel) ⟨Nat.le_of_ble_eq_true rfl, Nat.le_of_ble_eq_true rfl⟩) pu_preS rfl rfl hl.1 rfl (lv_room (Nat.le_of_ble_eq_true rfl)) dX3_loads_41 ⟨Nat.zero_le _, Nat.zero_le _⟩) hS (fun H locs hk hS => ?_)
    have hP := hk _ _ _ hP
    refine lv_istore (lv' := [(6, .int (fX3_refusal1 (x + (w >>> (20 &&& 31))))), (5, .int (x + (w >>> (20 &&& 31)))), (4, .int 1), (3, .int (fX3_f3 w)), (0, .ref h), (1, .int w), (2, .int x)]) hx hb dX3_loads_44 hl (by decide) rfl (fun ls hl => ?_)
    refine lv_iload hx hb dX3_loads_46 (lv_at hl 0 rfl) ?_
    refine lv_if_le (tgt := 54) hx hb dX3_loads_48 (by decide) (fun c_48 => ?_) (fun c_48 => ?_)
    ·
      refine lv_aload_n hx hb dX3_loads_54 rfl (lv_at hl 4 rfl) ?_
      refine lv_aload_n hx hb dX3_loads_55 rfl (lv_at hl 4 rfl) ?_
      refine lv_iload hx hb dX3_loads_56 (lv_at hl 1 rfl) ?_
      refine lv_iload hx hb dX3_loads_58 (lv_at hl 2 rfl) ?_
      refine ro_call (va_runV (As := [.int (x + (w >>> (20 &&& 31))), .int 1]) (rest := [.ref h]) ⟨hx, hb, hml, hown, hts⟩ (kX3_load1 l dC dI cI cB h a b c d v fw fd fs fn (x + (w >>> (20 &&& 31))) (ix_ref1 c_48)) (cwV 2 hts gX3_loads_X3_load rfl rfl rfl (by decide +kernel) ⟨Nat.le_of_ble_eq_true rfl, Nat.le_of_ble_eq_true rfl⟩) (ro_preV hK hP (ci := 1) (q0 := 0) rfl rfl) rfl rfl hl.1 rfl (lv_room (Nat.le_of_ble_eq_true rfl)) dX3_loads_60 ⟨Nat.zero_le _, Nat.zero_le _⟩) hS (fun H locs hk hS => ?_)
      have hP := hk _ _ _ hP
      refine lv_topi (fun y_60 ey_60 => ?_)
      refine va_put (D := (dC, dI)) (ci := 1) (v := .int y_60) (ty := .int) (C := RX3) (T := TX3) (N := 21) hx hb hts hin tyX3 tyX3_ok nmX3 hown hK hP hD hS 0 rfl rfl 18 (by decide) hf_105 (fun _ h9 => h9) rfl (by decide +kernel) rfl rfl (Nat.le_of_ble_eq_true rfl) dX3_loads_63 (fun H locs hP hD hS => ?_)
      have hP : va_P (dC, dI) vwCl (mdW cI cB h a b c d (upd v 18 y_60) fw fd fs fn) H := hP
      have hD : va_D A (mdW cI cB h a b c d (upd v 18 y_60) fw fd fs fn) := hD
      refine lv_iload_n hx hb dX3_loads_66 rfl (lv_at hl 3 rfl) ?_
      refine lv_if_ne (tgt := 79) hx hb dX3_loads_67 (by decide) (fun c_67 => ?_) (fun c_67 => ?_)
      ·
        refine lv_iload_n hx hb dX3_loads_79 rfl (lv_at hl 3 rfl) ?_
        refine lv_iconst (v := 1) hx hb dX3_loads_80 (by decide) ?_
        refine lv_icmp_ne (tgt := 93) hx hb dX3_loads_81 (by decide) (fun c_81 => ?_) (fun c_81 => ?_)
        ·
          refine lv_iconst (v := 0) hx hb dX3_loads_93 (by decide) ?_
          have e9 : fX3_loads v fw fd fs fn w x = ((0 : Int32), upd v 18 y_60) := by rw [ey_60]; rw [fX3_loads, if_pos c_8, if_pos c_48, if_neg c_67, if_neg c_81]
          exact W.iret (v := 0) hx hb hr (fun t ht hW => wr_endi (hAe ▸ hS) ht (by rw [e9]) (by rw [e9]; exact hP) (by rw [e9, hAe]; exact hD)) hS.2.2 dX3_loads_94
        ·
          refine lv_aload_n hx hb dX3_loads_84 rfl (lv_at hl 4 rfl) ?_
          refine lv_aload_n hx hb dX3_loads_85 rfl (lv_at hl 4 rfl) ?_
          refine va_get (D := (dC, dI)) (ci := 1) (v := .int y_60) (C := RX3) (T := TX3) (N := 21) hx hb hts hin hown hK hP 0 rfl rfl 18 (by decide) hf_105 (fun _ h9 => h9) rfl dX3_loads_86 ?_
          refine lv_i2s (v := y_60.toInt16.toInt32) hx hb dX3_loads_89 rfl ?_
          refine lv_topi (fun y_89 ey_89 => ?_)
          refine va_put (D := (dC, dI)) (ci := 1) (v := .int y_89) (ty := .int) (C := RX3) (T := TX3) (N := 21) hx hb hts hin tyX3 tyX3_ok nmX3 hown hK hP hD hS 0 rfl rfl 18 (by decide) hf_105 (fun _ h9 => h9) rfl (by decide +kernel) rfl rfl (Nat.le_of_ble_eq_true rfl) dX3_loads_90 (fun H locs hP hD hS => ?_)
          have hP : va_P (dC, dI) vwCl (mdW cI cB h a b c d (upd (upd v 18 y_60) 18 y_89) fw fd fs fn) H := hP
          have hD : va_D A (mdW cI cB h a b c d (upd (upd v 18 y_60) 18 y_89) fw fd fs fn) := hD
          refine lv_iconst (v := 0) hx hb dX3_loads_93 (by decide) ?_
          have e9 : fX3_loads v fw fd fs fn w x = ((0 : Int32), upd (upd v 18 y_60) 18 y_89) := by rw [ey_89, ey_60]; rw [fX3_loads, if_pos c_8, if_pos c_48, if_neg c_67, if_pos c_81]
          exact W.iret (v := 0) hx hb hr (fun t ht hW => wr_endi (hAe ▸ hS) ht (by rw [e9]) (by rw [e9]; exact hP) (by rw [e9, hAe]; exact hD)) hS.2.2 dX3_loads_94
      ·
        refine lv_aload_n hx hb dX3_loads_70 rfl (lv_at hl 4 rfl) ?_
        refine lv_aload_n hx hb dX3_loads_71 rfl (lv_at hl 4 rfl) ?_
        refine va_get (D := (dC, dI)) (ci := 1) (v := .int y_60) (C := RX3) (T := TX3) (N := 21) hx hb hts hin hown hK hP 0 rfl rfl 18 (by decide) hf_105 (fun _ h9 => h9) rfl dX3_loads_72 ?_
        refine lv_i2b (v := y_60.toInt8.toInt32) hx hb dX3_loads_75 rfl ?_
        refine lv_topi (fun y_75 ey_75 => ?_)
        refine va_put (D := (dC, dI)) (ci := 1) (v := .int y_75) (ty := .int) (C := RX3) (T := TX3) (N := 21) hx hb hts hin tyX3 tyX3_ok nmX3 hown hK hP hD hS 0 rfl rfl 18 (by decide) hf_105 (fun _ h9 => h9) rfl (by decide +kernel) rfl rfl (Nat.le_of_ble_eq_true rfl) dX3_loads_76 (fun H locs hP hD hS => ?_)
        have hP : va_P (dC, dI) vwCl (mdW cI cB h a b c d (upd (upd v 18 y_60) 18 y_75) fw fd fs fn) H := hP
        have hD : va_D A (mdW cI cB h a b c d (upd (upd v 18 y_60) 18 y_75) fw fd fs fn) := hD
        refine lv_iload_n hx hb dX3_loads_79 rfl (lv_at hl 3 rfl) ?_
        refine lv_iconst (v := 1) hx hb dX3_loads_80 (by decide) ?_
        refine lv_icmp_ne (tgt := 93) hx hb dX3_loads_81 (by decide) (fun c_81 => ?_) (fun c_81 => ?_)
        ·
          refine lv_iconst (v := 0) hx hb dX3_loads_93 (by decide) ?_
          have e9 : fX3_loads v fw fd fs fn w x = ((0 : Int32), upd (upd v 18 y_60) 18 y_75) := by rw [ey_75, ey_60]; rw [fX3_loads, if_pos c_8, if_pos c_48, if_pos c_67, if_neg c_81]
          exact W.iret (v := 0) hx hb hr (fun t ht hW => wr_endi (hAe ▸ hS) ht (by rw [e9]) (by rw [e9]; exact hP) (by rw [e9, hAe]; exact hD)) hS.2.2 dX3_loads_94
        ·
          refine lv_aload_n hx hb dX3_loads_84 rfl (lv_at hl 4 rfl) ?_
          refine lv_aload_n hx hb dX3_loads_85 rfl (lv_at hl 4 rfl) ?_
          refine va_get (D := (dC, dI)) (ci := 1) (v := .int y_75) (C := RX3) (T := TX3) (N := 21) hx hb hts hin hown hK hP 0 rfl rfl 18 (by decide) hf_105 (fun _ h9 => h9) rfl dX3_loads_86 ?_
          refine lv_i2s (v := y_75.toInt16.toInt32) hx hb dX3_loads_89 rfl ?_
          refine lv_topi (fun y_89 ey_89 => ?_)
          refine va_put (D := (dC, dI)) (ci := 1) (v := .int y_89) (ty := .int) (C := RX3) (T := TX3) (N := 21) hx hb hts hin tyX3 tyX3_ok nmX3 hown hK hP hD hS 0 rfl rfl 18 (by decide) hf_105 (fun _ h9 => h9) rfl (by decide +kernel) rfl rfl (Nat.le_of_ble_eq_true rfl) dX3_loads_90 (fun H locs hP hD hS => ?_)
          have hP : va_P (dC, dI) vwCl (mdW cI cB h a b c d (upd (upd (upd v 18 y_60) 18 y_75) 18 y_89) fw fd fs fn) H := hP
          have hD : va_D A (mdW cI cB h a b c d (upd (upd (upd v 18 y_60) 18 y_75) 18 y_89) fw fd fs fn) := hD
          refine lv_iconst (v := 0) hx hb dX3_loads_93 (by decide) ?_
          have e9 : fX3_loads v fw fd fs fn w x = ((0 : Int32), upd (upd (upd v 18 y_60) 18 y_75) 18 y_89) := by rw [ey_89, ey_75, ey_60]; rw [fX3_loads, if_pos c_8, if_pos c_48, if_pos c_67, if_pos c_81]
          exact W.iret (v := 0) hx hb hr (fun t ht hW => wr_endi (hAe ▸ hS) ht (by rw [e9]) (by rw [e9]; exact hP) (by rw [e9, hAe]; exact hD)) hS.2.2 dX3_loads_94
    ·
      refine lv_iload hx hb dX3_loads_51 (lv_at hl 0 rfl) ?_
      have e9 : fX3_loads v fw fd fs fn w x = (fX3_refusal1 (x + (w >>> (20 &&& 31))), v) := by rw [fX3_loads, if_pos c_8, if_neg c_48]
      exact W.iret (v := fX3_refusal1 (x + (w >>> (20 &&& 31)))) hx hb hr (fun t ht hW => wr_endi (hAe ▸ hS) ht (by rw [e9]) (by rw [e9]; exact hP) (by rw [e9, hAe]; exact hD)) hS.2.2 dX3_loads_53
def fX3_stores (v fw fd fs fn : Nat → Int32) (w x y : Int32) : Int32 × (Nat → Int32) := (if (fX3_f3 w) = 0 then (if (fX3_refusal1 (x + (fX3_immediateS w))) = 0 then (fX3_refusal1 (x + (fX3_immediateS w)), fX3_store1 v fw fd fs fn (x + (fX3_immediateS w)) y) else (fX3_refusal1 (x + (fX3_immediateS w)), fd)) else (if (fX3_f3 w) = 1 then (if (fX3_refusal2 (x + (fX3_immediateS w))) = 0 then (fX3_refusal2 (x + (fX3_immediateS w)), fX3_store2 v fw fd fs fn (x + (fX3_immediateS w)) y) else (fX3_refusal2 (x + (fX3_immediateS w)), fd)) else (if (fX3_refusal4 (x + (fX3_immediateS w))) = 0 then (fX3_refusal4 (x + (fX3_immediateS w)), fX3_store4 v fw fd fs fn (x + (fX3_immediateS w)) y) else (fX3_refusal4 (x + (fX3_immediateS w)), fd))))
set_option maxHeartbeats 4000000 in
set_option maxRecDepth 100000 in
theorem kX3_stores (l : Launch) (dC : Nat → ClassId) (dI : Nat → Nat → Nat) (cI cB : ClassId) (h a b c d : Nat) (sz : Nat) (v fw fd fs fn : Nat → Int32) (w x y : Int32) : Met l yX3_stores wsX3_stores ({ frames := 1, cells := 0, slots := 0, locals := 24 }) (wr_Pc [.ref h, .int w, .int x, .int y] (dC, dI) vwCl (tyIB cI cB) (mdW cI cB h a b c d v fw fd fs fn) sz) (wr_Qi (fX3_stores v fw fd fs fn w x y).1 (mdW cI cB h a b c d v fw ((fX3_stores v fw fd fs fn w x y).2) fs fn) (dC, dI) vwCl (mdW cI cB h a b c d v fw fd fs fn) sz) 0 0 (va_A (mdW cI cB h a b c d v fw fd fs fn) sz) := by
  refine Met.ofW (cc := cX3_stores) (maxL := 7) (ret := (some .int)) (by decide) rfl ?_
  intro p e s m args below meth c9 s₁ B hml hv
  obtain ⟨rfl, hsz, hP, hK, hD0⟩ := hv
  have hx := B.exec
  have hb := B.bytes
  have hr := B.returns
  have hts := atoms_spec (ws := wsX3_stores) B.pre
  have hown : s.vm.findClass RX3 = some m.cls := findClass_of_methodNamed B.named
  have hlocks := B.notSynchronized
  subst hsz
  have hD := hD0.self (sz := s.heap.size)
  generalize hAe : va_A (mdW cI cB h a b c d v fw fd fs fn) s.heap.size = A at hD ⊢
  have hA : ∀ q : Nat, s.heap.size ≤ q → A q := fun q h => by rw [← hAe]; exact Or.inr h
  have hS : va_S A s.heap s.heap [] := va_S.rf
  have hl := lv_entry ([.ref h, .int w, .int x, .int y]) (n := 7) (Nat.le_of_ble_eq_true rfl)
  rw [lg_entry_eq]
  generalize (lg_sl ([.ref h, .int w, .int x, .int y]) ++ List.replicate (7 - (lg_sl ([.ref h, .int w, .int x, .int y])).length) Slot.unset).toArray = ls at hl ⊢
  have hl : lv_has ls 7 [(0, .ref h), (1, .int w), (2, .int x), (3, .int y)] := hl
  refine lv_iload_n hx hb dX3_stores_0 rfl (lv_at hl 1 rfl) ?_
  refine ro_call (va_runS (As := [.int w]) (rest := []) ⟨hx, hb, hml, hown, hts⟩ (kX3_f3 l w ) (va_cwS 1 hts gX3_stores_X3_f3 rfl rfl rfl (by decide +kernel) ⟨Nat.le_of_ble_eq_true rfl, Nat.le_of_ble_eq_true rfl⟩) pu_preS rfl rfl hl.1 rfl (lv_room (Nat.le_of_ble_eq_true rfl)) dX3_stores_1 ⟨Nat.zero_le _, Nat.zero_le _⟩) hS (fun H locs hk hS => ?_)
  have hP := hk _ _ _ hP
  refine lv_if_ne (tgt := 11) hx hb dX3_stores_4 (by decide) (fun c_4 => ?_) (fun c_4 => ?_)
  ·
    refine lv_iload_n hx hb dX3_stores_11 rfl (lv_at hl 1 rfl) ?_
    refine ro_call (va_runS (As := [.int w]) (rest := []) ⟨hx, hb, hml, hown, hts⟩ (kX3_f3 l w ) (va_cwS 1 hts gX3_stores_X3_f3 rfl rfl rfl (by decide +kernel) ⟨Nat.le_of_ble_eq_true rfl, Nat.le_of_ble_eq_true rfl⟩) pu_preS rfl rfl hl.1 rfl (lv_room (Nat.le_of_ble_eq_true rfl)) dX3_stores_12 ⟨Nat.zero_le _, Nat.zero_le _⟩) hS (fun H locs hk hS => ?_)
    have hP := hk _ _ _ hP
    refine lv_iconst (v := 1) hx hb dX3_stores_15 (by decide) ?_
    refine lv_icmp_ne (tgt := 23) hx hb dX3_stores_16 (by decide) (fun c_16 => ?_) (fun c_16 => ?_)
    ·
      refine lv_iconst (v := 4) hx hb dX3_stores_23 (by decide) ?_
      refine lv_istore (lv' := [(4, .int 4), (0, .ref h), (1, .int w), (2, .int x), (3, .int y)]) hx hb dX3_stores_24 hl (by decide) rfl (fun ls hl => ?_)
      refine lv_iload_n hx hb dX3_stores_26 rfl (lv_at hl 3 rfl) ?_
      refine lv_iload_n hx hb dX3_stores_27 rfl (lv_at hl 2 rfl) ?_
      refine ro_call (va_runS (As := [.int w]) (rest := [.int x]) ⟨hx, hb, hml, hown, hts⟩ (kX3_immediateS l w ) (va_cwS 1 hts gX3_stores_X3_immediateS rfl rfl rfl (by decide +kernel) ⟨Nat.le_of_ble_eq_true rfl, Nat.le_of_ble_eq_true rfl⟩) pu_preS rfl rfl hl.1 rfl (lv_room (Nat.le_of_ble_eq_true rfl)) dX3_stores_28 ⟨Nat.zero_le _, Nat.zero_le _⟩) hS (fun H locs hk hS => ?_)
      have hP := hk _ _ _ hP
      refine lv_iadd hx hb dX3_stores_31 ?_
      refine lv_istore (lv' := [(5, .int (x + (fX3_immediateS w))), (4, .int 4), (0, .ref h), (1, .int w), (2, .int x), (3, .int y)]) hx hb dX3_stores_32 hl (by decide) rfl (fun ls hl => ?_)
      refine lv_iload hx hb dX3_stores_34 (lv_at hl 0 rfl) ?_
      refine lv_iload hx hb dX3_stores_36 (lv_at hl 1 rfl) ?_
      refine ro_call (va_runS (As := [.int (x + (fX3_immediateS w)), .int 4]) (rest := []) ⟨hx, hb, hml, hown, hts⟩ (kX3_refusal4 l (x + (fX3_immediateS w)) ) (va_cwS 2 hts gX3_stores_X3_refusal rfl rfl rfl (by decide +kernel) ⟨Nat.le_of_ble_eq_true rfl, Nat.le_of_ble_eq_true rfl⟩) pu_preS rfl rfl hl.1 rfl (lv_room (Nat.le_of_ble_eq_true rfl)) dX3_stores_38 ⟨Nat.zero_le _, Nat.zero_le _⟩) hS (fun H locs hk hS => ?_)
      have hP := hk _ _ _ hP
      refine lv_istore (lv' := [(6, .int (fX3_refusal4 (x + (fX3_immediateS w)))), (5, .int (x + (fX3_immediateS w))), (4, .int 4), (0, .ref h), (1, .int w), (2, .int x), (3, .int y)]) hx hb dX3_stores_41 hl (by decide) rfl (fun ls hl => ?_)
      refine lv_iload hx hb dX3_stores_43 (lv_at hl 0 rfl) ?_
      refine lv_if_ne (tgt := 57) hx hb dX3_stores_45 (by decide) (fun c_45 => ?_) (fun c_45 => ?_)
      ·
        refine lv_iload hx hb dX3_stores_57 (lv_at hl 0 rfl) ?_
        have e9 : fX3_stores v fw fd fs fn w x y = (fX3_refusal4 (x + (fX3_immediateS w)), fd) := by rw [fX3_stores, if_neg c_4, if_neg c_16, if_neg c_45]
        exact W.iret (v := fX3_refusal4 (x + (fX3_immediateS w))) hx hb hr (fun t ht hW => wr_endi (hAe ▸ hS) ht (by rw [e9]) (by rw [e9]; exact hP) (by rw [e9, hAe]; exact hD)) hS.2.2 dX3_stores_59
      ·
        refine lv_aload_n hx hb dX3_stores_48 rfl (lv_at hl 3 rfl) ?_
        refine lv_iload hx hb dX3_stores_49 (lv_at hl 1 rfl) ?_
        refine lv_iload hx hb dX3_stores_51 (lv_at hl 2 rfl) ?_
        refine lv_iload_n hx hb dX3_stores_53 rfl (lv_at hl 6 rfl) ?_
        refine wr_callv (va_runV (As := [.int (x + (fX3_immediateS w)), .int 4, .int y]) (rest := []) ⟨hx, hb, hml, hown, hts⟩ (kX3_store4 l dC dI cI cB h a b c d _ v fw fd fs fn (x + (fX3_immediateS w)) y (ix_rez4 c_45)) (cwV 3 hts gX3_stores_X3_store rfl rfl rfl (by decide +kernel) ⟨Nat.le_of_ble_eq_true rfl, Nat.le_of_ble_eq_true rfl⟩) (wr_preV hK hP hD (ci := 1) (q0 := 0) rfl rfl) rfl rfl hl.1 rfl (lv_room (Nat.le_of_ble_eq_true rfl)) dX3_stores_54 ⟨Nat.zero_le _, Nat.zero_le _⟩) hS hA hP hD [0, 1, 2, 3, 4] [] rfl (wr := []) rfl rfl (by decide) (fun H locs hP hD hS => ?_)
        have hP : va_P (dC, dI) vwCl (mdW cI cB h a b c d v fw (fX3_store4 v fw fd fs fn (x + (fX3_immediateS w)) y) fs fn) H := hP
        have hD : va_D A (mdW cI cB h a b c d v fw (fX3_store4 v fw fd fs fn (x + (fX3_immediateS w)) y) fs fn) := hD
        refine lv_iload hx hb dX3_stores_57 (lv_at hl 0 rfl) ?_
        have e9 : fX3_stores v fw fd fs fn w x y = (fX3_refusal4 (x + (fX3_immediateS w)), fX3_store4 v fw fd fs fn (x + (fX3_immediateS w)) y) := by rw [fX3_stores, if_neg c_4, if_neg c_16, if_pos c_45]
        exact W.iret (v := fX3_refusal4 (x + (fX3_immediateS w))) hx hb hr (fun t ht hW => wr_endi (hAe ▸ hS) ht (by rw [e9]) (by rw [e9]; exact hP) (by rw [e9, hAe]; exact hD)) hS.2.2 dX3_stores_59
    ·
      refine lv_iconst (v := 2) hx hb dX3_stores_19 (by decide) ?_
      refine lv_goto (tgt := 24) hx hb dX3_stores_20 (by decide) ?_
      refine lv_istore (lv' := [(4, .int 2), (0, .ref h), (1, .int w), (2, .int x), (3, .int y)]) hx hb dX3_stores_24 hl (by decide) rfl (fun ls hl => ?_)
      refine lv_iload_n hx hb dX3_stores_26 rfl (lv_at hl 3 rfl) ?_
      refine lv_iload_n hx hb dX3_stores_27 rfl (lv_at hl 2 rfl) ?_
      refine ro_call (va_runS (As := [.int w]) (rest := [.int x]) ⟨hx, hb, hml, hown, hts⟩ (kX3_immediateS l w ) (va_cwS 1 hts gX3_stores_X3_immediateS rfl rfl rfl (by decide +kernel) ⟨Nat.le_of_ble_eq_true rfl, Nat.le_of_ble_eq_true rfl⟩) pu_preS rfl rfl hl.1 rfl (lv_room (Nat.le_of_ble_eq_true rfl)) dX3_stores_28 ⟨Nat.zero_le _, Nat.zero_le _⟩) hS (fun H locs hk hS => ?_)
      have hP := hk _ _ _ hP
      refine lv_iadd hx hb dX3_stores_31 ?_
      refine lv_istore (lv' := [(5, .int (x + (fX3_immediateS w))), (4, .int 2), (0, .ref h), (1, .int w), (2, .int x), (3, .int y)]) hx hb dX3_stores_32 hl (by decide) rfl (fun ls hl => ?_)
      refine lv_iload hx hb dX3_stores_34 (lv_at hl 0 rfl) ?_
      refine lv_iload hx hb dX3_stores_36 (lv_at hl 1 rfl) ?_
      refine ro_call (va_runS (As := [.int (x + (fX3_immediateS w)), .int 2]) (rest := []) ⟨hx, hb, hml, hown, hts⟩ (kX3_refusal2 l (x + (fX3_immediateS w)) ) (va_cwS 2 hts gX3_stores_X3_refusal rfl rfl rfl (by decide +kernel) ⟨Nat.le_of_ble_eq_true rfl, Nat.le_of_ble_eq_true rfl⟩) pu_preS rfl rfl hl.1 rfl (lv_room (Nat.le_of_ble_eq_true rfl)) dX3_stores_38 ⟨Nat.zero_le _, Nat.zero_le _⟩) hS (fun H locs hk hS => ?_)
      have hP := hk _ _ _ hP
      refine lv_istore (lv' := [(6, .int (fX3_refusal2 (x + (fX3_immediateS w)))), (5, .int (x + (fX3_immediateS w))), (4, .int 2), (0, .ref h), (1, .int w), (2, .int x), (3, .int y)]) hx hb dX3_stores_41 hl (by decide) rfl (fun ls hl => ?_)
      refine lv_iload hx hb dX3_stores_43 (lv_at hl 0 rfl) ?_
      refine lv_if_ne (tgt := 57) hx hb dX3_stores_45 (by decide) (fun c_45 => ?_) (fun c_45 => ?_)
      ·
        refine lv_iload hx hb dX3_stores_57 (lv_at hl 0 rfl) ?_
        have e9 : fX3_stores v fw fd fs fn w x y = (fX3_refusal2 (x + (fX3_immediateS w)), fd) := by rw [fX3_stores, if_neg c_4, if_pos c_16, if_neg c_45]
        exact W.iret (v := fX3_refusal2 (x + (fX3_immediateS w))) hx hb hr (fun t ht hW => wr_endi (hAe ▸ hS) ht (by rw [e9]) (by rw [e9]; exact hP) (by rw [e9, hAe]; exact hD)) hS.2.2 dX3_stores_59
      ·
        refine lv_aload_n hx hb dX3_stores_48 rfl (lv_at hl 3 rfl) ?_
        refine lv_iload hx hb dX3_stores_49 (lv_at hl 1 rfl) ?_
        refine lv_iload hx hb dX3_stores_51 (lv_at hl 2 rfl) ?_
        refine lv_iload_n hx hb dX3_stores_53 rfl (lv_at hl 6 rfl) ?_
        refine wr_callv (va_runV (As := [.int (x + (fX3_immediateS w)), .int 2, .int y]) (rest := []) ⟨hx, hb, hml, hown, hts⟩ (kX3_store2 l dC dI cI cB h a b c d _ v fw fd fs fn (x + (fX3_immediateS w)) y (ix_rez2 c_45)) (cwV 3 hts gX3_stores_X3_store rfl rfl rfl (by decide +kernel) ⟨Nat.le_of_ble_eq_true rfl, Nat.le_of_ble_eq_true rfl⟩) (wr_preV hK hP hD (ci := 1) (q0 := 0) rfl rfl) rfl rfl hl.1 rfl (lv_room (Nat.le_of_ble_eq_true rfl)) dX3_stores_54 ⟨Nat.zero_le _, Nat.zero_le _⟩) hS hA hP hD [0, 1, 2, 3, 4] [] rfl (wr := []) rfl rfl (by decide) (fun H locs hP hD hS => ?_)
        have hP : va_P (dC, dI) vwCl (mdW cI cB h a b c d v fw (fX3_store2 v fw fd fs fn (x + (fX3_immediateS w)) y) fs fn) H := hP
        have hD : va_D A (mdW cI cB h a b c d v fw (fX3_store2 v fw fd fs fn (x + (fX3_immediateS w)) y) fs fn) := hD
        refine lv_iload hx hb dX3_stores_57 (lv_at hl 0 rfl) ?_
        have e9 : fX3_stores v fw fd fs fn w x y = (fX3_refusal2 (x + (fX3_immediateS w)), fX3_store2 v fw fd fs fn (x + (fX3_immediateS w)) y) := by rw [fX3_stores, if_neg c_4, if_pos c_16, if_pos c_45]
        exact W.iret (v := fX3_refusal2 (x + (fX3_immediateS w))) hx hb hr (fun t ht hW => wr_endi (hAe ▸ hS) ht (by rw [e9]) (by rw [e9]; exact hP) (by rw [e9, hAe]; exact hD)) hS.2.2 dX3_stores_59
  ·
    refine lv_iconst (v := 1) hx hb dX3_stores_7 (by decide) ?_
    refine lv_goto (tgt := 24) hx hb dX3_stores_8 (by decide) ?_
    refine lv_istore (lv' := [(4, .int 1), (0, .ref h), (1, .int w), (2, .int x), (3, .int y)]) hx hb dX3_stores_24 hl (by decide) rfl (fun ls hl => ?_)
    refine lv_iload_n hx hb dX3_stores_26 rfl (lv_at hl 3 rfl) ?_
    refine lv_iload_n hx hb dX3_stores_27 rfl (lv_at hl 2 rfl) ?_
    refine ro_call (va_runS (As := [.int w]) (rest := [.int x]) ⟨hx, hb, hml, hown, hts⟩ (kX3_immediateS l w ) (va_cwS 1 hts gX3_stores_X3_immediateS rfl rfl rfl (by decide +kernel) ⟨Nat.le_of_ble_eq_true rfl, Nat.le_of_ble_eq_true rfl⟩) pu_preS rfl rfl hl.1 rfl (lv_room (Nat.le_of_ble_eq_true rfl)) dX3_stores_28 ⟨Nat.zero_le _, Nat.zero_le _⟩) hS (fun H locs hk hS => ?_)
    have hP := hk _ _ _ hP
    refine lv_iadd hx hb dX3_stores_31 ?_
    refine lv_istore (lv' := [(5, .int (x + (fX3_immediateS w))), (4, .int 1), (0, .ref h), (1, .int w), (2, .int x), (3, .int y)]) hx hb dX3_stores_32 hl (by decide) rfl (fun ls hl => ?_)
    refine lv_iload hx hb dX3_stores_34 (lv_at hl 0 rfl) ?_
    refine lv_iload hx hb dX3_stores_36 (lv_at hl 1 rfl) ?_
    refine ro_call (va_runS (As := [.int (x + (fX3_immediateS w)), .int 1]) (rest := []) ⟨hx, hb, hml, hown, hts⟩ (kX3_refusal1 l (x + (fX3_immediateS w)) ) (va_cwS 2 hts gX3_stores_X3_refusal rfl rfl rfl (by decide +kernel) ⟨Nat.le_of_ble_eq_true rfl, Nat.le_of_ble_eq_true rfl⟩) pu_preS rfl rfl hl.1 rfl (lv_room (Nat.le_of_ble_eq_true rfl)) dX3_stores_38 ⟨Nat.zero_le _, Nat.zero_le _⟩) hS (fun H locs hk hS => ?_)
    have hP := hk _ _ _ hP
    refine lv_istore (lv' := [(6, .int (fX3_refusal1 (x + (fX3_immediateS w)))), (5, .int (x + (fX3_immediateS w))), (4, .int 1), (0, .ref h), (1, .int w), (2, .int x), (3, .int y)]) hx hb dX3_stores_41 hl (by decide) rfl (fun ls hl => ?_)
    refine lv_iload hx hb dX3_stores_43 (lv_at hl 0 rfl) ?_
    refine lv_if_ne (tgt := 57) hx hb dX3_stores_45 (by decide) (fun c_45 => ?_) (fun c_45 => ?_)
    ·
      refine lv_iload hx hb dX3_stores_57 (lv_at hl 0 rfl) ?_
      have e9 : fX3_stores v fw fd fs fn w x y = (fX3_refusal1 (x + (fX3_immediateS w)), fd) := by rw [fX3_stores, if_pos c_4, if_neg c_45]
      exact W.iret (v := fX3_refusal1 (x + (fX3_immediateS w))) hx hb hr (fun t ht hW => wr_endi (hAe ▸ hS) ht (by rw [e9]) (by rw [e9]; exact hP) (by rw [e9, hAe]; exact hD)) hS.2.2 dX3_stores_59
    ·
      refine lv_aload_n hx hb dX3_stores_48 rfl (lv_at hl 3 rfl) ?_
      refine lv_iload hx hb dX3_stores_49 (lv_at hl 1 rfl) ?_
      refine lv_iload hx hb dX3_stores_51 (lv_at hl 2 rfl) ?_
      refine lv_iload_n hx hb dX3_stores_53 rfl (lv_at hl 6 rfl) ?_
      refine wr_callv (va_runV (As := [.int (x + (fX3_immediateS w)), .int 1, .int y]) (rest := []) ⟨hx, hb, hml, hown, hts⟩ (kX3_store1 l dC dI cI cB h a b c d _ v fw fd fs fn (x + (fX3_immediateS w)) y (ix_rez1 c_45)) (cwV 3 hts gX3_stores_X3_store rfl rfl rfl (by decide +kernel) ⟨Nat.le_of_ble_eq_true rfl, Nat.le_of_ble_eq_true rfl⟩) (wr_preV hK hP hD (ci := 1) (q0 := 0) rfl rfl) rfl rfl hl.1 rfl (lv_room (Nat.le_of_ble_eq_true rfl)) dX3_stores_54 ⟨Nat.zero_le _, Nat.zero_le _⟩) hS hA hP hD [0, 1, 2, 3, 4] [] rfl (wr := []) rfl rfl (by decide) (fun H locs hP hD hS => ?_)
      have hP : va_P (dC, dI) vwCl (mdW cI cB h a b c d v fw (fX3_store1 v fw fd fs fn (x + (fX3_immediateS w)) y) fs fn) H := hP
      have hD : va_D A (mdW cI cB h a b c d v fw (fX3_store1 v fw fd fs fn (x + (fX3_immediateS w)) y) fs fn) := hD
      refine lv_iload hx hb dX3_stores_57 (lv_at hl 0 rfl) ?_
      have e9 : fX3_stores v fw fd fs fn w x y = (fX3_refusal1 (x + (fX3_immediateS w)), fX3_store1 v fw fd fs fn (x + (fX3_immediateS w)) y) := by rw [fX3_stores, if_pos c_4, if_pos c_45]
      exact W.iret (v := fX3_refusal1 (x + (fX3_immediateS w))) hx hb hr (fun t ht hW => wr_endi (hAe ▸ hS) ht (by rw [e9]) (by rw [e9]; exact hP) (by rw [e9, hAe]; exact hD)) hS.2.2 dX3_stores_59
def fX3_work (v fw fd fs fn : Nat → Int32) (w : Int32) : Int32 × (Nat → Int32) × (Nat → Int32) := (if (fX3_opcode w) = 3 then ((fX3_loads (upd v 17 (fX3_rd w)) fw fd fs fn w (fn (fX3_rs1 w).toNatClampNeg)).1, (fX3_loads (upd v 17 (fX3_rd w)) fw fd fs fn w (fn (fX3_rs1 w).toNatClampNeg)).2, fd) else (if (fX3_opcode w) = 15 then ((0 : Int32), upd (upd v 17 (fX3_rd w)) 17 0, fd) else (if (fX3_opcode w) = 19 then (if (fX3_f3 w) = 5 then (if (fX3_f7 w) = 32 then ((0 : Int32), upd (upd v 17 (fX3_rd w)) 18 (fX3_reckon (fX3_f3 w) 1 (fn (fX3_rs1 w).toNatClampNeg) (w >>> (20 &&& 31))), fd) else ((0 : Int32), upd (upd v 17 (fX3_rd w)) 18 (fX3_reckon (fX3_f3 w) 0 (fn (fX3_rs1 w).toNatClampNeg) (w >>> (20 &&& 31))), fd)) else ((0 : Int32), upd (upd v 17 (fX3_rd w)) 18 (fX3_reckon (fX3_f3 w) 0 (fn (fX3_rs1 w).toNatClampNeg) (w >>> (20 &&& 31))), fd)) else (if (fX3_opcode w) = 23 then ((0 : Int32), upd (upd v 17 (fX3_rd w)) 18 ((v 11) + (w &&& (-4096))), fd) else (if (fX3_opcode w) = 35 then ((fX3_stores (upd (upd v 17 (fX3_rd w)) 17 0) fw fd fs fn w (fn (fX3_rs1 w).toNatClampNeg) (fn (fX3_rs2 w).toNatClampNeg)).1, upd (upd v 17 (fX3_rd w)) 17 0, (fX3_stores (upd (upd v 17 (fX3_rd w)) 17 0) fw fd fs fn w (fn (fX3_rs1 w).toNatClampNeg) (fn (fX3_rs2 w).toNatClampNeg)).2) else (if (fX3_opcode w) = 51 then (if (fX3_f7 w) = 32 then ((0 : Int32), upd (upd v 17 (fX3_rd w)) 18 (fX3_reckon (fX3_f3 w) 1 (fn (fX3_rs1 w).toNatClampNeg) (fn (fX3_rs2 w).toNatClampNeg)), fd) else ((0 : Int32), upd (upd v 17 (fX3_rd w)) 18 (fX3_reckon (fX3_f3 w) 0 (fn (fX3_rs1 w).toNatClampNeg) (fn (fX3_rs2 w).toNatClampNeg)), fd)) else (if (fX3_opcode w) = 55 then ((0 : Int32), upd (upd v 17 (fX3_rd w)) 18 (w &&& (-4096)), fd) else (if (fX3_opcode w) = 99 then (if (fX3_holds (fX3_f3 w) (fn (fX3_rs1 w).toNatClampNeg) (fn (fX3_rs2 w).toNatClampNeg)) = 0 then ((0 : Int32), upd (upd v 17 (fX3_rd w)) 17 0, fd) else ((fX3_jump (upd (upd v 17 (fX3_rd w)) 17 0) fw fd fs fn ((v 11) + (fX3_immediateB w))).1, (fX3_jump (upd (upd v 17 (fX3_rd w)) 17 0) fw fd fs fn ((v 11) + (fX3_immediateB w))).2, fd)) else (if (fX3_opcode w) = 103 then ((fX3_jump (upd (upd v 17 (fX3_rd w)) 18 ((v 11) + 4)) fw fd fs fn (((fn (fX3_rs1 w).toNatClampNeg) + (w >>> (20 &&& 31))) &&& (-2))).1, (fX3_jump (upd (upd v 17 (fX3_rd w)) 18 ((v 11) + 4)) fw fd fs fn (((fn (fX3_rs1 w).toNatClampNeg) + (w >>> (20 &&& 31))) &&& (-2))).2, fd) else (if (fX3_opcode w) = 111 then ((fX3_jump (upd (upd v 17 (fX3_rd w)) 18 ((v 11) + 4)) fw fd fs fn ((v 11) + (fX3_immediateJ w))).1, (fX3_jump (upd (upd v 17 (fX3_rd w)) 18 ((v 11) + 4)) fw fd fs fn ((v 11) + (fX3_immediateJ w))).2, fd) else (if w = 115 then ((1 : Int32), upd v 17 (fX3_rd w), fd) else ((2 : Int32), upd v 17 (fX3_rd w), fd))))))))))))
set_option maxHeartbeats 4000000 in
set_option maxRecDepth 100000 in
theorem kX3_work (l : Launch) (dC : Nat → ClassId) (dI : Nat → Nat → Nat) (cI cB : ClassId) (h a b c d : Nat) (sz : Nat) (v fw fd fs fn : Nat → Int32) (w : Int32) : Met l yX3_work wsX3_work ({ frames := 2, cells := 0, slots := 0, locals := 50 }) (wr_Pc [.ref h, .int w] (dC, dI) vwCl (tyIB cI cB) (mdW cI cB h a b c d v fw fd fs fn) sz) (wr_Qi (fX3_work v fw fd fs fn w).1 (mdW cI cB h a b c d ((fX3_work v fw fd fs fn w).2.1) fw ((fX3_work v fw fd fs fn w).2.2) fs fn) (dC, dI) vwCl (mdW cI cB h a b c d v fw fd fs fn) sz) 0 0 (va_A (mdW cI cB h a b c d v fw fd fs fn) sz) := by
  refine Met.ofW (cc := cX3_work) (maxL := 4) (ret := (some .int)) (by decide) rfl ?_
  intro p e s m args below meth c9 s₁ B hml hv
  obtain ⟨rfl, hsz, hP, hK, hD0⟩ := hv
  have hx := B.exec
  have hb := B.bytes
  have hr := B.returns
  have hts := atoms_spec (ws := wsX3_work) B.pre
  have hown : s.vm.findClass RX3 = some m.cls := findClass_of_methodNamed B.named
  have hlocks := B.notSynchronized
  subst hsz
  have hD := hD0.self (sz := s.heap.size)
  generalize hAe : va_A (mdW cI cB h a b c d v fw fd fs fn) s.heap.size = A at hD ⊢
  have hA : ∀ q : Nat, s.heap.size ≤ q → A q := fun q h => by rw [← hAe]; exact Or.inr h
  have hS : va_S A s.heap s.heap [] := va_S.rf
  have hin : ∀ w ∈ wsX30, w ∈ wsX3_work := by decide +kernel
  have hf_20 := hts (.fieldLink RX3 20 "PipeWorksModel" "now" "[I") (by decide +kernel)
  have hf_49 := hts (.fieldLink RX3 49 "PipeWorksModel" "pc" "I") (by decide +kernel)
  have hf_105 := hts (.fieldLink RX3 105 "PipeWorksModel" "result" "I") (by decide +kernel)
  have hf_114 := hts (.fieldLink RX3 114 "PipeWorksModel" "waitsFor" "I") (by decide +kernel)
  have hl := lv_entry ([.ref h, .int w]) (n := 4) (Nat.le_of_ble_eq_true rfl)
  rw [lg_entry_eq]
  generalize (lg_sl ([.ref h, .int w]) ++ List.replicate (4 - (lg_sl ([.ref h, .int w])).length) Slot.unset).toArray = ls at hl ⊢
  have hl : lv_has ls 4 [(0, .ref h), (1, .int w)] := hl
  refine lv_aload_n hx hb dX3_work_0 rfl (lv_at hl 0 rfl) ?_
  refine va_get (D := (dC, dI)) (ci := 1) (v := .ref d) (C := RX3) (T := TX3) (N := 21) hx hb hts hin hown hK hP 0 rfl rfl 4 (by decide) hf_20 (fun _ h9 => h9) rfl dX3_work_1 ?_
  refine lv_iload_n hx hb dX3_work_4 rfl (lv_at hl 1 rfl) ?_
  refine ro_call (va_runS (As := [.int w]) (rest := [.ref d]) ⟨hx, hb, hml, hown, hts⟩ (kX3_rs1 l w ) (va_cwS 1 hts gX3_work_X3_rs1 rfl rfl rfl (by decide +kernel) ⟨Nat.le_of_ble_eq_true rfl, Nat.le_of_ble_eq_true rfl⟩) pu_preS rfl rfl hl.1 rfl (lv_room (Nat.le_of_ble_eq_true rfl)) dX3_work_5 ⟨Nat.zero_le _, Nat.zero_le _⟩) hS (fun H locs hk hS => ?_)
  have hP := hk _ _ _ hP
  refine va_iald hx hb hK hP 4 0 rfl rfl (ix_x3rs1 w) dX3_work_8 ?_
  refine lv_istore_n (lv' := [(2, .int (fn (fX3_rs1 w).toNatClampNeg)), (0, .ref h), (1, .int w)]) hx hb dX3_work_9 rfl hl (by decide) rfl (fun ls hl => ?_)
  refine lv_aload_n hx hb dX3_work_10 rfl (lv_at hl 1 rfl) ?_
  refine va_get (D := (dC, dI)) (ci := 1) (v := .ref d) (C := RX3) (T := TX3) (N := 21) hx hb hts hin hown hK hP 0 rfl rfl 4 (by decide) hf_20 (fun _ h9 => h9) rfl dX3_work_11 ?_
  refine lv_iload_n hx hb dX3_work_14 rfl (lv_at hl 2 rfl) ?_
  refine ro_call (va_runS (As := [.int w]) (rest := [.ref d]) ⟨hx, hb, hml, hown, hts⟩ (kX3_rs2 l w ) (va_cwS 1 hts gX3_work_X3_rs2 rfl rfl rfl (by decide +kernel) ⟨Nat.le_of_ble_eq_true rfl, Nat.le_of_ble_eq_true rfl⟩) pu_preS rfl rfl hl.1 rfl (lv_room (Nat.le_of_ble_eq_true rfl)) dX3_work_15 ⟨Nat.zero_le _, Nat.zero_le _⟩) hS (fun H locs hk hS => ?_)
  have hP := hk _ _ _ hP
  refine va_iald hx hb hK hP 4 0 rfl rfl (ix_x3rs2 w) dX3_work_18 ?_
  refine lv_istore_n (lv' := [(3, .int (fn (fX3_rs2 w).toNatClampNeg)), (2, .int (fn (fX3_rs1 w).toNatClampNeg)), (0, .ref h), (1, .int w)]) hx hb dX3_work_19 rfl hl (by decide) rfl (fun ls hl => ?_)
  refine lv_aload_n hx hb dX3_work_20 rfl (lv_at hl 2 rfl) ?_
  refine lv_iload_n hx hb dX3_work_21 rfl (lv_at hl 3 rfl) ?_
  refine ro_call (va_runS (As := [.int w]) (rest := [.ref h]) ⟨hx, hb, hml, hown, hts⟩ (kX3_rd l w ) (va_cwS 1 hts gX3_work_X3_rd rfl rfl rfl (by decide +kernel) ⟨Nat.le_of_ble_eq_true rfl, Nat.le_of_ble_eq_true rfl⟩) pu_preS rfl rfl hl.1 rfl (lv_room (Nat.le_of_ble_eq_true rfl)) dX3_work_22 ⟨Nat.zero_le _, Nat.zero_le _⟩) hS (fun H locs hk hS => ?_)
  have hP := hk _ _ _ hP
  refine va_put (D := (dC, dI)) (ci := 1) (v := .int (fX3_rd w)) (ty := .int) (C := RX3) (T := TX3) (N := 21) hx hb hts hin tyX3 tyX3_ok nmX3 hown hK hP hD hS 0 rfl rfl 17 (by decide) hf_114 (fun _ h9 => h9) rfl (by decide +kernel) rfl rfl (Nat.le_of_ble_eq_true rfl) dX3_work_25 (fun H locs hP hD hS => ?_)
  have hP : va_P (dC, dI) vwCl (mdW cI cB h a b c d (upd v 17 (fX3_rd w)) fw fd fs fn) H := hP
  have hD : va_D A (mdW cI cB h a b c d (upd v 17 (fX3_rd w)) fw fd fs fn) := hD
  refine lv_iload_n hx hb dX3_work_28 rfl (lv_at hl 3 rfl) ?_
  refine ro_call (va_runS (As := [.int w]) (rest := []) ⟨hx, hb, hml, hown, hts⟩ (kX3_opcode l w ) (va_cwS 1 hts gX3_work_X3_opcode rfl rfl rfl (by decide +kernel) ⟨Nat.le_of_ble_eq_true rfl, Nat.le_of_ble_eq_true rfl⟩) pu_preS rfl rfl hl.1 rfl (lv_room (Nat.le_of_ble_eq_true rfl)) dX3_work_29 ⟨Nat.zero_le _, Nat.zero_le _⟩) hS (fun H locs hk hS => ?_)
  have hP := hk _ _ _ hP
  by_cases c_32_3 : (fX3_opcode w) = 3
  ·
    refine lv_lookup (off := 202) (tgt := 234) hx hb dX3_work_32 (by decide) (by rw [c_32_3]; decide) (by decide) ?_
    refine lv_aload_n hx hb dX3_work_234 rfl (lv_at hl 2 rfl) ?_
    refine lv_iload_n hx hb dX3_work_235 rfl (lv_at hl 3 rfl) ?_
    refine lv_iload_n hx hb dX3_work_236 rfl (lv_at hl 1 rfl) ?_
    refine wr_calli (va_runV (As := [.int w, .int (fn (fX3_rs1 w).toNatClampNeg)]) (rest := []) ⟨hx, hb, hml, hown, hts⟩ (kX3_loads l dC dI cI cB h a b c d _ (upd v 17 (fX3_rd w)) fw fd fs fn w (fn (fX3_rs1 w).toNatClampNeg) ) (cwV 2 hts gX3_work_X3_loads rfl rfl rfl (by decide +kernel) ⟨Nat.le_of_ble_eq_true rfl, Nat.le_of_ble_eq_true rfl⟩) (wr_preV hK hP hD (ci := 1) (q0 := 0) rfl rfl) rfl rfl hl.1 rfl (lv_room (Nat.le_of_ble_eq_true rfl)) dX3_work_237 ⟨Nat.zero_le _, Nat.zero_le _⟩) hS hA hP hD [0, 1, 2, 3, 4] [] rfl (wr := []) rfl rfl (by decide) (fun H locs hP hD hS => ?_)
    have hP : va_P (dC, dI) vwCl (mdW cI cB h a b c d ((fX3_loads (upd v 17 (fX3_rd w)) fw fd fs fn w (fn (fX3_rs1 w).toNatClampNeg)).2) fw fd fs fn) H := hP
    have hD : va_D A (mdW cI cB h a b c d ((fX3_loads (upd v 17 (fX3_rd w)) fw fd fs fn w (fn (fX3_rs1 w).toNatClampNeg)).2) fw fd fs fn) := hD
    have e9 : fX3_work v fw fd fs fn w = ((fX3_loads (upd v 17 (fX3_rd w)) fw fd fs fn w (fn (fX3_rs1 w).toNatClampNeg)).1, (fX3_loads (upd v 17 (fX3_rd w)) fw fd fs fn w (fn (fX3_rs1 w).toNatClampNeg)).2, fd) := by rw [fX3_work, if_pos c_32_3]
    exact W.iret (v := (fX3_loads (upd v 17 (fX3_rd w)) fw fd fs fn w (fn (fX3_rs1 w).toNatClampNeg)).1) hx hb hr (fun t ht hW => wr_endi (hAe ▸ hS) ht (by rw [e9]) (by rw [e9]; exact hP) (by rw [e9, hAe]; exact hD)) hS.2.2 dX3_work_240
  by_cases c_32_15 : (fX3_opcode w) = 15
  ·
    refine lv_lookup (off := 291) (tgt := 323) hx hb dX3_work_32 (by decide) (by rw [c_32_15]; decide) (by decide) ?_
    refine lv_aload_n hx hb dX3_work_323 rfl (lv_at hl 2 rfl) ?_
    refine lv_iconst (v := 0) hx hb dX3_work_324 (by decide) ?_
    refine va_put (D := (dC, dI)) (ci := 1) (v := .int 0) (ty := .int) (C := RX3) (T := TX3) (N := 21) hx hb hts hin tyX3 tyX3_ok nmX3 hown hK hP hD hS 0 rfl rfl 17 (by decide) hf_114 (fun _ h9 => h9) rfl (by decide +kernel) rfl rfl (Nat.le_of_ble_eq_true rfl) dX3_work_325 (fun H locs hP hD hS => ?_)
    have hP : va_P (dC, dI) vwCl (mdW cI cB h a b c d (upd (upd v 17 (fX3_rd w)) 17 0) fw fd fs fn) H := hP
    have hD : va_D A (mdW cI cB h a b c d (upd (upd v 17 (fX3_rd w)) 17 0) fw fd fs fn) := hD
    refine lv_iconst (v := 0) hx hb dX3_work_328 (by decide) ?_
    have e9 : fX3_work v fw fd fs fn w = ((0 : Int32), upd (upd v 17 (fX3_rd w)) 17 0, fd) := by rw [fX3_work, if_neg c_32_3, if_pos c_32_15]
    exact W.iret (v := 0) hx hb hr (fun t ht hW => wr_endi (hAe ▸ hS) ht (by rw [e9]) (by rw [e9]; exact hP) (by rw [e9, hAe]; exact hD)) hS.2.2 dX3_work_329
  by_cases c_32_19 : (fX3_opcode w) = 19
  ·
    refine lv_lookup (off := 222) (tgt := 254) hx hb dX3_work_32 (by decide) (by rw [c_32_19]; decide) (by decide) ?_
    refine lv_aload_n hx hb dX3_work_254 rfl (lv_at hl 2 rfl) ?_
    refine lv_iload_n hx hb dX3_work_255 rfl (lv_at hl 3 rfl) ?_
    refine ro_call (va_runS (As := [.int w]) (rest := [.ref h]) ⟨hx, hb, hml, hown, hts⟩ (kX3_f3 l w ) (va_cwS 1 hts gX3_work_X3_f3 rfl rfl rfl (by decide +kernel) ⟨Nat.le_of_ble_eq_true rfl, Nat.le_of_ble_eq_true rfl⟩) pu_preS rfl rfl hl.1 rfl (lv_room (Nat.le_of_ble_eq_true rfl)) dX3_work_256 ⟨Nat.zero_le _, Nat.zero_le _⟩) hS (fun H locs hk hS => ?_)
    have hP := hk _ _ _ hP
    refine lv_iload_n hx hb dX3_work_259 rfl (lv_at hl 3 rfl) ?_
    refine ro_call (va_runS (As := [.int w]) (rest := [.int (fX3_f3 w), .ref h]) ⟨hx, hb, hml, hown, hts⟩ (kX3_f3 l w ) (va_cwS 1 hts gX3_work_X3_f3 rfl rfl rfl (by decide +kernel) ⟨Nat.le_of_ble_eq_true rfl, Nat.le_of_ble_eq_true rfl⟩) pu_preS rfl rfl hl.1 rfl (lv_room (Nat.le_of_ble_eq_true rfl)) dX3_work_260 ⟨Nat.zero_le _, Nat.zero_le _⟩) hS (fun H locs hk hS => ?_)
    have hP := hk _ _ _ hP
    refine lv_iconst (v := 5) hx hb dX3_work_263 (by decide) ?_
    refine lv_icmp_ne (tgt := 280) hx hb dX3_work_264 (by decide) (fun c_264 => ?_) (fun c_264 => ?_)
    ·
      refine lv_iconst (v := 0) hx hb dX3_work_280 (by decide) ?_
      refine lv_iload_n hx hb dX3_work_281 rfl (lv_at hl 1 rfl) ?_
      refine lv_iload_n hx hb dX3_work_282 rfl (lv_at hl 3 rfl) ?_
      refine lv_bipush (v := 20) hx hb dX3_work_283 (by decide) ?_
      refine lv_ishr hx hb dX3_work_285 ?_
      refine ro_call (va_runS (As := [.int (fX3_f3 w), .int 0, .int (fn (fX3_rs1 w).toNatClampNeg), .int (w >>> (20 &&& 31))]) (rest := [.ref h]) ⟨hx, hb, hml, hown, hts⟩ (kX3_reckon l (fX3_f3 w) 0 (fn (fX3_rs1 w).toNatClampNeg) (w >>> (20 &&& 31)) ) (va_cwS 4 hts gX3_work_X3_reckon rfl rfl rfl (by decide +kernel) ⟨Nat.le_of_ble_eq_true rfl, Nat.le_of_ble_eq_true rfl⟩) pu_preS rfl rfl hl.1 rfl (lv_room (Nat.le_of_ble_eq_true rfl)) dX3_work_286 ⟨Nat.zero_le _, Nat.zero_le _⟩) hS (fun H locs hk hS => ?_)
      have hP := hk _ _ _ hP
      refine va_put (D := (dC, dI)) (ci := 1) (v := .int (fX3_reckon (fX3_f3 w) 0 (fn (fX3_rs1 w).toNatClampNeg) (w >>> (20 &&& 31)))) (ty := .int) (C := RX3) (T := TX3) (N := 21) hx hb hts hin tyX3 tyX3_ok nmX3 hown hK hP hD hS 0 rfl rfl 18 (by decide) hf_105 (fun _ h9 => h9) rfl (by decide +kernel) rfl rfl (Nat.le_of_ble_eq_true rfl) dX3_work_289 (fun H locs hP hD hS => ?_)
      have hP : va_P (dC, dI) vwCl (mdW cI cB h a b c d (upd (upd v 17 (fX3_rd w)) 18 (fX3_reckon (fX3_f3 w) 0 (fn (fX3_rs1 w).toNatClampNeg) (w >>> (20 &&& 31)))) fw fd fs fn) H := hP
      have hD : va_D A (mdW cI cB h a b c d (upd (upd v 17 (fX3_rd w)) 18 (fX3_reckon (fX3_f3 w) 0 (fn (fX3_rs1 w).toNatClampNeg) (w >>> (20 &&& 31)))) fw fd fs fn) := hD
      refine lv_iconst (v := 0) hx hb dX3_work_292 (by decide) ?_
      have e9 : fX3_work v fw fd fs fn w = ((0 : Int32), upd (upd v 17 (fX3_rd w)) 18 (fX3_reckon (fX3_f3 w) 0 (fn (fX3_rs1 w).toNatClampNeg) (w >>> (20 &&& 31))), fd) := by rw [fX3_work, if_neg c_32_3, if_neg c_32_15, if_pos c_32_19, if_neg c_264]
      exact W.iret (v := 0) hx hb hr (fun t ht hW => wr_endi (hAe ▸ hS) ht (by rw [e9]) (by rw [e9]; exact hP) (by rw [e9, hAe]; exact hD)) hS.2.2 dX3_work_293
    ·
      refine lv_iload_n hx hb dX3_work_267 rfl (lv_at hl 3 rfl) ?_
      refine ro_call (va_runS (As := [.int w]) (rest := [.int (fX3_f3 w), .ref h]) ⟨hx, hb, hml, hown, hts⟩ (kX3_f7 l w ) (va_cwS 1 hts gX3_work_X3_f7 rfl rfl rfl (by decide +kernel) ⟨Nat.le_of_ble_eq_true rfl, Nat.le_of_ble_eq_true rfl⟩) pu_preS rfl rfl hl.1 rfl (lv_room (Nat.le_of_ble_eq_true rfl)) dX3_work_268 ⟨Nat.zero_le _, Nat.zero_le _⟩) hS (fun H locs hk hS => ?_)
      have hP := hk _ _ _ hP
      refine lv_bipush (v := 32) hx hb dX3_work_271 (by decide) ?_
      refine lv_icmp_ne (tgt := 280) hx hb dX3_work_273 (by decide) (fun c_273 => ?_) (fun c_273 => ?_)
      ·
        refine lv_iconst (v := 0) hx hb dX3_work_280 (by decide) ?_
        refine lv_iload_n hx hb dX3_work_281 rfl (lv_at hl 1 rfl) ?_
        refine lv_iload_n hx hb dX3_work_282 rfl (lv_at hl 3 rfl) ?_
        refine lv_bipush (v := 20) hx hb dX3_work_283 (by decide) ?_
        refine lv_ishr hx hb dX3_work_285 ?_
        refine ro_call (va_runS (As := [.int (fX3_f3 w), .int 0, .int (fn (fX3_rs1 w).toNatClampNeg), .int (w >>> (20 &&& 31))]) (rest := [.ref h]) ⟨hx, hb, hml, hown, hts⟩ (kX3_reckon l (fX3_f3 w) 0 (fn (fX3_rs1 w).toNatClampNeg) (w >>> (20 &&& 31)) ) (va_cwS 4 hts gX3_work_X3_reckon rfl rfl rfl (by decide +kernel) ⟨Nat.le_of_ble_eq_true rfl, Nat.le_of_ble_eq_true rfl⟩) pu_preS rfl rfl hl.1 rfl (lv_room (Nat.le_of_ble_eq_true rfl)) dX3_work_286 ⟨Nat.zero_le _, Nat.zero_le _⟩) hS (fun H locs hk hS => ?_)
        have hP := hk _ _ _ hP
        refine va_put (D := (dC, dI)) (ci := 1) (v := .int (fX3_reckon (fX3_f3 w) 0 (fn (fX3_rs1 w).toNatClampNeg) (w >>> (20 &&& 31)))) (ty := .int) (C := RX3) (T := TX3) (N := 21) hx hb hts hin tyX3 tyX3_ok nmX3 hown hK hP hD hS 0 rfl rfl 18 (by decide) hf_105 (fun _ h9 => h9) rfl (by decide +kernel) rfl rfl (Nat.le_of_ble_eq_true rfl) dX3_work_289 (fun H locs hP hD hS => ?_)
        have hP : va_P (dC, dI) vwCl (mdW cI cB h a b c d (upd (upd v 17 (fX3_rd w)) 18 (fX3_reckon (fX3_f3 w) 0 (fn (fX3_rs1 w).toNatClampNeg) (w >>> (20 &&& 31)))) fw fd fs fn) H := hP
        have hD : va_D A (mdW cI cB h a b c d (upd (upd v 17 (fX3_rd w)) 18 (fX3_reckon (fX3_f3 w) 0 (fn (fX3_rs1 w).toNatClampNeg) (w >>> (20 &&& 31)))) fw fd fs fn) := hD
        refine lv_iconst (v := 0) hx hb dX3_work_292 (by decide) ?_
        have e9 : fX3_work v fw fd fs fn w = ((0 : Int32), upd (upd v 17 (fX3_rd w)) 18 (fX3_reckon (fX3_f3 w) 0 (fn (fX3_rs1 w).toNatClampNeg) (w >>> (20 &&& 31))), fd) := by rw [fX3_work, if_neg c_32_3, if_neg c_32_15, if_pos c_32_19, if_pos c_264, if_neg c_273]
        exact W.iret (v := 0) hx hb hr (fun t ht hW => wr_endi (hAe ▸ hS) ht (by rw [e9]) (by rw [e9]; exact hP) (by rw [e9, hAe]; exact hD)) hS.2.2 dX3_work_293
      ·
        refine lv_iconst (v := 1) hx hb dX3_work_276 (by decide) ?_
        refine lv_goto (tgt := 281) hx hb dX3_work_277 (by decide) ?_
        refine lv_iload_n hx hb dX3_work_281 rfl (lv_at hl 1 rfl) ?_
        refine lv_iload_n hx hb dX3_work_282 rfl (lv_at hl 3 rfl) ?_
        refine lv_bipush (v := 20) hx hb dX3_work_283 (by decide) ?_
        refine lv_ishr hx hb dX3_work_285 ?_
        refine ro_call (va_runS (As := [.int (fX3_f3 w), .int 1, .int (fn (fX3_rs1 w).toNatClampNeg), .int (w >>> (20 &&& 31))]) (rest := [.ref h]) ⟨hx, hb, hml, hown, hts⟩ (kX3_reckon l (fX3_f3 w) 1 (fn (fX3_rs1 w).toNatClampNeg) (w >>> (20 &&& 31)) ) (va_cwS 4 hts gX3_work_X3_reckon rfl rfl rfl (by decide +kernel) ⟨Nat.le_of_ble_eq_true rfl, Nat.le_of_ble_eq_true rfl⟩) pu_preS rfl rfl hl.1 rfl (lv_room (Nat.le_of_ble_eq_true rfl)) dX3_work_286 ⟨Nat.zero_le _, Nat.zero_le _⟩) hS (fun H locs hk hS => ?_)
        have hP := hk _ _ _ hP
        refine va_put (D := (dC, dI)) (ci := 1) (v := .int (fX3_reckon (fX3_f3 w) 1 (fn (fX3_rs1 w).toNatClampNeg) (w >>> (20 &&& 31)))) (ty := .int) (C := RX3) (T := TX3) (N := 21) hx hb hts hin tyX3 tyX3_ok nmX3 hown hK hP hD hS 0 rfl rfl 18 (by decide) hf_105 (fun _ h9 => h9) rfl (by decide +kernel) rfl rfl (Nat.le_of_ble_eq_true rfl) dX3_work_289 (fun H locs hP hD hS => ?_)
        have hP : va_P (dC, dI) vwCl (mdW cI cB h a b c d (upd (upd v 17 (fX3_rd w)) 18 (fX3_reckon (fX3_f3 w) 1 (fn (fX3_rs1 w).toNatClampNeg) (w >>> (20 &&& 31)))) fw fd fs fn) H := hP
        have hD : va_D A (mdW cI cB h a b c d (upd (upd v 17 (fX3_rd w)) 18 (fX3_reckon (fX3_f3 w) 1 (fn (fX3_rs1 w).toNatClampNeg) (w >>> (20 &&& 31)))) fw fd fs fn) := hD
        refine lv_iconst (v := 0) hx hb dX3_work_292 (by decide) ?_
        have e9 : fX3_work v fw fd fs fn w = ((0 : Int32), upd (upd v 17 (fX3_rd w)) 18 (fX3_reckon (fX3_f3 w) 1 (fn (fX3_rs1 w).toNatClampNeg) (w >>> (20 &&& 31))), fd) := by rw [fX3_work, if_neg c_32_3, if_neg c_32_15, if_pos c_32_19, if_pos c_264, if_pos c_273]
        exact W.iret (v := 0) hx hb hr (fun t ht hW => wr_endi (hAe ▸ hS) ht (by rw [e9]) (by rw [e9]; exact hP) (by rw [e9, hAe]; exact hD)) hS.2.2 dX3_work_293
  by_cases c_32_23 : (fX3_opcode w) = 23
  ·
    refine lv_lookup (off := 103) (tgt := 135) hx hb dX3_work_32 (by decide) (by rw [c_32_23]; decide) (by decide) ?_
    refine lv_aload_n hx hb dX3_work_135 rfl (lv_at hl 2 rfl) ?_
    refine lv_aload_n hx hb dX3_work_136 rfl (lv_at hl 2 rfl) ?_
    refine va_get (D := (dC, dI)) (ci := 1) (v := .int (v 11)) (C := RX3) (T := TX3) (N := 21) hx hb hts hin hown hK hP 0 rfl rfl 11 (by decide) hf_49 (fun _ h9 => h9) rfl dX3_work_137 ?_
    refine lv_iload_n hx hb dX3_work_140 rfl (lv_at hl 3 rfl) ?_
    refine lv_sipush (v := (-4096)) hx hb dX3_work_141 (by decide) ?_
    refine lv_iand hx hb dX3_work_144 ?_
    refine lv_iadd hx hb dX3_work_145 ?_
    refine va_put (D := (dC, dI)) (ci := 1) (v := .int ((v 11) + (w &&& (-4096)))) (ty := .int) (C := RX3) (T := TX3) (N := 21) hx hb hts hin tyX3 tyX3_ok nmX3 hown hK hP hD hS 0 rfl rfl 18 (by decide) hf_105 (fun _ h9 => h9) rfl (by decide +kernel) rfl rfl (Nat.le_of_ble_eq_true rfl) dX3_work_146 (fun H locs hP hD hS => ?_)
    have hP : va_P (dC, dI) vwCl (mdW cI cB h a b c d (upd (upd v 17 (fX3_rd w)) 18 ((v 11) + (w &&& (-4096)))) fw fd fs fn) H := hP
    have hD : va_D A (mdW cI cB h a b c d (upd (upd v 17 (fX3_rd w)) 18 ((v 11) + (w &&& (-4096)))) fw fd fs fn) := hD
    refine lv_iconst (v := 0) hx hb dX3_work_149 (by decide) ?_
    have e9 : fX3_work v fw fd fs fn w = ((0 : Int32), upd (upd v 17 (fX3_rd w)) 18 ((v 11) + (w &&& (-4096))), fd) := by rw [fX3_work, if_neg c_32_3, if_neg c_32_15, if_neg c_32_19, if_pos c_32_23]
    exact W.iret (v := 0) hx hb hr (fun t ht hW => wr_endi (hAe ▸ hS) ht (by rw [e9]) (by rw [e9]; exact hP) (by rw [e9, hAe]; exact hD)) hS.2.2 dX3_work_150
  by_cases c_32_35 : (fX3_opcode w) = 35
  ·
    refine lv_lookup (off := 209) (tgt := 241) hx hb dX3_work_32 (by decide) (by rw [c_32_35]; decide) (by decide) ?_
    refine lv_aload_n hx hb dX3_work_241 rfl (lv_at hl 2 rfl) ?_
    refine lv_iconst (v := 0) hx hb dX3_work_242 (by decide) ?_
    refine va_put (D := (dC, dI)) (ci := 1) (v := .int 0) (ty := .int) (C := RX3) (T := TX3) (N := 21) hx hb hts hin tyX3 tyX3_ok nmX3 hown hK hP hD hS 0 rfl rfl 17 (by decide) hf_114 (fun _ h9 => h9) rfl (by decide +kernel) rfl rfl (Nat.le_of_ble_eq_true rfl) dX3_work_243 (fun H locs hP hD hS => ?_)
    have hP : va_P (dC, dI) vwCl (mdW cI cB h a b c d (upd (upd v 17 (fX3_rd w)) 17 0) fw fd fs fn) H := hP
    have hD : va_D A (mdW cI cB h a b c d (upd (upd v 17 (fX3_rd w)) 17 0) fw fd fs fn) := hD
    refine lv_aload_n hx hb dX3_work_246 rfl (lv_at hl 2 rfl) ?_
    refine lv_iload_n hx hb dX3_work_247 rfl (lv_at hl 3 rfl) ?_
    refine lv_iload_n hx hb dX3_work_248 rfl (lv_at hl 1 rfl) ?_
    refine lv_iload_n hx hb dX3_work_249 rfl (lv_at hl 0 rfl) ?_
    refine wr_calli (va_runV (As := [.int w, .int (fn (fX3_rs1 w).toNatClampNeg), .int (fn (fX3_rs2 w).toNatClampNeg)]) (rest := []) ⟨hx, hb, hml, hown, hts⟩ (kX3_stores l dC dI cI cB h a b c d _ (upd (upd v 17 (fX3_rd w)) 17 0) fw fd fs fn w (fn (fX3_rs1 w).toNatClampNeg) (fn (fX3_rs2 w).toNatClampNeg) ) (cwV 3 hts gX3_work_X3_stores rfl rfl rfl (by decide +kernel) ⟨Nat.le_of_ble_eq_true rfl, Nat.le_of_ble_eq_true rfl⟩) (wr_preV hK hP hD (ci := 1) (q0 := 0) rfl rfl) rfl rfl hl.1 rfl (lv_room (Nat.le_of_ble_eq_true rfl)) dX3_work_250 ⟨Nat.zero_le _, Nat.zero_le _⟩) hS hA hP hD [0, 1, 2, 3, 4] [] rfl (wr := []) rfl rfl (by decide) (fun H locs hP hD hS => ?_)
    have hP : va_P (dC, dI) vwCl (mdW cI cB h a b c d (upd (upd v 17 (fX3_rd w)) 17 0) fw ((fX3_stores (upd (upd v 17 (fX3_rd w)) 17 0) fw fd fs fn w (fn (fX3_rs1 w).toNatClampNeg) (fn (fX3_rs2 w).toNatClampNeg)).2) fs fn) H := hP
    have hD : va_D A (mdW cI cB h a b c d (upd (upd v 17 (fX3_rd w)) 17 0) fw ((fX3_stores (upd (upd v 17 (fX3_rd w)) 17 0) fw fd fs fn w (fn (fX3_rs1 w).toNatClampNeg) (fn (fX3_rs2 w).toNatClampNeg)).2) fs fn) := hD
    have e9 : fX3_work v fw fd fs fn w = ((fX3_stores (upd (upd v 17 (fX3_rd w)) 17 0) fw fd fs fn w (fn (fX3_rs1 w).toNatClampNeg) (fn (fX3_rs2 w).toNatClampNeg)).1, upd (upd v 17 (fX3_rd w)) 17 0, (fX3_stores (upd (upd v 17 (fX3_rd w)) 17 0) fw fd fs fn w (fn (fX3_rs1 w).toNatClampNeg) (fn (fX3_rs2 w).toNatClampNeg)).2) := by rw [fX3_work, if_neg c_32_3, if_neg c_32_15, if_neg c_32_19, if_neg c_32_23, if_pos c_32_35]
    exact W.iret (v := (fX3_stores (upd (upd v 17 (fX3_rd w)) 17 0) fw fd fs fn w (fn (fX3_rs1 w).toNatClampNeg) (fn (fX3_rs2 w).toNatClampNeg)).1) hx hb hr (fun t ht hW => wr_endi (hAe ▸ hS) ht (by rw [e9]) (by rw [e9]; exact hP) (by rw [e9, hAe]; exact hD)) hS.2.2 dX3_work_253
  by_cases c_32_51 : (fX3_opcode w) = 51
  ·
    refine lv_lookup (off := 262) (tgt := 294) hx hb dX3_work_32 (by decide) (by rw [c_32_51]; decide) (by decide) ?_
    refine lv_aload_n hx hb dX3_work_294 rfl (lv_at hl 2 rfl) ?_
    refine lv_iload_n hx hb dX3_work_295 rfl (lv_at hl 3 rfl) ?_
    refine ro_call (va_runS (As := [.int w]) (rest := [.ref h]) ⟨hx, hb, hml, hown, hts⟩ (kX3_f3 l w ) (va_cwS 1 hts gX3_work_X3_f3 rfl rfl rfl (by decide +kernel) ⟨Nat.le_of_ble_eq_true rfl, Nat.le_of_ble_eq_true rfl⟩) pu_preS rfl rfl hl.1 rfl (lv_room (Nat.le_of_ble_eq_true rfl)) dX3_work_296 ⟨Nat.zero_le _, Nat.zero_le _⟩) hS (fun H locs hk hS => ?_)
    have hP := hk _ _ _ hP
    refine lv_iload_n hx hb dX3_work_299 rfl (lv_at hl 3 rfl) ?_
    refine ro_call (va_runS (As := [.int w]) (rest := [.int (fX3_f3 w), .ref h]) ⟨hx, hb, hml, hown, hts⟩ (kX3_f7 l w ) (va_cwS 1 hts gX3_work_X3_f7 rfl rfl rfl (by decide +kernel) ⟨Nat.le_of_ble_eq_true rfl, Nat.le_of_ble_eq_true rfl⟩) pu_preS rfl rfl hl.1 rfl (lv_room (Nat.le_of_ble_eq_true rfl)) dX3_work_300 ⟨Nat.zero_le _, Nat.zero_le _⟩) hS (fun H locs hk hS => ?_)
    have hP := hk _ _ _ hP
    refine lv_bipush (v := 32) hx hb dX3_work_303 (by decide) ?_
    refine lv_icmp_ne (tgt := 312) hx hb dX3_work_305 (by decide) (fun c_305 => ?_) (fun c_305 => ?_)
    ·
      refine lv_iconst (v := 0) hx hb dX3_work_312 (by decide) ?_
      refine lv_iload_n hx hb dX3_work_313 rfl (lv_at hl 1 rfl) ?_
      refine lv_iload_n hx hb dX3_work_314 rfl (lv_at hl 0 rfl) ?_
      refine ro_call (va_runS (As := [.int (fX3_f3 w), .int 0, .int (fn (fX3_rs1 w).toNatClampNeg), .int (fn (fX3_rs2 w).toNatClampNeg)]) (rest := [.ref h]) ⟨hx, hb, hml, hown, hts⟩ (kX3_reckon l (fX3_f3 w) 0 (fn (fX3_rs1 w).toNatClampNeg) (fn (fX3_rs2 w).toNatClampNeg) ) (va_cwS 4 hts gX3_work_X3_reckon rfl rfl rfl (by decide +kernel) ⟨Nat.le_of_ble_eq_true rfl, Nat.le_of_ble_eq_true rfl⟩) pu_preS rfl rfl hl.1 rfl (lv_room (Nat.le_of_ble_eq_true rfl)) dX3_work_315 ⟨Nat.zero_le _, Nat.zero_le _⟩) hS (fun H locs hk hS => ?_)
      have hP := hk _ _ _ hP
      refine va_put (D := (dC, dI)) (ci := 1) (v := .int (fX3_reckon (fX3_f3 w) 0 (fn (fX3_rs1 w).toNatClampNeg) (fn (fX3_rs2 w).toNatClampNeg))) (ty := .int) (C := RX3) (T := TX3) (N := 21) hx hb hts hin tyX3 tyX3_ok nmX3 hown hK hP hD hS 0 rfl rfl 18 (by decide) hf_105 (fun _ h9 => h9) rfl (by decide +kernel) rfl rfl (Nat.le_of_ble_eq_true rfl) dX3_work_318 (fun H locs hP hD hS => ?_)
      have hP : va_P (dC, dI) vwCl (mdW cI cB h a b c d (upd (upd v 17 (fX3_rd w)) 18 (fX3_reckon (fX3_f3 w) 0 (fn (fX3_rs1 w).toNatClampNeg) (fn (fX3_rs2 w).toNatClampNeg))) fw fd fs fn) H := hP
      have hD : va_D A (mdW cI cB h a b c d (upd (upd v 17 (fX3_rd w)) 18 (fX3_reckon (fX3_f3 w) 0 (fn (fX3_rs1 w).toNatClampNeg) (fn (fX3_rs2 w).toNatClampNeg))) fw fd fs fn) := hD
      refine lv_iconst (v := 0) hx hb dX3_work_321 (by decide) ?_
      have e9 : fX3_work v fw fd fs fn w = ((0 : Int32), upd (upd v 17 (fX3_rd w)) 18 (fX3_reckon (fX3_f3 w) 0 (fn (fX3_rs1 w).toNatClampNeg) (fn (fX3_rs2 w).toNatClampNeg)), fd) := by rw [fX3_work, if_neg c_32_3, if_neg c_32_15, if_neg c_32_19, if_neg c_32_23, if_neg c_32_35, if_pos c_32_51, if_neg c_305]
      exact W.iret (v := 0) hx hb hr (fun t ht hW => wr_endi (hAe ▸ hS) ht (by rw [e9]) (by rw [e9]; exact hP) (by rw [e9, hAe]; exact hD)) hS.2.2 dX3_work_322
    ·
      refine lv_iconst (v := 1) hx hb dX3_work_308 (by decide) ?_
      refine lv_goto (tgt := 313) hx hb dX3_work_309 (by decide) ?_
      refine lv_iload_n hx hb dX3_work_313 rfl (lv_at hl 1 rfl) ?_
      refine lv_iload_n hx hb dX3_work_314 rfl (lv_at hl 0 rfl) ?_
      refine ro_call (va_runS (As := [.int (fX3_f3 w), .int 1, .int (fn (fX3_rs1 w).toNatClampNeg), .int (fn (fX3_rs2 w).toNatClampNeg)]) (rest := [.ref h]) ⟨hx, hb, hml, hown, hts⟩ (kX3_reckon l (fX3_f3 w) 1 (fn (fX3_rs1 w).toNatClampNeg) (fn (fX3_rs2 w).toNatClampNeg) ) (va_cwS 4 hts gX3_work_X3_reckon rfl rfl rfl (by decide +kernel) ⟨Nat.le_of_ble_eq_true rfl, Nat.le_of_ble_eq_true rfl⟩) pu_preS rfl rfl hl.1 rfl (lv_room (Nat.le_of_ble_eq_true rfl)) dX3_work_315 ⟨Nat.zero_le _, Nat.zero_le _⟩) hS (fun H locs hk hS => ?_)
      have hP := hk _ _ _ hP
      refine va_put (D := (dC, dI)) (ci := 1) (v := .int (fX3_reckon (fX3_f3 w) 1 (fn (fX3_rs1 w).toNatClampNeg) (fn (fX3_rs2 w).toNatClampNeg))) (ty := .int) (C := RX3) (T := TX3) (N := 21) hx hb hts hin tyX3 tyX3_ok nmX3 hown hK hP hD hS 0 rfl rfl 18 (by decide) hf_105 (fun _ h9 => h9) rfl (by decide +kernel) rfl rfl (Nat.le_of_ble_eq_true rfl) dX3_work_318 (fun H locs hP hD hS => ?_)
      have hP : va_P (dC, dI) vwCl (mdW cI cB h a b c d (upd (upd v 17 (fX3_rd w)) 18 (fX3_reckon (fX3_f3 w) 1 (fn (fX3_rs1 w).toNatClampNeg) (fn (fX3_rs2 w).toNatClampNeg))) fw fd fs fn) H := hP
      have hD : va_D A (mdW cI cB h a b c d (upd (upd v 17 (fX3_rd w)) 18 (fX3_reckon (fX3_f3 w) 1 (fn (fX3_rs1 w).toNatClampNeg) (fn (fX3_rs2 w).toNatClampNeg))) fw fd fs fn) := hD
      refine lv_iconst (v := 0) hx hb dX3_work_321 (by decide) ?_
      have e9 : fX3_work v fw fd fs fn w = ((0 : Int32), upd (upd v 17 (fX3_rd w)) 18 (fX3_reckon (fX3_f3 w) 1 (fn (fX3_rs1 w).toNatClampNeg) (fn (fX3_rs2 w).toNatClampNeg)), fd) := by rw [fX3_work, if_neg c_32_3, if_neg c_32_15, if_neg c_32_19, if_neg c_32_23, if_neg c_32_35, if_pos c_32_51, if_pos c_305]
      exact W.iret (v := 0) hx hb hr (fun t ht hW => wr_endi (hAe ▸ hS) ht (by rw [e9]) (by rw [e9]; exact hP) (by rw [e9, hAe]; exact hD)) hS.2.2 dX3_work_322
  by_cases c_32_55 : (fX3_opcode w) = 55
  ·
    refine lv_lookup (off := 92) (tgt := 124) hx hb dX3_work_32 (by decide) (by rw [c_32_55]; decide) (by decide) ?_
    refine lv_aload_n hx hb dX3_work_124 rfl (lv_at hl 2 rfl) ?_
    refine lv_iload_n hx hb dX3_work_125 rfl (lv_at hl 3 rfl) ?_
    refine lv_sipush (v := (-4096)) hx hb dX3_work_126 (by decide) ?_
    refine lv_iand hx hb dX3_work_129 ?_
    refine va_put (D := (dC, dI)) (ci := 1) (v := .int (w &&& (-4096))) (ty := .int) (C := RX3) (T := TX3) (N := 21) hx hb hts hin tyX3 tyX3_ok nmX3 hown hK hP hD hS 0 rfl rfl 18 (by decide) hf_105 (fun _ h9 => h9) rfl (by decide +kernel) rfl rfl (Nat.le_of_ble_eq_true rfl) dX3_work_130 (fun H locs hP hD hS => ?_)
    have hP : va_P (dC, dI) vwCl (mdW cI cB h a b c d (upd (upd v 17 (fX3_rd w)) 18 (w &&& (-4096))) fw fd fs fn) H := hP
    have hD : va_D A (mdW cI cB h a b c d (upd (upd v 17 (fX3_rd w)) 18 (w &&& (-4096))) fw fd fs fn) := hD
    refine lv_iconst (v := 0) hx hb dX3_work_133 (by decide) ?_
    have e9 : fX3_work v fw fd fs fn w = ((0 : Int32), upd (upd v 17 (fX3_rd w)) 18 (w &&& (-4096)), fd) := by rw [fX3_work, if_neg c_32_3, if_neg c_32_15, if_neg c_32_19, if_neg c_32_23, if_neg c_32_35, if_neg c_32_51, if_pos c_32_55]
    exact W.iret (v := 0) hx hb hr (fun t ht hW => wr_endi (hAe ▸ hS) ht (by rw [e9]) (by rw [e9]; exact hP) (by rw [e9, hAe]; exact hD)) hS.2.2 dX3_work_134
  by_cases c_32_99 : (fX3_opcode w) = 99
  ·
    refine lv_lookup (off := 167) (tgt := 199) hx hb dX3_work_32 (by decide) (by rw [c_32_99]; decide) (by decide) ?_
    refine lv_aload_n hx hb dX3_work_199 rfl (lv_at hl 2 rfl) ?_
    refine lv_iconst (v := 0) hx hb dX3_work_200 (by decide) ?_
    refine va_put (D := (dC, dI)) (ci := 1) (v := .int 0) (ty := .int) (C := RX3) (T := TX3) (N := 21) hx hb hts hin tyX3 tyX3_ok nmX3 hown hK hP hD hS 0 rfl rfl 17 (by decide) hf_114 (fun _ h9 => h9) rfl (by decide +kernel) rfl rfl (Nat.le_of_ble_eq_true rfl) dX3_work_201 (fun H locs hP hD hS => ?_)
    have hP : va_P (dC, dI) vwCl (mdW cI cB h a b c d (upd (upd v 17 (fX3_rd w)) 17 0) fw fd fs fn) H := hP
    have hD : va_D A (mdW cI cB h a b c d (upd (upd v 17 (fX3_rd w)) 17 0) fw fd fs fn) := hD
    refine lv_iload_n hx hb dX3_work_204 rfl (lv_at hl 3 rfl) ?_
    refine ro_call (va_runS (As := [.int w]) (rest := []) ⟨hx, hb, hml, hown, hts⟩ (kX3_f3 l w ) (va_cwS 1 hts gX3_work_X3_f3 rfl rfl rfl (by decide +kernel) ⟨Nat.le_of_ble_eq_true rfl, Nat.le_of_ble_eq_true rfl⟩) pu_preS rfl rfl hl.1 rfl (lv_room (Nat.le_of_ble_eq_true rfl)) dX3_work_205 ⟨Nat.zero_le _, Nat.zero_le _⟩) hS (fun H locs hk hS => ?_)
    have hP := hk _ _ _ hP
    refine lv_iload_n hx hb dX3_work_208 rfl (lv_at hl 1 rfl) ?_
    refine lv_iload_n hx hb dX3_work_209 rfl (lv_at hl 0 rfl) ?_
    refine ro_call (va_runS (As := [.int (fX3_f3 w), .int (fn (fX3_rs1 w).toNatClampNeg), .int (fn (fX3_rs2 w).toNatClampNeg)]) (rest := []) ⟨hx, hb, hml, hown, hts⟩ (kX3_holds l (fX3_f3 w) (fn (fX3_rs1 w).toNatClampNeg) (fn (fX3_rs2 w).toNatClampNeg) ) (va_cwS 3 hts gX3_work_X3_holds rfl rfl rfl (by decide +kernel) ⟨Nat.le_of_ble_eq_true rfl, Nat.le_of_ble_eq_true rfl⟩) pu_preS rfl rfl hl.1 rfl (lv_room (Nat.le_of_ble_eq_true rfl)) dX3_work_210 ⟨Nat.zero_le _, Nat.zero_le _⟩) hS (fun H locs hk hS => ?_)
    have hP := hk _ _ _ hP
    refine lv_if_eq (tgt := 232) hx hb dX3_work_213 (by decide) (fun c_213 => ?_) (fun c_213 => ?_)
    ·
      refine lv_iconst (v := 0) hx hb dX3_work_232 (by decide) ?_
      have e9 : fX3_work v fw fd fs fn w = ((0 : Int32), upd (upd v 17 (fX3_rd w)) 17 0, fd) := by rw [fX3_work, if_neg c_32_3, if_neg c_32_15, if_neg c_32_19, if_neg c_32_23, if_neg c_32_35, if_neg c_32_51, if_neg c_32_55, if_pos c_32_99, if_pos c_213]
      exact W.iret (v := 0) hx hb hr (fun t ht hW => wr_endi (hAe ▸ hS) ht (by rw [e9]) (by rw [e9]; exact hP) (by rw [e9, hAe]; exact hD)) hS.2.2 dX3_work_233
    ·
      refine lv_aload_n hx hb dX3_work_216 rfl (lv_at hl 2 rfl) ?_
      refine lv_aload_n hx hb dX3_work_217 rfl (lv_at hl 2 rfl) ?_
      refine va_get (D := (dC, dI)) (ci := 1) (v := .int (v 11)) (C := RX3) (T := TX3) (N := 21) hx hb hts hin hown hK hP 0 rfl rfl 11 (by decide) hf_49 (fun _ h9 => h9) rfl dX3_work_218 ?_
      refine lv_iload_n hx hb dX3_work_221 rfl (lv_at hl 3 rfl) ?_
      refine ro_call (va_runS (As := [.int w]) (rest := [.int (v 11), .ref h]) ⟨hx, hb, hml, hown, hts⟩ (kX3_immediateB l w ) (va_cwS 1 hts gX3_work_X3_immediateB rfl rfl rfl (by decide +kernel) ⟨Nat.le_of_ble_eq_true rfl, Nat.le_of_ble_eq_true rfl⟩) pu_preS rfl rfl hl.1 rfl (lv_room (Nat.le_of_ble_eq_true rfl)) dX3_work_222 ⟨Nat.zero_le _, Nat.zero_le _⟩) hS (fun H locs hk hS => ?_)
      have hP := hk _ _ _ hP
      refine lv_iadd hx hb dX3_work_225 ?_
      refine wr_calli (va_runV (As := [.int ((v 11) + (fX3_immediateB w))]) (rest := []) ⟨hx, hb, hml, hown, hts⟩ (kX3_jump l dC dI cI cB h a b c d _ (upd (upd v 17 (fX3_rd w)) 17 0) fw fd fs fn ((v 11) + (fX3_immediateB w)) ) (cwV 1 hts gX3_work_X3_jump rfl rfl rfl (by decide +kernel) ⟨Nat.le_of_ble_eq_true rfl, Nat.le_of_ble_eq_true rfl⟩) (wr_preV hK hP hD (ci := 1) (q0 := 0) rfl rfl) rfl rfl hl.1 rfl (lv_room (Nat.le_of_ble_eq_true rfl)) dX3_work_226 ⟨Nat.zero_le _, Nat.zero_le _⟩) hS hA hP hD [0, 1, 2, 3, 4] [] rfl (wr := []) rfl rfl (by decide) (fun H locs hP hD hS => ?_)
      have hP : va_P (dC, dI) vwCl (mdW cI cB h a b c d ((fX3_jump (upd (upd v 17 (fX3_rd w)) 17 0) fw fd fs fn ((v 11) + (fX3_immediateB w))).2) fw fd fs fn) H := hP
      have hD : va_D A (mdW cI cB h a b c d ((fX3_jump (upd (upd v 17 (fX3_rd w)) 17 0) fw fd fs fn ((v 11) + (fX3_immediateB w))).2) fw fd fs fn) := hD
      refine lv_goto (tgt := 233) hx hb dX3_work_229 (by decide) ?_
      have e9 : fX3_work v fw fd fs fn w = ((fX3_jump (upd (upd v 17 (fX3_rd w)) 17 0) fw fd fs fn ((v 11) + (fX3_immediateB w))).1, (fX3_jump (upd (upd v 17 (fX3_rd w)) 17 0) fw fd fs fn ((v 11) + (fX3_immediateB w))).2, fd) := by rw [fX3_work, if_neg c_32_3, if_neg c_32_15, if_neg c_32_19, if_neg c_32_23, if_neg c_32_35, if_neg c_32_51, if_neg c_32_55, if_pos c_32_99, if_neg c_213]
      exact W.iret (v := (fX3_jump (upd (upd v 17 (fX3_rd w)) 17 0) fw fd fs fn ((v 11) + (fX3_immediateB w))).1) hx hb hr (fun t ht hW => wr_endi (hAe ▸ hS) ht (by rw [e9]) (by rw [e9]; exact hP) (by rw [e9, hAe]; exact hD)) hS.2.2 dX3_work_233
  by_cases c_32_103 : (fX3_opcode w) = 103
  ·
    refine lv_lookup (off := 143) (tgt := 175) hx hb dX3_work_32 (by decide) (by rw [c_32_103]; decide) (by decide) ?_
    refine lv_aload_n hx hb dX3_work_175 rfl (lv_at hl 2 rfl) ?_
    refine lv_aload_n hx hb dX3_work_176 rfl (lv_at hl 2 rfl) ?_
    refine va_get (D := (dC, dI)) (ci := 1) (v := .int (v 11)) (C := RX3) (T := TX3) (N := 21) hx hb hts hin hown hK hP 0 rfl rfl 11 (by decide) hf_49 (fun _ h9 => h9) rfl dX3_work_177 ?_
    refine lv_iconst (v := 4) hx hb dX3_work_180 (by decide) ?_
    refine lv_iadd hx hb dX3_work_181 ?_
    refine va_put (D := (dC, dI)) (ci := 1) (v := .int ((v 11) + 4)) (ty := .int) (C := RX3) (T := TX3) (N := 21) hx hb hts hin tyX3 tyX3_ok nmX3 hown hK hP hD hS 0 rfl rfl 18 (by decide) hf_105 (fun _ h9 => h9) rfl (by decide +kernel) rfl rfl (Nat.le_of_ble_eq_true rfl) dX3_work_182 (fun H locs hP hD hS => ?_)
    have hP : va_P (dC, dI) vwCl (mdW cI cB h a b c d (upd (upd v 17 (fX3_rd w)) 18 ((v 11) + 4)) fw fd fs fn) H := hP
    have hD : va_D A (mdW cI cB h a b c d (upd (upd v 17 (fX3_rd w)) 18 ((v 11) + 4)) fw fd fs fn) := hD
    refine lv_aload_n hx hb dX3_work_185 rfl (lv_at hl 2 rfl) ?_
    refine lv_iload_n hx hb dX3_work_186 rfl (lv_at hl 1 rfl) ?_
    refine lv_iload_n hx hb dX3_work_187 rfl (lv_at hl 3 rfl) ?_
    refine lv_bipush (v := 20) hx hb dX3_work_188 (by decide) ?_
    refine lv_ishr hx hb dX3_work_190 ?_
    refine lv_iadd hx hb dX3_work_191 ?_
    refine lv_bipush (v := (-2)) hx hb dX3_work_192 (by decide) ?_
    refine lv_iand hx hb dX3_work_194 ?_
    refine wr_calli (va_runV (As := [.int (((fn (fX3_rs1 w).toNatClampNeg) + (w >>> (20 &&& 31))) &&& (-2))]) (rest := []) ⟨hx, hb, hml, hown, hts⟩ (kX3_jump l dC dI cI cB h a b c d _ (upd (upd v 17 (fX3_rd w)) 18 ((v 11) + 4)) fw fd fs fn (((fn (fX3_rs1 w).toNatClampNeg) + (w >>> (20 &&& 31))) &&& (-2)) ) (cwV 1 hts gX3_work_X3_jump rfl rfl rfl (by decide +kernel) ⟨Nat.le_of_ble_eq_true rfl, Nat.le_of_ble_eq_true rfl⟩) (wr_preV hK hP hD (ci := 1) (q0 := 0) rfl rfl) rfl rfl hl.1 rfl (lv_room (Nat.le_of_ble_eq_true rfl)) dX3_work_195 ⟨Nat.zero_le _, Nat.zero_le _⟩) hS hA hP hD [0, 1, 2, 3, 4] [] rfl (wr := []) rfl rfl (by decide) (fun H locs hP hD hS => ?_)
    have hP : va_P (dC, dI) vwCl (mdW cI cB h a b c d ((fX3_jump (upd (upd v 17 (fX3_rd w)) 18 ((v 11) + 4)) fw fd fs fn (((fn (fX3_rs1 w).toNatClampNeg) + (w >>> (20 &&& 31))) &&& (-2))).2) fw fd fs fn) H := hP
    have hD : va_D A (mdW cI cB h a b c d ((fX3_jump (upd (upd v 17 (fX3_rd w)) 18 ((v 11) + 4)) fw fd fs fn (((fn (fX3_rs1 w).toNatClampNeg) + (w >>> (20 &&& 31))) &&& (-2))).2) fw fd fs fn) := hD
    have e9 : fX3_work v fw fd fs fn w = ((fX3_jump (upd (upd v 17 (fX3_rd w)) 18 ((v 11) + 4)) fw fd fs fn (((fn (fX3_rs1 w).toNatClampNeg) + (w >>> (20 &&& 31))) &&& (-2))).1, (fX3_jump (upd (upd v 17 (fX3_rd w)) 18 ((v 11) + 4)) fw fd fs fn (((fn (fX3_rs1 w).toNatClampNeg) + (w >>> (20 &&& 31))) &&& (-2))).2, fd) := by rw [fX3_work, if_neg c_32_3, if_neg c_32_15, if_neg c_32_19, if_neg c_32_23, if_neg c_32_35, if_neg c_32_51, if_neg c_32_55, if_neg c_32_99, if_pos c_32_103]
    exact W.iret (v := (fX3_jump (upd (upd v 17 (fX3_rd w)) 18 ((v 11) + 4)) fw fd fs fn (((fn (fX3_rs1 w).toNatClampNeg) + (w >>> (20 &&& 31))) &&& (-2))).1) hx hb hr (fun t ht hW => wr_endi (hAe ▸ hS) ht (by rw [e9]) (by rw [e9]; exact hP) (by rw [e9, hAe]; exact hD)) hS.2.2 dX3_work_198
  by_cases c_32_111 : (fX3_opcode w) = 111
  ·
    refine lv_lookup (off := 119) (tgt := 151) hx hb dX3_work_32 (by decide) (by rw [c_32_111]; decide) (by decide) ?_
    refine lv_aload_n hx hb dX3_work_151 rfl (lv_at hl 2 rfl) ?_
    refine lv_aload_n hx hb dX3_work_152 rfl (lv_at hl 2 rfl) ?_
    refine va_get (D := (dC, dI)) (ci := 1) (v := .int (v 11)) (C := RX3) (T := TX3) (N := 21) hx hb hts hin hown hK hP 0 rfl rfl 11 (by decide) hf_49 (fun _ h9 => h9) rfl dX3_work_153 ?_
    refine lv_iconst (v := 4) hx hb dX3_work_156 (by decide) ?_
    refine lv_iadd hx hb dX3_work_157 ?_
    refine va_put (D := (dC, dI)) (ci := 1) (v := .int ((v 11) + 4)) (ty := .int) (C := RX3) (T := TX3) (N := 21) hx hb hts hin tyX3 tyX3_ok nmX3 hown hK hP hD hS 0 rfl rfl 18 (by decide) hf_105 (fun _ h9 => h9) rfl (by decide +kernel) rfl rfl (Nat.le_of_ble_eq_true rfl) dX3_work_158 (fun H locs hP hD hS => ?_)
    have hP : va_P (dC, dI) vwCl (mdW cI cB h a b c d (upd (upd v 17 (fX3_rd w)) 18 ((v 11) + 4)) fw fd fs fn) H := hP
    have hD : va_D A (mdW cI cB h a b c d (upd (upd v 17 (fX3_rd w)) 18 ((v 11) + 4)) fw fd fs fn) := hD
    refine lv_aload_n hx hb dX3_work_161 rfl (lv_at hl 2 rfl) ?_
    refine lv_aload_n hx hb dX3_work_162 rfl (lv_at hl 2 rfl) ?_
    refine va_get (D := (dC, dI)) (ci := 1) (v := .int (v 11)) (C := RX3) (T := TX3) (N := 21) hx hb hts hin hown hK hP 0 rfl rfl 11 (by decide) hf_49 (fun _ h9 => h9) rfl dX3_work_163 ?_
    refine lv_iload_n hx hb dX3_work_166 rfl (lv_at hl 3 rfl) ?_
    refine ro_call (va_runS (As := [.int w]) (rest := [.int (v 11), .ref h]) ⟨hx, hb, hml, hown, hts⟩ (kX3_immediateJ l w ) (va_cwS 1 hts gX3_work_X3_immediateJ rfl rfl rfl (by decide +kernel) ⟨Nat.le_of_ble_eq_true rfl, Nat.le_of_ble_eq_true rfl⟩) pu_preS rfl rfl hl.1 rfl (lv_room (Nat.le_of_ble_eq_true rfl)) dX3_work_167 ⟨Nat.zero_le _, Nat.zero_le _⟩) hS (fun H locs hk hS => ?_)
    have hP := hk _ _ _ hP
    refine lv_iadd hx hb dX3_work_170 ?_
    refine wr_calli (va_runV (As := [.int ((v 11) + (fX3_immediateJ w))]) (rest := []) ⟨hx, hb, hml, hown, hts⟩ (kX3_jump l dC dI cI cB h a b c d _ (upd (upd v 17 (fX3_rd w)) 18 ((v 11) + 4)) fw fd fs fn ((v 11) + (fX3_immediateJ w)) ) (cwV 1 hts gX3_work_X3_jump rfl rfl rfl (by decide +kernel) ⟨Nat.le_of_ble_eq_true rfl, Nat.le_of_ble_eq_true rfl⟩) (wr_preV hK hP hD (ci := 1) (q0 := 0) rfl rfl) rfl rfl hl.1 rfl (lv_room (Nat.le_of_ble_eq_true rfl)) dX3_work_171 ⟨Nat.zero_le _, Nat.zero_le _⟩) hS hA hP hD [0, 1, 2, 3, 4] [] rfl (wr := []) rfl rfl (by decide) (fun H locs hP hD hS => ?_)
    have hP : va_P (dC, dI) vwCl (mdW cI cB h a b c d ((fX3_jump (upd (upd v 17 (fX3_rd w)) 18 ((v 11) + 4)) fw fd fs fn ((v 11) + (fX3_immediateJ w))).2) fw fd fs fn) H := hP
    have hD : va_D A (mdW cI cB h a b c d ((fX3_jump (upd (upd v 17 (fX3_rd w)) 18 ((v 11) + 4)) fw fd fs fn ((v 11) + (fX3_immediateJ w))).2) fw fd fs fn) := hD
    have e9 : fX3_work v fw fd fs fn w = ((fX3_jump (upd (upd v 17 (fX3_rd w)) 18 ((v 11) + 4)) fw fd fs fn ((v 11) + (fX3_immediateJ w))).1, (fX3_jump (upd (upd v 17 (fX3_rd w)) 18 ((v 11) + 4)) fw fd fs fn ((v 11) + (fX3_immediateJ w))).2, fd) := by rw [fX3_work, if_neg c_32_3, if_neg c_32_15, if_neg c_32_19, if_neg c_32_23, if_neg c_32_35, if_neg c_32_51, if_neg c_32_55, if_neg c_32_99, if_neg c_32_103, if_pos c_32_111]
    exact W.iret (v := (fX3_jump (upd (upd v 17 (fX3_rd w)) 18 ((v 11) + 4)) fw fd fs fn ((v 11) + (fX3_immediateJ w))).1) hx hb hr (fun t ht hW => wr_endi (hAe ▸ hS) ht (by rw [e9]) (by rw [e9]; exact hP) (by rw [e9, hAe]; exact hD)) hS.2.2 dX3_work_174
  refine lv_lookup (off := 298) (tgt := 330) hx hb dX3_work_32 (by decide) (show Op.lookupswitch.offset [(3, 202), (15, 291), (19, 222), (23, 103), (35, 209), (51, 262), (55, 92), (99, 167), (103, 143), (111, 119)] 298 _ = 298 from (lv_osw c_32_3 (k := 3) (by decide)).trans ((lv_osw c_32_15 (k := 15) (by decide)).trans ((lv_osw c_32_19 (k := 19) (by decide)).trans ((lv_osw c_32_23 (k := 23) (by decide)).trans ((lv_osw c_32_35 (k := 35) (by decide)).trans ((lv_osw c_32_51 (k := 51) (by decide)).trans ((lv_osw c_32_55 (k := 55) (by decide)).trans ((lv_osw c_32_99 (k := 99) (by decide)).trans ((lv_osw c_32_103 (k := 103) (by decide)).trans ((lv_osw c_32_111 (k := 111) (by decide)).trans (rfl))))))))))) (by decide) ?_
  refine lv_iload_n hx hb dX3_work_330 rfl (lv_at hl 3 rfl) ?_
  refine lv_bipush (v := 115) hx hb dX3_work_331 (by decide) ?_
  refine lv_icmp_ne (tgt := 340) hx hb dX3_work_333 (by decide) (fun c_333 => ?_) (fun c_333 => ?_)
  ·
    refine lv_iconst (v := 2) hx hb dX3_work_340 (by decide) ?_
    have e9 : fX3_work v fw fd fs fn w = ((2 : Int32), upd v 17 (fX3_rd w), fd) := by rw [fX3_work, if_neg c_32_3, if_neg c_32_15, if_neg c_32_19, if_neg c_32_23, if_neg c_32_35, if_neg c_32_51, if_neg c_32_55, if_neg c_32_99, if_neg c_32_103, if_neg c_32_111, if_neg c_333]
    exact W.iret (v := 2) hx hb hr (fun t ht hW => wr_endi (hAe ▸ hS) ht (by rw [e9]) (by rw [e9]; exact hP) (by rw [e9, hAe]; exact hD)) hS.2.2 dX3_work_341
  ·
    refine lv_iconst (v := 1) hx hb dX3_work_336 (by decide) ?_
    refine lv_goto (tgt := 341) hx hb dX3_work_337 (by decide) ?_
    have e9 : fX3_work v fw fd fs fn w = ((1 : Int32), upd v 17 (fX3_rd w), fd) := by rw [fX3_work, if_neg c_32_3, if_neg c_32_15, if_neg c_32_19, if_neg c_32_23, if_neg c_32_35, if_neg c_32_51, if_neg c_32_55, if_neg c_32_99, if_neg c_32_103, if_neg c_32_111, if_pos c_333]
    exact W.iret (v := 1) hx hb hr (fun t ht hW => wr_endi (hAe ▸ hS) ht (by rw [e9]) (by rw [e9]; exact hP) (by rw [e9, hAe]; exact hD)) hS.2.2 dX3_work_341
def fX3_register (v fw fd fs fn : Nat → Int32) (k : Int32) : Int32 × (Nat → Int32) := (if k < 0 then ((0 : Int32), upd v 0 1) else (if k ≤ 31 then (fs k.toNatClampNeg, upd v 0 0) else ((0 : Int32), upd v 0 1)))
set_option maxHeartbeats 4000000 in
set_option maxRecDepth 100000 in
theorem kX3_register (l : Launch) (dC : Nat → ClassId) (dI : Nat → Nat → Nat) (cI cB : ClassId) (h a b c d : Nat) (sz : Nat) (v fw fd fs fn : Nat → Int32) (k : Int32) : Met l yX3_register wsX3_register ({ frames := 0, cells := 0, slots := 0, locals := 0 }) (wr_Pc [.ref h, .int k] (dC, dI) vwCl (tyIB cI cB) (mdW cI cB h a b c d v fw fd fs fn) sz) (wr_Qi (fX3_register v fw fd fs fn k).1 (mdW cI cB h a b c d ((fX3_register v fw fd fs fn k).2) fw fd fs fn) (dC, dI) vwCl (mdW cI cB h a b c d v fw fd fs fn) sz) 0 0 (va_A (mdW cI cB h a b c d v fw fd fs fn) sz) := by
  refine Met.ofW (cc := cX3_register) (maxL := 2) (ret := (some .int)) (by decide) rfl ?_
  intro p e s m args below meth c9 s₁ B hml hv
  obtain ⟨rfl, hsz, hP, hK, hD0⟩ := hv
  have hx := B.exec
  have hb := B.bytes
  have hr := B.returns
  have hts := atoms_spec (ws := wsX3_register) B.pre
  have hown : s.vm.findClass RX3 = some m.cls := findClass_of_methodNamed B.named
  have hlocks := B.notSynchronized
  subst hsz
  have hD := hD0.self (sz := s.heap.size)
  generalize hAe : va_A (mdW cI cB h a b c d v fw fd fs fn) s.heap.size = A at hD ⊢
  have hA : ∀ q : Nat, s.heap.size ≤ q → A q := fun q h => by rw [← hAe]; exact Or.inr h
  have hS : va_S A s.heap s.heap [] := va_S.rf
  have hin : ∀ w ∈ wsX30, w ∈ wsX3_register := by decide +kernel
  have hf_17 := hts (.fieldLink RX3 17 "PipeWorksModel" "seen" "[I") (by decide +kernel)
  have hf_30 := hts (.fieldLink RX3 30 "PipeWorksModel" "thrown" "I") (by decide +kernel)
  have hl := lv_entry ([.ref h, .int k]) (n := 2) (Nat.le_of_ble_eq_true rfl)
  rw [lg_entry_eq]
  generalize (lg_sl ([.ref h, .int k]) ++ List.replicate (2 - (lg_sl ([.ref h, .int k])).length) Slot.unset).toArray = ls at hl ⊢
  have hl : lv_has ls 2 [(0, .ref h), (1, .int k)] := hl
  refine lv_aload_n hx hb dX3_register_0 rfl (lv_at hl 0 rfl) ?_
  refine lv_iload_n hx hb dX3_register_1 rfl (lv_at hl 1 rfl) ?_
  refine lv_if_lt (tgt := 11) hx hb dX3_register_2 (by decide) (fun c_2 => ?_) (fun c_2 => ?_)
  ·
    refine lv_iconst (v := 1) hx hb dX3_register_11 (by decide) ?_
    refine lv_goto (tgt := 16) hx hb dX3_register_12 (by decide) ?_
    refine va_put (D := (dC, dI)) (ci := 1) (v := .int 1) (ty := .int) (C := RX3) (T := TX3) (N := 21) hx hb hts hin tyX3 tyX3_ok nmX3 hown hK hP hD hS 0 rfl rfl 0 (by decide) hf_30 (fun _ h9 => h9) rfl (by decide +kernel) rfl rfl (Nat.le_of_ble_eq_true rfl) dX3_register_16 (fun H locs hP hD hS => ?_)
    have hP : va_P (dC, dI) vwCl (mdW cI cB h a b c d (upd v 0 1) fw fd fs fn) H := hP
    have hD : va_D A (mdW cI cB h a b c d (upd v 0 1) fw fd fs fn) := hD
    refine lv_aload_n hx hb dX3_register_19 rfl (lv_at hl 0 rfl) ?_
    refine va_get (D := (dC, dI)) (ci := 1) (v := .int 1) (C := RX3) (T := TX3) (N := 21) hx hb hts hin hown hK hP 0 rfl rfl 0 (by decide) hf_30 (fun _ h9 => h9) rfl dX3_register_20 ?_
    refine lv_if_le (tgt := 30) hx hb dX3_register_23 (by decide) (fun c_23 => ?_) (fun c_23 => ?_)
    · exact absurd c_23 (by decide)
    refine lv_iconst (v := 0) hx hb dX3_register_26 (by decide) ?_
    refine lv_goto (tgt := 36) hx hb dX3_register_27 (by decide) ?_
    have e9 : fX3_register v fw fd fs fn k = ((0 : Int32), upd v 0 1) := by rw [fX3_register, if_pos c_2]
    exact W.iret (v := 0) hx hb hr (fun t ht hW => wr_endi (hAe ▸ hS) ht (by rw [e9]) (by rw [e9]; exact hP) (by rw [e9, hAe]; exact hD)) hS.2.2 dX3_register_36
  ·
    refine lv_iload_n hx hb dX3_register_5 rfl (lv_at hl 1 rfl) ?_
    refine lv_bipush (v := 31) hx hb dX3_register_6 (by decide) ?_
    refine lv_icmp_le (tgt := 15) hx hb dX3_register_8 (by decide) (fun c_8 => ?_) (fun c_8 => ?_)
    ·
      refine lv_iconst (v := 0) hx hb dX3_register_15 (by decide) ?_
      refine va_put (D := (dC, dI)) (ci := 1) (v := .int 0) (ty := .int) (C := RX3) (T := TX3) (N := 21) hx hb hts hin tyX3 tyX3_ok nmX3 hown hK hP hD hS 0 rfl rfl 0 (by decide) hf_30 (fun _ h9 => h9) rfl (by decide +kernel) rfl rfl (Nat.le_of_ble_eq_true rfl) dX3_register_16 (fun H locs hP hD hS => ?_)
      have hP : va_P (dC, dI) vwCl (mdW cI cB h a b c d (upd v 0 0) fw fd fs fn) H := hP
      have hD : va_D A (mdW cI cB h a b c d (upd v 0 0) fw fd fs fn) := hD
      refine lv_aload_n hx hb dX3_register_19 rfl (lv_at hl 0 rfl) ?_
      refine va_get (D := (dC, dI)) (ci := 1) (v := .int 0) (C := RX3) (T := TX3) (N := 21) hx hb hts hin hown hK hP 0 rfl rfl 0 (by decide) hf_30 (fun _ h9 => h9) rfl dX3_register_20 ?_
      refine lv_if_le (tgt := 30) hx hb dX3_register_23 (by decide) (fun c_23 => ?_) (fun c_23 => ?_)
      rotate_left
      · exact absurd c_23 (by decide)
      refine lv_aload_n hx hb dX3_register_30 rfl (lv_at hl 0 rfl) ?_
      refine va_get (D := (dC, dI)) (ci := 1) (v := .ref c) (C := RX3) (T := TX3) (N := 21) hx hb hts hin hown hK hP 0 rfl rfl 3 (by decide) hf_17 (fun _ h9 => h9) rfl dX3_register_31 ?_
      refine lv_iload_n hx hb dX3_register_34 rfl (lv_at hl 1 rfl) ?_
      refine va_iald hx hb hK hP 3 0 rfl rfl (ix_le c_2 c_8 (by decide)) dX3_register_35 ?_
      have e9 : fX3_register v fw fd fs fn k = (fs k.toNatClampNeg, upd v 0 0) := by rw [fX3_register, if_neg c_2, if_pos c_8]
      exact W.iret (v := fs k.toNatClampNeg) hx hb hr (fun t ht hW => wr_endi (hAe ▸ hS) ht (by rw [e9]) (by rw [e9]; exact hP) (by rw [e9, hAe]; exact hD)) hS.2.2 dX3_register_36
    ·
      refine lv_iconst (v := 1) hx hb dX3_register_11 (by decide) ?_
      refine lv_goto (tgt := 16) hx hb dX3_register_12 (by decide) ?_
      refine va_put (D := (dC, dI)) (ci := 1) (v := .int 1) (ty := .int) (C := RX3) (T := TX3) (N := 21) hx hb hts hin tyX3 tyX3_ok nmX3 hown hK hP hD hS 0 rfl rfl 0 (by decide) hf_30 (fun _ h9 => h9) rfl (by decide +kernel) rfl rfl (Nat.le_of_ble_eq_true rfl) dX3_register_16 (fun H locs hP hD hS => ?_)
      have hP : va_P (dC, dI) vwCl (mdW cI cB h a b c d (upd v 0 1) fw fd fs fn) H := hP
      have hD : va_D A (mdW cI cB h a b c d (upd v 0 1) fw fd fs fn) := hD
      refine lv_aload_n hx hb dX3_register_19 rfl (lv_at hl 0 rfl) ?_
      refine va_get (D := (dC, dI)) (ci := 1) (v := .int 1) (C := RX3) (T := TX3) (N := 21) hx hb hts hin hown hK hP 0 rfl rfl 0 (by decide) hf_30 (fun _ h9 => h9) rfl dX3_register_20 ?_
      refine lv_if_le (tgt := 30) hx hb dX3_register_23 (by decide) (fun c_23 => ?_) (fun c_23 => ?_)
      · exact absurd c_23 (by decide)
      refine lv_iconst (v := 0) hx hb dX3_register_26 (by decide) ?_
      refine lv_goto (tgt := 36) hx hb dX3_register_27 (by decide) ?_
      have e9 : fX3_register v fw fd fs fn k = ((0 : Int32), upd v 0 1) := by rw [fX3_register, if_neg c_2, if_neg c_8]
      exact W.iret (v := 0) hx hb hr (fun t ht hW => wr_endi (hAe ▸ hS) ht (by rw [e9]) (by rw [e9]; exact hP) (by rw [e9, hAe]; exact hD)) hS.2.2 dX3_register_36
def fX3_memory (v fw fd fs fn : Nat → Int32) (k : Int32) : Int32 × (Nat → Int32) := (if k < 0 then ((0 : Int32), upd v 0 1) else (if k ≤ 63 then (fX3_load4 (upd v 0 0) fw fd fs fn (4 * k), upd v 0 0) else ((0 : Int32), upd v 0 1)))
set_option maxHeartbeats 4000000 in
set_option maxRecDepth 100000 in
theorem kX3_memory (l : Launch) (dC : Nat → ClassId) (dI : Nat → Nat → Nat) (cI cB : ClassId) (h a b c d : Nat) (sz : Nat) (v fw fd fs fn : Nat → Int32) (k : Int32) : Met l yX3_memory wsX3_memory ({ frames := 1, cells := 0, slots := 0, locals := 24 }) (wr_Pc [.ref h, .int k] (dC, dI) vwCl (tyIB cI cB) (mdW cI cB h a b c d v fw fd fs fn) sz) (wr_Qi (fX3_memory v fw fd fs fn k).1 (mdW cI cB h a b c d ((fX3_memory v fw fd fs fn k).2) fw fd fs fn) (dC, dI) vwCl (mdW cI cB h a b c d v fw fd fs fn) sz) 0 0 (va_A (mdW cI cB h a b c d v fw fd fs fn) sz) := by
  refine Met.ofW (cc := cX3_memory) (maxL := 2) (ret := (some .int)) (by decide) rfl ?_
  intro p e s m args below meth c9 s₁ B hml hv
  obtain ⟨rfl, hsz, hP, hK, hD0⟩ := hv
  have hx := B.exec
  have hb := B.bytes
  have hr := B.returns
  have hts := atoms_spec (ws := wsX3_memory) B.pre
  have hown : s.vm.findClass RX3 = some m.cls := findClass_of_methodNamed B.named
  have hlocks := B.notSynchronized
  subst hsz
  have hD := hD0.self (sz := s.heap.size)
  generalize hAe : va_A (mdW cI cB h a b c d v fw fd fs fn) s.heap.size = A at hD ⊢
  have hA : ∀ q : Nat, s.heap.size ≤ q → A q := fun q h => by rw [← hAe]; exact Or.inr h
  have hS : va_S A s.heap s.heap [] := va_S.rf
  have hin : ∀ w ∈ wsX30, w ∈ wsX3_memory := by decide +kernel
  have hf_30 := hts (.fieldLink RX3 30 "PipeWorksModel" "thrown" "I") (by decide +kernel)
  have hl := lv_entry ([.ref h, .int k]) (n := 2) (Nat.le_of_ble_eq_true rfl)
  rw [lg_entry_eq]
  generalize (lg_sl ([.ref h, .int k]) ++ List.replicate (2 - (lg_sl ([.ref h, .int k])).length) Slot.unset).toArray = ls at hl ⊢
  have hl : lv_has ls 2 [(0, .ref h), (1, .int k)] := hl
  refine lv_aload_n hx hb dX3_memory_0 rfl (lv_at hl 0 rfl) ?_
  refine lv_iload_n hx hb dX3_memory_1 rfl (lv_at hl 1 rfl) ?_
  refine lv_if_lt (tgt := 11) hx hb dX3_memory_2 (by decide) (fun c_2 => ?_) (fun c_2 => ?_)
  ·
    refine lv_iconst (v := 1) hx hb dX3_memory_11 (by decide) ?_
    refine lv_goto (tgt := 16) hx hb dX3_memory_12 (by decide) ?_
    refine va_put (D := (dC, dI)) (ci := 1) (v := .int 1) (ty := .int) (C := RX3) (T := TX3) (N := 21) hx hb hts hin tyX3 tyX3_ok nmX3 hown hK hP hD hS 0 rfl rfl 0 (by decide) hf_30 (fun _ h9 => h9) rfl (by decide +kernel) rfl rfl (Nat.le_of_ble_eq_true rfl) dX3_memory_16 (fun H locs hP hD hS => ?_)
    have hP : va_P (dC, dI) vwCl (mdW cI cB h a b c d (upd v 0 1) fw fd fs fn) H := hP
    have hD : va_D A (mdW cI cB h a b c d (upd v 0 1) fw fd fs fn) := hD
    refine lv_aload_n hx hb dX3_memory_19 rfl (lv_at hl 0 rfl) ?_
    refine va_get (D := (dC, dI)) (ci := 1) (v := .int 1) (C := RX3) (T := TX3) (N := 21) hx hb hts hin hown hK hP 0 rfl rfl 0 (by decide) hf_30 (fun _ h9 => h9) rfl dX3_memory_20 ?_
    refine lv_if_le (tgt := 30) hx hb dX3_memory_23 (by decide) (fun c_23 => ?_) (fun c_23 => ?_)
    · exact absurd c_23 (by decide)
    refine lv_iconst (v := 0) hx hb dX3_memory_26 (by decide) ?_
    refine lv_goto (tgt := 38) hx hb dX3_memory_27 (by decide) ?_
    have e9 : fX3_memory v fw fd fs fn k = ((0 : Int32), upd v 0 1) := by rw [fX3_memory, if_pos c_2]
    exact W.iret (v := 0) hx hb hr (fun t ht hW => wr_endi (hAe ▸ hS) ht (by rw [e9]) (by rw [e9]; exact hP) (by rw [e9, hAe]; exact hD)) hS.2.2 dX3_memory_38
  ·
    refine lv_iload_n hx hb dX3_memory_5 rfl (lv_at hl 1 rfl) ?_
    refine lv_bipush (v := 63) hx hb dX3_memory_6 (by decide) ?_
    refine lv_icmp_le (tgt := 15) hx hb dX3_memory_8 (by decide) (fun c_8 => ?_) (fun c_8 => ?_)
    ·
      refine lv_iconst (v := 0) hx hb dX3_memory_15 (by decide) ?_
      refine va_put (D := (dC, dI)) (ci := 1) (v := .int 0) (ty := .int) (C := RX3) (T := TX3) (N := 21) hx hb hts hin tyX3 tyX3_ok nmX3 hown hK hP hD hS 0 rfl rfl 0 (by decide) hf_30 (fun _ h9 => h9) rfl (by decide +kernel) rfl rfl (Nat.le_of_ble_eq_true rfl) dX3_memory_16 (fun H locs hP hD hS => ?_)
      have hP : va_P (dC, dI) vwCl (mdW cI cB h a b c d (upd v 0 0) fw fd fs fn) H := hP
      have hD : va_D A (mdW cI cB h a b c d (upd v 0 0) fw fd fs fn) := hD
      refine lv_aload_n hx hb dX3_memory_19 rfl (lv_at hl 0 rfl) ?_
      refine va_get (D := (dC, dI)) (ci := 1) (v := .int 0) (C := RX3) (T := TX3) (N := 21) hx hb hts hin hown hK hP 0 rfl rfl 0 (by decide) hf_30 (fun _ h9 => h9) rfl dX3_memory_20 ?_
      refine lv_if_le (tgt := 30) hx hb dX3_memory_23 (by decide) (fun c_23 => ?_) (fun c_23 => ?_)
      rotate_left
      · exact absurd c_23 (by decide)
      refine lv_aload_n hx hb dX3_memory_30 rfl (lv_at hl 0 rfl) ?_
      refine lv_iconst (v := 4) hx hb dX3_memory_31 (by decide) ?_
      refine lv_iload_n hx hb dX3_memory_32 rfl (lv_at hl 1 rfl) ?_
      refine lv_imul hx hb dX3_memory_33 ?_
      refine lv_iconst (v := 4) hx hb dX3_memory_34 (by decide) ?_
      refine ro_call (va_runV (As := [.int (4 * k), .int 4]) (rest := []) ⟨hx, hb, hml, hown, hts⟩ (kX3_load4 l dC dI cI cB h a b c d (upd v 0 0) fw fd fs fn (4 * k) (ix_4k c_2 c_8)) (cwV 2 hts gX3_memory_X3_load rfl rfl rfl (by decide +kernel) ⟨Nat.le_of_ble_eq_true rfl, Nat.le_of_ble_eq_true rfl⟩) (ro_preV hK hP (ci := 1) (q0 := 0) rfl rfl) rfl rfl hl.1 rfl (lv_room (Nat.le_of_ble_eq_true rfl)) dX3_memory_35 ⟨Nat.zero_le _, Nat.zero_le _⟩) hS (fun H locs hk hS => ?_)
      have hP := hk _ _ _ hP
      have e9 : fX3_memory v fw fd fs fn k = (fX3_load4 (upd v 0 0) fw fd fs fn (4 * k), upd v 0 0) := by rw [fX3_memory, if_neg c_2, if_pos c_8]
      exact W.iret (v := fX3_load4 (upd v 0 0) fw fd fs fn (4 * k)) hx hb hr (fun t ht hW => wr_endi (hAe ▸ hS) ht (by rw [e9]) (by rw [e9]; exact hP) (by rw [e9, hAe]; exact hD)) hS.2.2 dX3_memory_38
    ·
      refine lv_iconst (v := 1) hx hb dX3_memory_11 (by decide) ?_
      refine lv_goto (tgt := 16) hx hb dX3_memory_12 (by decide) ?_
      refine va_put (D := (dC, dI)) (ci := 1) (v := .int 1) (ty := .int) (C := RX3) (T := TX3) (N := 21) hx hb hts hin tyX3 tyX3_ok nmX3 hown hK hP hD hS 0 rfl rfl 0 (by decide) hf_30 (fun _ h9 => h9) rfl (by decide +kernel) rfl rfl (Nat.le_of_ble_eq_true rfl) dX3_memory_16 (fun H locs hP hD hS => ?_)
      have hP : va_P (dC, dI) vwCl (mdW cI cB h a b c d (upd v 0 1) fw fd fs fn) H := hP
      have hD : va_D A (mdW cI cB h a b c d (upd v 0 1) fw fd fs fn) := hD
      refine lv_aload_n hx hb dX3_memory_19 rfl (lv_at hl 0 rfl) ?_
      refine va_get (D := (dC, dI)) (ci := 1) (v := .int 1) (C := RX3) (T := TX3) (N := 21) hx hb hts hin hown hK hP 0 rfl rfl 0 (by decide) hf_30 (fun _ h9 => h9) rfl dX3_memory_20 ?_
      refine lv_if_le (tgt := 30) hx hb dX3_memory_23 (by decide) (fun c_23 => ?_) (fun c_23 => ?_)
      · exact absurd c_23 (by decide)
      refine lv_iconst (v := 0) hx hb dX3_memory_26 (by decide) ?_
      refine lv_goto (tgt := 38) hx hb dX3_memory_27 (by decide) ?_
      have e9 : fX3_memory v fw fd fs fn k = ((0 : Int32), upd v 0 1) := by rw [fX3_memory, if_neg c_2, if_neg c_8]
      exact W.iret (v := 0) hx hb hr (fun t ht hW => wr_endi (hAe ▸ hS) ht (by rw [e9]) (by rw [e9]; exact hP) (by rw [e9, hAe]; exact hD)) hS.2.2 dX3_memory_38
def fX3_state (v fw fd fs fn : Nat → Int32) (k : Int32) : Int32 × (Nat → Int32) := (if k = 0 then (v 5, upd v 0 0) else (if k = 1 then (v 7, upd v 0 0) else (if k = 2 then (v 9, upd v 0 0) else (if k = 3 then (v 10, upd v 0 0) else (if k = 4 then (v 8, upd v 0 0) else (if k = 5 then (v 6, upd v 0 0) else ((-1 : Int32), upd v 0 0)))))))
set_option maxHeartbeats 4000000 in
set_option maxRecDepth 100000 in
theorem kX3_state (l : Launch) (dC : Nat → ClassId) (dI : Nat → Nat → Nat) (cI cB : ClassId) (h a b c d : Nat) (sz : Nat) (v fw fd fs fn : Nat → Int32) (k : Int32) : Met l yX3_state wsX3_state ({ frames := 0, cells := 0, slots := 0, locals := 0 }) (wr_Pc [.ref h, .int k] (dC, dI) vwCl (tyIB cI cB) (mdW cI cB h a b c d v fw fd fs fn) sz) (wr_Qi (fX3_state v fw fd fs fn k).1 (mdW cI cB h a b c d ((fX3_state v fw fd fs fn k).2) fw fd fs fn) (dC, dI) vwCl (mdW cI cB h a b c d v fw fd fs fn) sz) 0 0 (va_A (mdW cI cB h a b c d v fw fd fs fn) sz) := by
  refine Met.ofW (cc := cX3_state) (maxL := 2) (ret := (some .int)) (by decide) rfl ?_
  intro p e s m args below meth c9 s₁ B hml hv
  obtain ⟨rfl, hsz, hP, hK, hD0⟩ := hv
  have hx := B.exec
  have hb := B.bytes
  have hr := B.returns
  have hts := atoms_spec (ws := wsX3_state) B.pre
  have hown : s.vm.findClass RX3 = some m.cls := findClass_of_methodNamed B.named
  have hlocks := B.notSynchronized
  subst hsz
  have hD := hD0.self (sz := s.heap.size)
  generalize hAe : va_A (mdW cI cB h a b c d v fw fd fs fn) s.heap.size = A at hD ⊢
  have hA : ∀ q : Nat, s.heap.size ≤ q → A q := fun q h => by rw [← hAe]; exact Or.inr h
  have hS : va_S A s.heap s.heap [] := va_S.rf
  have hin : ∀ w ∈ wsX30, w ∈ wsX3_state := by decide +kernel
  have hf_23 := hts (.fieldLink RX3 23 "PipeWorksModel" "latest" "I") (by decide +kernel)
  have hf_30 := hts (.fieldLink RX3 30 "PipeWorksModel" "thrown" "I") (by decide +kernel)
  have hf_33 := hts (.fieldLink RX3 33 "PipeWorksModel" "clocks" "I") (by decide +kernel)
  have hf_40 := hts (.fieldLink RX3 40 "PipeWorksModel" "done" "I") (by decide +kernel)
  have hf_43 := hts (.fieldLink RX3 43 "PipeWorksModel" "kind" "I") (by decide +kernel)
  have hf_46 := hts (.fieldLink RX3 46 "PipeWorksModel" "haltAt" "I") (by decide +kernel)
  have hf_153 := hts (.fieldLink RX3 153 "PipeWorksModel" "all" "I") (by decide +kernel)
  have hl := lv_entry ([.ref h, .int k]) (n := 2) (Nat.le_of_ble_eq_true rfl)
  rw [lg_entry_eq]
  generalize (lg_sl ([.ref h, .int k]) ++ List.replicate (2 - (lg_sl ([.ref h, .int k])).length) Slot.unset).toArray = ls at hl ⊢
  have hl : lv_has ls 2 [(0, .ref h), (1, .int k)] := hl
  refine lv_aload_n hx hb dX3_state_0 rfl (lv_at hl 0 rfl) ?_
  refine lv_iconst (v := 0) hx hb dX3_state_1 (by decide) ?_
  refine va_put (D := (dC, dI)) (ci := 1) (v := .int 0) (ty := .int) (C := RX3) (T := TX3) (N := 21) hx hb hts hin tyX3 tyX3_ok nmX3 hown hK hP hD hS 0 rfl rfl 0 (by decide) hf_30 (fun _ h9 => h9) rfl (by decide +kernel) rfl rfl (Nat.le_of_ble_eq_true rfl) dX3_state_2 (fun H locs hP hD hS => ?_)
  have hP : va_P (dC, dI) vwCl (mdW cI cB h a b c d (upd v 0 0) fw fd fs fn) H := hP
  have hD : va_D A (mdW cI cB h a b c d (upd v 0 0) fw fd fs fn) := hD
  refine lv_iload_n hx hb dX3_state_5 rfl (lv_at hl 1 rfl) ?_
  by_cases c_6_0 : k = 0
  ·
    refine lv_tableIn (off := 38) (tgt := 44) hx hb dX3_state_6 (by rw [c_6_0]; decide) (by rw [c_6_0]; decide) (by rw [c_6_0]; decide) (by decide) ?_
    refine lv_aload_n hx hb dX3_state_44 rfl (lv_at hl 0 rfl) ?_
    refine va_get (D := (dC, dI)) (ci := 1) (v := .int (v 5)) (C := RX3) (T := TX3) (N := 21) hx hb hts hin hown hK hP 0 rfl rfl 5 (by decide) hf_33 (fun _ h9 => h9) rfl dX3_state_45 ?_
    have e9 : fX3_state v fw fd fs fn k = (v 5, upd v 0 0) := by rw [fX3_state, if_pos c_6_0]
    exact W.iret (v := v 5) hx hb hr (fun t ht hW => wr_endi (hAe ▸ hS) ht (by rw [e9]) (by rw [e9]; exact hP) (by rw [e9, hAe]; exact hD)) hS.2.2 dX3_state_48
  by_cases c_6_1 : k = 1
  ·
    refine lv_tableIn (off := 43) (tgt := 49) hx hb dX3_state_6 (by rw [c_6_1]; decide) (by rw [c_6_1]; decide) (by rw [c_6_1]; decide) (by decide) ?_
    refine lv_aload_n hx hb dX3_state_49 rfl (lv_at hl 0 rfl) ?_
    refine va_get (D := (dC, dI)) (ci := 1) (v := .int (v 7)) (C := RX3) (T := TX3) (N := 21) hx hb hts hin hown hK hP 0 rfl rfl 7 (by decide) hf_40 (fun _ h9 => h9) rfl dX3_state_50 ?_
    have e9 : fX3_state v fw fd fs fn k = (v 7, upd v 0 0) := by rw [fX3_state, if_neg c_6_0, if_pos c_6_1]
    exact W.iret (v := v 7) hx hb hr (fun t ht hW => wr_endi (hAe ▸ hS) ht (by rw [e9]) (by rw [e9]; exact hP) (by rw [e9, hAe]; exact hD)) hS.2.2 dX3_state_53
  by_cases c_6_2 : k = 2
  ·
    refine lv_tableIn (off := 48) (tgt := 54) hx hb dX3_state_6 (by rw [c_6_2]; decide) (by rw [c_6_2]; decide) (by rw [c_6_2]; decide) (by decide) ?_
    refine lv_aload_n hx hb dX3_state_54 rfl (lv_at hl 0 rfl) ?_
    refine va_get (D := (dC, dI)) (ci := 1) (v := .int (v 9)) (C := RX3) (T := TX3) (N := 21) hx hb hts hin hown hK hP 0 rfl rfl 9 (by decide) hf_43 (fun _ h9 => h9) rfl dX3_state_55 ?_
    have e9 : fX3_state v fw fd fs fn k = (v 9, upd v 0 0) := by rw [fX3_state, if_neg c_6_0, if_neg c_6_1, if_pos c_6_2]
    exact W.iret (v := v 9) hx hb hr (fun t ht hW => wr_endi (hAe ▸ hS) ht (by rw [e9]) (by rw [e9]; exact hP) (by rw [e9, hAe]; exact hD)) hS.2.2 dX3_state_58
  by_cases c_6_3 : k = 3
  ·
    refine lv_tableIn (off := 53) (tgt := 59) hx hb dX3_state_6 (by rw [c_6_3]; decide) (by rw [c_6_3]; decide) (by rw [c_6_3]; decide) (by decide) ?_
    refine lv_aload_n hx hb dX3_state_59 rfl (lv_at hl 0 rfl) ?_
    refine va_get (D := (dC, dI)) (ci := 1) (v := .int (v 10)) (C := RX3) (T := TX3) (N := 21) hx hb hts hin hown hK hP 0 rfl rfl 10 (by decide) hf_46 (fun _ h9 => h9) rfl dX3_state_60 ?_
    have e9 : fX3_state v fw fd fs fn k = (v 10, upd v 0 0) := by rw [fX3_state, if_neg c_6_0, if_neg c_6_1, if_neg c_6_2, if_pos c_6_3]
    exact W.iret (v := v 10) hx hb hr (fun t ht hW => wr_endi (hAe ▸ hS) ht (by rw [e9]) (by rw [e9]; exact hP) (by rw [e9, hAe]; exact hD)) hS.2.2 dX3_state_63
  by_cases c_6_4 : k = 4
  ·
    refine lv_tableIn (off := 58) (tgt := 64) hx hb dX3_state_6 (by rw [c_6_4]; decide) (by rw [c_6_4]; decide) (by rw [c_6_4]; decide) (by decide) ?_
    refine lv_aload_n hx hb dX3_state_64 rfl (lv_at hl 0 rfl) ?_
    refine va_get (D := (dC, dI)) (ci := 1) (v := .int (v 8)) (C := RX3) (T := TX3) (N := 21) hx hb hts hin hown hK hP 0 rfl rfl 8 (by decide) hf_23 (fun _ h9 => h9) rfl dX3_state_65 ?_
    have e9 : fX3_state v fw fd fs fn k = (v 8, upd v 0 0) := by rw [fX3_state, if_neg c_6_0, if_neg c_6_1, if_neg c_6_2, if_neg c_6_3, if_pos c_6_4]
    exact W.iret (v := v 8) hx hb hr (fun t ht hW => wr_endi (hAe ▸ hS) ht (by rw [e9]) (by rw [e9]; exact hP) (by rw [e9, hAe]; exact hD)) hS.2.2 dX3_state_68
  by_cases c_6_5 : k = 5
  ·
    refine lv_tableIn (off := 63) (tgt := 69) hx hb dX3_state_6 (by rw [c_6_5]; decide) (by rw [c_6_5]; decide) (by rw [c_6_5]; decide) (by decide) ?_
    refine lv_aload_n hx hb dX3_state_69 rfl (lv_at hl 0 rfl) ?_
    refine va_get (D := (dC, dI)) (ci := 1) (v := .int (v 6)) (C := RX3) (T := TX3) (N := 21) hx hb hts hin hown hK hP 0 rfl rfl 6 (by decide) hf_153 (fun _ h9 => h9) rfl dX3_state_70 ?_
    have e9 : fX3_state v fw fd fs fn k = (v 6, upd v 0 0) := by rw [fX3_state, if_neg c_6_0, if_neg c_6_1, if_neg c_6_2, if_neg c_6_3, if_neg c_6_4, if_pos c_6_5]
    exact W.iret (v := v 6) hx hb hr (fun t ht hW => wr_endi (hAe ▸ hS) ht (by rw [e9]) (by rw [e9]; exact hP) (by rw [e9, hAe]; exact hD)) hS.2.2 dX3_state_73
  have hsw_6 : (k).toInt < 0 ∨ 5 < (k).toInt := by
    have q0 := lv_neT c_6_0 (k := 0) (a := 0) (by decide)
    have q1 := lv_neT c_6_1 (k := 1) (a := 1) (by decide)
    have q2 := lv_neT c_6_2 (k := 2) (a := 2) (by decide)
    have q3 := lv_neT c_6_3 (k := 3) (a := 3) (by decide)
    have q4 := lv_neT c_6_4 (k := 4) (a := 4) (by decide)
    have q5 := lv_neT c_6_5 (k := 5) (a := 5) (by decide)
    omega
  refine lv_tableOut (tgt := 74) hx hb dX3_state_6 hsw_6 (by decide) ?_
  refine lv_iconst (v := (-1)) hx hb dX3_state_74 (by decide) ?_
  have e9 : fX3_state v fw fd fs fn k = ((-1 : Int32), upd v 0 0) := by rw [fX3_state, if_neg c_6_0, if_neg c_6_1, if_neg c_6_2, if_neg c_6_3, if_neg c_6_4, if_neg c_6_5]
  exact W.iret (v := (-1)) hx hb hr (fun t ht hW => wr_endi (hAe ▸ hS) ht (by rw [e9]) (by rw [e9]; exact hP) (by rw [e9, hAe]; exact hD)) hS.2.2 dX3_state_75
def fX3_write (v fw fd fs fn : Nat → Int32) : (Nat → Int32) × (Nat → Int32) := (if (v 16) ≤ 0 then (if (v 17) ≤ 0 then (upd (upd (upd v 14 0) 7 ((v 7) + 1)) 8 (v 15), fs) else (upd (upd (upd v 14 0) 7 ((v 7) + 1)) 8 (v 15), upd fs (v 17).toNatClampNeg (v 18))) else (upd (upd (upd v 14 0) 9 (v 16)) 10 (v 15), fs))
set_option maxHeartbeats 4000000 in
set_option maxRecDepth 100000 in
theorem kX3_write (l : Launch) (dC : Nat → ClassId) (dI : Nat → Nat → Nat) (cI cB : ClassId) (h a b c d : Nat) (sz : Nat) (v fw fd fs fn : Nat → Int32) (hwf : vp_in (v 17) 32) : Met l yX3_write wsX3_write ({ frames := 0, cells := 0, slots := 0, locals := 0 }) (wr_Pc [.ref h] (dC, dI) vwCl (tyIB cI cB) (mdW cI cB h a b c d v fw fd fs fn) sz) (wr_Qv (mdW cI cB h a b c d ((fX3_write v fw fd fs fn).1) fw fd ((fX3_write v fw fd fs fn).2) fn) (dC, dI) vwCl (mdW cI cB h a b c d v fw fd fs fn) sz) 0 0 (va_A (mdW cI cB h a b c d v fw fd fs fn) sz) := by
  refine Met.ofW (cc := cX3_write) (maxL := 1) (ret := none) (by decide) rfl ?_
  intro p e s m args below meth c9 s₁ B hml hv
  obtain ⟨rfl, hsz, hP, hK, hD0⟩ := hv
  have hx := B.exec
  have hb := B.bytes
  have hr := B.returns
  have hts := atoms_spec (ws := wsX3_write) B.pre
  have hown : s.vm.findClass RX3 = some m.cls := findClass_of_methodNamed B.named
  have hlocks := B.notSynchronized
  subst hsz
  have hD := hD0.self (sz := s.heap.size)
  generalize hAe : va_A (mdW cI cB h a b c d v fw fd fs fn) s.heap.size = A at hD ⊢
  have hA : ∀ q : Nat, s.heap.size ≤ q → A q := fun q h => by rw [← hAe]; exact Or.inr h
  have hS : va_S A s.heap s.heap [] := va_S.rf
  have hin : ∀ w ∈ wsX30, w ∈ wsX3_write := by decide +kernel
  have hf_17 := hts (.fieldLink RX3 17 "PipeWorksModel" "seen" "[I") (by decide +kernel)
  have hf_23 := hts (.fieldLink RX3 23 "PipeWorksModel" "latest" "I") (by decide +kernel)
  have hf_40 := hts (.fieldLink RX3 40 "PipeWorksModel" "done" "I") (by decide +kernel)
  have hf_43 := hts (.fieldLink RX3 43 "PipeWorksModel" "kind" "I") (by decide +kernel)
  have hf_46 := hts (.fieldLink RX3 46 "PipeWorksModel" "haltAt" "I") (by decide +kernel)
  have hf_56 := hts (.fieldLink RX3 56 "PipeWorksModel" "waits" "Z") (by decide +kernel)
  have hf_105 := hts (.fieldLink RX3 105 "PipeWorksModel" "result" "I") (by decide +kernel)
  have hf_114 := hts (.fieldLink RX3 114 "PipeWorksModel" "waitsFor" "I") (by decide +kernel)
  have hf_141 := hts (.fieldLink RX3 141 "PipeWorksModel" "waitsAt" "I") (by decide +kernel)
  have hf_147 := hts (.fieldLink RX3 147 "PipeWorksModel" "waitsKind" "I") (by decide +kernel)
  have hl := lv_entry ([.ref h]) (n := 1) (Nat.le_of_ble_eq_true rfl)
  rw [lg_entry_eq]
  generalize (lg_sl ([.ref h]) ++ List.replicate (1 - (lg_sl ([.ref h])).length) Slot.unset).toArray = ls at hl ⊢
  have hl : lv_has ls 1 [(0, .ref h)] := hl
  refine lv_aload_n hx hb dX3_write_0 rfl (lv_at hl 0 rfl) ?_
  refine lv_iconst (v := 0) hx hb dX3_write_1 (by decide) ?_
  refine va_put (D := (dC, dI)) (ci := 1) (v := .int 0) (ty := .boolean) (C := RX3) (T := TX3) (N := 21) hx hb hts hin tyX3 tyX3_ok nmX3 hown hK hP hD hS 0 rfl rfl 14 (by decide) hf_56 (fun _ h9 => h9) rfl (by decide +kernel) rfl rfl (Nat.le_of_ble_eq_true rfl) dX3_write_2 (fun H locs hP hD hS => ?_)
  have hP : va_P (dC, dI) vwCl (mdW cI cB h a b c d (upd v 14 0) fw fd fs fn) H := hP
  have hD : va_D A (mdW cI cB h a b c d (upd v 14 0) fw fd fs fn) := hD
  refine lv_aload_n hx hb dX3_write_5 rfl (lv_at hl 0 rfl) ?_
  refine va_get (D := (dC, dI)) (ci := 1) (v := .int (v 16)) (C := RX3) (T := TX3) (N := 21) hx hb hts hin hown hK hP 0 rfl rfl 16 (by decide) hf_147 (fun _ h9 => h9) rfl dX3_write_6 ?_
  refine lv_if_le (tgt := 29) hx hb dX3_write_9 (by decide) (fun c_9 => ?_) (fun c_9 => ?_)
  ·
    refine lv_aload_n hx hb dX3_write_29 rfl (lv_at hl 0 rfl) ?_
    refine lv_dup hx hb dX3_write_30 rfl ?_
    refine va_get (D := (dC, dI)) (ci := 1) (v := .int (v 7)) (C := RX3) (T := TX3) (N := 21) hx hb hts hin hown hK hP 0 rfl rfl 7 (by decide) hf_40 (fun _ h9 => h9) rfl dX3_write_31 ?_
    refine lv_iconst (v := 1) hx hb dX3_write_34 (by decide) ?_
    refine lv_iadd hx hb dX3_write_35 ?_
    refine va_put (D := (dC, dI)) (ci := 1) (v := .int ((v 7) + 1)) (ty := .int) (C := RX3) (T := TX3) (N := 21) hx hb hts hin tyX3 tyX3_ok nmX3 hown hK hP hD hS 0 rfl rfl 7 (by decide) hf_40 (fun _ h9 => h9) rfl (by decide +kernel) rfl rfl (Nat.le_of_ble_eq_true rfl) dX3_write_36 (fun H locs hP hD hS => ?_)
    have hP : va_P (dC, dI) vwCl (mdW cI cB h a b c d (upd (upd v 14 0) 7 ((v 7) + 1)) fw fd fs fn) H := hP
    have hD : va_D A (mdW cI cB h a b c d (upd (upd v 14 0) 7 ((v 7) + 1)) fw fd fs fn) := hD
    refine lv_aload_n hx hb dX3_write_39 rfl (lv_at hl 0 rfl) ?_
    refine lv_aload_n hx hb dX3_write_40 rfl (lv_at hl 0 rfl) ?_
    refine va_get (D := (dC, dI)) (ci := 1) (v := .int (v 15)) (C := RX3) (T := TX3) (N := 21) hx hb hts hin hown hK hP 0 rfl rfl 15 (by decide) hf_141 (fun _ h9 => h9) rfl dX3_write_41 ?_
    refine va_put (D := (dC, dI)) (ci := 1) (v := .int (v 15)) (ty := .int) (C := RX3) (T := TX3) (N := 21) hx hb hts hin tyX3 tyX3_ok nmX3 hown hK hP hD hS 0 rfl rfl 8 (by decide) hf_23 (fun _ h9 => h9) rfl (by decide +kernel) rfl rfl (Nat.le_of_ble_eq_true rfl) dX3_write_44 (fun H locs hP hD hS => ?_)
    have hP : va_P (dC, dI) vwCl (mdW cI cB h a b c d (upd (upd (upd v 14 0) 7 ((v 7) + 1)) 8 (v 15)) fw fd fs fn) H := hP
    have hD : va_D A (mdW cI cB h a b c d (upd (upd (upd v 14 0) 7 ((v 7) + 1)) 8 (v 15)) fw fd fs fn) := hD
    refine lv_aload_n hx hb dX3_write_47 rfl (lv_at hl 0 rfl) ?_
    refine va_get (D := (dC, dI)) (ci := 1) (v := .int (v 17)) (C := RX3) (T := TX3) (N := 21) hx hb hts hin hown hK hP 0 rfl rfl 17 (by decide) hf_114 (fun _ h9 => h9) rfl dX3_write_48 ?_
    refine lv_if_le (tgt := 67) hx hb dX3_write_51 (by decide) (fun c_51 => ?_) (fun c_51 => ?_)
    ·
      have e9 : fX3_write v fw fd fs fn = (upd (upd (upd v 14 0) 7 ((v 7) + 1)) 8 (v 15), fs) := by rw [fX3_write, if_pos c_9, if_pos c_51]
      exact W.vret hx hb hr (fun t ht hW => wr_endv (hAe ▸ hS) ht (by rw [e9]; exact hP) (by rw [e9, hAe]; exact hD)) hS.2.2 dX3_write_67
    ·
      refine lv_aload_n hx hb dX3_write_54 rfl (lv_at hl 0 rfl) ?_
      refine va_get (D := (dC, dI)) (ci := 1) (v := .ref c) (C := RX3) (T := TX3) (N := 21) hx hb hts hin hown hK hP 0 rfl rfl 3 (by decide) hf_17 (fun _ h9 => h9) rfl dX3_write_55 ?_
      refine lv_aload_n hx hb dX3_write_58 rfl (lv_at hl 0 rfl) ?_
      refine va_get (D := (dC, dI)) (ci := 1) (v := .int (v 17)) (C := RX3) (T := TX3) (N := 21) hx hb hts hin hown hK hP 0 rfl rfl 17 (by decide) hf_114 (fun _ h9 => h9) rfl dX3_write_59 ?_
      refine lv_aload_n hx hb dX3_write_62 rfl (lv_at hl 0 rfl) ?_
      refine va_get (D := (dC, dI)) (ci := 1) (v := .int (v 18)) (C := RX3) (T := TX3) (N := 21) hx hb hts hin hown hK hP 0 rfl rfl 18 (by decide) hf_105 (fun _ h9 => h9) rfl dX3_write_63 ?_
      refine va_iast hx hb hK hP hD hS 3 0 rfl rfl hwf dX3_write_66 (fun H locs hP hD hS => ?_)
      have hP : va_P (dC, dI) vwCl (mdW cI cB h a b c d (upd (upd (upd v 14 0) 7 ((v 7) + 1)) 8 (v 15)) fw fd (upd fs (v 17).toNatClampNeg (v 18)) fn) H := hP
      have hD : va_D A (mdW cI cB h a b c d (upd (upd (upd v 14 0) 7 ((v 7) + 1)) 8 (v 15)) fw fd (upd fs (v 17).toNatClampNeg (v 18)) fn) := hD
      have e9 : fX3_write v fw fd fs fn = (upd (upd (upd v 14 0) 7 ((v 7) + 1)) 8 (v 15), upd fs (v 17).toNatClampNeg (v 18)) := by rw [fX3_write, if_pos c_9, if_neg c_51]
      exact W.vret hx hb hr (fun t ht hW => wr_endv (hAe ▸ hS) ht (by rw [e9]; exact hP) (by rw [e9, hAe]; exact hD)) hS.2.2 dX3_write_67
  ·
    refine lv_aload_n hx hb dX3_write_12 rfl (lv_at hl 0 rfl) ?_
    refine lv_aload_n hx hb dX3_write_13 rfl (lv_at hl 0 rfl) ?_
    refine va_get (D := (dC, dI)) (ci := 1) (v := .int (v 16)) (C := RX3) (T := TX3) (N := 21) hx hb hts hin hown hK hP 0 rfl rfl 16 (by decide) hf_147 (fun _ h9 => h9) rfl dX3_write_14 ?_
    refine va_put (D := (dC, dI)) (ci := 1) (v := .int (v 16)) (ty := .int) (C := RX3) (T := TX3) (N := 21) hx hb hts hin tyX3 tyX3_ok nmX3 hown hK hP hD hS 0 rfl rfl 9 (by decide) hf_43 (fun _ h9 => h9) rfl (by decide +kernel) rfl rfl (Nat.le_of_ble_eq_true rfl) dX3_write_17 (fun H locs hP hD hS => ?_)
    have hP : va_P (dC, dI) vwCl (mdW cI cB h a b c d (upd (upd v 14 0) 9 (v 16)) fw fd fs fn) H := hP
    have hD : va_D A (mdW cI cB h a b c d (upd (upd v 14 0) 9 (v 16)) fw fd fs fn) := hD
    refine lv_aload_n hx hb dX3_write_20 rfl (lv_at hl 0 rfl) ?_
    refine lv_aload_n hx hb dX3_write_21 rfl (lv_at hl 0 rfl) ?_
    refine va_get (D := (dC, dI)) (ci := 1) (v := .int (v 15)) (C := RX3) (T := TX3) (N := 21) hx hb hts hin hown hK hP 0 rfl rfl 15 (by decide) hf_141 (fun _ h9 => h9) rfl dX3_write_22 ?_
    refine va_put (D := (dC, dI)) (ci := 1) (v := .int (v 15)) (ty := .int) (C := RX3) (T := TX3) (N := 21) hx hb hts hin tyX3 tyX3_ok nmX3 hown hK hP hD hS 0 rfl rfl 10 (by decide) hf_46 (fun _ h9 => h9) rfl (by decide +kernel) rfl rfl (Nat.le_of_ble_eq_true rfl) dX3_write_25 (fun H locs hP hD hS => ?_)
    have hP : va_P (dC, dI) vwCl (mdW cI cB h a b c d (upd (upd (upd v 14 0) 9 (v 16)) 10 (v 15)) fw fd fs fn) H := hP
    have hD : va_D A (mdW cI cB h a b c d (upd (upd (upd v 14 0) 9 (v 16)) 10 (v 15)) fw fd fs fn) := hD
    have e9 : fX3_write v fw fd fs fn = (upd (upd (upd v 14 0) 9 (v 16)) 10 (v 15), fs) := by rw [fX3_write, if_neg c_9]
    exact W.vret hx hb hr (fun t ht hW => wr_endv (hAe ▸ hS) ht (by rw [e9]; exact hP) (by rw [e9, hAe]; exact hD)) hS.2.2 dX3_write_28
