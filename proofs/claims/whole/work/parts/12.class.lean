theorem ix_rng {x M : Int32} {N : Nat} (h1 : ¬ x < 0) (h2 : ¬ M ≤ x) (hM : M.toInt = N) : vp_in x N := by
  rw [vp_in_iff]
  rw [Int32.lt_iff_toInt_lt, Int32.toInt_zero] at h1
  rw [Int32.le_iff_toInt_le, hM] at h2
  omega
theorem ix_rng1 {x M : Int32} {N : Nat} (h1 : ¬ x < 1) (h2 : ¬ M ≤ x) (hM : M.toInt = N) : vp_in x N := by
  rw [vp_in_iff]
  rw [Int32.lt_iff_toInt_lt, show (1 : Int32).toInt = 1 from by decide] at h1
  rw [Int32.le_iff_toInt_le, hM] at h2
  omega
def fX2_isBeyond (x y : Int32) : Int32 := (if x < 0 then 1 else (if x ≤ y then 0 else 1))
set_option maxHeartbeats 4000000 in
set_option maxRecDepth 100000 in
theorem kX2_isBeyond (l : Launch) (x y : Int32) : Met l yX2_isBeyond wsX2_isBeyond ({ frames := 0, cells := 0, slots := 0, locals := 0 }) (pu_Pc [.int x, .int y]) (ro_Q (fX2_isBeyond x y)) 0 0 ro_N := by
  refine Met.ofW (cc := cX2_isBeyond) (maxL := 2) (ret := (some .boolean)) (by decide) rfl ?_
  intro p e s m args below meth c s₁ B hml hv
  obtain ⟨rfl, -⟩ := hv
  have hx := B.exec
  have hb := B.bytes
  have hr := B.returns
  have hts := atoms_spec (ws := wsX2_isBeyond) B.pre
  have hown : s.vm.findClass RX2 = some m.cls := findClass_of_methodNamed B.named
  have hlocks := B.notSynchronized
  have hS : va_S ro_N s.heap s.heap [] := va_S.rf
  have hl := lv_entry ([.int x, .int y]) (n := 2) (Nat.le_of_ble_eq_true rfl)
  rw [lg_entry_eq]
  generalize (lg_sl ([.int x, .int y]) ++ List.replicate (2 - (lg_sl ([.int x, .int y])).length) Slot.unset).toArray = ls at hl ⊢
  have hl : lv_has ls 2 [(0, .int x), (1, .int y)] := hl
  refine lv_iload_n hx hb dX2_isBeyond_0 rfl (lv_at hl 0 rfl) ?_
  refine lv_if_lt (tgt := 9) hx hb dX2_isBeyond_1 (by decide) (fun c_1 => ?_) (fun c_1 => ?_)
  ·
    refine lv_iconst (v := 1) hx hb dX2_isBeyond_9 (by decide) ?_
    refine lv_goto (tgt := 14) hx hb dX2_isBeyond_10 (by decide) ?_
    exact W.zret (v := 1) hx hb hr rfl (fun t ht hW => ro_end (A := ro_N) hS ht (by rw [fX2_isBeyond, if_pos c_1])) hS.2.2 dX2_isBeyond_14
  ·
    refine lv_iload_n hx hb dX2_isBeyond_4 rfl (lv_at hl 0 rfl) ?_
    refine lv_iload_n hx hb dX2_isBeyond_5 rfl (lv_at hl 1 rfl) ?_
    refine lv_icmp_le (tgt := 13) hx hb dX2_isBeyond_6 (by decide) (fun c_6 => ?_) (fun c_6 => ?_)
    ·
      refine lv_iconst (v := 0) hx hb dX2_isBeyond_13 (by decide) ?_
      exact W.zret (v := 0) hx hb hr rfl (fun t ht hW => ro_end (A := ro_N) hS ht (by rw [fX2_isBeyond, if_neg c_1, if_pos c_6])) hS.2.2 dX2_isBeyond_14
    ·
      refine lv_iconst (v := 1) hx hb dX2_isBeyond_9 (by decide) ?_
      refine lv_goto (tgt := 14) hx hb dX2_isBeyond_10 (by decide) ?_
      exact W.zret (v := 1) hx hb hr rfl (fun t ht hW => ro_end (A := ro_N) hS ht (by rw [fX2_isBeyond, if_neg c_1, if_neg c_6])) hS.2.2 dX2_isBeyond_14
def fX2_haltOfAccess (x y : Int32) : Int32 := (if (x &&& (y - 1)) = 0 then (if (fX2_isBeyond x 255) = 0 then 0 else 7) else 6)
set_option maxHeartbeats 4000000 in
set_option maxRecDepth 100000 in
theorem kX2_haltOfAccess (l : Launch) (x y : Int32) : Met l yX2_haltOfAccess wsX2_haltOfAccess ({ frames := 1, cells := 0, slots := 0, locals := 21 }) (pu_Pc [.int x, .int y]) (ro_Q (fX2_haltOfAccess x y)) 0 0 ro_N := by
  refine Met.ofW (cc := cX2_haltOfAccess) (maxL := 2) (ret := (some .int)) (by decide) rfl ?_
  intro p e s m args below meth c s₁ B hml hv
  obtain ⟨rfl, -⟩ := hv
  have hx := B.exec
  have hb := B.bytes
  have hr := B.returns
  have hts := atoms_spec (ws := wsX2_haltOfAccess) B.pre
  have hown : s.vm.findClass RX2 = some m.cls := findClass_of_methodNamed B.named
  have hlocks := B.notSynchronized
  have hS : va_S ro_N s.heap s.heap [] := va_S.rf
  have hl := lv_entry ([.int x, .int y]) (n := 2) (Nat.le_of_ble_eq_true rfl)
  rw [lg_entry_eq]
  generalize (lg_sl ([.int x, .int y]) ++ List.replicate (2 - (lg_sl ([.int x, .int y])).length) Slot.unset).toArray = ls at hl ⊢
  have hl : lv_has ls 2 [(0, .int x), (1, .int y)] := hl
  refine lv_iload_n hx hb dX2_haltOfAccess_0 rfl (lv_at hl 0 rfl) ?_
  refine lv_iload_n hx hb dX2_haltOfAccess_1 rfl (lv_at hl 1 rfl) ?_
  refine lv_iconst (v := 1) hx hb dX2_haltOfAccess_2 (by decide) ?_
  refine lv_isub hx hb dX2_haltOfAccess_3 ?_
  refine lv_iand hx hb dX2_haltOfAccess_4 ?_
  refine lv_if_eq (tgt := 11) hx hb dX2_haltOfAccess_5 (by decide) (fun c_5 => ?_) (fun c_5 => ?_)
  ·
    refine lv_iload_n hx hb dX2_haltOfAccess_11 rfl (lv_at hl 0 rfl) ?_
    refine lv_sipush (v := 255) hx hb dX2_haltOfAccess_12 (by decide) ?_
    refine ro_call (va_runS (As := [.int x, .int 255]) (rest := []) ⟨hx, hb, hml, hown, hts⟩ (kX2_isBeyond l x 255 ) (va_cwS 2 hts gX2_haltOfAccess_X2_isBeyond rfl rfl rfl (by decide +kernel) ⟨Nat.le_of_ble_eq_true rfl, Nat.le_of_ble_eq_true rfl⟩) pu_preS rfl rfl hl.1 rfl (lv_room (Nat.le_of_ble_eq_true rfl)) dX2_haltOfAccess_15 ⟨Nat.zero_le _, Nat.zero_le _⟩) hS (fun H locs hk hS => ?_)
    refine lv_if_eq (tgt := 26) hx hb dX2_haltOfAccess_18 (by decide) (fun c_18 => ?_) (fun c_18 => ?_)
    ·
      refine lv_iconst (v := 0) hx hb dX2_haltOfAccess_26 (by decide) ?_
      exact W.iret (v := 0) hx hb hr (fun t ht hW => ro_end (A := ro_N) hS ht (by rw [fX2_haltOfAccess, if_pos c_5, if_pos c_18])) hS.2.2 dX2_haltOfAccess_27
    ·
      refine lv_bipush (v := 7) hx hb dX2_haltOfAccess_21 (by decide) ?_
      refine lv_goto (tgt := 27) hx hb dX2_haltOfAccess_23 (by decide) ?_
      exact W.iret (v := 7) hx hb hr (fun t ht hW => ro_end (A := ro_N) hS ht (by rw [fX2_haltOfAccess, if_pos c_5, if_neg c_18])) hS.2.2 dX2_haltOfAccess_27
  ·
    refine lv_bipush (v := 6) hx hb dX2_haltOfAccess_8 (by decide) ?_
    exact W.iret (v := 6) hx hb hr (fun t ht hW => ro_end (A := ro_N) hS ht (by rw [fX2_haltOfAccess, if_neg c_5])) hS.2.2 dX2_haltOfAccess_10
def fX2_cellOf (x : Int32) : Int32 := ((x &&& 255) >>> (2 &&& 31))
set_option maxHeartbeats 4000000 in
set_option maxRecDepth 100000 in
theorem kX2_cellOf (l : Launch) (x : Int32) : Met l yX2_cellOf wsX2_cellOf ({ frames := 0, cells := 0, slots := 0, locals := 0 }) (pu_Pc [.int x]) (ro_Q (fX2_cellOf x)) 0 0 ro_N := by
  refine Met.ofW (cc := cX2_cellOf) (maxL := 1) (ret := (some .int)) (by decide) rfl ?_
  intro p e s m args below meth c s₁ B hml hv
  obtain ⟨rfl, -⟩ := hv
  have hx := B.exec
  have hb := B.bytes
  have hr := B.returns
  have hts := atoms_spec (ws := wsX2_cellOf) B.pre
  have hown : s.vm.findClass RX2 = some m.cls := findClass_of_methodNamed B.named
  have hlocks := B.notSynchronized
  have hS : va_S ro_N s.heap s.heap [] := va_S.rf
  have hl := lv_entry ([.int x]) (n := 1) (Nat.le_of_ble_eq_true rfl)
  rw [lg_entry_eq]
  generalize (lg_sl ([.int x]) ++ List.replicate (1 - (lg_sl ([.int x])).length) Slot.unset).toArray = ls at hl ⊢
  have hl : lv_has ls 1 [(0, .int x)] := hl
  refine lv_iload_n hx hb dX2_cellOf_0 rfl (lv_at hl 0 rfl) ?_
  refine lv_sipush (v := 255) hx hb dX2_cellOf_1 (by decide) ?_
  refine lv_iand hx hb dX2_cellOf_4 ?_
  refine lv_iconst (v := 2) hx hb dX2_cellOf_5 (by decide) ?_
  refine lv_ishr hx hb dX2_cellOf_6 ?_
  exact W.iret (v := (x &&& 255) >>> (2 &&& 31)) hx hb hr (fun t ht hW => ro_end (A := ro_N) hS ht (by rw [fX2_cellOf])) hS.2.2 dX2_cellOf_7
def fX2_shiftOf (x : Int32) : Int32 := ((x &&& 3) * 8)
set_option maxHeartbeats 4000000 in
set_option maxRecDepth 100000 in
theorem kX2_shiftOf (l : Launch) (x : Int32) : Met l yX2_shiftOf wsX2_shiftOf ({ frames := 0, cells := 0, slots := 0, locals := 0 }) (pu_Pc [.int x]) (ro_Q (fX2_shiftOf x)) 0 0 ro_N := by
  refine Met.ofW (cc := cX2_shiftOf) (maxL := 1) (ret := (some .int)) (by decide) rfl ?_
  intro p e s m args below meth c s₁ B hml hv
  obtain ⟨rfl, -⟩ := hv
  have hx := B.exec
  have hb := B.bytes
  have hr := B.returns
  have hts := atoms_spec (ws := wsX2_shiftOf) B.pre
  have hown : s.vm.findClass RX2 = some m.cls := findClass_of_methodNamed B.named
  have hlocks := B.notSynchronized
  have hS : va_S ro_N s.heap s.heap [] := va_S.rf
  have hl := lv_entry ([.int x]) (n := 1) (Nat.le_of_ble_eq_true rfl)
  rw [lg_entry_eq]
  generalize (lg_sl ([.int x]) ++ List.replicate (1 - (lg_sl ([.int x])).length) Slot.unset).toArray = ls at hl ⊢
  have hl : lv_has ls 1 [(0, .int x)] := hl
  refine lv_iload_n hx hb dX2_shiftOf_0 rfl (lv_at hl 0 rfl) ?_
  refine lv_iconst (v := 3) hx hb dX2_shiftOf_1 (by decide) ?_
  refine lv_iand hx hb dX2_shiftOf_2 ?_
  refine lv_bipush (v := 8) hx hb dX2_shiftOf_3 (by decide) ?_
  refine lv_imul hx hb dX2_shiftOf_5 ?_
  exact W.iret (v := (x &&& 3) * 8) hx hb hr (fun t ht hW => ro_end (A := ro_N) hS ht (by rw [fX2_shiftOf])) hS.2.2 dX2_shiftOf_6
theorem ix_beyond {x y : Int32} (h : fX2_isBeyond x y = 0) : ¬ x < 0 ∧ x ≤ y := by
  unfold fX2_isBeyond at h
  split at h
  · exact absurd h (by decide)
  · rename_i h1
    split at h
    · rename_i h2
      exact ⟨h1, h2⟩
    · exact absurd h (by decide)
theorem ix_wordAt {x : Int32} (h : fX2_isBeyond x 1023 = 0) : vp_in (x >>> ((2 : Int32) &&& 31)) 256 := by
  obtain ⟨h1, h2⟩ := ix_beyond h
  obtain ⟨j, hj, rfl⟩ := nI_of2 (n := 1023) (by decide) h1 h2
  rw [pk_shrN (by omega) _ 2 (by decide)]
  exact vp_in_nI (by omega) (by decide)
theorem ix_rs1 (w : Int32) : vp_in (fX1_rs1 w) 32 := ix_and (jushr w 15) 5 (by decide) (by decide) rfl
theorem ix_rs2 (w : Int32) : vp_in (fX1_rs2 w) 32 := ix_and (jushr w 20) 5 (by decide) (by decide) rfl
theorem ix_rd (w : Int32) : vp_in (fX1_rd w) 32 := ix_and (jushr w 7) 5 (by decide) (by decide) rfl
theorem ix_cell (x : Int32) : vp_in (fX2_cellOf x) 64 := by
  show vp_in ((x &&& 255) >>> ((2 : Int32) &&& 31)) 64
  obtain ⟨j, hj, e⟩ := pk_andE x (m := 255) 8 (by decide)
  rw [e, pk_shrN (by omega) _ 2 (by decide)]
  exact vp_in_nI (by omega) (by decide)
def fX2_word (v fw fc fr : Nat → Int32) (k w : Int32) : Int32 × (Nat → Int32) := (if k < 0 then (0, fw) else (if 256 ≤ k then (0, fw) else (if (v 4) = 0 then (1, upd fw k.toNatClampNeg w) else (0, fw))))
set_option maxHeartbeats 4000000 in
set_option maxRecDepth 100000 in
theorem kX2_word (l : Launch) (dC : Nat → ClassId) (dI : Nat → Nat → Nat) (cI cB : ClassId) (h a b c : Nat) (sz : Nat) (v fw fc fr : Nat → Int32) (k w : Int32) : Met l yX2_word wsX2_word ({ frames := 0, cells := 0, slots := 0, locals := 0 }) (wr_Pc [.ref h, .int k, .int w] (dC, dI) vwCl (tyIB cI cB) (pwW cI h a b c v fw fc fr) sz) (wr_Qi (fX2_word v fw fc fr k w).1 (pwW cI h a b c v ((fX2_word v fw fc fr k w).2) fc fr) (dC, dI) vwCl (pwW cI h a b c v fw fc fr) sz) 0 0 (va_A (pwW cI h a b c v fw fc fr) sz) := by
  refine Met.ofW (cc := cX2_word) (maxL := 3) (ret := (some .boolean)) (by decide) rfl ?_
  intro p e s m args below meth c9 s₁ B hml hv
  obtain ⟨rfl, hsz, hP, hK, hD0⟩ := hv
  have hx := B.exec
  have hb := B.bytes
  have hr := B.returns
  have hts := atoms_spec (ws := wsX2_word) B.pre
  have hown : s.vm.findClass RX2 = some m.cls := findClass_of_methodNamed B.named
  have hlocks := B.notSynchronized
  subst hsz
  have hD := hD0.self (sz := s.heap.size)
  generalize hAe : va_A (pwW cI h a b c v fw fc fr) s.heap.size = A at hD ⊢
  have hA : ∀ q : Nat, s.heap.size ≤ q → A q := fun q h => by rw [← hAe]; exact Or.inr h
  have hS : va_S A s.heap s.heap [] := va_S.rf
  have hin : ∀ w ∈ wsX20, w ∈ wsX2_word := by decide +kernel
  have hf_9 := hts (.fieldLink RX2 9 "PipeWorks" "words" "[I") (by decide +kernel)
  have hf_26 := hts (.fieldLink RX2 26 "PipeWorks" "clocks" "I") (by decide +kernel)
  have hl := lv_entry ([.ref h, .int k, .int w]) (n := 3) (Nat.le_of_ble_eq_true rfl)
  rw [lg_entry_eq]
  generalize (lg_sl ([.ref h, .int k, .int w]) ++ List.replicate (3 - (lg_sl ([.ref h, .int k, .int w])).length) Slot.unset).toArray = ls at hl ⊢
  have hl : lv_has ls 3 [(0, .ref h), (1, .int k), (2, .int w)] := hl
  refine lv_iload_n hx hb dX2_word_0 rfl (lv_at hl 1 rfl) ?_
  refine lv_if_lt (tgt := 18) hx hb dX2_word_1 (by decide) (fun c_1 => ?_) (fun c_1 => ?_)
  ·
    refine lv_iconst (v := 0) hx hb dX2_word_18 (by decide) ?_
    have e9 : fX2_word v fw fc fr k w = (0, fw) := by rw [fX2_word, if_pos c_1]
    exact W.zret (v := 0) hx hb hr rfl (fun t ht hW => wr_endi (hAe ▸ hS) ht (by rw [e9]) (by rw [e9]; exact hP) (by rw [e9, hAe]; exact hD)) hS.2.2 dX2_word_19
  ·
    refine lv_iload_n hx hb dX2_word_4 rfl (lv_at hl 1 rfl) ?_
    refine lv_sipush (v := 256) hx hb dX2_word_5 (by decide) ?_
    refine lv_icmp_ge (tgt := 18) hx hb dX2_word_8 (by decide) (fun c_8 => ?_) (fun c_8 => ?_)
    ·
      refine lv_iconst (v := 0) hx hb dX2_word_18 (by decide) ?_
      have e9 : fX2_word v fw fc fr k w = (0, fw) := by rw [fX2_word, if_neg c_1, if_pos c_8]
      exact W.zret (v := 0) hx hb hr rfl (fun t ht hW => wr_endi (hAe ▸ hS) ht (by rw [e9]) (by rw [e9]; exact hP) (by rw [e9, hAe]; exact hD)) hS.2.2 dX2_word_19
    ·
      refine lv_aload_n hx hb dX2_word_11 rfl (lv_at hl 0 rfl) ?_
      refine va_get (D := (dC, dI)) (ci := 0) (v := .int (v 4)) (C := RX2) (T := TX2) (N := 16) hx hb hts hin hown hK hP 0 rfl rfl 4 (by decide) hf_26 (fun _ h9 => h9) rfl dX2_word_12 ?_
      refine lv_if_eq (tgt := 20) hx hb dX2_word_15 (by decide) (fun c_15 => ?_) (fun c_15 => ?_)
      ·
        refine lv_aload_n hx hb dX2_word_20 rfl (lv_at hl 0 rfl) ?_
        refine va_get (D := (dC, dI)) (ci := 0) (v := .ref a) (C := RX2) (T := TX2) (N := 16) hx hb hts hin hown hK hP 0 rfl rfl 0 (by decide) hf_9 (fun _ h9 => h9) rfl dX2_word_21 ?_
        refine lv_iload_n hx hb dX2_word_24 rfl (lv_at hl 1 rfl) ?_
        refine lv_iload_n hx hb dX2_word_25 rfl (lv_at hl 2 rfl) ?_
        refine va_iast hx hb hK hP hD hS 1 0 rfl rfl (ix_rng c_1 c_8 (by decide)) dX2_word_26 (fun H locs hP hD hS => ?_)
        have hP : va_P (dC, dI) vwCl (pwW cI h a b c v (upd fw k.toNatClampNeg w) fc fr) H := hP
        have hD : va_D A (pwW cI h a b c v (upd fw k.toNatClampNeg w) fc fr) := hD
        refine lv_iconst (v := 1) hx hb dX2_word_27 (by decide) ?_
        have e9 : fX2_word v fw fc fr k w = (1, upd fw k.toNatClampNeg w) := by rw [fX2_word, if_neg c_1, if_neg c_8, if_pos c_15]
        exact W.zret (v := 1) hx hb hr rfl (fun t ht hW => wr_endi (hAe ▸ hS) ht (by rw [e9]) (by rw [e9]; exact hP) (by rw [e9, hAe]; exact hD)) hS.2.2 dX2_word_28
      ·
        refine lv_iconst (v := 0) hx hb dX2_word_18 (by decide) ?_
        have e9 : fX2_word v fw fc fr k w = (0, fw) := by rw [fX2_word, if_neg c_1, if_neg c_8, if_neg c_15]
        exact W.zret (v := 0) hx hb hr rfl (fun t ht hW => wr_endi (hAe ▸ hS) ht (by rw [e9]) (by rw [e9]; exact hP) (by rw [e9, hAe]; exact hD)) hS.2.2 dX2_word_19
def fX2_data (v fw fc fr : Nat → Int32) (k w : Int32) : Int32 × (Nat → Int32) := (if k < 0 then (0, fc) else (if 64 ≤ k then (0, fc) else (if (v 4) = 0 then (1, upd fc k.toNatClampNeg w) else (0, fc))))
set_option maxHeartbeats 4000000 in
set_option maxRecDepth 100000 in
theorem kX2_data (l : Launch) (dC : Nat → ClassId) (dI : Nat → Nat → Nat) (cI cB : ClassId) (h a b c : Nat) (sz : Nat) (v fw fc fr : Nat → Int32) (k w : Int32) : Met l yX2_data wsX2_data ({ frames := 0, cells := 0, slots := 0, locals := 0 }) (wr_Pc [.ref h, .int k, .int w] (dC, dI) vwCl (tyIB cI cB) (pwW cI h a b c v fw fc fr) sz) (wr_Qi (fX2_data v fw fc fr k w).1 (pwW cI h a b c v fw ((fX2_data v fw fc fr k w).2) fr) (dC, dI) vwCl (pwW cI h a b c v fw fc fr) sz) 0 0 (va_A (pwW cI h a b c v fw fc fr) sz) := by
  refine Met.ofW (cc := cX2_data) (maxL := 3) (ret := (some .boolean)) (by decide) rfl ?_
  intro p e s m args below meth c9 s₁ B hml hv
  obtain ⟨rfl, hsz, hP, hK, hD0⟩ := hv
  have hx := B.exec
  have hb := B.bytes
  have hr := B.returns
  have hts := atoms_spec (ws := wsX2_data) B.pre
  have hown : s.vm.findClass RX2 = some m.cls := findClass_of_methodNamed B.named
  have hlocks := B.notSynchronized
  subst hsz
  have hD := hD0.self (sz := s.heap.size)
  generalize hAe : va_A (pwW cI h a b c v fw fc fr) s.heap.size = A at hD ⊢
  have hA : ∀ q : Nat, s.heap.size ≤ q → A q := fun q h => by rw [← hAe]; exact Or.inr h
  have hS : va_S A s.heap s.heap [] := va_S.rf
  have hin : ∀ w ∈ wsX20, w ∈ wsX2_data := by decide +kernel
  have hf_13 := hts (.fieldLink RX2 13 "PipeWorks" "cells" "[I") (by decide +kernel)
  have hf_26 := hts (.fieldLink RX2 26 "PipeWorks" "clocks" "I") (by decide +kernel)
  have hl := lv_entry ([.ref h, .int k, .int w]) (n := 3) (Nat.le_of_ble_eq_true rfl)
  rw [lg_entry_eq]
  generalize (lg_sl ([.ref h, .int k, .int w]) ++ List.replicate (3 - (lg_sl ([.ref h, .int k, .int w])).length) Slot.unset).toArray = ls at hl ⊢
  have hl : lv_has ls 3 [(0, .ref h), (1, .int k), (2, .int w)] := hl
  refine lv_iload_n hx hb dX2_data_0 rfl (lv_at hl 1 rfl) ?_
  refine lv_if_lt (tgt := 17) hx hb dX2_data_1 (by decide) (fun c_1 => ?_) (fun c_1 => ?_)
  ·
    refine lv_iconst (v := 0) hx hb dX2_data_17 (by decide) ?_
    have e9 : fX2_data v fw fc fr k w = (0, fc) := by rw [fX2_data, if_pos c_1]
    exact W.zret (v := 0) hx hb hr rfl (fun t ht hW => wr_endi (hAe ▸ hS) ht (by rw [e9]) (by rw [e9]; exact hP) (by rw [e9, hAe]; exact hD)) hS.2.2 dX2_data_18
  ·
    refine lv_iload_n hx hb dX2_data_4 rfl (lv_at hl 1 rfl) ?_
    refine lv_bipush (v := 64) hx hb dX2_data_5 (by decide) ?_
    refine lv_icmp_ge (tgt := 17) hx hb dX2_data_7 (by decide) (fun c_7 => ?_) (fun c_7 => ?_)
    ·
      refine lv_iconst (v := 0) hx hb dX2_data_17 (by decide) ?_
      have e9 : fX2_data v fw fc fr k w = (0, fc) := by rw [fX2_data, if_neg c_1, if_pos c_7]
      exact W.zret (v := 0) hx hb hr rfl (fun t ht hW => wr_endi (hAe ▸ hS) ht (by rw [e9]) (by rw [e9]; exact hP) (by rw [e9, hAe]; exact hD)) hS.2.2 dX2_data_18
    ·
      refine lv_aload_n hx hb dX2_data_10 rfl (lv_at hl 0 rfl) ?_
      refine va_get (D := (dC, dI)) (ci := 0) (v := .int (v 4)) (C := RX2) (T := TX2) (N := 16) hx hb hts hin hown hK hP 0 rfl rfl 4 (by decide) hf_26 (fun _ h9 => h9) rfl dX2_data_11 ?_
      refine lv_if_eq (tgt := 19) hx hb dX2_data_14 (by decide) (fun c_14 => ?_) (fun c_14 => ?_)
      ·
        refine lv_aload_n hx hb dX2_data_19 rfl (lv_at hl 0 rfl) ?_
        refine va_get (D := (dC, dI)) (ci := 0) (v := .ref b) (C := RX2) (T := TX2) (N := 16) hx hb hts hin hown hK hP 0 rfl rfl 1 (by decide) hf_13 (fun _ h9 => h9) rfl dX2_data_20 ?_
        refine lv_iload_n hx hb dX2_data_23 rfl (lv_at hl 1 rfl) ?_
        refine lv_iload_n hx hb dX2_data_24 rfl (lv_at hl 2 rfl) ?_
        refine va_iast hx hb hK hP hD hS 2 0 rfl rfl (ix_rng c_1 c_7 (by decide)) dX2_data_25 (fun H locs hP hD hS => ?_)
        have hP : va_P (dC, dI) vwCl (pwW cI h a b c v fw (upd fc k.toNatClampNeg w) fr) H := hP
        have hD : va_D A (pwW cI h a b c v fw (upd fc k.toNatClampNeg w) fr) := hD
        refine lv_iconst (v := 1) hx hb dX2_data_26 (by decide) ?_
        have e9 : fX2_data v fw fc fr k w = (1, upd fc k.toNatClampNeg w) := by rw [fX2_data, if_neg c_1, if_neg c_7, if_pos c_14]
        exact W.zret (v := 1) hx hb hr rfl (fun t ht hW => wr_endi (hAe ▸ hS) ht (by rw [e9]) (by rw [e9]; exact hP) (by rw [e9, hAe]; exact hD)) hS.2.2 dX2_data_27
      ·
        refine lv_iconst (v := 0) hx hb dX2_data_17 (by decide) ?_
        have e9 : fX2_data v fw fc fr k w = (0, fc) := by rw [fX2_data, if_neg c_1, if_neg c_7, if_neg c_14]
        exact W.zret (v := 0) hx hb hr rfl (fun t ht hW => wr_endi (hAe ▸ hS) ht (by rw [e9]) (by rw [e9]; exact hP) (by rw [e9, hAe]; exact hD)) hS.2.2 dX2_data_18
def fX2_set (v fw fc fr : Nat → Int32) (k w : Int32) : Int32 × (Nat → Int32) := (if k < 1 then (0, fr) else (if 32 ≤ k then (0, fr) else (if (v 4) = 0 then (1, upd fr k.toNatClampNeg w) else (0, fr))))
set_option maxHeartbeats 4000000 in
set_option maxRecDepth 100000 in
theorem kX2_set (l : Launch) (dC : Nat → ClassId) (dI : Nat → Nat → Nat) (cI cB : ClassId) (h a b c : Nat) (sz : Nat) (v fw fc fr : Nat → Int32) (k w : Int32) : Met l yX2_set wsX2_set ({ frames := 0, cells := 0, slots := 0, locals := 0 }) (wr_Pc [.ref h, .int k, .int w] (dC, dI) vwCl (tyIB cI cB) (pwW cI h a b c v fw fc fr) sz) (wr_Qi (fX2_set v fw fc fr k w).1 (pwW cI h a b c v fw fc ((fX2_set v fw fc fr k w).2)) (dC, dI) vwCl (pwW cI h a b c v fw fc fr) sz) 0 0 (va_A (pwW cI h a b c v fw fc fr) sz) := by
  refine Met.ofW (cc := cX2_set) (maxL := 3) (ret := (some .boolean)) (by decide) rfl ?_
  intro p e s m args below meth c9 s₁ B hml hv
  obtain ⟨rfl, hsz, hP, hK, hD0⟩ := hv
  have hx := B.exec
  have hb := B.bytes
  have hr := B.returns
  have hts := atoms_spec (ws := wsX2_set) B.pre
  have hown : s.vm.findClass RX2 = some m.cls := findClass_of_methodNamed B.named
  have hlocks := B.notSynchronized
  subst hsz
  have hD := hD0.self (sz := s.heap.size)
  generalize hAe : va_A (pwW cI h a b c v fw fc fr) s.heap.size = A at hD ⊢
  have hA : ∀ q : Nat, s.heap.size ≤ q → A q := fun q h => by rw [← hAe]; exact Or.inr h
  have hS : va_S A s.heap s.heap [] := va_S.rf
  have hin : ∀ w ∈ wsX20, w ∈ wsX2_set := by decide +kernel
  have hf_16 := hts (.fieldLink RX2 16 "PipeWorks" "registers" "[I") (by decide +kernel)
  have hf_26 := hts (.fieldLink RX2 26 "PipeWorks" "clocks" "I") (by decide +kernel)
  have hl := lv_entry ([.ref h, .int k, .int w]) (n := 3) (Nat.le_of_ble_eq_true rfl)
  rw [lg_entry_eq]
  generalize (lg_sl ([.ref h, .int k, .int w]) ++ List.replicate (3 - (lg_sl ([.ref h, .int k, .int w])).length) Slot.unset).toArray = ls at hl ⊢
  have hl : lv_has ls 3 [(0, .ref h), (1, .int k), (2, .int w)] := hl
  refine lv_iload_n hx hb dX2_set_0 rfl (lv_at hl 1 rfl) ?_
  refine lv_iconst (v := 1) hx hb dX2_set_1 (by decide) ?_
  refine lv_icmp_lt (tgt := 18) hx hb dX2_set_2 (by decide) (fun c_2 => ?_) (fun c_2 => ?_)
  ·
    refine lv_iconst (v := 0) hx hb dX2_set_18 (by decide) ?_
    have e9 : fX2_set v fw fc fr k w = (0, fr) := by rw [fX2_set, if_pos c_2]
    exact W.zret (v := 0) hx hb hr rfl (fun t ht hW => wr_endi (hAe ▸ hS) ht (by rw [e9]) (by rw [e9]; exact hP) (by rw [e9, hAe]; exact hD)) hS.2.2 dX2_set_19
  ·
    refine lv_iload_n hx hb dX2_set_5 rfl (lv_at hl 1 rfl) ?_
    refine lv_bipush (v := 32) hx hb dX2_set_6 (by decide) ?_
    refine lv_icmp_ge (tgt := 18) hx hb dX2_set_8 (by decide) (fun c_8 => ?_) (fun c_8 => ?_)
    ·
      refine lv_iconst (v := 0) hx hb dX2_set_18 (by decide) ?_
      have e9 : fX2_set v fw fc fr k w = (0, fr) := by rw [fX2_set, if_neg c_2, if_pos c_8]
      exact W.zret (v := 0) hx hb hr rfl (fun t ht hW => wr_endi (hAe ▸ hS) ht (by rw [e9]) (by rw [e9]; exact hP) (by rw [e9, hAe]; exact hD)) hS.2.2 dX2_set_19
    ·
      refine lv_aload_n hx hb dX2_set_11 rfl (lv_at hl 0 rfl) ?_
      refine va_get (D := (dC, dI)) (ci := 0) (v := .int (v 4)) (C := RX2) (T := TX2) (N := 16) hx hb hts hin hown hK hP 0 rfl rfl 4 (by decide) hf_26 (fun _ h9 => h9) rfl dX2_set_12 ?_
      refine lv_if_eq (tgt := 20) hx hb dX2_set_15 (by decide) (fun c_15 => ?_) (fun c_15 => ?_)
      ·
        refine lv_aload_n hx hb dX2_set_20 rfl (lv_at hl 0 rfl) ?_
        refine va_get (D := (dC, dI)) (ci := 0) (v := .ref c) (C := RX2) (T := TX2) (N := 16) hx hb hts hin hown hK hP 0 rfl rfl 2 (by decide) hf_16 (fun _ h9 => h9) rfl dX2_set_21 ?_
        refine lv_iload_n hx hb dX2_set_24 rfl (lv_at hl 1 rfl) ?_
        refine lv_iload_n hx hb dX2_set_25 rfl (lv_at hl 2 rfl) ?_
        refine va_iast hx hb hK hP hD hS 3 0 rfl rfl (ix_rng1 c_2 c_8 (by decide)) dX2_set_26 (fun H locs hP hD hS => ?_)
        have hP : va_P (dC, dI) vwCl (pwW cI h a b c v fw fc (upd fr k.toNatClampNeg w)) H := hP
        have hD : va_D A (pwW cI h a b c v fw fc (upd fr k.toNatClampNeg w)) := hD
        refine lv_iconst (v := 1) hx hb dX2_set_27 (by decide) ?_
        have e9 : fX2_set v fw fc fr k w = (1, upd fr k.toNatClampNeg w) := by rw [fX2_set, if_neg c_2, if_neg c_8, if_pos c_15]
        exact W.zret (v := 1) hx hb hr rfl (fun t ht hW => wr_endi (hAe ▸ hS) ht (by rw [e9]) (by rw [e9]; exact hP) (by rw [e9, hAe]; exact hD)) hS.2.2 dX2_set_28
      ·
        refine lv_iconst (v := 0) hx hb dX2_set_18 (by decide) ?_
        have e9 : fX2_set v fw fc fr k w = (0, fr) := by rw [fX2_set, if_neg c_2, if_neg c_8, if_neg c_15]
        exact W.zret (v := 0) hx hb hr rfl (fun t ht hW => wr_endi (hAe ▸ hS) ht (by rw [e9]) (by rw [e9]; exact hP) (by rw [e9, hAe]; exact hD)) hS.2.2 dX2_set_19
def fX2_toBeginning (v fw fc fr : Nat → Int32) : (Nat → Int32) := (upd (upd (upd (upd (upd (upd (upd (upd v 4 0) 5 0) 6 (-1)) 7 0) 8 0) 9 0) 10 4) 11 0)
set_option maxHeartbeats 4000000 in
set_option maxRecDepth 100000 in
theorem kX2_toBeginning (l : Launch) (dC : Nat → ClassId) (dI : Nat → Nat → Nat) (cI cB : ClassId) (h a b c : Nat) (sz : Nat) (v fw fc fr : Nat → Int32) : Met l yX2_toBeginning wsX2_toBeginning ({ frames := 0, cells := 0, slots := 0, locals := 0 }) (wr_Pc [.ref h] (dC, dI) vwCl (tyIB cI cB) (pwW cI h a b c v fw fc fr) sz) (wr_Qv (pwW cI h a b c (fX2_toBeginning v fw fc fr) fw fc fr) (dC, dI) vwCl (pwW cI h a b c v fw fc fr) sz) 0 0 (va_A (pwW cI h a b c v fw fc fr) sz) := by
  refine Met.ofW (cc := cX2_toBeginning) (maxL := 1) (ret := none) (by decide) rfl ?_
  intro p e s m args below meth c9 s₁ B hml hv
  obtain ⟨rfl, hsz, hP, hK, hD0⟩ := hv
  have hx := B.exec
  have hb := B.bytes
  have hr := B.returns
  have hts := atoms_spec (ws := wsX2_toBeginning) B.pre
  have hown : s.vm.findClass RX2 = some m.cls := findClass_of_methodNamed B.named
  have hlocks := B.notSynchronized
  subst hsz
  have hD := hD0.self (sz := s.heap.size)
  generalize hAe : va_A (pwW cI h a b c v fw fc fr) s.heap.size = A at hD ⊢
  have hA : ∀ q : Nat, s.heap.size ≤ q → A q := fun q h => by rw [← hAe]; exact Or.inr h
  have hS : va_S A s.heap s.heap [] := va_S.rf
  have hin : ∀ w ∈ wsX20, w ∈ wsX2_toBeginning := by decide +kernel
  have hf_26 := hts (.fieldLink RX2 26 "PipeWorks" "clocks" "I") (by decide +kernel)
  have hf_44 := hts (.fieldLink RX2 44 "PipeWorks" "wordsDone" "I") (by decide +kernel)
  have hf_54 := hts (.fieldLink RX2 54 "PipeWorks" "haltKind" "I") (by decide +kernel)
  have hf_57 := hts (.fieldLink RX2 57 "PipeWorks" "haltAddress" "I") (by decide +kernel)
  have hf_60 := hts (.fieldLink RX2 60 "PipeWorks" "latestDone" "I") (by decide +kernel)
  have hf_63 := hts (.fieldLink RX2 63 "PipeWorks" "pc" "I") (by decide +kernel)
  have hf_66 := hts (.fieldLink RX2 66 "PipeWorks" "memoryClock" "I") (by decide +kernel)
  have hf_69 := hts (.fieldLink RX2 69 "PipeWorks" "writePending" "Z") (by decide +kernel)
  have hl := lv_entry ([.ref h]) (n := 1) (Nat.le_of_ble_eq_true rfl)
  rw [lg_entry_eq]
  generalize (lg_sl ([.ref h]) ++ List.replicate (1 - (lg_sl ([.ref h])).length) Slot.unset).toArray = ls at hl ⊢
  have hl : lv_has ls 1 [(0, .ref h)] := hl
  refine lv_aload_n hx hb dX2_toBeginning_0 rfl (lv_at hl 0 rfl) ?_
  refine lv_iconst (v := 0) hx hb dX2_toBeginning_1 (by decide) ?_
  refine va_put (D := (dC, dI)) (ci := 0) (v := .int 0) (ty := .int) (C := RX2) (T := TX2) (N := 16) hx hb hts hin tyX2 tyX2_ok nmX2 hown hK hP hD hS 0 rfl rfl 4 (by decide) hf_26 (fun _ h9 => h9) rfl (by decide +kernel) rfl rfl (Nat.le_of_ble_eq_true rfl) dX2_toBeginning_2 (fun H locs hP hD hS => ?_)
  have hP : va_P (dC, dI) vwCl (pwW cI h a b c (upd v 4 0) fw fc fr) H := hP
  have hD : va_D A (pwW cI h a b c (upd v 4 0) fw fc fr) := hD
  refine lv_aload_n hx hb dX2_toBeginning_5 rfl (lv_at hl 0 rfl) ?_
  refine lv_iconst (v := 0) hx hb dX2_toBeginning_6 (by decide) ?_
  refine va_put (D := (dC, dI)) (ci := 0) (v := .int 0) (ty := .int) (C := RX2) (T := TX2) (N := 16) hx hb hts hin tyX2 tyX2_ok nmX2 hown hK hP hD hS 0 rfl rfl 5 (by decide) hf_44 (fun _ h9 => h9) rfl (by decide +kernel) rfl rfl (Nat.le_of_ble_eq_true rfl) dX2_toBeginning_7 (fun H locs hP hD hS => ?_)
  have hP : va_P (dC, dI) vwCl (pwW cI h a b c (upd (upd v 4 0) 5 0) fw fc fr) H := hP
  have hD : va_D A (pwW cI h a b c (upd (upd v 4 0) 5 0) fw fc fr) := hD
  refine lv_aload_n hx hb dX2_toBeginning_10 rfl (lv_at hl 0 rfl) ?_
  refine lv_iconst (v := (-1)) hx hb dX2_toBeginning_11 (by decide) ?_
  refine va_put (D := (dC, dI)) (ci := 0) (v := .int (-1)) (ty := .int) (C := RX2) (T := TX2) (N := 16) hx hb hts hin tyX2 tyX2_ok nmX2 hown hK hP hD hS 0 rfl rfl 6 (by decide) hf_60 (fun _ h9 => h9) rfl (by decide +kernel) rfl rfl (Nat.le_of_ble_eq_true rfl) dX2_toBeginning_12 (fun H locs hP hD hS => ?_)
  have hP : va_P (dC, dI) vwCl (pwW cI h a b c (upd (upd (upd v 4 0) 5 0) 6 (-1)) fw fc fr) H := hP
  have hD : va_D A (pwW cI h a b c (upd (upd (upd v 4 0) 5 0) 6 (-1)) fw fc fr) := hD
  refine lv_aload_n hx hb dX2_toBeginning_15 rfl (lv_at hl 0 rfl) ?_
  refine lv_iconst (v := 0) hx hb dX2_toBeginning_16 (by decide) ?_
  refine va_put (D := (dC, dI)) (ci := 0) (v := .int 0) (ty := .int) (C := RX2) (T := TX2) (N := 16) hx hb hts hin tyX2 tyX2_ok nmX2 hown hK hP hD hS 0 rfl rfl 7 (by decide) hf_54 (fun _ h9 => h9) rfl (by decide +kernel) rfl rfl (Nat.le_of_ble_eq_true rfl) dX2_toBeginning_17 (fun H locs hP hD hS => ?_)
  have hP : va_P (dC, dI) vwCl (pwW cI h a b c (upd (upd (upd (upd v 4 0) 5 0) 6 (-1)) 7 0) fw fc fr) H := hP
  have hD : va_D A (pwW cI h a b c (upd (upd (upd (upd v 4 0) 5 0) 6 (-1)) 7 0) fw fc fr) := hD
  refine lv_aload_n hx hb dX2_toBeginning_20 rfl (lv_at hl 0 rfl) ?_
  refine lv_iconst (v := 0) hx hb dX2_toBeginning_21 (by decide) ?_
  refine va_put (D := (dC, dI)) (ci := 0) (v := .int 0) (ty := .int) (C := RX2) (T := TX2) (N := 16) hx hb hts hin tyX2 tyX2_ok nmX2 hown hK hP hD hS 0 rfl rfl 8 (by decide) hf_57 (fun _ h9 => h9) rfl (by decide +kernel) rfl rfl (Nat.le_of_ble_eq_true rfl) dX2_toBeginning_22 (fun H locs hP hD hS => ?_)
  have hP : va_P (dC, dI) vwCl (pwW cI h a b c (upd (upd (upd (upd (upd v 4 0) 5 0) 6 (-1)) 7 0) 8 0) fw fc fr) H := hP
  have hD : va_D A (pwW cI h a b c (upd (upd (upd (upd (upd v 4 0) 5 0) 6 (-1)) 7 0) 8 0) fw fc fr) := hD
  refine lv_aload_n hx hb dX2_toBeginning_25 rfl (lv_at hl 0 rfl) ?_
  refine lv_iconst (v := 0) hx hb dX2_toBeginning_26 (by decide) ?_
  refine va_put (D := (dC, dI)) (ci := 0) (v := .int 0) (ty := .int) (C := RX2) (T := TX2) (N := 16) hx hb hts hin tyX2 tyX2_ok nmX2 hown hK hP hD hS 0 rfl rfl 9 (by decide) hf_63 (fun _ h9 => h9) rfl (by decide +kernel) rfl rfl (Nat.le_of_ble_eq_true rfl) dX2_toBeginning_27 (fun H locs hP hD hS => ?_)
  have hP : va_P (dC, dI) vwCl (pwW cI h a b c (upd (upd (upd (upd (upd (upd v 4 0) 5 0) 6 (-1)) 7 0) 8 0) 9 0) fw fc fr) H := hP
  have hD : va_D A (pwW cI h a b c (upd (upd (upd (upd (upd (upd v 4 0) 5 0) 6 (-1)) 7 0) 8 0) 9 0) fw fc fr) := hD
  refine lv_aload_n hx hb dX2_toBeginning_30 rfl (lv_at hl 0 rfl) ?_
  refine lv_iconst (v := 4) hx hb dX2_toBeginning_31 (by decide) ?_
  refine va_put (D := (dC, dI)) (ci := 0) (v := .int 4) (ty := .int) (C := RX2) (T := TX2) (N := 16) hx hb hts hin tyX2 tyX2_ok nmX2 hown hK hP hD hS 0 rfl rfl 10 (by decide) hf_66 (fun _ h9 => h9) rfl (by decide +kernel) rfl rfl (Nat.le_of_ble_eq_true rfl) dX2_toBeginning_32 (fun H locs hP hD hS => ?_)
  have hP : va_P (dC, dI) vwCl (pwW cI h a b c (upd (upd (upd (upd (upd (upd (upd v 4 0) 5 0) 6 (-1)) 7 0) 8 0) 9 0) 10 4) fw fc fr) H := hP
  have hD : va_D A (pwW cI h a b c (upd (upd (upd (upd (upd (upd (upd v 4 0) 5 0) 6 (-1)) 7 0) 8 0) 9 0) 10 4) fw fc fr) := hD
  refine lv_aload_n hx hb dX2_toBeginning_35 rfl (lv_at hl 0 rfl) ?_
  refine lv_iconst (v := 0) hx hb dX2_toBeginning_36 (by decide) ?_
  refine va_put (D := (dC, dI)) (ci := 0) (v := .int 0) (ty := .boolean) (C := RX2) (T := TX2) (N := 16) hx hb hts hin tyX2 tyX2_ok nmX2 hown hK hP hD hS 0 rfl rfl 11 (by decide) hf_69 (fun _ h9 => h9) rfl (by decide +kernel) rfl rfl (Nat.le_of_ble_eq_true rfl) dX2_toBeginning_37 (fun H locs hP hD hS => ?_)
  have hP : va_P (dC, dI) vwCl (pwW cI h a b c (upd (upd (upd (upd (upd (upd (upd (upd v 4 0) 5 0) 6 (-1)) 7 0) 8 0) 9 0) 10 4) 11 0) fw fc fr) H := hP
  have hD : va_D A (pwW cI h a b c (upd (upd (upd (upd (upd (upd (upd (upd v 4 0) 5 0) 6 (-1)) 7 0) 8 0) 9 0) 10 4) 11 0) fw fc fr) := hD
  have e9 : fX2_toBeginning v fw fc fr = (upd (upd (upd (upd (upd (upd (upd (upd v 4 0) 5 0) 6 (-1)) 7 0) 8 0) 9 0) 10 4) 11 0) := by rw [fX2_toBeginning]
  exact W.vret hx hb hr (fun t ht hW => wr_endv (hAe ▸ hS) ht (by rw [e9]; exact hP) (by rw [e9, hAe]; exact hD)) hS.2.2 dX2_toBeginning_40
def fX2_reset (v fw fc fr : Nat → Int32) : (Nat → Int32) := (fX2_toBeginning v fw fc fr)
set_option maxHeartbeats 4000000 in
set_option maxRecDepth 100000 in
theorem kX2_reset (l : Launch) (dC : Nat → ClassId) (dI : Nat → Nat → Nat) (cI cB : ClassId) (h a b c : Nat) (sz : Nat) (v fw fc fr : Nat → Int32) : Met l yX2_reset wsX2_reset ({ frames := 1, cells := 0, slots := 0, locals := 20 }) (wr_Pc [.ref h] (dC, dI) vwCl (tyIB cI cB) (pwW cI h a b c v fw fc fr) sz) (wr_Qv (pwW cI h a b c (fX2_reset v fw fc fr) fw fc fr) (dC, dI) vwCl (pwW cI h a b c v fw fc fr) sz) 0 0 (va_A (pwW cI h a b c v fw fc fr) sz) := by
  refine Met.ofW (cc := cX2_reset) (maxL := 1) (ret := none) (by decide) rfl ?_
  intro p e s m args below meth c9 s₁ B hml hv
  obtain ⟨rfl, hsz, hP, hK, hD0⟩ := hv
  have hx := B.exec
  have hb := B.bytes
  have hr := B.returns
  have hts := atoms_spec (ws := wsX2_reset) B.pre
  have hown : s.vm.findClass RX2 = some m.cls := findClass_of_methodNamed B.named
  have hlocks := B.notSynchronized
  subst hsz
  have hD := hD0.self (sz := s.heap.size)
  generalize hAe : va_A (pwW cI h a b c v fw fc fr) s.heap.size = A at hD ⊢
  have hA : ∀ q : Nat, s.heap.size ≤ q → A q := fun q h => by rw [← hAe]; exact Or.inr h
  have hS : va_S A s.heap s.heap [] := va_S.rf
  have hl := lv_entry ([.ref h]) (n := 1) (Nat.le_of_ble_eq_true rfl)
  rw [lg_entry_eq]
  generalize (lg_sl ([.ref h]) ++ List.replicate (1 - (lg_sl ([.ref h])).length) Slot.unset).toArray = ls at hl ⊢
  have hl : lv_has ls 1 [(0, .ref h)] := hl
  refine lv_aload_n hx hb dX2_reset_0 rfl (lv_at hl 0 rfl) ?_
  refine wr_callv (va_runV (As := []) (rest := []) ⟨hx, hb, hml, hown, hts⟩ (kX2_toBeginning l dC dI cI cB h a b c _ v fw fc fr  ) (cwV 0 hts gX2_reset_X2_toBeginning rfl rfl rfl (by decide +kernel) ⟨Nat.le_of_ble_eq_true rfl, Nat.le_of_ble_eq_true rfl⟩) (wr_preV hK hP hD (ci := 0) (q0 := 0) rfl rfl) rfl rfl hl.1 rfl (lv_room (Nat.le_of_ble_eq_true rfl)) dX2_reset_1 ⟨Nat.zero_le _, Nat.zero_le _⟩) hS hA hP hD [0, 1, 2, 3] [] rfl (wr := []) rfl rfl (by decide) (fun H locs hP hD hS => ?_)
  have hP : va_P (dC, dI) vwCl (pwW cI h a b c (fX2_toBeginning v fw fc fr) fw fc fr) H := hP
  have hD : va_D A (pwW cI h a b c (fX2_toBeginning v fw fc fr) fw fc fr) := hD
  have e9 : fX2_reset v fw fc fr = (fX2_toBeginning v fw fc fr) := by rw [fX2_reset]
  exact W.vret hx hb hr (fun t ht hW => wr_endv (hAe ▸ hS) ht (by rw [e9]; exact hP) (by rw [e9, hAe]; exact hD)) hS.2.2 dX2_reset_4
def fX2_state (v fw fc fr : Nat → Int32) (k : Int32) : Int32 := (if k = 0 then (v 4) else (if k = 1 then (v 5) else (if k = 2 then (v 7) else (if k = 3 then (v 8) else (if k = 4 then (v 6) else (if k = 5 then (v 3) else (-1)))))))
set_option maxHeartbeats 4000000 in
set_option maxRecDepth 100000 in
theorem kX2_state (l : Launch) (dC : Nat → ClassId) (dI : Nat → Nat → Nat) (cI cB : ClassId) (h a b c : Nat) (v fw fc fr : Nat → Int32) (k : Int32) : Met l yX2_state wsX2_state ({ frames := 0, cells := 0, slots := 0, locals := 0 }) (ro_Pc [.ref h, .int k] (dC, dI) vwCl (tyIB cI cB) (pwW cI h a b c v fw fc fr)) (ro_Q (fX2_state v fw fc fr k)) 0 0 ro_N := by
  refine Met.ofW (cc := cX2_state) (maxL := 2) (ret := (some .int)) (by decide) rfl ?_
  intro p e s m args below meth c9 s₁ B hml hv
  obtain ⟨rfl, hP, hK⟩ := hv
  have hx := B.exec
  have hb := B.bytes
  have hr := B.returns
  have hts := atoms_spec (ws := wsX2_state) B.pre
  have hown : s.vm.findClass RX2 = some m.cls := findClass_of_methodNamed B.named
  have hlocks := B.notSynchronized
  have hS : va_S ro_N s.heap s.heap [] := va_S.rf
  have hin : ∀ w ∈ wsX20, w ∈ wsX2_state := by decide +kernel
  have hf_19 := hts (.fieldLink RX2 19 "PipeWorks" "clocksInAll" "I") (by decide +kernel)
  have hf_26 := hts (.fieldLink RX2 26 "PipeWorks" "clocks" "I") (by decide +kernel)
  have hf_44 := hts (.fieldLink RX2 44 "PipeWorks" "wordsDone" "I") (by decide +kernel)
  have hf_54 := hts (.fieldLink RX2 54 "PipeWorks" "haltKind" "I") (by decide +kernel)
  have hf_57 := hts (.fieldLink RX2 57 "PipeWorks" "haltAddress" "I") (by decide +kernel)
  have hf_60 := hts (.fieldLink RX2 60 "PipeWorks" "latestDone" "I") (by decide +kernel)
  have hl := lv_entry ([.ref h, .int k]) (n := 2) (Nat.le_of_ble_eq_true rfl)
  rw [lg_entry_eq]
  generalize (lg_sl ([.ref h, .int k]) ++ List.replicate (2 - (lg_sl ([.ref h, .int k])).length) Slot.unset).toArray = ls at hl ⊢
  have hl : lv_has ls 2 [(0, .ref h), (1, .int k)] := hl
  refine lv_iload_n hx hb dX2_state_0 rfl (lv_at hl 1 rfl) ?_
  by_cases c_1_0 : k = 0
  ·
    refine lv_tableIn (off := 39) (tgt := 40) hx hb dX2_state_1 (by rw [c_1_0]; decide) (by rw [c_1_0]; decide) (by rw [c_1_0]; decide) (by decide) ?_
    refine lv_aload_n hx hb dX2_state_40 rfl (lv_at hl 0 rfl) ?_
    refine va_get (D := (dC, dI)) (ci := 0) (v := .int (v 4)) (C := RX2) (T := TX2) (N := 16) hx hb hts hin hown hK hP 0 rfl rfl 4 (by decide) hf_26 (fun _ h9 => h9) rfl dX2_state_41 ?_
    exact W.iret (v := v 4) hx hb hr (fun t ht hW => ro_end (A := ro_N) hS ht (by rw [fX2_state, if_pos c_1_0])) hS.2.2 dX2_state_44
  by_cases c_1_1 : k = 1
  ·
    refine lv_tableIn (off := 44) (tgt := 45) hx hb dX2_state_1 (by rw [c_1_1]; decide) (by rw [c_1_1]; decide) (by rw [c_1_1]; decide) (by decide) ?_
    refine lv_aload_n hx hb dX2_state_45 rfl (lv_at hl 0 rfl) ?_
    refine va_get (D := (dC, dI)) (ci := 0) (v := .int (v 5)) (C := RX2) (T := TX2) (N := 16) hx hb hts hin hown hK hP 0 rfl rfl 5 (by decide) hf_44 (fun _ h9 => h9) rfl dX2_state_46 ?_
    exact W.iret (v := v 5) hx hb hr (fun t ht hW => ro_end (A := ro_N) hS ht (by rw [fX2_state, if_neg c_1_0, if_pos c_1_1])) hS.2.2 dX2_state_49
  by_cases c_1_2 : k = 2
  ·
    refine lv_tableIn (off := 49) (tgt := 50) hx hb dX2_state_1 (by rw [c_1_2]; decide) (by rw [c_1_2]; decide) (by rw [c_1_2]; decide) (by decide) ?_
    refine lv_aload_n hx hb dX2_state_50 rfl (lv_at hl 0 rfl) ?_
    refine va_get (D := (dC, dI)) (ci := 0) (v := .int (v 7)) (C := RX2) (T := TX2) (N := 16) hx hb hts hin hown hK hP 0 rfl rfl 7 (by decide) hf_54 (fun _ h9 => h9) rfl dX2_state_51 ?_
    exact W.iret (v := v 7) hx hb hr (fun t ht hW => ro_end (A := ro_N) hS ht (by rw [fX2_state, if_neg c_1_0, if_neg c_1_1, if_pos c_1_2])) hS.2.2 dX2_state_54
  by_cases c_1_3 : k = 3
  ·
    refine lv_tableIn (off := 54) (tgt := 55) hx hb dX2_state_1 (by rw [c_1_3]; decide) (by rw [c_1_3]; decide) (by rw [c_1_3]; decide) (by decide) ?_
    refine lv_aload_n hx hb dX2_state_55 rfl (lv_at hl 0 rfl) ?_
    refine va_get (D := (dC, dI)) (ci := 0) (v := .int (v 8)) (C := RX2) (T := TX2) (N := 16) hx hb hts hin hown hK hP 0 rfl rfl 8 (by decide) hf_57 (fun _ h9 => h9) rfl dX2_state_56 ?_
    exact W.iret (v := v 8) hx hb hr (fun t ht hW => ro_end (A := ro_N) hS ht (by rw [fX2_state, if_neg c_1_0, if_neg c_1_1, if_neg c_1_2, if_pos c_1_3])) hS.2.2 dX2_state_59
  by_cases c_1_4 : k = 4
  ·
    refine lv_tableIn (off := 59) (tgt := 60) hx hb dX2_state_1 (by rw [c_1_4]; decide) (by rw [c_1_4]; decide) (by rw [c_1_4]; decide) (by decide) ?_
    refine lv_aload_n hx hb dX2_state_60 rfl (lv_at hl 0 rfl) ?_
    refine va_get (D := (dC, dI)) (ci := 0) (v := .int (v 6)) (C := RX2) (T := TX2) (N := 16) hx hb hts hin hown hK hP 0 rfl rfl 6 (by decide) hf_60 (fun _ h9 => h9) rfl dX2_state_61 ?_
    exact W.iret (v := v 6) hx hb hr (fun t ht hW => ro_end (A := ro_N) hS ht (by rw [fX2_state, if_neg c_1_0, if_neg c_1_1, if_neg c_1_2, if_neg c_1_3, if_pos c_1_4])) hS.2.2 dX2_state_64
  by_cases c_1_5 : k = 5
  ·
    refine lv_tableIn (off := 64) (tgt := 65) hx hb dX2_state_1 (by rw [c_1_5]; decide) (by rw [c_1_5]; decide) (by rw [c_1_5]; decide) (by decide) ?_
    refine lv_aload_n hx hb dX2_state_65 rfl (lv_at hl 0 rfl) ?_
    refine va_get (D := (dC, dI)) (ci := 0) (v := .int (v 3)) (C := RX2) (T := TX2) (N := 16) hx hb hts hin hown hK hP 0 rfl rfl 3 (by decide) hf_19 (fun _ h9 => h9) rfl dX2_state_66 ?_
    exact W.iret (v := v 3) hx hb hr (fun t ht hW => ro_end (A := ro_N) hS ht (by rw [fX2_state, if_neg c_1_0, if_neg c_1_1, if_neg c_1_2, if_neg c_1_3, if_neg c_1_4, if_pos c_1_5])) hS.2.2 dX2_state_69
  have hsw_1 : (k).toInt < 0 ∨ 5 < (k).toInt := by
    have q0 := lv_neT c_1_0 (k := 0) (a := 0) (by decide)
    have q1 := lv_neT c_1_1 (k := 1) (a := 1) (by decide)
    have q2 := lv_neT c_1_2 (k := 2) (a := 2) (by decide)
    have q3 := lv_neT c_1_3 (k := 3) (a := 3) (by decide)
    have q4 := lv_neT c_1_4 (k := 4) (a := 4) (by decide)
    have q5 := lv_neT c_1_5 (k := 5) (a := 5) (by decide)
    omega
  refine lv_tableOut (tgt := 70) hx hb dX2_state_1 hsw_1 (by decide) ?_
  refine lv_iconst (v := (-1)) hx hb dX2_state_70 (by decide) ?_
  exact W.iret (v := (-1)) hx hb hr (fun t ht hW => ro_end (A := ro_N) hS ht (by rw [fX2_state, if_neg c_1_0, if_neg c_1_1, if_neg c_1_2, if_neg c_1_3, if_neg c_1_4, if_neg c_1_5])) hS.2.2 dX2_state_71
def fX2_wordAt (v fw fc fr : Nat → Int32) (x : Int32) : Int32 := (if (fX2_isBeyond x 1023) = 0 then (fw (x >>> (2 &&& 31)).toNatClampNeg) else 0)
set_option maxHeartbeats 4000000 in
set_option maxRecDepth 100000 in
theorem kX2_wordAt (l : Launch) (dC : Nat → ClassId) (dI : Nat → Nat → Nat) (cI cB : ClassId) (h a b c : Nat) (v fw fc fr : Nat → Int32) (x : Int32) : Met l yX2_wordAt wsX2_wordAt ({ frames := 1, cells := 0, slots := 0, locals := 21 }) (ro_Pc [.ref h, .int x] (dC, dI) vwCl (tyIB cI cB) (pwW cI h a b c v fw fc fr)) (ro_Q (fX2_wordAt v fw fc fr x)) 0 0 ro_N := by
  refine Met.ofW (cc := cX2_wordAt) (maxL := 2) (ret := (some .int)) (by decide) rfl ?_
  intro p e s m args below meth c9 s₁ B hml hv
  obtain ⟨rfl, hP, hK⟩ := hv
  have hx := B.exec
  have hb := B.bytes
  have hr := B.returns
  have hts := atoms_spec (ws := wsX2_wordAt) B.pre
  have hown : s.vm.findClass RX2 = some m.cls := findClass_of_methodNamed B.named
  have hlocks := B.notSynchronized
  have hS : va_S ro_N s.heap s.heap [] := va_S.rf
  have hin : ∀ w ∈ wsX20, w ∈ wsX2_wordAt := by decide +kernel
  have hf_9 := hts (.fieldLink RX2 9 "PipeWorks" "words" "[I") (by decide +kernel)
  have hl := lv_entry ([.ref h, .int x]) (n := 2) (Nat.le_of_ble_eq_true rfl)
  rw [lg_entry_eq]
  generalize (lg_sl ([.ref h, .int x]) ++ List.replicate (2 - (lg_sl ([.ref h, .int x])).length) Slot.unset).toArray = ls at hl ⊢
  have hl : lv_has ls 2 [(0, .ref h), (1, .int x)] := hl
  refine lv_iload_n hx hb dX2_wordAt_0 rfl (lv_at hl 1 rfl) ?_
  refine lv_sipush (v := 1023) hx hb dX2_wordAt_1 (by decide) ?_
  refine ro_call (va_runS (As := [.int x, .int 1023]) (rest := []) ⟨hx, hb, hml, hown, hts⟩ (kX2_isBeyond l x 1023 ) (va_cwS 2 hts gX2_wordAt_X2_isBeyond rfl rfl rfl (by decide +kernel) ⟨Nat.le_of_ble_eq_true rfl, Nat.le_of_ble_eq_true rfl⟩) pu_preS rfl rfl hl.1 rfl (lv_room (Nat.le_of_ble_eq_true rfl)) dX2_wordAt_4 ⟨Nat.zero_le _, Nat.zero_le _⟩) hS (fun H locs hk hS => ?_)
  have hP := hk _ _ _ hP
  refine lv_if_eq (tgt := 14) hx hb dX2_wordAt_7 (by decide) (fun c_7 => ?_) (fun c_7 => ?_)
  ·
    refine lv_aload_n hx hb dX2_wordAt_14 rfl (lv_at hl 0 rfl) ?_
    refine va_get (D := (dC, dI)) (ci := 0) (v := .ref a) (C := RX2) (T := TX2) (N := 16) hx hb hts hin hown hK hP 0 rfl rfl 0 (by decide) hf_9 (fun _ h9 => h9) rfl dX2_wordAt_15 ?_
    refine lv_iload_n hx hb dX2_wordAt_18 rfl (lv_at hl 1 rfl) ?_
    refine lv_iconst (v := 2) hx hb dX2_wordAt_19 (by decide) ?_
    refine lv_ishr hx hb dX2_wordAt_20 ?_
    refine va_iald hx hb hK hP 1 0 rfl rfl (ix_wordAt c_7) dX2_wordAt_21 ?_
    exact W.iret (v := fw (x >>> (2 &&& 31)).toNatClampNeg) hx hb hr (fun t ht hW => ro_end (A := ro_N) hS ht (by rw [fX2_wordAt, if_pos c_7])) hS.2.2 dX2_wordAt_22
  ·
    refine lv_iconst (v := 0) hx hb dX2_wordAt_10 (by decide) ?_
    refine lv_goto (tgt := 22) hx hb dX2_wordAt_11 (by decide) ?_
    exact W.iret (v := 0) hx hb hr (fun t ht hW => ro_end (A := ro_N) hS ht (by rw [fX2_wordAt, if_neg c_7])) hS.2.2 dX2_wordAt_22
def fX2_rs1Of (v fw fc fr : Nat → Int32) (w : Int32) : Int32 := (fr (fX1_rs1 w).toNatClampNeg)
set_option maxHeartbeats 4000000 in
set_option maxRecDepth 100000 in
theorem kX2_rs1Of (l : Launch) (dC : Nat → ClassId) (dI : Nat → Nat → Nat) (cI cB : ClassId) (h a b c : Nat) (v fw fc fr : Nat → Int32) (w : Int32) : Met l yX2_rs1Of wsX2_rs1Of ({ frames := 1, cells := 0, slots := 0, locals := 20 }) (ro_Pc [.ref h, .int w] (dC, dI) vwCl (tyIB cI cB) (pwW cI h a b c v fw fc fr)) (ro_Q (fX2_rs1Of v fw fc fr w)) 0 0 ro_N := by
  refine Met.ofW (cc := cX2_rs1Of) (maxL := 2) (ret := (some .int)) (by decide) rfl ?_
  intro p e s m args below meth c9 s₁ B hml hv
  obtain ⟨rfl, hP, hK⟩ := hv
  have hx := B.exec
  have hb := B.bytes
  have hr := B.returns
  have hts := atoms_spec (ws := wsX2_rs1Of) B.pre
  have hown : s.vm.findClass RX2 = some m.cls := findClass_of_methodNamed B.named
  have hlocks := B.notSynchronized
  have hS : va_S ro_N s.heap s.heap [] := va_S.rf
  have hin : ∀ w ∈ wsX20, w ∈ wsX2_rs1Of := by decide +kernel
  have hf_16 := hts (.fieldLink RX2 16 "PipeWorks" "registers" "[I") (by decide +kernel)
  have hl := lv_entry ([.ref h, .int w]) (n := 2) (Nat.le_of_ble_eq_true rfl)
  rw [lg_entry_eq]
  generalize (lg_sl ([.ref h, .int w]) ++ List.replicate (2 - (lg_sl ([.ref h, .int w])).length) Slot.unset).toArray = ls at hl ⊢
  have hl : lv_has ls 2 [(0, .ref h), (1, .int w)] := hl
  refine lv_aload_n hx hb dX2_rs1Of_0 rfl (lv_at hl 0 rfl) ?_
  refine va_get (D := (dC, dI)) (ci := 0) (v := .ref c) (C := RX2) (T := TX2) (N := 16) hx hb hts hin hown hK hP 0 rfl rfl 2 (by decide) hf_16 (fun _ h9 => h9) rfl dX2_rs1Of_1 ?_
  refine lv_iload_n hx hb dX2_rs1Of_4 rfl (lv_at hl 1 rfl) ?_
  refine ro_call (va_runS (As := [.int w]) (rest := [.ref c]) ⟨hx, hb, hml, hown, hts⟩ (kX1_rs1 l w ) (va_cwS 1 hts gX2_rs1Of_X1_rs1 rfl rfl rfl (by decide +kernel) ⟨Nat.le_of_ble_eq_true rfl, Nat.le_of_ble_eq_true rfl⟩) pu_preS rfl rfl hl.1 rfl (lv_room (Nat.le_of_ble_eq_true rfl)) dX2_rs1Of_5 ⟨Nat.zero_le _, Nat.zero_le _⟩) hS (fun H locs hk hS => ?_)
  have hP := hk _ _ _ hP
  refine va_iald hx hb hK hP 3 0 rfl rfl (ix_rs1 w) dX2_rs1Of_8 ?_
  exact W.iret (v := fr (fX1_rs1 w).toNatClampNeg) hx hb hr (fun t ht hW => ro_end (A := ro_N) hS ht (by rw [fX2_rs1Of])) hS.2.2 dX2_rs1Of_9
def fX2_rs2Of (v fw fc fr : Nat → Int32) (w : Int32) : Int32 := (fr (fX1_rs2 w).toNatClampNeg)
set_option maxHeartbeats 4000000 in
set_option maxRecDepth 100000 in
theorem kX2_rs2Of (l : Launch) (dC : Nat → ClassId) (dI : Nat → Nat → Nat) (cI cB : ClassId) (h a b c : Nat) (v fw fc fr : Nat → Int32) (w : Int32) : Met l yX2_rs2Of wsX2_rs2Of ({ frames := 1, cells := 0, slots := 0, locals := 20 }) (ro_Pc [.ref h, .int w] (dC, dI) vwCl (tyIB cI cB) (pwW cI h a b c v fw fc fr)) (ro_Q (fX2_rs2Of v fw fc fr w)) 0 0 ro_N := by
  refine Met.ofW (cc := cX2_rs2Of) (maxL := 2) (ret := (some .int)) (by decide) rfl ?_
  intro p e s m args below meth c9 s₁ B hml hv
  obtain ⟨rfl, hP, hK⟩ := hv
  have hx := B.exec
  have hb := B.bytes
  have hr := B.returns
  have hts := atoms_spec (ws := wsX2_rs2Of) B.pre
  have hown : s.vm.findClass RX2 = some m.cls := findClass_of_methodNamed B.named
  have hlocks := B.notSynchronized
  have hS : va_S ro_N s.heap s.heap [] := va_S.rf
  have hin : ∀ w ∈ wsX20, w ∈ wsX2_rs2Of := by decide +kernel
  have hf_16 := hts (.fieldLink RX2 16 "PipeWorks" "registers" "[I") (by decide +kernel)
  have hl := lv_entry ([.ref h, .int w]) (n := 2) (Nat.le_of_ble_eq_true rfl)
  rw [lg_entry_eq]
  generalize (lg_sl ([.ref h, .int w]) ++ List.replicate (2 - (lg_sl ([.ref h, .int w])).length) Slot.unset).toArray = ls at hl ⊢
  have hl : lv_has ls 2 [(0, .ref h), (1, .int w)] := hl
  refine lv_aload_n hx hb dX2_rs2Of_0 rfl (lv_at hl 0 rfl) ?_
  refine va_get (D := (dC, dI)) (ci := 0) (v := .ref c) (C := RX2) (T := TX2) (N := 16) hx hb hts hin hown hK hP 0 rfl rfl 2 (by decide) hf_16 (fun _ h9 => h9) rfl dX2_rs2Of_1 ?_
  refine lv_iload_n hx hb dX2_rs2Of_4 rfl (lv_at hl 1 rfl) ?_
  refine ro_call (va_runS (As := [.int w]) (rest := [.ref c]) ⟨hx, hb, hml, hown, hts⟩ (kX1_rs2 l w ) (va_cwS 1 hts gX2_rs2Of_X1_rs2 rfl rfl rfl (by decide +kernel) ⟨Nat.le_of_ble_eq_true rfl, Nat.le_of_ble_eq_true rfl⟩) pu_preS rfl rfl hl.1 rfl (lv_room (Nat.le_of_ble_eq_true rfl)) dX2_rs2Of_5 ⟨Nat.zero_le _, Nat.zero_le _⟩) hS (fun H locs hk hS => ?_)
  have hP := hk _ _ _ hP
  refine va_iald hx hb hK hP 3 0 rfl rfl (ix_rs2 w) dX2_rs2Of_8 ?_
  exact W.iret (v := fr (fX1_rs2 w).toNatClampNeg) hx hb hr (fun t ht hW => ro_end (A := ro_N) hS ht (by rw [fX2_rs2Of])) hS.2.2 dX2_rs2Of_9
def fX2_jumps (v fw fc fr : Nat → Int32) (w : Int32) : Int32 := (if (fX1_opcode w) = 99 then (fX0_branches (fX1_f3 w) (fX2_rs1Of v fw fc fr w) (fX2_rs2Of v fw fc fr w)) else (if (fX1_opcode w) = 103 then 1 else (if (fX1_opcode w) = 111 then 1 else 0)))
set_option maxHeartbeats 4000000 in
set_option maxRecDepth 100000 in
theorem kX2_jumps (l : Launch) (dC : Nat → ClassId) (dI : Nat → Nat → Nat) (cI cB : ClassId) (h a b c : Nat) (v fw fc fr : Nat → Int32) (w : Int32) : Met l yX2_jumps wsX2_jumps ({ frames := 2, cells := 0, slots := 0, locals := 43 }) (ro_Pc [.ref h, .int w] (dC, dI) vwCl (tyIB cI cB) (pwW cI h a b c v fw fc fr)) (ro_Q (fX2_jumps v fw fc fr w)) 0 0 ro_N := by
  refine Met.ofW (cc := cX2_jumps) (maxL := 2) (ret := (some .boolean)) (by decide) rfl ?_
  intro p e s m args below meth c9 s₁ B hml hv
  obtain ⟨rfl, hP, hK⟩ := hv
  have hx := B.exec
  have hb := B.bytes
  have hr := B.returns
  have hts := atoms_spec (ws := wsX2_jumps) B.pre
  have hown : s.vm.findClass RX2 = some m.cls := findClass_of_methodNamed B.named
  have hlocks := B.notSynchronized
  have hS : va_S ro_N s.heap s.heap [] := va_S.rf
  have hl := lv_entry ([.ref h, .int w]) (n := 2) (Nat.le_of_ble_eq_true rfl)
  rw [lg_entry_eq]
  generalize (lg_sl ([.ref h, .int w]) ++ List.replicate (2 - (lg_sl ([.ref h, .int w])).length) Slot.unset).toArray = ls at hl ⊢
  have hl : lv_has ls 2 [(0, .ref h), (1, .int w)] := hl
  refine lv_iload_n hx hb dX2_jumps_0 rfl (lv_at hl 1 rfl) ?_
  refine ro_call (va_runS (As := [.int w]) (rest := []) ⟨hx, hb, hml, hown, hts⟩ (kX1_opcode l w ) (va_cwS 1 hts gX2_jumps_X1_opcode rfl rfl rfl (by decide +kernel) ⟨Nat.le_of_ble_eq_true rfl, Nat.le_of_ble_eq_true rfl⟩) pu_preS rfl rfl hl.1 rfl (lv_room (Nat.le_of_ble_eq_true rfl)) dX2_jumps_1 ⟨Nat.zero_le _, Nat.zero_le _⟩) hS (fun H locs hk hS => ?_)
  have hP := hk _ _ _ hP
  by_cases c_4_99 : (fX1_opcode w) = 99
  ·
    refine lv_lookup (off := 38) (tgt := 42) hx hb dX2_jumps_4 (by decide) (by rw [c_4_99]; decide) (by decide) ?_
    refine lv_iload_n hx hb dX2_jumps_42 rfl (lv_at hl 1 rfl) ?_
    refine ro_call (va_runS (As := [.int w]) (rest := []) ⟨hx, hb, hml, hown, hts⟩ (kX1_f3 l w ) (va_cwS 1 hts gX2_jumps_X1_f3 rfl rfl rfl (by decide +kernel) ⟨Nat.le_of_ble_eq_true rfl, Nat.le_of_ble_eq_true rfl⟩) pu_preS rfl rfl hl.1 rfl (lv_room (Nat.le_of_ble_eq_true rfl)) dX2_jumps_43 ⟨Nat.zero_le _, Nat.zero_le _⟩) hS (fun H locs hk hS => ?_)
    have hP := hk _ _ _ hP
    refine lv_aload_n hx hb dX2_jumps_46 rfl (lv_at hl 0 rfl) ?_
    refine lv_iload_n hx hb dX2_jumps_47 rfl (lv_at hl 1 rfl) ?_
    refine ro_call (va_runV (As := [.int w]) (rest := [.int (fX1_f3 w)]) ⟨hx, hb, hml, hown, hts⟩ (kX2_rs1Of l dC dI cI cB h a b c v fw fc fr w ) (cwV 1 hts gX2_jumps_X2_rs1Of rfl rfl rfl (by decide +kernel) ⟨Nat.le_of_ble_eq_true rfl, Nat.le_of_ble_eq_true rfl⟩) (ro_preV hK hP (ci := 0) (q0 := 0) rfl rfl) rfl rfl hl.1 rfl (lv_room (Nat.le_of_ble_eq_true rfl)) dX2_jumps_48 ⟨Nat.zero_le _, Nat.zero_le _⟩) hS (fun H locs hk hS => ?_)
    have hP := hk _ _ _ hP
    refine lv_aload_n hx hb dX2_jumps_51 rfl (lv_at hl 0 rfl) ?_
    refine lv_iload_n hx hb dX2_jumps_52 rfl (lv_at hl 1 rfl) ?_
    refine ro_call (va_runV (As := [.int w]) (rest := [.int (fX2_rs1Of v fw fc fr w), .int (fX1_f3 w)]) ⟨hx, hb, hml, hown, hts⟩ (kX2_rs2Of l dC dI cI cB h a b c v fw fc fr w ) (cwV 1 hts gX2_jumps_X2_rs2Of rfl rfl rfl (by decide +kernel) ⟨Nat.le_of_ble_eq_true rfl, Nat.le_of_ble_eq_true rfl⟩) (ro_preV hK hP (ci := 0) (q0 := 0) rfl rfl) rfl rfl hl.1 rfl (lv_room (Nat.le_of_ble_eq_true rfl)) dX2_jumps_53 ⟨Nat.zero_le _, Nat.zero_le _⟩) hS (fun H locs hk hS => ?_)
    have hP := hk _ _ _ hP
    refine ro_call (va_runS (As := [.int (fX1_f3 w), .int (fX2_rs1Of v fw fc fr w), .int (fX2_rs2Of v fw fc fr w)]) (rest := []) ⟨hx, hb, hml, hown, hts⟩ (kX0_branches l (fX1_f3 w) (fX2_rs1Of v fw fc fr w) (fX2_rs2Of v fw fc fr w) ) (va_cwS 3 hts gX2_jumps_X0_branches rfl rfl rfl (by decide +kernel) ⟨Nat.le_of_ble_eq_true rfl, Nat.le_of_ble_eq_true rfl⟩) pu_preS rfl rfl hl.1 rfl (lv_room (Nat.le_of_ble_eq_true rfl)) dX2_jumps_56 ⟨Nat.zero_le _, Nat.zero_le _⟩) hS (fun H locs hk hS => ?_)
    have hP := hk _ _ _ hP
    exact W.zret (v := fX0_branches (fX1_f3 w) (fX2_rs1Of v fw fc fr w) (fX2_rs2Of v fw fc fr w)) hx hb hr (nz_b (b_fX0_branches (fX1_f3 w) (fX2_rs1Of v fw fc fr w) (fX2_rs2Of v fw fc fr w))) (fun t ht hW => ro_end (A := ro_N) hS ht (by rw [fX2_jumps, if_pos c_4_99])) hS.2.2 dX2_jumps_59
  by_cases c_4_103 : (fX1_opcode w) = 103
  ·
    refine lv_lookup (off := 36) (tgt := 40) hx hb dX2_jumps_4 (by decide) (by rw [c_4_103]; decide) (by decide) ?_
    refine lv_iconst (v := 1) hx hb dX2_jumps_40 (by decide) ?_
    exact W.zret (v := 1) hx hb hr rfl (fun t ht hW => ro_end (A := ro_N) hS ht (by rw [fX2_jumps, if_neg c_4_99, if_pos c_4_103])) hS.2.2 dX2_jumps_41
  by_cases c_4_111 : (fX1_opcode w) = 111
  ·
    refine lv_lookup (off := 36) (tgt := 40) hx hb dX2_jumps_4 (by decide) (by rw [c_4_111]; decide) (by decide) ?_
    refine lv_iconst (v := 1) hx hb dX2_jumps_40 (by decide) ?_
    exact W.zret (v := 1) hx hb hr rfl (fun t ht hW => ro_end (A := ro_N) hS ht (by rw [fX2_jumps, if_neg c_4_99, if_neg c_4_103, if_pos c_4_111])) hS.2.2 dX2_jumps_41
  refine lv_lookup (off := 56) (tgt := 60) hx hb dX2_jumps_4 (by decide) (show Op.lookupswitch.offset [(99, 38), (103, 36), (111, 36)] 56 _ = 56 from (lv_osw c_4_99 (k := 99) (by decide)).trans ((lv_osw c_4_103 (k := 103) (by decide)).trans ((lv_osw c_4_111 (k := 111) (by decide)).trans (rfl)))) (by decide) ?_
  refine lv_iconst (v := 0) hx hb dX2_jumps_60 (by decide) ?_
  exact W.zret (v := 0) hx hb hr rfl (fun t ht hW => ro_end (A := ro_N) hS ht (by rw [fX2_jumps, if_neg c_4_99, if_neg c_4_103, if_neg c_4_111])) hS.2.2 dX2_jumps_61
def fX2_targetOf (v fw fc fr : Nat → Int32) (w : Int32) : Int32 := (if (fX1_opcode w) = 103 then (((fX2_rs1Of v fw fc fr w) + (fX1_immediateI w)) &&& (-2)) else (if (fX1_opcode w) = 111 then ((v 9) + (fX1_immediateJ w)) else ((v 9) + (fX1_immediateB w))))
set_option maxHeartbeats 4000000 in
set_option maxRecDepth 100000 in
theorem kX2_targetOf (l : Launch) (dC : Nat → ClassId) (dI : Nat → Nat → Nat) (cI cB : ClassId) (h a b c : Nat) (v fw fc fr : Nat → Int32) (w : Int32) : Met l yX2_targetOf wsX2_targetOf ({ frames := 2, cells := 0, slots := 0, locals := 41 }) (ro_Pc [.ref h, .int w] (dC, dI) vwCl (tyIB cI cB) (pwW cI h a b c v fw fc fr)) (ro_Q (fX2_targetOf v fw fc fr w)) 0 0 ro_N := by
  refine Met.ofW (cc := cX2_targetOf) (maxL := 2) (ret := (some .int)) (by decide) rfl ?_
  intro p e s m args below meth c9 s₁ B hml hv
  obtain ⟨rfl, hP, hK⟩ := hv
  have hx := B.exec
  have hb := B.bytes
  have hr := B.returns
  have hts := atoms_spec (ws := wsX2_targetOf) B.pre
  have hown : s.vm.findClass RX2 = some m.cls := findClass_of_methodNamed B.named
  have hlocks := B.notSynchronized
  have hS : va_S ro_N s.heap s.heap [] := va_S.rf
  have hin : ∀ w ∈ wsX20, w ∈ wsX2_targetOf := by decide +kernel
  have hf_63 := hts (.fieldLink RX2 63 "PipeWorks" "pc" "I") (by decide +kernel)
  have hl := lv_entry ([.ref h, .int w]) (n := 2) (Nat.le_of_ble_eq_true rfl)
  rw [lg_entry_eq]
  generalize (lg_sl ([.ref h, .int w]) ++ List.replicate (2 - (lg_sl ([.ref h, .int w])).length) Slot.unset).toArray = ls at hl ⊢
  have hl : lv_has ls 2 [(0, .ref h), (1, .int w)] := hl
  refine lv_iload_n hx hb dX2_targetOf_0 rfl (lv_at hl 1 rfl) ?_
  refine ro_call (va_runS (As := [.int w]) (rest := []) ⟨hx, hb, hml, hown, hts⟩ (kX1_opcode l w ) (va_cwS 1 hts gX2_targetOf_X1_opcode rfl rfl rfl (by decide +kernel) ⟨Nat.le_of_ble_eq_true rfl, Nat.le_of_ble_eq_true rfl⟩) pu_preS rfl rfl hl.1 rfl (lv_room (Nat.le_of_ble_eq_true rfl)) dX2_targetOf_1 ⟨Nat.zero_le _, Nat.zero_le _⟩) hS (fun H locs hk hS => ?_)
  have hP := hk _ _ _ hP
  by_cases c_4_103 : (fX1_opcode w) = 103
  ·
    refine lv_lookup (off := 38) (tgt := 42) hx hb dX2_targetOf_4 (by decide) (by rw [c_4_103]; decide) (by decide) ?_
    refine lv_aload_n hx hb dX2_targetOf_42 rfl (lv_at hl 0 rfl) ?_
    refine lv_iload_n hx hb dX2_targetOf_43 rfl (lv_at hl 1 rfl) ?_
    refine ro_call (va_runV (As := [.int w]) (rest := []) ⟨hx, hb, hml, hown, hts⟩ (kX2_rs1Of l dC dI cI cB h a b c v fw fc fr w ) (cwV 1 hts gX2_targetOf_X2_rs1Of rfl rfl rfl (by decide +kernel) ⟨Nat.le_of_ble_eq_true rfl, Nat.le_of_ble_eq_true rfl⟩) (ro_preV hK hP (ci := 0) (q0 := 0) rfl rfl) rfl rfl hl.1 rfl (lv_room (Nat.le_of_ble_eq_true rfl)) dX2_targetOf_44 ⟨Nat.zero_le _, Nat.zero_le _⟩) hS (fun H locs hk hS => ?_)
    have hP := hk _ _ _ hP
    refine lv_iload_n hx hb dX2_targetOf_47 rfl (lv_at hl 1 rfl) ?_
    refine ro_call (va_runS (As := [.int w]) (rest := [.int (fX2_rs1Of v fw fc fr w)]) ⟨hx, hb, hml, hown, hts⟩ (kX1_immediateI l w ) (va_cwS 1 hts gX2_targetOf_X1_immediateI rfl rfl rfl (by decide +kernel) ⟨Nat.le_of_ble_eq_true rfl, Nat.le_of_ble_eq_true rfl⟩) pu_preS rfl rfl hl.1 rfl (lv_room (Nat.le_of_ble_eq_true rfl)) dX2_targetOf_48 ⟨Nat.zero_le _, Nat.zero_le _⟩) hS (fun H locs hk hS => ?_)
    have hP := hk _ _ _ hP
    refine lv_iadd hx hb dX2_targetOf_51 ?_
    refine lv_bipush (v := (-2)) hx hb dX2_targetOf_52 (by decide) ?_
    refine lv_iand hx hb dX2_targetOf_54 ?_
    exact W.iret (v := ((fX2_rs1Of v fw fc fr w) + (fX1_immediateI w)) &&& (-2)) hx hb hr (fun t ht hW => ro_end (A := ro_N) hS ht (by rw [fX2_targetOf, if_pos c_4_103])) hS.2.2 dX2_targetOf_55
  by_cases c_4_111 : (fX1_opcode w) = 111
  ·
    refine lv_lookup (off := 28) (tgt := 32) hx hb dX2_targetOf_4 (by decide) (by rw [c_4_111]; decide) (by decide) ?_
    refine lv_aload_n hx hb dX2_targetOf_32 rfl (lv_at hl 0 rfl) ?_
    refine va_get (D := (dC, dI)) (ci := 0) (v := .int (v 9)) (C := RX2) (T := TX2) (N := 16) hx hb hts hin hown hK hP 0 rfl rfl 9 (by decide) hf_63 (fun _ h9 => h9) rfl dX2_targetOf_33 ?_
    refine lv_iload_n hx hb dX2_targetOf_36 rfl (lv_at hl 1 rfl) ?_
    refine ro_call (va_runS (As := [.int w]) (rest := [.int (v 9)]) ⟨hx, hb, hml, hown, hts⟩ (kX1_immediateJ l w ) (va_cwS 1 hts gX2_targetOf_X1_immediateJ rfl rfl rfl (by decide +kernel) ⟨Nat.le_of_ble_eq_true rfl, Nat.le_of_ble_eq_true rfl⟩) pu_preS rfl rfl hl.1 rfl (lv_room (Nat.le_of_ble_eq_true rfl)) dX2_targetOf_37 ⟨Nat.zero_le _, Nat.zero_le _⟩) hS (fun H locs hk hS => ?_)
    have hP := hk _ _ _ hP
    refine lv_iadd hx hb dX2_targetOf_40 ?_
    exact W.iret (v := (v 9) + (fX1_immediateJ w)) hx hb hr (fun t ht hW => ro_end (A := ro_N) hS ht (by rw [fX2_targetOf, if_neg c_4_103, if_pos c_4_111])) hS.2.2 dX2_targetOf_41
  refine lv_lookup (off := 52) (tgt := 56) hx hb dX2_targetOf_4 (by decide) (show Op.lookupswitch.offset [(103, 38), (111, 28)] 52 _ = 52 from (lv_osw c_4_103 (k := 103) (by decide)).trans ((lv_osw c_4_111 (k := 111) (by decide)).trans (rfl))) (by decide) ?_
  refine lv_aload_n hx hb dX2_targetOf_56 rfl (lv_at hl 0 rfl) ?_
  refine va_get (D := (dC, dI)) (ci := 0) (v := .int (v 9)) (C := RX2) (T := TX2) (N := 16) hx hb hts hin hown hK hP 0 rfl rfl 9 (by decide) hf_63 (fun _ h9 => h9) rfl dX2_targetOf_57 ?_
  refine lv_iload_n hx hb dX2_targetOf_60 rfl (lv_at hl 1 rfl) ?_
  refine ro_call (va_runS (As := [.int w]) (rest := [.int (v 9)]) ⟨hx, hb, hml, hown, hts⟩ (kX1_immediateB l w ) (va_cwS 1 hts gX2_targetOf_X1_immediateB rfl rfl rfl (by decide +kernel) ⟨Nat.le_of_ble_eq_true rfl, Nat.le_of_ble_eq_true rfl⟩) pu_preS rfl rfl hl.1 rfl (lv_room (Nat.le_of_ble_eq_true rfl)) dX2_targetOf_61 ⟨Nat.zero_le _, Nat.zero_le _⟩) hS (fun H locs hk hS => ?_)
  have hP := hk _ _ _ hP
  refine lv_iadd hx hb dX2_targetOf_64 ?_
  exact W.iret (v := (v 9) + (fX1_immediateB w)) hx hb hr (fun t ht hW => ro_end (A := ro_N) hS ht (by rw [fX2_targetOf, if_neg c_4_103, if_neg c_4_111])) hS.2.2 dX2_targetOf_65
def fX2_addressOf (v fw fc fr : Nat → Int32) (w : Int32) : Int32 := (if (fX1_opcode w) = 35 then ((fX2_rs1Of v fw fc fr w) + (fX1_immediateS w)) else ((fX2_rs1Of v fw fc fr w) + (fX1_immediateI w)))
set_option maxHeartbeats 4000000 in
set_option maxRecDepth 100000 in
theorem kX2_addressOf (l : Launch) (dC : Nat → ClassId) (dI : Nat → Nat → Nat) (cI cB : ClassId) (h a b c : Nat) (v fw fc fr : Nat → Int32) (w : Int32) : Met l yX2_addressOf wsX2_addressOf ({ frames := 2, cells := 0, slots := 0, locals := 41 }) (ro_Pc [.ref h, .int w] (dC, dI) vwCl (tyIB cI cB) (pwW cI h a b c v fw fc fr)) (ro_Q (fX2_addressOf v fw fc fr w)) 0 0 ro_N := by
  refine Met.ofW (cc := cX2_addressOf) (maxL := 2) (ret := (some .int)) (by decide) rfl ?_
  intro p e s m args below meth c9 s₁ B hml hv
  obtain ⟨rfl, hP, hK⟩ := hv
  have hx := B.exec
  have hb := B.bytes
  have hr := B.returns
  have hts := atoms_spec (ws := wsX2_addressOf) B.pre
  have hown : s.vm.findClass RX2 = some m.cls := findClass_of_methodNamed B.named
  have hlocks := B.notSynchronized
  have hS : va_S ro_N s.heap s.heap [] := va_S.rf
  have hl := lv_entry ([.ref h, .int w]) (n := 2) (Nat.le_of_ble_eq_true rfl)
  rw [lg_entry_eq]
  generalize (lg_sl ([.ref h, .int w]) ++ List.replicate (2 - (lg_sl ([.ref h, .int w])).length) Slot.unset).toArray = ls at hl ⊢
  have hl : lv_has ls 2 [(0, .ref h), (1, .int w)] := hl
  refine lv_aload_n hx hb dX2_addressOf_0 rfl (lv_at hl 0 rfl) ?_
  refine lv_iload_n hx hb dX2_addressOf_1 rfl (lv_at hl 1 rfl) ?_
  refine ro_call (va_runV (As := [.int w]) (rest := []) ⟨hx, hb, hml, hown, hts⟩ (kX2_rs1Of l dC dI cI cB h a b c v fw fc fr w ) (cwV 1 hts gX2_addressOf_X2_rs1Of rfl rfl rfl (by decide +kernel) ⟨Nat.le_of_ble_eq_true rfl, Nat.le_of_ble_eq_true rfl⟩) (ro_preV hK hP (ci := 0) (q0 := 0) rfl rfl) rfl rfl hl.1 rfl (lv_room (Nat.le_of_ble_eq_true rfl)) dX2_addressOf_2 ⟨Nat.zero_le _, Nat.zero_le _⟩) hS (fun H locs hk hS => ?_)
  have hP := hk _ _ _ hP
  refine lv_iload_n hx hb dX2_addressOf_5 rfl (lv_at hl 1 rfl) ?_
  refine ro_call (va_runS (As := [.int w]) (rest := [.int (fX2_rs1Of v fw fc fr w)]) ⟨hx, hb, hml, hown, hts⟩ (kX1_opcode l w ) (va_cwS 1 hts gX2_addressOf_X1_opcode rfl rfl rfl (by decide +kernel) ⟨Nat.le_of_ble_eq_true rfl, Nat.le_of_ble_eq_true rfl⟩) pu_preS rfl rfl hl.1 rfl (lv_room (Nat.le_of_ble_eq_true rfl)) dX2_addressOf_6 ⟨Nat.zero_le _, Nat.zero_le _⟩) hS (fun H locs hk hS => ?_)
  have hP := hk _ _ _ hP
  refine lv_bipush (v := 35) hx hb dX2_addressOf_9 (by decide) ?_
  refine lv_icmp_ne (tgt := 21) hx hb dX2_addressOf_11 (by decide) (fun c_11 => ?_) (fun c_11 => ?_)
  ·
    refine lv_iload_n hx hb dX2_addressOf_21 rfl (lv_at hl 1 rfl) ?_
    refine ro_call (va_runS (As := [.int w]) (rest := [.int (fX2_rs1Of v fw fc fr w)]) ⟨hx, hb, hml, hown, hts⟩ (kX1_immediateI l w ) (va_cwS 1 hts gX2_addressOf_X1_immediateI rfl rfl rfl (by decide +kernel) ⟨Nat.le_of_ble_eq_true rfl, Nat.le_of_ble_eq_true rfl⟩) pu_preS rfl rfl hl.1 rfl (lv_room (Nat.le_of_ble_eq_true rfl)) dX2_addressOf_22 ⟨Nat.zero_le _, Nat.zero_le _⟩) hS (fun H locs hk hS => ?_)
    have hP := hk _ _ _ hP
    refine lv_iadd hx hb dX2_addressOf_25 ?_
    exact W.iret (v := (fX2_rs1Of v fw fc fr w) + (fX1_immediateI w)) hx hb hr (fun t ht hW => ro_end (A := ro_N) hS ht (by rw [fX2_addressOf, if_neg c_11])) hS.2.2 dX2_addressOf_26
  ·
    refine lv_iload_n hx hb dX2_addressOf_14 rfl (lv_at hl 1 rfl) ?_
    refine ro_call (va_runS (As := [.int w]) (rest := [.int (fX2_rs1Of v fw fc fr w)]) ⟨hx, hb, hml, hown, hts⟩ (kX1_immediateS l w ) (va_cwS 1 hts gX2_addressOf_X1_immediateS rfl rfl rfl (by decide +kernel) ⟨Nat.le_of_ble_eq_true rfl, Nat.le_of_ble_eq_true rfl⟩) pu_preS rfl rfl hl.1 rfl (lv_room (Nat.le_of_ble_eq_true rfl)) dX2_addressOf_15 ⟨Nat.zero_le _, Nat.zero_le _⟩) hS (fun H locs hk hS => ?_)
    have hP := hk _ _ _ hP
    refine lv_goto (tgt := 25) hx hb dX2_addressOf_18 (by decide) ?_
    refine lv_iadd hx hb dX2_addressOf_25 ?_
    exact W.iret (v := (fX2_rs1Of v fw fc fr w) + (fX1_immediateS w)) hx hb hr (fun t ht hW => ro_end (A := ro_N) hS ht (by rw [fX2_addressOf, if_pos c_11])) hS.2.2 dX2_addressOf_26
def fX2_haltOf (v fw fc fr : Nat → Int32) (w : Int32) : Int32 := (if (fX2_isBeyond (v 9) 1023) = 0 then (if (fX1_isLegal w) = 0 then 3 else (if (fX1_opcode w) = 3 then (fX2_haltOfAccess (fX2_addressOf v fw fc fr w) (fX1_accessBytes w)) else (if (fX1_opcode w) = 35 then (fX2_haltOfAccess (fX2_addressOf v fw fc fr w) (fX1_accessBytes w)) else (if (fX1_opcode w) = 99 then (if (fX2_jumps v fw fc fr w) = 0 then 0 else (if ((fX2_targetOf v fw fc fr w) &&& 3) = 0 then 0 else 5)) else (if (fX1_opcode w) = 103 then (if (fX2_jumps v fw fc fr w) = 0 then 0 else (if ((fX2_targetOf v fw fc fr w) &&& 3) = 0 then 0 else 5)) else (if (fX1_opcode w) = 111 then (if (fX2_jumps v fw fc fr w) = 0 then 0 else (if ((fX2_targetOf v fw fc fr w) &&& 3) = 0 then 0 else 5)) else (if (fX1_opcode w) = 115 then (if w = 115 then 1 else 2) else 0))))))) else 4)
set_option maxHeartbeats 4000000 in
set_option maxRecDepth 100000 in
theorem kX2_haltOf (l : Launch) (dC : Nat → ClassId) (dI : Nat → Nat → Nat) (cI cB : ClassId) (h a b c : Nat) (v fw fc fr : Nat → Int32) (w : Int32) : Met l yX2_haltOf wsX2_haltOf ({ frames := 3, cells := 0, slots := 0, locals := 64 }) (ro_Pc [.ref h, .int w] (dC, dI) vwCl (tyIB cI cB) (pwW cI h a b c v fw fc fr)) (ro_Q (fX2_haltOf v fw fc fr w)) 0 0 ro_N := by
  refine Met.ofW (cc := cX2_haltOf) (maxL := 2) (ret := (some .int)) (by decide) rfl ?_
  intro p e s m args below meth c9 s₁ B hml hv
  obtain ⟨rfl, hP, hK⟩ := hv
  have hx := B.exec
  have hb := B.bytes
  have hr := B.returns
  have hts := atoms_spec (ws := wsX2_haltOf) B.pre
  have hown : s.vm.findClass RX2 = some m.cls := findClass_of_methodNamed B.named
  have hlocks := B.notSynchronized
  have hS : va_S ro_N s.heap s.heap [] := va_S.rf
  have hin : ∀ w ∈ wsX20, w ∈ wsX2_haltOf := by decide +kernel
  have hf_63 := hts (.fieldLink RX2 63 "PipeWorks" "pc" "I") (by decide +kernel)
  have hl := lv_entry ([.ref h, .int w]) (n := 2) (Nat.le_of_ble_eq_true rfl)
  rw [lg_entry_eq]
  generalize (lg_sl ([.ref h, .int w]) ++ List.replicate (2 - (lg_sl ([.ref h, .int w])).length) Slot.unset).toArray = ls at hl ⊢
  have hl : lv_has ls 2 [(0, .ref h), (1, .int w)] := hl
  refine lv_aload_n hx hb dX2_haltOf_0 rfl (lv_at hl 0 rfl) ?_
  refine va_get (D := (dC, dI)) (ci := 0) (v := .int (v 9)) (C := RX2) (T := TX2) (N := 16) hx hb hts hin hown hK hP 0 rfl rfl 9 (by decide) hf_63 (fun _ h9 => h9) rfl dX2_haltOf_1 ?_
  refine lv_sipush (v := 1023) hx hb dX2_haltOf_4 (by decide) ?_
  refine ro_call (va_runS (As := [.int (v 9), .int 1023]) (rest := []) ⟨hx, hb, hml, hown, hts⟩ (kX2_isBeyond l (v 9) 1023 ) (va_cwS 2 hts gX2_haltOf_X2_isBeyond rfl rfl rfl (by decide +kernel) ⟨Nat.le_of_ble_eq_true rfl, Nat.le_of_ble_eq_true rfl⟩) pu_preS rfl rfl hl.1 rfl (lv_room (Nat.le_of_ble_eq_true rfl)) dX2_haltOf_7 ⟨Nat.zero_le _, Nat.zero_le _⟩) hS (fun H locs hk hS => ?_)
  have hP := hk _ _ _ hP
  refine lv_if_eq (tgt := 15) hx hb dX2_haltOf_10 (by decide) (fun c_10 => ?_) (fun c_10 => ?_)
  ·
    refine lv_iload_n hx hb dX2_haltOf_15 rfl (lv_at hl 1 rfl) ?_
    refine ro_call (va_runS (As := [.int w]) (rest := []) ⟨hx, hb, hml, hown, hts⟩ (kX1_isLegal l w ) (va_cwS 1 hts gX2_haltOf_X1_isLegal rfl rfl rfl (by decide +kernel) ⟨Nat.le_of_ble_eq_true rfl, Nat.le_of_ble_eq_true rfl⟩) pu_preS rfl rfl hl.1 rfl (lv_room (Nat.le_of_ble_eq_true rfl)) dX2_haltOf_16 ⟨Nat.zero_le _, Nat.zero_le _⟩) hS (fun H locs hk hS => ?_)
    have hP := hk _ _ _ hP
    refine lv_if_ne (tgt := 24) hx hb dX2_haltOf_19 (by decide) (fun c_19 => ?_) (fun c_19 => ?_)
    ·
      refine lv_iload_n hx hb dX2_haltOf_24 rfl (lv_at hl 1 rfl) ?_
      refine ro_call (va_runS (As := [.int w]) (rest := []) ⟨hx, hb, hml, hown, hts⟩ (kX1_opcode l w ) (va_cwS 1 hts gX2_haltOf_X1_opcode rfl rfl rfl (by decide +kernel) ⟨Nat.le_of_ble_eq_true rfl, Nat.le_of_ble_eq_true rfl⟩) pu_preS rfl rfl hl.1 rfl (lv_room (Nat.le_of_ble_eq_true rfl)) dX2_haltOf_25 ⟨Nat.zero_le _, Nat.zero_le _⟩) hS (fun H locs hk hS => ?_)
      have hP := hk _ _ _ hP
      by_cases c_28_3 : (fX1_opcode w) = 3
      ·
        refine lv_lookup (off := 96) (tgt := 124) hx hb dX2_haltOf_28 (by decide) (by rw [c_28_3]; decide) (by decide) ?_
        refine lv_aload_n hx hb dX2_haltOf_124 rfl (lv_at hl 0 rfl) ?_
        refine lv_iload_n hx hb dX2_haltOf_125 rfl (lv_at hl 1 rfl) ?_
        refine ro_call (va_runV (As := [.int w]) (rest := []) ⟨hx, hb, hml, hown, hts⟩ (kX2_addressOf l dC dI cI cB h a b c v fw fc fr w ) (cwV 1 hts gX2_haltOf_X2_addressOf rfl rfl rfl (by decide +kernel) ⟨Nat.le_of_ble_eq_true rfl, Nat.le_of_ble_eq_true rfl⟩) (ro_preV hK hP (ci := 0) (q0 := 0) rfl rfl) rfl rfl hl.1 rfl (lv_room (Nat.le_of_ble_eq_true rfl)) dX2_haltOf_126 ⟨Nat.zero_le _, Nat.zero_le _⟩) hS (fun H locs hk hS => ?_)
        have hP := hk _ _ _ hP
        refine lv_iload_n hx hb dX2_haltOf_129 rfl (lv_at hl 1 rfl) ?_
        refine ro_call (va_runS (As := [.int w]) (rest := [.int (fX2_addressOf v fw fc fr w)]) ⟨hx, hb, hml, hown, hts⟩ (kX1_accessBytes l w ) (va_cwS 1 hts gX2_haltOf_X1_accessBytes rfl rfl rfl (by decide +kernel) ⟨Nat.le_of_ble_eq_true rfl, Nat.le_of_ble_eq_true rfl⟩) pu_preS rfl rfl hl.1 rfl (lv_room (Nat.le_of_ble_eq_true rfl)) dX2_haltOf_130 ⟨Nat.zero_le _, Nat.zero_le _⟩) hS (fun H locs hk hS => ?_)
        have hP := hk _ _ _ hP
        refine ro_call (va_runS (As := [.int (fX2_addressOf v fw fc fr w), .int (fX1_accessBytes w)]) (rest := []) ⟨hx, hb, hml, hown, hts⟩ (kX2_haltOfAccess l (fX2_addressOf v fw fc fr w) (fX1_accessBytes w) ) (va_cwS 2 hts gX2_haltOf_X2_haltOfAccess rfl rfl rfl (by decide +kernel) ⟨Nat.le_of_ble_eq_true rfl, Nat.le_of_ble_eq_true rfl⟩) pu_preS rfl rfl hl.1 rfl (lv_room (Nat.le_of_ble_eq_true rfl)) dX2_haltOf_133 ⟨Nat.zero_le _, Nat.zero_le _⟩) hS (fun H locs hk hS => ?_)
        have hP := hk _ _ _ hP
        exact W.iret (v := fX2_haltOfAccess (fX2_addressOf v fw fc fr w) (fX1_accessBytes w)) hx hb hr (fun t ht hW => ro_end (A := ro_N) hS ht (by rw [fX2_haltOf, if_pos c_10, if_neg c_19, if_pos c_28_3])) hS.2.2 dX2_haltOf_136
      by_cases c_28_35 : (fX1_opcode w) = 35
      ·
        refine lv_lookup (off := 96) (tgt := 124) hx hb dX2_haltOf_28 (by decide) (by rw [c_28_35]; decide) (by decide) ?_
        refine lv_aload_n hx hb dX2_haltOf_124 rfl (lv_at hl 0 rfl) ?_
        refine lv_iload_n hx hb dX2_haltOf_125 rfl (lv_at hl 1 rfl) ?_
        refine ro_call (va_runV (As := [.int w]) (rest := []) ⟨hx, hb, hml, hown, hts⟩ (kX2_addressOf l dC dI cI cB h a b c v fw fc fr w ) (cwV 1 hts gX2_haltOf_X2_addressOf rfl rfl rfl (by decide +kernel) ⟨Nat.le_of_ble_eq_true rfl, Nat.le_of_ble_eq_true rfl⟩) (ro_preV hK hP (ci := 0) (q0 := 0) rfl rfl) rfl rfl hl.1 rfl (lv_room (Nat.le_of_ble_eq_true rfl)) dX2_haltOf_126 ⟨Nat.zero_le _, Nat.zero_le _⟩) hS (fun H locs hk hS => ?_)
        have hP := hk _ _ _ hP
        refine lv_iload_n hx hb dX2_haltOf_129 rfl (lv_at hl 1 rfl) ?_
        refine ro_call (va_runS (As := [.int w]) (rest := [.int (fX2_addressOf v fw fc fr w)]) ⟨hx, hb, hml, hown, hts⟩ (kX1_accessBytes l w ) (va_cwS 1 hts gX2_haltOf_X1_accessBytes rfl rfl rfl (by decide +kernel) ⟨Nat.le_of_ble_eq_true rfl, Nat.le_of_ble_eq_true rfl⟩) pu_preS rfl rfl hl.1 rfl (lv_room (Nat.le_of_ble_eq_true rfl)) dX2_haltOf_130 ⟨Nat.zero_le _, Nat.zero_le _⟩) hS (fun H locs hk hS => ?_)
        have hP := hk _ _ _ hP
        refine ro_call (va_runS (As := [.int (fX2_addressOf v fw fc fr w), .int (fX1_accessBytes w)]) (rest := []) ⟨hx, hb, hml, hown, hts⟩ (kX2_haltOfAccess l (fX2_addressOf v fw fc fr w) (fX1_accessBytes w) ) (va_cwS 2 hts gX2_haltOf_X2_haltOfAccess rfl rfl rfl (by decide +kernel) ⟨Nat.le_of_ble_eq_true rfl, Nat.le_of_ble_eq_true rfl⟩) pu_preS rfl rfl hl.1 rfl (lv_room (Nat.le_of_ble_eq_true rfl)) dX2_haltOf_133 ⟨Nat.zero_le _, Nat.zero_le _⟩) hS (fun H locs hk hS => ?_)
        have hP := hk _ _ _ hP
        exact W.iret (v := fX2_haltOfAccess (fX2_addressOf v fw fc fr w) (fX1_accessBytes w)) hx hb hr (fun t ht hW => ro_end (A := ro_N) hS ht (by rw [fX2_haltOf, if_pos c_10, if_neg c_19, if_neg c_28_3, if_pos c_28_35])) hS.2.2 dX2_haltOf_136
      by_cases c_28_99 : (fX1_opcode w) = 99
      ·
        refine lv_lookup (off := 72) (tgt := 100) hx hb dX2_haltOf_28 (by decide) (by rw [c_28_99]; decide) (by decide) ?_
        refine lv_aload_n hx hb dX2_haltOf_100 rfl (lv_at hl 0 rfl) ?_
        refine lv_iload_n hx hb dX2_haltOf_101 rfl (lv_at hl 1 rfl) ?_
        refine ro_call (va_runV (As := [.int w]) (rest := []) ⟨hx, hb, hml, hown, hts⟩ (kX2_jumps l dC dI cI cB h a b c v fw fc fr w ) (cwV 1 hts gX2_haltOf_X2_jumps rfl rfl rfl (by decide +kernel) ⟨Nat.le_of_ble_eq_true rfl, Nat.le_of_ble_eq_true rfl⟩) (ro_preV hK hP (ci := 0) (q0 := 0) rfl rfl) rfl rfl hl.1 rfl (lv_room (Nat.le_of_ble_eq_true rfl)) dX2_haltOf_102 ⟨Nat.zero_le _, Nat.zero_le _⟩) hS (fun H locs hk hS => ?_)
        have hP := hk _ _ _ hP
        refine lv_if_eq (tgt := 122) hx hb dX2_haltOf_105 (by decide) (fun c_105 => ?_) (fun c_105 => ?_)
        ·
          refine lv_iconst (v := 0) hx hb dX2_haltOf_122 (by decide) ?_
          exact W.iret (v := 0) hx hb hr (fun t ht hW => ro_end (A := ro_N) hS ht (by rw [fX2_haltOf, if_pos c_10, if_neg c_19, if_neg c_28_3, if_neg c_28_35, if_pos c_28_99, if_pos c_105])) hS.2.2 dX2_haltOf_123
        ·
          refine lv_aload_n hx hb dX2_haltOf_108 rfl (lv_at hl 0 rfl) ?_
          refine lv_iload_n hx hb dX2_haltOf_109 rfl (lv_at hl 1 rfl) ?_
          refine ro_call (va_runV (As := [.int w]) (rest := []) ⟨hx, hb, hml, hown, hts⟩ (kX2_targetOf l dC dI cI cB h a b c v fw fc fr w ) (cwV 1 hts gX2_haltOf_X2_targetOf rfl rfl rfl (by decide +kernel) ⟨Nat.le_of_ble_eq_true rfl, Nat.le_of_ble_eq_true rfl⟩) (ro_preV hK hP (ci := 0) (q0 := 0) rfl rfl) rfl rfl hl.1 rfl (lv_room (Nat.le_of_ble_eq_true rfl)) dX2_haltOf_110 ⟨Nat.zero_le _, Nat.zero_le _⟩) hS (fun H locs hk hS => ?_)
          have hP := hk _ _ _ hP
          refine lv_iconst (v := 3) hx hb dX2_haltOf_113 (by decide) ?_
          refine lv_iand hx hb dX2_haltOf_114 ?_
          refine lv_if_eq (tgt := 122) hx hb dX2_haltOf_115 (by decide) (fun c_115 => ?_) (fun c_115 => ?_)
          ·
            refine lv_iconst (v := 0) hx hb dX2_haltOf_122 (by decide) ?_
            exact W.iret (v := 0) hx hb hr (fun t ht hW => ro_end (A := ro_N) hS ht (by rw [fX2_haltOf, if_pos c_10, if_neg c_19, if_neg c_28_3, if_neg c_28_35, if_pos c_28_99, if_neg c_105, if_pos c_115])) hS.2.2 dX2_haltOf_123
          ·
            refine lv_iconst (v := 5) hx hb dX2_haltOf_118 (by decide) ?_
            refine lv_goto (tgt := 123) hx hb dX2_haltOf_119 (by decide) ?_
            exact W.iret (v := 5) hx hb hr (fun t ht hW => ro_end (A := ro_N) hS ht (by rw [fX2_haltOf, if_pos c_10, if_neg c_19, if_neg c_28_3, if_neg c_28_35, if_pos c_28_99, if_neg c_105, if_neg c_115])) hS.2.2 dX2_haltOf_123
      by_cases c_28_103 : (fX1_opcode w) = 103
      ·
        refine lv_lookup (off := 72) (tgt := 100) hx hb dX2_haltOf_28 (by decide) (by rw [c_28_103]; decide) (by decide) ?_
        refine lv_aload_n hx hb dX2_haltOf_100 rfl (lv_at hl 0 rfl) ?_
        refine lv_iload_n hx hb dX2_haltOf_101 rfl (lv_at hl 1 rfl) ?_
        refine ro_call (va_runV (As := [.int w]) (rest := []) ⟨hx, hb, hml, hown, hts⟩ (kX2_jumps l dC dI cI cB h a b c v fw fc fr w ) (cwV 1 hts gX2_haltOf_X2_jumps rfl rfl rfl (by decide +kernel) ⟨Nat.le_of_ble_eq_true rfl, Nat.le_of_ble_eq_true rfl⟩) (ro_preV hK hP (ci := 0) (q0 := 0) rfl rfl) rfl rfl hl.1 rfl (lv_room (Nat.le_of_ble_eq_true rfl)) dX2_haltOf_102 ⟨Nat.zero_le _, Nat.zero_le _⟩) hS (fun H locs hk hS => ?_)
        have hP := hk _ _ _ hP
        refine lv_if_eq (tgt := 122) hx hb dX2_haltOf_105 (by decide) (fun c_105 => ?_) (fun c_105 => ?_)
        ·
          refine lv_iconst (v := 0) hx hb dX2_haltOf_122 (by decide) ?_
          exact W.iret (v := 0) hx hb hr (fun t ht hW => ro_end (A := ro_N) hS ht (by rw [fX2_haltOf, if_pos c_10, if_neg c_19, if_neg c_28_3, if_neg c_28_35, if_neg c_28_99, if_pos c_28_103, if_pos c_105])) hS.2.2 dX2_haltOf_123
        ·
          refine lv_aload_n hx hb dX2_haltOf_108 rfl (lv_at hl 0 rfl) ?_
          refine lv_iload_n hx hb dX2_haltOf_109 rfl (lv_at hl 1 rfl) ?_
          refine ro_call (va_runV (As := [.int w]) (rest := []) ⟨hx, hb, hml, hown, hts⟩ (kX2_targetOf l dC dI cI cB h a b c v fw fc fr w ) (cwV 1 hts gX2_haltOf_X2_targetOf rfl rfl rfl (by decide +kernel) ⟨Nat.le_of_ble_eq_true rfl, Nat.le_of_ble_eq_true rfl⟩) (ro_preV hK hP (ci := 0) (q0 := 0) rfl rfl) rfl rfl hl.1 rfl (lv_room (Nat.le_of_ble_eq_true rfl)) dX2_haltOf_110 ⟨Nat.zero_le _, Nat.zero_le _⟩) hS (fun H locs hk hS => ?_)
          have hP := hk _ _ _ hP
          refine lv_iconst (v := 3) hx hb dX2_haltOf_113 (by decide) ?_
          refine lv_iand hx hb dX2_haltOf_114 ?_
          refine lv_if_eq (tgt := 122) hx hb dX2_haltOf_115 (by decide) (fun c_115 => ?_) (fun c_115 => ?_)
          ·
            refine lv_iconst (v := 0) hx hb dX2_haltOf_122 (by decide) ?_
            exact W.iret (v := 0) hx hb hr (fun t ht hW => ro_end (A := ro_N) hS ht (by rw [fX2_haltOf, if_pos c_10, if_neg c_19, if_neg c_28_3, if_neg c_28_35, if_neg c_28_99, if_pos c_28_103, if_neg c_105, if_pos c_115])) hS.2.2 dX2_haltOf_123
          ·
            refine lv_iconst (v := 5) hx hb dX2_haltOf_118 (by decide) ?_
            refine lv_goto (tgt := 123) hx hb dX2_haltOf_119 (by decide) ?_
            exact W.iret (v := 5) hx hb hr (fun t ht hW => ro_end (A := ro_N) hS ht (by rw [fX2_haltOf, if_pos c_10, if_neg c_19, if_neg c_28_3, if_neg c_28_35, if_neg c_28_99, if_pos c_28_103, if_neg c_105, if_neg c_115])) hS.2.2 dX2_haltOf_123
      by_cases c_28_111 : (fX1_opcode w) = 111
      ·
        refine lv_lookup (off := 72) (tgt := 100) hx hb dX2_haltOf_28 (by decide) (by rw [c_28_111]; decide) (by decide) ?_
        refine lv_aload_n hx hb dX2_haltOf_100 rfl (lv_at hl 0 rfl) ?_
        refine lv_iload_n hx hb dX2_haltOf_101 rfl (lv_at hl 1 rfl) ?_
        refine ro_call (va_runV (As := [.int w]) (rest := []) ⟨hx, hb, hml, hown, hts⟩ (kX2_jumps l dC dI cI cB h a b c v fw fc fr w ) (cwV 1 hts gX2_haltOf_X2_jumps rfl rfl rfl (by decide +kernel) ⟨Nat.le_of_ble_eq_true rfl, Nat.le_of_ble_eq_true rfl⟩) (ro_preV hK hP (ci := 0) (q0 := 0) rfl rfl) rfl rfl hl.1 rfl (lv_room (Nat.le_of_ble_eq_true rfl)) dX2_haltOf_102 ⟨Nat.zero_le _, Nat.zero_le _⟩) hS (fun H locs hk hS => ?_)
        have hP := hk _ _ _ hP
        refine lv_if_eq (tgt := 122) hx hb dX2_haltOf_105 (by decide) (fun c_105 => ?_) (fun c_105 => ?_)
        ·
          refine lv_iconst (v := 0) hx hb dX2_haltOf_122 (by decide) ?_
          exact W.iret (v := 0) hx hb hr (fun t ht hW => ro_end (A := ro_N) hS ht (by rw [fX2_haltOf, if_pos c_10, if_neg c_19, if_neg c_28_3, if_neg c_28_35, if_neg c_28_99, if_neg c_28_103, if_pos c_28_111, if_pos c_105])) hS.2.2 dX2_haltOf_123
        ·
          refine lv_aload_n hx hb dX2_haltOf_108 rfl (lv_at hl 0 rfl) ?_
          refine lv_iload_n hx hb dX2_haltOf_109 rfl (lv_at hl 1 rfl) ?_
          refine ro_call (va_runV (As := [.int w]) (rest := []) ⟨hx, hb, hml, hown, hts⟩ (kX2_targetOf l dC dI cI cB h a b c v fw fc fr w ) (cwV 1 hts gX2_haltOf_X2_targetOf rfl rfl rfl (by decide +kernel) ⟨Nat.le_of_ble_eq_true rfl, Nat.le_of_ble_eq_true rfl⟩) (ro_preV hK hP (ci := 0) (q0 := 0) rfl rfl) rfl rfl hl.1 rfl (lv_room (Nat.le_of_ble_eq_true rfl)) dX2_haltOf_110 ⟨Nat.zero_le _, Nat.zero_le _⟩) hS (fun H locs hk hS => ?_)
          have hP := hk _ _ _ hP
          refine lv_iconst (v := 3) hx hb dX2_haltOf_113 (by decide) ?_
          refine lv_iand hx hb dX2_haltOf_114 ?_
          refine lv_if_eq (tgt := 122) hx hb dX2_haltOf_115 (by decide) (fun c_115 => ?_) (fun c_115 => ?_)
          ·
            refine lv_iconst (v := 0) hx hb dX2_haltOf_122 (by decide) ?_
            exact W.iret (v := 0) hx hb hr (fun t ht hW => ro_end (A := ro_N) hS ht (by rw [fX2_haltOf, if_pos c_10, if_neg c_19, if_neg c_28_3, if_neg c_28_35, if_neg c_28_99, if_neg c_28_103, if_pos c_28_111, if_neg c_105, if_pos c_115])) hS.2.2 dX2_haltOf_123
          ·
            refine lv_iconst (v := 5) hx hb dX2_haltOf_118 (by decide) ?_
            refine lv_goto (tgt := 123) hx hb dX2_haltOf_119 (by decide) ?_
            exact W.iret (v := 5) hx hb hr (fun t ht hW => ro_end (A := ro_N) hS ht (by rw [fX2_haltOf, if_pos c_10, if_neg c_19, if_neg c_28_3, if_neg c_28_35, if_neg c_28_99, if_neg c_28_103, if_pos c_28_111, if_neg c_105, if_neg c_115])) hS.2.2 dX2_haltOf_123
      by_cases c_28_115 : (fX1_opcode w) = 115
      ·
        refine lv_lookup (off := 60) (tgt := 88) hx hb dX2_haltOf_28 (by decide) (by rw [c_28_115]; decide) (by decide) ?_
        refine lv_iload_n hx hb dX2_haltOf_88 rfl (lv_at hl 1 rfl) ?_
        refine lv_bipush (v := 115) hx hb dX2_haltOf_89 (by decide) ?_
        refine lv_icmp_ne (tgt := 98) hx hb dX2_haltOf_91 (by decide) (fun c_91 => ?_) (fun c_91 => ?_)
        ·
          refine lv_iconst (v := 2) hx hb dX2_haltOf_98 (by decide) ?_
          exact W.iret (v := 2) hx hb hr (fun t ht hW => ro_end (A := ro_N) hS ht (by rw [fX2_haltOf, if_pos c_10, if_neg c_19, if_neg c_28_3, if_neg c_28_35, if_neg c_28_99, if_neg c_28_103, if_neg c_28_111, if_pos c_28_115, if_neg c_91])) hS.2.2 dX2_haltOf_99
        ·
          refine lv_iconst (v := 1) hx hb dX2_haltOf_94 (by decide) ?_
          refine lv_goto (tgt := 99) hx hb dX2_haltOf_95 (by decide) ?_
          exact W.iret (v := 1) hx hb hr (fun t ht hW => ro_end (A := ro_N) hS ht (by rw [fX2_haltOf, if_pos c_10, if_neg c_19, if_neg c_28_3, if_neg c_28_35, if_neg c_28_99, if_neg c_28_103, if_neg c_28_111, if_pos c_28_115, if_pos c_91])) hS.2.2 dX2_haltOf_99
      refine lv_lookup (off := 109) (tgt := 137) hx hb dX2_haltOf_28 (by decide) (show Op.lookupswitch.offset [(3, 96), (35, 96), (99, 72), (103, 72), (111, 72), (115, 60)] 109 _ = 109 from (lv_osw c_28_3 (k := 3) (by decide)).trans ((lv_osw c_28_35 (k := 35) (by decide)).trans ((lv_osw c_28_99 (k := 99) (by decide)).trans ((lv_osw c_28_103 (k := 103) (by decide)).trans ((lv_osw c_28_111 (k := 111) (by decide)).trans ((lv_osw c_28_115 (k := 115) (by decide)).trans (rfl))))))) (by decide) ?_
      refine lv_iconst (v := 0) hx hb dX2_haltOf_137 (by decide) ?_
      exact W.iret (v := 0) hx hb hr (fun t ht hW => ro_end (A := ro_N) hS ht (by rw [fX2_haltOf, if_pos c_10, if_neg c_19, if_neg c_28_3, if_neg c_28_35, if_neg c_28_99, if_neg c_28_103, if_neg c_28_111, if_neg c_28_115])) hS.2.2 dX2_haltOf_138
    ·
      refine lv_iconst (v := 3) hx hb dX2_haltOf_22 (by decide) ?_
      exact W.iret (v := 3) hx hb hr (fun t ht hW => ro_end (A := ro_N) hS ht (by rw [fX2_haltOf, if_pos c_10, if_pos c_19])) hS.2.2 dX2_haltOf_23
  ·
    refine lv_iconst (v := 4) hx hb dX2_haltOf_13 (by decide) ?_
    exact W.iret (v := 4) hx hb hr (fun t ht hW => ro_end (A := ro_N) hS ht (by rw [fX2_haltOf, if_neg c_10])) hS.2.2 dX2_haltOf_14
def fX2_loadAt (v fw fc fr : Nat → Int32) (x f : Int32) : Int32 := (if f = 0 then ((jushr (fc (fX2_cellOf x).toNatClampNeg) (fX2_shiftOf x)).toInt8.toInt32) else (if f = 1 then ((jushr (fc (fX2_cellOf x).toNatClampNeg) (fX2_shiftOf x)).toInt16.toInt32) else (if f = 2 then (jushr (fc (fX2_cellOf x).toNatClampNeg) (fX2_shiftOf x)) else (if f = 3 then (jushr (fc (fX2_cellOf x).toNatClampNeg) (fX2_shiftOf x)) else (if f = 4 then ((jushr (fc (fX2_cellOf x).toNatClampNeg) (fX2_shiftOf x)) &&& 255) else (if f = 5 then ((jushr (fc (fX2_cellOf x).toNatClampNeg) (fX2_shiftOf x)) &&& 65535) else (jushr (fc (fX2_cellOf x).toNatClampNeg) (fX2_shiftOf x))))))))
set_option maxHeartbeats 4000000 in
set_option maxRecDepth 100000 in
theorem kX2_loadAt (l : Launch) (dC : Nat → ClassId) (dI : Nat → Nat → Nat) (cI cB : ClassId) (h a b c : Nat) (v fw fc fr : Nat → Int32) (x f : Int32) : Met l yX2_loadAt wsX2_loadAt ({ frames := 1, cells := 0, slots := 0, locals := 20 }) (ro_Pc [.ref h, .int x, .int f] (dC, dI) vwCl (tyIB cI cB) (pwW cI h a b c v fw fc fr)) (ro_Q (fX2_loadAt v fw fc fr x f)) 0 0 ro_N := by
  refine Met.ofW (cc := cX2_loadAt) (maxL := 4) (ret := (some .int)) (by decide) rfl ?_
  intro p e s m args below meth c9 s₁ B hml hv
  obtain ⟨rfl, hP, hK⟩ := hv
  have hx := B.exec
  have hb := B.bytes
  have hr := B.returns
  have hts := atoms_spec (ws := wsX2_loadAt) B.pre
  have hown : s.vm.findClass RX2 = some m.cls := findClass_of_methodNamed B.named
  have hlocks := B.notSynchronized
  have hS : va_S ro_N s.heap s.heap [] := va_S.rf
  have hin : ∀ w ∈ wsX20, w ∈ wsX2_loadAt := by decide +kernel
  have hf_13 := hts (.fieldLink RX2 13 "PipeWorks" "cells" "[I") (by decide +kernel)
  have hl := lv_entry ([.ref h, .int x, .int f]) (n := 4) (Nat.le_of_ble_eq_true rfl)
  rw [lg_entry_eq]
  generalize (lg_sl ([.ref h, .int x, .int f]) ++ List.replicate (4 - (lg_sl ([.ref h, .int x, .int f])).length) Slot.unset).toArray = ls at hl ⊢
  have hl : lv_has ls 4 [(0, .ref h), (1, .int x), (2, .int f)] := hl
  refine lv_aload_n hx hb dX2_loadAt_0 rfl (lv_at hl 0 rfl) ?_
  refine va_get (D := (dC, dI)) (ci := 0) (v := .ref b) (C := RX2) (T := TX2) (N := 16) hx hb hts hin hown hK hP 0 rfl rfl 1 (by decide) hf_13 (fun _ h9 => h9) rfl dX2_loadAt_1 ?_
  refine lv_iload_n hx hb dX2_loadAt_4 rfl (lv_at hl 1 rfl) ?_
  refine ro_call (va_runS (As := [.int x]) (rest := [.ref b]) ⟨hx, hb, hml, hown, hts⟩ (kX2_cellOf l x ) (va_cwS 1 hts gX2_loadAt_X2_cellOf rfl rfl rfl (by decide +kernel) ⟨Nat.le_of_ble_eq_true rfl, Nat.le_of_ble_eq_true rfl⟩) pu_preS rfl rfl hl.1 rfl (lv_room (Nat.le_of_ble_eq_true rfl)) dX2_loadAt_5 ⟨Nat.zero_le _, Nat.zero_le _⟩) hS (fun H locs hk hS => ?_)
  have hP := hk _ _ _ hP
  refine va_iald hx hb hK hP 2 0 rfl rfl (ix_cell x) dX2_loadAt_8 ?_
  refine lv_iload_n hx hb dX2_loadAt_9 rfl (lv_at hl 1 rfl) ?_
  refine ro_call (va_runS (As := [.int x]) (rest := [.int (fc (fX2_cellOf x).toNatClampNeg)]) ⟨hx, hb, hml, hown, hts⟩ (kX2_shiftOf l x ) (va_cwS 1 hts gX2_loadAt_X2_shiftOf rfl rfl rfl (by decide +kernel) ⟨Nat.le_of_ble_eq_true rfl, Nat.le_of_ble_eq_true rfl⟩) pu_preS rfl rfl hl.1 rfl (lv_room (Nat.le_of_ble_eq_true rfl)) dX2_loadAt_10 ⟨Nat.zero_le _, Nat.zero_le _⟩) hS (fun H locs hk hS => ?_)
  have hP := hk _ _ _ hP
  refine lv_iushr (v := jushr (fc (fX2_cellOf x).toNatClampNeg) (fX2_shiftOf x)) hx hb dX2_loadAt_13 rfl ?_
  refine lv_istore_n (lv' := [(3, .int (jushr (fc (fX2_cellOf x).toNatClampNeg) (fX2_shiftOf x))), (0, .ref h), (1, .int x), (2, .int f)]) hx hb dX2_loadAt_14 rfl hl (by decide) rfl (fun ls hl => ?_)
  refine lv_iload_n hx hb dX2_loadAt_15 rfl (lv_at hl 3 rfl) ?_
  by_cases c_16_0 : f = 0
  ·
    refine lv_tableIn (off := 40) (tgt := 56) hx hb dX2_loadAt_16 (by rw [c_16_0]; decide) (by rw [c_16_0]; decide) (by rw [c_16_0]; decide) (by decide) ?_
    refine lv_iload_n hx hb dX2_loadAt_56 rfl (lv_at hl 0 rfl) ?_
    refine lv_i2b (v := (jushr (fc (fX2_cellOf x).toNatClampNeg) (fX2_shiftOf x)).toInt8.toInt32) hx hb dX2_loadAt_57 rfl ?_
    exact W.iret (v := (jushr (fc (fX2_cellOf x).toNatClampNeg) (fX2_shiftOf x)).toInt8.toInt32) hx hb hr (fun t ht hW => ro_end (A := ro_N) hS ht (by rw [fX2_loadAt, if_pos c_16_0])) hS.2.2 dX2_loadAt_58
  by_cases c_16_1 : f = 1
  ·
    refine lv_tableIn (off := 43) (tgt := 59) hx hb dX2_loadAt_16 (by rw [c_16_1]; decide) (by rw [c_16_1]; decide) (by rw [c_16_1]; decide) (by decide) ?_
    refine lv_iload_n hx hb dX2_loadAt_59 rfl (lv_at hl 0 rfl) ?_
    refine lv_i2s (v := (jushr (fc (fX2_cellOf x).toNatClampNeg) (fX2_shiftOf x)).toInt16.toInt32) hx hb dX2_loadAt_60 rfl ?_
    exact W.iret (v := (jushr (fc (fX2_cellOf x).toNatClampNeg) (fX2_shiftOf x)).toInt16.toInt32) hx hb hr (fun t ht hW => ro_end (A := ro_N) hS ht (by rw [fX2_loadAt, if_neg c_16_0, if_pos c_16_1])) hS.2.2 dX2_loadAt_61
  by_cases c_16_2 : f = 2
  ·
    refine lv_tableIn (off := 57) (tgt := 73) hx hb dX2_loadAt_16 (by rw [c_16_2]; decide) (by rw [c_16_2]; decide) (by rw [c_16_2]; decide) (by decide) ?_
    refine lv_iload_n hx hb dX2_loadAt_73 rfl (lv_at hl 0 rfl) ?_
    exact W.iret (v := jushr (fc (fX2_cellOf x).toNatClampNeg) (fX2_shiftOf x)) hx hb hr (fun t ht hW => ro_end (A := ro_N) hS ht (by rw [fX2_loadAt, if_neg c_16_0, if_neg c_16_1, if_pos c_16_2])) hS.2.2 dX2_loadAt_74
  by_cases c_16_3 : f = 3
  ·
    refine lv_tableIn (off := 57) (tgt := 73) hx hb dX2_loadAt_16 (by rw [c_16_3]; decide) (by rw [c_16_3]; decide) (by rw [c_16_3]; decide) (by decide) ?_
    refine lv_iload_n hx hb dX2_loadAt_73 rfl (lv_at hl 0 rfl) ?_
    exact W.iret (v := jushr (fc (fX2_cellOf x).toNatClampNeg) (fX2_shiftOf x)) hx hb hr (fun t ht hW => ro_end (A := ro_N) hS ht (by rw [fX2_loadAt, if_neg c_16_0, if_neg c_16_1, if_neg c_16_2, if_pos c_16_3])) hS.2.2 dX2_loadAt_74
  by_cases c_16_4 : f = 4
  ·
    refine lv_tableIn (off := 46) (tgt := 62) hx hb dX2_loadAt_16 (by rw [c_16_4]; decide) (by rw [c_16_4]; decide) (by rw [c_16_4]; decide) (by decide) ?_
    refine lv_iload_n hx hb dX2_loadAt_62 rfl (lv_at hl 0 rfl) ?_
    refine lv_sipush (v := 255) hx hb dX2_loadAt_63 (by decide) ?_
    refine lv_iand hx hb dX2_loadAt_66 ?_
    exact W.iret (v := (jushr (fc (fX2_cellOf x).toNatClampNeg) (fX2_shiftOf x)) &&& 255) hx hb hr (fun t ht hW => ro_end (A := ro_N) hS ht (by rw [fX2_loadAt, if_neg c_16_0, if_neg c_16_1, if_neg c_16_2, if_neg c_16_3, if_pos c_16_4])) hS.2.2 dX2_loadAt_67
  by_cases c_16_5 : f = 5
  ·
    refine lv_tableIn (off := 52) (tgt := 68) hx hb dX2_loadAt_16 (by rw [c_16_5]; decide) (by rw [c_16_5]; decide) (by rw [c_16_5]; decide) (by decide) ?_
    refine lv_iload_n hx hb dX2_loadAt_68 rfl (lv_at hl 0 rfl) ?_
    refine lv_ldc (v := 65535) hx hb hown (hts (.constant RX2 199 (65535)) (by decide +kernel)) dX2_loadAt_69 ?_
    refine lv_iand hx hb dX2_loadAt_71 ?_
    exact W.iret (v := (jushr (fc (fX2_cellOf x).toNatClampNeg) (fX2_shiftOf x)) &&& 65535) hx hb hr (fun t ht hW => ro_end (A := ro_N) hS ht (by rw [fX2_loadAt, if_neg c_16_0, if_neg c_16_1, if_neg c_16_2, if_neg c_16_3, if_neg c_16_4, if_pos c_16_5])) hS.2.2 dX2_loadAt_72
  have hsw_16 : (f).toInt < 0 ∨ 5 < (f).toInt := by
    have q0 := lv_neT c_16_0 (k := 0) (a := 0) (by decide)
    have q1 := lv_neT c_16_1 (k := 1) (a := 1) (by decide)
    have q2 := lv_neT c_16_2 (k := 2) (a := 2) (by decide)
    have q3 := lv_neT c_16_3 (k := 3) (a := 3) (by decide)
    have q4 := lv_neT c_16_4 (k := 4) (a := 4) (by decide)
    have q5 := lv_neT c_16_5 (k := 5) (a := 5) (by decide)
    omega
  refine lv_tableOut (tgt := 73) hx hb dX2_loadAt_16 hsw_16 (by decide) ?_
  refine lv_iload_n hx hb dX2_loadAt_73 rfl (lv_at hl 0 rfl) ?_
  exact W.iret (v := jushr (fc (fX2_cellOf x).toNatClampNeg) (fX2_shiftOf x)) hx hb hr (fun t ht hW => ro_end (A := ro_N) hS ht (by rw [fX2_loadAt, if_neg c_16_0, if_neg c_16_1, if_neg c_16_2, if_neg c_16_3, if_neg c_16_4, if_neg c_16_5])) hS.2.2 dX2_loadAt_74
def fX2_resultOf (v fw fc fr : Nat → Int32) (w : Int32) : Int32 := (if (fX1_opcode w) = 3 then (fX2_loadAt v fw fc fr (fX2_addressOf v fw fc fr w) (fX1_f3 w)) else (if (fX1_opcode w) = 19 then (if (fX1_f3 w) = 5 then (if (fX1_f7 w) = 32 then (fX0_result (fX1_f3 w) 1 (fX2_rs1Of v fw fc fr w) (fX1_immediateI w)) else (fX0_result (fX1_f3 w) 0 (fX2_rs1Of v fw fc fr w) (fX1_immediateI w))) else (fX0_result (fX1_f3 w) 0 (fX2_rs1Of v fw fc fr w) (fX1_immediateI w))) else (if (fX1_opcode w) = 23 then ((v 9) + (fX1_immediateU w)) else (if (fX1_opcode w) = 51 then (if (fX1_f7 w) = 32 then (fX0_result (fX1_f3 w) 1 (fX2_rs1Of v fw fc fr w) (fX2_rs2Of v fw fc fr w)) else (fX0_result (fX1_f3 w) 0 (fX2_rs1Of v fw fc fr w) (fX2_rs2Of v fw fc fr w))) else (if (fX1_opcode w) = 55 then (fX1_immediateU w) else (if (fX1_opcode w) = 103 then ((v 9) + 4) else (if (fX1_opcode w) = 111 then ((v 9) + 4) else 0)))))))
set_option maxHeartbeats 4000000 in
set_option maxRecDepth 100000 in
theorem kX2_resultOf (l : Launch) (dC : Nat → ClassId) (dI : Nat → Nat → Nat) (cI cB : ClassId) (h a b c : Nat) (v fw fc fr : Nat → Int32) (w : Int32) : Met l yX2_resultOf wsX2_resultOf ({ frames := 3, cells := 0, slots := 0, locals := 62 }) (ro_Pc [.ref h, .int w] (dC, dI) vwCl (tyIB cI cB) (pwW cI h a b c v fw fc fr)) (ro_Q (fX2_resultOf v fw fc fr w)) 0 0 ro_N := by
  refine Met.ofW (cc := cX2_resultOf) (maxL := 2) (ret := (some .int)) (by decide) rfl ?_
  intro p e s m args below meth c9 s₁ B hml hv
  obtain ⟨rfl, hP, hK⟩ := hv
  have hx := B.exec
  have hb := B.bytes
  have hr := B.returns
  have hts := atoms_spec (ws := wsX2_resultOf) B.pre
  have hown : s.vm.findClass RX2 = some m.cls := findClass_of_methodNamed B.named
  have hlocks := B.notSynchronized
  have hS : va_S ro_N s.heap s.heap [] := va_S.rf
  have hin : ∀ w ∈ wsX20, w ∈ wsX2_resultOf := by decide +kernel
  have hf_63 := hts (.fieldLink RX2 63 "PipeWorks" "pc" "I") (by decide +kernel)
  have hl := lv_entry ([.ref h, .int w]) (n := 2) (Nat.le_of_ble_eq_true rfl)
  rw [lg_entry_eq]
  generalize (lg_sl ([.ref h, .int w]) ++ List.replicate (2 - (lg_sl ([.ref h, .int w])).length) Slot.unset).toArray = ls at hl ⊢
  have hl : lv_has ls 2 [(0, .ref h), (1, .int w)] := hl
  refine lv_iload_n hx hb dX2_resultOf_0 rfl (lv_at hl 1 rfl) ?_
  refine ro_call (va_runS (As := [.int w]) (rest := []) ⟨hx, hb, hml, hown, hts⟩ (kX1_opcode l w ) (va_cwS 1 hts gX2_resultOf_X1_opcode rfl rfl rfl (by decide +kernel) ⟨Nat.le_of_ble_eq_true rfl, Nat.le_of_ble_eq_true rfl⟩) pu_preS rfl rfl hl.1 rfl (lv_room (Nat.le_of_ble_eq_true rfl)) dX2_resultOf_1 ⟨Nat.zero_le _, Nat.zero_le _⟩) hS (fun H locs hk hS => ?_)
  have hP := hk _ _ _ hP
  by_cases c_4_3 : (fX1_opcode w) = 3
  ·
    refine lv_lookup (off := 90) (tgt := 94) hx hb dX2_resultOf_4 (by decide) (by rw [c_4_3]; decide) (by decide) ?_
    refine lv_aload_n hx hb dX2_resultOf_94 rfl (lv_at hl 0 rfl) ?_
    refine lv_aload_n hx hb dX2_resultOf_95 rfl (lv_at hl 0 rfl) ?_
    refine lv_iload_n hx hb dX2_resultOf_96 rfl (lv_at hl 1 rfl) ?_
    refine ro_call (va_runV (As := [.int w]) (rest := [.ref h]) ⟨hx, hb, hml, hown, hts⟩ (kX2_addressOf l dC dI cI cB h a b c v fw fc fr w ) (cwV 1 hts gX2_resultOf_X2_addressOf rfl rfl rfl (by decide +kernel) ⟨Nat.le_of_ble_eq_true rfl, Nat.le_of_ble_eq_true rfl⟩) (ro_preV hK hP (ci := 0) (q0 := 0) rfl rfl) rfl rfl hl.1 rfl (lv_room (Nat.le_of_ble_eq_true rfl)) dX2_resultOf_97 ⟨Nat.zero_le _, Nat.zero_le _⟩) hS (fun H locs hk hS => ?_)
    have hP := hk _ _ _ hP
    refine lv_iload_n hx hb dX2_resultOf_100 rfl (lv_at hl 1 rfl) ?_
    refine ro_call (va_runS (As := [.int w]) (rest := [.int (fX2_addressOf v fw fc fr w), .ref h]) ⟨hx, hb, hml, hown, hts⟩ (kX1_f3 l w ) (va_cwS 1 hts gX2_resultOf_X1_f3 rfl rfl rfl (by decide +kernel) ⟨Nat.le_of_ble_eq_true rfl, Nat.le_of_ble_eq_true rfl⟩) pu_preS rfl rfl hl.1 rfl (lv_room (Nat.le_of_ble_eq_true rfl)) dX2_resultOf_101 ⟨Nat.zero_le _, Nat.zero_le _⟩) hS (fun H locs hk hS => ?_)
    have hP := hk _ _ _ hP
    refine ro_call (va_runV (As := [.int (fX2_addressOf v fw fc fr w), .int (fX1_f3 w)]) (rest := []) ⟨hx, hb, hml, hown, hts⟩ (kX2_loadAt l dC dI cI cB h a b c v fw fc fr (fX2_addressOf v fw fc fr w) (fX1_f3 w) ) (cwV 2 hts gX2_resultOf_X2_loadAt rfl rfl rfl (by decide +kernel) ⟨Nat.le_of_ble_eq_true rfl, Nat.le_of_ble_eq_true rfl⟩) (ro_preV hK hP (ci := 0) (q0 := 0) rfl rfl) rfl rfl hl.1 rfl (lv_room (Nat.le_of_ble_eq_true rfl)) dX2_resultOf_104 ⟨Nat.zero_le _, Nat.zero_le _⟩) hS (fun H locs hk hS => ?_)
    have hP := hk _ _ _ hP
    exact W.iret (v := fX2_loadAt v fw fc fr (fX2_addressOf v fw fc fr w) (fX1_f3 w)) hx hb hr (fun t ht hW => ro_end (A := ro_N) hS ht (by rw [fX2_resultOf, if_pos c_4_3])) hS.2.2 dX2_resultOf_107
  by_cases c_4_19 : (fX1_opcode w) = 19
  ·
    refine lv_lookup (off := 104) (tgt := 108) hx hb dX2_resultOf_4 (by decide) (by rw [c_4_19]; decide) (by decide) ?_
    refine lv_iload_n hx hb dX2_resultOf_108 rfl (lv_at hl 1 rfl) ?_
    refine ro_call (va_runS (As := [.int w]) (rest := []) ⟨hx, hb, hml, hown, hts⟩ (kX1_f3 l w ) (va_cwS 1 hts gX2_resultOf_X1_f3 rfl rfl rfl (by decide +kernel) ⟨Nat.le_of_ble_eq_true rfl, Nat.le_of_ble_eq_true rfl⟩) pu_preS rfl rfl hl.1 rfl (lv_room (Nat.le_of_ble_eq_true rfl)) dX2_resultOf_109 ⟨Nat.zero_le _, Nat.zero_le _⟩) hS (fun H locs hk hS => ?_)
    have hP := hk _ _ _ hP
    refine lv_iload_n hx hb dX2_resultOf_112 rfl (lv_at hl 1 rfl) ?_
    refine ro_call (va_runS (As := [.int w]) (rest := [.int (fX1_f3 w)]) ⟨hx, hb, hml, hown, hts⟩ (kX1_f3 l w ) (va_cwS 1 hts gX2_resultOf_X1_f3 rfl rfl rfl (by decide +kernel) ⟨Nat.le_of_ble_eq_true rfl, Nat.le_of_ble_eq_true rfl⟩) pu_preS rfl rfl hl.1 rfl (lv_room (Nat.le_of_ble_eq_true rfl)) dX2_resultOf_113 ⟨Nat.zero_le _, Nat.zero_le _⟩) hS (fun H locs hk hS => ?_)
    have hP := hk _ _ _ hP
    refine lv_iconst (v := 5) hx hb dX2_resultOf_116 (by decide) ?_
    refine lv_icmp_ne (tgt := 133) hx hb dX2_resultOf_117 (by decide) (fun c_117 => ?_) (fun c_117 => ?_)
    ·
      refine lv_iconst (v := 0) hx hb dX2_resultOf_133 (by decide) ?_
      refine lv_aload_n hx hb dX2_resultOf_134 rfl (lv_at hl 0 rfl) ?_
      refine lv_iload_n hx hb dX2_resultOf_135 rfl (lv_at hl 1 rfl) ?_
      refine ro_call (va_runV (As := [.int w]) (rest := [.int 0, .int (fX1_f3 w)]) ⟨hx, hb, hml, hown, hts⟩ (kX2_rs1Of l dC dI cI cB h a b c v fw fc fr w ) (cwV 1 hts gX2_resultOf_X2_rs1Of rfl rfl rfl (by decide +kernel) ⟨Nat.le_of_ble_eq_true rfl, Nat.le_of_ble_eq_true rfl⟩) (ro_preV hK hP (ci := 0) (q0 := 0) rfl rfl) rfl rfl hl.1 rfl (lv_room (Nat.le_of_ble_eq_true rfl)) dX2_resultOf_136 ⟨Nat.zero_le _, Nat.zero_le _⟩) hS (fun H locs hk hS => ?_)
      have hP := hk _ _ _ hP
      refine lv_iload_n hx hb dX2_resultOf_139 rfl (lv_at hl 1 rfl) ?_
      refine ro_call (va_runS (As := [.int w]) (rest := [.int (fX2_rs1Of v fw fc fr w), .int 0, .int (fX1_f3 w)]) ⟨hx, hb, hml, hown, hts⟩ (kX1_immediateI l w ) (va_cwS 1 hts gX2_resultOf_X1_immediateI rfl rfl rfl (by decide +kernel) ⟨Nat.le_of_ble_eq_true rfl, Nat.le_of_ble_eq_true rfl⟩) pu_preS rfl rfl hl.1 rfl (lv_room (Nat.le_of_ble_eq_true rfl)) dX2_resultOf_140 ⟨Nat.zero_le _, Nat.zero_le _⟩) hS (fun H locs hk hS => ?_)
      have hP := hk _ _ _ hP
      refine ro_call (va_runS (As := [.int (fX1_f3 w), .int 0, .int (fX2_rs1Of v fw fc fr w), .int (fX1_immediateI w)]) (rest := []) ⟨hx, hb, hml, hown, hts⟩ (kX0_result l (fX1_f3 w) 0 (fX2_rs1Of v fw fc fr w) (fX1_immediateI w) ) (va_cwS 4 hts gX2_resultOf_X0_result rfl rfl rfl (by decide +kernel) ⟨Nat.le_of_ble_eq_true rfl, Nat.le_of_ble_eq_true rfl⟩) pu_preS rfl rfl hl.1 rfl (lv_room (Nat.le_of_ble_eq_true rfl)) dX2_resultOf_143 ⟨Nat.zero_le _, Nat.zero_le _⟩) hS (fun H locs hk hS => ?_)
      have hP := hk _ _ _ hP
      exact W.iret (v := fX0_result (fX1_f3 w) 0 (fX2_rs1Of v fw fc fr w) (fX1_immediateI w)) hx hb hr (fun t ht hW => ro_end (A := ro_N) hS ht (by rw [fX2_resultOf, if_neg c_4_3, if_pos c_4_19, if_neg c_117])) hS.2.2 dX2_resultOf_146
    ·
      refine lv_iload_n hx hb dX2_resultOf_120 rfl (lv_at hl 1 rfl) ?_
      refine ro_call (va_runS (As := [.int w]) (rest := [.int (fX1_f3 w)]) ⟨hx, hb, hml, hown, hts⟩ (kX1_f7 l w ) (va_cwS 1 hts gX2_resultOf_X1_f7 rfl rfl rfl (by decide +kernel) ⟨Nat.le_of_ble_eq_true rfl, Nat.le_of_ble_eq_true rfl⟩) pu_preS rfl rfl hl.1 rfl (lv_room (Nat.le_of_ble_eq_true rfl)) dX2_resultOf_121 ⟨Nat.zero_le _, Nat.zero_le _⟩) hS (fun H locs hk hS => ?_)
      have hP := hk _ _ _ hP
      refine lv_bipush (v := 32) hx hb dX2_resultOf_124 (by decide) ?_
      refine lv_icmp_ne (tgt := 133) hx hb dX2_resultOf_126 (by decide) (fun c_126 => ?_) (fun c_126 => ?_)
      ·
        refine lv_iconst (v := 0) hx hb dX2_resultOf_133 (by decide) ?_
        refine lv_aload_n hx hb dX2_resultOf_134 rfl (lv_at hl 0 rfl) ?_
        refine lv_iload_n hx hb dX2_resultOf_135 rfl (lv_at hl 1 rfl) ?_
        refine ro_call (va_runV (As := [.int w]) (rest := [.int 0, .int (fX1_f3 w)]) ⟨hx, hb, hml, hown, hts⟩ (kX2_rs1Of l dC dI cI cB h a b c v fw fc fr w ) (cwV 1 hts gX2_resultOf_X2_rs1Of rfl rfl rfl (by decide +kernel) ⟨Nat.le_of_ble_eq_true rfl, Nat.le_of_ble_eq_true rfl⟩) (ro_preV hK hP (ci := 0) (q0 := 0) rfl rfl) rfl rfl hl.1 rfl (lv_room (Nat.le_of_ble_eq_true rfl)) dX2_resultOf_136 ⟨Nat.zero_le _, Nat.zero_le _⟩) hS (fun H locs hk hS => ?_)
        have hP := hk _ _ _ hP
        refine lv_iload_n hx hb dX2_resultOf_139 rfl (lv_at hl 1 rfl) ?_
        refine ro_call (va_runS (As := [.int w]) (rest := [.int (fX2_rs1Of v fw fc fr w), .int 0, .int (fX1_f3 w)]) ⟨hx, hb, hml, hown, hts⟩ (kX1_immediateI l w ) (va_cwS 1 hts gX2_resultOf_X1_immediateI rfl rfl rfl (by decide +kernel) ⟨Nat.le_of_ble_eq_true rfl, Nat.le_of_ble_eq_true rfl⟩) pu_preS rfl rfl hl.1 rfl (lv_room (Nat.le_of_ble_eq_true rfl)) dX2_resultOf_140 ⟨Nat.zero_le _, Nat.zero_le _⟩) hS (fun H locs hk hS => ?_)
        have hP := hk _ _ _ hP
        refine ro_call (va_runS (As := [.int (fX1_f3 w), .int 0, .int (fX2_rs1Of v fw fc fr w), .int (fX1_immediateI w)]) (rest := []) ⟨hx, hb, hml, hown, hts⟩ (kX0_result l (fX1_f3 w) 0 (fX2_rs1Of v fw fc fr w) (fX1_immediateI w) ) (va_cwS 4 hts gX2_resultOf_X0_result rfl rfl rfl (by decide +kernel) ⟨Nat.le_of_ble_eq_true rfl, Nat.le_of_ble_eq_true rfl⟩) pu_preS rfl rfl hl.1 rfl (lv_room (Nat.le_of_ble_eq_true rfl)) dX2_resultOf_143 ⟨Nat.zero_le _, Nat.zero_le _⟩) hS (fun H locs hk hS => ?_)
        have hP := hk _ _ _ hP
        exact W.iret (v := fX0_result (fX1_f3 w) 0 (fX2_rs1Of v fw fc fr w) (fX1_immediateI w)) hx hb hr (fun t ht hW => ro_end (A := ro_N) hS ht (by rw [fX2_resultOf, if_neg c_4_3, if_pos c_4_19, if_pos c_117, if_neg c_126])) hS.2.2 dX2_resultOf_146
      ·
        refine lv_iconst (v := 1) hx hb dX2_resultOf_129 (by decide) ?_
        refine lv_goto (tgt := 134) hx hb dX2_resultOf_130 (by decide) ?_
        refine lv_aload_n hx hb dX2_resultOf_134 rfl (lv_at hl 0 rfl) ?_
        refine lv_iload_n hx hb dX2_resultOf_135 rfl (lv_at hl 1 rfl) ?_
        refine ro_call (va_runV (As := [.int w]) (rest := [.int 1, .int (fX1_f3 w)]) ⟨hx, hb, hml, hown, hts⟩ (kX2_rs1Of l dC dI cI cB h a b c v fw fc fr w ) (cwV 1 hts gX2_resultOf_X2_rs1Of rfl rfl rfl (by decide +kernel) ⟨Nat.le_of_ble_eq_true rfl, Nat.le_of_ble_eq_true rfl⟩) (ro_preV hK hP (ci := 0) (q0 := 0) rfl rfl) rfl rfl hl.1 rfl (lv_room (Nat.le_of_ble_eq_true rfl)) dX2_resultOf_136 ⟨Nat.zero_le _, Nat.zero_le _⟩) hS (fun H locs hk hS => ?_)
        have hP := hk _ _ _ hP
        refine lv_iload_n hx hb dX2_resultOf_139 rfl (lv_at hl 1 rfl) ?_
        refine ro_call (va_runS (As := [.int w]) (rest := [.int (fX2_rs1Of v fw fc fr w), .int 1, .int (fX1_f3 w)]) ⟨hx, hb, hml, hown, hts⟩ (kX1_immediateI l w ) (va_cwS 1 hts gX2_resultOf_X1_immediateI rfl rfl rfl (by decide +kernel) ⟨Nat.le_of_ble_eq_true rfl, Nat.le_of_ble_eq_true rfl⟩) pu_preS rfl rfl hl.1 rfl (lv_room (Nat.le_of_ble_eq_true rfl)) dX2_resultOf_140 ⟨Nat.zero_le _, Nat.zero_le _⟩) hS (fun H locs hk hS => ?_)
        have hP := hk _ _ _ hP
        refine ro_call (va_runS (As := [.int (fX1_f3 w), .int 1, .int (fX2_rs1Of v fw fc fr w), .int (fX1_immediateI w)]) (rest := []) ⟨hx, hb, hml, hown, hts⟩ (kX0_result l (fX1_f3 w) 1 (fX2_rs1Of v fw fc fr w) (fX1_immediateI w) ) (va_cwS 4 hts gX2_resultOf_X0_result rfl rfl rfl (by decide +kernel) ⟨Nat.le_of_ble_eq_true rfl, Nat.le_of_ble_eq_true rfl⟩) pu_preS rfl rfl hl.1 rfl (lv_room (Nat.le_of_ble_eq_true rfl)) dX2_resultOf_143 ⟨Nat.zero_le _, Nat.zero_le _⟩) hS (fun H locs hk hS => ?_)
        have hP := hk _ _ _ hP
        exact W.iret (v := fX0_result (fX1_f3 w) 1 (fX2_rs1Of v fw fc fr w) (fX1_immediateI w)) hx hb hr (fun t ht hW => ro_end (A := ro_N) hS ht (by rw [fX2_resultOf, if_neg c_4_3, if_pos c_4_19, if_pos c_117, if_pos c_126])) hS.2.2 dX2_resultOf_146
  by_cases c_4_23 : (fX1_opcode w) = 23
  ·
    refine lv_lookup (off := 73) (tgt := 77) hx hb dX2_resultOf_4 (by decide) (by rw [c_4_23]; decide) (by decide) ?_
    refine lv_aload_n hx hb dX2_resultOf_77 rfl (lv_at hl 0 rfl) ?_
    refine va_get (D := (dC, dI)) (ci := 0) (v := .int (v 9)) (C := RX2) (T := TX2) (N := 16) hx hb hts hin hown hK hP 0 rfl rfl 9 (by decide) hf_63 (fun _ h9 => h9) rfl dX2_resultOf_78 ?_
    refine lv_iload_n hx hb dX2_resultOf_81 rfl (lv_at hl 1 rfl) ?_
    refine ro_call (va_runS (As := [.int w]) (rest := [.int (v 9)]) ⟨hx, hb, hml, hown, hts⟩ (kX1_immediateU l w ) (va_cwS 1 hts gX2_resultOf_X1_immediateU rfl rfl rfl (by decide +kernel) ⟨Nat.le_of_ble_eq_true rfl, Nat.le_of_ble_eq_true rfl⟩) pu_preS rfl rfl hl.1 rfl (lv_room (Nat.le_of_ble_eq_true rfl)) dX2_resultOf_82 ⟨Nat.zero_le _, Nat.zero_le _⟩) hS (fun H locs hk hS => ?_)
    have hP := hk _ _ _ hP
    refine lv_iadd hx hb dX2_resultOf_85 ?_
    exact W.iret (v := (v 9) + (fX1_immediateU w)) hx hb hr (fun t ht hW => ro_end (A := ro_N) hS ht (by rw [fX2_resultOf, if_neg c_4_3, if_neg c_4_19, if_pos c_4_23])) hS.2.2 dX2_resultOf_86
  by_cases c_4_51 : (fX1_opcode w) = 51
  ·
    refine lv_lookup (off := 143) (tgt := 147) hx hb dX2_resultOf_4 (by decide) (by rw [c_4_51]; decide) (by decide) ?_
    refine lv_iload_n hx hb dX2_resultOf_147 rfl (lv_at hl 1 rfl) ?_
    refine ro_call (va_runS (As := [.int w]) (rest := []) ⟨hx, hb, hml, hown, hts⟩ (kX1_f3 l w ) (va_cwS 1 hts gX2_resultOf_X1_f3 rfl rfl rfl (by decide +kernel) ⟨Nat.le_of_ble_eq_true rfl, Nat.le_of_ble_eq_true rfl⟩) pu_preS rfl rfl hl.1 rfl (lv_room (Nat.le_of_ble_eq_true rfl)) dX2_resultOf_148 ⟨Nat.zero_le _, Nat.zero_le _⟩) hS (fun H locs hk hS => ?_)
    have hP := hk _ _ _ hP
    refine lv_iload_n hx hb dX2_resultOf_151 rfl (lv_at hl 1 rfl) ?_
    refine ro_call (va_runS (As := [.int w]) (rest := [.int (fX1_f3 w)]) ⟨hx, hb, hml, hown, hts⟩ (kX1_f7 l w ) (va_cwS 1 hts gX2_resultOf_X1_f7 rfl rfl rfl (by decide +kernel) ⟨Nat.le_of_ble_eq_true rfl, Nat.le_of_ble_eq_true rfl⟩) pu_preS rfl rfl hl.1 rfl (lv_room (Nat.le_of_ble_eq_true rfl)) dX2_resultOf_152 ⟨Nat.zero_le _, Nat.zero_le _⟩) hS (fun H locs hk hS => ?_)
    have hP := hk _ _ _ hP
    refine lv_bipush (v := 32) hx hb dX2_resultOf_155 (by decide) ?_
    refine lv_icmp_ne (tgt := 164) hx hb dX2_resultOf_157 (by decide) (fun c_157 => ?_) (fun c_157 => ?_)
    ·
      refine lv_iconst (v := 0) hx hb dX2_resultOf_164 (by decide) ?_
      refine lv_aload_n hx hb dX2_resultOf_165 rfl (lv_at hl 0 rfl) ?_
      refine lv_iload_n hx hb dX2_resultOf_166 rfl (lv_at hl 1 rfl) ?_
      refine ro_call (va_runV (As := [.int w]) (rest := [.int 0, .int (fX1_f3 w)]) ⟨hx, hb, hml, hown, hts⟩ (kX2_rs1Of l dC dI cI cB h a b c v fw fc fr w ) (cwV 1 hts gX2_resultOf_X2_rs1Of rfl rfl rfl (by decide +kernel) ⟨Nat.le_of_ble_eq_true rfl, Nat.le_of_ble_eq_true rfl⟩) (ro_preV hK hP (ci := 0) (q0 := 0) rfl rfl) rfl rfl hl.1 rfl (lv_room (Nat.le_of_ble_eq_true rfl)) dX2_resultOf_167 ⟨Nat.zero_le _, Nat.zero_le _⟩) hS (fun H locs hk hS => ?_)
      have hP := hk _ _ _ hP
      refine lv_aload_n hx hb dX2_resultOf_170 rfl (lv_at hl 0 rfl) ?_
      refine lv_iload_n hx hb dX2_resultOf_171 rfl (lv_at hl 1 rfl) ?_
      refine ro_call (va_runV (As := [.int w]) (rest := [.int (fX2_rs1Of v fw fc fr w), .int 0, .int (fX1_f3 w)]) ⟨hx, hb, hml, hown, hts⟩ (kX2_rs2Of l dC dI cI cB h a b c v fw fc fr w ) (cwV 1 hts gX2_resultOf_X2_rs2Of rfl rfl rfl (by decide +kernel) ⟨Nat.le_of_ble_eq_true rfl, Nat.le_of_ble_eq_true rfl⟩) (ro_preV hK hP (ci := 0) (q0 := 0) rfl rfl) rfl rfl hl.1 rfl (lv_room (Nat.le_of_ble_eq_true rfl)) dX2_resultOf_172 ⟨Nat.zero_le _, Nat.zero_le _⟩) hS (fun H locs hk hS => ?_)
      have hP := hk _ _ _ hP
      refine ro_call (va_runS (As := [.int (fX1_f3 w), .int 0, .int (fX2_rs1Of v fw fc fr w), .int (fX2_rs2Of v fw fc fr w)]) (rest := []) ⟨hx, hb, hml, hown, hts⟩ (kX0_result l (fX1_f3 w) 0 (fX2_rs1Of v fw fc fr w) (fX2_rs2Of v fw fc fr w) ) (va_cwS 4 hts gX2_resultOf_X0_result rfl rfl rfl (by decide +kernel) ⟨Nat.le_of_ble_eq_true rfl, Nat.le_of_ble_eq_true rfl⟩) pu_preS rfl rfl hl.1 rfl (lv_room (Nat.le_of_ble_eq_true rfl)) dX2_resultOf_175 ⟨Nat.zero_le _, Nat.zero_le _⟩) hS (fun H locs hk hS => ?_)
      have hP := hk _ _ _ hP
      exact W.iret (v := fX0_result (fX1_f3 w) 0 (fX2_rs1Of v fw fc fr w) (fX2_rs2Of v fw fc fr w)) hx hb hr (fun t ht hW => ro_end (A := ro_N) hS ht (by rw [fX2_resultOf, if_neg c_4_3, if_neg c_4_19, if_neg c_4_23, if_pos c_4_51, if_neg c_157])) hS.2.2 dX2_resultOf_178
    ·
      refine lv_iconst (v := 1) hx hb dX2_resultOf_160 (by decide) ?_
      refine lv_goto (tgt := 165) hx hb dX2_resultOf_161 (by decide) ?_
      refine lv_aload_n hx hb dX2_resultOf_165 rfl (lv_at hl 0 rfl) ?_
      refine lv_iload_n hx hb dX2_resultOf_166 rfl (lv_at hl 1 rfl) ?_
      refine ro_call (va_runV (As := [.int w]) (rest := [.int 1, .int (fX1_f3 w)]) ⟨hx, hb, hml, hown, hts⟩ (kX2_rs1Of l dC dI cI cB h a b c v fw fc fr w ) (cwV 1 hts gX2_resultOf_X2_rs1Of rfl rfl rfl (by decide +kernel) ⟨Nat.le_of_ble_eq_true rfl, Nat.le_of_ble_eq_true rfl⟩) (ro_preV hK hP (ci := 0) (q0 := 0) rfl rfl) rfl rfl hl.1 rfl (lv_room (Nat.le_of_ble_eq_true rfl)) dX2_resultOf_167 ⟨Nat.zero_le _, Nat.zero_le _⟩) hS (fun H locs hk hS => ?_)
      have hP := hk _ _ _ hP
      refine lv_aload_n hx hb dX2_resultOf_170 rfl (lv_at hl 0 rfl) ?_
      refine lv_iload_n hx hb dX2_resultOf_171 rfl (lv_at hl 1 rfl) ?_
      refine ro_call (va_runV (As := [.int w]) (rest := [.int (fX2_rs1Of v fw fc fr w), .int 1, .int (fX1_f3 w)]) ⟨hx, hb, hml, hown, hts⟩ (kX2_rs2Of l dC dI cI cB h a b c v fw fc fr w ) (cwV 1 hts gX2_resultOf_X2_rs2Of rfl rfl rfl (by decide +kernel) ⟨Nat.le_of_ble_eq_true rfl, Nat.le_of_ble_eq_true rfl⟩) (ro_preV hK hP (ci := 0) (q0 := 0) rfl rfl) rfl rfl hl.1 rfl (lv_room (Nat.le_of_ble_eq_true rfl)) dX2_resultOf_172 ⟨Nat.zero_le _, Nat.zero_le _⟩) hS (fun H locs hk hS => ?_)
      have hP := hk _ _ _ hP
      refine ro_call (va_runS (As := [.int (fX1_f3 w), .int 1, .int (fX2_rs1Of v fw fc fr w), .int (fX2_rs2Of v fw fc fr w)]) (rest := []) ⟨hx, hb, hml, hown, hts⟩ (kX0_result l (fX1_f3 w) 1 (fX2_rs1Of v fw fc fr w) (fX2_rs2Of v fw fc fr w) ) (va_cwS 4 hts gX2_resultOf_X0_result rfl rfl rfl (by decide +kernel) ⟨Nat.le_of_ble_eq_true rfl, Nat.le_of_ble_eq_true rfl⟩) pu_preS rfl rfl hl.1 rfl (lv_room (Nat.le_of_ble_eq_true rfl)) dX2_resultOf_175 ⟨Nat.zero_le _, Nat.zero_le _⟩) hS (fun H locs hk hS => ?_)
      have hP := hk _ _ _ hP
      exact W.iret (v := fX0_result (fX1_f3 w) 1 (fX2_rs1Of v fw fc fr w) (fX2_rs2Of v fw fc fr w)) hx hb hr (fun t ht hW => ro_end (A := ro_N) hS ht (by rw [fX2_resultOf, if_neg c_4_3, if_neg c_4_19, if_neg c_4_23, if_pos c_4_51, if_pos c_157])) hS.2.2 dX2_resultOf_178
  by_cases c_4_55 : (fX1_opcode w) = 55
  ·
    refine lv_lookup (off := 68) (tgt := 72) hx hb dX2_resultOf_4 (by decide) (by rw [c_4_55]; decide) (by decide) ?_
    refine lv_iload_n hx hb dX2_resultOf_72 rfl (lv_at hl 1 rfl) ?_
    refine ro_call (va_runS (As := [.int w]) (rest := []) ⟨hx, hb, hml, hown, hts⟩ (kX1_immediateU l w ) (va_cwS 1 hts gX2_resultOf_X1_immediateU rfl rfl rfl (by decide +kernel) ⟨Nat.le_of_ble_eq_true rfl, Nat.le_of_ble_eq_true rfl⟩) pu_preS rfl rfl hl.1 rfl (lv_room (Nat.le_of_ble_eq_true rfl)) dX2_resultOf_73 ⟨Nat.zero_le _, Nat.zero_le _⟩) hS (fun H locs hk hS => ?_)
    have hP := hk _ _ _ hP
    exact W.iret (v := fX1_immediateU w) hx hb hr (fun t ht hW => ro_end (A := ro_N) hS ht (by rw [fX2_resultOf, if_neg c_4_3, if_neg c_4_19, if_neg c_4_23, if_neg c_4_51, if_pos c_4_55])) hS.2.2 dX2_resultOf_76
  by_cases c_4_103 : (fX1_opcode w) = 103
  ·
    refine lv_lookup (off := 83) (tgt := 87) hx hb dX2_resultOf_4 (by decide) (by rw [c_4_103]; decide) (by decide) ?_
    refine lv_aload_n hx hb dX2_resultOf_87 rfl (lv_at hl 0 rfl) ?_
    refine va_get (D := (dC, dI)) (ci := 0) (v := .int (v 9)) (C := RX2) (T := TX2) (N := 16) hx hb hts hin hown hK hP 0 rfl rfl 9 (by decide) hf_63 (fun _ h9 => h9) rfl dX2_resultOf_88 ?_
    refine lv_iconst (v := 4) hx hb dX2_resultOf_91 (by decide) ?_
    refine lv_iadd hx hb dX2_resultOf_92 ?_
    exact W.iret (v := (v 9) + 4) hx hb hr (fun t ht hW => ro_end (A := ro_N) hS ht (by rw [fX2_resultOf, if_neg c_4_3, if_neg c_4_19, if_neg c_4_23, if_neg c_4_51, if_neg c_4_55, if_pos c_4_103])) hS.2.2 dX2_resultOf_93
  by_cases c_4_111 : (fX1_opcode w) = 111
  ·
    refine lv_lookup (off := 83) (tgt := 87) hx hb dX2_resultOf_4 (by decide) (by rw [c_4_111]; decide) (by decide) ?_
    refine lv_aload_n hx hb dX2_resultOf_87 rfl (lv_at hl 0 rfl) ?_
    refine va_get (D := (dC, dI)) (ci := 0) (v := .int (v 9)) (C := RX2) (T := TX2) (N := 16) hx hb hts hin hown hK hP 0 rfl rfl 9 (by decide) hf_63 (fun _ h9 => h9) rfl dX2_resultOf_88 ?_
    refine lv_iconst (v := 4) hx hb dX2_resultOf_91 (by decide) ?_
    refine lv_iadd hx hb dX2_resultOf_92 ?_
    exact W.iret (v := (v 9) + 4) hx hb hr (fun t ht hW => ro_end (A := ro_N) hS ht (by rw [fX2_resultOf, if_neg c_4_3, if_neg c_4_19, if_neg c_4_23, if_neg c_4_51, if_neg c_4_55, if_neg c_4_103, if_pos c_4_111])) hS.2.2 dX2_resultOf_93
  refine lv_lookup (off := 175) (tgt := 179) hx hb dX2_resultOf_4 (by decide) (show Op.lookupswitch.offset [(3, 90), (19, 104), (23, 73), (51, 143), (55, 68), (103, 83), (111, 83)] 175 _ = 175 from (lv_osw c_4_3 (k := 3) (by decide)).trans ((lv_osw c_4_19 (k := 19) (by decide)).trans ((lv_osw c_4_23 (k := 23) (by decide)).trans ((lv_osw c_4_51 (k := 51) (by decide)).trans ((lv_osw c_4_55 (k := 55) (by decide)).trans ((lv_osw c_4_103 (k := 103) (by decide)).trans ((lv_osw c_4_111 (k := 111) (by decide)).trans (rfl)))))))) (by decide) ?_
  refine lv_iconst (v := 0) hx hb dX2_resultOf_179 (by decide) ?_
  exact W.iret (v := 0) hx hb hr (fun t ht hW => ro_end (A := ro_N) hS ht (by rw [fX2_resultOf, if_neg c_4_3, if_neg c_4_19, if_neg c_4_23, if_neg c_4_51, if_neg c_4_55, if_neg c_4_103, if_neg c_4_111])) hS.2.2 dX2_resultOf_180
def fX2_storeAt (v fw fc fr : Nat → Int32) (x f y : Int32) : (Nat → Int32) := (if f = 0 then (upd fc (fX2_cellOf x).toNatClampNeg (((fc (fX2_cellOf x).toNatClampNeg) &&& ((255 <<< ((fX2_shiftOf x) &&& 31)) ^^^ (-1))) ||| ((y &&& 255) <<< ((fX2_shiftOf x) &&& 31)))) else (if f = 1 then (upd fc (fX2_cellOf x).toNatClampNeg (((fc (fX2_cellOf x).toNatClampNeg) &&& ((65535 <<< ((fX2_shiftOf x) &&& 31)) ^^^ (-1))) ||| ((y &&& 65535) <<< ((fX2_shiftOf x) &&& 31)))) else (upd fc (fX2_cellOf x).toNatClampNeg (((fc (fX2_cellOf x).toNatClampNeg) &&& (((-1) <<< ((fX2_shiftOf x) &&& 31)) ^^^ (-1))) ||| ((y &&& (-1)) <<< ((fX2_shiftOf x) &&& 31))))))
set_option maxHeartbeats 4000000 in
set_option maxRecDepth 100000 in
theorem kX2_storeAt (l : Launch) (dC : Nat → ClassId) (dI : Nat → Nat → Nat) (cI cB : ClassId) (h a b c : Nat) (sz : Nat) (v fw fc fr : Nat → Int32) (x f y : Int32) : Met l yX2_storeAt wsX2_storeAt ({ frames := 1, cells := 0, slots := 0, locals := 20 }) (wr_Pc [.ref h, .int x, .int f, .int y] (dC, dI) vwCl (tyIB cI cB) (pwW cI h a b c v fw fc fr) sz) (wr_Qv (pwW cI h a b c v fw (fX2_storeAt v fw fc fr x f y) fr) (dC, dI) vwCl (pwW cI h a b c v fw fc fr) sz) 0 0 (va_A (pwW cI h a b c v fw fc fr) sz) := by
  refine Met.ofW (cc := cX2_storeAt) (maxL := 7) (ret := none) (by decide) rfl ?_
  intro p e s m args below meth c9 s₁ B hml hv
  obtain ⟨rfl, hsz, hP, hK, hD0⟩ := hv
  have hx := B.exec
  have hb := B.bytes
  have hr := B.returns
  have hts := atoms_spec (ws := wsX2_storeAt) B.pre
  have hown : s.vm.findClass RX2 = some m.cls := findClass_of_methodNamed B.named
  have hlocks := B.notSynchronized
  subst hsz
  have hD := hD0.self (sz := s.heap.size)
  generalize hAe : va_A (pwW cI h a b c v fw fc fr) s.heap.size = A at hD ⊢
  have hA : ∀ q : Nat, s.heap.size ≤ q → A q := fun q h => by rw [← hAe]; exact Or.inr h
  have hS : va_S A s.heap s.heap [] := va_S.rf
  have hin : ∀ w ∈ wsX20, w ∈ wsX2_storeAt := by decide +kernel
  have hf_13 := hts (.fieldLink RX2 13 "PipeWorks" "cells" "[I") (by decide +kernel)
  have hl := lv_entry ([.ref h, .int x, .int f, .int y]) (n := 7) (Nat.le_of_ble_eq_true rfl)
  rw [lg_entry_eq]
  generalize (lg_sl ([.ref h, .int x, .int f, .int y]) ++ List.replicate (7 - (lg_sl ([.ref h, .int x, .int f, .int y])).length) Slot.unset).toArray = ls at hl ⊢
  have hl : lv_has ls 7 [(0, .ref h), (1, .int x), (2, .int f), (3, .int y)] := hl
  refine lv_iload_n hx hb dX2_storeAt_0 rfl (lv_at hl 2 rfl) ?_
  refine lv_if_ne (tgt := 10) hx hb dX2_storeAt_1 (by decide) (fun c_1 => ?_) (fun c_1 => ?_)
  ·
    refine lv_iload_n hx hb dX2_storeAt_10 rfl (lv_at hl 2 rfl) ?_
    refine lv_iconst (v := 1) hx hb dX2_storeAt_11 (by decide) ?_
    refine lv_icmp_ne (tgt := 20) hx hb dX2_storeAt_12 (by decide) (fun c_12 => ?_) (fun c_12 => ?_)
    ·
      refine lv_iconst (v := (-1)) hx hb dX2_storeAt_20 (by decide) ?_
      refine lv_istore (lv' := [(4, .int (-1)), (0, .ref h), (1, .int x), (2, .int f), (3, .int y)]) hx hb dX2_storeAt_21 hl (by decide) rfl (fun ls hl => ?_)
      refine lv_iload_n hx hb dX2_storeAt_23 rfl (lv_at hl 2 rfl) ?_
      refine ro_call (va_runS (As := [.int x]) (rest := []) ⟨hx, hb, hml, hown, hts⟩ (kX2_cellOf l x ) (va_cwS 1 hts gX2_storeAt_X2_cellOf rfl rfl rfl (by decide +kernel) ⟨Nat.le_of_ble_eq_true rfl, Nat.le_of_ble_eq_true rfl⟩) pu_preS rfl rfl hl.1 rfl (lv_room (Nat.le_of_ble_eq_true rfl)) dX2_storeAt_24 ⟨Nat.zero_le _, Nat.zero_le _⟩) hS (fun H locs hk hS => ?_)
      have hP := hk _ _ _ hP
      refine lv_istore (lv' := [(5, .int (fX2_cellOf x)), (4, .int (-1)), (0, .ref h), (1, .int x), (2, .int f), (3, .int y)]) hx hb dX2_storeAt_27 hl (by decide) rfl (fun ls hl => ?_)
      refine lv_iload_n hx hb dX2_storeAt_29 rfl (lv_at hl 3 rfl) ?_
      refine ro_call (va_runS (As := [.int x]) (rest := []) ⟨hx, hb, hml, hown, hts⟩ (kX2_shiftOf l x ) (va_cwS 1 hts gX2_storeAt_X2_shiftOf rfl rfl rfl (by decide +kernel) ⟨Nat.le_of_ble_eq_true rfl, Nat.le_of_ble_eq_true rfl⟩) pu_preS rfl rfl hl.1 rfl (lv_room (Nat.le_of_ble_eq_true rfl)) dX2_storeAt_30 ⟨Nat.zero_le _, Nat.zero_le _⟩) hS (fun H locs hk hS => ?_)
      have hP := hk _ _ _ hP
      refine lv_istore (lv' := [(6, .int (fX2_shiftOf x)), (5, .int (fX2_cellOf x)), (4, .int (-1)), (0, .ref h), (1, .int x), (2, .int f), (3, .int y)]) hx hb dX2_storeAt_33 hl (by decide) rfl (fun ls hl => ?_)
      refine lv_aload_n hx hb dX2_storeAt_35 rfl (lv_at hl 3 rfl) ?_
      refine va_get (D := (dC, dI)) (ci := 0) (v := .ref b) (C := RX2) (T := TX2) (N := 16) hx hb hts hin hown hK hP 0 rfl rfl 1 (by decide) hf_13 (fun _ h9 => h9) rfl dX2_storeAt_36 ?_
      refine lv_iload hx hb dX2_storeAt_39 (lv_at hl 1 rfl) ?_
      refine lv_aload_n hx hb dX2_storeAt_41 rfl (lv_at hl 3 rfl) ?_
      refine va_get (D := (dC, dI)) (ci := 0) (v := .ref b) (C := RX2) (T := TX2) (N := 16) hx hb hts hin hown hK hP 0 rfl rfl 1 (by decide) hf_13 (fun _ h9 => h9) rfl dX2_storeAt_42 ?_
      refine lv_iload hx hb dX2_storeAt_45 (lv_at hl 1 rfl) ?_
      refine va_iald hx hb hK hP 2 0 rfl rfl (ix_cell x) dX2_storeAt_47 ?_
      refine lv_iload hx hb dX2_storeAt_48 (lv_at hl 2 rfl) ?_
      refine lv_iload hx hb dX2_storeAt_50 (lv_at hl 0 rfl) ?_
      refine lv_ishl hx hb dX2_storeAt_52 ?_
      refine lv_iconst (v := (-1)) hx hb dX2_storeAt_53 (by decide) ?_
      refine lv_ixor hx hb dX2_storeAt_54 ?_
      refine lv_iand hx hb dX2_storeAt_55 ?_
      refine lv_iload_n hx hb dX2_storeAt_56 rfl (lv_at hl 6 rfl) ?_
      refine lv_iload hx hb dX2_storeAt_57 (lv_at hl 2 rfl) ?_
      refine lv_iand hx hb dX2_storeAt_59 ?_
      refine lv_iload hx hb dX2_storeAt_60 (lv_at hl 0 rfl) ?_
      refine lv_ishl hx hb dX2_storeAt_62 ?_
      refine lv_ior hx hb dX2_storeAt_63 ?_
      refine va_iast hx hb hK hP hD hS 2 0 rfl rfl (ix_cell x) dX2_storeAt_64 (fun H locs hP hD hS => ?_)
      have hP : va_P (dC, dI) vwCl (pwW cI h a b c v fw (upd fc (fX2_cellOf x).toNatClampNeg (((fc (fX2_cellOf x).toNatClampNeg) &&& (((-1) <<< ((fX2_shiftOf x) &&& 31)) ^^^ (-1))) ||| ((y &&& (-1)) <<< ((fX2_shiftOf x) &&& 31)))) fr) H := hP
      have hD : va_D A (pwW cI h a b c v fw (upd fc (fX2_cellOf x).toNatClampNeg (((fc (fX2_cellOf x).toNatClampNeg) &&& (((-1) <<< ((fX2_shiftOf x) &&& 31)) ^^^ (-1))) ||| ((y &&& (-1)) <<< ((fX2_shiftOf x) &&& 31)))) fr) := hD
      have e9 : fX2_storeAt v fw fc fr x f y = (upd fc (fX2_cellOf x).toNatClampNeg (((fc (fX2_cellOf x).toNatClampNeg) &&& (((-1) <<< ((fX2_shiftOf x) &&& 31)) ^^^ (-1))) ||| ((y &&& (-1)) <<< ((fX2_shiftOf x) &&& 31)))) := by rw [fX2_storeAt, if_neg c_1, if_neg c_12]
      exact W.vret hx hb hr (fun t ht hW => wr_endv (hAe ▸ hS) ht (by rw [e9]; exact hP) (by rw [e9, hAe]; exact hD)) hS.2.2 dX2_storeAt_65
    ·
      refine lv_ldc (v := 65535) hx hb hown (hts (.constant RX2 199 (65535)) (by decide +kernel)) dX2_storeAt_15 ?_
      refine lv_goto (tgt := 21) hx hb dX2_storeAt_17 (by decide) ?_
      refine lv_istore (lv' := [(4, .int 65535), (0, .ref h), (1, .int x), (2, .int f), (3, .int y)]) hx hb dX2_storeAt_21 hl (by decide) rfl (fun ls hl => ?_)
      refine lv_iload_n hx hb dX2_storeAt_23 rfl (lv_at hl 2 rfl) ?_
      refine ro_call (va_runS (As := [.int x]) (rest := []) ⟨hx, hb, hml, hown, hts⟩ (kX2_cellOf l x ) (va_cwS 1 hts gX2_storeAt_X2_cellOf rfl rfl rfl (by decide +kernel) ⟨Nat.le_of_ble_eq_true rfl, Nat.le_of_ble_eq_true rfl⟩) pu_preS rfl rfl hl.1 rfl (lv_room (Nat.le_of_ble_eq_true rfl)) dX2_storeAt_24 ⟨Nat.zero_le _, Nat.zero_le _⟩) hS (fun H locs hk hS => ?_)
      have hP := hk _ _ _ hP
      refine lv_istore (lv' := [(5, .int (fX2_cellOf x)), (4, .int 65535), (0, .ref h), (1, .int x), (2, .int f), (3, .int y)]) hx hb dX2_storeAt_27 hl (by decide) rfl (fun ls hl => ?_)
      refine lv_iload_n hx hb dX2_storeAt_29 rfl (lv_at hl 3 rfl) ?_
      refine ro_call (va_runS (As := [.int x]) (rest := []) ⟨hx, hb, hml, hown, hts⟩ (kX2_shiftOf l x ) (va_cwS 1 hts gX2_storeAt_X2_shiftOf rfl rfl rfl (by decide +kernel) ⟨Nat.le_of_ble_eq_true rfl, Nat.le_of_ble_eq_true rfl⟩) pu_preS rfl rfl hl.1 rfl (lv_room (Nat.le_of_ble_eq_true rfl)) dX2_storeAt_30 ⟨Nat.zero_le _, Nat.zero_le _⟩) hS (fun H locs hk hS => ?_)
      have hP := hk _ _ _ hP
      refine lv_istore (lv' := [(6, .int (fX2_shiftOf x)), (5, .int (fX2_cellOf x)), (4, .int 65535), (0, .ref h), (1, .int x), (2, .int f), (3, .int y)]) hx hb dX2_storeAt_33 hl (by decide) rfl (fun ls hl => ?_)
      refine lv_aload_n hx hb dX2_storeAt_35 rfl (lv_at hl 3 rfl) ?_
      refine va_get (D := (dC, dI)) (ci := 0) (v := .ref b) (C := RX2) (T := TX2) (N := 16) hx hb hts hin hown hK hP 0 rfl rfl 1 (by decide) hf_13 (fun _ h9 => h9) rfl dX2_storeAt_36 ?_
      refine lv_iload hx hb dX2_storeAt_39 (lv_at hl 1 rfl) ?_
      refine lv_aload_n hx hb dX2_storeAt_41 rfl (lv_at hl 3 rfl) ?_
      refine va_get (D := (dC, dI)) (ci := 0) (v := .ref b) (C := RX2) (T := TX2) (N := 16) hx hb hts hin hown hK hP 0 rfl rfl 1 (by decide) hf_13 (fun _ h9 => h9) rfl dX2_storeAt_42 ?_
      refine lv_iload hx hb dX2_storeAt_45 (lv_at hl 1 rfl) ?_
      refine va_iald hx hb hK hP 2 0 rfl rfl (ix_cell x) dX2_storeAt_47 ?_
      refine lv_iload hx hb dX2_storeAt_48 (lv_at hl 2 rfl) ?_
      refine lv_iload hx hb dX2_storeAt_50 (lv_at hl 0 rfl) ?_
      refine lv_ishl hx hb dX2_storeAt_52 ?_
      refine lv_iconst (v := (-1)) hx hb dX2_storeAt_53 (by decide) ?_
      refine lv_ixor hx hb dX2_storeAt_54 ?_
      refine lv_iand hx hb dX2_storeAt_55 ?_
      refine lv_iload_n hx hb dX2_storeAt_56 rfl (lv_at hl 6 rfl) ?_
      refine lv_iload hx hb dX2_storeAt_57 (lv_at hl 2 rfl) ?_
      refine lv_iand hx hb dX2_storeAt_59 ?_
      refine lv_iload hx hb dX2_storeAt_60 (lv_at hl 0 rfl) ?_
      refine lv_ishl hx hb dX2_storeAt_62 ?_
      refine lv_ior hx hb dX2_storeAt_63 ?_
      refine va_iast hx hb hK hP hD hS 2 0 rfl rfl (ix_cell x) dX2_storeAt_64 (fun H locs hP hD hS => ?_)
      have hP : va_P (dC, dI) vwCl (pwW cI h a b c v fw (upd fc (fX2_cellOf x).toNatClampNeg (((fc (fX2_cellOf x).toNatClampNeg) &&& ((65535 <<< ((fX2_shiftOf x) &&& 31)) ^^^ (-1))) ||| ((y &&& 65535) <<< ((fX2_shiftOf x) &&& 31)))) fr) H := hP
      have hD : va_D A (pwW cI h a b c v fw (upd fc (fX2_cellOf x).toNatClampNeg (((fc (fX2_cellOf x).toNatClampNeg) &&& ((65535 <<< ((fX2_shiftOf x) &&& 31)) ^^^ (-1))) ||| ((y &&& 65535) <<< ((fX2_shiftOf x) &&& 31)))) fr) := hD
      have e9 : fX2_storeAt v fw fc fr x f y = (upd fc (fX2_cellOf x).toNatClampNeg (((fc (fX2_cellOf x).toNatClampNeg) &&& ((65535 <<< ((fX2_shiftOf x) &&& 31)) ^^^ (-1))) ||| ((y &&& 65535) <<< ((fX2_shiftOf x) &&& 31)))) := by rw [fX2_storeAt, if_neg c_1, if_pos c_12]
      exact W.vret hx hb hr (fun t ht hW => wr_endv (hAe ▸ hS) ht (by rw [e9]; exact hP) (by rw [e9, hAe]; exact hD)) hS.2.2 dX2_storeAt_65
  ·
    refine lv_sipush (v := 255) hx hb dX2_storeAt_4 (by decide) ?_
    refine lv_goto (tgt := 21) hx hb dX2_storeAt_7 (by decide) ?_
    refine lv_istore (lv' := [(4, .int 255), (0, .ref h), (1, .int x), (2, .int f), (3, .int y)]) hx hb dX2_storeAt_21 hl (by decide) rfl (fun ls hl => ?_)
    refine lv_iload_n hx hb dX2_storeAt_23 rfl (lv_at hl 2 rfl) ?_
    refine ro_call (va_runS (As := [.int x]) (rest := []) ⟨hx, hb, hml, hown, hts⟩ (kX2_cellOf l x ) (va_cwS 1 hts gX2_storeAt_X2_cellOf rfl rfl rfl (by decide +kernel) ⟨Nat.le_of_ble_eq_true rfl, Nat.le_of_ble_eq_true rfl⟩) pu_preS rfl rfl hl.1 rfl (lv_room (Nat.le_of_ble_eq_true rfl)) dX2_storeAt_24 ⟨Nat.zero_le _, Nat.zero_le _⟩) hS (fun H locs hk hS => ?_)
    have hP := hk _ _ _ hP
    refine lv_istore (lv' := [(5, .int (fX2_cellOf x)), (4, .int 255), (0, .ref h), (1, .int x), (2, .int f), (3, .int y)]) hx hb dX2_storeAt_27 hl (by decide) rfl (fun ls hl => ?_)
    refine lv_iload_n hx hb dX2_storeAt_29 rfl (lv_at hl 3 rfl) ?_
    refine ro_call (va_runS (As := [.int x]) (rest := []) ⟨hx, hb, hml, hown, hts⟩ (kX2_shiftOf l x ) (va_cwS 1 hts gX2_storeAt_X2_shiftOf rfl rfl rfl (by decide +kernel) ⟨Nat.le_of_ble_eq_true rfl, Nat.le_of_ble_eq_true rfl⟩) pu_preS rfl rfl hl.1 rfl (lv_room (Nat.le_of_ble_eq_true rfl)) dX2_storeAt_30 ⟨Nat.zero_le _, Nat.zero_le _⟩) hS (fun H locs hk hS => ?_)
    have hP := hk _ _ _ hP
    refine lv_istore (lv' := [(6, .int (fX2_shiftOf x)), (5, .int (fX2_cellOf x)), (4, .int 255), (0, .ref h), (1, .int x), (2, .int f), (3, .int y)]) hx hb dX2_storeAt_33 hl (by decide) rfl (fun ls hl => ?_)
    refine lv_aload_n hx hb dX2_storeAt_35 rfl (lv_at hl 3 rfl) ?_
    refine va_get (D := (dC, dI)) (ci := 0) (v := .ref b) (C := RX2) (T := TX2) (N := 16) hx hb hts hin hown hK hP 0 rfl rfl 1 (by decide) hf_13 (fun _ h9 => h9) rfl dX2_storeAt_36 ?_
    refine lv_iload hx hb dX2_storeAt_39 (lv_at hl 1 rfl) ?_
    refine lv_aload_n hx hb dX2_storeAt_41 rfl (lv_at hl 3 rfl) ?_
    refine va_get (D := (dC, dI)) (ci := 0) (v := .ref b) (C := RX2) (T := TX2) (N := 16) hx hb hts hin hown hK hP 0 rfl rfl 1 (by decide) hf_13 (fun _ h9 => h9) rfl dX2_storeAt_42 ?_
    refine lv_iload hx hb dX2_storeAt_45 (lv_at hl 1 rfl) ?_
    refine va_iald hx hb hK hP 2 0 rfl rfl (ix_cell x) dX2_storeAt_47 ?_
    refine lv_iload hx hb dX2_storeAt_48 (lv_at hl 2 rfl) ?_
    refine lv_iload hx hb dX2_storeAt_50 (lv_at hl 0 rfl) ?_
    refine lv_ishl hx hb dX2_storeAt_52 ?_
    refine lv_iconst (v := (-1)) hx hb dX2_storeAt_53 (by decide) ?_
    refine lv_ixor hx hb dX2_storeAt_54 ?_
    refine lv_iand hx hb dX2_storeAt_55 ?_
    refine lv_iload_n hx hb dX2_storeAt_56 rfl (lv_at hl 6 rfl) ?_
    refine lv_iload hx hb dX2_storeAt_57 (lv_at hl 2 rfl) ?_
    refine lv_iand hx hb dX2_storeAt_59 ?_
    refine lv_iload hx hb dX2_storeAt_60 (lv_at hl 0 rfl) ?_
    refine lv_ishl hx hb dX2_storeAt_62 ?_
    refine lv_ior hx hb dX2_storeAt_63 ?_
    refine va_iast hx hb hK hP hD hS 2 0 rfl rfl (ix_cell x) dX2_storeAt_64 (fun H locs hP hD hS => ?_)
    have hP : va_P (dC, dI) vwCl (pwW cI h a b c v fw (upd fc (fX2_cellOf x).toNatClampNeg (((fc (fX2_cellOf x).toNatClampNeg) &&& ((255 <<< ((fX2_shiftOf x) &&& 31)) ^^^ (-1))) ||| ((y &&& 255) <<< ((fX2_shiftOf x) &&& 31)))) fr) H := hP
    have hD : va_D A (pwW cI h a b c v fw (upd fc (fX2_cellOf x).toNatClampNeg (((fc (fX2_cellOf x).toNatClampNeg) &&& ((255 <<< ((fX2_shiftOf x) &&& 31)) ^^^ (-1))) ||| ((y &&& 255) <<< ((fX2_shiftOf x) &&& 31)))) fr) := hD
    have e9 : fX2_storeAt v fw fc fr x f y = (upd fc (fX2_cellOf x).toNatClampNeg (((fc (fX2_cellOf x).toNatClampNeg) &&& ((255 <<< ((fX2_shiftOf x) &&& 31)) ^^^ (-1))) ||| ((y &&& 255) <<< ((fX2_shiftOf x) &&& 31)))) := by rw [fX2_storeAt, if_pos c_1]
    exact W.vret hx hb hr (fun t ht hW => wr_endv (hAe ▸ hS) ht (by rw [e9]; exact hP) (by rw [e9, hAe]; exact hD)) hS.2.2 dX2_storeAt_65
def fX2_goOn (v fw fc fr : Nat → Int32) (w : Int32) : (Nat → Int32) := (if (fX2_jumps v fw fc fr w) = 0 then (if (fX1_waitsFor (fX2_wordAt (upd v 9 ((v 9) + 4)) fw fc fr ((v 9) + 4)) w) = 0 then (upd (upd v 9 ((v 9) + 4)) 10 ((v 10) + 1)) else (upd (upd v 9 ((v 9) + 4)) 10 ((v 10) + 2))) else (upd (upd v 9 (fX2_targetOf v fw fc fr w)) 10 ((v 10) + 3)))
set_option maxHeartbeats 4000000 in
set_option maxRecDepth 100000 in
theorem kX2_goOn (l : Launch) (dC : Nat → ClassId) (dI : Nat → Nat → Nat) (cI cB : ClassId) (h a b c : Nat) (sz : Nat) (v fw fc fr : Nat → Int32) (w : Int32) : Met l yX2_goOn wsX2_goOn ({ frames := 3, cells := 0, slots := 0, locals := 64 }) (wr_Pc [.ref h, .int w] (dC, dI) vwCl (tyIB cI cB) (pwW cI h a b c v fw fc fr) sz) (wr_Qv (pwW cI h a b c (fX2_goOn v fw fc fr w) fw fc fr) (dC, dI) vwCl (pwW cI h a b c v fw fc fr) sz) 0 0 (va_A (pwW cI h a b c v fw fc fr) sz) := by
  refine Met.ofW (cc := cX2_goOn) (maxL := 2) (ret := none) (by decide) rfl ?_
  intro p e s m args below meth c9 s₁ B hml hv
  obtain ⟨rfl, hsz, hP, hK, hD0⟩ := hv
  have hx := B.exec
  have hb := B.bytes
  have hr := B.returns
  have hts := atoms_spec (ws := wsX2_goOn) B.pre
  have hown : s.vm.findClass RX2 = some m.cls := findClass_of_methodNamed B.named
  have hlocks := B.notSynchronized
  subst hsz
  have hD := hD0.self (sz := s.heap.size)
  generalize hAe : va_A (pwW cI h a b c v fw fc fr) s.heap.size = A at hD ⊢
  have hA : ∀ q : Nat, s.heap.size ≤ q → A q := fun q h => by rw [← hAe]; exact Or.inr h
  have hS : va_S A s.heap s.heap [] := va_S.rf
  have hin : ∀ w ∈ wsX20, w ∈ wsX2_goOn := by decide +kernel
  have hf_63 := hts (.fieldLink RX2 63 "PipeWorks" "pc" "I") (by decide +kernel)
  have hf_66 := hts (.fieldLink RX2 66 "PipeWorks" "memoryClock" "I") (by decide +kernel)
  have hl := lv_entry ([.ref h, .int w]) (n := 2) (Nat.le_of_ble_eq_true rfl)
  rw [lg_entry_eq]
  generalize (lg_sl ([.ref h, .int w]) ++ List.replicate (2 - (lg_sl ([.ref h, .int w])).length) Slot.unset).toArray = ls at hl ⊢
  have hl : lv_has ls 2 [(0, .ref h), (1, .int w)] := hl
  refine lv_aload_n hx hb dX2_goOn_0 rfl (lv_at hl 0 rfl) ?_
  refine lv_iload_n hx hb dX2_goOn_1 rfl (lv_at hl 1 rfl) ?_
  refine ro_call (va_runV (As := [.int w]) (rest := []) ⟨hx, hb, hml, hown, hts⟩ (kX2_jumps l dC dI cI cB h a b c v fw fc fr w ) (cwV 1 hts gX2_goOn_X2_jumps rfl rfl rfl (by decide +kernel) ⟨Nat.le_of_ble_eq_true rfl, Nat.le_of_ble_eq_true rfl⟩) (ro_preV hK hP (ci := 0) (q0 := 0) rfl rfl) rfl rfl hl.1 rfl (lv_room (Nat.le_of_ble_eq_true rfl)) dX2_goOn_2 ⟨Nat.zero_le _, Nat.zero_le _⟩) hS (fun H locs hk hS => ?_)
  have hP := hk _ _ _ hP
  refine lv_if_eq (tgt := 30) hx hb dX2_goOn_5 (by decide) (fun c_5 => ?_) (fun c_5 => ?_)
  ·
    refine lv_aload_n hx hb dX2_goOn_30 rfl (lv_at hl 0 rfl) ?_
    refine lv_dup hx hb dX2_goOn_31 rfl ?_
    refine va_get (D := (dC, dI)) (ci := 0) (v := .int (v 9)) (C := RX2) (T := TX2) (N := 16) hx hb hts hin hown hK hP 0 rfl rfl 9 (by decide) hf_63 (fun _ h9 => h9) rfl dX2_goOn_32 ?_
    refine lv_iconst (v := 4) hx hb dX2_goOn_35 (by decide) ?_
    refine lv_iadd hx hb dX2_goOn_36 ?_
    refine va_put (D := (dC, dI)) (ci := 0) (v := .int ((v 9) + 4)) (ty := .int) (C := RX2) (T := TX2) (N := 16) hx hb hts hin tyX2 tyX2_ok nmX2 hown hK hP hD hS 0 rfl rfl 9 (by decide) hf_63 (fun _ h9 => h9) rfl (by decide +kernel) rfl rfl (Nat.le_of_ble_eq_true rfl) dX2_goOn_37 (fun H locs hP hD hS => ?_)
    have hP : va_P (dC, dI) vwCl (pwW cI h a b c (upd v 9 ((v 9) + 4)) fw fc fr) H := hP
    have hD : va_D A (pwW cI h a b c (upd v 9 ((v 9) + 4)) fw fc fr) := hD
    refine lv_aload_n hx hb dX2_goOn_40 rfl (lv_at hl 0 rfl) ?_
    refine lv_dup hx hb dX2_goOn_41 rfl ?_
    refine va_get (D := (dC, dI)) (ci := 0) (v := .int (v 10)) (C := RX2) (T := TX2) (N := 16) hx hb hts hin hown hK hP 0 rfl rfl 10 (by decide) hf_66 (fun _ h9 => h9) rfl dX2_goOn_42 ?_
    refine lv_aload_n hx hb dX2_goOn_45 rfl (lv_at hl 0 rfl) ?_
    refine lv_aload_n hx hb dX2_goOn_46 rfl (lv_at hl 0 rfl) ?_
    refine va_get (D := (dC, dI)) (ci := 0) (v := .int ((v 9) + 4)) (C := RX2) (T := TX2) (N := 16) hx hb hts hin hown hK hP 0 rfl rfl 9 (by decide) hf_63 (fun _ h9 => h9) rfl dX2_goOn_47 ?_
    refine ro_call (va_runV (As := [.int ((v 9) + 4)]) (rest := [.int (v 10), .ref h]) ⟨hx, hb, hml, hown, hts⟩ (kX2_wordAt l dC dI cI cB h a b c (upd v 9 ((v 9) + 4)) fw fc fr ((v 9) + 4) ) (cwV 1 hts gX2_goOn_X2_wordAt rfl rfl rfl (by decide +kernel) ⟨Nat.le_of_ble_eq_true rfl, Nat.le_of_ble_eq_true rfl⟩) (ro_preV hK hP (ci := 0) (q0 := 0) rfl rfl) rfl rfl hl.1 rfl (lv_room (Nat.le_of_ble_eq_true rfl)) dX2_goOn_50 ⟨Nat.zero_le _, Nat.zero_le _⟩) hS (fun H locs hk hS => ?_)
    have hP := hk _ _ _ hP
    refine lv_iload_n hx hb dX2_goOn_53 rfl (lv_at hl 1 rfl) ?_
    refine ro_call (va_runS (As := [.int (fX2_wordAt (upd v 9 ((v 9) + 4)) fw fc fr ((v 9) + 4)), .int w]) (rest := [.int (v 10), .ref h]) ⟨hx, hb, hml, hown, hts⟩ (kX1_waitsFor l (fX2_wordAt (upd v 9 ((v 9) + 4)) fw fc fr ((v 9) + 4)) w ) (va_cwS 2 hts gX2_goOn_X1_waitsFor rfl rfl rfl (by decide +kernel) ⟨Nat.le_of_ble_eq_true rfl, Nat.le_of_ble_eq_true rfl⟩) pu_preS rfl rfl hl.1 rfl (lv_room (Nat.le_of_ble_eq_true rfl)) dX2_goOn_54 ⟨Nat.zero_le _, Nat.zero_le _⟩) hS (fun H locs hk hS => ?_)
    have hP := hk _ _ _ hP
    refine lv_if_eq (tgt := 64) hx hb dX2_goOn_57 (by decide) (fun c_57 => ?_) (fun c_57 => ?_)
    ·
      refine lv_iconst (v := 1) hx hb dX2_goOn_64 (by decide) ?_
      refine lv_iadd hx hb dX2_goOn_65 ?_
      refine va_put (D := (dC, dI)) (ci := 0) (v := .int ((v 10) + 1)) (ty := .int) (C := RX2) (T := TX2) (N := 16) hx hb hts hin tyX2 tyX2_ok nmX2 hown hK hP hD hS 0 rfl rfl 10 (by decide) hf_66 (fun _ h9 => h9) rfl (by decide +kernel) rfl rfl (Nat.le_of_ble_eq_true rfl) dX2_goOn_66 (fun H locs hP hD hS => ?_)
      have hP : va_P (dC, dI) vwCl (pwW cI h a b c (upd (upd v 9 ((v 9) + 4)) 10 ((v 10) + 1)) fw fc fr) H := hP
      have hD : va_D A (pwW cI h a b c (upd (upd v 9 ((v 9) + 4)) 10 ((v 10) + 1)) fw fc fr) := hD
      have e9 : fX2_goOn v fw fc fr w = (upd (upd v 9 ((v 9) + 4)) 10 ((v 10) + 1)) := by rw [fX2_goOn, if_pos c_5, if_pos c_57]
      exact W.vret hx hb hr (fun t ht hW => wr_endv (hAe ▸ hS) ht (by rw [e9]; exact hP) (by rw [e9, hAe]; exact hD)) hS.2.2 dX2_goOn_69
    ·
      refine lv_iconst (v := 2) hx hb dX2_goOn_60 (by decide) ?_
      refine lv_goto (tgt := 65) hx hb dX2_goOn_61 (by decide) ?_
      refine lv_iadd hx hb dX2_goOn_65 ?_
      refine va_put (D := (dC, dI)) (ci := 0) (v := .int ((v 10) + 2)) (ty := .int) (C := RX2) (T := TX2) (N := 16) hx hb hts hin tyX2 tyX2_ok nmX2 hown hK hP hD hS 0 rfl rfl 10 (by decide) hf_66 (fun _ h9 => h9) rfl (by decide +kernel) rfl rfl (Nat.le_of_ble_eq_true rfl) dX2_goOn_66 (fun H locs hP hD hS => ?_)
      have hP : va_P (dC, dI) vwCl (pwW cI h a b c (upd (upd v 9 ((v 9) + 4)) 10 ((v 10) + 2)) fw fc fr) H := hP
      have hD : va_D A (pwW cI h a b c (upd (upd v 9 ((v 9) + 4)) 10 ((v 10) + 2)) fw fc fr) := hD
      have e9 : fX2_goOn v fw fc fr w = (upd (upd v 9 ((v 9) + 4)) 10 ((v 10) + 2)) := by rw [fX2_goOn, if_pos c_5, if_neg c_57]
      exact W.vret hx hb hr (fun t ht hW => wr_endv (hAe ▸ hS) ht (by rw [e9]; exact hP) (by rw [e9, hAe]; exact hD)) hS.2.2 dX2_goOn_69
  ·
    refine lv_aload_n hx hb dX2_goOn_8 rfl (lv_at hl 0 rfl) ?_
    refine lv_aload_n hx hb dX2_goOn_9 rfl (lv_at hl 0 rfl) ?_
    refine lv_iload_n hx hb dX2_goOn_10 rfl (lv_at hl 1 rfl) ?_
    refine ro_call (va_runV (As := [.int w]) (rest := [.ref h]) ⟨hx, hb, hml, hown, hts⟩ (kX2_targetOf l dC dI cI cB h a b c v fw fc fr w ) (cwV 1 hts gX2_goOn_X2_targetOf rfl rfl rfl (by decide +kernel) ⟨Nat.le_of_ble_eq_true rfl, Nat.le_of_ble_eq_true rfl⟩) (ro_preV hK hP (ci := 0) (q0 := 0) rfl rfl) rfl rfl hl.1 rfl (lv_room (Nat.le_of_ble_eq_true rfl)) dX2_goOn_11 ⟨Nat.zero_le _, Nat.zero_le _⟩) hS (fun H locs hk hS => ?_)
    have hP := hk _ _ _ hP
    refine va_put (D := (dC, dI)) (ci := 0) (v := .int (fX2_targetOf v fw fc fr w)) (ty := .int) (C := RX2) (T := TX2) (N := 16) hx hb hts hin tyX2 tyX2_ok nmX2 hown hK hP hD hS 0 rfl rfl 9 (by decide) hf_63 (fun _ h9 => h9) rfl (by decide +kernel) rfl rfl (Nat.le_of_ble_eq_true rfl) dX2_goOn_14 (fun H locs hP hD hS => ?_)
    have hP : va_P (dC, dI) vwCl (pwW cI h a b c (upd v 9 (fX2_targetOf v fw fc fr w)) fw fc fr) H := hP
    have hD : va_D A (pwW cI h a b c (upd v 9 (fX2_targetOf v fw fc fr w)) fw fc fr) := hD
    refine lv_aload_n hx hb dX2_goOn_17 rfl (lv_at hl 0 rfl) ?_
    refine lv_dup hx hb dX2_goOn_18 rfl ?_
    refine va_get (D := (dC, dI)) (ci := 0) (v := .int (v 10)) (C := RX2) (T := TX2) (N := 16) hx hb hts hin hown hK hP 0 rfl rfl 10 (by decide) hf_66 (fun _ h9 => h9) rfl dX2_goOn_19 ?_
    refine lv_iconst (v := 3) hx hb dX2_goOn_22 (by decide) ?_
    refine lv_iadd hx hb dX2_goOn_23 ?_
    refine va_put (D := (dC, dI)) (ci := 0) (v := .int ((v 10) + 3)) (ty := .int) (C := RX2) (T := TX2) (N := 16) hx hb hts hin tyX2 tyX2_ok nmX2 hown hK hP hD hS 0 rfl rfl 10 (by decide) hf_66 (fun _ h9 => h9) rfl (by decide +kernel) rfl rfl (Nat.le_of_ble_eq_true rfl) dX2_goOn_24 (fun H locs hP hD hS => ?_)
    have hP : va_P (dC, dI) vwCl (pwW cI h a b c (upd (upd v 9 (fX2_targetOf v fw fc fr w)) 10 ((v 10) + 3)) fw fc fr) H := hP
    have hD : va_D A (pwW cI h a b c (upd (upd v 9 (fX2_targetOf v fw fc fr w)) 10 ((v 10) + 3)) fw fc fr) := hD
    refine lv_goto (tgt := 69) hx hb dX2_goOn_27 (by decide) ?_
    have e9 : fX2_goOn v fw fc fr w = (upd (upd v 9 (fX2_targetOf v fw fc fr w)) 10 ((v 10) + 3)) := by rw [fX2_goOn, if_neg c_5]
    exact W.vret hx hb hr (fun t ht hW => wr_endv (hAe ▸ hS) ht (by rw [e9]; exact hP) (by rw [e9, hAe]; exact hD)) hS.2.2 dX2_goOn_69
def fX2_endMemory (v fw fc fr : Nat → Int32) : (Nat → Int32) × (Nat → Int32) := (if (fX2_haltOf (upd (upd v 11 1) 12 (v 9)) fw fc fr (fX2_wordAt v fw fc fr (v 9))) = 0 then (if (fX1_writesRd (fX2_wordAt v fw fc fr (v 9))) = 0 then (if (fX1_opcode (fX2_wordAt v fw fc fr (v 9))) = 35 then (fX2_goOn (upd (upd (upd (upd (upd v 11 1) 12 (v 9)) 13 (fX2_haltOf (upd (upd v 11 1) 12 (v 9)) fw fc fr (fX2_wordAt v fw fc fr (v 9)))) 14 0) 15 (fX2_resultOf (upd (upd (upd (upd v 11 1) 12 (v 9)) 13 (fX2_haltOf (upd (upd v 11 1) 12 (v 9)) fw fc fr (fX2_wordAt v fw fc fr (v 9)))) 14 0) fw fc fr (fX2_wordAt v fw fc fr (v 9)))) fw (fX2_storeAt (upd (upd (upd (upd (upd v 11 1) 12 (v 9)) 13 (fX2_haltOf (upd (upd v 11 1) 12 (v 9)) fw fc fr (fX2_wordAt v fw fc fr (v 9)))) 14 0) 15 (fX2_resultOf (upd (upd (upd (upd v 11 1) 12 (v 9)) 13 (fX2_haltOf (upd (upd v 11 1) 12 (v 9)) fw fc fr (fX2_wordAt v fw fc fr (v 9)))) 14 0) fw fc fr (fX2_wordAt v fw fc fr (v 9)))) fw fc fr (fX2_addressOf (upd (upd (upd (upd (upd v 11 1) 12 (v 9)) 13 (fX2_haltOf (upd (upd v 11 1) 12 (v 9)) fw fc fr (fX2_wordAt v fw fc fr (v 9)))) 14 0) 15 (fX2_resultOf (upd (upd (upd (upd v 11 1) 12 (v 9)) 13 (fX2_haltOf (upd (upd v 11 1) 12 (v 9)) fw fc fr (fX2_wordAt v fw fc fr (v 9)))) 14 0) fw fc fr (fX2_wordAt v fw fc fr (v 9)))) fw fc fr (fX2_wordAt v fw fc fr (v 9))) (fX1_f3 (fX2_wordAt v fw fc fr (v 9))) (fX2_rs2Of (upd (upd (upd (upd (upd v 11 1) 12 (v 9)) 13 (fX2_haltOf (upd (upd v 11 1) 12 (v 9)) fw fc fr (fX2_wordAt v fw fc fr (v 9)))) 14 0) 15 (fX2_resultOf (upd (upd (upd (upd v 11 1) 12 (v 9)) 13 (fX2_haltOf (upd (upd v 11 1) 12 (v 9)) fw fc fr (fX2_wordAt v fw fc fr (v 9)))) 14 0) fw fc fr (fX2_wordAt v fw fc fr (v 9)))) fw fc fr (fX2_wordAt v fw fc fr (v 9)))) fr (fX2_wordAt v fw fc fr (v 9)), fX2_storeAt (upd (upd (upd (upd (upd v 11 1) 12 (v 9)) 13 (fX2_haltOf (upd (upd v 11 1) 12 (v 9)) fw fc fr (fX2_wordAt v fw fc fr (v 9)))) 14 0) 15 (fX2_resultOf (upd (upd (upd (upd v 11 1) 12 (v 9)) 13 (fX2_haltOf (upd (upd v 11 1) 12 (v 9)) fw fc fr (fX2_wordAt v fw fc fr (v 9)))) 14 0) fw fc fr (fX2_wordAt v fw fc fr (v 9)))) fw fc fr (fX2_addressOf (upd (upd (upd (upd (upd v 11 1) 12 (v 9)) 13 (fX2_haltOf (upd (upd v 11 1) 12 (v 9)) fw fc fr (fX2_wordAt v fw fc fr (v 9)))) 14 0) 15 (fX2_resultOf (upd (upd (upd (upd v 11 1) 12 (v 9)) 13 (fX2_haltOf (upd (upd v 11 1) 12 (v 9)) fw fc fr (fX2_wordAt v fw fc fr (v 9)))) 14 0) fw fc fr (fX2_wordAt v fw fc fr (v 9)))) fw fc fr (fX2_wordAt v fw fc fr (v 9))) (fX1_f3 (fX2_wordAt v fw fc fr (v 9))) (fX2_rs2Of (upd (upd (upd (upd (upd v 11 1) 12 (v 9)) 13 (fX2_haltOf (upd (upd v 11 1) 12 (v 9)) fw fc fr (fX2_wordAt v fw fc fr (v 9)))) 14 0) 15 (fX2_resultOf (upd (upd (upd (upd v 11 1) 12 (v 9)) 13 (fX2_haltOf (upd (upd v 11 1) 12 (v 9)) fw fc fr (fX2_wordAt v fw fc fr (v 9)))) 14 0) fw fc fr (fX2_wordAt v fw fc fr (v 9)))) fw fc fr (fX2_wordAt v fw fc fr (v 9)))) else (fX2_goOn (upd (upd (upd (upd (upd v 11 1) 12 (v 9)) 13 (fX2_haltOf (upd (upd v 11 1) 12 (v 9)) fw fc fr (fX2_wordAt v fw fc fr (v 9)))) 14 0) 15 (fX2_resultOf (upd (upd (upd (upd v 11 1) 12 (v 9)) 13 (fX2_haltOf (upd (upd v 11 1) 12 (v 9)) fw fc fr (fX2_wordAt v fw fc fr (v 9)))) 14 0) fw fc fr (fX2_wordAt v fw fc fr (v 9)))) fw fc fr (fX2_wordAt v fw fc fr (v 9)), fc)) else (if (fX1_opcode (fX2_wordAt v fw fc fr (v 9))) = 35 then (fX2_goOn (upd (upd (upd (upd (upd v 11 1) 12 (v 9)) 13 (fX2_haltOf (upd (upd v 11 1) 12 (v 9)) fw fc fr (fX2_wordAt v fw fc fr (v 9)))) 14 (fX1_rd (fX2_wordAt v fw fc fr (v 9)))) 15 (fX2_resultOf (upd (upd (upd (upd v 11 1) 12 (v 9)) 13 (fX2_haltOf (upd (upd v 11 1) 12 (v 9)) fw fc fr (fX2_wordAt v fw fc fr (v 9)))) 14 (fX1_rd (fX2_wordAt v fw fc fr (v 9)))) fw fc fr (fX2_wordAt v fw fc fr (v 9)))) fw (fX2_storeAt (upd (upd (upd (upd (upd v 11 1) 12 (v 9)) 13 (fX2_haltOf (upd (upd v 11 1) 12 (v 9)) fw fc fr (fX2_wordAt v fw fc fr (v 9)))) 14 (fX1_rd (fX2_wordAt v fw fc fr (v 9)))) 15 (fX2_resultOf (upd (upd (upd (upd v 11 1) 12 (v 9)) 13 (fX2_haltOf (upd (upd v 11 1) 12 (v 9)) fw fc fr (fX2_wordAt v fw fc fr (v 9)))) 14 (fX1_rd (fX2_wordAt v fw fc fr (v 9)))) fw fc fr (fX2_wordAt v fw fc fr (v 9)))) fw fc fr (fX2_addressOf (upd (upd (upd (upd (upd v 11 1) 12 (v 9)) 13 (fX2_haltOf (upd (upd v 11 1) 12 (v 9)) fw fc fr (fX2_wordAt v fw fc fr (v 9)))) 14 (fX1_rd (fX2_wordAt v fw fc fr (v 9)))) 15 (fX2_resultOf (upd (upd (upd (upd v 11 1) 12 (v 9)) 13 (fX2_haltOf (upd (upd v 11 1) 12 (v 9)) fw fc fr (fX2_wordAt v fw fc fr (v 9)))) 14 (fX1_rd (fX2_wordAt v fw fc fr (v 9)))) fw fc fr (fX2_wordAt v fw fc fr (v 9)))) fw fc fr (fX2_wordAt v fw fc fr (v 9))) (fX1_f3 (fX2_wordAt v fw fc fr (v 9))) (fX2_rs2Of (upd (upd (upd (upd (upd v 11 1) 12 (v 9)) 13 (fX2_haltOf (upd (upd v 11 1) 12 (v 9)) fw fc fr (fX2_wordAt v fw fc fr (v 9)))) 14 (fX1_rd (fX2_wordAt v fw fc fr (v 9)))) 15 (fX2_resultOf (upd (upd (upd (upd v 11 1) 12 (v 9)) 13 (fX2_haltOf (upd (upd v 11 1) 12 (v 9)) fw fc fr (fX2_wordAt v fw fc fr (v 9)))) 14 (fX1_rd (fX2_wordAt v fw fc fr (v 9)))) fw fc fr (fX2_wordAt v fw fc fr (v 9)))) fw fc fr (fX2_wordAt v fw fc fr (v 9)))) fr (fX2_wordAt v fw fc fr (v 9)), fX2_storeAt (upd (upd (upd (upd (upd v 11 1) 12 (v 9)) 13 (fX2_haltOf (upd (upd v 11 1) 12 (v 9)) fw fc fr (fX2_wordAt v fw fc fr (v 9)))) 14 (fX1_rd (fX2_wordAt v fw fc fr (v 9)))) 15 (fX2_resultOf (upd (upd (upd (upd v 11 1) 12 (v 9)) 13 (fX2_haltOf (upd (upd v 11 1) 12 (v 9)) fw fc fr (fX2_wordAt v fw fc fr (v 9)))) 14 (fX1_rd (fX2_wordAt v fw fc fr (v 9)))) fw fc fr (fX2_wordAt v fw fc fr (v 9)))) fw fc fr (fX2_addressOf (upd (upd (upd (upd (upd v 11 1) 12 (v 9)) 13 (fX2_haltOf (upd (upd v 11 1) 12 (v 9)) fw fc fr (fX2_wordAt v fw fc fr (v 9)))) 14 (fX1_rd (fX2_wordAt v fw fc fr (v 9)))) 15 (fX2_resultOf (upd (upd (upd (upd v 11 1) 12 (v 9)) 13 (fX2_haltOf (upd (upd v 11 1) 12 (v 9)) fw fc fr (fX2_wordAt v fw fc fr (v 9)))) 14 (fX1_rd (fX2_wordAt v fw fc fr (v 9)))) fw fc fr (fX2_wordAt v fw fc fr (v 9)))) fw fc fr (fX2_wordAt v fw fc fr (v 9))) (fX1_f3 (fX2_wordAt v fw fc fr (v 9))) (fX2_rs2Of (upd (upd (upd (upd (upd v 11 1) 12 (v 9)) 13 (fX2_haltOf (upd (upd v 11 1) 12 (v 9)) fw fc fr (fX2_wordAt v fw fc fr (v 9)))) 14 (fX1_rd (fX2_wordAt v fw fc fr (v 9)))) 15 (fX2_resultOf (upd (upd (upd (upd v 11 1) 12 (v 9)) 13 (fX2_haltOf (upd (upd v 11 1) 12 (v 9)) fw fc fr (fX2_wordAt v fw fc fr (v 9)))) 14 (fX1_rd (fX2_wordAt v fw fc fr (v 9)))) fw fc fr (fX2_wordAt v fw fc fr (v 9)))) fw fc fr (fX2_wordAt v fw fc fr (v 9)))) else (fX2_goOn (upd (upd (upd (upd (upd v 11 1) 12 (v 9)) 13 (fX2_haltOf (upd (upd v 11 1) 12 (v 9)) fw fc fr (fX2_wordAt v fw fc fr (v 9)))) 14 (fX1_rd (fX2_wordAt v fw fc fr (v 9)))) 15 (fX2_resultOf (upd (upd (upd (upd v 11 1) 12 (v 9)) 13 (fX2_haltOf (upd (upd v 11 1) 12 (v 9)) fw fc fr (fX2_wordAt v fw fc fr (v 9)))) 14 (fX1_rd (fX2_wordAt v fw fc fr (v 9)))) fw fc fr (fX2_wordAt v fw fc fr (v 9)))) fw fc fr (fX2_wordAt v fw fc fr (v 9)), fc))) else (upd (upd (upd v 11 1) 12 (v 9)) 13 (fX2_haltOf (upd (upd v 11 1) 12 (v 9)) fw fc fr (fX2_wordAt v fw fc fr (v 9))), fc))
set_option maxHeartbeats 4000000 in
set_option maxRecDepth 100000 in
theorem kX2_endMemory (l : Launch) (dC : Nat → ClassId) (dI : Nat → Nat → Nat) (cI cB : ClassId) (h a b c : Nat) (sz : Nat) (v fw fc fr : Nat → Int32) : Met l yX2_endMemory wsX2_endMemory ({ frames := 4, cells := 0, slots := 0, locals := 85 }) (wr_Pc [.ref h] (dC, dI) vwCl (tyIB cI cB) (pwW cI h a b c v fw fc fr) sz) (wr_Qv (pwW cI h a b c ((fX2_endMemory v fw fc fr).1) fw ((fX2_endMemory v fw fc fr).2) fr) (dC, dI) vwCl (pwW cI h a b c v fw fc fr) sz) 0 0 (va_A (pwW cI h a b c v fw fc fr) sz) := by
  refine Met.ofW (cc := cX2_endMemory) (maxL := 2) (ret := none) (by decide) rfl ?_
  intro p e s m args below meth c9 s₁ B hml hv
  obtain ⟨rfl, hsz, hP, hK, hD0⟩ := hv
  have hx := B.exec
  have hb := B.bytes
  have hr := B.returns
  have hts := atoms_spec (ws := wsX2_endMemory) B.pre
  have hown : s.vm.findClass RX2 = some m.cls := findClass_of_methodNamed B.named
  have hlocks := B.notSynchronized
  subst hsz
  have hD := hD0.self (sz := s.heap.size)
  generalize hAe : va_A (pwW cI h a b c v fw fc fr) s.heap.size = A at hD ⊢
  have hA : ∀ q : Nat, s.heap.size ≤ q → A q := fun q h => by rw [← hAe]; exact Or.inr h
  have hS : va_S A s.heap s.heap [] := va_S.rf
  have hin : ∀ w ∈ wsX20, w ∈ wsX2_endMemory := by decide +kernel
  have hf_63 := hts (.fieldLink RX2 63 "PipeWorks" "pc" "I") (by decide +kernel)
  have hf_69 := hts (.fieldLink RX2 69 "PipeWorks" "writePending" "Z") (by decide +kernel)
  have hf_79 := hts (.fieldLink RX2 79 "PipeWorks" "writeHalt" "I") (by decide +kernel)
  have hf_82 := hts (.fieldLink RX2 82 "PipeWorks" "writeAddress" "I") (by decide +kernel)
  have hf_85 := hts (.fieldLink RX2 85 "PipeWorks" "writeRegister" "I") (by decide +kernel)
  have hf_88 := hts (.fieldLink RX2 88 "PipeWorks" "writeValue" "I") (by decide +kernel)
  have hl := lv_entry ([.ref h]) (n := 2) (Nat.le_of_ble_eq_true rfl)
  rw [lg_entry_eq]
  generalize (lg_sl ([.ref h]) ++ List.replicate (2 - (lg_sl ([.ref h])).length) Slot.unset).toArray = ls at hl ⊢
  have hl : lv_has ls 2 [(0, .ref h)] := hl
  refine lv_aload_n hx hb dX2_endMemory_0 rfl (lv_at hl 0 rfl) ?_
  refine lv_aload_n hx hb dX2_endMemory_1 rfl (lv_at hl 0 rfl) ?_
  refine va_get (D := (dC, dI)) (ci := 0) (v := .int (v 9)) (C := RX2) (T := TX2) (N := 16) hx hb hts hin hown hK hP 0 rfl rfl 9 (by decide) hf_63 (fun _ h9 => h9) rfl dX2_endMemory_2 ?_
  refine ro_call (va_runV (As := [.int (v 9)]) (rest := []) ⟨hx, hb, hml, hown, hts⟩ (kX2_wordAt l dC dI cI cB h a b c v fw fc fr (v 9) ) (cwV 1 hts gX2_endMemory_X2_wordAt rfl rfl rfl (by decide +kernel) ⟨Nat.le_of_ble_eq_true rfl, Nat.le_of_ble_eq_true rfl⟩) (ro_preV hK hP (ci := 0) (q0 := 0) rfl rfl) rfl rfl hl.1 rfl (lv_room (Nat.le_of_ble_eq_true rfl)) dX2_endMemory_5 ⟨Nat.zero_le _, Nat.zero_le _⟩) hS (fun H locs hk hS => ?_)
  have hP := hk _ _ _ hP
  refine lv_istore_n (lv' := [(1, .int (fX2_wordAt v fw fc fr (v 9))), (0, .ref h)]) hx hb dX2_endMemory_8 rfl hl (by decide) rfl (fun ls hl => ?_)
  refine lv_aload_n hx hb dX2_endMemory_9 rfl (lv_at hl 1 rfl) ?_
  refine lv_iconst (v := 1) hx hb dX2_endMemory_10 (by decide) ?_
  refine va_put (D := (dC, dI)) (ci := 0) (v := .int 1) (ty := .boolean) (C := RX2) (T := TX2) (N := 16) hx hb hts hin tyX2 tyX2_ok nmX2 hown hK hP hD hS 0 rfl rfl 11 (by decide) hf_69 (fun _ h9 => h9) rfl (by decide +kernel) rfl rfl (Nat.le_of_ble_eq_true rfl) dX2_endMemory_11 (fun H locs hP hD hS => ?_)
  have hP : va_P (dC, dI) vwCl (pwW cI h a b c (upd v 11 1) fw fc fr) H := hP
  have hD : va_D A (pwW cI h a b c (upd v 11 1) fw fc fr) := hD
  refine lv_aload_n hx hb dX2_endMemory_14 rfl (lv_at hl 1 rfl) ?_
  refine lv_aload_n hx hb dX2_endMemory_15 rfl (lv_at hl 1 rfl) ?_
  refine va_get (D := (dC, dI)) (ci := 0) (v := .int (v 9)) (C := RX2) (T := TX2) (N := 16) hx hb hts hin hown hK hP 0 rfl rfl 9 (by decide) hf_63 (fun _ h9 => h9) rfl dX2_endMemory_16 ?_
  refine va_put (D := (dC, dI)) (ci := 0) (v := .int (v 9)) (ty := .int) (C := RX2) (T := TX2) (N := 16) hx hb hts hin tyX2 tyX2_ok nmX2 hown hK hP hD hS 0 rfl rfl 12 (by decide) hf_82 (fun _ h9 => h9) rfl (by decide +kernel) rfl rfl (Nat.le_of_ble_eq_true rfl) dX2_endMemory_19 (fun H locs hP hD hS => ?_)
  have hP : va_P (dC, dI) vwCl (pwW cI h a b c (upd (upd v 11 1) 12 (v 9)) fw fc fr) H := hP
  have hD : va_D A (pwW cI h a b c (upd (upd v 11 1) 12 (v 9)) fw fc fr) := hD
  refine lv_aload_n hx hb dX2_endMemory_22 rfl (lv_at hl 1 rfl) ?_
  refine lv_aload_n hx hb dX2_endMemory_23 rfl (lv_at hl 1 rfl) ?_
  refine lv_iload_n hx hb dX2_endMemory_24 rfl (lv_at hl 0 rfl) ?_
  refine ro_call (va_runV (As := [.int (fX2_wordAt v fw fc fr (v 9))]) (rest := [.ref h]) ⟨hx, hb, hml, hown, hts⟩ (kX2_haltOf l dC dI cI cB h a b c (upd (upd v 11 1) 12 (v 9)) fw fc fr (fX2_wordAt v fw fc fr (v 9)) ) (cwV 1 hts gX2_endMemory_X2_haltOf rfl rfl rfl (by decide +kernel) ⟨Nat.le_of_ble_eq_true rfl, Nat.le_of_ble_eq_true rfl⟩) (ro_preV hK hP (ci := 0) (q0 := 0) rfl rfl) rfl rfl hl.1 rfl (lv_room (Nat.le_of_ble_eq_true rfl)) dX2_endMemory_25 ⟨Nat.zero_le _, Nat.zero_le _⟩) hS (fun H locs hk hS => ?_)
  have hP := hk _ _ _ hP
  refine va_put (D := (dC, dI)) (ci := 0) (v := .int (fX2_haltOf (upd (upd v 11 1) 12 (v 9)) fw fc fr (fX2_wordAt v fw fc fr (v 9)))) (ty := .int) (C := RX2) (T := TX2) (N := 16) hx hb hts hin tyX2 tyX2_ok nmX2 hown hK hP hD hS 0 rfl rfl 13 (by decide) hf_79 (fun _ h9 => h9) rfl (by decide +kernel) rfl rfl (Nat.le_of_ble_eq_true rfl) dX2_endMemory_28 (fun H locs hP hD hS => ?_)
  have hP : va_P (dC, dI) vwCl (pwW cI h a b c (upd (upd (upd v 11 1) 12 (v 9)) 13 (fX2_haltOf (upd (upd v 11 1) 12 (v 9)) fw fc fr (fX2_wordAt v fw fc fr (v 9)))) fw fc fr) H := hP
  have hD : va_D A (pwW cI h a b c (upd (upd (upd v 11 1) 12 (v 9)) 13 (fX2_haltOf (upd (upd v 11 1) 12 (v 9)) fw fc fr (fX2_wordAt v fw fc fr (v 9)))) fw fc fr) := hD
  refine lv_aload_n hx hb dX2_endMemory_31 rfl (lv_at hl 1 rfl) ?_
  refine va_get (D := (dC, dI)) (ci := 0) (v := .int (fX2_haltOf (upd (upd v 11 1) 12 (v 9)) fw fc fr (fX2_wordAt v fw fc fr (v 9)))) (C := RX2) (T := TX2) (N := 16) hx hb hts hin hown hK hP 0 rfl rfl 13 (by decide) hf_79 (fun _ h9 => h9) rfl dX2_endMemory_32 ?_
  refine lv_if_ne (tgt := 98) hx hb dX2_endMemory_35 (by decide) (fun c_35 => ?_) (fun c_35 => ?_)
  ·
    have e9 : fX2_endMemory v fw fc fr = (upd (upd (upd v 11 1) 12 (v 9)) 13 (fX2_haltOf (upd (upd v 11 1) 12 (v 9)) fw fc fr (fX2_wordAt v fw fc fr (v 9))), fc) := by rw [fX2_endMemory, if_neg c_35]
    exact W.vret hx hb hr (fun t ht hW => wr_endv (hAe ▸ hS) ht (by rw [e9]; exact hP) (by rw [e9, hAe]; exact hD)) hS.2.2 dX2_endMemory_98
  ·
    refine lv_aload_n hx hb dX2_endMemory_38 rfl (lv_at hl 1 rfl) ?_
    refine lv_iload_n hx hb dX2_endMemory_39 rfl (lv_at hl 0 rfl) ?_
    refine ro_call (va_runS (As := [.int (fX2_wordAt v fw fc fr (v 9))]) (rest := [.ref h]) ⟨hx, hb, hml, hown, hts⟩ (kX1_writesRd l (fX2_wordAt v fw fc fr (v 9)) ) (va_cwS 1 hts gX2_endMemory_X1_writesRd rfl rfl rfl (by decide +kernel) ⟨Nat.le_of_ble_eq_true rfl, Nat.le_of_ble_eq_true rfl⟩) pu_preS rfl rfl hl.1 rfl (lv_room (Nat.le_of_ble_eq_true rfl)) dX2_endMemory_40 ⟨Nat.zero_le _, Nat.zero_le _⟩) hS (fun H locs hk hS => ?_)
    have hP := hk _ _ _ hP
    refine lv_if_eq (tgt := 53) hx hb dX2_endMemory_43 (by decide) (fun c_43 => ?_) (fun c_43 => ?_)
    ·
      refine lv_iconst (v := 0) hx hb dX2_endMemory_53 (by decide) ?_
      refine va_put (D := (dC, dI)) (ci := 0) (v := .int 0) (ty := .int) (C := RX2) (T := TX2) (N := 16) hx hb hts hin tyX2 tyX2_ok nmX2 hown hK hP hD hS 0 rfl rfl 14 (by decide) hf_85 (fun _ h9 => h9) rfl (by decide +kernel) rfl rfl (Nat.le_of_ble_eq_true rfl) dX2_endMemory_54 (fun H locs hP hD hS => ?_)
      have hP : va_P (dC, dI) vwCl (pwW cI h a b c (upd (upd (upd (upd v 11 1) 12 (v 9)) 13 (fX2_haltOf (upd (upd v 11 1) 12 (v 9)) fw fc fr (fX2_wordAt v fw fc fr (v 9)))) 14 0) fw fc fr) H := hP
      have hD : va_D A (pwW cI h a b c (upd (upd (upd (upd v 11 1) 12 (v 9)) 13 (fX2_haltOf (upd (upd v 11 1) 12 (v 9)) fw fc fr (fX2_wordAt v fw fc fr (v 9)))) 14 0) fw fc fr) := hD
      refine lv_aload_n hx hb dX2_endMemory_57 rfl (lv_at hl 1 rfl) ?_
      refine lv_aload_n hx hb dX2_endMemory_58 rfl (lv_at hl 1 rfl) ?_
      refine lv_iload_n hx hb dX2_endMemory_59 rfl (lv_at hl 0 rfl) ?_
      refine ro_call (va_runV (As := [.int (fX2_wordAt v fw fc fr (v 9))]) (rest := [.ref h]) ⟨hx, hb, hml, hown, hts⟩ (kX2_resultOf l dC dI cI cB h a b c (upd (upd (upd (upd v 11 1) 12 (v 9)) 13 (fX2_haltOf (upd (upd v 11 1) 12 (v 9)) fw fc fr (fX2_wordAt v fw fc fr (v 9)))) 14 0) fw fc fr (fX2_wordAt v fw fc fr (v 9)) ) (cwV 1 hts gX2_endMemory_X2_resultOf rfl rfl rfl (by decide +kernel) ⟨Nat.le_of_ble_eq_true rfl, Nat.le_of_ble_eq_true rfl⟩) (ro_preV hK hP (ci := 0) (q0 := 0) rfl rfl) rfl rfl hl.1 rfl (lv_room (Nat.le_of_ble_eq_true rfl)) dX2_endMemory_60 ⟨Nat.zero_le _, Nat.zero_le _⟩) hS (fun H locs hk hS => ?_)
      have hP := hk _ _ _ hP
      refine va_put (D := (dC, dI)) (ci := 0) (v := .int (fX2_resultOf (upd (upd (upd (upd v 11 1) 12 (v 9)) 13 (fX2_haltOf (upd (upd v 11 1) 12 (v 9)) fw fc fr (fX2_wordAt v fw fc fr (v 9)))) 14 0) fw fc fr (fX2_wordAt v fw fc fr (v 9)))) (ty := .int) (C := RX2) (T := TX2) (N := 16) hx hb hts hin tyX2 tyX2_ok nmX2 hown hK hP hD hS 0 rfl rfl 15 (by decide) hf_88 (fun _ h9 => h9) rfl (by decide +kernel) rfl rfl (Nat.le_of_ble_eq_true rfl) dX2_endMemory_63 (fun H locs hP hD hS => ?_)
      have hP : va_P (dC, dI) vwCl (pwW cI h a b c (upd (upd (upd (upd (upd v 11 1) 12 (v 9)) 13 (fX2_haltOf (upd (upd v 11 1) 12 (v 9)) fw fc fr (fX2_wordAt v fw fc fr (v 9)))) 14 0) 15 (fX2_resultOf (upd (upd (upd (upd v 11 1) 12 (v 9)) 13 (fX2_haltOf (upd (upd v 11 1) 12 (v 9)) fw fc fr (fX2_wordAt v fw fc fr (v 9)))) 14 0) fw fc fr (fX2_wordAt v fw fc fr (v 9)))) fw fc fr) H := hP
      have hD : va_D A (pwW cI h a b c (upd (upd (upd (upd (upd v 11 1) 12 (v 9)) 13 (fX2_haltOf (upd (upd v 11 1) 12 (v 9)) fw fc fr (fX2_wordAt v fw fc fr (v 9)))) 14 0) 15 (fX2_resultOf (upd (upd (upd (upd v 11 1) 12 (v 9)) 13 (fX2_haltOf (upd (upd v 11 1) 12 (v 9)) fw fc fr (fX2_wordAt v fw fc fr (v 9)))) 14 0) fw fc fr (fX2_wordAt v fw fc fr (v 9)))) fw fc fr) := hD
      refine lv_iload_n hx hb dX2_endMemory_66 rfl (lv_at hl 0 rfl) ?_
      refine ro_call (va_runS (As := [.int (fX2_wordAt v fw fc fr (v 9))]) (rest := []) ⟨hx, hb, hml, hown, hts⟩ (kX1_opcode l (fX2_wordAt v fw fc fr (v 9)) ) (va_cwS 1 hts gX2_endMemory_X1_opcode rfl rfl rfl (by decide +kernel) ⟨Nat.le_of_ble_eq_true rfl, Nat.le_of_ble_eq_true rfl⟩) pu_preS rfl rfl hl.1 rfl (lv_room (Nat.le_of_ble_eq_true rfl)) dX2_endMemory_67 ⟨Nat.zero_le _, Nat.zero_le _⟩) hS (fun H locs hk hS => ?_)
      have hP := hk _ _ _ hP
      refine lv_bipush (v := 35) hx hb dX2_endMemory_70 (by decide) ?_
      refine lv_icmp_ne (tgt := 93) hx hb dX2_endMemory_72 (by decide) (fun c_72 => ?_) (fun c_72 => ?_)
      ·
        refine lv_aload_n hx hb dX2_endMemory_93 rfl (lv_at hl 1 rfl) ?_
        refine lv_iload_n hx hb dX2_endMemory_94 rfl (lv_at hl 0 rfl) ?_
        refine wr_callv (va_runV (As := [.int (fX2_wordAt v fw fc fr (v 9))]) (rest := []) ⟨hx, hb, hml, hown, hts⟩ (kX2_goOn l dC dI cI cB h a b c _ (upd (upd (upd (upd (upd v 11 1) 12 (v 9)) 13 (fX2_haltOf (upd (upd v 11 1) 12 (v 9)) fw fc fr (fX2_wordAt v fw fc fr (v 9)))) 14 0) 15 (fX2_resultOf (upd (upd (upd (upd v 11 1) 12 (v 9)) 13 (fX2_haltOf (upd (upd v 11 1) 12 (v 9)) fw fc fr (fX2_wordAt v fw fc fr (v 9)))) 14 0) fw fc fr (fX2_wordAt v fw fc fr (v 9)))) fw fc fr (fX2_wordAt v fw fc fr (v 9)) ) (cwV 1 hts gX2_endMemory_X2_goOn rfl rfl rfl (by decide +kernel) ⟨Nat.le_of_ble_eq_true rfl, Nat.le_of_ble_eq_true rfl⟩) (wr_preV hK hP hD (ci := 0) (q0 := 0) rfl rfl) rfl rfl hl.1 rfl (lv_room (Nat.le_of_ble_eq_true rfl)) dX2_endMemory_95 ⟨Nat.zero_le _, Nat.zero_le _⟩) hS hA hP hD [0, 1, 2, 3] [] rfl (wr := []) rfl rfl (by decide) (fun H locs hP hD hS => ?_)
        have hP : va_P (dC, dI) vwCl (pwW cI h a b c (fX2_goOn (upd (upd (upd (upd (upd v 11 1) 12 (v 9)) 13 (fX2_haltOf (upd (upd v 11 1) 12 (v 9)) fw fc fr (fX2_wordAt v fw fc fr (v 9)))) 14 0) 15 (fX2_resultOf (upd (upd (upd (upd v 11 1) 12 (v 9)) 13 (fX2_haltOf (upd (upd v 11 1) 12 (v 9)) fw fc fr (fX2_wordAt v fw fc fr (v 9)))) 14 0) fw fc fr (fX2_wordAt v fw fc fr (v 9)))) fw fc fr (fX2_wordAt v fw fc fr (v 9))) fw fc fr) H := hP
        have hD : va_D A (pwW cI h a b c (fX2_goOn (upd (upd (upd (upd (upd v 11 1) 12 (v 9)) 13 (fX2_haltOf (upd (upd v 11 1) 12 (v 9)) fw fc fr (fX2_wordAt v fw fc fr (v 9)))) 14 0) 15 (fX2_resultOf (upd (upd (upd (upd v 11 1) 12 (v 9)) 13 (fX2_haltOf (upd (upd v 11 1) 12 (v 9)) fw fc fr (fX2_wordAt v fw fc fr (v 9)))) 14 0) fw fc fr (fX2_wordAt v fw fc fr (v 9)))) fw fc fr (fX2_wordAt v fw fc fr (v 9))) fw fc fr) := hD
        have e9 : fX2_endMemory v fw fc fr = (fX2_goOn (upd (upd (upd (upd (upd v 11 1) 12 (v 9)) 13 (fX2_haltOf (upd (upd v 11 1) 12 (v 9)) fw fc fr (fX2_wordAt v fw fc fr (v 9)))) 14 0) 15 (fX2_resultOf (upd (upd (upd (upd v 11 1) 12 (v 9)) 13 (fX2_haltOf (upd (upd v 11 1) 12 (v 9)) fw fc fr (fX2_wordAt v fw fc fr (v 9)))) 14 0) fw fc fr (fX2_wordAt v fw fc fr (v 9)))) fw fc fr (fX2_wordAt v fw fc fr (v 9)), fc) := by rw [fX2_endMemory, if_pos c_35, if_pos c_43, if_neg c_72]
        exact W.vret hx hb hr (fun t ht hW => wr_endv (hAe ▸ hS) ht (by rw [e9]; exact hP) (by rw [e9, hAe]; exact hD)) hS.2.2 dX2_endMemory_98
      ·
        refine lv_aload_n hx hb dX2_endMemory_75 rfl (lv_at hl 1 rfl) ?_
        refine lv_aload_n hx hb dX2_endMemory_76 rfl (lv_at hl 1 rfl) ?_
        refine lv_iload_n hx hb dX2_endMemory_77 rfl (lv_at hl 0 rfl) ?_
        refine ro_call (va_runV (As := [.int (fX2_wordAt v fw fc fr (v 9))]) (rest := [.ref h]) ⟨hx, hb, hml, hown, hts⟩ (kX2_addressOf l dC dI cI cB h a b c (upd (upd (upd (upd (upd v 11 1) 12 (v 9)) 13 (fX2_haltOf (upd (upd v 11 1) 12 (v 9)) fw fc fr (fX2_wordAt v fw fc fr (v 9)))) 14 0) 15 (fX2_resultOf (upd (upd (upd (upd v 11 1) 12 (v 9)) 13 (fX2_haltOf (upd (upd v 11 1) 12 (v 9)) fw fc fr (fX2_wordAt v fw fc fr (v 9)))) 14 0) fw fc fr (fX2_wordAt v fw fc fr (v 9)))) fw fc fr (fX2_wordAt v fw fc fr (v 9)) ) (cwV 1 hts gX2_endMemory_X2_addressOf rfl rfl rfl (by decide +kernel) ⟨Nat.le_of_ble_eq_true rfl, Nat.le_of_ble_eq_true rfl⟩) (ro_preV hK hP (ci := 0) (q0 := 0) rfl rfl) rfl rfl hl.1 rfl (lv_room (Nat.le_of_ble_eq_true rfl)) dX2_endMemory_78 ⟨Nat.zero_le _, Nat.zero_le _⟩) hS (fun H locs hk hS => ?_)
        have hP := hk _ _ _ hP
        refine lv_iload_n hx hb dX2_endMemory_81 rfl (lv_at hl 0 rfl) ?_
        refine ro_call (va_runS (As := [.int (fX2_wordAt v fw fc fr (v 9))]) (rest := [.int (fX2_addressOf (upd (upd (upd (upd (upd v 11 1) 12 (v 9)) 13 (fX2_haltOf (upd (upd v 11 1) 12 (v 9)) fw fc fr (fX2_wordAt v fw fc fr (v 9)))) 14 0) 15 (fX2_resultOf (upd (upd (upd (upd v 11 1) 12 (v 9)) 13 (fX2_haltOf (upd (upd v 11 1) 12 (v 9)) fw fc fr (fX2_wordAt v fw fc fr (v 9)))) 14 0) fw fc fr (fX2_wordAt v fw fc fr (v 9)))) fw fc fr (fX2_wordAt v fw fc fr (v 9))), .ref h]) ⟨hx, hb, hml, hown, hts⟩ (kX1_f3 l (fX2_wordAt v fw fc fr (v 9)) ) (va_cwS 1 hts gX2_endMemory_X1_f3 rfl rfl rfl (by decide +kernel) ⟨Nat.le_of_ble_eq_true rfl, Nat.le_of_ble_eq_true rfl⟩) pu_preS rfl rfl hl.1 rfl (lv_room (Nat.le_of_ble_eq_true rfl)) dX2_endMemory_82 ⟨Nat.zero_le _, Nat.zero_le _⟩) hS (fun H locs hk hS => ?_)
        have hP := hk _ _ _ hP
        refine lv_aload_n hx hb dX2_endMemory_85 rfl (lv_at hl 1 rfl) ?_
        refine lv_iload_n hx hb dX2_endMemory_86 rfl (lv_at hl 0 rfl) ?_
        refine ro_call (va_runV (As := [.int (fX2_wordAt v fw fc fr (v 9))]) (rest := [.int (fX1_f3 (fX2_wordAt v fw fc fr (v 9))), .int (fX2_addressOf (upd (upd (upd (upd (upd v 11 1) 12 (v 9)) 13 (fX2_haltOf (upd (upd v 11 1) 12 (v 9)) fw fc fr (fX2_wordAt v fw fc fr (v 9)))) 14 0) 15 (fX2_resultOf (upd (upd (upd (upd v 11 1) 12 (v 9)) 13 (fX2_haltOf (upd (upd v 11 1) 12 (v 9)) fw fc fr (fX2_wordAt v fw fc fr (v 9)))) 14 0) fw fc fr (fX2_wordAt v fw fc fr (v 9)))) fw fc fr (fX2_wordAt v fw fc fr (v 9))), .ref h]) ⟨hx, hb, hml, hown, hts⟩ (kX2_rs2Of l dC dI cI cB h a b c (upd (upd (upd (upd (upd v 11 1) 12 (v 9)) 13 (fX2_haltOf (upd (upd v 11 1) 12 (v 9)) fw fc fr (fX2_wordAt v fw fc fr (v 9)))) 14 0) 15 (fX2_resultOf (upd (upd (upd (upd v 11 1) 12 (v 9)) 13 (fX2_haltOf (upd (upd v 11 1) 12 (v 9)) fw fc fr (fX2_wordAt v fw fc fr (v 9)))) 14 0) fw fc fr (fX2_wordAt v fw fc fr (v 9)))) fw fc fr (fX2_wordAt v fw fc fr (v 9)) ) (cwV 1 hts gX2_endMemory_X2_rs2Of rfl rfl rfl (by decide +kernel) ⟨Nat.le_of_ble_eq_true rfl, Nat.le_of_ble_eq_true rfl⟩) (ro_preV hK hP (ci := 0) (q0 := 0) rfl rfl) rfl rfl hl.1 rfl (lv_room (Nat.le_of_ble_eq_true rfl)) dX2_endMemory_87 ⟨Nat.zero_le _, Nat.zero_le _⟩) hS (fun H locs hk hS => ?_)
        have hP := hk _ _ _ hP
        refine wr_callv (va_runV (As := [.int (fX2_addressOf (upd (upd (upd (upd (upd v 11 1) 12 (v 9)) 13 (fX2_haltOf (upd (upd v 11 1) 12 (v 9)) fw fc fr (fX2_wordAt v fw fc fr (v 9)))) 14 0) 15 (fX2_resultOf (upd (upd (upd (upd v 11 1) 12 (v 9)) 13 (fX2_haltOf (upd (upd v 11 1) 12 (v 9)) fw fc fr (fX2_wordAt v fw fc fr (v 9)))) 14 0) fw fc fr (fX2_wordAt v fw fc fr (v 9)))) fw fc fr (fX2_wordAt v fw fc fr (v 9))), .int (fX1_f3 (fX2_wordAt v fw fc fr (v 9))), .int (fX2_rs2Of (upd (upd (upd (upd (upd v 11 1) 12 (v 9)) 13 (fX2_haltOf (upd (upd v 11 1) 12 (v 9)) fw fc fr (fX2_wordAt v fw fc fr (v 9)))) 14 0) 15 (fX2_resultOf (upd (upd (upd (upd v 11 1) 12 (v 9)) 13 (fX2_haltOf (upd (upd v 11 1) 12 (v 9)) fw fc fr (fX2_wordAt v fw fc fr (v 9)))) 14 0) fw fc fr (fX2_wordAt v fw fc fr (v 9)))) fw fc fr (fX2_wordAt v fw fc fr (v 9)))]) (rest := []) ⟨hx, hb, hml, hown, hts⟩ (kX2_storeAt l dC dI cI cB h a b c _ (upd (upd (upd (upd (upd v 11 1) 12 (v 9)) 13 (fX2_haltOf (upd (upd v 11 1) 12 (v 9)) fw fc fr (fX2_wordAt v fw fc fr (v 9)))) 14 0) 15 (fX2_resultOf (upd (upd (upd (upd v 11 1) 12 (v 9)) 13 (fX2_haltOf (upd (upd v 11 1) 12 (v 9)) fw fc fr (fX2_wordAt v fw fc fr (v 9)))) 14 0) fw fc fr (fX2_wordAt v fw fc fr (v 9)))) fw fc fr (fX2_addressOf (upd (upd (upd (upd (upd v 11 1) 12 (v 9)) 13 (fX2_haltOf (upd (upd v 11 1) 12 (v 9)) fw fc fr (fX2_wordAt v fw fc fr (v 9)))) 14 0) 15 (fX2_resultOf (upd (upd (upd (upd v 11 1) 12 (v 9)) 13 (fX2_haltOf (upd (upd v 11 1) 12 (v 9)) fw fc fr (fX2_wordAt v fw fc fr (v 9)))) 14 0) fw fc fr (fX2_wordAt v fw fc fr (v 9)))) fw fc fr (fX2_wordAt v fw fc fr (v 9))) (fX1_f3 (fX2_wordAt v fw fc fr (v 9))) (fX2_rs2Of (upd (upd (upd (upd (upd v 11 1) 12 (v 9)) 13 (fX2_haltOf (upd (upd v 11 1) 12 (v 9)) fw fc fr (fX2_wordAt v fw fc fr (v 9)))) 14 0) 15 (fX2_resultOf (upd (upd (upd (upd v 11 1) 12 (v 9)) 13 (fX2_haltOf (upd (upd v 11 1) 12 (v 9)) fw fc fr (fX2_wordAt v fw fc fr (v 9)))) 14 0) fw fc fr (fX2_wordAt v fw fc fr (v 9)))) fw fc fr (fX2_wordAt v fw fc fr (v 9))) ) (cwV 3 hts gX2_endMemory_X2_storeAt rfl rfl rfl (by decide +kernel) ⟨Nat.le_of_ble_eq_true rfl, Nat.le_of_ble_eq_true rfl⟩) (wr_preV hK hP hD (ci := 0) (q0 := 0) rfl rfl) rfl rfl hl.1 rfl (lv_room (Nat.le_of_ble_eq_true rfl)) dX2_endMemory_90 ⟨Nat.zero_le _, Nat.zero_le _⟩) hS hA hP hD [0, 1, 2, 3] [] rfl (wr := []) rfl rfl (by decide) (fun H locs hP hD hS => ?_)
        have hP : va_P (dC, dI) vwCl (pwW cI h a b c (upd (upd (upd (upd (upd v 11 1) 12 (v 9)) 13 (fX2_haltOf (upd (upd v 11 1) 12 (v 9)) fw fc fr (fX2_wordAt v fw fc fr (v 9)))) 14 0) 15 (fX2_resultOf (upd (upd (upd (upd v 11 1) 12 (v 9)) 13 (fX2_haltOf (upd (upd v 11 1) 12 (v 9)) fw fc fr (fX2_wordAt v fw fc fr (v 9)))) 14 0) fw fc fr (fX2_wordAt v fw fc fr (v 9)))) fw (fX2_storeAt (upd (upd (upd (upd (upd v 11 1) 12 (v 9)) 13 (fX2_haltOf (upd (upd v 11 1) 12 (v 9)) fw fc fr (fX2_wordAt v fw fc fr (v 9)))) 14 0) 15 (fX2_resultOf (upd (upd (upd (upd v 11 1) 12 (v 9)) 13 (fX2_haltOf (upd (upd v 11 1) 12 (v 9)) fw fc fr (fX2_wordAt v fw fc fr (v 9)))) 14 0) fw fc fr (fX2_wordAt v fw fc fr (v 9)))) fw fc fr (fX2_addressOf (upd (upd (upd (upd (upd v 11 1) 12 (v 9)) 13 (fX2_haltOf (upd (upd v 11 1) 12 (v 9)) fw fc fr (fX2_wordAt v fw fc fr (v 9)))) 14 0) 15 (fX2_resultOf (upd (upd (upd (upd v 11 1) 12 (v 9)) 13 (fX2_haltOf (upd (upd v 11 1) 12 (v 9)) fw fc fr (fX2_wordAt v fw fc fr (v 9)))) 14 0) fw fc fr (fX2_wordAt v fw fc fr (v 9)))) fw fc fr (fX2_wordAt v fw fc fr (v 9))) (fX1_f3 (fX2_wordAt v fw fc fr (v 9))) (fX2_rs2Of (upd (upd (upd (upd (upd v 11 1) 12 (v 9)) 13 (fX2_haltOf (upd (upd v 11 1) 12 (v 9)) fw fc fr (fX2_wordAt v fw fc fr (v 9)))) 14 0) 15 (fX2_resultOf (upd (upd (upd (upd v 11 1) 12 (v 9)) 13 (fX2_haltOf (upd (upd v 11 1) 12 (v 9)) fw fc fr (fX2_wordAt v fw fc fr (v 9)))) 14 0) fw fc fr (fX2_wordAt v fw fc fr (v 9)))) fw fc fr (fX2_wordAt v fw fc fr (v 9)))) fr) H := hP
        have hD : va_D A (pwW cI h a b c (upd (upd (upd (upd (upd v 11 1) 12 (v 9)) 13 (fX2_haltOf (upd (upd v 11 1) 12 (v 9)) fw fc fr (fX2_wordAt v fw fc fr (v 9)))) 14 0) 15 (fX2_resultOf (upd (upd (upd (upd v 11 1) 12 (v 9)) 13 (fX2_haltOf (upd (upd v 11 1) 12 (v 9)) fw fc fr (fX2_wordAt v fw fc fr (v 9)))) 14 0) fw fc fr (fX2_wordAt v fw fc fr (v 9)))) fw (fX2_storeAt (upd (upd (upd (upd (upd v 11 1) 12 (v 9)) 13 (fX2_haltOf (upd (upd v 11 1) 12 (v 9)) fw fc fr (fX2_wordAt v fw fc fr (v 9)))) 14 0) 15 (fX2_resultOf (upd (upd (upd (upd v 11 1) 12 (v 9)) 13 (fX2_haltOf (upd (upd v 11 1) 12 (v 9)) fw fc fr (fX2_wordAt v fw fc fr (v 9)))) 14 0) fw fc fr (fX2_wordAt v fw fc fr (v 9)))) fw fc fr (fX2_addressOf (upd (upd (upd (upd (upd v 11 1) 12 (v 9)) 13 (fX2_haltOf (upd (upd v 11 1) 12 (v 9)) fw fc fr (fX2_wordAt v fw fc fr (v 9)))) 14 0) 15 (fX2_resultOf (upd (upd (upd (upd v 11 1) 12 (v 9)) 13 (fX2_haltOf (upd (upd v 11 1) 12 (v 9)) fw fc fr (fX2_wordAt v fw fc fr (v 9)))) 14 0) fw fc fr (fX2_wordAt v fw fc fr (v 9)))) fw fc fr (fX2_wordAt v fw fc fr (v 9))) (fX1_f3 (fX2_wordAt v fw fc fr (v 9))) (fX2_rs2Of (upd (upd (upd (upd (upd v 11 1) 12 (v 9)) 13 (fX2_haltOf (upd (upd v 11 1) 12 (v 9)) fw fc fr (fX2_wordAt v fw fc fr (v 9)))) 14 0) 15 (fX2_resultOf (upd (upd (upd (upd v 11 1) 12 (v 9)) 13 (fX2_haltOf (upd (upd v 11 1) 12 (v 9)) fw fc fr (fX2_wordAt v fw fc fr (v 9)))) 14 0) fw fc fr (fX2_wordAt v fw fc fr (v 9)))) fw fc fr (fX2_wordAt v fw fc fr (v 9)))) fr) := hD
        refine lv_aload_n hx hb dX2_endMemory_93 rfl (lv_at hl 1 rfl) ?_
        refine lv_iload_n hx hb dX2_endMemory_94 rfl (lv_at hl 0 rfl) ?_
        refine wr_callv (va_runV (As := [.int (fX2_wordAt v fw fc fr (v 9))]) (rest := []) ⟨hx, hb, hml, hown, hts⟩ (kX2_goOn l dC dI cI cB h a b c _ (upd (upd (upd (upd (upd v 11 1) 12 (v 9)) 13 (fX2_haltOf (upd (upd v 11 1) 12 (v 9)) fw fc fr (fX2_wordAt v fw fc fr (v 9)))) 14 0) 15 (fX2_resultOf (upd (upd (upd (upd v 11 1) 12 (v 9)) 13 (fX2_haltOf (upd (upd v 11 1) 12 (v 9)) fw fc fr (fX2_wordAt v fw fc fr (v 9)))) 14 0) fw fc fr (fX2_wordAt v fw fc fr (v 9)))) fw (fX2_storeAt (upd (upd (upd (upd (upd v 11 1) 12 (v 9)) 13 (fX2_haltOf (upd (upd v 11 1) 12 (v 9)) fw fc fr (fX2_wordAt v fw fc fr (v 9)))) 14 0) 15 (fX2_resultOf (upd (upd (upd (upd v 11 1) 12 (v 9)) 13 (fX2_haltOf (upd (upd v 11 1) 12 (v 9)) fw fc fr (fX2_wordAt v fw fc fr (v 9)))) 14 0) fw fc fr (fX2_wordAt v fw fc fr (v 9)))) fw fc fr (fX2_addressOf (upd (upd (upd (upd (upd v 11 1) 12 (v 9)) 13 (fX2_haltOf (upd (upd v 11 1) 12 (v 9)) fw fc fr (fX2_wordAt v fw fc fr (v 9)))) 14 0) 15 (fX2_resultOf (upd (upd (upd (upd v 11 1) 12 (v 9)) 13 (fX2_haltOf (upd (upd v 11 1) 12 (v 9)) fw fc fr (fX2_wordAt v fw fc fr (v 9)))) 14 0) fw fc fr (fX2_wordAt v fw fc fr (v 9)))) fw fc fr (fX2_wordAt v fw fc fr (v 9))) (fX1_f3 (fX2_wordAt v fw fc fr (v 9))) (fX2_rs2Of (upd (upd (upd (upd (upd v 11 1) 12 (v 9)) 13 (fX2_haltOf (upd (upd v 11 1) 12 (v 9)) fw fc fr (fX2_wordAt v fw fc fr (v 9)))) 14 0) 15 (fX2_resultOf (upd (upd (upd (upd v 11 1) 12 (v 9)) 13 (fX2_haltOf (upd (upd v 11 1) 12 (v 9)) fw fc fr (fX2_wordAt v fw fc fr (v 9)))) 14 0) fw fc fr (fX2_wordAt v fw fc fr (v 9)))) fw fc fr (fX2_wordAt v fw fc fr (v 9)))) fr (fX2_wordAt v fw fc fr (v 9)) ) (cwV 1 hts gX2_endMemory_X2_goOn rfl rfl rfl (by decide +kernel) ⟨Nat.le_of_ble_eq_true rfl, Nat.le_of_ble_eq_true rfl⟩) (wr_preV hK hP hD (ci := 0) (q0 := 0) rfl rfl) rfl rfl hl.1 rfl (lv_room (Nat.le_of_ble_eq_true rfl)) dX2_endMemory_95 ⟨Nat.zero_le _, Nat.zero_le _⟩) hS hA hP hD [0, 1, 2, 3] [] rfl (wr := []) rfl rfl (by decide) (fun H locs hP hD hS => ?_)
        have hP : va_P (dC, dI) vwCl (pwW cI h a b c (fX2_goOn (upd (upd (upd (upd (upd v 11 1) 12 (v 9)) 13 (fX2_haltOf (upd (upd v 11 1) 12 (v 9)) fw fc fr (fX2_wordAt v fw fc fr (v 9)))) 14 0) 15 (fX2_resultOf (upd (upd (upd (upd v 11 1) 12 (v 9)) 13 (fX2_haltOf (upd (upd v 11 1) 12 (v 9)) fw fc fr (fX2_wordAt v fw fc fr (v 9)))) 14 0) fw fc fr (fX2_wordAt v fw fc fr (v 9)))) fw (fX2_storeAt (upd (upd (upd (upd (upd v 11 1) 12 (v 9)) 13 (fX2_haltOf (upd (upd v 11 1) 12 (v 9)) fw fc fr (fX2_wordAt v fw fc fr (v 9)))) 14 0) 15 (fX2_resultOf (upd (upd (upd (upd v 11 1) 12 (v 9)) 13 (fX2_haltOf (upd (upd v 11 1) 12 (v 9)) fw fc fr (fX2_wordAt v fw fc fr (v 9)))) 14 0) fw fc fr (fX2_wordAt v fw fc fr (v 9)))) fw fc fr (fX2_addressOf (upd (upd (upd (upd (upd v 11 1) 12 (v 9)) 13 (fX2_haltOf (upd (upd v 11 1) 12 (v 9)) fw fc fr (fX2_wordAt v fw fc fr (v 9)))) 14 0) 15 (fX2_resultOf (upd (upd (upd (upd v 11 1) 12 (v 9)) 13 (fX2_haltOf (upd (upd v 11 1) 12 (v 9)) fw fc fr (fX2_wordAt v fw fc fr (v 9)))) 14 0) fw fc fr (fX2_wordAt v fw fc fr (v 9)))) fw fc fr (fX2_wordAt v fw fc fr (v 9))) (fX1_f3 (fX2_wordAt v fw fc fr (v 9))) (fX2_rs2Of (upd (upd (upd (upd (upd v 11 1) 12 (v 9)) 13 (fX2_haltOf (upd (upd v 11 1) 12 (v 9)) fw fc fr (fX2_wordAt v fw fc fr (v 9)))) 14 0) 15 (fX2_resultOf (upd (upd (upd (upd v 11 1) 12 (v 9)) 13 (fX2_haltOf (upd (upd v 11 1) 12 (v 9)) fw fc fr (fX2_wordAt v fw fc fr (v 9)))) 14 0) fw fc fr (fX2_wordAt v fw fc fr (v 9)))) fw fc fr (fX2_wordAt v fw fc fr (v 9)))) fr (fX2_wordAt v fw fc fr (v 9))) fw (fX2_storeAt (upd (upd (upd (upd (upd v 11 1) 12 (v 9)) 13 (fX2_haltOf (upd (upd v 11 1) 12 (v 9)) fw fc fr (fX2_wordAt v fw fc fr (v 9)))) 14 0) 15 (fX2_resultOf (upd (upd (upd (upd v 11 1) 12 (v 9)) 13 (fX2_haltOf (upd (upd v 11 1) 12 (v 9)) fw fc fr (fX2_wordAt v fw fc fr (v 9)))) 14 0) fw fc fr (fX2_wordAt v fw fc fr (v 9)))) fw fc fr (fX2_addressOf (upd (upd (upd (upd (upd v 11 1) 12 (v 9)) 13 (fX2_haltOf (upd (upd v 11 1) 12 (v 9)) fw fc fr (fX2_wordAt v fw fc fr (v 9)))) 14 0) 15 (fX2_resultOf (upd (upd (upd (upd v 11 1) 12 (v 9)) 13 (fX2_haltOf (upd (upd v 11 1) 12 (v 9)) fw fc fr (fX2_wordAt v fw fc fr (v 9)))) 14 0) fw fc fr (fX2_wordAt v fw fc fr (v 9)))) fw fc fr (fX2_wordAt v fw fc fr (v 9))) (fX1_f3 (fX2_wordAt v fw fc fr (v 9))) (fX2_rs2Of (upd (upd (upd (upd (upd v 11 1) 12 (v 9)) 13 (fX2_haltOf (upd (upd v 11 1) 12 (v 9)) fw fc fr (fX2_wordAt v fw fc fr (v 9)))) 14 0) 15 (fX2_resultOf (upd (upd (upd (upd v 11 1) 12 (v 9)) 13 (fX2_haltOf (upd (upd v 11 1) 12 (v 9)) fw fc fr (fX2_wordAt v fw fc fr (v 9)))) 14 0) fw fc fr (fX2_wordAt v fw fc fr (v 9)))) fw fc fr (fX2_wordAt v fw fc fr (v 9)))) fr) H := hP
        have hD : va_D A (pwW cI h a b c (fX2_goOn (upd (upd (upd (upd (upd v 11 1) 12 (v 9)) 13 (fX2_haltOf (upd (upd v 11 1) 12 (v 9)) fw fc fr (fX2_wordAt v fw fc fr (v 9)))) 14 0) 15 (fX2_resultOf (upd (upd (upd (upd v 11 1) 12 (v 9)) 13 (fX2_haltOf (upd (upd v 11 1) 12 (v 9)) fw fc fr (fX2_wordAt v fw fc fr (v 9)))) 14 0) fw fc fr (fX2_wordAt v fw fc fr (v 9)))) fw (fX2_storeAt (upd (upd (upd (upd (upd v 11 1) 12 (v 9)) 13 (fX2_haltOf (upd (upd v 11 1) 12 (v 9)) fw fc fr (fX2_wordAt v fw fc fr (v 9)))) 14 0) 15 (fX2_resultOf (upd (upd (upd (upd v 11 1) 12 (v 9)) 13 (fX2_haltOf (upd (upd v 11 1) 12 (v 9)) fw fc fr (fX2_wordAt v fw fc fr (v 9)))) 14 0) fw fc fr (fX2_wordAt v fw fc fr (v 9)))) fw fc fr (fX2_addressOf (upd (upd (upd (upd (upd v 11 1) 12 (v 9)) 13 (fX2_haltOf (upd (upd v 11 1) 12 (v 9)) fw fc fr (fX2_wordAt v fw fc fr (v 9)))) 14 0) 15 (fX2_resultOf (upd (upd (upd (upd v 11 1) 12 (v 9)) 13 (fX2_haltOf (upd (upd v 11 1) 12 (v 9)) fw fc fr (fX2_wordAt v fw fc fr (v 9)))) 14 0) fw fc fr (fX2_wordAt v fw fc fr (v 9)))) fw fc fr (fX2_wordAt v fw fc fr (v 9))) (fX1_f3 (fX2_wordAt v fw fc fr (v 9))) (fX2_rs2Of (upd (upd (upd (upd (upd v 11 1) 12 (v 9)) 13 (fX2_haltOf (upd (upd v 11 1) 12 (v 9)) fw fc fr (fX2_wordAt v fw fc fr (v 9)))) 14 0) 15 (fX2_resultOf (upd (upd (upd (upd v 11 1) 12 (v 9)) 13 (fX2_haltOf (upd (upd v 11 1) 12 (v 9)) fw fc fr (fX2_wordAt v fw fc fr (v 9)))) 14 0) fw fc fr (fX2_wordAt v fw fc fr (v 9)))) fw fc fr (fX2_wordAt v fw fc fr (v 9)))) fr (fX2_wordAt v fw fc fr (v 9))) fw (fX2_storeAt (upd (upd (upd (upd (upd v 11 1) 12 (v 9)) 13 (fX2_haltOf (upd (upd v 11 1) 12 (v 9)) fw fc fr (fX2_wordAt v fw fc fr (v 9)))) 14 0) 15 (fX2_resultOf (upd (upd (upd (upd v 11 1) 12 (v 9)) 13 (fX2_haltOf (upd (upd v 11 1) 12 (v 9)) fw fc fr (fX2_wordAt v fw fc fr (v 9)))) 14 0) fw fc fr (fX2_wordAt v fw fc fr (v 9)))) fw fc fr (fX2_addressOf (upd (upd (upd (upd (upd v 11 1) 12 (v 9)) 13 (fX2_haltOf (upd (upd v 11 1) 12 (v 9)) fw fc fr (fX2_wordAt v fw fc fr (v 9)))) 14 0) 15 (fX2_resultOf (upd (upd (upd (upd v 11 1) 12 (v 9)) 13 (fX2_haltOf (upd (upd v 11 1) 12 (v 9)) fw fc fr (fX2_wordAt v fw fc fr (v 9)))) 14 0) fw fc fr (fX2_wordAt v fw fc fr (v 9)))) fw fc fr (fX2_wordAt v fw fc fr (v 9))) (fX1_f3 (fX2_wordAt v fw fc fr (v 9))) (fX2_rs2Of (upd (upd (upd (upd (upd v 11 1) 12 (v 9)) 13 (fX2_haltOf (upd (upd v 11 1) 12 (v 9)) fw fc fr (fX2_wordAt v fw fc fr (v 9)))) 14 0) 15 (fX2_resultOf (upd (upd (upd (upd v 11 1) 12 (v 9)) 13 (fX2_haltOf (upd (upd v 11 1) 12 (v 9)) fw fc fr (fX2_wordAt v fw fc fr (v 9)))) 14 0) fw fc fr (fX2_wordAt v fw fc fr (v 9)))) fw fc fr (fX2_wordAt v fw fc fr (v 9)))) fr) := hD
        have e9 : fX2_endMemory v fw fc fr = (fX2_goOn (upd (upd (upd (upd (upd v 11 1) 12 (v 9)) 13 (fX2_haltOf (upd (upd v 11 1) 12 (v 9)) fw fc fr (fX2_wordAt v fw fc fr (v 9)))) 14 0) 15 (fX2_resultOf (upd (upd (upd (upd v 11 1) 12 (v 9)) 13 (fX2_haltOf (upd (upd v 11 1) 12 (v 9)) fw fc fr (fX2_wordAt v fw fc fr (v 9)))) 14 0) fw fc fr (fX2_wordAt v fw fc fr (v 9)))) fw (fX2_storeAt (upd (upd (upd (upd (upd v 11 1) 12 (v 9)) 13 (fX2_haltOf (upd (upd v 11 1) 12 (v 9)) fw fc fr (fX2_wordAt v fw fc fr (v 9)))) 14 0) 15 (fX2_resultOf (upd (upd (upd (upd v 11 1) 12 (v 9)) 13 (fX2_haltOf (upd (upd v 11 1) 12 (v 9)) fw fc fr (fX2_wordAt v fw fc fr (v 9)))) 14 0) fw fc fr (fX2_wordAt v fw fc fr (v 9)))) fw fc fr (fX2_addressOf (upd (upd (upd (upd (upd v 11 1) 12 (v 9)) 13 (fX2_haltOf (upd (upd v 11 1) 12 (v 9)) fw fc fr (fX2_wordAt v fw fc fr (v 9)))) 14 0) 15 (fX2_resultOf (upd (upd (upd (upd v 11 1) 12 (v 9)) 13 (fX2_haltOf (upd (upd v 11 1) 12 (v 9)) fw fc fr (fX2_wordAt v fw fc fr (v 9)))) 14 0) fw fc fr (fX2_wordAt v fw fc fr (v 9)))) fw fc fr (fX2_wordAt v fw fc fr (v 9))) (fX1_f3 (fX2_wordAt v fw fc fr (v 9))) (fX2_rs2Of (upd (upd (upd (upd (upd v 11 1) 12 (v 9)) 13 (fX2_haltOf (upd (upd v 11 1) 12 (v 9)) fw fc fr (fX2_wordAt v fw fc fr (v 9)))) 14 0) 15 (fX2_resultOf (upd (upd (upd (upd v 11 1) 12 (v 9)) 13 (fX2_haltOf (upd (upd v 11 1) 12 (v 9)) fw fc fr (fX2_wordAt v fw fc fr (v 9)))) 14 0) fw fc fr (fX2_wordAt v fw fc fr (v 9)))) fw fc fr (fX2_wordAt v fw fc fr (v 9)))) fr (fX2_wordAt v fw fc fr (v 9)), fX2_storeAt (upd (upd (upd (upd (upd v 11 1) 12 (v 9)) 13 (fX2_haltOf (upd (upd v 11 1) 12 (v 9)) fw fc fr (fX2_wordAt v fw fc fr (v 9)))) 14 0) 15 (fX2_resultOf (upd (upd (upd (upd v 11 1) 12 (v 9)) 13 (fX2_haltOf (upd (upd v 11 1) 12 (v 9)) fw fc fr (fX2_wordAt v fw fc fr (v 9)))) 14 0) fw fc fr (fX2_wordAt v fw fc fr (v 9)))) fw fc fr (fX2_addressOf (upd (upd (upd (upd (upd v 11 1) 12 (v 9)) 13 (fX2_haltOf (upd (upd v 11 1) 12 (v 9)) fw fc fr (fX2_wordAt v fw fc fr (v 9)))) 14 0) 15 (fX2_resultOf (upd (upd (upd (upd v 11 1) 12 (v 9)) 13 (fX2_haltOf (upd (upd v 11 1) 12 (v 9)) fw fc fr (fX2_wordAt v fw fc fr (v 9)))) 14 0) fw fc fr (fX2_wordAt v fw fc fr (v 9)))) fw fc fr (fX2_wordAt v fw fc fr (v 9))) (fX1_f3 (fX2_wordAt v fw fc fr (v 9))) (fX2_rs2Of (upd (upd (upd (upd (upd v 11 1) 12 (v 9)) 13 (fX2_haltOf (upd (upd v 11 1) 12 (v 9)) fw fc fr (fX2_wordAt v fw fc fr (v 9)))) 14 0) 15 (fX2_resultOf (upd (upd (upd (upd v 11 1) 12 (v 9)) 13 (fX2_haltOf (upd (upd v 11 1) 12 (v 9)) fw fc fr (fX2_wordAt v fw fc fr (v 9)))) 14 0) fw fc fr (fX2_wordAt v fw fc fr (v 9)))) fw fc fr (fX2_wordAt v fw fc fr (v 9)))) := by rw [fX2_endMemory, if_pos c_35, if_pos c_43, if_pos c_72]
        exact W.vret hx hb hr (fun t ht hW => wr_endv (hAe ▸ hS) ht (by rw [e9]; exact hP) (by rw [e9, hAe]; exact hD)) hS.2.2 dX2_endMemory_98
    ·
      refine lv_iload_n hx hb dX2_endMemory_46 rfl (lv_at hl 0 rfl) ?_
      refine ro_call (va_runS (As := [.int (fX2_wordAt v fw fc fr (v 9))]) (rest := [.ref h]) ⟨hx, hb, hml, hown, hts⟩ (kX1_rd l (fX2_wordAt v fw fc fr (v 9)) ) (va_cwS 1 hts gX2_endMemory_X1_rd rfl rfl rfl (by decide +kernel) ⟨Nat.le_of_ble_eq_true rfl, Nat.le_of_ble_eq_true rfl⟩) pu_preS rfl rfl hl.1 rfl (lv_room (Nat.le_of_ble_eq_true rfl)) dX2_endMemory_47 ⟨Nat.zero_le _, Nat.zero_le _⟩) hS (fun H locs hk hS => ?_)
      have hP := hk _ _ _ hP
      refine lv_goto (tgt := 54) hx hb dX2_endMemory_50 (by decide) ?_
      refine va_put (D := (dC, dI)) (ci := 0) (v := .int (fX1_rd (fX2_wordAt v fw fc fr (v 9)))) (ty := .int) (C := RX2) (T := TX2) (N := 16) hx hb hts hin tyX2 tyX2_ok nmX2 hown hK hP hD hS 0 rfl rfl 14 (by decide) hf_85 (fun _ h9 => h9) rfl (by decide +kernel) rfl rfl (Nat.le_of_ble_eq_true rfl) dX2_endMemory_54 (fun H locs hP hD hS => ?_)
      have hP : va_P (dC, dI) vwCl (pwW cI h a b c (upd (upd (upd (upd v 11 1) 12 (v 9)) 13 (fX2_haltOf (upd (upd v 11 1) 12 (v 9)) fw fc fr (fX2_wordAt v fw fc fr (v 9)))) 14 (fX1_rd (fX2_wordAt v fw fc fr (v 9)))) fw fc fr) H := hP
      have hD : va_D A (pwW cI h a b c (upd (upd (upd (upd v 11 1) 12 (v 9)) 13 (fX2_haltOf (upd (upd v 11 1) 12 (v 9)) fw fc fr (fX2_wordAt v fw fc fr (v 9)))) 14 (fX1_rd (fX2_wordAt v fw fc fr (v 9)))) fw fc fr) := hD
      refine lv_aload_n hx hb dX2_endMemory_57 rfl (lv_at hl 1 rfl) ?_
      refine lv_aload_n hx hb dX2_endMemory_58 rfl (lv_at hl 1 rfl) ?_
      refine lv_iload_n hx hb dX2_endMemory_59 rfl (lv_at hl 0 rfl) ?_
      refine ro_call (va_runV (As := [.int (fX2_wordAt v fw fc fr (v 9))]) (rest := [.ref h]) ⟨hx, hb, hml, hown, hts⟩ (kX2_resultOf l dC dI cI cB h a b c (upd (upd (upd (upd v 11 1) 12 (v 9)) 13 (fX2_haltOf (upd (upd v 11 1) 12 (v 9)) fw fc fr (fX2_wordAt v fw fc fr (v 9)))) 14 (fX1_rd (fX2_wordAt v fw fc fr (v 9)))) fw fc fr (fX2_wordAt v fw fc fr (v 9)) ) (cwV 1 hts gX2_endMemory_X2_resultOf rfl rfl rfl (by decide +kernel) ⟨Nat.le_of_ble_eq_true rfl, Nat.le_of_ble_eq_true rfl⟩) (ro_preV hK hP (ci := 0) (q0 := 0) rfl rfl) rfl rfl hl.1 rfl (lv_room (Nat.le_of_ble_eq_true rfl)) dX2_endMemory_60 ⟨Nat.zero_le _, Nat.zero_le _⟩) hS (fun H locs hk hS => ?_)
      have hP := hk _ _ _ hP
      refine va_put (D := (dC, dI)) (ci := 0) (v := .int (fX2_resultOf (upd (upd (upd (upd v 11 1) 12 (v 9)) 13 (fX2_haltOf (upd (upd v 11 1) 12 (v 9)) fw fc fr (fX2_wordAt v fw fc fr (v 9)))) 14 (fX1_rd (fX2_wordAt v fw fc fr (v 9)))) fw fc fr (fX2_wordAt v fw fc fr (v 9)))) (ty := .int) (C := RX2) (T := TX2) (N := 16) hx hb hts hin tyX2 tyX2_ok nmX2 hown hK hP hD hS 0 rfl rfl 15 (by decide) hf_88 (fun _ h9 => h9) rfl (by decide +kernel) rfl rfl (Nat.le_of_ble_eq_true rfl) dX2_endMemory_63 (fun H locs hP hD hS => ?_)
      have hP : va_P (dC, dI) vwCl (pwW cI h a b c (upd (upd (upd (upd (upd v 11 1) 12 (v 9)) 13 (fX2_haltOf (upd (upd v 11 1) 12 (v 9)) fw fc fr (fX2_wordAt v fw fc fr (v 9)))) 14 (fX1_rd (fX2_wordAt v fw fc fr (v 9)))) 15 (fX2_resultOf (upd (upd (upd (upd v 11 1) 12 (v 9)) 13 (fX2_haltOf (upd (upd v 11 1) 12 (v 9)) fw fc fr (fX2_wordAt v fw fc fr (v 9)))) 14 (fX1_rd (fX2_wordAt v fw fc fr (v 9)))) fw fc fr (fX2_wordAt v fw fc fr (v 9)))) fw fc fr) H := hP
      have hD : va_D A (pwW cI h a b c (upd (upd (upd (upd (upd v 11 1) 12 (v 9)) 13 (fX2_haltOf (upd (upd v 11 1) 12 (v 9)) fw fc fr (fX2_wordAt v fw fc fr (v 9)))) 14 (fX1_rd (fX2_wordAt v fw fc fr (v 9)))) 15 (fX2_resultOf (upd (upd (upd (upd v 11 1) 12 (v 9)) 13 (fX2_haltOf (upd (upd v 11 1) 12 (v 9)) fw fc fr (fX2_wordAt v fw fc fr (v 9)))) 14 (fX1_rd (fX2_wordAt v fw fc fr (v 9)))) fw fc fr (fX2_wordAt v fw fc fr (v 9)))) fw fc fr) := hD
      refine lv_iload_n hx hb dX2_endMemory_66 rfl (lv_at hl 0 rfl) ?_
      refine ro_call (va_runS (As := [.int (fX2_wordAt v fw fc fr (v 9))]) (rest := []) ⟨hx, hb, hml, hown, hts⟩ (kX1_opcode l (fX2_wordAt v fw fc fr (v 9)) ) (va_cwS 1 hts gX2_endMemory_X1_opcode rfl rfl rfl (by decide +kernel) ⟨Nat.le_of_ble_eq_true rfl, Nat.le_of_ble_eq_true rfl⟩) pu_preS rfl rfl hl.1 rfl (lv_room (Nat.le_of_ble_eq_true rfl)) dX2_endMemory_67 ⟨Nat.zero_le _, Nat.zero_le _⟩) hS (fun H locs hk hS => ?_)
      have hP := hk _ _ _ hP
      refine lv_bipush (v := 35) hx hb dX2_endMemory_70 (by decide) ?_
      refine lv_icmp_ne (tgt := 93) hx hb dX2_endMemory_72 (by decide) (fun c_72 => ?_) (fun c_72 => ?_)
      ·
        refine lv_aload_n hx hb dX2_endMemory_93 rfl (lv_at hl 1 rfl) ?_
        refine lv_iload_n hx hb dX2_endMemory_94 rfl (lv_at hl 0 rfl) ?_
        refine wr_callv (va_runV (As := [.int (fX2_wordAt v fw fc fr (v 9))]) (rest := []) ⟨hx, hb, hml, hown, hts⟩ (kX2_goOn l dC dI cI cB h a b c _ (upd (upd (upd (upd (upd v 11 1) 12 (v 9)) 13 (fX2_haltOf (upd (upd v 11 1) 12 (v 9)) fw fc fr (fX2_wordAt v fw fc fr (v 9)))) 14 (fX1_rd (fX2_wordAt v fw fc fr (v 9)))) 15 (fX2_resultOf (upd (upd (upd (upd v 11 1) 12 (v 9)) 13 (fX2_haltOf (upd (upd v 11 1) 12 (v 9)) fw fc fr (fX2_wordAt v fw fc fr (v 9)))) 14 (fX1_rd (fX2_wordAt v fw fc fr (v 9)))) fw fc fr (fX2_wordAt v fw fc fr (v 9)))) fw fc fr (fX2_wordAt v fw fc fr (v 9)) ) (cwV 1 hts gX2_endMemory_X2_goOn rfl rfl rfl (by decide +kernel) ⟨Nat.le_of_ble_eq_true rfl, Nat.le_of_ble_eq_true rfl⟩) (wr_preV hK hP hD (ci := 0) (q0 := 0) rfl rfl) rfl rfl hl.1 rfl (lv_room (Nat.le_of_ble_eq_true rfl)) dX2_endMemory_95 ⟨Nat.zero_le _, Nat.zero_le _⟩) hS hA hP hD [0, 1, 2, 3] [] rfl (wr := []) rfl rfl (by decide) (fun H locs hP hD hS => ?_)
        have hP : va_P (dC, dI) vwCl (pwW cI h a b c (fX2_goOn (upd (upd (upd (upd (upd v 11 1) 12 (v 9)) 13 (fX2_haltOf (upd (upd v 11 1) 12 (v 9)) fw fc fr (fX2_wordAt v fw fc fr (v 9)))) 14 (fX1_rd (fX2_wordAt v fw fc fr (v 9)))) 15 (fX2_resultOf (upd (upd (upd (upd v 11 1) 12 (v 9)) 13 (fX2_haltOf (upd (upd v 11 1) 12 (v 9)) fw fc fr (fX2_wordAt v fw fc fr (v 9)))) 14 (fX1_rd (fX2_wordAt v fw fc fr (v 9)))) fw fc fr (fX2_wordAt v fw fc fr (v 9)))) fw fc fr (fX2_wordAt v fw fc fr (v 9))) fw fc fr) H := hP
        have hD : va_D A (pwW cI h a b c (fX2_goOn (upd (upd (upd (upd (upd v 11 1) 12 (v 9)) 13 (fX2_haltOf (upd (upd v 11 1) 12 (v 9)) fw fc fr (fX2_wordAt v fw fc fr (v 9)))) 14 (fX1_rd (fX2_wordAt v fw fc fr (v 9)))) 15 (fX2_resultOf (upd (upd (upd (upd v 11 1) 12 (v 9)) 13 (fX2_haltOf (upd (upd v 11 1) 12 (v 9)) fw fc fr (fX2_wordAt v fw fc fr (v 9)))) 14 (fX1_rd (fX2_wordAt v fw fc fr (v 9)))) fw fc fr (fX2_wordAt v fw fc fr (v 9)))) fw fc fr (fX2_wordAt v fw fc fr (v 9))) fw fc fr) := hD
        have e9 : fX2_endMemory v fw fc fr = (fX2_goOn (upd (upd (upd (upd (upd v 11 1) 12 (v 9)) 13 (fX2_haltOf (upd (upd v 11 1) 12 (v 9)) fw fc fr (fX2_wordAt v fw fc fr (v 9)))) 14 (fX1_rd (fX2_wordAt v fw fc fr (v 9)))) 15 (fX2_resultOf (upd (upd (upd (upd v 11 1) 12 (v 9)) 13 (fX2_haltOf (upd (upd v 11 1) 12 (v 9)) fw fc fr (fX2_wordAt v fw fc fr (v 9)))) 14 (fX1_rd (fX2_wordAt v fw fc fr (v 9)))) fw fc fr (fX2_wordAt v fw fc fr (v 9)))) fw fc fr (fX2_wordAt v fw fc fr (v 9)), fc) := by rw [fX2_endMemory, if_pos c_35, if_neg c_43, if_neg c_72]
        exact W.vret hx hb hr (fun t ht hW => wr_endv (hAe ▸ hS) ht (by rw [e9]; exact hP) (by rw [e9, hAe]; exact hD)) hS.2.2 dX2_endMemory_98
      ·
        refine lv_aload_n hx hb dX2_endMemory_75 rfl (lv_at hl 1 rfl) ?_
        refine lv_aload_n hx hb dX2_endMemory_76 rfl (lv_at hl 1 rfl) ?_
        refine lv_iload_n hx hb dX2_endMemory_77 rfl (lv_at hl 0 rfl) ?_
        refine ro_call (va_runV (As := [.int (fX2_wordAt v fw fc fr (v 9))]) (rest := [.ref h]) ⟨hx, hb, hml, hown, hts⟩ (kX2_addressOf l dC dI cI cB h a b c (upd (upd (upd (upd (upd v 11 1) 12 (v 9)) 13 (fX2_haltOf (upd (upd v 11 1) 12 (v 9)) fw fc fr (fX2_wordAt v fw fc fr (v 9)))) 14 (fX1_rd (fX2_wordAt v fw fc fr (v 9)))) 15 (fX2_resultOf (upd (upd (upd (upd v 11 1) 12 (v 9)) 13 (fX2_haltOf (upd (upd v 11 1) 12 (v 9)) fw fc fr (fX2_wordAt v fw fc fr (v 9)))) 14 (fX1_rd (fX2_wordAt v fw fc fr (v 9)))) fw fc fr (fX2_wordAt v fw fc fr (v 9)))) fw fc fr (fX2_wordAt v fw fc fr (v 9)) ) (cwV 1 hts gX2_endMemory_X2_addressOf rfl rfl rfl (by decide +kernel) ⟨Nat.le_of_ble_eq_true rfl, Nat.le_of_ble_eq_true rfl⟩) (ro_preV hK hP (ci := 0) (q0 := 0) rfl rfl) rfl rfl hl.1 rfl (lv_room (Nat.le_of_ble_eq_true rfl)) dX2_endMemory_78 ⟨Nat.zero_le _, Nat.zero_le _⟩) hS (fun H locs hk hS => ?_)
        have hP := hk _ _ _ hP
        refine lv_iload_n hx hb dX2_endMemory_81 rfl (lv_at hl 0 rfl) ?_
        refine ro_call (va_runS (As := [.int (fX2_wordAt v fw fc fr (v 9))]) (rest := [.int (fX2_addressOf (upd (upd (upd (upd (upd v 11 1) 12 (v 9)) 13 (fX2_haltOf (upd (upd v 11 1) 12 (v 9)) fw fc fr (fX2_wordAt v fw fc fr (v 9)))) 14 (fX1_rd (fX2_wordAt v fw fc fr (v 9)))) 15 (fX2_resultOf (upd (upd (upd (upd v 11 1) 12 (v 9)) 13 (fX2_haltOf (upd (upd v 11 1) 12 (v 9)) fw fc fr (fX2_wordAt v fw fc fr (v 9)))) 14 (fX1_rd (fX2_wordAt v fw fc fr (v 9)))) fw fc fr (fX2_wordAt v fw fc fr (v 9)))) fw fc fr (fX2_wordAt v fw fc fr (v 9))), .ref h]) ⟨hx, hb, hml, hown, hts⟩ (kX1_f3 l (fX2_wordAt v fw fc fr (v 9)) ) (va_cwS 1 hts gX2_endMemory_X1_f3 rfl rfl rfl (by decide +kernel) ⟨Nat.le_of_ble_eq_true rfl, Nat.le_of_ble_eq_true rfl⟩) pu_preS rfl rfl hl.1 rfl (lv_room (Nat.le_of_ble_eq_true rfl)) dX2_endMemory_82 ⟨Nat.zero_le _, Nat.zero_le _⟩) hS (fun H locs hk hS => ?_)
        have hP := hk _ _ _ hP
        refine lv_aload_n hx hb dX2_endMemory_85 rfl (lv_at hl 1 rfl) ?_
        refine lv_iload_n hx hb dX2_endMemory_86 rfl (lv_at hl 0 rfl) ?_
        refine ro_call (va_runV (As := [.int (fX2_wordAt v fw fc fr (v 9))]) (rest := [.int (fX1_f3 (fX2_wordAt v fw fc fr (v 9))), .int (fX2_addressOf (upd (upd (upd (upd (upd v 11 1) 12 (v 9)) 13 (fX2_haltOf (upd (upd v 11 1) 12 (v 9)) fw fc fr (fX2_wordAt v fw fc fr (v 9)))) 14 (fX1_rd (fX2_wordAt v fw fc fr (v 9)))) 15 (fX2_resultOf (upd (upd (upd (upd v 11 1) 12 (v 9)) 13 (fX2_haltOf (upd (upd v 11 1) 12 (v 9)) fw fc fr (fX2_wordAt v fw fc fr (v 9)))) 14 (fX1_rd (fX2_wordAt v fw fc fr (v 9)))) fw fc fr (fX2_wordAt v fw fc fr (v 9)))) fw fc fr (fX2_wordAt v fw fc fr (v 9))), .ref h]) ⟨hx, hb, hml, hown, hts⟩ (kX2_rs2Of l dC dI cI cB h a b c (upd (upd (upd (upd (upd v 11 1) 12 (v 9)) 13 (fX2_haltOf (upd (upd v 11 1) 12 (v 9)) fw fc fr (fX2_wordAt v fw fc fr (v 9)))) 14 (fX1_rd (fX2_wordAt v fw fc fr (v 9)))) 15 (fX2_resultOf (upd (upd (upd (upd v 11 1) 12 (v 9)) 13 (fX2_haltOf (upd (upd v 11 1) 12 (v 9)) fw fc fr (fX2_wordAt v fw fc fr (v 9)))) 14 (fX1_rd (fX2_wordAt v fw fc fr (v 9)))) fw fc fr (fX2_wordAt v fw fc fr (v 9)))) fw fc fr (fX2_wordAt v fw fc fr (v 9)) ) (cwV 1 hts gX2_endMemory_X2_rs2Of rfl rfl rfl (by decide +kernel) ⟨Nat.le_of_ble_eq_true rfl, Nat.le_of_ble_eq_true rfl⟩) (ro_preV hK hP (ci := 0) (q0 := 0) rfl rfl) rfl rfl hl.1 rfl (lv_room (Nat.le_of_ble_eq_true rfl)) dX2_endMemory_87 ⟨Nat.zero_le _, Nat.zero_le _⟩) hS (fun H locs hk hS => ?_)
        have hP := hk _ _ _ hP
        refine wr_callv (va_runV (As := [.int (fX2_addressOf (upd (upd (upd (upd (upd v 11 1) 12 (v 9)) 13 (fX2_haltOf (upd (upd v 11 1) 12 (v 9)) fw fc fr (fX2_wordAt v fw fc fr (v 9)))) 14 (fX1_rd (fX2_wordAt v fw fc fr (v 9)))) 15 (fX2_resultOf (upd (upd (upd (upd v 11 1) 12 (v 9)) 13 (fX2_haltOf (upd (upd v 11 1) 12 (v 9)) fw fc fr (fX2_wordAt v fw fc fr (v 9)))) 14 (fX1_rd (fX2_wordAt v fw fc fr (v 9)))) fw fc fr (fX2_wordAt v fw fc fr (v 9)))) fw fc fr (fX2_wordAt v fw fc fr (v 9))), .int (fX1_f3 (fX2_wordAt v fw fc fr (v 9))), .int (fX2_rs2Of (upd (upd (upd (upd (upd v 11 1) 12 (v 9)) 13 (fX2_haltOf (upd (upd v 11 1) 12 (v 9)) fw fc fr (fX2_wordAt v fw fc fr (v 9)))) 14 (fX1_rd (fX2_wordAt v fw fc fr (v 9)))) 15 (fX2_resultOf (upd (upd (upd (upd v 11 1) 12 (v 9)) 13 (fX2_haltOf (upd (upd v 11 1) 12 (v 9)) fw fc fr (fX2_wordAt v fw fc fr (v 9)))) 14 (fX1_rd (fX2_wordAt v fw fc fr (v 9)))) fw fc fr (fX2_wordAt v fw fc fr (v 9)))) fw fc fr (fX2_wordAt v fw fc fr (v 9)))]) (rest := []) ⟨hx, hb, hml, hown, hts⟩ (kX2_storeAt l dC dI cI cB h a b c _ (upd (upd (upd (upd (upd v 11 1) 12 (v 9)) 13 (fX2_haltOf (upd (upd v 11 1) 12 (v 9)) fw fc fr (fX2_wordAt v fw fc fr (v 9)))) 14 (fX1_rd (fX2_wordAt v fw fc fr (v 9)))) 15 (fX2_resultOf (upd (upd (upd (upd v 11 1) 12 (v 9)) 13 (fX2_haltOf (upd (upd v 11 1) 12 (v 9)) fw fc fr (fX2_wordAt v fw fc fr (v 9)))) 14 (fX1_rd (fX2_wordAt v fw fc fr (v 9)))) fw fc fr (fX2_wordAt v fw fc fr (v 9)))) fw fc fr (fX2_addressOf (upd (upd (upd (upd (upd v 11 1) 12 (v 9)) 13 (fX2_haltOf (upd (upd v 11 1) 12 (v 9)) fw fc fr (fX2_wordAt v fw fc fr (v 9)))) 14 (fX1_rd (fX2_wordAt v fw fc fr (v 9)))) 15 (fX2_resultOf (upd (upd (upd (upd v 11 1) 12 (v 9)) 13 (fX2_haltOf (upd (upd v 11 1) 12 (v 9)) fw fc fr (fX2_wordAt v fw fc fr (v 9)))) 14 (fX1_rd (fX2_wordAt v fw fc fr (v 9)))) fw fc fr (fX2_wordAt v fw fc fr (v 9)))) fw fc fr (fX2_wordAt v fw fc fr (v 9))) (fX1_f3 (fX2_wordAt v fw fc fr (v 9))) (fX2_rs2Of (upd (upd (upd (upd (upd v 11 1) 12 (v 9)) 13 (fX2_haltOf (upd (upd v 11 1) 12 (v 9)) fw fc fr (fX2_wordAt v fw fc fr (v 9)))) 14 (fX1_rd (fX2_wordAt v fw fc fr (v 9)))) 15 (fX2_resultOf (upd (upd (upd (upd v 11 1) 12 (v 9)) 13 (fX2_haltOf (upd (upd v 11 1) 12 (v 9)) fw fc fr (fX2_wordAt v fw fc fr (v 9)))) 14 (fX1_rd (fX2_wordAt v fw fc fr (v 9)))) fw fc fr (fX2_wordAt v fw fc fr (v 9)))) fw fc fr (fX2_wordAt v fw fc fr (v 9))) ) (cwV 3 hts gX2_endMemory_X2_storeAt rfl rfl rfl (by decide +kernel) ⟨Nat.le_of_ble_eq_true rfl, Nat.le_of_ble_eq_true rfl⟩) (wr_preV hK hP hD (ci := 0) (q0 := 0) rfl rfl) rfl rfl hl.1 rfl (lv_room (Nat.le_of_ble_eq_true rfl)) dX2_endMemory_90 ⟨Nat.zero_le _, Nat.zero_le _⟩) hS hA hP hD [0, 1, 2, 3] [] rfl (wr := []) rfl rfl (by decide) (fun H locs hP hD hS => ?_)
        have hP : va_P (dC, dI) vwCl (pwW cI h a b c (upd (upd (upd (upd (upd v 11 1) 12 (v 9)) 13 (fX2_haltOf (upd (upd v 11 1) 12 (v 9)) fw fc fr (fX2_wordAt v fw fc fr (v 9)))) 14 (fX1_rd (fX2_wordAt v fw fc fr (v 9)))) 15 (fX2_resultOf (upd (upd (upd (upd v 11 1) 12 (v 9)) 13 (fX2_haltOf (upd (upd v 11 1) 12 (v 9)) fw fc fr (fX2_wordAt v fw fc fr (v 9)))) 14 (fX1_rd (fX2_wordAt v fw fc fr (v 9)))) fw fc fr (fX2_wordAt v fw fc fr (v 9)))) fw (fX2_storeAt (upd (upd (upd (upd (upd v 11 1) 12 (v 9)) 13 (fX2_haltOf (upd (upd v 11 1) 12 (v 9)) fw fc fr (fX2_wordAt v fw fc fr (v 9)))) 14 (fX1_rd (fX2_wordAt v fw fc fr (v 9)))) 15 (fX2_resultOf (upd (upd (upd (upd v 11 1) 12 (v 9)) 13 (fX2_haltOf (upd (upd v 11 1) 12 (v 9)) fw fc fr (fX2_wordAt v fw fc fr (v 9)))) 14 (fX1_rd (fX2_wordAt v fw fc fr (v 9)))) fw fc fr (fX2_wordAt v fw fc fr (v 9)))) fw fc fr (fX2_addressOf (upd (upd (upd (upd (upd v 11 1) 12 (v 9)) 13 (fX2_haltOf (upd (upd v 11 1) 12 (v 9)) fw fc fr (fX2_wordAt v fw fc fr (v 9)))) 14 (fX1_rd (fX2_wordAt v fw fc fr (v 9)))) 15 (fX2_resultOf (upd (upd (upd (upd v 11 1) 12 (v 9)) 13 (fX2_haltOf (upd (upd v 11 1) 12 (v 9)) fw fc fr (fX2_wordAt v fw fc fr (v 9)))) 14 (fX1_rd (fX2_wordAt v fw fc fr (v 9)))) fw fc fr (fX2_wordAt v fw fc fr (v 9)))) fw fc fr (fX2_wordAt v fw fc fr (v 9))) (fX1_f3 (fX2_wordAt v fw fc fr (v 9))) (fX2_rs2Of (upd (upd (upd (upd (upd v 11 1) 12 (v 9)) 13 (fX2_haltOf (upd (upd v 11 1) 12 (v 9)) fw fc fr (fX2_wordAt v fw fc fr (v 9)))) 14 (fX1_rd (fX2_wordAt v fw fc fr (v 9)))) 15 (fX2_resultOf (upd (upd (upd (upd v 11 1) 12 (v 9)) 13 (fX2_haltOf (upd (upd v 11 1) 12 (v 9)) fw fc fr (fX2_wordAt v fw fc fr (v 9)))) 14 (fX1_rd (fX2_wordAt v fw fc fr (v 9)))) fw fc fr (fX2_wordAt v fw fc fr (v 9)))) fw fc fr (fX2_wordAt v fw fc fr (v 9)))) fr) H := hP
        have hD : va_D A (pwW cI h a b c (upd (upd (upd (upd (upd v 11 1) 12 (v 9)) 13 (fX2_haltOf (upd (upd v 11 1) 12 (v 9)) fw fc fr (fX2_wordAt v fw fc fr (v 9)))) 14 (fX1_rd (fX2_wordAt v fw fc fr (v 9)))) 15 (fX2_resultOf (upd (upd (upd (upd v 11 1) 12 (v 9)) 13 (fX2_haltOf (upd (upd v 11 1) 12 (v 9)) fw fc fr (fX2_wordAt v fw fc fr (v 9)))) 14 (fX1_rd (fX2_wordAt v fw fc fr (v 9)))) fw fc fr (fX2_wordAt v fw fc fr (v 9)))) fw (fX2_storeAt (upd (upd (upd (upd (upd v 11 1) 12 (v 9)) 13 (fX2_haltOf (upd (upd v 11 1) 12 (v 9)) fw fc fr (fX2_wordAt v fw fc fr (v 9)))) 14 (fX1_rd (fX2_wordAt v fw fc fr (v 9)))) 15 (fX2_resultOf (upd (upd (upd (upd v 11 1) 12 (v 9)) 13 (fX2_haltOf (upd (upd v 11 1) 12 (v 9)) fw fc fr (fX2_wordAt v fw fc fr (v 9)))) 14 (fX1_rd (fX2_wordAt v fw fc fr (v 9)))) fw fc fr (fX2_wordAt v fw fc fr (v 9)))) fw fc fr (fX2_addressOf (upd (upd (upd (upd (upd v 11 1) 12 (v 9)) 13 (fX2_haltOf (upd (upd v 11 1) 12 (v 9)) fw fc fr (fX2_wordAt v fw fc fr (v 9)))) 14 (fX1_rd (fX2_wordAt v fw fc fr (v 9)))) 15 (fX2_resultOf (upd (upd (upd (upd v 11 1) 12 (v 9)) 13 (fX2_haltOf (upd (upd v 11 1) 12 (v 9)) fw fc fr (fX2_wordAt v fw fc fr (v 9)))) 14 (fX1_rd (fX2_wordAt v fw fc fr (v 9)))) fw fc fr (fX2_wordAt v fw fc fr (v 9)))) fw fc fr (fX2_wordAt v fw fc fr (v 9))) (fX1_f3 (fX2_wordAt v fw fc fr (v 9))) (fX2_rs2Of (upd (upd (upd (upd (upd v 11 1) 12 (v 9)) 13 (fX2_haltOf (upd (upd v 11 1) 12 (v 9)) fw fc fr (fX2_wordAt v fw fc fr (v 9)))) 14 (fX1_rd (fX2_wordAt v fw fc fr (v 9)))) 15 (fX2_resultOf (upd (upd (upd (upd v 11 1) 12 (v 9)) 13 (fX2_haltOf (upd (upd v 11 1) 12 (v 9)) fw fc fr (fX2_wordAt v fw fc fr (v 9)))) 14 (fX1_rd (fX2_wordAt v fw fc fr (v 9)))) fw fc fr (fX2_wordAt v fw fc fr (v 9)))) fw fc fr (fX2_wordAt v fw fc fr (v 9)))) fr) := hD
        refine lv_aload_n hx hb dX2_endMemory_93 rfl (lv_at hl 1 rfl) ?_
        refine lv_iload_n hx hb dX2_endMemory_94 rfl (lv_at hl 0 rfl) ?_
        refine wr_callv (va_runV (As := [.int (fX2_wordAt v fw fc fr (v 9))]) (rest := []) ⟨hx, hb, hml, hown, hts⟩ (kX2_goOn l dC dI cI cB h a b c _ (upd (upd (upd (upd (upd v 11 1) 12 (v 9)) 13 (fX2_haltOf (upd (upd v 11 1) 12 (v 9)) fw fc fr (fX2_wordAt v fw fc fr (v 9)))) 14 (fX1_rd (fX2_wordAt v fw fc fr (v 9)))) 15 (fX2_resultOf (upd (upd (upd (upd v 11 1) 12 (v 9)) 13 (fX2_haltOf (upd (upd v 11 1) 12 (v 9)) fw fc fr (fX2_wordAt v fw fc fr (v 9)))) 14 (fX1_rd (fX2_wordAt v fw fc fr (v 9)))) fw fc fr (fX2_wordAt v fw fc fr (v 9)))) fw (fX2_storeAt (upd (upd (upd (upd (upd v 11 1) 12 (v 9)) 13 (fX2_haltOf (upd (upd v 11 1) 12 (v 9)) fw fc fr (fX2_wordAt v fw fc fr (v 9)))) 14 (fX1_rd (fX2_wordAt v fw fc fr (v 9)))) 15 (fX2_resultOf (upd (upd (upd (upd v 11 1) 12 (v 9)) 13 (fX2_haltOf (upd (upd v 11 1) 12 (v 9)) fw fc fr (fX2_wordAt v fw fc fr (v 9)))) 14 (fX1_rd (fX2_wordAt v fw fc fr (v 9)))) fw fc fr (fX2_wordAt v fw fc fr (v 9)))) fw fc fr (fX2_addressOf (upd (upd (upd (upd (upd v 11 1) 12 (v 9)) 13 (fX2_haltOf (upd (upd v 11 1) 12 (v 9)) fw fc fr (fX2_wordAt v fw fc fr (v 9)))) 14 (fX1_rd (fX2_wordAt v fw fc fr (v 9)))) 15 (fX2_resultOf (upd (upd (upd (upd v 11 1) 12 (v 9)) 13 (fX2_haltOf (upd (upd v 11 1) 12 (v 9)) fw fc fr (fX2_wordAt v fw fc fr (v 9)))) 14 (fX1_rd (fX2_wordAt v fw fc fr (v 9)))) fw fc fr (fX2_wordAt v fw fc fr (v 9)))) fw fc fr (fX2_wordAt v fw fc fr (v 9))) (fX1_f3 (fX2_wordAt v fw fc fr (v 9))) (fX2_rs2Of (upd (upd (upd (upd (upd v 11 1) 12 (v 9)) 13 (fX2_haltOf (upd (upd v 11 1) 12 (v 9)) fw fc fr (fX2_wordAt v fw fc fr (v 9)))) 14 (fX1_rd (fX2_wordAt v fw fc fr (v 9)))) 15 (fX2_resultOf (upd (upd (upd (upd v 11 1) 12 (v 9)) 13 (fX2_haltOf (upd (upd v 11 1) 12 (v 9)) fw fc fr (fX2_wordAt v fw fc fr (v 9)))) 14 (fX1_rd (fX2_wordAt v fw fc fr (v 9)))) fw fc fr (fX2_wordAt v fw fc fr (v 9)))) fw fc fr (fX2_wordAt v fw fc fr (v 9)))) fr (fX2_wordAt v fw fc fr (v 9)) ) (cwV 1 hts gX2_endMemory_X2_goOn rfl rfl rfl (by decide +kernel) ⟨Nat.le_of_ble_eq_true rfl, Nat.le_of_ble_eq_true rfl⟩) (wr_preV hK hP hD (ci := 0) (q0 := 0) rfl rfl) rfl rfl hl.1 rfl (lv_room (Nat.le_of_ble_eq_true rfl)) dX2_endMemory_95 ⟨Nat.zero_le _, Nat.zero_le _⟩) hS hA hP hD [0, 1, 2, 3] [] rfl (wr := []) rfl rfl (by decide) (fun H locs hP hD hS => ?_)
        have hP : va_P (dC, dI) vwCl (pwW cI h a b c (fX2_goOn (upd (upd (upd (upd (upd v 11 1) 12 (v 9)) 13 (fX2_haltOf (upd (upd v 11 1) 12 (v 9)) fw fc fr (fX2_wordAt v fw fc fr (v 9)))) 14 (fX1_rd (fX2_wordAt v fw fc fr (v 9)))) 15 (fX2_resultOf (upd (upd (upd (upd v 11 1) 12 (v 9)) 13 (fX2_haltOf (upd (upd v 11 1) 12 (v 9)) fw fc fr (fX2_wordAt v fw fc fr (v 9)))) 14 (fX1_rd (fX2_wordAt v fw fc fr (v 9)))) fw fc fr (fX2_wordAt v fw fc fr (v 9)))) fw (fX2_storeAt (upd (upd (upd (upd (upd v 11 1) 12 (v 9)) 13 (fX2_haltOf (upd (upd v 11 1) 12 (v 9)) fw fc fr (fX2_wordAt v fw fc fr (v 9)))) 14 (fX1_rd (fX2_wordAt v fw fc fr (v 9)))) 15 (fX2_resultOf (upd (upd (upd (upd v 11 1) 12 (v 9)) 13 (fX2_haltOf (upd (upd v 11 1) 12 (v 9)) fw fc fr (fX2_wordAt v fw fc fr (v 9)))) 14 (fX1_rd (fX2_wordAt v fw fc fr (v 9)))) fw fc fr (fX2_wordAt v fw fc fr (v 9)))) fw fc fr (fX2_addressOf (upd (upd (upd (upd (upd v 11 1) 12 (v 9)) 13 (fX2_haltOf (upd (upd v 11 1) 12 (v 9)) fw fc fr (fX2_wordAt v fw fc fr (v 9)))) 14 (fX1_rd (fX2_wordAt v fw fc fr (v 9)))) 15 (fX2_resultOf (upd (upd (upd (upd v 11 1) 12 (v 9)) 13 (fX2_haltOf (upd (upd v 11 1) 12 (v 9)) fw fc fr (fX2_wordAt v fw fc fr (v 9)))) 14 (fX1_rd (fX2_wordAt v fw fc fr (v 9)))) fw fc fr (fX2_wordAt v fw fc fr (v 9)))) fw fc fr (fX2_wordAt v fw fc fr (v 9))) (fX1_f3 (fX2_wordAt v fw fc fr (v 9))) (fX2_rs2Of (upd (upd (upd (upd (upd v 11 1) 12 (v 9)) 13 (fX2_haltOf (upd (upd v 11 1) 12 (v 9)) fw fc fr (fX2_wordAt v fw fc fr (v 9)))) 14 (fX1_rd (fX2_wordAt v fw fc fr (v 9)))) 15 (fX2_resultOf (upd (upd (upd (upd v 11 1) 12 (v 9)) 13 (fX2_haltOf (upd (upd v 11 1) 12 (v 9)) fw fc fr (fX2_wordAt v fw fc fr (v 9)))) 14 (fX1_rd (fX2_wordAt v fw fc fr (v 9)))) fw fc fr (fX2_wordAt v fw fc fr (v 9)))) fw fc fr (fX2_wordAt v fw fc fr (v 9)))) fr (fX2_wordAt v fw fc fr (v 9))) fw (fX2_storeAt (upd (upd (upd (upd (upd v 11 1) 12 (v 9)) 13 (fX2_haltOf (upd (upd v 11 1) 12 (v 9)) fw fc fr (fX2_wordAt v fw fc fr (v 9)))) 14 (fX1_rd (fX2_wordAt v fw fc fr (v 9)))) 15 (fX2_resultOf (upd (upd (upd (upd v 11 1) 12 (v 9)) 13 (fX2_haltOf (upd (upd v 11 1) 12 (v 9)) fw fc fr (fX2_wordAt v fw fc fr (v 9)))) 14 (fX1_rd (fX2_wordAt v fw fc fr (v 9)))) fw fc fr (fX2_wordAt v fw fc fr (v 9)))) fw fc fr (fX2_addressOf (upd (upd (upd (upd (upd v 11 1) 12 (v 9)) 13 (fX2_haltOf (upd (upd v 11 1) 12 (v 9)) fw fc fr (fX2_wordAt v fw fc fr (v 9)))) 14 (fX1_rd (fX2_wordAt v fw fc fr (v 9)))) 15 (fX2_resultOf (upd (upd (upd (upd v 11 1) 12 (v 9)) 13 (fX2_haltOf (upd (upd v 11 1) 12 (v 9)) fw fc fr (fX2_wordAt v fw fc fr (v 9)))) 14 (fX1_rd (fX2_wordAt v fw fc fr (v 9)))) fw fc fr (fX2_wordAt v fw fc fr (v 9)))) fw fc fr (fX2_wordAt v fw fc fr (v 9))) (fX1_f3 (fX2_wordAt v fw fc fr (v 9))) (fX2_rs2Of (upd (upd (upd (upd (upd v 11 1) 12 (v 9)) 13 (fX2_haltOf (upd (upd v 11 1) 12 (v 9)) fw fc fr (fX2_wordAt v fw fc fr (v 9)))) 14 (fX1_rd (fX2_wordAt v fw fc fr (v 9)))) 15 (fX2_resultOf (upd (upd (upd (upd v 11 1) 12 (v 9)) 13 (fX2_haltOf (upd (upd v 11 1) 12 (v 9)) fw fc fr (fX2_wordAt v fw fc fr (v 9)))) 14 (fX1_rd (fX2_wordAt v fw fc fr (v 9)))) fw fc fr (fX2_wordAt v fw fc fr (v 9)))) fw fc fr (fX2_wordAt v fw fc fr (v 9)))) fr) H := hP
        have hD : va_D A (pwW cI h a b c (fX2_goOn (upd (upd (upd (upd (upd v 11 1) 12 (v 9)) 13 (fX2_haltOf (upd (upd v 11 1) 12 (v 9)) fw fc fr (fX2_wordAt v fw fc fr (v 9)))) 14 (fX1_rd (fX2_wordAt v fw fc fr (v 9)))) 15 (fX2_resultOf (upd (upd (upd (upd v 11 1) 12 (v 9)) 13 (fX2_haltOf (upd (upd v 11 1) 12 (v 9)) fw fc fr (fX2_wordAt v fw fc fr (v 9)))) 14 (fX1_rd (fX2_wordAt v fw fc fr (v 9)))) fw fc fr (fX2_wordAt v fw fc fr (v 9)))) fw (fX2_storeAt (upd (upd (upd (upd (upd v 11 1) 12 (v 9)) 13 (fX2_haltOf (upd (upd v 11 1) 12 (v 9)) fw fc fr (fX2_wordAt v fw fc fr (v 9)))) 14 (fX1_rd (fX2_wordAt v fw fc fr (v 9)))) 15 (fX2_resultOf (upd (upd (upd (upd v 11 1) 12 (v 9)) 13 (fX2_haltOf (upd (upd v 11 1) 12 (v 9)) fw fc fr (fX2_wordAt v fw fc fr (v 9)))) 14 (fX1_rd (fX2_wordAt v fw fc fr (v 9)))) fw fc fr (fX2_wordAt v fw fc fr (v 9)))) fw fc fr (fX2_addressOf (upd (upd (upd (upd (upd v 11 1) 12 (v 9)) 13 (fX2_haltOf (upd (upd v 11 1) 12 (v 9)) fw fc fr (fX2_wordAt v fw fc fr (v 9)))) 14 (fX1_rd (fX2_wordAt v fw fc fr (v 9)))) 15 (fX2_resultOf (upd (upd (upd (upd v 11 1) 12 (v 9)) 13 (fX2_haltOf (upd (upd v 11 1) 12 (v 9)) fw fc fr (fX2_wordAt v fw fc fr (v 9)))) 14 (fX1_rd (fX2_wordAt v fw fc fr (v 9)))) fw fc fr (fX2_wordAt v fw fc fr (v 9)))) fw fc fr (fX2_wordAt v fw fc fr (v 9))) (fX1_f3 (fX2_wordAt v fw fc fr (v 9))) (fX2_rs2Of (upd (upd (upd (upd (upd v 11 1) 12 (v 9)) 13 (fX2_haltOf (upd (upd v 11 1) 12 (v 9)) fw fc fr (fX2_wordAt v fw fc fr (v 9)))) 14 (fX1_rd (fX2_wordAt v fw fc fr (v 9)))) 15 (fX2_resultOf (upd (upd (upd (upd v 11 1) 12 (v 9)) 13 (fX2_haltOf (upd (upd v 11 1) 12 (v 9)) fw fc fr (fX2_wordAt v fw fc fr (v 9)))) 14 (fX1_rd (fX2_wordAt v fw fc fr (v 9)))) fw fc fr (fX2_wordAt v fw fc fr (v 9)))) fw fc fr (fX2_wordAt v fw fc fr (v 9)))) fr (fX2_wordAt v fw fc fr (v 9))) fw (fX2_storeAt (upd (upd (upd (upd (upd v 11 1) 12 (v 9)) 13 (fX2_haltOf (upd (upd v 11 1) 12 (v 9)) fw fc fr (fX2_wordAt v fw fc fr (v 9)))) 14 (fX1_rd (fX2_wordAt v fw fc fr (v 9)))) 15 (fX2_resultOf (upd (upd (upd (upd v 11 1) 12 (v 9)) 13 (fX2_haltOf (upd (upd v 11 1) 12 (v 9)) fw fc fr (fX2_wordAt v fw fc fr (v 9)))) 14 (fX1_rd (fX2_wordAt v fw fc fr (v 9)))) fw fc fr (fX2_wordAt v fw fc fr (v 9)))) fw fc fr (fX2_addressOf (upd (upd (upd (upd (upd v 11 1) 12 (v 9)) 13 (fX2_haltOf (upd (upd v 11 1) 12 (v 9)) fw fc fr (fX2_wordAt v fw fc fr (v 9)))) 14 (fX1_rd (fX2_wordAt v fw fc fr (v 9)))) 15 (fX2_resultOf (upd (upd (upd (upd v 11 1) 12 (v 9)) 13 (fX2_haltOf (upd (upd v 11 1) 12 (v 9)) fw fc fr (fX2_wordAt v fw fc fr (v 9)))) 14 (fX1_rd (fX2_wordAt v fw fc fr (v 9)))) fw fc fr (fX2_wordAt v fw fc fr (v 9)))) fw fc fr (fX2_wordAt v fw fc fr (v 9))) (fX1_f3 (fX2_wordAt v fw fc fr (v 9))) (fX2_rs2Of (upd (upd (upd (upd (upd v 11 1) 12 (v 9)) 13 (fX2_haltOf (upd (upd v 11 1) 12 (v 9)) fw fc fr (fX2_wordAt v fw fc fr (v 9)))) 14 (fX1_rd (fX2_wordAt v fw fc fr (v 9)))) 15 (fX2_resultOf (upd (upd (upd (upd v 11 1) 12 (v 9)) 13 (fX2_haltOf (upd (upd v 11 1) 12 (v 9)) fw fc fr (fX2_wordAt v fw fc fr (v 9)))) 14 (fX1_rd (fX2_wordAt v fw fc fr (v 9)))) fw fc fr (fX2_wordAt v fw fc fr (v 9)))) fw fc fr (fX2_wordAt v fw fc fr (v 9)))) fr) := hD
        have e9 : fX2_endMemory v fw fc fr = (fX2_goOn (upd (upd (upd (upd (upd v 11 1) 12 (v 9)) 13 (fX2_haltOf (upd (upd v 11 1) 12 (v 9)) fw fc fr (fX2_wordAt v fw fc fr (v 9)))) 14 (fX1_rd (fX2_wordAt v fw fc fr (v 9)))) 15 (fX2_resultOf (upd (upd (upd (upd v 11 1) 12 (v 9)) 13 (fX2_haltOf (upd (upd v 11 1) 12 (v 9)) fw fc fr (fX2_wordAt v fw fc fr (v 9)))) 14 (fX1_rd (fX2_wordAt v fw fc fr (v 9)))) fw fc fr (fX2_wordAt v fw fc fr (v 9)))) fw (fX2_storeAt (upd (upd (upd (upd (upd v 11 1) 12 (v 9)) 13 (fX2_haltOf (upd (upd v 11 1) 12 (v 9)) fw fc fr (fX2_wordAt v fw fc fr (v 9)))) 14 (fX1_rd (fX2_wordAt v fw fc fr (v 9)))) 15 (fX2_resultOf (upd (upd (upd (upd v 11 1) 12 (v 9)) 13 (fX2_haltOf (upd (upd v 11 1) 12 (v 9)) fw fc fr (fX2_wordAt v fw fc fr (v 9)))) 14 (fX1_rd (fX2_wordAt v fw fc fr (v 9)))) fw fc fr (fX2_wordAt v fw fc fr (v 9)))) fw fc fr (fX2_addressOf (upd (upd (upd (upd (upd v 11 1) 12 (v 9)) 13 (fX2_haltOf (upd (upd v 11 1) 12 (v 9)) fw fc fr (fX2_wordAt v fw fc fr (v 9)))) 14 (fX1_rd (fX2_wordAt v fw fc fr (v 9)))) 15 (fX2_resultOf (upd (upd (upd (upd v 11 1) 12 (v 9)) 13 (fX2_haltOf (upd (upd v 11 1) 12 (v 9)) fw fc fr (fX2_wordAt v fw fc fr (v 9)))) 14 (fX1_rd (fX2_wordAt v fw fc fr (v 9)))) fw fc fr (fX2_wordAt v fw fc fr (v 9)))) fw fc fr (fX2_wordAt v fw fc fr (v 9))) (fX1_f3 (fX2_wordAt v fw fc fr (v 9))) (fX2_rs2Of (upd (upd (upd (upd (upd v 11 1) 12 (v 9)) 13 (fX2_haltOf (upd (upd v 11 1) 12 (v 9)) fw fc fr (fX2_wordAt v fw fc fr (v 9)))) 14 (fX1_rd (fX2_wordAt v fw fc fr (v 9)))) 15 (fX2_resultOf (upd (upd (upd (upd v 11 1) 12 (v 9)) 13 (fX2_haltOf (upd (upd v 11 1) 12 (v 9)) fw fc fr (fX2_wordAt v fw fc fr (v 9)))) 14 (fX1_rd (fX2_wordAt v fw fc fr (v 9)))) fw fc fr (fX2_wordAt v fw fc fr (v 9)))) fw fc fr (fX2_wordAt v fw fc fr (v 9)))) fr (fX2_wordAt v fw fc fr (v 9)), fX2_storeAt (upd (upd (upd (upd (upd v 11 1) 12 (v 9)) 13 (fX2_haltOf (upd (upd v 11 1) 12 (v 9)) fw fc fr (fX2_wordAt v fw fc fr (v 9)))) 14 (fX1_rd (fX2_wordAt v fw fc fr (v 9)))) 15 (fX2_resultOf (upd (upd (upd (upd v 11 1) 12 (v 9)) 13 (fX2_haltOf (upd (upd v 11 1) 12 (v 9)) fw fc fr (fX2_wordAt v fw fc fr (v 9)))) 14 (fX1_rd (fX2_wordAt v fw fc fr (v 9)))) fw fc fr (fX2_wordAt v fw fc fr (v 9)))) fw fc fr (fX2_addressOf (upd (upd (upd (upd (upd v 11 1) 12 (v 9)) 13 (fX2_haltOf (upd (upd v 11 1) 12 (v 9)) fw fc fr (fX2_wordAt v fw fc fr (v 9)))) 14 (fX1_rd (fX2_wordAt v fw fc fr (v 9)))) 15 (fX2_resultOf (upd (upd (upd (upd v 11 1) 12 (v 9)) 13 (fX2_haltOf (upd (upd v 11 1) 12 (v 9)) fw fc fr (fX2_wordAt v fw fc fr (v 9)))) 14 (fX1_rd (fX2_wordAt v fw fc fr (v 9)))) fw fc fr (fX2_wordAt v fw fc fr (v 9)))) fw fc fr (fX2_wordAt v fw fc fr (v 9))) (fX1_f3 (fX2_wordAt v fw fc fr (v 9))) (fX2_rs2Of (upd (upd (upd (upd (upd v 11 1) 12 (v 9)) 13 (fX2_haltOf (upd (upd v 11 1) 12 (v 9)) fw fc fr (fX2_wordAt v fw fc fr (v 9)))) 14 (fX1_rd (fX2_wordAt v fw fc fr (v 9)))) 15 (fX2_resultOf (upd (upd (upd (upd v 11 1) 12 (v 9)) 13 (fX2_haltOf (upd (upd v 11 1) 12 (v 9)) fw fc fr (fX2_wordAt v fw fc fr (v 9)))) 14 (fX1_rd (fX2_wordAt v fw fc fr (v 9)))) fw fc fr (fX2_wordAt v fw fc fr (v 9)))) fw fc fr (fX2_wordAt v fw fc fr (v 9)))) := by rw [fX2_endMemory, if_pos c_35, if_neg c_43, if_pos c_72]
        exact W.vret hx hb hr (fun t ht hW => wr_endv (hAe ▸ hS) ht (by rw [e9]; exact hP) (by rw [e9, hAe]; exact hD)) hS.2.2 dX2_endMemory_98
def fX2_endWrite (v fw fc fr : Nat → Int32) : (Nat → Int32) × (Nat → Int32) := (if (v 13) = 0 then (if (v 14) = 0 then (upd (upd (upd v 11 0) 5 ((v 5) + 1)) 6 (v 12), fr) else (upd (upd (upd v 11 0) 5 ((v 5) + 1)) 6 (v 12), upd fr (v 14).toNatClampNeg (v 15))) else (upd (upd (upd v 11 0) 7 (v 13)) 8 (v 12), fr))
set_option maxHeartbeats 4000000 in
set_option maxRecDepth 100000 in
theorem kX2_endWrite (l : Launch) (dC : Nat → ClassId) (dI : Nat → Nat → Nat) (cI cB : ClassId) (h a b c : Nat) (sz : Nat) (v fw fc fr : Nat → Int32) (hwr : vp_in (v 14) 32) : Met l yX2_endWrite wsX2_endWrite ({ frames := 0, cells := 0, slots := 0, locals := 0 }) (wr_Pc [.ref h] (dC, dI) vwCl (tyIB cI cB) (pwW cI h a b c v fw fc fr) sz) (wr_Qv (pwW cI h a b c ((fX2_endWrite v fw fc fr).1) fw fc ((fX2_endWrite v fw fc fr).2)) (dC, dI) vwCl (pwW cI h a b c v fw fc fr) sz) 0 0 (va_A (pwW cI h a b c v fw fc fr) sz) := by
  refine Met.ofW (cc := cX2_endWrite) (maxL := 1) (ret := none) (by decide) rfl ?_
  intro p e s m args below meth c9 s₁ B hml hv
  obtain ⟨rfl, hsz, hP, hK, hD0⟩ := hv
  have hx := B.exec
  have hb := B.bytes
  have hr := B.returns
  have hts := atoms_spec (ws := wsX2_endWrite) B.pre
  have hown : s.vm.findClass RX2 = some m.cls := findClass_of_methodNamed B.named
  have hlocks := B.notSynchronized
  subst hsz
  have hD := hD0.self (sz := s.heap.size)
  generalize hAe : va_A (pwW cI h a b c v fw fc fr) s.heap.size = A at hD ⊢
  have hA : ∀ q : Nat, s.heap.size ≤ q → A q := fun q h => by rw [← hAe]; exact Or.inr h
  have hS : va_S A s.heap s.heap [] := va_S.rf
  have hin : ∀ w ∈ wsX20, w ∈ wsX2_endWrite := by decide +kernel
  have hf_16 := hts (.fieldLink RX2 16 "PipeWorks" "registers" "[I") (by decide +kernel)
  have hf_44 := hts (.fieldLink RX2 44 "PipeWorks" "wordsDone" "I") (by decide +kernel)
  have hf_54 := hts (.fieldLink RX2 54 "PipeWorks" "haltKind" "I") (by decide +kernel)
  have hf_57 := hts (.fieldLink RX2 57 "PipeWorks" "haltAddress" "I") (by decide +kernel)
  have hf_60 := hts (.fieldLink RX2 60 "PipeWorks" "latestDone" "I") (by decide +kernel)
  have hf_69 := hts (.fieldLink RX2 69 "PipeWorks" "writePending" "Z") (by decide +kernel)
  have hf_79 := hts (.fieldLink RX2 79 "PipeWorks" "writeHalt" "I") (by decide +kernel)
  have hf_82 := hts (.fieldLink RX2 82 "PipeWorks" "writeAddress" "I") (by decide +kernel)
  have hf_85 := hts (.fieldLink RX2 85 "PipeWorks" "writeRegister" "I") (by decide +kernel)
  have hf_88 := hts (.fieldLink RX2 88 "PipeWorks" "writeValue" "I") (by decide +kernel)
  have hl := lv_entry ([.ref h]) (n := 1) (Nat.le_of_ble_eq_true rfl)
  rw [lg_entry_eq]
  generalize (lg_sl ([.ref h]) ++ List.replicate (1 - (lg_sl ([.ref h])).length) Slot.unset).toArray = ls at hl ⊢
  have hl : lv_has ls 1 [(0, .ref h)] := hl
  refine lv_aload_n hx hb dX2_endWrite_0 rfl (lv_at hl 0 rfl) ?_
  refine lv_iconst (v := 0) hx hb dX2_endWrite_1 (by decide) ?_
  refine va_put (D := (dC, dI)) (ci := 0) (v := .int 0) (ty := .boolean) (C := RX2) (T := TX2) (N := 16) hx hb hts hin tyX2 tyX2_ok nmX2 hown hK hP hD hS 0 rfl rfl 11 (by decide) hf_69 (fun _ h9 => h9) rfl (by decide +kernel) rfl rfl (Nat.le_of_ble_eq_true rfl) dX2_endWrite_2 (fun H locs hP hD hS => ?_)
  have hP : va_P (dC, dI) vwCl (pwW cI h a b c (upd v 11 0) fw fc fr) H := hP
  have hD : va_D A (pwW cI h a b c (upd v 11 0) fw fc fr) := hD
  refine lv_aload_n hx hb dX2_endWrite_5 rfl (lv_at hl 0 rfl) ?_
  refine va_get (D := (dC, dI)) (ci := 0) (v := .int (v 13)) (C := RX2) (T := TX2) (N := 16) hx hb hts hin hown hK hP 0 rfl rfl 13 (by decide) hf_79 (fun _ h9 => h9) rfl dX2_endWrite_6 ?_
  refine lv_if_eq (tgt := 29) hx hb dX2_endWrite_9 (by decide) (fun c_9 => ?_) (fun c_9 => ?_)
  ·
    refine lv_aload_n hx hb dX2_endWrite_29 rfl (lv_at hl 0 rfl) ?_
    refine va_get (D := (dC, dI)) (ci := 0) (v := .int (v 14)) (C := RX2) (T := TX2) (N := 16) hx hb hts hin hown hK hP 0 rfl rfl 14 (by decide) hf_85 (fun _ h9 => h9) rfl dX2_endWrite_30 ?_
    refine lv_if_eq (tgt := 49) hx hb dX2_endWrite_33 (by decide) (fun c_33 => ?_) (fun c_33 => ?_)
    ·
      refine lv_aload_n hx hb dX2_endWrite_49 rfl (lv_at hl 0 rfl) ?_
      refine lv_dup hx hb dX2_endWrite_50 rfl ?_
      refine va_get (D := (dC, dI)) (ci := 0) (v := .int (v 5)) (C := RX2) (T := TX2) (N := 16) hx hb hts hin hown hK hP 0 rfl rfl 5 (by decide) hf_44 (fun _ h9 => h9) rfl dX2_endWrite_51 ?_
      refine lv_iconst (v := 1) hx hb dX2_endWrite_54 (by decide) ?_
      refine lv_iadd hx hb dX2_endWrite_55 ?_
      refine va_put (D := (dC, dI)) (ci := 0) (v := .int ((v 5) + 1)) (ty := .int) (C := RX2) (T := TX2) (N := 16) hx hb hts hin tyX2 tyX2_ok nmX2 hown hK hP hD hS 0 rfl rfl 5 (by decide) hf_44 (fun _ h9 => h9) rfl (by decide +kernel) rfl rfl (Nat.le_of_ble_eq_true rfl) dX2_endWrite_56 (fun H locs hP hD hS => ?_)
      have hP : va_P (dC, dI) vwCl (pwW cI h a b c (upd (upd v 11 0) 5 ((v 5) + 1)) fw fc fr) H := hP
      have hD : va_D A (pwW cI h a b c (upd (upd v 11 0) 5 ((v 5) + 1)) fw fc fr) := hD
      refine lv_aload_n hx hb dX2_endWrite_59 rfl (lv_at hl 0 rfl) ?_
      refine lv_aload_n hx hb dX2_endWrite_60 rfl (lv_at hl 0 rfl) ?_
      refine va_get (D := (dC, dI)) (ci := 0) (v := .int (v 12)) (C := RX2) (T := TX2) (N := 16) hx hb hts hin hown hK hP 0 rfl rfl 12 (by decide) hf_82 (fun _ h9 => h9) rfl dX2_endWrite_61 ?_
      refine va_put (D := (dC, dI)) (ci := 0) (v := .int (v 12)) (ty := .int) (C := RX2) (T := TX2) (N := 16) hx hb hts hin tyX2 tyX2_ok nmX2 hown hK hP hD hS 0 rfl rfl 6 (by decide) hf_60 (fun _ h9 => h9) rfl (by decide +kernel) rfl rfl (Nat.le_of_ble_eq_true rfl) dX2_endWrite_64 (fun H locs hP hD hS => ?_)
      have hP : va_P (dC, dI) vwCl (pwW cI h a b c (upd (upd (upd v 11 0) 5 ((v 5) + 1)) 6 (v 12)) fw fc fr) H := hP
      have hD : va_D A (pwW cI h a b c (upd (upd (upd v 11 0) 5 ((v 5) + 1)) 6 (v 12)) fw fc fr) := hD
      have e9 : fX2_endWrite v fw fc fr = (upd (upd (upd v 11 0) 5 ((v 5) + 1)) 6 (v 12), fr) := by rw [fX2_endWrite, if_pos c_9, if_pos c_33]
      exact W.vret hx hb hr (fun t ht hW => wr_endv (hAe ▸ hS) ht (by rw [e9]; exact hP) (by rw [e9, hAe]; exact hD)) hS.2.2 dX2_endWrite_67
    ·
      refine lv_aload_n hx hb dX2_endWrite_36 rfl (lv_at hl 0 rfl) ?_
      refine va_get (D := (dC, dI)) (ci := 0) (v := .ref c) (C := RX2) (T := TX2) (N := 16) hx hb hts hin hown hK hP 0 rfl rfl 2 (by decide) hf_16 (fun _ h9 => h9) rfl dX2_endWrite_37 ?_
      refine lv_aload_n hx hb dX2_endWrite_40 rfl (lv_at hl 0 rfl) ?_
      refine va_get (D := (dC, dI)) (ci := 0) (v := .int (v 14)) (C := RX2) (T := TX2) (N := 16) hx hb hts hin hown hK hP 0 rfl rfl 14 (by decide) hf_85 (fun _ h9 => h9) rfl dX2_endWrite_41 ?_
      refine lv_aload_n hx hb dX2_endWrite_44 rfl (lv_at hl 0 rfl) ?_
      refine va_get (D := (dC, dI)) (ci := 0) (v := .int (v 15)) (C := RX2) (T := TX2) (N := 16) hx hb hts hin hown hK hP 0 rfl rfl 15 (by decide) hf_88 (fun _ h9 => h9) rfl dX2_endWrite_45 ?_
      refine va_iast hx hb hK hP hD hS 3 0 rfl rfl hwr dX2_endWrite_48 (fun H locs hP hD hS => ?_)
      have hP : va_P (dC, dI) vwCl (pwW cI h a b c (upd v 11 0) fw fc (upd fr (v 14).toNatClampNeg (v 15))) H := hP
      have hD : va_D A (pwW cI h a b c (upd v 11 0) fw fc (upd fr (v 14).toNatClampNeg (v 15))) := hD
      refine lv_aload_n hx hb dX2_endWrite_49 rfl (lv_at hl 0 rfl) ?_
      refine lv_dup hx hb dX2_endWrite_50 rfl ?_
      refine va_get (D := (dC, dI)) (ci := 0) (v := .int (v 5)) (C := RX2) (T := TX2) (N := 16) hx hb hts hin hown hK hP 0 rfl rfl 5 (by decide) hf_44 (fun _ h9 => h9) rfl dX2_endWrite_51 ?_
      refine lv_iconst (v := 1) hx hb dX2_endWrite_54 (by decide) ?_
      refine lv_iadd hx hb dX2_endWrite_55 ?_
      refine va_put (D := (dC, dI)) (ci := 0) (v := .int ((v 5) + 1)) (ty := .int) (C := RX2) (T := TX2) (N := 16) hx hb hts hin tyX2 tyX2_ok nmX2 hown hK hP hD hS 0 rfl rfl 5 (by decide) hf_44 (fun _ h9 => h9) rfl (by decide +kernel) rfl rfl (Nat.le_of_ble_eq_true rfl) dX2_endWrite_56 (fun H locs hP hD hS => ?_)
      have hP : va_P (dC, dI) vwCl (pwW cI h a b c (upd (upd v 11 0) 5 ((v 5) + 1)) fw fc (upd fr (v 14).toNatClampNeg (v 15))) H := hP
      have hD : va_D A (pwW cI h a b c (upd (upd v 11 0) 5 ((v 5) + 1)) fw fc (upd fr (v 14).toNatClampNeg (v 15))) := hD
      refine lv_aload_n hx hb dX2_endWrite_59 rfl (lv_at hl 0 rfl) ?_
      refine lv_aload_n hx hb dX2_endWrite_60 rfl (lv_at hl 0 rfl) ?_
      refine va_get (D := (dC, dI)) (ci := 0) (v := .int (v 12)) (C := RX2) (T := TX2) (N := 16) hx hb hts hin hown hK hP 0 rfl rfl 12 (by decide) hf_82 (fun _ h9 => h9) rfl dX2_endWrite_61 ?_
      refine va_put (D := (dC, dI)) (ci := 0) (v := .int (v 12)) (ty := .int) (C := RX2) (T := TX2) (N := 16) hx hb hts hin tyX2 tyX2_ok nmX2 hown hK hP hD hS 0 rfl rfl 6 (by decide) hf_60 (fun _ h9 => h9) rfl (by decide +kernel) rfl rfl (Nat.le_of_ble_eq_true rfl) dX2_endWrite_64 (fun H locs hP hD hS => ?_)
      have hP : va_P (dC, dI) vwCl (pwW cI h a b c (upd (upd (upd v 11 0) 5 ((v 5) + 1)) 6 (v 12)) fw fc (upd fr (v 14).toNatClampNeg (v 15))) H := hP
      have hD : va_D A (pwW cI h a b c (upd (upd (upd v 11 0) 5 ((v 5) + 1)) 6 (v 12)) fw fc (upd fr (v 14).toNatClampNeg (v 15))) := hD
      have e9 : fX2_endWrite v fw fc fr = (upd (upd (upd v 11 0) 5 ((v 5) + 1)) 6 (v 12), upd fr (v 14).toNatClampNeg (v 15)) := by rw [fX2_endWrite, if_pos c_9, if_neg c_33]
      exact W.vret hx hb hr (fun t ht hW => wr_endv (hAe ▸ hS) ht (by rw [e9]; exact hP) (by rw [e9, hAe]; exact hD)) hS.2.2 dX2_endWrite_67
  ·
    refine lv_aload_n hx hb dX2_endWrite_12 rfl (lv_at hl 0 rfl) ?_
    refine lv_aload_n hx hb dX2_endWrite_13 rfl (lv_at hl 0 rfl) ?_
    refine va_get (D := (dC, dI)) (ci := 0) (v := .int (v 13)) (C := RX2) (T := TX2) (N := 16) hx hb hts hin hown hK hP 0 rfl rfl 13 (by decide) hf_79 (fun _ h9 => h9) rfl dX2_endWrite_14 ?_
    refine va_put (D := (dC, dI)) (ci := 0) (v := .int (v 13)) (ty := .int) (C := RX2) (T := TX2) (N := 16) hx hb hts hin tyX2 tyX2_ok nmX2 hown hK hP hD hS 0 rfl rfl 7 (by decide) hf_54 (fun _ h9 => h9) rfl (by decide +kernel) rfl rfl (Nat.le_of_ble_eq_true rfl) dX2_endWrite_17 (fun H locs hP hD hS => ?_)
    have hP : va_P (dC, dI) vwCl (pwW cI h a b c (upd (upd v 11 0) 7 (v 13)) fw fc fr) H := hP
    have hD : va_D A (pwW cI h a b c (upd (upd v 11 0) 7 (v 13)) fw fc fr) := hD
    refine lv_aload_n hx hb dX2_endWrite_20 rfl (lv_at hl 0 rfl) ?_
    refine lv_aload_n hx hb dX2_endWrite_21 rfl (lv_at hl 0 rfl) ?_
    refine va_get (D := (dC, dI)) (ci := 0) (v := .int (v 12)) (C := RX2) (T := TX2) (N := 16) hx hb hts hin hown hK hP 0 rfl rfl 12 (by decide) hf_82 (fun _ h9 => h9) rfl dX2_endWrite_22 ?_
    refine va_put (D := (dC, dI)) (ci := 0) (v := .int (v 12)) (ty := .int) (C := RX2) (T := TX2) (N := 16) hx hb hts hin tyX2 tyX2_ok nmX2 hown hK hP hD hS 0 rfl rfl 8 (by decide) hf_57 (fun _ h9 => h9) rfl (by decide +kernel) rfl rfl (Nat.le_of_ble_eq_true rfl) dX2_endWrite_25 (fun H locs hP hD hS => ?_)
    have hP : va_P (dC, dI) vwCl (pwW cI h a b c (upd (upd (upd v 11 0) 7 (v 13)) 8 (v 12)) fw fc fr) H := hP
    have hD : va_D A (pwW cI h a b c (upd (upd (upd v 11 0) 7 (v 13)) 8 (v 12)) fw fc fr) := hD
    have e9 : fX2_endWrite v fw fc fr = (upd (upd (upd v 11 0) 7 (v 13)) 8 (v 12), fr) := by rw [fX2_endWrite, if_neg c_9]
    exact W.vret hx hb hr (fun t ht hW => wr_endv (hAe ▸ hS) ht (by rw [e9]; exact hP) (by rw [e9, hAe]; exact hD)) hS.2.2 dX2_endWrite_28
def fX2_oneClock (v fw fc fr : Nat → Int32) : (Nat → Int32) × (Nat → Int32) × (Nat → Int32) := (if (v 11) = 0 then (if ((v 4) + 1) = (v 10) then ((fX2_endMemory (upd (upd v 4 ((v 4) + 1)) 3 ((v 3) + 1)) fw fc fr).1, (fX2_endMemory (upd (upd v 4 ((v 4) + 1)) 3 ((v 3) + 1)) fw fc fr).2, fr) else (upd (upd v 4 ((v 4) + 1)) 3 ((v 3) + 1), fc, fr)) else (if (((fX2_endWrite (upd (upd v 4 ((v 4) + 1)) 3 ((v 3) + 1)) fw fc fr).1) 4) = (((fX2_endWrite (upd (upd v 4 ((v 4) + 1)) 3 ((v 3) + 1)) fw fc fr).1) 10) then ((fX2_endMemory ((fX2_endWrite (upd (upd v 4 ((v 4) + 1)) 3 ((v 3) + 1)) fw fc fr).1) fw fc ((fX2_endWrite (upd (upd v 4 ((v 4) + 1)) 3 ((v 3) + 1)) fw fc fr).2)).1, (fX2_endMemory ((fX2_endWrite (upd (upd v 4 ((v 4) + 1)) 3 ((v 3) + 1)) fw fc fr).1) fw fc ((fX2_endWrite (upd (upd v 4 ((v 4) + 1)) 3 ((v 3) + 1)) fw fc fr).2)).2, (fX2_endWrite (upd (upd v 4 ((v 4) + 1)) 3 ((v 3) + 1)) fw fc fr).2) else ((fX2_endWrite (upd (upd v 4 ((v 4) + 1)) 3 ((v 3) + 1)) fw fc fr).1, fc, (fX2_endWrite (upd (upd v 4 ((v 4) + 1)) 3 ((v 3) + 1)) fw fc fr).2)))
set_option maxHeartbeats 4000000 in
set_option maxRecDepth 100000 in
theorem kX2_oneClock (l : Launch) (dC : Nat → ClassId) (dI : Nat → Nat → Nat) (cI cB : ClassId) (h a b c : Nat) (sz : Nat) (v fw fc fr : Nat → Int32) (hwr : vp_in (v 14) 32) : Met l yX2_oneClock wsX2_oneClock ({ frames := 5, cells := 0, slots := 0, locals := 106 }) (wr_Pc [.ref h] (dC, dI) vwCl (tyIB cI cB) (pwW cI h a b c v fw fc fr) sz) (wr_Qv (pwW cI h a b c ((fX2_oneClock v fw fc fr).1) fw ((fX2_oneClock v fw fc fr).2.1) ((fX2_oneClock v fw fc fr).2.2)) (dC, dI) vwCl (pwW cI h a b c v fw fc fr) sz) 0 0 (va_A (pwW cI h a b c v fw fc fr) sz) := by
  refine Met.ofW (cc := cX2_oneClock) (maxL := 1) (ret := none) (by decide) rfl ?_
  intro p e s m args below meth c9 s₁ B hml hv
  obtain ⟨rfl, hsz, hP, hK, hD0⟩ := hv
  have hx := B.exec
  have hb := B.bytes
  have hr := B.returns
  have hts := atoms_spec (ws := wsX2_oneClock) B.pre
  have hown : s.vm.findClass RX2 = some m.cls := findClass_of_methodNamed B.named
  have hlocks := B.notSynchronized
  subst hsz
  have hD := hD0.self (sz := s.heap.size)
  generalize hAe : va_A (pwW cI h a b c v fw fc fr) s.heap.size = A at hD ⊢
  have hA : ∀ q : Nat, s.heap.size ≤ q → A q := fun q h => by rw [← hAe]; exact Or.inr h
  have hS : va_S A s.heap s.heap [] := va_S.rf
  have hin : ∀ w ∈ wsX20, w ∈ wsX2_oneClock := by decide +kernel
  have hf_19 := hts (.fieldLink RX2 19 "PipeWorks" "clocksInAll" "I") (by decide +kernel)
  have hf_26 := hts (.fieldLink RX2 26 "PipeWorks" "clocks" "I") (by decide +kernel)
  have hf_66 := hts (.fieldLink RX2 66 "PipeWorks" "memoryClock" "I") (by decide +kernel)
  have hf_69 := hts (.fieldLink RX2 69 "PipeWorks" "writePending" "Z") (by decide +kernel)
  have hl := lv_entry ([.ref h]) (n := 1) (Nat.le_of_ble_eq_true rfl)
  rw [lg_entry_eq]
  generalize (lg_sl ([.ref h]) ++ List.replicate (1 - (lg_sl ([.ref h])).length) Slot.unset).toArray = ls at hl ⊢
  have hl : lv_has ls 1 [(0, .ref h)] := hl
  refine lv_aload_n hx hb dX2_oneClock_0 rfl (lv_at hl 0 rfl) ?_
  refine lv_dup hx hb dX2_oneClock_1 rfl ?_
  refine va_get (D := (dC, dI)) (ci := 0) (v := .int (v 4)) (C := RX2) (T := TX2) (N := 16) hx hb hts hin hown hK hP 0 rfl rfl 4 (by decide) hf_26 (fun _ h9 => h9) rfl dX2_oneClock_2 ?_
  refine lv_iconst (v := 1) hx hb dX2_oneClock_5 (by decide) ?_
  refine lv_iadd hx hb dX2_oneClock_6 ?_
  refine va_put (D := (dC, dI)) (ci := 0) (v := .int ((v 4) + 1)) (ty := .int) (C := RX2) (T := TX2) (N := 16) hx hb hts hin tyX2 tyX2_ok nmX2 hown hK hP hD hS 0 rfl rfl 4 (by decide) hf_26 (fun _ h9 => h9) rfl (by decide +kernel) rfl rfl (Nat.le_of_ble_eq_true rfl) dX2_oneClock_7 (fun H locs hP hD hS => ?_)
  have hP : va_P (dC, dI) vwCl (pwW cI h a b c (upd v 4 ((v 4) + 1)) fw fc fr) H := hP
  have hD : va_D A (pwW cI h a b c (upd v 4 ((v 4) + 1)) fw fc fr) := hD
  refine lv_aload_n hx hb dX2_oneClock_10 rfl (lv_at hl 0 rfl) ?_
  refine lv_dup hx hb dX2_oneClock_11 rfl ?_
  refine va_get (D := (dC, dI)) (ci := 0) (v := .int (v 3)) (C := RX2) (T := TX2) (N := 16) hx hb hts hin hown hK hP 0 rfl rfl 3 (by decide) hf_19 (fun _ h9 => h9) rfl dX2_oneClock_12 ?_
  refine lv_iconst (v := 1) hx hb dX2_oneClock_15 (by decide) ?_
  refine lv_iadd hx hb dX2_oneClock_16 ?_
  refine va_put (D := (dC, dI)) (ci := 0) (v := .int ((v 3) + 1)) (ty := .int) (C := RX2) (T := TX2) (N := 16) hx hb hts hin tyX2 tyX2_ok nmX2 hown hK hP hD hS 0 rfl rfl 3 (by decide) hf_19 (fun _ h9 => h9) rfl (by decide +kernel) rfl rfl (Nat.le_of_ble_eq_true rfl) dX2_oneClock_17 (fun H locs hP hD hS => ?_)
  have hP : va_P (dC, dI) vwCl (pwW cI h a b c (upd (upd v 4 ((v 4) + 1)) 3 ((v 3) + 1)) fw fc fr) H := hP
  have hD : va_D A (pwW cI h a b c (upd (upd v 4 ((v 4) + 1)) 3 ((v 3) + 1)) fw fc fr) := hD
  refine lv_aload_n hx hb dX2_oneClock_20 rfl (lv_at hl 0 rfl) ?_
  refine va_get (D := (dC, dI)) (ci := 0) (v := .int (v 11)) (C := RX2) (T := TX2) (N := 16) hx hb hts hin hown hK hP 0 rfl rfl 11 (by decide) hf_69 (fun _ h9 => h9) rfl dX2_oneClock_21 ?_
  refine lv_if_eq (tgt := 31) hx hb dX2_oneClock_24 (by decide) (fun c_24 => ?_) (fun c_24 => ?_)
  ·
    refine lv_aload_n hx hb dX2_oneClock_31 rfl (lv_at hl 0 rfl) ?_
    refine va_get (D := (dC, dI)) (ci := 0) (v := .int ((v 4) + 1)) (C := RX2) (T := TX2) (N := 16) hx hb hts hin hown hK hP 0 rfl rfl 4 (by decide) hf_26 (fun _ h9 => h9) rfl dX2_oneClock_32 ?_
    refine lv_aload_n hx hb dX2_oneClock_35 rfl (lv_at hl 0 rfl) ?_
    refine va_get (D := (dC, dI)) (ci := 0) (v := .int (v 10)) (C := RX2) (T := TX2) (N := 16) hx hb hts hin hown hK hP 0 rfl rfl 10 (by decide) hf_66 (fun _ h9 => h9) rfl dX2_oneClock_36 ?_
    refine lv_icmp_ne (tgt := 46) hx hb dX2_oneClock_39 (by decide) (fun c_39 => ?_) (fun c_39 => ?_)
    ·
      have e9 : fX2_oneClock v fw fc fr = (upd (upd v 4 ((v 4) + 1)) 3 ((v 3) + 1), fc, fr) := by rw [fX2_oneClock, if_pos c_24, if_neg c_39]
      exact W.vret hx hb hr (fun t ht hW => wr_endv (hAe ▸ hS) ht (by rw [e9]; exact hP) (by rw [e9, hAe]; exact hD)) hS.2.2 dX2_oneClock_46
    ·
      refine lv_aload_n hx hb dX2_oneClock_42 rfl (lv_at hl 0 rfl) ?_
      refine wr_callv (va_runV (As := []) (rest := []) ⟨hx, hb, hml, hown, hts⟩ (kX2_endMemory l dC dI cI cB h a b c _ (upd (upd v 4 ((v 4) + 1)) 3 ((v 3) + 1)) fw fc fr  ) (cwV 0 hts gX2_oneClock_X2_endMemory rfl rfl rfl (by decide +kernel) ⟨Nat.le_of_ble_eq_true rfl, Nat.le_of_ble_eq_true rfl⟩) (wr_preV hK hP hD (ci := 0) (q0 := 0) rfl rfl) rfl rfl hl.1 rfl (lv_room (Nat.le_of_ble_eq_true rfl)) dX2_oneClock_43 ⟨Nat.zero_le _, Nat.zero_le _⟩) hS hA hP hD [0, 1, 2, 3] [] rfl (wr := []) rfl rfl (by decide) (fun H locs hP hD hS => ?_)
      have hP : va_P (dC, dI) vwCl (pwW cI h a b c ((fX2_endMemory (upd (upd v 4 ((v 4) + 1)) 3 ((v 3) + 1)) fw fc fr).1) fw ((fX2_endMemory (upd (upd v 4 ((v 4) + 1)) 3 ((v 3) + 1)) fw fc fr).2) fr) H := hP
      have hD : va_D A (pwW cI h a b c ((fX2_endMemory (upd (upd v 4 ((v 4) + 1)) 3 ((v 3) + 1)) fw fc fr).1) fw ((fX2_endMemory (upd (upd v 4 ((v 4) + 1)) 3 ((v 3) + 1)) fw fc fr).2) fr) := hD
      have e9 : fX2_oneClock v fw fc fr = ((fX2_endMemory (upd (upd v 4 ((v 4) + 1)) 3 ((v 3) + 1)) fw fc fr).1, (fX2_endMemory (upd (upd v 4 ((v 4) + 1)) 3 ((v 3) + 1)) fw fc fr).2, fr) := by rw [fX2_oneClock, if_pos c_24, if_pos c_39]
      exact W.vret hx hb hr (fun t ht hW => wr_endv (hAe ▸ hS) ht (by rw [e9]; exact hP) (by rw [e9, hAe]; exact hD)) hS.2.2 dX2_oneClock_46
  ·
    refine lv_aload_n hx hb dX2_oneClock_27 rfl (lv_at hl 0 rfl) ?_
    refine wr_callv (va_runV (As := []) (rest := []) ⟨hx, hb, hml, hown, hts⟩ (kX2_endWrite l dC dI cI cB h a b c _ (upd (upd v 4 ((v 4) + 1)) 3 ((v 3) + 1)) fw fc fr  hwr) (cwV 0 hts gX2_oneClock_X2_endWrite rfl rfl rfl (by decide +kernel) ⟨Nat.le_of_ble_eq_true rfl, Nat.le_of_ble_eq_true rfl⟩) (wr_preV hK hP hD (ci := 0) (q0 := 0) rfl rfl) rfl rfl hl.1 rfl (lv_room (Nat.le_of_ble_eq_true rfl)) dX2_oneClock_28 ⟨Nat.zero_le _, Nat.zero_le _⟩) hS hA hP hD [0, 1, 2, 3] [] rfl (wr := []) rfl rfl (by decide) (fun H locs hP hD hS => ?_)
    have hP : va_P (dC, dI) vwCl (pwW cI h a b c ((fX2_endWrite (upd (upd v 4 ((v 4) + 1)) 3 ((v 3) + 1)) fw fc fr).1) fw fc ((fX2_endWrite (upd (upd v 4 ((v 4) + 1)) 3 ((v 3) + 1)) fw fc fr).2)) H := hP
    have hD : va_D A (pwW cI h a b c ((fX2_endWrite (upd (upd v 4 ((v 4) + 1)) 3 ((v 3) + 1)) fw fc fr).1) fw fc ((fX2_endWrite (upd (upd v 4 ((v 4) + 1)) 3 ((v 3) + 1)) fw fc fr).2)) := hD
    refine lv_aload_n hx hb dX2_oneClock_31 rfl (lv_at hl 0 rfl) ?_
    refine va_get (D := (dC, dI)) (ci := 0) (v := .int (((fX2_endWrite (upd (upd v 4 ((v 4) + 1)) 3 ((v 3) + 1)) fw fc fr).1) 4)) (C := RX2) (T := TX2) (N := 16) hx hb hts hin hown hK hP 0 rfl rfl 4 (by decide) hf_26 (fun _ h9 => h9) rfl dX2_oneClock_32 ?_
    refine lv_aload_n hx hb dX2_oneClock_35 rfl (lv_at hl 0 rfl) ?_
    refine va_get (D := (dC, dI)) (ci := 0) (v := .int (((fX2_endWrite (upd (upd v 4 ((v 4) + 1)) 3 ((v 3) + 1)) fw fc fr).1) 10)) (C := RX2) (T := TX2) (N := 16) hx hb hts hin hown hK hP 0 rfl rfl 10 (by decide) hf_66 (fun _ h9 => h9) rfl dX2_oneClock_36 ?_
    refine lv_icmp_ne (tgt := 46) hx hb dX2_oneClock_39 (by decide) (fun c_39 => ?_) (fun c_39 => ?_)
    ·
      have e9 : fX2_oneClock v fw fc fr = ((fX2_endWrite (upd (upd v 4 ((v 4) + 1)) 3 ((v 3) + 1)) fw fc fr).1, fc, (fX2_endWrite (upd (upd v 4 ((v 4) + 1)) 3 ((v 3) + 1)) fw fc fr).2) := by rw [fX2_oneClock, if_neg c_24, if_neg c_39]
      exact W.vret hx hb hr (fun t ht hW => wr_endv (hAe ▸ hS) ht (by rw [e9]; exact hP) (by rw [e9, hAe]; exact hD)) hS.2.2 dX2_oneClock_46
    ·
      refine lv_aload_n hx hb dX2_oneClock_42 rfl (lv_at hl 0 rfl) ?_
      refine wr_callv (va_runV (As := []) (rest := []) ⟨hx, hb, hml, hown, hts⟩ (kX2_endMemory l dC dI cI cB h a b c _ ((fX2_endWrite (upd (upd v 4 ((v 4) + 1)) 3 ((v 3) + 1)) fw fc fr).1) fw fc ((fX2_endWrite (upd (upd v 4 ((v 4) + 1)) 3 ((v 3) + 1)) fw fc fr).2)  ) (cwV 0 hts gX2_oneClock_X2_endMemory rfl rfl rfl (by decide +kernel) ⟨Nat.le_of_ble_eq_true rfl, Nat.le_of_ble_eq_true rfl⟩) (wr_preV hK hP hD (ci := 0) (q0 := 0) rfl rfl) rfl rfl hl.1 rfl (lv_room (Nat.le_of_ble_eq_true rfl)) dX2_oneClock_43 ⟨Nat.zero_le _, Nat.zero_le _⟩) hS hA hP hD [0, 1, 2, 3] [] rfl (wr := []) rfl rfl (by decide) (fun H locs hP hD hS => ?_)
      have hP : va_P (dC, dI) vwCl (pwW cI h a b c ((fX2_endMemory ((fX2_endWrite (upd (upd v 4 ((v 4) + 1)) 3 ((v 3) + 1)) fw fc fr).1) fw fc ((fX2_endWrite (upd (upd v 4 ((v 4) + 1)) 3 ((v 3) + 1)) fw fc fr).2)).1) fw ((fX2_endMemory ((fX2_endWrite (upd (upd v 4 ((v 4) + 1)) 3 ((v 3) + 1)) fw fc fr).1) fw fc ((fX2_endWrite (upd (upd v 4 ((v 4) + 1)) 3 ((v 3) + 1)) fw fc fr).2)).2) ((fX2_endWrite (upd (upd v 4 ((v 4) + 1)) 3 ((v 3) + 1)) fw fc fr).2)) H := hP
      have hD : va_D A (pwW cI h a b c ((fX2_endMemory ((fX2_endWrite (upd (upd v 4 ((v 4) + 1)) 3 ((v 3) + 1)) fw fc fr).1) fw fc ((fX2_endWrite (upd (upd v 4 ((v 4) + 1)) 3 ((v 3) + 1)) fw fc fr).2)).1) fw ((fX2_endMemory ((fX2_endWrite (upd (upd v 4 ((v 4) + 1)) 3 ((v 3) + 1)) fw fc fr).1) fw fc ((fX2_endWrite (upd (upd v 4 ((v 4) + 1)) 3 ((v 3) + 1)) fw fc fr).2)).2) ((fX2_endWrite (upd (upd v 4 ((v 4) + 1)) 3 ((v 3) + 1)) fw fc fr).2)) := hD
      have e9 : fX2_oneClock v fw fc fr = ((fX2_endMemory ((fX2_endWrite (upd (upd v 4 ((v 4) + 1)) 3 ((v 3) + 1)) fw fc fr).1) fw fc ((fX2_endWrite (upd (upd v 4 ((v 4) + 1)) 3 ((v 3) + 1)) fw fc fr).2)).1, (fX2_endMemory ((fX2_endWrite (upd (upd v 4 ((v 4) + 1)) 3 ((v 3) + 1)) fw fc fr).1) fw fc ((fX2_endWrite (upd (upd v 4 ((v 4) + 1)) 3 ((v 3) + 1)) fw fc fr).2)).2, (fX2_endWrite (upd (upd v 4 ((v 4) + 1)) 3 ((v 3) + 1)) fw fc fr).2) := by rw [fX2_oneClock, if_neg c_24, if_pos c_39]
      exact W.vret hx hb hr (fun t ht hW => wr_endv (hAe ▸ hS) ht (by rw [e9]; exact hP) (by rw [e9, hAe]; exact hD)) hS.2.2 dX2_oneClock_46
