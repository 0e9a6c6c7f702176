def fX1_opcode (w : Int32) : Int32 := (w &&& 127)
set_option maxHeartbeats 4000000 in
set_option maxRecDepth 100000 in
theorem kX1_opcode (l : Launch) (w : Int32) : Met l yX1_opcode wsX1_opcode ({ frames := 0, cells := 0, slots := 0, locals := 0 }) (pu_Pc [.int w]) (ro_Q (fX1_opcode w)) 0 0 ro_N := by
  refine Met.ofW (cc := cX1_opcode) (maxL := 1) (ret := (some .int)) (by decide) rfl ?_
  intro p e s m args below meth c s₁ B hml hv
  obtain ⟨rfl, -⟩ := hv
  have hx := B.exec
  have hb := B.bytes
  have hr := B.returns
  have hts := atoms_spec (ws := wsX1_opcode) B.pre
  have hown : s.vm.findClass RX1 = some m.cls := findClass_of_methodNamed B.named
  have hlocks := B.notSynchronized
  have hS : va_S ro_N s.heap s.heap [] := va_S.rf
  have hl := lv_entry ([.int w]) (n := 1) (Nat.le_of_ble_eq_true rfl)
  rw [lg_entry_eq]
  generalize (lg_sl ([.int w]) ++ List.replicate (1 - (lg_sl ([.int w])).length) Slot.unset).toArray = ls at hl ⊢
  have hl : lv_has ls 1 [(0, .int w)] := hl
  refine lv_iload_n hx hb dX1_opcode_0 rfl (lv_at hl 0 rfl) ?_
  refine lv_bipush (v := 127) hx hb dX1_opcode_1 (by decide) ?_
  refine lv_iand hx hb dX1_opcode_3 ?_
  exact W.iret (v := w &&& 127) hx hb hr (fun t ht hW => ro_end (A := ro_N) hS ht (by rw [fX1_opcode])) hS.2.2 dX1_opcode_4
def fX1_rd (w : Int32) : Int32 := ((jushr w 7) &&& 31)
set_option maxHeartbeats 4000000 in
set_option maxRecDepth 100000 in
theorem kX1_rd (l : Launch) (w : Int32) : Met l yX1_rd wsX1_rd ({ frames := 0, cells := 0, slots := 0, locals := 0 }) (pu_Pc [.int w]) (ro_Q (fX1_rd w)) 0 0 ro_N := by
  refine Met.ofW (cc := cX1_rd) (maxL := 1) (ret := (some .int)) (by decide) rfl ?_
  intro p e s m args below meth c s₁ B hml hv
  obtain ⟨rfl, -⟩ := hv
  have hx := B.exec
  have hb := B.bytes
  have hr := B.returns
  have hts := atoms_spec (ws := wsX1_rd) B.pre
  have hown : s.vm.findClass RX1 = some m.cls := findClass_of_methodNamed B.named
  have hlocks := B.notSynchronized
  have hS : va_S ro_N s.heap s.heap [] := va_S.rf
  have hl := lv_entry ([.int w]) (n := 1) (Nat.le_of_ble_eq_true rfl)
  rw [lg_entry_eq]
  generalize (lg_sl ([.int w]) ++ List.replicate (1 - (lg_sl ([.int w])).length) Slot.unset).toArray = ls at hl ⊢
  have hl : lv_has ls 1 [(0, .int w)] := hl
  refine lv_iload_n hx hb dX1_rd_0 rfl (lv_at hl 0 rfl) ?_
  refine lv_bipush (v := 7) hx hb dX1_rd_1 (by decide) ?_
  refine lv_iushr (v := jushr w 7) hx hb dX1_rd_3 rfl ?_
  refine lv_bipush (v := 31) hx hb dX1_rd_4 (by decide) ?_
  refine lv_iand hx hb dX1_rd_6 ?_
  exact W.iret (v := (jushr w 7) &&& 31) hx hb hr (fun t ht hW => ro_end (A := ro_N) hS ht (by rw [fX1_rd])) hS.2.2 dX1_rd_7
def fX1_f3 (w : Int32) : Int32 := ((jushr w 12) &&& 7)
set_option maxHeartbeats 4000000 in
set_option maxRecDepth 100000 in
theorem kX1_f3 (l : Launch) (w : Int32) : Met l yX1_f3 wsX1_f3 ({ frames := 0, cells := 0, slots := 0, locals := 0 }) (pu_Pc [.int w]) (ro_Q (fX1_f3 w)) 0 0 ro_N := by
  refine Met.ofW (cc := cX1_f3) (maxL := 1) (ret := (some .int)) (by decide) rfl ?_
  intro p e s m args below meth c s₁ B hml hv
  obtain ⟨rfl, -⟩ := hv
  have hx := B.exec
  have hb := B.bytes
  have hr := B.returns
  have hts := atoms_spec (ws := wsX1_f3) B.pre
  have hown : s.vm.findClass RX1 = some m.cls := findClass_of_methodNamed B.named
  have hlocks := B.notSynchronized
  have hS : va_S ro_N s.heap s.heap [] := va_S.rf
  have hl := lv_entry ([.int w]) (n := 1) (Nat.le_of_ble_eq_true rfl)
  rw [lg_entry_eq]
  generalize (lg_sl ([.int w]) ++ List.replicate (1 - (lg_sl ([.int w])).length) Slot.unset).toArray = ls at hl ⊢
  have hl : lv_has ls 1 [(0, .int w)] := hl
  refine lv_iload_n hx hb dX1_f3_0 rfl (lv_at hl 0 rfl) ?_
  refine lv_bipush (v := 12) hx hb dX1_f3_1 (by decide) ?_
  refine lv_iushr (v := jushr w 12) hx hb dX1_f3_3 rfl ?_
  refine lv_bipush (v := 7) hx hb dX1_f3_4 (by decide) ?_
  refine lv_iand hx hb dX1_f3_6 ?_
  exact W.iret (v := (jushr w 12) &&& 7) hx hb hr (fun t ht hW => ro_end (A := ro_N) hS ht (by rw [fX1_f3])) hS.2.2 dX1_f3_7
def fX1_rs1 (w : Int32) : Int32 := ((jushr w 15) &&& 31)
set_option maxHeartbeats 4000000 in
set_option maxRecDepth 100000 in
theorem kX1_rs1 (l : Launch) (w : Int32) : Met l yX1_rs1 wsX1_rs1 ({ frames := 0, cells := 0, slots := 0, locals := 0 }) (pu_Pc [.int w]) (ro_Q (fX1_rs1 w)) 0 0 ro_N := by
  refine Met.ofW (cc := cX1_rs1) (maxL := 1) (ret := (some .int)) (by decide) rfl ?_
  intro p e s m args below meth c s₁ B hml hv
  obtain ⟨rfl, -⟩ := hv
  have hx := B.exec
  have hb := B.bytes
  have hr := B.returns
  have hts := atoms_spec (ws := wsX1_rs1) B.pre
  have hown : s.vm.findClass RX1 = some m.cls := findClass_of_methodNamed B.named
  have hlocks := B.notSynchronized
  have hS : va_S ro_N s.heap s.heap [] := va_S.rf
  have hl := lv_entry ([.int w]) (n := 1) (Nat.le_of_ble_eq_true rfl)
  rw [lg_entry_eq]
  generalize (lg_sl ([.int w]) ++ List.replicate (1 - (lg_sl ([.int w])).length) Slot.unset).toArray = ls at hl ⊢
  have hl : lv_has ls 1 [(0, .int w)] := hl
  refine lv_iload_n hx hb dX1_rs1_0 rfl (lv_at hl 0 rfl) ?_
  refine lv_bipush (v := 15) hx hb dX1_rs1_1 (by decide) ?_
  refine lv_iushr (v := jushr w 15) hx hb dX1_rs1_3 rfl ?_
  refine lv_bipush (v := 31) hx hb dX1_rs1_4 (by decide) ?_
  refine lv_iand hx hb dX1_rs1_6 ?_
  exact W.iret (v := (jushr w 15) &&& 31) hx hb hr (fun t ht hW => ro_end (A := ro_N) hS ht (by rw [fX1_rs1])) hS.2.2 dX1_rs1_7
def fX1_rs2 (w : Int32) : Int32 := ((jushr w 20) &&& 31)
set_option maxHeartbeats 4000000 in
set_option maxRecDepth 100000 in
theorem kX1_rs2 (l : Launch) (w : Int32) : Met l yX1_rs2 wsX1_rs2 ({ frames := 0, cells := 0, slots := 0, locals := 0 }) (pu_Pc [.int w]) (ro_Q (fX1_rs2 w)) 0 0 ro_N := by
  refine Met.ofW (cc := cX1_rs2) (maxL := 1) (ret := (some .int)) (by decide) rfl ?_
  intro p e s m args below meth c s₁ B hml hv
  obtain ⟨rfl, -⟩ := hv
  have hx := B.exec
  have hb := B.bytes
  have hr := B.returns
  have hts := atoms_spec (ws := wsX1_rs2) B.pre
  have hown : s.vm.findClass RX1 = some m.cls := findClass_of_methodNamed B.named
  have hlocks := B.notSynchronized
  have hS : va_S ro_N s.heap s.heap [] := va_S.rf
  have hl := lv_entry ([.int w]) (n := 1) (Nat.le_of_ble_eq_true rfl)
  rw [lg_entry_eq]
  generalize (lg_sl ([.int w]) ++ List.replicate (1 - (lg_sl ([.int w])).length) Slot.unset).toArray = ls at hl ⊢
  have hl : lv_has ls 1 [(0, .int w)] := hl
  refine lv_iload_n hx hb dX1_rs2_0 rfl (lv_at hl 0 rfl) ?_
  refine lv_bipush (v := 20) hx hb dX1_rs2_1 (by decide) ?_
  refine lv_iushr (v := jushr w 20) hx hb dX1_rs2_3 rfl ?_
  refine lv_bipush (v := 31) hx hb dX1_rs2_4 (by decide) ?_
  refine lv_iand hx hb dX1_rs2_6 ?_
  exact W.iret (v := (jushr w 20) &&& 31) hx hb hr (fun t ht hW => ro_end (A := ro_N) hS ht (by rw [fX1_rs2])) hS.2.2 dX1_rs2_7
def fX1_f7 (w : Int32) : Int32 := (jushr w 25)
set_option maxHeartbeats 4000000 in
set_option maxRecDepth 100000 in
theorem kX1_f7 (l : Launch) (w : Int32) : Met l yX1_f7 wsX1_f7 ({ frames := 0, cells := 0, slots := 0, locals := 0 }) (pu_Pc [.int w]) (ro_Q (fX1_f7 w)) 0 0 ro_N := by
  refine Met.ofW (cc := cX1_f7) (maxL := 1) (ret := (some .int)) (by decide) rfl ?_
  intro p e s m args below meth c s₁ B hml hv
  obtain ⟨rfl, -⟩ := hv
  have hx := B.exec
  have hb := B.bytes
  have hr := B.returns
  have hts := atoms_spec (ws := wsX1_f7) B.pre
  have hown : s.vm.findClass RX1 = some m.cls := findClass_of_methodNamed B.named
  have hlocks := B.notSynchronized
  have hS : va_S ro_N s.heap s.heap [] := va_S.rf
  have hl := lv_entry ([.int w]) (n := 1) (Nat.le_of_ble_eq_true rfl)
  rw [lg_entry_eq]
  generalize (lg_sl ([.int w]) ++ List.replicate (1 - (lg_sl ([.int w])).length) Slot.unset).toArray = ls at hl ⊢
  have hl : lv_has ls 1 [(0, .int w)] := hl
  refine lv_iload_n hx hb dX1_f7_0 rfl (lv_at hl 0 rfl) ?_
  refine lv_bipush (v := 25) hx hb dX1_f7_1 (by decide) ?_
  refine lv_iushr (v := jushr w 25) hx hb dX1_f7_3 rfl ?_
  exact W.iret (v := jushr w 25) hx hb hr (fun t ht hW => ro_end (A := ro_N) hS ht (by rw [fX1_f7])) hS.2.2 dX1_f7_4
def fX1_immediateI (w : Int32) : Int32 := (w >>> (20 &&& 31))
set_option maxHeartbeats 4000000 in
set_option maxRecDepth 100000 in
theorem kX1_immediateI (l : Launch) (w : Int32) : Met l yX1_immediateI wsX1_immediateI ({ frames := 0, cells := 0, slots := 0, locals := 0 }) (pu_Pc [.int w]) (ro_Q (fX1_immediateI w)) 0 0 ro_N := by
  refine Met.ofW (cc := cX1_immediateI) (maxL := 1) (ret := (some .int)) (by decide) rfl ?_
  intro p e s m args below meth c s₁ B hml hv
  obtain ⟨rfl, -⟩ := hv
  have hx := B.exec
  have hb := B.bytes
  have hr := B.returns
  have hts := atoms_spec (ws := wsX1_immediateI) B.pre
  have hown : s.vm.findClass RX1 = some m.cls := findClass_of_methodNamed B.named
  have hlocks := B.notSynchronized
  have hS : va_S ro_N s.heap s.heap [] := va_S.rf
  have hl := lv_entry ([.int w]) (n := 1) (Nat.le_of_ble_eq_true rfl)
  rw [lg_entry_eq]
  generalize (lg_sl ([.int w]) ++ List.replicate (1 - (lg_sl ([.int w])).length) Slot.unset).toArray = ls at hl ⊢
  have hl : lv_has ls 1 [(0, .int w)] := hl
  refine lv_iload_n hx hb dX1_immediateI_0 rfl (lv_at hl 0 rfl) ?_
  refine lv_bipush (v := 20) hx hb dX1_immediateI_1 (by decide) ?_
  refine lv_ishr hx hb dX1_immediateI_3 ?_
  exact W.iret (v := w >>> (20 &&& 31)) hx hb hr (fun t ht hW => ro_end (A := ro_N) hS ht (by rw [fX1_immediateI])) hS.2.2 dX1_immediateI_4
def fX1_immediateS (w : Int32) : Int32 := (((w >>> (25 &&& 31)) <<< (5 &&& 31)) ||| (fX1_rd w))
set_option maxHeartbeats 4000000 in
set_option maxRecDepth 100000 in
theorem kX1_immediateS (l : Launch) (w : Int32) : Met l yX1_immediateS wsX1_immediateS ({ frames := 1, cells := 0, slots := 0, locals := 20 }) (pu_Pc [.int w]) (ro_Q (fX1_immediateS w)) 0 0 ro_N := by
  refine Met.ofW (cc := cX1_immediateS) (maxL := 1) (ret := (some .int)) (by decide) rfl ?_
  intro p e s m args below meth c s₁ B hml hv
  obtain ⟨rfl, -⟩ := hv
  have hx := B.exec
  have hb := B.bytes
  have hr := B.returns
  have hts := atoms_spec (ws := wsX1_immediateS) B.pre
  have hown : s.vm.findClass RX1 = some m.cls := findClass_of_methodNamed B.named
  have hlocks := B.notSynchronized
  have hS : va_S ro_N s.heap s.heap [] := va_S.rf
  have hl := lv_entry ([.int w]) (n := 1) (Nat.le_of_ble_eq_true rfl)
  rw [lg_entry_eq]
  generalize (lg_sl ([.int w]) ++ List.replicate (1 - (lg_sl ([.int w])).length) Slot.unset).toArray = ls at hl ⊢
  have hl : lv_has ls 1 [(0, .int w)] := hl
  refine lv_iload_n hx hb dX1_immediateS_0 rfl (lv_at hl 0 rfl) ?_
  refine lv_bipush (v := 25) hx hb dX1_immediateS_1 (by decide) ?_
  refine lv_ishr hx hb dX1_immediateS_3 ?_
  refine lv_iconst (v := 5) hx hb dX1_immediateS_4 (by decide) ?_
  refine lv_ishl hx hb dX1_immediateS_5 ?_
  refine lv_iload_n hx hb dX1_immediateS_6 rfl (lv_at hl 0 rfl) ?_
  refine ro_call (va_runS (As := [.int w]) (rest := [.int ((w >>> (25 &&& 31)) <<< (5 &&& 31))]) ⟨hx, hb, hml, hown, hts⟩ (kX1_rd l w ) (va_cwS 1 hts gX1_immediateS_X1_rd rfl rfl rfl (by decide +kernel) ⟨Nat.le_of_ble_eq_true rfl, Nat.le_of_ble_eq_true rfl⟩) pu_preS rfl rfl hl.1 rfl (lv_room (Nat.le_of_ble_eq_true rfl)) dX1_immediateS_7 ⟨Nat.zero_le _, Nat.zero_le _⟩) hS (fun H locs hk hS => ?_)
  refine lv_ior hx hb dX1_immediateS_10 ?_
  exact W.iret (v := ((w >>> (25 &&& 31)) <<< (5 &&& 31)) ||| (fX1_rd w)) hx hb hr (fun t ht hW => ro_end (A := ro_N) hS ht (by rw [fX1_immediateS])) hS.2.2 dX1_immediateS_11
def fX1_immediateB (w : Int32) : Int32 := (((((w >>> (31 &&& 31)) <<< (12 &&& 31)) ||| (((jushr w 7) &&& 1) <<< (11 &&& 31))) ||| (((jushr w 25) &&& 63) <<< (5 &&& 31))) ||| (((jushr w 8) &&& 15) <<< (1 &&& 31)))
set_option maxHeartbeats 4000000 in
set_option maxRecDepth 100000 in
theorem kX1_immediateB (l : Launch) (w : Int32) : Met l yX1_immediateB wsX1_immediateB ({ frames := 0, cells := 0, slots := 0, locals := 0 }) (pu_Pc [.int w]) (ro_Q (fX1_immediateB w)) 0 0 ro_N := by
  refine Met.ofW (cc := cX1_immediateB) (maxL := 1) (ret := (some .int)) (by decide) rfl ?_
  intro p e s m args below meth c s₁ B hml hv
  obtain ⟨rfl, -⟩ := hv
  have hx := B.exec
  have hb := B.bytes
  have hr := B.returns
  have hts := atoms_spec (ws := wsX1_immediateB) B.pre
  have hown : s.vm.findClass RX1 = some m.cls := findClass_of_methodNamed B.named
  have hlocks := B.notSynchronized
  have hS : va_S ro_N s.heap s.heap [] := va_S.rf
  have hl := lv_entry ([.int w]) (n := 1) (Nat.le_of_ble_eq_true rfl)
  rw [lg_entry_eq]
  generalize (lg_sl ([.int w]) ++ List.replicate (1 - (lg_sl ([.int w])).length) Slot.unset).toArray = ls at hl ⊢
  have hl : lv_has ls 1 [(0, .int w)] := hl
  refine lv_iload_n hx hb dX1_immediateB_0 rfl (lv_at hl 0 rfl) ?_
  refine lv_bipush (v := 31) hx hb dX1_immediateB_1 (by decide) ?_
  refine lv_ishr hx hb dX1_immediateB_3 ?_
  refine lv_bipush (v := 12) hx hb dX1_immediateB_4 (by decide) ?_
  refine lv_ishl hx hb dX1_immediateB_6 ?_
  refine lv_iload_n hx hb dX1_immediateB_7 rfl (lv_at hl 0 rfl) ?_
  refine lv_bipush (v := 7) hx hb dX1_immediateB_8 (by decide) ?_
  refine lv_iushr (v := jushr w 7) hx hb dX1_immediateB_10 rfl ?_
  refine lv_iconst (v := 1) hx hb dX1_immediateB_11 (by decide) ?_
  refine lv_iand hx hb dX1_immediateB_12 ?_
  refine lv_bipush (v := 11) hx hb dX1_immediateB_13 (by decide) ?_
  refine lv_ishl hx hb dX1_immediateB_15 ?_
  refine lv_ior hx hb dX1_immediateB_16 ?_
  refine lv_iload_n hx hb dX1_immediateB_17 rfl (lv_at hl 0 rfl) ?_
  refine lv_bipush (v := 25) hx hb dX1_immediateB_18 (by decide) ?_
  refine lv_iushr (v := jushr w 25) hx hb dX1_immediateB_20 rfl ?_
  refine lv_bipush (v := 63) hx hb dX1_immediateB_21 (by decide) ?_
  refine lv_iand hx hb dX1_immediateB_23 ?_
  refine lv_iconst (v := 5) hx hb dX1_immediateB_24 (by decide) ?_
  refine lv_ishl hx hb dX1_immediateB_25 ?_
  refine lv_ior hx hb dX1_immediateB_26 ?_
  refine lv_iload_n hx hb dX1_immediateB_27 rfl (lv_at hl 0 rfl) ?_
  refine lv_bipush (v := 8) hx hb dX1_immediateB_28 (by decide) ?_
  refine lv_iushr (v := jushr w 8) hx hb dX1_immediateB_30 rfl ?_
  refine lv_bipush (v := 15) hx hb dX1_immediateB_31 (by decide) ?_
  refine lv_iand hx hb dX1_immediateB_33 ?_
  refine lv_iconst (v := 1) hx hb dX1_immediateB_34 (by decide) ?_
  refine lv_ishl hx hb dX1_immediateB_35 ?_
  refine lv_ior hx hb dX1_immediateB_36 ?_
  exact W.iret (v := ((((w >>> (31 &&& 31)) <<< (12 &&& 31)) ||| (((jushr w 7) &&& 1) <<< (11 &&& 31))) ||| (((jushr w 25) &&& 63) <<< (5 &&& 31))) ||| (((jushr w 8) &&& 15) <<< (1 &&& 31))) hx hb hr (fun t ht hW => ro_end (A := ro_N) hS ht (by rw [fX1_immediateB])) hS.2.2 dX1_immediateB_37
def fX1_immediateU (w : Int32) : Int32 := (w &&& (-4096))
set_option maxHeartbeats 4000000 in
set_option maxRecDepth 100000 in
theorem kX1_immediateU (l : Launch) (w : Int32) : Met l yX1_immediateU wsX1_immediateU ({ frames := 0, cells := 0, slots := 0, locals := 0 }) (pu_Pc [.int w]) (ro_Q (fX1_immediateU w)) 0 0 ro_N := by
  refine Met.ofW (cc := cX1_immediateU) (maxL := 1) (ret := (some .int)) (by decide) rfl ?_
  intro p e s m args below meth c s₁ B hml hv
  obtain ⟨rfl, -⟩ := hv
  have hx := B.exec
  have hb := B.bytes
  have hr := B.returns
  have hts := atoms_spec (ws := wsX1_immediateU) B.pre
  have hown : s.vm.findClass RX1 = some m.cls := findClass_of_methodNamed B.named
  have hlocks := B.notSynchronized
  have hS : va_S ro_N s.heap s.heap [] := va_S.rf
  have hl := lv_entry ([.int w]) (n := 1) (Nat.le_of_ble_eq_true rfl)
  rw [lg_entry_eq]
  generalize (lg_sl ([.int w]) ++ List.replicate (1 - (lg_sl ([.int w])).length) Slot.unset).toArray = ls at hl ⊢
  have hl : lv_has ls 1 [(0, .int w)] := hl
  refine lv_iload_n hx hb dX1_immediateU_0 rfl (lv_at hl 0 rfl) ?_
  refine lv_sipush (v := (-4096)) hx hb dX1_immediateU_1 (by decide) ?_
  refine lv_iand hx hb dX1_immediateU_4 ?_
  exact W.iret (v := w &&& (-4096)) hx hb hr (fun t ht hW => ro_end (A := ro_N) hS ht (by rw [fX1_immediateU])) hS.2.2 dX1_immediateU_5
def fX1_immediateJ (w : Int32) : Int32 := (((((w >>> (31 &&& 31)) <<< (20 &&& 31)) ||| (((jushr w 12) &&& 255) <<< (12 &&& 31))) ||| (((jushr w 20) &&& 1) <<< (11 &&& 31))) ||| (((jushr w 21) &&& 1023) <<< (1 &&& 31)))
set_option maxHeartbeats 4000000 in
set_option maxRecDepth 100000 in
theorem kX1_immediateJ (l : Launch) (w : Int32) : Met l yX1_immediateJ wsX1_immediateJ ({ frames := 0, cells := 0, slots := 0, locals := 0 }) (pu_Pc [.int w]) (ro_Q (fX1_immediateJ w)) 0 0 ro_N := by
  refine Met.ofW (cc := cX1_immediateJ) (maxL := 1) (ret := (some .int)) (by decide) rfl ?_
  intro p e s m args below meth c s₁ B hml hv
  obtain ⟨rfl, -⟩ := hv
  have hx := B.exec
  have hb := B.bytes
  have hr := B.returns
  have hts := atoms_spec (ws := wsX1_immediateJ) B.pre
  have hown : s.vm.findClass RX1 = some m.cls := findClass_of_methodNamed B.named
  have hlocks := B.notSynchronized
  have hS : va_S ro_N s.heap s.heap [] := va_S.rf
  have hl := lv_entry ([.int w]) (n := 1) (Nat.le_of_ble_eq_true rfl)
  rw [lg_entry_eq]
  generalize (lg_sl ([.int w]) ++ List.replicate (1 - (lg_sl ([.int w])).length) Slot.unset).toArray = ls at hl ⊢
  have hl : lv_has ls 1 [(0, .int w)] := hl
  refine lv_iload_n hx hb dX1_immediateJ_0 rfl (lv_at hl 0 rfl) ?_
  refine lv_bipush (v := 31) hx hb dX1_immediateJ_1 (by decide) ?_
  refine lv_ishr hx hb dX1_immediateJ_3 ?_
  refine lv_bipush (v := 20) hx hb dX1_immediateJ_4 (by decide) ?_
  refine lv_ishl hx hb dX1_immediateJ_6 ?_
  refine lv_iload_n hx hb dX1_immediateJ_7 rfl (lv_at hl 0 rfl) ?_
  refine lv_bipush (v := 12) hx hb dX1_immediateJ_8 (by decide) ?_
  refine lv_iushr (v := jushr w 12) hx hb dX1_immediateJ_10 rfl ?_
  refine lv_sipush (v := 255) hx hb dX1_immediateJ_11 (by decide) ?_
  refine lv_iand hx hb dX1_immediateJ_14 ?_
  refine lv_bipush (v := 12) hx hb dX1_immediateJ_15 (by decide) ?_
  refine lv_ishl hx hb dX1_immediateJ_17 ?_
  refine lv_ior hx hb dX1_immediateJ_18 ?_
  refine lv_iload_n hx hb dX1_immediateJ_19 rfl (lv_at hl 0 rfl) ?_
  refine lv_bipush (v := 20) hx hb dX1_immediateJ_20 (by decide) ?_
  refine lv_iushr (v := jushr w 20) hx hb dX1_immediateJ_22 rfl ?_
  refine lv_iconst (v := 1) hx hb dX1_immediateJ_23 (by decide) ?_
  refine lv_iand hx hb dX1_immediateJ_24 ?_
  refine lv_bipush (v := 11) hx hb dX1_immediateJ_25 (by decide) ?_
  refine lv_ishl hx hb dX1_immediateJ_27 ?_
  refine lv_ior hx hb dX1_immediateJ_28 ?_
  refine lv_iload_n hx hb dX1_immediateJ_29 rfl (lv_at hl 0 rfl) ?_
  refine lv_bipush (v := 21) hx hb dX1_immediateJ_30 (by decide) ?_
  refine lv_iushr (v := jushr w 21) hx hb dX1_immediateJ_32 rfl ?_
  refine lv_sipush (v := 1023) hx hb dX1_immediateJ_33 (by decide) ?_
  refine lv_iand hx hb dX1_immediateJ_36 ?_
  refine lv_iconst (v := 1) hx hb dX1_immediateJ_37 (by decide) ?_
  refine lv_ishl hx hb dX1_immediateJ_38 ?_
  refine lv_ior hx hb dX1_immediateJ_39 ?_
  exact W.iret (v := ((((w >>> (31 &&& 31)) <<< (20 &&& 31)) ||| (((jushr w 12) &&& 255) <<< (12 &&& 31))) ||| (((jushr w 20) &&& 1) <<< (11 &&& 31))) ||| (((jushr w 21) &&& 1023) <<< (1 &&& 31))) hx hb hr (fun t ht hW => ro_end (A := ro_N) hS ht (by rw [fX1_immediateJ])) hS.2.2 dX1_immediateJ_40
def fX1_isLegal (w : Int32) : Int32 := (if (fX1_opcode w) = 3 then (if (fX1_f3 w) ≤ 2 then 1 else (if (fX1_f3 w) = 4 then 1 else (if (fX1_f3 w) = 5 then 1 else 0))) else (if (fX1_opcode w) = 15 then (if (fX1_f3 w) = 0 then 1 else 0) else (if (fX1_opcode w) = 19 then (if (fX1_f3 w) = 1 then (if (fX1_f7 w) = 0 then 1 else (if (fX1_f3 w) = 5 then (if (fX1_f7 w) = 32 then 1 else 0) else 0)) else (if (fX1_f3 w) = 5 then (if (fX1_f7 w) = 0 then 1 else (if (fX1_f7 w) = 32 then 1 else 0)) else 1)) else (if (fX1_opcode w) = 23 then 1 else (if (fX1_opcode w) = 35 then (if 2 < (fX1_f3 w) then 0 else 1) else (if (fX1_opcode w) = 51 then (if (fX1_f7 w) = 0 then 1 else (if (fX1_f7 w) = 32 then (if (fX1_f3 w) = 0 then 1 else (if (fX1_f3 w) = 5 then 1 else 0)) else 0)) else (if (fX1_opcode w) = 55 then 1 else (if (fX1_opcode w) = 99 then (if (fX1_f3 w) = 2 then 0 else (if (fX1_f3 w) = 3 then 0 else 1)) else (if (fX1_opcode w) = 103 then (if (fX1_f3 w) = 0 then 1 else 0) else (if (fX1_opcode w) = 111 then 1 else (if (fX1_opcode w) = 115 then (if w = 115 then 1 else (if w = 1048691 then 1 else 0)) else 0)))))))))))
set_option maxHeartbeats 4000000 in
set_option maxRecDepth 100000 in
theorem kX1_isLegal (l : Launch) (w : Int32) : Met l yX1_isLegal wsX1_isLegal ({ frames := 1, cells := 0, slots := 0, locals := 20 }) (pu_Pc [.int w]) (ro_Q (fX1_isLegal w)) 0 0 ro_N := by
  refine Met.ofW (cc := cX1_isLegal) (maxL := 2) (ret := (some .boolean)) (by decide) rfl ?_
  intro p e s m args below meth c s₁ B hml hv
  obtain ⟨rfl, -⟩ := hv
  have hx := B.exec
  have hb := B.bytes
  have hr := B.returns
  have hts := atoms_spec (ws := wsX1_isLegal) B.pre
  have hown : s.vm.findClass RX1 = some m.cls := findClass_of_methodNamed B.named
  have hlocks := B.notSynchronized
  have hS : va_S ro_N s.heap s.heap [] := va_S.rf
  have hl := lv_entry ([.int w]) (n := 2) (Nat.le_of_ble_eq_true rfl)
  rw [lg_entry_eq]
  generalize (lg_sl ([.int w]) ++ List.replicate (2 - (lg_sl ([.int w])).length) Slot.unset).toArray = ls at hl ⊢
  have hl : lv_has ls 2 [(0, .int w)] := hl
  refine lv_iload_n hx hb dX1_isLegal_0 rfl (lv_at hl 0 rfl) ?_
  refine ro_call (va_runS (As := [.int w]) (rest := []) ⟨hx, hb, hml, hown, hts⟩ (kX1_f3 l w ) (va_cwS 1 hts gX1_isLegal_X1_f3 rfl rfl rfl (by decide +kernel) ⟨Nat.le_of_ble_eq_true rfl, Nat.le_of_ble_eq_true rfl⟩) pu_preS rfl rfl hl.1 rfl (lv_room (Nat.le_of_ble_eq_true rfl)) dX1_isLegal_1 ⟨Nat.zero_le _, Nat.zero_le _⟩) hS (fun H locs hk hS => ?_)
  refine lv_istore_n (lv' := [(1, .int (fX1_f3 w)), (0, .int w)]) hx hb dX1_isLegal_4 rfl hl (by decide) rfl (fun ls hl => ?_)
  refine lv_iload_n hx hb dX1_isLegal_5 rfl (lv_at hl 1 rfl) ?_
  refine ro_call (va_runS (As := [.int w]) (rest := []) ⟨hx, hb, hml, hown, hts⟩ (kX1_opcode l w ) (va_cwS 1 hts gX1_isLegal_X1_opcode rfl rfl rfl (by decide +kernel) ⟨Nat.le_of_ble_eq_true rfl, Nat.le_of_ble_eq_true rfl⟩) pu_preS rfl rfl hl.1 rfl (lv_room (Nat.le_of_ble_eq_true rfl)) dX1_isLegal_6 ⟨Nat.zero_le _, Nat.zero_le _⟩) hS (fun H locs hk hS => ?_)
  by_cases c_9_3 : (fX1_opcode w) = 3
  ·
    refine lv_lookup (off := 127) (tgt := 136) hx hb dX1_isLegal_9 (by decide) (by rw [c_9_3]; decide) (by decide) ?_
    refine lv_iload_n hx hb dX1_isLegal_136 rfl (lv_at hl 0 rfl) ?_
    refine lv_iconst (v := 2) hx hb dX1_isLegal_137 (by decide) ?_
    refine lv_icmp_le (tgt := 151) hx hb dX1_isLegal_138 (by decide) (fun c_138 => ?_) (fun c_138 => ?_)
    ·
      refine lv_iconst (v := 1) hx hb dX1_isLegal_151 (by decide) ?_
      refine lv_goto (tgt := 156) hx hb dX1_isLegal_152 (by decide) ?_
      exact W.zret (v := 1) hx hb hr rfl (fun t ht hW => ro_end (A := ro_N) hS ht (by rw [fX1_isLegal, if_pos c_9_3, if_pos c_138])) hS.2.2 dX1_isLegal_156
    ·
      refine lv_iload_n hx hb dX1_isLegal_141 rfl (lv_at hl 0 rfl) ?_
      refine lv_iconst (v := 4) hx hb dX1_isLegal_142 (by decide) ?_
      refine lv_icmp_eq (tgt := 151) hx hb dX1_isLegal_143 (by decide) (fun c_143 => ?_) (fun c_143 => ?_)
      ·
        refine lv_iconst (v := 1) hx hb dX1_isLegal_151 (by decide) ?_
        refine lv_goto (tgt := 156) hx hb dX1_isLegal_152 (by decide) ?_
        exact W.zret (v := 1) hx hb hr rfl (fun t ht hW => ro_end (A := ro_N) hS ht (by rw [fX1_isLegal, if_pos c_9_3, if_neg c_138, if_pos c_143])) hS.2.2 dX1_isLegal_156
      ·
        refine lv_iload_n hx hb dX1_isLegal_146 rfl (lv_at hl 0 rfl) ?_
        refine lv_iconst (v := 5) hx hb dX1_isLegal_147 (by decide) ?_
        refine lv_icmp_ne (tgt := 155) hx hb dX1_isLegal_148 (by decide) (fun c_148 => ?_) (fun c_148 => ?_)
        ·
          refine lv_iconst (v := 0) hx hb dX1_isLegal_155 (by decide) ?_
          exact W.zret (v := 0) hx hb hr rfl (fun t ht hW => ro_end (A := ro_N) hS ht (by rw [fX1_isLegal, if_pos c_9_3, if_neg c_138, if_neg c_143, if_neg c_148])) hS.2.2 dX1_isLegal_156
        ·
          refine lv_iconst (v := 1) hx hb dX1_isLegal_151 (by decide) ?_
          refine lv_goto (tgt := 156) hx hb dX1_isLegal_152 (by decide) ?_
          exact W.zret (v := 1) hx hb hr rfl (fun t ht hW => ro_end (A := ro_N) hS ht (by rw [fX1_isLegal, if_pos c_9_3, if_neg c_138, if_neg c_143, if_pos c_148])) hS.2.2 dX1_isLegal_156
  by_cases c_9_15 : (fX1_opcode w) = 15
  ·
    refine lv_lookup (off := 101) (tgt := 110) hx hb dX1_isLegal_9 (by decide) (by rw [c_9_15]; decide) (by decide) ?_
    refine lv_iload_n hx hb dX1_isLegal_110 rfl (lv_at hl 0 rfl) ?_
    refine lv_if_ne (tgt := 118) hx hb dX1_isLegal_111 (by decide) (fun c_111 => ?_) (fun c_111 => ?_)
    ·
      refine lv_iconst (v := 0) hx hb dX1_isLegal_118 (by decide) ?_
      exact W.zret (v := 0) hx hb hr rfl (fun t ht hW => ro_end (A := ro_N) hS ht (by rw [fX1_isLegal, if_neg c_9_3, if_pos c_9_15, if_neg c_111])) hS.2.2 dX1_isLegal_119
    ·
      refine lv_iconst (v := 1) hx hb dX1_isLegal_114 (by decide) ?_
      refine lv_goto (tgt := 119) hx hb dX1_isLegal_115 (by decide) ?_
      exact W.zret (v := 1) hx hb hr rfl (fun t ht hW => ro_end (A := ro_N) hS ht (by rw [fX1_isLegal, if_neg c_9_3, if_pos c_9_15, if_pos c_111])) hS.2.2 dX1_isLegal_119
  by_cases c_9_19 : (fX1_opcode w) = 19
  ·
    refine lv_lookup (off := 159) (tgt := 168) hx hb dX1_isLegal_9 (by decide) (by rw [c_9_19]; decide) (by decide) ?_
    refine lv_iload_n hx hb dX1_isLegal_168 rfl (lv_at hl 0 rfl) ?_
    refine lv_iconst (v := 1) hx hb dX1_isLegal_169 (by decide) ?_
    refine lv_icmp_eq (tgt := 178) hx hb dX1_isLegal_170 (by decide) (fun c_170 => ?_) (fun c_170 => ?_)
    ·
      refine lv_iload_n hx hb dX1_isLegal_178 rfl (lv_at hl 1 rfl) ?_
      refine ro_call (va_runS (As := [.int w]) (rest := []) ⟨hx, hb, hml, hown, hts⟩ (kX1_f7 l w ) (va_cwS 1 hts gX1_isLegal_X1_f7 rfl rfl rfl (by decide +kernel) ⟨Nat.le_of_ble_eq_true rfl, Nat.le_of_ble_eq_true rfl⟩) pu_preS rfl rfl hl.1 rfl (lv_room (Nat.le_of_ble_eq_true rfl)) dX1_isLegal_179 ⟨Nat.zero_le _, Nat.zero_le _⟩) hS (fun H locs hk hS => ?_)
      refine lv_if_eq (tgt := 199) hx hb dX1_isLegal_182 (by decide) (fun c_182 => ?_) (fun c_182 => ?_)
      ·
        refine lv_iconst (v := 1) hx hb dX1_isLegal_199 (by decide) ?_
        refine lv_goto (tgt := 204) hx hb dX1_isLegal_200 (by decide) ?_
        exact W.zret (v := 1) hx hb hr rfl (fun t ht hW => ro_end (A := ro_N) hS ht (by rw [fX1_isLegal, if_neg c_9_3, if_neg c_9_15, if_pos c_9_19, if_pos c_170, if_pos c_182])) hS.2.2 dX1_isLegal_204
      ·
        refine lv_iload_n hx hb dX1_isLegal_185 rfl (lv_at hl 0 rfl) ?_
        refine lv_iconst (v := 5) hx hb dX1_isLegal_186 (by decide) ?_
        refine lv_icmp_ne (tgt := 203) hx hb dX1_isLegal_187 (by decide) (fun c_187 => ?_) (fun c_187 => ?_)
        ·
          refine lv_iconst (v := 0) hx hb dX1_isLegal_203 (by decide) ?_
          exact W.zret (v := 0) hx hb hr rfl (fun t ht hW => ro_end (A := ro_N) hS ht (by rw [fX1_isLegal, if_neg c_9_3, if_neg c_9_15, if_pos c_9_19, if_pos c_170, if_neg c_182, if_neg c_187])) hS.2.2 dX1_isLegal_204
        ·
          refine lv_iload_n hx hb dX1_isLegal_190 rfl (lv_at hl 1 rfl) ?_
          refine ro_call (va_runS (As := [.int w]) (rest := []) ⟨hx, hb, hml, hown, hts⟩ (kX1_f7 l w ) (va_cwS 1 hts gX1_isLegal_X1_f7 rfl rfl rfl (by decide +kernel) ⟨Nat.le_of_ble_eq_true rfl, Nat.le_of_ble_eq_true rfl⟩) pu_preS rfl rfl hl.1 rfl (lv_room (Nat.le_of_ble_eq_true rfl)) dX1_isLegal_191 ⟨Nat.zero_le _, Nat.zero_le _⟩) hS (fun H locs hk hS => ?_)
          refine lv_bipush (v := 32) hx hb dX1_isLegal_194 (by decide) ?_
          refine lv_icmp_ne (tgt := 203) hx hb dX1_isLegal_196 (by decide) (fun c_196 => ?_) (fun c_196 => ?_)
          ·
            refine lv_iconst (v := 0) hx hb dX1_isLegal_203 (by decide) ?_
            exact W.zret (v := 0) hx hb hr rfl (fun t ht hW => ro_end (A := ro_N) hS ht (by rw [fX1_isLegal, if_neg c_9_3, if_neg c_9_15, if_pos c_9_19, if_pos c_170, if_neg c_182, if_pos c_187, if_neg c_196])) hS.2.2 dX1_isLegal_204
          ·
            refine lv_iconst (v := 1) hx hb dX1_isLegal_199 (by decide) ?_
            refine lv_goto (tgt := 204) hx hb dX1_isLegal_200 (by decide) ?_
            exact W.zret (v := 1) hx hb hr rfl (fun t ht hW => ro_end (A := ro_N) hS ht (by rw [fX1_isLegal, if_neg c_9_3, if_neg c_9_15, if_pos c_9_19, if_pos c_170, if_neg c_182, if_pos c_187, if_pos c_196])) hS.2.2 dX1_isLegal_204
    ·
      refine lv_iload_n hx hb dX1_isLegal_173 rfl (lv_at hl 0 rfl) ?_
      refine lv_iconst (v := 5) hx hb dX1_isLegal_174 (by decide) ?_
      refine lv_icmp_ne (tgt := 199) hx hb dX1_isLegal_175 (by decide) (fun c_175 => ?_) (fun c_175 => ?_)
      ·
        refine lv_iconst (v := 1) hx hb dX1_isLegal_199 (by decide) ?_
        refine lv_goto (tgt := 204) hx hb dX1_isLegal_200 (by decide) ?_
        exact W.zret (v := 1) hx hb hr rfl (fun t ht hW => ro_end (A := ro_N) hS ht (by rw [fX1_isLegal, if_neg c_9_3, if_neg c_9_15, if_pos c_9_19, if_neg c_170, if_neg c_175])) hS.2.2 dX1_isLegal_204
      ·
        refine lv_iload_n hx hb dX1_isLegal_178 rfl (lv_at hl 1 rfl) ?_
        refine ro_call (va_runS (As := [.int w]) (rest := []) ⟨hx, hb, hml, hown, hts⟩ (kX1_f7 l w ) (va_cwS 1 hts gX1_isLegal_X1_f7 rfl rfl rfl (by decide +kernel) ⟨Nat.le_of_ble_eq_true rfl, Nat.le_of_ble_eq_true rfl⟩) pu_preS rfl rfl hl.1 rfl (lv_room (Nat.le_of_ble_eq_true rfl)) dX1_isLegal_179 ⟨Nat.zero_le _, Nat.zero_le _⟩) hS (fun H locs hk hS => ?_)
        refine lv_if_eq (tgt := 199) hx hb dX1_isLegal_182 (by decide) (fun c_182 => ?_) (fun c_182 => ?_)
        ·
          refine lv_iconst (v := 1) hx hb dX1_isLegal_199 (by decide) ?_
          refine lv_goto (tgt := 204) hx hb dX1_isLegal_200 (by decide) ?_
          exact W.zret (v := 1) hx hb hr rfl (fun t ht hW => ro_end (A := ro_N) hS ht (by rw [fX1_isLegal, if_neg c_9_3, if_neg c_9_15, if_pos c_9_19, if_neg c_170, if_pos c_175, if_pos c_182])) hS.2.2 dX1_isLegal_204
        ·
          refine lv_iload_n hx hb dX1_isLegal_185 rfl (lv_at hl 0 rfl) ?_
          refine lv_iconst (v := 5) hx hb dX1_isLegal_186 (by decide) ?_
          refine lv_icmp_ne (tgt := 203) hx hb dX1_isLegal_187 (by decide) (fun c_187 => ?_) (fun c_187 => ?_)
          · exact absurd c_175 c_187
          refine lv_iload_n hx hb dX1_isLegal_190 rfl (lv_at hl 1 rfl) ?_
          refine ro_call (va_runS (As := [.int w]) (rest := []) ⟨hx, hb, hml, hown, hts⟩ (kX1_f7 l w ) (va_cwS 1 hts gX1_isLegal_X1_f7 rfl rfl rfl (by decide +kernel) ⟨Nat.le_of_ble_eq_true rfl, Nat.le_of_ble_eq_true rfl⟩) pu_preS rfl rfl hl.1 rfl (lv_room (Nat.le_of_ble_eq_true rfl)) dX1_isLegal_191 ⟨Nat.zero_le _, Nat.zero_le _⟩) hS (fun H locs hk hS => ?_)
          refine lv_bipush (v := 32) hx hb dX1_isLegal_194 (by decide) ?_
          refine lv_icmp_ne (tgt := 203) hx hb dX1_isLegal_196 (by decide) (fun c_196 => ?_) (fun c_196 => ?_)
          ·
            refine lv_iconst (v := 0) hx hb dX1_isLegal_203 (by decide) ?_
            exact W.zret (v := 0) hx hb hr rfl (fun t ht hW => ro_end (A := ro_N) hS ht (by rw [fX1_isLegal, if_neg c_9_3, if_neg c_9_15, if_pos c_9_19, if_neg c_170, if_pos c_175, if_neg c_182, if_neg c_196])) hS.2.2 dX1_isLegal_204
          ·
            refine lv_iconst (v := 1) hx hb dX1_isLegal_199 (by decide) ?_
            refine lv_goto (tgt := 204) hx hb dX1_isLegal_200 (by decide) ?_
            exact W.zret (v := 1) hx hb hr rfl (fun t ht hW => ro_end (A := ro_N) hS ht (by rw [fX1_isLegal, if_neg c_9_3, if_neg c_9_15, if_pos c_9_19, if_neg c_170, if_pos c_175, if_neg c_182, if_pos c_196])) hS.2.2 dX1_isLegal_204
  by_cases c_9_23 : (fX1_opcode w) = 23
  ·
    refine lv_lookup (off := 99) (tgt := 108) hx hb dX1_isLegal_9 (by decide) (by rw [c_9_23]; decide) (by decide) ?_
    refine lv_iconst (v := 1) hx hb dX1_isLegal_108 (by decide) ?_
    exact W.zret (v := 1) hx hb hr rfl (fun t ht hW => ro_end (A := ro_N) hS ht (by rw [fX1_isLegal, if_neg c_9_3, if_neg c_9_15, if_neg c_9_19, if_pos c_9_23])) hS.2.2 dX1_isLegal_109
  by_cases c_9_35 : (fX1_opcode w) = 35
  ·
    refine lv_lookup (off := 148) (tgt := 157) hx hb dX1_isLegal_9 (by decide) (by rw [c_9_35]; decide) (by decide) ?_
    refine lv_iload_n hx hb dX1_isLegal_157 rfl (lv_at hl 0 rfl) ?_
    refine lv_iconst (v := 2) hx hb dX1_isLegal_158 (by decide) ?_
    refine lv_icmp_gt (tgt := 166) hx hb dX1_isLegal_159 (by decide) (fun c_159 => ?_) (fun c_159 => ?_)
    ·
      refine lv_iconst (v := 0) hx hb dX1_isLegal_166 (by decide) ?_
      exact W.zret (v := 0) hx hb hr rfl (fun t ht hW => ro_end (A := ro_N) hS ht (by rw [fX1_isLegal, if_neg c_9_3, if_neg c_9_15, if_neg c_9_19, if_neg c_9_23, if_pos c_9_35, if_pos c_159])) hS.2.2 dX1_isLegal_167
    ·
      refine lv_iconst (v := 1) hx hb dX1_isLegal_162 (by decide) ?_
      refine lv_goto (tgt := 167) hx hb dX1_isLegal_163 (by decide) ?_
      exact W.zret (v := 1) hx hb hr rfl (fun t ht hW => ro_end (A := ro_N) hS ht (by rw [fX1_isLegal, if_neg c_9_3, if_neg c_9_15, if_neg c_9_19, if_neg c_9_23, if_pos c_9_35, if_neg c_159])) hS.2.2 dX1_isLegal_167
  by_cases c_9_51 : (fX1_opcode w) = 51
  ·
    refine lv_lookup (off := 196) (tgt := 205) hx hb dX1_isLegal_9 (by decide) (by rw [c_9_51]; decide) (by decide) ?_
    refine lv_iload_n hx hb dX1_isLegal_205 rfl (lv_at hl 1 rfl) ?_
    refine ro_call (va_runS (As := [.int w]) (rest := []) ⟨hx, hb, hml, hown, hts⟩ (kX1_f7 l w ) (va_cwS 1 hts gX1_isLegal_X1_f7 rfl rfl rfl (by decide +kernel) ⟨Nat.le_of_ble_eq_true rfl, Nat.le_of_ble_eq_true rfl⟩) pu_preS rfl rfl hl.1 rfl (lv_room (Nat.le_of_ble_eq_true rfl)) dX1_isLegal_206 ⟨Nat.zero_le _, Nat.zero_le _⟩) hS (fun H locs hk hS => ?_)
    refine lv_if_eq (tgt := 230) hx hb dX1_isLegal_209 (by decide) (fun c_209 => ?_) (fun c_209 => ?_)
    ·
      refine lv_iconst (v := 1) hx hb dX1_isLegal_230 (by decide) ?_
      refine lv_goto (tgt := 235) hx hb dX1_isLegal_231 (by decide) ?_
      exact W.zret (v := 1) hx hb hr rfl (fun t ht hW => ro_end (A := ro_N) hS ht (by rw [fX1_isLegal, if_neg c_9_3, if_neg c_9_15, if_neg c_9_19, if_neg c_9_23, if_neg c_9_35, if_pos c_9_51, if_pos c_209])) hS.2.2 dX1_isLegal_235
    ·
      refine lv_iload_n hx hb dX1_isLegal_212 rfl (lv_at hl 1 rfl) ?_
      refine ro_call (va_runS (As := [.int w]) (rest := []) ⟨hx, hb, hml, hown, hts⟩ (kX1_f7 l w ) (va_cwS 1 hts gX1_isLegal_X1_f7 rfl rfl rfl (by decide +kernel) ⟨Nat.le_of_ble_eq_true rfl, Nat.le_of_ble_eq_true rfl⟩) pu_preS rfl rfl hl.1 rfl (lv_room (Nat.le_of_ble_eq_true rfl)) dX1_isLegal_213 ⟨Nat.zero_le _, Nat.zero_le _⟩) hS (fun H locs hk hS => ?_)
      refine lv_bipush (v := 32) hx hb dX1_isLegal_216 (by decide) ?_
      refine lv_icmp_ne (tgt := 234) hx hb dX1_isLegal_218 (by decide) (fun c_218 => ?_) (fun c_218 => ?_)
      ·
        refine lv_iconst (v := 0) hx hb dX1_isLegal_234 (by decide) ?_
        exact W.zret (v := 0) hx hb hr rfl (fun t ht hW => ro_end (A := ro_N) hS ht (by rw [fX1_isLegal, if_neg c_9_3, if_neg c_9_15, if_neg c_9_19, if_neg c_9_23, if_neg c_9_35, if_pos c_9_51, if_neg c_209, if_neg c_218])) hS.2.2 dX1_isLegal_235
      ·
        refine lv_iload_n hx hb dX1_isLegal_221 rfl (lv_at hl 0 rfl) ?_
        refine lv_if_eq (tgt := 230) hx hb dX1_isLegal_222 (by decide) (fun c_222 => ?_) (fun c_222 => ?_)
        ·
          refine lv_iconst (v := 1) hx hb dX1_isLegal_230 (by decide) ?_
          refine lv_goto (tgt := 235) hx hb dX1_isLegal_231 (by decide) ?_
          exact W.zret (v := 1) hx hb hr rfl (fun t ht hW => ro_end (A := ro_N) hS ht (by rw [fX1_isLegal, if_neg c_9_3, if_neg c_9_15, if_neg c_9_19, if_neg c_9_23, if_neg c_9_35, if_pos c_9_51, if_neg c_209, if_pos c_218, if_pos c_222])) hS.2.2 dX1_isLegal_235
        ·
          refine lv_iload_n hx hb dX1_isLegal_225 rfl (lv_at hl 0 rfl) ?_
          refine lv_iconst (v := 5) hx hb dX1_isLegal_226 (by decide) ?_
          refine lv_icmp_ne (tgt := 234) hx hb dX1_isLegal_227 (by decide) (fun c_227 => ?_) (fun c_227 => ?_)
          ·
            refine lv_iconst (v := 0) hx hb dX1_isLegal_234 (by decide) ?_
            exact W.zret (v := 0) hx hb hr rfl (fun t ht hW => ro_end (A := ro_N) hS ht (by rw [fX1_isLegal, if_neg c_9_3, if_neg c_9_15, if_neg c_9_19, if_neg c_9_23, if_neg c_9_35, if_pos c_9_51, if_neg c_209, if_pos c_218, if_neg c_222, if_neg c_227])) hS.2.2 dX1_isLegal_235
          ·
            refine lv_iconst (v := 1) hx hb dX1_isLegal_230 (by decide) ?_
            refine lv_goto (tgt := 235) hx hb dX1_isLegal_231 (by decide) ?_
            exact W.zret (v := 1) hx hb hr rfl (fun t ht hW => ro_end (A := ro_N) hS ht (by rw [fX1_isLegal, if_neg c_9_3, if_neg c_9_15, if_neg c_9_19, if_neg c_9_23, if_neg c_9_35, if_pos c_9_51, if_neg c_209, if_pos c_218, if_neg c_222, if_pos c_227])) hS.2.2 dX1_isLegal_235
  by_cases c_9_55 : (fX1_opcode w) = 55
  ·
    refine lv_lookup (off := 99) (tgt := 108) hx hb dX1_isLegal_9 (by decide) (by rw [c_9_55]; decide) (by decide) ?_
    refine lv_iconst (v := 1) hx hb dX1_isLegal_108 (by decide) ?_
    exact W.zret (v := 1) hx hb hr rfl (fun t ht hW => ro_end (A := ro_N) hS ht (by rw [fX1_isLegal, if_neg c_9_3, if_neg c_9_15, if_neg c_9_19, if_neg c_9_23, if_neg c_9_35, if_neg c_9_51, if_pos c_9_55])) hS.2.2 dX1_isLegal_109
  by_cases c_9_99 : (fX1_opcode w) = 99
  ·
    refine lv_lookup (off := 111) (tgt := 120) hx hb dX1_isLegal_9 (by decide) (by rw [c_9_99]; decide) (by decide) ?_
    refine lv_iload_n hx hb dX1_isLegal_120 rfl (lv_at hl 0 rfl) ?_
    refine lv_iconst (v := 2) hx hb dX1_isLegal_121 (by decide) ?_
    refine lv_icmp_eq (tgt := 134) hx hb dX1_isLegal_122 (by decide) (fun c_122 => ?_) (fun c_122 => ?_)
    ·
      refine lv_iconst (v := 0) hx hb dX1_isLegal_134 (by decide) ?_
      exact W.zret (v := 0) hx hb hr rfl (fun t ht hW => ro_end (A := ro_N) hS ht (by rw [fX1_isLegal, if_neg c_9_3, if_neg c_9_15, if_neg c_9_19, if_neg c_9_23, if_neg c_9_35, if_neg c_9_51, if_neg c_9_55, if_pos c_9_99, if_pos c_122])) hS.2.2 dX1_isLegal_135
    ·
      refine lv_iload_n hx hb dX1_isLegal_125 rfl (lv_at hl 0 rfl) ?_
      refine lv_iconst (v := 3) hx hb dX1_isLegal_126 (by decide) ?_
      refine lv_icmp_eq (tgt := 134) hx hb dX1_isLegal_127 (by decide) (fun c_127 => ?_) (fun c_127 => ?_)
      ·
        refine lv_iconst (v := 0) hx hb dX1_isLegal_134 (by decide) ?_
        exact W.zret (v := 0) hx hb hr rfl (fun t ht hW => ro_end (A := ro_N) hS ht (by rw [fX1_isLegal, if_neg c_9_3, if_neg c_9_15, if_neg c_9_19, if_neg c_9_23, if_neg c_9_35, if_neg c_9_51, if_neg c_9_55, if_pos c_9_99, if_neg c_122, if_pos c_127])) hS.2.2 dX1_isLegal_135
      ·
        refine lv_iconst (v := 1) hx hb dX1_isLegal_130 (by decide) ?_
        refine lv_goto (tgt := 135) hx hb dX1_isLegal_131 (by decide) ?_
        exact W.zret (v := 1) hx hb hr rfl (fun t ht hW => ro_end (A := ro_N) hS ht (by rw [fX1_isLegal, if_neg c_9_3, if_neg c_9_15, if_neg c_9_19, if_neg c_9_23, if_neg c_9_35, if_neg c_9_51, if_neg c_9_55, if_pos c_9_99, if_neg c_122, if_neg c_127])) hS.2.2 dX1_isLegal_135
  by_cases c_9_103 : (fX1_opcode w) = 103
  ·
    refine lv_lookup (off := 101) (tgt := 110) hx hb dX1_isLegal_9 (by decide) (by rw [c_9_103]; decide) (by decide) ?_
    refine lv_iload_n hx hb dX1_isLegal_110 rfl (lv_at hl 0 rfl) ?_
    refine lv_if_ne (tgt := 118) hx hb dX1_isLegal_111 (by decide) (fun c_111 => ?_) (fun c_111 => ?_)
    ·
      refine lv_iconst (v := 0) hx hb dX1_isLegal_118 (by decide) ?_
      exact W.zret (v := 0) hx hb hr rfl (fun t ht hW => ro_end (A := ro_N) hS ht (by rw [fX1_isLegal, if_neg c_9_3, if_neg c_9_15, if_neg c_9_19, if_neg c_9_23, if_neg c_9_35, if_neg c_9_51, if_neg c_9_55, if_neg c_9_99, if_pos c_9_103, if_neg c_111])) hS.2.2 dX1_isLegal_119
    ·
      refine lv_iconst (v := 1) hx hb dX1_isLegal_114 (by decide) ?_
      refine lv_goto (tgt := 119) hx hb dX1_isLegal_115 (by decide) ?_
      exact W.zret (v := 1) hx hb hr rfl (fun t ht hW => ro_end (A := ro_N) hS ht (by rw [fX1_isLegal, if_neg c_9_3, if_neg c_9_15, if_neg c_9_19, if_neg c_9_23, if_neg c_9_35, if_neg c_9_51, if_neg c_9_55, if_neg c_9_99, if_pos c_9_103, if_pos c_111])) hS.2.2 dX1_isLegal_119
  by_cases c_9_111 : (fX1_opcode w) = 111
  ·
    refine lv_lookup (off := 99) (tgt := 108) hx hb dX1_isLegal_9 (by decide) (by rw [c_9_111]; decide) (by decide) ?_
    refine lv_iconst (v := 1) hx hb dX1_isLegal_108 (by decide) ?_
    exact W.zret (v := 1) hx hb hr rfl (fun t ht hW => ro_end (A := ro_N) hS ht (by rw [fX1_isLegal, if_neg c_9_3, if_neg c_9_15, if_neg c_9_19, if_neg c_9_23, if_neg c_9_35, if_neg c_9_51, if_neg c_9_55, if_neg c_9_99, if_neg c_9_103, if_pos c_9_111])) hS.2.2 dX1_isLegal_109
  by_cases c_9_115 : (fX1_opcode w) = 115
  ·
    refine lv_lookup (off := 227) (tgt := 236) hx hb dX1_isLegal_9 (by decide) (by rw [c_9_115]; decide) (by decide) ?_
    refine lv_iload_n hx hb dX1_isLegal_236 rfl (lv_at hl 1 rfl) ?_
    refine lv_bipush (v := 115) hx hb dX1_isLegal_237 (by decide) ?_
    refine lv_icmp_eq (tgt := 248) hx hb dX1_isLegal_239 (by decide) (fun c_239 => ?_) (fun c_239 => ?_)
    ·
      refine lv_iconst (v := 1) hx hb dX1_isLegal_248 (by decide) ?_
      refine lv_goto (tgt := 253) hx hb dX1_isLegal_249 (by decide) ?_
      exact W.zret (v := 1) hx hb hr rfl (fun t ht hW => ro_end (A := ro_N) hS ht (by rw [fX1_isLegal, if_neg c_9_3, if_neg c_9_15, if_neg c_9_19, if_neg c_9_23, if_neg c_9_35, if_neg c_9_51, if_neg c_9_55, if_neg c_9_99, if_neg c_9_103, if_neg c_9_111, if_pos c_9_115, if_pos c_239])) hS.2.2 dX1_isLegal_253
    ·
      refine lv_iload_n hx hb dX1_isLegal_242 rfl (lv_at hl 1 rfl) ?_
      refine lv_ldc (v := 1048691) hx hb hown (hts (.constant RX1 24 (1048691)) (by decide +kernel)) dX1_isLegal_243 ?_
      refine lv_icmp_ne (tgt := 252) hx hb dX1_isLegal_245 (by decide) (fun c_245 => ?_) (fun c_245 => ?_)
      ·
        refine lv_iconst (v := 0) hx hb dX1_isLegal_252 (by decide) ?_
        exact W.zret (v := 0) hx hb hr rfl (fun t ht hW => ro_end (A := ro_N) hS ht (by rw [fX1_isLegal, if_neg c_9_3, if_neg c_9_15, if_neg c_9_19, if_neg c_9_23, if_neg c_9_35, if_neg c_9_51, if_neg c_9_55, if_neg c_9_99, if_neg c_9_103, if_neg c_9_111, if_pos c_9_115, if_neg c_239, if_neg c_245])) hS.2.2 dX1_isLegal_253
      ·
        refine lv_iconst (v := 1) hx hb dX1_isLegal_248 (by decide) ?_
        refine lv_goto (tgt := 253) hx hb dX1_isLegal_249 (by decide) ?_
        exact W.zret (v := 1) hx hb hr rfl (fun t ht hW => ro_end (A := ro_N) hS ht (by rw [fX1_isLegal, if_neg c_9_3, if_neg c_9_15, if_neg c_9_19, if_neg c_9_23, if_neg c_9_35, if_neg c_9_51, if_neg c_9_55, if_neg c_9_99, if_neg c_9_103, if_neg c_9_111, if_pos c_9_115, if_neg c_239, if_pos c_245])) hS.2.2 dX1_isLegal_253
  refine lv_lookup (off := 245) (tgt := 254) hx hb dX1_isLegal_9 (by decide) (show Op.lookupswitch.offset [(3, 127), (15, 101), (19, 159), (23, 99), (35, 148), (51, 196), (55, 99), (99, 111), (103, 101), (111, 99), (115, 227)] 245 _ = 245 from (lv_osw c_9_3 (k := 3) (by decide)).trans ((lv_osw c_9_15 (k := 15) (by decide)).trans ((lv_osw c_9_19 (k := 19) (by decide)).trans ((lv_osw c_9_23 (k := 23) (by decide)).trans ((lv_osw c_9_35 (k := 35) (by decide)).trans ((lv_osw c_9_51 (k := 51) (by decide)).trans ((lv_osw c_9_55 (k := 55) (by decide)).trans ((lv_osw c_9_99 (k := 99) (by decide)).trans ((lv_osw c_9_103 (k := 103) (by decide)).trans ((lv_osw c_9_111 (k := 111) (by decide)).trans ((lv_osw c_9_115 (k := 115) (by decide)).trans (rfl)))))))))))) (by decide) ?_
  refine lv_iconst (v := 0) hx hb dX1_isLegal_254 (by decide) ?_
  exact W.zret (v := 0) hx hb hr rfl (fun t ht hW => ro_end (A := ro_N) hS ht (by rw [fX1_isLegal, if_neg c_9_3, if_neg c_9_15, if_neg c_9_19, if_neg c_9_23, if_neg c_9_35, if_neg c_9_51, if_neg c_9_55, if_neg c_9_99, if_neg c_9_103, if_neg c_9_111, if_neg c_9_115])) hS.2.2 dX1_isLegal_255
def fX1_accessBytes (w : Int32) : Int32 := (1 <<< (((fX1_f3 w) &&& 3) &&& 31))
set_option maxHeartbeats 4000000 in
set_option maxRecDepth 100000 in
theorem kX1_accessBytes (l : Launch) (w : Int32) : Met l yX1_accessBytes wsX1_accessBytes ({ frames := 1, cells := 0, slots := 0, locals := 20 }) (pu_Pc [.int w]) (ro_Q (fX1_accessBytes w)) 0 0 ro_N := by
  refine Met.ofW (cc := cX1_accessBytes) (maxL := 1) (ret := (some .int)) (by decide) rfl ?_
  intro p e s m args below meth c s₁ B hml hv
  obtain ⟨rfl, -⟩ := hv
  have hx := B.exec
  have hb := B.bytes
  have hr := B.returns
  have hts := atoms_spec (ws := wsX1_accessBytes) B.pre
  have hown : s.vm.findClass RX1 = some m.cls := findClass_of_methodNamed B.named
  have hlocks := B.notSynchronized
  have hS : va_S ro_N s.heap s.heap [] := va_S.rf
  have hl := lv_entry ([.int w]) (n := 1) (Nat.le_of_ble_eq_true rfl)
  rw [lg_entry_eq]
  generalize (lg_sl ([.int w]) ++ List.replicate (1 - (lg_sl ([.int w])).length) Slot.unset).toArray = ls at hl ⊢
  have hl : lv_has ls 1 [(0, .int w)] := hl
  refine lv_iconst (v := 1) hx hb dX1_accessBytes_0 (by decide) ?_
  refine lv_iload_n hx hb dX1_accessBytes_1 rfl (lv_at hl 0 rfl) ?_
  refine ro_call (va_runS (As := [.int w]) (rest := [.int 1]) ⟨hx, hb, hml, hown, hts⟩ (kX1_f3 l w ) (va_cwS 1 hts gX1_accessBytes_X1_f3 rfl rfl rfl (by decide +kernel) ⟨Nat.le_of_ble_eq_true rfl, Nat.le_of_ble_eq_true rfl⟩) pu_preS rfl rfl hl.1 rfl (lv_room (Nat.le_of_ble_eq_true rfl)) dX1_accessBytes_2 ⟨Nat.zero_le _, Nat.zero_le _⟩) hS (fun H locs hk hS => ?_)
  refine lv_iconst (v := 3) hx hb dX1_accessBytes_5 (by decide) ?_
  refine lv_iand hx hb dX1_accessBytes_6 ?_
  refine lv_ishl hx hb dX1_accessBytes_7 ?_
  exact W.iret (v := 1 <<< (((fX1_f3 w) &&& 3) &&& 31)) hx hb hr (fun t ht hW => ro_end (A := ro_N) hS ht (by rw [fX1_accessBytes])) hS.2.2 dX1_accessBytes_8
def fX1_writesRd (w : Int32) : Int32 := (if (fX1_opcode w) = 3 then 1 else (if (fX1_opcode w) = 19 then 1 else (if (fX1_opcode w) = 23 then 1 else (if (fX1_opcode w) = 51 then 1 else (if (fX1_opcode w) = 55 then 1 else (if (fX1_opcode w) = 103 then 1 else (if (fX1_opcode w) = 111 then 1 else 0)))))))
set_option maxHeartbeats 4000000 in
set_option maxRecDepth 100000 in
theorem kX1_writesRd (l : Launch) (w : Int32) : Met l yX1_writesRd wsX1_writesRd ({ frames := 1, cells := 0, slots := 0, locals := 20 }) (pu_Pc [.int w]) (ro_Q (fX1_writesRd w)) 0 0 ro_N := by
  refine Met.ofW (cc := cX1_writesRd) (maxL := 1) (ret := (some .boolean)) (by decide) rfl ?_
  intro p e s m args below meth c s₁ B hml hv
  obtain ⟨rfl, -⟩ := hv
  have hx := B.exec
  have hb := B.bytes
  have hr := B.returns
  have hts := atoms_spec (ws := wsX1_writesRd) B.pre
  have hown : s.vm.findClass RX1 = some m.cls := findClass_of_methodNamed B.named
  have hlocks := B.notSynchronized
  have hS : va_S ro_N s.heap s.heap [] := va_S.rf
  have hl := lv_entry ([.int w]) (n := 1) (Nat.le_of_ble_eq_true rfl)
  rw [lg_entry_eq]
  generalize (lg_sl ([.int w]) ++ List.replicate (1 - (lg_sl ([.int w])).length) Slot.unset).toArray = ls at hl ⊢
  have hl : lv_has ls 1 [(0, .int w)] := hl
  refine lv_iload_n hx hb dX1_writesRd_0 rfl (lv_at hl 0 rfl) ?_
  refine ro_call (va_runS (As := [.int w]) (rest := []) ⟨hx, hb, hml, hown, hts⟩ (kX1_opcode l w ) (va_cwS 1 hts gX1_writesRd_X1_opcode rfl rfl rfl (by decide +kernel) ⟨Nat.le_of_ble_eq_true rfl, Nat.le_of_ble_eq_true rfl⟩) pu_preS rfl rfl hl.1 rfl (lv_room (Nat.le_of_ble_eq_true rfl)) dX1_writesRd_1 ⟨Nat.zero_le _, Nat.zero_le _⟩) hS (fun H locs hk hS => ?_)
  by_cases c_4_3 : (fX1_opcode w) = 3
  ·
    refine lv_lookup (off := 68) (tgt := 72) hx hb dX1_writesRd_4 (by decide) (by rw [c_4_3]; decide) (by decide) ?_
    refine lv_iconst (v := 1) hx hb dX1_writesRd_72 (by decide) ?_
    exact W.zret (v := 1) hx hb hr rfl (fun t ht hW => ro_end (A := ro_N) hS ht (by rw [fX1_writesRd, if_pos c_4_3])) hS.2.2 dX1_writesRd_73
  by_cases c_4_19 : (fX1_opcode w) = 19
  ·
    refine lv_lookup (off := 68) (tgt := 72) hx hb dX1_writesRd_4 (by decide) (by rw [c_4_19]; decide) (by decide) ?_
    refine lv_iconst (v := 1) hx hb dX1_writesRd_72 (by decide) ?_
    exact W.zret (v := 1) hx hb hr rfl (fun t ht hW => ro_end (A := ro_N) hS ht (by rw [fX1_writesRd, if_neg c_4_3, if_pos c_4_19])) hS.2.2 dX1_writesRd_73
  by_cases c_4_23 : (fX1_opcode w) = 23
  ·
    refine lv_lookup (off := 68) (tgt := 72) hx hb dX1_writesRd_4 (by decide) (by rw [c_4_23]; decide) (by decide) ?_
    refine lv_iconst (v := 1) hx hb dX1_writesRd_72 (by decide) ?_
    exact W.zret (v := 1) hx hb hr rfl (fun t ht hW => ro_end (A := ro_N) hS ht (by rw [fX1_writesRd, if_neg c_4_3, if_neg c_4_19, if_pos c_4_23])) hS.2.2 dX1_writesRd_73
  by_cases c_4_51 : (fX1_opcode w) = 51
  ·
    refine lv_lookup (off := 68) (tgt := 72) hx hb dX1_writesRd_4 (by decide) (by rw [c_4_51]; decide) (by decide) ?_
    refine lv_iconst (v := 1) hx hb dX1_writesRd_72 (by decide) ?_
    exact W.zret (v := 1) hx hb hr rfl (fun t ht hW => ro_end (A := ro_N) hS ht (by rw [fX1_writesRd, if_neg c_4_3, if_neg c_4_19, if_neg c_4_23, if_pos c_4_51])) hS.2.2 dX1_writesRd_73
  by_cases c_4_55 : (fX1_opcode w) = 55
  ·
    refine lv_lookup (off := 68) (tgt := 72) hx hb dX1_writesRd_4 (by decide) (by rw [c_4_55]; decide) (by decide) ?_
    refine lv_iconst (v := 1) hx hb dX1_writesRd_72 (by decide) ?_
    exact W.zret (v := 1) hx hb hr rfl (fun t ht hW => ro_end (A := ro_N) hS ht (by rw [fX1_writesRd, if_neg c_4_3, if_neg c_4_19, if_neg c_4_23, if_neg c_4_51, if_pos c_4_55])) hS.2.2 dX1_writesRd_73
  by_cases c_4_103 : (fX1_opcode w) = 103
  ·
    refine lv_lookup (off := 68) (tgt := 72) hx hb dX1_writesRd_4 (by decide) (by rw [c_4_103]; decide) (by decide) ?_
    refine lv_iconst (v := 1) hx hb dX1_writesRd_72 (by decide) ?_
    exact W.zret (v := 1) hx hb hr rfl (fun t ht hW => ro_end (A := ro_N) hS ht (by rw [fX1_writesRd, if_neg c_4_3, if_neg c_4_19, if_neg c_4_23, if_neg c_4_51, if_neg c_4_55, if_pos c_4_103])) hS.2.2 dX1_writesRd_73
  by_cases c_4_111 : (fX1_opcode w) = 111
  ·
    refine lv_lookup (off := 68) (tgt := 72) hx hb dX1_writesRd_4 (by decide) (by rw [c_4_111]; decide) (by decide) ?_
    refine lv_iconst (v := 1) hx hb dX1_writesRd_72 (by decide) ?_
    exact W.zret (v := 1) hx hb hr rfl (fun t ht hW => ro_end (A := ro_N) hS ht (by rw [fX1_writesRd, if_neg c_4_3, if_neg c_4_19, if_neg c_4_23, if_neg c_4_51, if_neg c_4_55, if_neg c_4_103, if_pos c_4_111])) hS.2.2 dX1_writesRd_73
  refine lv_lookup (off := 70) (tgt := 74) hx hb dX1_writesRd_4 (by decide) (show Op.lookupswitch.offset [(3, 68), (19, 68), (23, 68), (51, 68), (55, 68), (103, 68), (111, 68)] 70 _ = 70 from (lv_osw c_4_3 (k := 3) (by decide)).trans ((lv_osw c_4_19 (k := 19) (by decide)).trans ((lv_osw c_4_23 (k := 23) (by decide)).trans ((lv_osw c_4_51 (k := 51) (by decide)).trans ((lv_osw c_4_55 (k := 55) (by decide)).trans ((lv_osw c_4_103 (k := 103) (by decide)).trans ((lv_osw c_4_111 (k := 111) (by decide)).trans (rfl)))))))) (by decide) ?_
  refine lv_iconst (v := 0) hx hb dX1_writesRd_74 (by decide) ?_
  exact W.zret (v := 0) hx hb hr rfl (fun t ht hW => ro_end (A := ro_N) hS ht (by rw [fX1_writesRd, if_neg c_4_3, if_neg c_4_19, if_neg c_4_23, if_neg c_4_51, if_neg c_4_55, if_neg c_4_103, if_neg c_4_111])) hS.2.2 dX1_writesRd_75
def fX1_readsRs1 (w : Int32) : Int32 := (if (fX1_opcode w) = 15 then 0 else (if (fX1_opcode w) = 23 then 0 else (if (fX1_opcode w) = 55 then 0 else (if (fX1_opcode w) = 111 then 0 else (if (fX1_opcode w) = 115 then 0 else 1)))))
set_option maxHeartbeats 4000000 in
set_option maxRecDepth 100000 in
theorem kX1_readsRs1 (l : Launch) (w : Int32) : Met l yX1_readsRs1 wsX1_readsRs1 ({ frames := 1, cells := 0, slots := 0, locals := 20 }) (pu_Pc [.int w]) (ro_Q (fX1_readsRs1 w)) 0 0 ro_N := by
  refine Met.ofW (cc := cX1_readsRs1) (maxL := 1) (ret := (some .boolean)) (by decide) rfl ?_
  intro p e s m args below meth c s₁ B hml hv
  obtain ⟨rfl, -⟩ := hv
  have hx := B.exec
  have hb := B.bytes
  have hr := B.returns
  have hts := atoms_spec (ws := wsX1_readsRs1) B.pre
  have hown : s.vm.findClass RX1 = some m.cls := findClass_of_methodNamed B.named
  have hlocks := B.notSynchronized
  have hS : va_S ro_N s.heap s.heap [] := va_S.rf
  have hl := lv_entry ([.int w]) (n := 1) (Nat.le_of_ble_eq_true rfl)
  rw [lg_entry_eq]
  generalize (lg_sl ([.int w]) ++ List.replicate (1 - (lg_sl ([.int w])).length) Slot.unset).toArray = ls at hl ⊢
  have hl : lv_has ls 1 [(0, .int w)] := hl
  refine lv_iload_n hx hb dX1_readsRs1_0 rfl (lv_at hl 0 rfl) ?_
  refine ro_call (va_runS (As := [.int w]) (rest := []) ⟨hx, hb, hml, hown, hts⟩ (kX1_opcode l w ) (va_cwS 1 hts gX1_readsRs1_X1_opcode rfl rfl rfl (by decide +kernel) ⟨Nat.le_of_ble_eq_true rfl, Nat.le_of_ble_eq_true rfl⟩) pu_preS rfl rfl hl.1 rfl (lv_room (Nat.le_of_ble_eq_true rfl)) dX1_readsRs1_1 ⟨Nat.zero_le _, Nat.zero_le _⟩) hS (fun H locs hk hS => ?_)
  by_cases c_4_15 : (fX1_opcode w) = 15
  ·
    refine lv_lookup (off := 52) (tgt := 56) hx hb dX1_readsRs1_4 (by decide) (by rw [c_4_15]; decide) (by decide) ?_
    refine lv_iconst (v := 0) hx hb dX1_readsRs1_56 (by decide) ?_
    exact W.zret (v := 0) hx hb hr rfl (fun t ht hW => ro_end (A := ro_N) hS ht (by rw [fX1_readsRs1, if_pos c_4_15])) hS.2.2 dX1_readsRs1_57
  by_cases c_4_23 : (fX1_opcode w) = 23
  ·
    refine lv_lookup (off := 52) (tgt := 56) hx hb dX1_readsRs1_4 (by decide) (by rw [c_4_23]; decide) (by decide) ?_
    refine lv_iconst (v := 0) hx hb dX1_readsRs1_56 (by decide) ?_
    exact W.zret (v := 0) hx hb hr rfl (fun t ht hW => ro_end (A := ro_N) hS ht (by rw [fX1_readsRs1, if_neg c_4_15, if_pos c_4_23])) hS.2.2 dX1_readsRs1_57
  by_cases c_4_55 : (fX1_opcode w) = 55
  ·
    refine lv_lookup (off := 52) (tgt := 56) hx hb dX1_readsRs1_4 (by decide) (by rw [c_4_55]; decide) (by decide) ?_
    refine lv_iconst (v := 0) hx hb dX1_readsRs1_56 (by decide) ?_
    exact W.zret (v := 0) hx hb hr rfl (fun t ht hW => ro_end (A := ro_N) hS ht (by rw [fX1_readsRs1, if_neg c_4_15, if_neg c_4_23, if_pos c_4_55])) hS.2.2 dX1_readsRs1_57
  by_cases c_4_111 : (fX1_opcode w) = 111
  ·
    refine lv_lookup (off := 52) (tgt := 56) hx hb dX1_readsRs1_4 (by decide) (by rw [c_4_111]; decide) (by decide) ?_
    refine lv_iconst (v := 0) hx hb dX1_readsRs1_56 (by decide) ?_
    exact W.zret (v := 0) hx hb hr rfl (fun t ht hW => ro_end (A := ro_N) hS ht (by rw [fX1_readsRs1, if_neg c_4_15, if_neg c_4_23, if_neg c_4_55, if_pos c_4_111])) hS.2.2 dX1_readsRs1_57
  by_cases c_4_115 : (fX1_opcode w) = 115
  ·
    refine lv_lookup (off := 52) (tgt := 56) hx hb dX1_readsRs1_4 (by decide) (by rw [c_4_115]; decide) (by decide) ?_
    refine lv_iconst (v := 0) hx hb dX1_readsRs1_56 (by decide) ?_
    exact W.zret (v := 0) hx hb hr rfl (fun t ht hW => ro_end (A := ro_N) hS ht (by rw [fX1_readsRs1, if_neg c_4_15, if_neg c_4_23, if_neg c_4_55, if_neg c_4_111, if_pos c_4_115])) hS.2.2 dX1_readsRs1_57
  refine lv_lookup (off := 54) (tgt := 58) hx hb dX1_readsRs1_4 (by decide) (show Op.lookupswitch.offset [(15, 52), (23, 52), (55, 52), (111, 52), (115, 52)] 54 _ = 54 from (lv_osw c_4_15 (k := 15) (by decide)).trans ((lv_osw c_4_23 (k := 23) (by decide)).trans ((lv_osw c_4_55 (k := 55) (by decide)).trans ((lv_osw c_4_111 (k := 111) (by decide)).trans ((lv_osw c_4_115 (k := 115) (by decide)).trans (rfl)))))) (by decide) ?_
  refine lv_iconst (v := 1) hx hb dX1_readsRs1_58 (by decide) ?_
  exact W.zret (v := 1) hx hb hr rfl (fun t ht hW => ro_end (A := ro_N) hS ht (by rw [fX1_readsRs1, if_neg c_4_15, if_neg c_4_23, if_neg c_4_55, if_neg c_4_111, if_neg c_4_115])) hS.2.2 dX1_readsRs1_59
def fX1_readsRs2 (w : Int32) : Int32 := (if (fX1_opcode w) = 35 then 1 else (if (fX1_opcode w) = 51 then 1 else (if (fX1_opcode w) = 99 then 1 else 0)))
set_option maxHeartbeats 4000000 in
set_option maxRecDepth 100000 in
theorem kX1_readsRs2 (l : Launch) (w : Int32) : Met l yX1_readsRs2 wsX1_readsRs2 ({ frames := 1, cells := 0, slots := 0, locals := 20 }) (pu_Pc [.int w]) (ro_Q (fX1_readsRs2 w)) 0 0 ro_N := by
  refine Met.ofW (cc := cX1_readsRs2) (maxL := 1) (ret := (some .boolean)) (by decide) rfl ?_
  intro p e s m args below meth c s₁ B hml hv
  obtain ⟨rfl, -⟩ := hv
  have hx := B.exec
  have hb := B.bytes
  have hr := B.returns
  have hts := atoms_spec (ws := wsX1_readsRs2) B.pre
  have hown : s.vm.findClass RX1 = some m.cls := findClass_of_methodNamed B.named
  have hlocks := B.notSynchronized
  have hS : va_S ro_N s.heap s.heap [] := va_S.rf
  have hl := lv_entry ([.int w]) (n := 1) (Nat.le_of_ble_eq_true rfl)
  rw [lg_entry_eq]
  generalize (lg_sl ([.int w]) ++ List.replicate (1 - (lg_sl ([.int w])).length) Slot.unset).toArray = ls at hl ⊢
  have hl : lv_has ls 1 [(0, .int w)] := hl
  refine lv_iload_n hx hb dX1_readsRs2_0 rfl (lv_at hl 0 rfl) ?_
  refine ro_call (va_runS (As := [.int w]) (rest := []) ⟨hx, hb, hml, hown, hts⟩ (kX1_opcode l w ) (va_cwS 1 hts gX1_readsRs2_X1_opcode rfl rfl rfl (by decide +kernel) ⟨Nat.le_of_ble_eq_true rfl, Nat.le_of_ble_eq_true rfl⟩) pu_preS rfl rfl hl.1 rfl (lv_room (Nat.le_of_ble_eq_true rfl)) dX1_readsRs2_1 ⟨Nat.zero_le _, Nat.zero_le _⟩) hS (fun H locs hk hS => ?_)
  by_cases c_4_35 : (fX1_opcode w) = 35
  ·
    refine lv_lookup (off := 36) (tgt := 40) hx hb dX1_readsRs2_4 (by decide) (by rw [c_4_35]; decide) (by decide) ?_
    refine lv_iconst (v := 1) hx hb dX1_readsRs2_40 (by decide) ?_
    exact W.zret (v := 1) hx hb hr rfl (fun t ht hW => ro_end (A := ro_N) hS ht (by rw [fX1_readsRs2, if_pos c_4_35])) hS.2.2 dX1_readsRs2_41
  by_cases c_4_51 : (fX1_opcode w) = 51
  ·
    refine lv_lookup (off := 36) (tgt := 40) hx hb dX1_readsRs2_4 (by decide) (by rw [c_4_51]; decide) (by decide) ?_
    refine lv_iconst (v := 1) hx hb dX1_readsRs2_40 (by decide) ?_
    exact W.zret (v := 1) hx hb hr rfl (fun t ht hW => ro_end (A := ro_N) hS ht (by rw [fX1_readsRs2, if_neg c_4_35, if_pos c_4_51])) hS.2.2 dX1_readsRs2_41
  by_cases c_4_99 : (fX1_opcode w) = 99
  ·
    refine lv_lookup (off := 36) (tgt := 40) hx hb dX1_readsRs2_4 (by decide) (by rw [c_4_99]; decide) (by decide) ?_
    refine lv_iconst (v := 1) hx hb dX1_readsRs2_40 (by decide) ?_
    exact W.zret (v := 1) hx hb hr rfl (fun t ht hW => ro_end (A := ro_N) hS ht (by rw [fX1_readsRs2, if_neg c_4_35, if_neg c_4_51, if_pos c_4_99])) hS.2.2 dX1_readsRs2_41
  refine lv_lookup (off := 38) (tgt := 42) hx hb dX1_readsRs2_4 (by decide) (show Op.lookupswitch.offset [(35, 36), (51, 36), (99, 36)] 38 _ = 38 from (lv_osw c_4_35 (k := 35) (by decide)).trans ((lv_osw c_4_51 (k := 51) (by decide)).trans ((lv_osw c_4_99 (k := 99) (by decide)).trans (rfl)))) (by decide) ?_
  refine lv_iconst (v := 0) hx hb dX1_readsRs2_42 (by decide) ?_
  exact W.zret (v := 0) hx hb hr rfl (fun t ht hW => ro_end (A := ro_N) hS ht (by rw [fX1_readsRs2, if_neg c_4_35, if_neg c_4_51, if_neg c_4_99])) hS.2.2 dX1_readsRs2_43
def fX1_waitsFor (w z : Int32) : Int32 := (if (fX1_opcode z) = 3 then (if (fX1_rd z) = 0 then 0 else (if (fX1_isLegal w) = 0 then 0 else (if (fX1_readsRs1 w) = 0 then (if (fX1_readsRs2 w) = 0 then 0 else (if (fX1_rs2 w) = (fX1_rd z) then 1 else 0)) else (if (fX1_rs1 w) = (fX1_rd z) then 1 else (if (fX1_readsRs2 w) = 0 then 0 else (if (fX1_rs2 w) = (fX1_rd z) then 1 else 0)))))) else 0)
set_option maxHeartbeats 4000000 in
set_option maxRecDepth 100000 in
theorem kX1_waitsFor (l : Launch) (w z : Int32) : Met l yX1_waitsFor wsX1_waitsFor ({ frames := 2, cells := 0, slots := 0, locals := 41 }) (pu_Pc [.int w, .int z]) (ro_Q (fX1_waitsFor w z)) 0 0 ro_N := by
  refine Met.ofW (cc := cX1_waitsFor) (maxL := 3) (ret := (some .boolean)) (by decide) rfl ?_
  intro p e s m args below meth c s₁ B hml hv
  obtain ⟨rfl, -⟩ := hv
  have hx := B.exec
  have hb := B.bytes
  have hr := B.returns
  have hts := atoms_spec (ws := wsX1_waitsFor) B.pre
  have hown : s.vm.findClass RX1 = some m.cls := findClass_of_methodNamed B.named
  have hlocks := B.notSynchronized
  have hS : va_S ro_N s.heap s.heap [] := va_S.rf
  have hl := lv_entry ([.int w, .int z]) (n := 3) (Nat.le_of_ble_eq_true rfl)
  rw [lg_entry_eq]
  generalize (lg_sl ([.int w, .int z]) ++ List.replicate (3 - (lg_sl ([.int w, .int z])).length) Slot.unset).toArray = ls at hl ⊢
  have hl : lv_has ls 3 [(0, .int w), (1, .int z)] := hl
  refine lv_iload_n hx hb dX1_waitsFor_0 rfl (lv_at hl 1 rfl) ?_
  refine ro_call (va_runS (As := [.int z]) (rest := []) ⟨hx, hb, hml, hown, hts⟩ (kX1_rd l z ) (va_cwS 1 hts gX1_waitsFor_X1_rd rfl rfl rfl (by decide +kernel) ⟨Nat.le_of_ble_eq_true rfl, Nat.le_of_ble_eq_true rfl⟩) pu_preS rfl rfl hl.1 rfl (lv_room (Nat.le_of_ble_eq_true rfl)) dX1_waitsFor_1 ⟨Nat.zero_le _, Nat.zero_le _⟩) hS (fun H locs hk hS => ?_)
  refine lv_istore_n (lv' := [(2, .int (fX1_rd z)), (0, .int w), (1, .int z)]) hx hb dX1_waitsFor_4 rfl hl (by decide) rfl (fun ls hl => ?_)
  refine lv_iload_n hx hb dX1_waitsFor_5 rfl (lv_at hl 2 rfl) ?_
  refine ro_call (va_runS (As := [.int z]) (rest := []) ⟨hx, hb, hml, hown, hts⟩ (kX1_opcode l z ) (va_cwS 1 hts gX1_waitsFor_X1_opcode rfl rfl rfl (by decide +kernel) ⟨Nat.le_of_ble_eq_true rfl, Nat.le_of_ble_eq_true rfl⟩) pu_preS rfl rfl hl.1 rfl (lv_room (Nat.le_of_ble_eq_true rfl)) dX1_waitsFor_6 ⟨Nat.zero_le _, Nat.zero_le _⟩) hS (fun H locs hk hS => ?_)
  refine lv_iconst (v := 3) hx hb dX1_waitsFor_9 (by decide) ?_
  refine lv_icmp_ne (tgt := 24) hx hb dX1_waitsFor_10 (by decide) (fun c_10 => ?_) (fun c_10 => ?_)
  ·
    refine lv_iconst (v := 0) hx hb dX1_waitsFor_24 (by decide) ?_
    exact W.zret (v := 0) hx hb hr rfl (fun t ht hW => ro_end (A := ro_N) hS ht (by rw [fX1_waitsFor, if_neg c_10])) hS.2.2 dX1_waitsFor_25
  ·
    refine lv_iload_n hx hb dX1_waitsFor_13 rfl (lv_at hl 0 rfl) ?_
    refine lv_if_eq (tgt := 24) hx hb dX1_waitsFor_14 (by decide) (fun c_14 => ?_) (fun c_14 => ?_)
    ·
      refine lv_iconst (v := 0) hx hb dX1_waitsFor_24 (by decide) ?_
      exact W.zret (v := 0) hx hb hr rfl (fun t ht hW => ro_end (A := ro_N) hS ht (by rw [fX1_waitsFor, if_pos c_10, if_pos c_14])) hS.2.2 dX1_waitsFor_25
    ·
      refine lv_iload_n hx hb dX1_waitsFor_17 rfl (lv_at hl 1 rfl) ?_
      refine ro_call (va_runS (As := [.int w]) (rest := []) ⟨hx, hb, hml, hown, hts⟩ (kX1_isLegal l w ) (va_cwS 1 hts gX1_waitsFor_X1_isLegal rfl rfl rfl (by decide +kernel) ⟨Nat.le_of_ble_eq_true rfl, Nat.le_of_ble_eq_true rfl⟩) pu_preS rfl rfl hl.1 rfl (lv_room (Nat.le_of_ble_eq_true rfl)) dX1_waitsFor_18 ⟨Nat.zero_le _, Nat.zero_le _⟩) hS (fun H locs hk hS => ?_)
      refine lv_if_ne (tgt := 26) hx hb dX1_waitsFor_21 (by decide) (fun c_21 => ?_) (fun c_21 => ?_)
      ·
        refine lv_iload_n hx hb dX1_waitsFor_26 rfl (lv_at hl 1 rfl) ?_
        refine ro_call (va_runS (As := [.int w]) (rest := []) ⟨hx, hb, hml, hown, hts⟩ (kX1_readsRs1 l w ) (va_cwS 1 hts gX1_waitsFor_X1_readsRs1 rfl rfl rfl (by decide +kernel) ⟨Nat.le_of_ble_eq_true rfl, Nat.le_of_ble_eq_true rfl⟩) pu_preS rfl rfl hl.1 rfl (lv_room (Nat.le_of_ble_eq_true rfl)) dX1_waitsFor_27 ⟨Nat.zero_le _, Nat.zero_le _⟩) hS (fun H locs hk hS => ?_)
        refine lv_if_eq (tgt := 41) hx hb dX1_waitsFor_30 (by decide) (fun c_30 => ?_) (fun c_30 => ?_)
        ·
          refine lv_iload_n hx hb dX1_waitsFor_41 rfl (lv_at hl 1 rfl) ?_
          refine ro_call (va_runS (As := [.int w]) (rest := []) ⟨hx, hb, hml, hown, hts⟩ (kX1_readsRs2 l w ) (va_cwS 1 hts gX1_waitsFor_X1_readsRs2 rfl rfl rfl (by decide +kernel) ⟨Nat.le_of_ble_eq_true rfl, Nat.le_of_ble_eq_true rfl⟩) pu_preS rfl rfl hl.1 rfl (lv_room (Nat.le_of_ble_eq_true rfl)) dX1_waitsFor_42 ⟨Nat.zero_le _, Nat.zero_le _⟩) hS (fun H locs hk hS => ?_)
          refine lv_if_eq (tgt := 60) hx hb dX1_waitsFor_45 (by decide) (fun c_45 => ?_) (fun c_45 => ?_)
          ·
            refine lv_iconst (v := 0) hx hb dX1_waitsFor_60 (by decide) ?_
            exact W.zret (v := 0) hx hb hr rfl (fun t ht hW => ro_end (A := ro_N) hS ht (by rw [fX1_waitsFor, if_pos c_10, if_neg c_14, if_neg c_21, if_pos c_30, if_pos c_45])) hS.2.2 dX1_waitsFor_61
          ·
            refine lv_iload_n hx hb dX1_waitsFor_48 rfl (lv_at hl 1 rfl) ?_
            refine ro_call (va_runS (As := [.int w]) (rest := []) ⟨hx, hb, hml, hown, hts⟩ (kX1_rs2 l w ) (va_cwS 1 hts gX1_waitsFor_X1_rs2 rfl rfl rfl (by decide +kernel) ⟨Nat.le_of_ble_eq_true rfl, Nat.le_of_ble_eq_true rfl⟩) pu_preS rfl rfl hl.1 rfl (lv_room (Nat.le_of_ble_eq_true rfl)) dX1_waitsFor_49 ⟨Nat.zero_le _, Nat.zero_le _⟩) hS (fun H locs hk hS => ?_)
            refine lv_iload_n hx hb dX1_waitsFor_52 rfl (lv_at hl 0 rfl) ?_
            refine lv_icmp_ne (tgt := 60) hx hb dX1_waitsFor_53 (by decide) (fun c_53 => ?_) (fun c_53 => ?_)
            ·
              refine lv_iconst (v := 0) hx hb dX1_waitsFor_60 (by decide) ?_
              exact W.zret (v := 0) hx hb hr rfl (fun t ht hW => ro_end (A := ro_N) hS ht (by rw [fX1_waitsFor, if_pos c_10, if_neg c_14, if_neg c_21, if_pos c_30, if_neg c_45, if_neg c_53])) hS.2.2 dX1_waitsFor_61
            ·
              refine lv_iconst (v := 1) hx hb dX1_waitsFor_56 (by decide) ?_
              refine lv_goto (tgt := 61) hx hb dX1_waitsFor_57 (by decide) ?_
              exact W.zret (v := 1) hx hb hr rfl (fun t ht hW => ro_end (A := ro_N) hS ht (by rw [fX1_waitsFor, if_pos c_10, if_neg c_14, if_neg c_21, if_pos c_30, if_neg c_45, if_pos c_53])) hS.2.2 dX1_waitsFor_61
        ·
          refine lv_iload_n hx hb dX1_waitsFor_33 rfl (lv_at hl 1 rfl) ?_
          refine ro_call (va_runS (As := [.int w]) (rest := []) ⟨hx, hb, hml, hown, hts⟩ (kX1_rs1 l w ) (va_cwS 1 hts gX1_waitsFor_X1_rs1 rfl rfl rfl (by decide +kernel) ⟨Nat.le_of_ble_eq_true rfl, Nat.le_of_ble_eq_true rfl⟩) pu_preS rfl rfl hl.1 rfl (lv_room (Nat.le_of_ble_eq_true rfl)) dX1_waitsFor_34 ⟨Nat.zero_le _, Nat.zero_le _⟩) hS (fun H locs hk hS => ?_)
          refine lv_iload_n hx hb dX1_waitsFor_37 rfl (lv_at hl 0 rfl) ?_
          refine lv_icmp_eq (tgt := 56) hx hb dX1_waitsFor_38 (by decide) (fun c_38 => ?_) (fun c_38 => ?_)
          ·
            refine lv_iconst (v := 1) hx hb dX1_waitsFor_56 (by decide) ?_
            refine lv_goto (tgt := 61) hx hb dX1_waitsFor_57 (by decide) ?_
            exact W.zret (v := 1) hx hb hr rfl (fun t ht hW => ro_end (A := ro_N) hS ht (by rw [fX1_waitsFor, if_pos c_10, if_neg c_14, if_neg c_21, if_neg c_30, if_pos c_38])) hS.2.2 dX1_waitsFor_61
          ·
            refine lv_iload_n hx hb dX1_waitsFor_41 rfl (lv_at hl 1 rfl) ?_
            refine ro_call (va_runS (As := [.int w]) (rest := []) ⟨hx, hb, hml, hown, hts⟩ (kX1_readsRs2 l w ) (va_cwS 1 hts gX1_waitsFor_X1_readsRs2 rfl rfl rfl (by decide +kernel) ⟨Nat.le_of_ble_eq_true rfl, Nat.le_of_ble_eq_true rfl⟩) pu_preS rfl rfl hl.1 rfl (lv_room (Nat.le_of_ble_eq_true rfl)) dX1_waitsFor_42 ⟨Nat.zero_le _, Nat.zero_le _⟩) hS (fun H locs hk hS => ?_)
            refine lv_if_eq (tgt := 60) hx hb dX1_waitsFor_45 (by decide) (fun c_45 => ?_) (fun c_45 => ?_)
            ·
              refine lv_iconst (v := 0) hx hb dX1_waitsFor_60 (by decide) ?_
              exact W.zret (v := 0) hx hb hr rfl (fun t ht hW => ro_end (A := ro_N) hS ht (by rw [fX1_waitsFor, if_pos c_10, if_neg c_14, if_neg c_21, if_neg c_30, if_neg c_38, if_pos c_45])) hS.2.2 dX1_waitsFor_61
            ·
              refine lv_iload_n hx hb dX1_waitsFor_48 rfl (lv_at hl 1 rfl) ?_
              refine ro_call (va_runS (As := [.int w]) (rest := []) ⟨hx, hb, hml, hown, hts⟩ (kX1_rs2 l w ) (va_cwS 1 hts gX1_waitsFor_X1_rs2 rfl rfl rfl (by decide +kernel) ⟨Nat.le_of_ble_eq_true rfl, Nat.le_of_ble_eq_true rfl⟩) pu_preS rfl rfl hl.1 rfl (lv_room (Nat.le_of_ble_eq_true rfl)) dX1_waitsFor_49 ⟨Nat.zero_le _, Nat.zero_le _⟩) hS (fun H locs hk hS => ?_)
              refine lv_iload_n hx hb dX1_waitsFor_52 rfl (lv_at hl 0 rfl) ?_
              refine lv_icmp_ne (tgt := 60) hx hb dX1_waitsFor_53 (by decide) (fun c_53 => ?_) (fun c_53 => ?_)
              ·
                refine lv_iconst (v := 0) hx hb dX1_waitsFor_60 (by decide) ?_
                exact W.zret (v := 0) hx hb hr rfl (fun t ht hW => ro_end (A := ro_N) hS ht (by rw [fX1_waitsFor, if_pos c_10, if_neg c_14, if_neg c_21, if_neg c_30, if_neg c_38, if_neg c_45, if_neg c_53])) hS.2.2 dX1_waitsFor_61
              ·
                refine lv_iconst (v := 1) hx hb dX1_waitsFor_56 (by decide) ?_
                refine lv_goto (tgt := 61) hx hb dX1_waitsFor_57 (by decide) ?_
                exact W.zret (v := 1) hx hb hr rfl (fun t ht hW => ro_end (A := ro_N) hS ht (by rw [fX1_waitsFor, if_pos c_10, if_neg c_14, if_neg c_21, if_neg c_30, if_neg c_38, if_neg c_45, if_pos c_53])) hS.2.2 dX1_waitsFor_61
      ·
        refine lv_iconst (v := 0) hx hb dX1_waitsFor_24 (by decide) ?_
        exact W.zret (v := 0) hx hb hr rfl (fun t ht hW => ro_end (A := ro_N) hS ht (by rw [fX1_waitsFor, if_pos c_10, if_neg c_14, if_pos c_21])) hS.2.2 dX1_waitsFor_25
def fX0_isLessWithoutSigns (x y : Int32) : Int32 := (if (y ^^^ (-2147483648)) ≤ (x ^^^ (-2147483648)) then 0 else 1)
set_option maxHeartbeats 4000000 in
set_option maxRecDepth 100000 in
theorem kX0_isLessWithoutSigns (l : Launch) (x y : Int32) : Met l yX0_isLessWithoutSigns wsX0_isLessWithoutSigns ({ frames := 0, cells := 0, slots := 0, locals := 0 }) (pu_Pc [.int x, .int y]) (ro_Q (fX0_isLessWithoutSigns x y)) 0 0 ro_N := by
  refine Met.ofW (cc := cX0_isLessWithoutSigns) (maxL := 2) (ret := (some .boolean)) (by decide) rfl ?_
  intro p e s m args below meth c s₁ B hml hv
  obtain ⟨rfl, -⟩ := hv
  have hx := B.exec
  have hb := B.bytes
  have hr := B.returns
  have hts := atoms_spec (ws := wsX0_isLessWithoutSigns) B.pre
  have hown : s.vm.findClass RX0 = some m.cls := findClass_of_methodNamed B.named
  have hlocks := B.notSynchronized
  have hS : va_S ro_N s.heap s.heap [] := va_S.rf
  have hl := lv_entry ([.int x, .int y]) (n := 2) (Nat.le_of_ble_eq_true rfl)
  rw [lg_entry_eq]
  generalize (lg_sl ([.int x, .int y]) ++ List.replicate (2 - (lg_sl ([.int x, .int y])).length) Slot.unset).toArray = ls at hl ⊢
  have hl : lv_has ls 2 [(0, .int x), (1, .int y)] := hl
  refine lv_iload_n hx hb dX0_isLessWithoutSigns_0 rfl (lv_at hl 0 rfl) ?_
  refine lv_ldc (v := (-2147483648)) hx hb hown (hts (.constant RX0 13 (-2147483648)) (by decide +kernel)) dX0_isLessWithoutSigns_1 ?_
  refine lv_ixor hx hb dX0_isLessWithoutSigns_3 ?_
  refine lv_iload_n hx hb dX0_isLessWithoutSigns_4 rfl (lv_at hl 1 rfl) ?_
  refine lv_ldc (v := (-2147483648)) hx hb hown (hts (.constant RX0 13 (-2147483648)) (by decide +kernel)) dX0_isLessWithoutSigns_5 ?_
  refine lv_ixor hx hb dX0_isLessWithoutSigns_7 ?_
  refine lv_icmp_ge (tgt := 15) hx hb dX0_isLessWithoutSigns_8 (by decide) (fun c_8 => ?_) (fun c_8 => ?_)
  ·
    refine lv_iconst (v := 0) hx hb dX0_isLessWithoutSigns_15 (by decide) ?_
    exact W.zret (v := 0) hx hb hr rfl (fun t ht hW => ro_end (A := ro_N) hS ht (by rw [fX0_isLessWithoutSigns, if_pos c_8])) hS.2.2 dX0_isLessWithoutSigns_16
  ·
    refine lv_iconst (v := 1) hx hb dX0_isLessWithoutSigns_11 (by decide) ?_
    refine lv_goto (tgt := 16) hx hb dX0_isLessWithoutSigns_12 (by decide) ?_
    exact W.zret (v := 1) hx hb hr rfl (fun t ht hW => ro_end (A := ro_N) hS ht (by rw [fX0_isLessWithoutSigns, if_neg c_8])) hS.2.2 dX0_isLessWithoutSigns_16
theorem b_fX0_isLessWithoutSigns (x y : Int32) : fX0_isLessWithoutSigns x y = 0 ∨ fX0_isLessWithoutSigns x y = 1 := by
  unfold fX0_isLessWithoutSigns
  split
  all_goals first | exact Or.inl rfl | exact Or.inr rfl
def fX0_result (f o x y : Int32) : Int32 := (if f = 0 then (if o = 0 then (x + y) else (x - y)) else (if f = 1 then (x <<< ((y &&& 31) &&& 31)) else (if f = 2 then (if y ≤ x then 0 else 1) else (if f = 3 then (if (fX0_isLessWithoutSigns x y) = 0 then 0 else 1) else (if f = 4 then (x ^^^ y) else (if f = 5 then (if o = 0 then (jushr x (y &&& 31)) else (x >>> ((y &&& 31) &&& 31))) else (if f = 6 then (x ||| y) else (x &&& y))))))))
set_option maxHeartbeats 4000000 in
set_option maxRecDepth 100000 in
theorem kX0_result (l : Launch) (f o x y : Int32) : Met l yX0_result wsX0_result ({ frames := 1, cells := 0, slots := 0, locals := 21 }) (pu_Pc [.int f, .int o, .int x, .int y]) (ro_Q (fX0_result f o x y)) 0 0 ro_N := by
  refine Met.ofW (cc := cX0_result) (maxL := 4) (ret := (some .int)) (by decide) rfl ?_
  intro p e s m args below meth c s₁ B hml hv
  obtain ⟨rfl, -⟩ := hv
  have hx := B.exec
  have hb := B.bytes
  have hr := B.returns
  have hts := atoms_spec (ws := wsX0_result) B.pre
  have hown : s.vm.findClass RX0 = some m.cls := findClass_of_methodNamed B.named
  have hlocks := B.notSynchronized
  have hS : va_S ro_N s.heap s.heap [] := va_S.rf
  have hl := lv_entry ([.int f, .int o, .int x, .int y]) (n := 4) (Nat.le_of_ble_eq_true rfl)
  rw [lg_entry_eq]
  generalize (lg_sl ([.int f, .int o, .int x, .int y]) ++ List.replicate (4 - (lg_sl ([.int f, .int o, .int x, .int y])).length) Slot.unset).toArray = ls at hl ⊢
  have hl : lv_has ls 4 [(0, .int f), (1, .int o), (2, .int x), (3, .int y)] := hl
  refine lv_iload_n hx hb dX0_result_0 rfl (lv_at hl 0 rfl) ?_
  by_cases c_1_0 : f = 0
  ·
    refine lv_tableIn (off := 43) (tgt := 44) hx hb dX0_result_1 (by rw [c_1_0]; decide) (by rw [c_1_0]; decide) (by rw [c_1_0]; decide) (by decide) ?_
    refine lv_iload_n hx hb dX0_result_44 rfl (lv_at hl 1 rfl) ?_
    refine lv_if_eq (tgt := 54) hx hb dX0_result_45 (by decide) (fun c_45 => ?_) (fun c_45 => ?_)
    ·
      refine lv_iload_n hx hb dX0_result_54 rfl (lv_at hl 2 rfl) ?_
      refine lv_iload_n hx hb dX0_result_55 rfl (lv_at hl 3 rfl) ?_
      refine lv_iadd hx hb dX0_result_56 ?_
      exact W.iret (v := x + y) hx hb hr (fun t ht hW => ro_end (A := ro_N) hS ht (by rw [fX0_result, if_pos c_1_0, if_pos c_45])) hS.2.2 dX0_result_57
    ·
      refine lv_iload_n hx hb dX0_result_48 rfl (lv_at hl 2 rfl) ?_
      refine lv_iload_n hx hb dX0_result_49 rfl (lv_at hl 3 rfl) ?_
      refine lv_isub hx hb dX0_result_50 ?_
      refine lv_goto (tgt := 57) hx hb dX0_result_51 (by decide) ?_
      exact W.iret (v := x - y) hx hb hr (fun t ht hW => ro_end (A := ro_N) hS ht (by rw [fX0_result, if_pos c_1_0, if_neg c_45])) hS.2.2 dX0_result_57
  by_cases c_1_1 : f = 1
  ·
    refine lv_tableIn (off := 57) (tgt := 58) hx hb dX0_result_1 (by rw [c_1_1]; decide) (by rw [c_1_1]; decide) (by rw [c_1_1]; decide) (by decide) ?_
    refine lv_iload_n hx hb dX0_result_58 rfl (lv_at hl 2 rfl) ?_
    refine lv_iload_n hx hb dX0_result_59 rfl (lv_at hl 3 rfl) ?_
    refine lv_bipush (v := 31) hx hb dX0_result_60 (by decide) ?_
    refine lv_iand hx hb dX0_result_62 ?_
    refine lv_ishl hx hb dX0_result_63 ?_
    exact W.iret (v := x <<< ((y &&& 31) &&& 31)) hx hb hr (fun t ht hW => ro_end (A := ro_N) hS ht (by rw [fX0_result, if_neg c_1_0, if_pos c_1_1])) hS.2.2 dX0_result_64
  by_cases c_1_2 : f = 2
  ·
    refine lv_tableIn (off := 64) (tgt := 65) hx hb dX0_result_1 (by rw [c_1_2]; decide) (by rw [c_1_2]; decide) (by rw [c_1_2]; decide) (by decide) ?_
    refine lv_iload_n hx hb dX0_result_65 rfl (lv_at hl 2 rfl) ?_
    refine lv_iload_n hx hb dX0_result_66 rfl (lv_at hl 3 rfl) ?_
    refine lv_icmp_ge (tgt := 74) hx hb dX0_result_67 (by decide) (fun c_67 => ?_) (fun c_67 => ?_)
    ·
      refine lv_iconst (v := 0) hx hb dX0_result_74 (by decide) ?_
      exact W.iret (v := 0) hx hb hr (fun t ht hW => ro_end (A := ro_N) hS ht (by rw [fX0_result, if_neg c_1_0, if_neg c_1_1, if_pos c_1_2, if_pos c_67])) hS.2.2 dX0_result_75
    ·
      refine lv_iconst (v := 1) hx hb dX0_result_70 (by decide) ?_
      refine lv_goto (tgt := 75) hx hb dX0_result_71 (by decide) ?_
      exact W.iret (v := 1) hx hb hr (fun t ht hW => ro_end (A := ro_N) hS ht (by rw [fX0_result, if_neg c_1_0, if_neg c_1_1, if_pos c_1_2, if_neg c_67])) hS.2.2 dX0_result_75
  by_cases c_1_3 : f = 3
  ·
    refine lv_tableIn (off := 75) (tgt := 76) hx hb dX0_result_1 (by rw [c_1_3]; decide) (by rw [c_1_3]; decide) (by rw [c_1_3]; decide) (by decide) ?_
    refine lv_iload_n hx hb dX0_result_76 rfl (lv_at hl 2 rfl) ?_
    refine lv_iload_n hx hb dX0_result_77 rfl (lv_at hl 3 rfl) ?_
    refine ro_call (va_runS (As := [.int x, .int y]) (rest := []) ⟨hx, hb, hml, hown, hts⟩ (kX0_isLessWithoutSigns l x y ) (va_cwS 2 hts gX0_result_X0_isLessWithoutSigns rfl rfl rfl (by decide +kernel) ⟨Nat.le_of_ble_eq_true rfl, Nat.le_of_ble_eq_true rfl⟩) pu_preS rfl rfl hl.1 rfl (lv_room (Nat.le_of_ble_eq_true rfl)) dX0_result_78 ⟨Nat.zero_le _, Nat.zero_le _⟩) hS (fun H locs hk hS => ?_)
    refine lv_if_eq (tgt := 88) hx hb dX0_result_81 (by decide) (fun c_81 => ?_) (fun c_81 => ?_)
    ·
      refine lv_iconst (v := 0) hx hb dX0_result_88 (by decide) ?_
      exact W.iret (v := 0) hx hb hr (fun t ht hW => ro_end (A := ro_N) hS ht (by rw [fX0_result, if_neg c_1_0, if_neg c_1_1, if_neg c_1_2, if_pos c_1_3, if_pos c_81])) hS.2.2 dX0_result_89
    ·
      refine lv_iconst (v := 1) hx hb dX0_result_84 (by decide) ?_
      refine lv_goto (tgt := 89) hx hb dX0_result_85 (by decide) ?_
      exact W.iret (v := 1) hx hb hr (fun t ht hW => ro_end (A := ro_N) hS ht (by rw [fX0_result, if_neg c_1_0, if_neg c_1_1, if_neg c_1_2, if_pos c_1_3, if_neg c_81])) hS.2.2 dX0_result_89
  by_cases c_1_4 : f = 4
  ·
    refine lv_tableIn (off := 89) (tgt := 90) hx hb dX0_result_1 (by rw [c_1_4]; decide) (by rw [c_1_4]; decide) (by rw [c_1_4]; decide) (by decide) ?_
    refine lv_iload_n hx hb dX0_result_90 rfl (lv_at hl 2 rfl) ?_
    refine lv_iload_n hx hb dX0_result_91 rfl (lv_at hl 3 rfl) ?_
    refine lv_ixor hx hb dX0_result_92 ?_
    exact W.iret (v := x ^^^ y) hx hb hr (fun t ht hW => ro_end (A := ro_N) hS ht (by rw [fX0_result, if_neg c_1_0, if_neg c_1_1, if_neg c_1_2, if_neg c_1_3, if_pos c_1_4])) hS.2.2 dX0_result_93
  by_cases c_1_5 : f = 5
  ·
    refine lv_tableIn (off := 93) (tgt := 94) hx hb dX0_result_1 (by rw [c_1_5]; decide) (by rw [c_1_5]; decide) (by rw [c_1_5]; decide) (by decide) ?_
    refine lv_iload_n hx hb dX0_result_94 rfl (lv_at hl 1 rfl) ?_
    refine lv_if_eq (tgt := 107) hx hb dX0_result_95 (by decide) (fun c_95 => ?_) (fun c_95 => ?_)
    ·
      refine lv_iload_n hx hb dX0_result_107 rfl (lv_at hl 2 rfl) ?_
      refine lv_iload_n hx hb dX0_result_108 rfl (lv_at hl 3 rfl) ?_
      refine lv_bipush (v := 31) hx hb dX0_result_109 (by decide) ?_
      refine lv_iand hx hb dX0_result_111 ?_
      refine lv_iushr (v := jushr x (y &&& 31)) hx hb dX0_result_112 rfl ?_
      exact W.iret (v := jushr x (y &&& 31)) hx hb hr (fun t ht hW => ro_end (A := ro_N) hS ht (by rw [fX0_result, if_neg c_1_0, if_neg c_1_1, if_neg c_1_2, if_neg c_1_3, if_neg c_1_4, if_pos c_1_5, if_pos c_95])) hS.2.2 dX0_result_113
    ·
      refine lv_iload_n hx hb dX0_result_98 rfl (lv_at hl 2 rfl) ?_
      refine lv_iload_n hx hb dX0_result_99 rfl (lv_at hl 3 rfl) ?_
      refine lv_bipush (v := 31) hx hb dX0_result_100 (by decide) ?_
      refine lv_iand hx hb dX0_result_102 ?_
      refine lv_ishr hx hb dX0_result_103 ?_
      refine lv_goto (tgt := 113) hx hb dX0_result_104 (by decide) ?_
      exact W.iret (v := x >>> ((y &&& 31) &&& 31)) hx hb hr (fun t ht hW => ro_end (A := ro_N) hS ht (by rw [fX0_result, if_neg c_1_0, if_neg c_1_1, if_neg c_1_2, if_neg c_1_3, if_neg c_1_4, if_pos c_1_5, if_neg c_95])) hS.2.2 dX0_result_113
  by_cases c_1_6 : f = 6
  ·
    refine lv_tableIn (off := 113) (tgt := 114) hx hb dX0_result_1 (by rw [c_1_6]; decide) (by rw [c_1_6]; decide) (by rw [c_1_6]; decide) (by decide) ?_
    refine lv_iload_n hx hb dX0_result_114 rfl (lv_at hl 2 rfl) ?_
    refine lv_iload_n hx hb dX0_result_115 rfl (lv_at hl 3 rfl) ?_
    refine lv_ior hx hb dX0_result_116 ?_
    exact W.iret (v := x ||| y) hx hb hr (fun t ht hW => ro_end (A := ro_N) hS ht (by rw [fX0_result, if_neg c_1_0, if_neg c_1_1, if_neg c_1_2, if_neg c_1_3, if_neg c_1_4, if_neg c_1_5, if_pos c_1_6])) hS.2.2 dX0_result_117
  have hsw_1 : (f).toInt < 0 ∨ 6 < (f).toInt := by
    have q0 := lv_neT c_1_0 (k := 0) (a := 0) (by decide)
    have q1 := lv_neT c_1_1 (k := 1) (a := 1) (by decide)
    have q2 := lv_neT c_1_2 (k := 2) (a := 2) (by decide)
    have q3 := lv_neT c_1_3 (k := 3) (a := 3) (by decide)
    have q4 := lv_neT c_1_4 (k := 4) (a := 4) (by decide)
    have q5 := lv_neT c_1_5 (k := 5) (a := 5) (by decide)
    have q6 := lv_neT c_1_6 (k := 6) (a := 6) (by decide)
    omega
  refine lv_tableOut (tgt := 118) hx hb dX0_result_1 hsw_1 (by decide) ?_
  refine lv_iload_n hx hb dX0_result_118 rfl (lv_at hl 2 rfl) ?_
  refine lv_iload_n hx hb dX0_result_119 rfl (lv_at hl 3 rfl) ?_
  refine lv_iand hx hb dX0_result_120 ?_
  exact W.iret (v := x &&& y) hx hb hr (fun t ht hW => ro_end (A := ro_N) hS ht (by rw [fX0_result, if_neg c_1_0, if_neg c_1_1, if_neg c_1_2, if_neg c_1_3, if_neg c_1_4, if_neg c_1_5, if_neg c_1_6])) hS.2.2 dX0_result_121
def fX0_branches (f x y : Int32) : Int32 := (if f = 0 then (if x = y then 1 else 0) else (if f = 1 then (if x = y then 0 else 1) else (if f = 2 then 0 else (if f = 3 then 0 else (if f = 4 then (if y ≤ x then 0 else 1) else (if f = 5 then (if x < y then 0 else 1) else (if f = 6 then (fX0_isLessWithoutSigns x y) else (if f = 7 then (if (fX0_isLessWithoutSigns x y) = 0 then 1 else 0) else 0))))))))
set_option maxHeartbeats 4000000 in
set_option maxRecDepth 100000 in
theorem kX0_branches (l : Launch) (f x y : Int32) : Met l yX0_branches wsX0_branches ({ frames := 1, cells := 0, slots := 0, locals := 21 }) (pu_Pc [.int f, .int x, .int y]) (ro_Q (fX0_branches f x y)) 0 0 ro_N := by
  refine Met.ofW (cc := cX0_branches) (maxL := 3) (ret := (some .boolean)) (by decide) rfl ?_
  intro p e s m args below meth c s₁ B hml hv
  obtain ⟨rfl, -⟩ := hv
  have hx := B.exec
  have hb := B.bytes
  have hr := B.returns
  have hts := atoms_spec (ws := wsX0_branches) B.pre
  have hown : s.vm.findClass RX0 = some m.cls := findClass_of_methodNamed B.named
  have hlocks := B.notSynchronized
  have hS : va_S ro_N s.heap s.heap [] := va_S.rf
  have hl := lv_entry ([.int f, .int x, .int y]) (n := 3) (Nat.le_of_ble_eq_true rfl)
  rw [lg_entry_eq]
  generalize (lg_sl ([.int f, .int x, .int y]) ++ List.replicate (3 - (lg_sl ([.int f, .int x, .int y])).length) Slot.unset).toArray = ls at hl ⊢
  have hl : lv_has ls 3 [(0, .int f), (1, .int x), (2, .int y)] := hl
  refine lv_iload_n hx hb dX0_branches_0 rfl (lv_at hl 0 rfl) ?_
  by_cases c_1_0 : f = 0
  ·
    refine lv_tableIn (off := 47) (tgt := 48) hx hb dX0_branches_1 (by rw [c_1_0]; decide) (by rw [c_1_0]; decide) (by rw [c_1_0]; decide) (by decide) ?_
    refine lv_iload_n hx hb dX0_branches_48 rfl (lv_at hl 1 rfl) ?_
    refine lv_iload_n hx hb dX0_branches_49 rfl (lv_at hl 2 rfl) ?_
    refine lv_icmp_ne (tgt := 57) hx hb dX0_branches_50 (by decide) (fun c_50 => ?_) (fun c_50 => ?_)
    ·
      refine lv_iconst (v := 0) hx hb dX0_branches_57 (by decide) ?_
      exact W.zret (v := 0) hx hb hr rfl (fun t ht hW => ro_end (A := ro_N) hS ht (by rw [fX0_branches, if_pos c_1_0, if_neg c_50])) hS.2.2 dX0_branches_58
    ·
      refine lv_iconst (v := 1) hx hb dX0_branches_53 (by decide) ?_
      refine lv_goto (tgt := 58) hx hb dX0_branches_54 (by decide) ?_
      exact W.zret (v := 1) hx hb hr rfl (fun t ht hW => ro_end (A := ro_N) hS ht (by rw [fX0_branches, if_pos c_1_0, if_pos c_50])) hS.2.2 dX0_branches_58
  by_cases c_1_1 : f = 1
  ·
    refine lv_tableIn (off := 58) (tgt := 59) hx hb dX0_branches_1 (by rw [c_1_1]; decide) (by rw [c_1_1]; decide) (by rw [c_1_1]; decide) (by decide) ?_
    refine lv_iload_n hx hb dX0_branches_59 rfl (lv_at hl 1 rfl) ?_
    refine lv_iload_n hx hb dX0_branches_60 rfl (lv_at hl 2 rfl) ?_
    refine lv_icmp_eq (tgt := 68) hx hb dX0_branches_61 (by decide) (fun c_61 => ?_) (fun c_61 => ?_)
    ·
      refine lv_iconst (v := 0) hx hb dX0_branches_68 (by decide) ?_
      exact W.zret (v := 0) hx hb hr rfl (fun t ht hW => ro_end (A := ro_N) hS ht (by rw [fX0_branches, if_neg c_1_0, if_pos c_1_1, if_pos c_61])) hS.2.2 dX0_branches_69
    ·
      refine lv_iconst (v := 1) hx hb dX0_branches_64 (by decide) ?_
      refine lv_goto (tgt := 69) hx hb dX0_branches_65 (by decide) ?_
      exact W.zret (v := 1) hx hb hr rfl (fun t ht hW => ro_end (A := ro_N) hS ht (by rw [fX0_branches, if_neg c_1_0, if_pos c_1_1, if_neg c_61])) hS.2.2 dX0_branches_69
  by_cases c_1_2 : f = 2
  ·
    refine lv_tableIn (off := 111) (tgt := 112) hx hb dX0_branches_1 (by rw [c_1_2]; decide) (by rw [c_1_2]; decide) (by rw [c_1_2]; decide) (by decide) ?_
    refine lv_iconst (v := 0) hx hb dX0_branches_112 (by decide) ?_
    exact W.zret (v := 0) hx hb hr rfl (fun t ht hW => ro_end (A := ro_N) hS ht (by rw [fX0_branches, if_neg c_1_0, if_neg c_1_1, if_pos c_1_2])) hS.2.2 dX0_branches_113
  by_cases c_1_3 : f = 3
  ·
    refine lv_tableIn (off := 111) (tgt := 112) hx hb dX0_branches_1 (by rw [c_1_3]; decide) (by rw [c_1_3]; decide) (by rw [c_1_3]; decide) (by decide) ?_
    refine lv_iconst (v := 0) hx hb dX0_branches_112 (by decide) ?_
    exact W.zret (v := 0) hx hb hr rfl (fun t ht hW => ro_end (A := ro_N) hS ht (by rw [fX0_branches, if_neg c_1_0, if_neg c_1_1, if_neg c_1_2, if_pos c_1_3])) hS.2.2 dX0_branches_113
  by_cases c_1_4 : f = 4
  ·
    refine lv_tableIn (off := 69) (tgt := 70) hx hb dX0_branches_1 (by rw [c_1_4]; decide) (by rw [c_1_4]; decide) (by rw [c_1_4]; decide) (by decide) ?_
    refine lv_iload_n hx hb dX0_branches_70 rfl (lv_at hl 1 rfl) ?_
    refine lv_iload_n hx hb dX0_branches_71 rfl (lv_at hl 2 rfl) ?_
    refine lv_icmp_ge (tgt := 79) hx hb dX0_branches_72 (by decide) (fun c_72 => ?_) (fun c_72 => ?_)
    ·
      refine lv_iconst (v := 0) hx hb dX0_branches_79 (by decide) ?_
      exact W.zret (v := 0) hx hb hr rfl (fun t ht hW => ro_end (A := ro_N) hS ht (by rw [fX0_branches, if_neg c_1_0, if_neg c_1_1, if_neg c_1_2, if_neg c_1_3, if_pos c_1_4, if_pos c_72])) hS.2.2 dX0_branches_80
    ·
      refine lv_iconst (v := 1) hx hb dX0_branches_75 (by decide) ?_
      refine lv_goto (tgt := 80) hx hb dX0_branches_76 (by decide) ?_
      exact W.zret (v := 1) hx hb hr rfl (fun t ht hW => ro_end (A := ro_N) hS ht (by rw [fX0_branches, if_neg c_1_0, if_neg c_1_1, if_neg c_1_2, if_neg c_1_3, if_pos c_1_4, if_neg c_72])) hS.2.2 dX0_branches_80
  by_cases c_1_5 : f = 5
  ·
    refine lv_tableIn (off := 80) (tgt := 81) hx hb dX0_branches_1 (by rw [c_1_5]; decide) (by rw [c_1_5]; decide) (by rw [c_1_5]; decide) (by decide) ?_
    refine lv_iload_n hx hb dX0_branches_81 rfl (lv_at hl 1 rfl) ?_
    refine lv_iload_n hx hb dX0_branches_82 rfl (lv_at hl 2 rfl) ?_
    refine lv_icmp_lt (tgt := 90) hx hb dX0_branches_83 (by decide) (fun c_83 => ?_) (fun c_83 => ?_)
    ·
      refine lv_iconst (v := 0) hx hb dX0_branches_90 (by decide) ?_
      exact W.zret (v := 0) hx hb hr rfl (fun t ht hW => ro_end (A := ro_N) hS ht (by rw [fX0_branches, if_neg c_1_0, if_neg c_1_1, if_neg c_1_2, if_neg c_1_3, if_neg c_1_4, if_pos c_1_5, if_pos c_83])) hS.2.2 dX0_branches_91
    ·
      refine lv_iconst (v := 1) hx hb dX0_branches_86 (by decide) ?_
      refine lv_goto (tgt := 91) hx hb dX0_branches_87 (by decide) ?_
      exact W.zret (v := 1) hx hb hr rfl (fun t ht hW => ro_end (A := ro_N) hS ht (by rw [fX0_branches, if_neg c_1_0, if_neg c_1_1, if_neg c_1_2, if_neg c_1_3, if_neg c_1_4, if_pos c_1_5, if_neg c_83])) hS.2.2 dX0_branches_91
  by_cases c_1_6 : f = 6
  ·
    refine lv_tableIn (off := 91) (tgt := 92) hx hb dX0_branches_1 (by rw [c_1_6]; decide) (by rw [c_1_6]; decide) (by rw [c_1_6]; decide) (by decide) ?_
    refine lv_iload_n hx hb dX0_branches_92 rfl (lv_at hl 1 rfl) ?_
    refine lv_iload_n hx hb dX0_branches_93 rfl (lv_at hl 2 rfl) ?_
    refine ro_call (va_runS (As := [.int x, .int y]) (rest := []) ⟨hx, hb, hml, hown, hts⟩ (kX0_isLessWithoutSigns l x y ) (va_cwS 2 hts gX0_branches_X0_isLessWithoutSigns rfl rfl rfl (by decide +kernel) ⟨Nat.le_of_ble_eq_true rfl, Nat.le_of_ble_eq_true rfl⟩) pu_preS rfl rfl hl.1 rfl (lv_room (Nat.le_of_ble_eq_true rfl)) dX0_branches_94 ⟨Nat.zero_le _, Nat.zero_le _⟩) hS (fun H locs hk hS => ?_)
    exact W.zret (v := fX0_isLessWithoutSigns x y) hx hb hr (nz_b (b_fX0_isLessWithoutSigns x y)) (fun t ht hW => ro_end (A := ro_N) hS ht (by rw [fX0_branches, if_neg c_1_0, if_neg c_1_1, if_neg c_1_2, if_neg c_1_3, if_neg c_1_4, if_neg c_1_5, if_pos c_1_6])) hS.2.2 dX0_branches_97
  by_cases c_1_7 : f = 7
  ·
    refine lv_tableIn (off := 97) (tgt := 98) hx hb dX0_branches_1 (by rw [c_1_7]; decide) (by rw [c_1_7]; decide) (by rw [c_1_7]; decide) (by decide) ?_
    refine lv_iload_n hx hb dX0_branches_98 rfl (lv_at hl 1 rfl) ?_
    refine lv_iload_n hx hb dX0_branches_99 rfl (lv_at hl 2 rfl) ?_
    refine ro_call (va_runS (As := [.int x, .int y]) (rest := []) ⟨hx, hb, hml, hown, hts⟩ (kX0_isLessWithoutSigns l x y ) (va_cwS 2 hts gX0_branches_X0_isLessWithoutSigns rfl rfl rfl (by decide +kernel) ⟨Nat.le_of_ble_eq_true rfl, Nat.le_of_ble_eq_true rfl⟩) pu_preS rfl rfl hl.1 rfl (lv_room (Nat.le_of_ble_eq_true rfl)) dX0_branches_100 ⟨Nat.zero_le _, Nat.zero_le _⟩) hS (fun H locs hk hS => ?_)
    refine lv_if_ne (tgt := 110) hx hb dX0_branches_103 (by decide) (fun c_103 => ?_) (fun c_103 => ?_)
    ·
      refine lv_iconst (v := 0) hx hb dX0_branches_110 (by decide) ?_
      exact W.zret (v := 0) hx hb hr rfl (fun t ht hW => ro_end (A := ro_N) hS ht (by rw [fX0_branches, if_neg c_1_0, if_neg c_1_1, if_neg c_1_2, if_neg c_1_3, if_neg c_1_4, if_neg c_1_5, if_neg c_1_6, if_pos c_1_7, if_neg c_103])) hS.2.2 dX0_branches_111
    ·
      refine lv_iconst (v := 1) hx hb dX0_branches_106 (by decide) ?_
      refine lv_goto (tgt := 111) hx hb dX0_branches_107 (by decide) ?_
      exact W.zret (v := 1) hx hb hr rfl (fun t ht hW => ro_end (A := ro_N) hS ht (by rw [fX0_branches, if_neg c_1_0, if_neg c_1_1, if_neg c_1_2, if_neg c_1_3, if_neg c_1_4, if_neg c_1_5, if_neg c_1_6, if_pos c_1_7, if_pos c_103])) hS.2.2 dX0_branches_111
  have hsw_1 : (f).toInt < 0 ∨ 7 < (f).toInt := by
    have q0 := lv_neT c_1_0 (k := 0) (a := 0) (by decide)
    have q1 := lv_neT c_1_1 (k := 1) (a := 1) (by decide)
    have q2 := lv_neT c_1_2 (k := 2) (a := 2) (by decide)
    have q3 := lv_neT c_1_3 (k := 3) (a := 3) (by decide)
    have q4 := lv_neT c_1_4 (k := 4) (a := 4) (by decide)
    have q5 := lv_neT c_1_5 (k := 5) (a := 5) (by decide)
    have q6 := lv_neT c_1_6 (k := 6) (a := 6) (by decide)
    have q7 := lv_neT c_1_7 (k := 7) (a := 7) (by decide)
    omega
  refine lv_tableOut (tgt := 112) hx hb dX0_branches_1 hsw_1 (by decide) ?_
  refine lv_iconst (v := 0) hx hb dX0_branches_112 (by decide) ?_
  exact W.zret (v := 0) hx hb hr rfl (fun t ht hW => ro_end (A := ro_N) hS ht (by rw [fX0_branches, if_neg c_1_0, if_neg c_1_1, if_neg c_1_2, if_neg c_1_3, if_neg c_1_4, if_neg c_1_5, if_neg c_1_6, if_neg c_1_7])) hS.2.2 dX0_branches_113
theorem b_fX0_branches (f x y : Int32) : fX0_branches f x y = 0 ∨ fX0_branches f x y = 1 := by
  unfold fX0_branches
  repeat' split
  all_goals first | exact Or.inl rfl | exact Or.inr rfl | exact b_fX0_isLessWithoutSigns _ _ | exact b_fX3_isLess _ _
