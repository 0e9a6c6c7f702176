def fX3_isBeyond (x : Int32) : Int32 := (if x < 0 then 1 else (if x ≤ 1023 then 0 else 1))
set_option maxHeartbeats 4000000 in
set_option maxRecDepth 100000 in
theorem kX3_isBeyond (l : Launch) (x : Int32) : Met l yX3_isBeyond wsX3_isBeyond ({ frames := 0, cells := 0, slots := 0, locals := 0 }) (pu_Pc [.int x]) (ro_Q (fX3_isBeyond x)) 0 0 ro_N := by
  refine Met.ofW (cc := cX3_isBeyond) (maxL := 1) (ret := (some .boolean)) (by decide) rfl ?_
  intro p e s m args below meth c s₁ B hml hv
  obtain ⟨rfl, -⟩ := hv
  have hx := B.exec
  have hb := B.bytes
  have hr := B.returns
  have hts := atoms_spec (ws := wsX3_isBeyond) B.pre
  have hown : s.vm.findClass RX3 = some m.cls := findClass_of_methodNamed B.named
  have hlocks := B.notSynchronized
  have hS : va_S ro_N s.heap s.heap [] := va_S.rf
  have hl := lv_entry ([.int x]) (n := 1) (Nat.le_of_ble_eq_true rfl)
  rw [lg_entry_eq]
  generalize (lg_sl ([.int x]) ++ List.replicate (1 - (lg_sl ([.int x])).length) Slot.unset).toArray = ls at hl ⊢
  have hl : lv_has ls 1 [(0, .int x)] := hl
  refine lv_iload_n hx hb dX3_isBeyond_0 rfl (lv_at hl 0 rfl) ?_
  refine lv_if_lt (tgt := 11) hx hb dX3_isBeyond_1 (by decide) (fun c_1 => ?_) (fun c_1 => ?_)
  ·
    refine lv_iconst (v := 1) hx hb dX3_isBeyond_11 (by decide) ?_
    refine lv_goto (tgt := 16) hx hb dX3_isBeyond_12 (by decide) ?_
    exact W.zret (v := 1) hx hb hr rfl (fun t ht hW => ro_end (A := ro_N) hS ht (by rw [fX3_isBeyond, if_pos c_1])) hS.2.2 dX3_isBeyond_16
  ·
    refine lv_iload_n hx hb dX3_isBeyond_4 rfl (lv_at hl 0 rfl) ?_
    refine lv_sipush (v := 1023) hx hb dX3_isBeyond_5 (by decide) ?_
    refine lv_icmp_le (tgt := 15) hx hb dX3_isBeyond_8 (by decide) (fun c_8 => ?_) (fun c_8 => ?_)
    ·
      refine lv_iconst (v := 0) hx hb dX3_isBeyond_15 (by decide) ?_
      exact W.zret (v := 0) hx hb hr rfl (fun t ht hW => ro_end (A := ro_N) hS ht (by rw [fX3_isBeyond, if_neg c_1, if_pos c_8])) hS.2.2 dX3_isBeyond_16
    ·
      refine lv_iconst (v := 1) hx hb dX3_isBeyond_11 (by decide) ?_
      refine lv_goto (tgt := 16) hx hb dX3_isBeyond_12 (by decide) ?_
      exact W.zret (v := 1) hx hb hr rfl (fun t ht hW => ro_end (A := ro_N) hS ht (by rw [fX3_isBeyond, if_neg c_1, if_neg c_8])) hS.2.2 dX3_isBeyond_16
def fX3_opcode (w : Int32) : Int32 := (w &&& 127)
set_option maxHeartbeats 4000000 in
set_option maxRecDepth 100000 in
theorem kX3_opcode (l : Launch) (w : Int32) : Met l yX3_opcode wsX3_opcode ({ frames := 0, cells := 0, slots := 0, locals := 0 }) (pu_Pc [.int w]) (ro_Q (fX3_opcode w)) 0 0 ro_N := by
  refine Met.ofW (cc := cX3_opcode) (maxL := 1) (ret := (some .int)) (by decide) rfl ?_
  intro p e s m args below meth c s₁ B hml hv
  obtain ⟨rfl, -⟩ := hv
  have hx := B.exec
  have hb := B.bytes
  have hr := B.returns
  have hts := atoms_spec (ws := wsX3_opcode) B.pre
  have hown : s.vm.findClass RX3 = some m.cls := findClass_of_methodNamed B.named
  have hlocks := B.notSynchronized
  have hS : va_S ro_N s.heap s.heap [] := va_S.rf
  have hl := lv_entry ([.int w]) (n := 1) (Nat.le_of_ble_eq_true rfl)
  rw [lg_entry_eq]
  generalize (lg_sl ([.int w]) ++ List.replicate (1 - (lg_sl ([.int w])).length) Slot.unset).toArray = ls at hl ⊢
  have hl : lv_has ls 1 [(0, .int w)] := hl
  refine lv_iload_n hx hb dX3_opcode_0 rfl (lv_at hl 0 rfl) ?_
  refine lv_bipush (v := 127) hx hb dX3_opcode_1 (by decide) ?_
  refine lv_iand hx hb dX3_opcode_3 ?_
  exact W.iret (v := w &&& 127) hx hb hr (fun t ht hW => ro_end (A := ro_N) hS ht (by rw [fX3_opcode])) hS.2.2 dX3_opcode_4
def fX3_rd (w : Int32) : Int32 := ((w >>> (7 &&& 31)) &&& 31)
set_option maxHeartbeats 4000000 in
set_option maxRecDepth 100000 in
theorem kX3_rd (l : Launch) (w : Int32) : Met l yX3_rd wsX3_rd ({ frames := 0, cells := 0, slots := 0, locals := 0 }) (pu_Pc [.int w]) (ro_Q (fX3_rd w)) 0 0 ro_N := by
  refine Met.ofW (cc := cX3_rd) (maxL := 1) (ret := (some .int)) (by decide) rfl ?_
  intro p e s m args below meth c s₁ B hml hv
  obtain ⟨rfl, -⟩ := hv
  have hx := B.exec
  have hb := B.bytes
  have hr := B.returns
  have hts := atoms_spec (ws := wsX3_rd) B.pre
  have hown : s.vm.findClass RX3 = some m.cls := findClass_of_methodNamed B.named
  have hlocks := B.notSynchronized
  have hS : va_S ro_N s.heap s.heap [] := va_S.rf
  have hl := lv_entry ([.int w]) (n := 1) (Nat.le_of_ble_eq_true rfl)
  rw [lg_entry_eq]
  generalize (lg_sl ([.int w]) ++ List.replicate (1 - (lg_sl ([.int w])).length) Slot.unset).toArray = ls at hl ⊢
  have hl : lv_has ls 1 [(0, .int w)] := hl
  refine lv_iload_n hx hb dX3_rd_0 rfl (lv_at hl 0 rfl) ?_
  refine lv_bipush (v := 7) hx hb dX3_rd_1 (by decide) ?_
  refine lv_ishr hx hb dX3_rd_3 ?_
  refine lv_bipush (v := 31) hx hb dX3_rd_4 (by decide) ?_
  refine lv_iand hx hb dX3_rd_6 ?_
  exact W.iret (v := (w >>> (7 &&& 31)) &&& 31) hx hb hr (fun t ht hW => ro_end (A := ro_N) hS ht (by rw [fX3_rd])) hS.2.2 dX3_rd_7
def fX3_f3 (w : Int32) : Int32 := ((w >>> (12 &&& 31)) &&& 7)
set_option maxHeartbeats 4000000 in
set_option maxRecDepth 100000 in
theorem kX3_f3 (l : Launch) (w : Int32) : Met l yX3_f3 wsX3_f3 ({ frames := 0, cells := 0, slots := 0, locals := 0 }) (pu_Pc [.int w]) (ro_Q (fX3_f3 w)) 0 0 ro_N := by
  refine Met.ofW (cc := cX3_f3) (maxL := 1) (ret := (some .int)) (by decide) rfl ?_
  intro p e s m args below meth c s₁ B hml hv
  obtain ⟨rfl, -⟩ := hv
  have hx := B.exec
  have hb := B.bytes
  have hr := B.returns
  have hts := atoms_spec (ws := wsX3_f3) B.pre
  have hown : s.vm.findClass RX3 = some m.cls := findClass_of_methodNamed B.named
  have hlocks := B.notSynchronized
  have hS : va_S ro_N s.heap s.heap [] := va_S.rf
  have hl := lv_entry ([.int w]) (n := 1) (Nat.le_of_ble_eq_true rfl)
  rw [lg_entry_eq]
  generalize (lg_sl ([.int w]) ++ List.replicate (1 - (lg_sl ([.int w])).length) Slot.unset).toArray = ls at hl ⊢
  have hl : lv_has ls 1 [(0, .int w)] := hl
  refine lv_iload_n hx hb dX3_f3_0 rfl (lv_at hl 0 rfl) ?_
  refine lv_bipush (v := 12) hx hb dX3_f3_1 (by decide) ?_
  refine lv_ishr hx hb dX3_f3_3 ?_
  refine lv_bipush (v := 7) hx hb dX3_f3_4 (by decide) ?_
  refine lv_iand hx hb dX3_f3_6 ?_
  exact W.iret (v := (w >>> (12 &&& 31)) &&& 7) hx hb hr (fun t ht hW => ro_end (A := ro_N) hS ht (by rw [fX3_f3])) hS.2.2 dX3_f3_7
def fX3_rs1 (w : Int32) : Int32 := ((w >>> (15 &&& 31)) &&& 31)
set_option maxHeartbeats 4000000 in
set_option maxRecDepth 100000 in
theorem kX3_rs1 (l : Launch) (w : Int32) : Met l yX3_rs1 wsX3_rs1 ({ frames := 0, cells := 0, slots := 0, locals := 0 }) (pu_Pc [.int w]) (ro_Q (fX3_rs1 w)) 0 0 ro_N := by
  refine Met.ofW (cc := cX3_rs1) (maxL := 1) (ret := (some .int)) (by decide) rfl ?_
  intro p e s m args below meth c s₁ B hml hv
  obtain ⟨rfl, -⟩ := hv
  have hx := B.exec
  have hb := B.bytes
  have hr := B.returns
  have hts := atoms_spec (ws := wsX3_rs1) B.pre
  have hown : s.vm.findClass RX3 = some m.cls := findClass_of_methodNamed B.named
  have hlocks := B.notSynchronized
  have hS : va_S ro_N s.heap s.heap [] := va_S.rf
  have hl := lv_entry ([.int w]) (n := 1) (Nat.le_of_ble_eq_true rfl)
  rw [lg_entry_eq]
  generalize (lg_sl ([.int w]) ++ List.replicate (1 - (lg_sl ([.int w])).length) Slot.unset).toArray = ls at hl ⊢
  have hl : lv_has ls 1 [(0, .int w)] := hl
  refine lv_iload_n hx hb dX3_rs1_0 rfl (lv_at hl 0 rfl) ?_
  refine lv_bipush (v := 15) hx hb dX3_rs1_1 (by decide) ?_
  refine lv_ishr hx hb dX3_rs1_3 ?_
  refine lv_bipush (v := 31) hx hb dX3_rs1_4 (by decide) ?_
  refine lv_iand hx hb dX3_rs1_6 ?_
  exact W.iret (v := (w >>> (15 &&& 31)) &&& 31) hx hb hr (fun t ht hW => ro_end (A := ro_N) hS ht (by rw [fX3_rs1])) hS.2.2 dX3_rs1_7
def fX3_rs2 (w : Int32) : Int32 := ((w >>> (20 &&& 31)) &&& 31)
set_option maxHeartbeats 4000000 in
set_option maxRecDepth 100000 in
theorem kX3_rs2 (l : Launch) (w : Int32) : Met l yX3_rs2 wsX3_rs2 ({ frames := 0, cells := 0, slots := 0, locals := 0 }) (pu_Pc [.int w]) (ro_Q (fX3_rs2 w)) 0 0 ro_N := by
  refine Met.ofW (cc := cX3_rs2) (maxL := 1) (ret := (some .int)) (by decide) rfl ?_
  intro p e s m args below meth c s₁ B hml hv
  obtain ⟨rfl, -⟩ := hv
  have hx := B.exec
  have hb := B.bytes
  have hr := B.returns
  have hts := atoms_spec (ws := wsX3_rs2) B.pre
  have hown : s.vm.findClass RX3 = some m.cls := findClass_of_methodNamed B.named
  have hlocks := B.notSynchronized
  have hS : va_S ro_N s.heap s.heap [] := va_S.rf
  have hl := lv_entry ([.int w]) (n := 1) (Nat.le_of_ble_eq_true rfl)
  rw [lg_entry_eq]
  generalize (lg_sl ([.int w]) ++ List.replicate (1 - (lg_sl ([.int w])).length) Slot.unset).toArray = ls at hl ⊢
  have hl : lv_has ls 1 [(0, .int w)] := hl
  refine lv_iload_n hx hb dX3_rs2_0 rfl (lv_at hl 0 rfl) ?_
  refine lv_bipush (v := 20) hx hb dX3_rs2_1 (by decide) ?_
  refine lv_ishr hx hb dX3_rs2_3 ?_
  refine lv_bipush (v := 31) hx hb dX3_rs2_4 (by decide) ?_
  refine lv_iand hx hb dX3_rs2_6 ?_
  exact W.iret (v := (w >>> (20 &&& 31)) &&& 31) hx hb hr (fun t ht hW => ro_end (A := ro_N) hS ht (by rw [fX3_rs2])) hS.2.2 dX3_rs2_7
def fX3_f7 (w : Int32) : Int32 := ((w >>> (25 &&& 31)) &&& 127)
set_option maxHeartbeats 4000000 in
set_option maxRecDepth 100000 in
theorem kX3_f7 (l : Launch) (w : Int32) : Met l yX3_f7 wsX3_f7 ({ frames := 0, cells := 0, slots := 0, locals := 0 }) (pu_Pc [.int w]) (ro_Q (fX3_f7 w)) 0 0 ro_N := by
  refine Met.ofW (cc := cX3_f7) (maxL := 1) (ret := (some .int)) (by decide) rfl ?_
  intro p e s m args below meth c s₁ B hml hv
  obtain ⟨rfl, -⟩ := hv
  have hx := B.exec
  have hb := B.bytes
  have hr := B.returns
  have hts := atoms_spec (ws := wsX3_f7) B.pre
  have hown : s.vm.findClass RX3 = some m.cls := findClass_of_methodNamed B.named
  have hlocks := B.notSynchronized
  have hS : va_S ro_N s.heap s.heap [] := va_S.rf
  have hl := lv_entry ([.int w]) (n := 1) (Nat.le_of_ble_eq_true rfl)
  rw [lg_entry_eq]
  generalize (lg_sl ([.int w]) ++ List.replicate (1 - (lg_sl ([.int w])).length) Slot.unset).toArray = ls at hl ⊢
  have hl : lv_has ls 1 [(0, .int w)] := hl
  refine lv_iload_n hx hb dX3_f7_0 rfl (lv_at hl 0 rfl) ?_
  refine lv_bipush (v := 25) hx hb dX3_f7_1 (by decide) ?_
  refine lv_ishr hx hb dX3_f7_3 ?_
  refine lv_bipush (v := 127) hx hb dX3_f7_4 (by decide) ?_
  refine lv_iand hx hb dX3_f7_6 ?_
  exact W.iret (v := (w >>> (25 &&& 31)) &&& 127) hx hb hr (fun t ht hW => ro_end (A := ro_N) hS ht (by rw [fX3_f7])) hS.2.2 dX3_f7_7
def fX3_immediateB (w : Int32) : Int32 := (((((w >>> (31 &&& 31)) <<< (12 &&& 31)) ||| (((w >>> (7 &&& 31)) &&& 1) <<< (11 &&& 31))) ||| (((w >>> (25 &&& 31)) &&& 63) <<< (5 &&& 31))) ||| (((w >>> (8 &&& 31)) &&& 15) <<< (1 &&& 31)))
set_option maxHeartbeats 4000000 in
set_option maxRecDepth 100000 in
theorem kX3_immediateB (l : Launch) (w : Int32) : Met l yX3_immediateB wsX3_immediateB ({ frames := 0, cells := 0, slots := 0, locals := 0 }) (pu_Pc [.int w]) (ro_Q (fX3_immediateB w)) 0 0 ro_N := by
  refine Met.ofW (cc := cX3_immediateB) (maxL := 1) (ret := (some .int)) (by decide) rfl ?_
  intro p e s m args below meth c s₁ B hml hv
  obtain ⟨rfl, -⟩ := hv
  have hx := B.exec
  have hb := B.bytes
  have hr := B.returns
  have hts := atoms_spec (ws := wsX3_immediateB) B.pre
  have hown : s.vm.findClass RX3 = some m.cls := findClass_of_methodNamed B.named
  have hlocks := B.notSynchronized
  have hS : va_S ro_N s.heap s.heap [] := va_S.rf
  have hl := lv_entry ([.int w]) (n := 1) (Nat.le_of_ble_eq_true rfl)
  rw [lg_entry_eq]
  generalize (lg_sl ([.int w]) ++ List.replicate (1 - (lg_sl ([.int w])).length) Slot.unset).toArray = ls at hl ⊢
  have hl : lv_has ls 1 [(0, .int w)] := hl
  refine lv_iload_n hx hb dX3_immediateB_0 rfl (lv_at hl 0 rfl) ?_
  refine lv_bipush (v := 31) hx hb dX3_immediateB_1 (by decide) ?_
  refine lv_ishr hx hb dX3_immediateB_3 ?_
  refine lv_bipush (v := 12) hx hb dX3_immediateB_4 (by decide) ?_
  refine lv_ishl hx hb dX3_immediateB_6 ?_
  refine lv_iload_n hx hb dX3_immediateB_7 rfl (lv_at hl 0 rfl) ?_
  refine lv_bipush (v := 7) hx hb dX3_immediateB_8 (by decide) ?_
  refine lv_ishr hx hb dX3_immediateB_10 ?_
  refine lv_iconst (v := 1) hx hb dX3_immediateB_11 (by decide) ?_
  refine lv_iand hx hb dX3_immediateB_12 ?_
  refine lv_bipush (v := 11) hx hb dX3_immediateB_13 (by decide) ?_
  refine lv_ishl hx hb dX3_immediateB_15 ?_
  refine lv_ior hx hb dX3_immediateB_16 ?_
  refine lv_iload_n hx hb dX3_immediateB_17 rfl (lv_at hl 0 rfl) ?_
  refine lv_bipush (v := 25) hx hb dX3_immediateB_18 (by decide) ?_
  refine lv_ishr hx hb dX3_immediateB_20 ?_
  refine lv_bipush (v := 63) hx hb dX3_immediateB_21 (by decide) ?_
  refine lv_iand hx hb dX3_immediateB_23 ?_
  refine lv_iconst (v := 5) hx hb dX3_immediateB_24 (by decide) ?_
  refine lv_ishl hx hb dX3_immediateB_25 ?_
  refine lv_ior hx hb dX3_immediateB_26 ?_
  refine lv_iload_n hx hb dX3_immediateB_27 rfl (lv_at hl 0 rfl) ?_
  refine lv_bipush (v := 8) hx hb dX3_immediateB_28 (by decide) ?_
  refine lv_ishr hx hb dX3_immediateB_30 ?_
  refine lv_bipush (v := 15) hx hb dX3_immediateB_31 (by decide) ?_
  refine lv_iand hx hb dX3_immediateB_33 ?_
  refine lv_iconst (v := 1) hx hb dX3_immediateB_34 (by decide) ?_
  refine lv_ishl hx hb dX3_immediateB_35 ?_
  refine lv_ior hx hb dX3_immediateB_36 ?_
  exact W.iret (v := ((((w >>> (31 &&& 31)) <<< (12 &&& 31)) ||| (((w >>> (7 &&& 31)) &&& 1) <<< (11 &&& 31))) ||| (((w >>> (25 &&& 31)) &&& 63) <<< (5 &&& 31))) ||| (((w >>> (8 &&& 31)) &&& 15) <<< (1 &&& 31))) hx hb hr (fun t ht hW => ro_end (A := ro_N) hS ht (by rw [fX3_immediateB])) hS.2.2 dX3_immediateB_37
def fX3_immediateJ (w : Int32) : Int32 := (((((w >>> (31 &&& 31)) <<< (20 &&& 31)) ||| (((w >>> (12 &&& 31)) &&& 255) <<< (12 &&& 31))) ||| (((w >>> (20 &&& 31)) &&& 1) <<< (11 &&& 31))) ||| (((w >>> (21 &&& 31)) &&& 1023) <<< (1 &&& 31)))
set_option maxHeartbeats 4000000 in
set_option maxRecDepth 100000 in
theorem kX3_immediateJ (l : Launch) (w : Int32) : Met l yX3_immediateJ wsX3_immediateJ ({ frames := 0, cells := 0, slots := 0, locals := 0 }) (pu_Pc [.int w]) (ro_Q (fX3_immediateJ w)) 0 0 ro_N := by
  refine Met.ofW (cc := cX3_immediateJ) (maxL := 1) (ret := (some .int)) (by decide) rfl ?_
  intro p e s m args below meth c s₁ B hml hv
  obtain ⟨rfl, -⟩ := hv
  have hx := B.exec
  have hb := B.bytes
  have hr := B.returns
  have hts := atoms_spec (ws := wsX3_immediateJ) B.pre
  have hown : s.vm.findClass RX3 = some m.cls := findClass_of_methodNamed B.named
  have hlocks := B.notSynchronized
  have hS : va_S ro_N s.heap s.heap [] := va_S.rf
  have hl := lv_entry ([.int w]) (n := 1) (Nat.le_of_ble_eq_true rfl)
  rw [lg_entry_eq]
  generalize (lg_sl ([.int w]) ++ List.replicate (1 - (lg_sl ([.int w])).length) Slot.unset).toArray = ls at hl ⊢
  have hl : lv_has ls 1 [(0, .int w)] := hl
  refine lv_iload_n hx hb dX3_immediateJ_0 rfl (lv_at hl 0 rfl) ?_
  refine lv_bipush (v := 31) hx hb dX3_immediateJ_1 (by decide) ?_
  refine lv_ishr hx hb dX3_immediateJ_3 ?_
  refine lv_bipush (v := 20) hx hb dX3_immediateJ_4 (by decide) ?_
  refine lv_ishl hx hb dX3_immediateJ_6 ?_
  refine lv_iload_n hx hb dX3_immediateJ_7 rfl (lv_at hl 0 rfl) ?_
  refine lv_bipush (v := 12) hx hb dX3_immediateJ_8 (by decide) ?_
  refine lv_ishr hx hb dX3_immediateJ_10 ?_
  refine lv_sipush (v := 255) hx hb dX3_immediateJ_11 (by decide) ?_
  refine lv_iand hx hb dX3_immediateJ_14 ?_
  refine lv_bipush (v := 12) hx hb dX3_immediateJ_15 (by decide) ?_
  refine lv_ishl hx hb dX3_immediateJ_17 ?_
  refine lv_ior hx hb dX3_immediateJ_18 ?_
  refine lv_iload_n hx hb dX3_immediateJ_19 rfl (lv_at hl 0 rfl) ?_
  refine lv_bipush (v := 20) hx hb dX3_immediateJ_20 (by decide) ?_
  refine lv_ishr hx hb dX3_immediateJ_22 ?_
  refine lv_iconst (v := 1) hx hb dX3_immediateJ_23 (by decide) ?_
  refine lv_iand hx hb dX3_immediateJ_24 ?_
  refine lv_bipush (v := 11) hx hb dX3_immediateJ_25 (by decide) ?_
  refine lv_ishl hx hb dX3_immediateJ_27 ?_
  refine lv_ior hx hb dX3_immediateJ_28 ?_
  refine lv_iload_n hx hb dX3_immediateJ_29 rfl (lv_at hl 0 rfl) ?_
  refine lv_bipush (v := 21) hx hb dX3_immediateJ_30 (by decide) ?_
  refine lv_ishr hx hb dX3_immediateJ_32 ?_
  refine lv_sipush (v := 1023) hx hb dX3_immediateJ_33 (by decide) ?_
  refine lv_iand hx hb dX3_immediateJ_36 ?_
  refine lv_iconst (v := 1) hx hb dX3_immediateJ_37 (by decide) ?_
  refine lv_ishl hx hb dX3_immediateJ_38 ?_
  refine lv_ior hx hb dX3_immediateJ_39 ?_
  exact W.iret (v := ((((w >>> (31 &&& 31)) <<< (20 &&& 31)) ||| (((w >>> (12 &&& 31)) &&& 255) <<< (12 &&& 31))) ||| (((w >>> (20 &&& 31)) &&& 1) <<< (11 &&& 31))) ||| (((w >>> (21 &&& 31)) &&& 1023) <<< (1 &&& 31))) hx hb hr (fun t ht hW => ro_end (A := ro_N) hS ht (by rw [fX3_immediateJ])) hS.2.2 dX3_immediateJ_40
def fX3_immediateS (w : Int32) : Int32 := (((w >>> (25 &&& 31)) <<< (5 &&& 31)) ||| ((w >>> (7 &&& 31)) &&& 31))
set_option maxHeartbeats 4000000 in
set_option maxRecDepth 100000 in
theorem kX3_immediateS (l : Launch) (w : Int32) : Met l yX3_immediateS wsX3_immediateS ({ frames := 0, cells := 0, slots := 0, locals := 0 }) (pu_Pc [.int w]) (ro_Q (fX3_immediateS w)) 0 0 ro_N := by
  refine Met.ofW (cc := cX3_immediateS) (maxL := 1) (ret := (some .int)) (by decide) rfl ?_
  intro p e s m args below meth c s₁ B hml hv
  obtain ⟨rfl, -⟩ := hv
  have hx := B.exec
  have hb := B.bytes
  have hr := B.returns
  have hts := atoms_spec (ws := wsX3_immediateS) B.pre
  have hown : s.vm.findClass RX3 = some m.cls := findClass_of_methodNamed B.named
  have hlocks := B.notSynchronized
  have hS : va_S ro_N s.heap s.heap [] := va_S.rf
  have hl := lv_entry ([.int w]) (n := 1) (Nat.le_of_ble_eq_true rfl)
  rw [lg_entry_eq]
  generalize (lg_sl ([.int w]) ++ List.replicate (1 - (lg_sl ([.int w])).length) Slot.unset).toArray = ls at hl ⊢
  have hl : lv_has ls 1 [(0, .int w)] := hl
  refine lv_iload_n hx hb dX3_immediateS_0 rfl (lv_at hl 0 rfl) ?_
  refine lv_bipush (v := 25) hx hb dX3_immediateS_1 (by decide) ?_
  refine lv_ishr hx hb dX3_immediateS_3 ?_
  refine lv_iconst (v := 5) hx hb dX3_immediateS_4 (by decide) ?_
  refine lv_ishl hx hb dX3_immediateS_5 ?_
  refine lv_iload_n hx hb dX3_immediateS_6 rfl (lv_at hl 0 rfl) ?_
  refine lv_bipush (v := 7) hx hb dX3_immediateS_7 (by decide) ?_
  refine lv_ishr hx hb dX3_immediateS_9 ?_
  refine lv_bipush (v := 31) hx hb dX3_immediateS_10 (by decide) ?_
  refine lv_iand hx hb dX3_immediateS_12 ?_
  refine lv_ior hx hb dX3_immediateS_13 ?_
  exact W.iret (v := ((w >>> (25 &&& 31)) <<< (5 &&& 31)) ||| ((w >>> (7 &&& 31)) &&& 31)) hx hb hr (fun t ht hW => ro_end (A := ro_N) hS ht (by rw [fX3_immediateS])) hS.2.2 dX3_immediateS_14
def fX3_isLegal (w : Int32) : Int32 := (if (fX3_opcode w) = 3 then (if (fX3_f3 w) < 3 then 1 else (if (fX3_f3 w) = 4 then 1 else (if (fX3_f3 w) = 5 then 1 else 0))) else (if (fX3_opcode w) = 15 then (if (fX3_f3 w) = 0 then 1 else 0) else (if (fX3_opcode w) = 19 then (if (fX3_f3 w) = 1 then (if (fX3_f7 w) = 0 then 1 else 0) else (if (fX3_f3 w) = 5 then (if (fX3_f7 w) = 0 then 1 else (if (fX3_f7 w) = 32 then 1 else 0)) else 1)) else (if (fX3_opcode w) = 23 then 1 else (if (fX3_opcode w) = 35 then (if 3 ≤ (fX3_f3 w) then 0 else 1) else (if (fX3_opcode w) = 51 then (if (fX3_f7 w) = 0 then 1 else (if (fX3_f7 w) = 32 then (if (fX3_f3 w) = 0 then 1 else (if (fX3_f3 w) = 5 then 1 else 0)) else 0)) else (if (fX3_opcode w) = 55 then 1 else (if (fX3_opcode w) = 99 then (if (fX3_f3 w) < 2 then 1 else (if (fX3_f3 w) ≤ 3 then 0 else 1)) else (if (fX3_opcode w) = 103 then (if (fX3_f3 w) = 0 then 1 else 0) else (if (fX3_opcode w) = 111 then 1 else (if (fX3_opcode w) = 115 then (if w = 115 then 1 else (if w = 1048691 then 1 else 0)) else 0)))))))))))
set_option maxHeartbeats 4000000 in
set_option maxRecDepth 100000 in
theorem kX3_isLegal (l : Launch) (w : Int32) : Met l yX3_isLegal wsX3_isLegal ({ frames := 1, cells := 0, slots := 0, locals := 20 }) (pu_Pc [.int w]) (ro_Q (fX3_isLegal w)) 0 0 ro_N := by
  refine Met.ofW (cc := cX3_isLegal) (maxL := 2) (ret := (some .boolean)) (by decide) rfl ?_
  intro p e s m args below meth c s₁ B hml hv
  obtain ⟨rfl, -⟩ := hv
  have hx := B.exec
  have hb := B.bytes
  have hr := B.returns
  have hts := atoms_spec (ws := wsX3_isLegal) B.pre
  have hown : s.vm.findClass RX3 = some m.cls := findClass_of_methodNamed B.named
  have hlocks := B.notSynchronized
  have hS : va_S ro_N s.heap s.heap [] := va_S.rf
  have hl := lv_entry ([.int w]) (n := 2) (Nat.le_of_ble_eq_true rfl)
  rw [lg_entry_eq]
  generalize (lg_sl ([.int w]) ++ List.replicate (2 - (lg_sl ([.int w])).length) Slot.unset).toArray = ls at hl ⊢
  have hl : lv_has ls 2 [(0, .int w)] := hl
  refine lv_iload_n hx hb dX3_isLegal_0 rfl (lv_at hl 0 rfl) ?_
  refine ro_call (va_runS (As := [.int w]) (rest := []) ⟨hx, hb, hml, hown, hts⟩ (kX3_f3 l w ) (va_cwS 1 hts gX3_isLegal_X3_f3 rfl rfl rfl (by decide +kernel) ⟨Nat.le_of_ble_eq_true rfl, Nat.le_of_ble_eq_true rfl⟩) pu_preS rfl rfl hl.1 rfl (lv_room (Nat.le_of_ble_eq_true rfl)) dX3_isLegal_1 ⟨Nat.zero_le _, Nat.zero_le _⟩) hS (fun H locs hk hS => ?_)
  refine lv_istore_n (lv' := [(1, .int (fX3_f3 w)), (0, .int w)]) hx hb dX3_isLegal_4 rfl hl (by decide) rfl (fun ls hl => ?_)
  refine lv_iload_n hx hb dX3_isLegal_5 rfl (lv_at hl 1 rfl) ?_
  refine ro_call (va_runS (As := [.int w]) (rest := []) ⟨hx, hb, hml, hown, hts⟩ (kX3_opcode l w ) (va_cwS 1 hts gX3_isLegal_X3_opcode rfl rfl rfl (by decide +kernel) ⟨Nat.le_of_ble_eq_true rfl, Nat.le_of_ble_eq_true rfl⟩) pu_preS rfl rfl hl.1 rfl (lv_room (Nat.le_of_ble_eq_true rfl)) dX3_isLegal_6 ⟨Nat.zero_le _, Nat.zero_le _⟩) hS (fun H locs hk hS => ?_)
  by_cases c_9_3 : (fX3_opcode w) = 3
  ·
    refine lv_lookup (off := 127) (tgt := 136) hx hb dX3_isLegal_9 (by decide) (by rw [c_9_3]; decide) (by decide) ?_
    refine lv_iload_n hx hb dX3_isLegal_136 rfl (lv_at hl 0 rfl) ?_
    refine lv_iconst (v := 3) hx hb dX3_isLegal_137 (by decide) ?_
    refine lv_icmp_lt (tgt := 151) hx hb dX3_isLegal_138 (by decide) (fun c_138 => ?_) (fun c_138 => ?_)
    ·
      refine lv_iconst (v := 1) hx hb dX3_isLegal_151 (by decide) ?_
      refine lv_goto (tgt := 156) hx hb dX3_isLegal_152 (by decide) ?_
      exact W.zret (v := 1) hx hb hr rfl (fun t ht hW => ro_end (A := ro_N) hS ht (by rw [fX3_isLegal, if_pos c_9_3, if_pos c_138])) hS.2.2 dX3_isLegal_156
    ·
      refine lv_iload_n hx hb dX3_isLegal_141 rfl (lv_at hl 0 rfl) ?_
      refine lv_iconst (v := 4) hx hb dX3_isLegal_142 (by decide) ?_
      refine lv_icmp_eq (tgt := 151) hx hb dX3_isLegal_143 (by decide) (fun c_143 => ?_) (fun c_143 => ?_)
      ·
        refine lv_iconst (v := 1) hx hb dX3_isLegal_151 (by decide) ?_
        refine lv_goto (tgt := 156) hx hb dX3_isLegal_152 (by decide) ?_
        exact W.zret (v := 1) hx hb hr rfl (fun t ht hW => ro_end (A := ro_N) hS ht (by rw [fX3_isLegal, if_pos c_9_3, if_neg c_138, if_pos c_143])) hS.2.2 dX3_isLegal_156
      ·
        refine lv_iload_n hx hb dX3_isLegal_146 rfl (lv_at hl 0 rfl) ?_
        refine lv_iconst (v := 5) hx hb dX3_isLegal_147 (by decide) ?_
        refine lv_icmp_ne (tgt := 155) hx hb dX3_isLegal_148 (by decide) (fun c_148 => ?_) (fun c_148 => ?_)
        ·
          refine lv_iconst (v := 0) hx hb dX3_isLegal_155 (by decide) ?_
          exact W.zret (v := 0) hx hb hr rfl (fun t ht hW => ro_end (A := ro_N) hS ht (by rw [fX3_isLegal, if_pos c_9_3, if_neg c_138, if_neg c_143, if_neg c_148])) hS.2.2 dX3_isLegal_156
        ·
          refine lv_iconst (v := 1) hx hb dX3_isLegal_151 (by decide) ?_
          refine lv_goto (tgt := 156) hx hb dX3_isLegal_152 (by decide) ?_
          exact W.zret (v := 1) hx hb hr rfl (fun t ht hW => ro_end (A := ro_N) hS ht (by rw [fX3_isLegal, if_pos c_9_3, if_neg c_138, if_neg c_143, if_pos c_148])) hS.2.2 dX3_isLegal_156
  by_cases c_9_15 : (fX3_opcode w) = 15
  ·
    refine lv_lookup (off := 101) (tgt := 110) hx hb dX3_isLegal_9 (by decide) (by rw [c_9_15]; decide) (by decide) ?_
    refine lv_iload_n hx hb dX3_isLegal_110 rfl (lv_at hl 0 rfl) ?_
    refine lv_if_ne (tgt := 118) hx hb dX3_isLegal_111 (by decide) (fun c_111 => ?_) (fun c_111 => ?_)
    ·
      refine lv_iconst (v := 0) hx hb dX3_isLegal_118 (by decide) ?_
      exact W.zret (v := 0) hx hb hr rfl (fun t ht hW => ro_end (A := ro_N) hS ht (by rw [fX3_isLegal, if_neg c_9_3, if_pos c_9_15, if_neg c_111])) hS.2.2 dX3_isLegal_119
    ·
      refine lv_iconst (v := 1) hx hb dX3_isLegal_114 (by decide) ?_
      refine lv_goto (tgt := 119) hx hb dX3_isLegal_115 (by decide) ?_
      exact W.zret (v := 1) hx hb hr rfl (fun t ht hW => ro_end (A := ro_N) hS ht (by rw [fX3_isLegal, if_neg c_9_3, if_pos c_9_15, if_pos c_111])) hS.2.2 dX3_isLegal_119
  by_cases c_9_19 : (fX3_opcode w) = 19
  ·
    refine lv_lookup (off := 159) (tgt := 168) hx hb dX3_isLegal_9 (by decide) (by rw [c_9_19]; decide) (by decide) ?_
    refine lv_iload_n hx hb dX3_isLegal_168 rfl (lv_at hl 0 rfl) ?_
    refine lv_iconst (v := 1) hx hb dX3_isLegal_169 (by decide) ?_
    refine lv_icmp_ne (tgt := 188) hx hb dX3_isLegal_170 (by decide) (fun c_170 => ?_) (fun c_170 => ?_)
    ·
      refine lv_iload_n hx hb dX3_isLegal_188 rfl (lv_at hl 0 rfl) ?_
      refine lv_iconst (v := 5) hx hb dX3_isLegal_189 (by decide) ?_
      refine lv_icmp_ne (tgt := 209) hx hb dX3_isLegal_190 (by decide) (fun c_190 => ?_) (fun c_190 => ?_)
      ·
        refine lv_iconst (v := 1) hx hb dX3_isLegal_209 (by decide) ?_
        refine lv_goto (tgt := 214) hx hb dX3_isLegal_210 (by decide) ?_
        exact W.zret (v := 1) hx hb hr rfl (fun t ht hW => ro_end (A := ro_N) hS ht (by rw [fX3_isLegal, if_neg c_9_3, if_neg c_9_15, if_pos c_9_19, if_neg c_170, if_neg c_190])) hS.2.2 dX3_isLegal_214
      ·
        refine lv_iload_n hx hb dX3_isLegal_193 rfl (lv_at hl 1 rfl) ?_
        refine ro_call (va_runS (As := [.int w]) (rest := []) ⟨hx, hb, hml, hown, hts⟩ (kX3_f7 l w ) (va_cwS 1 hts gX3_isLegal_X3_f7 rfl rfl rfl (by decide +kernel) ⟨Nat.le_of_ble_eq_true rfl, Nat.le_of_ble_eq_true rfl⟩) pu_preS rfl rfl hl.1 rfl (lv_room (Nat.le_of_ble_eq_true rfl)) dX3_isLegal_194 ⟨Nat.zero_le _, Nat.zero_le _⟩) hS (fun H locs hk hS => ?_)
        refine lv_if_eq (tgt := 209) hx hb dX3_isLegal_197 (by decide) (fun c_197 => ?_) (fun c_197 => ?_)
        ·
          refine lv_iconst (v := 1) hx hb dX3_isLegal_209 (by decide) ?_
          refine lv_goto (tgt := 214) hx hb dX3_isLegal_210 (by decide) ?_
          exact W.zret (v := 1) hx hb hr rfl (fun t ht hW => ro_end (A := ro_N) hS ht (by rw [fX3_isLegal, if_neg c_9_3, if_neg c_9_15, if_pos c_9_19, if_neg c_170, if_pos c_190, if_pos c_197])) hS.2.2 dX3_isLegal_214
        ·
          refine lv_iload_n hx hb dX3_isLegal_200 rfl (lv_at hl 1 rfl) ?_
          refine ro_call (va_runS (As := [.int w]) (rest := []) ⟨hx, hb, hml, hown, hts⟩ (kX3_f7 l w ) (va_cwS 1 hts gX3_isLegal_X3_f7 rfl rfl rfl (by decide +kernel) ⟨Nat.le_of_ble_eq_true rfl, Nat.le_of_ble_eq_true rfl⟩) pu_preS rfl rfl hl.1 rfl (lv_room (Nat.le_of_ble_eq_true rfl)) dX3_isLegal_201 ⟨Nat.zero_le _, Nat.zero_le _⟩) hS (fun H locs hk hS => ?_)
          refine lv_bipush (v := 32) hx hb dX3_isLegal_204 (by decide) ?_
          refine lv_icmp_ne (tgt := 213) hx hb dX3_isLegal_206 (by decide) (fun c_206 => ?_) (fun c_206 => ?_)
          ·
            refine lv_iconst (v := 0) hx hb dX3_isLegal_213 (by decide) ?_
            exact W.zret (v := 0) hx hb hr rfl (fun t ht hW => ro_end (A := ro_N) hS ht (by rw [fX3_isLegal, if_neg c_9_3, if_neg c_9_15, if_pos c_9_19, if_neg c_170, if_pos c_190, if_neg c_197, if_neg c_206])) hS.2.2 dX3_isLegal_214
          ·
            refine lv_iconst (v := 1) hx hb dX3_isLegal_209 (by decide) ?_
            refine lv_goto (tgt := 214) hx hb dX3_isLegal_210 (by decide) ?_
            exact W.zret (v := 1) hx hb hr rfl (fun t ht hW => ro_end (A := ro_N) hS ht (by rw [fX3_isLegal, if_neg c_9_3, if_neg c_9_15, if_pos c_9_19, if_neg c_170, if_pos c_190, if_neg c_197, if_pos c_206])) hS.2.2 dX3_isLegal_214
    ·
      refine lv_iload_n hx hb dX3_isLegal_173 rfl (lv_at hl 1 rfl) ?_
      refine ro_call (va_runS (As := [.int w]) (rest := []) ⟨hx, hb, hml, hown, hts⟩ (kX3_f7 l w ) (va_cwS 1 hts gX3_isLegal_X3_f7 rfl rfl rfl (by decide +kernel) ⟨Nat.le_of_ble_eq_true rfl, Nat.le_of_ble_eq_true rfl⟩) pu_preS rfl rfl hl.1 rfl (lv_room (Nat.le_of_ble_eq_true rfl)) dX3_isLegal_174 ⟨Nat.zero_le _, Nat.zero_le _⟩) hS (fun H locs hk hS => ?_)
      refine lv_if_ne (tgt := 184) hx hb dX3_isLegal_177 (by decide) (fun c_177 => ?_) (fun c_177 => ?_)
      ·
        refine lv_iconst (v := 0) hx hb dX3_isLegal_184 (by decide) ?_
        refine lv_goto (tgt := 214) hx hb dX3_isLegal_185 (by decide) ?_
        exact W.zret (v := 0) hx hb hr rfl (fun t ht hW => ro_end (A := ro_N) hS ht (by rw [fX3_isLegal, if_neg c_9_3, if_neg c_9_15, if_pos c_9_19, if_pos c_170, if_neg c_177])) hS.2.2 dX3_isLegal_214
      ·
        refine lv_iconst (v := 1) hx hb dX3_isLegal_180 (by decide) ?_
        refine lv_goto (tgt := 214) hx hb dX3_isLegal_181 (by decide) ?_
        exact W.zret (v := 1) hx hb hr rfl (fun t ht hW => ro_end (A := ro_N) hS ht (by rw [fX3_isLegal, if_neg c_9_3, if_neg c_9_15, if_pos c_9_19, if_pos c_170, if_pos c_177])) hS.2.2 dX3_isLegal_214
  by_cases c_9_23 : (fX3_opcode w) = 23
  ·
    refine lv_lookup (off := 99) (tgt := 108) hx hb dX3_isLegal_9 (by decide) (by rw [c_9_23]; decide) (by decide) ?_
    refine lv_iconst (v := 1) hx hb dX3_isLegal_108 (by decide) ?_
    exact W.zret (v := 1) hx hb hr rfl (fun t ht hW => ro_end (A := ro_N) hS ht (by rw [fX3_isLegal, if_neg c_9_3, if_neg c_9_15, if_neg c_9_19, if_pos c_9_23])) hS.2.2 dX3_isLegal_109
  by_cases c_9_35 : (fX3_opcode w) = 35
  ·
    refine lv_lookup (off := 148) (tgt := 157) hx hb dX3_isLegal_9 (by decide) (by rw [c_9_35]; decide) (by decide) ?_
    refine lv_iload_n hx hb dX3_isLegal_157 rfl (lv_at hl 0 rfl) ?_
    refine lv_iconst (v := 3) hx hb dX3_isLegal_158 (by decide) ?_
    refine lv_icmp_ge (tgt := 166) hx hb dX3_isLegal_159 (by decide) (fun c_159 => ?_) (fun c_159 => ?_)
    ·
      refine lv_iconst (v := 0) hx hb dX3_isLegal_166 (by decide) ?_
      exact W.zret (v := 0) hx hb hr rfl (fun t ht hW => ro_end (A := ro_N) hS ht (by rw [fX3_isLegal, if_neg c_9_3, if_neg c_9_15, if_neg c_9_19, if_neg c_9_23, if_pos c_9_35, if_pos c_159])) hS.2.2 dX3_isLegal_167
    ·
      refine lv_iconst (v := 1) hx hb dX3_isLegal_162 (by decide) ?_
      refine lv_goto (tgt := 167) hx hb dX3_isLegal_163 (by decide) ?_
      exact W.zret (v := 1) hx hb hr rfl (fun t ht hW => ro_end (A := ro_N) hS ht (by rw [fX3_isLegal, if_neg c_9_3, if_neg c_9_15, if_neg c_9_19, if_neg c_9_23, if_pos c_9_35, if_neg c_159])) hS.2.2 dX3_isLegal_167
  by_cases c_9_51 : (fX3_opcode w) = 51
  ·
    refine lv_lookup (off := 206) (tgt := 215) hx hb dX3_isLegal_9 (by decide) (by rw [c_9_51]; decide) (by decide) ?_
    refine lv_iload_n hx hb dX3_isLegal_215 rfl (lv_at hl 1 rfl) ?_
    refine ro_call (va_runS (As := [.int w]) (rest := []) ⟨hx, hb, hml, hown, hts⟩ (kX3_f7 l w ) (va_cwS 1 hts gX3_isLegal_X3_f7 rfl rfl rfl (by decide +kernel) ⟨Nat.le_of_ble_eq_true rfl, Nat.le_of_ble_eq_true rfl⟩) pu_preS rfl rfl hl.1 rfl (lv_room (Nat.le_of_ble_eq_true rfl)) dX3_isLegal_216 ⟨Nat.zero_le _, Nat.zero_le _⟩) hS (fun H locs hk hS => ?_)
    refine lv_if_eq (tgt := 240) hx hb dX3_isLegal_219 (by decide) (fun c_219 => ?_) (fun c_219 => ?_)
    ·
      refine lv_iconst (v := 1) hx hb dX3_isLegal_240 (by decide) ?_
      refine lv_goto (tgt := 245) hx hb dX3_isLegal_241 (by decide) ?_
      exact W.zret (v := 1) hx hb hr rfl (fun t ht hW => ro_end (A := ro_N) hS ht (by rw [fX3_isLegal, if_neg c_9_3, if_neg c_9_15, if_neg c_9_19, if_neg c_9_23, if_neg c_9_35, if_pos c_9_51, if_pos c_219])) hS.2.2 dX3_isLegal_245
    ·
      refine lv_iload_n hx hb dX3_isLegal_222 rfl (lv_at hl 1 rfl) ?_
      refine ro_call (va_runS (As := [.int w]) (rest := []) ⟨hx, hb, hml, hown, hts⟩ (kX3_f7 l w ) (va_cwS 1 hts gX3_isLegal_X3_f7 rfl rfl rfl (by decide +kernel) ⟨Nat.le_of_ble_eq_true rfl, Nat.le_of_ble_eq_true rfl⟩) pu_preS rfl rfl hl.1 rfl (lv_room (Nat.le_of_ble_eq_true rfl)) dX3_isLegal_223 ⟨Nat.zero_le _, Nat.zero_le _⟩) hS (fun H locs hk hS => ?_)
      refine lv_bipush (v := 32) hx hb dX3_isLegal_226 (by decide) ?_
      refine lv_icmp_ne (tgt := 244) hx hb dX3_isLegal_228 (by decide) (fun c_228 => ?_) (fun c_228 => ?_)
      ·
        refine lv_iconst (v := 0) hx hb dX3_isLegal_244 (by decide) ?_
        exact W.zret (v := 0) hx hb hr rfl (fun t ht hW => ro_end (A := ro_N) hS ht (by rw [fX3_isLegal, if_neg c_9_3, if_neg c_9_15, if_neg c_9_19, if_neg c_9_23, if_neg c_9_35, if_pos c_9_51, if_neg c_219, if_neg c_228])) hS.2.2 dX3_isLegal_245
      ·
        refine lv_iload_n hx hb dX3_isLegal_231 rfl (lv_at hl 0 rfl) ?_
        refine lv_if_eq (tgt := 240) hx hb dX3_isLegal_232 (by decide) (fun c_232 => ?_) (fun c_232 => ?_)
        ·
          refine lv_iconst (v := 1) hx hb dX3_isLegal_240 (by decide) ?_
          refine lv_goto (tgt := 245) hx hb dX3_isLegal_241 (by decide) ?_
          exact W.zret (v := 1) hx hb hr rfl (fun t ht hW => ro_end (A := ro_N) hS ht (by rw [fX3_isLegal, if_neg c_9_3, if_neg c_9_15, if_neg c_9_19, if_neg c_9_23, if_neg c_9_35, if_pos c_9_51, if_neg c_219, if_pos c_228, if_pos c_232])) hS.2.2 dX3_isLegal_245
        ·
          refine lv_iload_n hx hb dX3_isLegal_235 rfl (lv_at hl 0 rfl) ?_
          refine lv_iconst (v := 5) hx hb dX3_isLegal_236 (by decide) ?_
          refine lv_icmp_ne (tgt := 244) hx hb dX3_isLegal_237 (by decide) (fun c_237 => ?_) (fun c_237 => ?_)
          ·
            refine lv_iconst (v := 0) hx hb dX3_isLegal_244 (by decide) ?_
            exact W.zret (v := 0) hx hb hr rfl (fun t ht hW => ro_end (A := ro_N) hS ht (by rw [fX3_isLegal, if_neg c_9_3, if_neg c_9_15, if_neg c_9_19, if_neg c_9_23, if_neg c_9_35, if_pos c_9_51, if_neg c_219, if_pos c_228, if_neg c_232, if_neg c_237])) hS.2.2 dX3_isLegal_245
          ·
            refine lv_iconst (v := 1) hx hb dX3_isLegal_240 (by decide) ?_
            refine lv_goto (tgt := 245) hx hb dX3_isLegal_241 (by decide) ?_
            exact W.zret (v := 1) hx hb hr rfl (fun t ht hW => ro_end (A := ro_N) hS ht (by rw [fX3_isLegal, if_neg c_9_3, if_neg c_9_15, if_neg c_9_19, if_neg c_9_23, if_neg c_9_35, if_pos c_9_51, if_neg c_219, if_pos c_228, if_neg c_232, if_pos c_237])) hS.2.2 dX3_isLegal_245
  by_cases c_9_55 : (fX3_opcode w) = 55
  ·
    refine lv_lookup (off := 99) (tgt := 108) hx hb dX3_isLegal_9 (by decide) (by rw [c_9_55]; decide) (by decide) ?_
    refine lv_iconst (v := 1) hx hb dX3_isLegal_108 (by decide) ?_
    exact W.zret (v := 1) hx hb hr rfl (fun t ht hW => ro_end (A := ro_N) hS ht (by rw [fX3_isLegal, if_neg c_9_3, if_neg c_9_15, if_neg c_9_19, if_neg c_9_23, if_neg c_9_35, if_neg c_9_51, if_pos c_9_55])) hS.2.2 dX3_isLegal_109
  by_cases c_9_99 : (fX3_opcode w) = 99
  ·
    refine lv_lookup (off := 111) (tgt := 120) hx hb dX3_isLegal_9 (by decide) (by rw [c_9_99]; decide) (by decide) ?_
    refine lv_iload_n hx hb dX3_isLegal_120 rfl (lv_at hl 0 rfl) ?_
    refine lv_iconst (v := 2) hx hb dX3_isLegal_121 (by decide) ?_
    refine lv_icmp_lt (tgt := 130) hx hb dX3_isLegal_122 (by decide) (fun c_122 => ?_) (fun c_122 => ?_)
    ·
      refine lv_iconst (v := 1) hx hb dX3_isLegal_130 (by decide) ?_
      refine lv_goto (tgt := 135) hx hb dX3_isLegal_131 (by decide) ?_
      exact W.zret (v := 1) hx hb hr rfl (fun t ht hW => ro_end (A := ro_N) hS ht (by rw [fX3_isLegal, if_neg c_9_3, if_neg c_9_15, if_neg c_9_19, if_neg c_9_23, if_neg c_9_35, if_neg c_9_51, if_neg c_9_55, if_pos c_9_99, if_pos c_122])) hS.2.2 dX3_isLegal_135
    ·
      refine lv_iload_n hx hb dX3_isLegal_125 rfl (lv_at hl 0 rfl) ?_
      refine lv_iconst (v := 3) hx hb dX3_isLegal_126 (by decide) ?_
      refine lv_icmp_le (tgt := 134) hx hb dX3_isLegal_127 (by decide) (fun c_127 => ?_) (fun c_127 => ?_)
      ·
        refine lv_iconst (v := 0) hx hb dX3_isLegal_134 (by decide) ?_
        exact W.zret (v := 0) hx hb hr rfl (fun t ht hW => ro_end (A := ro_N) hS ht (by rw [fX3_isLegal, if_neg c_9_3, if_neg c_9_15, if_neg c_9_19, if_neg c_9_23, if_neg c_9_35, if_neg c_9_51, if_neg c_9_55, if_pos c_9_99, if_neg c_122, if_pos c_127])) hS.2.2 dX3_isLegal_135
      ·
        refine lv_iconst (v := 1) hx hb dX3_isLegal_130 (by decide) ?_
        refine lv_goto (tgt := 135) hx hb dX3_isLegal_131 (by decide) ?_
        exact W.zret (v := 1) hx hb hr rfl (fun t ht hW => ro_end (A := ro_N) hS ht (by rw [fX3_isLegal, if_neg c_9_3, if_neg c_9_15, if_neg c_9_19, if_neg c_9_23, if_neg c_9_35, if_neg c_9_51, if_neg c_9_55, if_pos c_9_99, if_neg c_122, if_neg c_127])) hS.2.2 dX3_isLegal_135
  by_cases c_9_103 : (fX3_opcode w) = 103
  ·
    refine lv_lookup (off := 101) (tgt := 110) hx hb dX3_isLegal_9 (by decide) (by rw [c_9_103]; decide) (by decide) ?_
    refine lv_iload_n hx hb dX3_isLegal_110 rfl (lv_at hl 0 rfl) ?_
    refine lv_if_ne (tgt := 118) hx hb dX3_isLegal_111 (by decide) (fun c_111 => ?_) (fun c_111 => ?_)
    ·
      refine lv_iconst (v := 0) hx hb dX3_isLegal_118 (by decide) ?_
      exact W.zret (v := 0) hx hb hr rfl (fun t ht hW => ro_end (A := ro_N) hS ht (by rw [fX3_isLegal, if_neg c_9_3, if_neg c_9_15, if_neg c_9_19, if_neg c_9_23, if_neg c_9_35, if_neg c_9_51, if_neg c_9_55, if_neg c_9_99, if_pos c_9_103, if_neg c_111])) hS.2.2 dX3_isLegal_119
    ·
      refine lv_iconst (v := 1) hx hb dX3_isLegal_114 (by decide) ?_
      refine lv_goto (tgt := 119) hx hb dX3_isLegal_115 (by decide) ?_
      exact W.zret (v := 1) hx hb hr rfl (fun t ht hW => ro_end (A := ro_N) hS ht (by rw [fX3_isLegal, if_neg c_9_3, if_neg c_9_15, if_neg c_9_19, if_neg c_9_23, if_neg c_9_35, if_neg c_9_51, if_neg c_9_55, if_neg c_9_99, if_pos c_9_103, if_pos c_111])) hS.2.2 dX3_isLegal_119
  by_cases c_9_111 : (fX3_opcode w) = 111
  ·
    refine lv_lookup (off := 99) (tgt := 108) hx hb dX3_isLegal_9 (by decide) (by rw [c_9_111]; decide) (by decide) ?_
    refine lv_iconst (v := 1) hx hb dX3_isLegal_108 (by decide) ?_
    exact W.zret (v := 1) hx hb hr rfl (fun t ht hW => ro_end (A := ro_N) hS ht (by rw [fX3_isLegal, if_neg c_9_3, if_neg c_9_15, if_neg c_9_19, if_neg c_9_23, if_neg c_9_35, if_neg c_9_51, if_neg c_9_55, if_neg c_9_99, if_neg c_9_103, if_pos c_9_111])) hS.2.2 dX3_isLegal_109
  by_cases c_9_115 : (fX3_opcode w) = 115
  ·
    refine lv_lookup (off := 237) (tgt := 246) hx hb dX3_isLegal_9 (by decide) (by rw [c_9_115]; decide) (by decide) ?_
    refine lv_iload_n hx hb dX3_isLegal_246 rfl (lv_at hl 1 rfl) ?_
    refine lv_bipush (v := 115) hx hb dX3_isLegal_247 (by decide) ?_
    refine lv_icmp_eq (tgt := 258) hx hb dX3_isLegal_249 (by decide) (fun c_249 => ?_) (fun c_249 => ?_)
    ·
      refine lv_iconst (v := 1) hx hb dX3_isLegal_258 (by decide) ?_
      refine lv_goto (tgt := 263) hx hb dX3_isLegal_259 (by decide) ?_
      exact W.zret (v := 1) hx hb hr rfl (fun t ht hW => ro_end (A := ro_N) hS ht (by rw [fX3_isLegal, if_neg c_9_3, if_neg c_9_15, if_neg c_9_19, if_neg c_9_23, if_neg c_9_35, if_neg c_9_51, if_neg c_9_55, if_neg c_9_99, if_neg c_9_103, if_neg c_9_111, if_pos c_9_115, if_pos c_249])) hS.2.2 dX3_isLegal_263
    ·
      refine lv_iload_n hx hb dX3_isLegal_252 rfl (lv_at hl 1 rfl) ?_
      refine lv_ldc (v := 1048691) hx hb hown (hts (.constant RX3 69 (1048691)) (by decide +kernel)) dX3_isLegal_253 ?_
      refine lv_icmp_ne (tgt := 262) hx hb dX3_isLegal_255 (by decide) (fun c_255 => ?_) (fun c_255 => ?_)
      ·
        refine lv_iconst (v := 0) hx hb dX3_isLegal_262 (by decide) ?_
        exact W.zret (v := 0) hx hb hr rfl (fun t ht hW => ro_end (A := ro_N) hS ht (by rw [fX3_isLegal, if_neg c_9_3, if_neg c_9_15, if_neg c_9_19, if_neg c_9_23, if_neg c_9_35, if_neg c_9_51, if_neg c_9_55, if_neg c_9_99, if_neg c_9_103, if_neg c_9_111, if_pos c_9_115, if_neg c_249, if_neg c_255])) hS.2.2 dX3_isLegal_263
      ·
        refine lv_iconst (v := 1) hx hb dX3_isLegal_258 (by decide) ?_
        refine lv_goto (tgt := 263) hx hb dX3_isLegal_259 (by decide) ?_
        exact W.zret (v := 1) hx hb hr rfl (fun t ht hW => ro_end (A := ro_N) hS ht (by rw [fX3_isLegal, if_neg c_9_3, if_neg c_9_15, if_neg c_9_19, if_neg c_9_23, if_neg c_9_35, if_neg c_9_51, if_neg c_9_55, if_neg c_9_99, if_neg c_9_103, if_neg c_9_111, if_pos c_9_115, if_neg c_249, if_pos c_255])) hS.2.2 dX3_isLegal_263
  refine lv_lookup (off := 255) (tgt := 264) hx hb dX3_isLegal_9 (by decide) (show Op.lookupswitch.offset [(3, 127), (15, 101), (19, 159), (23, 99), (35, 148), (51, 206), (55, 99), (99, 111), (103, 101), (111, 99), (115, 237)] 255 _ = 255 from (lv_osw c_9_3 (k := 3) (by decide)).trans ((lv_osw c_9_15 (k := 15) (by decide)).trans ((lv_osw c_9_19 (k := 19) (by decide)).trans ((lv_osw c_9_23 (k := 23) (by decide)).trans ((lv_osw c_9_35 (k := 35) (by decide)).trans ((lv_osw c_9_51 (k := 51) (by decide)).trans ((lv_osw c_9_55 (k := 55) (by decide)).trans ((lv_osw c_9_99 (k := 99) (by decide)).trans ((lv_osw c_9_103 (k := 103) (by decide)).trans ((lv_osw c_9_111 (k := 111) (by decide)).trans ((lv_osw c_9_115 (k := 115) (by decide)).trans (rfl)))))))))))) (by decide) ?_
  refine lv_iconst (v := 0) hx hb dX3_isLegal_264 (by decide) ?_
  exact W.zret (v := 0) hx hb hr rfl (fun t ht hW => ro_end (A := ro_N) hS ht (by rw [fX3_isLegal, if_neg c_9_3, if_neg c_9_15, if_neg c_9_19, if_neg c_9_23, if_neg c_9_35, if_neg c_9_51, if_neg c_9_55, if_neg c_9_99, if_neg c_9_103, if_neg c_9_111, if_neg c_9_115])) hS.2.2 dX3_isLegal_265
def fX3_isLess (x y : Int32) : Int32 := (if 0 ≤ (lg_cmp (x.toInt64 &&& 4294967295) (y.toInt64 &&& 4294967295)) then 0 else 1)
set_option maxHeartbeats 4000000 in
set_option maxRecDepth 100000 in
theorem kX3_isLess (l : Launch) (x y : Int32) : Met l yX3_isLess wsX3_isLess ({ frames := 0, cells := 0, slots := 0, locals := 0 }) (pu_Pc [.int x, .int y]) (ro_Q (fX3_isLess x y)) 0 0 ro_N := by
  refine Met.ofW (cc := cX3_isLess) (maxL := 2) (ret := (some .boolean)) (by decide) rfl ?_
  intro p e s m args below meth c s₁ B hml hv
  obtain ⟨rfl, -⟩ := hv
  have hx := B.exec
  have hb := B.bytes
  have hr := B.returns
  have hts := atoms_spec (ws := wsX3_isLess) B.pre
  have hown : s.vm.findClass RX3 = some m.cls := findClass_of_methodNamed B.named
  have hlocks := B.notSynchronized
  have hS : va_S ro_N s.heap s.heap [] := va_S.rf
  have hl := lv_entry ([.int x, .int y]) (n := 2) (Nat.le_of_ble_eq_true rfl)
  rw [lg_entry_eq]
  generalize (lg_sl ([.int x, .int y]) ++ List.replicate (2 - (lg_sl ([.int x, .int y])).length) Slot.unset).toArray = ls at hl ⊢
  have hl : lv_has ls 2 [(0, .int x), (1, .int y)] := hl
  refine lv_iload_n hx hb dX3_isLess_0 rfl (lv_at hl 0 rfl) ?_
  refine lv_i2l (v := x.toInt64) hx hb dX3_isLess_1 rfl ?_
  refine lv_ldc2 (v := 4294967295) hx hb hown (hts (.constantLong RX3 86 (4294967295)) (by decide +kernel)) dX3_isLess_2 ?_
  refine lv_land hx hb dX3_isLess_5 ?_
  refine lv_iload_n hx hb dX3_isLess_6 rfl (lv_at hl 1 rfl) ?_
  refine lv_i2l (v := y.toInt64) hx hb dX3_isLess_7 rfl ?_
  refine lv_ldc2 (v := 4294967295) hx hb hown (hts (.constantLong RX3 86 (4294967295)) (by decide +kernel)) dX3_isLess_8 ?_
  refine lv_land hx hb dX3_isLess_11 ?_
  refine W.lcmp hx hb dX3_isLess_12 ?_
  refine lv_if_ge (tgt := 20) hx hb dX3_isLess_13 (by decide) (fun c_13 => ?_) (fun c_13 => ?_)
  ·
    refine lv_iconst (v := 0) hx hb dX3_isLess_20 (by decide) ?_
    exact W.zret (v := 0) hx hb hr rfl (fun t ht hW => ro_end (A := ro_N) hS ht (by rw [fX3_isLess, if_pos c_13])) hS.2.2 dX3_isLess_21
  ·
    refine lv_iconst (v := 1) hx hb dX3_isLess_16 (by decide) ?_
    refine lv_goto (tgt := 21) hx hb dX3_isLess_17 (by decide) ?_
    exact W.zret (v := 1) hx hb hr rfl (fun t ht hW => ro_end (A := ro_N) hS ht (by rw [fX3_isLess, if_neg c_13])) hS.2.2 dX3_isLess_21
theorem b_fX3_isLess (x y : Int32) : fX3_isLess x y = 0 ∨ fX3_isLess x y = 1 := by
  unfold fX3_isLess
  split
  all_goals first | exact Or.inl rfl | exact Or.inr rfl
def fX3_reckon (f o x y : Int32) : Int32 := (if f = 0 then (if o = 0 then (x + y) else (x - y)) else (if f = 1 then (x <<< ((y &&& 31) &&& 31)) else (if f = 2 then (if y ≤ x then 0 else 1) else (if f = 3 then (if (fX3_isLess x y) = 0 then 0 else 1) else (if f = 4 then (x ^^^ y) else (if f = 5 then (if o = 0 then (jushr x (y &&& 31)) else (x >>> ((y &&& 31) &&& 31))) else (if f = 6 then (x ||| y) else (x &&& y))))))))
set_option maxHeartbeats 4000000 in
set_option maxRecDepth 100000 in
theorem kX3_reckon (l : Launch) (f o x y : Int32) : Met l yX3_reckon wsX3_reckon ({ frames := 1, cells := 0, slots := 0, locals := 21 }) (pu_Pc [.int f, .int o, .int x, .int y]) (ro_Q (fX3_reckon f o x y)) 0 0 ro_N := by
  refine Met.ofW (cc := cX3_reckon) (maxL := 5) (ret := (some .int)) (by decide) rfl ?_
  intro p e s m args below meth c s₁ B hml hv
  obtain ⟨rfl, -⟩ := hv
  have hx := B.exec
  have hb := B.bytes
  have hr := B.returns
  have hts := atoms_spec (ws := wsX3_reckon) B.pre
  have hown : s.vm.findClass RX3 = some m.cls := findClass_of_methodNamed B.named
  have hlocks := B.notSynchronized
  have hS : va_S ro_N s.heap s.heap [] := va_S.rf
  have hl := lv_entry ([.int f, .int o, .int x, .int y]) (n := 5) (Nat.le_of_ble_eq_true rfl)
  rw [lg_entry_eq]
  generalize (lg_sl ([.int f, .int o, .int x, .int y]) ++ List.replicate (5 - (lg_sl ([.int f, .int o, .int x, .int y])).length) Slot.unset).toArray = ls at hl ⊢
  have hl : lv_has ls 5 [(0, .int f), (1, .int o), (2, .int x), (3, .int y)] := hl
  refine lv_iload_n hx hb dX3_reckon_0 rfl (lv_at hl 3 rfl) ?_
  refine lv_bipush (v := 31) hx hb dX3_reckon_1 (by decide) ?_
  refine lv_iand hx hb dX3_reckon_3 ?_
  refine lv_istore (lv' := [(4, .int (y &&& 31)), (0, .int f), (1, .int o), (2, .int x), (3, .int y)]) hx hb dX3_reckon_4 hl (by decide) rfl (fun ls hl => ?_)
  refine lv_iload_n hx hb dX3_reckon_6 rfl (lv_at hl 1 rfl) ?_
  by_cases c_7_0 : f = 0
  ·
    refine lv_tableIn (off := 41) (tgt := 48) hx hb dX3_reckon_7 (by rw [c_7_0]; decide) (by rw [c_7_0]; decide) (by rw [c_7_0]; decide) (by decide) ?_
    refine lv_iload_n hx hb dX3_reckon_48 rfl (lv_at hl 2 rfl) ?_
    refine lv_if_eq (tgt := 58) hx hb dX3_reckon_49 (by decide) (fun c_49 => ?_) (fun c_49 => ?_)
    ·
      refine lv_iload_n hx hb dX3_reckon_58 rfl (lv_at hl 3 rfl) ?_
      refine lv_iload_n hx hb dX3_reckon_59 rfl (lv_at hl 4 rfl) ?_
      refine lv_iadd hx hb dX3_reckon_60 ?_
      exact W.iret (v := x + y) hx hb hr (fun t ht hW => ro_end (A := ro_N) hS ht (by rw [fX3_reckon, if_pos c_7_0, if_pos c_49])) hS.2.2 dX3_reckon_61
    ·
      refine lv_iload_n hx hb dX3_reckon_52 rfl (lv_at hl 3 rfl) ?_
      refine lv_iload_n hx hb dX3_reckon_53 rfl (lv_at hl 4 rfl) ?_
      refine lv_isub hx hb dX3_reckon_54 ?_
      refine lv_goto (tgt := 61) hx hb dX3_reckon_55 (by decide) ?_
      exact W.iret (v := x - y) hx hb hr (fun t ht hW => ro_end (A := ro_N) hS ht (by rw [fX3_reckon, if_pos c_7_0, if_neg c_49])) hS.2.2 dX3_reckon_61
  by_cases c_7_1 : f = 1
  ·
    refine lv_tableIn (off := 55) (tgt := 62) hx hb dX3_reckon_7 (by rw [c_7_1]; decide) (by rw [c_7_1]; decide) (by rw [c_7_1]; decide) (by decide) ?_
    refine lv_iload_n hx hb dX3_reckon_62 rfl (lv_at hl 3 rfl) ?_
    refine lv_iload hx hb dX3_reckon_63 (lv_at hl 0 rfl) ?_
    refine lv_ishl hx hb dX3_reckon_65 ?_
    exact W.iret (v := x <<< ((y &&& 31) &&& 31)) hx hb hr (fun t ht hW => ro_end (A := ro_N) hS ht (by rw [fX3_reckon, if_neg c_7_0, if_pos c_7_1])) hS.2.2 dX3_reckon_66
  by_cases c_7_2 : f = 2
  ·
    refine lv_tableIn (off := 60) (tgt := 67) hx hb dX3_reckon_7 (by rw [c_7_2]; decide) (by rw [c_7_2]; decide) (by rw [c_7_2]; decide) (by decide) ?_
    refine lv_iload_n hx hb dX3_reckon_67 rfl (lv_at hl 3 rfl) ?_
    refine lv_iload_n hx hb dX3_reckon_68 rfl (lv_at hl 4 rfl) ?_
    refine lv_icmp_ge (tgt := 76) hx hb dX3_reckon_69 (by decide) (fun c_69 => ?_) (fun c_69 => ?_)
    ·
      refine lv_iconst (v := 0) hx hb dX3_reckon_76 (by decide) ?_
      exact W.iret (v := 0) hx hb hr (fun t ht hW => ro_end (A := ro_N) hS ht (by rw [fX3_reckon, if_neg c_7_0, if_neg c_7_1, if_pos c_7_2, if_pos c_69])) hS.2.2 dX3_reckon_77
    ·
      refine lv_iconst (v := 1) hx hb dX3_reckon_72 (by decide) ?_
      refine lv_goto (tgt := 77) hx hb dX3_reckon_73 (by decide) ?_
      exact W.iret (v := 1) hx hb hr (fun t ht hW => ro_end (A := ro_N) hS ht (by rw [fX3_reckon, if_neg c_7_0, if_neg c_7_1, if_pos c_7_2, if_neg c_69])) hS.2.2 dX3_reckon_77
  by_cases c_7_3 : f = 3
  ·
    refine lv_tableIn (off := 71) (tgt := 78) hx hb dX3_reckon_7 (by rw [c_7_3]; decide) (by rw [c_7_3]; decide) (by rw [c_7_3]; decide) (by decide) ?_
    refine lv_iload_n hx hb dX3_reckon_78 rfl (lv_at hl 3 rfl) ?_
    refine lv_iload_n hx hb dX3_reckon_79 rfl (lv_at hl 4 rfl) ?_
    refine ro_call (va_runS (As := [.int x, .int y]) (rest := []) ⟨hx, hb, hml, hown, hts⟩ (kX3_isLess l x y ) (va_cwS 2 hts gX3_reckon_X3_isLess rfl rfl rfl (by decide +kernel) ⟨Nat.le_of_ble_eq_true rfl, Nat.le_of_ble_eq_true rfl⟩) pu_preS rfl rfl hl.1 rfl (lv_room (Nat.le_of_ble_eq_true rfl)) dX3_reckon_80 ⟨Nat.zero_le _, Nat.zero_le _⟩) hS (fun H locs hk hS => ?_)
    refine lv_if_eq (tgt := 90) hx hb dX3_reckon_83 (by decide) (fun c_83 => ?_) (fun c_83 => ?_)
    ·
      refine lv_iconst (v := 0) hx hb dX3_reckon_90 (by decide) ?_
      exact W.iret (v := 0) hx hb hr (fun t ht hW => ro_end (A := ro_N) hS ht (by rw [fX3_reckon, if_neg c_7_0, if_neg c_7_1, if_neg c_7_2, if_pos c_7_3, if_pos c_83])) hS.2.2 dX3_reckon_91
    ·
      refine lv_iconst (v := 1) hx hb dX3_reckon_86 (by decide) ?_
      refine lv_goto (tgt := 91) hx hb dX3_reckon_87 (by decide) ?_
      exact W.iret (v := 1) hx hb hr (fun t ht hW => ro_end (A := ro_N) hS ht (by rw [fX3_reckon, if_neg c_7_0, if_neg c_7_1, if_neg c_7_2, if_pos c_7_3, if_neg c_83])) hS.2.2 dX3_reckon_91
  by_cases c_7_4 : f = 4
  ·
    refine lv_tableIn (off := 85) (tgt := 92) hx hb dX3_reckon_7 (by rw [c_7_4]; decide) (by rw [c_7_4]; decide) (by rw [c_7_4]; decide) (by decide) ?_
    refine lv_iload_n hx hb dX3_reckon_92 rfl (lv_at hl 3 rfl) ?_
    refine lv_iload_n hx hb dX3_reckon_93 rfl (lv_at hl 4 rfl) ?_
    refine lv_ixor hx hb dX3_reckon_94 ?_
    exact W.iret (v := x ^^^ y) hx hb hr (fun t ht hW => ro_end (A := ro_N) hS ht (by rw [fX3_reckon, if_neg c_7_0, if_neg c_7_1, if_neg c_7_2, if_neg c_7_3, if_pos c_7_4])) hS.2.2 dX3_reckon_95
  by_cases c_7_5 : f = 5
  ·
    refine lv_tableIn (off := 89) (tgt := 96) hx hb dX3_reckon_7 (by rw [c_7_5]; decide) (by rw [c_7_5]; decide) (by rw [c_7_5]; decide) (by decide) ?_
    refine lv_iload_n hx hb dX3_reckon_96 rfl (lv_at hl 2 rfl) ?_
    refine lv_if_eq (tgt := 107) hx hb dX3_reckon_97 (by decide) (fun c_97 => ?_) (fun c_97 => ?_)
    ·
      refine lv_iload_n hx hb dX3_reckon_107 rfl (lv_at hl 3 rfl) ?_
      refine lv_iload hx hb dX3_reckon_108 (lv_at hl 0 rfl) ?_
      refine lv_iushr (v := jushr x (y &&& 31)) hx hb dX3_reckon_110 rfl ?_
      exact W.iret (v := jushr x (y &&& 31)) hx hb hr (fun t ht hW => ro_end (A := ro_N) hS ht (by rw [fX3_reckon, if_neg c_7_0, if_neg c_7_1, if_neg c_7_2, if_neg c_7_3, if_neg c_7_4, if_pos c_7_5, if_pos c_97])) hS.2.2 dX3_reckon_111
    ·
      refine lv_iload_n hx hb dX3_reckon_100 rfl (lv_at hl 3 rfl) ?_
      refine lv_iload hx hb dX3_reckon_101 (lv_at hl 0 rfl) ?_
      refine lv_ishr hx hb dX3_reckon_103 ?_
      refine lv_goto (tgt := 111) hx hb dX3_reckon_104 (by decide) ?_
      exact W.iret (v := x >>> ((y &&& 31) &&& 31)) hx hb hr (fun t ht hW => ro_end (A := ro_N) hS ht (by rw [fX3_reckon, if_neg c_7_0, if_neg c_7_1, if_neg c_7_2, if_neg c_7_3, if_neg c_7_4, if_pos c_7_5, if_neg c_97])) hS.2.2 dX3_reckon_111
  by_cases c_7_6 : f = 6
  ·
    refine lv_tableIn (off := 105) (tgt := 112) hx hb dX3_reckon_7 (by rw [c_7_6]; decide) (by rw [c_7_6]; decide) (by rw [c_7_6]; decide) (by decide) ?_
    refine lv_iload_n hx hb dX3_reckon_112 rfl (lv_at hl 3 rfl) ?_
    refine lv_iload_n hx hb dX3_reckon_113 rfl (lv_at hl 4 rfl) ?_
    refine lv_ior hx hb dX3_reckon_114 ?_
    exact W.iret (v := x ||| y) hx hb hr (fun t ht hW => ro_end (A := ro_N) hS ht (by rw [fX3_reckon, if_neg c_7_0, if_neg c_7_1, if_neg c_7_2, if_neg c_7_3, if_neg c_7_4, if_neg c_7_5, if_pos c_7_6])) hS.2.2 dX3_reckon_115
  have hsw_7 : (f).toInt < 0 ∨ 6 < (f).toInt := by
    have q0 := lv_neT c_7_0 (k := 0) (a := 0) (by decide)
    have q1 := lv_neT c_7_1 (k := 1) (a := 1) (by decide)
    have q2 := lv_neT c_7_2 (k := 2) (a := 2) (by decide)
    have q3 := lv_neT c_7_3 (k := 3) (a := 3) (by decide)
    have q4 := lv_neT c_7_4 (k := 4) (a := 4) (by decide)
    have q5 := lv_neT c_7_5 (k := 5) (a := 5) (by decide)
    have q6 := lv_neT c_7_6 (k := 6) (a := 6) (by decide)
    omega
  refine lv_tableOut (tgt := 116) hx hb dX3_reckon_7 hsw_7 (by decide) ?_
  refine lv_iload_n hx hb dX3_reckon_116 rfl (lv_at hl 3 rfl) ?_
  refine lv_iload_n hx hb dX3_reckon_117 rfl (lv_at hl 4 rfl) ?_
  refine lv_iand hx hb dX3_reckon_118 ?_
  exact W.iret (v := x &&& y) hx hb hr (fun t ht hW => ro_end (A := ro_N) hS ht (by rw [fX3_reckon, if_neg c_7_0, if_neg c_7_1, if_neg c_7_2, if_neg c_7_3, if_neg c_7_4, if_neg c_7_5, if_neg c_7_6])) hS.2.2 dX3_reckon_119
def fX3_holds (f x y : Int32) : Int32 := (if 2 ≤ f then (if 6 ≤ f then (if (f - f / 2 * 2) = 0 then (if (fX3_isLess x y) = 1 then 1 else 0) else (if (fX3_isLess x y) = 0 then 1 else 0)) else (if y ≤ x then (if (f - f / 2 * 2) = 0 then 0 else 1) else (if (f - f / 2 * 2) = 0 then 1 else 0))) else (if x = y then (if (f - f / 2 * 2) = 0 then 1 else 0) else (if (f - f / 2 * 2) = 0 then 0 else 1)))
set_option maxHeartbeats 4000000 in
set_option maxRecDepth 100000 in
theorem kX3_holds (l : Launch) (f x y : Int32) : Met l yX3_holds wsX3_holds ({ frames := 1, cells := 0, slots := 0, locals := 21 }) (pu_Pc [.int f, .int x, .int y]) (ro_Q (fX3_holds f x y)) 0 0 ro_N := by
  refine Met.ofW (cc := cX3_holds) (maxL := 4) (ret := (some .boolean)) (by decide) rfl ?_
  intro p e s m args below meth c s₁ B hml hv
  obtain ⟨rfl, -⟩ := hv
  have hx := B.exec
  have hb := B.bytes
  have hr := B.returns
  have hts := atoms_spec (ws := wsX3_holds) B.pre
  have hown : s.vm.findClass RX3 = some m.cls := findClass_of_methodNamed B.named
  have hlocks := B.notSynchronized
  have hS : va_S ro_N s.heap s.heap [] := va_S.rf
  have hl := lv_entry ([.int f, .int x, .int y]) (n := 4) (Nat.le_of_ble_eq_true rfl)
  rw [lg_entry_eq]
  generalize (lg_sl ([.int f, .int x, .int y]) ++ List.replicate (4 - (lg_sl ([.int f, .int x, .int y])).length) Slot.unset).toArray = ls at hl ⊢
  have hl : lv_has ls 4 [(0, .int f), (1, .int x), (2, .int y)] := hl
  refine lv_iload_n hx hb dX3_holds_0 rfl (lv_at hl 0 rfl) ?_
  refine lv_iconst (v := 2) hx hb dX3_holds_1 (by decide) ?_
  refine lv_icmp_ge (tgt := 18) hx hb dX3_holds_2 (by decide) (fun c_2 => ?_) (fun c_2 => ?_)
  ·
    refine lv_iload_n hx hb dX3_holds_18 rfl (lv_at hl 0 rfl) ?_
    refine lv_bipush (v := 6) hx hb dX3_holds_19 (by decide) ?_
    refine lv_icmp_ge (tgt := 37) hx hb dX3_holds_21 (by decide) (fun c_21 => ?_) (fun c_21 => ?_)
    ·
      refine lv_iload_n hx hb dX3_holds_37 rfl (lv_at hl 1 rfl) ?_
      refine lv_iload_n hx hb dX3_holds_38 rfl (lv_at hl 2 rfl) ?_
      refine ro_call (va_runS (As := [.int x, .int y]) (rest := []) ⟨hx, hb, hml, hown, hts⟩ (kX3_isLess l x y ) (va_cwS 2 hts gX3_holds_X3_isLess rfl rfl rfl (by decide +kernel) ⟨Nat.le_of_ble_eq_true rfl, Nat.le_of_ble_eq_true rfl⟩) pu_preS rfl rfl hl.1 rfl (lv_room (Nat.le_of_ble_eq_true rfl)) dX3_holds_39 ⟨Nat.zero_le _, Nat.zero_le _⟩) hS (fun H locs hk hS => ?_)
      refine lv_istore_n (lv' := [(3, .int (fX3_isLess x y)), (0, .int f), (1, .int x), (2, .int y)]) hx hb dX3_holds_42 rfl hl (by decide) rfl (fun ls hl => ?_)
      refine lv_iload_n hx hb dX3_holds_43 rfl (lv_at hl 0 rfl) ?_
      refine lv_iload_n hx hb dX3_holds_44 rfl (lv_at hl 1 rfl) ?_
      refine lv_iconst (v := 2) hx hb dX3_holds_45 (by decide) ?_
      refine lv_irem hx hb dX3_holds_46 (by decide) ?_
      refine lv_if_ne (tgt := 54) hx hb dX3_holds_47 (by decide) (fun c_47 => ?_) (fun c_47 => ?_)
      ·
        refine lv_iconst (v := 0) hx hb dX3_holds_54 (by decide) ?_
        refine lv_icmp_ne (tgt := 62) hx hb dX3_holds_55 (by decide) (fun c_55 => ?_) (fun c_55 => ?_)
        ·
          refine lv_iconst (v := 0) hx hb dX3_holds_62 (by decide) ?_
          exact W.zret (v := 0) hx hb hr rfl (fun t ht hW => ro_end (A := ro_N) hS ht (by rw [fX3_holds, if_pos c_2, if_pos c_21, if_neg c_47, if_neg c_55])) hS.2.2 dX3_holds_63
        ·
          refine lv_iconst (v := 1) hx hb dX3_holds_58 (by decide) ?_
          refine lv_goto (tgt := 63) hx hb dX3_holds_59 (by decide) ?_
          exact W.zret (v := 1) hx hb hr rfl (fun t ht hW => ro_end (A := ro_N) hS ht (by rw [fX3_holds, if_pos c_2, if_pos c_21, if_neg c_47, if_pos c_55])) hS.2.2 dX3_holds_63
      ·
        refine lv_iconst (v := 1) hx hb dX3_holds_50 (by decide) ?_
        refine lv_goto (tgt := 55) hx hb dX3_holds_51 (by decide) ?_
        refine lv_icmp_ne (tgt := 62) hx hb dX3_holds_55 (by decide) (fun c_55 => ?_) (fun c_55 => ?_)
        ·
          refine lv_iconst (v := 0) hx hb dX3_holds_62 (by decide) ?_
          exact W.zret (v := 0) hx hb hr rfl (fun t ht hW => ro_end (A := ro_N) hS ht (by rw [fX3_holds, if_pos c_2, if_pos c_21, if_pos c_47, if_neg c_55])) hS.2.2 dX3_holds_63
        ·
          refine lv_iconst (v := 1) hx hb dX3_holds_58 (by decide) ?_
          refine lv_goto (tgt := 63) hx hb dX3_holds_59 (by decide) ?_
          exact W.zret (v := 1) hx hb hr rfl (fun t ht hW => ro_end (A := ro_N) hS ht (by rw [fX3_holds, if_pos c_2, if_pos c_21, if_pos c_47, if_pos c_55])) hS.2.2 dX3_holds_63
    ·
      refine lv_iload_n hx hb dX3_holds_24 rfl (lv_at hl 1 rfl) ?_
      refine lv_iload_n hx hb dX3_holds_25 rfl (lv_at hl 2 rfl) ?_
      refine lv_icmp_ge (tgt := 33) hx hb dX3_holds_26 (by decide) (fun c_26 => ?_) (fun c_26 => ?_)
      ·
        refine lv_iconst (v := 0) hx hb dX3_holds_33 (by decide) ?_
        refine lv_goto (tgt := 42) hx hb dX3_holds_34 (by decide) ?_
        refine lv_istore_n (lv' := [(3, .int 0), (0, .int f), (1, .int x), (2, .int y)]) hx hb dX3_holds_42 rfl hl (by decide) rfl (fun ls hl => ?_)
        refine lv_iload_n hx hb dX3_holds_43 rfl (lv_at hl 0 rfl) ?_
        refine lv_iload_n hx hb dX3_holds_44 rfl (lv_at hl 1 rfl) ?_
        refine lv_iconst (v := 2) hx hb dX3_holds_45 (by decide) ?_
        refine lv_irem hx hb dX3_holds_46 (by decide) ?_
        refine lv_if_ne (tgt := 54) hx hb dX3_holds_47 (by decide) (fun c_47 => ?_) (fun c_47 => ?_)
        ·
          refine lv_iconst (v := 0) hx hb dX3_holds_54 (by decide) ?_
          refine lv_icmp_ne (tgt := 62) hx hb dX3_holds_55 (by decide) (fun c_55 => ?_) (fun c_55 => ?_)
          · exact absurd c_55 (by decide)
          refine lv_iconst (v := 1) hx hb dX3_holds_58 (by decide) ?_
          refine lv_goto (tgt := 63) hx hb dX3_holds_59 (by decide) ?_
          exact W.zret (v := 1) hx hb hr rfl (fun t ht hW => ro_end (A := ro_N) hS ht (by rw [fX3_holds, if_pos c_2, if_neg c_21, if_pos c_26, if_neg c_47])) hS.2.2 dX3_holds_63
        ·
          refine lv_iconst (v := 1) hx hb dX3_holds_50 (by decide) ?_
          refine lv_goto (tgt := 55) hx hb dX3_holds_51 (by decide) ?_
          refine lv_icmp_ne (tgt := 62) hx hb dX3_holds_55 (by decide) (fun c_55 => ?_) (fun c_55 => ?_)
          rotate_left
          · exact absurd c_55 (by decide)
          refine lv_iconst (v := 0) hx hb dX3_holds_62 (by decide) ?_
          exact W.zret (v := 0) hx hb hr rfl (fun t ht hW => ro_end (A := ro_N) hS ht (by rw [fX3_holds, if_pos c_2, if_neg c_21, if_pos c_26, if_pos c_47])) hS.2.2 dX3_holds_63
      ·
        refine lv_iconst (v := 1) hx hb dX3_holds_29 (by decide) ?_
        refine lv_goto (tgt := 42) hx hb dX3_holds_30 (by decide) ?_
        refine lv_istore_n (lv' := [(3, .int 1), (0, .int f), (1, .int x), (2, .int y)]) hx hb dX3_holds_42 rfl hl (by decide) rfl (fun ls hl => ?_)
        refine lv_iload_n hx hb dX3_holds_43 rfl (lv_at hl 0 rfl) ?_
        refine lv_iload_n hx hb dX3_holds_44 rfl (lv_at hl 1 rfl) ?_
        refine lv_iconst (v := 2) hx hb dX3_holds_45 (by decide) ?_
        refine lv_irem hx hb dX3_holds_46 (by decide) ?_
        refine lv_if_ne (tgt := 54) hx hb dX3_holds_47 (by decide) (fun c_47 => ?_) (fun c_47 => ?_)
        ·
          refine lv_iconst (v := 0) hx hb dX3_holds_54 (by decide) ?_
          refine lv_icmp_ne (tgt := 62) hx hb dX3_holds_55 (by decide) (fun c_55 => ?_) (fun c_55 => ?_)
          rotate_left
          · exact absurd c_55 (by decide)
          refine lv_iconst (v := 0) hx hb dX3_holds_62 (by decide) ?_
          exact W.zret (v := 0) hx hb hr rfl (fun t ht hW => ro_end (A := ro_N) hS ht (by rw [fX3_holds, if_pos c_2, if_neg c_21, if_neg c_26, if_neg c_47])) hS.2.2 dX3_holds_63
        ·
          refine lv_iconst (v := 1) hx hb dX3_holds_50 (by decide) ?_
          refine lv_goto (tgt := 55) hx hb dX3_holds_51 (by decide) ?_
          refine lv_icmp_ne (tgt := 62) hx hb dX3_holds_55 (by decide) (fun c_55 => ?_) (fun c_55 => ?_)
          · exact absurd c_55 (by decide)
          refine lv_iconst (v := 1) hx hb dX3_holds_58 (by decide) ?_
          refine lv_goto (tgt := 63) hx hb dX3_holds_59 (by decide) ?_
          exact W.zret (v := 1) hx hb hr rfl (fun t ht hW => ro_end (A := ro_N) hS ht (by rw [fX3_holds, if_pos c_2, if_neg c_21, if_neg c_26, if_pos c_47])) hS.2.2 dX3_holds_63
  ·
    refine lv_iload_n hx hb dX3_holds_5 rfl (lv_at hl 1 rfl) ?_
    refine lv_iload_n hx hb dX3_holds_6 rfl (lv_at hl 2 rfl) ?_
    refine lv_icmp_ne (tgt := 14) hx hb dX3_holds_7 (by decide) (fun c_7 => ?_) (fun c_7 => ?_)
    ·
      refine lv_iconst (v := 0) hx hb dX3_holds_14 (by decide) ?_
      refine lv_goto (tgt := 42) hx hb dX3_holds_15 (by decide) ?_
      refine lv_istore_n (lv' := [(3, .int 0), (0, .int f), (1, .int x), (2, .int y)]) hx hb dX3_holds_42 rfl hl (by decide) rfl (fun ls hl => ?_)
      refine lv_iload_n hx hb dX3_holds_43 rfl (lv_at hl 0 rfl) ?_
      refine lv_iload_n hx hb dX3_holds_44 rfl (lv_at hl 1 rfl) ?_
      refine lv_iconst (v := 2) hx hb dX3_holds_45 (by decide) ?_
      refine lv_irem hx hb dX3_holds_46 (by decide) ?_
      refine lv_if_ne (tgt := 54) hx hb dX3_holds_47 (by decide) (fun c_47 => ?_) (fun c_47 => ?_)
      ·
        refine lv_iconst (v := 0) hx hb dX3_holds_54 (by decide) ?_
        refine lv_icmp_ne (tgt := 62) hx hb dX3_holds_55 (by decide) (fun c_55 => ?_) (fun c_55 => ?_)
        · exact absurd c_55 (by decide)
        refine lv_iconst (v := 1) hx hb dX3_holds_58 (by decide) ?_
        refine lv_goto (tgt := 63) hx hb dX3_holds_59 (by decide) ?_
        exact W.zret (v := 1) hx hb hr rfl (fun t ht hW => ro_end (A := ro_N) hS ht (by rw [fX3_holds, if_neg c_2, if_neg c_7, if_neg c_47])) hS.2.2 dX3_holds_63
      ·
        refine lv_iconst (v := 1) hx hb dX3_holds_50 (by decide) ?_
        refine lv_goto (tgt := 55) hx hb dX3_holds_51 (by decide) ?_
        refine lv_icmp_ne (tgt := 62) hx hb dX3_holds_55 (by decide) (fun c_55 => ?_) (fun c_55 => ?_)
        rotate_left
        · exact absurd c_55 (by decide)
        refine lv_iconst (v := 0) hx hb dX3_holds_62 (by decide) ?_
        exact W.zret (v := 0) hx hb hr rfl (fun t ht hW => ro_end (A := ro_N) hS ht (by rw [fX3_holds, if_neg c_2, if_neg c_7, if_pos c_47])) hS.2.2 dX3_holds_63
    ·
      refine lv_iconst (v := 1) hx hb dX3_holds_10 (by decide) ?_
      refine lv_goto (tgt := 42) hx hb dX3_holds_11 (by decide) ?_
      refine lv_istore_n (lv' := [(3, .int 1), (0, .int f), (1, .int x), (2, .int y)]) hx hb dX3_holds_42 rfl hl (by decide) rfl (fun ls hl => ?_)
      refine lv_iload_n hx hb dX3_holds_43 rfl (lv_at hl 0 rfl) ?_
      refine lv_iload_n hx hb dX3_holds_44 rfl (lv_at hl 1 rfl) ?_
      refine lv_iconst (v := 2) hx hb dX3_holds_45 (by decide) ?_
      refine lv_irem hx hb dX3_holds_46 (by decide) ?_
      refine lv_if_ne (tgt := 54) hx hb dX3_holds_47 (by decide) (fun c_47 => ?_) (fun c_47 => ?_)
      ·
        refine lv_iconst (v := 0) hx hb dX3_holds_54 (by decide) ?_
        refine lv_icmp_ne (tgt := 62) hx hb dX3_holds_55 (by decide) (fun c_55 => ?_) (fun c_55 => ?_)
        rotate_left
        · exact absurd c_55 (by decide)
        refine lv_iconst (v := 0) hx hb dX3_holds_62 (by decide) ?_
        exact W.zret (v := 0) hx hb hr rfl (fun t ht hW => ro_end (A := ro_N) hS ht (by rw [fX3_holds, if_neg c_2, if_pos c_7, if_neg c_47])) hS.2.2 dX3_holds_63
      ·
        refine lv_iconst (v := 1) hx hb dX3_holds_50 (by decide) ?_
        refine lv_goto (tgt := 55) hx hb dX3_holds_51 (by decide) ?_
        refine lv_icmp_ne (tgt := 62) hx hb dX3_holds_55 (by decide) (fun c_55 => ?_) (fun c_55 => ?_)
        · exact absurd c_55 (by decide)
        refine lv_iconst (v := 1) hx hb dX3_holds_58 (by decide) ?_
        refine lv_goto (tgt := 63) hx hb dX3_holds_59 (by decide) ?_
        exact W.zret (v := 1) hx hb hr rfl (fun t ht hW => ro_end (A := ro_N) hS ht (by rw [fX3_holds, if_neg c_2, if_pos c_7, if_pos c_47])) hS.2.2 dX3_holds_63
def fX3_refusal1 (x : Int32) : Int32 := (if (x - x / 1 * 1) = 0 then (if x < 0 then 7 else (if x ≤ 255 then 0 else 7)) else 6)
set_option maxHeartbeats 4000000 in
set_option maxRecDepth 100000 in
theorem kX3_refusal1 (l : Launch) (x : Int32) : Met l yX3_refusal wsX3_refusal ({ frames := 0, cells := 0, slots := 0, locals := 0 }) (pu_Pc [.int x, .int 1]) (ro_Q (fX3_refusal1 x)) 0 0 ro_N := by
  refine Met.ofW (cc := cX3_refusal) (maxL := 2) (ret := (some .int)) (by decide) rfl ?_
  intro p e s m args below meth c s₁ B hml hv
  obtain ⟨rfl, -⟩ := hv
  have hx := B.exec
  have hb := B.bytes
  have hr := B.returns
  have hts := atoms_spec (ws := wsX3_refusal) B.pre
  have hown : s.vm.findClass RX3 = some m.cls := findClass_of_methodNamed B.named
  have hlocks := B.notSynchronized
  have hS : va_S ro_N s.heap s.heap [] := va_S.rf
  have hl := lv_entry ([.int x, .int 1]) (n := 2) (Nat.le_of_ble_eq_true rfl)
  rw [lg_entry_eq]
  generalize (lg_sl ([.int x, .int 1]) ++ List.replicate (2 - (lg_sl ([.int x, .int 1])).length) Slot.unset).toArray = ls at hl ⊢
  have hl : lv_has ls 2 [(0, .int x), (1, .int 1)] := hl
  refine lv_iload_n hx hb dX3_refusal_0 rfl (lv_at hl 0 rfl) ?_
  refine lv_iload_n hx hb dX3_refusal_1 rfl (lv_at hl 1 rfl) ?_
  refine lv_irem hx hb dX3_refusal_2 (by decide) ?_
  refine lv_if_eq (tgt := 11) hx hb dX3_refusal_3 (by decide) (fun c_3 => ?_) (fun c_3 => ?_)
  ·
    refine lv_iload_n hx hb dX3_refusal_11 rfl (lv_at hl 0 rfl) ?_
    refine lv_if_lt (tgt := 22) hx hb dX3_refusal_12 (by decide) (fun c_12 => ?_) (fun c_12 => ?_)
    ·
      refine lv_bipush (v := 7) hx hb dX3_refusal_22 (by decide) ?_
      refine lv_goto (tgt := 28) hx hb dX3_refusal_24 (by decide) ?_
      exact W.iret (v := 7) hx hb hr (fun t ht hW => ro_end (A := ro_N) hS ht (by rw [fX3_refusal1, if_pos c_3, if_pos c_12])) hS.2.2 dX3_refusal_28
    ·
      refine lv_iload_n hx hb dX3_refusal_15 rfl (lv_at hl 0 rfl) ?_
      refine lv_sipush (v := 255) hx hb dX3_refusal_16 (by decide) ?_
      refine lv_icmp_le (tgt := 27) hx hb dX3_refusal_19 (by decide) (fun c_19 => ?_) (fun c_19 => ?_)
      ·
        refine lv_iconst (v := 0) hx hb dX3_refusal_27 (by decide) ?_
        exact W.iret (v := 0) hx hb hr (fun t ht hW => ro_end (A := ro_N) hS ht (by rw [fX3_refusal1, if_pos c_3, if_neg c_12, if_pos c_19])) hS.2.2 dX3_refusal_28
      ·
        refine lv_bipush (v := 7) hx hb dX3_refusal_22 (by decide) ?_
        refine lv_goto (tgt := 28) hx hb dX3_refusal_24 (by decide) ?_
        exact W.iret (v := 7) hx hb hr (fun t ht hW => ro_end (A := ro_N) hS ht (by rw [fX3_refusal1, if_pos c_3, if_neg c_12, if_neg c_19])) hS.2.2 dX3_refusal_28
  ·
    refine lv_bipush (v := 6) hx hb dX3_refusal_6 (by decide) ?_
    refine lv_goto (tgt := 28) hx hb dX3_refusal_8 (by decide) ?_
    exact W.iret (v := 6) hx hb hr (fun t ht hW => ro_end (A := ro_N) hS ht (by rw [fX3_refusal1, if_neg c_3])) hS.2.2 dX3_refusal_28
def fX3_refusal2 (x : Int32) : Int32 := (if (x - x / 2 * 2) = 0 then (if x < 0 then 7 else (if x ≤ 255 then 0 else 7)) else 6)
set_option maxHeartbeats 4000000 in
set_option maxRecDepth 100000 in
theorem kX3_refusal2 (l : Launch) (x : Int32) : Met l yX3_refusal wsX3_refusal ({ frames := 0, cells := 0, slots := 0, locals := 0 }) (pu_Pc [.int x, .int 2]) (ro_Q (fX3_refusal2 x)) 0 0 ro_N := by
  refine Met.ofW (cc := cX3_refusal) (maxL := 2) (ret := (some .int)) (by decide) rfl ?_
  intro p e s m args below meth c s₁ B hml hv
  obtain ⟨rfl, -⟩ := hv
  have hx := B.exec
  have hb := B.bytes
  have hr := B.returns
  have hts := atoms_spec (ws := wsX3_refusal) B.pre
  have hown : s.vm.findClass RX3 = some m.cls := findClass_of_methodNamed B.named
  have hlocks := B.notSynchronized
  have hS : va_S ro_N s.heap s.heap [] := va_S.rf
  have hl := lv_entry ([.int x, .int 2]) (n := 2) (Nat.le_of_ble_eq_true rfl)
  rw [lg_entry_eq]
  generalize (lg_sl ([.int x, .int 2]) ++ List.replicate (2 - (lg_sl ([.int x, .int 2])).length) Slot.unset).toArray = ls at hl ⊢
  have hl : lv_has ls 2 [(0, .int x), (1, .int 2)] := hl
  refine lv_iload_n hx hb dX3_refusal_0 rfl (lv_at hl 0 rfl) ?_
  refine lv_iload_n hx hb dX3_refusal_1 rfl (lv_at hl 1 rfl) ?_
  refine lv_irem hx hb dX3_refusal_2 (by decide) ?_
  refine lv_if_eq (tgt := 11) hx hb dX3_refusal_3 (by decide) (fun c_3 => ?_) (fun c_3 => ?_)
  ·
    refine lv_iload_n hx hb dX3_refusal_11 rfl (lv_at hl 0 rfl) ?_
    refine lv_if_lt (tgt := 22) hx hb dX3_refusal_12 (by decide) (fun c_12 => ?_) (fun c_12 => ?_)
    ·
      refine lv_bipush (v := 7) hx hb dX3_refusal_22 (by decide) ?_
      refine lv_goto (tgt := 28) hx hb dX3_refusal_24 (by decide) ?_
      exact W.iret (v := 7) hx hb hr (fun t ht hW => ro_end (A := ro_N) hS ht (by rw [fX3_refusal2, if_pos c_3, if_pos c_12])) hS.2.2 dX3_refusal_28
    ·
      refine lv_iload_n hx hb dX3_refusal_15 rfl (lv_at hl 0 rfl) ?_
      refine lv_sipush (v := 255) hx hb dX3_refusal_16 (by decide) ?_
      refine lv_icmp_le (tgt := 27) hx hb dX3_refusal_19 (by decide) (fun c_19 => ?_) (fun c_19 => ?_)
      ·
        refine lv_iconst (v := 0) hx hb dX3_refusal_27 (by decide) ?_
        exact W.iret (v := 0) hx hb hr (fun t ht hW => ro_end (A := ro_N) hS ht (by rw [fX3_refusal2, if_pos c_3, if_neg c_12, if_pos c_19])) hS.2.2 dX3_refusal_28
      ·
        refine lv_bipush (v := 7) hx hb dX3_refusal_22 (by decide) ?_
        refine lv_goto (tgt := 28) hx hb dX3_refusal_24 (by decide) ?_
        exact W.iret (v := 7) hx hb hr (fun t ht hW => ro_end (A := ro_N) hS ht (by rw [fX3_refusal2, if_pos c_3, if_neg c_12, if_neg c_19])) hS.2.2 dX3_refusal_28
  ·
    refine lv_bipush (v := 6) hx hb dX3_refusal_6 (by decide) ?_
    refine lv_goto (tgt := 28) hx hb dX3_refusal_8 (by decide) ?_
    exact W.iret (v := 6) hx hb hr (fun t ht hW => ro_end (A := ro_N) hS ht (by rw [fX3_refusal2, if_neg c_3])) hS.2.2 dX3_refusal_28
def fX3_refusal4 (x : Int32) : Int32 := (if (x - x / 4 * 4) = 0 then (if x < 0 then 7 else (if x ≤ 255 then 0 else 7)) else 6)
set_option maxHeartbeats 4000000 in
set_option maxRecDepth 100000 in
theorem kX3_refusal4 (l : Launch) (x : Int32) : Met l yX3_refusal wsX3_refusal ({ frames := 0, cells := 0, slots := 0, locals := 0 }) (pu_Pc [.int x, .int 4]) (ro_Q (fX3_refusal4 x)) 0 0 ro_N := by
  refine Met.ofW (cc := cX3_refusal) (maxL := 2) (ret := (some .int)) (by decide) rfl ?_
  intro p e s m args below meth c s₁ B hml hv
  obtain ⟨rfl, -⟩ := hv
  have hx := B.exec
  have hb := B.bytes
  have hr := B.returns
  have hts := atoms_spec (ws := wsX3_refusal) B.pre
  have hown : s.vm.findClass RX3 = some m.cls := findClass_of_methodNamed B.named
  have hlocks := B.notSynchronized
  have hS : va_S ro_N s.heap s.heap [] := va_S.rf
  have hl := lv_entry ([.int x, .int 4]) (n := 2) (Nat.le_of_ble_eq_true rfl)
  rw [lg_entry_eq]
  generalize (lg_sl ([.int x, .int 4]) ++ List.replicate (2 - (lg_sl ([.int x, .int 4])).length) Slot.unset).toArray = ls at hl ⊢
  have hl : lv_has ls 2 [(0, .int x), (1, .int 4)] := hl
  refine lv_iload_n hx hb dX3_refusal_0 rfl (lv_at hl 0 rfl) ?_
  refine lv_iload_n hx hb dX3_refusal_1 rfl (lv_at hl 1 rfl) ?_
  refine lv_irem hx hb dX3_refusal_2 (by decide) ?_
  refine lv_if_eq (tgt := 11) hx hb dX3_refusal_3 (by decide) (fun c_3 => ?_) (fun c_3 => ?_)
  ·
    refine lv_iload_n hx hb dX3_refusal_11 rfl (lv_at hl 0 rfl) ?_
    refine lv_if_lt (tgt := 22) hx hb dX3_refusal_12 (by decide) (fun c_12 => ?_) (fun c_12 => ?_)
    ·
      refine lv_bipush (v := 7) hx hb dX3_refusal_22 (by decide) ?_
      refine lv_goto (tgt := 28) hx hb dX3_refusal_24 (by decide) ?_
      exact W.iret (v := 7) hx hb hr (fun t ht hW => ro_end (A := ro_N) hS ht (by rw [fX3_refusal4, if_pos c_3, if_pos c_12])) hS.2.2 dX3_refusal_28
    ·
      refine lv_iload_n hx hb dX3_refusal_15 rfl (lv_at hl 0 rfl) ?_
      refine lv_sipush (v := 255) hx hb dX3_refusal_16 (by decide) ?_
      refine lv_icmp_le (tgt := 27) hx hb dX3_refusal_19 (by decide) (fun c_19 => ?_) (fun c_19 => ?_)
      ·
        refine lv_iconst (v := 0) hx hb dX3_refusal_27 (by decide) ?_
        exact W.iret (v := 0) hx hb hr (fun t ht hW => ro_end (A := ro_N) hS ht (by rw [fX3_refusal4, if_pos c_3, if_neg c_12, if_pos c_19])) hS.2.2 dX3_refusal_28
      ·
        refine lv_bipush (v := 7) hx hb dX3_refusal_22 (by decide) ?_
        refine lv_goto (tgt := 28) hx hb dX3_refusal_24 (by decide) ?_
        exact W.iret (v := 7) hx hb hr (fun t ht hW => ro_end (A := ro_N) hS ht (by rw [fX3_refusal4, if_pos c_3, if_neg c_12, if_neg c_19])) hS.2.2 dX3_refusal_28
  ·
    refine lv_bipush (v := 6) hx hb dX3_refusal_6 (by decide) ?_
    refine lv_goto (tgt := 28) hx hb dX3_refusal_8 (by decide) ?_
    exact W.iret (v := 6) hx hb hr (fun t ht hW => ro_end (A := ro_N) hS ht (by rw [fX3_refusal4, if_neg c_3])) hS.2.2 dX3_refusal_28
