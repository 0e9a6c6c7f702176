def fX3_reads (v fw fd fs fn : Nat → Int32) (x r : Int32) : Int32 := (if (fX3_isBeyond x) = 0 then (if (fX3_isLegal (fX3_wordAt v fw fd fs fn x)) = 0 then 0 else (if (fX3_opcode (fX3_wordAt v fw fd fs fn x)) = 55 then (if (fX3_opcode (fX3_wordAt v fw fd fs fn x)) = 99 then (if (fX3_rs2 (fX3_wordAt v fw fd fs fn x)) = r then 1 else 0) else (if (fX3_opcode (fX3_wordAt v fw fd fs fn x)) = 35 then (if (fX3_rs2 (fX3_wordAt v fw fd fs fn x)) = r then 1 else 0) else (if (fX3_opcode (fX3_wordAt v fw fd fs fn x)) = 51 then (if (fX3_rs2 (fX3_wordAt v fw fd fs fn x)) = r then 1 else 0) else 0))) else (if (fX3_opcode (fX3_wordAt v fw fd fs fn x)) = 23 then (if (fX3_opcode (fX3_wordAt v fw fd fs fn x)) = 99 then (if (fX3_rs2 (fX3_wordAt v fw fd fs fn x)) = r then 1 else 0) else (if (fX3_opcode (fX3_wordAt v fw fd fs fn x)) = 35 then (if (fX3_rs2 (fX3_wordAt v fw fd fs fn x)) = r then 1 else 0) else (if (fX3_opcode (fX3_wordAt v fw fd fs fn x)) = 51 then (if (fX3_rs2 (fX3_wordAt v fw fd fs fn x)) = r then 1 else 0) else 0))) else (if (fX3_opcode (fX3_wordAt v fw fd fs fn x)) = 111 then (if (fX3_opcode (fX3_wordAt v fw fd fs fn x)) = 99 then (if (fX3_rs2 (fX3_wordAt v fw fd fs fn x)) = r then 1 else 0) else (if (fX3_opcode (fX3_wordAt v fw fd fs fn x)) = 35 then (if (fX3_rs2 (fX3_wordAt v fw fd fs fn x)) = r then 1 else 0) else (if (fX3_opcode (fX3_wordAt v fw fd fs fn x)) = 51 then (if (fX3_rs2 (fX3_wordAt v fw fd fs fn x)) = r then 1 else 0) else 0))) else (if (fX3_opcode (fX3_wordAt v fw fd fs fn x)) = 15 then (if (fX3_opcode (fX3_wordAt v fw fd fs fn x)) = 99 then (if (fX3_rs2 (fX3_wordAt v fw fd fs fn x)) = r then 1 else 0) else (if (fX3_opcode (fX3_wordAt v fw fd fs fn x)) = 35 then (if (fX3_rs2 (fX3_wordAt v fw fd fs fn x)) = r then 1 else 0) else (if (fX3_opcode (fX3_wordAt v fw fd fs fn x)) = 51 then (if (fX3_rs2 (fX3_wordAt v fw fd fs fn x)) = r then 1 else 0) else 0))) else (if (fX3_opcode (fX3_wordAt v fw fd fs fn x)) = 115 then (if (fX3_opcode (fX3_wordAt v fw fd fs fn x)) = 99 then (if (fX3_rs2 (fX3_wordAt v fw fd fs fn x)) = r then 1 else 0) else (if (fX3_opcode (fX3_wordAt v fw fd fs fn x)) = 35 then (if (fX3_rs2 (fX3_wordAt v fw fd fs fn x)) = r then 1 else 0) else (if (fX3_opcode (fX3_wordAt v fw fd fs fn x)) = 51 then (if (fX3_rs2 (fX3_wordAt v fw fd fs fn x)) = r then 1 else 0) else 0))) else (if (fX3_opcode (fX3_wordAt v fw fd fs fn x)) = 99 then (if (fX3_rs1 (fX3_wordAt v fw fd fs fn x)) = r then 1 else (if (fX3_rs2 (fX3_wordAt v fw fd fs fn x)) = r then 1 else 0)) else (if (fX3_opcode (fX3_wordAt v fw fd fs fn x)) = 35 then (if (fX3_rs1 (fX3_wordAt v fw fd fs fn x)) = r then 1 else (if (fX3_rs2 (fX3_wordAt v fw fd fs fn x)) = r then 1 else 0)) else (if (fX3_opcode (fX3_wordAt v fw fd fs fn x)) = 51 then (if (fX3_rs1 (fX3_wordAt v fw fd fs fn x)) = r then 1 else (if (fX3_rs2 (fX3_wordAt v fw fd fs fn x)) = r then 1 else 0)) else (if (fX3_rs1 (fX3_wordAt v fw fd fs fn x)) = r then 1 else 0)))))))))) else 0)
set_option maxHeartbeats 4000000 in
set_option maxRecDepth 100000 in
theorem kX3_reads (l : Launch) (dC : Nat → ClassId) (dI : Nat → Nat → Nat) (cI cB : ClassId) (h a b c d : Nat) (v fw fd fs fn : Nat → Int32) (x r : Int32) : Met l yX3_reads wsX3_reads ({ frames := 2, cells := 0, slots := 0, locals := 41 }) (ro_Pc [.ref h, .int x, .int r] (dC, dI) vwCl (tyIB cI cB) (mdW cI cB h a b c d v fw fd fs fn)) (ro_Q (fX3_reads v fw fd fs fn x r)) 0 0 ro_N := by
  refine Met.ofW (cc := cX3_reads) (maxL := 7) (ret := (some .boolean)) (by decide) rfl ?_
  intro p e s m args below meth c9 s₁ B hml hv
  obtain ⟨rfl, hP, hK⟩ := hv
  have hx := B.exec
  have hb := B.bytes
  have hr := B.returns
  have hts := atoms_spec (ws := wsX3_reads) B.pre
  have hown : s.vm.findClass RX3 = some m.cls := findClass_of_methodNamed B.named
  have hlocks := B.notSynchronized
  have hS : va_S ro_N s.heap s.heap [] := va_S.rf
  have hl := lv_entry ([.ref h, .int x, .int r]) (n := 7) (Nat.le_of_ble_eq_true rfl)
  rw [lg_entry_eq]
  generalize (lg_sl ([.ref h, .int x, .int r]) ++ List.replicate (7 - (lg_sl ([.ref h, .int x, .int r])).length) Slot.unset).toArray = ls at hl ⊢
  have hl : lv_has ls 7 [(0, .ref h), (1, .int x), (2, .int r)] := hl
  refine lv_iload_n hx hb dX3_reads_0 rfl (lv_at hl 1 rfl) ?_
  refine ro_call (va_runS (As := [.int x]) (rest := []) ⟨hx, hb, hml, hown, hts⟩ (kX3_isBeyond l x ) (va_cwS 1 hts gX3_reads_X3_isBeyond rfl rfl rfl (by decide +kernel) ⟨Nat.le_of_ble_eq_true rfl, Nat.le_of_ble_eq_true rfl⟩) pu_preS rfl rfl hl.1 rfl (lv_room (Nat.le_of_ble_eq_true rfl)) dX3_reads_1 ⟨Nat.zero_le _, Nat.zero_le _⟩) hS (fun H locs hk hS => ?_)
  have hP := hk _ _ _ hP
  refine lv_if_ne (tgt := 18) hx hb dX3_reads_4 (by decide) (fun c_4 => ?_) (fun c_4 => ?_)
  ·
    refine lv_iconst (v := 0) hx hb dX3_reads_18 (by decide) ?_
    exact W.zret (v := 0) hx hb hr rfl (fun t ht hW => ro_end (A := ro_N) hS ht (by rw [fX3_reads, if_neg c_4])) hS.2.2 dX3_reads_19
  ·
    refine lv_aload_n hx hb dX3_reads_7 rfl (lv_at hl 0 rfl) ?_
    refine lv_iload_n hx hb dX3_reads_8 rfl (lv_at hl 1 rfl) ?_
    refine ro_call (va_runV (As := [.int x]) (rest := []) ⟨hx, hb, hml, hown, hts⟩ (kX3_wordAt l dC dI cI cB h a b c d v fw fd fs fn x c_4) (cwV 1 hts gX3_reads_X3_wordAt rfl rfl rfl (by decide +kernel) ⟨Nat.le_of_ble_eq_true rfl, Nat.le_of_ble_eq_true rfl⟩) (ro_preV hK hP (ci := 1) (q0 := 0) rfl rfl) rfl rfl hl.1 rfl (lv_room (Nat.le_of_ble_eq_true rfl)) dX3_reads_9 ⟨Nat.zero_le _, Nat.zero_le _⟩) hS (fun H locs hk hS => ?_)
    have hP := hk _ _ _ hP
    refine ro_call (va_runS (As := [.int (fX3_wordAt v fw fd fs fn x)]) (rest := []) ⟨hx, hb, hml, hown, hts⟩ (kX3_isLegal l (fX3_wordAt v fw fd fs fn x) ) (va_cwS 1 hts gX3_reads_X3_isLegal rfl rfl rfl (by decide +kernel) ⟨Nat.le_of_ble_eq_true rfl, Nat.le_of_ble_eq_true rfl⟩) pu_preS rfl rfl hl.1 rfl (lv_room (Nat.le_of_ble_eq_true rfl)) dX3_reads_12 ⟨Nat.zero_le _, Nat.zero_le _⟩) hS (fun H locs hk hS => ?_)
    have hP := hk _ _ _ hP
    refine lv_if_ne (tgt := 20) hx hb dX3_reads_15 (by decide) (fun c_15 => ?_) (fun c_15 => ?_)
    ·
      refine lv_aload_n hx hb dX3_reads_20 rfl (lv_at hl 0 rfl) ?_
      refine lv_iload_n hx hb dX3_reads_21 rfl (lv_at hl 1 rfl) ?_
      refine ro_call (va_runV (As := [.int x]) (rest := []) ⟨hx, hb, hml, hown, hts⟩ (kX3_wordAt l dC dI cI cB h a b c d v fw fd fs fn x c_4) (cwV 1 hts gX3_reads_X3_wordAt rfl rfl rfl (by decide +kernel) ⟨Nat.le_of_ble_eq_true rfl, Nat.le_of_ble_eq_true rfl⟩) (ro_preV hK hP (ci := 1) (q0 := 0) rfl rfl) rfl rfl hl.1 rfl (lv_room (Nat.le_of_ble_eq_true rfl)) dX3_reads_22 ⟨Nat.zero_le _, Nat.zero_le _⟩) hS (fun H locs hk hS => ?_)
      have hP := hk _ _ _ hP
      refine lv_istore_n (lv' := [(3, .int (fX3_wordAt v fw fd fs fn x)), (0, .ref h), (1, .int x), (2, .int r)]) hx hb dX3_reads_25 rfl hl (by decide) rfl (fun ls hl => ?_)
      refine lv_iload_n hx hb dX3_reads_26 rfl (lv_at hl 0 rfl) ?_
      refine ro_call (va_runS (As := [.int (fX3_wordAt v fw fd fs fn x)]) (rest := []) ⟨hx, hb, hml, hown, hts⟩ (kX3_opcode l (fX3_wordAt v fw fd fs fn x) ) (va_cwS 1 hts gX3_reads_X3_opcode rfl rfl rfl (by decide +kernel) ⟨Nat.le_of_ble_eq_true rfl, Nat.le_of_ble_eq_true rfl⟩) pu_preS rfl rfl hl.1 rfl (lv_room (Nat.le_of_ble_eq_true rfl)) dX3_reads_27 ⟨Nat.zero_le _, Nat.zero_le _⟩) hS (fun H locs hk hS => ?_)
      have hP := hk _ _ _ hP
      refine lv_istore (lv' := [(4, .int (fX3_opcode (fX3_wordAt v fw fd fs fn x))), (3, .int (fX3_wordAt v fw fd fs fn x)), (0, .ref h), (1, .int x), (2, .int r)]) hx hb dX3_reads_30 hl (by decide) rfl (fun ls hl => ?_)
      refine lv_iload hx hb dX3_reads_32 (lv_at hl 0 rfl) ?_
      refine lv_bipush (v := 55) hx hb dX3_reads_34 (by decide) ?_
      refine lv_icmp_eq (tgt := 71) hx hb dX3_reads_36 (by decide) (fun c_36 => ?_) (fun c_36 => ?_)
      ·
        refine lv_iconst (v := 0) hx hb dX3_reads_71 (by decide) ?_
        refine lv_istore (lv' := [(5, .int 0), (4, .int (fX3_opcode (fX3_wordAt v fw fd fs fn x))), (3, .int (fX3_wordAt v fw fd fs fn x)), (0, .ref h), (1, .int x), (2, .int r)]) hx hb dX3_reads_72 hl (by decide) rfl (fun ls hl => ?_)
        refine lv_iload hx hb dX3_reads_74 (lv_at hl 1 rfl) ?_
        refine lv_bipush (v := 99) hx hb dX3_reads_76 (by decide) ?_
        refine lv_icmp_eq (tgt := 95) hx hb dX3_reads_78 (by decide) (fun c_78 => ?_) (fun c_78 => ?_)
        ·
          refine lv_iconst (v := 1) hx hb dX3_reads_95 (by decide) ?_
          refine lv_goto (tgt := 100) hx hb dX3_reads_96 (by decide) ?_
          refine lv_istore (lv' := [(6, .int 1), (5, .int 0), (4, .int (fX3_opcode (fX3_wordAt v fw fd fs fn x))), (3, .int (fX3_wordAt v fw fd fs fn x)), (0, .ref h), (1, .int x), (2, .int r)]) hx hb dX3_reads_100 hl (by decide) rfl (fun ls hl => ?_)
          refine lv_iload hx hb dX3_reads_102 (lv_at hl 1 rfl) ?_
          refine lv_if_eq (tgt := 115) hx hb dX3_reads_104 (by decide) (fun c_104 => ?_) (fun c_104 => ?_)
          rotate_left
          · exact absurd c_104 (by decide)
          refine lv_iload hx hb dX3_reads_115 (lv_at hl 0 rfl) ?_
          refine lv_if_eq (tgt := 132) hx hb dX3_reads_117 (by decide) (fun c_117 => ?_) (fun c_117 => ?_)
          · exact absurd c_117 (by decide)
          refine lv_iload_n hx hb dX3_reads_120 rfl (lv_at hl 3 rfl) ?_
          refine ro_call (va_runS (As := [.int (fX3_wordAt v fw fd fs fn x)]) (rest := []) ⟨hx, hb, hml, hown, hts⟩ (kX3_rs2 l (fX3_wordAt v fw fd fs fn x) ) (va_cwS 1 hts gX3_reads_X3_rs2 rfl rfl rfl (by decide +kernel) ⟨Nat.le_of_ble_eq_true rfl, Nat.le_of_ble_eq_true rfl⟩) pu_preS rfl rfl hl.1 rfl (lv_room (Nat.le_of_ble_eq_true rfl)) dX3_reads_121 ⟨Nat.zero_le _, Nat.zero_le _⟩) hS (fun H locs hk hS => ?_)
          have hP := hk _ _ _ hP
          refine lv_iload_n hx hb dX3_reads_124 rfl (lv_at hl 6 rfl) ?_
          refine lv_icmp_ne (tgt := 132) hx hb dX3_reads_125 (by decide) (fun c_125 => ?_) (fun c_125 => ?_)
          ·
            refine lv_iconst (v := 0) hx hb dX3_reads_132 (by decide) ?_
            exact W.zret (v := 0) hx hb hr rfl (fun t ht hW => ro_end (A := ro_N) hS ht (by rw [fX3_reads, if_pos c_4, if_neg c_15, if_pos c_36, if_pos c_78, if_neg c_125])) hS.2.2 dX3_reads_133
          ·
            refine lv_iconst (v := 1) hx hb dX3_reads_128 (by decide) ?_
            refine lv_goto (tgt := 133) hx hb dX3_reads_129 (by decide) ?_
            exact W.zret (v := 1) hx hb hr rfl (fun t ht hW => ro_end (A := ro_N) hS ht (by rw [fX3_reads, if_pos c_4, if_neg c_15, if_pos c_36, if_pos c_78, if_pos c_125])) hS.2.2 dX3_reads_133
        ·
          refine lv_iload hx hb dX3_reads_81 (lv_at hl 1 rfl) ?_
          refine lv_bipush (v := 35) hx hb dX3_reads_83 (by decide) ?_
          refine lv_icmp_eq (tgt := 95) hx hb dX3_reads_85 (by decide) (fun c_85 => ?_) (fun c_85 => ?_)
          ·
            refine lv_iconst (v := 1) hx hb dX3_reads_95 (by decide) ?_
            refine lv_goto (tgt := 100) hx hb dX3_reads_96 (by decide) ?_
            refine lv_istore (lv' := [(6, .int 1), (5, .int 0), (4, .int (fX3_opcode (fX3_wordAt v fw fd fs fn x))), (3, .int (fX3_wordAt v fw fd fs fn x)), (0, .ref h), (1, .int x), (2, .int r)]) hx hb dX3_reads_100 hl (by decide) rfl (fun ls hl => ?_)
            refine lv_iload hx hb dX3_reads_102 (lv_at hl 1 rfl) ?_
            refine lv_if_eq (tgt := 115) hx hb dX3_reads_104 (by decide) (fun c_104 => ?_) (fun c_104 => ?_)
            rotate_left
            · exact absurd c_104 (by decide)
            refine lv_iload hx hb dX3_reads_115 (lv_at hl 0 rfl) ?_
            refine lv_if_eq (tgt := 132) hx hb dX3_reads_117 (by decide) (fun c_117 => ?_) (fun c_117 => ?_)
            · exact absurd c_117 (by decide)
            refine lv_iload_n hx hb dX3_reads_120 rfl (lv_at hl 3 rfl) ?_
            refine ro_call (va_runS (As := [.int (fX3_wordAt v fw fd fs fn x)]) (rest := []) ⟨hx, hb, hml, hown, hts⟩ (kX3_rs2 l (fX3_wordAt v fw fd fs fn x) ) (va_cwS 1 hts gX3_reads_X3_rs2 rfl rfl rfl (by decide +kernel) ⟨Nat.le_of_ble_eq_true rfl, Nat.le_of_ble_eq_true rfl⟩) pu_preS rfl rfl hl.1 rfl (lv_room (Nat.le_of_ble_eq_true rfl)) dX3_reads_121 ⟨Nat.zero_le _, Nat.zero_le _⟩) hS (fun H locs hk hS => ?_)
            have hP := hk _ _ _ hP
            refine lv_iload_n hx hb dX3_reads_124 rfl (lv_at hl 6 rfl) ?_
            refine lv_icmp_ne (tgt := 132) hx hb dX3_reads_125 (by decide) (fun c_125 => ?_) (fun c_125 => ?_)
            ·
              refine lv_iconst (v := 0) hx hb dX3_reads_132 (by decide) ?_
              exact W.zret (v := 0) hx hb hr rfl (fun t ht hW => ro_end (A := ro_N) hS ht (by rw [fX3_reads, if_pos c_4, if_neg c_15, if_pos c_36, if_neg c_78, if_pos c_85, if_neg c_125])) hS.2.2 dX3_reads_133
            ·
              refine lv_iconst (v := 1) hx hb dX3_reads_128 (by decide) ?_
              refine lv_goto (tgt := 133) hx hb dX3_reads_129 (by decide) ?_
              exact W.zret (v := 1) hx hb hr rfl (fun t ht hW => ro_end (A := ro_N) hS ht (by rw [fX3_reads, if_pos c_4, if_neg c_15, if_pos c_36, if_neg c_78, if_pos c_85, if_pos c_125])) hS.2.2 dX3_reads_133
          ·
            refine lv_iload hx hb dX3_reads_88 (lv_at hl 1 rfl) ?_
            refine lv_bipush (v := 51) hx hb dX3_reads_90 (by decide) ?_
            refine lv_icmp_ne (tgt := 99) hx hb dX3_reads_92 (by decide) (fun c_92 => ?_) (fun c_92 => ?_)
            ·
              refine lv_iconst (v := 0) hx hb dX3_reads_99 (by decide) ?_
              refine lv_istore (lv' := [(6, .int 0), (5, .int 0), (4, .int (fX3_opcode (fX3_wordAt v fw fd fs fn x))), (3, .int (fX3_wordAt v fw fd fs fn x)), (0, .ref h), (1, .int x), (2, .int r)]) hx hb dX3_reads_100 hl (by decide) rfl (fun ls hl => ?_)
              refine lv_iload hx hb dX3_reads_102 (lv_at hl 1 rfl) ?_
              refine lv_if_eq (tgt := 115) hx hb dX3_reads_104 (by decide) (fun c_104 => ?_) (fun c_104 => ?_)
              rotate_left
              · exact absurd c_104 (by decide)
              refine lv_iload hx hb dX3_reads_115 (lv_at hl 0 rfl) ?_
              refine lv_if_eq (tgt := 132) hx hb dX3_reads_117 (by decide) (fun c_117 => ?_) (fun c_117 => ?_)
              rotate_left
              · exact absurd c_117 (by decide)
              refine lv_iconst (v := 0) hx hb dX3_reads_132 (by decide) ?_
              exact W.zret (v := 0) hx hb hr rfl (fun t ht hW => ro_end (A := ro_N) hS ht (by rw [fX3_reads, if_pos c_4, if_neg c_15, if_pos c_36, if_neg c_78, if_neg c_85, if_neg c_92])) hS.2.2 dX3_reads_133
            ·
              refine lv_iconst (v := 1) hx hb dX3_reads_95 (by decide) ?_
              refine lv_goto (tgt := 100) hx hb dX3_reads_96 (by decide) ?_
              refine lv_istore (lv' := [(6, .int 1), (5, .int 0), (4, .int (fX3_opcode (fX3_wordAt v fw fd fs fn x))), (3, .int (fX3_wordAt v fw fd fs fn x)), (0, .ref h), (1, .int x), (2, .int r)]) hx hb dX3_reads_100 hl (by decide) rfl (fun ls hl => ?_)
              refine lv_iload hx hb dX3_reads_102 (lv_at hl 1 rfl) ?_
              refine lv_if_eq (tgt := 115) hx hb dX3_reads_104 (by decide) (fun c_104 => ?_) (fun c_104 => ?_)
              rotate_left
              · exact absurd c_104 (by decide)
              refine lv_iload hx hb dX3_reads_115 (lv_at hl 0 rfl) ?_
              refine lv_if_eq (tgt := 132) hx hb dX3_reads_117 (by decide) (fun c_117 => ?_) (fun c_117 => ?_)
              · exact absurd c_117 (by decide)
              refine lv_iload_n hx hb dX3_reads_120 rfl (lv_at hl 3 rfl) ?_
              refine ro_call (va_runS (As := [.int (fX3_wordAt v fw fd fs fn x)]) (rest := []) ⟨hx, hb, hml, hown, hts⟩ (kX3_rs2 l (fX3_wordAt v fw fd fs fn x) ) (va_cwS 1 hts gX3_reads_X3_rs2 rfl rfl rfl (by decide +kernel) ⟨Nat.le_of_ble_eq_true rfl, Nat.le_of_ble_eq_true rfl⟩) pu_preS rfl rfl hl.1 rfl (lv_room (Nat.le_of_ble_eq_true rfl)) dX3_reads_121 ⟨Nat.zero_le _, Nat.zero_le _⟩) hS (fun H locs hk hS => ?_)
              have hP := hk _ _ _ hP
              refine lv_iload_n hx hb dX3_reads_124 rfl (lv_at hl 6 rfl) ?_
              refine lv_icmp_ne (tgt := 132) hx hb dX3_reads_125 (by decide) (fun c_125 => ?_) (fun c_125 => ?_)
              ·
                refine lv_iconst (v := 0) hx hb dX3_reads_132 (by decide) ?_
                exact W.zret (v := 0) hx hb hr rfl (fun t ht hW => ro_end (A := ro_N) hS ht (by rw [fX3_reads, if_pos c_4, if_neg c_15, if_pos c_36, if_neg c_78, if_neg c_85, if_pos c_92, if_neg c_125])) hS.2.2 dX3_reads_133
              ·
                refine lv_iconst (v := 1) hx hb dX3_reads_128 (by decide) ?_
                refine lv_goto (tgt := 133) hx hb dX3_reads_129 (by decide) ?_
                exact W.zret (v := 1) hx hb hr rfl (fun t ht hW => ro_end (A := ro_N) hS ht (by rw [fX3_reads, if_pos c_4, if_neg c_15, if_pos c_36, if_neg c_78, if_neg c_85, if_pos c_92, if_pos c_125])) hS.2.2 dX3_reads_133
      ·
        refine lv_iload hx hb dX3_reads_39 (lv_at hl 0 rfl) ?_
        refine lv_bipush (v := 23) hx hb dX3_reads_41 (by decide) ?_
        refine lv_icmp_eq (tgt := 71) hx hb dX3_reads_43 (by decide) (fun c_43 => ?_) (fun c_43 => ?_)
        ·
          refine lv_iconst (v := 0) hx hb dX3_reads_71 (by decide) ?_
          refine lv_istore (lv' := [(5, .int 0), (4, .int (fX3_opcode (fX3_wordAt v fw fd fs fn x))), (3, .int (fX3_wordAt v fw fd fs fn x)), (0, .ref h), (1, .int x), (2, .int r)]) hx hb dX3_reads_72 hl (by decide) rfl (fun ls hl => ?_)
          refine lv_iload hx hb dX3_reads_74 (lv_at hl 1 rfl) ?_
          refine lv_bipush (v := 99) hx hb dX3_reads_76 (by decide) ?_
          refine lv_icmp_eq (tgt := 95) hx hb dX3_reads_78 (by decide) (fun c_78 => ?_) (fun c_78 => ?_)
          ·
            refine lv_iconst (v := 1) hx hb dX3_reads_95 (by decide) ?_
            refine lv_goto (tgt := 100) hx hb dX3_reads_96 (by decide) ?_
            refine lv_istore (lv' := [(6, .int 1), (5, .int 0), (4, .int (fX3_opcode (fX3_wordAt v fw fd fs fn x))), (3, .int (fX3_wordAt v fw fd fs fn x)), (0, .ref h), (1, .int x), (2, .int r)]) hx hb dX3_reads_100 hl (by decide) rfl (fun ls hl => ?_)
            refine lv_iload hx hb dX3_reads_102 (lv_at hl 1 rfl) ?_
            refine lv_if_eq (tgt := 115) hx hb dX3_reads_104 (by decide) (fun c_104 => ?_) (fun c_104 => ?_)
            rotate_left
            · exact absurd c_104 (by decide)
            refine lv_iload hx hb dX3_reads_115 (lv_at hl 0 rfl) ?_
            refine lv_if_eq (tgt := 132) hx hb dX3_reads_117 (by decide) (fun c_117 => ?_) (fun c_117 => ?_)
            · exact absurd c_117 (by decide)
            refine lv_iload_n hx hb dX3_reads_120 rfl (lv_at hl 3 rfl) ?_
            refine ro_call (va_runS (As := [.int (fX3_wordAt v fw fd fs fn x)]) (rest := []) ⟨hx, hb, hml, hown, hts⟩ (kX3_rs2 l (fX3_wordAt v fw fd fs fn x) ) (va_cwS 1 hts gX3_reads_X3_rs2 rfl rfl rfl (by decide +kernel) ⟨Nat.le_of_ble_eq_true rfl, Nat.le_of_ble_eq_true rfl⟩) pu_preS rfl rfl hl.1 rfl (lv_room (Nat.le_of_ble_eq_true rfl)) dX3_reads_121 ⟨Nat.zero_le _, Nat.zero_le _⟩) hS (fun H locs hk hS => ?_)
            have hP := hk _ _ _ hP
            refine lv_iload_n hx hb dX3_reads_124 rfl (lv_at hl 6 rfl) ?_
            refine lv_icmp_ne (tgt := 132) hx hb dX3_reads_125 (by decide) (fun c_125 => ?_) (fun c_125 => ?_)
            ·
              refine lv_iconst (v := 0) hx hb dX3_reads_132 (by decide) ?_
              exact W.zret (v := 0) hx hb hr rfl (fun t ht hW => ro_end (A := ro_N) hS ht (by rw [fX3_reads, if_pos c_4, if_neg c_15, if_neg c_36, if_pos c_43, if_pos c_78, if_neg c_125])) hS.2.2 dX3_reads_133
            ·
              refine lv_iconst (v := 1) hx hb dX3_reads_128 (by decide) ?_
              refine lv_goto (tgt := 133) hx hb dX3_reads_129 (by decide) ?_
              exact W.zret (v := 1) hx hb hr rfl (fun t ht hW => ro_end (A := ro_N) hS ht (by rw [fX3_reads, if_pos c_4, if_neg c_15, if_neg c_36, if_pos c_43, if_pos c_78, if_pos c_125])) hS.2.2 dX3_reads_133
          ·
            refine lv_iload hx hb dX3_reads_81 (lv_at hl 1 rfl) ?_
            refine lv_bipush (v := 35) hx hb dX3_reads_83 (by decide) ?_
            refine lv_icmp_eq (tgt := 95) hx hb dX3_reads_85 (by decide) (fun c_85 => ?_) (fun c_85 => ?_)
            ·
              refine lv_iconst (v := 1) hx hb dX3_reads_95 (by decide) ?_
              refine lv_goto (tgt := 100) hx hb dX3_reads_96 (by decide) ?_
              refine lv_istore (lv' := [(6, .int 1), (5, .int 0), (4, .int (fX3_opcode (fX3_wordAt v fw fd fs fn x))), (3, .int (fX3_wordAt v fw fd fs fn x)), (0, .ref h), (1, .int x), (2, .int r)]) hx hb dX3_reads_100 hl (by decide) rfl (fun ls hl => ?_)
              refine lv_iload hx hb dX3_reads_102 (lv_at hl 1 rfl) ?_
              refine lv_if_eq (tgt := 115) hx hb dX3_reads_104 (by decide) (fun c_104 => ?_) (fun c_104 => ?_)
              rotate_left
              · exact absurd c_104 (by decide)
              refine lv_iload hx hb dX3_reads_115 (lv_at hl 0 rfl) ?_
              refine lv_if_eq (tgt := 132) hx hb dX3_reads_117 (by decide) (fun c_117 => ?_) (fun c_117 => ?_)
              · exact absurd c_117 (by decide)
              refine lv_iload_n hx hb dX3_reads_120 rfl (lv_at hl 3 rfl) ?_
              refine ro_call (va_runS (As := [.int (fX3_wordAt v fw fd fs fn x)]) (rest := []) ⟨hx, hb, hml, hown, hts⟩ (kX3_rs2 l (fX3_wordAt v fw fd fs fn x) ) (va_cwS 1 hts gX3_reads_X3_rs2 rfl rfl rfl (by decide +kernel) ⟨Nat.le_of_ble_eq_true rfl, Nat.le_of_ble_eq_true rfl⟩) pu_preS rfl rfl hl.1 rfl (lv_room (Nat.le_of_ble_eq_true rfl)) dX3_reads_121 ⟨Nat.zero_le _, Nat.zero_le _⟩) hS (fun H locs hk hS => ?_)
              have hP := hk _ _ _ hP
              refine lv_iload_n hx hb dX3_reads_124 rfl (lv_at hl 6 rfl) ?_
              refine lv_icmp_ne (tgt := 132) hx hb dX3_reads_125 (by decide) (fun c_125 => ?_) (fun c_125 => ?_)
              ·
                refine lv_iconst (v := 0) hx hb dX3_reads_132 (by decide) ?_
                exact W.zret (v := 0) hx hb hr rfl (fun t ht hW => ro_end (A := ro_N) hS ht (by rw [fX3_reads, if_pos c_4, if_neg c_15, if_neg c_36, if_pos c_43, if_neg c_78, if_pos c_85, if_neg c_125])) hS.2.2 dX3_reads_133
              ·
                refine lv_iconst (v := 1) hx hb dX3_reads_128 (by decide) ?_
                refine lv_goto (tgt := 133) hx hb dX3_reads_129 (by decide) ?_
                exact W.zret (v := 1) hx hb hr rfl (fun t ht hW => ro_end (A := ro_N) hS ht (by rw [fX3_reads, if_pos c_4, if_neg c_15, if_neg c_36, if_pos c_43, if_neg c_78, if_pos c_85, if_pos c_125])) hS.2.2 dX3_reads_133
            ·
              refine lv_iload hx hb dX3_reads_88 (lv_at hl 1 rfl) ?_
              refine lv_bipush (v := 51) hx hb dX3_reads_90 (by decide) ?_
              refine lv_icmp_ne (tgt := 99) hx hb dX3_reads_92 (by decide) (fun c_92 => ?_) (fun c_92 => ?_)
              ·
                refine lv_iconst (v := 0) hx hb dX3_reads_99 (by decide) ?_
                refine lv_istore (lv' := [(6, .int 0), (5, .int 0), (4, .int (fX3_opcode (fX3_wordAt v fw fd fs fn x))), (3, .int (fX3_wordAt v fw fd fs fn x)), (0, .ref h), (1, .int x), (2, .int r)]) hx hb dX3_reads_100 hl (by decide) rfl (fun ls hl => ?_)
                refine lv_iload hx hb dX3_reads_102 (lv_at hl 1 rfl) ?_
                refine lv_if_eq (tgt := 115) hx hb dX3_reads_104 (by decide) (fun c_104 => ?_) (fun c_104 => ?_)
                rotate_left
                · exact absurd c_104 (by decide)
                refine lv_iload hx hb dX3_reads_115 (lv_at hl 0 rfl) ?_
                refine lv_if_eq (tgt := 132) hx hb dX3_reads_117 (by decide) (fun c_117 => ?_) (fun c_117 => ?_)
                rotate_left
                · exact absurd c_117 (by decide)
                refine lv_iconst (v := 0) hx hb dX3_reads_132 (by decide) ?_
                exact W.zret (v := 0) hx hb hr rfl (fun t ht hW => ro_end (A := ro_N) hS ht (by rw [fX3_reads, if_pos c_4, if_neg c_15, if_neg c_36, if_pos c_43, if_neg c_78, if_neg c_85, if_neg c_92])) hS.2.2 dX3_reads_133
              ·
                refine lv_iconst (v := 1) hx hb dX3_reads_95 (by decide) ?_
                refine lv_goto (tgt := 100) hx hb dX3_reads_96 (by decide) ?_
                refine lv_istore (lv' := [(6, .int 1), (5, .int 0), (4, .int (fX3_opcode (fX3_wordAt v fw fd fs fn x))), (3, .int (fX3_wordAt v fw fd fs fn x)), (0, .ref h), (1, .int x), (2, .int r)]) hx hb dX3_reads_100 hl (by decide) rfl (fun ls hl => ?_)
                refine lv_iload hx hb dX3_reads_102 (lv_at hl 1 rfl) ?_
                refine lv_if_eq (tgt := 115) hx hb dX3_reads_104 (by decide) (fun c_104 => ?_) (fun c_104 => ?_)
                rotate_left
                · exact absurd c_104 (by decide)
                refine lv_iload hx hb dX3_reads_115 (lv_at hl 0 rfl) ?_
                refine lv_if_eq (tgt := 132) hx hb dX3_reads_117 (by decide) (fun c_117 => ?_) (fun c_117 => ?_)
                · exact absurd c_117 (by decide)
                refine lv_iload_n hx hb dX3_reads_120 rfl (lv_at hl 3 rfl) ?_
                refine ro_call (va_runS (As := [.int (fX3_wordAt v fw fd fs fn x)]) (rest := []) ⟨hx, hb, hml, hown, hts⟩ (kX3_rs2 l (fX3_wordAt v fw fd fs fn x) ) (va_cwS 1 hts gX3_reads_X3_rs2 rfl rfl rfl (by decide +kernel) ⟨Nat.le_of_ble_eq_true rfl, Nat.le_of_ble_eq_true rfl⟩) pu_preS rfl rfl hl.1 rfl (lv_room (Nat.le_of_ble_eq_true rfl)) dX3_reads_121 ⟨Nat.zero_le _, Nat.zero_le _⟩) hS (fun H locs hk hS => ?_)
                have hP := hk _ _ _ hP
                refine lv_iload_n hx hb dX3_reads_124 rfl (lv_at hl 6 rfl) ?_
                refine lv_icmp_ne (tgt := 132) hx hb dX3_reads_125 (by decide) (fun c_125 => ?_) (fun c_125 => ?_)
                ·
                  refine lv_iconst (v := 0) hx hb dX3_reads_132 (by decide) ?_
                  exact W.zret (v := 0) hx hb hr rfl (fun t ht hW => ro_end (A := ro_N) hS ht (by rw [fX3_reads, if_pos c_4, if_neg c_15, if_neg c_36, if_pos c_43, if_neg c_78, if_neg c_85, if_pos c_92, if_neg c_125])) hS.2.2 dX3_reads_133
                ·
                  refine lv_iconst (v := 1) hx hb dX3_reads_128 (by decide) ?_
                  refine lv_goto (tgt := 133) hx hb dX3_reads_129 (by decide) ?_
                  exact W.zret (v := 1) hx hb hr rfl (fun t ht hW => ro_end (A := ro_N) hS ht (by rw [fX3_reads, if_pos c_4, if_neg c_15, if_neg c_36, if_pos c_43, if_neg c_78, if_neg c_85, if_pos c_92, if_pos c_125])) hS.2.2 dX3_reads_133
        ·
          refine lv_iload hx hb dX3_reads_46 (lv_at hl 0 rfl) ?_
          refine lv_bipush (v := 111) hx hb dX3_reads_48 (by decide) ?_
          refine lv_icmp_eq (tgt := 71) hx hb dX3_reads_50 (by decide) (fun c_50 => ?_) (fun c_50 => ?_)
          ·
            refine lv_iconst (v := 0) hx hb dX3_reads_71 (by decide) ?_
            refine lv_istore (lv' := [(5, .int 0), (4, .int (fX3_opcode (fX3_wordAt v fw fd fs fn x))), (3, .int (fX3_wordAt v fw fd fs fn x)), (0, .ref h), (1, .int x), (2, .int r)]) hx hb dX3_reads_72 hl (by decide) rfl (fun ls hl => ?_)
            refine lv_iload hx hb dX3_reads_74 (lv_at hl 1 rfl) ?_
            refine lv_bipush (v := 99) hx hb dX3_reads_76 (by decide) ?_
            refine lv_icmp_eq (tgt := 95) hx hb dX3_reads_78 (by decide) (fun c_78 => ?_) (fun c_78 => ?_)
            ·
              refine lv_iconst (v := 1) hx hb dX3_reads_95 (by decide) ?_
              refine lv_goto (tgt := 100) hx hb dX3_reads_96 (by decide) ?_
              refine lv_istore (lv' := [(6, .int 1), (5, .int 0), (4, .int (fX3_opcode (fX3_wordAt v fw fd fs fn x))), (3, .int (fX3_wordAt v fw fd fs fn x)), (0, .ref h), (1, .int x), (2, .int r)]) hx hb dX3_reads_100 hl (by decide) rfl (fun ls hl => ?_)
              refine lv_iload hx hb dX3_reads_102 (lv_at hl 1 rfl) ?_
              refine lv_if_eq (tgt := 115) hx hb dX3_reads_104 (by decide) (fun c_104 => ?_) (fun c_104 => ?_)
              rotate_left
              · exact absurd c_104 (by decide)
              refine lv_iload hx hb dX3_reads_115 (lv_at hl 0 rfl) ?_
              refine lv_if_eq (tgt := 132) hx hb dX3_reads_117 (by decide) (fun c_117 => ?_) (fun c_117 => ?_)
              · exact absurd c_117 (by decide)
              refine lv_iload_n hx hb dX3_reads_120 rfl (lv_at hl 3 rfl) ?_
              refine ro_call (va_runS (As := [.int (fX3_wordAt v fw fd fs fn x)]) (rest := []) ⟨hx, hb, hml, hown, hts⟩ (kX3_rs2 l (fX3_wordAt v fw fd fs fn x) ) (va_cwS 1 hts gX3_reads_X3_rs2 rfl rfl rfl (by decide +kernel) ⟨Nat.le_of_ble_eq_true rfl, Nat.le_of_ble_eq_true rfl⟩) pu_preS rfl rfl hl.1 rfl (lv_room (Nat.le_of_ble_eq_true rfl)) dX3_reads_121 ⟨Nat.zero_le _, Nat.zero_le _⟩) hS (fun H locs hk hS => ?_)
              have hP := hk _ _ _ hP
              refine lv_iload_n hx hb dX3_reads_124 rfl (lv_at hl 6 rfl) ?_
              refine lv_icmp_ne (tgt := 132) hx hb dX3_reads_125 (by decide) (fun c_125 => ?_) (fun c_125 => ?_)
              ·
                refine lv_iconst (v := 0) hx hb dX3_reads_132 (by decide) ?_
                exact W.zret (v := 0) hx hb hr rfl (fun t ht hW => ro_end (A := ro_N) hS ht (by rw [fX3_reads, if_pos c_4, if_neg c_15, if_neg c_36, if_neg c_43, if_pos c_50, if_pos c_78, if_neg c_125])) hS.2.2 dX3_reads_133
              ·
                refine lv_iconst (v := 1) hx hb dX3_reads_128 (by decide) ?_
                refine lv_goto (tgt := 133) hx hb dX3_reads_129 (by decide) ?_
                exact W.zret (v := 1) hx hb hr rfl (fun t ht hW => ro_end (A := ro_N) hS ht (by rw [fX3_reads, if_pos c_4, if_neg c_15, if_neg c_36, if_neg c_43, if_pos c_50, if_pos c_78, if_pos c_125])) hS.2.2 dX3_reads_133
            ·
              refine lv_iload hx hb dX3_reads_81 (lv_at hl 1 rfl) ?_
              refine lv_bipush (v := 35) hx hb dX3_reads_83 (by decide) ?_
              refine lv_icmp_eq (tgt := 95) hx hb dX3_reads_85 (by decide) (fun c_85 => ?_) (fun c_85 => ?_)
              ·
                refine lv_iconst (v := 1) hx hb dX3_reads_95 (by decide) ?_
                refine lv_goto (tgt := 100) hx hb dX3_reads_96 (by decide) ?_
                refine lv_istore (lv' := [(6, .int 1), (5, .int 0), (4, .int (fX3_opcode (fX3_wordAt v fw fd fs fn x))), (3, .int (fX3_wordAt v fw fd fs fn x)), (0, .ref h), (1, .int x), (2, .int r)]) hx hb dX3_reads_100 hl (by decide) rfl (fun ls hl => ?_)
                refine lv_iload hx hb dX3_reads_102 (lv_at hl 1 rfl) ?_
                refine lv_if_eq (tgt := 115) hx hb dX3_reads_104 (by decide) (fun c_104 => ?_) (fun c_104 => ?_)
                rotate_left
                · exact absurd c_104 (by decide)
                refine lv_iload hx hb dX3_reads_115 (lv_at hl 0 rfl) ?_
                refine lv_if_eq (tgt := 132) hx hb dX3_reads_117 (by decide) (fun c_117 => ?_) (fun c_117 => ?_)
                · exact absurd c_117 (by decide)
                refine lv_iload_n hx hb dX3_reads_120 rfl (lv_at hl 3 rfl) ?_
                refine ro_call (va_runS (As := [.int (fX3_wordAt v fw fd fs fn x)]) (rest := []) ⟨hx, hb, hml, hown, hts⟩ (kX3_rs2 l (fX3_wordAt v fw fd fs fn x) ) (va_cwS 1 hts gX3_reads_X3_rs2 rfl rfl rfl (by decide +kernel) ⟨Nat.le_of_ble_eq_true rfl, Nat.le_of_ble_eq_true rfl⟩) pu_preS rfl rfl hl.1 rfl (lv_room (Nat.le_of_ble_eq_true rfl)) dX3_reads_121 ⟨Nat.zero_le _, Nat.zero_le _⟩) hS (fun H locs hk hS => ?_)
                have hP := hk _ _ _ hP
                refine lv_iload_n hx hb dX3_reads_124 rfl (lv_at hl 6 rfl) ?_
                refine lv_icmp_ne (tgt := 132) hx hb dX3_reads_125 (by decide) (fun c_125 => ?_) (fun c_125 => ?_)
                ·
                  refine lv_iconst (v := 0) hx hb dX3_reads_132 (by decide) ?_
                  exact W.zret (v := 0) hx hb hr rfl (fun t ht hW => ro_end (A := ro_N) hS ht (by rw [fX3_reads, if_pos c_4, if_neg c_15, if_neg c_36, if_neg c_43, if_pos c_50, if_neg c_78, if_pos c_85, if_neg c_125])) hS.2.2 dX3_reads_133
                ·
                  refine lv_iconst (v := 1) hx hb dX3_reads_128 (by decide) ?_
                  refine lv_goto (tgt := 133) hx hb dX3_reads_129 (by decide) ?_
                  exact W.zret (v := 1) hx hb hr rfl (fun t ht hW => ro_end (A := ro_N) hS ht (by rw [fX3_reads, if_pos c_4, if_neg c_15, if_neg c_36, if_neg c_43, if_pos c_50, if_neg c_78, if_pos c_85, if_pos c_125])) hS.2.2 dX3_reads_133
              ·
                refine lv_iload hx hb dX3_reads_88 (lv_at hl 1 rfl) ?_
                refine lv_bipush (v := 51) hx hb dX3_reads_90 (by decide) ?_
                refine lv_icmp_ne (tgt := 99) hx hb dX3_reads_92 (by decide) (fun c_92 => ?_) (fun c_92 => ?_)
                ·
                  refine lv_iconst (v := 0) hx hb dX3_reads_99 (by decide) ?_
                  refine lv_istore (lv' := [(6, .int 0), (5, .int 0), (4, .int (fX3_opcode (fX3_wordAt v fw fd fs fn x))), (3, .int (fX3_wordAt v fw fd fs fn x)), (0, .ref h), (1, .int x), (2, .int r)]) hx hb dX3_reads_100 hl (by decide) rfl (fun ls hl => ?_)
                  refine lv_iload hx hb dX3_reads_102 (lv_at hl 1 rfl) ?_
                  refine lv_if_eq (tgt := 115) hx hb dX3_reads_104 (by decide) (fun c_104 => ?_) (fun c_104 => ?_)
                  rotate_left
                  · exact absurd c_104 (by decide)
                  refine lv_iload hx hb dX3_reads_115 (lv_at hl 0 rfl) ?_
                  refine lv_if_eq (tgt := 132) hx hb dX3_reads_117 (by decide) (fun c_117 => ?_) (fun c_117 => ?_)
                  rotate_left
                  · exact absurd c_117 (by decide)
                  refine lv_iconst (v := 0) hx hb dX3_reads_132 (by decide) ?_
                  exact W.zret (v := 0) hx hb hr rfl (fun t ht hW => ro_end (A := ro_N) hS ht (by rw [fX3_reads, if_pos c_4, if_neg c_15, if_neg c_36, if_neg c_43, if_pos c_50, if_neg c_78, if_neg c_85, if_neg c_92])) hS.2.2 dX3_reads_133
                ·
                  refine lv_iconst (v := 1) hx hb dX3_reads_95 (by decide) ?_
                  refine lv_goto (tgt := 100) hx hb dX3_reads_96 (by decide) ?_
                  refine lv_istore (lv' := [(6, .int 1), (5, .int 0), (4, .int (fX3_opcode (fX3_wordAt v fw fd fs fn x))), (3, .int (fX3_wordAt v fw fd fs fn x)), (0, .ref h), (1, .int x), (2, .int r)]) hx hb dX3_reads_100 hl (by decide) rfl (fun ls hl => ?_)
                  refine lv_iload hx hb dX3_reads_102 (lv_at hl 1 rfl) ?_
                  refine lv_if_eq (tgt := 115) hx hb dX3_reads_104 (by decide) (fun c_104 => ?_) (fun c_104 => ?_)
                  rotate_left
                  · exact absurd c_104 (by decide)
                  refine lv_iload hx hb dX3_reads_115 (lv_at hl 0 rfl) ?_
                  refine lv_if_eq (tgt := 132) hx hb dX3_reads_117 (by decide) (fun c_117 => ?_) (fun c_117 => ?_)
                  · exact absurd c_117 (by decide)
                  refine lv_iload_n hx hb dX3_reads_120 rfl (lv_at hl 3 rfl) ?_
                  refine ro_call (va_runS (As := [.int (fX3_wordAt v fw fd fs fn x)]) (rest := []) ⟨hx, hb, hml, hown, hts⟩ (kX3_rs2 l (fX3_wordAt v fw fd fs fn x) ) (va_cwS 1 hts gX3_reads_X3_rs2 rfl rfl rfl (by decide +kernel) ⟨Nat.le_of_ble_eq_true rfl, Nat.le_of_ble_eq_true rfl⟩) pu_preS rfl rfl hl.1 rfl (lv_room (Nat.le_of_ble_eq_true rfl)) dX3_reads_121 ⟨Nat.zero_le _, Nat.zero_le _⟩) hS (fun H locs hk hS => ?_)
                  have hP := hk _ _ _ hP
                  refine lv_iload_n hx hb dX3_reads_124 rfl (lv_at hl 6 rfl) ?_
                  refine lv_icmp_ne (tgt := 132) hx hb dX3_reads_125 (by decide) (fun c_125 => ?_) (fun c_125 => ?_)
                  ·
                    refine lv_iconst (v := 0) hx hb dX3_reads_132 (by decide) ?_
                    exact W.zret (v := 0) hx hb hr rfl (fun t ht hW => ro_end (A := ro_N) hS ht (by rw [fX3_reads, if_pos c_4, if_neg c_15, if_neg c_36, if_neg c_43, if_pos c_50, if_neg c_78, if_neg c_85, if_pos c_92, if_neg c_125])) hS.2.2 dX3_reads_133
                  ·
                    refine lv_iconst (v := 1) hx hb dX3_reads_128 (by decide) ?_
                    refine lv_goto (tgt := 133) hx hb dX3_reads_129 (by decide) ?_
                    exact W.zret (v := 1) hx hb hr rfl (fun t ht hW => ro_end (A := ro_N) hS ht (by rw [fX3_reads, if_pos c_4, if_neg c_15, if_neg c_36, if_neg c_43, if_pos c_50, if_neg c_78, if_neg c_85, if_pos c_92, if_pos c_125])) hS.2.2 dX3_reads_133
          ·
            refine lv_iload hx hb dX3_reads_53 (lv_at hl 0 rfl) ?_
            refine lv_bipush (v := 15) hx hb dX3_reads_55 (by decide) ?_
            refine lv_icmp_eq (tgt := 71) hx hb dX3_reads_57 (by decide) (fun c_57 => ?_) (fun c_57 => ?_)
            ·
              refine lv_iconst (v := 0) hx hb dX3_reads_71 (by decide) ?_
              refine lv_istore (lv' := [(5, .int 0), (4, .int (fX3_opcode (fX3_wordAt v fw fd fs fn x))), (3, .int (fX3_wordAt v fw fd fs fn x)), (0, .ref h), (1, .int x), (2, .int r)]) hx hb dX3_reads_72 hl (by decide) rfl (fun ls hl => ?_)
              refine lv_iload hx hb dX3_reads_74 (lv_at hl 1 rfl) ?_
              refine lv_bipush (v := 99) hx hb dX3_reads_76 (by decide) ?_
              refine lv_icmp_eq (tgt := 95) hx hb dX3_reads_78 (by decide) (fun c_78 => ?_) (fun c_78 => ?_)
              ·
                refine lv_iconst (v := 1) hx hb dX3_reads_95 (by decide) ?_
                refine lv_goto (tgt := 100) hx hb dX3_reads_96 (by decide) ?_
                refine lv_istore (lv' := [(6, .int 1), (5, .int 0), (4, .int (fX3_opcode (fX3_wordAt v fw fd fs fn x))), (3, .int (fX3_wordAt v fw fd fs fn x)), (0, .ref h), (1, .int x), (2, .int r)]) hx hb dX3_reads_100 hl (by decide) rfl (fun ls hl => ?_)
                refine lv_iload hx hb dX3_reads_102 (lv_at hl 1 rfl) ?_
                refine lv_if_eq (tgt := 115) hx hb dX3_reads_104 (by decide) (fun c_104 => ?_) (fun c_104 => ?_)
                rotate_left
                · exact absurd c_104 (by decide)
                refine lv_iload hx hb dX3_reads_115 (lv_at hl 0 rfl) ?_
                refine lv_if_eq (tgt := 132) hx hb dX3_reads_117 (by decide) (fun c_117 => ?_) (fun c_117 => ?_)
                · exact absurd c_117 (by decide)
                refine lv_iload_n hx hb dX3_reads_120 rfl (lv_at hl 3 rfl) ?_
                refine ro_call (va_runS (As := [.int (fX3_wordAt v fw fd fs fn x)]) (rest := []) ⟨hx, hb, hml, hown, hts⟩ (kX3_rs2 l (fX3_wordAt v fw fd fs fn x) ) (va_cwS 1 hts gX3_reads_X3_rs2 rfl rfl rfl (by decide +kernel) ⟨Nat.le_of_ble_eq_true rfl, Nat.le_of_ble_eq_true rfl⟩) pu_preS rfl rfl hl.1 rfl (lv_room (Nat.le_of_ble_eq_true rfl)) dX3_reads_121 ⟨Nat.zero_le _, Nat.zero_le _⟩) hS (fun H locs hk hS => ?_)
                have hP := hk _ _ _ hP
                refine lv_iload_n hx hb dX3_reads_124 rfl (lv_at hl 6 rfl) ?_
                refine lv_icmp_ne (tgt := 132) hx hb dX3_reads_125 (by decide) (fun c_125 => ?_) (fun c_125 => ?_)
                ·
                  refine lv_iconst (v := 0) hx hb dX3_reads_132 (by decide) ?_
                  exact W.zret (v := 0) hx hb hr rfl (fun t ht hW => ro_end (A := ro_N) hS ht (by rw [fX3_reads, if_pos c_4, if_neg c_15, if_neg c_36, if_neg c_43, if_neg c_50, if_pos c_57, if_pos c_78, if_neg c_125])) hS.2.2 dX3_reads_133
                ·
                  refine lv_iconst (v := 1) hx hb dX3_reads_128 (by decide) ?_
                  refine lv_goto (tgt := 133) hx hb dX3_reads_129 (by decide) ?_
                  exact W.zret (v := 1) hx hb hr rfl (fun t ht hW => ro_end (A := ro_N) hS ht (by rw [fX3_reads, if_pos c_4, if_neg c_15, if_neg c_36, if_neg c_43, if_neg c_50, if_pos c_57, if_pos c_78, if_pos c_125])) hS.2.2 dX3_reads_133
              ·
                refine lv_iload hx hb dX3_reads_81 (lv_at hl 1 rfl) ?_
                refine lv_bipush (v := 35) hx hb dX3_reads_83 (by decide) ?_
                refine lv_icmp_eq (tgt := 95) hx hb dX3_reads_85 (by decide) (fun c_85 => ?_) (fun c_85 => ?_)
                ·
                  refine lv_iconst (v := 1) hx hb dX3_reads_95 (by decide) ?_
                  refine lv_goto (tgt := 100) hx hb dX3_reads_96 (by decide) ?_
                  refine lv_istore (lv' := [(6, .int 1), (5, .int 0), (4, .int (fX3_opcode (fX3_wordAt v fw fd fs fn x))), (3, .int (fX3_wordAt v fw fd fs fn x)), (0, .ref h), (1, .int x), (2, .int r)]) hx hb dX3_reads_100 hl (by decide) rfl (fun ls hl => ?_)
                  refine lv_iload hx hb dX3_reads_102 (lv_at hl 1 rfl) ?_
                  refine lv_if_eq (tgt := 115) hx hb dX3_reads_104 (by decide) (fun c_104 => ?_) (fun c_104 => ?_)
                  rotate_left
                  · exact absurd c_104 (by decide)
                  refine lv_iload hx hb dX3_reads_115 (lv_at hl 0 rfl) ?_
                  refine lv_if_eq (tgt := 132) hx hb dX3_reads_117 (by decide) (fun c_117 => ?_) (fun c_117 => ?_)
                  · exact absurd c_117 (by decide)
                  refine lv_iload_n hx hb dX3_reads_120 rfl (lv_at hl 3 rfl) ?_
                  refine ro_call (va_runS (As := [.int (fX3_wordAt v fw fd fs fn x)]) (rest := []) ⟨hx, hb, hml, hown, hts⟩ (kX3_rs2 l (fX3_wordAt v fw fd fs fn x) ) (va_cwS 1 hts gX3_reads_X3_rs2 rfl rfl rfl (by decide +kernel) ⟨Nat.le_of_ble_eq_true rfl, Nat.le_of_ble_eq_true rfl⟩) pu_preS rfl rfl hl.1 rfl (lv_room (Nat.le_of_ble_eq_true rfl)) dX3_reads_121 ⟨Nat.zero_le _, Nat.zero_le _⟩) hS (fun H locs hk hS => ?_)
                  have hP := hk _ _ _ hP
                  refine lv_iload_n hx hb dX3_reads_124 rfl (lv_at hl 6 rfl) ?_
                  refine lv_icmp_ne (tgt := 132) hx hb dX3_reads_125 (by decide) (fun c_125 => ?_) (fun c_125 => ?_)
                  ·
                    refine lv_iconst (v := 0) hx hb dX3_reads_132 (by decide) ?_
                    exact W.zret (v := 0) hx hb hr rfl (fun t ht hW => ro_end (A := ro_N) hS ht (by rw [fX3_reads, if_pos c_4, if_neg c_15, if_neg c_36, if_neg c_43, if_neg c_50, if_pos c_57, if_neg c_78, if_pos c_85, if_neg c_125])) hS.2.2 dX3_reads_133
                  ·
                    refine lv_iconst (v := 1) hx hb dX3_reads_128 (by decide) ?_
                    refine lv_goto (tgt := 133) hx hb dX3_reads_129 (by decide) ?_
                    exact W.zret (v := 1) hx hb hr rfl (fun t ht hW => ro_end (A := ro_N) hS ht (by rw [fX3_reads, if_pos c_4, if_neg c_15, if_neg c_36, if_neg c_43, if_neg c_50, if_pos c_57, if_neg c_78, if_pos c_85, if_pos c_125])) hS.2.2 dX3_reads_133
                ·
                  refine lv_iload hx hb dX3_reads_88 (lv_at hl 1 rfl) ?_
                  refine lv_bipush (v := 51) hx hb dX3_reads_90 (by decide) ?_
                  refine lv_icmp_ne (tgt := 99) hx hb dX3_reads_92 (by decide) (fun c_92 => ?_) (fun c_92 => ?_)
                  ·
                    refine lv_iconst (v := 0) hx hb dX3_reads_99 (by decide) ?_
                    refine lv_istore (lv' := [(6, .int 0), (5, .int 0), (4, .int (fX3_opcode (fX3_wordAt v fw fd fs fn x))), (3, .int (fX3_wordAt v fw fd fs fn x)), (0, .ref h), (1, .int x), (2, .int r)]) hx hb dX3_reads_100 hl (by decide) rfl (fun ls hl => ?_)
                    refine lv_iload hx hb dX3_reads_102 (lv_at hl 1 rfl) ?_
                    refine lv_if_eq (tgt := 115) hx hb dX3_reads_104 (by decide) (fun c_104 => ?_) (fun c_104 => ?_)
                    rotate_left
                    · exact absurd c_104 (by decide)
                    refine lv_iload hx hb dX3_reads_115 (lv_at hl 0 rfl) ?_
                    refine lv_if_eq (tgt := 132) hx hb dX3_reads_117 (by decide) (fun c_117 => ?_) (fun c_117 => ?_)
                    rotate_left
                    · exact absurd c_117 (by decide)
                    refine lv_iconst (v := 0) hx hb dX3_reads_132 (by decide) ?_
                    exact W.zret (v := 0) hx hb hr rfl (fun t ht hW => ro_end (A := ro_N) hS ht (by rw [fX3_reads, if_pos c_4, if_neg c_15, if_neg c_36, if_neg c_43, if_neg c_50, if_pos c_57, if_neg c_78, if_neg c_85, if_neg c_92])) hS.2.2 dX3_reads_133
                  ·
                    refine lv_iconst (v := 1) hx hb dX3_reads_95 (by decide) ?_
                    refine lv_goto (tgt := 100) hx hb dX3_reads_96 (by decide) ?_
                    refine lv_istore (lv' := [(6, .int 1), (5, .int 0), (4, .int (fX3_opcode (fX3_wordAt v fw fd fs fn x))), (3, .int (fX3_wordAt v fw fd fs fn x)), (0, .ref h), (1, .int x), (2, .int r)]) hx hb dX3_reads_100 hl (by decide) rfl (fun ls hl => ?_)
                    refine lv_iload hx hb dX3_reads_102 (lv_at hl 1 rfl) ?_
                    refine lv_if_eq (tgt := 115) hx hb dX3_reads_104 (by decide) (fun c_104 => ?_) (fun c_104 => ?_)
                    rotate_left
                    · exact absurd c_104 (by decide)
                    refine lv_iload hx hb dX3_reads_115 (lv_at hl 0 rfl) ?_
                    refine lv_if_eq (tgt := 132) hx hb dX3_reads_117 (by decide) (fun c_117 => ?_) (fun c_117 => ?_)
                    · exact absurd c_117 (by decide)
                    refine lv_iload_n hx hb dX3_reads_120 rfl (lv_at hl 3 rfl) ?_
                    refine ro_call (va_runS (As := [.int (fX3_wordAt v fw fd fs fn x)]) (rest := []) ⟨hx, hb, hml, hown, hts⟩ (kX3_rs2 l (fX3_wordAt v fw fd fs fn x) ) (va_cwS 1 hts gX3_reads_X3_rs2 rfl rfl rfl (by decide +kernel) ⟨Nat.le_of_ble_eq_true rfl, Nat.le_of_ble_eq_true rfl⟩) pu_preS rfl rfl hl.1 rfl (lv_room (Nat.le_of_ble_eq_true rfl)) dX3_reads_121 ⟨Nat.zero_le _, Nat.zero_le _⟩) hS (fun H locs hk hS => ?_)
                    have hP := hk _ _ _ hP
                    refine lv_iload_n hx hb dX3_reads_124 rfl (lv_at hl 6 rfl) ?_
                    refine lv_icmp_ne (tgt := 132) hx hb dX3_reads_125 (by decide) (fun c_125 => ?_) (fun c_125 => ?_)
                    ·
                      refine lv_iconst (v := 0) hx hb dX3_reads_132 (by decide) ?_
                      exact W.zret (v := 0) hx hb hr rfl (fun t ht hW => ro_end (A := ro_N) hS ht (by rw [fX3_reads, if_pos c_4, if_neg c_15, if_neg c_36, if_neg c_43, if_neg c_50, if_pos c_57, if_neg c_78, if_neg c_85, if_pos c_92, if_neg c_125])) hS.2.2 dX3_reads_133
                    ·
                      refine lv_iconst (v := 1) hx hb dX3_reads_128 (by decide) ?_
                      refine lv_goto (tgt := 133) hx hb dX3_reads_129 (by decide) ?_
                      exact W.zret (v := 1) hx hb hr rfl (fun t ht hW => ro_end (A := ro_N) hS ht (by rw [fX3_reads, if_pos c_4, if_neg c_15, if_neg c_36, if_neg c_43, if_neg c_50, if_pos c_57, if_neg c_78, if_neg c_85, if_pos c_92, if_pos c_125])) hS.2.2 dX3_reads_133
            ·
              refine lv_iload hx hb dX3_reads_60 (lv_at hl 0 rfl) ?_
              refine lv_bipush (v := 115) hx hb dX3_reads_62 (by decide) ?_
              refine lv_icmp_eq (tgt := 71) hx hb dX3_reads_64 (by decide) (fun c_64 => ?_) (fun c_64 => ?_)
              ·
                refine lv_iconst (v := 0) hx hb dX3_reads_71 (by decide) ?_
                refine lv_istore (lv' := [(5, .int 0), (4, .int (fX3_opcode (fX3_wordAt v fw fd fs fn x))), (3, .int (fX3_wordAt v fw fd fs fn x)), (0, .ref h), (1, .int x), (2, .int r)]) hx hb dX3_reads_72 hl (by decide) rfl (fun ls hl => ?_)
                refine lv_iload hx hb dX3_reads_74 (lv_at hl 1 rfl) ?_
                refine lv_bipush (v := 99) hx hb dX3_reads_76 (by decide) ?_
                refine lv_icmp_eq (tgt := 95) hx hb dX3_reads_78 (by decide) (fun c_78 => ?_) (fun c_78 => ?_)
                ·
                  refine lv_iconst (v := 1) hx hb dX3_reads_95 (by decide) ?_
                  refine lv_goto (tgt := 100) hx hb dX3_reads_96 (by decide) ?_
                  refine lv_istore (lv' := [(6, .int 1), (5, .int 0), (4, .int (fX3_opcode (fX3_wordAt v fw fd fs fn x))), (3, .int (fX3_wordAt v fw fd fs fn x)), (0, .ref h), (1, .int x), (2, .int r)]) hx hb dX3_reads_100 hl (by decide) rfl (fun ls hl => ?_)
                  refine lv_iload hx hb dX3_reads_102 (lv_at hl 1 rfl) ?_
                  refine lv_if_eq (tgt := 115) hx hb dX3_reads_104 (by decide) (fun c_104 => ?_) (fun c_104 => ?_)
                  rotate_left
                  · exact absurd c_104 (by decide)
                  refine lv_iload hx hb dX3_reads_115 (lv_at hl 0 rfl) ?_
                  refine lv_if_eq (tgt := 132) hx hb dX3_reads_117 (by decide) (fun c_117 => ?_) (fun c_117 => ?_)
                  · exact absurd c_117 (by decide)
                  refine lv_iload_n hx hb dX3_reads_120 rfl (lv_at hl 3 rfl) ?_
                  refine ro_call (va_runS (As := [.int (fX3_wordAt v fw fd fs fn x)]) (rest := []) ⟨hx, hb, hml, hown, hts⟩ (kX3_rs2 l (fX3_wordAt v fw fd fs fn x) ) (va_cwS 1 hts gX3_reads_X3_rs2 rfl rfl rfl (by decide +kernel) ⟨Nat.le_of_ble_eq_true rfl, Nat.le_of_ble_eq_true rfl⟩) pu_preS rfl rfl hl.1 rfl (lv_room (Nat.le_of_ble_eq_true rfl)) dX3_reads_121 ⟨Nat.zero_le _, Nat.zero_le _⟩) hS (fun H locs hk hS => ?_)
                  have hP := hk _ _ _ hP
                  refine lv_iload_n hx hb dX3_reads_124 rfl (lv_at hl 6 rfl) ?_
                  refine lv_icmp_ne (tgt := 132) hx hb dX3_reads_125 (by decide) (fun c_125 => ?_) (fun c_125 => ?_)
                  ·
                    refine lv_iconst (v := 0) hx hb dX3_reads_132 (by decide) ?_
                    exact W.zret (v := 0) hx hb hr rfl (fun t ht hW => ro_end (A := ro_N) hS ht (by rw [fX3_reads, if_pos c_4, if_neg c_15, if_neg c_36, if_neg c_43, if_neg c_50, if_neg c_57, if_pos c_64, if_pos c_78, if_neg c_125])) hS.2.2 dX3_reads_133
                  ·
                    refine lv_iconst (v := 1) hx hb dX3_reads_128 (by decide) ?_
                    refine lv_goto (tgt := 133) hx hb dX3_reads_129 (by decide) ?_
                    exact W.zret (v := 1) hx hb hr rfl (fun t ht hW => ro_end (A := ro_N) hS ht (by rw [fX3_reads, if_pos c_4, if_neg c_15, if_neg c_36, if_neg c_43, if_neg c_50, if_neg c_57, if_pos c_64, if_pos c_78, if_pos c_125])) hS.2.2 dX3_reads_133
                ·
                  refine lv_iload hx hb dX3_reads_81 (lv_at hl 1 rfl) ?_
                  refine lv_bipush (v := 35) hx hb dX3_reads_83 (by decide) ?_
                  refine lv_icmp_eq (tgt := 95) hx hb dX3_reads_85 (by decide) (fun c_85 => ?_) (fun c_85 => ?_)
                  ·
                    refine lv_iconst (v := 1) hx hb dX3_reads_95 (by decide) ?_
                    refine lv_goto (tgt := 100) hx hb dX3_reads_96 (by decide) ?_
                    refine lv_istore (lv' := [(6, .int 1), (5, .int 0), (4, .int (fX3_opcode (fX3_wordAt v fw fd fs fn x))), (3, .int (fX3_wordAt v fw fd fs fn x)), (0, .ref h), (1, .int x), (2, .int r)]) hx hb dX3_reads_100 hl (by decide) rfl (fun ls hl => ?_)
                    refine lv_iload hx hb dX3_reads_102 (lv_at hl 1 rfl) ?_
                    refine lv_if_eq (tgt := 115) hx hb dX3_reads_104 (by decide) (fun c_104 => ?_) (fun c_104 => ?_)
                    rotate_left
                    · exact absurd c_104 (by decide)
                    refine lv_iload hx hb dX3_reads_115 (lv_at hl 0 rfl) ?_
                    refine lv_if_eq (tgt := 132) hx hb dX3_reads_117 (by decide) (fun c_117 => ?_) (fun c_117 => ?_)
                    · exact absurd c_117 (by decide)
                    refine lv_iload_n hx hb dX3_reads_120 rfl (lv_at hl 3 rfl) ?_
                    refine ro_call (va_runS (As := [.int (fX3_wordAt v fw fd fs fn x)]) (rest := []) ⟨hx, hb, hml, hown, hts⟩ (kX3_rs2 l (fX3_wordAt v fw fd fs fn x) ) (va_cwS 1 hts gX3_reads_X3_rs2 rfl rfl rfl (by decide +kernel) ⟨Nat.le_of_ble_eq_true rfl, Nat.le_of_ble_eq_true rfl⟩) pu_preS rfl rfl hl.1 rfl (lv_room (Nat.le_of_ble_eq_true rfl)) dX3_reads_121 ⟨Nat.zero_le _, Nat.zero_le _⟩) hS (fun H locs hk hS => ?_)
                    have hP := hk _ _ _ hP
                    refine lv_iload_n hx hb dX3_reads_124 rfl (lv_at hl 6 rfl) ?_
                    refine lv_icmp_ne (tgt := 132) hx hb dX3_reads_125 (by decide) (fun c_125 => ?_) (fun c_125 => ?_)
                    ·
                      refine lv_iconst (v := 0) hx hb dX3_reads_132 (by decide) ?_
                      exact W.zret (v := 0) hx hb hr rfl (fun t ht hW => ro_end (A := ro_N) hS ht (by rw [fX3_reads, if_pos c_4, if_neg c_15, if_neg c_36, if_neg c_43, if_neg c_50, if_neg c_57, if_pos c_64, if_neg c_78, if_pos c_85, if_neg c_125])) hS.2.2 dX3_reads_133
                    ·
                      refine lv_iconst (v := 1) hx hb dX3_reads_128 (by decide) ?_
                      refine lv_goto (tgt := 133) hx hb dX3_reads_129 (by decide) ?_
                      exact W.zret (v := 1) hx hb hr rfl (fun t ht hW => ro_end (A := ro_N) hS ht (by rw [fX3_reads, if_pos c_4, if_neg c_15, if_neg c_36, if_neg c_43, if_neg c_50, if_neg c_57, if_pos c_64, if_neg c_78, if_pos c_85, if_pos c_125])) hS.2.2 dX3_reads_133
                  ·
                    refine lv_iload hx hb dX3_reads_88 (lv_at hl 1 rfl) ?_
                    refine lv_bipush (v := 51) hx hb dX3_reads_90 (by decide) ?_
                    refine lv_icmp_ne (tgt := 99) hx hb dX3_reads_92 (by decide) (fun c_92 => ?_) (fun c_92 => ?_)
                    ·
                      refine lv_iconst (v := 0) hx hb dX3_reads_99 (by decide) ?_
                      refine lv_istore (lv' := [(6, .int 0), (5, .int 0), (4, .int (fX3_opcode (fX3_wordAt v fw fd fs fn x))), (3, .int (fX3_wordAt v fw fd fs fn x)), (0, .ref h), (1, .int x), (2, .int r)]) hx hb dX3_reads_100 hl (by decide) rfl (fun ls hl => ?_)
                      refine lv_iload hx hb dX3_reads_102 (lv_at hl 1 rfl) ?_
                      refine lv_if_eq (tgt := 115) hx hb dX3_reads_104 (by decide) (fun c_104 => ?_) (fun c_104 => ?_)
                      rotate_left
                      · exact absurd c_104 (by decide)
                      refine lv_iload hx hb dX3_reads_115 (lv_at hl 0 rfl) ?_
                      refine lv_if_eq (tgt := 132) hx hb dX3_reads_117 (by decide) (fun c_117 => ?_) (fun c_117 => ?_)
                      rotate_left
                      · exact absurd c_117 (by decide)
                      refine lv_iconst (v := 0) hx hb dX3_reads_132 (by decide) ?_
                      exact W.zret (v := 0) hx hb hr rfl (fun t ht hW => ro_end (A := ro_N) hS ht (by rw [fX3_reads, if_pos c_4, if_neg c_15, if_neg c_36, if_neg c_43, if_neg c_50, if_neg c_57, if_pos c_64, if_neg c_78, if_neg c_85, if_neg c_92])) hS.2.2 dX3_reads_133
                    ·
                      refine lv_iconst (v := 1) hx hb dX3_reads_95 (by decide) ?_
                      refine lv_goto (tgt := 100) hx hb dX3_reads_96 (by decide) ?_
                      refine lv_istore (lv' := [(6, .int 1), (5, .int 0), (4, .int (fX3_opcode (fX3_wordAt v fw fd fs fn x))), (3, .int (fX3_wordAt v fw fd fs fn x)), (0, .ref h), (1, .int x), (2, .int r)]) hx hb dX3_reads_100 hl (by decide) rfl (fun ls hl => ?_)
                      refine lv_iload hx hb dX3_reads_102 (lv_at hl 1 rfl) ?_
                      refine lv_if_eq (tgt := 115) hx hb dX3_reads_104 (by decide) (fun c_104 => ?_) (fun c_104 => ?_)
                      rotate_left
                      · exact absurd c_104 (by decide)
                      refine lv_iload hx hb dX3_reads_115 (lv_at hl 0 rfl) ?_
                      refine lv_if_eq (tgt := 132) hx hb dX3_reads_117 (by decide) (fun c_117 => ?_) (fun c_117 => ?_)
                      · exact absurd c_117 (by decide)
                      refine lv_iload_n hx hb dX3_reads_120 rfl (lv_at hl 3 rfl) ?_
                      refine ro_call (va_runS (As := [.int (fX3_wordAt v fw fd fs fn x)]) (rest := []) ⟨hx, hb, hml, hown, hts⟩ (kX3_rs2 l (fX3_wordAt v fw fd fs fn x) ) (va_cwS 1 hts gX3_reads_X3_rs2 rfl rfl rfl (by decide +kernel) ⟨Nat.le_of_ble_eq_true rfl, Nat.le_of_ble_eq_true rfl⟩) pu_preS rfl rfl hl.1 rfl (lv_room (Nat.le_of_ble_eq_true rfl)) dX3_reads_121 ⟨Nat.zero_le _, Nat.zero_le _⟩) hS (fun H locs hk hS => ?_)
                      have hP := hk _ _ _ hP
                      refine lv_iload_n hx hb dX3_reads_124 rfl (lv_at hl 6 rfl) ?_
                      refine lv_icmp_ne (tgt := 132) hx hb dX3_reads_125 (by decide) (fun c_125 => ?_) (fun c_125 => ?_)
                      ·
                        refine lv_iconst (v := 0) hx hb dX3_reads_132 (by decide) ?_
                        exact W.zret (v := 0) hx hb hr rfl (fun t ht hW => ro_end (A := ro_N) hS ht (by rw [fX3_reads, if_pos c_4, if_neg c_15, if_neg c_36, if_neg c_43, if_neg c_50, if_neg c_57, if_pos c_64, if_neg c_78, if_neg c_85, if_pos c_92, if_neg c_125])) hS.2.2 dX3_reads_133
                      ·
                        refine lv_iconst (v := 1) hx hb dX3_reads_128 (by decide) ?_
                        refine lv_goto (tgt := 133) hx hb dX3_reads_129 (by decide) ?_
                        exact W.zret (v := 1) hx hb hr rfl (fun t ht hW => ro_end (A := ro_N) hS ht (by rw [fX3_reads, if_pos c_4, if_neg c_15, if_neg c_36, if_neg c_43, if_neg c_50, if_neg c_57, if_pos c_64, if_neg c_78, if_neg c_85, if_pos c_92, if_pos c_125])) hS.2.2 dX3_reads_133
              ·
                refine lv_iconst (v := 1) hx hb dX3_reads_67 (by decide) ?_
                refine lv_goto (tgt := 72) hx hb dX3_reads_68 (by decide) ?_
                refine lv_istore (lv' := [(5, .int 1), (4, .int (fX3_opcode (fX3_wordAt v fw fd fs fn x))), (3, .int (fX3_wordAt v fw fd fs fn x)), (0, .ref h), (1, .int x), (2, .int r)]) hx hb dX3_reads_72 hl (by decide) rfl (fun ls hl => ?_)
                refine lv_iload hx hb dX3_reads_74 (lv_at hl 1 rfl) ?_
                refine lv_bipush (v := 99) hx hb dX3_reads_76 (by decide) ?_
                refine lv_icmp_eq (tgt := 95) hx hb dX3_reads_78 (by decide) (fun c_78 => ?_) (fun c_78 => ?_)
                ·
                  refine lv_iconst (v := 1) hx hb dX3_reads_95 (by decide) ?_
                  refine lv_goto (tgt := 100) hx hb dX3_reads_96 (by decide) ?_
                  refine lv_istore (lv' := [(6, .int 1), (5, .int 1), (4, .int (fX3_opcode (fX3_wordAt v fw fd fs fn x))), (3, .int (fX3_wordAt v fw fd fs fn x)), (0, .ref h), (1, .int x), (2, .int r)]) hx hb dX3_reads_100 hl (by decide) rfl (fun ls hl => ?_)
                  refine lv_iload hx hb dX3_reads_102 (lv_at hl 1 rfl) ?_
                  refine lv_if_eq (tgt := 115) hx hb dX3_reads_104 (by decide) (fun c_104 => ?_) (fun c_104 => ?_)
                  · exact absurd c_104 (by decide)
                  refine lv_iload_n hx hb dX3_reads_107 rfl (lv_at hl 3 rfl) ?_
                  refine ro_call (va_runS (As := [.int (fX3_wordAt v fw fd fs fn x)]) (rest := []) ⟨hx, hb, hml, hown, hts⟩ (kX3_rs1 l (fX3_wordAt v fw fd fs fn x) ) (va_cwS 1 hts gX3_reads_X3_rs1 rfl rfl rfl (by decide +kernel) ⟨Nat.le_of_ble_eq_true rfl, Nat.le_of_ble_eq_true rfl⟩) pu_preS rfl rfl hl.1 rfl (lv_room (Nat.le_of_ble_eq_true rfl)) dX3_reads_108 ⟨Nat.zero_le _, Nat.zero_le _⟩) hS (fun H locs hk hS => ?_)
                  have hP := hk _ _ _ hP
                  refine lv_iload_n hx hb dX3_reads_111 rfl (lv_at hl 6 rfl) ?_
                  refine lv_icmp_eq (tgt := 128) hx hb dX3_reads_112 (by decide) (fun c_112 => ?_) (fun c_112 => ?_)
                  ·
                    refine lv_iconst (v := 1) hx hb dX3_reads_128 (by decide) ?_
                    refine lv_goto (tgt := 133) hx hb dX3_reads_129 (by decide) ?_
                    exact W.zret (v := 1) hx hb hr rfl (fun t ht hW => ro_end (A := ro_N) hS ht (by rw [fX3_reads, if_pos c_4, if_neg c_15, if_neg c_36, if_neg c_43, if_neg c_50, if_neg c_57, if_neg c_64, if_pos c_78, if_pos c_112])) hS.2.2 dX3_reads_133
                  ·
                    refine lv_iload hx hb dX3_reads_115 (lv_at hl 0 rfl) ?_
                    refine lv_if_eq (tgt := 132) hx hb dX3_reads_117 (by decide) (fun c_117 => ?_) (fun c_117 => ?_)
                    · exact absurd c_117 (by decide)
                    refine lv_iload_n hx hb dX3_reads_120 rfl (lv_at hl 3 rfl) ?_
                    refine ro_call (va_runS (As := [.int (fX3_wordAt v fw fd fs fn x)]) (rest := []) ⟨hx, hb, hml, hown, hts⟩ (kX3_rs2 l (fX3_wordAt v fw fd fs fn x) ) (va_cwS 1 hts gX3_reads_X3_rs2 rfl rfl rfl (by decide +kernel) ⟨Nat.le_of_ble_eq_true rfl, Nat.le_of_ble_eq_true rfl⟩) pu_preS rfl rfl hl.1 rfl (lv_room (Nat.le_of_ble_eq_true rfl)) dX3_reads_121 ⟨Nat.zero_le _, Nat.zero_le _⟩) hS (fun H locs hk hS => ?_)
                    have hP := hk _ _ _ hP
                    refine lv_iload_n hx hb dX3_reads_124 rfl (lv_at hl 6 rfl) ?_
                    refine lv_icmp_ne (tgt := 132) hx hb dX3_reads_125 (by decide) (fun c_125 => ?_) (fun c_125 => ?_)
                    ·
                      refine lv_iconst (v := 0) hx hb dX3_reads_132 (by decide) ?_
                      exact W.zret (v := 0) hx hb hr rfl (fun t ht hW => ro_end (A := ro_N) hS ht (by rw [fX3_reads, if_pos c_4, if_neg c_15, if_neg c_36, if_neg c_43, if_neg c_50, if_neg c_57, if_neg c_64, if_pos c_78, if_neg c_112, if_neg c_125])) hS.2.2 dX3_reads_133
                    ·
                      refine lv_iconst (v := 1) hx hb dX3_reads_128 (by decide) ?_
                      refine lv_goto (tgt := 133) hx hb dX3_reads_129 (by decide) ?_
                      exact W.zret (v := 1) hx hb hr rfl (fun t ht hW => ro_end (A := ro_N) hS ht (by rw [fX3_reads, if_pos c_4, if_neg c_15, if_neg c_36, if_neg c_43, if_neg c_50, if_neg c_57, if_neg c_64, if_pos c_78, if_neg c_112, if_pos c_125])) hS.2.2 dX3_reads_133
                ·
                  refine lv_iload hx hb dX3_reads_81 (lv_at hl 1 rfl) ?_
                  refine lv_bipush (v := 35) hx hb dX3_reads_83 (by decide) ?_
                  refine lv_icmp_eq (tgt := 95) hx hb dX3_reads_85 (by decide) (fun c_85 => ?_) (fun c_85 => ?_)
                  ·
                    refine lv_iconst (v := 1) hx hb dX3_reads_95 (by decide) ?_
                    refine lv_goto (tgt := 100) hx hb dX3_reads_96 (by decide) ?_
                    refine lv_istore (lv' := [(6, .int 1), (5, .int 1), (4, .int (fX3_opcode (fX3_wordAt v fw fd fs fn x))), (3, .int (fX3_wordAt v fw fd fs fn x)), (0, .ref h), (1, .int x), (2, .int r)]) hx hb dX3_reads_100 hl (by decide) rfl (fun ls hl => ?_)
                    refine lv_iload hx hb dX3_reads_102 (lv_at hl 1 rfl) ?_
                    refine lv_if_eq (tgt := 115) hx hb dX3_reads_104 (by decide) (fun c_104 => ?_) (fun c_104 => ?_)
                    · exact absurd c_104 (by decide)
                    refine lv_iload_n hx hb dX3_reads_107 rfl (lv_at hl 3 rfl) ?_
                    refine ro_call (va_runS (As := [.int (fX3_wordAt v fw fd fs fn x)]) (rest := []) ⟨hx, hb, hml, hown, hts⟩ (kX3_rs1 l (fX3_wordAt v fw fd fs fn x) ) (va_cwS 1 hts gX3_reads_X3_rs1 rfl rfl rfl (by decide +kernel) ⟨Nat.le_of_ble_eq_true rfl, Nat.le_of_ble_eq_true rfl⟩) pu_preS rfl rfl hl.1 rfl (lv_room (Nat.le_of_ble_eq_true rfl)) dX3_reads_108 ⟨Nat.zero_le _, Nat.zero_le _⟩) hS (fun H locs hk hS => ?_)
                    have hP := hk _ _ _ hP
                    refine lv_iload_n hx hb dX3_reads_111 rfl (lv_at hl 6 rfl) ?_
                    refine lv_icmp_eq (tgt := 128) hx hb dX3_reads_112 (by decide) (fun c_112 => ?_) (fun c_112 => ?_)
                    ·
                      refine lv_iconst (v := 1) hx hb dX3_reads_128 (by decide) ?_
                      refine lv_goto (tgt := 133) hx hb dX3_reads_129 (by decide) ?_
                      exact W.zret (v := 1) hx hb hr rfl (fun t ht hW => ro_end (A := ro_N) hS ht (by rw [fX3_reads, if_pos c_4, if_neg c_15, if_neg c_36, if_neg c_43, if_neg c_50, if_neg c_57, if_neg c_64, if_neg c_78, if_pos c_85, if_pos c_112])) hS.2.2 dX3_reads_133
                    ·
                      refine lv_iload hx hb dX3_reads_115 (lv_at hl 0 rfl) ?_
                      refine lv_if_eq (tgt := 132) hx hb dX3_reads_117 (by decide) (fun c_117 => ?_) (fun c_117 => ?_)
                      · exact absurd c_117 (by decide)
                      refine lv_iload_n hx hb dX3_reads_120 rfl (lv_at hl 3 rfl) ?_
                      refine ro_call (va_runS (As := [.int (fX3_wordAt v fw fd fs fn x)]) (rest := []) ⟨hx, hb, hml, hown, hts⟩ (kX3_rs2 l (fX3_wordAt v fw fd fs fn x) ) (va_cwS 1 hts gX3_reads_X3_rs2 rfl rfl rfl (by decide +kernel) ⟨Nat.le_of_ble_eq_true rfl, Nat.le_of_ble_eq_true rfl⟩) pu_preS rfl rfl hl.1 rfl (lv_room (Nat.le_of_ble_eq_true rfl)) dX3_reads_121 ⟨Nat.zero_le _, Nat.zero_le _⟩) hS (fun H locs hk hS => ?_)
                      have hP := hk _ _ _ hP
                      refine lv_iload_n hx hb dX3_reads_124 rfl (lv_at hl 6 rfl) ?_
                      refine lv_icmp_ne (tgt := 132) hx hb dX3_reads_125 (by decide) (fun c_125 => ?_) (fun c_125 => ?_)
                      ·
                        refine lv_iconst (v := 0) hx hb dX3_reads_132 (by decide) ?_
                        exact W.zret (v := 0) hx hb hr rfl (fun t ht hW => ro_end (A := ro_N) hS ht (by rw [fX3_reads, if_pos c_4, if_neg c_15, if_neg c_36, if_neg c_43, if_neg c_50, if_neg c_57, if_neg c_64, if_neg c_78, if_pos c_85, if_neg c_112, if_neg c_125])) hS.2.2 dX3_reads_133
                      ·
                        refine lv_iconst (v := 1) hx hb dX3_reads_128 (by decide) ?_
                        refine lv_goto (tgt := 133) hx hb dX3_reads_129 (by decide) ?_
                        exact W.zret (v := 1) hx hb hr rfl (fun t ht hW => ro_end (A := ro_N) hS ht (by rw [fX3_reads, if_pos c_4, if_neg c_15, if_neg c_36, if_neg c_43, if_neg c_50, if_neg c_57, if_neg c_64, if_neg c_78, if_pos c_85, if_neg c_112, if_pos c_125])) hS.2.2 dX3_reads_133
                  ·
                    refine lv_iload hx hb dX3_reads_88 (lv_at hl 1 rfl) ?_
                    refine lv_bipush (v := 51) hx hb dX3_reads_90 (by decide) ?_
                    refine lv_icmp_ne (tgt := 99) hx hb dX3_reads_92 (by decide) (fun c_92 => ?_) (fun c_92 => ?_)
                    ·
                      refine lv_iconst (v := 0) hx hb dX3_reads_99 (by decide) ?_
                      refine lv_istore (lv' := [(6, .int 0), (5, .int 1), (4, .int (fX3_opcode (fX3_wordAt v fw fd fs fn x))), (3, .int (fX3_wordAt v fw fd fs fn x)), (0, .ref h), (1, .int x), (2, .int r)]) hx hb dX3_reads_100 hl (by decide) rfl (fun ls hl => ?_)
                      refine lv_iload hx hb dX3_reads_102 (lv_at hl 1 rfl) ?_
                      refine lv_if_eq (tgt := 115) hx hb dX3_reads_104 (by decide) (fun c_104 => ?_) (fun c_104 => ?_)
                      · exact absurd c_104 (by decide)
                      refine lv_iload_n hx hb dX3_reads_107 rfl (lv_at hl 3 rfl) ?_
                      refine ro_call (va_runS (As := [.int (fX3_wordAt v fw fd fs fn x)]) (rest := []) ⟨hx, hb, hml, hown, hts⟩ (kX3_rs1 l (fX3_wordAt v fw fd fs fn x) ) (va_cwS 1 hts gX3_reads_X3_rs1 rfl rfl rfl (by decide +kernel) ⟨Nat.le_of_ble_eq_true rfl, Nat.le_of_ble_eq_true rfl⟩) pu_preS rfl rfl hl.1 rfl (lv_room (Nat.le_of_ble_eq_true rfl)) dX3_reads_108 ⟨Nat.zero_le _, Nat.zero_le _⟩) hS (fun H locs hk hS => ?_)
                      have hP := hk _ _ _ hP
                      refine lv_iload_n hx hb dX3_reads_111 rfl (lv_at hl 6 rfl) ?_
                      refine lv_icmp_eq (tgt := 128) hx hb dX3_reads_112 (by decide) (fun c_112 => ?_) (fun c_112 => ?_)
                      ·
                        refine lv_iconst (v := 1) hx hb dX3_reads_128 (by decide) ?_
                        refine lv_goto (tgt := 133) hx hb dX3_reads_129 (by decide) ?_
                        exact W.zret (v := 1) hx hb hr rfl (fun t ht hW => ro_end (A := ro_N) hS ht (by rw [fX3_reads, if_pos c_4, if_neg c_15, if_neg c_36, if_neg c_43, if_neg c_50, if_neg c_57, if_neg c_64, if_neg c_78, if_neg c_85, if_neg c_92, if_pos c_112])) hS.2.2 dX3_reads_133
                      ·
                        refine lv_iload hx hb dX3_reads_115 (lv_at hl 0 rfl) ?_
                        refine lv_if_eq (tgt := 132) hx hb dX3_reads_117 (by decide) (fun c_117 => ?_) (fun c_117 => ?_)
                        rotate_left
                        · exact absurd c_117 (by decide)
                        refine lv_iconst (v := 0) hx hb dX3_reads_132 (by decide) ?_
                        exact W.zret (v := 0) hx hb hr rfl (fun t ht hW => ro_end (A := ro_N) hS ht (by rw [fX3_reads, if_pos c_4, if_neg c_15, if_neg c_36, if_neg c_43, if_neg c_50, if_neg c_57, if_neg c_64, if_neg c_78, if_neg c_85, if_neg c_92, if_neg c_112])) hS.2.2 dX3_reads_133
                    ·
                      refine lv_iconst (v := 1) hx hb dX3_reads_95 (by decide) ?_
                      refine lv_goto (tgt := 100) hx hb dX3_reads_96 (by decide) ?_
                      refine lv_istore (lv' := [(6, .int 1), (5, .int 1), (4, .int (fX3_opcode (fX3_wordAt v fw fd fs fn x))), (3, .int (fX3_wordAt v fw fd fs fn x)), (0, .ref h), (1, .int x), (2, .int r)]) hx hb dX3_reads_100 hl (by decide) rfl (fun ls hl => ?_)
                      refine lv_iload hx hb dX3_reads_102 (lv_at hl 1 rfl) ?_
                      refine lv_if_eq (tgt := 115) hx hb dX3_reads_104 (by decide) (fun c_104 => ?_) (fun c_104 => ?_)
                      · exact absurd c_104 (by decide)
                      refine lv_iload_n hx hb dX3_reads_107 rfl (lv_at hl 3 rfl) ?_
                      refine ro_call (va_runS (As := [.int (fX3_wordAt v fw fd fs fn x)]) (rest := []) ⟨hx, hb, hml, hown, hts⟩ (kX3_rs1 l (fX3_wordAt v fw fd fs fn x) ) (va_cwS 1 hts gX3_reads_X3_rs1 rfl rfl rfl (by decide +kernel) ⟨Nat.le_of_ble_eq_true rfl, Nat.le_of_ble_eq_true rfl⟩) pu_preS rfl rfl hl.1 rfl (lv_room (Nat.le_of_ble_eq_true rfl)) dX3_reads_108 ⟨Nat.zero_le _, Nat.zero_le _⟩) hS (fun H locs hk hS => ?_)
                      have hP := hk _ _ _ hP
                      refine lv_iload_n hx hb dX3_reads_111 rfl (lv_at hl 6 rfl) ?_
                      refine lv_icmp_eq (tgt := 128) hx hb dX3_reads_112 (by decide) (fun c_112 => ?_) (fun c_112 => ?_)
                      ·
                        refine lv_iconst (v := 1) hx hb dX3_reads_128 (by decide) ?_
                        refine lv_goto (tgt := 133) hx hb dX3_reads_129 (by decide) ?_
                        exact W.zret (v := 1) hx hb hr rfl (fun t ht hW => ro_end (A := ro_N) hS ht (by rw [fX3_reads, if_pos c_4, if_neg c_15, if_neg c_36, if_neg c_43, if_neg c_50, if_neg c_57, if_neg c_64, if_neg c_78, if_neg c_85, if_pos c_92, if_pos c_112])) hS.2.2 dX3_reads_133
                      ·
                        refine lv_iload hx hb dX3_reads_115 (lv_at hl 0 rfl) ?_
                        refine lv_if_eq (tgt := 132) hx hb dX3_reads_117 (by decide) (fun c_117 => ?_) (fun c_117 => ?_)
                        · exact absurd c_117 (by decide)
                        refine lv_iload_n hx hb dX3_reads_120 rfl (lv_at hl 3 rfl) ?_
                        refine ro_call (va_runS (As := [.int (fX3_wordAt v fw fd fs fn x)]) (rest := []) ⟨hx, hb, hml, hown, hts⟩ (kX3_rs2 l (fX3_wordAt v fw fd fs fn x) ) (va_cwS 1 hts gX3_reads_X3_rs2 rfl rfl rfl (by decide +kernel) ⟨Nat.le_of_ble_eq_true rfl, Nat.le_of_ble_eq_true rfl⟩) pu_preS rfl rfl hl.1 rfl (lv_room (Nat.le_of_ble_eq_true rfl)) dX3_reads_121 ⟨Nat.zero_le _, Nat.zero_le _⟩) hS (fun H locs hk hS => ?_)
                        have hP := hk _ _ _ hP
                        refine lv_iload_n hx hb dX3_reads_124 rfl (lv_at hl 6 rfl) ?_
                        refine lv_icmp_ne (tgt := 132) hx hb dX3_reads_125 (by decide) (fun c_125 => ?_) (fun c_125 => ?_)
                        ·
                          refine lv_iconst (v := 0) hx hb dX3_reads_132 (by decide) ?_
                          exact W.zret (v := 0) hx hb hr rfl (fun t ht hW => ro_end (A := ro_N) hS ht (by rw [fX3_reads, if_pos c_4, if_neg c_15, if_neg c_36, if_neg c_43, if_neg c_50, if_neg c_57, if_neg c_64, if_neg c_78, if_neg c_85, if_pos c_92, if_neg c_112, if_neg c_125])) hS.2.2 dX3_reads_133
                        ·
                          refine lv_iconst (v := 1) hx hb dX3_reads_128 (by decide) ?_
                          refine lv_goto (tgt := 133) hx hb dX3_reads_129 (by decide) ?_
                          exact W.zret (v := 1) hx hb hr rfl (fun t ht hW => ro_end (A := ro_N) hS ht (by rw [fX3_reads, if_pos c_4, if_neg c_15, if_neg c_36, if_neg c_43, if_neg c_50, if_neg c_57, if_neg c_64, if_neg c_78, if_neg c_85, if_pos c_92, if_neg c_112, if_pos c_125])) hS.2.2 dX3_reads_133
    ·
      refine lv_iconst (v := 0) hx hb dX3_reads_18 (by decide) ?_
      exact W.zret (v := 0) hx hb hr rfl (fun t ht hW => ro_end (A := ro_N) hS ht (by rw [fX3_reads, if_pos c_4, if_pos c_15])) hS.2.2 dX3_reads_19
