theorem ix_x3rs1 (w : Int32) : vp_in (fX3_rs1 w) 32 := ix_and (w >>> ((15 : Int32) &&& 31)) 5 (by decide) (by decide) rfl
theorem ix_x3rs2 (w : Int32) : vp_in (fX3_rs2 w) 32 := ix_and (w >>> ((20 : Int32) &&& 31)) 5 (by decide) (by decide) rfl
theorem ix_x3rd (w : Int32) : vp_in (fX3_rd w) 32 := ix_and (w >>> ((7 : Int32) &&& 31)) 5 (by decide) (by decide) rfl
theorem ix_x3beyond {x : Int32} (h : fX3_isBeyond x = 0) : ¬ x < 0 ∧ x ≤ 1023 := by
  unfold fX3_isBeyond at h
  split at h
  · exact absurd h (by decide)
  · rename_i h1
    split at h
    · rename_i h2
      exact ⟨h1, h2⟩
    · exact absurd h (by decide)
theorem ix_div4 {x : Int32} (h : fX3_isBeyond x = 0) : vp_in (x / 4) 256 := by
  obtain ⟨h1, h2⟩ := ix_x3beyond h
  obtain ⟨j, hj, rfl⟩ := nI_of2 (n := 1023) (by decide) h1 h2
  rw [show (4 : Int32) = nI 4 from rfl, pk_div (by omega) (by decide) (by decide)]
  exact vp_in_nI (by omega) (by decide)
theorem ix_at0 {x : Int32} {n : Nat} (hi : ∃ j : Nat, j + n ≤ 256 ∧ x = nI j) (hn : 0 < n) : vp_in (x + 0) 256 := by
  obtain ⟨j, h, rfl⟩ := hi
  rw [show (0 : Int32) = nI 0 from rfl, nI_add]
  exact vp_in_nI (by omega) (by decide)
theorem ix_at1 {x : Int32} {n : Nat} (hi : ∃ j : Nat, j + n ≤ 256 ∧ x = nI j) (hn : 1 < n) : vp_in (x + 1) 256 := by
  obtain ⟨j, h, rfl⟩ := hi
  rw [show (1 : Int32) = nI 1 from rfl, nI_add]
  exact vp_in_nI (by omega) (by decide)
theorem ix_at2 {x : Int32} {n : Nat} (hi : ∃ j : Nat, j + n ≤ 256 ∧ x = nI j) (hn : 2 < n) : vp_in (x + 2) 256 := by
  obtain ⟨j, h, rfl⟩ := hi
  rw [show (2 : Int32) = nI 2 from rfl, nI_add]
  exact vp_in_nI (by omega) (by decide)
theorem ix_at3 {x : Int32} {n : Nat} (hi : ∃ j : Nat, j + n ≤ 256 ∧ x = nI j) (hn : 3 < n) : vp_in (x + 3) 256 := by
  obtain ⟨j, h, rfl⟩ := hi
  rw [show (3 : Int32) = nI 3 from rfl, nI_add]
  exact vp_in_nI (by omega) (by decide)
theorem ix_ref (x : Int32) {n N : Nat} {M : Int32} (hn : 0 < n) (hn2 : n < 2 ^ 31) (hM : M = nI n) (hN : 256 = n * N) (h0 : x - x / M * M = 0) (h1 : ¬ x < 0) (h2 : x ≤ 255) : ∃ j : Nat, j + n ≤ 256 ∧ x = nI j := by
  obtain ⟨j, hj, rfl⟩ := nI_of2 (n := 255) (by decide) h1 h2
  refine ⟨j, ?_, rfl⟩
  rw [hM, pk_rem (by omega) hn hn2, ← nI_0, nI_eq (by have := Nat.mod_lt j hn; omega) (by decide)] at h0
  have h3 := Nat.div_add_mod j n
  rw [h0] at h3
  have h4 : n * (j / n) < n * N := by omega
  have h5 : j / n + 1 ≤ N := Nat.lt_of_mul_lt_mul_left h4
  have h6 := Nat.mul_le_mul_left n h5
  rw [Nat.mul_add] at h6
  omega
theorem ix_ref1 {x : Int32} (h : fX3_refusal1 x ≤ 0) : ∃ j : Nat, j + 1 ≤ 256 ∧ x = nI j := by
  unfold fX3_refusal1 at h
  split at h
  · rename_i h0
    split at h
    · exact absurd h (by decide)
    · rename_i h1
      split at h
      · rename_i h2
        exact ix_ref x (N := 256) (by decide) (by decide) rfl rfl h0 h1 h2
      · exact absurd h (by decide)
  · exact absurd h (by decide)
theorem ix_rez1 {x : Int32} (h : fX3_refusal1 x = 0) : ∃ j : Nat, j + 1 ≤ 256 ∧ x = nI j := ix_ref1 (by rw [h]; decide)
theorem ix_ref2 {x : Int32} (h : fX3_refusal2 x ≤ 0) : ∃ j : Nat, j + 2 ≤ 256 ∧ x = nI j := by
  unfold fX3_refusal2 at h
  split at h
  · rename_i h0
    split at h
    · exact absurd h (by decide)
    · rename_i h1
      split at h
      · rename_i h2
        exact ix_ref x (N := 128) (by decide) (by decide) rfl rfl h0 h1 h2
      · exact absurd h (by decide)
  · exact absurd h (by decide)
theorem ix_rez2 {x : Int32} (h : fX3_refusal2 x = 0) : ∃ j : Nat, j + 2 ≤ 256 ∧ x = nI j := ix_ref2 (by rw [h]; decide)
theorem ix_ref4 {x : Int32} (h : fX3_refusal4 x ≤ 0) : ∃ j : Nat, j + 4 ≤ 256 ∧ x = nI j := by
  unfold fX3_refusal4 at h
  split at h
  · rename_i h0
    split at h
    · exact absurd h (by decide)
    · rename_i h1
      split at h
      · rename_i h2
        exact ix_ref x (N := 64) (by decide) (by decide) rfl rfl h0 h1 h2
      · exact absurd h (by decide)
  · exact absurd h (by decide)
theorem ix_rez4 {x : Int32} (h : fX3_refusal4 x = 0) : ∃ j : Nat, j + 4 ≤ 256 ∧ x = nI j := ix_ref4 (by rw [h]; decide)
theorem ix_4k {k : Int32} (h1 : ¬ k < 0) (h2 : k ≤ 63) : ∃ j : Nat, j + 4 ≤ 256 ∧ 4 * k = nI j := by
  obtain ⟨j, hj, rfl⟩ := nI_of2 (n := 63) (by decide) h1 h2
  exact ⟨4 * j, by omega, by rw [show (4 : Int32) = nI 4 from rfl, pk_mul]⟩
theorem ix_le {x M : Int32} {N : Nat} (h1 : ¬ x < 0) (h2 : x ≤ M) (hM : M.toInt + 1 = N) : vp_in x N := by
  rw [vp_in_iff]
  rw [Int32.lt_iff_toInt_lt, Int32.toInt_zero] at h1
  rw [Int32.le_iff_toInt_le] at h2
  omega
theorem ix_ngt {x M : Int32} {N : Nat} (h1 : ¬ x < 0) (h2 : ¬ M < x) (hM : M.toInt + 1 = N) : vp_in x N := by
  rw [vp_in_iff]
  rw [Int32.lt_iff_toInt_lt, Int32.toInt_zero] at h1
  rw [Int32.lt_iff_toInt_lt] at h2
  omega
theorem ix_ngt1 {x M : Int32} {N : Nat} (h1 : ¬ x < 1) (h2 : ¬ M < x) (hM : M.toInt + 1 = N) : vp_in x N := by
  rw [vp_in_iff]
  rw [Int32.lt_iff_toInt_lt, show (1 : Int32).toInt = 1 from by decide] at h1
  rw [Int32.lt_iff_toInt_lt] at h2
  omega
theorem nle_of_nlt {x M : Int32} (h : ¬ M < x) : x ≤ M := by
  rw [Int32.le_iff_toInt_le]
  rw [Int32.lt_iff_toInt_lt] at h
  omega
def fX3_load1 (v fw fd fs fn : Nat → Int32) (x : Int32) : Int32 := (((0 : Int32) <<< (8 &&& 31)) ||| ((fd (x + 0).toNatClampNeg) &&& 255))
set_option maxHeartbeats 4000000 in
set_option maxRecDepth 100000 in
theorem kX3_load1 (l : Launch) (dC : Nat → ClassId) (dI : Nat → Nat → Nat) (cI cB : ClassId) (h a b c d : Nat) (v fw fd fs fn : Nat → Int32) (x : Int32) (hi : ∃ j : Nat, j + 1 ≤ 256 ∧ x = nI j) : Met l yX3_load wsX3_load ({ frames := 0, cells := 0, slots := 0, locals := 0 }) (ro_Pc [.ref h, .int x, .int 1] (dC, dI) vwCl (tyIB cI cB) (mdW cI cB h a b c d v fw fd fs fn)) (ro_Q (fX3_load1 v fw fd fs fn x)) 0 0 ro_N := by
  refine Met.ofW (cc := cX3_load) (maxL := 5) (ret := (some .int)) (by decide) rfl ?_
  intro p e s m args below meth c9 s₁ B hml hv
  obtain ⟨rfl, hP, hK⟩ := hv
  have hx := B.exec
  have hb := B.bytes
  have hr := B.returns
  have hts := atoms_spec (ws := wsX3_load) B.pre
  have hown : s.vm.findClass RX3 = some m.cls := findClass_of_methodNamed B.named
  have hlocks := B.notSynchronized
  have hS : va_S ro_N s.heap s.heap [] := va_S.rf
  have hin : ∀ w ∈ wsX30, w ∈ wsX3_load := by decide +kernel
  have hf_13 := hts (.fieldLink RX3 13 "PipeWorksModel" "data" "[B") (by decide +kernel)
  have hl := lv_entry ([.ref h, .int x, .int 1]) (n := 5) (Nat.le_of_ble_eq_true rfl)
  rw [lg_entry_eq]
  generalize (lg_sl ([.ref h, .int x, .int 1]) ++ List.replicate (5 - (lg_sl ([.ref h, .int x, .int 1])).length) Slot.unset).toArray = ls at hl ⊢
  have hl : lv_has ls 5 [(0, .ref h), (1, .int x), (2, .int 1)] := hl
  refine lv_iconst (v := 0) hx hb dX3_load_0 (by decide) ?_
  refine lv_istore_n (lv' := [(3, .int 0), (0, .ref h), (1, .int x), (2, .int 1)]) hx hb dX3_load_1 rfl hl (by decide) rfl (fun ls hl => ?_)
  refine lv_iload_n hx hb dX3_load_2 rfl (lv_at hl 3 rfl) ?_
  refine lv_iconst (v := 1) hx hb dX3_load_3 (by decide) ?_
  refine lv_isub hx hb dX3_load_4 ?_
  rw [show (1 - 1 : Int32) = 0 from by decide]
  refine lv_istore (lv' := [(4, .int 0), (3, .int 0), (0, .ref h), (1, .int x), (2, .int 1)]) hx hb dX3_load_5 hl (by decide) rfl (fun ls hl => ?_)
  refine lv_iload hx hb dX3_load_7 (lv_at hl 0 rfl) ?_
  refine lv_if_lt (tgt := 37) hx hb dX3_load_9 (by decide) (fun c_9 => ?_) (fun c_9 => ?_)
  · exact absurd c_9 (by decide)
  refine lv_iload_n hx hb dX3_load_12 rfl (lv_at hl 1 rfl) ?_
  refine lv_bipush (v := 8) hx hb dX3_load_13 (by decide) ?_
  refine lv_ishl hx hb dX3_load_15 ?_
  refine lv_aload_n hx hb dX3_load_16 rfl (lv_at hl 2 rfl) ?_
  refine va_get (D := (dC, dI)) (ci := 1) (v := .ref b) (C := RX3) (T := TX3) (N := 21) hx hb hts hin hown hK hP 0 rfl rfl 2 (by decide) hf_13 (fun _ h9 => h9) rfl dX3_load_17 ?_
  refine lv_iload_n hx hb dX3_load_20 rfl (lv_at hl 3 rfl) ?_
  refine lv_iload hx hb dX3_load_21 (lv_at hl 0 rfl) ?_
  refine lv_iadd hx hb dX3_load_23 ?_
  refine va_bald hx hb hK hP 2 1 rfl rfl (ix_at0 hi (by decide)) dX3_load_24 ?_
  refine lv_sipush (v := 255) hx hb dX3_load_25 (by decide) ?_
  refine lv_iand hx hb dX3_load_28 ?_
  refine lv_ior hx hb dX3_load_29 ?_
  refine lv_istore_n (lv' := [(3, .int (((0 : Int32) <<< (8 &&& 31)) ||| ((fd (x + 0).toNatClampNeg) &&& 255))), (4, .int 0), (0, .ref h), (1, .int x), (2, .int 1)]) hx hb dX3_load_30 rfl hl (by decide) rfl (fun ls hl => ?_)
  refine lv_iinc (v := (-1)) (lv' := [(4, .int (-1)), (3, .int (((0 : Int32) <<< (8 &&& 31)) ||| ((fd (x + 0).toNatClampNeg) &&& 255))), (0, .ref h), (1, .int x), (2, .int 1)]) hx hb dX3_load_31 hl (k := 1) rfl (by first | rfl | decide) (by decide) rfl (fun ls hl => ?_)
  refine lv_goto (tgt := 7) hx hb dX3_load_34 (by decide) ?_
  refine lv_iload hx hb dX3_load_7 (lv_at hl 0 rfl) ?_
  refine lv_if_lt (tgt := 37) hx hb dX3_load_9 (by decide) (fun c_9 => ?_) (fun c_9 => ?_)
  rotate_left
  · exact absurd c_9 (by decide)
  refine lv_iload_n hx hb dX3_load_37 rfl (lv_at hl 1 rfl) ?_
  exact W.iret (v := ((0 : Int32) <<< (8 &&& 31)) ||| ((fd (x + 0).toNatClampNeg) &&& 255)) hx hb hr (fun t ht hW => ro_end (A := ro_N) hS ht (by rw [fX3_load1])) hS.2.2 dX3_load_38
def fX3_load2 (v fw fd fs fn : Nat → Int32) (x : Int32) : Int32 := (((((0 : Int32) <<< (8 &&& 31)) ||| ((fd (x + 1).toNatClampNeg) &&& 255)) <<< (8 &&& 31)) ||| ((fd (x + 0).toNatClampNeg) &&& 255))
set_option maxHeartbeats 4000000 in
set_option maxRecDepth 100000 in
theorem kX3_load2 (l : Launch) (dC : Nat → ClassId) (dI : Nat → Nat → Nat) (cI cB : ClassId) (h a b c d : Nat) (v fw fd fs fn : Nat → Int32) (x : Int32) (hi : ∃ j : Nat, j + 2 ≤ 256 ∧ x = nI j) : Met l yX3_load wsX3_load ({ frames := 0, cells := 0, slots := 0, locals := 0 }) (ro_Pc [.ref h, .int x, .int 2] (dC, dI) vwCl (tyIB cI cB) (mdW cI cB h a b c d v fw fd fs fn)) (ro_Q (fX3_load2 v fw fd fs fn x)) 0 0 ro_N := by
  refine Met.ofW (cc := cX3_load) (maxL := 5) (ret := (some .int)) (by decide) rfl ?_
  intro p e s m args below meth c9 s₁ B hml hv
  obtain ⟨rfl, hP, hK⟩ := hv
  have hx := B.exec
  have hb := B.bytes
  have hr := B.returns
  have hts := atoms_spec (ws := wsX3_load) B.pre
  have hown : s.vm.findClass RX3 = some m.cls := findClass_of_methodNamed B.named
  have hlocks := B.notSynchronized
  have hS : va_S ro_N s.heap s.heap [] := va_S.rf
  have hin : ∀ w ∈ wsX30, w ∈ wsX3_load := by decide +kernel
  have hf_13 := hts (.fieldLink RX3 13 "PipeWorksModel" "data" "[B") (by decide +kernel)
  have hl := lv_entry ([.ref h, .int x, .int 2]) (n := 5) (Nat.le_of_ble_eq_true rfl)
  rw [lg_entry_eq]
  generalize (lg_sl ([.ref h, .int x, .int 2]) ++ List.replicate (5 - (lg_sl ([.ref h, .int x, .int 2])).length) Slot.unset).toArray = ls at hl ⊢
  have hl : lv_has ls 5 [(0, .ref h), (1, .int x), (2, .int 2)] := hl
  refine lv_iconst (v := 0) hx hb dX3_load_0 (by decide) ?_
  refine lv_istore_n (lv' := [(3, .int 0), (0, .ref h), (1, .int x), (2, .int 2)]) hx hb dX3_load_1 rfl hl (by decide) rfl (fun ls hl => ?_)
  refine lv_iload_n hx hb dX3_load_2 rfl (lv_at hl 3 rfl) ?_
  refine lv_iconst (v := 1) hx hb dX3_load_3 (by decide) ?_
  refine lv_isub hx hb dX3_load_4 ?_
  rw [show (2 - 1 : Int32) = 1 from by decide]
  refine lv_istore (lv' := [(4, .int 1), (3, .int 0), (0, .ref h), (1, .int x), (2, .int 2)]) hx hb dX3_load_5 hl (by decide) rfl (fun ls hl => ?_)
  refine lv_iload hx hb dX3_load_7 (lv_at hl 0 rfl) ?_
  refine lv_if_lt (tgt := 37) hx hb dX3_load_9 (by decide) (fun c_9 => ?_) (fun c_9 => ?_)
  · exact absurd c_9 (by decide)
  refine lv_iload_n hx hb dX3_load_12 rfl (lv_at hl 1 rfl) ?_
  refine lv_bipush (v := 8) hx hb dX3_load_13 (by decide) ?_
  refine lv_ishl hx hb dX3_load_15 ?_
  refine lv_aload_n hx hb dX3_load_16 rfl (lv_at hl 2 rfl) ?_
  refine va_get (D := (dC, dI)) (ci := 1) (v := .ref b) (C := RX3) (T := TX3) (N := 21) hx hb hts hin hown hK hP 0 rfl rfl 2 (by decide) hf_13 (fun _ h9 => h9) rfl dX3_load_17 ?_
  refine lv_iload_n hx hb dX3_load_20 rfl (lv_at hl 3 rfl) ?_
  refine lv_iload hx hb dX3_load_21 (lv_at hl 0 rfl) ?_
  refine lv_iadd hx hb dX3_load_23 ?_
  refine va_bald hx hb hK hP 2 1 rfl rfl (ix_at1 hi (by decide)) dX3_load_24 ?_
  refine lv_sipush (v := 255) hx hb dX3_load_25 (by decide) ?_
  refine lv_iand hx hb dX3_load_28 ?_
  refine lv_ior hx hb dX3_load_29 ?_
  refine lv_istore_n (lv' := [(3, .int (((0 : Int32) <<< (8 &&& 31)) ||| ((fd (x + 1).toNatClampNeg) &&& 255))), (4, .int 1), (0, .ref h), (1, .int x), (2, .int 2)]) hx hb dX3_load_30 rfl hl (by decide) rfl (fun ls hl => ?_)
  refine lv_iinc (v := 0) (lv' := [(4, .int 0), (3, .int (((0 : Int32) <<< (8 &&& 31)) ||| ((fd (x + 1).toNatClampNeg) &&& 255))), (0, .ref h), (1, .int x), (2, .int 2)]) hx hb dX3_load_31 hl (k := 1) rfl (by first | rfl | decide) (by decide) rfl (fun ls hl => ?_)
  refine lv_goto (tgt := 7) hx hb dX3_load_34 (by decide) ?_
  refine lv_iload hx hb dX3_load_7 (lv_at hl 0 rfl) ?_
  refine lv_if_lt (tgt := 37) hx hb dX3_load_9 (by decide) (fun c_9 => ?_) (fun c_9 => ?_)
  · exact absurd c_9 (by decide)
  refine lv_iload_n hx hb dX3_load_12 rfl (lv_at hl 1 rfl) ?_
  refine lv_bipush (v := 8) hx hb dX3_load_13 (by decide) ?_
  refine lv_ishl hx hb dX3_load_15 ?_
  refine lv_aload_n hx hb dX3_load_16 rfl (lv_at hl 2 rfl) ?_
  refine va_get (D := (dC, dI)) (ci := 1) (v := .ref b) (C := RX3) (T := TX3) (N := 21) hx hb hts hin hown hK hP 0 rfl rfl 2 (by decide) hf_13 (fun _ h9 => h9) rfl dX3_load_17 ?_
  refine lv_iload_n hx hb dX3_load_20 rfl (lv_at hl 3 rfl) ?_
  refine lv_iload hx hb dX3_load_21 (lv_at hl 0 rfl) ?_
  refine lv_iadd hx hb dX3_load_23 ?_
  refine va_bald hx hb hK hP 2 1 rfl rfl (ix_at0 hi (by decide)) dX3_load_24 ?_
  refine lv_sipush (v := 255) hx hb dX3_load_25 (by decide) ?_
  refine lv_iand hx hb dX3_load_28 ?_
  refine lv_ior hx hb dX3_load_29 ?_
  refine lv_istore_n (lv' := [(3, .int (((((0 : Int32) <<< (8 &&& 31)) ||| ((fd (x + 1).toNatClampNeg) &&& 255)) <<< (8 &&& 31)) ||| ((fd (x + 0).toNatClampNeg) &&& 255))), (4, .int 0), (0, .ref h), (1, .int x), (2, .int 2)]) hx hb dX3_load_30 rfl hl (by decide) rfl (fun ls hl => ?_)
  refine lv_iinc (v := (-1)) (lv' := [(4, .int (-1)), (3, .int (((((0 : Int32) <<< (8 &&& 31)) ||| ((fd (x + 1).toNatClampNeg) &&& 255)) <<< (8 &&& 31)) ||| ((fd (x + 0).toNatClampNeg) &&& 255))), (0, .ref h), (1, .int x), (2, .int 2)]) hx hb dX3_load_31 hl (k := 1) rfl (by first | rfl | decide) (by decide) rfl (fun ls hl => ?_)
  refine lv_goto (tgt := 7) hx hb dX3_load_34 (by decide) ?_
  refine lv_iload hx hb dX3_load_7 (lv_at hl 0 rfl) ?_
  refine lv_if_lt (tgt := 37) hx hb dX3_load_9 (by decide) (fun c_9 => ?_) (fun c_9 => ?_)
  rotate_left
  · exact absurd c_9 (by decide)
  refine lv_iload_n hx hb dX3_load_37 rfl (lv_at hl 1 rfl) ?_
  exact W.iret (v := ((((0 : Int32) <<< (8 &&& 31)) ||| ((fd (x + 1).toNatClampNeg) &&& 255)) <<< (8 &&& 31)) ||| ((fd (x + 0).toNatClampNeg) &&& 255)) hx hb hr (fun t ht hW => ro_end (A := ro_N) hS ht (by rw [fX3_load2])) hS.2.2 dX3_load_38
def fX3_load4 (v fw fd fs fn : Nat → Int32) (x : Int32) : Int32 := (((((((((0 : Int32) <<< (8 &&& 31)) ||| ((fd (x + 3).toNatClampNeg) &&& 255)) <<< (8 &&& 31)) ||| ((fd (x + 2).toNatClampNeg) &&& 255)) <<< (8 &&& 31)) ||| ((fd (x + 1).toNatClampNeg) &&& 255)) <<< (8 &&& 31)) ||| ((fd (x + 0).toNatClampNeg) &&& 255))
set_option maxHeartbeats 4000000 in
set_option maxRecDepth 100000 in
theorem kX3_load4 (l : Launch) (dC : Nat → ClassId) (dI : Nat → Nat → Nat) (cI cB : ClassId) (h a b c d : Nat) (v fw fd fs fn : Nat → Int32) (x : Int32) (hi : ∃ j : Nat, j + 4 ≤ 256 ∧ x = nI j) : Met l yX3_load wsX3_load ({ frames := 0, cells := 0, slots := 0, locals := 0 }) (ro_Pc [.ref h, .int x, .int 4] (dC, dI) vwCl (tyIB cI cB) (mdW cI cB h a b c d v fw fd fs fn)) (ro_Q (fX3_load4 v fw fd fs fn x)) 0 0 ro_N := by
  refine Met.ofW (cc := cX3_load) (maxL := 5) (ret := (some .int)) (by decide) rfl ?_
  intro p e s m args below meth c9 s₁ B hml hv
  obtain ⟨rfl, hP, hK⟩ := hv
  have hx := B.exec
  have hb := B.bytes
  have hr := B.returns
  have hts := atoms_spec (ws := wsX3_load) B.pre
  have hown : s.vm.findClass RX3 = some m.cls := findClass_of_methodNamed B.named
  have hlocks := B.notSynchronized
  have hS : va_S ro_N s.heap s.heap [] := va_S.rf
  have hin : ∀ w ∈ wsX30, w ∈ wsX3_load := by decide +kernel
  have hf_13 := hts (.fieldLink RX3 13 "PipeWorksModel" "data" "[B") (by decide +kernel)
  have hl := lv_entry ([.ref h, .int x, .int 4]) (n := 5) (Nat.le_of_ble_eq_true rfl)
  rw [lg_entry_eq]
  generalize (lg_sl ([.ref h, .int x, .int 4]) ++ List.replicate (5 - (lg_sl ([.ref h, .int x, .int 4])).length) Slot.unset).toArray = ls at hl ⊢
  have hl : lv_has ls 5 [(0, .ref h), (1, .int x), (2, .int 4)] := hl
  refine lv_iconst (v := 0) hx hb dX3_load_0 (by decide) ?_
  refine lv_istore_n (lv' := [(3, .int 0), (0, .ref h), (1, .int x), (2, .int 4)]) hx hb dX3_load_1 rfl hl (by decide) rfl (fun ls hl => ?_)
  refine lv_iload_n hx hb dX3_load_2 rfl (lv_at hl 3 rfl) ?_
  refine lv_iconst (v := 1) hx hb dX3_load_3 (by decide) ?_
  refine lv_isub hx hb dX3_load_4 ?_
  rw [show (4 - 1 : Int32) = 3 from by decide]
  refine lv_istore (lv' := [(4, .int 3), (3, .int 0), (0, .ref h), (1, .int x), (2, .int 4)]) hx hb dX3_load_5 hl (by decide) rfl (fun ls hl => ?_)
  refine lv_iload hx hb dX3_load_7 (lv_at hl 0 rfl) ?_
  refine lv_if_lt (tgt := 37) hx hb dX3_load_9 (by decide) (fun c_9 => ?_) (fun c_9 => ?_)
  · exact absurd c_9 (by decide)
  refine lv_iload_n hx hb dX3_load_12 rfl (lv_at hl 1 rfl) ?_
  refine lv_bipush (v := 8) hx hb dX3_load_13 (by decide) ?_
  refine lv_ishl hx hb dX3_load_15 ?_
  refine lv_aload_n hx hb dX3_load_16 rfl (lv_at hl 2 rfl) ?_
  refine va_get (D := (dC, dI)) (ci := 1) (v := .ref b) (C := RX3) (T := TX3) (N := 21) hx hb hts hin hown hK hP 0 rfl rfl 2 (by decide) hf_13 (fun _ h9 => h9) rfl dX3_load_17 ?_
  refine lv_iload_n hx hb dX3_load_20 rfl (lv_at hl 3 rfl) ?_
  refine lv_iload hx hb dX3_load_21 (lv_at hl 0 rfl) ?_
  refine lv_iadd hx hb dX3_load_23 ?_
  refine va_bald hx hb hK hP 2 1 rfl rfl (ix_at3 hi (by decide)) dX3_load_24 ?_
  refine lv_sipush (v := 255) hx hb dX3_load_25 (by decide) ?_
  refine lv_iand hx hb dX3_load_28 ?_
  refine lv_ior hx hb dX3_load_29 ?_
  refine lv_istore_n (lv' := [(3, .int (((0 : Int32) <<< (8 &&& 31)) ||| ((fd (x + 3).toNatClampNeg) &&& 255))), (4, .int 3), (0, .ref h), (1, .int x), (2, .int 4)]) hx hb dX3_load_30 rfl hl (by decide) rfl (fun ls hl => ?_)
  refine lv_iinc (v := 2) (lv' := [(4, .int 2), (3, .int (((0 : Int32) <<< (8 &&& 31)) ||| ((fd (x + 3).toNatClampNeg) &&& 255))), (0, .ref h), (1, .int x), (2, .int 4)]) hx hb dX3_load_31 hl (k := 1) rfl (by first | rfl | decide) (by decide) rfl (fun ls hl => ?_)
  refine lv_goto (tgt := 7) hx hb dX3_load_34 (by decide) ?_
  refine lv_iload hx hb dX3_load_7 (lv_at hl 0 rfl) ?_
  refine lv_if_lt (tgt := 37) hx hb dX3_load_9 (by decide) (fun c_9 => ?_) (fun c_9 => ?_)
  · exact absurd c_9 (by decide)
  refine lv_iload_n hx hb dX3_load_12 rfl (lv_at hl 1 rfl) ?_
  refine lv_bipush (v := 8) hx hb dX3_load_13 (by decide) ?_
  refine lv_ishl hx hb dX3_load_15 ?_
  refine lv_aload_n hx hb dX3_load_16 rfl (lv_at hl 2 rfl) ?_
  refine va_get (D := (dC, dI)) (ci := 1) (v := .ref b) (C := RX3) (T := TX3) (N := 21) hx hb hts hin hown hK hP 0 rfl rfl 2 (by decide) hf_13 (fun _ h9 => h9) rfl dX3_load_17 ?_
  refine lv_iload_n hx hb dX3_load_20 rfl (lv_at hl 3 rfl) ?_
  refine lv_iload hx hb dX3_load_21 (lv_at hl 0 rfl) ?_
  refine lv_iadd hx hb dX3_load_23 ?_
  refine va_bald hx hb hK hP 2 1 rfl rfl (ix_at2 hi (by decide)) dX3_load_24 ?_
  refine lv_sipush (v := 255) hx hb dX3_load_25 (by decide) ?_
  refine lv_iand hx hb dX3_load_28 ?_
  refine lv_ior hx hb dX3_load_29 ?_
  refine lv_istore_n (lv' := [(3, .int (((((0 : Int32) <<< (8 &&& 31)) ||| ((fd (x + 3).toNatClampNeg) &&& 255)) <<< (8 &&& 31)) ||| ((fd (x + 2).toNatClampNeg) &&& 255))), (4, .int 2), (0, .ref h), (1, .int x), (2, .int 4)]) hx hb dX3_load_30 rfl hl (by decide) rfl (fun ls hl => ?_)
  refine lv_iinc (v := 1) (lv' := [(4, .int 1), (3, .int (((((0 : Int32) <<< (8 &&& 31)) ||| ((fd (x + 3).toNatClampNeg) &&& 255)) <<< (8 &&& 31)) ||| ((fd (x + 2).toNatClampNeg) &&& 255))), (0, .ref h), (1, .int x), (2, .int 4)]) hx hb dX3_load_31 hl (k := 1) rfl (by first | rfl | decide) (by decide) rfl (fun ls hl => ?_)
  refine lv_goto (tgt := 7) hx hb dX3_load_34 (by decide) ?_
  refine lv_iload hx hb dX3_load_7 (lv_at hl 0 rfl) ?_
  refine lv_if_lt (tgt := 37) hx hb dX3_load_9 (by decide) (fun c_9 => ?_) (fun c_9 => ?_)
  · exact absurd c_9 (by decide)
  refine lv_iload_n hx hb dX3_load_12 rfl (lv_at hl 1 rfl) ?_
  refine lv_bipush (v := 8) hx hb dX3_load_13 (by decide) ?_
  refine lv_ishl hx hb dX3_load_15 ?_
  refine lv_aload_n hx hb dX3_load_16 rfl (lv_at hl 2 rfl) ?_
  refine va_get (D := (dC, dI)) (ci := 1) (v := .ref b) (C := RX3) (T := TX3) (N := 21) hx hb hts hin hown hK hP 0 rfl rfl 2 (by decide) hf_13 (fun _ h9 => h9) rfl dX3_load_17 ?_
  refine lv_iload_n hx hb dX3_load_20 rfl (lv_at hl 3 rfl) ?_
  refine lv_iload hx hb dX3_load_21 (lv_at hl 0 rfl) ?_
  refine lv_iadd hx hb dX3_load_23 ?_
  refine va_bald hx hb hK hP 2 1 rfl rfl (ix_at1 hi (by decide)) dX3_load_24 ?_
  refine lv_sipush (v := 255) hx hb dX3_load_25 (by decide) ?_
  refine lv_iand hx hb dX3_load_28 ?_
  refine lv_ior hx hb dX3_load_29 ?_
  refine lv_istore_n (lv' := [(3, .int (((((((0 : Int32) <<< (8 &&& 31)) ||| ((fd (x + 3).toNatClampNeg) &&& 255)) <<< (8 &&& 31)) ||| ((fd (x + 2).toNatClampNeg) &&& 255)) <<< (8 &&& 31)) ||| ((fd (x + 1).toNatClampNeg) &&& 255))), (4, .int 1), (0, .ref h), (1, .int x), (2, .int 4)]) hx hb dX3_load_30 rfl hl (by decide) rfl (fun ls hl => ?_)
  refine lv_iinc (v := 0) (lv' := [(4, .int 0), (3, .int (((((((0 : Int32) <<< (8 &&& 31)) ||| ((fd (x + 3).toNatClampNeg) &&& 255)) <<< (8 &&& 31)) ||| ((fd (x + 2).toNatClampNeg) &&& 255)) <<< (8 &&& 31)) ||| ((fd (x + 1).toNatClampNeg) &&& 255))), (0, .ref h), (1, .int x), (2, .int 4)]) hx hb dX3_load_31 hl (k := 1) rfl (by first | rfl | decide) (by decide) rfl (fun ls hl => ?_)
  refine lv_goto (tgt := 7) hx hb dX3_load_34 (by decide) ?_
  refine lv_iload hx hb dX3_load_7 (lv_at hl 0 rfl) ?_
  refine lv_if_lt (tgt := 37) hx hb dX3_load_9 (by decide) (fun c_9 => ?_) (fun c_9 => ?_)
  · exact absurd c_9 (by decide)
  refine lv_iload_n hx hb dX3_load_12 rfl (lv_at hl 1 rfl) ?_
  refine lv_bipush (v := 8) hx hb dX3_load_13 (by decide) ?_
  refine lv_ishl hx hb dX3_load_15 ?_
  refine lv_aload_n hx hb dX3_load_16 rfl (lv_at hl 2 rfl) ?_
  refine va_get (D := (dC, dI)) (ci := 1) (v := .ref b) (C := RX3) (T := TX3) (N := 21) hx hb hts hin hown hK hP 0 rfl rfl 2 (by decide) hf_13 (fun _ h9 => h9) rfl dX3_load_17 ?_
  refine lv_iload_n hx hb dX3_load_20 rfl (lv_at hl 3 rfl) ?_
  refine lv_iload hx hb dX3_load_21 (lv_at hl 0 rfl) ?_
  refine lv_iadd hx hb dX3_load_23 ?_
  refine va_bald hx hb hK hP 2 1 rfl rfl (ix_at0 hi (by decide)) dX3_load_24 ?_
  refine lv_sipush (v := 255) hx hb dX3_load_25 (by decide) ?_
  refine lv_iand hx hb dX3_load_28 ?_
  refine lv_ior hx hb dX3_load_29 ?_
  refine lv_istore_n (lv' := [(3, .int (((((((((0 : Int32) <<< (8 &&& 31)) ||| ((fd (x + 3).toNatClampNeg) &&& 255)) <<< (8 &&& 31)) ||| ((fd (x + 2).toNatClampNeg) &&& 255)) <<< (8 &&& 31)) ||| ((fd (x + 1).toNatClampNeg) &&& 255)) <<< (8 &&& 31)) ||| ((fd (x + 0).toNatClampNeg) &&& 255))), (4, .int 0), (0, .ref h), (1, .int x), (2, .int 4)]) hx hb dX3_load_30 rfl hl (by decide) rfl (fun ls hl => ?_)
  refine lv_iinc (v := (-1)) (lv' := [(4, .int (-1)), (3, .int (((((((((0 : Int32) <<< (8 &&& 31)) ||| ((fd (x + 3).toNatClampNeg) &&& 255)) <<< (8 &&& 31)) ||| ((fd (x + 2).toNatClampNeg) &&& 255)) <<< (8 &&& 31)) ||| ((fd (x + 1).toNatClampNeg) &&& 255)) <<< (8 &&& 31)) ||| ((fd (x + 0).toNatClampNeg) &&& 255))), (0, .ref h), (1, .int x), (2, .int 4)]) hx hb dX3_load_31 hl (k := 1) rfl (by first | rfl | decide) (by decide) rfl (fun ls hl => ?_)
  refine lv_goto (tgt := 7) hx hb dX3_load_34 (by decide) ?_
  refine lv_iload hx hb dX3_load_7 (lv_at hl 0 rfl) ?_
  refine lv_if_lt (tgt := 37) hx hb dX3_load_9 (by decide) (fun c_9 => ?_) (fun c_9 => ?_)
  rotate_left
  · exact absurd c_9 (by decide)
  refine lv_iload_n hx hb dX3_load_37 rfl (lv_at hl 1 rfl) ?_
  exact W.iret (v := ((((((((0 : Int32) <<< (8 &&& 31)) ||| ((fd (x + 3).toNatClampNeg) &&& 255)) <<< (8 &&& 31)) ||| ((fd (x + 2).toNatClampNeg) &&& 255)) <<< (8 &&& 31)) ||| ((fd (x + 1).toNatClampNeg) &&& 255)) <<< (8 &&& 31)) ||| ((fd (x + 0).toNatClampNeg) &&& 255)) hx hb hr (fun t ht hW => ro_end (A := ro_N) hS ht (by rw [fX3_load4])) hS.2.2 dX3_load_38
def fX3_store1 (v fw fd fs fn : Nat → Int32) (x y : Int32) : (Nat → Int32) := (upd fd (x + 0).toNatClampNeg (vp_nar .byte ((y >>> (0 &&& 31)).toInt8.toInt32)))
set_option maxHeartbeats 4000000 in
set_option maxRecDepth 100000 in
theorem kX3_store1 (l : Launch) (dC : Nat → ClassId) (dI : Nat → Nat → Nat) (cI cB : ClassId) (h a b c d : Nat) (sz : Nat) (v fw fd fs fn : Nat → Int32) (x y : Int32) (hi : ∃ j : Nat, j + 1 ≤ 256 ∧ x = nI j) : Met l yX3_store wsX3_store ({ frames := 0, cells := 0, slots := 0, locals := 0 }) (wr_Pc [.ref h, .int x, .int 1, .int y] (dC, dI) vwCl (tyIB cI cB) (mdW cI cB h a b c d v fw fd fs fn) sz) (wr_Qv (mdW cI cB h a b c d v fw (fX3_store1 v fw fd fs fn x y) fs fn) (dC, dI) vwCl (mdW cI cB h a b c d v fw fd fs fn) sz) 0 0 (va_A (mdW cI cB h a b c d v fw fd fs fn) sz) := by
  refine Met.ofW (cc := cX3_store) (maxL := 5) (ret := none) (by decide) rfl ?_
  intro p e s m args below meth c9 s₁ B hml hv
  obtain ⟨rfl, hsz, hP, hK, hD0⟩ := hv
  have hx := B.exec
  have hb := B.bytes
  have hr := B.returns
  have hts := atoms_spec (ws := wsX3_store) B.pre
  have hown : s.vm.findClass RX3 = some m.cls := findClass_of_methodNamed B.named
  have hlocks := B.notSynchronized
  subst hsz
  have hD := hD0.self (sz := s.heap.size)
  generalize hAe : va_A (mdW cI cB h a b c d v fw fd fs fn) s.heap.size = A at hD ⊢
  have hA : ∀ q : Nat, s.heap.size ≤ q → A q := fun q h => by rw [← hAe]; exact Or.inr h
  have hS : va_S A s.heap s.heap [] := va_S.rf
  have hin : ∀ w ∈ wsX30, w ∈ wsX3_store := by decide +kernel
  have hf_13 := hts (.fieldLink RX3 13 "PipeWorksModel" "data" "[B") (by decide +kernel)
  have hl := lv_entry ([.ref h, .int x, .int 1, .int y]) (n := 5) (Nat.le_of_ble_eq_true rfl)
  rw [lg_entry_eq]
  generalize (lg_sl ([.ref h, .int x, .int 1, .int y]) ++ List.replicate (5 - (lg_sl ([.ref h, .int x, .int 1, .int y])).length) Slot.unset).toArray = ls at hl ⊢
  have hl : lv_has ls 5 [(0, .ref h), (1, .int x), (2, .int 1), (3, .int y)] := hl
  refine lv_iconst (v := 0) hx hb dX3_store_0 (by decide) ?_
  refine lv_istore (lv' := [(4, .int 0), (0, .ref h), (1, .int x), (2, .int 1), (3, .int y)]) hx hb dX3_store_1 hl (by decide) rfl (fun ls hl => ?_)
  refine lv_iload hx hb dX3_store_3 (lv_at hl 0 rfl) ?_
  refine lv_iload_n hx hb dX3_store_5 rfl (lv_at hl 3 rfl) ?_
  refine lv_icmp_ge (tgt := 32) hx hb dX3_store_6 (by decide) (fun c_6 => ?_) (fun c_6 => ?_)
  · exact absurd c_6 (by decide)
  refine lv_aload_n hx hb dX3_store_9 rfl (lv_at hl 1 rfl) ?_
  refine va_get (D := (dC, dI)) (ci := 1) (v := .ref b) (C := RX3) (T := TX3) (N := 21) hx hb hts hin hown hK hP 0 rfl rfl 2 (by decide) hf_13 (fun _ h9 => h9) rfl dX3_store_10 ?_
  refine lv_iload_n hx hb dX3_store_13 rfl (lv_at hl 2 rfl) ?_
  refine lv_iload hx hb dX3_store_14 (lv_at hl 0 rfl) ?_
  refine lv_iadd hx hb dX3_store_16 ?_
  refine lv_iload_n hx hb dX3_store_17 rfl (lv_at hl 4 rfl) ?_
  refine lv_bipush (v := 8) hx hb dX3_store_18 (by decide) ?_
  refine lv_iload hx hb dX3_store_20 (lv_at hl 0 rfl) ?_
  refine lv_imul hx hb dX3_store_22 ?_
  rw [show (8 * 0 : Int32) = 0 from by decide]
  refine lv_ishr hx hb dX3_store_23 ?_
  refine lv_i2b (v := (y >>> (0 &&& 31)).toInt8.toInt32) hx hb dX3_store_24 rfl ?_
  refine va_bast hx hb hK hP hD hS 2 1 rfl rfl (ix_at0 hi (by decide)) dX3_store_25 (fun H locs hP hD hS => ?_)
  have hP : va_P (dC, dI) vwCl (mdW cI cB h a b c d v fw (upd fd (x + 0).toNatClampNeg (vp_nar .byte ((y >>> (0 &&& 31)).toInt8.toInt32))) fs fn) H := hP
  have hD : va_D A (mdW cI cB h a b c d v fw (upd fd (x + 0).toNatClampNeg (vp_nar .byte ((y >>> (0 &&& 31)).toInt8.toInt32))) fs fn) := hD
  refine lv_iinc (v := 1) (lv' := [(4, .int 1), (0, .ref h), (1, .int x), (2, .int 1), (3, .int y)]) hx hb dX3_store_26 hl (k := 0) rfl (by first | rfl | decide) (by decide) rfl (fun ls hl => ?_)
  refine lv_goto (tgt := 3) hx hb dX3_store_29 (by decide) ?_
  refine lv_iload hx hb dX3_store_3 (lv_at hl 0 rfl) ?_
  refine lv_iload_n hx hb dX3_store_5 rfl (lv_at hl 3 rfl) ?_
  refine lv_icmp_ge (tgt := 32) hx hb dX3_store_6 (by decide) (fun c_6 => ?_) (fun c_6 => ?_)
  rotate_left
  · exact absurd c_6 (by decide)
  have e9 : fX3_store1 v fw fd fs fn x y = (upd fd (x + 0).toNatClampNeg (vp_nar .byte ((y >>> (0 &&& 31)).toInt8.toInt32))) := by rw [fX3_store1]
  exact W.vret hx hb hr (fun t ht hW => wr_endv (hAe ▸ hS) ht (by rw [e9]; exact hP) (by rw [e9, hAe]; exact hD)) hS.2.2 dX3_store_32
def fX3_store2 (v fw fd fs fn : Nat → Int32) (x y : Int32) : (Nat → Int32) := (upd (upd fd (x + 0).toNatClampNeg (vp_nar .byte ((y >>> (0 &&& 31)).toInt8.toInt32))) (x + 1).toNatClampNeg (vp_nar .byte ((y >>> (8 &&& 31)).toInt8.toInt32)))
set_option maxHeartbeats 4000000 in
set_option maxRecDepth 100000 in
theorem kX3_store2 (l : Launch) (dC : Nat → ClassId) (dI : Nat → Nat → Nat) (cI cB : ClassId) (h a b c d : Nat) (sz : Nat) (v fw fd fs fn : Nat → Int32) (x y : Int32) (hi : ∃ j : Nat, j + 2 ≤ 256 ∧ x = nI j) : Met l yX3_store wsX3_store ({ frames := 0, cells := 0, slots := 0, locals := 0 }) (wr_Pc [.ref h, .int x, .int 2, .int y] (dC, dI) vwCl (tyIB cI cB) (mdW cI cB h a b c d v fw fd fs fn) sz) (wr_Qv (mdW cI cB h a b c d v fw (fX3_store2 v fw fd fs fn x y) fs fn) (dC, dI) vwCl (mdW cI cB h a b c d v fw fd fs fn) sz) 0 0 (va_A (mdW cI cB h a b c d v fw fd fs fn) sz) := by
  refine Met.ofW (cc := cX3_store) (maxL := 5) (ret := none) (by decide) rfl ?_
  intro p e s m args below meth c9 s₁ B hml hv
  obtain ⟨rfl, hsz, hP, hK, hD0⟩ := hv
  have hx := B.exec
  have hb := B.bytes
  have hr := B.returns
  have hts := atoms_spec (ws := wsX3_store) B.pre
  have hown : s.vm.findClass RX3 = some m.cls := findClass_of_methodNamed B.named
  have hlocks := B.notSynchronized
  subst hsz
  have hD := hD0.self (sz := s.heap.size)
  generalize hAe : va_A (mdW cI cB h a b c d v fw fd fs fn) s.heap.size = A at hD ⊢
  have hA : ∀ q : Nat, s.heap.size ≤ q → A q := fun q h => by rw [← hAe]; exact Or.inr h
  have hS : va_S A s.heap s.heap [] := va_S.rf
  have hin : ∀ w ∈ wsX30, w ∈ wsX3_store := by decide +kernel
  have hf_13 := hts (.fieldLink RX3 13 "PipeWorksModel" "data" "[B") (by decide +kernel)
  have hl := lv_entry ([.ref h, .int x, .int 2, .int y]) (n := 5) (Nat.le_of_ble_eq_true rfl)
  rw [lg_entry_eq]
  generalize (lg_sl ([.ref h, .int x, .int 2, .int y]) ++ List.replicate (5 - (lg_sl ([.ref h, .int x, .int 2, .int y])).length) Slot.unset).toArray = ls at hl ⊢
  have hl : lv_has ls 5 [(0, .ref h), (1, .int x), (2, .int 2), (3, .int y)] := hl
  refine lv_iconst (v := 0) hx hb dX3_store_0 (by decide) ?_
  refine lv_istore (lv' := [(4, .int 0), (0, .ref h), (1, .int x), (2, .int 2), (3, .int y)]) hx hb dX3_store_1 hl (by decide) rfl (fun ls hl => ?_)
  refine lv_iload hx hb dX3_store_3 (lv_at hl 0 rfl) ?_
  refine lv_iload_n hx hb dX3_store_5 rfl (lv_at hl 3 rfl) ?_
  refine lv_icmp_ge (tgt := 32) hx hb dX3_store_6 (by decide) (fun c_6 => ?_) (fun c_6 => ?_)
  · exact absurd c_6 (by decide)
  refine lv_aload_n hx hb dX3_store_9 rfl (lv_at hl 1 rfl) ?_
  refine va_get (D := (dC, dI)) (ci := 1) (v := .ref b) (C := RX3) (T := TX3) (N := 21) hx hb hts hin hown hK hP 0 rfl rfl 2 (by decide) hf_13 (fun _ h9 => h9) rfl dX3_store_10 ?_
  refine lv_iload_n hx hb dX3_store_13 rfl (lv_at hl 2 rfl) ?_
  refine lv_iload hx hb dX3_store_14 (lv_at hl 0 rfl) ?_
  refine lv_iadd hx hb dX3_store_16 ?_
  refine lv_iload_n hx hb dX3_store_17 rfl (lv_at hl 4 rfl) ?_
  refine lv_bipush (v := 8) hx hb dX3_store_18 (by decide) ?_
  refine lv_iload hx hb dX3_store_20 (lv_at hl 0 rfl) ?_
  refine lv_imul hx hb dX3_store_22 ?_
  rw [show (8 * 0 : Int32) = 0 from by decide]
  refine lv_ishr hx hb dX3_store_23 ?_
  refine lv_i2b (v := (y >>> (0 &&& 31)).toInt8.toInt32) hx hb dX3_store_24 rfl ?_
  refine va_bast hx hb hK hP hD hS 2 1 rfl rfl (ix_at0 hi (by decide)) dX3_store_25 (fun H locs hP hD hS => ?_)
  have hP : va_P (dC, dI) vwCl (mdW cI cB h a b c d v fw (upd fd (x + 0).toNatClampNeg (vp_nar .byte ((y >>> (0 &&& 31)).toInt8.toInt32))) fs fn) H := hP
  have hD : va_D A (mdW cI cB h a b c d v fw (upd fd (x + 0).toNatClampNeg (vp_nar .byte ((y >>> (0 &&& 31)).toInt8.toInt32))) fs fn) := hD
  refine lv_iinc (v := 1) (lv' := [(4, .int 1), (0, .ref h), (1, .int x), (2, .int 2), (3, .int y)]) hx hb dX3_store_26 hl (k := 0) rfl (by first | rfl | decide) (by decide) rfl (fun ls hl => ?_)
  refine lv_goto (tgt := 3) hx hb dX3_store_29 (by decide) ?_
  refine lv_iload hx hb dX3_store_3 (lv_at hl 0 rfl) ?_
  refine lv_iload_n hx hb dX3_store_5 rfl (lv_at hl 3 rfl) ?_
  refine lv_icmp_ge (tgt := 32) hx hb dX3_store_6 (by decide) (fun c_6 => ?_) (fun c_6 => ?_)
  · exact absurd c_6 (by decide)
  refine lv_aload_n hx hb dX3_store_9 rfl (lv_at hl 1 rfl) ?_
  refine va_get (D := (dC, dI)) (ci := 1) (v := .ref b) (C := RX3) (T := TX3) (N := 21) hx hb hts hin hown hK hP 0 rfl rfl 2 (by decide) hf_13 (fun _ h9 => h9) rfl dX3_store_10 ?_
  refine lv_iload_n hx hb dX3_store_13 rfl (lv_at hl 2 rfl) ?_
  refine lv_iload hx hb dX3_store_14 (lv_at hl 0 rfl) ?_
  refine lv_iadd hx hb dX3_store_16 ?_
  refine lv_iload_n hx hb dX3_store_17 rfl (lv_at hl 4 rfl) ?_
  refine lv_bipush (v := 8) hx hb dX3_store_18 (by decide) ?_
  refine lv_iload hx hb dX3_store_20 (lv_at hl 0 rfl) ?_
  refine lv_imul hx hb dX3_store_22 ?_
  rw [show (8 * 1 : Int32) = 8 from by decide]
  refine lv_ishr hx hb dX3_store_23 ?_
  refine lv_i2b (v := (y >>> (8 &&& 31)).toInt8.toInt32) hx hb dX3_store_24 rfl ?_
  refine va_bast hx hb hK hP hD hS 2 1 rfl rfl (ix_at1 hi (by decide)) dX3_store_25 (fun H locs hP hD hS => ?_)
  have hP : va_P (dC, dI) vwCl (mdW cI cB h a b c d v fw (upd (upd fd (x + 0).toNatClampNeg (vp_nar .byte ((y >>> (0 &&& 31)).toInt8.toInt32))) (x + 1).toNatClampNeg (vp_nar .byte ((y >>> (8 &&& 31)).toInt8.toInt32))) fs fn) H := hP
  have hD : va_D A (mdW cI cB h a b c d v fw (upd (upd fd (x + 0).toNatClampNeg (vp_nar .byte ((y >>> (0 &&& 31)).toInt8.toInt32))) (x + 1).toNatClampNeg (vp_nar .byte ((y >>> (8 &&& 31)).toInt8.toInt32))) fs fn) := hD
  refine lv_iinc (v := 2) (lv' := [(4, .int 2), (0, .ref h), (1, .int x), (2, .int 2), (3, .int y)]) hx hb dX3_store_26 hl (k := 0) rfl (by first | rfl | decide) (by decide) rfl (fun ls hl => ?_)
  refine lv_goto (tgt := 3) hx hb dX3_store_29 (by decide) ?_
  refine lv_iload hx hb dX3_store_3 (lv_at hl 0 rfl) ?_
  refine lv_iload_n hx hb dX3_store_5 rfl (lv_at hl 3 rfl) ?_
  refine lv_icmp_ge (tgt := 32) hx hb dX3_store_6 (by decide) (fun c_6 => ?_) (fun c_6 => ?_)
  rotate_left
  · exact absurd c_6 (by decide)
  have e9 : fX3_store2 v fw fd fs fn x y = (upd (upd fd (x + 0).toNatClampNeg (vp_nar .byte ((y >>> (0 &&& 31)).toInt8.toInt32))) (x + 1).toNatClampNeg (vp_nar .byte ((y >>> (8 &&& 31)).toInt8.toInt32))) := by rw [fX3_store2]
  exact W.vret hx hb hr (fun t ht hW => wr_endv (hAe ▸ hS) ht (by rw [e9]; exact hP) (by rw [e9, hAe]; exact hD)) hS.2.2 dX3_store_32
def fX3_store4 (v fw fd fs fn : Nat → Int32) (x y : Int32) : (Nat → Int32) := (upd (upd (upd (upd fd (x + 0).toNatClampNeg (vp_nar .byte ((y >>> (0 &&& 31)).toInt8.toInt32))) (x + 1).toNatClampNeg (vp_nar .byte ((y >>> (8 &&& 31)).toInt8.toInt32))) (x + 2).toNatClampNeg (vp_nar .byte ((y >>> (16 &&& 31)).toInt8.toInt32))) (x + 3).toNatClampNeg (vp_nar .byte ((y >>> (24 &&& 31)).toInt8.toInt32)))
set_option maxHeartbeats 4000000 in
set_option maxRecDepth 100000 in
theorem kX3_store4 (l : Launch) (dC : Nat → ClassId) (dI : Nat → Nat → Nat) (cI cB : ClassId) (h a b c d : Nat) (sz : Nat) (v fw fd fs fn : Nat → Int32) (x y : Int32) (hi : ∃ j : Nat, j + 4 ≤ 256 ∧ x = nI j) : Met l yX3_store wsX3_store ({ frames := 0, cells := 0, slots := 0, locals := 0 }) (wr_Pc [.ref h, .int x, .int 4, .int y] (dC, dI) vwCl (tyIB cI cB) (mdW cI cB h a b c d v fw fd fs fn) sz) (wr_Qv (mdW cI cB h a b c d v fw (fX3_store4 v fw fd fs fn x y) fs fn) (dC, dI) vwCl (mdW cI cB h a b c d v fw fd fs fn) sz) 0 0 (va_A (mdW cI cB h a b c d v fw fd fs fn) sz) := by
  refine Met.ofW (cc := cX3_store) (maxL := 5) (ret := none) (by decide) rfl ?_
  intro p e s m args below meth c9 s₁ B hml hv
  obtain ⟨rfl, hsz, hP, hK, hD0⟩ := hv
  have hx := B.exec
  have hb := B.bytes
  have hr := B.returns
  have hts := atoms_spec (ws := wsX3_store) B.pre
  have hown : s.vm.findClass RX3 = some m.cls := findClass_of_methodNamed B.named
  have hlocks := B.notSynchronized
  subst hsz
  have hD := hD0.self (sz := s.heap.size)
  generalize hAe : va_A (mdW cI cB h a b c d v fw fd fs fn) s.heap.size = A at hD ⊢
  have hA : ∀ q : Nat, s.heap.size ≤ q → A q := fun q h => by rw [← hAe]; exact Or.inr h
  have hS : va_S A s.heap s.heap [] := va_S.rf
  have hin : ∀ w ∈ wsX30, w ∈ wsX3_store := by decide +kernel
  have hf_13 := hts (.fieldLink RX3 13 "PipeWorksModel" "data" "[B") (by decide +kernel)
  have hl := lv_entry ([.ref h, .int x, .int 4, .int y]) (n := 5) (Nat.le_of_ble_eq_true rfl)
  rw [lg_entry_eq]
  generalize (lg_sl ([.ref h, .int x, .int 4, .int y]) ++ List.replicate (5 - (lg_sl ([.ref h, .int x, .int 4, .int y])).length) Slot.unset).toArray = ls at hl ⊢
  have hl : lv_has ls 5 [(0, .ref h), (1, .int x), (2, .int 4), (3, .int y)] := hl
  refine lv_iconst (v := 0) hx hb dX3_store_0 (by decide) ?_
  refine lv_istore (lv' := [(4, .int 0), (0, .ref h), (1, .int x), (2, .int 4), (3, .int y)]) hx hb dX3_store_1 hl (by decide) rfl (fun ls hl => ?_)
  refine lv_iload hx hb dX3_store_3 (lv_at hl 0 rfl) ?_
  refine lv_iload_n hx hb dX3_store_5 rfl (lv_at hl 3 rfl) ?_
  refine lv_icmp_ge (tgt := 32) hx hb dX3_store_6 (by decide) (fun c_6 => ?_) (fun c_6 => ?_)
  · exact absurd c_6 (by decide)
  refine lv_aload_n hx hb dX3_store_9 rfl (lv_at hl 1 rfl) ?_
  refine va_get (D := (dC, dI)) (ci := 1) (v := .ref b) (C := RX3) (T := TX3) (N := 21) hx hb hts hin hown hK hP 0 rfl rfl 2 (by decide) hf_13 (fun _ h9 => h9) rfl dX3_store_10 ?_
  refine lv_iload_n hx hb dX3_store_13 rfl (lv_at hl 2 rfl) ?_
  refine lv_iload hx hb dX3_store_14 (lv_at hl 0 rfl) ?_
  refine lv_iadd hx hb dX3_store_16 ?_
  refine lv_iload_n hx hb dX3_store_17 rfl (lv_at hl 4 rfl) ?_
  refine lv_bipush (v := 8) hx hb dX3_store_18 (by decide) ?_
  refine lv_iload hx hb dX3_store_20 (lv_at hl 0 rfl) ?_
  refine lv_imul hx hb dX3_store_22 ?_
  rw [show (8 * 0 : Int32) = 0 from by decide]
  refine lv_ishr hx hb dX3_store_23 ?_
  refine lv_i2b (v := (y >>> (0 &&& 31)).toInt8.toInt32) hx hb dX3_store_24 rfl ?_
  refine va_bast hx hb hK hP hD hS 2 1 rfl rfl (ix_at0 hi (by decide)) dX3_store_25 (fun H locs hP hD hS => ?_)
  have hP : va_P (dC, dI) vwCl (mdW cI cB h a b c d v fw (upd fd (x + 0).toNatClampNeg (vp_nar .byte ((y >>> (0 &&& 31)).toInt8.toInt32))) fs fn) H := hP
  have hD : va_D A (mdW cI cB h a b c d v fw (upd fd (x + 0).toNatClampNeg (vp_nar .byte ((y >>> (0 &&& 31)).toInt8.toInt32))) fs fn) := hD
  refine lv_iinc (v := 1) (lv' := [(4, .int 1), (0, .ref h), (1, .int x), (2, .int 4), (3, .int y)]) hx hb dX3_store_26 hl (k := 0) rfl (by first | rfl | decide) (by decide) rfl (fun ls hl => ?_)
  refine lv_goto (tgt := 3) hx hb dX3_store_29 (by decide) ?_
  refine lv_iload hx hb dX3_store_3 (lv_at hl 0 rfl) ?_
  refine lv_iload_n hx hb dX3_store_5 rfl (lv_at hl 3 rfl) ?_
  refine lv_icmp_ge (tgt := 32) hx hb dX3_store_6 (by decide) (fun c_6 => ?_) (fun c_6 => ?_)
  · exact absurd c_6 (by decide)
  refine lv_aload_n hx hb dX3_store_9 rfl (lv_at hl 1 rfl) ?_
  refine va_get (D := (dC, dI)) (ci := 1) (v := .ref b) (C := RX3) (T := TX3) (N := 21) hx hb hts hin hown hK hP 0 rfl rfl 2 (by decide) hf_13 (fun _ h9 => h9) rfl dX3_store_10 ?_
  refine lv_iload_n hx hb dX3_store_13 rfl (lv_at hl 2 rfl) ?_
  refine lv_iload hx hb dX3_store_14 (lv_at hl 0 rfl) ?_
  refine lv_iadd hx hb dX3_store_16 ?_
  refine lv_iload_n hx hb dX3_store_17 rfl (lv_at hl 4 rfl) ?_
  refine lv_bipush (v := 8) hx hb dX3_store_18 (by decide) ?_
  refine lv_iload hx hb dX3_store_20 (lv_at hl 0 rfl) ?_
  refine lv_imul hx hb dX3_store_22 ?_
  rw [show (8 * 1 : Int32) = 8 from by decide]
  refine lv_ishr hx hb dX3_store_23 ?_
  refine lv_i2b (v := (y >>> (8 &&& 31)).toInt8.toInt32) hx hb dX3_store_24 rfl ?_
  refine va_bast hx hb hK hP hD hS 2 1 rfl rfl (ix_at1 hi (by decide)) dX3_store_25 (fun H locs hP hD hS => ?_)
  have hP : va_P (dC, dI) vwCl (mdW cI cB h a b c d v fw (upd (upd fd (x + 0).toNatClampNeg (vp_nar .byte ((y >>> (0 &&& 31)).toInt8.toInt32))) (x + 1).toNatClampNeg (vp_nar .byte ((y >>> (8 &&& 31)).toInt8.toInt32))) fs fn) H := hP
  have hD : va_D A (mdW cI cB h a b c d v fw (upd (upd fd (x + 0).toNatClampNeg (vp_nar .byte ((y >>> (0 &&& 31)).toInt8.toInt32))) (x + 1).toNatClampNeg (vp_nar .byte ((y >>> (8 &&& 31)).toInt8.toInt32))) fs fn) := hD
  refine lv_iinc (v := 2) (lv' := [(4, .int 2), (0, .ref h), (1, .int x), (2, .int 4), (3, .int y)]) hx hb dX3_store_26 hl (k := 0) rfl (by first | rfl | decide) (by decide) rfl (fun ls hl => ?_)
  refine lv_goto (tgt := 3) hx hb dX3_store_29 (by decide) ?_
  refine lv_iload hx hb dX3_store_3 (lv_at hl 0 rfl) ?_
  refine lv_iload_n hx hb dX3_store_5 rfl (lv_at hl 3 rfl) ?_
  refine lv_icmp_ge (tgt := 32) hx hb dX3_store_6 (by decide) (fun c_6 => ?_) (fun c_6 => ?_)
  · exact absurd c_6 (by decide)
  refine lv_aload_n hx hb dX3_store_9 rfl (lv_at hl 1 rfl) ?_
  refine va_get (D := (dC, dI)) (ci := 1) (v := .ref b) (C := RX3) (T := TX3) (N := 21) hx hb hts hin hown hK hP 0 rfl rfl 2 (by decide) hf_13 (fun _ h9 => h9) rfl dX3_store_10 ?_
  refine lv_iload_n hx hb dX3_store_13 rfl (lv_at hl 2 rfl) ?_
  refine lv_iload hx hb dX3_store_14 (lv_at hl 0 rfl) ?_
  refine lv_iadd hx hb dX3_store_16 ?_
  refine lv_iload_n hx hb dX3_store_17 rfl (lv_at hl 4 rfl) ?_
  refine lv_bipush (v := 8) hx hb dX3_store_18 (by decide) ?_
  refine lv_iload hx hb dX3_store_20 (lv_at hl 0 rfl) ?_
  refine lv_imul hx hb dX3_store_22 ?_
  rw [show (8 * 2 : Int32) = 16 from by decide]
  refine lv_ishr hx hb dX3_store_23 ?_
  refine lv_i2b (v := (y >>> (16 &&& 31)).toInt8.toInt32) hx hb dX3_store_24 rfl ?_
  refine va_bast hx hb hK hP hD hS 2 1 rfl rfl (ix_at2 hi (by decide)) dX3_store_25 (fun H locs hP hD hS => ?_)
  have hP : va_P (dC, dI) vwCl (mdW cI cB h a b c d v fw (upd (upd (upd fd (x + 0).toNatClampNeg (vp_nar .byte ((y >>> (0 &&& 31)).toInt8.toInt32))) (x + 1).toNatClampNeg (vp_nar .byte ((y >>> (8 &&& 31)).toInt8.toInt32))) (x + 2).toNatClampNeg (vp_nar .byte ((y >>> (16 &&& 31)).toInt8.toInt32))) fs fn) H := hP
  have hD : va_D A (mdW cI cB h a b c d v fw (upd (upd (upd fd (x + 0).toNatClampNeg (vp_nar .byte ((y >>> (0 &&& 31)).toInt8.toInt32))) (x + 1).toNatClampNeg (vp_nar .byte ((y >>> (8 &&& 31)).toInt8.toInt32))) (x + 2).toNatClampNeg (vp_nar .byte ((y >>> (16 &&& 31)).toInt8.toInt32))) fs fn) := hD
  refine lv_iinc (v := 3) (lv' := [(4, .int 3), (0, .ref h), (1, .int x), (2, .int 4), (3, .int y)]) hx hb dX3_store_26 hl (k := 0) rfl (by first | rfl | decide) (by decide) rfl (fun ls hl => ?_)
  refine lv_goto (tgt := 3) hx hb dX3_store_29 (by decide) ?_
  refine lv_iload hx hb dX3_store_3 (lv_at hl 0 rfl) ?_
  refine lv_iload_n hx hb dX3_store_5 rfl (lv_at hl 3 rfl) ?_
  refine lv_icmp_ge (tgt := 32) hx hb dX3_store_6 (by decide) (fun c_6 => ?_) (fun c_6 => ?_)
  · exact absurd c_6 (by decide)
  refine lv_aload_n hx hb dX3_store_9 rfl (lv_at hl 1 rfl) ?_
  refine va_get (D := (dC, dI)) (ci := 1) (v := .ref b) (C := RX3) (T := TX3) (N := 21) hx hb hts hin hown hK hP 0 rfl rfl 2 (by decide) hf_13 (fun _ h9 => h9) rfl dX3_store_10 ?_
  refine lv_iload_n hx hb dX3_store_13 rfl (lv_at hl 2 rfl) ?_
  refine lv_iload hx hb dX3_store_14 (lv_at hl 0 rfl) ?_
  refine lv_iadd hx hb dX3_store_16 ?_
  refine lv_iload_n hx hb dX3_store_17 rfl (lv_at hl 4 rfl) ?_
  refine lv_bipush (v := 8) hx hb dX3_store_18 (by decide) ?_
  refine lv_iload hx hb dX3_store_20 (lv_at hl 0 rfl) ?_
  refine lv_imul hx hb dX3_store_22 ?_
  rw [show (8 * 3 : Int32) = 24 from by decide]
  refine lv_ishr hx hb dX3_store_23 ?_
  refine lv_i2b (v := (y >>> (24 &&& 31)).toInt8.toInt32) hx hb dX3_store_24 rfl ?_
  refine va_bast hx hb hK hP hD hS 2 1 rfl rfl (ix_at3 hi (by decide)) dX3_store_25 (fun H locs hP hD hS => ?_)
  have hP : va_P (dC, dI) vwCl (mdW cI cB h a b c d v fw (upd (upd (upd (upd fd (x + 0).toNatClampNeg (vp_nar .byte ((y >>> (0 &&& 31)).toInt8.toInt32))) (x + 1).toNatClampNeg (vp_nar .byte ((y >>> (8 &&& 31)).toInt8.toInt32))) (x + 2).toNatClampNeg (vp_nar .byte ((y >>> (16 &&& 31)).toInt8.toInt32))) (x + 3).toNatClampNeg (vp_nar .byte ((y >>> (24 &&& 31)).toInt8.toInt32))) fs fn) H := hP
  have hD : va_D A (mdW cI cB h a b c d v fw (upd (upd (upd (upd fd (x + 0).toNatClampNeg (vp_nar .byte ((y >>> (0 &&& 31)).toInt8.toInt32))) (x + 1).toNatClampNeg (vp_nar .byte ((y >>> (8 &&& 31)).toInt8.toInt32))) (x + 2).toNatClampNeg (vp_nar .byte ((y >>> (16 &&& 31)).toInt8.toInt32))) (x + 3).toNatClampNeg (vp_nar .byte ((y >>> (24 &&& 31)).toInt8.toInt32))) fs fn) := hD
  refine lv_iinc (v := 4) (lv' := [(4, .int 4), (0, .ref h), (1, .int x), (2, .int 4), (3, .int y)]) hx hb dX3_store_26 hl (k := 0) rfl (by first | rfl | decide) (by decide) rfl (fun ls hl => ?_)
  refine lv_goto (tgt := 3) hx hb dX3_store_29 (by decide) ?_
  refine lv_iload hx hb dX3_store_3 (lv_at hl 0 rfl) ?_
  refine lv_iload_n hx hb dX3_store_5 rfl (lv_at hl 3 rfl) ?_
  refine lv_icmp_ge (tgt := 32) hx hb dX3_store_6 (by decide) (fun c_6 => ?_) (fun c_6 => ?_)
  rotate_left
  · exact absurd c_6 (by decide)
  have e9 : fX3_store4 v fw fd fs fn x y = (upd (upd (upd (upd fd (x + 0).toNatClampNeg (vp_nar .byte ((y >>> (0 &&& 31)).toInt8.toInt32))) (x + 1).toNatClampNeg (vp_nar .byte ((y >>> (8 &&& 31)).toInt8.toInt32))) (x + 2).toNatClampNeg (vp_nar .byte ((y >>> (16 &&& 31)).toInt8.toInt32))) (x + 3).toNatClampNeg (vp_nar .byte ((y >>> (24 &&& 31)).toInt8.toInt32))) := by rw [fX3_store4]
  exact W.vret hx hb hr (fun t ht hW => wr_endv (hAe ▸ hS) ht (by rw [e9]; exact hP) (by rw [e9, hAe]; exact hD)) hS.2.2 dX3_store_32
def fX3_thrown (v fw fd fs fn : Nat → Int32) : Int32 := (v 0)
set_option maxHeartbeats 4000000 in
set_option maxRecDepth 100000 in
theorem kX3_thrown (l : Launch) (dC : Nat → ClassId) (dI : Nat → Nat → Nat) (cI cB : ClassId) (h a b c d : Nat) (v fw fd fs fn : Nat → Int32) : Met l yX3_thrown wsX3_thrown ({ frames := 0, cells := 0, slots := 0, locals := 0 }) (ro_Pc [.ref h] (dC, dI) vwCl (tyIB cI cB) (mdW cI cB h a b c d v fw fd fs fn)) (ro_Q (fX3_thrown v fw fd fs fn)) 0 0 ro_N := by
  refine Met.ofW (cc := cX3_thrown) (maxL := 1) (ret := (some .int)) (by decide) rfl ?_
  intro p e s m args below meth c9 s₁ B hml hv
  obtain ⟨rfl, hP, hK⟩ := hv
  have hx := B.exec
  have hb := B.bytes
  have hr := B.returns
  have hts := atoms_spec (ws := wsX3_thrown) B.pre
  have hown : s.vm.findClass RX3 = some m.cls := findClass_of_methodNamed B.named
  have hlocks := B.notSynchronized
  have hS : va_S ro_N s.heap s.heap [] := va_S.rf
  have hin : ∀ w ∈ wsX30, w ∈ wsX3_thrown := by decide +kernel
  have hf_30 := hts (.fieldLink RX3 30 "PipeWorksModel" "thrown" "I") (by decide +kernel)
  have hl := lv_entry ([.ref h]) (n := 1) (Nat.le_of_ble_eq_true rfl)
  rw [lg_entry_eq]
  generalize (lg_sl ([.ref h]) ++ List.replicate (1 - (lg_sl ([.ref h])).length) Slot.unset).toArray = ls at hl ⊢
  have hl : lv_has ls 1 [(0, .ref h)] := hl
  refine lv_aload_n hx hb dX3_thrown_0 rfl (lv_at hl 0 rfl) ?_
  refine va_get (D := (dC, dI)) (ci := 1) (v := .int (v 0)) (C := RX3) (T := TX3) (N := 21) hx hb hts hin hown hK hP 0 rfl rfl 0 (by decide) hf_30 (fun _ h9 => h9) rfl dX3_thrown_1 ?_
  exact W.iret (v := v 0) hx hb hr (fun t ht hW => ro_end (A := ro_N) hS ht (by rw [fX3_thrown])) hS.2.2 dX3_thrown_4
def fX3_word (v fw fd fs fn : Nat → Int32) (k w : Int32) : Int32 × (Nat → Int32) × (Nat → Int32) := (if k < 0 then (0, upd v 0 0, fw) else (if 255 < k then (0, upd v 0 0, fw) else (if (v 5) ≤ 0 then (1, upd v 0 0, upd fw k.toNatClampNeg w) else (0, upd v 0 0, fw))))
set_option maxHeartbeats 4000000 in
set_option maxRecDepth 100000 in
theorem kX3_word (l : Launch) (dC : Nat → ClassId) (dI : Nat → Nat → Nat) (cI cB : ClassId) (h a b c d : Nat) (sz : Nat) (v fw fd fs fn : Nat → Int32) (k w : Int32) : Met l yX3_word wsX3_word ({ frames := 0, cells := 0, slots := 0, locals := 0 }) (wr_Pc [.ref h, .int k, .int w] (dC, dI) vwCl (tyIB cI cB) (mdW cI cB h a b c d v fw fd fs fn) sz) (wr_Qi (fX3_word v fw fd fs fn k w).1 (mdW cI cB h a b c d ((fX3_word v fw fd fs fn k w).2.1) ((fX3_word v fw fd fs fn k w).2.2) fd fs fn) (dC, dI) vwCl (mdW cI cB h a b c d v fw fd fs fn) sz) 0 0 (va_A (mdW cI cB h a b c d v fw fd fs fn) sz) := by
  refine Met.ofW (cc := cX3_word) (maxL := 3) (ret := (some .boolean)) (by decide) rfl ?_
  intro p e s m args below meth c9 s₁ B hml hv
  obtain ⟨rfl, hsz, hP, hK, hD0⟩ := hv
  have hx := B.exec
  have hb := B.bytes
  have hr := B.returns
  have hts := atoms_spec (ws := wsX3_word) B.pre
  have hown : s.vm.findClass RX3 = some m.cls := findClass_of_methodNamed B.named
  have hlocks := B.notSynchronized
  subst hsz
  have hD := hD0.self (sz := s.heap.size)
  generalize hAe : va_A (mdW cI cB h a b c d v fw fd fs fn) s.heap.size = A at hD ⊢
  have hA : ∀ q : Nat, s.heap.size ≤ q → A q := fun q h => by rw [← hAe]; exact Or.inr h
  have hS : va_S A s.heap s.heap [] := va_S.rf
  have hin : ∀ w ∈ wsX30, w ∈ wsX3_word := by decide +kernel
  have hf_7 := hts (.fieldLink RX3 7 "PipeWorksModel" "words" "[I") (by decide +kernel)
  have hf_30 := hts (.fieldLink RX3 30 "PipeWorksModel" "thrown" "I") (by decide +kernel)
  have hf_33 := hts (.fieldLink RX3 33 "PipeWorksModel" "clocks" "I") (by decide +kernel)
  have hl := lv_entry ([.ref h, .int k, .int w]) (n := 3) (Nat.le_of_ble_eq_true rfl)
  rw [lg_entry_eq]
  generalize (lg_sl ([.ref h, .int k, .int w]) ++ List.replicate (3 - (lg_sl ([.ref h, .int k, .int w])).length) Slot.unset).toArray = ls at hl ⊢
  have hl : lv_has ls 3 [(0, .ref h), (1, .int k), (2, .int w)] := hl
  refine lv_aload_n hx hb dX3_word_0 rfl (lv_at hl 0 rfl) ?_
  refine lv_iconst (v := 0) hx hb dX3_word_1 (by decide) ?_
  refine va_put (D := (dC, dI)) (ci := 1) (v := .int 0) (ty := .int) (C := RX3) (T := TX3) (N := 21) hx hb hts hin tyX3 tyX3_ok nmX3 hown hK hP hD hS 0 rfl rfl 0 (by decide) hf_30 (fun _ h9 => h9) rfl (by decide +kernel) rfl rfl (Nat.le_of_ble_eq_true rfl) dX3_word_2 (fun H locs hP hD hS => ?_)
  have hP : va_P (dC, dI) vwCl (mdW cI cB h a b c d (upd v 0 0) fw fd fs fn) H := hP
  have hD : va_D A (mdW cI cB h a b c d (upd v 0 0) fw fd fs fn) := hD
  refine lv_iload_n hx hb dX3_word_5 rfl (lv_at hl 1 rfl) ?_
  refine lv_if_lt (tgt := 23) hx hb dX3_word_6 (by decide) (fun c_6 => ?_) (fun c_6 => ?_)
  ·
    refine lv_iconst (v := 0) hx hb dX3_word_23 (by decide) ?_
    have e9 : fX3_word v fw fd fs fn k w = (0, upd v 0 0, fw) := by rw [fX3_word, if_pos c_6]
    exact W.zret (v := 0) hx hb hr rfl (fun t ht hW => wr_endi (hAe ▸ hS) ht (by rw [e9]) (by rw [e9]; exact hP) (by rw [e9, hAe]; exact hD)) hS.2.2 dX3_word_24
  ·
    refine lv_iload_n hx hb dX3_word_9 rfl (lv_at hl 1 rfl) ?_
    refine lv_sipush (v := 255) hx hb dX3_word_10 (by decide) ?_
    refine lv_icmp_gt (tgt := 23) hx hb dX3_word_13 (by decide) (fun c_13 => ?_) (fun c_13 => ?_)
    ·
      refine lv_iconst (v := 0) hx hb dX3_word_23 (by decide) ?_
      have e9 : fX3_word v fw fd fs fn k w = (0, upd v 0 0, fw) := by rw [fX3_word, if_neg c_6, if_pos c_13]
      exact W.zret (v := 0) hx hb hr rfl (fun t ht hW => wr_endi (hAe ▸ hS) ht (by rw [e9]) (by rw [e9]; exact hP) (by rw [e9, hAe]; exact hD)) hS.2.2 dX3_word_24
    ·
      refine lv_aload_n hx hb dX3_word_16 rfl (lv_at hl 0 rfl) ?_
      refine va_get (D := (dC, dI)) (ci := 1) (v := .int (v 5)) (C := RX3) (T := TX3) (N := 21) hx hb hts hin hown hK hP 0 rfl rfl 5 (by decide) hf_33 (fun _ h9 => h9) rfl dX3_word_17 ?_
      refine lv_if_le (tgt := 25) hx hb dX3_word_20 (by decide) (fun c_20 => ?_) (fun c_20 => ?_)
      ·
        refine lv_aload_n hx hb dX3_word_25 rfl (lv_at hl 0 rfl) ?_
        refine va_get (D := (dC, dI)) (ci := 1) (v := .ref a) (C := RX3) (T := TX3) (N := 21) hx hb hts hin hown hK hP 0 rfl rfl 1 (by decide) hf_7 (fun _ h9 => h9) rfl dX3_word_26 ?_
        refine lv_iload_n hx hb dX3_word_29 rfl (lv_at hl 1 rfl) ?_
        refine lv_iload_n hx hb dX3_word_30 rfl (lv_at hl 2 rfl) ?_
        refine va_iast hx hb hK hP hD hS 1 0 rfl rfl (ix_ngt c_6 c_13 (by decide)) dX3_word_31 (fun H locs hP hD hS => ?_)
        have hP : va_P (dC, dI) vwCl (mdW cI cB h a b c d (upd v 0 0) (upd fw k.toNatClampNeg w) fd fs fn) H := hP
        have hD : va_D A (mdW cI cB h a b c d (upd v 0 0) (upd fw k.toNatClampNeg w) fd fs fn) := hD
        refine lv_iconst (v := 1) hx hb dX3_word_32 (by decide) ?_
        have e9 : fX3_word v fw fd fs fn k w = (1, upd v 0 0, upd fw k.toNatClampNeg w) := by rw [fX3_word, if_neg c_6, if_neg c_13, if_pos c_20]
        exact W.zret (v := 1) hx hb hr rfl (fun t ht hW => wr_endi (hAe ▸ hS) ht (by rw [e9]) (by rw [e9]; exact hP) (by rw [e9, hAe]; exact hD)) hS.2.2 dX3_word_33
      ·
        refine lv_iconst (v := 0) hx hb dX3_word_23 (by decide) ?_
        have e9 : fX3_word v fw fd fs fn k w = (0, upd v 0 0, fw) := by rw [fX3_word, if_neg c_6, if_neg c_13, if_neg c_20]
        exact W.zret (v := 0) hx hb hr rfl (fun t ht hW => wr_endi (hAe ▸ hS) ht (by rw [e9]) (by rw [e9]; exact hP) (by rw [e9, hAe]; exact hD)) hS.2.2 dX3_word_24
def fX3_data (v fw fd fs fn : Nat → Int32) (k w : Int32) : Int32 × (Nat → Int32) × (Nat → Int32) := (if k < 0 then (0, upd v 0 0, fd) else (if 63 < k then (0, upd v 0 0, fd) else (if (v 5) ≤ 0 then (1, upd v 0 0, fX3_store4 (upd v 0 0) fw fd fs fn (4 * k) w) else (0, upd v 0 0, fd))))
set_option maxHeartbeats 4000000 in
set_option maxRecDepth 100000 in
theorem kX3_data (l : Launch) (dC : Nat → ClassId) (dI : Nat → Nat → Nat) (cI cB : ClassId) (h a b c d : Nat) (sz : Nat) (v fw fd fs fn : Nat → Int32) (k w : Int32) : Met l yX3_data wsX3_data ({ frames := 1, cells := 0, slots := 0, locals := 24 }) (wr_Pc [.ref h, .int k, .int w] (dC, dI) vwCl (tyIB cI cB) (mdW cI cB h a b c d v fw fd fs fn) sz) (wr_Qi (fX3_data v fw fd fs fn k w).1 (mdW cI cB h a b c d ((fX3_data v fw fd fs fn k w).2.1) fw ((fX3_data v fw fd fs fn k w).2.2) fs fn) (dC, dI) vwCl (mdW cI cB h a b c d v fw fd fs fn) sz) 0 0 (va_A (mdW cI cB h a b c d v fw fd fs fn) sz) := by
  refine Met.ofW (cc := cX3_data) (maxL := 3) (ret := (some .boolean)) (by decide) rfl ?_
  intro p e s m args below meth c9 s₁ B hml hv
  obtain ⟨rfl, hsz, hP, hK, hD0⟩ := hv
  have hx := B.exec
  have hb := B.bytes
  have hr := B.returns
  have hts := atoms_spec (ws := wsX3_data) B.pre
  have hown : s.vm.findClass RX3 = some m.cls := findClass_of_methodNamed B.named
  have hlocks := B.notSynchronized
  subst hsz
  have hD := hD0.self (sz := s.heap.size)
  generalize hAe : va_A (mdW cI cB h a b c d v fw fd fs fn) s.heap.size = A at hD ⊢
  have hA : ∀ q : Nat, s.heap.size ≤ q → A q := fun q h => by rw [← hAe]; exact Or.inr h
  have hS : va_S A s.heap s.heap [] := va_S.rf
  have hin : ∀ w ∈ wsX30, w ∈ wsX3_data := by decide +kernel
  have hf_30 := hts (.fieldLink RX3 30 "PipeWorksModel" "thrown" "I") (by decide +kernel)
  have hf_33 := hts (.fieldLink RX3 33 "PipeWorksModel" "clocks" "I") (by decide +kernel)
  have hl := lv_entry ([.ref h, .int k, .int w]) (n := 3) (Nat.le_of_ble_eq_true rfl)
  rw [lg_entry_eq]
  generalize (lg_sl ([.ref h, .int k, .int w]) ++ List.replicate (3 - (lg_sl ([.ref h, .int k, .int w])).length) Slot.unset).toArray = ls at hl ⊢
  have hl : lv_has ls 3 [(0, .ref h), (1, .int k), (2, .int w)] := hl
  refine lv_aload_n hx hb dX3_data_0 rfl (lv_at hl 0 rfl) ?_
  refine lv_iconst (v := 0) hx hb dX3_data_1 (by decide) ?_
  refine va_put (D := (dC, dI)) (ci := 1) (v := .int 0) (ty := .int) (C := RX3) (T := TX3) (N := 21) hx hb hts hin tyX3 tyX3_ok nmX3 hown hK hP hD hS 0 rfl rfl 0 (by decide) hf_30 (fun _ h9 => h9) rfl (by decide +kernel) rfl rfl (Nat.le_of_ble_eq_true rfl) dX3_data_2 (fun H locs hP hD hS => ?_)
  have hP : va_P (dC, dI) vwCl (mdW cI cB h a b c d (upd v 0 0) fw fd fs fn) H := hP
  have hD : va_D A (mdW cI cB h a b c d (upd v 0 0) fw fd fs fn) := hD
  refine lv_iload_n hx hb dX3_data_5 rfl (lv_at hl 1 rfl) ?_
  refine lv_if_lt (tgt := 22) hx hb dX3_data_6 (by decide) (fun c_6 => ?_) (fun c_6 => ?_)
  ·
    refine lv_iconst (v := 0) hx hb dX3_data_22 (by decide) ?_
    have e9 : fX3_data v fw fd fs fn k w = (0, upd v 0 0, fd) := by rw [fX3_data, if_pos c_6]
    exact W.zret (v := 0) hx hb hr rfl (fun t ht hW => wr_endi (hAe ▸ hS) ht (by rw [e9]) (by rw [e9]; exact hP) (by rw [e9, hAe]; exact hD)) hS.2.2 dX3_data_23
  ·
    refine lv_iload_n hx hb dX3_data_9 rfl (lv_at hl 1 rfl) ?_
    refine lv_bipush (v := 63) hx hb dX3_data_10 (by decide) ?_
    refine lv_icmp_gt (tgt := 22) hx hb dX3_data_12 (by decide) (fun c_12 => ?_) (fun c_12 => ?_)
    ·
      refine lv_iconst (v := 0) hx hb dX3_data_22 (by decide) ?_
      have e9 : fX3_data v fw fd fs fn k w = (0, upd v 0 0, fd) := by rw [fX3_data, if_neg c_6, if_pos c_12]
      exact W.zret (v := 0) hx hb hr rfl (fun t ht hW => wr_endi (hAe ▸ hS) ht (by rw [e9]) (by rw [e9]; exact hP) (by rw [e9, hAe]; exact hD)) hS.2.2 dX3_data_23
    ·
      refine lv_aload_n hx hb dX3_data_15 rfl (lv_at hl 0 rfl) ?_
      refine va_get (D := (dC, dI)) (ci := 1) (v := .int (v 5)) (C := RX3) (T := TX3) (N := 21) hx hb hts hin hown hK hP 0 rfl rfl 5 (by decide) hf_33 (fun _ h9 => h9) rfl dX3_data_16 ?_
      refine lv_if_le (tgt := 24) hx hb dX3_data_19 (by decide) (fun c_19 => ?_) (fun c_19 => ?_)
      ·
        refine lv_aload_n hx hb dX3_data_24 rfl (lv_at hl 0 rfl) ?_
        refine lv_iconst (v := 4) hx hb dX3_data_25 (by decide) ?_
        refine lv_iload_n hx hb dX3_data_26 rfl (lv_at hl 1 rfl) ?_
        refine lv_imul hx hb dX3_data_27 ?_
        refine lv_iconst (v := 4) hx hb dX3_data_28 (by decide) ?_
        refine lv_iload_n hx hb dX3_data_29 rfl (lv_at hl 2 rfl) ?_
        refine wr_callv (va_runV (As := [.int (4 * k), .int 4, .int w]) (rest := []) ⟨hx, hb, hml, hown, hts⟩ (kX3_store4 l dC dI cI cB h a b c d _ (upd v 0 0) fw fd fs fn (4 * k) w (ix_4k c_6 (nle_of_nlt c_12))) (cwV 3 hts gX3_data_X3_store rfl rfl rfl (by decide +kernel) ⟨Nat.le_of_ble_eq_true rfl, Nat.le_of_ble_eq_true rfl⟩) (wr_preV hK hP hD (ci := 1) (q0 := 0) rfl rfl) rfl rfl hl.1 rfl (lv_room (Nat.le_of_ble_eq_true rfl)) dX3_data_30 ⟨Nat.zero_le _, Nat.zero_le _⟩) hS hA hP hD [0, 1, 2, 3, 4] [] rfl (wr := []) rfl rfl (by decide) (fun H locs hP hD hS => ?_)
        have hP : va_P (dC, dI) vwCl (mdW cI cB h a b c d (upd v 0 0) fw (fX3_store4 (upd v 0 0) fw fd fs fn (4 * k) w) fs fn) H := hP
        have hD : va_D A (mdW cI cB h a b c d (upd v 0 0) fw (fX3_store4 (upd v 0 0) fw fd fs fn (4 * k) w) fs fn) := hD
        refine lv_iconst (v := 1) hx hb dX3_data_33 (by decide) ?_
        have e9 : fX3_data v fw fd fs fn k w = (1, upd v 0 0, fX3_store4 (upd v 0 0) fw fd fs fn (4 * k) w) := by rw [fX3_data, if_neg c_6, if_neg c_12, if_pos c_19]
        exact W.zret (v := 1) hx hb hr rfl (fun t ht hW => wr_endi (hAe ▸ hS) ht (by rw [e9]) (by rw [e9]; exact hP) (by rw [e9, hAe]; exact hD)) hS.2.2 dX3_data_34
      ·
        refine lv_iconst (v := 0) hx hb dX3_data_22 (by decide) ?_
        have e9 : fX3_data v fw fd fs fn k w = (0, upd v 0 0, fd) := by rw [fX3_data, if_neg c_6, if_neg c_12, if_neg c_19]
        exact W.zret (v := 0) hx hb hr rfl (fun t ht hW => wr_endi (hAe ▸ hS) ht (by rw [e9]) (by rw [e9]; exact hP) (by rw [e9, hAe]; exact hD)) hS.2.2 dX3_data_23
def fX3_set (v fw fd fs fn : Nat → Int32) (k w : Int32) : Int32 × (Nat → Int32) × (Nat → Int32) := (if k < 1 then (0, upd v 0 0, fs) else (if 31 < k then (0, upd v 0 0, fs) else (if (v 5) ≤ 0 then (1, upd v 0 0, upd fs k.toNatClampNeg w) else (0, upd v 0 0, fs))))
set_option maxHeartbeats 4000000 in
set_option maxRecDepth 100000 in
theorem kX3_set (l : Launch) (dC : Nat → ClassId) (dI : Nat → Nat → Nat) (cI cB : ClassId) (h a b c d : Nat) (sz : Nat) (v fw fd fs fn : Nat → Int32) (k w : Int32) : Met l yX3_set wsX3_set ({ frames := 0, cells := 0, slots := 0, locals := 0 }) (wr_Pc [.ref h, .int k, .int w] (dC, dI) vwCl (tyIB cI cB) (mdW cI cB h a b c d v fw fd fs fn) sz) (wr_Qi (fX3_set v fw fd fs fn k w).1 (mdW cI cB h a b c d ((fX3_set v fw fd fs fn k w).2.1) fw fd ((fX3_set v fw fd fs fn k w).2.2) fn) (dC, dI) vwCl (mdW cI cB h a b c d v fw fd fs fn) sz) 0 0 (va_A (mdW cI cB h a b c d v fw fd fs fn) sz) := by
  refine Met.ofW (cc := cX3_set) (maxL := 3) (ret := (some .boolean)) (by decide) rfl ?_
  intro p e s m args below meth c9 s₁ B hml hv
  obtain ⟨rfl, hsz, hP, hK, hD0⟩ := hv
  have hx := B.exec
  have hb := B.bytes
  have hr := B.returns
  have hts := atoms_spec (ws := wsX3_set) B.pre
  have hown : s.vm.findClass RX3 = some m.cls := findClass_of_methodNamed B.named
  have hlocks := B.notSynchronized
  subst hsz
  have hD := hD0.self (sz := s.heap.size)
  generalize hAe : va_A (mdW cI cB h a b c d v fw fd fs fn) s.heap.size = A at hD ⊢
  have hA : ∀ q : Nat, s.heap.size ≤ q → A q := fun q h => by rw [← hAe]; exact Or.inr h
  have hS : va_S A s.heap s.heap [] := va_S.rf
  have hin : ∀ w ∈ wsX30, w ∈ wsX3_set := by decide +kernel
  have hf_17 := hts (.fieldLink RX3 17 "PipeWorksModel" "seen" "[I") (by decide +kernel)
  have hf_30 := hts (.fieldLink RX3 30 "PipeWorksModel" "thrown" "I") (by decide +kernel)
  have hf_33 := hts (.fieldLink RX3 33 "PipeWorksModel" "clocks" "I") (by decide +kernel)
  have hl := lv_entry ([.ref h, .int k, .int w]) (n := 3) (Nat.le_of_ble_eq_true rfl)
  rw [lg_entry_eq]
  generalize (lg_sl ([.ref h, .int k, .int w]) ++ List.replicate (3 - (lg_sl ([.ref h, .int k, .int w])).length) Slot.unset).toArray = ls at hl ⊢
  have hl : lv_has ls 3 [(0, .ref h), (1, .int k), (2, .int w)] := hl
  refine lv_aload_n hx hb dX3_set_0 rfl (lv_at hl 0 rfl) ?_
  refine lv_iconst (v := 0) hx hb dX3_set_1 (by decide) ?_
  refine va_put (D := (dC, dI)) (ci := 1) (v := .int 0) (ty := .int) (C := RX3) (T := TX3) (N := 21) hx hb hts hin tyX3 tyX3_ok nmX3 hown hK hP hD hS 0 rfl rfl 0 (by decide) hf_30 (fun _ h9 => h9) rfl (by decide +kernel) rfl rfl (Nat.le_of_ble_eq_true rfl) dX3_set_2 (fun H locs hP hD hS => ?_)
  have hP : va_P (dC, dI) vwCl (mdW cI cB h a b c d (upd v 0 0) fw fd fs fn) H := hP
  have hD : va_D A (mdW cI cB h a b c d (upd v 0 0) fw fd fs fn) := hD
  refine lv_iload_n hx hb dX3_set_5 rfl (lv_at hl 1 rfl) ?_
  refine lv_iconst (v := 1) hx hb dX3_set_6 (by decide) ?_
  refine lv_icmp_lt (tgt := 23) hx hb dX3_set_7 (by decide) (fun c_7 => ?_) (fun c_7 => ?_)
  ·
    refine lv_iconst (v := 0) hx hb dX3_set_23 (by decide) ?_
    have e9 : fX3_set v fw fd fs fn k w = (0, upd v 0 0, fs) := by rw [fX3_set, if_pos c_7]
    exact W.zret (v := 0) hx hb hr rfl (fun t ht hW => wr_endi (hAe ▸ hS) ht (by rw [e9]) (by rw [e9]; exact hP) (by rw [e9, hAe]; exact hD)) hS.2.2 dX3_set_24
  ·
    refine lv_iload_n hx hb dX3_set_10 rfl (lv_at hl 1 rfl) ?_
    refine lv_bipush (v := 31) hx hb dX3_set_11 (by decide) ?_
    refine lv_icmp_gt (tgt := 23) hx hb dX3_set_13 (by decide) (fun c_13 => ?_) (fun c_13 => ?_)
    ·
      refine lv_iconst (v := 0) hx hb dX3_set_23 (by decide) ?_
      have e9 : fX3_set v fw fd fs fn k w = (0, upd v 0 0, fs) := by rw [fX3_set, if_neg c_7, if_pos c_13]
      exact W.zret (v := 0) hx hb hr rfl (fun t ht hW => wr_endi (hAe ▸ hS) ht (by rw [e9]) (by rw [e9]; exact hP) (by rw [e9, hAe]; exact hD)) hS.2.2 dX3_set_24
    ·
      refine lv_aload_n hx hb dX3_set_16 rfl (lv_at hl 0 rfl) ?_
      refine va_get (D := (dC, dI)) (ci := 1) (v := .int (v 5)) (C := RX3) (T := TX3) (N := 21) hx hb hts hin hown hK hP 0 rfl rfl 5 (by decide) hf_33 (fun _ h9 => h9) rfl dX3_set_17 ?_
      refine lv_if_le (tgt := 25) hx hb dX3_set_20 (by decide) (fun c_20 => ?_) (fun c_20 => ?_)
      ·
        refine lv_aload_n hx hb dX3_set_25 rfl (lv_at hl 0 rfl) ?_
        refine va_get (D := (dC, dI)) (ci := 1) (v := .ref c) (C := RX3) (T := TX3) (N := 21) hx hb hts hin hown hK hP 0 rfl rfl 3 (by decide) hf_17 (fun _ h9 => h9) rfl dX3_set_26 ?_
        refine lv_iload_n hx hb dX3_set_29 rfl (lv_at hl 1 rfl) ?_
        refine lv_iload_n hx hb dX3_set_30 rfl (lv_at hl 2 rfl) ?_
        refine va_iast hx hb hK hP hD hS 3 0 rfl rfl (ix_ngt1 c_7 c_13 (by decide)) dX3_set_31 (fun H locs hP hD hS => ?_)
        have hP : va_P (dC, dI) vwCl (mdW cI cB h a b c d (upd v 0 0) fw fd (upd fs k.toNatClampNeg w) fn) H := hP
        have hD : va_D A (mdW cI cB h a b c d (upd v 0 0) fw fd (upd fs k.toNatClampNeg w) fn) := hD
        refine lv_iconst (v := 1) hx hb dX3_set_32 (by decide) ?_
        have e9 : fX3_set v fw fd fs fn k w = (1, upd v 0 0, upd fs k.toNatClampNeg w) := by rw [fX3_set, if_neg c_7, if_neg c_13, if_pos c_20]
        exact W.zret (v := 1) hx hb hr rfl (fun t ht hW => wr_endi (hAe ▸ hS) ht (by rw [e9]) (by rw [e9]; exact hP) (by rw [e9, hAe]; exact hD)) hS.2.2 dX3_set_33
      ·
        refine lv_iconst (v := 0) hx hb dX3_set_23 (by decide) ?_
        have e9 : fX3_set v fw fd fs fn k w = (0, upd v 0 0, fs) := by rw [fX3_set, if_neg c_7, if_neg c_13, if_neg c_20]
        exact W.zret (v := 0) hx hb hr rfl (fun t ht hW => wr_endi (hAe ▸ hS) ht (by rw [e9]) (by rw [e9]; exact hP) (by rw [e9, hAe]; exact hD)) hS.2.2 dX3_set_24
def fX3_reset (v fw fd fs fn : Nat → Int32) : (Nat → Int32) := (upd (upd (upd (upd (upd (upd (upd (upd (upd (upd v 0 0) 5 0) 7 0) 8 (-1)) 9 0) 10 0) 11 0) 12 4) 13 0) 14 0)
set_option maxHeartbeats 4000000 in
set_option maxRecDepth 100000 in
theorem kX3_reset (l : Launch) (dC : Nat → ClassId) (dI : Nat → Nat → Nat) (cI cB : ClassId) (h a b c d : Nat) (sz : Nat) (v fw fd fs fn : Nat → Int32) : Met l yX3_reset wsX3_reset ({ frames := 0, cells := 0, slots := 0, locals := 0 }) (wr_Pc [.ref h] (dC, dI) vwCl (tyIB cI cB) (mdW cI cB h a b c d v fw fd fs fn) sz) (wr_Qv (mdW cI cB h a b c d (fX3_reset v fw fd fs fn) fw fd fs fn) (dC, dI) vwCl (mdW cI cB h a b c d v fw fd fs fn) sz) 0 0 (va_A (mdW cI cB h a b c d v fw fd fs fn) sz) := by
  refine Met.ofW (cc := cX3_reset) (maxL := 1) (ret := none) (by decide) rfl ?_
  intro p e s m args below meth c9 s₁ B hml hv
  obtain ⟨rfl, hsz, hP, hK, hD0⟩ := hv
  have hx := B.exec
  have hb := B.bytes
  have hr := B.returns
  have hts := atoms_spec (ws := wsX3_reset) B.pre
  have hown : s.vm.findClass RX3 = some m.cls := findClass_of_methodNamed B.named
  have hlocks := B.notSynchronized
  subst hsz
  have hD := hD0.self (sz := s.heap.size)
  generalize hAe : va_A (mdW cI cB h a b c d v fw fd fs fn) s.heap.size = A at hD ⊢
  have hA : ∀ q : Nat, s.heap.size ≤ q → A q := fun q h => by rw [← hAe]; exact Or.inr h
  have hS : va_S A s.heap s.heap [] := va_S.rf
  have hin : ∀ w ∈ wsX30, w ∈ wsX3_reset := by decide +kernel
  have hf_23 := hts (.fieldLink RX3 23 "PipeWorksModel" "latest" "I") (by decide +kernel)
  have hf_27 := hts (.fieldLink RX3 27 "PipeWorksModel" "due" "I") (by decide +kernel)
  have hf_30 := hts (.fieldLink RX3 30 "PipeWorksModel" "thrown" "I") (by decide +kernel)
  have hf_33 := hts (.fieldLink RX3 33 "PipeWorksModel" "clocks" "I") (by decide +kernel)
  have hf_40 := hts (.fieldLink RX3 40 "PipeWorksModel" "done" "I") (by decide +kernel)
  have hf_43 := hts (.fieldLink RX3 43 "PipeWorksModel" "kind" "I") (by decide +kernel)
  have hf_46 := hts (.fieldLink RX3 46 "PipeWorksModel" "haltAt" "I") (by decide +kernel)
  have hf_49 := hts (.fieldLink RX3 49 "PipeWorksModel" "pc" "I") (by decide +kernel)
  have hf_52 := hts (.fieldLink RX3 52 "PipeWorksModel" "ends" "Z") (by decide +kernel)
  have hf_56 := hts (.fieldLink RX3 56 "PipeWorksModel" "waits" "Z") (by decide +kernel)
  have hl := lv_entry ([.ref h]) (n := 1) (Nat.le_of_ble_eq_true rfl)
  rw [lg_entry_eq]
  generalize (lg_sl ([.ref h]) ++ List.replicate (1 - (lg_sl ([.ref h])).length) Slot.unset).toArray = ls at hl ⊢
  have hl : lv_has ls 1 [(0, .ref h)] := hl
  refine lv_aload_n hx hb dX3_reset_0 rfl (lv_at hl 0 rfl) ?_
  refine lv_iconst (v := 0) hx hb dX3_reset_1 (by decide) ?_
  refine va_put (D := (dC, dI)) (ci := 1) (v := .int 0) (ty := .int) (C := RX3) (T := TX3) (N := 21) hx hb hts hin tyX3 tyX3_ok nmX3 hown hK hP hD hS 0 rfl rfl 0 (by decide) hf_30 (fun _ h9 => h9) rfl (by decide +kernel) rfl rfl (Nat.le_of_ble_eq_true rfl) dX3_reset_2 (fun H locs hP hD hS => ?_)
  have hP : va_P (dC, dI) vwCl (mdW cI cB h a b c d (upd v 0 0) fw fd fs fn) H := hP
  have hD : va_D A (mdW cI cB h a b c d (upd v 0 0) fw fd fs fn) := hD
  refine lv_aload_n hx hb dX3_reset_5 rfl (lv_at hl 0 rfl) ?_
  refine lv_iconst (v := 0) hx hb dX3_reset_6 (by decide) ?_
  refine va_put (D := (dC, dI)) (ci := 1) (v := .int 0) (ty := .int) (C := RX3) (T := TX3) (N := 21) hx hb hts hin tyX3 tyX3_ok nmX3 hown hK hP hD hS 0 rfl rfl 5 (by decide) hf_33 (fun _ h9 => h9) rfl (by decide +kernel) rfl rfl (Nat.le_of_ble_eq_true rfl) dX3_reset_7 (fun H locs hP hD hS => ?_)
  have hP : va_P (dC, dI) vwCl (mdW cI cB h a b c d (upd (upd v 0 0) 5 0) fw fd fs fn) H := hP
  have hD : va_D A (mdW cI cB h a b c d (upd (upd v 0 0) 5 0) fw fd fs fn) := hD
  refine lv_aload_n hx hb dX3_reset_10 rfl (lv_at hl 0 rfl) ?_
  refine lv_iconst (v := 0) hx hb dX3_reset_11 (by decide) ?_
  refine va_put (D := (dC, dI)) (ci := 1) (v := .int 0) (ty := .int) (C := RX3) (T := TX3) (N := 21) hx hb hts hin tyX3 tyX3_ok nmX3 hown hK hP hD hS 0 rfl rfl 7 (by decide) hf_40 (fun _ h9 => h9) rfl (by decide +kernel) rfl rfl (Nat.le_of_ble_eq_true rfl) dX3_reset_12 (fun H locs hP hD hS => ?_)
  have hP : va_P (dC, dI) vwCl (mdW cI cB h a b c d (upd (upd (upd v 0 0) 5 0) 7 0) fw fd fs fn) H := hP
  have hD : va_D A (mdW cI cB h a b c d (upd (upd (upd v 0 0) 5 0) 7 0) fw fd fs fn) := hD
  refine lv_aload_n hx hb dX3_reset_15 rfl (lv_at hl 0 rfl) ?_
  refine lv_iconst (v := (-1)) hx hb dX3_reset_16 (by decide) ?_
  refine va_put (D := (dC, dI)) (ci := 1) (v := .int (-1)) (ty := .int) (C := RX3) (T := TX3) (N := 21) hx hb hts hin tyX3 tyX3_ok nmX3 hown hK hP hD hS 0 rfl rfl 8 (by decide) hf_23 (fun _ h9 => h9) rfl (by decide +kernel) rfl rfl (Nat.le_of_ble_eq_true rfl) dX3_reset_17 (fun H locs hP hD hS => ?_)
  have hP : va_P (dC, dI) vwCl (mdW cI cB h a b c d (upd (upd (upd (upd v 0 0) 5 0) 7 0) 8 (-1)) fw fd fs fn) H := hP
  have hD : va_D A (mdW cI cB h a b c d (upd (upd (upd (upd v 0 0) 5 0) 7 0) 8 (-1)) fw fd fs fn) := hD
  refine lv_aload_n hx hb dX3_reset_20 rfl (lv_at hl 0 rfl) ?_
  refine lv_iconst (v := 0) hx hb dX3_reset_21 (by decide) ?_
  refine va_put (D := (dC, dI)) (ci := 1) (v := .int 0) (ty := .int) (C := RX3) (T := TX3) (N := 21) hx hb hts hin tyX3 tyX3_ok nmX3 hown hK hP hD hS 0 rfl rfl 9 (by decide) hf_43 (fun _ h9 => h9) rfl (by decide +kernel) rfl rfl (Nat.le_of_ble_eq_true rfl) dX3_reset_22 (fun H locs hP hD hS => ?_)
  have hP : va_P (dC, dI) vwCl (mdW cI cB h a b c d (upd (upd (upd (upd (upd v 0 0) 5 0) 7 0) 8 (-1)) 9 0) fw fd fs fn) H := hP
  have hD : va_D A (mdW cI cB h a b c d (upd (upd (upd (upd (upd v 0 0) 5 0) 7 0) 8 (-1)) 9 0) fw fd fs fn) := hD
  refine lv_aload_n hx hb dX3_reset_25 rfl (lv_at hl 0 rfl) ?_
  refine lv_iconst (v := 0) hx hb dX3_reset_26 (by decide) ?_
  refine va_put (D := (dC, dI)) (ci := 1) (v := .int 0) (ty := .int) (C := RX3) (T := TX3) (N := 21) hx hb hts hin tyX3 tyX3_ok nmX3 hown hK hP hD hS 0 rfl rfl 10 (by decide) hf_46 (fun _ h9 => h9) rfl (by decide +kernel) rfl rfl (Nat.le_of_ble_eq_true rfl) dX3_reset_27 (fun H locs hP hD hS => ?_)
  have hP : va_P (dC, dI) vwCl (mdW cI cB h a b c d (upd (upd (upd (upd (upd (upd v 0 0) 5 0) 7 0) 8 (-1)) 9 0) 10 0) fw fd fs fn) H := hP
  have hD : va_D A (mdW cI cB h a b c d (upd (upd (upd (upd (upd (upd v 0 0) 5 0) 7 0) 8 (-1)) 9 0) 10 0) fw fd fs fn) := hD
  refine lv_aload_n hx hb dX3_reset_30 rfl (lv_at hl 0 rfl) ?_
  refine lv_iconst (v := 0) hx hb dX3_reset_31 (by decide) ?_
  refine va_put (D := (dC, dI)) (ci := 1) (v := .int 0) (ty := .int) (C := RX3) (T := TX3) (N := 21) hx hb hts hin tyX3 tyX3_ok nmX3 hown hK hP hD hS 0 rfl rfl 11 (by decide) hf_49 (fun _ h9 => h9) rfl (by decide +kernel) rfl rfl (Nat.le_of_ble_eq_true rfl) dX3_reset_32 (fun H locs hP hD hS => ?_)
  have hP : va_P (dC, dI) vwCl (mdW cI cB h a b c d (upd (upd (upd (upd (upd (upd (upd v 0 0) 5 0) 7 0) 8 (-1)) 9 0) 10 0) 11 0) fw fd fs fn) H := hP
  have hD : va_D A (mdW cI cB h a b c d (upd (upd (upd (upd (upd (upd (upd v 0 0) 5 0) 7 0) 8 (-1)) 9 0) 10 0) 11 0) fw fd fs fn) := hD
  refine lv_aload_n hx hb dX3_reset_35 rfl (lv_at hl 0 rfl) ?_
  refine lv_iconst (v := 4) hx hb dX3_reset_36 (by decide) ?_
  refine va_put (D := (dC, dI)) (ci := 1) (v := .int 4) (ty := .int) (C := RX3) (T := TX3) (N := 21) hx hb hts hin tyX3 tyX3_ok nmX3 hown hK hP hD hS 0 rfl rfl 12 (by decide) hf_27 (fun _ h9 => h9) rfl (by decide +kernel) rfl rfl (Nat.le_of_ble_eq_true rfl) dX3_reset_37 (fun H locs hP hD hS => ?_)
  have hP : va_P (dC, dI) vwCl (mdW cI cB h a b c d (upd (upd (upd (upd (upd (upd (upd (upd v 0 0) 5 0) 7 0) 8 (-1)) 9 0) 10 0) 11 0) 12 4) fw fd fs fn) H := hP
  have hD : va_D A (mdW cI cB h a b c d (upd (upd (upd (upd (upd (upd (upd (upd v 0 0) 5 0) 7 0) 8 (-1)) 9 0) 10 0) 11 0) 12 4) fw fd fs fn) := hD
  refine lv_aload_n hx hb dX3_reset_40 rfl (lv_at hl 0 rfl) ?_
  refine lv_iconst (v := 0) hx hb dX3_reset_41 (by decide) ?_
  refine va_put (D := (dC, dI)) (ci := 1) (v := .int 0) (ty := .boolean) (C := RX3) (T := TX3) (N := 21) hx hb hts hin tyX3 tyX3_ok nmX3 hown hK hP hD hS 0 rfl rfl 13 (by decide) hf_52 (fun _ h9 => h9) rfl (by decide +kernel) rfl rfl (Nat.le_of_ble_eq_true rfl) dX3_reset_42 (fun H locs hP hD hS => ?_)
  have hP : va_P (dC, dI) vwCl (mdW cI cB h a b c d (upd (upd (upd (upd (upd (upd (upd (upd (upd v 0 0) 5 0) 7 0) 8 (-1)) 9 0) 10 0) 11 0) 12 4) 13 0) fw fd fs fn) H := hP
  have hD : va_D A (mdW cI cB h a b c d (upd (upd (upd (upd (upd (upd (upd (upd (upd v 0 0) 5 0) 7 0) 8 (-1)) 9 0) 10 0) 11 0) 12 4) 13 0) fw fd fs fn) := hD
  refine lv_aload_n hx hb dX3_reset_45 rfl (lv_at hl 0 rfl) ?_
  refine lv_iconst (v := 0) hx hb dX3_reset_46 (by decide) ?_
  refine va_put (D := (dC, dI)) (ci := 1) (v := .int 0) (ty := .boolean) (C := RX3) (T := TX3) (N := 21) hx hb hts hin tyX3 tyX3_ok nmX3 hown hK hP hD hS 0 rfl rfl 14 (by decide) hf_56 (fun _ h9 => h9) rfl (by decide +kernel) rfl rfl (Nat.le_of_ble_eq_true rfl) dX3_reset_47 (fun H locs hP hD hS => ?_)
  have hP : va_P (dC, dI) vwCl (mdW cI cB h a b c d (upd (upd (upd (upd (upd (upd (upd (upd (upd (upd v 0 0) 5 0) 7 0) 8 (-1)) 9 0) 10 0) 11 0) 12 4) 13 0) 14 0) fw fd fs fn) H := hP
  have hD : va_D A (mdW cI cB h a b c d (upd (upd (upd (upd (upd (upd (upd (upd (upd (upd v 0 0) 5 0) 7 0) 8 (-1)) 9 0) 10 0) 11 0) 12 4) 13 0) 14 0) fw fd fs fn) := hD
  have e9 : fX3_reset v fw fd fs fn = (upd (upd (upd (upd (upd (upd (upd (upd (upd (upd v 0 0) 5 0) 7 0) 8 (-1)) 9 0) 10 0) 11 0) 12 4) 13 0) 14 0) := by rw [fX3_reset]
  exact W.vret hx hb hr (fun t ht hW => wr_endv (hAe ▸ hS) ht (by rw [e9]; exact hP) (by rw [e9, hAe]; exact hD)) hS.2.2 dX3_reset_50
def fX3_wordAt (v fw fd fs fn : Nat → Int32) (x : Int32) : Int32 := (fw (x / 4).toNatClampNeg)
set_option maxHeartbeats 4000000 in
set_option maxRecDepth 100000 in
theorem kX3_wordAt (l : Launch) (dC : Nat → ClassId) (dI : Nat → Nat → Nat) (cI cB : ClassId) (h a b c d : Nat) (v fw fd fs fn : Nat → Int32) (x : Int32) (hi : fX3_isBeyond x = 0) : Met l yX3_wordAt wsX3_wordAt ({ frames := 0, cells := 0, slots := 0, locals := 0 }) (ro_Pc [.ref h, .int x] (dC, dI) vwCl (tyIB cI cB) (mdW cI cB h a b c d v fw fd fs fn)) (ro_Q (fX3_wordAt v fw fd fs fn x)) 0 0 ro_N := by
  refine Met.ofW (cc := cX3_wordAt) (maxL := 2) (ret := (some .int)) (by decide) rfl ?_
  intro p e s m args below meth c9 s₁ B hml hv
  obtain ⟨rfl, hP, hK⟩ := hv
  have hx := B.exec
  have hb := B.bytes
  have hr := B.returns
  have hts := atoms_spec (ws := wsX3_wordAt) B.pre
  have hown : s.vm.findClass RX3 = some m.cls := findClass_of_methodNamed B.named
  have hlocks := B.notSynchronized
  have hS : va_S ro_N s.heap s.heap [] := va_S.rf
  have hin : ∀ w ∈ wsX30, w ∈ wsX3_wordAt := by decide +kernel
  have hf_7 := hts (.fieldLink RX3 7 "PipeWorksModel" "words" "[I") (by decide +kernel)
  have hl := lv_entry ([.ref h, .int x]) (n := 2) (Nat.le_of_ble_eq_true rfl)
  rw [lg_entry_eq]
  generalize (lg_sl ([.ref h, .int x]) ++ List.replicate (2 - (lg_sl ([.ref h, .int x])).length) Slot.unset).toArray = ls at hl ⊢
  have hl : lv_has ls 2 [(0, .ref h), (1, .int x)] := hl
  refine lv_aload_n hx hb dX3_wordAt_0 rfl (lv_at hl 0 rfl) ?_
  refine va_get (D := (dC, dI)) (ci := 1) (v := .ref a) (C := RX3) (T := TX3) (N := 21) hx hb hts hin hown hK hP 0 rfl rfl 1 (by decide) hf_7 (fun _ h9 => h9) rfl dX3_wordAt_1 ?_
  refine lv_iload_n hx hb dX3_wordAt_4 rfl (lv_at hl 1 rfl) ?_
  refine lv_iconst (v := 4) hx hb dX3_wordAt_5 (by decide) ?_
  refine lv_idiv hx hb dX3_wordAt_6 (by decide) ?_
  refine va_iald hx hb hK hP 1 0 rfl rfl (ix_div4 hi) dX3_wordAt_7 ?_
  exact W.iret (v := fw (x / 4).toNatClampNeg) hx hb hr (fun t ht hW => ro_end (A := ro_N) hS ht (by rw [fX3_wordAt])) hS.2.2 dX3_wordAt_8
