/-! what a throw needs of the start: the texts, two statics of Throwable, words on the exceptions' classes -/
abbrev xIAE : String := "java/lang/IllegalArgumentException"
abbrev xISE : String := "java/lang/IllegalStateException"
abbrev xNSE : String := "java/util/NoSuchElementException"
abbrev xNS : List String := ["java/lang/RuntimeException", "java/lang/Exception"]
abbrev xD (c : String) : MethodName := ⟨c, "<init>", "(Ljava/lang/String;)V"⟩
def vxT (U : State) : Prop := (∃ a, vk_R RX2 31 "n is not 1 .. 200" a U) ∧ (∃ a, vk_R RX2 38 "more clocks than 20000 in all" a U) ∧ (∃ a, vk_R RX2 49 "no such register" a U) ∧ (∃ a, vk_R RX2 52 "no such word of the data memory" a U) ∧ va_Nw (.castable xIAE xIAE) U ∧ va_Nw (.castable xISE xISE) U ∧ va_Nw (.castable xNSE xNSE) U ∧ va_Nw (.declares (xD "java/lang/RuntimeException")) U ∧ va_Nw (.declares (xD "java/lang/Exception")) U ∧ va_Nw (.declares (xD "java/lang/Throwable")) U ∧ va_Nc xISE xIAE U
def vxZ (A : Nat → Prop) (U : State) (H : Heap) : Prop := vx_Zq Bundle.tN "UNASSIGNED_STACK" Bundle.steD A U H ∧ vx_Zq Bundle.tN "SUPPRESSED_SENTINEL" Bundle.listD A U H
theorem vxT.warm {s U : State} (hW : s.WarmedH U.vm) (h : vxT s) : vxT U := by
  obtain ⟨⟨a1, h1⟩, ⟨a2, h2⟩, ⟨a3, h3⟩, ⟨a4, h4⟩, h5, h6, h7, h8, h9, h10, h11⟩ := h
  exact ⟨⟨a1, vk_R.warm hW h1⟩, ⟨a2, vk_R.warm hW h2⟩, ⟨a3, vk_R.warm hW h3⟩, ⟨a4, vk_R.warm hW h4⟩, va_Nw.warmC hW h5, va_Nw.warmC hW h6, va_Nw.warmC hW h7, va_Nw.warmD hW h8, va_Nw.warmD hW h9, va_Nw.warmD hW h10, va_Nc.moved hW.alike h11⟩
theorem vxZ.moved {A : Nat → Prop} {u U : State} {H : Heap} (hvm : u.vm.Alike U.vm) (h : vxZ A u H) : vxZ A U H := ⟨vx_Zq.moved hvm h.1, vx_Zq.moved hvm h.2⟩
theorem vxZ.kept {A : Nat → Prop} {U : State} {H H1 : Heap} (h : vxZ A U H) (hq : ∀ a : Nat, a < H.size → ¬ A a → H1[a]? = H[a]?) : vxZ A U H1 := ⟨vx_Zq.kept h.1 hq, vx_Zq.kept h.2 hq⟩
theorem vxZ.narrow {A B : Nat → Prop} {U : State} {H : Heap} (h : vxZ A U H) (hAB : ∀ q, B q → A q) : vxZ B U H := ⟨vx_Zq.narrow h.1 hAB, vx_Zq.narrow h.2 hAB⟩
/-- a reading method that may throw: its start, its end -/
def xr_Pc (av : List Value) (D : va_G) (cl : List vw_C) (tys : List (ClassId × FieldType)) (ws : va_W) : Array Value → State → Prop := va_Pc av (fun U => va_P D cl ws U.heap ∧ va_K D cl tys U ∧ vxT U ∧ vxZ ro_N U U.heap)
theorem xr_bl {av : List Value} {D : va_G} {cl : List vw_C} {tys : List (ClassId × FieldType)} {ws : va_W} : FrameBlind (xr_Pc av D cl tys ws) := fun a U g mk q => by
  obtain ⟨q0, qP, qK, qT, qZ⟩ := q
  exact ⟨q0, qP, va_K.moved (u := U) (U := U.calling g mk a) (Vm.Alike.refl U.vm) qK, vxT.warm (s := U) (U := U.calling g mk a) (State.WarmedH.refl U) qT, vxZ.moved (u := U) (U := U.calling g mk a) (Vm.Alike.refl U.vm) qZ⟩
def xw_Pc (av : List Value) (D : va_G) (cl : List vw_C) (tys : List (ClassId × FieldType)) (ws : va_W) (sz : Nat) : Array Value → State → Prop := va_Pc av (fun U => U.heap.size = sz ∧ va_P D cl ws U.heap ∧ va_K D cl tys U ∧ va_D (fun _ => True) ws ∧ vxT U ∧ vxZ (va_A ws sz) U U.heap)
theorem xw_bl {av : List Value} {D : va_G} {cl : List vw_C} {tys : List (ClassId × FieldType)} {ws : va_W} {sz : Nat} : FrameBlind (xw_Pc av D cl tys ws sz) := fun a U g mk q => by
  obtain ⟨q0, q1, qP, qK, qD, qT, qZ⟩ := q
  exact ⟨q0, q1, qP, va_K.moved (u := U) (U := U.calling g mk a) (Vm.Alike.refl U.vm) qK, qD, vxT.warm (s := U) (U := U.calling g mk a) (State.WarmedH.refl U) qT, vxZ.moved (u := U) (U := U.calling g mk a) (Vm.Alike.refl U.vm) qZ⟩
/-- where it has thrown: which class, why; no old cell has changed -/
def xc_X (why : String → Prop) : String → State → State → Prop := vx_X (fun (_ : Unit) => True) (fun E _ _ => why E) ro_N
theorem xc_end {why : String → Prop} {E : String} {s t : State} {H : Heap} (hH : H = s.heap) (hw : why E) (hsz : H.size ≤ t.heap.size) (hk : ∀ q : Nat, q < H.size → t.heap[q]? = H[q]?) : xc_X why E s t := by
  subst hH
  exact ⟨(), trivial, hw, hsz, fun q h1 _ => hk q h1⟩
theorem ix_lt {x M : Int32} {N : Nat} (h1 : ¬ x < 0) (h2 : x < M) (hM : M.toInt = N) : vp_in x N := by
  rw [vp_in_iff]
  rw [Int32.lt_iff_toInt_lt, Int32.toInt_zero] at h1
  rw [Int32.lt_iff_toInt_lt, hM] at h2
  omega
set_option maxHeartbeats 4000000 in
set_option maxRecDepth 100000 in
theorem kX2_register (l : Launch) (hl9 : l.stackTraces = false) (dC : Nat → ClassId) (dI : Nat → Nat → Nat) (cI cB : ClassId) (h a b c : Nat) (v fw fc fr : Nat → Int32) (x : Int32) : vx_Met l yX2_register wsX2_register ({ frames := 6, cells := 1, slots := 6, locals := 82 }) (xr_Pc [.ref h, .int x] (dC, dI) vwCl (tyIB cI cB) (pwW cI h a b c v fw fc fr)) (va_Qi (fun r (_ : Unit) => r = fr x.toNatClampNeg ∧ ¬ x < 0 ∧ x < 32) (fun _ _ => True) ro_N) (xc_X (fun E => E = xNSE ∧ (x < 0 ∨ ¬ x < 32))) 1 6 ro_N := by
  refine vx_ofW (cc := cX2_register) (maxL := 2) (ret := (some .int)) (by decide) rfl ?_
  intro p e s m args below meth c9 s₁ B hml hEx hv
  obtain ⟨rfl, hP, hK, hT, hZ⟩ := hv
  obtain ⟨-, -, hR3, hR4, hc1, hc2, hc3, hd1, hd2, hd3, -⟩ := hT
  obtain ⟨sa, hR⟩ := hR3
  have hx := B.exec
  have hb := B.bytes
  have hr := B.returns
  have hts := atoms_spec (ws := wsX2_register) B.pre
  have hown : s.vm.findClass RX2 = some m.cls := findClass_of_methodNamed B.named
  have hlocks := B.notSynchronized
  have hS : va_S ro_N s.heap s.heap [] := va_S.rf
  have hin : ∀ w ∈ wsX20, w ∈ wsX2_register := fun w h => List.mem_cons_of_mem _ (List.mem_append_left _ (List.mem_append_right _ h))
  have hf_16 := hts (.fieldLink RX2 16 "PipeWorks" "registers" "[I") (by decide +kernel)
  have hl := lv_entry ([.ref h, .int x]) (n := 2) (Nat.le_of_ble_eq_true rfl)
  rw [lg_entry_eq]
  generalize (lg_sl ([.ref h, .int x]) ++ List.replicate (2 - (lg_sl ([.ref h, .int x])).length) Slot.unset).toArray = ls at hl ⊢
  have hl : lv_has ls 2 [(0, .ref h), (1, .int x)] := hl
  refine lv_iload_n hx hb dX2_register_0 rfl (lv_at hl 1 rfl) ?_
  refine lv_if_lt (tgt := 10) hx hb dX2_register_1 (by decide) (fun c_1 => ?_) (fun c_1 => ?_)
  ·
    exact vx_throwX (own := RX2) (cls := xNSE) (Y1 := "java/lang/RuntimeException") (r1 := ["java/lang/Exception"]) hx hb hl9 hown (by decide +kernel) (by decide +kernel) (hts (.classLink RX2 47 xNSE) (by decide +kernel)) (hts (.initialized xNSE) (by decide +kernel)) hR (vx_hat (L := vx_atX RX2 51 xNSE "java/lang/RuntimeException" ["java/lang/Exception"]) (B := [.castable xNSE xNSE, .declares (xD "java/lang/RuntimeException"), .declares (xD "java/lang/Exception"), .declares (xD "java/lang/Throwable")]) (fun w hw => hts w (List.mem_cons_of_mem _ (List.mem_append_right _ hw))) (by decide +kernel) (vx_c (va_Nw.use rfl hc3) (vx_c (va_Nw.use rfl hd1) (vx_c (va_Nw.use rfl hd2) (vx_c (va_Nw.use rfl hd3) vx_n))))) (by decide +kernel) hZ.1 hZ.2 hS (hl.1.trans hml.symm) dX2_register_10 dX2_register_13 dX2_register_14 dX2_register_16 dX2_register_19 (fun x hx => (hEx x hx).elim) (Nat.le_of_ble_eq_true rfl) (Nat.le_of_ble_eq_true rfl) (Nat.le_of_ble_eq_true rfl) (Nat.le_of_ble_eq_true rfl) hlocks (fun t ha hsz hk => xc_end rfl (⟨rfl, Or.inl c_1⟩) hsz hk) hS.2.2 (Nat.le_of_ble_eq_true rfl) (Nat.le_of_ble_eq_true rfl)
  ·
    refine lv_iload_n hx hb dX2_register_4 rfl (lv_at hl 1 rfl) ?_
    refine lv_bipush (v := 32) hx hb dX2_register_5 (by decide) ?_
    refine lv_icmp_lt (tgt := 20) hx hb dX2_register_7 (by decide) (fun c_7 => ?_) (fun c_7 => ?_)
    ·
      refine lv_aload_n hx hb dX2_register_20 rfl (lv_at hl 0 rfl) ?_
      refine va_get (D := (dC, dI)) (ci := 0) (v := .ref c) (C := RX2) (T := TX2) (N := 16) hx hb hts hin hown hK hP 0 rfl rfl 2 (by decide) hf_16 (fun _ h9 => h9) rfl dX2_register_21 ?_
      refine lv_iload_n hx hb dX2_register_24 rfl (lv_at hl 1 rfl) ?_
      refine va_iald hx hb hK hP 3 0 rfl rfl (ix_lt c_1 c_7 (by decide)) dX2_register_25 ?_
      refine vx_ret ?_
      refine W.widen (k := 1) (n := 6) (Nat.zero_le _) (Nat.zero_le _) ?_
      exact W.iret (v := fr x.toNatClampNeg) hx hb hr (fun t ht hW => ⟨⟨_, (), rfl, ⟨rfl, c_1, c_7⟩, trivial⟩, hS.F ht⟩) hS.2.2 dX2_register_26
    ·
      exact vx_throwX (own := RX2) (cls := xNSE) (Y1 := "java/lang/RuntimeException") (r1 := ["java/lang/Exception"]) hx hb hl9 hown (by decide +kernel) (by decide +kernel) (hts (.classLink RX2 47 xNSE) (by decide +kernel)) (hts (.initialized xNSE) (by decide +kernel)) hR (vx_hat (L := vx_atX RX2 51 xNSE "java/lang/RuntimeException" ["java/lang/Exception"]) (B := [.castable xNSE xNSE, .declares (xD "java/lang/RuntimeException"), .declares (xD "java/lang/Exception"), .declares (xD "java/lang/Throwable")]) (fun w hw => hts w (List.mem_cons_of_mem _ (List.mem_append_right _ hw))) (by decide +kernel) (vx_c (va_Nw.use rfl hc3) (vx_c (va_Nw.use rfl hd1) (vx_c (va_Nw.use rfl hd2) (vx_c (va_Nw.use rfl hd3) vx_n))))) (by decide +kernel) hZ.1 hZ.2 hS (hl.1.trans hml.symm) dX2_register_10 dX2_register_13 dX2_register_14 dX2_register_16 dX2_register_19 (fun x hx => (hEx x hx).elim) (Nat.le_of_ble_eq_true rfl) (Nat.le_of_ble_eq_true rfl) (Nat.le_of_ble_eq_true rfl) (Nat.le_of_ble_eq_true rfl) hlocks (fun t ha hsz hk => xc_end rfl (⟨rfl, Or.inr c_7⟩) hsz hk) hS.2.2 (Nat.le_of_ble_eq_true rfl) (Nat.le_of_ble_eq_true rfl)
set_option maxHeartbeats 4000000 in
set_option maxRecDepth 100000 in
theorem kX2_memory (l : Launch) (hl9 : l.stackTraces = false) (dC : Nat → ClassId) (dI : Nat → Nat → Nat) (cI cB : ClassId) (h a b c : Nat) (v fw fc fr : Nat → Int32) (x : Int32) : vx_Met l yX2_memory wsX2_memory ({ frames := 6, cells := 1, slots := 6, locals := 82 }) (xr_Pc [.ref h, .int x] (dC, dI) vwCl (tyIB cI cB) (pwW cI h a b c v fw fc fr)) (va_Qi (fun r (_ : Unit) => r = fc x.toNatClampNeg ∧ ¬ x < 0 ∧ x < 64) (fun _ _ => True) ro_N) (xc_X (fun E => E = xNSE ∧ (x < 0 ∨ ¬ x < 64))) 1 6 ro_N := by
  refine vx_ofW (cc := cX2_memory) (maxL := 2) (ret := (some .int)) (by decide) rfl ?_
  intro p e s m args below meth c9 s₁ B hml hEx hv
  obtain ⟨rfl, hP, hK, hT, hZ⟩ := hv
  obtain ⟨-, -, hR3, hR4, hc1, hc2, hc3, hd1, hd2, hd3, -⟩ := hT
  obtain ⟨sa, hR⟩ := hR4
  have hx := B.exec
  have hb := B.bytes
  have hr := B.returns
  have hts := atoms_spec (ws := wsX2_memory) B.pre
  have hown : s.vm.findClass RX2 = some m.cls := findClass_of_methodNamed B.named
  have hlocks := B.notSynchronized
  have hS : va_S ro_N s.heap s.heap [] := va_S.rf
  have hin : ∀ w ∈ wsX20, w ∈ wsX2_memory := fun w h => List.mem_cons_of_mem _ (List.mem_append_left _ (List.mem_append_right _ h))
  have hf_13 := hts (.fieldLink RX2 13 "PipeWorks" "cells" "[I") (by decide +kernel)
  have hl := lv_entry ([.ref h, .int x]) (n := 2) (Nat.le_of_ble_eq_true rfl)
  rw [lg_entry_eq]
  generalize (lg_sl ([.ref h, .int x]) ++ List.replicate (2 - (lg_sl ([.ref h, .int x])).length) Slot.unset).toArray = ls at hl ⊢
  have hl : lv_has ls 2 [(0, .ref h), (1, .int x)] := hl
  refine lv_iload_n hx hb dX2_memory_0 rfl (lv_at hl 1 rfl) ?_
  refine lv_if_lt (tgt := 10) hx hb dX2_memory_1 (by decide) (fun c_1 => ?_) (fun c_1 => ?_)
  ·
    exact vx_throwX (own := RX2) (cls := xNSE) (Y1 := "java/lang/RuntimeException") (r1 := ["java/lang/Exception"]) hx hb hl9 hown (by decide +kernel) (by decide +kernel) (hts (.classLink RX2 47 xNSE) (by decide +kernel)) (hts (.initialized xNSE) (by decide +kernel)) hR (vx_hat (L := vx_atX RX2 51 xNSE "java/lang/RuntimeException" ["java/lang/Exception"]) (B := [.castable xNSE xNSE, .declares (xD "java/lang/RuntimeException"), .declares (xD "java/lang/Exception"), .declares (xD "java/lang/Throwable")]) (fun w hw => hts w (List.mem_cons_of_mem _ (List.mem_append_right _ hw))) (by decide +kernel) (vx_c (va_Nw.use rfl hc3) (vx_c (va_Nw.use rfl hd1) (vx_c (va_Nw.use rfl hd2) (vx_c (va_Nw.use rfl hd3) vx_n))))) (by decide +kernel) hZ.1 hZ.2 hS (hl.1.trans hml.symm) dX2_memory_10 dX2_memory_13 dX2_memory_14 dX2_memory_16 dX2_memory_19 (fun x hx => (hEx x hx).elim) (Nat.le_of_ble_eq_true rfl) (Nat.le_of_ble_eq_true rfl) (Nat.le_of_ble_eq_true rfl) (Nat.le_of_ble_eq_true rfl) hlocks (fun t ha hsz hk => xc_end rfl (⟨rfl, Or.inl c_1⟩) hsz hk) hS.2.2 (Nat.le_of_ble_eq_true rfl) (Nat.le_of_ble_eq_true rfl)
  ·
    refine lv_iload_n hx hb dX2_memory_4 rfl (lv_at hl 1 rfl) ?_
    refine lv_bipush (v := 64) hx hb dX2_memory_5 (by decide) ?_
    refine lv_icmp_lt (tgt := 20) hx hb dX2_memory_7 (by decide) (fun c_7 => ?_) (fun c_7 => ?_)
    ·
      refine lv_aload_n hx hb dX2_memory_20 rfl (lv_at hl 0 rfl) ?_
      refine va_get (D := (dC, dI)) (ci := 0) (v := .ref b) (C := RX2) (T := TX2) (N := 16) hx hb hts hin hown hK hP 0 rfl rfl 1 (by decide) hf_13 (fun _ h9 => h9) rfl dX2_memory_21 ?_
      refine lv_iload_n hx hb dX2_memory_24 rfl (lv_at hl 1 rfl) ?_
      refine va_iald hx hb hK hP 2 0 rfl rfl (ix_lt c_1 c_7 (by decide)) dX2_memory_25 ?_
      refine vx_ret ?_
      refine W.widen (k := 1) (n := 6) (Nat.zero_le _) (Nat.zero_le _) ?_
      exact W.iret (v := fc x.toNatClampNeg) hx hb hr (fun t ht hW => ⟨⟨_, (), rfl, ⟨rfl, c_1, c_7⟩, trivial⟩, hS.F ht⟩) hS.2.2 dX2_memory_26
    ·
      exact vx_throwX (own := RX2) (cls := xNSE) (Y1 := "java/lang/RuntimeException") (r1 := ["java/lang/Exception"]) hx hb hl9 hown (by decide +kernel) (by decide +kernel) (hts (.classLink RX2 47 xNSE) (by decide +kernel)) (hts (.initialized xNSE) (by decide +kernel)) hR (vx_hat (L := vx_atX RX2 51 xNSE "java/lang/RuntimeException" ["java/lang/Exception"]) (B := [.castable xNSE xNSE, .declares (xD "java/lang/RuntimeException"), .declares (xD "java/lang/Exception"), .declares (xD "java/lang/Throwable")]) (fun w hw => hts w (List.mem_cons_of_mem _ (List.mem_append_right _ hw))) (by decide +kernel) (vx_c (va_Nw.use rfl hc3) (vx_c (va_Nw.use rfl hd1) (vx_c (va_Nw.use rfl hd2) (vx_c (va_Nw.use rfl hd3) vx_n))))) (by decide +kernel) hZ.1 hZ.2 hS (hl.1.trans hml.symm) dX2_memory_10 dX2_memory_13 dX2_memory_14 dX2_memory_16 dX2_memory_19 (fun x hx => (hEx x hx).elim) (Nat.le_of_ble_eq_true rfl) (Nat.le_of_ble_eq_true rfl) (Nat.le_of_ble_eq_true rfl) (Nat.le_of_ble_eq_true rfl) hlocks (fun t ha hsz hk => xc_end rfl (⟨rfl, Or.inr c_7⟩) hsz hk) hS.2.2 (Nat.le_of_ble_eq_true rfl) (Nat.le_of_ble_eq_true rfl)
abbrev pwT (cI : ClassId) (h a b c : Nat) (fw : Nat → Int32) (t : T3) : va_W := pwW cI h a b c t.1 fw t.2.1 t.2.2
set_option maxHeartbeats 4000000 in
set_option maxRecDepth 100000 in
theorem loopX2 {p : Program} {l : Launch} {e : Env} {s : State} {m : MethodId} {args : Array Value} {below : List Frame} {meth : Method} {c9 : Code} {Q : State → Prop} {A : Nat → Prop} (hx : p.tables.exec = Jvm.exec) (hb : c9.code = cX2_clock) (hml : c9.maxLocals = 3) (hown : s.vm.findClass RX2 = some m.cls) (hts : ∀ w ∈ wsX2_clock, w.before args s = true) (hA : ∀ q : Nat, s.heap.size ≤ q → A q) (dC : Nat → ClassId) (dI : Nat → Nat → Nat) (cI cB : ClassId) (h a b c : Nat) (fw : Nat → Int32) (hK : va_K (dC, dI) vwCl (tyIB cI cB) s) (N : Nat) (hN : N < 2 ^ 31) : ∀ (k i : Nat) (t : T3) (H : Heap) (locs : List Loc) (ls : Array Slot), i + k = N → (∀ j, j ≤ k → vp_in ((iterX2 fw j t).1 14) 32) → va_P (dC, dI) vwCl (pwT cI h a b c fw t) H → va_D A (pwT cI h a b c fw t) → va_S A s.heap H locs → lv_has ls 3 [(0, .ref h), (1, .int (nI N)), (2, .int (nI i))] →
    (∀ (H : Heap) (locs : List Loc) (ls : Array Slot), va_P (dC, dI) vwCl (pwT cI h a b c fw (iterX2 fw k t)) H → va_D A (pwT cI h a b c fw (iterX2 fw k t)) → va_S A s.heap H locs → lv_has ls 3 [(0, .ref h)] → W p l e ({ frames := 6, cells := 1, slots := 6, locals := 126 } : Room) s m args below meth c9 H locs 0 0 Q (F0 m 61 ls [])) → W p l e ({ frames := 6, cells := 1, slots := 6, locals := 126 } : Room) s m args below meth c9 H locs 0 0 Q (F0 m 46 ls []) := by
  intro k
  induction k with
  | zero =>
    intro i t H locs ls hi hwr hP hD hS hl kk
    refine lv_iload_n hx hb dX2_clock_46 rfl (lv_at hl 2 rfl) ?_
    refine lv_iload_n hx hb dX2_clock_47 rfl (lv_at hl 1 rfl) ?_
    refine lv_icmp_ge (tgt := 61) hx hb dX2_clock_48 (by decide) (fun _ => ?_) (fun q => ?_)
    · exact kk H locs ls hP hD hS (lv_sub hl [0] rfl)
    · exact absurd (nI_le (by omega) (by omega)) q
  | succ k ih =>
    intro i t H locs ls hi hwr hP hD hS hl kk
    refine lv_iload_n hx hb dX2_clock_46 rfl (lv_at hl 2 rfl) ?_
    refine lv_iload_n hx hb dX2_clock_47 rfl (lv_at hl 1 rfl) ?_
    refine lv_icmp_ge (tgt := 61) hx hb dX2_clock_48 (by decide) (fun q => ?_) (fun _ => ?_)
    · exact absurd q (nI_ge (by omega) (by omega))
    · refine lv_aload_n hx hb dX2_clock_51 rfl (lv_at hl 0 rfl) ?_
      refine wr_callv (va_runV (As := []) (rest := []) ⟨hx, hb, hml, hown, hts⟩ (kX2_oneClock l dC dI cI cB h a b c _ t.1 fw t.2.1 t.2.2 (hwr 0 (Nat.zero_le _))) (cwV 0 hts gX2_clock_X2_oneClock rfl rfl rfl (by decide +kernel) ⟨Nat.le_of_ble_eq_true rfl, Nat.le_of_ble_eq_true rfl⟩) (wr_preV hK hP hD (ci := 0) (q0 := 0) rfl rfl) rfl rfl hl.1 rfl (lv_room (Nat.le_of_ble_eq_true rfl)) dX2_clock_52 ⟨Nat.zero_le _, Nat.zero_le _⟩) hS hA hP hD [0, 1, 2, 3] [] rfl (wr := []) rfl rfl (by decide) (fun H locs hP hD hS => ?_)
      refine lv_iinc (v := nI (i + 1)) (lv' := [(2, .int (nI (i + 1))), (0, .ref h), (1, .int (nI N))]) hx hb dX2_clock_55 hl (k := 2) rfl (nI_1 i) (by decide) rfl (fun ls hl => ?_)
      refine lv_goto (tgt := 46) hx hb dX2_clock_58 (by decide) ?_
      exact ih (i + 1) (fX2_oneClock t.1 fw t.2.1 t.2.2) H locs ls (by omega) (fun j hj => hwr (j + 1) (by omega)) hP hD hS (lv_sub hl [1, 2, 0] rfl) kk
set_option maxHeartbeats 4000000 in
set_option maxRecDepth 100000 in
theorem kX2_clock (l : Launch) (hl9 : l.stackTraces = false) (dC : Nat → ClassId) (dI : Nat → Nat → Nat) (cI cB : ClassId) (h a b c : Nat) (sz : Nat) (v fw fc fr : Nat → Int32) (x : Int32) (hwr : ¬ x < 1 → x ≤ 200 → v 3 + x ≤ 20000 → ∀ j, j ≤ x.toNatClampNeg → vp_in ((iterX2 fw j ((v, fc, fr) : T3)).1 14) 32) : vx_Met l yX2_clock wsX2_clock ({ frames := 6, cells := 1, slots := 6, locals := 126 }) (xw_Pc [.ref h, .int x] (dC, dI) vwCl (tyIB cI cB) (pwW cI h a b c v fw fc fr) sz) (va_Qi (fun r (_ : Unit) => r = (iterX2 fw x.toNatClampNeg ((v, fc, fr) : T3)).1 5 ∧ ¬ x < 1 ∧ x ≤ 200 ∧ v 3 + x ≤ 20000) (fun _ t => va_P (dC, dI) vwCl (pwT cI h a b c fw (iterX2 fw x.toNatClampNeg ((v, fc, fr) : T3))) t.heap ∧ va_D (va_A (pwW cI h a b c v fw fc fr) sz) (pwT cI h a b c fw (iterX2 fw x.toNatClampNeg ((v, fc, fr) : T3)))) (va_A (pwW cI h a b c v fw fc fr) sz)) (xc_X (fun E => (E = xIAE ∧ (x < 1 ∨ ¬ x ≤ 200)) ∨ (E = xISE ∧ ¬ x < 1 ∧ x ≤ 200 ∧ ¬ v 3 + x ≤ 20000))) 1 6 (va_A (pwW cI h a b c v fw fc fr) sz) := by
  refine vx_ofW (cc := cX2_clock) (maxL := 3) (ret := (some .int)) (by decide) rfl ?_
  intro p e s m args below meth c9 s₁ B hml hEx hv
  obtain ⟨rfl, hsz, hP, hK, hD0, hT, hZ⟩ := hv
  obtain ⟨⟨sa1, hR1⟩, ⟨sa2, hR2⟩, -, -, hc1, hc2, hc3, hd1, hd2, hd3, -⟩ := hT
  have hx := B.exec
  have hb := B.bytes
  have hr := B.returns
  have hts := atoms_spec (ws := wsX2_clock) B.pre
  have hown : s.vm.findClass RX2 = some m.cls := findClass_of_methodNamed B.named
  have hlocks := B.notSynchronized
  subst hsz
  have hD := hD0.self (sz := s.heap.size)
  generalize hAe : va_A (pwW cI h a b c v fw fc fr) s.heap.size = A at hD hZ ⊢
  have hA : ∀ q : Nat, s.heap.size ≤ q → A q := fun q h => by rw [← hAe]; exact Or.inr h
  have hS : va_S A s.heap s.heap [] := va_S.rf
  have hin : ∀ w ∈ wsX20, w ∈ wsX2_clock := fun w h => List.mem_cons_of_mem _ (List.mem_append_left _ (List.mem_append_left _ (List.mem_append_right _ h)))
  have hf_19 := hts (.fieldLink RX2 19 "PipeWorks" "clocksInAll" "I") (by decide +kernel)
  have hf_44 := hts (.fieldLink RX2 44 "PipeWorks" "wordsDone" "I") (by decide +kernel)
  have hl := lv_entry ([.ref h, .int x]) (n := 3) (Nat.le_of_ble_eq_true rfl)
  rw [lg_entry_eq]
  generalize (lg_sl ([.ref h, .int x]) ++ List.replicate (3 - (lg_sl ([.ref h, .int x])).length) Slot.unset).toArray = ls at hl ⊢
  have hl : lv_has ls 3 [(0, .ref h), (1, .int x)] := hl
  refine lv_iload_n hx hb dX2_clock_0 rfl (lv_at hl 1 rfl) ?_
  refine lv_iconst (v := 1) hx hb dX2_clock_1 (by decide) ?_
  refine lv_icmp_lt (tgt := 12) hx hb dX2_clock_2 (by decide) (fun c_2 => ?_) (fun c_2 => ?_)
  ·
    exact vx_throwS (own := RX2) (cls := xIAE) (names := xNS) hx hb hl9 hown (by decide +kernel) (by decide +kernel) (hts (.classLink RX2 29 xIAE) (by decide +kernel)) (hts (.initialized xIAE) (by decide +kernel)) hR1 (vx_hat (L := vx_atS RX2 33 xIAE xNS) (B := [.castable xIAE xIAE, .declares (xD "java/lang/RuntimeException"), .declares (xD "java/lang/Exception"), .declares (xD "java/lang/Throwable")]) (fun w hw => hts w (List.mem_cons_of_mem _ (List.mem_append_left _ (List.mem_append_right _ hw)))) (by decide +kernel) (vx_c (va_Nw.use rfl hc1) (vx_c (va_Nw.use rfl hd1) (vx_c (va_Nw.use rfl hd2) (vx_c (va_Nw.use rfl hd3) vx_n))))) (by decide +kernel) hZ.1 hZ.2 hS (hl.1.trans hml.symm) dX2_clock_12 dX2_clock_15 dX2_clock_16 dX2_clock_18 dX2_clock_21 (fun x hx => (hEx x hx).elim) (Nat.le_of_ble_eq_true rfl) (Nat.le_of_ble_eq_true rfl) (Nat.le_of_ble_eq_true rfl) (Nat.le_of_ble_eq_true rfl) hlocks (fun t ha hsz hk => xc_end rfl (Or.inl ⟨rfl, Or.inl c_2⟩) hsz hk) hS.2.2 (Nat.le_of_ble_eq_true rfl) (Nat.le_of_ble_eq_true rfl)
  ·
    refine lv_iload_n hx hb dX2_clock_5 rfl (lv_at hl 1 rfl) ?_
    refine lv_sipush (v := 200) hx hb dX2_clock_6 (by decide) ?_
    refine lv_icmp_le (tgt := 22) hx hb dX2_clock_9 (by decide) (fun c_9 => ?_) (fun c_9 => ?_)
    ·
      refine lv_aload_n hx hb dX2_clock_22 rfl (lv_at hl 0 rfl) ?_
      refine va_get (D := (dC, dI)) (ci := 0) (v := .int (v 3)) (C := RX2) (T := TX2) (N := 16) hx hb hts hin hown hK hP 0 rfl rfl 3 (by decide) hf_19 (fun _ h9 => h9) rfl dX2_clock_23 ?_
      refine lv_iload_n hx hb dX2_clock_26 rfl (lv_at hl 1 rfl) ?_
      refine lv_iadd hx hb dX2_clock_27 ?_
      refine lv_sipush (v := 20000) hx hb dX2_clock_28 (by decide) ?_
      refine lv_icmp_le (tgt := 44) hx hb dX2_clock_31 (by decide) (fun c_31 => ?_) (fun c_31 => ?_)
      ·
        refine lv_iconst (v := 0) hx hb dX2_clock_44 (by decide) ?_
        refine lv_istore_n (lv' := [(2, .int 0), (0, .ref h), (1, .int x)]) hx hb dX2_clock_45 rfl hl (by decide) rfl (fun ls hl => ?_)
        obtain ⟨N, hN, hNe⟩ := nI_of (n1_pos c_2)
        have hc9 : x.toNatClampNeg = N := by rw [hNe]; exact nI_clamp hN
        have hwr := hwr c_2 c_9 c_31
        rw [hc9] at hwr
        rw [hNe] at hl
        refine loopX2 hx hb hml hown hts hA dC dI cI cB h a b c fw hK N hN N 0 ((v, fc, fr) : T3) s.heap [] ls (by omega) hwr hP hD hS (lv_sub hl [1, 2, 0] rfl) (fun H locs ls hP hD hS hl => ?_)
        refine lv_aload_n hx hb dX2_clock_61 rfl (lv_at hl 0 rfl) ?_
        refine va_get (D := (dC, dI)) (ci := 0) (v := .int ((iterX2 fw N ((v, fc, fr) : T3)).1 5)) (C := RX2) (T := TX2) (N := 16) hx hb hts hin hown hK hP 0 rfl rfl 5 (by decide) hf_44 (fun _ h9 => h9) rfl dX2_clock_62 ?_
        refine vx_ret ?_
        refine W.widen (k := 1) (n := 6) (Nat.zero_le _) (Nat.zero_le _) ?_
        subst hAe
        exact W.iret (v := (iterX2 fw N ((v, fc, fr) : T3)).1 5) hx hb hr (fun t ht hW => ⟨⟨_, (), rfl, ⟨by rw [hc9], c_2, c_9, c_31⟩, by rw [ht, hc9]; exact hP, by rw [hc9]; exact hD⟩, hS.F ht⟩) hS.2.2 dX2_clock_65
      ·
        exact vx_throwS (own := RX2) (cls := xISE) (names := xNS) hx hb hl9 hown (by decide +kernel) (by decide +kernel) (hts (.classLink RX2 36 xISE) (by decide +kernel)) (hts (.initialized xISE) (by decide +kernel)) hR2 (vx_hat (L := vx_atS RX2 40 xISE xNS) (B := [.castable xISE xISE, .declares (xD "java/lang/RuntimeException"), .declares (xD "java/lang/Exception"), .declares (xD "java/lang/Throwable")]) (fun w hw => hts w (List.mem_cons_of_mem _ (List.mem_append_right _ hw))) (by decide +kernel) (vx_c (va_Nw.use rfl hc2) (vx_c (va_Nw.use rfl hd1) (vx_c (va_Nw.use rfl hd2) (vx_c (va_Nw.use rfl hd3) vx_n))))) (by decide +kernel) hZ.1 hZ.2 hS (hl.1.trans hml.symm) dX2_clock_34 dX2_clock_37 dX2_clock_38 dX2_clock_40 dX2_clock_43 (fun x hx => (hEx x hx).elim) (Nat.le_of_ble_eq_true rfl) (Nat.le_of_ble_eq_true rfl) (Nat.le_of_ble_eq_true rfl) (Nat.le_of_ble_eq_true rfl) hlocks (fun t ha hsz hk => xc_end rfl (Or.inr ⟨rfl, c_2, c_9, c_31⟩) hsz hk) hS.2.2 (Nat.le_of_ble_eq_true rfl) (Nat.le_of_ble_eq_true rfl)
    ·
      exact vx_throwS (own := RX2) (cls := xIAE) (names := xNS) hx hb hl9 hown (by decide +kernel) (by decide +kernel) (hts (.classLink RX2 29 xIAE) (by decide +kernel)) (hts (.initialized xIAE) (by decide +kernel)) hR1 (vx_hat (L := vx_atS RX2 33 xIAE xNS) (B := [.castable xIAE xIAE, .declares (xD "java/lang/RuntimeException"), .declares (xD "java/lang/Exception"), .declares (xD "java/lang/Throwable")]) (fun w hw => hts w (List.mem_cons_of_mem _ (List.mem_append_left _ (List.mem_append_right _ hw)))) (by decide +kernel) (vx_c (va_Nw.use rfl hc1) (vx_c (va_Nw.use rfl hd1) (vx_c (va_Nw.use rfl hd2) (vx_c (va_Nw.use rfl hd3) vx_n))))) (by decide +kernel) hZ.1 hZ.2 hS (hl.1.trans hml.symm) dX2_clock_12 dX2_clock_15 dX2_clock_16 dX2_clock_18 dX2_clock_21 (fun x hx => (hEx x hx).elim) (Nat.le_of_ble_eq_true rfl) (Nat.le_of_ble_eq_true rfl) (Nat.le_of_ble_eq_true rfl) (Nat.le_of_ble_eq_true rfl) hlocks (fun t ha hsz hk => xc_end rfl (Or.inl ⟨rfl, Or.inr c_9⟩) hsz hk) hS.2.2 (Nat.le_of_ble_eq_true rfl) (Nat.le_of_ble_eq_true rfl)
