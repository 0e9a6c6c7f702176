abbrev outC (cL : ClassId) (o : Nat) (f : Nat → Int64) : Nat × va_E := (o, .inl (cL, 1, .inr (.inl f)))
abbrev tyL (cI cB cL : ClassId) : List (ClassId × FieldType) := [(cI, .int), (cB, .byte), (cL, .long)]
theorem in_01 : vp_in 0 1 := vp_in_nI (n := 0) (by decide) (by decide)
def hp_Pc (av : List Value) (D : va_G) (cl : List vw_C) (tys : List (ClassId × FieldType)) (ws : va_W) (sz : Nat) : Array Value → State → Prop := va_Pc av (fun U => U.heap.size = sz ∧ va_P D cl ws U.heap ∧ va_K D cl tys U ∧ va_D (fun _ => True) ws ∧ vxT U ∧ vxZ (va_A ws sz) U U.heap)
theorem hp_bl {av : List Value} {D : va_G} {cl : List vw_C} {tys : List (ClassId × FieldType)} {ws : va_W} {sz : Nat} : FrameBlind (hp_Pc av D cl tys ws sz) := xw_bl
set_option maxHeartbeats 4000000 in
set_option maxRecDepth 100000 in
theorem kL_register (l : Launch) (hl9 : l.stackTraces = false) (dC : Nat → ClassId) (dI : Nat → Nat → Nat) (cI cB cL : ClassId) (h a b c o : Nat) (sz : Nat) (v fw fc fr : Nat → Int32) (fo : Nat → Int64) (x : Int32) : Met l yL_register wsL_register ({ frames := 7, cells := 1, slots := 6, locals := 103 }) (hp_Pc [.ref h, .int x, .ref o] (dC, dI) vwCl (tyL cI cB cL) (pwW cI h a b c v fw fc fr ++ [outC cL o fo]) sz) (va_Qi (fun r (u : Nat → Int64) => (r = 1 ∧ (x < 0 ∨ ¬ x < 32)) ∨ (r = 0 ∧ ¬ x < 0 ∧ x < 32 ∧ u 0 = (fr x.toNatClampNeg).toInt64)) (fun u t => va_P (dC, dI) vwCl (pwW cI h a b c v fw fc fr ++ [outC cL o u]) t.heap ∧ va_D (va_A (pwW cI h a b c v fw fc fr ++ [outC cL o fo]) sz) (pwW cI h a b c v fw fc fr ++ [outC cL o u])) (va_A (pwW cI h a b c v fw fc fr ++ [outC cL o fo]) sz)) 1 6 (va_A (pwW cI h a b c v fw fc fr ++ [outC cL o fo]) sz) := by
  refine va_MetW (hh := [(0, 9, 12, 20)]) (cc := cL_register) (maxL := 4) (ret := (some .int)) (by decide) rfl ?_
  intro p e s m args below meth c9 s₁ B hml hv
  obtain ⟨rfl, hsz, hP, hK, hD0, hT, hZ⟩ := hv
  have hx := B.exec
  have hb := B.bytes
  have hr := B.returns
  have hts := atoms_spec (ws := wsL_register) B.pre
  have hown : s.vm.findClass RL = some m.cls := findClass_of_methodNamed B.named
  have hlocks := B.notSynchronized
  have hTab : c9.exceptionTable.toList = tableOf [(0, 9, 12, 20)] := vx_table (x := yL_register) B (hts (.codeWith yL_register cL_register 4 (some .int) [(0, 9, 12, 20)]) List.mem_cons_self)
  subst hsz
  have hD := hD0.self (sz := s.heap.size)
  generalize hAe : va_A (pwW cI h a b c v fw fc fr ++ [outC cL o fo]) s.heap.size = A at hD hZ ⊢
  have hA : ∀ q : Nat, s.heap.size ≤ q → A q := fun q h => by rw [← hAe]; exact Or.inr h
  have hS : va_S A s.heap s.heap [] := va_S.rf
  have hKx : va_K (dC, dI) vwCl (tyIB cI cB) s := hK.sub [0, 1] rfl
  have hPc := hP.sub (ws' := pwW cI h a b c v fw fc fr) [0, 1, 2, 3] rfl
  have hDc := hD.sub (ws' := pwW cI h a b c v fw fc fr) [0, 1, 2, 3] (by decide) rfl
  have hl := lv_entry ([.ref h, .int x, .ref o]) (n := 4) (Nat.le_of_ble_eq_true rfl)
  rw [lg_entry_eq]
  generalize (lg_sl ([.ref h, .int x, .ref o]) ++ List.replicate (4 - (lg_sl ([.ref h, .int x, .ref o])).length) Slot.unset).toArray = ls at hl ⊢
  have hl : lv_has ls 4 [(0, .ref h), (1, .int x), (2, .ref o)] := hl
  refine lv_aload_n hx hb dL_register_0 rfl (lv_at hl 2 rfl) ?_
  refine lv_iconst (v := 0) hx hb dL_register_1 (by decide) ?_
  refine lv_aload_n hx hb dL_register_2 rfl (lv_at hl 0 rfl) ?_
  refine lv_iload_n hx hb dL_register_3 rfl (lv_at hl 1 rfl) ?_
  refine vx_calli (vx_runV (As := [.int x]) (rest := [.int 0, .ref o]) ⟨hx, hb, hml, hown, hts⟩ (kX2_register l hl9 dC dI cI cB h a b c v fw fc fr x) (cwV 1 hts gL_register_X2_register rfl rfl rfl (by decide +kernel) ⟨Nat.le_of_ble_eq_true rfl, Nat.le_of_ble_eq_true rfl⟩) ⟨xr_bl, va_recv hKx hPc (ci := 0) (q0 := 0) rfl rfl, fun U hU hW => ⟨rfl, by rw [hU]; exact hPc, va_K.moved hW.alike hKx, vxT.warm hW hT, by rw [hU]; exact vxZ.moved hW.alike (hZ.narrow (fun q h => h.elim))⟩⟩ rfl rfl hl.1 rfl (lv_room (Nat.le_of_ble_eq_true rfl)) dL_register_4 ⟨Nat.le_of_ble_eq_true rfl, Nat.le_of_ble_eq_true rfl⟩) hS (fun q _ h => h.elim) (fun q h => h.elim) (fun q _ h => h.elim) ?_ ?_
  · intro E ce q9 u t H1 locs1 ht hvm hpx hBX hz hk hS hce hcv hcl
    obtain ⟨rfl, hwhy⟩ := hBX
    have hP : va_P (dC, dI) vwCl (pwW cI h a b c v fw fc fr ++ [outC cL o fo]) H1 := hP.kept (fun k q hq => hk q.1 (hP k q hq).lt (fun z => z))
    refine vx_catch (own := RL) (name := xNSE) hown [] ⟨0, 9, 12, 20⟩ [] hTab (fun z hz => by cases hz) (by decide) (by decide) (hts (.classLink RL 20 xNSE) (by decide +kernel)) (va_Nw.use rfl hT.2.2.2.2.2.2.1) hce hcv hcl ?_
    refine lv_astore_n (lv' := [(3, .ref q9), (0, .ref h), (1, .int x), (2, .ref o)]) hx hb dL_register_12 rfl hl (by decide) rfl (fun ls hl => ?_)
    refine lv_iconst (v := 1) hx hb dL_register_13 (by decide) ?_
    refine W.widen (k := 1) (n := 6) (Nat.le_of_ble_eq_true rfl) (Nat.le_of_ble_eq_true rfl) ?_
    subst hAe
    exact W.iret (v := 1) hx hb hr (fun t ht hW => ⟨⟨_, fo, rfl, Or.inl ⟨rfl, hwhy⟩, by rw [ht]; exact hP, hD⟩, hS.F ht⟩) hS.2.2 dL_register_14
  · intro r u t H1 locs1 ht hvm hpost hB hz hk hS
    obtain ⟨hr0, hc1, hc2⟩ := hpost
    have hP : va_P (dC, dI) vwCl (pwW cI h a b c v fw fc fr ++ [outC cL o fo]) H1 := hP.kept (fun k q hq => hk q.1 (hP k q hq).lt (fun z => z))
    refine lv_i2l (v := r.toInt64) hx hb dL_register_7 rfl ?_
    refine va_last hx hb hK hP hD hS 4 2 rfl rfl in_01 dL_register_8 (fun H locs hP hD hS => ?_)
    have hP : va_P (dC, dI) vwCl (pwW cI h a b c v fw fc fr ++ [outC cL o (vp_updL fo 0 r.toInt64)]) H := hP
    have hD : va_D A (pwW cI h a b c v fw fc fr ++ [outC cL o (vp_updL fo 0 r.toInt64)]) := hD
    refine lv_goto (tgt := 15) hx hb dL_register_9 (by decide) ?_
    refine lv_iconst (v := 0) hx hb dL_register_15 (by decide) ?_
    refine W.widen (k := 1) (n := 6) (Nat.le_of_ble_eq_true rfl) (Nat.le_of_ble_eq_true rfl) ?_
    subst hAe
    exact W.iret (v := 0) hx hb hr (fun t ht hW => ⟨⟨_, vp_updL fo 0 r.toInt64, rfl, Or.inr ⟨rfl, hc1, hc2, by rw [pk_uLs, hr0]⟩, by rw [ht]; exact hP, hD⟩, hS.F ht⟩) hS.2.2 dL_register_16
set_option maxHeartbeats 4000000 in
set_option maxRecDepth 100000 in
theorem kL_memory (l : Launch) (hl9 : l.stackTraces = false) (dC : Nat → ClassId) (dI : Nat → Nat → Nat) (cI cB cL : ClassId) (h a b c o : Nat) (sz : Nat) (v fw fc fr : Nat → Int32) (fo : Nat → Int64) (x : Int32) : Met l yL_memory wsL_memory ({ frames := 7, cells := 1, slots := 6, locals := 103 }) (hp_Pc [.ref h, .int x, .ref o] (dC, dI) vwCl (tyL cI cB cL) (pwW cI h a b c v fw fc fr ++ [outC cL o fo]) sz) (va_Qi (fun r (u : Nat → Int64) => (r = 1 ∧ (x < 0 ∨ ¬ x < 64)) ∨ (r = 0 ∧ ¬ x < 0 ∧ x < 64 ∧ u 0 = (fc x.toNatClampNeg).toInt64)) (fun u t => va_P (dC, dI) vwCl (pwW cI h a b c v fw fc fr ++ [outC cL o u]) t.heap ∧ va_D (va_A (pwW cI h a b c v fw fc fr ++ [outC cL o fo]) sz) (pwW cI h a b c v fw fc fr ++ [outC cL o u])) (va_A (pwW cI h a b c v fw fc fr ++ [outC cL o fo]) sz)) 1 6 (va_A (pwW cI h a b c v fw fc fr ++ [outC cL o fo]) sz) := by
  refine va_MetW (hh := [(0, 9, 12, 20)]) (cc := cL_memory) (maxL := 4) (ret := (some .int)) (by decide) rfl ?_
  intro p e s m args below meth c9 s₁ B hml hv
  obtain ⟨rfl, hsz, hP, hK, hD0, hT, hZ⟩ := hv
  have hx := B.exec
  have hb := B.bytes
  have hr := B.returns
  have hts := atoms_spec (ws := wsL_memory) B.pre
  have hown : s.vm.findClass RL = some m.cls := findClass_of_methodNamed B.named
  have hlocks := B.notSynchronized
  have hTab : c9.exceptionTable.toList = tableOf [(0, 9, 12, 20)] := vx_table (x := yL_memory) B (hts (.codeWith yL_memory cL_memory 4 (some .int) [(0, 9, 12, 20)]) List.mem_cons_self)
  subst hsz
  have hD := hD0.self (sz := s.heap.size)
  generalize hAe : va_A (pwW cI h a b c v fw fc fr ++ [outC cL o fo]) s.heap.size = A at hD hZ ⊢
  have hA : ∀ q : Nat, s.heap.size ≤ q → A q := fun q h => by rw [← hAe]; exact Or.inr h
  have hS : va_S A s.heap s.heap [] := va_S.rf
  have hKx : va_K (dC, dI) vwCl (tyIB cI cB) s := hK.sub [0, 1] rfl
  have hPc := hP.sub (ws' := pwW cI h a b c v fw fc fr) [0, 1, 2, 3] rfl
  have hDc := hD.sub (ws' := pwW cI h a b c v fw fc fr) [0, 1, 2, 3] (by decide) rfl
  have hl := lv_entry ([.ref h, .int x, .ref o]) (n := 4) (Nat.le_of_ble_eq_true rfl)
  rw [lg_entry_eq]
  generalize (lg_sl ([.ref h, .int x, .ref o]) ++ List.replicate (4 - (lg_sl ([.ref h, .int x, .ref o])).length) Slot.unset).toArray = ls at hl ⊢
  have hl : lv_has ls 4 [(0, .ref h), (1, .int x), (2, .ref o)] := hl
  refine lv_aload_n hx hb dL_memory_0 rfl (lv_at hl 2 rfl) ?_
  refine lv_iconst (v := 0) hx hb dL_memory_1 (by decide) ?_
  refine lv_aload_n hx hb dL_memory_2 rfl (lv_at hl 0 rfl) ?_
  refine lv_iload_n hx hb dL_memory_3 rfl (lv_at hl 1 rfl) ?_
  refine vx_calli (vx_runV (As := [.int x]) (rest := [.int 0, .ref o]) ⟨hx, hb, hml, hown, hts⟩ (kX2_memory l hl9 dC dI cI cB h a b c v fw fc fr x) (cwV 1 hts gL_memory_X2_memory rfl rfl rfl (by decide +kernel) ⟨Nat.le_of_ble_eq_true rfl, Nat.le_of_ble_eq_true rfl⟩) ⟨xr_bl, va_recv hKx hPc (ci := 0) (q0 := 0) rfl rfl, fun U hU hW => ⟨rfl, by rw [hU]; exact hPc, va_K.moved hW.alike hKx, vxT.warm hW hT, by rw [hU]; exact vxZ.moved hW.alike (hZ.narrow (fun q h => h.elim))⟩⟩ rfl rfl hl.1 rfl (lv_room (Nat.le_of_ble_eq_true rfl)) dL_memory_4 ⟨Nat.le_of_ble_eq_true rfl, Nat.le_of_ble_eq_true rfl⟩) hS (fun q _ h => h.elim) (fun q h => h.elim) (fun q _ h => h.elim) ?_ ?_
  · intro E ce q9 u t H1 locs1 ht hvm hpx hBX hz hk hS hce hcv hcl
    obtain ⟨rfl, hwhy⟩ := hBX
    have hP : va_P (dC, dI) vwCl (pwW cI h a b c v fw fc fr ++ [outC cL o fo]) H1 := hP.kept (fun k q hq => hk q.1 (hP k q hq).lt (fun z => z))
    refine vx_catch (own := RL) (name := xNSE) hown [] ⟨0, 9, 12, 20⟩ [] hTab (fun z hz => by cases hz) (by decide) (by decide) (hts (.classLink RL 20 xNSE) (by decide +kernel)) (va_Nw.use rfl hT.2.2.2.2.2.2.1) hce hcv hcl ?_
    refine lv_astore_n (lv' := [(3, .ref q9), (0, .ref h), (1, .int x), (2, .ref o)]) hx hb dL_memory_12 rfl hl (by decide) rfl (fun ls hl => ?_)
    refine lv_iconst (v := 1) hx hb dL_memory_13 (by decide) ?_
    refine W.widen (k := 1) (n := 6) (Nat.le_of_ble_eq_true rfl) (Nat.le_of_ble_eq_true rfl) ?_
    subst hAe
    exact W.iret (v := 1) hx hb hr (fun t ht hW => ⟨⟨_, fo, rfl, Or.inl ⟨rfl, hwhy⟩, by rw [ht]; exact hP, hD⟩, hS.F ht⟩) hS.2.2 dL_memory_14
  · intro r u t H1 locs1 ht hvm hpost hB hz hk hS
    obtain ⟨hr0, hc1, hc2⟩ := hpost
    have hP : va_P (dC, dI) vwCl (pwW cI h a b c v fw fc fr ++ [outC cL o fo]) H1 := hP.kept (fun k q hq => hk q.1 (hP k q hq).lt (fun z => z))
    refine lv_i2l (v := r.toInt64) hx hb dL_memory_7 rfl ?_
    refine va_last hx hb hK hP hD hS 4 2 rfl rfl in_01 dL_memory_8 (fun H locs hP hD hS => ?_)
    have hP : va_P (dC, dI) vwCl (pwW cI h a b c v fw fc fr ++ [outC cL o (vp_updL fo 0 r.toInt64)]) H := hP
    have hD : va_D A (pwW cI h a b c v fw fc fr ++ [outC cL o (vp_updL fo 0 r.toInt64)]) := hD
    refine lv_goto (tgt := 15) hx hb dL_memory_9 (by decide) ?_
    refine lv_iconst (v := 0) hx hb dL_memory_15 (by decide) ?_
    refine W.widen (k := 1) (n := 6) (Nat.le_of_ble_eq_true rfl) (Nat.le_of_ble_eq_true rfl) ?_
    subst hAe
    exact W.iret (v := 0) hx hb hr (fun t ht hW => ⟨⟨_, vp_updL fo 0 r.toInt64, rfl, Or.inr ⟨rfl, hc1, hc2, by rw [pk_uLs, hr0]⟩, by rw [ht]; exact hP, hD⟩, hS.F ht⟩) hS.2.2 dL_memory_16
set_option maxHeartbeats 4000000 in
set_option maxRecDepth 100000 in
theorem kL_clock (l : Launch) (hl9 : l.stackTraces = false) (dC : Nat → ClassId) (dI : Nat → Nat → Nat) (cI cB cL : ClassId) (h a b c o : Nat) (sz : Nat) (v fw fc fr : Nat → Int32) (fo : Nat → Int64) (x : Int32) (hwr : ¬ x < 1 → x ≤ 200 → v 3 + x ≤ 20000 → ∀ j, j ≤ x.toNatClampNeg → vp_in ((iterX2 fw j ((v, fc, fr) : T3)).1 14) 32) : Met l yL_clock wsL_clock ({ frames := 7, cells := 1, slots := 6, locals := 148 }) (hp_Pc [.ref h, .int x, .ref o] (dC, dI) vwCl (tyL cI cB cL) (pwW cI h a b c v fw fc fr ++ [outC cL o fo]) sz) (va_Qi (fun r (u : T3 × (Nat → Int64)) => (r = 1 ∧ (x < 1 ∨ ¬ x ≤ 200) ∧ u.1 = (v, fc, fr)) ∨ (r = 2 ∧ (¬ x < 1 ∧ x ≤ 200 ∧ ¬ v 3 + x ≤ 20000) ∧ u.1 = (v, fc, fr)) ∨ (r = 0 ∧ (¬ x < 1 ∧ x ≤ 200 ∧ v 3 + x ≤ 20000) ∧ u.1 = (iterX2 fw x.toNatClampNeg ((v, fc, fr) : T3)) ∧ u.2 0 = ((iterX2 fw x.toNatClampNeg ((v, fc, fr) : T3)).1 5).toInt64)) (fun u t => va_P (dC, dI) vwCl (pwT cI h a b c fw u.1 ++ [outC cL o u.2]) t.heap ∧ va_D (va_A (pwW cI h a b c v fw fc fr ++ [outC cL o fo]) sz) (pwT cI h a b c fw u.1 ++ [outC cL o u.2])) (va_A (pwW cI h a b c v fw fc fr ++ [outC cL o fo]) sz)) 1 6 (va_A (pwW cI h a b c v fw fc fr ++ [outC cL o fo]) sz) := by
  refine va_MetW (hh := [(0, 9, 12, 13), (0, 9, 15, 15)]) (cc := cL_clock) (maxL := 4) (ret := (some .int)) (by decide) rfl ?_
  intro p e s m args below meth c9 s₁ B hml hv
  obtain ⟨rfl, hsz, hP, hK, hD0, hT, hZ⟩ := hv
  have hx := B.exec
  have hb := B.bytes
  have hr := B.returns
  have hts := atoms_spec (ws := wsL_clock) B.pre
  have hown : s.vm.findClass RL = some m.cls := findClass_of_methodNamed B.named
  have hlocks := B.notSynchronized
  have hTab : c9.exceptionTable.toList = tableOf [(0, 9, 12, 13), (0, 9, 15, 15)] := vx_table (x := yL_clock) B (hts (.codeWith yL_clock cL_clock 4 (some .int) [(0, 9, 12, 13), (0, 9, 15, 15)]) List.mem_cons_self)
  subst hsz
  have hD := hD0.self (sz := s.heap.size)
  generalize hAe : va_A (pwW cI h a b c v fw fc fr ++ [outC cL o fo]) s.heap.size = A at hD hZ ⊢
  have hA : ∀ q : Nat, s.heap.size ≤ q → A q := fun q h => by rw [← hAe]; exact Or.inr h
  have hS : va_S A s.heap s.heap [] := va_S.rf
  have hKx : va_K (dC, dI) vwCl (tyIB cI cB) s := hK.sub [0, 1] rfl
  have hPc := hP.sub (ws' := pwW cI h a b c v fw fc fr) [0, 1, 2, 3] rfl
  have hDc := hD.sub (ws' := pwW cI h a b c v fw fc fr) [0, 1, 2, 3] (by decide) rfl
  have hl := lv_entry ([.ref h, .int x, .ref o]) (n := 4) (Nat.le_of_ble_eq_true rfl)
  rw [lg_entry_eq]
  generalize (lg_sl ([.ref h, .int x, .ref o]) ++ List.replicate (4 - (lg_sl ([.ref h, .int x, .ref o])).length) Slot.unset).toArray = ls at hl ⊢
  have hl : lv_has ls 4 [(0, .ref h), (1, .int x), (2, .ref o)] := hl
  refine lv_aload_n hx hb dL_clock_0 rfl (lv_at hl 2 rfl) ?_
  refine lv_iconst (v := 0) hx hb dL_clock_1 (by decide) ?_
  refine lv_aload_n hx hb dL_clock_2 rfl (lv_at hl 0 rfl) ?_
  refine lv_iload_n hx hb dL_clock_3 rfl (lv_at hl 1 rfl) ?_
  have hFc := va_free (wc := pwW cI h a b c v fw fc fr) hD hS hA [0, 1, 2, 3] rfl
  refine vx_calli (vx_runV (As := [.int x]) (rest := [.int 0, .ref o]) ⟨hx, hb, hml, hown, hts⟩ (kX2_clock l hl9 dC dI cI cB h a b c s.heap.size v fw fc fr x hwr) (cwV 1 hts gL_clock_X2_clock rfl rfl rfl (by decide +kernel) ⟨Nat.le_of_ble_eq_true rfl, Nat.le_of_ble_eq_true rfl⟩) ⟨xw_bl, va_recv hKx hPc (ci := 0) (q0 := 0) rfl rfl, fun U hU hW => ⟨rfl, by rw [hU], by rw [hU]; exact hPc, va_K.moved hW.alike hKx, hDc.weaken (fun _ _ _ _ => trivial), vxT.warm hW hT, by rw [hU]; exact vxZ.moved hW.alike (hZ.narrow hFc)⟩⟩ rfl rfl hl.1 rfl (lv_room (Nat.le_of_ble_eq_true rfl)) dL_clock_4 ⟨Nat.le_of_ble_eq_true rfl, Nat.le_of_ble_eq_true rfl⟩) hS (fun q _ h => hFc q h) hFc (fun q _ h => h.elim) ?_ ?_
  · intro E ce q9 u t H1 locs1 ht hvm hpx hBX hz hk hS hce hcv hcl
    have hP : va_P (dC, dI) vwCl (pwW cI h a b c v fw fc fr ++ [outC cL o fo]) H1 := hP.kept (fun k q hq => hk q.1 (hP k q hq).lt (fun z => z))
    rcases hBX with ⟨rfl, hwhy⟩ | ⟨rfl, hwhy⟩
    · refine vx_catch (own := RL) (name := xIAE) hown [] ⟨0, 9, 12, 13⟩ [⟨0, 9, 15, 15⟩] hTab (fun z hz => by cases hz) (by decide) (by decide) (hts (.classLink RL 13 xIAE) (by decide +kernel)) (va_Nw.use rfl hT.2.2.2.2.1) hce hcv hcl ?_
      refine lv_astore_n (lv' := [(3, .ref q9), (0, .ref h), (1, .int x), (2, .ref o)]) hx hb dL_clock_12 rfl hl (by decide) rfl (fun ls hl => ?_)
      refine lv_iconst (v := 1) hx hb dL_clock_13 (by decide) ?_
      refine W.widen (k := 1) (n := 6) (Nat.le_of_ble_eq_true rfl) (Nat.le_of_ble_eq_true rfl) ?_
      subst hAe
      exact W.iret (v := 1) hx hb hr (fun t ht hW => ⟨⟨_, ((v, fc, fr), fo), rfl, Or.inl ⟨rfl, hwhy, rfl⟩, by rw [ht]; exact hP, hD⟩, hS.F ht⟩) hS.2.2 dL_clock_14
    · refine vx_catch (own := RL) (name := xISE) hown [⟨0, 9, 12, 13⟩] ⟨0, 9, 15, 15⟩ [] hTab (fun z hz => by rw [List.mem_singleton.mp hz]; exact Or.inr ⟨by decide, xIAE, hts (.classLink RL 13 xIAE) (by decide +kernel), hT.2.2.2.2.2.2.2.2.2.2⟩) (by decide) (by decide) (hts (.classLink RL 15 xISE) (by decide +kernel)) (va_Nw.use rfl hT.2.2.2.2.2.1) hce hcv hcl ?_
      refine lv_astore_n (lv' := [(3, .ref q9), (0, .ref h), (1, .int x), (2, .ref o)]) hx hb dL_clock_15 rfl hl (by decide) rfl (fun ls hl => ?_)
      refine lv_iconst (v := 2) hx hb dL_clock_16 (by decide) ?_
      refine W.widen (k := 1) (n := 6) (Nat.le_of_ble_eq_true rfl) (Nat.le_of_ble_eq_true rfl) ?_
      subst hAe
      exact W.iret (v := 2) hx hb hr (fun t ht hW => ⟨⟨_, ((v, fc, fr), fo), rfl, Or.inr (Or.inl ⟨rfl, hwhy, rfl⟩), by rw [ht]; exact hP, hD⟩, hS.F ht⟩) hS.2.2 dL_clock_17
  · intro r u t H1 locs1 ht hvm hpost hB hz hk hS
    obtain ⟨hr0, hc⟩ := hpost
    obtain ⟨hP1, hD1⟩ := hB
    rw [ht] at hP1
    obtain ⟨hP, hD⟩ := va_join (wr := [outC cL o fo]) hP hD [0, 1, 2, 3] [4] rfl rfl (by decide) (by decide) hk hFc hP1 hD1
    have hP := hP.sub (ws' := pwT cI h a b c fw (iterX2 fw x.toNatClampNeg ((v, fc, fr) : T3)) ++ [outC cL o fo]) [1, 2, 3, 4, 0] rfl
    have hD := hD.sub (ws' := pwT cI h a b c fw (iterX2 fw x.toNatClampNeg ((v, fc, fr) : T3)) ++ [outC cL o fo]) [1, 2, 3, 4, 0] (by decide) rfl
    refine lv_i2l (v := r.toInt64) hx hb dL_clock_7 rfl ?_
    refine va_last hx hb hK hP hD hS 4 2 rfl rfl in_01 dL_clock_8 (fun H locs hP hD hS => ?_)
    have hP : va_P (dC, dI) vwCl (pwT cI h a b c fw (iterX2 fw x.toNatClampNeg ((v, fc, fr) : T3)) ++ [outC cL o (vp_updL fo 0 r.toInt64)]) H := hP
    have hD : va_D A (pwT cI h a b c fw (iterX2 fw x.toNatClampNeg ((v, fc, fr) : T3)) ++ [outC cL o (vp_updL fo 0 r.toInt64)]) := hD
    refine lv_goto (tgt := 18) hx hb dL_clock_9 (by decide) ?_
    refine lv_iconst (v := 0) hx hb dL_clock_18 (by decide) ?_
    refine W.widen (k := 1) (n := 6) (Nat.le_of_ble_eq_true rfl) (Nat.le_of_ble_eq_true rfl) ?_
    subst hAe
    exact W.iret (v := 0) hx hb hr (fun t ht hW => ⟨⟨_, ((iterX2 fw x.toNatClampNeg ((v, fc, fr) : T3)), vp_updL fo 0 r.toInt64), rfl, Or.inr (Or.inr ⟨rfl, hc, rfl, (show vp_updL fo 0 r.toInt64 0 = _ by rw [pk_uLs, hr0])⟩), by rw [ht]; exact hP, hD⟩, hS.F ht⟩) hS.2.2 dL_clock_19
