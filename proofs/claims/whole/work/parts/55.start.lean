theorem st_ref {own cls : String} {k : Nat} {args : Array Value} {s : State} (h : (Cond.exactly (.string own k) cls).before args s = true) : ∃ a, (Term.string own k).eval args s none [] s = some (.ref a) := by
  obtain ⟨a, h1⟩ := Cond.exactly_spec (h : (Cond.exactly (.string own k) cls).holds args s none s [] = true)
  obtain ⟨_, _, _, h2, -⟩ := h1
  exact ⟨_, h2⟩
theorem df_X2 : ∀ j, j < 16 → defaultValue (tyX2 j) = vp_V [.null, .null, .null, .int 0, .int 0, .int 0, .int 0, .int 0, .int 0, .int 0, .int 0, .int 0, .int 0, .int 0, .int 0, .int 0] j := by decide +kernel
theorem df_X3 : ∀ j, j < 21 → defaultValue (tyX3 j) = vp_V [.int 0, .null, .null, .null, .null, .int 0, .int 0, .int 0, .int 0, .int 0, .int 0, .int 0, .int 0, .int 0, .int 0, .int 0, .int 0, .int 0, .int 0, .int 0, .int 0] j := by decide +kernel
theorem v2_0 : ∀ k, k ≠ 6 → k ≠ 10 → (fX2_toBeginning (upd (fun _ => 0) 3 0) (fun _ => 0) (fun _ => 0) (fun _ => 0)) k = 0 := by
  intro k h6 h10
  simp [fX2_toBeginning, upd, h6, h10]
theorem v3_0 : ∀ k, k ≠ 8 → k ≠ 12 → (upd (upd (fun _ => 0) 8 (-1)) 12 4) k = (0 : Int32) := by
  intro k h6 h10
  simp [upd, h6, h10]
set_option maxHeartbeats 8000000 in
set_option maxRecDepth 100000 in
theorem whole_start {p : Program} {e : Env} {s : State} {m : MethodId} {below : List Frame} {meth : Method} {c : Code} (l : Launch) (hl9 : l.stackTraces = false) {b L : Nat} {xs : Nat → Int32} (hL : L ≤ 1536) (C0 : lw_At p s m meth c b L xs) : W p l e room_1 s m #[Value.ref b] below meth c s.heap [] 0 0 (lw_Z below #[Value.ref b] s) (entryFrame m ([Value.ref b] : List Value).toArray 7) := by
  obtain ⟨hx, hb, hr, hml, hown, hts, hX, hbl, hlocks, hgv⟩ := id C0
  have htsL : ∀ w ∈ wsL_law, w.before #[Value.ref b] s = true := fun w h => hts w (wsL_law_in w h)
  have hflat := flat_of_before _ hgv
  have hA : ∀ q : Nat, s.heap.size ≤ q → (fun q : Nat => s.heap.size ≤ q) q := fun _ h => h
  have hbA : ¬ (fun q : Nat => s.heap.size ≤ q) b := Nat.not_le.mpr hbl
  obtain ⟨c0, iS0, hKn0⟩ := u_known (C := RX2) (T := TX2) (N := 16) (n := 16) hts wl_X2 (hts (.instantiable RX2 16) (List.mem_of_getElem? (i := 38) rfl))
  obtain ⟨c1, iS1, hKn1⟩ := u_known (C := RX3) (T := TX3) (N := 21) (n := 21) hts wl_X3 (hts (.instantiable RX3 21) (List.mem_of_getElem? (i := 383) rfl))
  obtain ⟨dC, dI, hKc⟩ : ∃ (dC : Nat → ClassId) (dI : Nat → Nat → Nat), ∀ (k : Nat) (q : vw_C), vwCl[k]? = some q → u_Kn s q.1 q.2.1 q.2.2 (dC k) (dI k) := by
    refine ⟨fun k => if k = 0 then c0 else c1, fun k => if k = 0 then iS0 else iS1, ?_⟩
    intro k q hq
    match k, hq with
    | 0, hq => cases hq; exact hKn0
    | 1, hq => cases hq; exact hKn1
    | k + 2, hq => simp [vwCl] at hq
  obtain ⟨cI, kI, coI, fI, kkI, kdI⟩ := Cond.arrayClass_spec (hts (.arrayClass .int) (List.mem_of_getElem? (i := 98) rfl))
  obtain ⟨cB, kB, coB, fB, kkB, kdB⟩ := Cond.arrayClass_spec (hts (.arrayClass .byte) (List.mem_of_getElem? (i := 195) rfl))
  obtain ⟨cL, kL, coL, fL, kkL, kdL⟩ := Cond.arrayClass_spec (hts (.arrayClass .long) (List.mem_of_getElem? (i := 575) rfl))
  have hK : va_K (dC, dI) vwCl (tyL cI cB cL) s := by
    refine ⟨hKc, fun k q hq => ?_⟩
    match k, hq with
    | 0, hq => cases hq; exact ⟨fun n z => ⟨fun k h => (by cases h), kI, kkI, coI, kdI⟩, fI⟩
    | 1, hq => cases hq; exact ⟨fun n z => ⟨fun k h => (by cases h), kB, kkB, coB, kdB⟩, fB⟩
    | 2, hq => cases hq; exact ⟨fun n z => ⟨fun k h => (by cases h), kL, kkL, coL, kdL⟩, fL⟩
    | k + 3, hq => simp at hq
  have hKx : va_K (dC, dI) vwCl (tyIB cI cB) s := hK.sub [0, 1] rfl
  have hT : vxT s := by
    obtain ⟨t31, ht31⟩ := st_ref (hflat (.exactly (.string "PipeWorks" 31) "java/lang/String") (by decide +kernel))
    obtain ⟨t38, ht38⟩ := st_ref (hflat (.exactly (.string "PipeWorks" 38) "java/lang/String") (by decide +kernel))
    obtain ⟨t49, ht49⟩ := st_ref (hflat (.exactly (.string "PipeWorks" 49) "java/lang/String") (by decide +kernel))
    obtain ⟨t52, ht52⟩ := st_ref (hflat (.exactly (.string "PipeWorks" 52) "java/lang/String") (by decide +kernel))
    exact ⟨⟨t31, vk_R.of (hts (.stringRef RX2 31 "n is not 1 .. 200") (List.mem_of_getElem? (i := 169) rfl)) ht31⟩, ⟨t38, vk_R.of (hts (.stringRef RX2 38 "more clocks than 20000 in all") (List.mem_of_getElem? (i := 205) rfl)) ht38⟩, ⟨t49, vk_R.of (hts (.stringRef RX2 49 "no such register") (List.mem_of_getElem? (i := 367) rfl)) ht49⟩, ⟨t52, vk_R.of (hts (.stringRef RX2 52 "no such word of the data memory") (List.mem_of_getElem? (i := 381) rfl)) ht52⟩, va_Nw.of rfl (hts (.castable xIAE xIAE) (List.mem_of_getElem? (i := 130) rfl)), va_Nw.of rfl (hts (.castable xISE xISE) (List.mem_of_getElem? (i := 198) rfl)), va_Nw.of rfl (hts (.castable xNSE xNSE) (List.mem_of_getElem? (i := 360) rfl)), va_Nw.of rfl (hts (.declares (xD "java/lang/RuntimeException")) (List.mem_of_getElem? (i := 132) rfl)), va_Nw.of rfl (hts (.declares (xD "java/lang/Exception")) (List.mem_of_getElem? (i := 134) rfl)), va_Nw.of rfl (hts (.declares (xD "java/lang/Throwable")) (List.mem_of_getElem? (i := 136) rfl)), va_Nc.of (hflat (.not (.castable xISE xIAE)) (by decide +kernel))⟩
  have hZ : vxZ (fun q : Nat => s.heap.size ≤ q) s s.heap := ⟨vx_Zqof (hts (.laysStatic Bundle.tN "UNASSIGNED_STACK" Bundle.steD) (List.mem_of_getElem? (i := 155) rfl)) (hts (.initialized Bundle.tN) (List.mem_of_getElem? (i := 29) rfl)) (hflat (.isRef (.static Bundle.tN "UNASSIGNED_STACK" Bundle.steD)) (by decide +kernel)) (fun a h => Nat.not_le.mpr h), vx_Zqof (hts (.laysStatic Bundle.tN "SUPPRESSED_SENTINEL" Bundle.listD) (List.mem_of_getElem? (i := 157) rfl)) (hts (.initialized Bundle.tN) (List.mem_of_getElem? (i := 29) rfl)) (hflat (.isRef (.static Bundle.tN "SUPPRESSED_SENTINEL" Bundle.listD)) (by decide +kernel)) (fun a h => Nat.not_le.mpr h)⟩
  have hS : va_S (fun q : Nat => s.heap.size ≤ q) s.heap s.heap [] := va_S.rf
  have hP : va_P (dC, dI) vwCl [] s.heap := fun k q h => by simp at h
  have hD : va_D (fun q : Nat => s.heap.size ≤ q) [] := ⟨fun i j p q h => by simp at h, fun k q h => by simp at h⟩
  have hl := lv_entry ([.ref b]) (n := 7) (Nat.le_of_ble_eq_true rfl)
  rw [lg_entry_eq]
  generalize (lg_sl ([.ref b]) ++ List.replicate (7 - (lg_sl ([.ref b])).length) Slot.unset).toArray = ls at hl ⊢
  have hl : lv_has ls 7 [(0, .ref b)] := hl
  refine va_new (ci := 0) (fs := [.null, .null, .null, .int 0, .int 0, .int 0, .int 0, .int 0, .int 0, .int 0, .int 0, .int 0, .int 0, .int 0, .int 0, .int 0]) (C := RX2) (T := TX2) (N := 16) hx hb hts wl_X2 tyX2 tyX2_ok hown (hts (.classLink RL 8 RX2) (List.mem_of_getElem? (i := 37) rfl)) (hts (.instantiable RX2 16) (List.mem_of_getElem? (i := 38) rfl)) (hts (.initialized RX2) (List.mem_of_getElem? (i := 27) rfl)) hK hP hD hS hA rfl df_X2 (Nat.le_of_ble_eq_true rfl) (Nat.le_of_ble_eq_true rfl) dL_law_0 (fun qx H hP hD hS => ?_)
  have hP : va_P (dC, dI) vwCl ([(qx, .inr (0, [.null, .null, .null, .int 0, .int 0, .int 0, .int 0, .int 0, .int 0, .int 0, .int 0, .int 0, .int 0, .int 0, .int 0, .int 0]))]) H := hP
  have hD : va_D (fun q : Nat => s.heap.size ≤ q) ([(qx, .inr (0, [.null, .null, .null, .int 0, .int 0, .int 0, .int 0, .int 0, .int 0, .int 0, .int 0, .int 0, .int 0, .int 0, .int 0, .int 0]))]) := hD
  refine W.widen (k := 1) (n := 16) (Nat.le_of_ble_eq_true rfl) (Nat.le_of_ble_eq_true rfl) ?_
  refine lv_dup hx hb dL_law_3 rfl ?_
  have hPc := hP.sub (ws' := [(qx, .inr (0, [.null, .null, .null, .int 0, .int 0, .int 0, .int 0, .int 0, .int 0, .int 0, .int 0, .int 0, .int 0, .int 0, .int 0, .int 0]))]) [0] rfl
  have hDc := hD.sub (ws' := [(qx, .inr (0, [.null, .null, .null, .int 0, .int 0, .int 0, .int 0, .int 0, .int 0, .int 0, .int 0, .int 0, .int 0, .int 0, .int 0, .int 0]))]) [0] (by decide) rfl
  have hFc := va_free (wc := [(qx, .inr (0, [.null, .null, .null, .int 0, .int 0, .int 0, .int 0, .int 0, .int 0, .int 0, .int 0, .int 0, .int 0, .int 0, .int 0, .int 0]))]) hD hS hA [0] rfl
  refine va_callv (va_runI (As := []) (rest := [.ref qx]) ⟨hx, hb, hml, hown, htsL⟩ (kX2_init l dC dI cI cB qx H.size) (cwI 0 htsL ggL_law_X2_init rfl rfl rfl (hts (.initialized RX2) (List.mem_of_getElem? (i := 27) rfl)) (hts (.methodLink RL 25 yX2_init) (List.mem_of_getElem? (i := 39) rfl)) (hts (.instanceMethod yX2_init) (List.mem_of_getElem? (i := 40) rfl)) rfl (by decide +kernel) ⟨Nat.le_of_ble_eq_true rfl, Nat.le_of_ble_eq_true rfl⟩) ⟨wr_bl, fun U hU hW => ⟨rfl, by rw [hU], by rw [hU]; exact hPc, va_K.moved hW.alike hKx, hDc.weaken (fun _ _ _ _ => trivial)⟩⟩ rfl rfl hl.1 rfl (lv_room (Nat.le_of_ble_eq_true rfl)) dL_law_4 ⟨Nat.le_of_ble_eq_true rfl, Nat.le_of_ble_eq_true rfl⟩) hS (fun q _ h => hFc q h) hFc (fun u t H1 locs ht hvm hw hB hz1 hk1 hS => ?_)
  obtain ⟨a1, a2, a3, hP1, hD1⟩ := hB
  rw [ht] at hP1
  obtain ⟨hP, hD⟩ := va_join (wr := []) hP hD [0] [] rfl rfl (by decide) (by decide) hk1 hFc hP1 hD1
  generalize H1 = H at hP hS ⊢
  have hP : va_P (dC, dI) vwCl (pwW cI qx a1 a2 a3 (fX2_toBeginning (upd (fun _ => 0) 3 0) (fun _ => 0) (fun _ => 0) (fun _ => 0)) (fun _ => 0) (fun _ => 0) (fun _ => 0)) H := hP
  have hD : va_D (fun q : Nat => s.heap.size ≤ q) (pwW cI qx a1 a2 a3 (fX2_toBeginning (upd (fun _ => 0) 3 0) (fun _ => 0) (fun _ => 0) (fun _ => 0)) (fun _ => 0) (fun _ => 0) (fun _ => 0)) := hD
  refine W.widen (k := 4) (n := 368) (Nat.le_of_ble_eq_true rfl) (Nat.le_of_ble_eq_true rfl) ?_
  refine lv_astore_n (lv' := [(1, .ref qx), (0, .ref b)]) hx hb dL_law_7 rfl hl (by decide) rfl (fun ls hl => ?_)
  refine va_new (ci := 1) (fs := [.int 0, .null, .null, .null, .null, .int 0, .int 0, .int 0, .int 0, .int 0, .int 0, .int 0, .int 0, .int 0, .int 0, .int 0, .int 0, .int 0, .int 0, .int 0, .int 0]) (C := RX3) (T := TX3) (N := 21) hx hb hts wl_X3 tyX3 tyX3_ok hown (hts (.classLink RL 26 RX3) (List.mem_of_getElem? (i := 382) rfl)) (hts (.instantiable RX3 21) (List.mem_of_getElem? (i := 383) rfl)) (hts (.initialized RX3) (List.mem_of_getElem? (i := 28) rfl)) hK hP hD hS hA rfl df_X3 (Nat.le_of_ble_eq_true rfl) (Nat.le_of_ble_eq_true rfl) dL_law_8 (fun qm H hP hD hS => ?_)
  have hP : va_P (dC, dI) vwCl (pwW cI qx a1 a2 a3 (fX2_toBeginning (upd (fun _ => 0) 3 0) (fun _ => 0) (fun _ => 0) (fun _ => 0)) (fun _ => 0) (fun _ => 0) (fun _ => 0) ++ [(qm, .inr (1, [.int 0, .null, .null, .null, .null, .int 0, .int 0, .int 0, .int 0, .int 0, .int 0, .int 0, .int 0, .int 0, .int 0, .int 0, .int 0, .int 0, .int 0, .int 0, .int 0]))]) H := hP
  have hD : va_D (fun q : Nat => s.heap.size ≤ q) (pwW cI qx a1 a2 a3 (fX2_toBeginning (upd (fun _ => 0) 3 0) (fun _ => 0) (fun _ => 0) (fun _ => 0)) (fun _ => 0) (fun _ => 0) (fun _ => 0) ++ [(qm, .inr (1, [.int 0, .null, .null, .null, .null, .int 0, .int 0, .int 0, .int 0, .int 0, .int 0, .int 0, .int 0, .int 0, .int 0, .int 0, .int 0, .int 0, .int 0, .int 0, .int 0]))]) := hD
  refine W.widen (k := 5) (n := 389) (Nat.le_of_ble_eq_true rfl) (Nat.le_of_ble_eq_true rfl) ?_
  refine lv_dup hx hb dL_law_11 rfl ?_
  have hPc := hP.sub (ws' := [(qm, .inr (1, [.int 0, .null, .null, .null, .null, .int 0, .int 0, .int 0, .int 0, .int 0, .int 0, .int 0, .int 0, .int 0, .int 0, .int 0, .int 0, .int 0, .int 0, .int 0, .int 0]))]) [4] rfl
  have hDc := hD.sub (ws' := [(qm, .inr (1, [.int 0, .null, .null, .null, .null, .int 0, .int 0, .int 0, .int 0, .int 0, .int 0, .int 0, .int 0, .int 0, .int 0, .int 0, .int 0, .int 0, .int 0, .int 0, .int 0]))]) [4] (by decide) rfl
  have hFc := va_free (wc := [(qm, .inr (1, [.int 0, .null, .null, .null, .null, .int 0, .int 0, .int 0, .int 0, .int 0, .int 0, .int 0, .int 0, .int 0, .int 0, .int 0, .int 0, .int 0, .int 0, .int 0, .int 0]))]) hD hS hA [4] rfl
  refine va_callv (va_runI (As := []) (rest := [.ref qm]) ⟨hx, hb, hml, hown, htsL⟩ (kX3_init l dC dI cI cB qm H.size) (cwI 0 htsL ggL_law_X3_init rfl rfl rfl (hts (.initialized RX3) (List.mem_of_getElem? (i := 28) rfl)) (hts (.methodLink RL 28 yX3_init) (List.mem_of_getElem? (i := 384) rfl)) (hts (.instanceMethod yX3_init) (List.mem_of_getElem? (i := 385) rfl)) rfl (by decide +kernel) ⟨Nat.le_of_ble_eq_true rfl, Nat.le_of_ble_eq_true rfl⟩) ⟨wr_bl, fun U hU hW => ⟨rfl, by rw [hU], by rw [hU]; exact hPc, va_K.moved hW.alike hKx, hDc.weaken (fun _ _ _ _ => trivial)⟩⟩ rfl rfl hl.1 rfl (lv_room (Nat.le_of_ble_eq_true rfl)) dL_law_12 ⟨Nat.le_of_ble_eq_true rfl, Nat.le_of_ble_eq_true rfl⟩) hS (fun q _ h => hFc q h) hFc (fun u t H1 locs ht hvm hw hB hz1 hk1 hS => ?_)
  obtain ⟨b1, b2, b3, b4, hP1, hD1⟩ := hB
  rw [ht] at hP1
  obtain ⟨hP, hD⟩ := va_join (wr := pwW cI qx a1 a2 a3 (fX2_toBeginning (upd (fun _ => 0) 3 0) (fun _ => 0) (fun _ => 0) (fun _ => 0)) (fun _ => 0) (fun _ => 0) (fun _ => 0)) hP hD [4] [0, 1, 2, 3] rfl rfl (by decide) (by decide) hk1 hFc hP1 hD1
  generalize H1 = H at hP hS ⊢
  have hP : va_P (dC, dI) vwCl (pwW cI qx a1 a2 a3 (fX2_toBeginning (upd (fun _ => 0) 3 0) (fun _ => 0) (fun _ => 0) (fun _ => 0)) (fun _ => 0) (fun _ => 0) (fun _ => 0) ++ mdW cI cB qm b1 b2 b3 b4 (upd (upd (fun _ => 0) 8 (-1)) 12 4) (fun _ => 0) (fun _ => 0) (fun _ => 0) (fun _ => 0)) H := hP
  have hD : va_D (fun q : Nat => s.heap.size ≤ q) (pwW cI qx a1 a2 a3 (fX2_toBeginning (upd (fun _ => 0) 3 0) (fun _ => 0) (fun _ => 0) (fun _ => 0)) (fun _ => 0) (fun _ => 0) (fun _ => 0) ++ mdW cI cB qm b1 b2 b3 b4 (upd (upd (fun _ => 0) 8 (-1)) 12 4) (fun _ => 0) (fun _ => 0) (fun _ => 0) (fun _ => 0)) := hD
  refine W.widen (k := 9) (n := 965) (Nat.le_of_ble_eq_true rfl) (Nat.le_of_ble_eq_true rfl) ?_
  refine lv_astore_n (lv' := [(2, .ref qm), (1, .ref qx), (0, .ref b)]) hx hb dL_law_15 rfl hl (by decide) rfl (fun ls hl => ?_)
  refine lv_iconst (v := 1) hx hb dL_law_16 (by decide) ?_
  refine va_newa (atype := .long) (n := 1) (ty := .long) (N' := 1) (a0 := (1, .inr (.inl (fun _ => 0)))) hx hb (hts (.arrayClass .long) (List.mem_of_getElem? (i := 575) rfl)) rfl hK hP hD hS hA (fun _ => rfl) (by decide) (by decide) (by decide) (Nat.le_of_ble_eq_true rfl) (Nat.le_of_ble_eq_true rfl) dL_law_17 (fun qo cA H hK1 hP hD hS => ?_)
  have ecA : cA = cL := Option.some.inj ((hK1.2 3 _ rfl).2.symm.trans (hK1.2 2 _ rfl).2)
  rw [ecA] at hP hD
  have hP : va_P (dC, dI) vwCl (lawW cI cB cL qx a1 a2 a3 qm b1 b2 b3 b4 qo (fX2_toBeginning (upd (fun _ => 0) 3 0) (fun _ => 0) (fun _ => 0) (fun _ => 0)) (fun _ => 0) (fun _ => 0) (fun _ => 0) (upd (upd (fun _ => 0) 8 (-1)) 12 4) (fun _ => 0) (fun _ => 0) (fun _ => 0) (fun _ => 0) (fun _ => 0)) H := hP
  have hD : va_D (fun q : Nat => s.heap.size ≤ q) (lawW cI cB cL qx a1 a2 a3 qm b1 b2 b3 b4 qo (fX2_toBeginning (upd (fun _ => 0) 3 0) (fun _ => 0) (fun _ => 0) (fun _ => 0)) (fun _ => 0) (fun _ => 0) (fun _ => 0) (upd (upd (fun _ => 0) 8 (-1)) 12 4) (fun _ => 0) (fun _ => 0) (fun _ => 0) (fun _ => 0) (fun _ => 0)) := hD
  refine lv_astore_n (lv' := [(3, .ref qo), (2, .ref qm), (1, .ref qx), (0, .ref b)]) hx hb dL_law_19 rfl hl (by decide) rfl (fun ls hl => ?_)
  refine lv_iconst (v := 0) hx hb dL_law_20 (by decide) ?_
  refine lv_istore (lv' := [(4, .int 0), (3, .ref qo), (2, .ref qm), (1, .ref qx), (0, .ref b)]) hx hb dL_law_21 hl (by decide) rfl (fun ls hl => ?_)
  refine W.widen (k := 10 + 0) (n := 966 + 6 * 0) (Nat.le_of_ble_eq_true rfl) (Nat.le_of_ble_eq_true rfl) ?_
  have hRel : Rel (fX2_toBeginning (upd (fun _ => 0) 3 0) (fun _ => 0) (fun _ => 0) (fun _ => 0)) (fun _ => 0) (fun _ => 0) (fun _ => 0) (upd (upd (fun _ => 0) 8 (-1)) 12 4) (fun _ => 0) (fun _ => 0) (fun _ => 0) (fun _ => 0) := R_new v2_0 rfl rfl v3_0 rfl rfl
  exact law_loop hl9 hL C0 hK hT hZ qx a1 a2 a3 qm b1 b2 b3 b4 qo 513 0 (by omega) (by omega) (fX2_toBeginning (upd (fun _ => 0) 3 0) (fun _ => 0) (fun _ => 0) (fun _ => 0)) (fun _ => 0) (fun _ => 0) (fun _ => 0) (upd (upd (fun _ => 0) 8 (-1)) 12 4) (fun _ => 0) (fun _ => 0) (fun _ => 0) (fun _ => 0) (fun _ => 0) hRel H _ ls hP hD hS (lv_sub hl [4, 3, 2, 1, 0] rfl)
