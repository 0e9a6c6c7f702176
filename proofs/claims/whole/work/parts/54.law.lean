abbrev lawW (cI cB cL : ClassId) (h a1 a2 a3 g b1 b2 b3 b4 o : Nat) (v fw fc fr u gw gd gs gn : Nat → Int32) (fo : Nat → Int64) : va_W := pwW cI h a1 a2 a3 v fw fc fr ++ mdW cI cB g b1 b2 b3 b4 u gw gd gs gn ++ [outC cL o fo]
theorem R_wr {v fw fc fr u gw gd gs gn : Nat → Int32} (h : Rel v fw fc fr u gw gd gs gn) {x : Int32} (c1 : ¬ x < 1) (c2 : x ≤ 200) (c3 : v 3 + x ≤ 20000) : ∀ j, j ≤ x.toNatClampNeg → vp_in ((iterX2 fw j ((v, fc, fr) : T3)).1 14) 32 := by
  obtain ⟨n, m, dd, h1, h2, h3, h4, h5⟩ := h
  obtain ⟨N, hN, rfl⟩ := nI_of2 (n := 200) (by decide) (n1_pos c1) c2
  have a4 : v 3 = u 6 := h1.2.2.2.1
  have a16 : u 6 = nI m := h1.2.2.2.2.2.2.2.2.2.2.2.2.2.2.2.1
  have hnm := h1.2.2.2.2.2.2.2.2.2.2.2.2.2.2.2.2
  have hmN : m + N ≤ 20000 := by
    rw [a4, a16, nI_add] at c3
    exact (nI_leI (by omega) (by decide)).mp (show nI (m + N) ≤ nI 20000 from c3)
  rw [nI_clamp (by omega)]
  intro j hj
  by_cases hn : n = 0
  · have hNow : NowOK u gs gs := fun k hk => by
      rw [if_neg (fun q => ?_)]
      have := h4 hn
      rw [this] at q
      exact absurd q.1.1 (by decide)
    exact it_14 fw gw (t := (v, fc, fr)) (s := (u, gd, gs, gs)) h1 h2 h3 hNow (by omega)
  · exact it_14 fw gw (t := (v, fc, fr)) (s := (u, gd, gs, gn)) h1 h2 h3 (h5 hn) (by omega)
theorem lc_eq (x y : Int64) (h : x = y) : lg_cmp x y = 0 := by
  subst h
  unfold lg_cmp
  rw [if_neg (by rw [gt_iff_lt, Int64.lt_iff_toInt_lt]; omega), if_pos rfl]
set_option maxHeartbeats 8000000 in
set_option maxRecDepth 100000 in
/-- THE LAW'S LOOP: with j calls done the two objects stand side by side -/
theorem law_loop {p : Program} {l : Launch} (hl9 : l.stackTraces = false) {e : Env} {s : State} {m : MethodId} {below : List Frame} {meth : Method} {c9 : Code} {dC : Nat → ClassId} {dI : Nat → Nat → Nat} {cI cB cL : ClassId} {b L : Nat} {xs : Nat → Int32} (hL : L ≤ 1536) (C0 : lw_At p s m meth c9 b L xs) (hK : va_K (dC, dI) vwCl (tyL cI cB cL) s) (hT : vxT s) (hZ : vxZ (fun q : Nat => s.heap.size ≤ q) s s.heap) (h a1 a2 a3 g b1 b2 b3 b4 o : Nat) :
    ∀ (n j : Nat), j ≤ 512 → 513 ≤ j + n → ∀ (v fw fc fr u gw gd gs gn : Nat → Int32) (fo : Nat → Int64), Rel v fw fc fr u gw gd gs gn → ∀ (H : Heap) (locs : List Loc) (ls : Array Slot), va_P (dC, dI) vwCl (lawW cI cB cL h a1 a2 a3 g b1 b2 b3 b4 o v fw fc fr u gw gd gs gn fo) H → va_D (fun q : Nat => s.heap.size ≤ q) (lawW cI cB cL h a1 a2 a3 g b1 b2 b3 b4 o v fw fc fr u gw gd gs gn fo) → va_S (fun q : Nat => s.heap.size ≤ q) s.heap H locs → lv_has ls 7 [(0, .ref b), (1, .ref h), (2, .ref g), (3, .ref o), (4, .int (nI (3 * j)))] →
    W p l e room_1 s m #[Value.ref b] below meth c9 H locs (10 + j) (966 + 6 * j) (lw_Z below #[Value.ref b] s) (F0 m 23 ls []) := by
  obtain ⟨hx, hb, hr, hml, hown, hts, hX, hbl, hlocks, hgv⟩ := C0
  have htsL : ∀ w ∈ wsL_law, w.before #[Value.ref b] s = true := fun w h => hts w (wsL_law_in w h)
  have hA : ∀ q : Nat, s.heap.size ≤ q → (fun q : Nat => s.heap.size ≤ q) q := fun _ h => h
  have hbA : ¬ (fun q : Nat => s.heap.size ≤ q) b := Nat.not_le.mpr hbl
  have hKx : va_K (dC, dI) vwCl (tyIB cI cB) s := hK.sub [0, 1] rfl
  intro n
  induction n with
  | zero =>
    intro j h1 h2
    exact absurd h2 (by omega)
  | succ n ih =>
    intro j hj hjn v fw fc fr u gw gd gs gn fo hRel H locs ls hP hD hS hl
    refine lv_iload hx hb dL_law_23 (lv_at hl 4 rfl) ?_
    refine lv_aload_n hx hb dL_law_25 rfl (lv_at hl 0 rfl) ?_
    refine va_slen hx hb hX hbl hbA hS dL_law_26 ?_
    refine lv_iconst (v := 3) hx hb dL_law_27 (by decide) ?_
    refine lv_isub hx hb dL_law_28 ?_
    refine lv_icmp_gt (tgt := 405) hx hb dL_law_29 (by decide) (fun c_29 => ?_) (fun c_29 => ?_)
    · refine lv_iconst (v := 1) hx hb dL_law_405 (by decide) ?_
      refine va_forget (fun q hq => hS.2.2 q hq) ?_
      refine W.widen (k := 1038) (n := 9182) (by omega) (by omega) ?_
      exact lw_ret hx hb hr hlocks dL_law_406
    have hlt : 3 * j + 3 ≤ L := by
      have e : (nI L - nI 3).toInt = (L : Int) - (3 : Nat) := pk_sub_toInt (by omega) (by decide)
      have e2 : (nI (3 * j)).toInt = ((3 * j : Nat) : Int) := nI_toInt (by omega)
      have c : ¬ (nI L - nI 3) < nI (3 * j) := c_29
      rw [Int32.lt_iff_toInt_lt, e, e2] at c
      omega
    have hj1 : j + 1 ≤ 512 := by omega
    have hi0 : vp_in (nI (3 * j)) L := vp_in_nI (by omega) (by omega)
    have hi1 : vp_in (nI (3 * j) + 1) L := by rw [nI_1]; exact vp_in_nI (by omega) (by omega)
    have hi2 : vp_in (nI (3 * j) + 2) L := by rw [show (2 : Int32) = nI 2 from rfl, nI_add]; exact vp_in_nI (by omega) (by omega)
    refine lv_aload_n hx hb dL_law_32 rfl (lv_at hl 0 rfl) ?_
    refine lv_iload hx hb dL_law_33 (lv_at hl 4 rfl) ?_
    refine va_sld hx hb hX hbl hbA hS hi0 dL_law_35 ?_
    refine lv_bipush (v := 7) hx hb dL_law_36 (by decide) ?_
    refine lv_iand hx hb dL_law_38 ?_
    obtain ⟨t, ht8, et⟩ := pk_andE (xs (nI (3 * j)).toNatClampNeg) (m := 7) 3 (by decide)
    rw [et]
    have h8 : t = 0 ∨ t = 1 ∨ t = 2 ∨ t = 3 ∨ t = 4 ∨ t = 5 ∨ t = 6 ∨ t = 7 := by omega
    clear et
    rcases h8 with rfl | rfl | rfl | rfl | rfl | rfl | rfl | rfl
    · refine lv_tableIn (off := 45) (tgt := 84) hx hb dL_law_39 (by decide) (by decide) (by decide) (by decide) ?_
      refine lv_aload_n hx hb dL_law_84 rfl (lv_at hl 1 rfl) ?_
      refine lv_aload_n hx hb dL_law_85 rfl (lv_at hl 0 rfl) ?_
      refine lv_iload hx hb dL_law_86 (lv_at hl 4 rfl) ?_
      refine lv_iconst (v := 1) hx hb dL_law_88 (by decide) ?_
      refine lv_iadd hx hb dL_law_89 ?_
      refine va_sld hx hb hX hbl hbA hS hi1 dL_law_90 ?_
      refine lv_aload_n hx hb dL_law_91 rfl (lv_at hl 0 rfl) ?_
      refine lv_iload hx hb dL_law_92 (lv_at hl 4 rfl) ?_
      refine lv_iconst (v := 2) hx hb dL_law_94 (by decide) ?_
      refine lv_iadd hx hb dL_law_95 ?_
      refine va_sld hx hb hX hbl hbA hS hi2 dL_law_96 ?_
      have hPc := hP.sub (ws' := pwW cI h a1 a2 a3 v fw fc fr) [0, 1, 2, 3] rfl
      have hDc := hD.sub (ws' := pwW cI h a1 a2 a3 v fw fc fr) [0, 1, 2, 3] (by decide) rfl
      refine wr_calli (va_runV (As := [.int ((xs (nI (3 * j) + 1).toNatClampNeg)), .int ((xs (nI (3 * j) + 2).toNatClampNeg))]) (rest := []) ⟨hx, hb, hml, hown, htsL⟩ (kX2_word l dC dI cI cB h a1 a2 a3 _ v fw fc fr ((xs (nI (3 * j) + 1).toNatClampNeg)) ((xs (nI (3 * j) + 2).toNatClampNeg))) (cwV 2 htsL gL_law_X2_word rfl rfl rfl (by decide +kernel) ⟨Nat.le_of_ble_eq_true rfl, Nat.le_of_ble_eq_true rfl⟩) (wr_preV hKx hPc hDc (ci := 0) (q0 := 0) rfl rfl) rfl rfl hl.1 rfl (lv_room (Nat.le_of_ble_eq_true rfl)) dL_law_97 ⟨by show 10 + j + 0 ≤ 1038; omega, by show 966 + 6 * j + 0 ≤ 9182; omega⟩) hS hA hP hD [0, 1, 2, 3] [4, 5, 6, 7, 8, 9] rfl (wr := mdW cI cB g b1 b2 b3 b4 u gw gd gs gn ++ [outC cL o fo]) rfl (by decide) (by decide) (fun H locs hP hD hS => ?_)
      have hP := hP.sub (ws' := lawW cI cB cL h a1 a2 a3 g b1 b2 b3 b4 o v (fX2_word v fw fc fr ((xs (nI (3 * j) + 1).toNatClampNeg)) ((xs (nI (3 * j) + 2).toNatClampNeg))).2 fc fr u gw gd gs gn fo) [6, 7, 8, 9, 0, 1, 2, 3, 4, 5] rfl
      have hD := hD.sub (ws' := lawW cI cB cL h a1 a2 a3 g b1 b2 b3 b4 o v (fX2_word v fw fc fr ((xs (nI (3 * j) + 1).toNatClampNeg)) ((xs (nI (3 * j) + 2).toNatClampNeg))).2 fc fr u gw gd gs gn fo) [6, 7, 8, 9, 0, 1, 2, 3, 4, 5] (by decide) rfl
      refine lv_aload_n hx hb dL_law_100 rfl (lv_at hl 2 rfl) ?_
      refine lv_aload_n hx hb dL_law_101 rfl (lv_at hl 0 rfl) ?_
      refine lv_iload hx hb dL_law_102 (lv_at hl 4 rfl) ?_
      refine lv_iconst (v := 1) hx hb dL_law_104 (by decide) ?_
      refine lv_iadd hx hb dL_law_105 ?_
      refine va_sld hx hb hX hbl hbA hS hi1 dL_law_106 ?_
      refine lv_aload_n hx hb dL_law_107 rfl (lv_at hl 0 rfl) ?_
      refine lv_iload hx hb dL_law_108 (lv_at hl 4 rfl) ?_
      refine lv_iconst (v := 2) hx hb dL_law_110 (by decide) ?_
      refine lv_iadd hx hb dL_law_111 ?_
      refine va_sld hx hb hX hbl hbA hS hi2 dL_law_112 ?_
      have hPc := hP.sub (ws' := mdW cI cB g b1 b2 b3 b4 u gw gd gs gn) [4, 5, 6, 7, 8] rfl
      have hDc := hD.sub (ws' := mdW cI cB g b1 b2 b3 b4 u gw gd gs gn) [4, 5, 6, 7, 8] (by decide) rfl
      refine wr_calli (va_runV (As := [.int ((xs (nI (3 * j) + 1).toNatClampNeg)), .int ((xs (nI (3 * j) + 2).toNatClampNeg))]) (rest := [.int (fX2_word v fw fc fr ((xs (nI (3 * j) + 1).toNatClampNeg)) ((xs (nI (3 * j) + 2).toNatClampNeg))).1]) ⟨hx, hb, hml, hown, htsL⟩ (kX3_word l dC dI cI cB g b1 b2 b3 b4 _ u gw gd gs gn ((xs (nI (3 * j) + 1).toNatClampNeg)) ((xs (nI (3 * j) + 2).toNatClampNeg))) (cwV 2 htsL gL_law_X3_word rfl rfl rfl (by decide +kernel) ⟨Nat.le_of_ble_eq_true rfl, Nat.le_of_ble_eq_true rfl⟩) (wr_preV hKx hPc hDc (ci := 1) (q0 := 0) rfl rfl) rfl rfl hl.1 rfl (lv_room (Nat.le_of_ble_eq_true rfl)) dL_law_113 ⟨by show 10 + j + 0 ≤ 1038; omega, by show 966 + 6 * j + 0 ≤ 9182; omega⟩) hS hA hP hD [4, 5, 6, 7, 8] [0, 1, 2, 3, 9] rfl (wr := pwW cI h a1 a2 a3 v (fX2_word v fw fc fr ((xs (nI (3 * j) + 1).toNatClampNeg)) ((xs (nI (3 * j) + 2).toNatClampNeg))).2 fc fr ++ [outC cL o fo]) rfl (by decide) (by decide) (fun H locs hP hD hS => ?_)
      have hP := hP.sub (ws' := lawW cI cB cL h a1 a2 a3 g b1 b2 b3 b4 o v (fX2_word v fw fc fr ((xs (nI (3 * j) + 1).toNatClampNeg)) ((xs (nI (3 * j) + 2).toNatClampNeg))).2 fc fr (fX3_word u gw gd gs gn ((xs (nI (3 * j) + 1).toNatClampNeg)) ((xs (nI (3 * j) + 2).toNatClampNeg))).2.1 (fX3_word u gw gd gs gn ((xs (nI (3 * j) + 1).toNatClampNeg)) ((xs (nI (3 * j) + 2).toNatClampNeg))).2.2 gd gs gn fo) [0, 1, 2, 3, 5, 6, 7, 8, 9, 4] rfl
      have hD := hD.sub (ws' := lawW cI cB cL h a1 a2 a3 g b1 b2 b3 b4 o v (fX2_word v fw fc fr ((xs (nI (3 * j) + 1).toNatClampNeg)) ((xs (nI (3 * j) + 2).toNatClampNeg))).2 fc fr (fX3_word u gw gd gs gn ((xs (nI (3 * j) + 1).toNatClampNeg)) ((xs (nI (3 * j) + 2).toNatClampNeg))).2.1 (fX3_word u gw gd gs gn ((xs (nI (3 * j) + 1).toNatClampNeg)) ((xs (nI (3 * j) + 2).toNatClampNeg))).2.2 gd gs gn fo) [0, 1, 2, 3, 5, 6, 7, 8, 9, 4] (by decide) rfl
      obtain ⟨r1, hRel⟩ := R_word hRel (xs (nI (3 * j) + 1).toNatClampNeg) (xs (nI (3 * j) + 2).toNatClampNeg)
      refine lv_icmp_eq (tgt := 399) hx hb dL_law_116 (by decide) (fun _ => ?_) (fun q => absurd r1 q)
      refine lv_iinc (v := nI (3 * (j + 1))) (lv' := [(4, .int (nI (3 * (j + 1)))), (0, .ref b), (1, .ref h), (2, .ref g), (3, .ref o)]) hx hb dL_law_399 hl (k := 4) rfl (show nI (3 * j) + nI 3 = nI (3 * (j + 1)) from nI_add _ _) (by decide) rfl (fun ls hl => ?_)
      refine lv_goto (tgt := 23) hx hb dL_law_402 (by decide) ?_
      refine W.widen (k := 10 + (j + 1)) (n := 966 + 6 * (j + 1)) (by omega) (by omega) ?_
      exact ih (j + 1) (by omega) (by omega) v (fX2_word v fw fc fr ((xs (nI (3 * j) + 1).toNatClampNeg)) ((xs (nI (3 * j) + 2).toNatClampNeg))).2 fc fr (fX3_word u gw gd gs gn ((xs (nI (3 * j) + 1).toNatClampNeg)) ((xs (nI (3 * j) + 2).toNatClampNeg))).2.1 (fX3_word u gw gd gs gn ((xs (nI (3 * j) + 1).toNatClampNeg)) ((xs (nI (3 * j) + 2).toNatClampNeg))).2.2 gd gs gn fo hRel H locs ls hP hD hS (lv_sub hl [1, 2, 3, 4, 0] rfl)
    · refine lv_tableIn (off := 82) (tgt := 121) hx hb dL_law_39 (by decide) (by decide) (by decide) (by decide) ?_
      refine lv_aload_n hx hb dL_law_121 rfl (lv_at hl 1 rfl) ?_
      refine lv_aload_n hx hb dL_law_122 rfl (lv_at hl 0 rfl) ?_
      refine lv_iload hx hb dL_law_123 (lv_at hl 4 rfl) ?_
      refine lv_iconst (v := 1) hx hb dL_law_125 (by decide) ?_
      refine lv_iadd hx hb dL_law_126 ?_
      refine va_sld hx hb hX hbl hbA hS hi1 dL_law_127 ?_
      refine lv_aload_n hx hb dL_law_128 rfl (lv_at hl 0 rfl) ?_
      refine lv_iload hx hb dL_law_129 (lv_at hl 4 rfl) ?_
      refine lv_iconst (v := 2) hx hb dL_law_131 (by decide) ?_
      refine lv_iadd hx hb dL_law_132 ?_
      refine va_sld hx hb hX hbl hbA hS hi2 dL_law_133 ?_
      have hPc := hP.sub (ws' := pwW cI h a1 a2 a3 v fw fc fr) [0, 1, 2, 3] rfl
      have hDc := hD.sub (ws' := pwW cI h a1 a2 a3 v fw fc fr) [0, 1, 2, 3] (by decide) rfl
      refine wr_calli (va_runV (As := [.int ((xs (nI (3 * j) + 1).toNatClampNeg)), .int ((xs (nI (3 * j) + 2).toNatClampNeg))]) (rest := []) ⟨hx, hb, hml, hown, htsL⟩ (kX2_data l dC dI cI cB h a1 a2 a3 _ v fw fc fr ((xs (nI (3 * j) + 1).toNatClampNeg)) ((xs (nI (3 * j) + 2).toNatClampNeg))) (cwV 2 htsL gL_law_X2_data rfl rfl rfl (by decide +kernel) ⟨Nat.le_of_ble_eq_true rfl, Nat.le_of_ble_eq_true rfl⟩) (wr_preV hKx hPc hDc (ci := 0) (q0 := 0) rfl rfl) rfl rfl hl.1 rfl (lv_room (Nat.le_of_ble_eq_true rfl)) dL_law_134 ⟨by show 10 + j + 0 ≤ 1038; omega, by show 966 + 6 * j + 0 ≤ 9182; omega⟩) hS hA hP hD [0, 1, 2, 3] [4, 5, 6, 7, 8, 9] rfl (wr := mdW cI cB g b1 b2 b3 b4 u gw gd gs gn ++ [outC cL o fo]) rfl (by decide) (by decide) (fun H locs hP hD hS => ?_)
      have hP := hP.sub (ws' := lawW cI cB cL h a1 a2 a3 g b1 b2 b3 b4 o v fw (fX2_data v fw fc fr ((xs (nI (3 * j) + 1).toNatClampNeg)) ((xs (nI (3 * j) + 2).toNatClampNeg))).2 fr u gw gd gs gn fo) [6, 7, 8, 9, 0, 1, 2, 3, 4, 5] rfl
      have hD := hD.sub (ws' := lawW cI cB cL h a1 a2 a3 g b1 b2 b3 b4 o v fw (fX2_data v fw fc fr ((xs (nI (3 * j) + 1).toNatClampNeg)) ((xs (nI (3 * j) + 2).toNatClampNeg))).2 fr u gw gd gs gn fo) [6, 7, 8, 9, 0, 1, 2, 3, 4, 5] (by decide) rfl
      refine lv_aload_n hx hb dL_law_137 rfl (lv_at hl 2 rfl) ?_
      refine lv_aload_n hx hb dL_law_138 rfl (lv_at hl 0 rfl) ?_
      refine lv_iload hx hb dL_law_139 (lv_at hl 4 rfl) ?_
      refine lv_iconst (v := 1) hx hb dL_law_141 (by decide) ?_
      refine lv_iadd hx hb dL_law_142 ?_
      refine va_sld hx hb hX hbl hbA hS hi1 dL_law_143 ?_
      refine lv_aload_n hx hb dL_law_144 rfl (lv_at hl 0 rfl) ?_
      refine lv_iload hx hb dL_law_145 (lv_at hl 4 rfl) ?_
      refine lv_iconst (v := 2) hx hb dL_law_147 (by decide) ?_
      refine lv_iadd hx hb dL_law_148 ?_
      refine va_sld hx hb hX hbl hbA hS hi2 dL_law_149 ?_
      have hPc := hP.sub (ws' := mdW cI cB g b1 b2 b3 b4 u gw gd gs gn) [4, 5, 6, 7, 8] rfl
      have hDc := hD.sub (ws' := mdW cI cB g b1 b2 b3 b4 u gw gd gs gn) [4, 5, 6, 7, 8] (by decide) rfl
      refine wr_calli (va_runV (As := [.int ((xs (nI (3 * j) + 1).toNatClampNeg)), .int ((xs (nI (3 * j) + 2).toNatClampNeg))]) (rest := [.int (fX2_data v fw fc fr ((xs (nI (3 * j) + 1).toNatClampNeg)) ((xs (nI (3 * j) + 2).toNatClampNeg))).1]) ⟨hx, hb, hml, hown, htsL⟩ (kX3_data l dC dI cI cB g b1 b2 b3 b4 _ u gw gd gs gn ((xs (nI (3 * j) + 1).toNatClampNeg)) ((xs (nI (3 * j) + 2).toNatClampNeg))) (cwV 2 htsL gL_law_X3_data rfl rfl rfl (by decide +kernel) ⟨Nat.le_of_ble_eq_true rfl, Nat.le_of_ble_eq_true rfl⟩) (wr_preV hKx hPc hDc (ci := 1) (q0 := 0) rfl rfl) rfl rfl hl.1 rfl (lv_room (Nat.le_of_ble_eq_true rfl)) dL_law_150 ⟨by show 10 + j + 0 ≤ 1038; omega, by show 966 + 6 * j + 0 ≤ 9182; omega⟩) hS hA hP hD [4, 5, 6, 7, 8] [0, 1, 2, 3, 9] rfl (wr := pwW cI h a1 a2 a3 v fw (fX2_data v fw fc fr ((xs (nI (3 * j) + 1).toNatClampNeg)) ((xs (nI (3 * j) + 2).toNatClampNeg))).2 fr ++ [outC cL o fo]) rfl (by decide) (by decide) (fun H locs hP hD hS => ?_)
      have hP := hP.sub (ws' := lawW cI cB cL h a1 a2 a3 g b1 b2 b3 b4 o v fw (fX2_data v fw fc fr ((xs (nI (3 * j) + 1).toNatClampNeg)) ((xs (nI (3 * j) + 2).toNatClampNeg))).2 fr (fX3_data u gw gd gs gn ((xs (nI (3 * j) + 1).toNatClampNeg)) ((xs (nI (3 * j) + 2).toNatClampNeg))).2.1 gw (fX3_data u gw gd gs gn ((xs (nI (3 * j) + 1).toNatClampNeg)) ((xs (nI (3 * j) + 2).toNatClampNeg))).2.2 gs gn fo) [0, 1, 2, 3, 5, 6, 7, 8, 9, 4] rfl
      have hD := hD.sub (ws' := lawW cI cB cL h a1 a2 a3 g b1 b2 b3 b4 o v fw (fX2_data v fw fc fr ((xs (nI (3 * j) + 1).toNatClampNeg)) ((xs (nI (3 * j) + 2).toNatClampNeg))).2 fr (fX3_data u gw gd gs gn ((xs (nI (3 * j) + 1).toNatClampNeg)) ((xs (nI (3 * j) + 2).toNatClampNeg))).2.1 gw (fX3_data u gw gd gs gn ((xs (nI (3 * j) + 1).toNatClampNeg)) ((xs (nI (3 * j) + 2).toNatClampNeg))).2.2 gs gn fo) [0, 1, 2, 3, 5, 6, 7, 8, 9, 4] (by decide) rfl
      obtain ⟨r1, hRel⟩ := R_data hRel (xs (nI (3 * j) + 1).toNatClampNeg) (xs (nI (3 * j) + 2).toNatClampNeg)
      refine lv_icmp_eq (tgt := 399) hx hb dL_law_153 (by decide) (fun _ => ?_) (fun q => absurd r1 q)
      refine lv_iinc (v := nI (3 * (j + 1))) (lv' := [(4, .int (nI (3 * (j + 1)))), (0, .ref b), (1, .ref h), (2, .ref g), (3, .ref o)]) hx hb dL_law_399 hl (k := 4) rfl (show nI (3 * j) + nI 3 = nI (3 * (j + 1)) from nI_add _ _) (by decide) rfl (fun ls hl => ?_)
      refine lv_goto (tgt := 23) hx hb dL_law_402 (by decide) ?_
      refine W.widen (k := 10 + (j + 1)) (n := 966 + 6 * (j + 1)) (by omega) (by omega) ?_
      exact ih (j + 1) (by omega) (by omega) v fw (fX2_data v fw fc fr ((xs (nI (3 * j) + 1).toNatClampNeg)) ((xs (nI (3 * j) + 2).toNatClampNeg))).2 fr (fX3_data u gw gd gs gn ((xs (nI (3 * j) + 1).toNatClampNeg)) ((xs (nI (3 * j) + 2).toNatClampNeg))).2.1 gw (fX3_data u gw gd gs gn ((xs (nI (3 * j) + 1).toNatClampNeg)) ((xs (nI (3 * j) + 2).toNatClampNeg))).2.2 gs gn fo hRel H locs ls hP hD hS (lv_sub hl [1, 2, 3, 4, 0] rfl)
    · refine lv_tableIn (off := 119) (tgt := 158) hx hb dL_law_39 (by decide) (by decide) (by decide) (by decide) ?_
      refine lv_aload_n hx hb dL_law_158 rfl (lv_at hl 1 rfl) ?_
      refine lv_aload_n hx hb dL_law_159 rfl (lv_at hl 0 rfl) ?_
      refine lv_iload hx hb dL_law_160 (lv_at hl 4 rfl) ?_
      refine lv_iconst (v := 1) hx hb dL_law_162 (by decide) ?_
      refine lv_iadd hx hb dL_law_163 ?_
      refine va_sld hx hb hX hbl hbA hS hi1 dL_law_164 ?_
      refine lv_aload_n hx hb dL_law_165 rfl (lv_at hl 0 rfl) ?_
      refine lv_iload hx hb dL_law_166 (lv_at hl 4 rfl) ?_
      refine lv_iconst (v := 2) hx hb dL_law_168 (by decide) ?_
      refine lv_iadd hx hb dL_law_169 ?_
      refine va_sld hx hb hX hbl hbA hS hi2 dL_law_170 ?_
      have hPc := hP.sub (ws' := pwW cI h a1 a2 a3 v fw fc fr) [0, 1, 2, 3] rfl
      have hDc := hD.sub (ws' := pwW cI h a1 a2 a3 v fw fc fr) [0, 1, 2, 3] (by decide) rfl
      refine wr_calli (va_runV (As := [.int ((xs (nI (3 * j) + 1).toNatClampNeg)), .int ((xs (nI (3 * j) + 2).toNatClampNeg))]) (rest := []) ⟨hx, hb, hml, hown, htsL⟩ (kX2_set l dC dI cI cB h a1 a2 a3 _ v fw fc fr ((xs (nI (3 * j) + 1).toNatClampNeg)) ((xs (nI (3 * j) + 2).toNatClampNeg))) (cwV 2 htsL gL_law_X2_set rfl rfl rfl (by decide +kernel) ⟨Nat.le_of_ble_eq_true rfl, Nat.le_of_ble_eq_true rfl⟩) (wr_preV hKx hPc hDc (ci := 0) (q0 := 0) rfl rfl) rfl rfl hl.1 rfl (lv_room (Nat.le_of_ble_eq_true rfl)) dL_law_171 ⟨by show 10 + j + 0 ≤ 1038; omega, by show 966 + 6 * j + 0 ≤ 9182; omega⟩) hS hA hP hD [0, 1, 2, 3] [4, 5, 6, 7, 8, 9] rfl (wr := mdW cI cB g b1 b2 b3 b4 u gw gd gs gn ++ [outC cL o fo]) rfl (by decide) (by decide) (fun H locs hP hD hS => ?_)
      have hP := hP.sub (ws' := lawW cI cB cL h a1 a2 a3 g b1 b2 b3 b4 o v fw fc (fX2_set v fw fc fr ((xs (nI (3 * j) + 1).toNatClampNeg)) ((xs (nI (3 * j) + 2).toNatClampNeg))).2 u gw gd gs gn fo) [6, 7, 8, 9, 0, 1, 2, 3, 4, 5] rfl
      have hD := hD.sub (ws' := lawW cI cB cL h a1 a2 a3 g b1 b2 b3 b4 o v fw fc (fX2_set v fw fc fr ((xs (nI (3 * j) + 1).toNatClampNeg)) ((xs (nI (3 * j) + 2).toNatClampNeg))).2 u gw gd gs gn fo) [6, 7, 8, 9, 0, 1, 2, 3, 4, 5] (by decide) rfl
      refine lv_aload_n hx hb dL_law_174 rfl (lv_at hl 2 rfl) ?_
      refine lv_aload_n hx hb dL_law_175 rfl (lv_at hl 0 rfl) ?_
      refine lv_iload hx hb dL_law_176 (lv_at hl 4 rfl) ?_
      refine lv_iconst (v := 1) hx hb dL_law_178 (by decide) ?_
      refine lv_iadd hx hb dL_law_179 ?_
      refine va_sld hx hb hX hbl hbA hS hi1 dL_law_180 ?_
      refine lv_aload_n hx hb dL_law_181 rfl (lv_at hl 0 rfl) ?_
      refine lv_iload hx hb dL_law_182 (lv_at hl 4 rfl) ?_
      refine lv_iconst (v := 2) hx hb dL_law_184 (by decide) ?_
      refine lv_iadd hx hb dL_law_185 ?_
      refine va_sld hx hb hX hbl hbA hS hi2 dL_law_186 ?_
      have hPc := hP.sub (ws' := mdW cI cB g b1 b2 b3 b4 u gw gd gs gn) [4, 5, 6, 7, 8] rfl
      have hDc := hD.sub (ws' := mdW cI cB g b1 b2 b3 b4 u gw gd gs gn) [4, 5, 6, 7, 8] (by decide) rfl
      refine wr_calli (va_runV (As := [.int ((xs (nI (3 * j) + 1).toNatClampNeg)), .int ((xs (nI (3 * j) + 2).toNatClampNeg))]) (rest := [.int (fX2_set v fw fc fr ((xs (nI (3 * j) + 1).toNatClampNeg)) ((xs (nI (3 * j) + 2).toNatClampNeg))).1]) ⟨hx, hb, hml, hown, htsL⟩ (kX3_set l dC dI cI cB g b1 b2 b3 b4 _ u gw gd gs gn ((xs (nI (3 * j) + 1).toNatClampNeg)) ((xs (nI (3 * j) + 2).toNatClampNeg))) (cwV 2 htsL gL_law_X3_set rfl rfl rfl (by decide +kernel) ⟨Nat.le_of_ble_eq_true rfl, Nat.le_of_ble_eq_true rfl⟩) (wr_preV hKx hPc hDc (ci := 1) (q0 := 0) rfl rfl) rfl rfl hl.1 rfl (lv_room (Nat.le_of_ble_eq_true rfl)) dL_law_187 ⟨by show 10 + j + 0 ≤ 1038; omega, by show 966 + 6 * j + 0 ≤ 9182; omega⟩) hS hA hP hD [4, 5, 6, 7, 8] [0, 1, 2, 3, 9] rfl (wr := pwW cI h a1 a2 a3 v fw fc (fX2_set v fw fc fr ((xs (nI (3 * j) + 1).toNatClampNeg)) ((xs (nI (3 * j) + 2).toNatClampNeg))).2 ++ [outC cL o fo]) rfl (by decide) (by decide) (fun H locs hP hD hS => ?_)
      have hP := hP.sub (ws' := lawW cI cB cL h a1 a2 a3 g b1 b2 b3 b4 o v fw fc (fX2_set v fw fc fr ((xs (nI (3 * j) + 1).toNatClampNeg)) ((xs (nI (3 * j) + 2).toNatClampNeg))).2 (fX3_set u gw gd gs gn ((xs (nI (3 * j) + 1).toNatClampNeg)) ((xs (nI (3 * j) + 2).toNatClampNeg))).2.1 gw gd (fX3_set u gw gd gs gn ((xs (nI (3 * j) + 1).toNatClampNeg)) ((xs (nI (3 * j) + 2).toNatClampNeg))).2.2 gn fo) [0, 1, 2, 3, 5, 6, 7, 8, 9, 4] rfl
      have hD := hD.sub (ws' := lawW cI cB cL h a1 a2 a3 g b1 b2 b3 b4 o v fw fc (fX2_set v fw fc fr ((xs (nI (3 * j) + 1).toNatClampNeg)) ((xs (nI (3 * j) + 2).toNatClampNeg))).2 (fX3_set u gw gd gs gn ((xs (nI (3 * j) + 1).toNatClampNeg)) ((xs (nI (3 * j) + 2).toNatClampNeg))).2.1 gw gd (fX3_set u gw gd gs gn ((xs (nI (3 * j) + 1).toNatClampNeg)) ((xs (nI (3 * j) + 2).toNatClampNeg))).2.2 gn fo) [0, 1, 2, 3, 5, 6, 7, 8, 9, 4] (by decide) rfl
      obtain ⟨r1, hRel⟩ := R_set hRel (xs (nI (3 * j) + 1).toNatClampNeg) (xs (nI (3 * j) + 2).toNatClampNeg)
      refine lv_icmp_eq (tgt := 399) hx hb dL_law_190 (by decide) (fun _ => ?_) (fun q => absurd r1 q)
      refine lv_iinc (v := nI (3 * (j + 1))) (lv' := [(4, .int (nI (3 * (j + 1)))), (0, .ref b), (1, .ref h), (2, .ref g), (3, .ref o)]) hx hb dL_law_399 hl (k := 4) rfl (show nI (3 * j) + nI 3 = nI (3 * (j + 1)) from nI_add _ _) (by decide) rfl (fun ls hl => ?_)
      refine lv_goto (tgt := 23) hx hb dL_law_402 (by decide) ?_
      refine W.widen (k := 10 + (j + 1)) (n := 966 + 6 * (j + 1)) (by omega) (by omega) ?_
      exact ih (j + 1) (by omega) (by omega) v fw fc (fX2_set v fw fc fr ((xs (nI (3 * j) + 1).toNatClampNeg)) ((xs (nI (3 * j) + 2).toNatClampNeg))).2 (fX3_set u gw gd gs gn ((xs (nI (3 * j) + 1).toNatClampNeg)) ((xs (nI (3 * j) + 2).toNatClampNeg))).2.1 gw gd (fX3_set u gw gd gs gn ((xs (nI (3 * j) + 1).toNatClampNeg)) ((xs (nI (3 * j) + 2).toNatClampNeg))).2.2 gn fo hRel H locs ls hP hD hS (lv_sub hl [1, 2, 3, 4, 0] rfl)
    · refine lv_tableIn (off := 156) (tgt := 195) hx hb dL_law_39 (by decide) (by decide) (by decide) (by decide) ?_
      refine lv_aload_n hx hb dL_law_195 rfl (lv_at hl 1 rfl) ?_
      have hPc := hP.sub (ws' := pwW cI h a1 a2 a3 v fw fc fr) [0, 1, 2, 3] rfl
      have hDc := hD.sub (ws' := pwW cI h a1 a2 a3 v fw fc fr) [0, 1, 2, 3] (by decide) rfl
      refine wr_callv (va_runV (As := []) (rest := []) ⟨hx, hb, hml, hown, htsL⟩ (kX2_reset l dC dI cI cB h a1 a2 a3 _ v fw fc fr ) (cwV 0 htsL gL_law_X2_reset rfl rfl rfl (by decide +kernel) ⟨Nat.le_of_ble_eq_true rfl, Nat.le_of_ble_eq_true rfl⟩) (wr_preV hKx hPc hDc (ci := 0) (q0 := 0) rfl rfl) rfl rfl hl.1 rfl (lv_room (Nat.le_of_ble_eq_true rfl)) dL_law_196 ⟨by show 10 + j + 0 ≤ 1038; omega, by show 966 + 6 * j + 0 ≤ 9182; omega⟩) hS hA hP hD [0, 1, 2, 3] [4, 5, 6, 7, 8, 9] rfl (wr := mdW cI cB g b1 b2 b3 b4 u gw gd gs gn ++ [outC cL o fo]) rfl (by decide) (by decide) (fun H locs hP hD hS => ?_)
      have hP := hP.sub (ws' := lawW cI cB cL h a1 a2 a3 g b1 b2 b3 b4 o (fX2_reset v fw fc fr) fw fc fr u gw gd gs gn fo) [6, 7, 8, 9, 0, 1, 2, 3, 4, 5] rfl
      have hD := hD.sub (ws' := lawW cI cB cL h a1 a2 a3 g b1 b2 b3 b4 o (fX2_reset v fw fc fr) fw fc fr u gw gd gs gn fo) [6, 7, 8, 9, 0, 1, 2, 3, 4, 5] (by decide) rfl
      refine lv_aload_n hx hb dL_law_199 rfl (lv_at hl 2 rfl) ?_
      have hPc := hP.sub (ws' := mdW cI cB g b1 b2 b3 b4 u gw gd gs gn) [4, 5, 6, 7, 8] rfl
      have hDc := hD.sub (ws' := mdW cI cB g b1 b2 b3 b4 u gw gd gs gn) [4, 5, 6, 7, 8] (by decide) rfl
      refine wr_callv (va_runV (As := []) (rest := []) ⟨hx, hb, hml, hown, htsL⟩ (kX3_reset l dC dI cI cB g b1 b2 b3 b4 _ u gw gd gs gn ) (cwV 0 htsL gL_law_X3_reset rfl rfl rfl (by decide +kernel) ⟨Nat.le_of_ble_eq_true rfl, Nat.le_of_ble_eq_true rfl⟩) (wr_preV hKx hPc hDc (ci := 1) (q0 := 0) rfl rfl) rfl rfl hl.1 rfl (lv_room (Nat.le_of_ble_eq_true rfl)) dL_law_200 ⟨by show 10 + j + 0 ≤ 1038; omega, by show 966 + 6 * j + 0 ≤ 9182; omega⟩) hS hA hP hD [4, 5, 6, 7, 8] [0, 1, 2, 3, 9] rfl (wr := pwW cI h a1 a2 a3 (fX2_reset v fw fc fr) fw fc fr ++ [outC cL o fo]) rfl (by decide) (by decide) (fun H locs hP hD hS => ?_)
      have hP := hP.sub (ws' := lawW cI cB cL h a1 a2 a3 g b1 b2 b3 b4 o (fX2_reset v fw fc fr) fw fc fr (fX3_reset u gw gd gs gn) gw gd gs gn fo) [0, 1, 2, 3, 5, 6, 7, 8, 9, 4] rfl
      have hD := hD.sub (ws' := lawW cI cB cL h a1 a2 a3 g b1 b2 b3 b4 o (fX2_reset v fw fc fr) fw fc fr (fX3_reset u gw gd gs gn) gw gd gs gn fo) [0, 1, 2, 3, 5, 6, 7, 8, 9, 4] (by decide) rfl
      refine lv_goto (tgt := 399) hx hb dL_law_203 (by decide) ?_
      have hRel := R_reset hRel
      refine lv_iinc (v := nI (3 * (j + 1))) (lv' := [(4, .int (nI (3 * (j + 1)))), (0, .ref b), (1, .ref h), (2, .ref g), (3, .ref o)]) hx hb dL_law_399 hl (k := 4) rfl (show nI (3 * j) + nI 3 = nI (3 * (j + 1)) from nI_add _ _) (by decide) rfl (fun ls hl => ?_)
      refine lv_goto (tgt := 23) hx hb dL_law_402 (by decide) ?_
      refine W.widen (k := 10 + (j + 1)) (n := 966 + 6 * (j + 1)) (by omega) (by omega) ?_
      exact ih (j + 1) (by omega) (by omega) (fX2_reset v fw fc fr) fw fc fr (fX3_reset u gw gd gs gn) gw gd gs gn fo hRel H locs ls hP hD hS (lv_sub hl [1, 2, 3, 4, 0] rfl)
    · refine lv_tableIn (off := 167) (tgt := 206) hx hb dL_law_39 (by decide) (by decide) (by decide) (by decide) ?_
      refine lv_aload_n hx hb dL_law_206 rfl (lv_at hl 1 rfl) ?_
      refine lv_aload_n hx hb dL_law_207 rfl (lv_at hl 0 rfl) ?_
      refine lv_iload hx hb dL_law_208 (lv_at hl 4 rfl) ?_
      refine lv_iconst (v := 1) hx hb dL_law_210 (by decide) ?_
      refine lv_iadd hx hb dL_law_211 ?_
      refine va_sld hx hb hX hbl hbA hS hi1 dL_law_212 ?_
      refine lv_aload_n hx hb dL_law_213 rfl (lv_at hl 3 rfl) ?_
      have hPc := hP.sub (ws' := pwW cI h a1 a2 a3 v fw fc fr ++ [outC cL o fo]) [0, 1, 2, 3, 9] rfl
      have hDc := hD.sub (ws' := pwW cI h a1 a2 a3 v fw fc fr ++ [outC cL o fo]) [0, 1, 2, 3, 9] (by decide) rfl
      have hFc := va_free (wc := pwW cI h a1 a2 a3 v fw fc fr ++ [outC cL o fo]) hD hS hA [0, 1, 2, 3, 9] rfl
      refine va_calli (vx_runSW (As := [.ref h, .int (xs (nI (3 * j) + 1).toNatClampNeg), .ref o]) (rest := []) ⟨hx, hb, hml, hown, htsL⟩ (kL_clock l hl9 dC dI cI cB cL h a1 a2 a3 o H.size v fw fc fr fo (xs (nI (3 * j) + 1).toNatClampNeg) (fun c1 c2 c3 => R_wr hRel c1 c2 c3)) (vx_cwSW 3 htsL gL_law_L_clock rfl rfl rfl (by decide +kernel) ⟨Nat.le_of_ble_eq_true rfl, Nat.le_of_ble_eq_true rfl⟩) ⟨hp_bl, fun U hU hW => ⟨rfl, by rw [hU], by rw [hU]; exact hPc, va_K.moved hW.alike hK, hDc.weaken (fun _ _ _ _ => trivial), vxT.warm hW hT, by rw [hU]; exact vxZ.moved hW.alike ((hZ.kept hS.2.1).narrow hFc)⟩⟩ rfl rfl hl.1 rfl (lv_room (Nat.le_of_ble_eq_true rfl)) dL_law_214 ⟨by show 10 + j + 1 ≤ 1038; omega, by show 966 + 6 * j + 6 ≤ 9182; omega⟩) hS (fun q _ h => hFc q h) hFc (fun r z t H1 locs ht hvm hw hB hz1 hk1 hS => ?_)
      obtain ⟨hP1, hD1⟩ := hB
      rw [ht] at hP1
      obtain ⟨hP, hD⟩ := va_join (wr := mdW cI cB g b1 b2 b3 b4 u gw gd gs gn) hP hD [0, 1, 2, 3, 9] [4, 5, 6, 7, 8] rfl rfl (by decide) (by decide) hk1 hFc hP1 hD1
      obtain ⟨⟨v1, fc1, fr1⟩, fo1⟩ := z
      have hP := hP.sub (ws' := lawW cI cB cL h a1 a2 a3 g b1 b2 b3 b4 o v1 fw fc1 fr1 u gw gd gs gn fo1) [5, 6, 7, 8, 0, 1, 2, 3, 4, 9] rfl
      have hD := hD.sub (ws' := lawW cI cB cL h a1 a2 a3 g b1 b2 b3 b4 o v1 fw fc1 fr1 u gw gd gs gn fo1) [5, 6, 7, 8, 0, 1, 2, 3, 4, 9] (by decide) rfl
      generalize H1 = H at hP hS ⊢
      refine lv_istore (lv' := [(5, .int r), (0, .ref b), (1, .ref h), (2, .ref g), (3, .ref o), (4, .int (nI (3 * j)))]) hx hb dL_law_217 hl (by decide) rfl (fun ls hl => ?_)
      refine lv_aload_n hx hb dL_law_219 rfl (lv_at hl 3 rfl) ?_
      refine lv_aload_n hx hb dL_law_220 rfl (lv_at hl 1 rfl) ?_
      refine lv_iload hx hb dL_law_221 (lv_at hl 5 rfl) ?_
      refine lv_iconst (v := 1) hx hb dL_law_223 (by decide) ?_
      refine lv_iadd hx hb dL_law_224 ?_
      refine va_sld hx hb hX hbl hbA hS hi1 dL_law_225 ?_
      have hPc := hP.sub (ws' := mdW cI cB g b1 b2 b3 b4 u gw gd gs gn) [4, 5, 6, 7, 8] rfl
      have hDc := hD.sub (ws' := mdW cI cB g b1 b2 b3 b4 u gw gd gs gn) [4, 5, 6, 7, 8] (by decide) rfl
      refine wr_calli (va_runV (As := [.int ((xs (nI (3 * j) + 1).toNatClampNeg))]) (rest := []) ⟨hx, hb, hml, hown, htsL⟩ (kX3_clock l dC dI cI cB g b1 b2 b3 b4 _ u gw gd gs gn ((xs (nI (3 * j) + 1).toNatClampNeg)) (R_in14 hRel).2) (cwV 1 htsL gL_law_X3_clock rfl rfl rfl (by decide +kernel) ⟨Nat.le_of_ble_eq_true rfl, Nat.le_of_ble_eq_true rfl⟩) (wr_preV hKx hPc hDc (ci := 1) (q0 := 0) rfl rfl) rfl rfl hl.1 rfl (lv_room (Nat.le_of_ble_eq_true rfl)) dL_law_226 ⟨by show 10 + j + 1 + 0 ≤ 1038; omega, by show 966 + 6 * j + 6 + 0 ≤ 9182; omega⟩) hS hA hP hD [4, 5, 6, 7, 8] [0, 1, 2, 3, 9] rfl (wr := pwW cI h a1 a2 a3 v1 fw fc1 fr1 ++ [outC cL o fo1]) rfl (by decide) (by decide) (fun H locs hP hD hS => ?_)
      have hP := hP.sub (ws' := lawW cI cB cL h a1 a2 a3 g b1 b2 b3 b4 o v1 fw fc1 fr1 (fX3_clock u gw gd gs gn ((xs (nI (3 * j) + 1).toNatClampNeg))).2.1 gw (fX3_clock u gw gd gs gn ((xs (nI (3 * j) + 1).toNatClampNeg))).2.2.1 (fX3_clock u gw gd gs gn ((xs (nI (3 * j) + 1).toNatClampNeg))).2.2.2.1 (fX3_clock u gw gd gs gn ((xs (nI (3 * j) + 1).toNatClampNeg))).2.2.2.2 fo1) [0, 1, 2, 3, 5, 6, 7, 8, 9, 4] rfl
      have hD := hD.sub (ws' := lawW cI cB cL h a1 a2 a3 g b1 b2 b3 b4 o v1 fw fc1 fr1 (fX3_clock u gw gd gs gn ((xs (nI (3 * j) + 1).toNatClampNeg))).2.1 gw (fX3_clock u gw gd gs gn ((xs (nI (3 * j) + 1).toNatClampNeg))).2.2.1 (fX3_clock u gw gd gs gn ((xs (nI (3 * j) + 1).toNatClampNeg))).2.2.2.1 (fX3_clock u gw gd gs gn ((xs (nI (3 * j) + 1).toNatClampNeg))).2.2.2.2 fo1) [0, 1, 2, 3, 5, 6, 7, 8, 9, 4] (by decide) rfl
      refine lv_istore (lv' := [(6, .int (fX3_clock u gw gd gs gn ((xs (nI (3 * j) + 1).toNatClampNeg))).1), (5, .int r), (0, .ref b), (1, .ref h), (2, .ref g), (3, .ref o), (4, .int (nI (3 * j)))]) hx hb dL_law_229 hl (by decide) rfl (fun ls hl => ?_)
      refine lv_aload_n hx hb dL_law_231 rfl (lv_at hl 4 rfl) ?_
      have hPc := hP.sub (ws' := mdW cI cB g b1 b2 b3 b4 (fX3_clock u gw gd gs gn ((xs (nI (3 * j) + 1).toNatClampNeg))).2.1 gw (fX3_clock u gw gd gs gn ((xs (nI (3 * j) + 1).toNatClampNeg))).2.2.1 (fX3_clock u gw gd gs gn ((xs (nI (3 * j) + 1).toNatClampNeg))).2.2.2.1 (fX3_clock u gw gd gs gn ((xs (nI (3 * j) + 1).toNatClampNeg))).2.2.2.2) [4, 5, 6, 7, 8] rfl
      have hDc := hD.sub (ws' := mdW cI cB g b1 b2 b3 b4 (fX3_clock u gw gd gs gn ((xs (nI (3 * j) + 1).toNatClampNeg))).2.1 gw (fX3_clock u gw gd gs gn ((xs (nI (3 * j) + 1).toNatClampNeg))).2.2.1 (fX3_clock u gw gd gs gn ((xs (nI (3 * j) + 1).toNatClampNeg))).2.2.2.1 (fX3_clock u gw gd gs gn ((xs (nI (3 * j) + 1).toNatClampNeg))).2.2.2.2) [4, 5, 6, 7, 8] (by decide) rfl
      refine ro_call (va_runV (As := []) (rest := []) ⟨hx, hb, hml, hown, htsL⟩ (kX3_thrown l dC dI cI cB g b1 b2 b3 b4 (fX3_clock u gw gd gs gn ((xs (nI (3 * j) + 1).toNatClampNeg))).2.1 gw (fX3_clock u gw gd gs gn ((xs (nI (3 * j) + 1).toNatClampNeg))).2.2.1 (fX3_clock u gw gd gs gn ((xs (nI (3 * j) + 1).toNatClampNeg))).2.2.2.1 (fX3_clock u gw gd gs gn ((xs (nI (3 * j) + 1).toNatClampNeg))).2.2.2.2 ) (cwV 0 htsL gL_law_X3_thrown rfl rfl rfl (by decide +kernel) ⟨Nat.le_of_ble_eq_true rfl, Nat.le_of_ble_eq_true rfl⟩) (ro_preV hKx hPc (ci := 1) (q0 := 0) rfl rfl) rfl rfl hl.1 rfl (lv_room (Nat.le_of_ble_eq_true rfl)) dL_law_232 ⟨by show 10 + j + 1 + 0 ≤ 1038; omega, by show 966 + 6 * j + 6 + 0 ≤ 9182; omega⟩) hS (fun H locs hk9 hS => ?_)
      have hP := hk9 _ _ _ hP
      refine lv_iload hx hb dL_law_235 (lv_at hl 1 rfl) ?_
      have key : ((fX3_clock u gw gd gs gn ((xs (nI (3 * j) + 1).toNatClampNeg))).2.1) 0 = r ∧ Rel v1 fw fc1 fr1 (fX3_clock u gw gd gs gn ((xs (nI (3 * j) + 1).toNatClampNeg))).2.1 gw (fX3_clock u gw gd gs gn ((xs (nI (3 * j) + 1).toNatClampNeg))).2.2.1 (fX3_clock u gw gd gs gn ((xs (nI (3 * j) + 1).toNatClampNeg))).2.2.2.1 (fX3_clock u gw gd gs gn ((xs (nI (3 * j) + 1).toNatClampNeg))).2.2.2.2 ∧ (r = 0 → fo1 0 = ((fX3_clock u gw gd gs gn ((xs (nI (3 * j) + 1).toNatClampNeg))).1).toInt64) := by
        rcases hw with ⟨w1, w2, w3⟩ | ⟨w1, w2, w3⟩ | ⟨w1, w2, w3, w4⟩
        · injection w3 with w4 w5
          injection w5 with w6 w7
          subst w4 w6 w7 w1
          rw [R_clock1 hRel w2]
          exact ⟨rfl, rel_u0 1 hRel, fun q => absurd q (by decide)⟩
        · injection w3 with w4 w5
          injection w5 with w6 w7
          subst w4 w6 w7 w1
          rw [R_clock2 hRel w2.1 w2.2.1 w2.2.2]
          exact ⟨rfl, rel_u0 2 hRel, fun q => absurd q (by decide)⟩
        · obtain ⟨k1, k2, k3⟩ := R_clock3 hRel w2.1 w2.2.1 w2.2.2
          have e1 : v1 = (iterX2 fw ((xs (nI (3 * j) + 1).toNatClampNeg)).toNatClampNeg ((v, fc, fr) : T3)).1 := congrArg (fun y => y.1) w3
          have e2 : fc1 = (iterX2 fw ((xs (nI (3 * j) + 1).toNatClampNeg)).toNatClampNeg ((v, fc, fr) : T3)).2.1 := congrArg (fun y => y.2.1) w3
          have e3 : fr1 = (iterX2 fw ((xs (nI (3 * j) + 1).toNatClampNeg)).toNatClampNeg ((v, fc, fr) : T3)).2.2 := congrArg (fun y => y.2.2) w3
          refine ⟨by rw [w1]; exact k2, by rw [e1, e2, e3]; exact k1, fun _ => ?_⟩
          have w4 : fo1 0 = _ := w4
          rw [w4, k3]
      obtain ⟨key1, hRel2, key3⟩ := key
      refine lv_icmp_eq (tgt := 242) hx hb dL_law_237 (by decide) (fun _ => ?_) (fun q => absurd key1 q)
      refine lv_iload hx hb dL_law_242 (lv_at hl 1 rfl) ?_
      refine lv_if_ne (tgt := 259) hx hb dL_law_244 (by decide) (fun _ => ?_) (fun r0 => ?_)
      · refine lv_goto (tgt := 399) hx hb dL_law_259 (by decide) ?_
        refine lv_iinc (v := nI (3 * (j + 1))) (lv' := [(4, .int (nI (3 * (j + 1)))), (6, .int (fX3_clock u gw gd gs gn ((xs (nI (3 * j) + 1).toNatClampNeg))).1), (5, .int r), (0, .ref b), (1, .ref h), (2, .ref g), (3, .ref o)]) hx hb dL_law_399 hl (k := 6) rfl (show nI (3 * j) + nI 3 = nI (3 * (j + 1)) from nI_add _ _) (by decide) rfl (fun ls hl => ?_)
        refine lv_goto (tgt := 23) hx hb dL_law_402 (by decide) ?_
        refine W.widen (k := 10 + (j + 1)) (n := 966 + 6 * (j + 1)) (by omega) (by omega) ?_
        exact ih (j + 1) (by omega) (by omega) v1 fw fc1 fr1 (fX3_clock u gw gd gs gn ((xs (nI (3 * j) + 1).toNatClampNeg))).2.1 gw (fX3_clock u gw gd gs gn ((xs (nI (3 * j) + 1).toNatClampNeg))).2.2.1 (fX3_clock u gw gd gs gn ((xs (nI (3 * j) + 1).toNatClampNeg))).2.2.2.1 (fX3_clock u gw gd gs gn ((xs (nI (3 * j) + 1).toNatClampNeg))).2.2.2.2 fo1 hRel2 H locs ls hP hD hS (lv_sub hl [3, 4, 5, 6, 0] rfl)
      · refine lv_aload_n hx hb dL_law_247 rfl (lv_at hl 5 rfl) ?_
        refine lv_iconst (v := 0) hx hb dL_law_248 (by decide) ?_
        refine va_lald hx hb hK hP 9 2 rfl rfl in_01 dL_law_249 ?_
        refine lv_iload hx hb dL_law_250 (lv_at hl 0 rfl) ?_
        refine lv_i2l (v := ((fX3_clock u gw gd gs gn ((xs (nI (3 * j) + 1).toNatClampNeg))).1).toInt64) hx hb dL_law_252 rfl ?_
        refine W.lcmp hx hb dL_law_253 ?_
        refine lv_if_eq (tgt := 259) hx hb dL_law_254 (by decide) (fun _ => ?_) (fun q => absurd (lc_eq _ _ (key3 r0)) q)
        refine lv_goto (tgt := 399) hx hb dL_law_259 (by decide) ?_
        refine lv_iinc (v := nI (3 * (j + 1))) (lv' := [(4, .int (nI (3 * (j + 1)))), (6, .int (fX3_clock u gw gd gs gn ((xs (nI (3 * j) + 1).toNatClampNeg))).1), (5, .int r), (0, .ref b), (1, .ref h), (2, .ref g), (3, .ref o)]) hx hb dL_law_399 hl (k := 6) rfl (show nI (3 * j) + nI 3 = nI (3 * (j + 1)) from nI_add _ _) (by decide) rfl (fun ls hl => ?_)
        refine lv_goto (tgt := 23) hx hb dL_law_402 (by decide) ?_
        refine W.widen (k := 10 + (j + 1)) (n := 966 + 6 * (j + 1)) (by omega) (by omega) ?_
        exact ih (j + 1) (by omega) (by omega) v1 fw fc1 fr1 (fX3_clock u gw gd gs gn ((xs (nI (3 * j) + 1).toNatClampNeg))).2.1 gw (fX3_clock u gw gd gs gn ((xs (nI (3 * j) + 1).toNatClampNeg))).2.2.1 (fX3_clock u gw gd gs gn ((xs (nI (3 * j) + 1).toNatClampNeg))).2.2.2.1 (fX3_clock u gw gd gs gn ((xs (nI (3 * j) + 1).toNatClampNeg))).2.2.2.2 fo1 hRel2 H locs ls hP hD hS (lv_sub hl [3, 4, 5, 6, 0] rfl)
    · refine lv_tableIn (off := 223) (tgt := 262) hx hb dL_law_39 (by decide) (by decide) (by decide) (by decide) ?_
      refine lv_aload_n hx hb dL_law_262 rfl (lv_at hl 1 rfl) ?_
      refine lv_aload_n hx hb dL_law_263 rfl (lv_at hl 0 rfl) ?_
      refine lv_iload hx hb dL_law_264 (lv_at hl 4 rfl) ?_
      refine lv_iconst (v := 1) hx hb dL_law_266 (by decide) ?_
      refine lv_iadd hx hb dL_law_267 ?_
      refine va_sld hx hb hX hbl hbA hS hi1 dL_law_268 ?_
      refine lv_aload_n hx hb dL_law_269 rfl (lv_at hl 3 rfl) ?_
      have hPc := hP.sub (ws' := pwW cI h a1 a2 a3 v fw fc fr ++ [outC cL o fo]) [0, 1, 2, 3, 9] rfl
      have hDc := hD.sub (ws' := pwW cI h a1 a2 a3 v fw fc fr ++ [outC cL o fo]) [0, 1, 2, 3, 9] (by decide) rfl
      have hFc := va_free (wc := pwW cI h a1 a2 a3 v fw fc fr ++ [outC cL o fo]) hD hS hA [0, 1, 2, 3, 9] rfl
      refine va_calli (vx_runSW (As := [.ref h, .int (xs (nI (3 * j) + 1).toNatClampNeg), .ref o]) (rest := []) ⟨hx, hb, hml, hown, htsL⟩ (kL_register l hl9 dC dI cI cB cL h a1 a2 a3 o H.size v fw fc fr fo (xs (nI (3 * j) + 1).toNatClampNeg)) (vx_cwSW 3 htsL gL_law_L_register rfl rfl rfl (by decide +kernel) ⟨Nat.le_of_ble_eq_true rfl, Nat.le_of_ble_eq_true rfl⟩) ⟨hp_bl, fun U hU hW => ⟨rfl, by rw [hU], by rw [hU]; exact hPc, va_K.moved hW.alike hK, hDc.weaken (fun _ _ _ _ => trivial), vxT.warm hW hT, by rw [hU]; exact vxZ.moved hW.alike ((hZ.kept hS.2.1).narrow hFc)⟩⟩ rfl rfl hl.1 rfl (lv_room (Nat.le_of_ble_eq_true rfl)) dL_law_270 ⟨by show 10 + j + 1 ≤ 1038; omega, by show 966 + 6 * j + 6 ≤ 9182; omega⟩) hS (fun q _ h => hFc q h) hFc (fun r z t H1 locs ht hvm hw hB hz1 hk1 hS => ?_)
      obtain ⟨hP1, hD1⟩ := hB
      rw [ht] at hP1
      obtain ⟨hP, hD⟩ := va_join (wr := mdW cI cB g b1 b2 b3 b4 u gw gd gs gn) hP hD [0, 1, 2, 3, 9] [4, 5, 6, 7, 8] rfl rfl (by decide) (by decide) hk1 hFc hP1 hD1
      obtain ⟨fo1, rfl⟩ : ∃ y, y = z := ⟨_, rfl⟩
      have hP := hP.sub (ws' := lawW cI cB cL h a1 a2 a3 g b1 b2 b3 b4 o v fw fc fr u gw gd gs gn fo1) [5, 6, 7, 8, 0, 1, 2, 3, 4, 9] rfl
      have hD := hD.sub (ws' := lawW cI cB cL h a1 a2 a3 g b1 b2 b3 b4 o v fw fc fr u gw gd gs gn fo1) [5, 6, 7, 8, 0, 1, 2, 3, 4, 9] (by decide) rfl
      generalize H1 = H at hP hS ⊢
      refine lv_istore (lv' := [(5, .int r), (0, .ref b), (1, .ref h), (2, .ref g), (3, .ref o), (4, .int (nI (3 * j)))]) hx hb dL_law_273 hl (by decide) rfl (fun ls hl => ?_)
      refine lv_aload_n hx hb dL_law_275 rfl (lv_at hl 3 rfl) ?_
      refine lv_aload_n hx hb dL_law_276 rfl (lv_at hl 1 rfl) ?_
      refine lv_iload hx hb dL_law_277 (lv_at hl 5 rfl) ?_
      refine lv_iconst (v := 1) hx hb dL_law_279 (by decide) ?_
      refine lv_iadd hx hb dL_law_280 ?_
      refine va_sld hx hb hX hbl hbA hS hi1 dL_law_281 ?_
      have hPc := hP.sub (ws' := mdW cI cB g b1 b2 b3 b4 u gw gd gs gn) [4, 5, 6, 7, 8] rfl
      have hDc := hD.sub (ws' := mdW cI cB g b1 b2 b3 b4 u gw gd gs gn) [4, 5, 6, 7, 8] (by decide) rfl
      refine wr_calli (va_runV (As := [.int ((xs (nI (3 * j) + 1).toNatClampNeg))]) (rest := []) ⟨hx, hb, hml, hown, htsL⟩ (kX3_register l dC dI cI cB g b1 b2 b3 b4 _ u gw gd gs gn ((xs (nI (3 * j) + 1).toNatClampNeg))) (cwV 1 htsL gL_law_X3_register rfl rfl rfl (by decide +kernel) ⟨Nat.le_of_ble_eq_true rfl, Nat.le_of_ble_eq_true rfl⟩) (wr_preV hKx hPc hDc (ci := 1) (q0 := 0) rfl rfl) rfl rfl hl.1 rfl (lv_room (Nat.le_of_ble_eq_true rfl)) dL_law_282 ⟨by show 10 + j + 1 + 0 ≤ 1038; omega, by show 966 + 6 * j + 6 + 0 ≤ 9182; omega⟩) hS hA hP hD [4, 5, 6, 7, 8] [0, 1, 2, 3, 9] rfl (wr := pwW cI h a1 a2 a3 v fw fc fr ++ [outC cL o fo1]) rfl (by decide) (by decide) (fun H locs hP hD hS => ?_)
      have hP := hP.sub (ws' := lawW cI cB cL h a1 a2 a3 g b1 b2 b3 b4 o v fw fc fr (fX3_register u gw gd gs gn ((xs (nI (3 * j) + 1).toNatClampNeg))).2 gw gd gs gn fo1) [0, 1, 2, 3, 5, 6, 7, 8, 9, 4] rfl
      have hD := hD.sub (ws' := lawW cI cB cL h a1 a2 a3 g b1 b2 b3 b4 o v fw fc fr (fX3_register u gw gd gs gn ((xs (nI (3 * j) + 1).toNatClampNeg))).2 gw gd gs gn fo1) [0, 1, 2, 3, 5, 6, 7, 8, 9, 4] (by decide) rfl
      refine lv_istore (lv' := [(6, .int (fX3_register u gw gd gs gn ((xs (nI (3 * j) + 1).toNatClampNeg))).1), (5, .int r), (0, .ref b), (1, .ref h), (2, .ref g), (3, .ref o), (4, .int (nI (3 * j)))]) hx hb dL_law_285 hl (by decide) rfl (fun ls hl => ?_)
      refine lv_aload_n hx hb dL_law_287 rfl (lv_at hl 4 rfl) ?_
      have hPc := hP.sub (ws' := mdW cI cB g b1 b2 b3 b4 (fX3_register u gw gd gs gn ((xs (nI (3 * j) + 1).toNatClampNeg))).2 gw gd gs gn) [4, 5, 6, 7, 8] rfl
      have hDc := hD.sub (ws' := mdW cI cB g b1 b2 b3 b4 (fX3_register u gw gd gs gn ((xs (nI (3 * j) + 1).toNatClampNeg))).2 gw gd gs gn) [4, 5, 6, 7, 8] (by decide) rfl
      refine ro_call (va_runV (As := []) (rest := []) ⟨hx, hb, hml, hown, htsL⟩ (kX3_thrown l dC dI cI cB g b1 b2 b3 b4 (fX3_register u gw gd gs gn ((xs (nI (3 * j) + 1).toNatClampNeg))).2 gw gd gs gn ) (cwV 0 htsL gL_law_X3_thrown rfl rfl rfl (by decide +kernel) ⟨Nat.le_of_ble_eq_true rfl, Nat.le_of_ble_eq_true rfl⟩) (ro_preV hKx hPc (ci := 1) (q0 := 0) rfl rfl) rfl rfl hl.1 rfl (lv_room (Nat.le_of_ble_eq_true rfl)) dL_law_288 ⟨by show 10 + j + 1 + 0 ≤ 1038; omega, by show 966 + 6 * j + 6 + 0 ≤ 9182; omega⟩) hS (fun H locs hk9 hS => ?_)
      have hP := hk9 _ _ _ hP
      refine lv_iload hx hb dL_law_291 (lv_at hl 1 rfl) ?_
      obtain ⟨k1, k2, k3⟩ := R_register hRel (xs (nI (3 * j) + 1).toNatClampNeg)
      have key : ((fX3_register u gw gd gs gn ((xs (nI (3 * j) + 1).toNatClampNeg))).2) 0 = r ∧ Rel v fw fc fr (fX3_register u gw gd gs gn ((xs (nI (3 * j) + 1).toNatClampNeg))).2 gw gd gs gn ∧ (r = 0 → fo1 0 = ((fX3_register u gw gd gs gn ((xs (nI (3 * j) + 1).toNatClampNeg))).1).toInt64) := by
        rcases hw with ⟨w1, w2⟩ | ⟨w1, w2, w3, w4⟩
        · exact ⟨by rw [w1]; exact k2 w2, k1, fun q => absurd (w1.symm.trans q) (by decide)⟩
        · obtain ⟨k4, k5⟩ := k3 w2 w3
          exact ⟨by rw [w1]; exact k4, k1, fun _ => by rw [w4, k5]⟩
      obtain ⟨key1, hRel2, key3⟩ := key
      refine lv_icmp_eq (tgt := 298) hx hb dL_law_293 (by decide) (fun _ => ?_) (fun q => absurd key1 q)
      refine lv_iload hx hb dL_law_298 (lv_at hl 1 rfl) ?_
      refine lv_if_ne (tgt := 315) hx hb dL_law_300 (by decide) (fun _ => ?_) (fun r0 => ?_)
      · refine lv_goto (tgt := 399) hx hb dL_law_315 (by decide) ?_
        refine lv_iinc (v := nI (3 * (j + 1))) (lv' := [(4, .int (nI (3 * (j + 1)))), (6, .int (fX3_register u gw gd gs gn ((xs (nI (3 * j) + 1).toNatClampNeg))).1), (5, .int r), (0, .ref b), (1, .ref h), (2, .ref g), (3, .ref o)]) hx hb dL_law_399 hl (k := 6) rfl (show nI (3 * j) + nI 3 = nI (3 * (j + 1)) from nI_add _ _) (by decide) rfl (fun ls hl => ?_)
        refine lv_goto (tgt := 23) hx hb dL_law_402 (by decide) ?_
        refine W.widen (k := 10 + (j + 1)) (n := 966 + 6 * (j + 1)) (by omega) (by omega) ?_
        exact ih (j + 1) (by omega) (by omega) v fw fc fr (fX3_register u gw gd gs gn ((xs (nI (3 * j) + 1).toNatClampNeg))).2 gw gd gs gn fo1 hRel2 H locs ls hP hD hS (lv_sub hl [3, 4, 5, 6, 0] rfl)
      · refine lv_aload_n hx hb dL_law_303 rfl (lv_at hl 5 rfl) ?_
        refine lv_iconst (v := 0) hx hb dL_law_304 (by decide) ?_
        refine va_lald hx hb hK hP 9 2 rfl rfl in_01 dL_law_305 ?_
        refine lv_iload hx hb dL_law_306 (lv_at hl 0 rfl) ?_
        refine lv_i2l (v := ((fX3_register u gw gd gs gn ((xs (nI (3 * j) + 1).toNatClampNeg))).1).toInt64) hx hb dL_law_308 rfl ?_
        refine W.lcmp hx hb dL_law_309 ?_
        refine lv_if_eq (tgt := 315) hx hb dL_law_310 (by decide) (fun _ => ?_) (fun q => absurd (lc_eq _ _ (key3 r0)) q)
        refine lv_goto (tgt := 399) hx hb dL_law_315 (by decide) ?_
        refine lv_iinc (v := nI (3 * (j + 1))) (lv' := [(4, .int (nI (3 * (j + 1)))), (6, .int (fX3_register u gw gd gs gn ((xs (nI (3 * j) + 1).toNatClampNeg))).1), (5, .int r), (0, .ref b), (1, .ref h), (2, .ref g), (3, .ref o)]) hx hb dL_law_399 hl (k := 6) rfl (show nI (3 * j) + nI 3 = nI (3 * (j + 1)) from nI_add _ _) (by decide) rfl (fun ls hl => ?_)
        refine lv_goto (tgt := 23) hx hb dL_law_402 (by decide) ?_
        refine W.widen (k := 10 + (j + 1)) (n := 966 + 6 * (j + 1)) (by omega) (by omega) ?_
        exact ih (j + 1) (by omega) (by omega) v fw fc fr (fX3_register u gw gd gs gn ((xs (nI (3 * j) + 1).toNatClampNeg))).2 gw gd gs gn fo1 hRel2 H locs ls hP hD hS (lv_sub hl [3, 4, 5, 6, 0] rfl)
    · refine lv_tableIn (off := 279) (tgt := 318) hx hb dL_law_39 (by decide) (by decide) (by decide) (by decide) ?_
      refine lv_aload_n hx hb dL_law_318 rfl (lv_at hl 1 rfl) ?_
      refine lv_aload_n hx hb dL_law_319 rfl (lv_at hl 0 rfl) ?_
      refine lv_iload hx hb dL_law_320 (lv_at hl 4 rfl) ?_
      refine lv_iconst (v := 1) hx hb dL_law_322 (by decide) ?_
      refine lv_iadd hx hb dL_law_323 ?_
      refine va_sld hx hb hX hbl hbA hS hi1 dL_law_324 ?_
      refine lv_aload_n hx hb dL_law_325 rfl (lv_at hl 3 rfl) ?_
      have hPc := hP.sub (ws' := pwW cI h a1 a2 a3 v fw fc fr ++ [outC cL o fo]) [0, 1, 2, 3, 9] rfl
      have hDc := hD.sub (ws' := pwW cI h a1 a2 a3 v fw fc fr ++ [outC cL o fo]) [0, 1, 2, 3, 9] (by decide) rfl
      have hFc := va_free (wc := pwW cI h a1 a2 a3 v fw fc fr ++ [outC cL o fo]) hD hS hA [0, 1, 2, 3, 9] rfl
      refine va_calli (vx_runSW (As := [.ref h, .int (xs (nI (3 * j) + 1).toNatClampNeg), .ref o]) (rest := []) ⟨hx, hb, hml, hown, htsL⟩ (kL_memory l hl9 dC dI cI cB cL h a1 a2 a3 o H.size v fw fc fr fo (xs (nI (3 * j) + 1).toNatClampNeg)) (vx_cwSW 3 htsL gL_law_L_memory rfl rfl rfl (by decide +kernel) ⟨Nat.le_of_ble_eq_true rfl, Nat.le_of_ble_eq_true rfl⟩) ⟨hp_bl, fun U hU hW => ⟨rfl, by rw [hU], by rw [hU]; exact hPc, va_K.moved hW.alike hK, hDc.weaken (fun _ _ _ _ => trivial), vxT.warm hW hT, by rw [hU]; exact vxZ.moved hW.alike ((hZ.kept hS.2.1).narrow hFc)⟩⟩ rfl rfl hl.1 rfl (lv_room (Nat.le_of_ble_eq_true rfl)) dL_law_326 ⟨by show 10 + j + 1 ≤ 1038; omega, by show 966 + 6 * j + 6 ≤ 9182; omega⟩) hS (fun q _ h => hFc q h) hFc (fun r z t H1 locs ht hvm hw hB hz1 hk1 hS => ?_)
      obtain ⟨hP1, hD1⟩ := hB
      rw [ht] at hP1
      obtain ⟨hP, hD⟩ := va_join (wr := mdW cI cB g b1 b2 b3 b4 u gw gd gs gn) hP hD [0, 1, 2, 3, 9] [4, 5, 6, 7, 8] rfl rfl (by decide) (by decide) hk1 hFc hP1 hD1
      obtain ⟨fo1, rfl⟩ : ∃ y, y = z := ⟨_, rfl⟩
      have hP := hP.sub (ws' := lawW cI cB cL h a1 a2 a3 g b1 b2 b3 b4 o v fw fc fr u gw gd gs gn fo1) [5, 6, 7, 8, 0, 1, 2, 3, 4, 9] rfl
      have hD := hD.sub (ws' := lawW cI cB cL h a1 a2 a3 g b1 b2 b3 b4 o v fw fc fr u gw gd gs gn fo1) [5, 6, 7, 8, 0, 1, 2, 3, 4, 9] (by decide) rfl
      generalize H1 = H at hP hS ⊢
      refine lv_istore (lv' := [(5, .int r), (0, .ref b), (1, .ref h), (2, .ref g), (3, .ref o), (4, .int (nI (3 * j)))]) hx hb dL_law_329 hl (by decide) rfl (fun ls hl => ?_)
      refine lv_aload_n hx hb dL_law_331 rfl (lv_at hl 3 rfl) ?_
      refine lv_aload_n hx hb dL_law_332 rfl (lv_at hl 1 rfl) ?_
      refine lv_iload hx hb dL_law_333 (lv_at hl 5 rfl) ?_
      refine lv_iconst (v := 1) hx hb dL_law_335 (by decide) ?_
      refine lv_iadd hx hb dL_law_336 ?_
      refine va_sld hx hb hX hbl hbA hS hi1 dL_law_337 ?_
      have hPc := hP.sub (ws' := mdW cI cB g b1 b2 b3 b4 u gw gd gs gn) [4, 5, 6, 7, 8] rfl
      have hDc := hD.sub (ws' := mdW cI cB g b1 b2 b3 b4 u gw gd gs gn) [4, 5, 6, 7, 8] (by decide) rfl
      refine wr_calli (va_runV (As := [.int ((xs (nI (3 * j) + 1).toNatClampNeg))]) (rest := []) ⟨hx, hb, hml, hown, htsL⟩ (kX3_memory l dC dI cI cB g b1 b2 b3 b4 _ u gw gd gs gn ((xs (nI (3 * j) + 1).toNatClampNeg))) (cwV 1 htsL gL_law_X3_memory rfl rfl rfl (by decide +kernel) ⟨Nat.le_of_ble_eq_true rfl, Nat.le_of_ble_eq_true rfl⟩) (wr_preV hKx hPc hDc (ci := 1) (q0 := 0) rfl rfl) rfl rfl hl.1 rfl (lv_room (Nat.le_of_ble_eq_true rfl)) dL_law_338 ⟨by show 10 + j + 1 + 0 ≤ 1038; omega, by show 966 + 6 * j + 6 + 0 ≤ 9182; omega⟩) hS hA hP hD [4, 5, 6, 7, 8] [0, 1, 2, 3, 9] rfl (wr := pwW cI h a1 a2 a3 v fw fc fr ++ [outC cL o fo1]) rfl (by decide) (by decide) (fun H locs hP hD hS => ?_)
      have hP := hP.sub (ws' := lawW cI cB cL h a1 a2 a3 g b1 b2 b3 b4 o v fw fc fr (fX3_memory u gw gd gs gn ((xs (nI (3 * j) + 1).toNatClampNeg))).2 gw gd gs gn fo1) [0, 1, 2, 3, 5, 6, 7, 8, 9, 4] rfl
      have hD := hD.sub (ws' := lawW cI cB cL h a1 a2 a3 g b1 b2 b3 b4 o v fw fc fr (fX3_memory u gw gd gs gn ((xs (nI (3 * j) + 1).toNatClampNeg))).2 gw gd gs gn fo1) [0, 1, 2, 3, 5, 6, 7, 8, 9, 4] (by decide) rfl
      refine lv_istore (lv' := [(6, .int (fX3_memory u gw gd gs gn ((xs (nI (3 * j) + 1).toNatClampNeg))).1), (5, .int r), (0, .ref b), (1, .ref h), (2, .ref g), (3, .ref o), (4, .int (nI (3 * j)))]) hx hb dL_law_341 hl (by decide) rfl (fun ls hl => ?_)
      refine lv_aload_n hx hb dL_law_343 rfl (lv_at hl 4 rfl) ?_
      have hPc := hP.sub (ws' := mdW cI cB g b1 b2 b3 b4 (fX3_memory u gw gd gs gn ((xs (nI (3 * j) + 1).toNatClampNeg))).2 gw gd gs gn) [4, 5, 6, 7, 8] rfl
      have hDc := hD.sub (ws' := mdW cI cB g b1 b2 b3 b4 (fX3_memory u gw gd gs gn ((xs (nI (3 * j) + 1).toNatClampNeg))).2 gw gd gs gn) [4, 5, 6, 7, 8] (by decide) rfl
      refine ro_call (va_runV (As := []) (rest := []) ⟨hx, hb, hml, hown, htsL⟩ (kX3_thrown l dC dI cI cB g b1 b2 b3 b4 (fX3_memory u gw gd gs gn ((xs (nI (3 * j) + 1).toNatClampNeg))).2 gw gd gs gn ) (cwV 0 htsL gL_law_X3_thrown rfl rfl rfl (by decide +kernel) ⟨Nat.le_of_ble_eq_true rfl, Nat.le_of_ble_eq_true rfl⟩) (ro_preV hKx hPc (ci := 1) (q0 := 0) rfl rfl) rfl rfl hl.1 rfl (lv_room (Nat.le_of_ble_eq_true rfl)) dL_law_344 ⟨by show 10 + j + 1 + 0 ≤ 1038; omega, by show 966 + 6 * j + 6 + 0 ≤ 9182; omega⟩) hS (fun H locs hk9 hS => ?_)
      have hP := hk9 _ _ _ hP
      refine lv_iload hx hb dL_law_347 (lv_at hl 1 rfl) ?_
      obtain ⟨k1, k2, k3⟩ := R_memory hRel (xs (nI (3 * j) + 1).toNatClampNeg)
      have key : ((fX3_memory u gw gd gs gn ((xs (nI (3 * j) + 1).toNatClampNeg))).2) 0 = r ∧ Rel v fw fc fr (fX3_memory u gw gd gs gn ((xs (nI (3 * j) + 1).toNatClampNeg))).2 gw gd gs gn ∧ (r = 0 → fo1 0 = ((fX3_memory u gw gd gs gn ((xs (nI (3 * j) + 1).toNatClampNeg))).1).toInt64) := by
        rcases hw with ⟨w1, w2⟩ | ⟨w1, w2, w3, w4⟩
        · exact ⟨by rw [w1]; exact k2 w2, k1, fun q => absurd (w1.symm.trans q) (by decide)⟩
        · obtain ⟨k4, k5⟩ := k3 w2 w3
          exact ⟨by rw [w1]; exact k4, k1, fun _ => by rw [w4, k5]⟩
      obtain ⟨key1, hRel2, key3⟩ := key
      refine lv_icmp_eq (tgt := 354) hx hb dL_law_349 (by decide) (fun _ => ?_) (fun q => absurd key1 q)
      refine lv_iload hx hb dL_law_354 (lv_at hl 1 rfl) ?_
      refine lv_if_ne (tgt := 371) hx hb dL_law_356 (by decide) (fun _ => ?_) (fun r0 => ?_)
      · refine lv_goto (tgt := 399) hx hb dL_law_371 (by decide) ?_
        refine lv_iinc (v := nI (3 * (j + 1))) (lv' := [(4, .int (nI (3 * (j + 1)))), (6, .int (fX3_memory u gw gd gs gn ((xs (nI (3 * j) + 1).toNatClampNeg))).1), (5, .int r), (0, .ref b), (1, .ref h), (2, .ref g), (3, .ref o)]) hx hb dL_law_399 hl (k := 6) rfl (show nI (3 * j) + nI 3 = nI (3 * (j + 1)) from nI_add _ _) (by decide) rfl (fun ls hl => ?_)
        refine lv_goto (tgt := 23) hx hb dL_law_402 (by decide) ?_
        refine W.widen (k := 10 + (j + 1)) (n := 966 + 6 * (j + 1)) (by omega) (by omega) ?_
        exact ih (j + 1) (by omega) (by omega) v fw fc fr (fX3_memory u gw gd gs gn ((xs (nI (3 * j) + 1).toNatClampNeg))).2 gw gd gs gn fo1 hRel2 H locs ls hP hD hS (lv_sub hl [3, 4, 5, 6, 0] rfl)
      · refine lv_aload_n hx hb dL_law_359 rfl (lv_at hl 5 rfl) ?_
        refine lv_iconst (v := 0) hx hb dL_law_360 (by decide) ?_
        refine va_lald hx hb hK hP 9 2 rfl rfl in_01 dL_law_361 ?_
        refine lv_iload hx hb dL_law_362 (lv_at hl 0 rfl) ?_
        refine lv_i2l (v := ((fX3_memory u gw gd gs gn ((xs (nI (3 * j) + 1).toNatClampNeg))).1).toInt64) hx hb dL_law_364 rfl ?_
        refine W.lcmp hx hb dL_law_365 ?_
        refine lv_if_eq (tgt := 371) hx hb dL_law_366 (by decide) (fun _ => ?_) (fun q => absurd (lc_eq _ _ (key3 r0)) q)
        refine lv_goto (tgt := 399) hx hb dL_law_371 (by decide) ?_
        refine lv_iinc (v := nI (3 * (j + 1))) (lv' := [(4, .int (nI (3 * (j + 1)))), (6, .int (fX3_memory u gw gd gs gn ((xs (nI (3 * j) + 1).toNatClampNeg))).1), (5, .int r), (0, .ref b), (1, .ref h), (2, .ref g), (3, .ref o)]) hx hb dL_law_399 hl (k := 6) rfl (show nI (3 * j) + nI 3 = nI (3 * (j + 1)) from nI_add _ _) (by decide) rfl (fun ls hl => ?_)
        refine lv_goto (tgt := 23) hx hb dL_law_402 (by decide) ?_
        refine W.widen (k := 10 + (j + 1)) (n := 966 + 6 * (j + 1)) (by omega) (by omega) ?_
        exact ih (j + 1) (by omega) (by omega) v fw fc fr (fX3_memory u gw gd gs gn ((xs (nI (3 * j) + 1).toNatClampNeg))).2 gw gd gs gn fo1 hRel2 H locs ls hP hD hS (lv_sub hl [3, 4, 5, 6, 0] rfl)
    · refine lv_tableIn (off := 335) (tgt := 374) hx hb dL_law_39 (by decide) (by decide) (by decide) (by decide) ?_
      refine lv_aload_n hx hb dL_law_374 rfl (lv_at hl 1 rfl) ?_
      refine lv_aload_n hx hb dL_law_375 rfl (lv_at hl 0 rfl) ?_
      refine lv_iload hx hb dL_law_376 (lv_at hl 4 rfl) ?_
      refine lv_iconst (v := 1) hx hb dL_law_378 (by decide) ?_
      refine lv_iadd hx hb dL_law_379 ?_
      refine va_sld hx hb hX hbl hbA hS hi1 dL_law_380 ?_
      have hPc := hP.sub (ws' := pwW cI h a1 a2 a3 v fw fc fr) [0, 1, 2, 3] rfl
      have hDc := hD.sub (ws' := pwW cI h a1 a2 a3 v fw fc fr) [0, 1, 2, 3] (by decide) rfl
      refine ro_call (va_runV (As := [.int ((xs (nI (3 * j) + 1).toNatClampNeg))]) (rest := []) ⟨hx, hb, hml, hown, htsL⟩ (kX2_state l dC dI cI cB h a1 a2 a3 v fw fc fr ((xs (nI (3 * j) + 1).toNatClampNeg))) (cwV 1 htsL gL_law_X2_state rfl rfl rfl (by decide +kernel) ⟨Nat.le_of_ble_eq_true rfl, Nat.le_of_ble_eq_true rfl⟩) (ro_preV hKx hPc (ci := 0) (q0 := 0) rfl rfl) rfl rfl hl.1 rfl (lv_room (Nat.le_of_ble_eq_true rfl)) dL_law_381 ⟨by show 10 + j + 0 ≤ 1038; omega, by show 966 + 6 * j + 0 ≤ 9182; omega⟩) hS (fun H locs hk9 hS => ?_)
      have hP := hk9 _ _ _ hP
      refine lv_aload_n hx hb dL_law_384 rfl (lv_at hl 2 rfl) ?_
      refine lv_aload_n hx hb dL_law_385 rfl (lv_at hl 0 rfl) ?_
      refine lv_iload hx hb dL_law_386 (lv_at hl 4 rfl) ?_
      refine lv_iconst (v := 1) hx hb dL_law_388 (by decide) ?_
      refine lv_iadd hx hb dL_law_389 ?_
      refine va_sld hx hb hX hbl hbA hS hi1 dL_law_390 ?_
      have hPc := hP.sub (ws' := mdW cI cB g b1 b2 b3 b4 u gw gd gs gn) [4, 5, 6, 7, 8] rfl
      have hDc := hD.sub (ws' := mdW cI cB g b1 b2 b3 b4 u gw gd gs gn) [4, 5, 6, 7, 8] (by decide) rfl
      refine wr_calli (va_runV (As := [.int ((xs (nI (3 * j) + 1).toNatClampNeg))]) (rest := [.int (fX2_state v fw fc fr ((xs (nI (3 * j) + 1).toNatClampNeg)))]) ⟨hx, hb, hml, hown, htsL⟩ (kX3_state l dC dI cI cB g b1 b2 b3 b4 _ u gw gd gs gn ((xs (nI (3 * j) + 1).toNatClampNeg))) (cwV 1 htsL gL_law_X3_state rfl rfl rfl (by decide +kernel) ⟨Nat.le_of_ble_eq_true rfl, Nat.le_of_ble_eq_true rfl⟩) (wr_preV hKx hPc hDc (ci := 1) (q0 := 0) rfl rfl) rfl rfl hl.1 rfl (lv_room (Nat.le_of_ble_eq_true rfl)) dL_law_391 ⟨by show 10 + j + 0 ≤ 1038; omega, by show 966 + 6 * j + 0 ≤ 9182; omega⟩) hS hA hP hD [4, 5, 6, 7, 8] [0, 1, 2, 3, 9] rfl (wr := pwW cI h a1 a2 a3 v fw fc fr ++ [outC cL o fo]) rfl (by decide) (by decide) (fun H locs hP hD hS => ?_)
      have hP := hP.sub (ws' := lawW cI cB cL h a1 a2 a3 g b1 b2 b3 b4 o v fw fc fr (fX3_state u gw gd gs gn ((xs (nI (3 * j) + 1).toNatClampNeg))).2 gw gd gs gn fo) [0, 1, 2, 3, 5, 6, 7, 8, 9, 4] rfl
      have hD := hD.sub (ws' := lawW cI cB cL h a1 a2 a3 g b1 b2 b3 b4 o v fw fc fr (fX3_state u gw gd gs gn ((xs (nI (3 * j) + 1).toNatClampNeg))).2 gw gd gs gn fo) [0, 1, 2, 3, 5, 6, 7, 8, 9, 4] (by decide) rfl
      obtain ⟨r1, hRel⟩ := R_state hRel (xs (nI (3 * j) + 1).toNatClampNeg)
      refine lv_icmp_eq (tgt := 399) hx hb dL_law_394 (by decide) (fun _ => ?_) (fun q => absurd r1 q)
      refine lv_iinc (v := nI (3 * (j + 1))) (lv' := [(4, .int (nI (3 * (j + 1)))), (0, .ref b), (1, .ref h), (2, .ref g), (3, .ref o)]) hx hb dL_law_399 hl (k := 4) rfl (show nI (3 * j) + nI 3 = nI (3 * (j + 1)) from nI_add _ _) (by decide) rfl (fun ls hl => ?_)
      refine lv_goto (tgt := 23) hx hb dL_law_402 (by decide) ?_
      refine W.widen (k := 10 + (j + 1)) (n := 966 + 6 * (j + 1)) (by omega) (by omega) ?_
      exact ih (j + 1) (by omega) (by omega) v fw fc fr (fX3_state u gw gd gs gn ((xs (nI (3 * j) + 1).toNatClampNeg))).2 gw gd gs gn fo hRel H locs ls hP hD hS (lv_sub hl [1, 2, 3, 4, 0] rfl)
