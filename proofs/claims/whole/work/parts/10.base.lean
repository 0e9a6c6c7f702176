/-! Pictures of the two objects' cells, and calls in three kinds: of numbers alone, reading the cells, writing them. -/
abbrev pwF (a b c : Nat) (v : Nat → Int32) : List Value := [.ref a, .ref b, .ref c, .int (v 3), .int (v 4), .int (v 5), .int (v 6), .int (v 7), .int (v 8), .int (v 9), .int (v 10), .int (v 11), .int (v 12), .int (v 13), .int (v 14), .int (v 15)]
abbrev pwW (cI : ClassId) (h a b c : Nat) (v fw fc fr : Nat → Int32) : va_W := [(h, .inr (0, pwF a b c v)), (a, .inl (cI, 256, .inl fw)), (b, .inl (cI, 64, .inl fc)), (c, .inl (cI, 32, .inl fr))]
abbrev mdF (a b c d : Nat) (v : Nat → Int32) : List Value := [.int (v 0), .ref a, .ref b, .ref c, .ref d, .int (v 5), .int (v 6), .int (v 7), .int (v 8), .int (v 9), .int (v 10), .int (v 11), .int (v 12), .int (v 13), .int (v 14), .int (v 15), .int (v 16), .int (v 17), .int (v 18), .int (v 19), .int (v 20)]
abbrev mdW (cI cB : ClassId) (h a b c d : Nat) (v fw fd fs fn : Nat → Int32) : va_W := [(h, .inr (1, mdF a b c d v)), (a, .inl (cI, 256, .inl fw)), (b, .inl (cB, 256, .inl fd)), (c, .inl (cI, 32, .inl fs)), (d, .inl (cI, 32, .inl fn))]
abbrev tyIB (cI cB : ClassId) : List (ClassId × FieldType) := [(cI, .int), (cB, .byte)]
def jushr (x y : Int32) : Int32 := (x.toUInt32 >>> (y.toUInt32 &&& Int32.toUInt32 31)).toInt32
def jrem (x y : Int32) : Int32 := x - x / y * y
def ro_N : Nat → Prop := fun _ => False
def pu_Pc (av : List Value) : Array Value → State → Prop := va_Pc av (fun _ => True)
def ro_Pc (av : List Value) (D : va_G) (cl : List vw_C) (tys : List (ClassId × FieldType)) (ws : va_W) : Array Value → State → Prop := va_Pc av (fun U => va_P D cl ws U.heap ∧ va_K D cl tys U)
def wr_Pc (av : List Value) (D : va_G) (cl : List vw_C) (tys : List (ClassId × FieldType)) (ws : va_W) (sz : Nat) : Array Value → State → Prop := va_Pc av (fun U => U.heap.size = sz ∧ va_P D cl ws U.heap ∧ va_K D cl tys U ∧ va_D (fun _ => True) ws)
def ro_Q (x : Int32) : Array Value → State → Outcome → State → Prop := va_Qi (fun r (_ : Unit) => r = x) (fun _ _ => True) ro_N
def wr_Qv (w1 : va_W) (D : va_G) (cl : List vw_C) (ws : va_W) (sz : Nat) : Array Value → State → Outcome → State → Prop := va_Qv (fun (_ : Unit) => True) (fun _ t => va_P D cl w1 t.heap ∧ va_D (va_A ws sz) w1) (va_A ws sz)
def wr_Qi (x : Int32) (w1 : va_W) (D : va_G) (cl : List vw_C) (ws : va_W) (sz : Nat) : Array Value → State → Outcome → State → Prop := va_Qi (fun r (_ : Unit) => r = x) (fun _ t => va_P D cl w1 t.heap ∧ va_D (va_A ws sz) w1) (va_A ws sz)
theorem pu_bl {av : List Value} : FrameBlind (pu_Pc av) := fun _ _ _ _ q => q
theorem ro_bl {av : List Value} {D : va_G} {cl : List vw_C} {tys : List (ClassId × FieldType)} {ws : va_W} : FrameBlind (ro_Pc av D cl tys ws) := fun a U g mk q => by
  obtain ⟨q0, qP, qK⟩ := q
  exact ⟨q0, qP, va_K.moved (u := U) (U := U.calling g mk a) (Vm.Alike.refl U.vm) qK⟩
theorem wr_bl {av : List Value} {D : va_G} {cl : List vw_C} {tys : List (ClassId × FieldType)} {ws : va_W} {sz : Nat} : FrameBlind (wr_Pc av D cl tys ws sz) := fun a U g mk q => by
  obtain ⟨q0, q1, qP, qK, qD⟩ := q
  exact ⟨q0, q1, qP, va_K.moved (u := U) (U := U.calling g mk a) (Vm.Alike.refl U.vm) qK, qD⟩
section ROS
variable {p : Program} {l : Launch} {e : Env} {R : Room} {s : State} {m : MethodId} {args : Array Value} {below : List Frame} {meth : Method} {c : Code} {H : Heap} {locs : List Loc} {cells slots : Nat} {Q : State → Prop}
variable {pc : Nat} {ls : Array Slot} {rest st0 : List Value} {a : Array Value} {A0 : Nat → Prop} {H0 : Heap} {D : va_G} {cl : List vw_C} {tys : List (ClassId × FieldType)} {ws wc wr w1 : va_W} {x : Int32}
theorem pu_preS {As : List Value} : PreS s H (pu_Pc As) As := ⟨pu_bl, fun _ _ _ => ⟨rfl, trivial⟩⟩
theorem ro_preV (hK : va_K D cl tys s) (hP : va_P D cl ws H) {q : vw_C} {ci q0 b : Nat} {fs : List Value} {As : List Value} (hc : cl[ci]? = some q) (he : ws[q0]? = some (b, .inr (ci, fs))) : PreV s H q.1 b (ro_Pc (.ref b :: As) D cl tys ws) As :=
  ⟨ro_bl, va_recv hK hP hc he, fun U hU hW => ⟨rfl, by rw [hU]; exact hP, va_K.moved hW.alike hK⟩⟩
theorem wr_preV (hK : va_K D cl tys s) (hP : va_P D cl ws H) (hD : va_D A0 ws) {q : vw_C} {ci q0 b : Nat} {fs : List Value} {As : List Value} (hc : cl[ci]? = some q) (he : ws[q0]? = some (b, .inr (ci, fs))) : PreV s H q.1 b (wr_Pc (.ref b :: As) D cl tys ws H.size) As :=
  ⟨wr_bl, va_recv hK hP hc he, fun U hU hW => ⟨rfl, by rw [hU], by rw [hU]; exact hP, va_K.moved hW.alike hK, hD.weaken (fun _ _ _ _ => trivial)⟩⟩
/-- a call that changes no cell and answers x -/
theorem ro_call (hr : va_Run p l e R s m args below meth c H locs cells slots 0 0 (F0 m pc ls st0) rest (ro_Q x a) ro_N) (hS : va_S A0 H0 H locs)
    (kk : ∀ (H1 : Heap) (locs1 : List Loc), (∀ (D : va_G) (cl : List vw_C) (ws : va_W), va_P D cl ws H → va_P D cl ws H1) → va_S A0 H0 H1 locs1 → W p l e R s m args below meth c H1 locs1 cells slots Q (F0 m (pc + 3) ls (.int x :: rest))) : W p l e R s m args below meth c H locs cells slots Q (F0 m pc ls st0) := by
  refine va_calli hr hS (fun q _ h => h.elim) (fun q h => h.elim) (fun r u t H1 locs1 ht hvm hw hB hz hk hS1 => ?_)
  subst hw
  exact kk H1 locs1 (fun D cl ws hP => hP.kept (fun k q hq => hk q.1 (hP k q hq).lt (fun z => z))) hS1
/-- a call that changes the cells wc to w1 -/
theorem wr_callv (hr : va_Run p l e R s m args below meth c H locs cells slots 0 0 (F0 m pc ls st0) rest (wr_Qv w1 D cl wc H.size a) (va_A wc H.size)) (hS : va_S A0 H0 H locs) (hA : ∀ q, H0.size ≤ q → A0 q) (hP : va_P D cl ws H) (hD : va_D A0 ws) (isC isR : List Nat) (hC : isC.map (fun i => ws[i]?) = wc.map some) (hR : isR.map (fun i => ws[i]?) = wr.map some) (hn : va_nd isR = true) (hdis : ∀ i ∈ isR, i ∉ isC)
    (kk : ∀ (H1 : Heap) (locs1 : List Loc), va_P D cl (wr ++ w1) H1 → va_D A0 (wr ++ w1) → va_S A0 H0 H1 locs1 → W p l e R s m args below meth c H1 locs1 cells slots Q (F0 m (pc + 3) ls rest)) : W p l e R s m args below meth c H locs cells slots Q (F0 m pc ls st0) := by
  have hF := va_free (wc := wc) hD hS hA isC hC
  refine va_callv hr hS (fun q _ h => hF q h) hF (fun u t H1 locs1 ht hvm hw hB hz hk hS1 => ?_)
  obtain ⟨hP1, hD1⟩ := hB
  rw [ht] at hP1
  obtain ⟨hP2, hD2⟩ := va_join hP hD isC isR hC hR hn hdis hk hF hP1 hD1
  exact kk H1 locs1 hP2 hD2 hS1
theorem wr_calli (hr : va_Run p l e R s m args below meth c H locs cells slots 0 0 (F0 m pc ls st0) rest (wr_Qi x w1 D cl wc H.size a) (va_A wc H.size)) (hS : va_S A0 H0 H locs) (hA : ∀ q, H0.size ≤ q → A0 q) (hP : va_P D cl ws H) (hD : va_D A0 ws) (isC isR : List Nat) (hC : isC.map (fun i => ws[i]?) = wc.map some) (hR : isR.map (fun i => ws[i]?) = wr.map some) (hn : va_nd isR = true) (hdis : ∀ i ∈ isR, i ∉ isC)
    (kk : ∀ (H1 : Heap) (locs1 : List Loc), va_P D cl (wr ++ w1) H1 → va_D A0 (wr ++ w1) → va_S A0 H0 H1 locs1 → W p l e R s m args below meth c H1 locs1 cells slots Q (F0 m (pc + 3) ls (.int x :: rest))) : W p l e R s m args below meth c H locs cells slots Q (F0 m pc ls st0) := by
  have hF := va_free (wc := wc) hD hS hA isC hC
  refine va_calli hr hS (fun q _ h => hF q h) hF (fun r u t H1 locs1 ht hvm hw hB hz hk hS1 => ?_)
  obtain ⟨hP1, hD1⟩ := hB
  rw [ht] at hP1
  subst hw
  obtain ⟨hP2, hD2⟩ := va_join hP hD isC isR hC hR hn hdis hk hF hP1 hD1
  exact kk H1 locs1 hP2 hD2 hS1
end ROS
theorem ro_end {x v : Int32} {A : Nat → Prop} {a : Array Value} {s t : State} {H : Heap} {locs : List Loc} (hS : va_S ro_N s.heap H locs) (ht : t.heap = H) (h : v = x) : ro_Q x a s (.returned (some (.int v))) t := ⟨⟨v, (), rfl, h, trivial⟩, hS.F ht⟩
theorem wr_endv {w1 ws : va_W} {D : va_G} {cl : List vw_C} {a : Array Value} {s t : State} {H : Heap} {locs : List Loc} (hS : va_S (va_A ws s.heap.size) s.heap H locs) (ht : t.heap = H) (hP : va_P D cl w1 H) (hD : va_D (va_A ws s.heap.size) w1) : wr_Qv w1 D cl ws s.heap.size a s (.returned none) t := ⟨⟨(), rfl, trivial, by rw [ht]; exact hP, hD⟩, hS.F ht⟩
theorem wr_endi {x v : Int32} {w1 ws : va_W} {D : va_G} {cl : List vw_C} {a : Array Value} {s t : State} {H : Heap} {locs : List Loc} (hS : va_S (va_A ws s.heap.size) s.heap H locs) (ht : t.heap = H) (h : v = x) (hP : va_P D cl w1 H) (hD : va_D (va_A ws s.heap.size) w1) : wr_Qi x w1 D cl ws s.heap.size a s (.returned (some (.int v))) t := ⟨⟨v, (), rfl, h, by rw [ht]; exact hP, hD⟩, hS.F ht⟩
theorem nz_b {v : Int32} (h : v = 0 ∨ v = 1) : narrow .boolean (.int v) = .int v := by
  rcases h with h | h <;> rw [h] <;> rfl
theorem ix_and (x : Int32) {m : Int32} (k : Nat) (hm : m.toBitVec.toNat = 2 ^ k - 1) (hk : k ≤ 30) {N : Nat} (hN : 2 ^ k = N) : vp_in (x &&& m) N := hN ▸ pk_andIn x k hm hk
