/-! ===== BEGIN words of one list among another's, by their places ===== -/
theorem goodIn_r {big : List Cond} (ws : List Cond) (ps : List Nat) (hp : ws = ps.filterMap (fun i => big[i]?)) (h : ws.all goodWord = true) : GoodIn big ws := by
  intro w hw
  have h1 := List.all_eq_true.mp h w hw
  rw [hp] at hw
  obtain ⟨i, -, hi⟩ := List.mem_filterMap.mp hw
  have hm : w ∈ big := by first | exact List.mem_of_getElem? hi | exact List.getElem?_mem hi
  exact ⟨hm, good_of_word h1⟩
theorem goodIn_app {big a b : List Cond} (ha : GoodIn big a) (hb : GoodIn big b) : GoodIn big (a ++ b) := fun w h => (List.mem_append.mp h).elim (ha w) (hb w)
theorem goodIn_ca {big a b : List Cond} {c : Cond} (ha : GoodIn big (c :: a)) (hb : GoodIn big b) : GoodIn big (c :: (a ++ b)) := fun w h => (List.mem_cons.mp h).elim (fun e => ha w (List.mem_cons.mpr (Or.inl e))) (fun h => (List.mem_append.mp h).elim (fun h => ha w (List.mem_cons.mpr (Or.inr h))) (hb w))
theorem goodIn_sub {big ws : List Cond} (hm : ∀ w ∈ ws, w ∈ big) (h : ws.all goodWord = true) : GoodIn big ws := fun w hw => ⟨hm w hw, good_of_word (List.all_eq_true.mp h w hw)⟩
/-! ===== END ===== -/
/-! ===== BEGIN printed: names, fields, word lists, decode rows ===== -/
def RX0 : String := "PipeWorks$Reckoning"
def TX0 : u_T := fun k => match k with
  | _ => ("", "", "", false)
def tyX0 : Nat → FieldType := fun k => match k with
  | _ => .int
abbrev wsX00 : List Cond := u_ws RX0 TX0 0
theorem nmX0 : ∀ a, a < 0 → ∀ b, b < 0 → a ≠ b → (TX0 a).2.1 ≠ (TX0 b).2.1 := by decide +kernel
theorem tyX0_ok : ∀ k, k < 0 → parseFieldDescriptor (TX0 k).2.2.1 = some (tyX0 k) := by decide +kernel
abbrev cX0_result : ByteArray := prog_2_method_2_code
def yX0_result : MethodName := ⟨RX0, "result", "(IZII)I"⟩
abbrev cX0_branches : ByteArray := prog_2_method_3_code
def yX0_branches : MethodName := ⟨RX0, "branches", "(III)Z"⟩
abbrev cX0_isLessWithoutSigns : ByteArray := prog_2_method_4_code
def yX0_isLessWithoutSigns : MethodName := ⟨RX0, "isLessWithoutSigns", "(II)Z"⟩
def RX1 : String := "PipeWorks$Word"
def TX1 : u_T := fun k => match k with
  | _ => ("", "", "", false)
def tyX1 : Nat → FieldType := fun k => match k with
  | _ => .int
abbrev wsX10 : List Cond := u_ws RX1 TX1 0
theorem nmX1 : ∀ a, a < 0 → ∀ b, b < 0 → a ≠ b → (TX1 a).2.1 ≠ (TX1 b).2.1 := by decide +kernel
theorem tyX1_ok : ∀ k, k < 0 → parseFieldDescriptor (TX1 k).2.2.1 = some (tyX1 k) := by decide +kernel
abbrev cX1_opcode : ByteArray := prog_3_method_2_code
def yX1_opcode : MethodName := ⟨RX1, "opcode", "(I)I"⟩
abbrev cX1_rd : ByteArray := prog_3_method_3_code
def yX1_rd : MethodName := ⟨RX1, "rd", "(I)I"⟩
abbrev cX1_f3 : ByteArray := prog_3_method_4_code
def yX1_f3 : MethodName := ⟨RX1, "f3", "(I)I"⟩
abbrev cX1_rs1 : ByteArray := prog_3_method_5_code
def yX1_rs1 : MethodName := ⟨RX1, "rs1", "(I)I"⟩
abbrev cX1_rs2 : ByteArray := prog_3_method_6_code
def yX1_rs2 : MethodName := ⟨RX1, "rs2", "(I)I"⟩
abbrev cX1_f7 : ByteArray := prog_3_method_7_code
def yX1_f7 : MethodName := ⟨RX1, "f7", "(I)I"⟩
abbrev cX1_immediateI : ByteArray := prog_3_method_8_code
def yX1_immediateI : MethodName := ⟨RX1, "immediateI", "(I)I"⟩
abbrev cX1_immediateS : ByteArray := prog_3_method_9_code
def yX1_immediateS : MethodName := ⟨RX1, "immediateS", "(I)I"⟩
abbrev cX1_immediateB : ByteArray := prog_3_method_10_code
def yX1_immediateB : MethodName := ⟨RX1, "immediateB", "(I)I"⟩
abbrev cX1_immediateU : ByteArray := prog_3_method_11_code
def yX1_immediateU : MethodName := ⟨RX1, "immediateU", "(I)I"⟩
abbrev cX1_immediateJ : ByteArray := prog_3_method_12_code
def yX1_immediateJ : MethodName := ⟨RX1, "immediateJ", "(I)I"⟩
abbrev cX1_isLegal : ByteArray := prog_3_method_13_code
def yX1_isLegal : MethodName := ⟨RX1, "isLegal", "(I)Z"⟩
abbrev cX1_accessBytes : ByteArray := prog_3_method_14_code
def yX1_accessBytes : MethodName := ⟨RX1, "accessBytes", "(I)I"⟩
abbrev cX1_writesRd : ByteArray := prog_3_method_15_code
def yX1_writesRd : MethodName := ⟨RX1, "writesRd", "(I)Z"⟩
abbrev cX1_readsRs1 : ByteArray := prog_3_method_16_code
def yX1_readsRs1 : MethodName := ⟨RX1, "readsRs1", "(I)Z"⟩
abbrev cX1_readsRs2 : ByteArray := prog_3_method_17_code
def yX1_readsRs2 : MethodName := ⟨RX1, "readsRs2", "(I)Z"⟩
abbrev cX1_waitsFor : ByteArray := prog_3_method_18_code
def yX1_waitsFor : MethodName := ⟨RX1, "waitsFor", "(II)Z"⟩
def RX2 : String := "PipeWorks"
def TX2 : u_T := fun k => match k with
  | 0 => ("PipeWorks", "words", "[I", true)
  | 1 => ("PipeWorks", "cells", "[I", true)
  | 2 => ("PipeWorks", "registers", "[I", true)
  | 3 => ("PipeWorks", "clocksInAll", "I", false)
  | 4 => ("PipeWorks", "clocks", "I", false)
  | 5 => ("PipeWorks", "wordsDone", "I", false)
  | 6 => ("PipeWorks", "latestDone", "I", false)
  | 7 => ("PipeWorks", "haltKind", "I", false)
  | 8 => ("PipeWorks", "haltAddress", "I", false)
  | 9 => ("PipeWorks", "pc", "I", false)
  | 10 => ("PipeWorks", "memoryClock", "I", false)
  | 11 => ("PipeWorks", "writePending", "Z", false)
  | 12 => ("PipeWorks", "writeAddress", "I", false)
  | 13 => ("PipeWorks", "writeHalt", "I", false)
  | 14 => ("PipeWorks", "writeRegister", "I", false)
  | _ => ("PipeWorks", "writeValue", "I", false)
def tyX2 : Nat → FieldType := fun k => match k with
  | 0 => .array .int
  | 1 => .array .int
  | 2 => .array .int
  | 3 => .int
  | 4 => .int
  | 5 => .int
  | 6 => .int
  | 7 => .int
  | 8 => .int
  | 9 => .int
  | 10 => .int
  | 11 => .boolean
  | 12 => .int
  | 13 => .int
  | 14 => .int
  | _ => .int
abbrev wsX20 : List Cond := u_ws RX2 TX2 16
theorem nmX2 : ∀ a, a < 16 → ∀ b, b < 16 → a ≠ b → (TX2 a).2.1 ≠ (TX2 b).2.1 := by decide +kernel
theorem tyX2_ok : ∀ k, k < 16 → parseFieldDescriptor (TX2 k).2.2.1 = some (tyX2 k) := by decide +kernel
abbrev cX2_init : ByteArray := prog_1_method_1_code
def yX2_init : MethodName := ⟨RX2, "<init>", "()V"⟩
abbrev cX2_word : ByteArray := prog_1_method_2_code
def yX2_word : MethodName := ⟨RX2, "word", "(II)Z"⟩
abbrev cX2_data : ByteArray := prog_1_method_3_code
def yX2_data : MethodName := ⟨RX2, "data", "(II)Z"⟩
abbrev cX2_set : ByteArray := prog_1_method_4_code
def yX2_set : MethodName := ⟨RX2, "set", "(II)Z"⟩
abbrev cX2_reset : ByteArray := prog_1_method_5_code
def yX2_reset : MethodName := ⟨RX2, "reset", "()V"⟩
abbrev cX2_clock : ByteArray := prog_1_method_6_code
def yX2_clock : MethodName := ⟨RX2, "clock", "(I)I"⟩
abbrev cX2_register : ByteArray := prog_1_method_7_code
def yX2_register : MethodName := ⟨RX2, "register", "(I)I"⟩
abbrev cX2_memory : ByteArray := prog_1_method_8_code
def yX2_memory : MethodName := ⟨RX2, "memory", "(I)I"⟩
abbrev cX2_state : ByteArray := prog_1_method_9_code
def yX2_state : MethodName := ⟨RX2, "state", "(I)I"⟩
abbrev cX2_toBeginning : ByteArray := prog_1_method_10_code
def yX2_toBeginning : MethodName := ⟨RX2, "toBeginning", "()V"⟩
abbrev cX2_oneClock : ByteArray := prog_1_method_11_code
def yX2_oneClock : MethodName := ⟨RX2, "oneClock", "()V"⟩
abbrev cX2_endWrite : ByteArray := prog_1_method_12_code
def yX2_endWrite : MethodName := ⟨RX2, "endWrite", "()V"⟩
abbrev cX2_endMemory : ByteArray := prog_1_method_13_code
def yX2_endMemory : MethodName := ⟨RX2, "endMemory", "()V"⟩
abbrev cX2_goOn : ByteArray := prog_1_method_14_code
def yX2_goOn : MethodName := ⟨RX2, "goOn", "(I)V"⟩
abbrev cX2_wordAt : ByteArray := prog_1_method_15_code
def yX2_wordAt : MethodName := ⟨RX2, "wordAt", "(I)I"⟩
abbrev cX2_haltOf : ByteArray := prog_1_method_16_code
def yX2_haltOf : MethodName := ⟨RX2, "haltOf", "(I)I"⟩
abbrev cX2_haltOfAccess : ByteArray := prog_1_method_17_code
def yX2_haltOfAccess : MethodName := ⟨RX2, "haltOfAccess", "(II)I"⟩
abbrev cX2_isBeyond : ByteArray := prog_1_method_18_code
def yX2_isBeyond : MethodName := ⟨RX2, "isBeyond", "(II)Z"⟩
abbrev cX2_jumps : ByteArray := prog_1_method_19_code
def yX2_jumps : MethodName := ⟨RX2, "jumps", "(I)Z"⟩
abbrev cX2_targetOf : ByteArray := prog_1_method_20_code
def yX2_targetOf : MethodName := ⟨RX2, "targetOf", "(I)I"⟩
abbrev cX2_addressOf : ByteArray := prog_1_method_21_code
def yX2_addressOf : MethodName := ⟨RX2, "addressOf", "(I)I"⟩
abbrev cX2_rs1Of : ByteArray := prog_1_method_22_code
def yX2_rs1Of : MethodName := ⟨RX2, "rs1Of", "(I)I"⟩
abbrev cX2_rs2Of : ByteArray := prog_1_method_23_code
def yX2_rs2Of : MethodName := ⟨RX2, "rs2Of", "(I)I"⟩
abbrev cX2_resultOf : ByteArray := prog_1_method_24_code
def yX2_resultOf : MethodName := ⟨RX2, "resultOf", "(I)I"⟩
abbrev cX2_loadAt : ByteArray := prog_1_method_25_code
def yX2_loadAt : MethodName := ⟨RX2, "loadAt", "(II)I"⟩
abbrev cX2_storeAt : ByteArray := prog_1_method_26_code
def yX2_storeAt : MethodName := ⟨RX2, "storeAt", "(III)V"⟩
abbrev cX2_cellOf : ByteArray := prog_1_method_27_code
def yX2_cellOf : MethodName := ⟨RX2, "cellOf", "(I)I"⟩
abbrev cX2_shiftOf : ByteArray := prog_1_method_28_code
def yX2_shiftOf : MethodName := ⟨RX2, "shiftOf", "(I)I"⟩
def RX3 : String := "PipeWorksModel"
def TX3 : u_T := fun k => match k with
  | 0 => ("PipeWorksModel", "thrown", "I", false)
  | 1 => ("PipeWorksModel", "words", "[I", true)
  | 2 => ("PipeWorksModel", "data", "[B", true)
  | 3 => ("PipeWorksModel", "seen", "[I", true)
  | 4 => ("PipeWorksModel", "now", "[I", true)
  | 5 => ("PipeWorksModel", "clocks", "I", false)
  | 6 => ("PipeWorksModel", "all", "I", false)
  | 7 => ("PipeWorksModel", "done", "I", false)
  | 8 => ("PipeWorksModel", "latest", "I", false)
  | 9 => ("PipeWorksModel", "kind", "I", false)
  | 10 => ("PipeWorksModel", "haltAt", "I", false)
  | 11 => ("PipeWorksModel", "pc", "I", false)
  | 12 => ("PipeWorksModel", "due", "I", false)
  | 13 => ("PipeWorksModel", "ends", "Z", false)
  | 14 => ("PipeWorksModel", "waits", "Z", false)
  | 15 => ("PipeWorksModel", "waitsAt", "I", false)
  | 16 => ("PipeWorksModel", "waitsKind", "I", false)
  | 17 => ("PipeWorksModel", "waitsFor", "I", false)
  | 18 => ("PipeWorksModel", "result", "I", false)
  | 19 => ("PipeWorksModel", "next", "I", false)
  | _ => ("PipeWorksModel", "jumps", "Z", false)
def tyX3 : Nat → FieldType := fun k => match k with
  | 0 => .int
  | 1 => .array .int
  | 2 => .array .byte
  | 3 => .array .int
  | 4 => .array .int
  | 5 => .int
  | 6 => .int
  | 7 => .int
  | 8 => .int
  | 9 => .int
  | 10 => .int
  | 11 => .int
  | 12 => .int
  | 13 => .boolean
  | 14 => .boolean
  | 15 => .int
  | 16 => .int
  | 17 => .int
  | 18 => .int
  | 19 => .int
  | _ => .boolean
abbrev wsX30 : List Cond := u_ws RX3 TX3 21
theorem nmX3 : ∀ a, a < 21 → ∀ b, b < 21 → a ≠ b → (TX3 a).2.1 ≠ (TX3 b).2.1 := by decide +kernel
theorem tyX3_ok : ∀ k, k < 21 → parseFieldDescriptor (TX3 k).2.2.1 = some (tyX3 k) := by decide +kernel
abbrev cX3_init : ByteArray := prog_5_method_1_code
def yX3_init : MethodName := ⟨RX3, "<init>", "()V"⟩
abbrev cX3_thrown : ByteArray := prog_5_method_2_code
def yX3_thrown : MethodName := ⟨RX3, "thrown", "()I"⟩
abbrev cX3_word : ByteArray := prog_5_method_3_code
def yX3_word : MethodName := ⟨RX3, "word", "(II)Z"⟩
abbrev cX3_data : ByteArray := prog_5_method_4_code
def yX3_data : MethodName := ⟨RX3, "data", "(II)Z"⟩
abbrev cX3_set : ByteArray := prog_5_method_5_code
def yX3_set : MethodName := ⟨RX3, "set", "(II)Z"⟩
abbrev cX3_reset : ByteArray := prog_5_method_6_code
def yX3_reset : MethodName := ⟨RX3, "reset", "()V"⟩
abbrev cX3_isBeyond : ByteArray := prog_5_method_7_code
def yX3_isBeyond : MethodName := ⟨RX3, "isBeyond", "(I)Z"⟩
abbrev cX3_wordAt : ByteArray := prog_5_method_8_code
def yX3_wordAt : MethodName := ⟨RX3, "wordAt", "(I)I"⟩
abbrev cX3_opcode : ByteArray := prog_5_method_9_code
def yX3_opcode : MethodName := ⟨RX3, "opcode", "(I)I"⟩
abbrev cX3_rd : ByteArray := prog_5_method_10_code
def yX3_rd : MethodName := ⟨RX3, "rd", "(I)I"⟩
abbrev cX3_f3 : ByteArray := prog_5_method_11_code
def yX3_f3 : MethodName := ⟨RX3, "f3", "(I)I"⟩
abbrev cX3_rs1 : ByteArray := prog_5_method_12_code
def yX3_rs1 : MethodName := ⟨RX3, "rs1", "(I)I"⟩
abbrev cX3_rs2 : ByteArray := prog_5_method_13_code
def yX3_rs2 : MethodName := ⟨RX3, "rs2", "(I)I"⟩
abbrev cX3_f7 : ByteArray := prog_5_method_14_code
def yX3_f7 : MethodName := ⟨RX3, "f7", "(I)I"⟩
abbrev cX3_immediateB : ByteArray := prog_5_method_15_code
def yX3_immediateB : MethodName := ⟨RX3, "immediateB", "(I)I"⟩
abbrev cX3_immediateJ : ByteArray := prog_5_method_16_code
def yX3_immediateJ : MethodName := ⟨RX3, "immediateJ", "(I)I"⟩
abbrev cX3_immediateS : ByteArray := prog_5_method_17_code
def yX3_immediateS : MethodName := ⟨RX3, "immediateS", "(I)I"⟩
abbrev cX3_isLegal : ByteArray := prog_5_method_18_code
def yX3_isLegal : MethodName := ⟨RX3, "isLegal", "(I)Z"⟩
abbrev cX3_reads : ByteArray := prog_5_method_19_code
def yX3_reads : MethodName := ⟨RX3, "reads", "(II)Z"⟩
abbrev cX3_load : ByteArray := prog_5_method_20_code
def yX3_load : MethodName := ⟨RX3, "load", "(II)I"⟩
abbrev cX3_store : ByteArray := prog_5_method_21_code
def yX3_store : MethodName := ⟨RX3, "store", "(III)V"⟩
abbrev cX3_refusal : ByteArray := prog_5_method_22_code
def yX3_refusal : MethodName := ⟨RX3, "refusal", "(II)I"⟩
abbrev cX3_isLess : ByteArray := prog_5_method_23_code
def yX3_isLess : MethodName := ⟨RX3, "isLess", "(II)Z"⟩
abbrev cX3_reckon : ByteArray := prog_5_method_24_code
def yX3_reckon : MethodName := ⟨RX3, "reckon", "(IZII)I"⟩
abbrev cX3_holds : ByteArray := prog_5_method_25_code
def yX3_holds : MethodName := ⟨RX3, "holds", "(III)Z"⟩
abbrev cX3_jump : ByteArray := prog_5_method_26_code
def yX3_jump : MethodName := ⟨RX3, "jump", "(I)I"⟩
abbrev cX3_loads : ByteArray := prog_5_method_27_code
def yX3_loads : MethodName := ⟨RX3, "loads", "(II)I"⟩
abbrev cX3_stores : ByteArray := prog_5_method_28_code
def yX3_stores : MethodName := ⟨RX3, "stores", "(III)I"⟩
abbrev cX3_work : ByteArray := prog_5_method_29_code
def yX3_work : MethodName := ⟨RX3, "work", "(I)I"⟩
abbrev cX3_step : ByteArray := prog_5_method_30_code
def yX3_step : MethodName := ⟨RX3, "step", "()V"⟩
abbrev cX3_write : ByteArray := prog_5_method_31_code
def yX3_write : MethodName := ⟨RX3, "write", "()V"⟩
abbrev cX3_clock : ByteArray := prog_5_method_32_code
def yX3_clock : MethodName := ⟨RX3, "clock", "(I)I"⟩
abbrev cX3_register : ByteArray := prog_5_method_33_code
def yX3_register : MethodName := ⟨RX3, "register", "(I)I"⟩
abbrev cX3_memory : ByteArray := prog_5_method_34_code
def yX3_memory : MethodName := ⟨RX3, "memory", "(I)I"⟩
abbrev cX3_state : ByteArray := prog_5_method_35_code
def yX3_state : MethodName := ⟨RX3, "state", "(I)I"⟩
def RJ0 : String := "java/lang/String"
def TJ0 : u_T := fun k => match k with
  | _ => ("", "", "", false)
def tyJ0 : Nat → FieldType := fun k => match k with
  | _ => .int
abbrev wsJ00 : List Cond := u_ws RJ0 TJ0 0
theorem nmJ0 : ∀ a, a < 0 → ∀ b, b < 0 → a ≠ b → (TJ0 a).2.1 ≠ (TJ0 b).2.1 := by decide +kernel
theorem tyJ0_ok : ∀ k, k < 0 → parseFieldDescriptor (TJ0 k).2.2.1 = some (tyJ0 k) := by decide +kernel
def RL : String := "PipeWorksLaw"
abbrev cL_clock : ByteArray := method_3_code
def yL_clock : MethodName := ⟨RL, "clock", "(LPipeWorks;I[J)I"⟩
abbrev cL_register : ByteArray := method_4_code
def yL_register : MethodName := ⟨RL, "register", "(LPipeWorks;I[J)I"⟩
abbrev cL_memory : ByteArray := method_5_code
def yL_memory : MethodName := ⟨RL, "memory", "(LPipeWorks;I[J)I"⟩
abbrev cL_law : ByteArray := code
def yL_law : MethodName := ⟨RL, "law", "([I)Z"⟩
def wsX0_isLessWithoutSigns : List Cond := .code yX0_isLessWithoutSigns cX0_isLessWithoutSigns 2 (some .boolean) :: ([.constant RX0 13 (-2147483648)])
def wsX0_result : List Cond := .code yX0_result cX0_result 4 (some .int) :: ([.methodLink RX0 7 yX0_isLessWithoutSigns, .static yX0_isLessWithoutSigns, .initialized RX0, .code yX0_isLessWithoutSigns cX0_isLessWithoutSigns 2 (some .boolean), .constant RX0 13 (-2147483648)])
def wsX0_branches : List Cond := .code yX0_branches cX0_branches 3 (some .boolean) :: ([.methodLink RX0 7 yX0_isLessWithoutSigns, .static yX0_isLessWithoutSigns, .initialized RX0, .code yX0_isLessWithoutSigns cX0_isLessWithoutSigns 2 (some .boolean), .constant RX0 13 (-2147483648)])
def wsX1_opcode : List Cond := .code yX1_opcode cX1_opcode 1 (some .int) :: ([])
def wsX1_rd : List Cond := .code yX1_rd cX1_rd 1 (some .int) :: ([])
def wsX1_f3 : List Cond := .code yX1_f3 cX1_f3 1 (some .int) :: ([])
def wsX1_rs1 : List Cond := .code yX1_rs1 cX1_rs1 1 (some .int) :: ([])
def wsX1_rs2 : List Cond := .code yX1_rs2 cX1_rs2 1 (some .int) :: ([])
def wsX1_f7 : List Cond := .code yX1_f7 cX1_f7 1 (some .int) :: ([])
def wsX1_immediateI : List Cond := .code yX1_immediateI cX1_immediateI 1 (some .int) :: ([])
def wsX1_immediateS : List Cond := .code yX1_immediateS cX1_immediateS 1 (some .int) :: ([.methodLink RX1 9 yX1_rd, .static yX1_rd, .initialized RX1, .code yX1_rd cX1_rd 1 (some .int)])
def wsX1_immediateB : List Cond := .code yX1_immediateB cX1_immediateB 1 (some .int) :: ([])
def wsX1_immediateU : List Cond := .code yX1_immediateU cX1_immediateU 1 (some .int) :: ([])
def wsX1_immediateJ : List Cond := .code yX1_immediateJ cX1_immediateJ 1 (some .int) :: ([])
def wsX1_isLegal : List Cond := .code yX1_isLegal cX1_isLegal 2 (some .boolean) :: ([.constant RX1 24 (1048691), .methodLink RX1 15 yX1_f3, .static yX1_f3, .initialized RX1, .code yX1_f3 cX1_f3 1 (some .int), .methodLink RX1 18 yX1_opcode, .static yX1_opcode, .code yX1_opcode cX1_opcode 1 (some .int), .methodLink RX1 21 yX1_f7, .static yX1_f7, .code yX1_f7 cX1_f7 1 (some .int)])
def wsX1_accessBytes : List Cond := .code yX1_accessBytes cX1_accessBytes 1 (some .int) :: ([.methodLink RX1 15 yX1_f3, .static yX1_f3, .initialized RX1, .code yX1_f3 cX1_f3 1 (some .int)])
def wsX1_writesRd : List Cond := .code yX1_writesRd cX1_writesRd 1 (some .boolean) :: ([.methodLink RX1 18 yX1_opcode, .static yX1_opcode, .initialized RX1, .code yX1_opcode cX1_opcode 1 (some .int)])
def wsX1_readsRs1 : List Cond := .code yX1_readsRs1 cX1_readsRs1 1 (some .boolean) :: ([.methodLink RX1 18 yX1_opcode, .static yX1_opcode, .initialized RX1, .code yX1_opcode cX1_opcode 1 (some .int)])
def wsX1_readsRs2 : List Cond := .code yX1_readsRs2 cX1_readsRs2 1 (some .boolean) :: ([.methodLink RX1 18 yX1_opcode, .static yX1_opcode, .initialized RX1, .code yX1_opcode cX1_opcode 1 (some .int)])
def wsX1_waitsFor_r1 : List Cond := [Cond.methodLink RX1 9 yX1_rd, Cond.static yX1_rd, Cond.initialized RX1, Cond.code yX1_rd cX1_rd 1 (some .int), Cond.methodLink RX1 18 yX1_opcode, Cond.static yX1_opcode, Cond.code yX1_opcode cX1_opcode 1 (some .int), Cond.methodLink RX1 25 yX1_isLegal, Cond.static yX1_isLegal, Cond.code yX1_isLegal cX1_isLegal 2 (some .boolean), Cond.constant RX1 24 (1048691), Cond.methodLink RX1 15 yX1_f3, Cond.static yX1_f3, Cond.code yX1_f3 cX1_f3 1 (some .int), Cond.methodLink RX1 21 yX1_f7, Cond.static yX1_f7, Cond.code yX1_f7 cX1_f7 1 (some .int), Cond.methodLink RX1 29 yX1_readsRs1, Cond.static yX1_readsRs1, Cond.code yX1_readsRs1 cX1_readsRs1 1 (some .boolean), Cond.methodLink RX1 32 yX1_rs1, Cond.static yX1_rs1, Cond.code yX1_rs1 cX1_rs1 1 (some .int), Cond.methodLink RX1 35 yX1_readsRs2]
def wsX1_waitsFor_r2 : List Cond := [Cond.static yX1_readsRs2, Cond.code yX1_readsRs2 cX1_readsRs2 1 (some .boolean), Cond.methodLink RX1 38 yX1_rs2, Cond.static yX1_rs2, Cond.code yX1_rs2 cX1_rs2 1 (some .int)]
def wsX1_waitsFor : List Cond := .code yX1_waitsFor cX1_waitsFor 3 (some .boolean) :: ((wsX1_waitsFor_r1 ++ wsX1_waitsFor_r2))
def wsX2_toBeginning : List Cond := .code yX2_toBeginning cX2_toBeginning 1 none :: ([.fieldLink RX2 26 "PipeWorks" "clocks" "I", .fieldLink RX2 44 "PipeWorks" "wordsDone" "I", .fieldLink RX2 60 "PipeWorks" "latestDone" "I", .fieldLink RX2 54 "PipeWorks" "haltKind" "I", .fieldLink RX2 57 "PipeWorks" "haltAddress" "I", .fieldLink RX2 63 "PipeWorks" "pc" "I", .fieldLink RX2 66 "PipeWorks" "memoryClock" "I", .fieldLink RX2 69 "PipeWorks" "writePending" "Z"] ++ wsX20)
def wsX2_init : List Cond := .code yX2_init cX2_init 1 none :: ([.methodLink RX2 1 objectInit, .instanceMethod objectInit, .code objectInit ⟨#[0xb1]⟩ 1 none, .arrayClass .int, .fieldLink RX2 9 "PipeWorks" "words" "[I", .fieldLink RX2 13 "PipeWorks" "cells" "[I", .fieldLink RX2 16 "PipeWorks" "registers" "[I", .fieldLink RX2 19 "PipeWorks" "clocksInAll" "I", .methodLink RX2 23 yX2_toBeginning, .instanceMethod yX2_toBeginning, .selects RX2 yX2_toBeginning yX2_toBeginning, .initialized RX2, .code yX2_toBeginning cX2_toBeginning 1 none, .fieldLink RX2 26 "PipeWorks" "clocks" "I", .fieldLink RX2 44 "PipeWorks" "wordsDone" "I", .fieldLink RX2 60 "PipeWorks" "latestDone" "I", .fieldLink RX2 54 "PipeWorks" "haltKind" "I", .fieldLink RX2 57 "PipeWorks" "haltAddress" "I", .fieldLink RX2 63 "PipeWorks" "pc" "I", .fieldLink RX2 66 "PipeWorks" "memoryClock" "I", .fieldLink RX2 69 "PipeWorks" "writePending" "Z"] ++ wsX20)
def wsX2_word : List Cond := .code yX2_word cX2_word 3 (some .boolean) :: ([.fieldLink RX2 26 "PipeWorks" "clocks" "I", .fieldLink RX2 9 "PipeWorks" "words" "[I"] ++ wsX20)
def wsX2_data : List Cond := .code yX2_data cX2_data 3 (some .boolean) :: ([.fieldLink RX2 26 "PipeWorks" "clocks" "I", .fieldLink RX2 13 "PipeWorks" "cells" "[I"] ++ wsX20)
def wsX2_set : List Cond := .code yX2_set cX2_set 3 (some .boolean) :: ([.fieldLink RX2 26 "PipeWorks" "clocks" "I", .fieldLink RX2 16 "PipeWorks" "registers" "[I"] ++ wsX20)
def wsX2_reset : List Cond := .code yX2_reset cX2_reset 1 none :: ([.methodLink RX2 23 yX2_toBeginning, .instanceMethod yX2_toBeginning, .selects RX2 yX2_toBeginning yX2_toBeginning, .initialized RX2, .code yX2_toBeginning cX2_toBeginning 1 none, .fieldLink RX2 26 "PipeWorks" "clocks" "I", .fieldLink RX2 44 "PipeWorks" "wordsDone" "I", .fieldLink RX2 60 "PipeWorks" "latestDone" "I", .fieldLink RX2 54 "PipeWorks" "haltKind" "I", .fieldLink RX2 57 "PipeWorks" "haltAddress" "I", .fieldLink RX2 63 "PipeWorks" "pc" "I", .fieldLink RX2 66 "PipeWorks" "memoryClock" "I", .fieldLink RX2 69 "PipeWorks" "writePending" "Z"] ++ wsX20)
def wsX2_endWrite : List Cond := .code yX2_endWrite cX2_endWrite 1 none :: ([.fieldLink RX2 69 "PipeWorks" "writePending" "Z", .fieldLink RX2 79 "PipeWorks" "writeHalt" "I", .fieldLink RX2 54 "PipeWorks" "haltKind" "I", .fieldLink RX2 82 "PipeWorks" "writeAddress" "I", .fieldLink RX2 57 "PipeWorks" "haltAddress" "I", .fieldLink RX2 85 "PipeWorks" "writeRegister" "I", .fieldLink RX2 16 "PipeWorks" "registers" "[I", .fieldLink RX2 88 "PipeWorks" "writeValue" "I", .fieldLink RX2 44 "PipeWorks" "wordsDone" "I", .fieldLink RX2 60 "PipeWorks" "latestDone" "I"] ++ wsX20)
def wsX2_isBeyond : List Cond := .code yX2_isBeyond cX2_isBeyond 2 (some .boolean) :: ([])
def wsX2_wordAt : List Cond := .code yX2_wordAt cX2_wordAt 2 (some .int) :: ([.fieldLink RX2 9 "PipeWorks" "words" "[I", .methodLink RX2 140 yX2_isBeyond, .static yX2_isBeyond, .initialized RX2, .code yX2_isBeyond cX2_isBeyond 2 (some .boolean)] ++ wsX20)
def wsX2_rs1Of : List Cond := .code yX2_rs1Of cX2_rs1Of 2 (some .int) :: ([.fieldLink RX2 16 "PipeWorks" "registers" "[I", .methodLink RX2 174 yX1_rs1, .static yX1_rs1, .initialized RX1, .code yX1_rs1 cX1_rs1 1 (some .int)] ++ wsX20)
def wsX2_rs2Of : List Cond := .code yX2_rs2Of cX2_rs2Of 2 (some .int) :: ([.fieldLink RX2 16 "PipeWorks" "registers" "[I", .methodLink RX2 177 yX1_rs2, .static yX1_rs2, .initialized RX1, .code yX1_rs2 cX1_rs2 1 (some .int)] ++ wsX20)
def wsX2_jumps_r1 : List Cond := [Cond.methodLink RX2 110 yX1_opcode, Cond.static yX1_opcode, Cond.initialized RX1, Cond.code yX1_opcode cX1_opcode 1 (some .int), Cond.methodLink RX2 116 yX1_f3, Cond.static yX1_f3, Cond.code yX1_f3 cX1_f3 1 (some .int), Cond.methodLink RX2 153 yX2_rs1Of, Cond.instanceMethod yX2_rs1Of, Cond.selects RX2 yX2_rs1Of yX2_rs1Of, Cond.initialized RX2, Cond.code yX2_rs1Of cX2_rs1Of 2 (some .int), Cond.fieldLink RX2 16 "PipeWorks" "registers" "[I", Cond.methodLink RX2 174 yX1_rs1, Cond.static yX1_rs1, Cond.code yX1_rs1 cX1_rs1 1 (some .int), Cond.methodLink RX2 119 yX2_rs2Of, Cond.instanceMethod yX2_rs2Of, Cond.selects RX2 yX2_rs2Of yX2_rs2Of, Cond.code yX2_rs2Of cX2_rs2Of 2 (some .int), Cond.methodLink RX2 177 yX1_rs2, Cond.static yX1_rs2, Cond.code yX1_rs2 cX1_rs2 1 (some .int), Cond.methodLink RX2 156 yX0_branches]
def wsX2_jumps_r2 : List Cond := [Cond.static yX0_branches, Cond.initialized RX0, Cond.code yX0_branches cX0_branches 3 (some .boolean), Cond.methodLink RX0 7 yX0_isLessWithoutSigns, Cond.static yX0_isLessWithoutSigns, Cond.code yX0_isLessWithoutSigns cX0_isLessWithoutSigns 2 (some .boolean), Cond.constant RX0 13 (-2147483648)]
def wsX2_jumps : List Cond := .code yX2_jumps cX2_jumps 2 (some .boolean) :: ((wsX2_jumps_r1 ++ wsX2_jumps_r2) ++ wsX20)
def wsX2_targetOf : List Cond := .code yX2_targetOf cX2_targetOf 2 (some .int) :: ([.fieldLink RX2 63 "PipeWorks" "pc" "I", .methodLink RX2 110 yX1_opcode, .static yX1_opcode, .initialized RX1, .code yX1_opcode cX1_opcode 1 (some .int), .methodLink RX2 162 yX1_immediateJ, .static yX1_immediateJ, .code yX1_immediateJ cX1_immediateJ 1 (some .int), .methodLink RX2 153 yX2_rs1Of, .instanceMethod yX2_rs1Of, .selects RX2 yX2_rs1Of yX2_rs1Of, .initialized RX2, .code yX2_rs1Of cX2_rs1Of 2 (some .int), .fieldLink RX2 16 "PipeWorks" "registers" "[I", .methodLink RX2 174 yX1_rs1, .static yX1_rs1, .code yX1_rs1 cX1_rs1 1 (some .int), .methodLink RX2 165 yX1_immediateI, .static yX1_immediateI, .code yX1_immediateI cX1_immediateI 1 (some .int), .methodLink RX2 168 yX1_immediateB, .static yX1_immediateB, .code yX1_immediateB cX1_immediateB 1 (some .int)] ++ wsX20)
def wsX2_addressOf : List Cond := .code yX2_addressOf cX2_addressOf 2 (some .int) :: ([.methodLink RX2 153 yX2_rs1Of, .instanceMethod yX2_rs1Of, .selects RX2 yX2_rs1Of yX2_rs1Of, .initialized RX2, .code yX2_rs1Of cX2_rs1Of 2 (some .int), .fieldLink RX2 16 "PipeWorks" "registers" "[I", .methodLink RX2 174 yX1_rs1, .static yX1_rs1, .initialized RX1, .code yX1_rs1 cX1_rs1 1 (some .int), .methodLink RX2 110 yX1_opcode, .static yX1_opcode, .code yX1_opcode cX1_opcode 1 (some .int), .methodLink RX2 171 yX1_immediateS, .static yX1_immediateS, .code yX1_immediateS cX1_immediateS 1 (some .int), .methodLink RX1 9 yX1_rd, .static yX1_rd, .code yX1_rd cX1_rd 1 (some .int), .methodLink RX2 165 yX1_immediateI, .static yX1_immediateI, .code yX1_immediateI cX1_immediateI 1 (some .int)] ++ wsX20)
def wsX2_haltOfAccess : List Cond := .code yX2_haltOfAccess cX2_haltOfAccess 2 (some .int) :: ([.methodLink RX2 140 yX2_isBeyond, .static yX2_isBeyond, .initialized RX2, .code yX2_isBeyond cX2_isBeyond 2 (some .boolean)])
def wsX2_haltOf_r1 : List Cond := [Cond.fieldLink RX2 63 "PipeWorks" "pc" "I", Cond.methodLink RX2 140 yX2_isBeyond, Cond.static yX2_isBeyond, Cond.initialized RX2, Cond.code yX2_isBeyond cX2_isBeyond 2 (some .boolean), Cond.methodLink RX2 143 yX1_isLegal, Cond.static yX1_isLegal, Cond.initialized RX1, Cond.code yX1_isLegal cX1_isLegal 2 (some .boolean), Cond.constant RX1 24 (1048691), Cond.methodLink RX1 15 yX1_f3, Cond.static yX1_f3, Cond.code yX1_f3 cX1_f3 1 (some .int), Cond.methodLink RX1 18 yX1_opcode, Cond.static yX1_opcode, Cond.code yX1_opcode cX1_opcode 1 (some .int), Cond.methodLink RX1 21 yX1_f7, Cond.static yX1_f7, Cond.code yX1_f7 cX1_f7 1 (some .int), Cond.methodLink RX2 110 yX1_opcode, Cond.methodLink RX2 130 yX2_jumps, Cond.instanceMethod yX2_jumps, Cond.selects RX2 yX2_jumps yX2_jumps, Cond.code yX2_jumps cX2_jumps 2 (some .boolean)]
def wsX2_haltOf_r2 : List Cond := [Cond.methodLink RX2 116 yX1_f3, Cond.methodLink RX2 153 yX2_rs1Of, Cond.instanceMethod yX2_rs1Of, Cond.selects RX2 yX2_rs1Of yX2_rs1Of, Cond.code yX2_rs1Of cX2_rs1Of 2 (some .int), Cond.fieldLink RX2 16 "PipeWorks" "registers" "[I", Cond.methodLink RX2 174 yX1_rs1, Cond.static yX1_rs1, Cond.code yX1_rs1 cX1_rs1 1 (some .int), Cond.methodLink RX2 119 yX2_rs2Of, Cond.instanceMethod yX2_rs2Of, Cond.selects RX2 yX2_rs2Of yX2_rs2Of, Cond.code yX2_rs2Of cX2_rs2Of 2 (some .int), Cond.methodLink RX2 177 yX1_rs2, Cond.static yX1_rs2, Cond.code yX1_rs2 cX1_rs2 1 (some .int), Cond.methodLink RX2 156 yX0_branches, Cond.static yX0_branches, Cond.initialized RX0, Cond.code yX0_branches cX0_branches 3 (some .boolean), Cond.methodLink RX0 7 yX0_isLessWithoutSigns, Cond.static yX0_isLessWithoutSigns, Cond.code yX0_isLessWithoutSigns cX0_isLessWithoutSigns 2 (some .boolean), Cond.constant RX0 13 (-2147483648)]
def wsX2_haltOf_r3 : List Cond := [Cond.methodLink RX2 133 yX2_targetOf, Cond.instanceMethod yX2_targetOf, Cond.selects RX2 yX2_targetOf yX2_targetOf, Cond.code yX2_targetOf cX2_targetOf 2 (some .int), Cond.methodLink RX2 162 yX1_immediateJ, Cond.static yX1_immediateJ, Cond.code yX1_immediateJ cX1_immediateJ 1 (some .int), Cond.methodLink RX2 165 yX1_immediateI, Cond.static yX1_immediateI, Cond.code yX1_immediateI cX1_immediateI 1 (some .int), Cond.methodLink RX2 168 yX1_immediateB, Cond.static yX1_immediateB, Cond.code yX1_immediateB cX1_immediateB 1 (some .int), Cond.methodLink RX2 113 yX2_addressOf, Cond.instanceMethod yX2_addressOf, Cond.selects RX2 yX2_addressOf yX2_addressOf, Cond.code yX2_addressOf cX2_addressOf 2 (some .int), Cond.methodLink RX2 171 yX1_immediateS, Cond.static yX1_immediateS, Cond.code yX1_immediateS cX1_immediateS 1 (some .int), Cond.methodLink RX1 9 yX1_rd, Cond.static yX1_rd, Cond.code yX1_rd cX1_rd 1 (some .int), Cond.methodLink RX2 146 yX1_accessBytes]
def wsX2_haltOf_r4 : List Cond := [Cond.static yX1_accessBytes, Cond.code yX1_accessBytes cX1_accessBytes 1 (some .int), Cond.methodLink RX2 149 yX2_haltOfAccess, Cond.static yX2_haltOfAccess, Cond.code yX2_haltOfAccess cX2_haltOfAccess 2 (some .int)]
def wsX2_haltOf : List Cond := .code yX2_haltOf cX2_haltOf 2 (some .int) :: ((wsX2_haltOf_r1 ++ (wsX2_haltOf_r2 ++ (wsX2_haltOf_r3 ++ wsX2_haltOf_r4))) ++ wsX20)
def wsX2_cellOf : List Cond := .code yX2_cellOf cX2_cellOf 1 (some .int) :: ([])
def wsX2_shiftOf : List Cond := .code yX2_shiftOf cX2_shiftOf 1 (some .int) :: ([])
def wsX2_loadAt : List Cond := .code yX2_loadAt cX2_loadAt 4 (some .int) :: ([.fieldLink RX2 13 "PipeWorks" "cells" "[I", .constant RX2 199 (65535), .methodLink RX2 193 yX2_cellOf, .static yX2_cellOf, .initialized RX2, .code yX2_cellOf cX2_cellOf 1 (some .int), .methodLink RX2 196 yX2_shiftOf, .static yX2_shiftOf, .code yX2_shiftOf cX2_shiftOf 1 (some .int)] ++ wsX20)
def wsX2_resultOf_r1 : List Cond := [Cond.fieldLink RX2 63 "PipeWorks" "pc" "I", Cond.methodLink RX2 110 yX1_opcode, Cond.static yX1_opcode, Cond.initialized RX1, Cond.code yX1_opcode cX1_opcode 1 (some .int), Cond.methodLink RX2 180 yX1_immediateU, Cond.static yX1_immediateU, Cond.code yX1_immediateU cX1_immediateU 1 (some .int), Cond.methodLink RX2 113 yX2_addressOf, Cond.instanceMethod yX2_addressOf, Cond.selects RX2 yX2_addressOf yX2_addressOf, Cond.initialized RX2, Cond.code yX2_addressOf cX2_addressOf 2 (some .int), Cond.methodLink RX2 153 yX2_rs1Of, Cond.instanceMethod yX2_rs1Of, Cond.selects RX2 yX2_rs1Of yX2_rs1Of, Cond.code yX2_rs1Of cX2_rs1Of 2 (some .int), Cond.fieldLink RX2 16 "PipeWorks" "registers" "[I", Cond.methodLink RX2 174 yX1_rs1, Cond.static yX1_rs1, Cond.code yX1_rs1 cX1_rs1 1 (some .int), Cond.methodLink RX2 171 yX1_immediateS, Cond.static yX1_immediateS, Cond.code yX1_immediateS cX1_immediateS 1 (some .int)]
def wsX2_resultOf_r2 : List Cond := [Cond.methodLink RX1 9 yX1_rd, Cond.static yX1_rd, Cond.code yX1_rd cX1_rd 1 (some .int), Cond.methodLink RX2 165 yX1_immediateI, Cond.static yX1_immediateI, Cond.code yX1_immediateI cX1_immediateI 1 (some .int), Cond.methodLink RX2 116 yX1_f3, Cond.static yX1_f3, Cond.code yX1_f3 cX1_f3 1 (some .int), Cond.methodLink RX2 183 yX2_loadAt, Cond.instanceMethod yX2_loadAt, Cond.selects RX2 yX2_loadAt yX2_loadAt, Cond.code yX2_loadAt cX2_loadAt 4 (some .int), Cond.fieldLink RX2 13 "PipeWorks" "cells" "[I", Cond.constant RX2 199 (65535), Cond.methodLink RX2 193 yX2_cellOf, Cond.static yX2_cellOf, Cond.code yX2_cellOf cX2_cellOf 1 (some .int), Cond.methodLink RX2 196 yX2_shiftOf, Cond.static yX2_shiftOf, Cond.code yX2_shiftOf cX2_shiftOf 1 (some .int), Cond.methodLink RX2 186 yX1_f7, Cond.static yX1_f7, Cond.code yX1_f7 cX1_f7 1 (some .int)]
def wsX2_resultOf_r3 : List Cond := [Cond.methodLink RX2 189 yX0_result, Cond.static yX0_result, Cond.initialized RX0, Cond.code yX0_result cX0_result 4 (some .int), Cond.methodLink RX0 7 yX0_isLessWithoutSigns, Cond.static yX0_isLessWithoutSigns, Cond.code yX0_isLessWithoutSigns cX0_isLessWithoutSigns 2 (some .boolean), Cond.constant RX0 13 (-2147483648), Cond.methodLink RX2 119 yX2_rs2Of, Cond.instanceMethod yX2_rs2Of, Cond.selects RX2 yX2_rs2Of yX2_rs2Of, Cond.code yX2_rs2Of cX2_rs2Of 2 (some .int), Cond.methodLink RX2 177 yX1_rs2, Cond.static yX1_rs2, Cond.code yX1_rs2 cX1_rs2 1 (some .int)]
def wsX2_resultOf : List Cond := .code yX2_resultOf cX2_resultOf 2 (some .int) :: ((wsX2_resultOf_r1 ++ (wsX2_resultOf_r2 ++ wsX2_resultOf_r3)) ++ wsX20)
def wsX2_storeAt : List Cond := .code yX2_storeAt cX2_storeAt 7 none :: ([.constant RX2 199 (65535), .fieldLink RX2 13 "PipeWorks" "cells" "[I", .methodLink RX2 193 yX2_cellOf, .static yX2_cellOf, .initialized RX2, .code yX2_cellOf cX2_cellOf 1 (some .int), .methodLink RX2 196 yX2_shiftOf, .static yX2_shiftOf, .code yX2_shiftOf cX2_shiftOf 1 (some .int)] ++ wsX20)
def wsX2_goOn_r1 : List Cond := [Cond.fieldLink RX2 63 "PipeWorks" "pc" "I", Cond.fieldLink RX2 66 "PipeWorks" "memoryClock" "I", Cond.methodLink RX2 130 yX2_jumps, Cond.instanceMethod yX2_jumps, Cond.selects RX2 yX2_jumps yX2_jumps, Cond.initialized RX2, Cond.code yX2_jumps cX2_jumps 2 (some .boolean), Cond.methodLink RX2 110 yX1_opcode, Cond.static yX1_opcode, Cond.initialized RX1, Cond.code yX1_opcode cX1_opcode 1 (some .int), Cond.methodLink RX2 116 yX1_f3, Cond.static yX1_f3, Cond.code yX1_f3 cX1_f3 1 (some .int), Cond.methodLink RX2 153 yX2_rs1Of, Cond.instanceMethod yX2_rs1Of, Cond.selects RX2 yX2_rs1Of yX2_rs1Of, Cond.code yX2_rs1Of cX2_rs1Of 2 (some .int), Cond.fieldLink RX2 16 "PipeWorks" "registers" "[I", Cond.methodLink RX2 174 yX1_rs1, Cond.static yX1_rs1, Cond.code yX1_rs1 cX1_rs1 1 (some .int), Cond.methodLink RX2 119 yX2_rs2Of, Cond.instanceMethod yX2_rs2Of]
def wsX2_goOn_r2 : List Cond := [Cond.selects RX2 yX2_rs2Of yX2_rs2Of, Cond.code yX2_rs2Of cX2_rs2Of 2 (some .int), Cond.methodLink RX2 177 yX1_rs2, Cond.static yX1_rs2, Cond.code yX1_rs2 cX1_rs2 1 (some .int), Cond.methodLink RX2 156 yX0_branches, Cond.static yX0_branches, Cond.initialized RX0, Cond.code yX0_branches cX0_branches 3 (some .boolean), Cond.methodLink RX0 7 yX0_isLessWithoutSigns, Cond.static yX0_isLessWithoutSigns, Cond.code yX0_isLessWithoutSigns cX0_isLessWithoutSigns 2 (some .boolean), Cond.constant RX0 13 (-2147483648), Cond.methodLink RX2 133 yX2_targetOf, Cond.instanceMethod yX2_targetOf, Cond.selects RX2 yX2_targetOf yX2_targetOf, Cond.code yX2_targetOf cX2_targetOf 2 (some .int), Cond.methodLink RX2 162 yX1_immediateJ, Cond.static yX1_immediateJ, Cond.code yX1_immediateJ cX1_immediateJ 1 (some .int), Cond.methodLink RX2 165 yX1_immediateI, Cond.static yX1_immediateI, Cond.code yX1_immediateI cX1_immediateI 1 (some .int), Cond.methodLink RX2 168 yX1_immediateB]
def wsX2_goOn_r3 : List Cond := [Cond.static yX1_immediateB, Cond.code yX1_immediateB cX1_immediateB 1 (some .int), Cond.methodLink RX2 91 yX2_wordAt, Cond.instanceMethod yX2_wordAt, Cond.selects RX2 yX2_wordAt yX2_wordAt, Cond.code yX2_wordAt cX2_wordAt 2 (some .int), Cond.fieldLink RX2 9 "PipeWorks" "words" "[I", Cond.methodLink RX2 140 yX2_isBeyond, Cond.static yX2_isBeyond, Cond.code yX2_isBeyond cX2_isBeyond 2 (some .boolean), Cond.methodLink RX2 136 yX1_waitsFor, Cond.static yX1_waitsFor, Cond.code yX1_waitsFor cX1_waitsFor 3 (some .boolean), Cond.methodLink RX1 9 yX1_rd, Cond.static yX1_rd, Cond.code yX1_rd cX1_rd 1 (some .int), Cond.methodLink RX1 18 yX1_opcode, Cond.methodLink RX1 25 yX1_isLegal, Cond.static yX1_isLegal, Cond.code yX1_isLegal cX1_isLegal 2 (some .boolean), Cond.constant RX1 24 (1048691), Cond.methodLink RX1 15 yX1_f3, Cond.methodLink RX1 21 yX1_f7, Cond.static yX1_f7]
def wsX2_goOn_r4 : List Cond := [Cond.code yX1_f7 cX1_f7 1 (some .int), Cond.methodLink RX1 29 yX1_readsRs1, Cond.static yX1_readsRs1, Cond.code yX1_readsRs1 cX1_readsRs1 1 (some .boolean), Cond.methodLink RX1 32 yX1_rs1, Cond.methodLink RX1 35 yX1_readsRs2, Cond.static yX1_readsRs2, Cond.code yX1_readsRs2 cX1_readsRs2 1 (some .boolean), Cond.methodLink RX1 38 yX1_rs2]
def wsX2_goOn : List Cond := .code yX2_goOn cX2_goOn 2 none :: ((wsX2_goOn_r1 ++ (wsX2_goOn_r2 ++ (wsX2_goOn_r3 ++ wsX2_goOn_r4))) ++ wsX20)
def wsX2_endMemory_r1 : List Cond := [Cond.fieldLink RX2 63 "PipeWorks" "pc" "I", Cond.fieldLink RX2 69 "PipeWorks" "writePending" "Z", Cond.fieldLink RX2 82 "PipeWorks" "writeAddress" "I", Cond.fieldLink RX2 79 "PipeWorks" "writeHalt" "I", Cond.fieldLink RX2 85 "PipeWorks" "writeRegister" "I", Cond.fieldLink RX2 88 "PipeWorks" "writeValue" "I", Cond.methodLink RX2 91 yX2_wordAt, Cond.instanceMethod yX2_wordAt, Cond.selects RX2 yX2_wordAt yX2_wordAt, Cond.initialized RX2, Cond.code yX2_wordAt cX2_wordAt 2 (some .int), Cond.fieldLink RX2 9 "PipeWorks" "words" "[I", Cond.methodLink RX2 140 yX2_isBeyond, Cond.static yX2_isBeyond, Cond.code yX2_isBeyond cX2_isBeyond 2 (some .boolean), Cond.methodLink RX2 95 yX2_haltOf, Cond.instanceMethod yX2_haltOf, Cond.selects RX2 yX2_haltOf yX2_haltOf, Cond.code yX2_haltOf cX2_haltOf 2 (some .int), Cond.methodLink RX2 143 yX1_isLegal, Cond.static yX1_isLegal, Cond.initialized RX1, Cond.code yX1_isLegal cX1_isLegal 2 (some .boolean), Cond.constant RX1 24 (1048691)]
def wsX2_endMemory_r2 : List Cond := [Cond.methodLink RX1 15 yX1_f3, Cond.static yX1_f3, Cond.code yX1_f3 cX1_f3 1 (some .int), Cond.methodLink RX1 18 yX1_opcode, Cond.static yX1_opcode, Cond.code yX1_opcode cX1_opcode 1 (some .int), Cond.methodLink RX1 21 yX1_f7, Cond.static yX1_f7, Cond.code yX1_f7 cX1_f7 1 (some .int), Cond.methodLink RX2 110 yX1_opcode, Cond.methodLink RX2 130 yX2_jumps, Cond.instanceMethod yX2_jumps, Cond.selects RX2 yX2_jumps yX2_jumps, Cond.code yX2_jumps cX2_jumps 2 (some .boolean), Cond.methodLink RX2 116 yX1_f3, Cond.methodLink RX2 153 yX2_rs1Of, Cond.instanceMethod yX2_rs1Of, Cond.selects RX2 yX2_rs1Of yX2_rs1Of, Cond.code yX2_rs1Of cX2_rs1Of 2 (some .int), Cond.fieldLink RX2 16 "PipeWorks" "registers" "[I", Cond.methodLink RX2 174 yX1_rs1, Cond.static yX1_rs1, Cond.code yX1_rs1 cX1_rs1 1 (some .int), Cond.methodLink RX2 119 yX2_rs2Of]
def wsX2_endMemory_r3 : List Cond := [Cond.instanceMethod yX2_rs2Of, Cond.selects RX2 yX2_rs2Of yX2_rs2Of, Cond.code yX2_rs2Of cX2_rs2Of 2 (some .int), Cond.methodLink RX2 177 yX1_rs2, Cond.static yX1_rs2, Cond.code yX1_rs2 cX1_rs2 1 (some .int), Cond.methodLink RX2 156 yX0_branches, Cond.static yX0_branches, Cond.initialized RX0, Cond.code yX0_branches cX0_branches 3 (some .boolean), Cond.methodLink RX0 7 yX0_isLessWithoutSigns, Cond.static yX0_isLessWithoutSigns, Cond.code yX0_isLessWithoutSigns cX0_isLessWithoutSigns 2 (some .boolean), Cond.constant RX0 13 (-2147483648), Cond.methodLink RX2 133 yX2_targetOf, Cond.instanceMethod yX2_targetOf, Cond.selects RX2 yX2_targetOf yX2_targetOf, Cond.code yX2_targetOf cX2_targetOf 2 (some .int), Cond.methodLink RX2 162 yX1_immediateJ, Cond.static yX1_immediateJ, Cond.code yX1_immediateJ cX1_immediateJ 1 (some .int), Cond.methodLink RX2 165 yX1_immediateI, Cond.static yX1_immediateI, Cond.code yX1_immediateI cX1_immediateI 1 (some .int)]
def wsX2_endMemory_r4 : List Cond := [Cond.methodLink RX2 168 yX1_immediateB, Cond.static yX1_immediateB, Cond.code yX1_immediateB cX1_immediateB 1 (some .int), Cond.methodLink RX2 113 yX2_addressOf, Cond.instanceMethod yX2_addressOf, Cond.selects RX2 yX2_addressOf yX2_addressOf, Cond.code yX2_addressOf cX2_addressOf 2 (some .int), Cond.methodLink RX2 171 yX1_immediateS, Cond.static yX1_immediateS, Cond.code yX1_immediateS cX1_immediateS 1 (some .int), Cond.methodLink RX1 9 yX1_rd, Cond.static yX1_rd, Cond.code yX1_rd cX1_rd 1 (some .int), Cond.methodLink RX2 146 yX1_accessBytes, Cond.static yX1_accessBytes, Cond.code yX1_accessBytes cX1_accessBytes 1 (some .int), Cond.methodLink RX2 149 yX2_haltOfAccess, Cond.static yX2_haltOfAccess, Cond.code yX2_haltOfAccess cX2_haltOfAccess 2 (some .int), Cond.methodLink RX2 98 yX1_writesRd, Cond.static yX1_writesRd, Cond.code yX1_writesRd cX1_writesRd 1 (some .boolean), Cond.methodLink RX2 104 yX1_rd, Cond.methodLink RX2 107 yX2_resultOf]
def wsX2_endMemory_r5 : List Cond := [Cond.instanceMethod yX2_resultOf, Cond.selects RX2 yX2_resultOf yX2_resultOf, Cond.code yX2_resultOf cX2_resultOf 2 (some .int), Cond.methodLink RX2 180 yX1_immediateU, Cond.static yX1_immediateU, Cond.code yX1_immediateU cX1_immediateU 1 (some .int), Cond.methodLink RX2 183 yX2_loadAt, Cond.instanceMethod yX2_loadAt, Cond.selects RX2 yX2_loadAt yX2_loadAt, Cond.code yX2_loadAt cX2_loadAt 4 (some .int), Cond.fieldLink RX2 13 "PipeWorks" "cells" "[I", Cond.constant RX2 199 (65535), Cond.methodLink RX2 193 yX2_cellOf, Cond.static yX2_cellOf, Cond.code yX2_cellOf cX2_cellOf 1 (some .int), Cond.methodLink RX2 196 yX2_shiftOf, Cond.static yX2_shiftOf, Cond.code yX2_shiftOf cX2_shiftOf 1 (some .int), Cond.methodLink RX2 186 yX1_f7, Cond.methodLink RX2 189 yX0_result, Cond.static yX0_result, Cond.code yX0_result cX0_result 4 (some .int), Cond.methodLink RX2 122 yX2_storeAt, Cond.instanceMethod yX2_storeAt]
def wsX2_endMemory_r6 : List Cond := [Cond.selects RX2 yX2_storeAt yX2_storeAt, Cond.code yX2_storeAt cX2_storeAt 7 none, Cond.methodLink RX2 126 yX2_goOn, Cond.instanceMethod yX2_goOn, Cond.selects RX2 yX2_goOn yX2_goOn, Cond.code yX2_goOn cX2_goOn 2 none, Cond.fieldLink RX2 66 "PipeWorks" "memoryClock" "I", Cond.methodLink RX2 136 yX1_waitsFor, Cond.static yX1_waitsFor, Cond.code yX1_waitsFor cX1_waitsFor 3 (some .boolean), Cond.methodLink RX1 25 yX1_isLegal, Cond.methodLink RX1 29 yX1_readsRs1, Cond.static yX1_readsRs1, Cond.code yX1_readsRs1 cX1_readsRs1 1 (some .boolean), Cond.methodLink RX1 32 yX1_rs1, Cond.methodLink RX1 35 yX1_readsRs2, Cond.static yX1_readsRs2, Cond.code yX1_readsRs2 cX1_readsRs2 1 (some .boolean), Cond.methodLink RX1 38 yX1_rs2]
def wsX2_endMemory : List Cond := .code yX2_endMemory cX2_endMemory 2 none :: ((wsX2_endMemory_r1 ++ (wsX2_endMemory_r2 ++ (wsX2_endMemory_r3 ++ (wsX2_endMemory_r4 ++ (wsX2_endMemory_r5 ++ wsX2_endMemory_r6))))) ++ wsX20)
def wsX2_oneClock_r1 : List Cond := [Cond.fieldLink RX2 26 "PipeWorks" "clocks" "I", Cond.fieldLink RX2 19 "PipeWorks" "clocksInAll" "I", Cond.fieldLink RX2 69 "PipeWorks" "writePending" "Z", Cond.fieldLink RX2 66 "PipeWorks" "memoryClock" "I", Cond.methodLink RX2 73 yX2_endWrite, Cond.instanceMethod yX2_endWrite, Cond.selects RX2 yX2_endWrite yX2_endWrite, Cond.initialized RX2, Cond.code yX2_endWrite cX2_endWrite 1 none, Cond.fieldLink RX2 79 "PipeWorks" "writeHalt" "I", Cond.fieldLink RX2 54 "PipeWorks" "haltKind" "I", Cond.fieldLink RX2 82 "PipeWorks" "writeAddress" "I", Cond.fieldLink RX2 57 "PipeWorks" "haltAddress" "I", Cond.fieldLink RX2 85 "PipeWorks" "writeRegister" "I", Cond.fieldLink RX2 16 "PipeWorks" "registers" "[I", Cond.fieldLink RX2 88 "PipeWorks" "writeValue" "I", Cond.fieldLink RX2 44 "PipeWorks" "wordsDone" "I", Cond.fieldLink RX2 60 "PipeWorks" "latestDone" "I", Cond.methodLink RX2 76 yX2_endMemory, Cond.instanceMethod yX2_endMemory, Cond.selects RX2 yX2_endMemory yX2_endMemory, Cond.code yX2_endMemory cX2_endMemory 2 none, Cond.fieldLink RX2 63 "PipeWorks" "pc" "I", Cond.methodLink RX2 91 yX2_wordAt]
def wsX2_oneClock_r2 : List Cond := [Cond.instanceMethod yX2_wordAt, Cond.selects RX2 yX2_wordAt yX2_wordAt, Cond.code yX2_wordAt cX2_wordAt 2 (some .int), Cond.fieldLink RX2 9 "PipeWorks" "words" "[I", Cond.methodLink RX2 140 yX2_isBeyond, Cond.static yX2_isBeyond, Cond.code yX2_isBeyond cX2_isBeyond 2 (some .boolean), Cond.methodLink RX2 95 yX2_haltOf, Cond.instanceMethod yX2_haltOf, Cond.selects RX2 yX2_haltOf yX2_haltOf, Cond.code yX2_haltOf cX2_haltOf 2 (some .int), Cond.methodLink RX2 143 yX1_isLegal, Cond.static yX1_isLegal, Cond.initialized RX1, Cond.code yX1_isLegal cX1_isLegal 2 (some .boolean), Cond.constant RX1 24 (1048691), Cond.methodLink RX1 15 yX1_f3, Cond.static yX1_f3, Cond.code yX1_f3 cX1_f3 1 (some .int), Cond.methodLink RX1 18 yX1_opcode, Cond.static yX1_opcode, Cond.code yX1_opcode cX1_opcode 1 (some .int), Cond.methodLink RX1 21 yX1_f7, Cond.static yX1_f7]
def wsX2_oneClock_r3 : List Cond := [Cond.code yX1_f7 cX1_f7 1 (some .int), Cond.methodLink RX2 110 yX1_opcode, Cond.methodLink RX2 130 yX2_jumps, Cond.instanceMethod yX2_jumps, Cond.selects RX2 yX2_jumps yX2_jumps, Cond.code yX2_jumps cX2_jumps 2 (some .boolean), Cond.methodLink RX2 116 yX1_f3, Cond.methodLink RX2 153 yX2_rs1Of, Cond.instanceMethod yX2_rs1Of, Cond.selects RX2 yX2_rs1Of yX2_rs1Of, Cond.code yX2_rs1Of cX2_rs1Of 2 (some .int), Cond.methodLink RX2 174 yX1_rs1, Cond.static yX1_rs1, Cond.code yX1_rs1 cX1_rs1 1 (some .int), Cond.methodLink RX2 119 yX2_rs2Of, Cond.instanceMethod yX2_rs2Of, Cond.selects RX2 yX2_rs2Of yX2_rs2Of, Cond.code yX2_rs2Of cX2_rs2Of 2 (some .int), Cond.methodLink RX2 177 yX1_rs2, Cond.static yX1_rs2, Cond.code yX1_rs2 cX1_rs2 1 (some .int), Cond.methodLink RX2 156 yX0_branches, Cond.static yX0_branches, Cond.initialized RX0]
def wsX2_oneClock_r4 : List Cond := [Cond.code yX0_branches cX0_branches 3 (some .boolean), Cond.methodLink RX0 7 yX0_isLessWithoutSigns, Cond.static yX0_isLessWithoutSigns, Cond.code yX0_isLessWithoutSigns cX0_isLessWithoutSigns 2 (some .boolean), Cond.constant RX0 13 (-2147483648), Cond.methodLink RX2 133 yX2_targetOf, Cond.instanceMethod yX2_targetOf, Cond.selects RX2 yX2_targetOf yX2_targetOf, Cond.code yX2_targetOf cX2_targetOf 2 (some .int), Cond.methodLink RX2 162 yX1_immediateJ, Cond.static yX1_immediateJ, Cond.code yX1_immediateJ cX1_immediateJ 1 (some .int), Cond.methodLink RX2 165 yX1_immediateI, Cond.static yX1_immediateI, Cond.code yX1_immediateI cX1_immediateI 1 (some .int), Cond.methodLink RX2 168 yX1_immediateB, Cond.static yX1_immediateB, Cond.code yX1_immediateB cX1_immediateB 1 (some .int), Cond.methodLink RX2 113 yX2_addressOf, Cond.instanceMethod yX2_addressOf, Cond.selects RX2 yX2_addressOf yX2_addressOf, Cond.code yX2_addressOf cX2_addressOf 2 (some .int), Cond.methodLink RX2 171 yX1_immediateS, Cond.static yX1_immediateS]
def wsX2_oneClock_r5 : List Cond := [Cond.code yX1_immediateS cX1_immediateS 1 (some .int), Cond.methodLink RX1 9 yX1_rd, Cond.static yX1_rd, Cond.code yX1_rd cX1_rd 1 (some .int), Cond.methodLink RX2 146 yX1_accessBytes, Cond.static yX1_accessBytes, Cond.code yX1_accessBytes cX1_accessBytes 1 (some .int), Cond.methodLink RX2 149 yX2_haltOfAccess, Cond.static yX2_haltOfAccess, Cond.code yX2_haltOfAccess cX2_haltOfAccess 2 (some .int), Cond.methodLink RX2 98 yX1_writesRd, Cond.static yX1_writesRd, Cond.code yX1_writesRd cX1_writesRd 1 (some .boolean), Cond.methodLink RX2 104 yX1_rd, Cond.methodLink RX2 107 yX2_resultOf, Cond.instanceMethod yX2_resultOf, Cond.selects RX2 yX2_resultOf yX2_resultOf, Cond.code yX2_resultOf cX2_resultOf 2 (some .int), Cond.methodLink RX2 180 yX1_immediateU, Cond.static yX1_immediateU, Cond.code yX1_immediateU cX1_immediateU 1 (some .int), Cond.methodLink RX2 183 yX2_loadAt, Cond.instanceMethod yX2_loadAt, Cond.selects RX2 yX2_loadAt yX2_loadAt]
def wsX2_oneClock_r6 : List Cond := [Cond.code yX2_loadAt cX2_loadAt 4 (some .int), Cond.fieldLink RX2 13 "PipeWorks" "cells" "[I", Cond.constant RX2 199 (65535), Cond.methodLink RX2 193 yX2_cellOf, Cond.static yX2_cellOf, Cond.code yX2_cellOf cX2_cellOf 1 (some .int), Cond.methodLink RX2 196 yX2_shiftOf, Cond.static yX2_shiftOf, Cond.code yX2_shiftOf cX2_shiftOf 1 (some .int), Cond.methodLink RX2 186 yX1_f7, Cond.methodLink RX2 189 yX0_result, Cond.static yX0_result, Cond.code yX0_result cX0_result 4 (some .int), Cond.methodLink RX2 122 yX2_storeAt, Cond.instanceMethod yX2_storeAt, Cond.selects RX2 yX2_storeAt yX2_storeAt, Cond.code yX2_storeAt cX2_storeAt 7 none, Cond.methodLink RX2 126 yX2_goOn, Cond.instanceMethod yX2_goOn, Cond.selects RX2 yX2_goOn yX2_goOn, Cond.code yX2_goOn cX2_goOn 2 none, Cond.methodLink RX2 136 yX1_waitsFor, Cond.static yX1_waitsFor, Cond.code yX1_waitsFor cX1_waitsFor 3 (some .boolean)]
def wsX2_oneClock_r7 : List Cond := [Cond.methodLink RX1 25 yX1_isLegal, Cond.methodLink RX1 29 yX1_readsRs1, Cond.static yX1_readsRs1, Cond.code yX1_readsRs1 cX1_readsRs1 1 (some .boolean), Cond.methodLink RX1 32 yX1_rs1, Cond.methodLink RX1 35 yX1_readsRs2, Cond.static yX1_readsRs2, Cond.code yX1_readsRs2 cX1_readsRs2 1 (some .boolean), Cond.methodLink RX1 38 yX1_rs2]
def wsX2_oneClock : List Cond := .code yX2_oneClock cX2_oneClock 1 none :: ((wsX2_oneClock_r1 ++ (wsX2_oneClock_r2 ++ (wsX2_oneClock_r3 ++ (wsX2_oneClock_r4 ++ (wsX2_oneClock_r5 ++ (wsX2_oneClock_r6 ++ wsX2_oneClock_r7)))))) ++ wsX20)
def wsX2_clock_r1 : List Cond := [Cond.classLink RX2 29 "java/lang/IllegalArgumentException", Cond.initialized "java/lang/IllegalArgumentException", Cond.classLink RX2 36 "java/lang/IllegalStateException", Cond.initialized "java/lang/IllegalStateException", Cond.fieldLink RX2 19 "PipeWorks" "clocksInAll" "I", Cond.fieldLink RX2 44 "PipeWorks" "wordsDone" "I", Cond.methodLink RX2 41 yX2_oneClock, Cond.instanceMethod yX2_oneClock, Cond.selects RX2 yX2_oneClock yX2_oneClock, Cond.initialized RX2, Cond.code yX2_oneClock cX2_oneClock 1 none, Cond.fieldLink RX2 26 "PipeWorks" "clocks" "I", Cond.fieldLink RX2 69 "PipeWorks" "writePending" "Z", Cond.fieldLink RX2 66 "PipeWorks" "memoryClock" "I", Cond.methodLink RX2 73 yX2_endWrite, Cond.instanceMethod yX2_endWrite, Cond.selects RX2 yX2_endWrite yX2_endWrite, Cond.code yX2_endWrite cX2_endWrite 1 none, Cond.fieldLink RX2 79 "PipeWorks" "writeHalt" "I", Cond.fieldLink RX2 54 "PipeWorks" "haltKind" "I", Cond.fieldLink RX2 82 "PipeWorks" "writeAddress" "I", Cond.fieldLink RX2 57 "PipeWorks" "haltAddress" "I", Cond.fieldLink RX2 85 "PipeWorks" "writeRegister" "I", Cond.fieldLink RX2 16 "PipeWorks" "registers" "[I"]
def wsX2_clock_r2 : List Cond := [Cond.fieldLink RX2 88 "PipeWorks" "writeValue" "I", Cond.fieldLink RX2 60 "PipeWorks" "latestDone" "I", Cond.methodLink RX2 76 yX2_endMemory, Cond.instanceMethod yX2_endMemory, Cond.selects RX2 yX2_endMemory yX2_endMemory, Cond.code yX2_endMemory cX2_endMemory 2 none, Cond.fieldLink RX2 63 "PipeWorks" "pc" "I", Cond.methodLink RX2 91 yX2_wordAt, Cond.instanceMethod yX2_wordAt, Cond.selects RX2 yX2_wordAt yX2_wordAt, Cond.code yX2_wordAt cX2_wordAt 2 (some .int), Cond.fieldLink RX2 9 "PipeWorks" "words" "[I", Cond.methodLink RX2 140 yX2_isBeyond, Cond.static yX2_isBeyond, Cond.code yX2_isBeyond cX2_isBeyond 2 (some .boolean), Cond.methodLink RX2 95 yX2_haltOf, Cond.instanceMethod yX2_haltOf, Cond.selects RX2 yX2_haltOf yX2_haltOf, Cond.code yX2_haltOf cX2_haltOf 2 (some .int), Cond.methodLink RX2 143 yX1_isLegal, Cond.static yX1_isLegal, Cond.initialized RX1, Cond.code yX1_isLegal cX1_isLegal 2 (some .boolean), Cond.constant RX1 24 (1048691)]
def wsX2_clock_r3 : List Cond := [Cond.methodLink RX1 15 yX1_f3, Cond.static yX1_f3, Cond.code yX1_f3 cX1_f3 1 (some .int), Cond.methodLink RX1 18 yX1_opcode, Cond.static yX1_opcode, Cond.code yX1_opcode cX1_opcode 1 (some .int), Cond.methodLink RX1 21 yX1_f7, Cond.static yX1_f7, Cond.code yX1_f7 cX1_f7 1 (some .int), Cond.methodLink RX2 110 yX1_opcode, Cond.methodLink RX2 130 yX2_jumps, Cond.instanceMethod yX2_jumps, Cond.selects RX2 yX2_jumps yX2_jumps, Cond.code yX2_jumps cX2_jumps 2 (some .boolean), Cond.methodLink RX2 116 yX1_f3, Cond.methodLink RX2 153 yX2_rs1Of, Cond.instanceMethod yX2_rs1Of, Cond.selects RX2 yX2_rs1Of yX2_rs1Of, Cond.code yX2_rs1Of cX2_rs1Of 2 (some .int), Cond.methodLink RX2 174 yX1_rs1, Cond.static yX1_rs1, Cond.code yX1_rs1 cX1_rs1 1 (some .int), Cond.methodLink RX2 119 yX2_rs2Of, Cond.instanceMethod yX2_rs2Of]
def wsX2_clock_r4 : List Cond := [Cond.selects RX2 yX2_rs2Of yX2_rs2Of, Cond.code yX2_rs2Of cX2_rs2Of 2 (some .int), Cond.methodLink RX2 177 yX1_rs2, Cond.static yX1_rs2, Cond.code yX1_rs2 cX1_rs2 1 (some .int), Cond.methodLink RX2 156 yX0_branches, Cond.static yX0_branches, Cond.initialized RX0, Cond.code yX0_branches cX0_branches 3 (some .boolean), Cond.methodLink RX0 7 yX0_isLessWithoutSigns, Cond.static yX0_isLessWithoutSigns, Cond.code yX0_isLessWithoutSigns cX0_isLessWithoutSigns 2 (some .boolean), Cond.constant RX0 13 (-2147483648), Cond.methodLink RX2 133 yX2_targetOf, Cond.instanceMethod yX2_targetOf, Cond.selects RX2 yX2_targetOf yX2_targetOf, Cond.code yX2_targetOf cX2_targetOf 2 (some .int), Cond.methodLink RX2 162 yX1_immediateJ, Cond.static yX1_immediateJ, Cond.code yX1_immediateJ cX1_immediateJ 1 (some .int), Cond.methodLink RX2 165 yX1_immediateI, Cond.static yX1_immediateI, Cond.code yX1_immediateI cX1_immediateI 1 (some .int), Cond.methodLink RX2 168 yX1_immediateB]
def wsX2_clock_r5 : List Cond := [Cond.static yX1_immediateB, Cond.code yX1_immediateB cX1_immediateB 1 (some .int), Cond.methodLink RX2 113 yX2_addressOf, Cond.instanceMethod yX2_addressOf, Cond.selects RX2 yX2_addressOf yX2_addressOf, Cond.code yX2_addressOf cX2_addressOf 2 (some .int), Cond.methodLink RX2 171 yX1_immediateS, Cond.static yX1_immediateS, Cond.code yX1_immediateS cX1_immediateS 1 (some .int), Cond.methodLink RX1 9 yX1_rd, Cond.static yX1_rd, Cond.code yX1_rd cX1_rd 1 (some .int), Cond.methodLink RX2 146 yX1_accessBytes, Cond.static yX1_accessBytes, Cond.code yX1_accessBytes cX1_accessBytes 1 (some .int), Cond.methodLink RX2 149 yX2_haltOfAccess, Cond.static yX2_haltOfAccess, Cond.code yX2_haltOfAccess cX2_haltOfAccess 2 (some .int), Cond.methodLink RX2 98 yX1_writesRd, Cond.static yX1_writesRd, Cond.code yX1_writesRd cX1_writesRd 1 (some .boolean), Cond.methodLink RX2 104 yX1_rd, Cond.methodLink RX2 107 yX2_resultOf, Cond.instanceMethod yX2_resultOf]
def wsX2_clock_r6 : List Cond := [Cond.selects RX2 yX2_resultOf yX2_resultOf, Cond.code yX2_resultOf cX2_resultOf 2 (some .int), Cond.methodLink RX2 180 yX1_immediateU, Cond.static yX1_immediateU, Cond.code yX1_immediateU cX1_immediateU 1 (some .int), Cond.methodLink RX2 183 yX2_loadAt, Cond.instanceMethod yX2_loadAt, Cond.selects RX2 yX2_loadAt yX2_loadAt, Cond.code yX2_loadAt cX2_loadAt 4 (some .int), Cond.fieldLink RX2 13 "PipeWorks" "cells" "[I", Cond.constant RX2 199 (65535), Cond.methodLink RX2 193 yX2_cellOf, Cond.static yX2_cellOf, Cond.code yX2_cellOf cX2_cellOf 1 (some .int), Cond.methodLink RX2 196 yX2_shiftOf, Cond.static yX2_shiftOf, Cond.code yX2_shiftOf cX2_shiftOf 1 (some .int), Cond.methodLink RX2 186 yX1_f7, Cond.methodLink RX2 189 yX0_result, Cond.static yX0_result, Cond.code yX0_result cX0_result 4 (some .int), Cond.methodLink RX2 122 yX2_storeAt, Cond.instanceMethod yX2_storeAt, Cond.selects RX2 yX2_storeAt yX2_storeAt]
def wsX2_clock_r7 : List Cond := [Cond.code yX2_storeAt cX2_storeAt 7 none, Cond.methodLink RX2 126 yX2_goOn, Cond.instanceMethod yX2_goOn, Cond.selects RX2 yX2_goOn yX2_goOn, Cond.code yX2_goOn cX2_goOn 2 none, Cond.methodLink RX2 136 yX1_waitsFor, Cond.static yX1_waitsFor, Cond.code yX1_waitsFor cX1_waitsFor 3 (some .boolean), Cond.methodLink RX1 25 yX1_isLegal, Cond.methodLink RX1 29 yX1_readsRs1, Cond.static yX1_readsRs1, Cond.code yX1_readsRs1 cX1_readsRs1 1 (some .boolean), Cond.methodLink RX1 32 yX1_rs1, Cond.methodLink RX1 35 yX1_readsRs2, Cond.static yX1_readsRs2, Cond.code yX1_readsRs2 cX1_readsRs2 1 (some .boolean), Cond.methodLink RX1 38 yX1_rs2]
def wsX2_state : List Cond := .code yX2_state cX2_state 2 (some .int) :: ([.fieldLink RX2 26 "PipeWorks" "clocks" "I", .fieldLink RX2 44 "PipeWorks" "wordsDone" "I", .fieldLink RX2 54 "PipeWorks" "haltKind" "I", .fieldLink RX2 57 "PipeWorks" "haltAddress" "I", .fieldLink RX2 60 "PipeWorks" "latestDone" "I", .fieldLink RX2 19 "PipeWorks" "clocksInAll" "I"] ++ wsX20)
def wsX3_init : List Cond := .code yX3_init cX3_init 1 none :: ([.methodLink RX3 1 objectInit, .instanceMethod objectInit, .code objectInit ⟨#[0xb1]⟩ 1 none, .arrayClass .int, .fieldLink RX3 7 "PipeWorksModel" "words" "[I", .arrayClass .byte, .fieldLink RX3 13 "PipeWorksModel" "data" "[B", .fieldLink RX3 17 "PipeWorksModel" "seen" "[I", .fieldLink RX3 20 "PipeWorksModel" "now" "[I", .fieldLink RX3 23 "PipeWorksModel" "latest" "I", .fieldLink RX3 27 "PipeWorksModel" "due" "I"] ++ wsX30)
def wsX3_thrown : List Cond := .code yX3_thrown cX3_thrown 1 (some .int) :: ([.fieldLink RX3 30 "PipeWorksModel" "thrown" "I"] ++ wsX30)
def wsX3_word : List Cond := .code yX3_word cX3_word 3 (some .boolean) :: ([.fieldLink RX3 30 "PipeWorksModel" "thrown" "I", .fieldLink RX3 33 "PipeWorksModel" "clocks" "I", .fieldLink RX3 7 "PipeWorksModel" "words" "[I"] ++ wsX30)
def wsX3_store : List Cond := .code yX3_store cX3_store 5 none :: ([.fieldLink RX3 13 "PipeWorksModel" "data" "[B"] ++ wsX30)
def wsX3_data : List Cond := .code yX3_data cX3_data 3 (some .boolean) :: ([.fieldLink RX3 30 "PipeWorksModel" "thrown" "I", .fieldLink RX3 33 "PipeWorksModel" "clocks" "I", .methodLink RX3 36 yX3_store, .instanceMethod yX3_store, .selects RX3 yX3_store yX3_store, .initialized RX3, .code yX3_store cX3_store 5 none, .fieldLink RX3 13 "PipeWorksModel" "data" "[B"] ++ wsX30)
def wsX3_set : List Cond := .code yX3_set cX3_set 3 (some .boolean) :: ([.fieldLink RX3 30 "PipeWorksModel" "thrown" "I", .fieldLink RX3 33 "PipeWorksModel" "clocks" "I", .fieldLink RX3 17 "PipeWorksModel" "seen" "[I"] ++ wsX30)
def wsX3_reset : List Cond := .code yX3_reset cX3_reset 1 none :: ([.fieldLink RX3 30 "PipeWorksModel" "thrown" "I", .fieldLink RX3 33 "PipeWorksModel" "clocks" "I", .fieldLink RX3 40 "PipeWorksModel" "done" "I", .fieldLink RX3 23 "PipeWorksModel" "latest" "I", .fieldLink RX3 43 "PipeWorksModel" "kind" "I", .fieldLink RX3 46 "PipeWorksModel" "haltAt" "I", .fieldLink RX3 49 "PipeWorksModel" "pc" "I", .fieldLink RX3 27 "PipeWorksModel" "due" "I", .fieldLink RX3 52 "PipeWorksModel" "ends" "Z", .fieldLink RX3 56 "PipeWorksModel" "waits" "Z"] ++ wsX30)
def wsX3_isBeyond : List Cond := .code yX3_isBeyond cX3_isBeyond 1 (some .boolean) :: ([])
def wsX3_wordAt : List Cond := .code yX3_wordAt cX3_wordAt 2 (some .int) :: ([.fieldLink RX3 7 "PipeWorksModel" "words" "[I"] ++ wsX30)
def wsX3_opcode : List Cond := .code yX3_opcode cX3_opcode 1 (some .int) :: ([])
def wsX3_rd : List Cond := .code yX3_rd cX3_rd 1 (some .int) :: ([])
def wsX3_f3 : List Cond := .code yX3_f3 cX3_f3 1 (some .int) :: ([])
def wsX3_rs1 : List Cond := .code yX3_rs1 cX3_rs1 1 (some .int) :: ([])
def wsX3_rs2 : List Cond := .code yX3_rs2 cX3_rs2 1 (some .int) :: ([])
def wsX3_f7 : List Cond := .code yX3_f7 cX3_f7 1 (some .int) :: ([])
def wsX3_immediateB : List Cond := .code yX3_immediateB cX3_immediateB 1 (some .int) :: ([])
def wsX3_immediateJ : List Cond := .code yX3_immediateJ cX3_immediateJ 1 (some .int) :: ([])
def wsX3_immediateS : List Cond := .code yX3_immediateS cX3_immediateS 1 (some .int) :: ([])
def wsX3_isLegal : List Cond := .code yX3_isLegal cX3_isLegal 2 (some .boolean) :: ([.constant RX3 69 (1048691), .methodLink RX3 59 yX3_f3, .static yX3_f3, .initialized RX3, .code yX3_f3 cX3_f3 1 (some .int), .methodLink RX3 63 yX3_opcode, .static yX3_opcode, .code yX3_opcode cX3_opcode 1 (some .int), .methodLink RX3 66 yX3_f7, .static yX3_f7, .code yX3_f7 cX3_f7 1 (some .int)])
def wsX3_reads_r1 : List Cond := [Cond.methodLink RX3 70 yX3_isBeyond, Cond.static yX3_isBeyond, Cond.initialized RX3, Cond.code yX3_isBeyond cX3_isBeyond 1 (some .boolean), Cond.methodLink RX3 74 yX3_wordAt, Cond.instanceMethod yX3_wordAt, Cond.selects RX3 yX3_wordAt yX3_wordAt, Cond.code yX3_wordAt cX3_wordAt 2 (some .int), Cond.fieldLink RX3 7 "PipeWorksModel" "words" "[I", Cond.methodLink RX3 77 yX3_isLegal, Cond.static yX3_isLegal, Cond.code yX3_isLegal cX3_isLegal 2 (some .boolean), Cond.constant RX3 69 (1048691), Cond.methodLink RX3 59 yX3_f3, Cond.static yX3_f3, Cond.code yX3_f3 cX3_f3 1 (some .int), Cond.methodLink RX3 63 yX3_opcode, Cond.static yX3_opcode, Cond.code yX3_opcode cX3_opcode 1 (some .int), Cond.methodLink RX3 66 yX3_f7, Cond.static yX3_f7, Cond.code yX3_f7 cX3_f7 1 (some .int), Cond.methodLink RX3 80 yX3_rs1, Cond.static yX3_rs1]
def wsX3_reads_r2 : List Cond := [Cond.code yX3_rs1 cX3_rs1 1 (some .int), Cond.methodLink RX3 83 yX3_rs2, Cond.static yX3_rs2, Cond.code yX3_rs2 cX3_rs2 1 (some .int)]
def wsX3_reads : List Cond := .code yX3_reads cX3_reads 7 (some .boolean) :: ((wsX3_reads_r1 ++ wsX3_reads_r2) ++ wsX30)
def wsX3_load : List Cond := .code yX3_load cX3_load 5 (some .int) :: ([.fieldLink RX3 13 "PipeWorksModel" "data" "[B"] ++ wsX30)
def wsX3_refusal : List Cond := .code yX3_refusal cX3_refusal 2 (some .int) :: ([])
def wsX3_isLess : List Cond := .code yX3_isLess cX3_isLess 2 (some .boolean) :: ([.constantLong RX3 86 (4294967295)])
def wsX3_reckon : List Cond := .code yX3_reckon cX3_reckon 5 (some .int) :: ([.methodLink RX3 88 yX3_isLess, .static yX3_isLess, .initialized RX3, .code yX3_isLess cX3_isLess 2 (some .boolean), .constantLong RX3 86 (4294967295)])
def wsX3_holds : List Cond := .code yX3_holds cX3_holds 4 (some .boolean) :: ([.methodLink RX3 88 yX3_isLess, .static yX3_isLess, .initialized RX3, .code yX3_isLess cX3_isLess 2 (some .boolean), .constantLong RX3 86 (4294967295)])
def wsX3_jump : List Cond := .code yX3_jump cX3_jump 2 (some .int) :: ([.fieldLink RX3 92 "PipeWorksModel" "next" "I", .fieldLink RX3 95 "PipeWorksModel" "jumps" "Z"] ++ wsX30)
def wsX3_loads : List Cond := .code yX3_loads cX3_loads 7 (some .int) :: ([.fieldLink RX3 105 "PipeWorksModel" "result" "I", .methodLink RX3 59 yX3_f3, .static yX3_f3, .initialized RX3, .code yX3_f3 cX3_f3 1 (some .int), .methodLink RX3 98 yX3_refusal, .static yX3_refusal, .code yX3_refusal cX3_refusal 2 (some .int), .methodLink RX3 102 yX3_load, .instanceMethod yX3_load, .selects RX3 yX3_load yX3_load, .code yX3_load cX3_load 5 (some .int), .fieldLink RX3 13 "PipeWorksModel" "data" "[B"] ++ wsX30)
def wsX3_stores : List Cond := .code yX3_stores cX3_stores 7 (some .int) :: ([.methodLink RX3 59 yX3_f3, .static yX3_f3, .initialized RX3, .code yX3_f3 cX3_f3 1 (some .int), .methodLink RX3 108 yX3_immediateS, .static yX3_immediateS, .code yX3_immediateS cX3_immediateS 1 (some .int), .methodLink RX3 98 yX3_refusal, .static yX3_refusal, .code yX3_refusal cX3_refusal 2 (some .int), .methodLink RX3 36 yX3_store, .instanceMethod yX3_store, .selects RX3 yX3_store yX3_store, .code yX3_store cX3_store 5 none, .fieldLink RX3 13 "PipeWorksModel" "data" "[B"] ++ wsX30)
def wsX3_work_r1 : List Cond := [Cond.fieldLink RX3 20 "PipeWorksModel" "now" "[I", Cond.fieldLink RX3 114 "PipeWorksModel" "waitsFor" "I", Cond.fieldLink RX3 105 "PipeWorksModel" "result" "I", Cond.fieldLink RX3 49 "PipeWorksModel" "pc" "I", Cond.methodLink RX3 80 yX3_rs1, Cond.static yX3_rs1, Cond.initialized RX3, Cond.code yX3_rs1 cX3_rs1 1 (some .int), Cond.methodLink RX3 83 yX3_rs2, Cond.static yX3_rs2, Cond.code yX3_rs2 cX3_rs2 1 (some .int), Cond.methodLink RX3 111 yX3_rd, Cond.static yX3_rd, Cond.code yX3_rd cX3_rd 1 (some .int), Cond.methodLink RX3 63 yX3_opcode, Cond.static yX3_opcode, Cond.code yX3_opcode cX3_opcode 1 (some .int), Cond.methodLink RX3 117 yX3_immediateJ, Cond.static yX3_immediateJ, Cond.code yX3_immediateJ cX3_immediateJ 1 (some .int), Cond.methodLink RX3 120 yX3_jump, Cond.instanceMethod yX3_jump, Cond.selects RX3 yX3_jump yX3_jump, Cond.code yX3_jump cX3_jump 2 (some .int)]
def wsX3_work_r2 : List Cond := [Cond.fieldLink RX3 92 "PipeWorksModel" "next" "I", Cond.fieldLink RX3 95 "PipeWorksModel" "jumps" "Z", Cond.methodLink RX3 59 yX3_f3, Cond.static yX3_f3, Cond.code yX3_f3 cX3_f3 1 (some .int), Cond.methodLink RX3 123 yX3_holds, Cond.static yX3_holds, Cond.code yX3_holds cX3_holds 4 (some .boolean), Cond.methodLink RX3 88 yX3_isLess, Cond.static yX3_isLess, Cond.code yX3_isLess cX3_isLess 2 (some .boolean), Cond.constantLong RX3 86 (4294967295), Cond.methodLink RX3 127 yX3_immediateB, Cond.static yX3_immediateB, Cond.code yX3_immediateB cX3_immediateB 1 (some .int), Cond.methodLink RX3 130 yX3_loads, Cond.instanceMethod yX3_loads, Cond.selects RX3 yX3_loads yX3_loads, Cond.code yX3_loads cX3_loads 7 (some .int), Cond.methodLink RX3 98 yX3_refusal, Cond.static yX3_refusal, Cond.code yX3_refusal cX3_refusal 2 (some .int), Cond.methodLink RX3 102 yX3_load, Cond.instanceMethod yX3_load]
def wsX3_work_r3 : List Cond := [Cond.selects RX3 yX3_load yX3_load, Cond.code yX3_load cX3_load 5 (some .int), Cond.fieldLink RX3 13 "PipeWorksModel" "data" "[B", Cond.methodLink RX3 133 yX3_stores, Cond.instanceMethod yX3_stores, Cond.selects RX3 yX3_stores yX3_stores, Cond.code yX3_stores cX3_stores 7 (some .int), Cond.methodLink RX3 108 yX3_immediateS, Cond.static yX3_immediateS, Cond.code yX3_immediateS cX3_immediateS 1 (some .int), Cond.methodLink RX3 36 yX3_store, Cond.instanceMethod yX3_store, Cond.selects RX3 yX3_store yX3_store, Cond.code yX3_store cX3_store 5 none, Cond.methodLink RX3 66 yX3_f7, Cond.static yX3_f7, Cond.code yX3_f7 cX3_f7 1 (some .int), Cond.methodLink RX3 137 yX3_reckon, Cond.static yX3_reckon, Cond.code yX3_reckon cX3_reckon 5 (some .int)]
def wsX3_work : List Cond := .code yX3_work cX3_work 4 (some .int) :: ((wsX3_work_r1 ++ (wsX3_work_r2 ++ wsX3_work_r3)) ++ wsX30)
def wsX3_step_r1 : List Cond := [Cond.fieldLink RX3 49 "PipeWorksModel" "pc" "I", Cond.fieldLink RX3 92 "PipeWorksModel" "next" "I", Cond.fieldLink RX3 95 "PipeWorksModel" "jumps" "Z", Cond.fieldLink RX3 56 "PipeWorksModel" "waits" "Z", Cond.fieldLink RX3 141 "PipeWorksModel" "waitsAt" "I", Cond.fieldLink RX3 147 "PipeWorksModel" "waitsKind" "I", Cond.fieldLink RX3 52 "PipeWorksModel" "ends" "Z", Cond.fieldLink RX3 114 "PipeWorksModel" "waitsFor" "I", Cond.fieldLink RX3 20 "PipeWorksModel" "now" "[I", Cond.fieldLink RX3 105 "PipeWorksModel" "result" "I", Cond.fieldLink RX3 27 "PipeWorksModel" "due" "I", Cond.methodLink RX3 70 yX3_isBeyond, Cond.static yX3_isBeyond, Cond.initialized RX3, Cond.code yX3_isBeyond cX3_isBeyond 1 (some .boolean), Cond.methodLink RX3 74 yX3_wordAt, Cond.instanceMethod yX3_wordAt, Cond.selects RX3 yX3_wordAt yX3_wordAt, Cond.code yX3_wordAt cX3_wordAt 2 (some .int), Cond.fieldLink RX3 7 "PipeWorksModel" "words" "[I", Cond.methodLink RX3 77 yX3_isLegal, Cond.static yX3_isLegal, Cond.code yX3_isLegal cX3_isLegal 2 (some .boolean), Cond.constant RX3 69 (1048691)]
def wsX3_step_r2 : List Cond := [Cond.methodLink RX3 59 yX3_f3, Cond.static yX3_f3, Cond.code yX3_f3 cX3_f3 1 (some .int), Cond.methodLink RX3 63 yX3_opcode, Cond.static yX3_opcode, Cond.code yX3_opcode cX3_opcode 1 (some .int), Cond.methodLink RX3 66 yX3_f7, Cond.static yX3_f7, Cond.code yX3_f7 cX3_f7 1 (some .int), Cond.methodLink RX3 144 yX3_work, Cond.instanceMethod yX3_work, Cond.selects RX3 yX3_work yX3_work, Cond.code yX3_work cX3_work 4 (some .int), Cond.methodLink RX3 80 yX3_rs1, Cond.static yX3_rs1, Cond.code yX3_rs1 cX3_rs1 1 (some .int), Cond.methodLink RX3 83 yX3_rs2, Cond.static yX3_rs2, Cond.code yX3_rs2 cX3_rs2 1 (some .int), Cond.methodLink RX3 111 yX3_rd, Cond.static yX3_rd, Cond.code yX3_rd cX3_rd 1 (some .int), Cond.methodLink RX3 117 yX3_immediateJ, Cond.static yX3_immediateJ]
def wsX3_step_r3 : List Cond := [Cond.code yX3_immediateJ cX3_immediateJ 1 (some .int), Cond.methodLink RX3 120 yX3_jump, Cond.instanceMethod yX3_jump, Cond.selects RX3 yX3_jump yX3_jump, Cond.code yX3_jump cX3_jump 2 (some .int), Cond.methodLink RX3 123 yX3_holds, Cond.static yX3_holds, Cond.code yX3_holds cX3_holds 4 (some .boolean), Cond.methodLink RX3 88 yX3_isLess, Cond.static yX3_isLess, Cond.code yX3_isLess cX3_isLess 2 (some .boolean), Cond.constantLong RX3 86 (4294967295), Cond.methodLink RX3 127 yX3_immediateB, Cond.static yX3_immediateB, Cond.code yX3_immediateB cX3_immediateB 1 (some .int), Cond.methodLink RX3 130 yX3_loads, Cond.instanceMethod yX3_loads, Cond.selects RX3 yX3_loads yX3_loads, Cond.code yX3_loads cX3_loads 7 (some .int), Cond.methodLink RX3 98 yX3_refusal, Cond.static yX3_refusal, Cond.code yX3_refusal cX3_refusal 2 (some .int), Cond.methodLink RX3 102 yX3_load, Cond.instanceMethod yX3_load]
def wsX3_step_r4 : List Cond := [Cond.selects RX3 yX3_load yX3_load, Cond.code yX3_load cX3_load 5 (some .int), Cond.fieldLink RX3 13 "PipeWorksModel" "data" "[B", Cond.methodLink RX3 133 yX3_stores, Cond.instanceMethod yX3_stores, Cond.selects RX3 yX3_stores yX3_stores, Cond.code yX3_stores cX3_stores 7 (some .int), Cond.methodLink RX3 108 yX3_immediateS, Cond.static yX3_immediateS, Cond.code yX3_immediateS cX3_immediateS 1 (some .int), Cond.methodLink RX3 36 yX3_store, Cond.instanceMethod yX3_store, Cond.selects RX3 yX3_store yX3_store, Cond.code yX3_store cX3_store 5 none, Cond.methodLink RX3 137 yX3_reckon, Cond.static yX3_reckon, Cond.code yX3_reckon cX3_reckon 5 (some .int), Cond.methodLink RX3 150 yX3_reads, Cond.instanceMethod yX3_reads, Cond.selects RX3 yX3_reads yX3_reads, Cond.code yX3_reads cX3_reads 7 (some .boolean)]
def wsX3_step : List Cond := .code yX3_step cX3_step 2 none :: ((wsX3_step_r1 ++ (wsX3_step_r2 ++ (wsX3_step_r3 ++ wsX3_step_r4))) ++ wsX30)
def wsX3_write : List Cond := .code yX3_write cX3_write 1 none :: ([.fieldLink RX3 56 "PipeWorksModel" "waits" "Z", .fieldLink RX3 147 "PipeWorksModel" "waitsKind" "I", .fieldLink RX3 43 "PipeWorksModel" "kind" "I", .fieldLink RX3 141 "PipeWorksModel" "waitsAt" "I", .fieldLink RX3 46 "PipeWorksModel" "haltAt" "I", .fieldLink RX3 40 "PipeWorksModel" "done" "I", .fieldLink RX3 23 "PipeWorksModel" "latest" "I", .fieldLink RX3 114 "PipeWorksModel" "waitsFor" "I", .fieldLink RX3 17 "PipeWorksModel" "seen" "[I", .fieldLink RX3 105 "PipeWorksModel" "result" "I"] ++ wsX30)
def wsX3_clock_r1 : List Cond := [Cond.fieldLink RX3 153 "PipeWorksModel" "all" "I", Cond.fieldLink RX3 30 "PipeWorksModel" "thrown" "I", Cond.fieldLink RX3 33 "PipeWorksModel" "clocks" "I", Cond.fieldLink RX3 20 "PipeWorksModel" "now" "[I", Cond.fieldLink RX3 17 "PipeWorksModel" "seen" "[I", Cond.fieldLink RX3 56 "PipeWorksModel" "waits" "Z", Cond.fieldLink RX3 52 "PipeWorksModel" "ends" "Z", Cond.fieldLink RX3 27 "PipeWorksModel" "due" "I", Cond.fieldLink RX3 40 "PipeWorksModel" "done" "I", Cond.methodLink RX3 156 yX3_write, Cond.instanceMethod yX3_write, Cond.selects RX3 yX3_write yX3_write, Cond.initialized RX3, Cond.code yX3_write cX3_write 1 none, Cond.fieldLink RX3 147 "PipeWorksModel" "waitsKind" "I", Cond.fieldLink RX3 43 "PipeWorksModel" "kind" "I", Cond.fieldLink RX3 141 "PipeWorksModel" "waitsAt" "I", Cond.fieldLink RX3 46 "PipeWorksModel" "haltAt" "I", Cond.fieldLink RX3 23 "PipeWorksModel" "latest" "I", Cond.fieldLink RX3 114 "PipeWorksModel" "waitsFor" "I", Cond.fieldLink RX3 105 "PipeWorksModel" "result" "I", Cond.methodLink RX3 159 yX3_step, Cond.instanceMethod yX3_step, Cond.selects RX3 yX3_step yX3_step]
def wsX3_clock_r2 : List Cond := [Cond.code yX3_step cX3_step 2 none, Cond.fieldLink RX3 49 "PipeWorksModel" "pc" "I", Cond.fieldLink RX3 92 "PipeWorksModel" "next" "I", Cond.fieldLink RX3 95 "PipeWorksModel" "jumps" "Z", Cond.methodLink RX3 70 yX3_isBeyond, Cond.static yX3_isBeyond, Cond.code yX3_isBeyond cX3_isBeyond 1 (some .boolean), Cond.methodLink RX3 74 yX3_wordAt, Cond.instanceMethod yX3_wordAt, Cond.selects RX3 yX3_wordAt yX3_wordAt, Cond.code yX3_wordAt cX3_wordAt 2 (some .int), Cond.fieldLink RX3 7 "PipeWorksModel" "words" "[I", Cond.methodLink RX3 77 yX3_isLegal, Cond.static yX3_isLegal, Cond.code yX3_isLegal cX3_isLegal 2 (some .boolean), Cond.constant RX3 69 (1048691), Cond.methodLink RX3 59 yX3_f3, Cond.static yX3_f3, Cond.code yX3_f3 cX3_f3 1 (some .int), Cond.methodLink RX3 63 yX3_opcode, Cond.static yX3_opcode, Cond.code yX3_opcode cX3_opcode 1 (some .int), Cond.methodLink RX3 66 yX3_f7, Cond.static yX3_f7]
def wsX3_clock_r3 : List Cond := [Cond.code yX3_f7 cX3_f7 1 (some .int), Cond.methodLink RX3 144 yX3_work, Cond.instanceMethod yX3_work, Cond.selects RX3 yX3_work yX3_work, Cond.code yX3_work cX3_work 4 (some .int), Cond.methodLink RX3 80 yX3_rs1, Cond.static yX3_rs1, Cond.code yX3_rs1 cX3_rs1 1 (some .int), Cond.methodLink RX3 83 yX3_rs2, Cond.static yX3_rs2, Cond.code yX3_rs2 cX3_rs2 1 (some .int), Cond.methodLink RX3 111 yX3_rd, Cond.static yX3_rd, Cond.code yX3_rd cX3_rd 1 (some .int), Cond.methodLink RX3 117 yX3_immediateJ, Cond.static yX3_immediateJ, Cond.code yX3_immediateJ cX3_immediateJ 1 (some .int), Cond.methodLink RX3 120 yX3_jump, Cond.instanceMethod yX3_jump, Cond.selects RX3 yX3_jump yX3_jump, Cond.code yX3_jump cX3_jump 2 (some .int), Cond.methodLink RX3 123 yX3_holds, Cond.static yX3_holds, Cond.code yX3_holds cX3_holds 4 (some .boolean)]
def wsX3_clock_r4 : List Cond := [Cond.methodLink RX3 88 yX3_isLess, Cond.static yX3_isLess, Cond.code yX3_isLess cX3_isLess 2 (some .boolean), Cond.constantLong RX3 86 (4294967295), Cond.methodLink RX3 127 yX3_immediateB, Cond.static yX3_immediateB, Cond.code yX3_immediateB cX3_immediateB 1 (some .int), Cond.methodLink RX3 130 yX3_loads, Cond.instanceMethod yX3_loads, Cond.selects RX3 yX3_loads yX3_loads, Cond.code yX3_loads cX3_loads 7 (some .int), Cond.methodLink RX3 98 yX3_refusal, Cond.static yX3_refusal, Cond.code yX3_refusal cX3_refusal 2 (some .int), Cond.methodLink RX3 102 yX3_load, Cond.instanceMethod yX3_load, Cond.selects RX3 yX3_load yX3_load, Cond.code yX3_load cX3_load 5 (some .int), Cond.fieldLink RX3 13 "PipeWorksModel" "data" "[B", Cond.methodLink RX3 133 yX3_stores, Cond.instanceMethod yX3_stores, Cond.selects RX3 yX3_stores yX3_stores, Cond.code yX3_stores cX3_stores 7 (some .int), Cond.methodLink RX3 108 yX3_immediateS]
def wsX3_clock_r5 : List Cond := [Cond.static yX3_immediateS, Cond.code yX3_immediateS cX3_immediateS 1 (some .int), Cond.methodLink RX3 36 yX3_store, Cond.instanceMethod yX3_store, Cond.selects RX3 yX3_store yX3_store, Cond.code yX3_store cX3_store 5 none, Cond.methodLink RX3 137 yX3_reckon, Cond.static yX3_reckon, Cond.code yX3_reckon cX3_reckon 5 (some .int), Cond.methodLink RX3 150 yX3_reads, Cond.instanceMethod yX3_reads, Cond.selects RX3 yX3_reads yX3_reads, Cond.code yX3_reads cX3_reads 7 (some .boolean)]
def wsX3_clock : List Cond := .code yX3_clock cX3_clock 3 (some .int) :: ((wsX3_clock_r1 ++ (wsX3_clock_r2 ++ (wsX3_clock_r3 ++ (wsX3_clock_r4 ++ wsX3_clock_r5)))) ++ wsX30)
def wsX3_register : List Cond := .code yX3_register cX3_register 2 (some .int) :: ([.fieldLink RX3 30 "PipeWorksModel" "thrown" "I", .fieldLink RX3 17 "PipeWorksModel" "seen" "[I"] ++ wsX30)
def wsX3_memory : List Cond := .code yX3_memory cX3_memory 2 (some .int) :: ([.fieldLink RX3 30 "PipeWorksModel" "thrown" "I", .methodLink RX3 102 yX3_load, .instanceMethod yX3_load, .selects RX3 yX3_load yX3_load, .initialized RX3, .code yX3_load cX3_load 5 (some .int), .fieldLink RX3 13 "PipeWorksModel" "data" "[B"] ++ wsX30)
def wsX3_state : List Cond := .code yX3_state cX3_state 2 (some .int) :: ([.fieldLink RX3 30 "PipeWorksModel" "thrown" "I", .fieldLink RX3 33 "PipeWorksModel" "clocks" "I", .fieldLink RX3 40 "PipeWorksModel" "done" "I", .fieldLink RX3 43 "PipeWorksModel" "kind" "I", .fieldLink RX3 46 "PipeWorksModel" "haltAt" "I", .fieldLink RX3 23 "PipeWorksModel" "latest" "I", .fieldLink RX3 153 "PipeWorksModel" "all" "I"] ++ wsX30)
set_option maxRecDepth 100000 in
theorem ggX0_result_X0_isLessWithoutSigns : GoodIn wsX0_result wsX0_isLessWithoutSigns := goodIn_r _ [4, 5] rfl (by decide +kernel)
set_option maxRecDepth 100000 in
theorem gX0_result_X0_isLessWithoutSigns : GoodIn wsX0_result (va_wsS RX0 7 yX0_isLessWithoutSigns wsX0_isLessWithoutSigns) := goodIn_app (goodIn_of _ (by decide +kernel)) ggX0_result_X0_isLessWithoutSigns
theorem dX0_result_0 : decode cX0_result 0 = .ok (.iload_n 0, 1) := by decide +kernel
theorem dX0_result_1 : decode cX0_result 1 = .ok (.tableswitch 117 0 6 #[43, 57, 64, 75, 89, 93, 113], 43) := by decide +kernel
theorem dX0_result_44 : decode cX0_result 44 = .ok (.iload_n 1, 1) := by decide +kernel
theorem dX0_result_45 : decode cX0_result 45 = .ok (.ifCond .eq 9, 3) := by decide +kernel
theorem dX0_result_48 : decode cX0_result 48 = .ok (.iload_n 2, 1) := by decide +kernel
theorem dX0_result_49 : decode cX0_result 49 = .ok (.iload_n 3, 1) := by decide +kernel
theorem dX0_result_50 : decode cX0_result 50 = .ok (.isub, 1) := by decide +kernel
theorem dX0_result_51 : decode cX0_result 51 = .ok (.goto 6, 3) := by decide +kernel
theorem dX0_result_54 : decode cX0_result 54 = .ok (.iload_n 2, 1) := by decide +kernel
theorem dX0_result_55 : decode cX0_result 55 = .ok (.iload_n 3, 1) := by decide +kernel
theorem dX0_result_56 : decode cX0_result 56 = .ok (.iadd, 1) := by decide +kernel
theorem dX0_result_57 : decode cX0_result 57 = .ok (.ireturn, 1) := by decide +kernel
theorem dX0_result_58 : decode cX0_result 58 = .ok (.iload_n 2, 1) := by decide +kernel
theorem dX0_result_59 : decode cX0_result 59 = .ok (.iload_n 3, 1) := by decide +kernel
theorem dX0_result_60 : decode cX0_result 60 = .ok (.bipush 31, 2) := by decide +kernel
theorem dX0_result_62 : decode cX0_result 62 = .ok (.iand, 1) := by decide +kernel
theorem dX0_result_63 : decode cX0_result 63 = .ok (.ishl, 1) := by decide +kernel
theorem dX0_result_64 : decode cX0_result 64 = .ok (.ireturn, 1) := by decide +kernel
theorem dX0_result_65 : decode cX0_result 65 = .ok (.iload_n 2, 1) := by decide +kernel
theorem dX0_result_66 : decode cX0_result 66 = .ok (.iload_n 3, 1) := by decide +kernel
theorem dX0_result_67 : decode cX0_result 67 = .ok (.if_icmp .ge 7, 3) := by decide +kernel
theorem dX0_result_70 : decode cX0_result 70 = .ok (.iconst 1, 1) := by decide +kernel
theorem dX0_result_71 : decode cX0_result 71 = .ok (.goto 4, 3) := by decide +kernel
theorem dX0_result_74 : decode cX0_result 74 = .ok (.iconst 0, 1) := by decide +kernel
theorem dX0_result_75 : decode cX0_result 75 = .ok (.ireturn, 1) := by decide +kernel
theorem dX0_result_76 : decode cX0_result 76 = .ok (.iload_n 2, 1) := by decide +kernel
theorem dX0_result_77 : decode cX0_result 77 = .ok (.iload_n 3, 1) := by decide +kernel
theorem dX0_result_78 : decode cX0_result 78 = .ok (.invokestatic 7, 3) := by decide +kernel
theorem dX0_result_81 : decode cX0_result 81 = .ok (.ifCond .eq 7, 3) := by decide +kernel
theorem dX0_result_84 : decode cX0_result 84 = .ok (.iconst 1, 1) := by decide +kernel
theorem dX0_result_85 : decode cX0_result 85 = .ok (.goto 4, 3) := by decide +kernel
theorem dX0_result_88 : decode cX0_result 88 = .ok (.iconst 0, 1) := by decide +kernel
theorem dX0_result_89 : decode cX0_result 89 = .ok (.ireturn, 1) := by decide +kernel
theorem dX0_result_90 : decode cX0_result 90 = .ok (.iload_n 2, 1) := by decide +kernel
theorem dX0_result_91 : decode cX0_result 91 = .ok (.iload_n 3, 1) := by decide +kernel
theorem dX0_result_92 : decode cX0_result 92 = .ok (.ixor, 1) := by decide +kernel
theorem dX0_result_93 : decode cX0_result 93 = .ok (.ireturn, 1) := by decide +kernel
theorem dX0_result_94 : decode cX0_result 94 = .ok (.iload_n 1, 1) := by decide +kernel
theorem dX0_result_95 : decode cX0_result 95 = .ok (.ifCond .eq 12, 3) := by decide +kernel
theorem dX0_result_98 : decode cX0_result 98 = .ok (.iload_n 2, 1) := by decide +kernel
theorem dX0_result_99 : decode cX0_result 99 = .ok (.iload_n 3, 1) := by decide +kernel
theorem dX0_result_100 : decode cX0_result 100 = .ok (.bipush 31, 2) := by decide +kernel
theorem dX0_result_102 : decode cX0_result 102 = .ok (.iand, 1) := by decide +kernel
theorem dX0_result_103 : decode cX0_result 103 = .ok (.ishr, 1) := by decide +kernel
theorem dX0_result_104 : decode cX0_result 104 = .ok (.goto 9, 3) := by decide +kernel
theorem dX0_result_107 : decode cX0_result 107 = .ok (.iload_n 2, 1) := by decide +kernel
theorem dX0_result_108 : decode cX0_result 108 = .ok (.iload_n 3, 1) := by decide +kernel
theorem dX0_result_109 : decode cX0_result 109 = .ok (.bipush 31, 2) := by decide +kernel
theorem dX0_result_111 : decode cX0_result 111 = .ok (.iand, 1) := by decide +kernel
theorem dX0_result_112 : decode cX0_result 112 = .ok (.iushr, 1) := by decide +kernel
theorem dX0_result_113 : decode cX0_result 113 = .ok (.ireturn, 1) := by decide +kernel
theorem dX0_result_114 : decode cX0_result 114 = .ok (.iload_n 2, 1) := by decide +kernel
theorem dX0_result_115 : decode cX0_result 115 = .ok (.iload_n 3, 1) := by decide +kernel
theorem dX0_result_116 : decode cX0_result 116 = .ok (.ior, 1) := by decide +kernel
theorem dX0_result_117 : decode cX0_result 117 = .ok (.ireturn, 1) := by decide +kernel
theorem dX0_result_118 : decode cX0_result 118 = .ok (.iload_n 2, 1) := by decide +kernel
theorem dX0_result_119 : decode cX0_result 119 = .ok (.iload_n 3, 1) := by decide +kernel
theorem dX0_result_120 : decode cX0_result 120 = .ok (.iand, 1) := by decide +kernel
theorem dX0_result_121 : decode cX0_result 121 = .ok (.ireturn, 1) := by decide +kernel
set_option maxRecDepth 100000 in
theorem ggX0_branches_X0_isLessWithoutSigns : GoodIn wsX0_branches wsX0_isLessWithoutSigns := goodIn_r _ [4, 5] rfl (by decide +kernel)
set_option maxRecDepth 100000 in
theorem gX0_branches_X0_isLessWithoutSigns : GoodIn wsX0_branches (va_wsS RX0 7 yX0_isLessWithoutSigns wsX0_isLessWithoutSigns) := goodIn_app (goodIn_of _ (by decide +kernel)) ggX0_branches_X0_isLessWithoutSigns
theorem dX0_branches_0 : decode cX0_branches 0 = .ok (.iload_n 0, 1) := by decide +kernel
theorem dX0_branches_1 : decode cX0_branches 1 = .ok (.tableswitch 111 0 7 #[47, 58, 111, 111, 69, 80, 91, 97], 47) := by decide +kernel
theorem dX0_branches_48 : decode cX0_branches 48 = .ok (.iload_n 1, 1) := by decide +kernel
theorem dX0_branches_49 : decode cX0_branches 49 = .ok (.iload_n 2, 1) := by decide +kernel
theorem dX0_branches_50 : decode cX0_branches 50 = .ok (.if_icmp .ne 7, 3) := by decide +kernel
theorem dX0_branches_53 : decode cX0_branches 53 = .ok (.iconst 1, 1) := by decide +kernel
theorem dX0_branches_54 : decode cX0_branches 54 = .ok (.goto 4, 3) := by decide +kernel
theorem dX0_branches_57 : decode cX0_branches 57 = .ok (.iconst 0, 1) := by decide +kernel
theorem dX0_branches_58 : decode cX0_branches 58 = .ok (.ireturn, 1) := by decide +kernel
theorem dX0_branches_59 : decode cX0_branches 59 = .ok (.iload_n 1, 1) := by decide +kernel
theorem dX0_branches_60 : decode cX0_branches 60 = .ok (.iload_n 2, 1) := by decide +kernel
theorem dX0_branches_61 : decode cX0_branches 61 = .ok (.if_icmp .eq 7, 3) := by decide +kernel
theorem dX0_branches_64 : decode cX0_branches 64 = .ok (.iconst 1, 1) := by decide +kernel
theorem dX0_branches_65 : decode cX0_branches 65 = .ok (.goto 4, 3) := by decide +kernel
theorem dX0_branches_68 : decode cX0_branches 68 = .ok (.iconst 0, 1) := by decide +kernel
theorem dX0_branches_69 : decode cX0_branches 69 = .ok (.ireturn, 1) := by decide +kernel
theorem dX0_branches_70 : decode cX0_branches 70 = .ok (.iload_n 1, 1) := by decide +kernel
theorem dX0_branches_71 : decode cX0_branches 71 = .ok (.iload_n 2, 1) := by decide +kernel
theorem dX0_branches_72 : decode cX0_branches 72 = .ok (.if_icmp .ge 7, 3) := by decide +kernel
theorem dX0_branches_75 : decode cX0_branches 75 = .ok (.iconst 1, 1) := by decide +kernel
theorem dX0_branches_76 : decode cX0_branches 76 = .ok (.goto 4, 3) := by decide +kernel
theorem dX0_branches_79 : decode cX0_branches 79 = .ok (.iconst 0, 1) := by decide +kernel
theorem dX0_branches_80 : decode cX0_branches 80 = .ok (.ireturn, 1) := by decide +kernel
theorem dX0_branches_81 : decode cX0_branches 81 = .ok (.iload_n 1, 1) := by decide +kernel
theorem dX0_branches_82 : decode cX0_branches 82 = .ok (.iload_n 2, 1) := by decide +kernel
theorem dX0_branches_83 : decode cX0_branches 83 = .ok (.if_icmp .lt 7, 3) := by decide +kernel
theorem dX0_branches_86 : decode cX0_branches 86 = .ok (.iconst 1, 1) := by decide +kernel
theorem dX0_branches_87 : decode cX0_branches 87 = .ok (.goto 4, 3) := by decide +kernel
theorem dX0_branches_90 : decode cX0_branches 90 = .ok (.iconst 0, 1) := by decide +kernel
theorem dX0_branches_91 : decode cX0_branches 91 = .ok (.ireturn, 1) := by decide +kernel
theorem dX0_branches_92 : decode cX0_branches 92 = .ok (.iload_n 1, 1) := by decide +kernel
theorem dX0_branches_93 : decode cX0_branches 93 = .ok (.iload_n 2, 1) := by decide +kernel
theorem dX0_branches_94 : decode cX0_branches 94 = .ok (.invokestatic 7, 3) := by decide +kernel
theorem dX0_branches_97 : decode cX0_branches 97 = .ok (.ireturn, 1) := by decide +kernel
theorem dX0_branches_98 : decode cX0_branches 98 = .ok (.iload_n 1, 1) := by decide +kernel
theorem dX0_branches_99 : decode cX0_branches 99 = .ok (.iload_n 2, 1) := by decide +kernel
theorem dX0_branches_100 : decode cX0_branches 100 = .ok (.invokestatic 7, 3) := by decide +kernel
theorem dX0_branches_103 : decode cX0_branches 103 = .ok (.ifCond .ne 7, 3) := by decide +kernel
theorem dX0_branches_106 : decode cX0_branches 106 = .ok (.iconst 1, 1) := by decide +kernel
theorem dX0_branches_107 : decode cX0_branches 107 = .ok (.goto 4, 3) := by decide +kernel
theorem dX0_branches_110 : decode cX0_branches 110 = .ok (.iconst 0, 1) := by decide +kernel
theorem dX0_branches_111 : decode cX0_branches 111 = .ok (.ireturn, 1) := by decide +kernel
theorem dX0_branches_112 : decode cX0_branches 112 = .ok (.iconst 0, 1) := by decide +kernel
theorem dX0_branches_113 : decode cX0_branches 113 = .ok (.ireturn, 1) := by decide +kernel
theorem dX0_isLessWithoutSigns_0 : decode cX0_isLessWithoutSigns 0 = .ok (.iload_n 0, 1) := by decide +kernel
theorem dX0_isLessWithoutSigns_1 : decode cX0_isLessWithoutSigns 1 = .ok (.ldc 13, 2) := by decide +kernel
theorem dX0_isLessWithoutSigns_3 : decode cX0_isLessWithoutSigns 3 = .ok (.ixor, 1) := by decide +kernel
theorem dX0_isLessWithoutSigns_4 : decode cX0_isLessWithoutSigns 4 = .ok (.iload_n 1, 1) := by decide +kernel
theorem dX0_isLessWithoutSigns_5 : decode cX0_isLessWithoutSigns 5 = .ok (.ldc 13, 2) := by decide +kernel
theorem dX0_isLessWithoutSigns_7 : decode cX0_isLessWithoutSigns 7 = .ok (.ixor, 1) := by decide +kernel
theorem dX0_isLessWithoutSigns_8 : decode cX0_isLessWithoutSigns 8 = .ok (.if_icmp .ge 7, 3) := by decide +kernel
theorem dX0_isLessWithoutSigns_11 : decode cX0_isLessWithoutSigns 11 = .ok (.iconst 1, 1) := by decide +kernel
theorem dX0_isLessWithoutSigns_12 : decode cX0_isLessWithoutSigns 12 = .ok (.goto 4, 3) := by decide +kernel
theorem dX0_isLessWithoutSigns_15 : decode cX0_isLessWithoutSigns 15 = .ok (.iconst 0, 1) := by decide +kernel
theorem dX0_isLessWithoutSigns_16 : decode cX0_isLessWithoutSigns 16 = .ok (.ireturn, 1) := by decide +kernel
theorem dX1_opcode_0 : decode cX1_opcode 0 = .ok (.iload_n 0, 1) := by decide +kernel
theorem dX1_opcode_1 : decode cX1_opcode 1 = .ok (.bipush 127, 2) := by decide +kernel
theorem dX1_opcode_3 : decode cX1_opcode 3 = .ok (.iand, 1) := by decide +kernel
theorem dX1_opcode_4 : decode cX1_opcode 4 = .ok (.ireturn, 1) := by decide +kernel
theorem dX1_rd_0 : decode cX1_rd 0 = .ok (.iload_n 0, 1) := by decide +kernel
theorem dX1_rd_1 : decode cX1_rd 1 = .ok (.bipush 7, 2) := by decide +kernel
theorem dX1_rd_3 : decode cX1_rd 3 = .ok (.iushr, 1) := by decide +kernel
theorem dX1_rd_4 : decode cX1_rd 4 = .ok (.bipush 31, 2) := by decide +kernel
theorem dX1_rd_6 : decode cX1_rd 6 = .ok (.iand, 1) := by decide +kernel
theorem dX1_rd_7 : decode cX1_rd 7 = .ok (.ireturn, 1) := by decide +kernel
theorem dX1_f3_0 : decode cX1_f3 0 = .ok (.iload_n 0, 1) := by decide +kernel
theorem dX1_f3_1 : decode cX1_f3 1 = .ok (.bipush 12, 2) := by decide +kernel
theorem dX1_f3_3 : decode cX1_f3 3 = .ok (.iushr, 1) := by decide +kernel
theorem dX1_f3_4 : decode cX1_f3 4 = .ok (.bipush 7, 2) := by decide +kernel
theorem dX1_f3_6 : decode cX1_f3 6 = .ok (.iand, 1) := by decide +kernel
theorem dX1_f3_7 : decode cX1_f3 7 = .ok (.ireturn, 1) := by decide +kernel
theorem dX1_rs1_0 : decode cX1_rs1 0 = .ok (.iload_n 0, 1) := by decide +kernel
theorem dX1_rs1_1 : decode cX1_rs1 1 = .ok (.bipush 15, 2) := by decide +kernel
theorem dX1_rs1_3 : decode cX1_rs1 3 = .ok (.iushr, 1) := by decide +kernel
theorem dX1_rs1_4 : decode cX1_rs1 4 = .ok (.bipush 31, 2) := by decide +kernel
theorem dX1_rs1_6 : decode cX1_rs1 6 = .ok (.iand, 1) := by decide +kernel
theorem dX1_rs1_7 : decode cX1_rs1 7 = .ok (.ireturn, 1) := by decide +kernel
theorem dX1_rs2_0 : decode cX1_rs2 0 = .ok (.iload_n 0, 1) := by decide +kernel
theorem dX1_rs2_1 : decode cX1_rs2 1 = .ok (.bipush 20, 2) := by decide +kernel
theorem dX1_rs2_3 : decode cX1_rs2 3 = .ok (.iushr, 1) := by decide +kernel
theorem dX1_rs2_4 : decode cX1_rs2 4 = .ok (.bipush 31, 2) := by decide +kernel
theorem dX1_rs2_6 : decode cX1_rs2 6 = .ok (.iand, 1) := by decide +kernel
theorem dX1_rs2_7 : decode cX1_rs2 7 = .ok (.ireturn, 1) := by decide +kernel
theorem dX1_f7_0 : decode cX1_f7 0 = .ok (.iload_n 0, 1) := by decide +kernel
theorem dX1_f7_1 : decode cX1_f7 1 = .ok (.bipush 25, 2) := by decide +kernel
theorem dX1_f7_3 : decode cX1_f7 3 = .ok (.iushr, 1) := by decide +kernel
theorem dX1_f7_4 : decode cX1_f7 4 = .ok (.ireturn, 1) := by decide +kernel
theorem dX1_immediateI_0 : decode cX1_immediateI 0 = .ok (.iload_n 0, 1) := by decide +kernel
theorem dX1_immediateI_1 : decode cX1_immediateI 1 = .ok (.bipush 20, 2) := by decide +kernel
theorem dX1_immediateI_3 : decode cX1_immediateI 3 = .ok (.ishr, 1) := by decide +kernel
theorem dX1_immediateI_4 : decode cX1_immediateI 4 = .ok (.ireturn, 1) := by decide +kernel
set_option maxRecDepth 100000 in
theorem ggX1_immediateS_X1_rd : GoodIn wsX1_immediateS wsX1_rd := goodIn_r _ [4] rfl (by decide +kernel)
set_option maxRecDepth 100000 in
theorem gX1_immediateS_X1_rd : GoodIn wsX1_immediateS (va_wsS RX1 9 yX1_rd wsX1_rd) := goodIn_app (goodIn_of _ (by decide +kernel)) ggX1_immediateS_X1_rd
theorem dX1_immediateS_0 : decode cX1_immediateS 0 = .ok (.iload_n 0, 1) := by decide +kernel
theorem dX1_immediateS_1 : decode cX1_immediateS 1 = .ok (.bipush 25, 2) := by decide +kernel
theorem dX1_immediateS_3 : decode cX1_immediateS 3 = .ok (.ishr, 1) := by decide +kernel
theorem dX1_immediateS_4 : decode cX1_immediateS 4 = .ok (.iconst 5, 1) := by decide +kernel
theorem dX1_immediateS_5 : decode cX1_immediateS 5 = .ok (.ishl, 1) := by decide +kernel
theorem dX1_immediateS_6 : decode cX1_immediateS 6 = .ok (.iload_n 0, 1) := by decide +kernel
theorem dX1_immediateS_7 : decode cX1_immediateS 7 = .ok (.invokestatic 9, 3) := by decide +kernel
theorem dX1_immediateS_10 : decode cX1_immediateS 10 = .ok (.ior, 1) := by decide +kernel
theorem dX1_immediateS_11 : decode cX1_immediateS 11 = .ok (.ireturn, 1) := by decide +kernel
theorem dX1_immediateB_0 : decode cX1_immediateB 0 = .ok (.iload_n 0, 1) := by decide +kernel
theorem dX1_immediateB_1 : decode cX1_immediateB 1 = .ok (.bipush 31, 2) := by decide +kernel
theorem dX1_immediateB_3 : decode cX1_immediateB 3 = .ok (.ishr, 1) := by decide +kernel
theorem dX1_immediateB_4 : decode cX1_immediateB 4 = .ok (.bipush 12, 2) := by decide +kernel
theorem dX1_immediateB_6 : decode cX1_immediateB 6 = .ok (.ishl, 1) := by decide +kernel
theorem dX1_immediateB_7 : decode cX1_immediateB 7 = .ok (.iload_n 0, 1) := by decide +kernel
theorem dX1_immediateB_8 : decode cX1_immediateB 8 = .ok (.bipush 7, 2) := by decide +kernel
theorem dX1_immediateB_10 : decode cX1_immediateB 10 = .ok (.iushr, 1) := by decide +kernel
theorem dX1_immediateB_11 : decode cX1_immediateB 11 = .ok (.iconst 1, 1) := by decide +kernel
theorem dX1_immediateB_12 : decode cX1_immediateB 12 = .ok (.iand, 1) := by decide +kernel
theorem dX1_immediateB_13 : decode cX1_immediateB 13 = .ok (.bipush 11, 2) := by decide +kernel
theorem dX1_immediateB_15 : decode cX1_immediateB 15 = .ok (.ishl, 1) := by decide +kernel
theorem dX1_immediateB_16 : decode cX1_immediateB 16 = .ok (.ior, 1) := by decide +kernel
theorem dX1_immediateB_17 : decode cX1_immediateB 17 = .ok (.iload_n 0, 1) := by decide +kernel
theorem dX1_immediateB_18 : decode cX1_immediateB 18 = .ok (.bipush 25, 2) := by decide +kernel
theorem dX1_immediateB_20 : decode cX1_immediateB 20 = .ok (.iushr, 1) := by decide +kernel
theorem dX1_immediateB_21 : decode cX1_immediateB 21 = .ok (.bipush 63, 2) := by decide +kernel
theorem dX1_immediateB_23 : decode cX1_immediateB 23 = .ok (.iand, 1) := by decide +kernel
theorem dX1_immediateB_24 : decode cX1_immediateB 24 = .ok (.iconst 5, 1) := by decide +kernel
theorem dX1_immediateB_25 : decode cX1_immediateB 25 = .ok (.ishl, 1) := by decide +kernel
theorem dX1_immediateB_26 : decode cX1_immediateB 26 = .ok (.ior, 1) := by decide +kernel
theorem dX1_immediateB_27 : decode cX1_immediateB 27 = .ok (.iload_n 0, 1) := by decide +kernel
theorem dX1_immediateB_28 : decode cX1_immediateB 28 = .ok (.bipush 8, 2) := by decide +kernel
theorem dX1_immediateB_30 : decode cX1_immediateB 30 = .ok (.iushr, 1) := by decide +kernel
theorem dX1_immediateB_31 : decode cX1_immediateB 31 = .ok (.bipush 15, 2) := by decide +kernel
theorem dX1_immediateB_33 : decode cX1_immediateB 33 = .ok (.iand, 1) := by decide +kernel
theorem dX1_immediateB_34 : decode cX1_immediateB 34 = .ok (.iconst 1, 1) := by decide +kernel
theorem dX1_immediateB_35 : decode cX1_immediateB 35 = .ok (.ishl, 1) := by decide +kernel
theorem dX1_immediateB_36 : decode cX1_immediateB 36 = .ok (.ior, 1) := by decide +kernel
theorem dX1_immediateB_37 : decode cX1_immediateB 37 = .ok (.ireturn, 1) := by decide +kernel
theorem dX1_immediateU_0 : decode cX1_immediateU 0 = .ok (.iload_n 0, 1) := by decide +kernel
theorem dX1_immediateU_1 : decode cX1_immediateU 1 = .ok (.sipush (-4096), 3) := by decide +kernel
theorem dX1_immediateU_4 : decode cX1_immediateU 4 = .ok (.iand, 1) := by decide +kernel
theorem dX1_immediateU_5 : decode cX1_immediateU 5 = .ok (.ireturn, 1) := by decide +kernel
theorem dX1_immediateJ_0 : decode cX1_immediateJ 0 = .ok (.iload_n 0, 1) := by decide +kernel
theorem dX1_immediateJ_1 : decode cX1_immediateJ 1 = .ok (.bipush 31, 2) := by decide +kernel
theorem dX1_immediateJ_3 : decode cX1_immediateJ 3 = .ok (.ishr, 1) := by decide +kernel
theorem dX1_immediateJ_4 : decode cX1_immediateJ 4 = .ok (.bipush 20, 2) := by decide +kernel
theorem dX1_immediateJ_6 : decode cX1_immediateJ 6 = .ok (.ishl, 1) := by decide +kernel
theorem dX1_immediateJ_7 : decode cX1_immediateJ 7 = .ok (.iload_n 0, 1) := by decide +kernel
theorem dX1_immediateJ_8 : decode cX1_immediateJ 8 = .ok (.bipush 12, 2) := by decide +kernel
theorem dX1_immediateJ_10 : decode cX1_immediateJ 10 = .ok (.iushr, 1) := by decide +kernel
theorem dX1_immediateJ_11 : decode cX1_immediateJ 11 = .ok (.sipush 255, 3) := by decide +kernel
theorem dX1_immediateJ_14 : decode cX1_immediateJ 14 = .ok (.iand, 1) := by decide +kernel
theorem dX1_immediateJ_15 : decode cX1_immediateJ 15 = .ok (.bipush 12, 2) := by decide +kernel
theorem dX1_immediateJ_17 : decode cX1_immediateJ 17 = .ok (.ishl, 1) := by decide +kernel
theorem dX1_immediateJ_18 : decode cX1_immediateJ 18 = .ok (.ior, 1) := by decide +kernel
theorem dX1_immediateJ_19 : decode cX1_immediateJ 19 = .ok (.iload_n 0, 1) := by decide +kernel
theorem dX1_immediateJ_20 : decode cX1_immediateJ 20 = .ok (.bipush 20, 2) := by decide +kernel
theorem dX1_immediateJ_22 : decode cX1_immediateJ 22 = .ok (.iushr, 1) := by decide +kernel
theorem dX1_immediateJ_23 : decode cX1_immediateJ 23 = .ok (.iconst 1, 1) := by decide +kernel
theorem dX1_immediateJ_24 : decode cX1_immediateJ 24 = .ok (.iand, 1) := by decide +kernel
theorem dX1_immediateJ_25 : decode cX1_immediateJ 25 = .ok (.bipush 11, 2) := by decide +kernel
theorem dX1_immediateJ_27 : decode cX1_immediateJ 27 = .ok (.ishl, 1) := by decide +kernel
theorem dX1_immediateJ_28 : decode cX1_immediateJ 28 = .ok (.ior, 1) := by decide +kernel
theorem dX1_immediateJ_29 : decode cX1_immediateJ 29 = .ok (.iload_n 0, 1) := by decide +kernel
theorem dX1_immediateJ_30 : decode cX1_immediateJ 30 = .ok (.bipush 21, 2) := by decide +kernel
theorem dX1_immediateJ_32 : decode cX1_immediateJ 32 = .ok (.iushr, 1) := by decide +kernel
theorem dX1_immediateJ_33 : decode cX1_immediateJ 33 = .ok (.sipush 1023, 3) := by decide +kernel
theorem dX1_immediateJ_36 : decode cX1_immediateJ 36 = .ok (.iand, 1) := by decide +kernel
theorem dX1_immediateJ_37 : decode cX1_immediateJ 37 = .ok (.iconst 1, 1) := by decide +kernel
theorem dX1_immediateJ_38 : decode cX1_immediateJ 38 = .ok (.ishl, 1) := by decide +kernel
theorem dX1_immediateJ_39 : decode cX1_immediateJ 39 = .ok (.ior, 1) := by decide +kernel
theorem dX1_immediateJ_40 : decode cX1_immediateJ 40 = .ok (.ireturn, 1) := by decide +kernel
set_option maxRecDepth 100000 in
theorem ggX1_isLegal_X1_f3 : GoodIn wsX1_isLegal wsX1_f3 := goodIn_r _ [5] rfl (by decide +kernel)
set_option maxRecDepth 100000 in
theorem gX1_isLegal_X1_f3 : GoodIn wsX1_isLegal (va_wsS RX1 15 yX1_f3 wsX1_f3) := goodIn_app (goodIn_of _ (by decide +kernel)) ggX1_isLegal_X1_f3
set_option maxRecDepth 100000 in
theorem ggX1_isLegal_X1_opcode : GoodIn wsX1_isLegal wsX1_opcode := goodIn_r _ [8] rfl (by decide +kernel)
set_option maxRecDepth 100000 in
theorem gX1_isLegal_X1_opcode : GoodIn wsX1_isLegal (va_wsS RX1 18 yX1_opcode wsX1_opcode) := goodIn_app (goodIn_of _ (by decide +kernel)) ggX1_isLegal_X1_opcode
set_option maxRecDepth 100000 in
theorem ggX1_isLegal_X1_f7 : GoodIn wsX1_isLegal wsX1_f7 := goodIn_r _ [11] rfl (by decide +kernel)
set_option maxRecDepth 100000 in
theorem gX1_isLegal_X1_f7 : GoodIn wsX1_isLegal (va_wsS RX1 21 yX1_f7 wsX1_f7) := goodIn_app (goodIn_of _ (by decide +kernel)) ggX1_isLegal_X1_f7
theorem dX1_isLegal_0 : decode cX1_isLegal 0 = .ok (.iload_n 0, 1) := by decide +kernel
theorem dX1_isLegal_1 : decode cX1_isLegal 1 = .ok (.invokestatic 15, 3) := by decide +kernel
theorem dX1_isLegal_4 : decode cX1_isLegal 4 = .ok (.istore_n 1, 1) := by decide +kernel
theorem dX1_isLegal_5 : decode cX1_isLegal 5 = .ok (.iload_n 0, 1) := by decide +kernel
theorem dX1_isLegal_6 : decode cX1_isLegal 6 = .ok (.invokestatic 18, 3) := by decide +kernel
theorem dX1_isLegal_9 : decode cX1_isLegal 9 = .ok (.lookupswitch 245 #[(3, 127), (15, 101), (19, 159), (23, 99), (35, 148), (51, 196), (55, 99), (99, 111), (103, 101), (111, 99), (115, 227)], 99) := by decide +kernel
theorem dX1_isLegal_108 : decode cX1_isLegal 108 = .ok (.iconst 1, 1) := by decide +kernel
theorem dX1_isLegal_109 : decode cX1_isLegal 109 = .ok (.ireturn, 1) := by decide +kernel
theorem dX1_isLegal_110 : decode cX1_isLegal 110 = .ok (.iload_n 1, 1) := by decide +kernel
theorem dX1_isLegal_111 : decode cX1_isLegal 111 = .ok (.ifCond .ne 7, 3) := by decide +kernel
theorem dX1_isLegal_114 : decode cX1_isLegal 114 = .ok (.iconst 1, 1) := by decide +kernel
theorem dX1_isLegal_115 : decode cX1_isLegal 115 = .ok (.goto 4, 3) := by decide +kernel
theorem dX1_isLegal_118 : decode cX1_isLegal 118 = .ok (.iconst 0, 1) := by decide +kernel
theorem dX1_isLegal_119 : decode cX1_isLegal 119 = .ok (.ireturn, 1) := by decide +kernel
theorem dX1_isLegal_120 : decode cX1_isLegal 120 = .ok (.iload_n 1, 1) := by decide +kernel
theorem dX1_isLegal_121 : decode cX1_isLegal 121 = .ok (.iconst 2, 1) := by decide +kernel
theorem dX1_isLegal_122 : decode cX1_isLegal 122 = .ok (.if_icmp .eq 12, 3) := by decide +kernel
theorem dX1_isLegal_125 : decode cX1_isLegal 125 = .ok (.iload_n 1, 1) := by decide +kernel
theorem dX1_isLegal_126 : decode cX1_isLegal 126 = .ok (.iconst 3, 1) := by decide +kernel
theorem dX1_isLegal_127 : decode cX1_isLegal 127 = .ok (.if_icmp .eq 7, 3) := by decide +kernel
theorem dX1_isLegal_130 : decode cX1_isLegal 130 = .ok (.iconst 1, 1) := by decide +kernel
theorem dX1_isLegal_131 : decode cX1_isLegal 131 = .ok (.goto 4, 3) := by decide +kernel
theorem dX1_isLegal_134 : decode cX1_isLegal 134 = .ok (.iconst 0, 1) := by decide +kernel
theorem dX1_isLegal_135 : decode cX1_isLegal 135 = .ok (.ireturn, 1) := by decide +kernel
theorem dX1_isLegal_136 : decode cX1_isLegal 136 = .ok (.iload_n 1, 1) := by decide +kernel
theorem dX1_isLegal_137 : decode cX1_isLegal 137 = .ok (.iconst 2, 1) := by decide +kernel
theorem dX1_isLegal_138 : decode cX1_isLegal 138 = .ok (.if_icmp .le 13, 3) := by decide +kernel
theorem dX1_isLegal_141 : decode cX1_isLegal 141 = .ok (.iload_n 1, 1) := by decide +kernel
theorem dX1_isLegal_142 : decode cX1_isLegal 142 = .ok (.iconst 4, 1) := by decide +kernel
theorem dX1_isLegal_143 : decode cX1_isLegal 143 = .ok (.if_icmp .eq 8, 3) := by decide +kernel
theorem dX1_isLegal_146 : decode cX1_isLegal 146 = .ok (.iload_n 1, 1) := by decide +kernel
theorem dX1_isLegal_147 : decode cX1_isLegal 147 = .ok (.iconst 5, 1) := by decide +kernel
theorem dX1_isLegal_148 : decode cX1_isLegal 148 = .ok (.if_icmp .ne 7, 3) := by decide +kernel
theorem dX1_isLegal_151 : decode cX1_isLegal 151 = .ok (.iconst 1, 1) := by decide +kernel
theorem dX1_isLegal_152 : decode cX1_isLegal 152 = .ok (.goto 4, 3) := by decide +kernel
theorem dX1_isLegal_155 : decode cX1_isLegal 155 = .ok (.iconst 0, 1) := by decide +kernel
theorem dX1_isLegal_156 : decode cX1_isLegal 156 = .ok (.ireturn, 1) := by decide +kernel
theorem dX1_isLegal_157 : decode cX1_isLegal 157 = .ok (.iload_n 1, 1) := by decide +kernel
theorem dX1_isLegal_158 : decode cX1_isLegal 158 = .ok (.iconst 2, 1) := by decide +kernel
theorem dX1_isLegal_159 : decode cX1_isLegal 159 = .ok (.if_icmp .gt 7, 3) := by decide +kernel
theorem dX1_isLegal_162 : decode cX1_isLegal 162 = .ok (.iconst 1, 1) := by decide +kernel
theorem dX1_isLegal_163 : decode cX1_isLegal 163 = .ok (.goto 4, 3) := by decide +kernel
theorem dX1_isLegal_166 : decode cX1_isLegal 166 = .ok (.iconst 0, 1) := by decide +kernel
theorem dX1_isLegal_167 : decode cX1_isLegal 167 = .ok (.ireturn, 1) := by decide +kernel
theorem dX1_isLegal_168 : decode cX1_isLegal 168 = .ok (.iload_n 1, 1) := by decide +kernel
theorem dX1_isLegal_169 : decode cX1_isLegal 169 = .ok (.iconst 1, 1) := by decide +kernel
theorem dX1_isLegal_170 : decode cX1_isLegal 170 = .ok (.if_icmp .eq 8, 3) := by decide +kernel
theorem dX1_isLegal_173 : decode cX1_isLegal 173 = .ok (.iload_n 1, 1) := by decide +kernel
theorem dX1_isLegal_174 : decode cX1_isLegal 174 = .ok (.iconst 5, 1) := by decide +kernel
theorem dX1_isLegal_175 : decode cX1_isLegal 175 = .ok (.if_icmp .ne 24, 3) := by decide +kernel
theorem dX1_isLegal_178 : decode cX1_isLegal 178 = .ok (.iload_n 0, 1) := by decide +kernel
theorem dX1_isLegal_179 : decode cX1_isLegal 179 = .ok (.invokestatic 21, 3) := by decide +kernel
theorem dX1_isLegal_182 : decode cX1_isLegal 182 = .ok (.ifCond .eq 17, 3) := by decide +kernel
theorem dX1_isLegal_185 : decode cX1_isLegal 185 = .ok (.iload_n 1, 1) := by decide +kernel
theorem dX1_isLegal_186 : decode cX1_isLegal 186 = .ok (.iconst 5, 1) := by decide +kernel
theorem dX1_isLegal_187 : decode cX1_isLegal 187 = .ok (.if_icmp .ne 16, 3) := by decide +kernel
theorem dX1_isLegal_190 : decode cX1_isLegal 190 = .ok (.iload_n 0, 1) := by decide +kernel
theorem dX1_isLegal_191 : decode cX1_isLegal 191 = .ok (.invokestatic 21, 3) := by decide +kernel
theorem dX1_isLegal_194 : decode cX1_isLegal 194 = .ok (.bipush 32, 2) := by decide +kernel
theorem dX1_isLegal_196 : decode cX1_isLegal 196 = .ok (.if_icmp .ne 7, 3) := by decide +kernel
theorem dX1_isLegal_199 : decode cX1_isLegal 199 = .ok (.iconst 1, 1) := by decide +kernel
theorem dX1_isLegal_200 : decode cX1_isLegal 200 = .ok (.goto 4, 3) := by decide +kernel
theorem dX1_isLegal_203 : decode cX1_isLegal 203 = .ok (.iconst 0, 1) := by decide +kernel
theorem dX1_isLegal_204 : decode cX1_isLegal 204 = .ok (.ireturn, 1) := by decide +kernel
theorem dX1_isLegal_205 : decode cX1_isLegal 205 = .ok (.iload_n 0, 1) := by decide +kernel
theorem dX1_isLegal_206 : decode cX1_isLegal 206 = .ok (.invokestatic 21, 3) := by decide +kernel
theorem dX1_isLegal_209 : decode cX1_isLegal 209 = .ok (.ifCond .eq 21, 3) := by decide +kernel
theorem dX1_isLegal_212 : decode cX1_isLegal 212 = .ok (.iload_n 0, 1) := by decide +kernel
theorem dX1_isLegal_213 : decode cX1_isLegal 213 = .ok (.invokestatic 21, 3) := by decide +kernel
theorem dX1_isLegal_216 : decode cX1_isLegal 216 = .ok (.bipush 32, 2) := by decide +kernel
theorem dX1_isLegal_218 : decode cX1_isLegal 218 = .ok (.if_icmp .ne 16, 3) := by decide +kernel
theorem dX1_isLegal_221 : decode cX1_isLegal 221 = .ok (.iload_n 1, 1) := by decide +kernel
theorem dX1_isLegal_222 : decode cX1_isLegal 222 = .ok (.ifCond .eq 8, 3) := by decide +kernel
theorem dX1_isLegal_225 : decode cX1_isLegal 225 = .ok (.iload_n 1, 1) := by decide +kernel
theorem dX1_isLegal_226 : decode cX1_isLegal 226 = .ok (.iconst 5, 1) := by decide +kernel
theorem dX1_isLegal_227 : decode cX1_isLegal 227 = .ok (.if_icmp .ne 7, 3) := by decide +kernel
theorem dX1_isLegal_230 : decode cX1_isLegal 230 = .ok (.iconst 1, 1) := by decide +kernel
theorem dX1_isLegal_231 : decode cX1_isLegal 231 = .ok (.goto 4, 3) := by decide +kernel
theorem dX1_isLegal_234 : decode cX1_isLegal 234 = .ok (.iconst 0, 1) := by decide +kernel
theorem dX1_isLegal_235 : decode cX1_isLegal 235 = .ok (.ireturn, 1) := by decide +kernel
theorem dX1_isLegal_236 : decode cX1_isLegal 236 = .ok (.iload_n 0, 1) := by decide +kernel
theorem dX1_isLegal_237 : decode cX1_isLegal 237 = .ok (.bipush 115, 2) := by decide +kernel
theorem dX1_isLegal_239 : decode cX1_isLegal 239 = .ok (.if_icmp .eq 9, 3) := by decide +kernel
theorem dX1_isLegal_242 : decode cX1_isLegal 242 = .ok (.iload_n 0, 1) := by decide +kernel
theorem dX1_isLegal_243 : decode cX1_isLegal 243 = .ok (.ldc 24, 2) := by decide +kernel
theorem dX1_isLegal_245 : decode cX1_isLegal 245 = .ok (.if_icmp .ne 7, 3) := by decide +kernel
theorem dX1_isLegal_248 : decode cX1_isLegal 248 = .ok (.iconst 1, 1) := by decide +kernel
theorem dX1_isLegal_249 : decode cX1_isLegal 249 = .ok (.goto 4, 3) := by decide +kernel
theorem dX1_isLegal_252 : decode cX1_isLegal 252 = .ok (.iconst 0, 1) := by decide +kernel
theorem dX1_isLegal_253 : decode cX1_isLegal 253 = .ok (.ireturn, 1) := by decide +kernel
theorem dX1_isLegal_254 : decode cX1_isLegal 254 = .ok (.iconst 0, 1) := by decide +kernel
theorem dX1_isLegal_255 : decode cX1_isLegal 255 = .ok (.ireturn, 1) := by decide +kernel
set_option maxRecDepth 100000 in
theorem ggX1_accessBytes_X1_f3 : GoodIn wsX1_accessBytes wsX1_f3 := goodIn_r _ [4] rfl (by decide +kernel)
set_option maxRecDepth 100000 in
theorem gX1_accessBytes_X1_f3 : GoodIn wsX1_accessBytes (va_wsS RX1 15 yX1_f3 wsX1_f3) := goodIn_app (goodIn_of _ (by decide +kernel)) ggX1_accessBytes_X1_f3
theorem dX1_accessBytes_0 : decode cX1_accessBytes 0 = .ok (.iconst 1, 1) := by decide +kernel
theorem dX1_accessBytes_1 : decode cX1_accessBytes 1 = .ok (.iload_n 0, 1) := by decide +kernel
theorem dX1_accessBytes_2 : decode cX1_accessBytes 2 = .ok (.invokestatic 15, 3) := by decide +kernel
theorem dX1_accessBytes_5 : decode cX1_accessBytes 5 = .ok (.iconst 3, 1) := by decide +kernel
theorem dX1_accessBytes_6 : decode cX1_accessBytes 6 = .ok (.iand, 1) := by decide +kernel
theorem dX1_accessBytes_7 : decode cX1_accessBytes 7 = .ok (.ishl, 1) := by decide +kernel
theorem dX1_accessBytes_8 : decode cX1_accessBytes 8 = .ok (.ireturn, 1) := by decide +kernel
set_option maxRecDepth 100000 in
theorem ggX1_writesRd_X1_opcode : GoodIn wsX1_writesRd wsX1_opcode := goodIn_r _ [4] rfl (by decide +kernel)
set_option maxRecDepth 100000 in
theorem gX1_writesRd_X1_opcode : GoodIn wsX1_writesRd (va_wsS RX1 18 yX1_opcode wsX1_opcode) := goodIn_app (goodIn_of _ (by decide +kernel)) ggX1_writesRd_X1_opcode
theorem dX1_writesRd_0 : decode cX1_writesRd 0 = .ok (.iload_n 0, 1) := by decide +kernel
theorem dX1_writesRd_1 : decode cX1_writesRd 1 = .ok (.invokestatic 18, 3) := by decide +kernel
theorem dX1_writesRd_4 : decode cX1_writesRd 4 = .ok (.lookupswitch 70 #[(3, 68), (19, 68), (23, 68), (51, 68), (55, 68), (103, 68), (111, 68)], 68) := by decide +kernel
theorem dX1_writesRd_72 : decode cX1_writesRd 72 = .ok (.iconst 1, 1) := by decide +kernel
theorem dX1_writesRd_73 : decode cX1_writesRd 73 = .ok (.ireturn, 1) := by decide +kernel
theorem dX1_writesRd_74 : decode cX1_writesRd 74 = .ok (.iconst 0, 1) := by decide +kernel
theorem dX1_writesRd_75 : decode cX1_writesRd 75 = .ok (.ireturn, 1) := by decide +kernel
set_option maxRecDepth 100000 in
theorem ggX1_readsRs1_X1_opcode : GoodIn wsX1_readsRs1 wsX1_opcode := goodIn_r _ [4] rfl (by decide +kernel)
set_option maxRecDepth 100000 in
theorem gX1_readsRs1_X1_opcode : GoodIn wsX1_readsRs1 (va_wsS RX1 18 yX1_opcode wsX1_opcode) := goodIn_app (goodIn_of _ (by decide +kernel)) ggX1_readsRs1_X1_opcode
theorem dX1_readsRs1_0 : decode cX1_readsRs1 0 = .ok (.iload_n 0, 1) := by decide +kernel
theorem dX1_readsRs1_1 : decode cX1_readsRs1 1 = .ok (.invokestatic 18, 3) := by decide +kernel
theorem dX1_readsRs1_4 : decode cX1_readsRs1 4 = .ok (.lookupswitch 54 #[(15, 52), (23, 52), (55, 52), (111, 52), (115, 52)], 52) := by decide +kernel
theorem dX1_readsRs1_56 : decode cX1_readsRs1 56 = .ok (.iconst 0, 1) := by decide +kernel
theorem dX1_readsRs1_57 : decode cX1_readsRs1 57 = .ok (.ireturn, 1) := by decide +kernel
theorem dX1_readsRs1_58 : decode cX1_readsRs1 58 = .ok (.iconst 1, 1) := by decide +kernel
theorem dX1_readsRs1_59 : decode cX1_readsRs1 59 = .ok (.ireturn, 1) := by decide +kernel
set_option maxRecDepth 100000 in
theorem ggX1_readsRs2_X1_opcode : GoodIn wsX1_readsRs2 wsX1_opcode := goodIn_r _ [4] rfl (by decide +kernel)
set_option maxRecDepth 100000 in
theorem gX1_readsRs2_X1_opcode : GoodIn wsX1_readsRs2 (va_wsS RX1 18 yX1_opcode wsX1_opcode) := goodIn_app (goodIn_of _ (by decide +kernel)) ggX1_readsRs2_X1_opcode
theorem dX1_readsRs2_0 : decode cX1_readsRs2 0 = .ok (.iload_n 0, 1) := by decide +kernel
theorem dX1_readsRs2_1 : decode cX1_readsRs2 1 = .ok (.invokestatic 18, 3) := by decide +kernel
theorem dX1_readsRs2_4 : decode cX1_readsRs2 4 = .ok (.lookupswitch 38 #[(35, 36), (51, 36), (99, 36)], 36) := by decide +kernel
theorem dX1_readsRs2_40 : decode cX1_readsRs2 40 = .ok (.iconst 1, 1) := by decide +kernel
theorem dX1_readsRs2_41 : decode cX1_readsRs2 41 = .ok (.ireturn, 1) := by decide +kernel
theorem dX1_readsRs2_42 : decode cX1_readsRs2 42 = .ok (.iconst 0, 1) := by decide +kernel
theorem dX1_readsRs2_43 : decode cX1_readsRs2 43 = .ok (.ireturn, 1) := by decide +kernel
set_option maxRecDepth 100000 in
theorem ggX1_waitsFor_X1_rd : GoodIn wsX1_waitsFor wsX1_rd := goodIn_r _ [4] rfl (by decide +kernel)
set_option maxRecDepth 100000 in
theorem gX1_waitsFor_X1_rd : GoodIn wsX1_waitsFor (va_wsS RX1 9 yX1_rd wsX1_rd) := goodIn_app (goodIn_of _ (by decide +kernel)) ggX1_waitsFor_X1_rd
set_option maxRecDepth 100000 in
theorem ggX1_waitsFor_X1_opcode : GoodIn wsX1_waitsFor wsX1_opcode := goodIn_r _ [7] rfl (by decide +kernel)
set_option maxRecDepth 100000 in
theorem gX1_waitsFor_X1_opcode : GoodIn wsX1_waitsFor (va_wsS RX1 18 yX1_opcode wsX1_opcode) := goodIn_app (goodIn_of _ (by decide +kernel)) ggX1_waitsFor_X1_opcode
set_option maxRecDepth 100000 in
theorem ggX1_waitsFor_X1_isLegal : GoodIn wsX1_waitsFor wsX1_isLegal := goodIn_r _ [10, 11, 12, 13, 3, 14, 5, 6, 7, 15, 16, 17] rfl (by decide +kernel)
set_option maxRecDepth 100000 in
theorem gX1_waitsFor_X1_isLegal : GoodIn wsX1_waitsFor (va_wsS RX1 25 yX1_isLegal wsX1_isLegal) := goodIn_app (goodIn_of _ (by decide +kernel)) ggX1_waitsFor_X1_isLegal
set_option maxRecDepth 100000 in
theorem ggX1_waitsFor_X1_readsRs1 : GoodIn wsX1_waitsFor wsX1_readsRs1 := goodIn_r _ [20, 5, 6, 3, 7] rfl (by decide +kernel)
set_option maxRecDepth 100000 in
theorem gX1_waitsFor_X1_readsRs1 : GoodIn wsX1_waitsFor (va_wsS RX1 29 yX1_readsRs1 wsX1_readsRs1) := goodIn_app (goodIn_of _ (by decide +kernel)) ggX1_waitsFor_X1_readsRs1
set_option maxRecDepth 100000 in
theorem ggX1_waitsFor_X1_rs1 : GoodIn wsX1_waitsFor wsX1_rs1 := goodIn_r _ [23] rfl (by decide +kernel)
set_option maxRecDepth 100000 in
theorem gX1_waitsFor_X1_rs1 : GoodIn wsX1_waitsFor (va_wsS RX1 32 yX1_rs1 wsX1_rs1) := goodIn_app (goodIn_of _ (by decide +kernel)) ggX1_waitsFor_X1_rs1
set_option maxRecDepth 100000 in
theorem ggX1_waitsFor_X1_readsRs2 : GoodIn wsX1_waitsFor wsX1_readsRs2 := goodIn_r _ [26, 5, 6, 3, 7] rfl (by decide +kernel)
set_option maxRecDepth 100000 in
theorem gX1_waitsFor_X1_readsRs2 : GoodIn wsX1_waitsFor (va_wsS RX1 35 yX1_readsRs2 wsX1_readsRs2) := goodIn_app (goodIn_of _ (by decide +kernel)) ggX1_waitsFor_X1_readsRs2
set_option maxRecDepth 100000 in
theorem ggX1_waitsFor_X1_rs2 : GoodIn wsX1_waitsFor wsX1_rs2 := goodIn_r _ [29] rfl (by decide +kernel)
set_option maxRecDepth 100000 in
theorem gX1_waitsFor_X1_rs2 : GoodIn wsX1_waitsFor (va_wsS RX1 38 yX1_rs2 wsX1_rs2) := goodIn_app (goodIn_of _ (by decide +kernel)) ggX1_waitsFor_X1_rs2
theorem dX1_waitsFor_0 : decode cX1_waitsFor 0 = .ok (.iload_n 1, 1) := by decide +kernel
theorem dX1_waitsFor_1 : decode cX1_waitsFor 1 = .ok (.invokestatic 9, 3) := by decide +kernel
theorem dX1_waitsFor_4 : decode cX1_waitsFor 4 = .ok (.istore_n 2, 1) := by decide +kernel
theorem dX1_waitsFor_5 : decode cX1_waitsFor 5 = .ok (.iload_n 1, 1) := by decide +kernel
theorem dX1_waitsFor_6 : decode cX1_waitsFor 6 = .ok (.invokestatic 18, 3) := by decide +kernel
theorem dX1_waitsFor_9 : decode cX1_waitsFor 9 = .ok (.iconst 3, 1) := by decide +kernel
theorem dX1_waitsFor_10 : decode cX1_waitsFor 10 = .ok (.if_icmp .ne 14, 3) := by decide +kernel
theorem dX1_waitsFor_13 : decode cX1_waitsFor 13 = .ok (.iload_n 2, 1) := by decide +kernel
theorem dX1_waitsFor_14 : decode cX1_waitsFor 14 = .ok (.ifCond .eq 10, 3) := by decide +kernel
theorem dX1_waitsFor_17 : decode cX1_waitsFor 17 = .ok (.iload_n 0, 1) := by decide +kernel
theorem dX1_waitsFor_18 : decode cX1_waitsFor 18 = .ok (.invokestatic 25, 3) := by decide +kernel
theorem dX1_waitsFor_21 : decode cX1_waitsFor 21 = .ok (.ifCond .ne 5, 3) := by decide +kernel
theorem dX1_waitsFor_24 : decode cX1_waitsFor 24 = .ok (.iconst 0, 1) := by decide +kernel
theorem dX1_waitsFor_25 : decode cX1_waitsFor 25 = .ok (.ireturn, 1) := by decide +kernel
theorem dX1_waitsFor_26 : decode cX1_waitsFor 26 = .ok (.iload_n 0, 1) := by decide +kernel
theorem dX1_waitsFor_27 : decode cX1_waitsFor 27 = .ok (.invokestatic 29, 3) := by decide +kernel
theorem dX1_waitsFor_30 : decode cX1_waitsFor 30 = .ok (.ifCond .eq 11, 3) := by decide +kernel
theorem dX1_waitsFor_33 : decode cX1_waitsFor 33 = .ok (.iload_n 0, 1) := by decide +kernel
theorem dX1_waitsFor_34 : decode cX1_waitsFor 34 = .ok (.invokestatic 32, 3) := by decide +kernel
theorem dX1_waitsFor_37 : decode cX1_waitsFor 37 = .ok (.iload_n 2, 1) := by decide +kernel
theorem dX1_waitsFor_38 : decode cX1_waitsFor 38 = .ok (.if_icmp .eq 18, 3) := by decide +kernel
theorem dX1_waitsFor_41 : decode cX1_waitsFor 41 = .ok (.iload_n 0, 1) := by decide +kernel
theorem dX1_waitsFor_42 : decode cX1_waitsFor 42 = .ok (.invokestatic 35, 3) := by decide +kernel
theorem dX1_waitsFor_45 : decode cX1_waitsFor 45 = .ok (.ifCond .eq 15, 3) := by decide +kernel
theorem dX1_waitsFor_48 : decode cX1_waitsFor 48 = .ok (.iload_n 0, 1) := by decide +kernel
theorem dX1_waitsFor_49 : decode cX1_waitsFor 49 = .ok (.invokestatic 38, 3) := by decide +kernel
theorem dX1_waitsFor_52 : decode cX1_waitsFor 52 = .ok (.iload_n 2, 1) := by decide +kernel
theorem dX1_waitsFor_53 : decode cX1_waitsFor 53 = .ok (.if_icmp .ne 7, 3) := by decide +kernel
theorem dX1_waitsFor_56 : decode cX1_waitsFor 56 = .ok (.iconst 1, 1) := by decide +kernel
theorem dX1_waitsFor_57 : decode cX1_waitsFor 57 = .ok (.goto 4, 3) := by decide +kernel
theorem dX1_waitsFor_60 : decode cX1_waitsFor 60 = .ok (.iconst 0, 1) := by decide +kernel
theorem dX1_waitsFor_61 : decode cX1_waitsFor 61 = .ok (.ireturn, 1) := by decide +kernel
set_option maxRecDepth 100000 in
theorem ggX2_init_X2_toBeginning : GoodIn wsX2_init wsX2_toBeginning := goodIn_r _ [13, 14, 15, 16, 17, 18, 19, 20, 21, 22, 23, 24, 25, 26, 27, 28, 29, 30, 31, 32, 33, 34, 35, 36, 37] rfl (by decide +kernel)
set_option maxRecDepth 100000 in
theorem gX2_init_X2_toBeginning : GoodIn wsX2_init (wsV RX2 23 RX2 yX2_toBeginning wsX2_toBeginning) := goodIn_app (goodIn_of _ (by decide +kernel)) ggX2_init_X2_toBeginning
theorem dX2_init_0 : decode cX2_init 0 = .ok (.aload_n 0, 1) := by decide +kernel
theorem dX2_init_1 : decode cX2_init 1 = .ok (.invokespecial 1, 3) := by decide +kernel
theorem dX2_init_4 : decode cX2_init 4 = .ok (.aload_n 0, 1) := by decide +kernel
theorem dX2_init_5 : decode cX2_init 5 = .ok (.sipush 256, 3) := by decide +kernel
theorem dX2_init_8 : decode cX2_init 8 = .ok (.newarray .int, 2) := by decide +kernel
theorem dX2_init_10 : decode cX2_init 10 = .ok (.putfield 9, 3) := by decide +kernel
theorem dX2_init_13 : decode cX2_init 13 = .ok (.aload_n 0, 1) := by decide +kernel
theorem dX2_init_14 : decode cX2_init 14 = .ok (.bipush 64, 2) := by decide +kernel
theorem dX2_init_16 : decode cX2_init 16 = .ok (.newarray .int, 2) := by decide +kernel
theorem dX2_init_18 : decode cX2_init 18 = .ok (.putfield 13, 3) := by decide +kernel
theorem dX2_init_21 : decode cX2_init 21 = .ok (.aload_n 0, 1) := by decide +kernel
theorem dX2_init_22 : decode cX2_init 22 = .ok (.bipush 32, 2) := by decide +kernel
theorem dX2_init_24 : decode cX2_init 24 = .ok (.newarray .int, 2) := by decide +kernel
theorem dX2_init_26 : decode cX2_init 26 = .ok (.putfield 16, 3) := by decide +kernel
theorem dX2_init_29 : decode cX2_init 29 = .ok (.aload_n 0, 1) := by decide +kernel
theorem dX2_init_30 : decode cX2_init 30 = .ok (.iconst 0, 1) := by decide +kernel
theorem dX2_init_31 : decode cX2_init 31 = .ok (.putfield 19, 3) := by decide +kernel
theorem dX2_init_34 : decode cX2_init 34 = .ok (.aload_n 0, 1) := by decide +kernel
theorem dX2_init_35 : decode cX2_init 35 = .ok (.invokevirtual 23, 3) := by decide +kernel
theorem dX2_init_38 : decode cX2_init 38 = .ok (.return_, 1) := by decide +kernel
theorem dX2_word_0 : decode cX2_word 0 = .ok (.iload_n 1, 1) := by decide +kernel
theorem dX2_word_1 : decode cX2_word 1 = .ok (.ifCond .lt 17, 3) := by decide +kernel
theorem dX2_word_4 : decode cX2_word 4 = .ok (.iload_n 1, 1) := by decide +kernel
theorem dX2_word_5 : decode cX2_word 5 = .ok (.sipush 256, 3) := by decide +kernel
theorem dX2_word_8 : decode cX2_word 8 = .ok (.if_icmp .ge 10, 3) := by decide +kernel
theorem dX2_word_11 : decode cX2_word 11 = .ok (.aload_n 0, 1) := by decide +kernel
theorem dX2_word_12 : decode cX2_word 12 = .ok (.getfield 26, 3) := by decide +kernel
theorem dX2_word_15 : decode cX2_word 15 = .ok (.ifCond .eq 5, 3) := by decide +kernel
theorem dX2_word_18 : decode cX2_word 18 = .ok (.iconst 0, 1) := by decide +kernel
theorem dX2_word_19 : decode cX2_word 19 = .ok (.ireturn, 1) := by decide +kernel
theorem dX2_word_20 : decode cX2_word 20 = .ok (.aload_n 0, 1) := by decide +kernel
theorem dX2_word_21 : decode cX2_word 21 = .ok (.getfield 9, 3) := by decide +kernel
theorem dX2_word_24 : decode cX2_word 24 = .ok (.iload_n 1, 1) := by decide +kernel
theorem dX2_word_25 : decode cX2_word 25 = .ok (.iload_n 2, 1) := by decide +kernel
theorem dX2_word_26 : decode cX2_word 26 = .ok (.iastore, 1) := by decide +kernel
theorem dX2_word_27 : decode cX2_word 27 = .ok (.iconst 1, 1) := by decide +kernel
theorem dX2_word_28 : decode cX2_word 28 = .ok (.ireturn, 1) := by decide +kernel
theorem dX2_data_0 : decode cX2_data 0 = .ok (.iload_n 1, 1) := by decide +kernel
theorem dX2_data_1 : decode cX2_data 1 = .ok (.ifCond .lt 16, 3) := by decide +kernel
theorem dX2_data_4 : decode cX2_data 4 = .ok (.iload_n 1, 1) := by decide +kernel
theorem dX2_data_5 : decode cX2_data 5 = .ok (.bipush 64, 2) := by decide +kernel
theorem dX2_data_7 : decode cX2_data 7 = .ok (.if_icmp .ge 10, 3) := by decide +kernel
theorem dX2_data_10 : decode cX2_data 10 = .ok (.aload_n 0, 1) := by decide +kernel
theorem dX2_data_11 : decode cX2_data 11 = .ok (.getfield 26, 3) := by decide +kernel
theorem dX2_data_14 : decode cX2_data 14 = .ok (.ifCond .eq 5, 3) := by decide +kernel
theorem dX2_data_17 : decode cX2_data 17 = .ok (.iconst 0, 1) := by decide +kernel
theorem dX2_data_18 : decode cX2_data 18 = .ok (.ireturn, 1) := by decide +kernel
theorem dX2_data_19 : decode cX2_data 19 = .ok (.aload_n 0, 1) := by decide +kernel
theorem dX2_data_20 : decode cX2_data 20 = .ok (.getfield 13, 3) := by decide +kernel
theorem dX2_data_23 : decode cX2_data 23 = .ok (.iload_n 1, 1) := by decide +kernel
theorem dX2_data_24 : decode cX2_data 24 = .ok (.iload_n 2, 1) := by decide +kernel
theorem dX2_data_25 : decode cX2_data 25 = .ok (.iastore, 1) := by decide +kernel
theorem dX2_data_26 : decode cX2_data 26 = .ok (.iconst 1, 1) := by decide +kernel
theorem dX2_data_27 : decode cX2_data 27 = .ok (.ireturn, 1) := by decide +kernel
theorem dX2_set_0 : decode cX2_set 0 = .ok (.iload_n 1, 1) := by decide +kernel
theorem dX2_set_1 : decode cX2_set 1 = .ok (.iconst 1, 1) := by decide +kernel
theorem dX2_set_2 : decode cX2_set 2 = .ok (.if_icmp .lt 16, 3) := by decide +kernel
theorem dX2_set_5 : decode cX2_set 5 = .ok (.iload_n 1, 1) := by decide +kernel
theorem dX2_set_6 : decode cX2_set 6 = .ok (.bipush 32, 2) := by decide +kernel
theorem dX2_set_8 : decode cX2_set 8 = .ok (.if_icmp .ge 10, 3) := by decide +kernel
theorem dX2_set_11 : decode cX2_set 11 = .ok (.aload_n 0, 1) := by decide +kernel
theorem dX2_set_12 : decode cX2_set 12 = .ok (.getfield 26, 3) := by decide +kernel
theorem dX2_set_15 : decode cX2_set 15 = .ok (.ifCond .eq 5, 3) := by decide +kernel
theorem dX2_set_18 : decode cX2_set 18 = .ok (.iconst 0, 1) := by decide +kernel
theorem dX2_set_19 : decode cX2_set 19 = .ok (.ireturn, 1) := by decide +kernel
theorem dX2_set_20 : decode cX2_set 20 = .ok (.aload_n 0, 1) := by decide +kernel
theorem dX2_set_21 : decode cX2_set 21 = .ok (.getfield 16, 3) := by decide +kernel
theorem dX2_set_24 : decode cX2_set 24 = .ok (.iload_n 1, 1) := by decide +kernel
theorem dX2_set_25 : decode cX2_set 25 = .ok (.iload_n 2, 1) := by decide +kernel
theorem dX2_set_26 : decode cX2_set 26 = .ok (.iastore, 1) := by decide +kernel
theorem dX2_set_27 : decode cX2_set 27 = .ok (.iconst 1, 1) := by decide +kernel
theorem dX2_set_28 : decode cX2_set 28 = .ok (.ireturn, 1) := by decide +kernel
set_option maxRecDepth 100000 in
theorem ggX2_reset_X2_toBeginning : GoodIn wsX2_reset wsX2_toBeginning := goodIn_r _ [5, 6, 7, 8, 9, 10, 11, 12, 13, 14, 15, 16, 17, 18, 19, 20, 21, 22, 23, 24, 25, 26, 27, 28, 29] rfl (by decide +kernel)
set_option maxRecDepth 100000 in
theorem gX2_reset_X2_toBeginning : GoodIn wsX2_reset (wsV RX2 23 RX2 yX2_toBeginning wsX2_toBeginning) := goodIn_app (goodIn_of _ (by decide +kernel)) ggX2_reset_X2_toBeginning
theorem dX2_reset_0 : decode cX2_reset 0 = .ok (.aload_n 0, 1) := by decide +kernel
theorem dX2_reset_1 : decode cX2_reset 1 = .ok (.invokevirtual 23, 3) := by decide +kernel
theorem dX2_reset_4 : decode cX2_reset 4 = .ok (.return_, 1) := by decide +kernel
theorem dX2_clock_0 : decode cX2_clock 0 = .ok (.iload_n 1, 1) := by decide +kernel
theorem dX2_clock_1 : decode cX2_clock 1 = .ok (.iconst 1, 1) := by decide +kernel
theorem dX2_clock_2 : decode cX2_clock 2 = .ok (.if_icmp .lt 10, 3) := by decide +kernel
theorem dX2_clock_5 : decode cX2_clock 5 = .ok (.iload_n 1, 1) := by decide +kernel
theorem dX2_clock_6 : decode cX2_clock 6 = .ok (.sipush 200, 3) := by decide +kernel
theorem dX2_clock_9 : decode cX2_clock 9 = .ok (.if_icmp .le 13, 3) := by decide +kernel
theorem dX2_clock_12 : decode cX2_clock 12 = .ok (.new 29, 3) := by decide +kernel
theorem dX2_clock_15 : decode cX2_clock 15 = .ok (.dup, 1) := by decide +kernel
theorem dX2_clock_16 : decode cX2_clock 16 = .ok (.ldc 31, 2) := by decide +kernel
theorem dX2_clock_18 : decode cX2_clock 18 = .ok (.invokespecial 33, 3) := by decide +kernel
theorem dX2_clock_21 : decode cX2_clock 21 = .ok (.athrow, 1) := by decide +kernel
theorem dX2_clock_22 : decode cX2_clock 22 = .ok (.aload_n 0, 1) := by decide +kernel
theorem dX2_clock_23 : decode cX2_clock 23 = .ok (.getfield 19, 3) := by decide +kernel
theorem dX2_clock_26 : decode cX2_clock 26 = .ok (.iload_n 1, 1) := by decide +kernel
theorem dX2_clock_27 : decode cX2_clock 27 = .ok (.iadd, 1) := by decide +kernel
theorem dX2_clock_28 : decode cX2_clock 28 = .ok (.sipush 20000, 3) := by decide +kernel
theorem dX2_clock_31 : decode cX2_clock 31 = .ok (.if_icmp .le 13, 3) := by decide +kernel
theorem dX2_clock_34 : decode cX2_clock 34 = .ok (.new 36, 3) := by decide +kernel
theorem dX2_clock_37 : decode cX2_clock 37 = .ok (.dup, 1) := by decide +kernel
theorem dX2_clock_38 : decode cX2_clock 38 = .ok (.ldc 38, 2) := by decide +kernel
theorem dX2_clock_40 : decode cX2_clock 40 = .ok (.invokespecial 40, 3) := by decide +kernel
theorem dX2_clock_43 : decode cX2_clock 43 = .ok (.athrow, 1) := by decide +kernel
theorem dX2_clock_44 : decode cX2_clock 44 = .ok (.iconst 0, 1) := by decide +kernel
theorem dX2_clock_45 : decode cX2_clock 45 = .ok (.istore_n 2, 1) := by decide +kernel
theorem dX2_clock_46 : decode cX2_clock 46 = .ok (.iload_n 2, 1) := by decide +kernel
theorem dX2_clock_47 : decode cX2_clock 47 = .ok (.iload_n 1, 1) := by decide +kernel
theorem dX2_clock_48 : decode cX2_clock 48 = .ok (.if_icmp .ge 13, 3) := by decide +kernel
theorem dX2_clock_51 : decode cX2_clock 51 = .ok (.aload_n 0, 1) := by decide +kernel
theorem dX2_clock_52 : decode cX2_clock 52 = .ok (.invokevirtual 41, 3) := by decide +kernel
theorem dX2_clock_55 : decode cX2_clock 55 = .ok (.iinc 2 1, 3) := by decide +kernel
theorem dX2_clock_58 : decode cX2_clock 58 = .ok (.goto (-12), 3) := by decide +kernel
theorem dX2_clock_61 : decode cX2_clock 61 = .ok (.aload_n 0, 1) := by decide +kernel
theorem dX2_clock_62 : decode cX2_clock 62 = .ok (.getfield 44, 3) := by decide +kernel
theorem dX2_clock_65 : decode cX2_clock 65 = .ok (.ireturn, 1) := by decide +kernel
theorem dX2_register_0 : decode cX2_register 0 = .ok (.iload_n 1, 1) := by decide +kernel
theorem dX2_register_1 : decode cX2_register 1 = .ok (.ifCond .lt 9, 3) := by decide +kernel
theorem dX2_register_4 : decode cX2_register 4 = .ok (.iload_n 1, 1) := by decide +kernel
theorem dX2_register_5 : decode cX2_register 5 = .ok (.bipush 32, 2) := by decide +kernel
theorem dX2_register_7 : decode cX2_register 7 = .ok (.if_icmp .lt 13, 3) := by decide +kernel
theorem dX2_register_10 : decode cX2_register 10 = .ok (.new 47, 3) := by decide +kernel
theorem dX2_register_13 : decode cX2_register 13 = .ok (.dup, 1) := by decide +kernel
theorem dX2_register_14 : decode cX2_register 14 = .ok (.ldc 49, 2) := by decide +kernel
theorem dX2_register_16 : decode cX2_register 16 = .ok (.invokespecial 51, 3) := by decide +kernel
theorem dX2_register_19 : decode cX2_register 19 = .ok (.athrow, 1) := by decide +kernel
theorem dX2_register_20 : decode cX2_register 20 = .ok (.aload_n 0, 1) := by decide +kernel
theorem dX2_register_21 : decode cX2_register 21 = .ok (.getfield 16, 3) := by decide +kernel
theorem dX2_register_24 : decode cX2_register 24 = .ok (.iload_n 1, 1) := by decide +kernel
theorem dX2_register_25 : decode cX2_register 25 = .ok (.iaload, 1) := by decide +kernel
theorem dX2_register_26 : decode cX2_register 26 = .ok (.ireturn, 1) := by decide +kernel
theorem dX2_memory_0 : decode cX2_memory 0 = .ok (.iload_n 1, 1) := by decide +kernel
theorem dX2_memory_1 : decode cX2_memory 1 = .ok (.ifCond .lt 9, 3) := by decide +kernel
theorem dX2_memory_4 : decode cX2_memory 4 = .ok (.iload_n 1, 1) := by decide +kernel
theorem dX2_memory_5 : decode cX2_memory 5 = .ok (.bipush 64, 2) := by decide +kernel
theorem dX2_memory_7 : decode cX2_memory 7 = .ok (.if_icmp .lt 13, 3) := by decide +kernel
theorem dX2_memory_10 : decode cX2_memory 10 = .ok (.new 47, 3) := by decide +kernel
theorem dX2_memory_13 : decode cX2_memory 13 = .ok (.dup, 1) := by decide +kernel
theorem dX2_memory_14 : decode cX2_memory 14 = .ok (.ldc 52, 2) := by decide +kernel
theorem dX2_memory_16 : decode cX2_memory 16 = .ok (.invokespecial 51, 3) := by decide +kernel
theorem dX2_memory_19 : decode cX2_memory 19 = .ok (.athrow, 1) := by decide +kernel
theorem dX2_memory_20 : decode cX2_memory 20 = .ok (.aload_n 0, 1) := by decide +kernel
theorem dX2_memory_21 : decode cX2_memory 21 = .ok (.getfield 13, 3) := by decide +kernel
theorem dX2_memory_24 : decode cX2_memory 24 = .ok (.iload_n 1, 1) := by decide +kernel
theorem dX2_memory_25 : decode cX2_memory 25 = .ok (.iaload, 1) := by decide +kernel
theorem dX2_memory_26 : decode cX2_memory 26 = .ok (.ireturn, 1) := by decide +kernel
theorem dX2_state_0 : decode cX2_state 0 = .ok (.iload_n 1, 1) := by decide +kernel
theorem dX2_state_1 : decode cX2_state 1 = .ok (.tableswitch 69 0 5 #[39, 44, 49, 54, 59, 64], 39) := by decide +kernel
theorem dX2_state_40 : decode cX2_state 40 = .ok (.aload_n 0, 1) := by decide +kernel
theorem dX2_state_41 : decode cX2_state 41 = .ok (.getfield 26, 3) := by decide +kernel
theorem dX2_state_44 : decode cX2_state 44 = .ok (.ireturn, 1) := by decide +kernel
theorem dX2_state_45 : decode cX2_state 45 = .ok (.aload_n 0, 1) := by decide +kernel
theorem dX2_state_46 : decode cX2_state 46 = .ok (.getfield 44, 3) := by decide +kernel
theorem dX2_state_49 : decode cX2_state 49 = .ok (.ireturn, 1) := by decide +kernel
theorem dX2_state_50 : decode cX2_state 50 = .ok (.aload_n 0, 1) := by decide +kernel
theorem dX2_state_51 : decode cX2_state 51 = .ok (.getfield 54, 3) := by decide +kernel
theorem dX2_state_54 : decode cX2_state 54 = .ok (.ireturn, 1) := by decide +kernel
theorem dX2_state_55 : decode cX2_state 55 = .ok (.aload_n 0, 1) := by decide +kernel
theorem dX2_state_56 : decode cX2_state 56 = .ok (.getfield 57, 3) := by decide +kernel
theorem dX2_state_59 : decode cX2_state 59 = .ok (.ireturn, 1) := by decide +kernel
theorem dX2_state_60 : decode cX2_state 60 = .ok (.aload_n 0, 1) := by decide +kernel
theorem dX2_state_61 : decode cX2_state 61 = .ok (.getfield 60, 3) := by decide +kernel
theorem dX2_state_64 : decode cX2_state 64 = .ok (.ireturn, 1) := by decide +kernel
theorem dX2_state_65 : decode cX2_state 65 = .ok (.aload_n 0, 1) := by decide +kernel
theorem dX2_state_66 : decode cX2_state 66 = .ok (.getfield 19, 3) := by decide +kernel
theorem dX2_state_69 : decode cX2_state 69 = .ok (.ireturn, 1) := by decide +kernel
theorem dX2_state_70 : decode cX2_state 70 = .ok (.iconst (-1), 1) := by decide +kernel
theorem dX2_state_71 : decode cX2_state 71 = .ok (.ireturn, 1) := by decide +kernel
theorem dX2_toBeginning_0 : decode cX2_toBeginning 0 = .ok (.aload_n 0, 1) := by decide +kernel
theorem dX2_toBeginning_1 : decode cX2_toBeginning 1 = .ok (.iconst 0, 1) := by decide +kernel
theorem dX2_toBeginning_2 : decode cX2_toBeginning 2 = .ok (.putfield 26, 3) := by decide +kernel
theorem dX2_toBeginning_5 : decode cX2_toBeginning 5 = .ok (.aload_n 0, 1) := by decide +kernel
theorem dX2_toBeginning_6 : decode cX2_toBeginning 6 = .ok (.iconst 0, 1) := by decide +kernel
theorem dX2_toBeginning_7 : decode cX2_toBeginning 7 = .ok (.putfield 44, 3) := by decide +kernel
theorem dX2_toBeginning_10 : decode cX2_toBeginning 10 = .ok (.aload_n 0, 1) := by decide +kernel
theorem dX2_toBeginning_11 : decode cX2_toBeginning 11 = .ok (.iconst (-1), 1) := by decide +kernel
theorem dX2_toBeginning_12 : decode cX2_toBeginning 12 = .ok (.putfield 60, 3) := by decide +kernel
theorem dX2_toBeginning_15 : decode cX2_toBeginning 15 = .ok (.aload_n 0, 1) := by decide +kernel
theorem dX2_toBeginning_16 : decode cX2_toBeginning 16 = .ok (.iconst 0, 1) := by decide +kernel
theorem dX2_toBeginning_17 : decode cX2_toBeginning 17 = .ok (.putfield 54, 3) := by decide +kernel
theorem dX2_toBeginning_20 : decode cX2_toBeginning 20 = .ok (.aload_n 0, 1) := by decide +kernel
theorem dX2_toBeginning_21 : decode cX2_toBeginning 21 = .ok (.iconst 0, 1) := by decide +kernel
theorem dX2_toBeginning_22 : decode cX2_toBeginning 22 = .ok (.putfield 57, 3) := by decide +kernel
theorem dX2_toBeginning_25 : decode cX2_toBeginning 25 = .ok (.aload_n 0, 1) := by decide +kernel
theorem dX2_toBeginning_26 : decode cX2_toBeginning 26 = .ok (.iconst 0, 1) := by decide +kernel
theorem dX2_toBeginning_27 : decode cX2_toBeginning 27 = .ok (.putfield 63, 3) := by decide +kernel
theorem dX2_toBeginning_30 : decode cX2_toBeginning 30 = .ok (.aload_n 0, 1) := by decide +kernel
theorem dX2_toBeginning_31 : decode cX2_toBeginning 31 = .ok (.iconst 4, 1) := by decide +kernel
theorem dX2_toBeginning_32 : decode cX2_toBeginning 32 = .ok (.putfield 66, 3) := by decide +kernel
theorem dX2_toBeginning_35 : decode cX2_toBeginning 35 = .ok (.aload_n 0, 1) := by decide +kernel
theorem dX2_toBeginning_36 : decode cX2_toBeginning 36 = .ok (.iconst 0, 1) := by decide +kernel
theorem dX2_toBeginning_37 : decode cX2_toBeginning 37 = .ok (.putfield 69, 3) := by decide +kernel
theorem dX2_toBeginning_40 : decode cX2_toBeginning 40 = .ok (.return_, 1) := by decide +kernel
set_option maxRecDepth 100000 in
theorem ggX2_oneClock_X2_endWrite : GoodIn wsX2_oneClock wsX2_endWrite := goodIn_r _ [9, 3, 10, 11, 12, 13, 14, 15, 16, 17, 18, 154, 155, 156, 157, 158, 159, 160, 161, 162, 163, 164, 165, 166, 167, 168, 169] rfl (by decide +kernel)
set_option maxRecDepth 100000 in
theorem gX2_oneClock_X2_endWrite : GoodIn wsX2_oneClock (wsV RX2 73 RX2 yX2_endWrite wsX2_endWrite) := goodIn_app (goodIn_of _ (by decide +kernel)) ggX2_oneClock_X2_endWrite
set_option maxRecDepth 100000 in
theorem ggX2_oneClock_X2_endMemory : GoodIn wsX2_oneClock wsX2_endMemory := goodIn_r _ [22, 23, 3, 12, 10, 14, 16, 24, 25, 26, 8, 27, 28, 29, 30, 31, 32, 33, 34, 35, 36, 37, 38, 39, 40, 41, 42, 43, 44, 45, 46, 47, 48, 49, 50, 51, 52, 53, 54, 55, 56, 57, 58, 59, 15, 60, 61, 62, 63, 64, 65, 66, 67, 68, 69, 70, 71, 72, 73, 74, 75, 76, 77, 78, 79, 80, 81, 82, 83, 84, 85, 86, 87, 88, 89, 90, 91, 92, 93, 94, 95, 96, 97, 98, 99, 100, 101, 102, 103, 104, 105, 106, 107, 108, 109, 110, 111, 112, 113, 114, 115, 116, 117, 118, 119, 120, 121, 122, 123, 124, 125, 126, 127, 128, 129, 130, 131, 132, 133, 134, 135, 136, 137, 138, 139, 140, 141, 4, 142, 143, 144, 145, 146, 147, 148, 149, 150, 151, 152, 153, 154, 155, 156, 157, 158, 159, 160, 161, 162, 163, 164, 165, 166, 167, 168, 169] rfl (by decide +kernel)
set_option maxRecDepth 100000 in
theorem gX2_oneClock_X2_endMemory : GoodIn wsX2_oneClock (wsV RX2 76 RX2 yX2_endMemory wsX2_endMemory) := goodIn_app (goodIn_of _ (by decide +kernel)) ggX2_oneClock_X2_endMemory
theorem dX2_oneClock_0 : decode cX2_oneClock 0 = .ok (.aload_n 0, 1) := by decide +kernel
theorem dX2_oneClock_1 : decode cX2_oneClock 1 = .ok (.dup, 1) := by decide +kernel
theorem dX2_oneClock_2 : decode cX2_oneClock 2 = .ok (.getfield 26, 3) := by decide +kernel
theorem dX2_oneClock_5 : decode cX2_oneClock 5 = .ok (.iconst 1, 1) := by decide +kernel
theorem dX2_oneClock_6 : decode cX2_oneClock 6 = .ok (.iadd, 1) := by decide +kernel
theorem dX2_oneClock_7 : decode cX2_oneClock 7 = .ok (.putfield 26, 3) := by decide +kernel
theorem dX2_oneClock_10 : decode cX2_oneClock 10 = .ok (.aload_n 0, 1) := by decide +kernel
theorem dX2_oneClock_11 : decode cX2_oneClock 11 = .ok (.dup, 1) := by decide +kernel
theorem dX2_oneClock_12 : decode cX2_oneClock 12 = .ok (.getfield 19, 3) := by decide +kernel
theorem dX2_oneClock_15 : decode cX2_oneClock 15 = .ok (.iconst 1, 1) := by decide +kernel
theorem dX2_oneClock_16 : decode cX2_oneClock 16 = .ok (.iadd, 1) := by decide +kernel
theorem dX2_oneClock_17 : decode cX2_oneClock 17 = .ok (.putfield 19, 3) := by decide +kernel
theorem dX2_oneClock_20 : decode cX2_oneClock 20 = .ok (.aload_n 0, 1) := by decide +kernel
theorem dX2_oneClock_21 : decode cX2_oneClock 21 = .ok (.getfield 69, 3) := by decide +kernel
theorem dX2_oneClock_24 : decode cX2_oneClock 24 = .ok (.ifCond .eq 7, 3) := by decide +kernel
theorem dX2_oneClock_27 : decode cX2_oneClock 27 = .ok (.aload_n 0, 1) := by decide +kernel
theorem dX2_oneClock_28 : decode cX2_oneClock 28 = .ok (.invokevirtual 73, 3) := by decide +kernel
theorem dX2_oneClock_31 : decode cX2_oneClock 31 = .ok (.aload_n 0, 1) := by decide +kernel
theorem dX2_oneClock_32 : decode cX2_oneClock 32 = .ok (.getfield 26, 3) := by decide +kernel
theorem dX2_oneClock_35 : decode cX2_oneClock 35 = .ok (.aload_n 0, 1) := by decide +kernel
theorem dX2_oneClock_36 : decode cX2_oneClock 36 = .ok (.getfield 66, 3) := by decide +kernel
theorem dX2_oneClock_39 : decode cX2_oneClock 39 = .ok (.if_icmp .ne 7, 3) := by decide +kernel
theorem dX2_oneClock_42 : decode cX2_oneClock 42 = .ok (.aload_n 0, 1) := by decide +kernel
theorem dX2_oneClock_43 : decode cX2_oneClock 43 = .ok (.invokevirtual 76, 3) := by decide +kernel
theorem dX2_oneClock_46 : decode cX2_oneClock 46 = .ok (.return_, 1) := by decide +kernel
theorem dX2_endWrite_0 : decode cX2_endWrite 0 = .ok (.aload_n 0, 1) := by decide +kernel
theorem dX2_endWrite_1 : decode cX2_endWrite 1 = .ok (.iconst 0, 1) := by decide +kernel
theorem dX2_endWrite_2 : decode cX2_endWrite 2 = .ok (.putfield 69, 3) := by decide +kernel
theorem dX2_endWrite_5 : decode cX2_endWrite 5 = .ok (.aload_n 0, 1) := by decide +kernel
theorem dX2_endWrite_6 : decode cX2_endWrite 6 = .ok (.getfield 79, 3) := by decide +kernel
theorem dX2_endWrite_9 : decode cX2_endWrite 9 = .ok (.ifCond .eq 20, 3) := by decide +kernel
theorem dX2_endWrite_12 : decode cX2_endWrite 12 = .ok (.aload_n 0, 1) := by decide +kernel
theorem dX2_endWrite_13 : decode cX2_endWrite 13 = .ok (.aload_n 0, 1) := by decide +kernel
theorem dX2_endWrite_14 : decode cX2_endWrite 14 = .ok (.getfield 79, 3) := by decide +kernel
theorem dX2_endWrite_17 : decode cX2_endWrite 17 = .ok (.putfield 54, 3) := by decide +kernel
theorem dX2_endWrite_20 : decode cX2_endWrite 20 = .ok (.aload_n 0, 1) := by decide +kernel
theorem dX2_endWrite_21 : decode cX2_endWrite 21 = .ok (.aload_n 0, 1) := by decide +kernel
theorem dX2_endWrite_22 : decode cX2_endWrite 22 = .ok (.getfield 82, 3) := by decide +kernel
theorem dX2_endWrite_25 : decode cX2_endWrite 25 = .ok (.putfield 57, 3) := by decide +kernel
theorem dX2_endWrite_28 : decode cX2_endWrite 28 = .ok (.return_, 1) := by decide +kernel
theorem dX2_endWrite_29 : decode cX2_endWrite 29 = .ok (.aload_n 0, 1) := by decide +kernel
theorem dX2_endWrite_30 : decode cX2_endWrite 30 = .ok (.getfield 85, 3) := by decide +kernel
theorem dX2_endWrite_33 : decode cX2_endWrite 33 = .ok (.ifCond .eq 16, 3) := by decide +kernel
theorem dX2_endWrite_36 : decode cX2_endWrite 36 = .ok (.aload_n 0, 1) := by decide +kernel
theorem dX2_endWrite_37 : decode cX2_endWrite 37 = .ok (.getfield 16, 3) := by decide +kernel
theorem dX2_endWrite_40 : decode cX2_endWrite 40 = .ok (.aload_n 0, 1) := by decide +kernel
theorem dX2_endWrite_41 : decode cX2_endWrite 41 = .ok (.getfield 85, 3) := by decide +kernel
theorem dX2_endWrite_44 : decode cX2_endWrite 44 = .ok (.aload_n 0, 1) := by decide +kernel
theorem dX2_endWrite_45 : decode cX2_endWrite 45 = .ok (.getfield 88, 3) := by decide +kernel
theorem dX2_endWrite_48 : decode cX2_endWrite 48 = .ok (.iastore, 1) := by decide +kernel
theorem dX2_endWrite_49 : decode cX2_endWrite 49 = .ok (.aload_n 0, 1) := by decide +kernel
theorem dX2_endWrite_50 : decode cX2_endWrite 50 = .ok (.dup, 1) := by decide +kernel
theorem dX2_endWrite_51 : decode cX2_endWrite 51 = .ok (.getfield 44, 3) := by decide +kernel
theorem dX2_endWrite_54 : decode cX2_endWrite 54 = .ok (.iconst 1, 1) := by decide +kernel
theorem dX2_endWrite_55 : decode cX2_endWrite 55 = .ok (.iadd, 1) := by decide +kernel
theorem dX2_endWrite_56 : decode cX2_endWrite 56 = .ok (.putfield 44, 3) := by decide +kernel
theorem dX2_endWrite_59 : decode cX2_endWrite 59 = .ok (.aload_n 0, 1) := by decide +kernel
theorem dX2_endWrite_60 : decode cX2_endWrite 60 = .ok (.aload_n 0, 1) := by decide +kernel
theorem dX2_endWrite_61 : decode cX2_endWrite 61 = .ok (.getfield 82, 3) := by decide +kernel
theorem dX2_endWrite_64 : decode cX2_endWrite 64 = .ok (.putfield 60, 3) := by decide +kernel
theorem dX2_endWrite_67 : decode cX2_endWrite 67 = .ok (.return_, 1) := by decide +kernel
set_option maxRecDepth 100000 in
theorem ggX2_endMemory_X2_wordAt : GoodIn wsX2_endMemory wsX2_wordAt := goodIn_r _ [11, 12, 13, 14, 10, 15, 140, 141, 142, 143, 144, 145, 146, 147, 148, 149, 150, 151, 152, 153, 154, 155] rfl (by decide +kernel)
set_option maxRecDepth 100000 in
theorem gX2_endMemory_X2_wordAt : GoodIn wsX2_endMemory (wsV RX2 91 RX2 yX2_wordAt wsX2_wordAt) := goodIn_app (goodIn_of _ (by decide +kernel)) ggX2_endMemory_X2_wordAt
set_option maxRecDepth 100000 in
theorem ggX2_endMemory_X2_haltOf : GoodIn wsX2_endMemory wsX2_haltOf := goodIn_r _ [19, 1, 13, 14, 10, 15, 20, 21, 22, 23, 24, 25, 26, 27, 28, 29, 30, 31, 32, 33, 34, 35, 36, 37, 38, 39, 40, 41, 42, 43, 44, 45, 46, 47, 48, 49, 50, 51, 52, 53, 54, 55, 56, 57, 58, 59, 60, 61, 62, 63, 64, 65, 66, 67, 68, 69, 70, 71, 72, 73, 74, 75, 76, 77, 78, 79, 80, 81, 82, 83, 84, 85, 86, 87, 88, 89, 90, 91, 140, 141, 142, 143, 144, 145, 146, 147, 148, 149, 150, 151, 152, 153, 154, 155] rfl (by decide +kernel)
set_option maxRecDepth 100000 in
theorem gX2_endMemory_X2_haltOf : GoodIn wsX2_endMemory (wsV RX2 95 RX2 yX2_haltOf wsX2_haltOf) := goodIn_app (goodIn_of _ (by decide +kernel)) ggX2_endMemory_X2_haltOf
set_option maxRecDepth 100000 in
theorem ggX2_endMemory_X1_writesRd : GoodIn wsX2_endMemory wsX1_writesRd := goodIn_r _ [94, 28, 29, 22, 30] rfl (by decide +kernel)
set_option maxRecDepth 100000 in
theorem gX2_endMemory_X1_writesRd : GoodIn wsX2_endMemory (va_wsS RX2 98 yX1_writesRd wsX1_writesRd) := goodIn_app (goodIn_of _ (by decide +kernel)) ggX2_endMemory_X1_writesRd
set_option maxRecDepth 100000 in
theorem ggX2_endMemory_X1_rd : GoodIn wsX2_endMemory wsX1_rd := goodIn_r _ [85] rfl (by decide +kernel)
set_option maxRecDepth 100000 in
theorem gX2_endMemory_X1_rd : GoodIn wsX2_endMemory (va_wsS RX2 104 yX1_rd wsX1_rd) := goodIn_app (goodIn_of _ (by decide +kernel)) ggX2_endMemory_X1_rd
set_option maxRecDepth 100000 in
theorem ggX2_endMemory_X2_resultOf : GoodIn wsX2_endMemory wsX2_resultOf := goodIn_r _ [99, 1, 34, 29, 22, 30, 100, 101, 102, 76, 77, 78, 10, 79, 40, 41, 42, 43, 44, 45, 46, 47, 80, 81, 82, 83, 84, 85, 70, 71, 72, 39, 26, 27, 103, 104, 105, 106, 107, 108, 109, 110, 111, 112, 113, 114, 115, 32, 33, 116, 117, 57, 118, 59, 60, 61, 62, 48, 49, 50, 51, 52, 53, 54, 140, 141, 142, 143, 144, 145, 146, 147, 148, 149, 150, 151, 152, 153, 154, 155] rfl (by decide +kernel)
set_option maxRecDepth 100000 in
theorem gX2_endMemory_X2_resultOf : GoodIn wsX2_endMemory (wsV RX2 107 RX2 yX2_resultOf wsX2_resultOf) := goodIn_app (goodIn_of _ (by decide +kernel)) ggX2_endMemory_X2_resultOf
set_option maxRecDepth 100000 in
theorem ggX2_endMemory_X1_opcode : GoodIn wsX2_endMemory wsX1_opcode := goodIn_r _ [30] rfl (by decide +kernel)
set_option maxRecDepth 100000 in
theorem gX2_endMemory_X1_opcode : GoodIn wsX2_endMemory (va_wsS RX2 110 yX1_opcode wsX1_opcode) := goodIn_app (goodIn_of _ (by decide +kernel)) ggX2_endMemory_X1_opcode
set_option maxRecDepth 100000 in
theorem ggX2_endMemory_X2_addressOf : GoodIn wsX2_endMemory wsX2_addressOf := goodIn_r _ [79, 40, 41, 42, 10, 43, 44, 45, 46, 22, 47, 34, 29, 30, 80, 81, 82, 83, 84, 85, 70, 71, 72, 140, 141, 142, 143, 144, 145, 146, 147, 148, 149, 150, 151, 152, 153, 154, 155] rfl (by decide +kernel)
set_option maxRecDepth 100000 in
theorem gX2_endMemory_X2_addressOf : GoodIn wsX2_endMemory (wsV RX2 113 RX2 yX2_addressOf wsX2_addressOf) := goodIn_app (goodIn_of _ (by decide +kernel)) ggX2_endMemory_X2_addressOf
set_option maxRecDepth 100000 in
theorem ggX2_endMemory_X1_f3 : GoodIn wsX2_endMemory wsX1_f3 := goodIn_r _ [27] rfl (by decide +kernel)
set_option maxRecDepth 100000 in
theorem gX2_endMemory_X1_f3 : GoodIn wsX2_endMemory (va_wsS RX2 116 yX1_f3 wsX1_f3) := goodIn_app (goodIn_of _ (by decide +kernel)) ggX2_endMemory_X1_f3
set_option maxRecDepth 100000 in
theorem ggX2_endMemory_X2_rs2Of : GoodIn wsX2_endMemory wsX2_rs2Of := goodIn_r _ [51, 44, 52, 53, 22, 54, 140, 141, 142, 143, 144, 145, 146, 147, 148, 149, 150, 151, 152, 153, 154, 155] rfl (by decide +kernel)
set_option maxRecDepth 100000 in
theorem gX2_endMemory_X2_rs2Of : GoodIn wsX2_endMemory (wsV RX2 119 RX2 yX2_rs2Of wsX2_rs2Of) := goodIn_app (goodIn_of _ (by decide +kernel)) ggX2_endMemory_X2_rs2Of
set_option maxRecDepth 100000 in
theorem ggX2_endMemory_X2_storeAt : GoodIn wsX2_endMemory wsX2_storeAt := goodIn_r _ [122, 108, 107, 109, 110, 10, 111, 112, 113, 114, 140, 141, 142, 143, 144, 145, 146, 147, 148, 149, 150, 151, 152, 153, 154, 155] rfl (by decide +kernel)
set_option maxRecDepth 100000 in
theorem gX2_endMemory_X2_storeAt : GoodIn wsX2_endMemory (wsV RX2 122 RX2 yX2_storeAt wsX2_storeAt) := goodIn_app (goodIn_of _ (by decide +kernel)) ggX2_endMemory_X2_storeAt
set_option maxRecDepth 100000 in
theorem ggX2_endMemory_X2_goOn : GoodIn wsX2_endMemory wsX2_goOn := goodIn_r _ [126, 1, 127, 35, 36, 37, 10, 38, 34, 29, 22, 30, 39, 26, 27, 40, 41, 42, 43, 44, 45, 46, 47, 48, 49, 50, 51, 52, 53, 54, 55, 56, 57, 58, 59, 60, 61, 62, 63, 64, 65, 66, 67, 68, 69, 70, 71, 72, 73, 74, 75, 7, 8, 9, 11, 12, 13, 14, 15, 128, 129, 130, 83, 84, 85, 28, 131, 21, 23, 24, 25, 31, 32, 33, 132, 133, 134, 135, 136, 137, 138, 139, 140, 141, 142, 143, 144, 145, 146, 147, 148, 149, 150, 151, 152, 153, 154, 155] rfl (by decide +kernel)
set_option maxRecDepth 100000 in
theorem gX2_endMemory_X2_goOn : GoodIn wsX2_endMemory (wsV RX2 126 RX2 yX2_goOn wsX2_goOn) := goodIn_app (goodIn_of _ (by decide +kernel)) ggX2_endMemory_X2_goOn
theorem dX2_endMemory_0 : decode cX2_endMemory 0 = .ok (.aload_n 0, 1) := by decide +kernel
theorem dX2_endMemory_1 : decode cX2_endMemory 1 = .ok (.aload_n 0, 1) := by decide +kernel
theorem dX2_endMemory_2 : decode cX2_endMemory 2 = .ok (.getfield 63, 3) := by decide +kernel
theorem dX2_endMemory_5 : decode cX2_endMemory 5 = .ok (.invokevirtual 91, 3) := by decide +kernel
theorem dX2_endMemory_8 : decode cX2_endMemory 8 = .ok (.istore_n 1, 1) := by decide +kernel
theorem dX2_endMemory_9 : decode cX2_endMemory 9 = .ok (.aload_n 0, 1) := by decide +kernel
theorem dX2_endMemory_10 : decode cX2_endMemory 10 = .ok (.iconst 1, 1) := by decide +kernel
theorem dX2_endMemory_11 : decode cX2_endMemory 11 = .ok (.putfield 69, 3) := by decide +kernel
theorem dX2_endMemory_14 : decode cX2_endMemory 14 = .ok (.aload_n 0, 1) := by decide +kernel
theorem dX2_endMemory_15 : decode cX2_endMemory 15 = .ok (.aload_n 0, 1) := by decide +kernel
theorem dX2_endMemory_16 : decode cX2_endMemory 16 = .ok (.getfield 63, 3) := by decide +kernel
theorem dX2_endMemory_19 : decode cX2_endMemory 19 = .ok (.putfield 82, 3) := by decide +kernel
theorem dX2_endMemory_22 : decode cX2_endMemory 22 = .ok (.aload_n 0, 1) := by decide +kernel
theorem dX2_endMemory_23 : decode cX2_endMemory 23 = .ok (.aload_n 0, 1) := by decide +kernel
theorem dX2_endMemory_24 : decode cX2_endMemory 24 = .ok (.iload_n 1, 1) := by decide +kernel
theorem dX2_endMemory_25 : decode cX2_endMemory 25 = .ok (.invokevirtual 95, 3) := by decide +kernel
theorem dX2_endMemory_28 : decode cX2_endMemory 28 = .ok (.putfield 79, 3) := by decide +kernel
theorem dX2_endMemory_31 : decode cX2_endMemory 31 = .ok (.aload_n 0, 1) := by decide +kernel
theorem dX2_endMemory_32 : decode cX2_endMemory 32 = .ok (.getfield 79, 3) := by decide +kernel
theorem dX2_endMemory_35 : decode cX2_endMemory 35 = .ok (.ifCond .ne 63, 3) := by decide +kernel
theorem dX2_endMemory_38 : decode cX2_endMemory 38 = .ok (.aload_n 0, 1) := by decide +kernel
theorem dX2_endMemory_39 : decode cX2_endMemory 39 = .ok (.iload_n 1, 1) := by decide +kernel
theorem dX2_endMemory_40 : decode cX2_endMemory 40 = .ok (.invokestatic 98, 3) := by decide +kernel
theorem dX2_endMemory_43 : decode cX2_endMemory 43 = .ok (.ifCond .eq 10, 3) := by decide +kernel
theorem dX2_endMemory_46 : decode cX2_endMemory 46 = .ok (.iload_n 1, 1) := by decide +kernel
theorem dX2_endMemory_47 : decode cX2_endMemory 47 = .ok (.invokestatic 104, 3) := by decide +kernel
theorem dX2_endMemory_50 : decode cX2_endMemory 50 = .ok (.goto 4, 3) := by decide +kernel
theorem dX2_endMemory_53 : decode cX2_endMemory 53 = .ok (.iconst 0, 1) := by decide +kernel
theorem dX2_endMemory_54 : decode cX2_endMemory 54 = .ok (.putfield 85, 3) := by decide +kernel
theorem dX2_endMemory_57 : decode cX2_endMemory 57 = .ok (.aload_n 0, 1) := by decide +kernel
theorem dX2_endMemory_58 : decode cX2_endMemory 58 = .ok (.aload_n 0, 1) := by decide +kernel
theorem dX2_endMemory_59 : decode cX2_endMemory 59 = .ok (.iload_n 1, 1) := by decide +kernel
theorem dX2_endMemory_60 : decode cX2_endMemory 60 = .ok (.invokevirtual 107, 3) := by decide +kernel
theorem dX2_endMemory_63 : decode cX2_endMemory 63 = .ok (.putfield 88, 3) := by decide +kernel
theorem dX2_endMemory_66 : decode cX2_endMemory 66 = .ok (.iload_n 1, 1) := by decide +kernel
theorem dX2_endMemory_67 : decode cX2_endMemory 67 = .ok (.invokestatic 110, 3) := by decide +kernel
theorem dX2_endMemory_70 : decode cX2_endMemory 70 = .ok (.bipush 35, 2) := by decide +kernel
theorem dX2_endMemory_72 : decode cX2_endMemory 72 = .ok (.if_icmp .ne 21, 3) := by decide +kernel
theorem dX2_endMemory_75 : decode cX2_endMemory 75 = .ok (.aload_n 0, 1) := by decide +kernel
theorem dX2_endMemory_76 : decode cX2_endMemory 76 = .ok (.aload_n 0, 1) := by decide +kernel
theorem dX2_endMemory_77 : decode cX2_endMemory 77 = .ok (.iload_n 1, 1) := by decide +kernel
theorem dX2_endMemory_78 : decode cX2_endMemory 78 = .ok (.invokevirtual 113, 3) := by decide +kernel
theorem dX2_endMemory_81 : decode cX2_endMemory 81 = .ok (.iload_n 1, 1) := by decide +kernel
theorem dX2_endMemory_82 : decode cX2_endMemory 82 = .ok (.invokestatic 116, 3) := by decide +kernel
theorem dX2_endMemory_85 : decode cX2_endMemory 85 = .ok (.aload_n 0, 1) := by decide +kernel
theorem dX2_endMemory_86 : decode cX2_endMemory 86 = .ok (.iload_n 1, 1) := by decide +kernel
theorem dX2_endMemory_87 : decode cX2_endMemory 87 = .ok (.invokevirtual 119, 3) := by decide +kernel
theorem dX2_endMemory_90 : decode cX2_endMemory 90 = .ok (.invokevirtual 122, 3) := by decide +kernel
theorem dX2_endMemory_93 : decode cX2_endMemory 93 = .ok (.aload_n 0, 1) := by decide +kernel
theorem dX2_endMemory_94 : decode cX2_endMemory 94 = .ok (.iload_n 1, 1) := by decide +kernel
theorem dX2_endMemory_95 : decode cX2_endMemory 95 = .ok (.invokevirtual 126, 3) := by decide +kernel
theorem dX2_endMemory_98 : decode cX2_endMemory 98 = .ok (.return_, 1) := by decide +kernel
set_option maxRecDepth 100000 in
theorem ggX2_goOn_X2_jumps : GoodIn wsX2_goOn wsX2_jumps := goodIn_r _ [7, 8, 9, 10, 11, 12, 13, 14, 15, 16, 17, 6, 18, 19, 20, 21, 22, 23, 24, 25, 26, 27, 28, 29, 30, 31, 32, 33, 34, 35, 36, 37, 82, 83, 84, 85, 86, 87, 88, 89, 90, 91, 92, 93, 94, 95, 96, 97] rfl (by decide +kernel)
set_option maxRecDepth 100000 in
theorem gX2_goOn_X2_jumps : GoodIn wsX2_goOn (wsV RX2 130 RX2 yX2_jumps wsX2_jumps) := goodIn_app (goodIn_of _ (by decide +kernel)) ggX2_goOn_X2_jumps
set_option maxRecDepth 100000 in
theorem ggX2_goOn_X2_targetOf : GoodIn wsX2_goOn wsX2_targetOf := goodIn_r _ [41, 1, 8, 9, 10, 11, 42, 43, 44, 15, 16, 17, 6, 18, 19, 20, 21, 22, 45, 46, 47, 48, 49, 50, 82, 83, 84, 85, 86, 87, 88, 89, 90, 91, 92, 93, 94, 95, 96, 97] rfl (by decide +kernel)
set_option maxRecDepth 100000 in
theorem gX2_goOn_X2_targetOf : GoodIn wsX2_goOn (wsV RX2 133 RX2 yX2_targetOf wsX2_targetOf) := goodIn_app (goodIn_of _ (by decide +kernel)) ggX2_goOn_X2_targetOf
set_option maxRecDepth 100000 in
theorem ggX2_goOn_X2_wordAt : GoodIn wsX2_goOn wsX2_wordAt := goodIn_r _ [54, 55, 56, 57, 6, 58, 82, 83, 84, 85, 86, 87, 88, 89, 90, 91, 92, 93, 94, 95, 96, 97] rfl (by decide +kernel)
set_option maxRecDepth 100000 in
theorem gX2_goOn_X2_wordAt : GoodIn wsX2_goOn (wsV RX2 91 RX2 yX2_wordAt wsX2_wordAt) := goodIn_app (goodIn_of _ (by decide +kernel)) ggX2_goOn_X2_wordAt
set_option maxRecDepth 100000 in
theorem ggX2_goOn_X1_waitsFor : GoodIn wsX2_goOn wsX1_waitsFor := goodIn_r _ [61, 62, 63, 10, 64, 65, 9, 11, 66, 67, 68, 69, 70, 13, 14, 71, 72, 73, 74, 75, 76, 77, 21, 22, 78, 79, 80, 81, 28, 29] rfl (by decide +kernel)
set_option maxRecDepth 100000 in
theorem gX2_goOn_X1_waitsFor : GoodIn wsX2_goOn (va_wsS RX2 136 yX1_waitsFor wsX1_waitsFor) := goodIn_app (goodIn_of _ (by decide +kernel)) ggX2_goOn_X1_waitsFor
theorem dX2_goOn_0 : decode cX2_goOn 0 = .ok (.aload_n 0, 1) := by decide +kernel
theorem dX2_goOn_1 : decode cX2_goOn 1 = .ok (.iload_n 1, 1) := by decide +kernel
theorem dX2_goOn_2 : decode cX2_goOn 2 = .ok (.invokevirtual 130, 3) := by decide +kernel
theorem dX2_goOn_5 : decode cX2_goOn 5 = .ok (.ifCond .eq 25, 3) := by decide +kernel
theorem dX2_goOn_8 : decode cX2_goOn 8 = .ok (.aload_n 0, 1) := by decide +kernel
theorem dX2_goOn_9 : decode cX2_goOn 9 = .ok (.aload_n 0, 1) := by decide +kernel
theorem dX2_goOn_10 : decode cX2_goOn 10 = .ok (.iload_n 1, 1) := by decide +kernel
theorem dX2_goOn_11 : decode cX2_goOn 11 = .ok (.invokevirtual 133, 3) := by decide +kernel
theorem dX2_goOn_14 : decode cX2_goOn 14 = .ok (.putfield 63, 3) := by decide +kernel
theorem dX2_goOn_17 : decode cX2_goOn 17 = .ok (.aload_n 0, 1) := by decide +kernel
theorem dX2_goOn_18 : decode cX2_goOn 18 = .ok (.dup, 1) := by decide +kernel
theorem dX2_goOn_19 : decode cX2_goOn 19 = .ok (.getfield 66, 3) := by decide +kernel
theorem dX2_goOn_22 : decode cX2_goOn 22 = .ok (.iconst 3, 1) := by decide +kernel
theorem dX2_goOn_23 : decode cX2_goOn 23 = .ok (.iadd, 1) := by decide +kernel
theorem dX2_goOn_24 : decode cX2_goOn 24 = .ok (.putfield 66, 3) := by decide +kernel
theorem dX2_goOn_27 : decode cX2_goOn 27 = .ok (.goto 42, 3) := by decide +kernel
theorem dX2_goOn_30 : decode cX2_goOn 30 = .ok (.aload_n 0, 1) := by decide +kernel
theorem dX2_goOn_31 : decode cX2_goOn 31 = .ok (.dup, 1) := by decide +kernel
theorem dX2_goOn_32 : decode cX2_goOn 32 = .ok (.getfield 63, 3) := by decide +kernel
theorem dX2_goOn_35 : decode cX2_goOn 35 = .ok (.iconst 4, 1) := by decide +kernel
theorem dX2_goOn_36 : decode cX2_goOn 36 = .ok (.iadd, 1) := by decide +kernel
theorem dX2_goOn_37 : decode cX2_goOn 37 = .ok (.putfield 63, 3) := by decide +kernel
theorem dX2_goOn_40 : decode cX2_goOn 40 = .ok (.aload_n 0, 1) := by decide +kernel
theorem dX2_goOn_41 : decode cX2_goOn 41 = .ok (.dup, 1) := by decide +kernel
theorem dX2_goOn_42 : decode cX2_goOn 42 = .ok (.getfield 66, 3) := by decide +kernel
theorem dX2_goOn_45 : decode cX2_goOn 45 = .ok (.aload_n 0, 1) := by decide +kernel
theorem dX2_goOn_46 : decode cX2_goOn 46 = .ok (.aload_n 0, 1) := by decide +kernel
theorem dX2_goOn_47 : decode cX2_goOn 47 = .ok (.getfield 63, 3) := by decide +kernel
theorem dX2_goOn_50 : decode cX2_goOn 50 = .ok (.invokevirtual 91, 3) := by decide +kernel
theorem dX2_goOn_53 : decode cX2_goOn 53 = .ok (.iload_n 1, 1) := by decide +kernel
theorem dX2_goOn_54 : decode cX2_goOn 54 = .ok (.invokestatic 136, 3) := by decide +kernel
theorem dX2_goOn_57 : decode cX2_goOn 57 = .ok (.ifCond .eq 7, 3) := by decide +kernel
theorem dX2_goOn_60 : decode cX2_goOn 60 = .ok (.iconst 2, 1) := by decide +kernel
theorem dX2_goOn_61 : decode cX2_goOn 61 = .ok (.goto 4, 3) := by decide +kernel
theorem dX2_goOn_64 : decode cX2_goOn 64 = .ok (.iconst 1, 1) := by decide +kernel
theorem dX2_goOn_65 : decode cX2_goOn 65 = .ok (.iadd, 1) := by decide +kernel
theorem dX2_goOn_66 : decode cX2_goOn 66 = .ok (.putfield 66, 3) := by decide +kernel
theorem dX2_goOn_69 : decode cX2_goOn 69 = .ok (.return_, 1) := by decide +kernel
set_option maxRecDepth 100000 in
theorem ggX2_wordAt_X2_isBeyond : GoodIn wsX2_wordAt wsX2_isBeyond := goodIn_r _ [5] rfl (by decide +kernel)
set_option maxRecDepth 100000 in
theorem gX2_wordAt_X2_isBeyond : GoodIn wsX2_wordAt (va_wsS RX2 140 yX2_isBeyond wsX2_isBeyond) := goodIn_app (goodIn_of _ (by decide +kernel)) ggX2_wordAt_X2_isBeyond
theorem dX2_wordAt_0 : decode cX2_wordAt 0 = .ok (.iload_n 1, 1) := by decide +kernel
theorem dX2_wordAt_1 : decode cX2_wordAt 1 = .ok (.sipush 1023, 3) := by decide +kernel
theorem dX2_wordAt_4 : decode cX2_wordAt 4 = .ok (.invokestatic 140, 3) := by decide +kernel
theorem dX2_wordAt_7 : decode cX2_wordAt 7 = .ok (.ifCond .eq 7, 3) := by decide +kernel
theorem dX2_wordAt_10 : decode cX2_wordAt 10 = .ok (.iconst 0, 1) := by decide +kernel
theorem dX2_wordAt_11 : decode cX2_wordAt 11 = .ok (.goto 11, 3) := by decide +kernel
theorem dX2_wordAt_14 : decode cX2_wordAt 14 = .ok (.aload_n 0, 1) := by decide +kernel
theorem dX2_wordAt_15 : decode cX2_wordAt 15 = .ok (.getfield 9, 3) := by decide +kernel
theorem dX2_wordAt_18 : decode cX2_wordAt 18 = .ok (.iload_n 1, 1) := by decide +kernel
theorem dX2_wordAt_19 : decode cX2_wordAt 19 = .ok (.iconst 2, 1) := by decide +kernel
theorem dX2_wordAt_20 : decode cX2_wordAt 20 = .ok (.ishr, 1) := by decide +kernel
theorem dX2_wordAt_21 : decode cX2_wordAt 21 = .ok (.iaload, 1) := by decide +kernel
theorem dX2_wordAt_22 : decode cX2_wordAt 22 = .ok (.ireturn, 1) := by decide +kernel
set_option maxRecDepth 100000 in
theorem ggX2_haltOf_X2_isBeyond : GoodIn wsX2_haltOf wsX2_isBeyond := goodIn_r _ [5] rfl (by decide +kernel)
set_option maxRecDepth 100000 in
theorem gX2_haltOf_X2_isBeyond : GoodIn wsX2_haltOf (va_wsS RX2 140 yX2_isBeyond wsX2_isBeyond) := goodIn_app (goodIn_of _ (by decide +kernel)) ggX2_haltOf_X2_isBeyond
set_option maxRecDepth 100000 in
theorem ggX2_haltOf_X1_isLegal : GoodIn wsX2_haltOf wsX1_isLegal := goodIn_r _ [9, 10, 11, 12, 8, 13, 14, 15, 16, 17, 18, 19] rfl (by decide +kernel)
set_option maxRecDepth 100000 in
theorem gX2_haltOf_X1_isLegal : GoodIn wsX2_haltOf (va_wsS RX2 143 yX1_isLegal wsX1_isLegal) := goodIn_app (goodIn_of _ (by decide +kernel)) ggX2_haltOf_X1_isLegal
set_option maxRecDepth 100000 in
theorem ggX2_haltOf_X1_opcode : GoodIn wsX2_haltOf wsX1_opcode := goodIn_r _ [16] rfl (by decide +kernel)
set_option maxRecDepth 100000 in
theorem gX2_haltOf_X1_opcode : GoodIn wsX2_haltOf (va_wsS RX2 110 yX1_opcode wsX1_opcode) := goodIn_app (goodIn_of _ (by decide +kernel)) ggX2_haltOf_X1_opcode
set_option maxRecDepth 100000 in
theorem ggX2_haltOf_X2_jumps : GoodIn wsX2_haltOf wsX2_jumps := goodIn_r _ [24, 20, 15, 8, 16, 25, 12, 13, 26, 27, 28, 4, 29, 30, 31, 32, 33, 34, 35, 36, 37, 38, 39, 40, 41, 42, 43, 44, 45, 46, 47, 48, 78, 79, 80, 81, 82, 83, 84, 85, 86, 87, 88, 89, 90, 91, 92, 93] rfl (by decide +kernel)
set_option maxRecDepth 100000 in
theorem gX2_haltOf_X2_jumps : GoodIn wsX2_haltOf (wsV RX2 130 RX2 yX2_jumps wsX2_jumps) := goodIn_app (goodIn_of _ (by decide +kernel)) ggX2_haltOf_X2_jumps
set_option maxRecDepth 100000 in
theorem ggX2_haltOf_X2_targetOf : GoodIn wsX2_haltOf wsX2_targetOf := goodIn_r _ [52, 1, 20, 15, 8, 16, 53, 54, 55, 26, 27, 28, 4, 29, 30, 31, 32, 33, 56, 57, 58, 59, 60, 61, 78, 79, 80, 81, 82, 83, 84, 85, 86, 87, 88, 89, 90, 91, 92, 93] rfl (by decide +kernel)
set_option maxRecDepth 100000 in
theorem gX2_haltOf_X2_targetOf : GoodIn wsX2_haltOf (wsV RX2 133 RX2 yX2_targetOf wsX2_targetOf) := goodIn_app (goodIn_of _ (by decide +kernel)) ggX2_haltOf_X2_targetOf
set_option maxRecDepth 100000 in
theorem ggX2_haltOf_X2_addressOf : GoodIn wsX2_haltOf wsX2_addressOf := goodIn_r _ [65, 26, 27, 28, 4, 29, 30, 31, 32, 8, 33, 20, 15, 16, 66, 67, 68, 69, 70, 71, 56, 57, 58, 78, 79, 80, 81, 82, 83, 84, 85, 86, 87, 88, 89, 90, 91, 92, 93] rfl (by decide +kernel)
set_option maxRecDepth 100000 in
theorem gX2_haltOf_X2_addressOf : GoodIn wsX2_haltOf (wsV RX2 113 RX2 yX2_addressOf wsX2_addressOf) := goodIn_app (goodIn_of _ (by decide +kernel)) ggX2_haltOf_X2_addressOf
set_option maxRecDepth 100000 in
theorem ggX2_haltOf_X1_accessBytes : GoodIn wsX2_haltOf wsX1_accessBytes := goodIn_r _ [74, 11, 12, 8, 13] rfl (by decide +kernel)
set_option maxRecDepth 100000 in
theorem gX2_haltOf_X1_accessBytes : GoodIn wsX2_haltOf (va_wsS RX2 146 yX1_accessBytes wsX1_accessBytes) := goodIn_app (goodIn_of _ (by decide +kernel)) ggX2_haltOf_X1_accessBytes
set_option maxRecDepth 100000 in
theorem ggX2_haltOf_X2_haltOfAccess : GoodIn wsX2_haltOf wsX2_haltOfAccess := goodIn_r _ [77, 2, 3, 4, 5] rfl (by decide +kernel)
set_option maxRecDepth 100000 in
theorem gX2_haltOf_X2_haltOfAccess : GoodIn wsX2_haltOf (va_wsS RX2 149 yX2_haltOfAccess wsX2_haltOfAccess) := goodIn_app (goodIn_of _ (by decide +kernel)) ggX2_haltOf_X2_haltOfAccess
theorem dX2_haltOf_0 : decode cX2_haltOf 0 = .ok (.aload_n 0, 1) := by decide +kernel
theorem dX2_haltOf_1 : decode cX2_haltOf 1 = .ok (.getfield 63, 3) := by decide +kernel
theorem dX2_haltOf_4 : decode cX2_haltOf 4 = .ok (.sipush 1023, 3) := by decide +kernel
theorem dX2_haltOf_7 : decode cX2_haltOf 7 = .ok (.invokestatic 140, 3) := by decide +kernel
theorem dX2_haltOf_10 : decode cX2_haltOf 10 = .ok (.ifCond .eq 5, 3) := by decide +kernel
theorem dX2_haltOf_13 : decode cX2_haltOf 13 = .ok (.iconst 4, 1) := by decide +kernel
theorem dX2_haltOf_14 : decode cX2_haltOf 14 = .ok (.ireturn, 1) := by decide +kernel
theorem dX2_haltOf_15 : decode cX2_haltOf 15 = .ok (.iload_n 1, 1) := by decide +kernel
theorem dX2_haltOf_16 : decode cX2_haltOf 16 = .ok (.invokestatic 143, 3) := by decide +kernel
theorem dX2_haltOf_19 : decode cX2_haltOf 19 = .ok (.ifCond .ne 5, 3) := by decide +kernel
theorem dX2_haltOf_22 : decode cX2_haltOf 22 = .ok (.iconst 3, 1) := by decide +kernel
theorem dX2_haltOf_23 : decode cX2_haltOf 23 = .ok (.ireturn, 1) := by decide +kernel
theorem dX2_haltOf_24 : decode cX2_haltOf 24 = .ok (.iload_n 1, 1) := by decide +kernel
theorem dX2_haltOf_25 : decode cX2_haltOf 25 = .ok (.invokestatic 110, 3) := by decide +kernel
theorem dX2_haltOf_28 : decode cX2_haltOf 28 = .ok (.lookupswitch 109 #[(3, 96), (35, 96), (99, 72), (103, 72), (111, 72), (115, 60)], 60) := by decide +kernel
theorem dX2_haltOf_88 : decode cX2_haltOf 88 = .ok (.iload_n 1, 1) := by decide +kernel
theorem dX2_haltOf_89 : decode cX2_haltOf 89 = .ok (.bipush 115, 2) := by decide +kernel
theorem dX2_haltOf_91 : decode cX2_haltOf 91 = .ok (.if_icmp .ne 7, 3) := by decide +kernel
theorem dX2_haltOf_94 : decode cX2_haltOf 94 = .ok (.iconst 1, 1) := by decide +kernel
theorem dX2_haltOf_95 : decode cX2_haltOf 95 = .ok (.goto 4, 3) := by decide +kernel
theorem dX2_haltOf_98 : decode cX2_haltOf 98 = .ok (.iconst 2, 1) := by decide +kernel
theorem dX2_haltOf_99 : decode cX2_haltOf 99 = .ok (.ireturn, 1) := by decide +kernel
theorem dX2_haltOf_100 : decode cX2_haltOf 100 = .ok (.aload_n 0, 1) := by decide +kernel
theorem dX2_haltOf_101 : decode cX2_haltOf 101 = .ok (.iload_n 1, 1) := by decide +kernel
theorem dX2_haltOf_102 : decode cX2_haltOf 102 = .ok (.invokevirtual 130, 3) := by decide +kernel
theorem dX2_haltOf_105 : decode cX2_haltOf 105 = .ok (.ifCond .eq 17, 3) := by decide +kernel
theorem dX2_haltOf_108 : decode cX2_haltOf 108 = .ok (.aload_n 0, 1) := by decide +kernel
theorem dX2_haltOf_109 : decode cX2_haltOf 109 = .ok (.iload_n 1, 1) := by decide +kernel
theorem dX2_haltOf_110 : decode cX2_haltOf 110 = .ok (.invokevirtual 133, 3) := by decide +kernel
theorem dX2_haltOf_113 : decode cX2_haltOf 113 = .ok (.iconst 3, 1) := by decide +kernel
theorem dX2_haltOf_114 : decode cX2_haltOf 114 = .ok (.iand, 1) := by decide +kernel
theorem dX2_haltOf_115 : decode cX2_haltOf 115 = .ok (.ifCond .eq 7, 3) := by decide +kernel
theorem dX2_haltOf_118 : decode cX2_haltOf 118 = .ok (.iconst 5, 1) := by decide +kernel
theorem dX2_haltOf_119 : decode cX2_haltOf 119 = .ok (.goto 4, 3) := by decide +kernel
theorem dX2_haltOf_122 : decode cX2_haltOf 122 = .ok (.iconst 0, 1) := by decide +kernel
theorem dX2_haltOf_123 : decode cX2_haltOf 123 = .ok (.ireturn, 1) := by decide +kernel
theorem dX2_haltOf_124 : decode cX2_haltOf 124 = .ok (.aload_n 0, 1) := by decide +kernel
theorem dX2_haltOf_125 : decode cX2_haltOf 125 = .ok (.iload_n 1, 1) := by decide +kernel
theorem dX2_haltOf_126 : decode cX2_haltOf 126 = .ok (.invokevirtual 113, 3) := by decide +kernel
theorem dX2_haltOf_129 : decode cX2_haltOf 129 = .ok (.iload_n 1, 1) := by decide +kernel
theorem dX2_haltOf_130 : decode cX2_haltOf 130 = .ok (.invokestatic 146, 3) := by decide +kernel
theorem dX2_haltOf_133 : decode cX2_haltOf 133 = .ok (.invokestatic 149, 3) := by decide +kernel
theorem dX2_haltOf_136 : decode cX2_haltOf 136 = .ok (.ireturn, 1) := by decide +kernel
theorem dX2_haltOf_137 : decode cX2_haltOf 137 = .ok (.iconst 0, 1) := by decide +kernel
theorem dX2_haltOf_138 : decode cX2_haltOf 138 = .ok (.ireturn, 1) := by decide +kernel
set_option maxRecDepth 100000 in
theorem ggX2_haltOfAccess_X2_isBeyond : GoodIn wsX2_haltOfAccess wsX2_isBeyond := goodIn_r _ [4] rfl (by decide +kernel)
set_option maxRecDepth 100000 in
theorem gX2_haltOfAccess_X2_isBeyond : GoodIn wsX2_haltOfAccess (va_wsS RX2 140 yX2_isBeyond wsX2_isBeyond) := goodIn_app (goodIn_of _ (by decide +kernel)) ggX2_haltOfAccess_X2_isBeyond
theorem dX2_haltOfAccess_0 : decode cX2_haltOfAccess 0 = .ok (.iload_n 0, 1) := by decide +kernel
theorem dX2_haltOfAccess_1 : decode cX2_haltOfAccess 1 = .ok (.iload_n 1, 1) := by decide +kernel
theorem dX2_haltOfAccess_2 : decode cX2_haltOfAccess 2 = .ok (.iconst 1, 1) := by decide +kernel
theorem dX2_haltOfAccess_3 : decode cX2_haltOfAccess 3 = .ok (.isub, 1) := by decide +kernel
theorem dX2_haltOfAccess_4 : decode cX2_haltOfAccess 4 = .ok (.iand, 1) := by decide +kernel
theorem dX2_haltOfAccess_5 : decode cX2_haltOfAccess 5 = .ok (.ifCond .eq 6, 3) := by decide +kernel
theorem dX2_haltOfAccess_8 : decode cX2_haltOfAccess 8 = .ok (.bipush 6, 2) := by decide +kernel
theorem dX2_haltOfAccess_10 : decode cX2_haltOfAccess 10 = .ok (.ireturn, 1) := by decide +kernel
theorem dX2_haltOfAccess_11 : decode cX2_haltOfAccess 11 = .ok (.iload_n 0, 1) := by decide +kernel
theorem dX2_haltOfAccess_12 : decode cX2_haltOfAccess 12 = .ok (.sipush 255, 3) := by decide +kernel
theorem dX2_haltOfAccess_15 : decode cX2_haltOfAccess 15 = .ok (.invokestatic 140, 3) := by decide +kernel
theorem dX2_haltOfAccess_18 : decode cX2_haltOfAccess 18 = .ok (.ifCond .eq 8, 3) := by decide +kernel
theorem dX2_haltOfAccess_21 : decode cX2_haltOfAccess 21 = .ok (.bipush 7, 2) := by decide +kernel
theorem dX2_haltOfAccess_23 : decode cX2_haltOfAccess 23 = .ok (.goto 4, 3) := by decide +kernel
theorem dX2_haltOfAccess_26 : decode cX2_haltOfAccess 26 = .ok (.iconst 0, 1) := by decide +kernel
theorem dX2_haltOfAccess_27 : decode cX2_haltOfAccess 27 = .ok (.ireturn, 1) := by decide +kernel
theorem dX2_isBeyond_0 : decode cX2_isBeyond 0 = .ok (.iload_n 0, 1) := by decide +kernel
theorem dX2_isBeyond_1 : decode cX2_isBeyond 1 = .ok (.ifCond .lt 8, 3) := by decide +kernel
theorem dX2_isBeyond_4 : decode cX2_isBeyond 4 = .ok (.iload_n 0, 1) := by decide +kernel
theorem dX2_isBeyond_5 : decode cX2_isBeyond 5 = .ok (.iload_n 1, 1) := by decide +kernel
theorem dX2_isBeyond_6 : decode cX2_isBeyond 6 = .ok (.if_icmp .le 7, 3) := by decide +kernel
theorem dX2_isBeyond_9 : decode cX2_isBeyond 9 = .ok (.iconst 1, 1) := by decide +kernel
theorem dX2_isBeyond_10 : decode cX2_isBeyond 10 = .ok (.goto 4, 3) := by decide +kernel
theorem dX2_isBeyond_13 : decode cX2_isBeyond 13 = .ok (.iconst 0, 1) := by decide +kernel
theorem dX2_isBeyond_14 : decode cX2_isBeyond 14 = .ok (.ireturn, 1) := by decide +kernel
set_option maxRecDepth 100000 in
theorem ggX2_jumps_X1_opcode : GoodIn wsX2_jumps wsX1_opcode := goodIn_r _ [4] rfl (by decide +kernel)
set_option maxRecDepth 100000 in
theorem gX2_jumps_X1_opcode : GoodIn wsX2_jumps (va_wsS RX2 110 yX1_opcode wsX1_opcode) := goodIn_app (goodIn_of _ (by decide +kernel)) ggX2_jumps_X1_opcode
set_option maxRecDepth 100000 in
theorem ggX2_jumps_X1_f3 : GoodIn wsX2_jumps wsX1_f3 := goodIn_r _ [7] rfl (by decide +kernel)
set_option maxRecDepth 100000 in
theorem gX2_jumps_X1_f3 : GoodIn wsX2_jumps (va_wsS RX2 116 yX1_f3 wsX1_f3) := goodIn_app (goodIn_of _ (by decide +kernel)) ggX2_jumps_X1_f3
set_option maxRecDepth 100000 in
theorem ggX2_jumps_X2_rs1Of : GoodIn wsX2_jumps wsX2_rs1Of := goodIn_r _ [12, 13, 14, 15, 3, 16, 32, 33, 34, 35, 36, 37, 38, 39, 40, 41, 42, 43, 44, 45, 46, 47] rfl (by decide +kernel)
set_option maxRecDepth 100000 in
theorem gX2_jumps_X2_rs1Of : GoodIn wsX2_jumps (wsV RX2 153 RX2 yX2_rs1Of wsX2_rs1Of) := goodIn_app (goodIn_of _ (by decide +kernel)) ggX2_jumps_X2_rs1Of
set_option maxRecDepth 100000 in
theorem ggX2_jumps_X2_rs2Of : GoodIn wsX2_jumps wsX2_rs2Of := goodIn_r _ [20, 13, 21, 22, 3, 23, 32, 33, 34, 35, 36, 37, 38, 39, 40, 41, 42, 43, 44, 45, 46, 47] rfl (by decide +kernel)
set_option maxRecDepth 100000 in
theorem gX2_jumps_X2_rs2Of : GoodIn wsX2_jumps (wsV RX2 119 RX2 yX2_rs2Of wsX2_rs2Of) := goodIn_app (goodIn_of _ (by decide +kernel)) ggX2_jumps_X2_rs2Of
set_option maxRecDepth 100000 in
theorem ggX2_jumps_X0_branches : GoodIn wsX2_jumps wsX0_branches := goodIn_r _ [27, 28, 29, 26, 30, 31] rfl (by decide +kernel)
set_option maxRecDepth 100000 in
theorem gX2_jumps_X0_branches : GoodIn wsX2_jumps (va_wsS RX2 156 yX0_branches wsX0_branches) := goodIn_app (goodIn_of _ (by decide +kernel)) ggX2_jumps_X0_branches
theorem dX2_jumps_0 : decode cX2_jumps 0 = .ok (.iload_n 1, 1) := by decide +kernel
theorem dX2_jumps_1 : decode cX2_jumps 1 = .ok (.invokestatic 110, 3) := by decide +kernel
theorem dX2_jumps_4 : decode cX2_jumps 4 = .ok (.lookupswitch 56 #[(99, 38), (103, 36), (111, 36)], 36) := by decide +kernel
theorem dX2_jumps_40 : decode cX2_jumps 40 = .ok (.iconst 1, 1) := by decide +kernel
theorem dX2_jumps_41 : decode cX2_jumps 41 = .ok (.ireturn, 1) := by decide +kernel
theorem dX2_jumps_42 : decode cX2_jumps 42 = .ok (.iload_n 1, 1) := by decide +kernel
theorem dX2_jumps_43 : decode cX2_jumps 43 = .ok (.invokestatic 116, 3) := by decide +kernel
theorem dX2_jumps_46 : decode cX2_jumps 46 = .ok (.aload_n 0, 1) := by decide +kernel
theorem dX2_jumps_47 : decode cX2_jumps 47 = .ok (.iload_n 1, 1) := by decide +kernel
theorem dX2_jumps_48 : decode cX2_jumps 48 = .ok (.invokevirtual 153, 3) := by decide +kernel
theorem dX2_jumps_51 : decode cX2_jumps 51 = .ok (.aload_n 0, 1) := by decide +kernel
theorem dX2_jumps_52 : decode cX2_jumps 52 = .ok (.iload_n 1, 1) := by decide +kernel
theorem dX2_jumps_53 : decode cX2_jumps 53 = .ok (.invokevirtual 119, 3) := by decide +kernel
theorem dX2_jumps_56 : decode cX2_jumps 56 = .ok (.invokestatic 156, 3) := by decide +kernel
theorem dX2_jumps_59 : decode cX2_jumps 59 = .ok (.ireturn, 1) := by decide +kernel
theorem dX2_jumps_60 : decode cX2_jumps 60 = .ok (.iconst 0, 1) := by decide +kernel
theorem dX2_jumps_61 : decode cX2_jumps 61 = .ok (.ireturn, 1) := by decide +kernel
set_option maxRecDepth 100000 in
theorem ggX2_targetOf_X1_opcode : GoodIn wsX2_targetOf wsX1_opcode := goodIn_r _ [5] rfl (by decide +kernel)
set_option maxRecDepth 100000 in
theorem gX2_targetOf_X1_opcode : GoodIn wsX2_targetOf (va_wsS RX2 110 yX1_opcode wsX1_opcode) := goodIn_app (goodIn_of _ (by decide +kernel)) ggX2_targetOf_X1_opcode
set_option maxRecDepth 100000 in
theorem ggX2_targetOf_X1_immediateJ : GoodIn wsX2_targetOf wsX1_immediateJ := goodIn_r _ [8] rfl (by decide +kernel)
set_option maxRecDepth 100000 in
theorem gX2_targetOf_X1_immediateJ : GoodIn wsX2_targetOf (va_wsS RX2 162 yX1_immediateJ wsX1_immediateJ) := goodIn_app (goodIn_of _ (by decide +kernel)) ggX2_targetOf_X1_immediateJ
set_option maxRecDepth 100000 in
theorem ggX2_targetOf_X2_rs1Of : GoodIn wsX2_targetOf wsX2_rs1Of := goodIn_r _ [13, 14, 15, 16, 4, 17, 24, 25, 26, 27, 28, 29, 30, 31, 32, 33, 34, 35, 36, 37, 38, 39] rfl (by decide +kernel)
set_option maxRecDepth 100000 in
theorem gX2_targetOf_X2_rs1Of : GoodIn wsX2_targetOf (wsV RX2 153 RX2 yX2_rs1Of wsX2_rs1Of) := goodIn_app (goodIn_of _ (by decide +kernel)) ggX2_targetOf_X2_rs1Of
set_option maxRecDepth 100000 in
theorem ggX2_targetOf_X1_immediateI : GoodIn wsX2_targetOf wsX1_immediateI := goodIn_r _ [20] rfl (by decide +kernel)
set_option maxRecDepth 100000 in
theorem gX2_targetOf_X1_immediateI : GoodIn wsX2_targetOf (va_wsS RX2 165 yX1_immediateI wsX1_immediateI) := goodIn_app (goodIn_of _ (by decide +kernel)) ggX2_targetOf_X1_immediateI
set_option maxRecDepth 100000 in
theorem ggX2_targetOf_X1_immediateB : GoodIn wsX2_targetOf wsX1_immediateB := goodIn_r _ [23] rfl (by decide +kernel)
set_option maxRecDepth 100000 in
theorem gX2_targetOf_X1_immediateB : GoodIn wsX2_targetOf (va_wsS RX2 168 yX1_immediateB wsX1_immediateB) := goodIn_app (goodIn_of _ (by decide +kernel)) ggX2_targetOf_X1_immediateB
theorem dX2_targetOf_0 : decode cX2_targetOf 0 = .ok (.iload_n 1, 1) := by decide +kernel
theorem dX2_targetOf_1 : decode cX2_targetOf 1 = .ok (.invokestatic 110, 3) := by decide +kernel
theorem dX2_targetOf_4 : decode cX2_targetOf 4 = .ok (.lookupswitch 52 #[(103, 38), (111, 28)], 28) := by decide +kernel
theorem dX2_targetOf_32 : decode cX2_targetOf 32 = .ok (.aload_n 0, 1) := by decide +kernel
theorem dX2_targetOf_33 : decode cX2_targetOf 33 = .ok (.getfield 63, 3) := by decide +kernel
theorem dX2_targetOf_36 : decode cX2_targetOf 36 = .ok (.iload_n 1, 1) := by decide +kernel
theorem dX2_targetOf_37 : decode cX2_targetOf 37 = .ok (.invokestatic 162, 3) := by decide +kernel
theorem dX2_targetOf_40 : decode cX2_targetOf 40 = .ok (.iadd, 1) := by decide +kernel
theorem dX2_targetOf_41 : decode cX2_targetOf 41 = .ok (.ireturn, 1) := by decide +kernel
theorem dX2_targetOf_42 : decode cX2_targetOf 42 = .ok (.aload_n 0, 1) := by decide +kernel
theorem dX2_targetOf_43 : decode cX2_targetOf 43 = .ok (.iload_n 1, 1) := by decide +kernel
theorem dX2_targetOf_44 : decode cX2_targetOf 44 = .ok (.invokevirtual 153, 3) := by decide +kernel
theorem dX2_targetOf_47 : decode cX2_targetOf 47 = .ok (.iload_n 1, 1) := by decide +kernel
theorem dX2_targetOf_48 : decode cX2_targetOf 48 = .ok (.invokestatic 165, 3) := by decide +kernel
theorem dX2_targetOf_51 : decode cX2_targetOf 51 = .ok (.iadd, 1) := by decide +kernel
theorem dX2_targetOf_52 : decode cX2_targetOf 52 = .ok (.bipush (-2), 2) := by decide +kernel
theorem dX2_targetOf_54 : decode cX2_targetOf 54 = .ok (.iand, 1) := by decide +kernel
theorem dX2_targetOf_55 : decode cX2_targetOf 55 = .ok (.ireturn, 1) := by decide +kernel
theorem dX2_targetOf_56 : decode cX2_targetOf 56 = .ok (.aload_n 0, 1) := by decide +kernel
theorem dX2_targetOf_57 : decode cX2_targetOf 57 = .ok (.getfield 63, 3) := by decide +kernel
theorem dX2_targetOf_60 : decode cX2_targetOf 60 = .ok (.iload_n 1, 1) := by decide +kernel
theorem dX2_targetOf_61 : decode cX2_targetOf 61 = .ok (.invokestatic 168, 3) := by decide +kernel
theorem dX2_targetOf_64 : decode cX2_targetOf 64 = .ok (.iadd, 1) := by decide +kernel
theorem dX2_targetOf_65 : decode cX2_targetOf 65 = .ok (.ireturn, 1) := by decide +kernel
set_option maxRecDepth 100000 in
theorem ggX2_addressOf_X2_rs1Of : GoodIn wsX2_addressOf wsX2_rs1Of := goodIn_r _ [5, 6, 7, 8, 9, 10, 23, 24, 25, 26, 27, 28, 29, 30, 31, 32, 33, 34, 35, 36, 37, 38] rfl (by decide +kernel)
set_option maxRecDepth 100000 in
theorem gX2_addressOf_X2_rs1Of : GoodIn wsX2_addressOf (wsV RX2 153 RX2 yX2_rs1Of wsX2_rs1Of) := goodIn_app (goodIn_of _ (by decide +kernel)) ggX2_addressOf_X2_rs1Of
set_option maxRecDepth 100000 in
theorem ggX2_addressOf_X1_opcode : GoodIn wsX2_addressOf wsX1_opcode := goodIn_r _ [13] rfl (by decide +kernel)
set_option maxRecDepth 100000 in
theorem gX2_addressOf_X1_opcode : GoodIn wsX2_addressOf (va_wsS RX2 110 yX1_opcode wsX1_opcode) := goodIn_app (goodIn_of _ (by decide +kernel)) ggX2_addressOf_X1_opcode
set_option maxRecDepth 100000 in
theorem ggX2_addressOf_X1_immediateS : GoodIn wsX2_addressOf wsX1_immediateS := goodIn_r _ [16, 17, 18, 9, 19] rfl (by decide +kernel)
set_option maxRecDepth 100000 in
theorem gX2_addressOf_X1_immediateS : GoodIn wsX2_addressOf (va_wsS RX2 171 yX1_immediateS wsX1_immediateS) := goodIn_app (goodIn_of _ (by decide +kernel)) ggX2_addressOf_X1_immediateS
set_option maxRecDepth 100000 in
theorem ggX2_addressOf_X1_immediateI : GoodIn wsX2_addressOf wsX1_immediateI := goodIn_r _ [22] rfl (by decide +kernel)
set_option maxRecDepth 100000 in
theorem gX2_addressOf_X1_immediateI : GoodIn wsX2_addressOf (va_wsS RX2 165 yX1_immediateI wsX1_immediateI) := goodIn_app (goodIn_of _ (by decide +kernel)) ggX2_addressOf_X1_immediateI
theorem dX2_addressOf_0 : decode cX2_addressOf 0 = .ok (.aload_n 0, 1) := by decide +kernel
theorem dX2_addressOf_1 : decode cX2_addressOf 1 = .ok (.iload_n 1, 1) := by decide +kernel
theorem dX2_addressOf_2 : decode cX2_addressOf 2 = .ok (.invokevirtual 153, 3) := by decide +kernel
theorem dX2_addressOf_5 : decode cX2_addressOf 5 = .ok (.iload_n 1, 1) := by decide +kernel
theorem dX2_addressOf_6 : decode cX2_addressOf 6 = .ok (.invokestatic 110, 3) := by decide +kernel
theorem dX2_addressOf_9 : decode cX2_addressOf 9 = .ok (.bipush 35, 2) := by decide +kernel
theorem dX2_addressOf_11 : decode cX2_addressOf 11 = .ok (.if_icmp .ne 10, 3) := by decide +kernel
theorem dX2_addressOf_14 : decode cX2_addressOf 14 = .ok (.iload_n 1, 1) := by decide +kernel
theorem dX2_addressOf_15 : decode cX2_addressOf 15 = .ok (.invokestatic 171, 3) := by decide +kernel
theorem dX2_addressOf_18 : decode cX2_addressOf 18 = .ok (.goto 7, 3) := by decide +kernel
theorem dX2_addressOf_21 : decode cX2_addressOf 21 = .ok (.iload_n 1, 1) := by decide +kernel
theorem dX2_addressOf_22 : decode cX2_addressOf 22 = .ok (.invokestatic 165, 3) := by decide +kernel
theorem dX2_addressOf_25 : decode cX2_addressOf 25 = .ok (.iadd, 1) := by decide +kernel
theorem dX2_addressOf_26 : decode cX2_addressOf 26 = .ok (.ireturn, 1) := by decide +kernel
set_option maxRecDepth 100000 in
theorem ggX2_rs1Of_X1_rs1 : GoodIn wsX2_rs1Of wsX1_rs1 := goodIn_r _ [5] rfl (by decide +kernel)
set_option maxRecDepth 100000 in
theorem gX2_rs1Of_X1_rs1 : GoodIn wsX2_rs1Of (va_wsS RX2 174 yX1_rs1 wsX1_rs1) := goodIn_app (goodIn_of _ (by decide +kernel)) ggX2_rs1Of_X1_rs1
theorem dX2_rs1Of_0 : decode cX2_rs1Of 0 = .ok (.aload_n 0, 1) := by decide +kernel
theorem dX2_rs1Of_1 : decode cX2_rs1Of 1 = .ok (.getfield 16, 3) := by decide +kernel
theorem dX2_rs1Of_4 : decode cX2_rs1Of 4 = .ok (.iload_n 1, 1) := by decide +kernel
theorem dX2_rs1Of_5 : decode cX2_rs1Of 5 = .ok (.invokestatic 174, 3) := by decide +kernel
theorem dX2_rs1Of_8 : decode cX2_rs1Of 8 = .ok (.iaload, 1) := by decide +kernel
theorem dX2_rs1Of_9 : decode cX2_rs1Of 9 = .ok (.ireturn, 1) := by decide +kernel
set_option maxRecDepth 100000 in
theorem ggX2_rs2Of_X1_rs2 : GoodIn wsX2_rs2Of wsX1_rs2 := goodIn_r _ [5] rfl (by decide +kernel)
set_option maxRecDepth 100000 in
theorem gX2_rs2Of_X1_rs2 : GoodIn wsX2_rs2Of (va_wsS RX2 177 yX1_rs2 wsX1_rs2) := goodIn_app (goodIn_of _ (by decide +kernel)) ggX2_rs2Of_X1_rs2
theorem dX2_rs2Of_0 : decode cX2_rs2Of 0 = .ok (.aload_n 0, 1) := by decide +kernel
theorem dX2_rs2Of_1 : decode cX2_rs2Of 1 = .ok (.getfield 16, 3) := by decide +kernel
theorem dX2_rs2Of_4 : decode cX2_rs2Of 4 = .ok (.iload_n 1, 1) := by decide +kernel
theorem dX2_rs2Of_5 : decode cX2_rs2Of 5 = .ok (.invokestatic 177, 3) := by decide +kernel
theorem dX2_rs2Of_8 : decode cX2_rs2Of 8 = .ok (.iaload, 1) := by decide +kernel
theorem dX2_rs2Of_9 : decode cX2_rs2Of 9 = .ok (.ireturn, 1) := by decide +kernel
set_option maxRecDepth 100000 in
theorem ggX2_resultOf_X1_opcode : GoodIn wsX2_resultOf wsX1_opcode := goodIn_r _ [5] rfl (by decide +kernel)
set_option maxRecDepth 100000 in
theorem gX2_resultOf_X1_opcode : GoodIn wsX2_resultOf (va_wsS RX2 110 yX1_opcode wsX1_opcode) := goodIn_app (goodIn_of _ (by decide +kernel)) ggX2_resultOf_X1_opcode
set_option maxRecDepth 100000 in
theorem ggX2_resultOf_X1_immediateU : GoodIn wsX2_resultOf wsX1_immediateU := goodIn_r _ [8] rfl (by decide +kernel)
set_option maxRecDepth 100000 in
theorem gX2_resultOf_X1_immediateU : GoodIn wsX2_resultOf (va_wsS RX2 180 yX1_immediateU wsX1_immediateU) := goodIn_app (goodIn_of _ (by decide +kernel)) ggX2_resultOf_X1_immediateU
set_option maxRecDepth 100000 in
theorem ggX2_resultOf_X2_addressOf : GoodIn wsX2_resultOf wsX2_addressOf := goodIn_r _ [13, 14, 15, 16, 12, 17, 18, 19, 20, 4, 21, 2, 3, 5, 22, 23, 24, 25, 26, 27, 28, 29, 30, 64, 65, 66, 67, 68, 69, 70, 71, 72, 73, 74, 75, 76, 77, 78, 79] rfl (by decide +kernel)
set_option maxRecDepth 100000 in
theorem gX2_resultOf_X2_addressOf : GoodIn wsX2_resultOf (wsV RX2 113 RX2 yX2_addressOf wsX2_addressOf) := goodIn_app (goodIn_of _ (by decide +kernel)) ggX2_resultOf_X2_addressOf
set_option maxRecDepth 100000 in
theorem ggX2_resultOf_X1_f3 : GoodIn wsX2_resultOf wsX1_f3 := goodIn_r _ [33] rfl (by decide +kernel)
set_option maxRecDepth 100000 in
theorem gX2_resultOf_X1_f3 : GoodIn wsX2_resultOf (va_wsS RX2 116 yX1_f3 wsX1_f3) := goodIn_app (goodIn_of _ (by decide +kernel)) ggX2_resultOf_X1_f3
set_option maxRecDepth 100000 in
theorem ggX2_resultOf_X2_loadAt : GoodIn wsX2_resultOf wsX2_loadAt := goodIn_r _ [37, 38, 39, 40, 41, 12, 42, 43, 44, 45, 64, 65, 66, 67, 68, 69, 70, 71, 72, 73, 74, 75, 76, 77, 78, 79] rfl (by decide +kernel)
set_option maxRecDepth 100000 in
theorem gX2_resultOf_X2_loadAt : GoodIn wsX2_resultOf (wsV RX2 183 RX2 yX2_loadAt wsX2_loadAt) := goodIn_app (goodIn_of _ (by decide +kernel)) ggX2_resultOf_X2_loadAt
set_option maxRecDepth 100000 in
theorem ggX2_resultOf_X1_f7 : GoodIn wsX2_resultOf wsX1_f7 := goodIn_r _ [48] rfl (by decide +kernel)
set_option maxRecDepth 100000 in
theorem gX2_resultOf_X1_f7 : GoodIn wsX2_resultOf (va_wsS RX2 186 yX1_f7 wsX1_f7) := goodIn_app (goodIn_of _ (by decide +kernel)) ggX2_resultOf_X1_f7
set_option maxRecDepth 100000 in
theorem ggX2_resultOf_X2_rs1Of : GoodIn wsX2_resultOf wsX2_rs1Of := goodIn_r _ [17, 18, 19, 20, 4, 21, 64, 65, 66, 67, 68, 69, 70, 71, 72, 73, 74, 75, 76, 77, 78, 79] rfl (by decide +kernel)
set_option maxRecDepth 100000 in
theorem gX2_resultOf_X2_rs1Of : GoodIn wsX2_resultOf (wsV RX2 153 RX2 yX2_rs1Of wsX2_rs1Of) := goodIn_app (goodIn_of _ (by decide +kernel)) ggX2_resultOf_X2_rs1Of
set_option maxRecDepth 100000 in
theorem ggX2_resultOf_X1_immediateI : GoodIn wsX2_resultOf wsX1_immediateI := goodIn_r _ [30] rfl (by decide +kernel)
set_option maxRecDepth 100000 in
theorem gX2_resultOf_X1_immediateI : GoodIn wsX2_resultOf (va_wsS RX2 165 yX1_immediateI wsX1_immediateI) := goodIn_app (goodIn_of _ (by decide +kernel)) ggX2_resultOf_X1_immediateI
set_option maxRecDepth 100000 in
theorem ggX2_resultOf_X0_result : GoodIn wsX2_resultOf wsX0_result := goodIn_r _ [52, 53, 54, 51, 55, 56] rfl (by decide +kernel)
set_option maxRecDepth 100000 in
theorem gX2_resultOf_X0_result : GoodIn wsX2_resultOf (va_wsS RX2 189 yX0_result wsX0_result) := goodIn_app (goodIn_of _ (by decide +kernel)) ggX2_resultOf_X0_result
set_option maxRecDepth 100000 in
theorem ggX2_resultOf_X2_rs2Of : GoodIn wsX2_resultOf wsX2_rs2Of := goodIn_r _ [60, 18, 61, 62, 4, 63, 64, 65, 66, 67, 68, 69, 70, 71, 72, 73, 74, 75, 76, 77, 78, 79] rfl (by decide +kernel)
set_option maxRecDepth 100000 in
theorem gX2_resultOf_X2_rs2Of : GoodIn wsX2_resultOf (wsV RX2 119 RX2 yX2_rs2Of wsX2_rs2Of) := goodIn_app (goodIn_of _ (by decide +kernel)) ggX2_resultOf_X2_rs2Of
theorem dX2_resultOf_0 : decode cX2_resultOf 0 = .ok (.iload_n 1, 1) := by decide +kernel
theorem dX2_resultOf_1 : decode cX2_resultOf 1 = .ok (.invokestatic 110, 3) := by decide +kernel
theorem dX2_resultOf_4 : decode cX2_resultOf 4 = .ok (.lookupswitch 175 #[(3, 90), (19, 104), (23, 73), (51, 143), (55, 68), (103, 83), (111, 83)], 68) := by decide +kernel
theorem dX2_resultOf_72 : decode cX2_resultOf 72 = .ok (.iload_n 1, 1) := by decide +kernel
theorem dX2_resultOf_73 : decode cX2_resultOf 73 = .ok (.invokestatic 180, 3) := by decide +kernel
theorem dX2_resultOf_76 : decode cX2_resultOf 76 = .ok (.ireturn, 1) := by decide +kernel
theorem dX2_resultOf_77 : decode cX2_resultOf 77 = .ok (.aload_n 0, 1) := by decide +kernel
theorem dX2_resultOf_78 : decode cX2_resultOf 78 = .ok (.getfield 63, 3) := by decide +kernel
theorem dX2_resultOf_81 : decode cX2_resultOf 81 = .ok (.iload_n 1, 1) := by decide +kernel
theorem dX2_resultOf_82 : decode cX2_resultOf 82 = .ok (.invokestatic 180, 3) := by decide +kernel
theorem dX2_resultOf_85 : decode cX2_resultOf 85 = .ok (.iadd, 1) := by decide +kernel
theorem dX2_resultOf_86 : decode cX2_resultOf 86 = .ok (.ireturn, 1) := by decide +kernel
theorem dX2_resultOf_87 : decode cX2_resultOf 87 = .ok (.aload_n 0, 1) := by decide +kernel
theorem dX2_resultOf_88 : decode cX2_resultOf 88 = .ok (.getfield 63, 3) := by decide +kernel
theorem dX2_resultOf_91 : decode cX2_resultOf 91 = .ok (.iconst 4, 1) := by decide +kernel
theorem dX2_resultOf_92 : decode cX2_resultOf 92 = .ok (.iadd, 1) := by decide +kernel
theorem dX2_resultOf_93 : decode cX2_resultOf 93 = .ok (.ireturn, 1) := by decide +kernel
theorem dX2_resultOf_94 : decode cX2_resultOf 94 = .ok (.aload_n 0, 1) := by decide +kernel
theorem dX2_resultOf_95 : decode cX2_resultOf 95 = .ok (.aload_n 0, 1) := by decide +kernel
theorem dX2_resultOf_96 : decode cX2_resultOf 96 = .ok (.iload_n 1, 1) := by decide +kernel
theorem dX2_resultOf_97 : decode cX2_resultOf 97 = .ok (.invokevirtual 113, 3) := by decide +kernel
theorem dX2_resultOf_100 : decode cX2_resultOf 100 = .ok (.iload_n 1, 1) := by decide +kernel
theorem dX2_resultOf_101 : decode cX2_resultOf 101 = .ok (.invokestatic 116, 3) := by decide +kernel
theorem dX2_resultOf_104 : decode cX2_resultOf 104 = .ok (.invokevirtual 183, 3) := by decide +kernel
theorem dX2_resultOf_107 : decode cX2_resultOf 107 = .ok (.ireturn, 1) := by decide +kernel
theorem dX2_resultOf_108 : decode cX2_resultOf 108 = .ok (.iload_n 1, 1) := by decide +kernel
theorem dX2_resultOf_109 : decode cX2_resultOf 109 = .ok (.invokestatic 116, 3) := by decide +kernel
theorem dX2_resultOf_112 : decode cX2_resultOf 112 = .ok (.iload_n 1, 1) := by decide +kernel
theorem dX2_resultOf_113 : decode cX2_resultOf 113 = .ok (.invokestatic 116, 3) := by decide +kernel
theorem dX2_resultOf_116 : decode cX2_resultOf 116 = .ok (.iconst 5, 1) := by decide +kernel
theorem dX2_resultOf_117 : decode cX2_resultOf 117 = .ok (.if_icmp .ne 16, 3) := by decide +kernel
theorem dX2_resultOf_120 : decode cX2_resultOf 120 = .ok (.iload_n 1, 1) := by decide +kernel
theorem dX2_resultOf_121 : decode cX2_resultOf 121 = .ok (.invokestatic 186, 3) := by decide +kernel
theorem dX2_resultOf_124 : decode cX2_resultOf 124 = .ok (.bipush 32, 2) := by decide +kernel
theorem dX2_resultOf_126 : decode cX2_resultOf 126 = .ok (.if_icmp .ne 7, 3) := by decide +kernel
theorem dX2_resultOf_129 : decode cX2_resultOf 129 = .ok (.iconst 1, 1) := by decide +kernel
theorem dX2_resultOf_130 : decode cX2_resultOf 130 = .ok (.goto 4, 3) := by decide +kernel
theorem dX2_resultOf_133 : decode cX2_resultOf 133 = .ok (.iconst 0, 1) := by decide +kernel
theorem dX2_resultOf_134 : decode cX2_resultOf 134 = .ok (.aload_n 0, 1) := by decide +kernel
theorem dX2_resultOf_135 : decode cX2_resultOf 135 = .ok (.iload_n 1, 1) := by decide +kernel
theorem dX2_resultOf_136 : decode cX2_resultOf 136 = .ok (.invokevirtual 153, 3) := by decide +kernel
theorem dX2_resultOf_139 : decode cX2_resultOf 139 = .ok (.iload_n 1, 1) := by decide +kernel
theorem dX2_resultOf_140 : decode cX2_resultOf 140 = .ok (.invokestatic 165, 3) := by decide +kernel
theorem dX2_resultOf_143 : decode cX2_resultOf 143 = .ok (.invokestatic 189, 3) := by decide +kernel
theorem dX2_resultOf_146 : decode cX2_resultOf 146 = .ok (.ireturn, 1) := by decide +kernel
theorem dX2_resultOf_147 : decode cX2_resultOf 147 = .ok (.iload_n 1, 1) := by decide +kernel
theorem dX2_resultOf_148 : decode cX2_resultOf 148 = .ok (.invokestatic 116, 3) := by decide +kernel
theorem dX2_resultOf_151 : decode cX2_resultOf 151 = .ok (.iload_n 1, 1) := by decide +kernel
theorem dX2_resultOf_152 : decode cX2_resultOf 152 = .ok (.invokestatic 186, 3) := by decide +kernel
theorem dX2_resultOf_155 : decode cX2_resultOf 155 = .ok (.bipush 32, 2) := by decide +kernel
theorem dX2_resultOf_157 : decode cX2_resultOf 157 = .ok (.if_icmp .ne 7, 3) := by decide +kernel
theorem dX2_resultOf_160 : decode cX2_resultOf 160 = .ok (.iconst 1, 1) := by decide +kernel
theorem dX2_resultOf_161 : decode cX2_resultOf 161 = .ok (.goto 4, 3) := by decide +kernel
theorem dX2_resultOf_164 : decode cX2_resultOf 164 = .ok (.iconst 0, 1) := by decide +kernel
theorem dX2_resultOf_165 : decode cX2_resultOf 165 = .ok (.aload_n 0, 1) := by decide +kernel
theorem dX2_resultOf_166 : decode cX2_resultOf 166 = .ok (.iload_n 1, 1) := by decide +kernel
theorem dX2_resultOf_167 : decode cX2_resultOf 167 = .ok (.invokevirtual 153, 3) := by decide +kernel
theorem dX2_resultOf_170 : decode cX2_resultOf 170 = .ok (.aload_n 0, 1) := by decide +kernel
theorem dX2_resultOf_171 : decode cX2_resultOf 171 = .ok (.iload_n 1, 1) := by decide +kernel
theorem dX2_resultOf_172 : decode cX2_resultOf 172 = .ok (.invokevirtual 119, 3) := by decide +kernel
theorem dX2_resultOf_175 : decode cX2_resultOf 175 = .ok (.invokestatic 189, 3) := by decide +kernel
theorem dX2_resultOf_178 : decode cX2_resultOf 178 = .ok (.ireturn, 1) := by decide +kernel
theorem dX2_resultOf_179 : decode cX2_resultOf 179 = .ok (.iconst 0, 1) := by decide +kernel
theorem dX2_resultOf_180 : decode cX2_resultOf 180 = .ok (.ireturn, 1) := by decide +kernel
set_option maxRecDepth 100000 in
theorem ggX2_loadAt_X2_cellOf : GoodIn wsX2_loadAt wsX2_cellOf := goodIn_r _ [6] rfl (by decide +kernel)
set_option maxRecDepth 100000 in
theorem gX2_loadAt_X2_cellOf : GoodIn wsX2_loadAt (va_wsS RX2 193 yX2_cellOf wsX2_cellOf) := goodIn_app (goodIn_of _ (by decide +kernel)) ggX2_loadAt_X2_cellOf
set_option maxRecDepth 100000 in
theorem ggX2_loadAt_X2_shiftOf : GoodIn wsX2_loadAt wsX2_shiftOf := goodIn_r _ [9] rfl (by decide +kernel)
set_option maxRecDepth 100000 in
theorem gX2_loadAt_X2_shiftOf : GoodIn wsX2_loadAt (va_wsS RX2 196 yX2_shiftOf wsX2_shiftOf) := goodIn_app (goodIn_of _ (by decide +kernel)) ggX2_loadAt_X2_shiftOf
theorem dX2_loadAt_0 : decode cX2_loadAt 0 = .ok (.aload_n 0, 1) := by decide +kernel
theorem dX2_loadAt_1 : decode cX2_loadAt 1 = .ok (.getfield 13, 3) := by decide +kernel
theorem dX2_loadAt_4 : decode cX2_loadAt 4 = .ok (.iload_n 1, 1) := by decide +kernel
theorem dX2_loadAt_5 : decode cX2_loadAt 5 = .ok (.invokestatic 193, 3) := by decide +kernel
theorem dX2_loadAt_8 : decode cX2_loadAt 8 = .ok (.iaload, 1) := by decide +kernel
theorem dX2_loadAt_9 : decode cX2_loadAt 9 = .ok (.iload_n 1, 1) := by decide +kernel
theorem dX2_loadAt_10 : decode cX2_loadAt 10 = .ok (.invokestatic 196, 3) := by decide +kernel
theorem dX2_loadAt_13 : decode cX2_loadAt 13 = .ok (.iushr, 1) := by decide +kernel
theorem dX2_loadAt_14 : decode cX2_loadAt 14 = .ok (.istore_n 3, 1) := by decide +kernel
theorem dX2_loadAt_15 : decode cX2_loadAt 15 = .ok (.iload_n 2, 1) := by decide +kernel
theorem dX2_loadAt_16 : decode cX2_loadAt 16 = .ok (.tableswitch 57 0 5 #[40, 43, 57, 57, 46, 52], 40) := by decide +kernel
theorem dX2_loadAt_56 : decode cX2_loadAt 56 = .ok (.iload_n 3, 1) := by decide +kernel
theorem dX2_loadAt_57 : decode cX2_loadAt 57 = .ok (.i2b, 1) := by decide +kernel
theorem dX2_loadAt_58 : decode cX2_loadAt 58 = .ok (.ireturn, 1) := by decide +kernel
theorem dX2_loadAt_59 : decode cX2_loadAt 59 = .ok (.iload_n 3, 1) := by decide +kernel
theorem dX2_loadAt_60 : decode cX2_loadAt 60 = .ok (.i2s, 1) := by decide +kernel
theorem dX2_loadAt_61 : decode cX2_loadAt 61 = .ok (.ireturn, 1) := by decide +kernel
theorem dX2_loadAt_62 : decode cX2_loadAt 62 = .ok (.iload_n 3, 1) := by decide +kernel
theorem dX2_loadAt_63 : decode cX2_loadAt 63 = .ok (.sipush 255, 3) := by decide +kernel
theorem dX2_loadAt_66 : decode cX2_loadAt 66 = .ok (.iand, 1) := by decide +kernel
theorem dX2_loadAt_67 : decode cX2_loadAt 67 = .ok (.ireturn, 1) := by decide +kernel
theorem dX2_loadAt_68 : decode cX2_loadAt 68 = .ok (.iload_n 3, 1) := by decide +kernel
theorem dX2_loadAt_69 : decode cX2_loadAt 69 = .ok (.ldc 199, 2) := by decide +kernel
theorem dX2_loadAt_71 : decode cX2_loadAt 71 = .ok (.iand, 1) := by decide +kernel
theorem dX2_loadAt_72 : decode cX2_loadAt 72 = .ok (.ireturn, 1) := by decide +kernel
theorem dX2_loadAt_73 : decode cX2_loadAt 73 = .ok (.iload_n 3, 1) := by decide +kernel
theorem dX2_loadAt_74 : decode cX2_loadAt 74 = .ok (.ireturn, 1) := by decide +kernel
set_option maxRecDepth 100000 in
theorem ggX2_storeAt_X2_cellOf : GoodIn wsX2_storeAt wsX2_cellOf := goodIn_r _ [6] rfl (by decide +kernel)
set_option maxRecDepth 100000 in
theorem gX2_storeAt_X2_cellOf : GoodIn wsX2_storeAt (va_wsS RX2 193 yX2_cellOf wsX2_cellOf) := goodIn_app (goodIn_of _ (by decide +kernel)) ggX2_storeAt_X2_cellOf
set_option maxRecDepth 100000 in
theorem ggX2_storeAt_X2_shiftOf : GoodIn wsX2_storeAt wsX2_shiftOf := goodIn_r _ [9] rfl (by decide +kernel)
set_option maxRecDepth 100000 in
theorem gX2_storeAt_X2_shiftOf : GoodIn wsX2_storeAt (va_wsS RX2 196 yX2_shiftOf wsX2_shiftOf) := goodIn_app (goodIn_of _ (by decide +kernel)) ggX2_storeAt_X2_shiftOf
theorem dX2_storeAt_0 : decode cX2_storeAt 0 = .ok (.iload_n 2, 1) := by decide +kernel
theorem dX2_storeAt_1 : decode cX2_storeAt 1 = .ok (.ifCond .ne 9, 3) := by decide +kernel
theorem dX2_storeAt_4 : decode cX2_storeAt 4 = .ok (.sipush 255, 3) := by decide +kernel
theorem dX2_storeAt_7 : decode cX2_storeAt 7 = .ok (.goto 14, 3) := by decide +kernel
theorem dX2_storeAt_10 : decode cX2_storeAt 10 = .ok (.iload_n 2, 1) := by decide +kernel
theorem dX2_storeAt_11 : decode cX2_storeAt 11 = .ok (.iconst 1, 1) := by decide +kernel
theorem dX2_storeAt_12 : decode cX2_storeAt 12 = .ok (.if_icmp .ne 8, 3) := by decide +kernel
theorem dX2_storeAt_15 : decode cX2_storeAt 15 = .ok (.ldc 199, 2) := by decide +kernel
theorem dX2_storeAt_17 : decode cX2_storeAt 17 = .ok (.goto 4, 3) := by decide +kernel
theorem dX2_storeAt_20 : decode cX2_storeAt 20 = .ok (.iconst (-1), 1) := by decide +kernel
theorem dX2_storeAt_21 : decode cX2_storeAt 21 = .ok (.istore 4, 2) := by decide +kernel
theorem dX2_storeAt_23 : decode cX2_storeAt 23 = .ok (.iload_n 1, 1) := by decide +kernel
theorem dX2_storeAt_24 : decode cX2_storeAt 24 = .ok (.invokestatic 193, 3) := by decide +kernel
theorem dX2_storeAt_27 : decode cX2_storeAt 27 = .ok (.istore 5, 2) := by decide +kernel
theorem dX2_storeAt_29 : decode cX2_storeAt 29 = .ok (.iload_n 1, 1) := by decide +kernel
theorem dX2_storeAt_30 : decode cX2_storeAt 30 = .ok (.invokestatic 196, 3) := by decide +kernel
theorem dX2_storeAt_33 : decode cX2_storeAt 33 = .ok (.istore 6, 2) := by decide +kernel
theorem dX2_storeAt_35 : decode cX2_storeAt 35 = .ok (.aload_n 0, 1) := by decide +kernel
theorem dX2_storeAt_36 : decode cX2_storeAt 36 = .ok (.getfield 13, 3) := by decide +kernel
theorem dX2_storeAt_39 : decode cX2_storeAt 39 = .ok (.iload 5, 2) := by decide +kernel
theorem dX2_storeAt_41 : decode cX2_storeAt 41 = .ok (.aload_n 0, 1) := by decide +kernel
theorem dX2_storeAt_42 : decode cX2_storeAt 42 = .ok (.getfield 13, 3) := by decide +kernel
theorem dX2_storeAt_45 : decode cX2_storeAt 45 = .ok (.iload 5, 2) := by decide +kernel
theorem dX2_storeAt_47 : decode cX2_storeAt 47 = .ok (.iaload, 1) := by decide +kernel
theorem dX2_storeAt_48 : decode cX2_storeAt 48 = .ok (.iload 4, 2) := by decide +kernel
theorem dX2_storeAt_50 : decode cX2_storeAt 50 = .ok (.iload 6, 2) := by decide +kernel
theorem dX2_storeAt_52 : decode cX2_storeAt 52 = .ok (.ishl, 1) := by decide +kernel
theorem dX2_storeAt_53 : decode cX2_storeAt 53 = .ok (.iconst (-1), 1) := by decide +kernel
theorem dX2_storeAt_54 : decode cX2_storeAt 54 = .ok (.ixor, 1) := by decide +kernel
theorem dX2_storeAt_55 : decode cX2_storeAt 55 = .ok (.iand, 1) := by decide +kernel
theorem dX2_storeAt_56 : decode cX2_storeAt 56 = .ok (.iload_n 3, 1) := by decide +kernel
theorem dX2_storeAt_57 : decode cX2_storeAt 57 = .ok (.iload 4, 2) := by decide +kernel
theorem dX2_storeAt_59 : decode cX2_storeAt 59 = .ok (.iand, 1) := by decide +kernel
theorem dX2_storeAt_60 : decode cX2_storeAt 60 = .ok (.iload 6, 2) := by decide +kernel
theorem dX2_storeAt_62 : decode cX2_storeAt 62 = .ok (.ishl, 1) := by decide +kernel
theorem dX2_storeAt_63 : decode cX2_storeAt 63 = .ok (.ior, 1) := by decide +kernel
theorem dX2_storeAt_64 : decode cX2_storeAt 64 = .ok (.iastore, 1) := by decide +kernel
theorem dX2_storeAt_65 : decode cX2_storeAt 65 = .ok (.return_, 1) := by decide +kernel
theorem dX2_cellOf_0 : decode cX2_cellOf 0 = .ok (.iload_n 0, 1) := by decide +kernel
theorem dX2_cellOf_1 : decode cX2_cellOf 1 = .ok (.sipush 255, 3) := by decide +kernel
theorem dX2_cellOf_4 : decode cX2_cellOf 4 = .ok (.iand, 1) := by decide +kernel
theorem dX2_cellOf_5 : decode cX2_cellOf 5 = .ok (.iconst 2, 1) := by decide +kernel
theorem dX2_cellOf_6 : decode cX2_cellOf 6 = .ok (.ishr, 1) := by decide +kernel
theorem dX2_cellOf_7 : decode cX2_cellOf 7 = .ok (.ireturn, 1) := by decide +kernel
theorem dX2_shiftOf_0 : decode cX2_shiftOf 0 = .ok (.iload_n 0, 1) := by decide +kernel
theorem dX2_shiftOf_1 : decode cX2_shiftOf 1 = .ok (.iconst 3, 1) := by decide +kernel
theorem dX2_shiftOf_2 : decode cX2_shiftOf 2 = .ok (.iand, 1) := by decide +kernel
theorem dX2_shiftOf_3 : decode cX2_shiftOf 3 = .ok (.bipush 8, 2) := by decide +kernel
theorem dX2_shiftOf_5 : decode cX2_shiftOf 5 = .ok (.imul, 1) := by decide +kernel
theorem dX2_shiftOf_6 : decode cX2_shiftOf 6 = .ok (.ireturn, 1) := by decide +kernel
theorem dX3_init_0 : decode cX3_init 0 = .ok (.aload_n 0, 1) := by decide +kernel
theorem dX3_init_1 : decode cX3_init 1 = .ok (.invokespecial 1, 3) := by decide +kernel
theorem dX3_init_4 : decode cX3_init 4 = .ok (.aload_n 0, 1) := by decide +kernel
theorem dX3_init_5 : decode cX3_init 5 = .ok (.sipush 256, 3) := by decide +kernel
theorem dX3_init_8 : decode cX3_init 8 = .ok (.newarray .int, 2) := by decide +kernel
theorem dX3_init_10 : decode cX3_init 10 = .ok (.putfield 7, 3) := by decide +kernel
theorem dX3_init_13 : decode cX3_init 13 = .ok (.aload_n 0, 1) := by decide +kernel
theorem dX3_init_14 : decode cX3_init 14 = .ok (.sipush 256, 3) := by decide +kernel
theorem dX3_init_17 : decode cX3_init 17 = .ok (.newarray .byte, 2) := by decide +kernel
theorem dX3_init_19 : decode cX3_init 19 = .ok (.putfield 13, 3) := by decide +kernel
theorem dX3_init_22 : decode cX3_init 22 = .ok (.aload_n 0, 1) := by decide +kernel
theorem dX3_init_23 : decode cX3_init 23 = .ok (.bipush 32, 2) := by decide +kernel
theorem dX3_init_25 : decode cX3_init 25 = .ok (.newarray .int, 2) := by decide +kernel
theorem dX3_init_27 : decode cX3_init 27 = .ok (.putfield 17, 3) := by decide +kernel
theorem dX3_init_30 : decode cX3_init 30 = .ok (.aload_n 0, 1) := by decide +kernel
theorem dX3_init_31 : decode cX3_init 31 = .ok (.bipush 32, 2) := by decide +kernel
theorem dX3_init_33 : decode cX3_init 33 = .ok (.newarray .int, 2) := by decide +kernel
theorem dX3_init_35 : decode cX3_init 35 = .ok (.putfield 20, 3) := by decide +kernel
theorem dX3_init_38 : decode cX3_init 38 = .ok (.aload_n 0, 1) := by decide +kernel
theorem dX3_init_39 : decode cX3_init 39 = .ok (.iconst (-1), 1) := by decide +kernel
theorem dX3_init_40 : decode cX3_init 40 = .ok (.putfield 23, 3) := by decide +kernel
theorem dX3_init_43 : decode cX3_init 43 = .ok (.aload_n 0, 1) := by decide +kernel
theorem dX3_init_44 : decode cX3_init 44 = .ok (.iconst 4, 1) := by decide +kernel
theorem dX3_init_45 : decode cX3_init 45 = .ok (.putfield 27, 3) := by decide +kernel
theorem dX3_init_48 : decode cX3_init 48 = .ok (.return_, 1) := by decide +kernel
theorem dX3_thrown_0 : decode cX3_thrown 0 = .ok (.aload_n 0, 1) := by decide +kernel
theorem dX3_thrown_1 : decode cX3_thrown 1 = .ok (.getfield 30, 3) := by decide +kernel
theorem dX3_thrown_4 : decode cX3_thrown 4 = .ok (.ireturn, 1) := by decide +kernel
theorem dX3_word_0 : decode cX3_word 0 = .ok (.aload_n 0, 1) := by decide +kernel
theorem dX3_word_1 : decode cX3_word 1 = .ok (.iconst 0, 1) := by decide +kernel
theorem dX3_word_2 : decode cX3_word 2 = .ok (.putfield 30, 3) := by decide +kernel
theorem dX3_word_5 : decode cX3_word 5 = .ok (.iload_n 1, 1) := by decide +kernel
theorem dX3_word_6 : decode cX3_word 6 = .ok (.ifCond .lt 17, 3) := by decide +kernel
theorem dX3_word_9 : decode cX3_word 9 = .ok (.iload_n 1, 1) := by decide +kernel
theorem dX3_word_10 : decode cX3_word 10 = .ok (.sipush 255, 3) := by decide +kernel
theorem dX3_word_13 : decode cX3_word 13 = .ok (.if_icmp .gt 10, 3) := by decide +kernel
theorem dX3_word_16 : decode cX3_word 16 = .ok (.aload_n 0, 1) := by decide +kernel
theorem dX3_word_17 : decode cX3_word 17 = .ok (.getfield 33, 3) := by decide +kernel
theorem dX3_word_20 : decode cX3_word 20 = .ok (.ifCond .le 5, 3) := by decide +kernel
theorem dX3_word_23 : decode cX3_word 23 = .ok (.iconst 0, 1) := by decide +kernel
theorem dX3_word_24 : decode cX3_word 24 = .ok (.ireturn, 1) := by decide +kernel
theorem dX3_word_25 : decode cX3_word 25 = .ok (.aload_n 0, 1) := by decide +kernel
theorem dX3_word_26 : decode cX3_word 26 = .ok (.getfield 7, 3) := by decide +kernel
theorem dX3_word_29 : decode cX3_word 29 = .ok (.iload_n 1, 1) := by decide +kernel
theorem dX3_word_30 : decode cX3_word 30 = .ok (.iload_n 2, 1) := by decide +kernel
theorem dX3_word_31 : decode cX3_word 31 = .ok (.iastore, 1) := by decide +kernel
theorem dX3_word_32 : decode cX3_word 32 = .ok (.iconst 1, 1) := by decide +kernel
theorem dX3_word_33 : decode cX3_word 33 = .ok (.ireturn, 1) := by decide +kernel
set_option maxRecDepth 100000 in
theorem ggX3_data_X3_store : GoodIn wsX3_data wsX3_store := goodIn_r _ [7, 8, 9, 10, 11, 12, 13, 14, 15, 16, 17, 18, 19, 20, 21, 22, 23, 24, 25, 26, 27, 28, 29] rfl (by decide +kernel)
set_option maxRecDepth 100000 in
theorem gX3_data_X3_store : GoodIn wsX3_data (wsV RX3 36 RX3 yX3_store wsX3_store) := goodIn_app (goodIn_of _ (by decide +kernel)) ggX3_data_X3_store
theorem dX3_data_0 : decode cX3_data 0 = .ok (.aload_n 0, 1) := by decide +kernel
theorem dX3_data_1 : decode cX3_data 1 = .ok (.iconst 0, 1) := by decide +kernel
theorem dX3_data_2 : decode cX3_data 2 = .ok (.putfield 30, 3) := by decide +kernel
theorem dX3_data_5 : decode cX3_data 5 = .ok (.iload_n 1, 1) := by decide +kernel
theorem dX3_data_6 : decode cX3_data 6 = .ok (.ifCond .lt 16, 3) := by decide +kernel
theorem dX3_data_9 : decode cX3_data 9 = .ok (.iload_n 1, 1) := by decide +kernel
theorem dX3_data_10 : decode cX3_data 10 = .ok (.bipush 63, 2) := by decide +kernel
theorem dX3_data_12 : decode cX3_data 12 = .ok (.if_icmp .gt 10, 3) := by decide +kernel
theorem dX3_data_15 : decode cX3_data 15 = .ok (.aload_n 0, 1) := by decide +kernel
theorem dX3_data_16 : decode cX3_data 16 = .ok (.getfield 33, 3) := by decide +kernel
theorem dX3_data_19 : decode cX3_data 19 = .ok (.ifCond .le 5, 3) := by decide +kernel
theorem dX3_data_22 : decode cX3_data 22 = .ok (.iconst 0, 1) := by decide +kernel
theorem dX3_data_23 : decode cX3_data 23 = .ok (.ireturn, 1) := by decide +kernel
theorem dX3_data_24 : decode cX3_data 24 = .ok (.aload_n 0, 1) := by decide +kernel
theorem dX3_data_25 : decode cX3_data 25 = .ok (.iconst 4, 1) := by decide +kernel
theorem dX3_data_26 : decode cX3_data 26 = .ok (.iload_n 1, 1) := by decide +kernel
theorem dX3_data_27 : decode cX3_data 27 = .ok (.imul, 1) := by decide +kernel
theorem dX3_data_28 : decode cX3_data 28 = .ok (.iconst 4, 1) := by decide +kernel
theorem dX3_data_29 : decode cX3_data 29 = .ok (.iload_n 2, 1) := by decide +kernel
theorem dX3_data_30 : decode cX3_data 30 = .ok (.invokevirtual 36, 3) := by decide +kernel
theorem dX3_data_33 : decode cX3_data 33 = .ok (.iconst 1, 1) := by decide +kernel
theorem dX3_data_34 : decode cX3_data 34 = .ok (.ireturn, 1) := by decide +kernel
theorem dX3_set_0 : decode cX3_set 0 = .ok (.aload_n 0, 1) := by decide +kernel
theorem dX3_set_1 : decode cX3_set 1 = .ok (.iconst 0, 1) := by decide +kernel
theorem dX3_set_2 : decode cX3_set 2 = .ok (.putfield 30, 3) := by decide +kernel
theorem dX3_set_5 : decode cX3_set 5 = .ok (.iload_n 1, 1) := by decide +kernel
theorem dX3_set_6 : decode cX3_set 6 = .ok (.iconst 1, 1) := by decide +kernel
theorem dX3_set_7 : decode cX3_set 7 = .ok (.if_icmp .lt 16, 3) := by decide +kernel
theorem dX3_set_10 : decode cX3_set 10 = .ok (.iload_n 1, 1) := by decide +kernel
theorem dX3_set_11 : decode cX3_set 11 = .ok (.bipush 31, 2) := by decide +kernel
theorem dX3_set_13 : decode cX3_set 13 = .ok (.if_icmp .gt 10, 3) := by decide +kernel
theorem dX3_set_16 : decode cX3_set 16 = .ok (.aload_n 0, 1) := by decide +kernel
theorem dX3_set_17 : decode cX3_set 17 = .ok (.getfield 33, 3) := by decide +kernel
theorem dX3_set_20 : decode cX3_set 20 = .ok (.ifCond .le 5, 3) := by decide +kernel
theorem dX3_set_23 : decode cX3_set 23 = .ok (.iconst 0, 1) := by decide +kernel
theorem dX3_set_24 : decode cX3_set 24 = .ok (.ireturn, 1) := by decide +kernel
theorem dX3_set_25 : decode cX3_set 25 = .ok (.aload_n 0, 1) := by decide +kernel
theorem dX3_set_26 : decode cX3_set 26 = .ok (.getfield 17, 3) := by decide +kernel
theorem dX3_set_29 : decode cX3_set 29 = .ok (.iload_n 1, 1) := by decide +kernel
theorem dX3_set_30 : decode cX3_set 30 = .ok (.iload_n 2, 1) := by decide +kernel
theorem dX3_set_31 : decode cX3_set 31 = .ok (.iastore, 1) := by decide +kernel
theorem dX3_set_32 : decode cX3_set 32 = .ok (.iconst 1, 1) := by decide +kernel
theorem dX3_set_33 : decode cX3_set 33 = .ok (.ireturn, 1) := by decide +kernel
theorem dX3_reset_0 : decode cX3_reset 0 = .ok (.aload_n 0, 1) := by decide +kernel
theorem dX3_reset_1 : decode cX3_reset 1 = .ok (.iconst 0, 1) := by decide +kernel
theorem dX3_reset_2 : decode cX3_reset 2 = .ok (.putfield 30, 3) := by decide +kernel
theorem dX3_reset_5 : decode cX3_reset 5 = .ok (.aload_n 0, 1) := by decide +kernel
theorem dX3_reset_6 : decode cX3_reset 6 = .ok (.iconst 0, 1) := by decide +kernel
theorem dX3_reset_7 : decode cX3_reset 7 = .ok (.putfield 33, 3) := by decide +kernel
theorem dX3_reset_10 : decode cX3_reset 10 = .ok (.aload_n 0, 1) := by decide +kernel
theorem dX3_reset_11 : decode cX3_reset 11 = .ok (.iconst 0, 1) := by decide +kernel
theorem dX3_reset_12 : decode cX3_reset 12 = .ok (.putfield 40, 3) := by decide +kernel
theorem dX3_reset_15 : decode cX3_reset 15 = .ok (.aload_n 0, 1) := by decide +kernel
theorem dX3_reset_16 : decode cX3_reset 16 = .ok (.iconst (-1), 1) := by decide +kernel
theorem dX3_reset_17 : decode cX3_reset 17 = .ok (.putfield 23, 3) := by decide +kernel
theorem dX3_reset_20 : decode cX3_reset 20 = .ok (.aload_n 0, 1) := by decide +kernel
theorem dX3_reset_21 : decode cX3_reset 21 = .ok (.iconst 0, 1) := by decide +kernel
theorem dX3_reset_22 : decode cX3_reset 22 = .ok (.putfield 43, 3) := by decide +kernel
theorem dX3_reset_25 : decode cX3_reset 25 = .ok (.aload_n 0, 1) := by decide +kernel
theorem dX3_reset_26 : decode cX3_reset 26 = .ok (.iconst 0, 1) := by decide +kernel
theorem dX3_reset_27 : decode cX3_reset 27 = .ok (.putfield 46, 3) := by decide +kernel
theorem dX3_reset_30 : decode cX3_reset 30 = .ok (.aload_n 0, 1) := by decide +kernel
theorem dX3_reset_31 : decode cX3_reset 31 = .ok (.iconst 0, 1) := by decide +kernel
theorem dX3_reset_32 : decode cX3_reset 32 = .ok (.putfield 49, 3) := by decide +kernel
theorem dX3_reset_35 : decode cX3_reset 35 = .ok (.aload_n 0, 1) := by decide +kernel
theorem dX3_reset_36 : decode cX3_reset 36 = .ok (.iconst 4, 1) := by decide +kernel
theorem dX3_reset_37 : decode cX3_reset 37 = .ok (.putfield 27, 3) := by decide +kernel
theorem dX3_reset_40 : decode cX3_reset 40 = .ok (.aload_n 0, 1) := by decide +kernel
theorem dX3_reset_41 : decode cX3_reset 41 = .ok (.iconst 0, 1) := by decide +kernel
theorem dX3_reset_42 : decode cX3_reset 42 = .ok (.putfield 52, 3) := by decide +kernel
theorem dX3_reset_45 : decode cX3_reset 45 = .ok (.aload_n 0, 1) := by decide +kernel
theorem dX3_reset_46 : decode cX3_reset 46 = .ok (.iconst 0, 1) := by decide +kernel
theorem dX3_reset_47 : decode cX3_reset 47 = .ok (.putfield 56, 3) := by decide +kernel
theorem dX3_reset_50 : decode cX3_reset 50 = .ok (.return_, 1) := by decide +kernel
theorem dX3_isBeyond_0 : decode cX3_isBeyond 0 = .ok (.iload_n 0, 1) := by decide +kernel
theorem dX3_isBeyond_1 : decode cX3_isBeyond 1 = .ok (.ifCond .lt 10, 3) := by decide +kernel
theorem dX3_isBeyond_4 : decode cX3_isBeyond 4 = .ok (.iload_n 0, 1) := by decide +kernel
theorem dX3_isBeyond_5 : decode cX3_isBeyond 5 = .ok (.sipush 1023, 3) := by decide +kernel
theorem dX3_isBeyond_8 : decode cX3_isBeyond 8 = .ok (.if_icmp .le 7, 3) := by decide +kernel
theorem dX3_isBeyond_11 : decode cX3_isBeyond 11 = .ok (.iconst 1, 1) := by decide +kernel
theorem dX3_isBeyond_12 : decode cX3_isBeyond 12 = .ok (.goto 4, 3) := by decide +kernel
theorem dX3_isBeyond_15 : decode cX3_isBeyond 15 = .ok (.iconst 0, 1) := by decide +kernel
theorem dX3_isBeyond_16 : decode cX3_isBeyond 16 = .ok (.ireturn, 1) := by decide +kernel
theorem dX3_wordAt_0 : decode cX3_wordAt 0 = .ok (.aload_n 0, 1) := by decide +kernel
theorem dX3_wordAt_1 : decode cX3_wordAt 1 = .ok (.getfield 7, 3) := by decide +kernel
theorem dX3_wordAt_4 : decode cX3_wordAt 4 = .ok (.iload_n 1, 1) := by decide +kernel
theorem dX3_wordAt_5 : decode cX3_wordAt 5 = .ok (.iconst 4, 1) := by decide +kernel
theorem dX3_wordAt_6 : decode cX3_wordAt 6 = .ok (.idiv, 1) := by decide +kernel
theorem dX3_wordAt_7 : decode cX3_wordAt 7 = .ok (.iaload, 1) := by decide +kernel
theorem dX3_wordAt_8 : decode cX3_wordAt 8 = .ok (.ireturn, 1) := by decide +kernel
theorem dX3_opcode_0 : decode cX3_opcode 0 = .ok (.iload_n 0, 1) := by decide +kernel
theorem dX3_opcode_1 : decode cX3_opcode 1 = .ok (.bipush 127, 2) := by decide +kernel
theorem dX3_opcode_3 : decode cX3_opcode 3 = .ok (.iand, 1) := by decide +kernel
theorem dX3_opcode_4 : decode cX3_opcode 4 = .ok (.ireturn, 1) := by decide +kernel
theorem dX3_rd_0 : decode cX3_rd 0 = .ok (.iload_n 0, 1) := by decide +kernel
theorem dX3_rd_1 : decode cX3_rd 1 = .ok (.bipush 7, 2) := by decide +kernel
theorem dX3_rd_3 : decode cX3_rd 3 = .ok (.ishr, 1) := by decide +kernel
theorem dX3_rd_4 : decode cX3_rd 4 = .ok (.bipush 31, 2) := by decide +kernel
theorem dX3_rd_6 : decode cX3_rd 6 = .ok (.iand, 1) := by decide +kernel
theorem dX3_rd_7 : decode cX3_rd 7 = .ok (.ireturn, 1) := by decide +kernel
theorem dX3_f3_0 : decode cX3_f3 0 = .ok (.iload_n 0, 1) := by decide +kernel
theorem dX3_f3_1 : decode cX3_f3 1 = .ok (.bipush 12, 2) := by decide +kernel
theorem dX3_f3_3 : decode cX3_f3 3 = .ok (.ishr, 1) := by decide +kernel
theorem dX3_f3_4 : decode cX3_f3 4 = .ok (.bipush 7, 2) := by decide +kernel
theorem dX3_f3_6 : decode cX3_f3 6 = .ok (.iand, 1) := by decide +kernel
theorem dX3_f3_7 : decode cX3_f3 7 = .ok (.ireturn, 1) := by decide +kernel
theorem dX3_rs1_0 : decode cX3_rs1 0 = .ok (.iload_n 0, 1) := by decide +kernel
theorem dX3_rs1_1 : decode cX3_rs1 1 = .ok (.bipush 15, 2) := by decide +kernel
theorem dX3_rs1_3 : decode cX3_rs1 3 = .ok (.ishr, 1) := by decide +kernel
theorem dX3_rs1_4 : decode cX3_rs1 4 = .ok (.bipush 31, 2) := by decide +kernel
theorem dX3_rs1_6 : decode cX3_rs1 6 = .ok (.iand, 1) := by decide +kernel
theorem dX3_rs1_7 : decode cX3_rs1 7 = .ok (.ireturn, 1) := by decide +kernel
theorem dX3_rs2_0 : decode cX3_rs2 0 = .ok (.iload_n 0, 1) := by decide +kernel
theorem dX3_rs2_1 : decode cX3_rs2 1 = .ok (.bipush 20, 2) := by decide +kernel
theorem dX3_rs2_3 : decode cX3_rs2 3 = .ok (.ishr, 1) := by decide +kernel
theorem dX3_rs2_4 : decode cX3_rs2 4 = .ok (.bipush 31, 2) := by decide +kernel
theorem dX3_rs2_6 : decode cX3_rs2 6 = .ok (.iand, 1) := by decide +kernel
theorem dX3_rs2_7 : decode cX3_rs2 7 = .ok (.ireturn, 1) := by decide +kernel
theorem dX3_f7_0 : decode cX3_f7 0 = .ok (.iload_n 0, 1) := by decide +kernel
theorem dX3_f7_1 : decode cX3_f7 1 = .ok (.bipush 25, 2) := by decide +kernel
theorem dX3_f7_3 : decode cX3_f7 3 = .ok (.ishr, 1) := by decide +kernel
theorem dX3_f7_4 : decode cX3_f7 4 = .ok (.bipush 127, 2) := by decide +kernel
theorem dX3_f7_6 : decode cX3_f7 6 = .ok (.iand, 1) := by decide +kernel
theorem dX3_f7_7 : decode cX3_f7 7 = .ok (.ireturn, 1) := by decide +kernel
theorem dX3_immediateB_0 : decode cX3_immediateB 0 = .ok (.iload_n 0, 1) := by decide +kernel
theorem dX3_immediateB_1 : decode cX3_immediateB 1 = .ok (.bipush 31, 2) := by decide +kernel
theorem dX3_immediateB_3 : decode cX3_immediateB 3 = .ok (.ishr, 1) := by decide +kernel
theorem dX3_immediateB_4 : decode cX3_immediateB 4 = .ok (.bipush 12, 2) := by decide +kernel
theorem dX3_immediateB_6 : decode cX3_immediateB 6 = .ok (.ishl, 1) := by decide +kernel
theorem dX3_immediateB_7 : decode cX3_immediateB 7 = .ok (.iload_n 0, 1) := by decide +kernel
theorem dX3_immediateB_8 : decode cX3_immediateB 8 = .ok (.bipush 7, 2) := by decide +kernel
theorem dX3_immediateB_10 : decode cX3_immediateB 10 = .ok (.ishr, 1) := by decide +kernel
theorem dX3_immediateB_11 : decode cX3_immediateB 11 = .ok (.iconst 1, 1) := by decide +kernel
theorem dX3_immediateB_12 : decode cX3_immediateB 12 = .ok (.iand, 1) := by decide +kernel
theorem dX3_immediateB_13 : decode cX3_immediateB 13 = .ok (.bipush 11, 2) := by decide +kernel
theorem dX3_immediateB_15 : decode cX3_immediateB 15 = .ok (.ishl, 1) := by decide +kernel
theorem dX3_immediateB_16 : decode cX3_immediateB 16 = .ok (.ior, 1) := by decide +kernel
theorem dX3_immediateB_17 : decode cX3_immediateB 17 = .ok (.iload_n 0, 1) := by decide +kernel
theorem dX3_immediateB_18 : decode cX3_immediateB 18 = .ok (.bipush 25, 2) := by decide +kernel
theorem dX3_immediateB_20 : decode cX3_immediateB 20 = .ok (.ishr, 1) := by decide +kernel
theorem dX3_immediateB_21 : decode cX3_immediateB 21 = .ok (.bipush 63, 2) := by decide +kernel
theorem dX3_immediateB_23 : decode cX3_immediateB 23 = .ok (.iand, 1) := by decide +kernel
theorem dX3_immediateB_24 : decode cX3_immediateB 24 = .ok (.iconst 5, 1) := by decide +kernel
theorem dX3_immediateB_25 : decode cX3_immediateB 25 = .ok (.ishl, 1) := by decide +kernel
theorem dX3_immediateB_26 : decode cX3_immediateB 26 = .ok (.ior, 1) := by decide +kernel
theorem dX3_immediateB_27 : decode cX3_immediateB 27 = .ok (.iload_n 0, 1) := by decide +kernel
theorem dX3_immediateB_28 : decode cX3_immediateB 28 = .ok (.bipush 8, 2) := by decide +kernel
theorem dX3_immediateB_30 : decode cX3_immediateB 30 = .ok (.ishr, 1) := by decide +kernel
theorem dX3_immediateB_31 : decode cX3_immediateB 31 = .ok (.bipush 15, 2) := by decide +kernel
theorem dX3_immediateB_33 : decode cX3_immediateB 33 = .ok (.iand, 1) := by decide +kernel
theorem dX3_immediateB_34 : decode cX3_immediateB 34 = .ok (.iconst 1, 1) := by decide +kernel
theorem dX3_immediateB_35 : decode cX3_immediateB 35 = .ok (.ishl, 1) := by decide +kernel
theorem dX3_immediateB_36 : decode cX3_immediateB 36 = .ok (.ior, 1) := by decide +kernel
theorem dX3_immediateB_37 : decode cX3_immediateB 37 = .ok (.ireturn, 1) := by decide +kernel
theorem dX3_immediateJ_0 : decode cX3_immediateJ 0 = .ok (.iload_n 0, 1) := by decide +kernel
theorem dX3_immediateJ_1 : decode cX3_immediateJ 1 = .ok (.bipush 31, 2) := by decide +kernel
theorem dX3_immediateJ_3 : decode cX3_immediateJ 3 = .ok (.ishr, 1) := by decide +kernel
theorem dX3_immediateJ_4 : decode cX3_immediateJ 4 = .ok (.bipush 20, 2) := by decide +kernel
theorem dX3_immediateJ_6 : decode cX3_immediateJ 6 = .ok (.ishl, 1) := by decide +kernel
theorem dX3_immediateJ_7 : decode cX3_immediateJ 7 = .ok (.iload_n 0, 1) := by decide +kernel
theorem dX3_immediateJ_8 : decode cX3_immediateJ 8 = .ok (.bipush 12, 2) := by decide +kernel
theorem dX3_immediateJ_10 : decode cX3_immediateJ 10 = .ok (.ishr, 1) := by decide +kernel
theorem dX3_immediateJ_11 : decode cX3_immediateJ 11 = .ok (.sipush 255, 3) := by decide +kernel
theorem dX3_immediateJ_14 : decode cX3_immediateJ 14 = .ok (.iand, 1) := by decide +kernel
theorem dX3_immediateJ_15 : decode cX3_immediateJ 15 = .ok (.bipush 12, 2) := by decide +kernel
theorem dX3_immediateJ_17 : decode cX3_immediateJ 17 = .ok (.ishl, 1) := by decide +kernel
theorem dX3_immediateJ_18 : decode cX3_immediateJ 18 = .ok (.ior, 1) := by decide +kernel
theorem dX3_immediateJ_19 : decode cX3_immediateJ 19 = .ok (.iload_n 0, 1) := by decide +kernel
theorem dX3_immediateJ_20 : decode cX3_immediateJ 20 = .ok (.bipush 20, 2) := by decide +kernel
theorem dX3_immediateJ_22 : decode cX3_immediateJ 22 = .ok (.ishr, 1) := by decide +kernel
theorem dX3_immediateJ_23 : decode cX3_immediateJ 23 = .ok (.iconst 1, 1) := by decide +kernel
theorem dX3_immediateJ_24 : decode cX3_immediateJ 24 = .ok (.iand, 1) := by decide +kernel
theorem dX3_immediateJ_25 : decode cX3_immediateJ 25 = .ok (.bipush 11, 2) := by decide +kernel
theorem dX3_immediateJ_27 : decode cX3_immediateJ 27 = .ok (.ishl, 1) := by decide +kernel
theorem dX3_immediateJ_28 : decode cX3_immediateJ 28 = .ok (.ior, 1) := by decide +kernel
theorem dX3_immediateJ_29 : decode cX3_immediateJ 29 = .ok (.iload_n 0, 1) := by decide +kernel
theorem dX3_immediateJ_30 : decode cX3_immediateJ 30 = .ok (.bipush 21, 2) := by decide +kernel
theorem dX3_immediateJ_32 : decode cX3_immediateJ 32 = .ok (.ishr, 1) := by decide +kernel
theorem dX3_immediateJ_33 : decode cX3_immediateJ 33 = .ok (.sipush 1023, 3) := by decide +kernel
theorem dX3_immediateJ_36 : decode cX3_immediateJ 36 = .ok (.iand, 1) := by decide +kernel
theorem dX3_immediateJ_37 : decode cX3_immediateJ 37 = .ok (.iconst 1, 1) := by decide +kernel
theorem dX3_immediateJ_38 : decode cX3_immediateJ 38 = .ok (.ishl, 1) := by decide +kernel
theorem dX3_immediateJ_39 : decode cX3_immediateJ 39 = .ok (.ior, 1) := by decide +kernel
theorem dX3_immediateJ_40 : decode cX3_immediateJ 40 = .ok (.ireturn, 1) := by decide +kernel
theorem dX3_immediateS_0 : decode cX3_immediateS 0 = .ok (.iload_n 0, 1) := by decide +kernel
theorem dX3_immediateS_1 : decode cX3_immediateS 1 = .ok (.bipush 25, 2) := by decide +kernel
theorem dX3_immediateS_3 : decode cX3_immediateS 3 = .ok (.ishr, 1) := by decide +kernel
theorem dX3_immediateS_4 : decode cX3_immediateS 4 = .ok (.iconst 5, 1) := by decide +kernel
theorem dX3_immediateS_5 : decode cX3_immediateS 5 = .ok (.ishl, 1) := by decide +kernel
theorem dX3_immediateS_6 : decode cX3_immediateS 6 = .ok (.iload_n 0, 1) := by decide +kernel
theorem dX3_immediateS_7 : decode cX3_immediateS 7 = .ok (.bipush 7, 2) := by decide +kernel
theorem dX3_immediateS_9 : decode cX3_immediateS 9 = .ok (.ishr, 1) := by decide +kernel
theorem dX3_immediateS_10 : decode cX3_immediateS 10 = .ok (.bipush 31, 2) := by decide +kernel
theorem dX3_immediateS_12 : decode cX3_immediateS 12 = .ok (.iand, 1) := by decide +kernel
theorem dX3_immediateS_13 : decode cX3_immediateS 13 = .ok (.ior, 1) := by decide +kernel
theorem dX3_immediateS_14 : decode cX3_immediateS 14 = .ok (.ireturn, 1) := by decide +kernel
set_option maxRecDepth 100000 in
theorem ggX3_isLegal_X3_f3 : GoodIn wsX3_isLegal wsX3_f3 := goodIn_r _ [5] rfl (by decide +kernel)
set_option maxRecDepth 100000 in
theorem gX3_isLegal_X3_f3 : GoodIn wsX3_isLegal (va_wsS RX3 59 yX3_f3 wsX3_f3) := goodIn_app (goodIn_of _ (by decide +kernel)) ggX3_isLegal_X3_f3
set_option maxRecDepth 100000 in
theorem ggX3_isLegal_X3_opcode : GoodIn wsX3_isLegal wsX3_opcode := goodIn_r _ [8] rfl (by decide +kernel)
set_option maxRecDepth 100000 in
theorem gX3_isLegal_X3_opcode : GoodIn wsX3_isLegal (va_wsS RX3 63 yX3_opcode wsX3_opcode) := goodIn_app (goodIn_of _ (by decide +kernel)) ggX3_isLegal_X3_opcode
set_option maxRecDepth 100000 in
theorem ggX3_isLegal_X3_f7 : GoodIn wsX3_isLegal wsX3_f7 := goodIn_r _ [11] rfl (by decide +kernel)
set_option maxRecDepth 100000 in
theorem gX3_isLegal_X3_f7 : GoodIn wsX3_isLegal (va_wsS RX3 66 yX3_f7 wsX3_f7) := goodIn_app (goodIn_of _ (by decide +kernel)) ggX3_isLegal_X3_f7
theorem dX3_isLegal_0 : decode cX3_isLegal 0 = .ok (.iload_n 0, 1) := by decide +kernel
theorem dX3_isLegal_1 : decode cX3_isLegal 1 = .ok (.invokestatic 59, 3) := by decide +kernel
theorem dX3_isLegal_4 : decode cX3_isLegal 4 = .ok (.istore_n 1, 1) := by decide +kernel
theorem dX3_isLegal_5 : decode cX3_isLegal 5 = .ok (.iload_n 0, 1) := by decide +kernel
theorem dX3_isLegal_6 : decode cX3_isLegal 6 = .ok (.invokestatic 63, 3) := by decide +kernel
theorem dX3_isLegal_9 : decode cX3_isLegal 9 = .ok (.lookupswitch 255 #[(3, 127), (15, 101), (19, 159), (23, 99), (35, 148), (51, 206), (55, 99), (99, 111), (103, 101), (111, 99), (115, 237)], 99) := by decide +kernel
theorem dX3_isLegal_108 : decode cX3_isLegal 108 = .ok (.iconst 1, 1) := by decide +kernel
theorem dX3_isLegal_109 : decode cX3_isLegal 109 = .ok (.ireturn, 1) := by decide +kernel
theorem dX3_isLegal_110 : decode cX3_isLegal 110 = .ok (.iload_n 1, 1) := by decide +kernel
theorem dX3_isLegal_111 : decode cX3_isLegal 111 = .ok (.ifCond .ne 7, 3) := by decide +kernel
theorem dX3_isLegal_114 : decode cX3_isLegal 114 = .ok (.iconst 1, 1) := by decide +kernel
theorem dX3_isLegal_115 : decode cX3_isLegal 115 = .ok (.goto 4, 3) := by decide +kernel
theorem dX3_isLegal_118 : decode cX3_isLegal 118 = .ok (.iconst 0, 1) := by decide +kernel
theorem dX3_isLegal_119 : decode cX3_isLegal 119 = .ok (.ireturn, 1) := by decide +kernel
theorem dX3_isLegal_120 : decode cX3_isLegal 120 = .ok (.iload_n 1, 1) := by decide +kernel
theorem dX3_isLegal_121 : decode cX3_isLegal 121 = .ok (.iconst 2, 1) := by decide +kernel
theorem dX3_isLegal_122 : decode cX3_isLegal 122 = .ok (.if_icmp .lt 8, 3) := by decide +kernel
theorem dX3_isLegal_125 : decode cX3_isLegal 125 = .ok (.iload_n 1, 1) := by decide +kernel
theorem dX3_isLegal_126 : decode cX3_isLegal 126 = .ok (.iconst 3, 1) := by decide +kernel
theorem dX3_isLegal_127 : decode cX3_isLegal 127 = .ok (.if_icmp .le 7, 3) := by decide +kernel
theorem dX3_isLegal_130 : decode cX3_isLegal 130 = .ok (.iconst 1, 1) := by decide +kernel
theorem dX3_isLegal_131 : decode cX3_isLegal 131 = .ok (.goto 4, 3) := by decide +kernel
theorem dX3_isLegal_134 : decode cX3_isLegal 134 = .ok (.iconst 0, 1) := by decide +kernel
theorem dX3_isLegal_135 : decode cX3_isLegal 135 = .ok (.ireturn, 1) := by decide +kernel
theorem dX3_isLegal_136 : decode cX3_isLegal 136 = .ok (.iload_n 1, 1) := by decide +kernel
theorem dX3_isLegal_137 : decode cX3_isLegal 137 = .ok (.iconst 3, 1) := by decide +kernel
theorem dX3_isLegal_138 : decode cX3_isLegal 138 = .ok (.if_icmp .lt 13, 3) := by decide +kernel
theorem dX3_isLegal_141 : decode cX3_isLegal 141 = .ok (.iload_n 1, 1) := by decide +kernel
theorem dX3_isLegal_142 : decode cX3_isLegal 142 = .ok (.iconst 4, 1) := by decide +kernel
theorem dX3_isLegal_143 : decode cX3_isLegal 143 = .ok (.if_icmp .eq 8, 3) := by decide +kernel
theorem dX3_isLegal_146 : decode cX3_isLegal 146 = .ok (.iload_n 1, 1) := by decide +kernel
theorem dX3_isLegal_147 : decode cX3_isLegal 147 = .ok (.iconst 5, 1) := by decide +kernel
theorem dX3_isLegal_148 : decode cX3_isLegal 148 = .ok (.if_icmp .ne 7, 3) := by decide +kernel
theorem dX3_isLegal_151 : decode cX3_isLegal 151 = .ok (.iconst 1, 1) := by decide +kernel
theorem dX3_isLegal_152 : decode cX3_isLegal 152 = .ok (.goto 4, 3) := by decide +kernel
theorem dX3_isLegal_155 : decode cX3_isLegal 155 = .ok (.iconst 0, 1) := by decide +kernel
theorem dX3_isLegal_156 : decode cX3_isLegal 156 = .ok (.ireturn, 1) := by decide +kernel
theorem dX3_isLegal_157 : decode cX3_isLegal 157 = .ok (.iload_n 1, 1) := by decide +kernel
theorem dX3_isLegal_158 : decode cX3_isLegal 158 = .ok (.iconst 3, 1) := by decide +kernel
theorem dX3_isLegal_159 : decode cX3_isLegal 159 = .ok (.if_icmp .ge 7, 3) := by decide +kernel
theorem dX3_isLegal_162 : decode cX3_isLegal 162 = .ok (.iconst 1, 1) := by decide +kernel
theorem dX3_isLegal_163 : decode cX3_isLegal 163 = .ok (.goto 4, 3) := by decide +kernel
theorem dX3_isLegal_166 : decode cX3_isLegal 166 = .ok (.iconst 0, 1) := by decide +kernel
theorem dX3_isLegal_167 : decode cX3_isLegal 167 = .ok (.ireturn, 1) := by decide +kernel
theorem dX3_isLegal_168 : decode cX3_isLegal 168 = .ok (.iload_n 1, 1) := by decide +kernel
theorem dX3_isLegal_169 : decode cX3_isLegal 169 = .ok (.iconst 1, 1) := by decide +kernel
theorem dX3_isLegal_170 : decode cX3_isLegal 170 = .ok (.if_icmp .ne 18, 3) := by decide +kernel
theorem dX3_isLegal_173 : decode cX3_isLegal 173 = .ok (.iload_n 0, 1) := by decide +kernel
theorem dX3_isLegal_174 : decode cX3_isLegal 174 = .ok (.invokestatic 66, 3) := by decide +kernel
theorem dX3_isLegal_177 : decode cX3_isLegal 177 = .ok (.ifCond .ne 7, 3) := by decide +kernel
theorem dX3_isLegal_180 : decode cX3_isLegal 180 = .ok (.iconst 1, 1) := by decide +kernel
theorem dX3_isLegal_181 : decode cX3_isLegal 181 = .ok (.goto 33, 3) := by decide +kernel
theorem dX3_isLegal_184 : decode cX3_isLegal 184 = .ok (.iconst 0, 1) := by decide +kernel
theorem dX3_isLegal_185 : decode cX3_isLegal 185 = .ok (.goto 29, 3) := by decide +kernel
theorem dX3_isLegal_188 : decode cX3_isLegal 188 = .ok (.iload_n 1, 1) := by decide +kernel
theorem dX3_isLegal_189 : decode cX3_isLegal 189 = .ok (.iconst 5, 1) := by decide +kernel
theorem dX3_isLegal_190 : decode cX3_isLegal 190 = .ok (.if_icmp .ne 19, 3) := by decide +kernel
theorem dX3_isLegal_193 : decode cX3_isLegal 193 = .ok (.iload_n 0, 1) := by decide +kernel
theorem dX3_isLegal_194 : decode cX3_isLegal 194 = .ok (.invokestatic 66, 3) := by decide +kernel
theorem dX3_isLegal_197 : decode cX3_isLegal 197 = .ok (.ifCond .eq 12, 3) := by decide +kernel
theorem dX3_isLegal_200 : decode cX3_isLegal 200 = .ok (.iload_n 0, 1) := by decide +kernel
theorem dX3_isLegal_201 : decode cX3_isLegal 201 = .ok (.invokestatic 66, 3) := by decide +kernel
theorem dX3_isLegal_204 : decode cX3_isLegal 204 = .ok (.bipush 32, 2) := by decide +kernel
theorem dX3_isLegal_206 : decode cX3_isLegal 206 = .ok (.if_icmp .ne 7, 3) := by decide +kernel
theorem dX3_isLegal_209 : decode cX3_isLegal 209 = .ok (.iconst 1, 1) := by decide +kernel
theorem dX3_isLegal_210 : decode cX3_isLegal 210 = .ok (.goto 4, 3) := by decide +kernel
theorem dX3_isLegal_213 : decode cX3_isLegal 213 = .ok (.iconst 0, 1) := by decide +kernel
theorem dX3_isLegal_214 : decode cX3_isLegal 214 = .ok (.ireturn, 1) := by decide +kernel
theorem dX3_isLegal_215 : decode cX3_isLegal 215 = .ok (.iload_n 0, 1) := by decide +kernel
theorem dX3_isLegal_216 : decode cX3_isLegal 216 = .ok (.invokestatic 66, 3) := by decide +kernel
theorem dX3_isLegal_219 : decode cX3_isLegal 219 = .ok (.ifCond .eq 21, 3) := by decide +kernel
theorem dX3_isLegal_222 : decode cX3_isLegal 222 = .ok (.iload_n 0, 1) := by decide +kernel
theorem dX3_isLegal_223 : decode cX3_isLegal 223 = .ok (.invokestatic 66, 3) := by decide +kernel
theorem dX3_isLegal_226 : decode cX3_isLegal 226 = .ok (.bipush 32, 2) := by decide +kernel
theorem dX3_isLegal_228 : decode cX3_isLegal 228 = .ok (.if_icmp .ne 16, 3) := by decide +kernel
theorem dX3_isLegal_231 : decode cX3_isLegal 231 = .ok (.iload_n 1, 1) := by decide +kernel
theorem dX3_isLegal_232 : decode cX3_isLegal 232 = .ok (.ifCond .eq 8, 3) := by decide +kernel
theorem dX3_isLegal_235 : decode cX3_isLegal 235 = .ok (.iload_n 1, 1) := by decide +kernel
theorem dX3_isLegal_236 : decode cX3_isLegal 236 = .ok (.iconst 5, 1) := by decide +kernel
theorem dX3_isLegal_237 : decode cX3_isLegal 237 = .ok (.if_icmp .ne 7, 3) := by decide +kernel
theorem dX3_isLegal_240 : decode cX3_isLegal 240 = .ok (.iconst 1, 1) := by decide +kernel
theorem dX3_isLegal_241 : decode cX3_isLegal 241 = .ok (.goto 4, 3) := by decide +kernel
theorem dX3_isLegal_244 : decode cX3_isLegal 244 = .ok (.iconst 0, 1) := by decide +kernel
theorem dX3_isLegal_245 : decode cX3_isLegal 245 = .ok (.ireturn, 1) := by decide +kernel
theorem dX3_isLegal_246 : decode cX3_isLegal 246 = .ok (.iload_n 0, 1) := by decide +kernel
theorem dX3_isLegal_247 : decode cX3_isLegal 247 = .ok (.bipush 115, 2) := by decide +kernel
theorem dX3_isLegal_249 : decode cX3_isLegal 249 = .ok (.if_icmp .eq 9, 3) := by decide +kernel
theorem dX3_isLegal_252 : decode cX3_isLegal 252 = .ok (.iload_n 0, 1) := by decide +kernel
theorem dX3_isLegal_253 : decode cX3_isLegal 253 = .ok (.ldc 69, 2) := by decide +kernel
theorem dX3_isLegal_255 : decode cX3_isLegal 255 = .ok (.if_icmp .ne 7, 3) := by decide +kernel
theorem dX3_isLegal_258 : decode cX3_isLegal 258 = .ok (.iconst 1, 1) := by decide +kernel
theorem dX3_isLegal_259 : decode cX3_isLegal 259 = .ok (.goto 4, 3) := by decide +kernel
theorem dX3_isLegal_262 : decode cX3_isLegal 262 = .ok (.iconst 0, 1) := by decide +kernel
theorem dX3_isLegal_263 : decode cX3_isLegal 263 = .ok (.ireturn, 1) := by decide +kernel
theorem dX3_isLegal_264 : decode cX3_isLegal 264 = .ok (.iconst 0, 1) := by decide +kernel
theorem dX3_isLegal_265 : decode cX3_isLegal 265 = .ok (.ireturn, 1) := by decide +kernel
set_option maxRecDepth 100000 in
theorem ggX3_reads_X3_isBeyond : GoodIn wsX3_reads wsX3_isBeyond := goodIn_r _ [4] rfl (by decide +kernel)
set_option maxRecDepth 100000 in
theorem gX3_reads_X3_isBeyond : GoodIn wsX3_reads (va_wsS RX3 70 yX3_isBeyond wsX3_isBeyond) := goodIn_app (goodIn_of _ (by decide +kernel)) ggX3_reads_X3_isBeyond
set_option maxRecDepth 100000 in
theorem ggX3_reads_X3_wordAt : GoodIn wsX3_reads wsX3_wordAt := goodIn_r _ [8, 9, 29, 30, 31, 32, 33, 34, 35, 36, 37, 38, 39, 40, 41, 42, 43, 44, 45, 46, 47, 48, 49] rfl (by decide +kernel)
set_option maxRecDepth 100000 in
theorem gX3_reads_X3_wordAt : GoodIn wsX3_reads (wsV RX3 74 RX3 yX3_wordAt wsX3_wordAt) := goodIn_app (goodIn_of _ (by decide +kernel)) ggX3_reads_X3_wordAt
set_option maxRecDepth 100000 in
theorem ggX3_reads_X3_isLegal : GoodIn wsX3_reads wsX3_isLegal := goodIn_r _ [12, 13, 14, 15, 3, 16, 17, 18, 19, 20, 21, 22] rfl (by decide +kernel)
set_option maxRecDepth 100000 in
theorem gX3_reads_X3_isLegal : GoodIn wsX3_reads (va_wsS RX3 77 yX3_isLegal wsX3_isLegal) := goodIn_app (goodIn_of _ (by decide +kernel)) ggX3_reads_X3_isLegal
set_option maxRecDepth 100000 in
theorem ggX3_reads_X3_opcode : GoodIn wsX3_reads wsX3_opcode := goodIn_r _ [19] rfl (by decide +kernel)
set_option maxRecDepth 100000 in
theorem gX3_reads_X3_opcode : GoodIn wsX3_reads (va_wsS RX3 63 yX3_opcode wsX3_opcode) := goodIn_app (goodIn_of _ (by decide +kernel)) ggX3_reads_X3_opcode
set_option maxRecDepth 100000 in
theorem ggX3_reads_X3_rs1 : GoodIn wsX3_reads wsX3_rs1 := goodIn_r _ [25] rfl (by decide +kernel)
set_option maxRecDepth 100000 in
theorem gX3_reads_X3_rs1 : GoodIn wsX3_reads (va_wsS RX3 80 yX3_rs1 wsX3_rs1) := goodIn_app (goodIn_of _ (by decide +kernel)) ggX3_reads_X3_rs1
set_option maxRecDepth 100000 in
theorem ggX3_reads_X3_rs2 : GoodIn wsX3_reads wsX3_rs2 := goodIn_r _ [28] rfl (by decide +kernel)
set_option maxRecDepth 100000 in
theorem gX3_reads_X3_rs2 : GoodIn wsX3_reads (va_wsS RX3 83 yX3_rs2 wsX3_rs2) := goodIn_app (goodIn_of _ (by decide +kernel)) ggX3_reads_X3_rs2
theorem dX3_reads_0 : decode cX3_reads 0 = .ok (.iload_n 1, 1) := by decide +kernel
theorem dX3_reads_1 : decode cX3_reads 1 = .ok (.invokestatic 70, 3) := by decide +kernel
theorem dX3_reads_4 : decode cX3_reads 4 = .ok (.ifCond .ne 14, 3) := by decide +kernel
theorem dX3_reads_7 : decode cX3_reads 7 = .ok (.aload_n 0, 1) := by decide +kernel
theorem dX3_reads_8 : decode cX3_reads 8 = .ok (.iload_n 1, 1) := by decide +kernel
theorem dX3_reads_9 : decode cX3_reads 9 = .ok (.invokevirtual 74, 3) := by decide +kernel
theorem dX3_reads_12 : decode cX3_reads 12 = .ok (.invokestatic 77, 3) := by decide +kernel
theorem dX3_reads_15 : decode cX3_reads 15 = .ok (.ifCond .ne 5, 3) := by decide +kernel
theorem dX3_reads_18 : decode cX3_reads 18 = .ok (.iconst 0, 1) := by decide +kernel
theorem dX3_reads_19 : decode cX3_reads 19 = .ok (.ireturn, 1) := by decide +kernel
theorem dX3_reads_20 : decode cX3_reads 20 = .ok (.aload_n 0, 1) := by decide +kernel
theorem dX3_reads_21 : decode cX3_reads 21 = .ok (.iload_n 1, 1) := by decide +kernel
theorem dX3_reads_22 : decode cX3_reads 22 = .ok (.invokevirtual 74, 3) := by decide +kernel
theorem dX3_reads_25 : decode cX3_reads 25 = .ok (.istore_n 3, 1) := by decide +kernel
theorem dX3_reads_26 : decode cX3_reads 26 = .ok (.iload_n 3, 1) := by decide +kernel
theorem dX3_reads_27 : decode cX3_reads 27 = .ok (.invokestatic 63, 3) := by decide +kernel
theorem dX3_reads_30 : decode cX3_reads 30 = .ok (.istore 4, 2) := by decide +kernel
theorem dX3_reads_32 : decode cX3_reads 32 = .ok (.iload 4, 2) := by decide +kernel
theorem dX3_reads_34 : decode cX3_reads 34 = .ok (.bipush 55, 2) := by decide +kernel
theorem dX3_reads_36 : decode cX3_reads 36 = .ok (.if_icmp .eq 35, 3) := by decide +kernel
theorem dX3_reads_39 : decode cX3_reads 39 = .ok (.iload 4, 2) := by decide +kernel
theorem dX3_reads_41 : decode cX3_reads 41 = .ok (.bipush 23, 2) := by decide +kernel
theorem dX3_reads_43 : decode cX3_reads 43 = .ok (.if_icmp .eq 28, 3) := by decide +kernel
theorem dX3_reads_46 : decode cX3_reads 46 = .ok (.iload 4, 2) := by decide +kernel
theorem dX3_reads_48 : decode cX3_reads 48 = .ok (.bipush 111, 2) := by decide +kernel
theorem dX3_reads_50 : decode cX3_reads 50 = .ok (.if_icmp .eq 21, 3) := by decide +kernel
theorem dX3_reads_53 : decode cX3_reads 53 = .ok (.iload 4, 2) := by decide +kernel
theorem dX3_reads_55 : decode cX3_reads 55 = .ok (.bipush 15, 2) := by decide +kernel
theorem dX3_reads_57 : decode cX3_reads 57 = .ok (.if_icmp .eq 14, 3) := by decide +kernel
theorem dX3_reads_60 : decode cX3_reads 60 = .ok (.iload 4, 2) := by decide +kernel
theorem dX3_reads_62 : decode cX3_reads 62 = .ok (.bipush 115, 2) := by decide +kernel
theorem dX3_reads_64 : decode cX3_reads 64 = .ok (.if_icmp .eq 7, 3) := by decide +kernel
theorem dX3_reads_67 : decode cX3_reads 67 = .ok (.iconst 1, 1) := by decide +kernel
theorem dX3_reads_68 : decode cX3_reads 68 = .ok (.goto 4, 3) := by decide +kernel
theorem dX3_reads_71 : decode cX3_reads 71 = .ok (.iconst 0, 1) := by decide +kernel
theorem dX3_reads_72 : decode cX3_reads 72 = .ok (.istore 5, 2) := by decide +kernel
theorem dX3_reads_74 : decode cX3_reads 74 = .ok (.iload 4, 2) := by decide +kernel
theorem dX3_reads_76 : decode cX3_reads 76 = .ok (.bipush 99, 2) := by decide +kernel
theorem dX3_reads_78 : decode cX3_reads 78 = .ok (.if_icmp .eq 17, 3) := by decide +kernel
theorem dX3_reads_81 : decode cX3_reads 81 = .ok (.iload 4, 2) := by decide +kernel
theorem dX3_reads_83 : decode cX3_reads 83 = .ok (.bipush 35, 2) := by decide +kernel
theorem dX3_reads_85 : decode cX3_reads 85 = .ok (.if_icmp .eq 10, 3) := by decide +kernel
theorem dX3_reads_88 : decode cX3_reads 88 = .ok (.iload 4, 2) := by decide +kernel
theorem dX3_reads_90 : decode cX3_reads 90 = .ok (.bipush 51, 2) := by decide +kernel
theorem dX3_reads_92 : decode cX3_reads 92 = .ok (.if_icmp .ne 7, 3) := by decide +kernel
theorem dX3_reads_95 : decode cX3_reads 95 = .ok (.iconst 1, 1) := by decide +kernel
theorem dX3_reads_96 : decode cX3_reads 96 = .ok (.goto 4, 3) := by decide +kernel
theorem dX3_reads_99 : decode cX3_reads 99 = .ok (.iconst 0, 1) := by decide +kernel
theorem dX3_reads_100 : decode cX3_reads 100 = .ok (.istore 6, 2) := by decide +kernel
theorem dX3_reads_102 : decode cX3_reads 102 = .ok (.iload 5, 2) := by decide +kernel
theorem dX3_reads_104 : decode cX3_reads 104 = .ok (.ifCond .eq 11, 3) := by decide +kernel
theorem dX3_reads_107 : decode cX3_reads 107 = .ok (.iload_n 3, 1) := by decide +kernel
theorem dX3_reads_108 : decode cX3_reads 108 = .ok (.invokestatic 80, 3) := by decide +kernel
theorem dX3_reads_111 : decode cX3_reads 111 = .ok (.iload_n 2, 1) := by decide +kernel
theorem dX3_reads_112 : decode cX3_reads 112 = .ok (.if_icmp .eq 16, 3) := by decide +kernel
theorem dX3_reads_115 : decode cX3_reads 115 = .ok (.iload 6, 2) := by decide +kernel
theorem dX3_reads_117 : decode cX3_reads 117 = .ok (.ifCond .eq 15, 3) := by decide +kernel
theorem dX3_reads_120 : decode cX3_reads 120 = .ok (.iload_n 3, 1) := by decide +kernel
theorem dX3_reads_121 : decode cX3_reads 121 = .ok (.invokestatic 83, 3) := by decide +kernel
theorem dX3_reads_124 : decode cX3_reads 124 = .ok (.iload_n 2, 1) := by decide +kernel
theorem dX3_reads_125 : decode cX3_reads 125 = .ok (.if_icmp .ne 7, 3) := by decide +kernel
theorem dX3_reads_128 : decode cX3_reads 128 = .ok (.iconst 1, 1) := by decide +kernel
theorem dX3_reads_129 : decode cX3_reads 129 = .ok (.goto 4, 3) := by decide +kernel
theorem dX3_reads_132 : decode cX3_reads 132 = .ok (.iconst 0, 1) := by decide +kernel
theorem dX3_reads_133 : decode cX3_reads 133 = .ok (.ireturn, 1) := by decide +kernel
theorem dX3_load_0 : decode cX3_load 0 = .ok (.iconst 0, 1) := by decide +kernel
theorem dX3_load_1 : decode cX3_load 1 = .ok (.istore_n 3, 1) := by decide +kernel
theorem dX3_load_2 : decode cX3_load 2 = .ok (.iload_n 2, 1) := by decide +kernel
theorem dX3_load_3 : decode cX3_load 3 = .ok (.iconst 1, 1) := by decide +kernel
theorem dX3_load_4 : decode cX3_load 4 = .ok (.isub, 1) := by decide +kernel
theorem dX3_load_5 : decode cX3_load 5 = .ok (.istore 4, 2) := by decide +kernel
theorem dX3_load_7 : decode cX3_load 7 = .ok (.iload 4, 2) := by decide +kernel
theorem dX3_load_9 : decode cX3_load 9 = .ok (.ifCond .lt 28, 3) := by decide +kernel
theorem dX3_load_12 : decode cX3_load 12 = .ok (.iload_n 3, 1) := by decide +kernel
theorem dX3_load_13 : decode cX3_load 13 = .ok (.bipush 8, 2) := by decide +kernel
theorem dX3_load_15 : decode cX3_load 15 = .ok (.ishl, 1) := by decide +kernel
theorem dX3_load_16 : decode cX3_load 16 = .ok (.aload_n 0, 1) := by decide +kernel
theorem dX3_load_17 : decode cX3_load 17 = .ok (.getfield 13, 3) := by decide +kernel
theorem dX3_load_20 : decode cX3_load 20 = .ok (.iload_n 1, 1) := by decide +kernel
theorem dX3_load_21 : decode cX3_load 21 = .ok (.iload 4, 2) := by decide +kernel
theorem dX3_load_23 : decode cX3_load 23 = .ok (.iadd, 1) := by decide +kernel
theorem dX3_load_24 : decode cX3_load 24 = .ok (.baload, 1) := by decide +kernel
theorem dX3_load_25 : decode cX3_load 25 = .ok (.sipush 255, 3) := by decide +kernel
theorem dX3_load_28 : decode cX3_load 28 = .ok (.iand, 1) := by decide +kernel
theorem dX3_load_29 : decode cX3_load 29 = .ok (.ior, 1) := by decide +kernel
theorem dX3_load_30 : decode cX3_load 30 = .ok (.istore_n 3, 1) := by decide +kernel
theorem dX3_load_31 : decode cX3_load 31 = .ok (.iinc 4 (-1), 3) := by decide +kernel
theorem dX3_load_34 : decode cX3_load 34 = .ok (.goto (-27), 3) := by decide +kernel
theorem dX3_load_37 : decode cX3_load 37 = .ok (.iload_n 3, 1) := by decide +kernel
theorem dX3_load_38 : decode cX3_load 38 = .ok (.ireturn, 1) := by decide +kernel
theorem dX3_store_0 : decode cX3_store 0 = .ok (.iconst 0, 1) := by decide +kernel
theorem dX3_store_1 : decode cX3_store 1 = .ok (.istore 4, 2) := by decide +kernel
theorem dX3_store_3 : decode cX3_store 3 = .ok (.iload 4, 2) := by decide +kernel
theorem dX3_store_5 : decode cX3_store 5 = .ok (.iload_n 2, 1) := by decide +kernel
theorem dX3_store_6 : decode cX3_store 6 = .ok (.if_icmp .ge 26, 3) := by decide +kernel
theorem dX3_store_9 : decode cX3_store 9 = .ok (.aload_n 0, 1) := by decide +kernel
theorem dX3_store_10 : decode cX3_store 10 = .ok (.getfield 13, 3) := by decide +kernel
theorem dX3_store_13 : decode cX3_store 13 = .ok (.iload_n 1, 1) := by decide +kernel
theorem dX3_store_14 : decode cX3_store 14 = .ok (.iload 4, 2) := by decide +kernel
theorem dX3_store_16 : decode cX3_store 16 = .ok (.iadd, 1) := by decide +kernel
theorem dX3_store_17 : decode cX3_store 17 = .ok (.iload_n 3, 1) := by decide +kernel
theorem dX3_store_18 : decode cX3_store 18 = .ok (.bipush 8, 2) := by decide +kernel
theorem dX3_store_20 : decode cX3_store 20 = .ok (.iload 4, 2) := by decide +kernel
theorem dX3_store_22 : decode cX3_store 22 = .ok (.imul, 1) := by decide +kernel
theorem dX3_store_23 : decode cX3_store 23 = .ok (.ishr, 1) := by decide +kernel
theorem dX3_store_24 : decode cX3_store 24 = .ok (.i2b, 1) := by decide +kernel
theorem dX3_store_25 : decode cX3_store 25 = .ok (.bastore, 1) := by decide +kernel
theorem dX3_store_26 : decode cX3_store 26 = .ok (.iinc 4 1, 3) := by decide +kernel
theorem dX3_store_29 : decode cX3_store 29 = .ok (.goto (-26), 3) := by decide +kernel
theorem dX3_store_32 : decode cX3_store 32 = .ok (.return_, 1) := by decide +kernel
theorem dX3_refusal_0 : decode cX3_refusal 0 = .ok (.iload_n 0, 1) := by decide +kernel
theorem dX3_refusal_1 : decode cX3_refusal 1 = .ok (.iload_n 1, 1) := by decide +kernel
theorem dX3_refusal_2 : decode cX3_refusal 2 = .ok (.irem, 1) := by decide +kernel
theorem dX3_refusal_3 : decode cX3_refusal 3 = .ok (.ifCond .eq 8, 3) := by decide +kernel
theorem dX3_refusal_6 : decode cX3_refusal 6 = .ok (.bipush 6, 2) := by decide +kernel
theorem dX3_refusal_8 : decode cX3_refusal 8 = .ok (.goto 20, 3) := by decide +kernel
theorem dX3_refusal_11 : decode cX3_refusal 11 = .ok (.iload_n 0, 1) := by decide +kernel
theorem dX3_refusal_12 : decode cX3_refusal 12 = .ok (.ifCond .lt 10, 3) := by decide +kernel
theorem dX3_refusal_15 : decode cX3_refusal 15 = .ok (.iload_n 0, 1) := by decide +kernel
theorem dX3_refusal_16 : decode cX3_refusal 16 = .ok (.sipush 255, 3) := by decide +kernel
theorem dX3_refusal_19 : decode cX3_refusal 19 = .ok (.if_icmp .le 8, 3) := by decide +kernel
theorem dX3_refusal_22 : decode cX3_refusal 22 = .ok (.bipush 7, 2) := by decide +kernel
theorem dX3_refusal_24 : decode cX3_refusal 24 = .ok (.goto 4, 3) := by decide +kernel
theorem dX3_refusal_27 : decode cX3_refusal 27 = .ok (.iconst 0, 1) := by decide +kernel
theorem dX3_refusal_28 : decode cX3_refusal 28 = .ok (.ireturn, 1) := by decide +kernel
theorem dX3_isLess_0 : decode cX3_isLess 0 = .ok (.iload_n 0, 1) := by decide +kernel
theorem dX3_isLess_1 : decode cX3_isLess 1 = .ok (.i2l, 1) := by decide +kernel
theorem dX3_isLess_2 : decode cX3_isLess 2 = .ok (.ldc2_w 86, 3) := by decide +kernel
theorem dX3_isLess_5 : decode cX3_isLess 5 = .ok (.land, 1) := by decide +kernel
theorem dX3_isLess_6 : decode cX3_isLess 6 = .ok (.iload_n 1, 1) := by decide +kernel
theorem dX3_isLess_7 : decode cX3_isLess 7 = .ok (.i2l, 1) := by decide +kernel
theorem dX3_isLess_8 : decode cX3_isLess 8 = .ok (.ldc2_w 86, 3) := by decide +kernel
theorem dX3_isLess_11 : decode cX3_isLess 11 = .ok (.land, 1) := by decide +kernel
theorem dX3_isLess_12 : decode cX3_isLess 12 = .ok (.lcmp, 1) := by decide +kernel
theorem dX3_isLess_13 : decode cX3_isLess 13 = .ok (.ifCond .ge 7, 3) := by decide +kernel
theorem dX3_isLess_16 : decode cX3_isLess 16 = .ok (.iconst 1, 1) := by decide +kernel
theorem dX3_isLess_17 : decode cX3_isLess 17 = .ok (.goto 4, 3) := by decide +kernel
theorem dX3_isLess_20 : decode cX3_isLess 20 = .ok (.iconst 0, 1) := by decide +kernel
theorem dX3_isLess_21 : decode cX3_isLess 21 = .ok (.ireturn, 1) := by decide +kernel
set_option maxRecDepth 100000 in
theorem ggX3_reckon_X3_isLess : GoodIn wsX3_reckon wsX3_isLess := goodIn_r _ [4, 5] rfl (by decide +kernel)
set_option maxRecDepth 100000 in
theorem gX3_reckon_X3_isLess : GoodIn wsX3_reckon (va_wsS RX3 88 yX3_isLess wsX3_isLess) := goodIn_app (goodIn_of _ (by decide +kernel)) ggX3_reckon_X3_isLess
theorem dX3_reckon_0 : decode cX3_reckon 0 = .ok (.iload_n 3, 1) := by decide +kernel
theorem dX3_reckon_1 : decode cX3_reckon 1 = .ok (.bipush 31, 2) := by decide +kernel
theorem dX3_reckon_3 : decode cX3_reckon 3 = .ok (.iand, 1) := by decide +kernel
theorem dX3_reckon_4 : decode cX3_reckon 4 = .ok (.istore 4, 2) := by decide +kernel
theorem dX3_reckon_6 : decode cX3_reckon 6 = .ok (.iload_n 0, 1) := by decide +kernel
theorem dX3_reckon_7 : decode cX3_reckon 7 = .ok (.tableswitch 109 0 6 #[41, 55, 60, 71, 85, 89, 105], 41) := by decide +kernel
theorem dX3_reckon_48 : decode cX3_reckon 48 = .ok (.iload_n 1, 1) := by decide +kernel
theorem dX3_reckon_49 : decode cX3_reckon 49 = .ok (.ifCond .eq 9, 3) := by decide +kernel
theorem dX3_reckon_52 : decode cX3_reckon 52 = .ok (.iload_n 2, 1) := by decide +kernel
theorem dX3_reckon_53 : decode cX3_reckon 53 = .ok (.iload_n 3, 1) := by decide +kernel
theorem dX3_reckon_54 : decode cX3_reckon 54 = .ok (.isub, 1) := by decide +kernel
theorem dX3_reckon_55 : decode cX3_reckon 55 = .ok (.goto 6, 3) := by decide +kernel
theorem dX3_reckon_58 : decode cX3_reckon 58 = .ok (.iload_n 2, 1) := by decide +kernel
theorem dX3_reckon_59 : decode cX3_reckon 59 = .ok (.iload_n 3, 1) := by decide +kernel
theorem dX3_reckon_60 : decode cX3_reckon 60 = .ok (.iadd, 1) := by decide +kernel
theorem dX3_reckon_61 : decode cX3_reckon 61 = .ok (.ireturn, 1) := by decide +kernel
theorem dX3_reckon_62 : decode cX3_reckon 62 = .ok (.iload_n 2, 1) := by decide +kernel
theorem dX3_reckon_63 : decode cX3_reckon 63 = .ok (.iload 4, 2) := by decide +kernel
theorem dX3_reckon_65 : decode cX3_reckon 65 = .ok (.ishl, 1) := by decide +kernel
theorem dX3_reckon_66 : decode cX3_reckon 66 = .ok (.ireturn, 1) := by decide +kernel
theorem dX3_reckon_67 : decode cX3_reckon 67 = .ok (.iload_n 2, 1) := by decide +kernel
theorem dX3_reckon_68 : decode cX3_reckon 68 = .ok (.iload_n 3, 1) := by decide +kernel
theorem dX3_reckon_69 : decode cX3_reckon 69 = .ok (.if_icmp .ge 7, 3) := by decide +kernel
theorem dX3_reckon_72 : decode cX3_reckon 72 = .ok (.iconst 1, 1) := by decide +kernel
theorem dX3_reckon_73 : decode cX3_reckon 73 = .ok (.goto 4, 3) := by decide +kernel
theorem dX3_reckon_76 : decode cX3_reckon 76 = .ok (.iconst 0, 1) := by decide +kernel
theorem dX3_reckon_77 : decode cX3_reckon 77 = .ok (.ireturn, 1) := by decide +kernel
theorem dX3_reckon_78 : decode cX3_reckon 78 = .ok (.iload_n 2, 1) := by decide +kernel
theorem dX3_reckon_79 : decode cX3_reckon 79 = .ok (.iload_n 3, 1) := by decide +kernel
theorem dX3_reckon_80 : decode cX3_reckon 80 = .ok (.invokestatic 88, 3) := by decide +kernel
theorem dX3_reckon_83 : decode cX3_reckon 83 = .ok (.ifCond .eq 7, 3) := by decide +kernel
theorem dX3_reckon_86 : decode cX3_reckon 86 = .ok (.iconst 1, 1) := by decide +kernel
theorem dX3_reckon_87 : decode cX3_reckon 87 = .ok (.goto 4, 3) := by decide +kernel
theorem dX3_reckon_90 : decode cX3_reckon 90 = .ok (.iconst 0, 1) := by decide +kernel
theorem dX3_reckon_91 : decode cX3_reckon 91 = .ok (.ireturn, 1) := by decide +kernel
theorem dX3_reckon_92 : decode cX3_reckon 92 = .ok (.iload_n 2, 1) := by decide +kernel
theorem dX3_reckon_93 : decode cX3_reckon 93 = .ok (.iload_n 3, 1) := by decide +kernel
theorem dX3_reckon_94 : decode cX3_reckon 94 = .ok (.ixor, 1) := by decide +kernel
theorem dX3_reckon_95 : decode cX3_reckon 95 = .ok (.ireturn, 1) := by decide +kernel
theorem dX3_reckon_96 : decode cX3_reckon 96 = .ok (.iload_n 1, 1) := by decide +kernel
theorem dX3_reckon_97 : decode cX3_reckon 97 = .ok (.ifCond .eq 10, 3) := by decide +kernel
theorem dX3_reckon_100 : decode cX3_reckon 100 = .ok (.iload_n 2, 1) := by decide +kernel
theorem dX3_reckon_101 : decode cX3_reckon 101 = .ok (.iload 4, 2) := by decide +kernel
theorem dX3_reckon_103 : decode cX3_reckon 103 = .ok (.ishr, 1) := by decide +kernel
theorem dX3_reckon_104 : decode cX3_reckon 104 = .ok (.goto 7, 3) := by decide +kernel
theorem dX3_reckon_107 : decode cX3_reckon 107 = .ok (.iload_n 2, 1) := by decide +kernel
theorem dX3_reckon_108 : decode cX3_reckon 108 = .ok (.iload 4, 2) := by decide +kernel
theorem dX3_reckon_110 : decode cX3_reckon 110 = .ok (.iushr, 1) := by decide +kernel
theorem dX3_reckon_111 : decode cX3_reckon 111 = .ok (.ireturn, 1) := by decide +kernel
theorem dX3_reckon_112 : decode cX3_reckon 112 = .ok (.iload_n 2, 1) := by decide +kernel
theorem dX3_reckon_113 : decode cX3_reckon 113 = .ok (.iload_n 3, 1) := by decide +kernel
theorem dX3_reckon_114 : decode cX3_reckon 114 = .ok (.ior, 1) := by decide +kernel
theorem dX3_reckon_115 : decode cX3_reckon 115 = .ok (.ireturn, 1) := by decide +kernel
theorem dX3_reckon_116 : decode cX3_reckon 116 = .ok (.iload_n 2, 1) := by decide +kernel
theorem dX3_reckon_117 : decode cX3_reckon 117 = .ok (.iload_n 3, 1) := by decide +kernel
theorem dX3_reckon_118 : decode cX3_reckon 118 = .ok (.iand, 1) := by decide +kernel
theorem dX3_reckon_119 : decode cX3_reckon 119 = .ok (.ireturn, 1) := by decide +kernel
set_option maxRecDepth 100000 in
theorem ggX3_holds_X3_isLess : GoodIn wsX3_holds wsX3_isLess := goodIn_r _ [4, 5] rfl (by decide +kernel)
set_option maxRecDepth 100000 in
theorem gX3_holds_X3_isLess : GoodIn wsX3_holds (va_wsS RX3 88 yX3_isLess wsX3_isLess) := goodIn_app (goodIn_of _ (by decide +kernel)) ggX3_holds_X3_isLess
theorem dX3_holds_0 : decode cX3_holds 0 = .ok (.iload_n 0, 1) := by decide +kernel
theorem dX3_holds_1 : decode cX3_holds 1 = .ok (.iconst 2, 1) := by decide +kernel
theorem dX3_holds_2 : decode cX3_holds 2 = .ok (.if_icmp .ge 16, 3) := by decide +kernel
theorem dX3_holds_5 : decode cX3_holds 5 = .ok (.iload_n 1, 1) := by decide +kernel
theorem dX3_holds_6 : decode cX3_holds 6 = .ok (.iload_n 2, 1) := by decide +kernel
theorem dX3_holds_7 : decode cX3_holds 7 = .ok (.if_icmp .ne 7, 3) := by decide +kernel
theorem dX3_holds_10 : decode cX3_holds 10 = .ok (.iconst 1, 1) := by decide +kernel
theorem dX3_holds_11 : decode cX3_holds 11 = .ok (.goto 31, 3) := by decide +kernel
theorem dX3_holds_14 : decode cX3_holds 14 = .ok (.iconst 0, 1) := by decide +kernel
theorem dX3_holds_15 : decode cX3_holds 15 = .ok (.goto 27, 3) := by decide +kernel
theorem dX3_holds_18 : decode cX3_holds 18 = .ok (.iload_n 0, 1) := by decide +kernel
theorem dX3_holds_19 : decode cX3_holds 19 = .ok (.bipush 6, 2) := by decide +kernel
theorem dX3_holds_21 : decode cX3_holds 21 = .ok (.if_icmp .ge 16, 3) := by decide +kernel
theorem dX3_holds_24 : decode cX3_holds 24 = .ok (.iload_n 1, 1) := by decide +kernel
theorem dX3_holds_25 : decode cX3_holds 25 = .ok (.iload_n 2, 1) := by decide +kernel
theorem dX3_holds_26 : decode cX3_holds 26 = .ok (.if_icmp .ge 7, 3) := by decide +kernel
theorem dX3_holds_29 : decode cX3_holds 29 = .ok (.iconst 1, 1) := by decide +kernel
theorem dX3_holds_30 : decode cX3_holds 30 = .ok (.goto 12, 3) := by decide +kernel
theorem dX3_holds_33 : decode cX3_holds 33 = .ok (.iconst 0, 1) := by decide +kernel
theorem dX3_holds_34 : decode cX3_holds 34 = .ok (.goto 8, 3) := by decide +kernel
theorem dX3_holds_37 : decode cX3_holds 37 = .ok (.iload_n 1, 1) := by decide +kernel
theorem dX3_holds_38 : decode cX3_holds 38 = .ok (.iload_n 2, 1) := by decide +kernel
theorem dX3_holds_39 : decode cX3_holds 39 = .ok (.invokestatic 88, 3) := by decide +kernel
theorem dX3_holds_42 : decode cX3_holds 42 = .ok (.istore_n 3, 1) := by decide +kernel
theorem dX3_holds_43 : decode cX3_holds 43 = .ok (.iload_n 3, 1) := by decide +kernel
theorem dX3_holds_44 : decode cX3_holds 44 = .ok (.iload_n 0, 1) := by decide +kernel
theorem dX3_holds_45 : decode cX3_holds 45 = .ok (.iconst 2, 1) := by decide +kernel
theorem dX3_holds_46 : decode cX3_holds 46 = .ok (.irem, 1) := by decide +kernel
theorem dX3_holds_47 : decode cX3_holds 47 = .ok (.ifCond .ne 7, 3) := by decide +kernel
theorem dX3_holds_50 : decode cX3_holds 50 = .ok (.iconst 1, 1) := by decide +kernel
theorem dX3_holds_51 : decode cX3_holds 51 = .ok (.goto 4, 3) := by decide +kernel
theorem dX3_holds_54 : decode cX3_holds 54 = .ok (.iconst 0, 1) := by decide +kernel
theorem dX3_holds_55 : decode cX3_holds 55 = .ok (.if_icmp .ne 7, 3) := by decide +kernel
theorem dX3_holds_58 : decode cX3_holds 58 = .ok (.iconst 1, 1) := by decide +kernel
theorem dX3_holds_59 : decode cX3_holds 59 = .ok (.goto 4, 3) := by decide +kernel
theorem dX3_holds_62 : decode cX3_holds 62 = .ok (.iconst 0, 1) := by decide +kernel
theorem dX3_holds_63 : decode cX3_holds 63 = .ok (.ireturn, 1) := by decide +kernel
theorem dX3_jump_0 : decode cX3_jump 0 = .ok (.aload_n 0, 1) := by decide +kernel
theorem dX3_jump_1 : decode cX3_jump 1 = .ok (.iload_n 1, 1) := by decide +kernel
theorem dX3_jump_2 : decode cX3_jump 2 = .ok (.putfield 92, 3) := by decide +kernel
theorem dX3_jump_5 : decode cX3_jump 5 = .ok (.aload_n 0, 1) := by decide +kernel
theorem dX3_jump_6 : decode cX3_jump 6 = .ok (.iconst 1, 1) := by decide +kernel
theorem dX3_jump_7 : decode cX3_jump 7 = .ok (.putfield 95, 3) := by decide +kernel
theorem dX3_jump_10 : decode cX3_jump 10 = .ok (.iload_n 1, 1) := by decide +kernel
theorem dX3_jump_11 : decode cX3_jump 11 = .ok (.iconst 3, 1) := by decide +kernel
theorem dX3_jump_12 : decode cX3_jump 12 = .ok (.iand, 1) := by decide +kernel
theorem dX3_jump_13 : decode cX3_jump 13 = .ok (.ifCond .ne 7, 3) := by decide +kernel
theorem dX3_jump_16 : decode cX3_jump 16 = .ok (.iconst 0, 1) := by decide +kernel
theorem dX3_jump_17 : decode cX3_jump 17 = .ok (.goto 4, 3) := by decide +kernel
theorem dX3_jump_20 : decode cX3_jump 20 = .ok (.iconst 5, 1) := by decide +kernel
theorem dX3_jump_21 : decode cX3_jump 21 = .ok (.ireturn, 1) := by decide +kernel
set_option maxRecDepth 100000 in
theorem ggX3_loads_X3_f3 : GoodIn wsX3_loads wsX3_f3 := goodIn_r _ [5] rfl (by decide +kernel)
set_option maxRecDepth 100000 in
theorem gX3_loads_X3_f3 : GoodIn wsX3_loads (va_wsS RX3 59 yX3_f3 wsX3_f3) := goodIn_app (goodIn_of _ (by decide +kernel)) ggX3_loads_X3_f3
set_option maxRecDepth 100000 in
theorem ggX3_loads_X3_refusal : GoodIn wsX3_loads wsX3_refusal := goodIn_r _ [8] rfl (by decide +kernel)
set_option maxRecDepth 100000 in
theorem gX3_loads_X3_refusal : GoodIn wsX3_loads (va_wsS RX3 98 yX3_refusal wsX3_refusal) := goodIn_app (goodIn_of _ (by decide +kernel)) ggX3_loads_X3_refusal
set_option maxRecDepth 100000 in
theorem ggX3_loads_X3_load : GoodIn wsX3_loads wsX3_load := goodIn_r _ [12, 13, 14, 15, 16, 17, 18, 19, 20, 21, 22, 23, 24, 25, 26, 27, 28, 29, 30, 31, 32, 33, 34] rfl (by decide +kernel)
set_option maxRecDepth 100000 in
theorem gX3_loads_X3_load : GoodIn wsX3_loads (wsV RX3 102 RX3 yX3_load wsX3_load) := goodIn_app (goodIn_of _ (by decide +kernel)) ggX3_loads_X3_load
theorem dX3_loads_0 : decode cX3_loads 0 = .ok (.iload_n 1, 1) := by decide +kernel
theorem dX3_loads_1 : decode cX3_loads 1 = .ok (.invokestatic 59, 3) := by decide +kernel
theorem dX3_loads_4 : decode cX3_loads 4 = .ok (.istore_n 3, 1) := by decide +kernel
theorem dX3_loads_5 : decode cX3_loads 5 = .ok (.iload_n 3, 1) := by decide +kernel
theorem dX3_loads_6 : decode cX3_loads 6 = .ok (.iconst 4, 1) := by decide +kernel
theorem dX3_loads_7 : decode cX3_loads 7 = .ok (.irem, 1) := by decide +kernel
theorem dX3_loads_8 : decode cX3_loads 8 = .ok (.ifCond .ne 7, 3) := by decide +kernel
theorem dX3_loads_11 : decode cX3_loads 11 = .ok (.iconst 1, 1) := by decide +kernel
theorem dX3_loads_12 : decode cX3_loads 12 = .ok (.goto 15, 3) := by decide +kernel
theorem dX3_loads_15 : decode cX3_loads 15 = .ok (.iload_n 3, 1) := by decide +kernel
theorem dX3_loads_16 : decode cX3_loads 16 = .ok (.iconst 4, 1) := by decide +kernel
theorem dX3_loads_17 : decode cX3_loads 17 = .ok (.irem, 1) := by decide +kernel
theorem dX3_loads_18 : decode cX3_loads 18 = .ok (.iconst 1, 1) := by decide +kernel
theorem dX3_loads_19 : decode cX3_loads 19 = .ok (.if_icmp .ne 7, 3) := by decide +kernel
theorem dX3_loads_22 : decode cX3_loads 22 = .ok (.iconst 2, 1) := by decide +kernel
theorem dX3_loads_23 : decode cX3_loads 23 = .ok (.goto 4, 3) := by decide +kernel
theorem dX3_loads_26 : decode cX3_loads 26 = .ok (.iconst 4, 1) := by decide +kernel
theorem dX3_loads_27 : decode cX3_loads 27 = .ok (.istore 4, 2) := by decide +kernel
theorem dX3_loads_29 : decode cX3_loads 29 = .ok (.iload_n 2, 1) := by decide +kernel
theorem dX3_loads_30 : decode cX3_loads 30 = .ok (.iload_n 1, 1) := by decide +kernel
theorem dX3_loads_31 : decode cX3_loads 31 = .ok (.bipush 20, 2) := by decide +kernel
theorem dX3_loads_33 : decode cX3_loads 33 = .ok (.ishr, 1) := by decide +kernel
theorem dX3_loads_34 : decode cX3_loads 34 = .ok (.iadd, 1) := by decide +kernel
theorem dX3_loads_35 : decode cX3_loads 35 = .ok (.istore 5, 2) := by decide +kernel
theorem dX3_loads_37 : decode cX3_loads 37 = .ok (.iload 5, 2) := by decide +kernel
theorem dX3_loads_39 : decode cX3_loads 39 = .ok (.iload 4, 2) := by decide +kernel
theorem dX3_loads_41 : decode cX3_loads 41 = .ok (.invokestatic 98, 3) := by decide +kernel
theorem dX3_loads_44 : decode cX3_loads 44 = .ok (.istore 6, 2) := by decide +kernel
theorem dX3_loads_46 : decode cX3_loads 46 = .ok (.iload 6, 2) := by decide +kernel
theorem dX3_loads_48 : decode cX3_loads 48 = .ok (.ifCond .le 6, 3) := by decide +kernel
theorem dX3_loads_51 : decode cX3_loads 51 = .ok (.iload 6, 2) := by decide +kernel
theorem dX3_loads_53 : decode cX3_loads 53 = .ok (.ireturn, 1) := by decide +kernel
theorem dX3_loads_54 : decode cX3_loads 54 = .ok (.aload_n 0, 1) := by decide +kernel
theorem dX3_loads_55 : decode cX3_loads 55 = .ok (.aload_n 0, 1) := by decide +kernel
theorem dX3_loads_56 : decode cX3_loads 56 = .ok (.iload 5, 2) := by decide +kernel
theorem dX3_loads_58 : decode cX3_loads 58 = .ok (.iload 4, 2) := by decide +kernel
theorem dX3_loads_60 : decode cX3_loads 60 = .ok (.invokevirtual 102, 3) := by decide +kernel
theorem dX3_loads_63 : decode cX3_loads 63 = .ok (.putfield 105, 3) := by decide +kernel
theorem dX3_loads_66 : decode cX3_loads 66 = .ok (.iload_n 3, 1) := by decide +kernel
theorem dX3_loads_67 : decode cX3_loads 67 = .ok (.ifCond .ne 12, 3) := by decide +kernel
theorem dX3_loads_70 : decode cX3_loads 70 = .ok (.aload_n 0, 1) := by decide +kernel
theorem dX3_loads_71 : decode cX3_loads 71 = .ok (.aload_n 0, 1) := by decide +kernel
theorem dX3_loads_72 : decode cX3_loads 72 = .ok (.getfield 105, 3) := by decide +kernel
theorem dX3_loads_75 : decode cX3_loads 75 = .ok (.i2b, 1) := by decide +kernel
theorem dX3_loads_76 : decode cX3_loads 76 = .ok (.putfield 105, 3) := by decide +kernel
theorem dX3_loads_79 : decode cX3_loads 79 = .ok (.iload_n 3, 1) := by decide +kernel
theorem dX3_loads_80 : decode cX3_loads 80 = .ok (.iconst 1, 1) := by decide +kernel
theorem dX3_loads_81 : decode cX3_loads 81 = .ok (.if_icmp .ne 12, 3) := by decide +kernel
theorem dX3_loads_84 : decode cX3_loads 84 = .ok (.aload_n 0, 1) := by decide +kernel
theorem dX3_loads_85 : decode cX3_loads 85 = .ok (.aload_n 0, 1) := by decide +kernel
theorem dX3_loads_86 : decode cX3_loads 86 = .ok (.getfield 105, 3) := by decide +kernel
theorem dX3_loads_89 : decode cX3_loads 89 = .ok (.i2s, 1) := by decide +kernel
theorem dX3_loads_90 : decode cX3_loads 90 = .ok (.putfield 105, 3) := by decide +kernel
theorem dX3_loads_93 : decode cX3_loads 93 = .ok (.iconst 0, 1) := by decide +kernel
theorem dX3_loads_94 : decode cX3_loads 94 = .ok (.ireturn, 1) := by decide +kernel
set_option maxRecDepth 100000 in
theorem ggX3_stores_X3_f3 : GoodIn wsX3_stores wsX3_f3 := goodIn_r _ [4] rfl (by decide +kernel)
set_option maxRecDepth 100000 in
theorem gX3_stores_X3_f3 : GoodIn wsX3_stores (va_wsS RX3 59 yX3_f3 wsX3_f3) := goodIn_app (goodIn_of _ (by decide +kernel)) ggX3_stores_X3_f3
set_option maxRecDepth 100000 in
theorem ggX3_stores_X3_immediateS : GoodIn wsX3_stores wsX3_immediateS := goodIn_r _ [7] rfl (by decide +kernel)
set_option maxRecDepth 100000 in
theorem gX3_stores_X3_immediateS : GoodIn wsX3_stores (va_wsS RX3 108 yX3_immediateS wsX3_immediateS) := goodIn_app (goodIn_of _ (by decide +kernel)) ggX3_stores_X3_immediateS
set_option maxRecDepth 100000 in
theorem ggX3_stores_X3_refusal : GoodIn wsX3_stores wsX3_refusal := goodIn_r _ [10] rfl (by decide +kernel)
set_option maxRecDepth 100000 in
theorem gX3_stores_X3_refusal : GoodIn wsX3_stores (va_wsS RX3 98 yX3_refusal wsX3_refusal) := goodIn_app (goodIn_of _ (by decide +kernel)) ggX3_stores_X3_refusal
set_option maxRecDepth 100000 in
theorem ggX3_stores_X3_store : GoodIn wsX3_stores wsX3_store := goodIn_r _ [14, 15, 16, 17, 18, 19, 20, 21, 22, 23, 24, 25, 26, 27, 28, 29, 30, 31, 32, 33, 34, 35, 36] rfl (by decide +kernel)
set_option maxRecDepth 100000 in
theorem gX3_stores_X3_store : GoodIn wsX3_stores (wsV RX3 36 RX3 yX3_store wsX3_store) := goodIn_app (goodIn_of _ (by decide +kernel)) ggX3_stores_X3_store
theorem dX3_stores_0 : decode cX3_stores 0 = .ok (.iload_n 1, 1) := by decide +kernel
theorem dX3_stores_1 : decode cX3_stores 1 = .ok (.invokestatic 59, 3) := by decide +kernel
theorem dX3_stores_4 : decode cX3_stores 4 = .ok (.ifCond .ne 7, 3) := by decide +kernel
theorem dX3_stores_7 : decode cX3_stores 7 = .ok (.iconst 1, 1) := by decide +kernel
theorem dX3_stores_8 : decode cX3_stores 8 = .ok (.goto 16, 3) := by decide +kernel
theorem dX3_stores_11 : decode cX3_stores 11 = .ok (.iload_n 1, 1) := by decide +kernel
theorem dX3_stores_12 : decode cX3_stores 12 = .ok (.invokestatic 59, 3) := by decide +kernel
theorem dX3_stores_15 : decode cX3_stores 15 = .ok (.iconst 1, 1) := by decide +kernel
theorem dX3_stores_16 : decode cX3_stores 16 = .ok (.if_icmp .ne 7, 3) := by decide +kernel
theorem dX3_stores_19 : decode cX3_stores 19 = .ok (.iconst 2, 1) := by decide +kernel
theorem dX3_stores_20 : decode cX3_stores 20 = .ok (.goto 4, 3) := by decide +kernel
theorem dX3_stores_23 : decode cX3_stores 23 = .ok (.iconst 4, 1) := by decide +kernel
theorem dX3_stores_24 : decode cX3_stores 24 = .ok (.istore 4, 2) := by decide +kernel
theorem dX3_stores_26 : decode cX3_stores 26 = .ok (.iload_n 2, 1) := by decide +kernel
theorem dX3_stores_27 : decode cX3_stores 27 = .ok (.iload_n 1, 1) := by decide +kernel
theorem dX3_stores_28 : decode cX3_stores 28 = .ok (.invokestatic 108, 3) := by decide +kernel
theorem dX3_stores_31 : decode cX3_stores 31 = .ok (.iadd, 1) := by decide +kernel
theorem dX3_stores_32 : decode cX3_stores 32 = .ok (.istore 5, 2) := by decide +kernel
theorem dX3_stores_34 : decode cX3_stores 34 = .ok (.iload 5, 2) := by decide +kernel
theorem dX3_stores_36 : decode cX3_stores 36 = .ok (.iload 4, 2) := by decide +kernel
theorem dX3_stores_38 : decode cX3_stores 38 = .ok (.invokestatic 98, 3) := by decide +kernel
theorem dX3_stores_41 : decode cX3_stores 41 = .ok (.istore 6, 2) := by decide +kernel
theorem dX3_stores_43 : decode cX3_stores 43 = .ok (.iload 6, 2) := by decide +kernel
theorem dX3_stores_45 : decode cX3_stores 45 = .ok (.ifCond .ne 12, 3) := by decide +kernel
theorem dX3_stores_48 : decode cX3_stores 48 = .ok (.aload_n 0, 1) := by decide +kernel
theorem dX3_stores_49 : decode cX3_stores 49 = .ok (.iload 5, 2) := by decide +kernel
theorem dX3_stores_51 : decode cX3_stores 51 = .ok (.iload 4, 2) := by decide +kernel
theorem dX3_stores_53 : decode cX3_stores 53 = .ok (.iload_n 3, 1) := by decide +kernel
theorem dX3_stores_54 : decode cX3_stores 54 = .ok (.invokevirtual 36, 3) := by decide +kernel
theorem dX3_stores_57 : decode cX3_stores 57 = .ok (.iload 6, 2) := by decide +kernel
theorem dX3_stores_59 : decode cX3_stores 59 = .ok (.ireturn, 1) := by decide +kernel
set_option maxRecDepth 100000 in
theorem ggX3_work_X3_rs1 : GoodIn wsX3_work wsX3_rs1 := goodIn_r _ [8] rfl (by decide +kernel)
set_option maxRecDepth 100000 in
theorem gX3_work_X3_rs1 : GoodIn wsX3_work (va_wsS RX3 80 yX3_rs1 wsX3_rs1) := goodIn_app (goodIn_of _ (by decide +kernel)) ggX3_work_X3_rs1
set_option maxRecDepth 100000 in
theorem ggX3_work_X3_rs2 : GoodIn wsX3_work wsX3_rs2 := goodIn_r _ [11] rfl (by decide +kernel)
set_option maxRecDepth 100000 in
theorem gX3_work_X3_rs2 : GoodIn wsX3_work (va_wsS RX3 83 yX3_rs2 wsX3_rs2) := goodIn_app (goodIn_of _ (by decide +kernel)) ggX3_work_X3_rs2
set_option maxRecDepth 100000 in
theorem ggX3_work_X3_rd : GoodIn wsX3_work wsX3_rd := goodIn_r _ [14] rfl (by decide +kernel)
set_option maxRecDepth 100000 in
theorem gX3_work_X3_rd : GoodIn wsX3_work (va_wsS RX3 111 yX3_rd wsX3_rd) := goodIn_app (goodIn_of _ (by decide +kernel)) ggX3_work_X3_rd
set_option maxRecDepth 100000 in
theorem ggX3_work_X3_opcode : GoodIn wsX3_work wsX3_opcode := goodIn_r _ [17] rfl (by decide +kernel)
set_option maxRecDepth 100000 in
theorem gX3_work_X3_opcode : GoodIn wsX3_work (va_wsS RX3 63 yX3_opcode wsX3_opcode) := goodIn_app (goodIn_of _ (by decide +kernel)) ggX3_work_X3_opcode
set_option maxRecDepth 100000 in
theorem ggX3_work_X3_immediateJ : GoodIn wsX3_work wsX3_immediateJ := goodIn_r _ [20] rfl (by decide +kernel)
set_option maxRecDepth 100000 in
theorem gX3_work_X3_immediateJ : GoodIn wsX3_work (va_wsS RX3 117 yX3_immediateJ wsX3_immediateJ) := goodIn_app (goodIn_of _ (by decide +kernel)) ggX3_work_X3_immediateJ
set_option maxRecDepth 100000 in
theorem ggX3_work_X3_jump : GoodIn wsX3_work wsX3_jump := goodIn_r _ [24, 25, 26, 69, 70, 71, 72, 73, 74, 75, 76, 77, 78, 79, 80, 81, 82, 83, 84, 85, 86, 87, 88, 89] rfl (by decide +kernel)
set_option maxRecDepth 100000 in
theorem gX3_work_X3_jump : GoodIn wsX3_work (wsV RX3 120 RX3 yX3_jump wsX3_jump) := goodIn_app (goodIn_of _ (by decide +kernel)) ggX3_work_X3_jump
set_option maxRecDepth 100000 in
theorem ggX3_work_X3_f3 : GoodIn wsX3_work wsX3_f3 := goodIn_r _ [29] rfl (by decide +kernel)
set_option maxRecDepth 100000 in
theorem gX3_work_X3_f3 : GoodIn wsX3_work (va_wsS RX3 59 yX3_f3 wsX3_f3) := goodIn_app (goodIn_of _ (by decide +kernel)) ggX3_work_X3_f3
set_option maxRecDepth 100000 in
theorem ggX3_work_X3_holds : GoodIn wsX3_work wsX3_holds := goodIn_r _ [32, 33, 34, 7, 35, 36] rfl (by decide +kernel)
set_option maxRecDepth 100000 in
theorem gX3_work_X3_holds : GoodIn wsX3_work (va_wsS RX3 123 yX3_holds wsX3_holds) := goodIn_app (goodIn_of _ (by decide +kernel)) ggX3_work_X3_holds
set_option maxRecDepth 100000 in
theorem ggX3_work_X3_immediateB : GoodIn wsX3_work wsX3_immediateB := goodIn_r _ [39] rfl (by decide +kernel)
set_option maxRecDepth 100000 in
theorem gX3_work_X3_immediateB : GoodIn wsX3_work (va_wsS RX3 127 yX3_immediateB wsX3_immediateB) := goodIn_app (goodIn_of _ (by decide +kernel)) ggX3_work_X3_immediateB
set_option maxRecDepth 100000 in
theorem ggX3_work_X3_loads : GoodIn wsX3_work wsX3_loads := goodIn_r _ [43, 3, 27, 28, 7, 29, 44, 45, 46, 47, 48, 49, 50, 51, 69, 70, 71, 72, 73, 74, 75, 76, 77, 78, 79, 80, 81, 82, 83, 84, 85, 86, 87, 88, 89] rfl (by decide +kernel)
set_option maxRecDepth 100000 in
theorem gX3_work_X3_loads : GoodIn wsX3_work (wsV RX3 130 RX3 yX3_loads wsX3_loads) := goodIn_app (goodIn_of _ (by decide +kernel)) ggX3_work_X3_loads
set_option maxRecDepth 100000 in
theorem ggX3_work_X3_stores : GoodIn wsX3_work wsX3_stores := goodIn_r _ [55, 27, 28, 7, 29, 56, 57, 58, 44, 45, 46, 59, 60, 61, 62, 51, 69, 70, 71, 72, 73, 74, 75, 76, 77, 78, 79, 80, 81, 82, 83, 84, 85, 86, 87, 88, 89] rfl (by decide +kernel)
set_option maxRecDepth 100000 in
theorem gX3_work_X3_stores : GoodIn wsX3_work (wsV RX3 133 RX3 yX3_stores wsX3_stores) := goodIn_app (goodIn_of _ (by decide +kernel)) ggX3_work_X3_stores
set_option maxRecDepth 100000 in
theorem ggX3_work_X3_f7 : GoodIn wsX3_work wsX3_f7 := goodIn_r _ [65] rfl (by decide +kernel)
set_option maxRecDepth 100000 in
theorem gX3_work_X3_f7 : GoodIn wsX3_work (va_wsS RX3 66 yX3_f7 wsX3_f7) := goodIn_app (goodIn_of _ (by decide +kernel)) ggX3_work_X3_f7
set_option maxRecDepth 100000 in
theorem ggX3_work_X3_reckon : GoodIn wsX3_work wsX3_reckon := goodIn_r _ [68, 33, 34, 7, 35, 36] rfl (by decide +kernel)
set_option maxRecDepth 100000 in
theorem gX3_work_X3_reckon : GoodIn wsX3_work (va_wsS RX3 137 yX3_reckon wsX3_reckon) := goodIn_app (goodIn_of _ (by decide +kernel)) ggX3_work_X3_reckon
theorem dX3_work_0 : decode cX3_work 0 = .ok (.aload_n 0, 1) := by decide +kernel
theorem dX3_work_1 : decode cX3_work 1 = .ok (.getfield 20, 3) := by decide +kernel
theorem dX3_work_4 : decode cX3_work 4 = .ok (.iload_n 1, 1) := by decide +kernel
theorem dX3_work_5 : decode cX3_work 5 = .ok (.invokestatic 80, 3) := by decide +kernel
theorem dX3_work_8 : decode cX3_work 8 = .ok (.iaload, 1) := by decide +kernel
theorem dX3_work_9 : decode cX3_work 9 = .ok (.istore_n 2, 1) := by decide +kernel
theorem dX3_work_10 : decode cX3_work 10 = .ok (.aload_n 0, 1) := by decide +kernel
theorem dX3_work_11 : decode cX3_work 11 = .ok (.getfield 20, 3) := by decide +kernel
theorem dX3_work_14 : decode cX3_work 14 = .ok (.iload_n 1, 1) := by decide +kernel
theorem dX3_work_15 : decode cX3_work 15 = .ok (.invokestatic 83, 3) := by decide +kernel
theorem dX3_work_18 : decode cX3_work 18 = .ok (.iaload, 1) := by decide +kernel
theorem dX3_work_19 : decode cX3_work 19 = .ok (.istore_n 3, 1) := by decide +kernel
theorem dX3_work_20 : decode cX3_work 20 = .ok (.aload_n 0, 1) := by decide +kernel
theorem dX3_work_21 : decode cX3_work 21 = .ok (.iload_n 1, 1) := by decide +kernel
theorem dX3_work_22 : decode cX3_work 22 = .ok (.invokestatic 111, 3) := by decide +kernel
theorem dX3_work_25 : decode cX3_work 25 = .ok (.putfield 114, 3) := by decide +kernel
theorem dX3_work_28 : decode cX3_work 28 = .ok (.iload_n 1, 1) := by decide +kernel
theorem dX3_work_29 : decode cX3_work 29 = .ok (.invokestatic 63, 3) := by decide +kernel
theorem dX3_work_32 : decode cX3_work 32 = .ok (.lookupswitch 298 #[(3, 202), (15, 291), (19, 222), (23, 103), (35, 209), (51, 262), (55, 92), (99, 167), (103, 143), (111, 119)], 92) := by decide +kernel
theorem dX3_work_124 : decode cX3_work 124 = .ok (.aload_n 0, 1) := by decide +kernel
theorem dX3_work_125 : decode cX3_work 125 = .ok (.iload_n 1, 1) := by decide +kernel
theorem dX3_work_126 : decode cX3_work 126 = .ok (.sipush (-4096), 3) := by decide +kernel
theorem dX3_work_129 : decode cX3_work 129 = .ok (.iand, 1) := by decide +kernel
theorem dX3_work_130 : decode cX3_work 130 = .ok (.putfield 105, 3) := by decide +kernel
theorem dX3_work_133 : decode cX3_work 133 = .ok (.iconst 0, 1) := by decide +kernel
theorem dX3_work_134 : decode cX3_work 134 = .ok (.ireturn, 1) := by decide +kernel
theorem dX3_work_135 : decode cX3_work 135 = .ok (.aload_n 0, 1) := by decide +kernel
theorem dX3_work_136 : decode cX3_work 136 = .ok (.aload_n 0, 1) := by decide +kernel
theorem dX3_work_137 : decode cX3_work 137 = .ok (.getfield 49, 3) := by decide +kernel
theorem dX3_work_140 : decode cX3_work 140 = .ok (.iload_n 1, 1) := by decide +kernel
theorem dX3_work_141 : decode cX3_work 141 = .ok (.sipush (-4096), 3) := by decide +kernel
theorem dX3_work_144 : decode cX3_work 144 = .ok (.iand, 1) := by decide +kernel
theorem dX3_work_145 : decode cX3_work 145 = .ok (.iadd, 1) := by decide +kernel
theorem dX3_work_146 : decode cX3_work 146 = .ok (.putfield 105, 3) := by decide +kernel
theorem dX3_work_149 : decode cX3_work 149 = .ok (.iconst 0, 1) := by decide +kernel
theorem dX3_work_150 : decode cX3_work 150 = .ok (.ireturn, 1) := by decide +kernel
theorem dX3_work_151 : decode cX3_work 151 = .ok (.aload_n 0, 1) := by decide +kernel
theorem dX3_work_152 : decode cX3_work 152 = .ok (.aload_n 0, 1) := by decide +kernel
theorem dX3_work_153 : decode cX3_work 153 = .ok (.getfield 49, 3) := by decide +kernel
theorem dX3_work_156 : decode cX3_work 156 = .ok (.iconst 4, 1) := by decide +kernel
theorem dX3_work_157 : decode cX3_work 157 = .ok (.iadd, 1) := by decide +kernel
theorem dX3_work_158 : decode cX3_work 158 = .ok (.putfield 105, 3) := by decide +kernel
theorem dX3_work_161 : decode cX3_work 161 = .ok (.aload_n 0, 1) := by decide +kernel
theorem dX3_work_162 : decode cX3_work 162 = .ok (.aload_n 0, 1) := by decide +kernel
theorem dX3_work_163 : decode cX3_work 163 = .ok (.getfield 49, 3) := by decide +kernel
theorem dX3_work_166 : decode cX3_work 166 = .ok (.iload_n 1, 1) := by decide +kernel
theorem dX3_work_167 : decode cX3_work 167 = .ok (.invokestatic 117, 3) := by decide +kernel
theorem dX3_work_170 : decode cX3_work 170 = .ok (.iadd, 1) := by decide +kernel
theorem dX3_work_171 : decode cX3_work 171 = .ok (.invokevirtual 120, 3) := by decide +kernel
theorem dX3_work_174 : decode cX3_work 174 = .ok (.ireturn, 1) := by decide +kernel
theorem dX3_work_175 : decode cX3_work 175 = .ok (.aload_n 0, 1) := by decide +kernel
theorem dX3_work_176 : decode cX3_work 176 = .ok (.aload_n 0, 1) := by decide +kernel
theorem dX3_work_177 : decode cX3_work 177 = .ok (.getfield 49, 3) := by decide +kernel
theorem dX3_work_180 : decode cX3_work 180 = .ok (.iconst 4, 1) := by decide +kernel
theorem dX3_work_181 : decode cX3_work 181 = .ok (.iadd, 1) := by decide +kernel
theorem dX3_work_182 : decode cX3_work 182 = .ok (.putfield 105, 3) := by decide +kernel
theorem dX3_work_185 : decode cX3_work 185 = .ok (.aload_n 0, 1) := by decide +kernel
theorem dX3_work_186 : decode cX3_work 186 = .ok (.iload_n 2, 1) := by decide +kernel
theorem dX3_work_187 : decode cX3_work 187 = .ok (.iload_n 1, 1) := by decide +kernel
theorem dX3_work_188 : decode cX3_work 188 = .ok (.bipush 20, 2) := by decide +kernel
theorem dX3_work_190 : decode cX3_work 190 = .ok (.ishr, 1) := by decide +kernel
theorem dX3_work_191 : decode cX3_work 191 = .ok (.iadd, 1) := by decide +kernel
theorem dX3_work_192 : decode cX3_work 192 = .ok (.bipush (-2), 2) := by decide +kernel
theorem dX3_work_194 : decode cX3_work 194 = .ok (.iand, 1) := by decide +kernel
theorem dX3_work_195 : decode cX3_work 195 = .ok (.invokevirtual 120, 3) := by decide +kernel
theorem dX3_work_198 : decode cX3_work 198 = .ok (.ireturn, 1) := by decide +kernel
theorem dX3_work_199 : decode cX3_work 199 = .ok (.aload_n 0, 1) := by decide +kernel
theorem dX3_work_200 : decode cX3_work 200 = .ok (.iconst 0, 1) := by decide +kernel
theorem dX3_work_201 : decode cX3_work 201 = .ok (.putfield 114, 3) := by decide +kernel
theorem dX3_work_204 : decode cX3_work 204 = .ok (.iload_n 1, 1) := by decide +kernel
theorem dX3_work_205 : decode cX3_work 205 = .ok (.invokestatic 59, 3) := by decide +kernel
theorem dX3_work_208 : decode cX3_work 208 = .ok (.iload_n 2, 1) := by decide +kernel
theorem dX3_work_209 : decode cX3_work 209 = .ok (.iload_n 3, 1) := by decide +kernel
theorem dX3_work_210 : decode cX3_work 210 = .ok (.invokestatic 123, 3) := by decide +kernel
theorem dX3_work_213 : decode cX3_work 213 = .ok (.ifCond .eq 19, 3) := by decide +kernel
theorem dX3_work_216 : decode cX3_work 216 = .ok (.aload_n 0, 1) := by decide +kernel
theorem dX3_work_217 : decode cX3_work 217 = .ok (.aload_n 0, 1) := by decide +kernel
theorem dX3_work_218 : decode cX3_work 218 = .ok (.getfield 49, 3) := by decide +kernel
theorem dX3_work_221 : decode cX3_work 221 = .ok (.iload_n 1, 1) := by decide +kernel
theorem dX3_work_222 : decode cX3_work 222 = .ok (.invokestatic 127, 3) := by decide +kernel
theorem dX3_work_225 : decode cX3_work 225 = .ok (.iadd, 1) := by decide +kernel
theorem dX3_work_226 : decode cX3_work 226 = .ok (.invokevirtual 120, 3) := by decide +kernel
theorem dX3_work_229 : decode cX3_work 229 = .ok (.goto 4, 3) := by decide +kernel
theorem dX3_work_232 : decode cX3_work 232 = .ok (.iconst 0, 1) := by decide +kernel
theorem dX3_work_233 : decode cX3_work 233 = .ok (.ireturn, 1) := by decide +kernel
theorem dX3_work_234 : decode cX3_work 234 = .ok (.aload_n 0, 1) := by decide +kernel
theorem dX3_work_235 : decode cX3_work 235 = .ok (.iload_n 1, 1) := by decide +kernel
theorem dX3_work_236 : decode cX3_work 236 = .ok (.iload_n 2, 1) := by decide +kernel
theorem dX3_work_237 : decode cX3_work 237 = .ok (.invokevirtual 130, 3) := by decide +kernel
theorem dX3_work_240 : decode cX3_work 240 = .ok (.ireturn, 1) := by decide +kernel
theorem dX3_work_241 : decode cX3_work 241 = .ok (.aload_n 0, 1) := by decide +kernel
theorem dX3_work_242 : decode cX3_work 242 = .ok (.iconst 0, 1) := by decide +kernel
theorem dX3_work_243 : decode cX3_work 243 = .ok (.putfield 114, 3) := by decide +kernel
theorem dX3_work_246 : decode cX3_work 246 = .ok (.aload_n 0, 1) := by decide +kernel
theorem dX3_work_247 : decode cX3_work 247 = .ok (.iload_n 1, 1) := by decide +kernel
theorem dX3_work_248 : decode cX3_work 248 = .ok (.iload_n 2, 1) := by decide +kernel
theorem dX3_work_249 : decode cX3_work 249 = .ok (.iload_n 3, 1) := by decide +kernel
theorem dX3_work_250 : decode cX3_work 250 = .ok (.invokevirtual 133, 3) := by decide +kernel
theorem dX3_work_253 : decode cX3_work 253 = .ok (.ireturn, 1) := by decide +kernel
theorem dX3_work_254 : decode cX3_work 254 = .ok (.aload_n 0, 1) := by decide +kernel
theorem dX3_work_255 : decode cX3_work 255 = .ok (.iload_n 1, 1) := by decide +kernel
theorem dX3_work_256 : decode cX3_work 256 = .ok (.invokestatic 59, 3) := by decide +kernel
theorem dX3_work_259 : decode cX3_work 259 = .ok (.iload_n 1, 1) := by decide +kernel
theorem dX3_work_260 : decode cX3_work 260 = .ok (.invokestatic 59, 3) := by decide +kernel
theorem dX3_work_263 : decode cX3_work 263 = .ok (.iconst 5, 1) := by decide +kernel
theorem dX3_work_264 : decode cX3_work 264 = .ok (.if_icmp .ne 16, 3) := by decide +kernel
theorem dX3_work_267 : decode cX3_work 267 = .ok (.iload_n 1, 1) := by decide +kernel
theorem dX3_work_268 : decode cX3_work 268 = .ok (.invokestatic 66, 3) := by decide +kernel
theorem dX3_work_271 : decode cX3_work 271 = .ok (.bipush 32, 2) := by decide +kernel
theorem dX3_work_273 : decode cX3_work 273 = .ok (.if_icmp .ne 7, 3) := by decide +kernel
theorem dX3_work_276 : decode cX3_work 276 = .ok (.iconst 1, 1) := by decide +kernel
theorem dX3_work_277 : decode cX3_work 277 = .ok (.goto 4, 3) := by decide +kernel
theorem dX3_work_280 : decode cX3_work 280 = .ok (.iconst 0, 1) := by decide +kernel
theorem dX3_work_281 : decode cX3_work 281 = .ok (.iload_n 2, 1) := by decide +kernel
theorem dX3_work_282 : decode cX3_work 282 = .ok (.iload_n 1, 1) := by decide +kernel
theorem dX3_work_283 : decode cX3_work 283 = .ok (.bipush 20, 2) := by decide +kernel
theorem dX3_work_285 : decode cX3_work 285 = .ok (.ishr, 1) := by decide +kernel
theorem dX3_work_286 : decode cX3_work 286 = .ok (.invokestatic 137, 3) := by decide +kernel
theorem dX3_work_289 : decode cX3_work 289 = .ok (.putfield 105, 3) := by decide +kernel
theorem dX3_work_292 : decode cX3_work 292 = .ok (.iconst 0, 1) := by decide +kernel
theorem dX3_work_293 : decode cX3_work 293 = .ok (.ireturn, 1) := by decide +kernel
theorem dX3_work_294 : decode cX3_work 294 = .ok (.aload_n 0, 1) := by decide +kernel
theorem dX3_work_295 : decode cX3_work 295 = .ok (.iload_n 1, 1) := by decide +kernel
theorem dX3_work_296 : decode cX3_work 296 = .ok (.invokestatic 59, 3) := by decide +kernel
theorem dX3_work_299 : decode cX3_work 299 = .ok (.iload_n 1, 1) := by decide +kernel
theorem dX3_work_300 : decode cX3_work 300 = .ok (.invokestatic 66, 3) := by decide +kernel
theorem dX3_work_303 : decode cX3_work 303 = .ok (.bipush 32, 2) := by decide +kernel
theorem dX3_work_305 : decode cX3_work 305 = .ok (.if_icmp .ne 7, 3) := by decide +kernel
theorem dX3_work_308 : decode cX3_work 308 = .ok (.iconst 1, 1) := by decide +kernel
theorem dX3_work_309 : decode cX3_work 309 = .ok (.goto 4, 3) := by decide +kernel
theorem dX3_work_312 : decode cX3_work 312 = .ok (.iconst 0, 1) := by decide +kernel
theorem dX3_work_313 : decode cX3_work 313 = .ok (.iload_n 2, 1) := by decide +kernel
theorem dX3_work_314 : decode cX3_work 314 = .ok (.iload_n 3, 1) := by decide +kernel
theorem dX3_work_315 : decode cX3_work 315 = .ok (.invokestatic 137, 3) := by decide +kernel
theorem dX3_work_318 : decode cX3_work 318 = .ok (.putfield 105, 3) := by decide +kernel
theorem dX3_work_321 : decode cX3_work 321 = .ok (.iconst 0, 1) := by decide +kernel
theorem dX3_work_322 : decode cX3_work 322 = .ok (.ireturn, 1) := by decide +kernel
theorem dX3_work_323 : decode cX3_work 323 = .ok (.aload_n 0, 1) := by decide +kernel
theorem dX3_work_324 : decode cX3_work 324 = .ok (.iconst 0, 1) := by decide +kernel
theorem dX3_work_325 : decode cX3_work 325 = .ok (.putfield 114, 3) := by decide +kernel
theorem dX3_work_328 : decode cX3_work 328 = .ok (.iconst 0, 1) := by decide +kernel
theorem dX3_work_329 : decode cX3_work 329 = .ok (.ireturn, 1) := by decide +kernel
theorem dX3_work_330 : decode cX3_work 330 = .ok (.iload_n 1, 1) := by decide +kernel
theorem dX3_work_331 : decode cX3_work 331 = .ok (.bipush 115, 2) := by decide +kernel
theorem dX3_work_333 : decode cX3_work 333 = .ok (.if_icmp .ne 7, 3) := by decide +kernel
theorem dX3_work_336 : decode cX3_work 336 = .ok (.iconst 1, 1) := by decide +kernel
theorem dX3_work_337 : decode cX3_work 337 = .ok (.goto 4, 3) := by decide +kernel
theorem dX3_work_340 : decode cX3_work 340 = .ok (.iconst 2, 1) := by decide +kernel
theorem dX3_work_341 : decode cX3_work 341 = .ok (.ireturn, 1) := by decide +kernel
set_option maxRecDepth 100000 in
theorem ggX3_step_X3_isBeyond : GoodIn wsX3_step wsX3_isBeyond := goodIn_r _ [15] rfl (by decide +kernel)
set_option maxRecDepth 100000 in
theorem gX3_step_X3_isBeyond : GoodIn wsX3_step (va_wsS RX3 70 yX3_isBeyond wsX3_isBeyond) := goodIn_app (goodIn_of _ (by decide +kernel)) ggX3_step_X3_isBeyond
set_option maxRecDepth 100000 in
theorem ggX3_step_X3_wordAt : GoodIn wsX3_step wsX3_wordAt := goodIn_r _ [19, 20, 94, 95, 96, 97, 98, 99, 100, 101, 102, 103, 104, 105, 106, 107, 108, 109, 110, 111, 112, 113, 114] rfl (by decide +kernel)
set_option maxRecDepth 100000 in
theorem gX3_step_X3_wordAt : GoodIn wsX3_step (wsV RX3 74 RX3 yX3_wordAt wsX3_wordAt) := goodIn_app (goodIn_of _ (by decide +kernel)) ggX3_step_X3_wordAt
set_option maxRecDepth 100000 in
theorem ggX3_step_X3_isLegal : GoodIn wsX3_step wsX3_isLegal := goodIn_r _ [23, 24, 25, 26, 14, 27, 28, 29, 30, 31, 32, 33] rfl (by decide +kernel)
set_option maxRecDepth 100000 in
theorem gX3_step_X3_isLegal : GoodIn wsX3_step (va_wsS RX3 77 yX3_isLegal wsX3_isLegal) := goodIn_app (goodIn_of _ (by decide +kernel)) ggX3_step_X3_isLegal
set_option maxRecDepth 100000 in
theorem ggX3_step_X3_work : GoodIn wsX3_step wsX3_work := goodIn_r _ [37, 9, 8, 10, 1, 38, 39, 14, 40, 41, 42, 43, 44, 45, 46, 28, 29, 30, 47, 48, 49, 50, 51, 52, 53, 2, 3, 25, 26, 27, 54, 55, 56, 57, 58, 59, 60, 61, 62, 63, 64, 65, 66, 67, 68, 69, 70, 71, 72, 73, 74, 75, 76, 77, 78, 79, 80, 81, 82, 83, 84, 85, 86, 31, 32, 33, 87, 88, 89, 94, 95, 96, 97, 98, 99, 100, 101, 102, 103, 104, 105, 106, 107, 108, 109, 110, 111, 112, 113, 114] rfl (by decide +kernel)
set_option maxRecDepth 100000 in
theorem gX3_step_X3_work : GoodIn wsX3_step (wsV RX3 144 RX3 yX3_work wsX3_work) := goodIn_app (goodIn_of _ (by decide +kernel)) ggX3_step_X3_work
set_option maxRecDepth 100000 in
theorem ggX3_step_X3_opcode : GoodIn wsX3_step wsX3_opcode := goodIn_r _ [30] rfl (by decide +kernel)
set_option maxRecDepth 100000 in
theorem gX3_step_X3_opcode : GoodIn wsX3_step (va_wsS RX3 63 yX3_opcode wsX3_opcode) := goodIn_app (goodIn_of _ (by decide +kernel)) ggX3_step_X3_opcode
set_option maxRecDepth 100000 in
theorem ggX3_step_X3_reads : GoodIn wsX3_step wsX3_reads := goodIn_r _ [93, 12, 13, 14, 15, 16, 17, 18, 19, 20, 21, 22, 23, 24, 25, 26, 27, 28, 29, 30, 31, 32, 33, 38, 39, 40, 41, 42, 43, 94, 95, 96, 97, 98, 99, 100, 101, 102, 103, 104, 105, 106, 107, 108, 109, 110, 111, 112, 113, 114] rfl (by decide +kernel)
set_option maxRecDepth 100000 in
theorem gX3_step_X3_reads : GoodIn wsX3_step (wsV RX3 150 RX3 yX3_reads wsX3_reads) := goodIn_app (goodIn_of _ (by decide +kernel)) ggX3_step_X3_reads
theorem dX3_step_0 : decode cX3_step 0 = .ok (.aload_n 0, 1) := by decide +kernel
theorem dX3_step_1 : decode cX3_step 1 = .ok (.aload_n 0, 1) := by decide +kernel
theorem dX3_step_2 : decode cX3_step 2 = .ok (.getfield 49, 3) := by decide +kernel
theorem dX3_step_5 : decode cX3_step 5 = .ok (.iconst 4, 1) := by decide +kernel
theorem dX3_step_6 : decode cX3_step 6 = .ok (.iadd, 1) := by decide +kernel
theorem dX3_step_7 : decode cX3_step 7 = .ok (.putfield 92, 3) := by decide +kernel
theorem dX3_step_10 : decode cX3_step 10 = .ok (.aload_n 0, 1) := by decide +kernel
theorem dX3_step_11 : decode cX3_step 11 = .ok (.iconst 0, 1) := by decide +kernel
theorem dX3_step_12 : decode cX3_step 12 = .ok (.putfield 95, 3) := by decide +kernel
theorem dX3_step_15 : decode cX3_step 15 = .ok (.aload_n 0, 1) := by decide +kernel
theorem dX3_step_16 : decode cX3_step 16 = .ok (.iconst 1, 1) := by decide +kernel
theorem dX3_step_17 : decode cX3_step 17 = .ok (.putfield 56, 3) := by decide +kernel
theorem dX3_step_20 : decode cX3_step 20 = .ok (.aload_n 0, 1) := by decide +kernel
theorem dX3_step_21 : decode cX3_step 21 = .ok (.aload_n 0, 1) := by decide +kernel
theorem dX3_step_22 : decode cX3_step 22 = .ok (.getfield 49, 3) := by decide +kernel
theorem dX3_step_25 : decode cX3_step 25 = .ok (.putfield 141, 3) := by decide +kernel
theorem dX3_step_28 : decode cX3_step 28 = .ok (.aload_n 0, 1) := by decide +kernel
theorem dX3_step_29 : decode cX3_step 29 = .ok (.aload_n 0, 1) := by decide +kernel
theorem dX3_step_30 : decode cX3_step 30 = .ok (.getfield 49, 3) := by decide +kernel
theorem dX3_step_33 : decode cX3_step 33 = .ok (.invokestatic 70, 3) := by decide +kernel
theorem dX3_step_36 : decode cX3_step 36 = .ok (.ifCond .eq 7, 3) := by decide +kernel
theorem dX3_step_39 : decode cX3_step 39 = .ok (.iconst 4, 1) := by decide +kernel
theorem dX3_step_40 : decode cX3_step 40 = .ok (.goto 33, 3) := by decide +kernel
theorem dX3_step_43 : decode cX3_step 43 = .ok (.aload_n 0, 1) := by decide +kernel
theorem dX3_step_44 : decode cX3_step 44 = .ok (.aload_n 0, 1) := by decide +kernel
theorem dX3_step_45 : decode cX3_step 45 = .ok (.getfield 49, 3) := by decide +kernel
theorem dX3_step_48 : decode cX3_step 48 = .ok (.invokevirtual 74, 3) := by decide +kernel
theorem dX3_step_51 : decode cX3_step 51 = .ok (.invokestatic 77, 3) := by decide +kernel
theorem dX3_step_54 : decode cX3_step 54 = .ok (.ifCond .ne 7, 3) := by decide +kernel
theorem dX3_step_57 : decode cX3_step 57 = .ok (.iconst 3, 1) := by decide +kernel
theorem dX3_step_58 : decode cX3_step 58 = .ok (.goto 15, 3) := by decide +kernel
theorem dX3_step_61 : decode cX3_step 61 = .ok (.aload_n 0, 1) := by decide +kernel
theorem dX3_step_62 : decode cX3_step 62 = .ok (.aload_n 0, 1) := by decide +kernel
theorem dX3_step_63 : decode cX3_step 63 = .ok (.aload_n 0, 1) := by decide +kernel
theorem dX3_step_64 : decode cX3_step 64 = .ok (.getfield 49, 3) := by decide +kernel
theorem dX3_step_67 : decode cX3_step 67 = .ok (.invokevirtual 74, 3) := by decide +kernel
theorem dX3_step_70 : decode cX3_step 70 = .ok (.invokevirtual 144, 3) := by decide +kernel
theorem dX3_step_73 : decode cX3_step 73 = .ok (.putfield 147, 3) := by decide +kernel
theorem dX3_step_76 : decode cX3_step 76 = .ok (.aload_n 0, 1) := by decide +kernel
theorem dX3_step_77 : decode cX3_step 77 = .ok (.getfield 147, 3) := by decide +kernel
theorem dX3_step_80 : decode cX3_step 80 = .ok (.ifCond .le 9, 3) := by decide +kernel
theorem dX3_step_83 : decode cX3_step 83 = .ok (.aload_n 0, 1) := by decide +kernel
theorem dX3_step_84 : decode cX3_step 84 = .ok (.iconst 1, 1) := by decide +kernel
theorem dX3_step_85 : decode cX3_step 85 = .ok (.putfield 52, 3) := by decide +kernel
theorem dX3_step_88 : decode cX3_step 88 = .ok (.return_, 1) := by decide +kernel
theorem dX3_step_89 : decode cX3_step 89 = .ok (.aload_n 0, 1) := by decide +kernel
theorem dX3_step_90 : decode cX3_step 90 = .ok (.getfield 114, 3) := by decide +kernel
theorem dX3_step_93 : decode cX3_step 93 = .ok (.ifCond .le 16, 3) := by decide +kernel
theorem dX3_step_96 : decode cX3_step 96 = .ok (.aload_n 0, 1) := by decide +kernel
theorem dX3_step_97 : decode cX3_step 97 = .ok (.getfield 20, 3) := by decide +kernel
theorem dX3_step_100 : decode cX3_step 100 = .ok (.aload_n 0, 1) := by decide +kernel
theorem dX3_step_101 : decode cX3_step 101 = .ok (.getfield 114, 3) := by decide +kernel
theorem dX3_step_104 : decode cX3_step 104 = .ok (.aload_n 0, 1) := by decide +kernel
theorem dX3_step_105 : decode cX3_step 105 = .ok (.getfield 105, 3) := by decide +kernel
theorem dX3_step_108 : decode cX3_step 108 = .ok (.iastore, 1) := by decide +kernel
theorem dX3_step_109 : decode cX3_step 109 = .ok (.aload_n 0, 1) := by decide +kernel
theorem dX3_step_110 : decode cX3_step 110 = .ok (.aload_n 0, 1) := by decide +kernel
theorem dX3_step_111 : decode cX3_step 111 = .ok (.getfield 49, 3) := by decide +kernel
theorem dX3_step_114 : decode cX3_step 114 = .ok (.invokevirtual 74, 3) := by decide +kernel
theorem dX3_step_117 : decode cX3_step 117 = .ok (.invokestatic 63, 3) := by decide +kernel
theorem dX3_step_120 : decode cX3_step 120 = .ok (.iconst 3, 1) := by decide +kernel
theorem dX3_step_121 : decode cX3_step 121 = .ok (.if_icmp .ne 29, 3) := by decide +kernel
theorem dX3_step_124 : decode cX3_step 124 = .ok (.aload_n 0, 1) := by decide +kernel
theorem dX3_step_125 : decode cX3_step 125 = .ok (.getfield 114, 3) := by decide +kernel
theorem dX3_step_128 : decode cX3_step 128 = .ok (.ifCond .le 22, 3) := by decide +kernel
theorem dX3_step_131 : decode cX3_step 131 = .ok (.aload_n 0, 1) := by decide +kernel
theorem dX3_step_132 : decode cX3_step 132 = .ok (.aload_n 0, 1) := by decide +kernel
theorem dX3_step_133 : decode cX3_step 133 = .ok (.getfield 92, 3) := by decide +kernel
theorem dX3_step_136 : decode cX3_step 136 = .ok (.aload_n 0, 1) := by decide +kernel
theorem dX3_step_137 : decode cX3_step 137 = .ok (.getfield 114, 3) := by decide +kernel
theorem dX3_step_140 : decode cX3_step 140 = .ok (.invokevirtual 150, 3) := by decide +kernel
theorem dX3_step_143 : decode cX3_step 143 = .ok (.ifCond .eq 7, 3) := by decide +kernel
theorem dX3_step_146 : decode cX3_step 146 = .ok (.iconst 1, 1) := by decide +kernel
theorem dX3_step_147 : decode cX3_step 147 = .ok (.goto 4, 3) := by decide +kernel
theorem dX3_step_150 : decode cX3_step 150 = .ok (.iconst 0, 1) := by decide +kernel
theorem dX3_step_151 : decode cX3_step 151 = .ok (.istore_n 1, 1) := by decide +kernel
theorem dX3_step_152 : decode cX3_step 152 = .ok (.aload_n 0, 1) := by decide +kernel
theorem dX3_step_153 : decode cX3_step 153 = .ok (.dup, 1) := by decide +kernel
theorem dX3_step_154 : decode cX3_step 154 = .ok (.getfield 27, 3) := by decide +kernel
theorem dX3_step_157 : decode cX3_step 157 = .ok (.aload_n 0, 1) := by decide +kernel
theorem dX3_step_158 : decode cX3_step 158 = .ok (.getfield 95, 3) := by decide +kernel
theorem dX3_step_161 : decode cX3_step 161 = .ok (.ifCond .eq 7, 3) := by decide +kernel
theorem dX3_step_164 : decode cX3_step 164 = .ok (.iconst 3, 1) := by decide +kernel
theorem dX3_step_165 : decode cX3_step 165 = .ok (.goto 12, 3) := by decide +kernel
theorem dX3_step_168 : decode cX3_step 168 = .ok (.iload_n 1, 1) := by decide +kernel
theorem dX3_step_169 : decode cX3_step 169 = .ok (.ifCond .eq 7, 3) := by decide +kernel
theorem dX3_step_172 : decode cX3_step 172 = .ok (.iconst 2, 1) := by decide +kernel
theorem dX3_step_173 : decode cX3_step 173 = .ok (.goto 4, 3) := by decide +kernel
theorem dX3_step_176 : decode cX3_step 176 = .ok (.iconst 1, 1) := by decide +kernel
theorem dX3_step_177 : decode cX3_step 177 = .ok (.iadd, 1) := by decide +kernel
theorem dX3_step_178 : decode cX3_step 178 = .ok (.putfield 27, 3) := by decide +kernel
theorem dX3_step_181 : decode cX3_step 181 = .ok (.aload_n 0, 1) := by decide +kernel
theorem dX3_step_182 : decode cX3_step 182 = .ok (.aload_n 0, 1) := by decide +kernel
theorem dX3_step_183 : decode cX3_step 183 = .ok (.getfield 92, 3) := by decide +kernel
theorem dX3_step_186 : decode cX3_step 186 = .ok (.putfield 49, 3) := by decide +kernel
theorem dX3_step_189 : decode cX3_step 189 = .ok (.return_, 1) := by decide +kernel
theorem dX3_write_0 : decode cX3_write 0 = .ok (.aload_n 0, 1) := by decide +kernel
theorem dX3_write_1 : decode cX3_write 1 = .ok (.iconst 0, 1) := by decide +kernel
theorem dX3_write_2 : decode cX3_write 2 = .ok (.putfield 56, 3) := by decide +kernel
theorem dX3_write_5 : decode cX3_write 5 = .ok (.aload_n 0, 1) := by decide +kernel
theorem dX3_write_6 : decode cX3_write 6 = .ok (.getfield 147, 3) := by decide +kernel
theorem dX3_write_9 : decode cX3_write 9 = .ok (.ifCond .le 20, 3) := by decide +kernel
theorem dX3_write_12 : decode cX3_write 12 = .ok (.aload_n 0, 1) := by decide +kernel
theorem dX3_write_13 : decode cX3_write 13 = .ok (.aload_n 0, 1) := by decide +kernel
theorem dX3_write_14 : decode cX3_write 14 = .ok (.getfield 147, 3) := by decide +kernel
theorem dX3_write_17 : decode cX3_write 17 = .ok (.putfield 43, 3) := by decide +kernel
theorem dX3_write_20 : decode cX3_write 20 = .ok (.aload_n 0, 1) := by decide +kernel
theorem dX3_write_21 : decode cX3_write 21 = .ok (.aload_n 0, 1) := by decide +kernel
theorem dX3_write_22 : decode cX3_write 22 = .ok (.getfield 141, 3) := by decide +kernel
theorem dX3_write_25 : decode cX3_write 25 = .ok (.putfield 46, 3) := by decide +kernel
theorem dX3_write_28 : decode cX3_write 28 = .ok (.return_, 1) := by decide +kernel
theorem dX3_write_29 : decode cX3_write 29 = .ok (.aload_n 0, 1) := by decide +kernel
theorem dX3_write_30 : decode cX3_write 30 = .ok (.dup, 1) := by decide +kernel
theorem dX3_write_31 : decode cX3_write 31 = .ok (.getfield 40, 3) := by decide +kernel
theorem dX3_write_34 : decode cX3_write 34 = .ok (.iconst 1, 1) := by decide +kernel
theorem dX3_write_35 : decode cX3_write 35 = .ok (.iadd, 1) := by decide +kernel
theorem dX3_write_36 : decode cX3_write 36 = .ok (.putfield 40, 3) := by decide +kernel
theorem dX3_write_39 : decode cX3_write 39 = .ok (.aload_n 0, 1) := by decide +kernel
theorem dX3_write_40 : decode cX3_write 40 = .ok (.aload_n 0, 1) := by decide +kernel
theorem dX3_write_41 : decode cX3_write 41 = .ok (.getfield 141, 3) := by decide +kernel
theorem dX3_write_44 : decode cX3_write 44 = .ok (.putfield 23, 3) := by decide +kernel
theorem dX3_write_47 : decode cX3_write 47 = .ok (.aload_n 0, 1) := by decide +kernel
theorem dX3_write_48 : decode cX3_write 48 = .ok (.getfield 114, 3) := by decide +kernel
theorem dX3_write_51 : decode cX3_write 51 = .ok (.ifCond .le 16, 3) := by decide +kernel
theorem dX3_write_54 : decode cX3_write 54 = .ok (.aload_n 0, 1) := by decide +kernel
theorem dX3_write_55 : decode cX3_write 55 = .ok (.getfield 17, 3) := by decide +kernel
theorem dX3_write_58 : decode cX3_write 58 = .ok (.aload_n 0, 1) := by decide +kernel
theorem dX3_write_59 : decode cX3_write 59 = .ok (.getfield 114, 3) := by decide +kernel
theorem dX3_write_62 : decode cX3_write 62 = .ok (.aload_n 0, 1) := by decide +kernel
theorem dX3_write_63 : decode cX3_write 63 = .ok (.getfield 105, 3) := by decide +kernel
theorem dX3_write_66 : decode cX3_write 66 = .ok (.iastore, 1) := by decide +kernel
theorem dX3_write_67 : decode cX3_write 67 = .ok (.return_, 1) := by decide +kernel
set_option maxRecDepth 100000 in
theorem ggX3_clock_X3_write : GoodIn wsX3_clock wsX3_write := goodIn_r _ [14, 6, 15, 16, 17, 18, 9, 19, 20, 5, 21, 110, 111, 112, 113, 114, 115, 116, 117, 118, 119, 120, 121, 122, 123, 124, 125, 126, 127, 128, 129, 130] rfl (by decide +kernel)
set_option maxRecDepth 100000 in
theorem gX3_clock_X3_write : GoodIn wsX3_clock (wsV RX3 156 RX3 yX3_write wsX3_write) := goodIn_app (goodIn_of _ (by decide +kernel)) ggX3_clock_X3_write
set_option maxRecDepth 100000 in
theorem ggX3_clock_X3_step : GoodIn wsX3_clock wsX3_step := goodIn_r _ [25, 26, 27, 28, 6, 17, 15, 7, 20, 4, 21, 8, 29, 30, 13, 31, 32, 33, 34, 35, 36, 37, 38, 39, 40, 41, 42, 43, 44, 45, 46, 47, 48, 49, 50, 51, 52, 53, 54, 55, 56, 57, 58, 59, 60, 61, 62, 63, 64, 65, 66, 67, 68, 69, 70, 71, 72, 73, 74, 75, 76, 77, 78, 79, 80, 81, 82, 83, 84, 85, 86, 87, 88, 89, 90, 91, 92, 93, 94, 95, 96, 97, 98, 99, 100, 101, 102, 103, 104, 105, 106, 107, 108, 109, 110, 111, 112, 113, 114, 115, 116, 117, 118, 119, 120, 121, 122, 123, 124, 125, 126, 127, 128, 129, 130] rfl (by decide +kernel)
set_option maxRecDepth 100000 in
theorem gX3_clock_X3_step : GoodIn wsX3_clock (wsV RX3 159 RX3 yX3_step wsX3_step) := goodIn_app (goodIn_of _ (by decide +kernel)) ggX3_clock_X3_step
theorem dX3_clock_0 : decode cX3_clock 0 = .ok (.aload_n 0, 1) := by decide +kernel
theorem dX3_clock_1 : decode cX3_clock 1 = .ok (.iload_n 1, 1) := by decide +kernel
theorem dX3_clock_2 : decode cX3_clock 2 = .ok (.iconst 1, 1) := by decide +kernel
theorem dX3_clock_3 : decode cX3_clock 3 = .ok (.if_icmp .lt 10, 3) := by decide +kernel
theorem dX3_clock_6 : decode cX3_clock 6 = .ok (.iload_n 1, 1) := by decide +kernel
theorem dX3_clock_7 : decode cX3_clock 7 = .ok (.sipush 200, 3) := by decide +kernel
theorem dX3_clock_10 : decode cX3_clock 10 = .ok (.if_icmp .le 7, 3) := by decide +kernel
theorem dX3_clock_13 : decode cX3_clock 13 = .ok (.iconst 1, 1) := by decide +kernel
theorem dX3_clock_14 : decode cX3_clock 14 = .ok (.goto 20, 3) := by decide +kernel
theorem dX3_clock_17 : decode cX3_clock 17 = .ok (.aload_n 0, 1) := by decide +kernel
theorem dX3_clock_18 : decode cX3_clock 18 = .ok (.getfield 153, 3) := by decide +kernel
theorem dX3_clock_21 : decode cX3_clock 21 = .ok (.iload_n 1, 1) := by decide +kernel
theorem dX3_clock_22 : decode cX3_clock 22 = .ok (.iadd, 1) := by decide +kernel
theorem dX3_clock_23 : decode cX3_clock 23 = .ok (.sipush 20000, 3) := by decide +kernel
theorem dX3_clock_26 : decode cX3_clock 26 = .ok (.if_icmp .le 7, 3) := by decide +kernel
theorem dX3_clock_29 : decode cX3_clock 29 = .ok (.iconst 2, 1) := by decide +kernel
theorem dX3_clock_30 : decode cX3_clock 30 = .ok (.goto 4, 3) := by decide +kernel
theorem dX3_clock_33 : decode cX3_clock 33 = .ok (.iconst 0, 1) := by decide +kernel
theorem dX3_clock_34 : decode cX3_clock 34 = .ok (.putfield 30, 3) := by decide +kernel
theorem dX3_clock_37 : decode cX3_clock 37 = .ok (.aload_n 0, 1) := by decide +kernel
theorem dX3_clock_38 : decode cX3_clock 38 = .ok (.getfield 30, 3) := by decide +kernel
theorem dX3_clock_41 : decode cX3_clock 41 = .ok (.ifCond .le 5, 3) := by decide +kernel
theorem dX3_clock_44 : decode cX3_clock 44 = .ok (.iconst 0, 1) := by decide +kernel
theorem dX3_clock_45 : decode cX3_clock 45 = .ok (.ireturn, 1) := by decide +kernel
theorem dX3_clock_46 : decode cX3_clock 46 = .ok (.aload_n 0, 1) := by decide +kernel
theorem dX3_clock_47 : decode cX3_clock 47 = .ok (.getfield 33, 3) := by decide +kernel
theorem dX3_clock_50 : decode cX3_clock 50 = .ok (.ifCond .ne 29, 3) := by decide +kernel
theorem dX3_clock_53 : decode cX3_clock 53 = .ok (.iconst 0, 1) := by decide +kernel
theorem dX3_clock_54 : decode cX3_clock 54 = .ok (.istore_n 2, 1) := by decide +kernel
theorem dX3_clock_55 : decode cX3_clock 55 = .ok (.iload_n 2, 1) := by decide +kernel
theorem dX3_clock_56 : decode cX3_clock 56 = .ok (.bipush 32, 2) := by decide +kernel
theorem dX3_clock_58 : decode cX3_clock 58 = .ok (.if_icmp .ge 21, 3) := by decide +kernel
theorem dX3_clock_61 : decode cX3_clock 61 = .ok (.aload_n 0, 1) := by decide +kernel
theorem dX3_clock_62 : decode cX3_clock 62 = .ok (.getfield 20, 3) := by decide +kernel
theorem dX3_clock_65 : decode cX3_clock 65 = .ok (.iload_n 2, 1) := by decide +kernel
theorem dX3_clock_66 : decode cX3_clock 66 = .ok (.aload_n 0, 1) := by decide +kernel
theorem dX3_clock_67 : decode cX3_clock 67 = .ok (.getfield 17, 3) := by decide +kernel
theorem dX3_clock_70 : decode cX3_clock 70 = .ok (.iload_n 2, 1) := by decide +kernel
theorem dX3_clock_71 : decode cX3_clock 71 = .ok (.iaload, 1) := by decide +kernel
theorem dX3_clock_72 : decode cX3_clock 72 = .ok (.iastore, 1) := by decide +kernel
theorem dX3_clock_73 : decode cX3_clock 73 = .ok (.iinc 2 1, 3) := by decide +kernel
theorem dX3_clock_76 : decode cX3_clock 76 = .ok (.goto (-21), 3) := by decide +kernel
theorem dX3_clock_79 : decode cX3_clock 79 = .ok (.iconst 0, 1) := by decide +kernel
theorem dX3_clock_80 : decode cX3_clock 80 = .ok (.istore_n 2, 1) := by decide +kernel
theorem dX3_clock_81 : decode cX3_clock 81 = .ok (.iload_n 2, 1) := by decide +kernel
theorem dX3_clock_82 : decode cX3_clock 82 = .ok (.iload_n 1, 1) := by decide +kernel
theorem dX3_clock_83 : decode cX3_clock 83 = .ok (.if_icmp .ge 62, 3) := by decide +kernel
theorem dX3_clock_86 : decode cX3_clock 86 = .ok (.aload_n 0, 1) := by decide +kernel
theorem dX3_clock_87 : decode cX3_clock 87 = .ok (.dup, 1) := by decide +kernel
theorem dX3_clock_88 : decode cX3_clock 88 = .ok (.getfield 33, 3) := by decide +kernel
theorem dX3_clock_91 : decode cX3_clock 91 = .ok (.iconst 1, 1) := by decide +kernel
theorem dX3_clock_92 : decode cX3_clock 92 = .ok (.iadd, 1) := by decide +kernel
theorem dX3_clock_93 : decode cX3_clock 93 = .ok (.putfield 33, 3) := by decide +kernel
theorem dX3_clock_96 : decode cX3_clock 96 = .ok (.aload_n 0, 1) := by decide +kernel
theorem dX3_clock_97 : decode cX3_clock 97 = .ok (.dup, 1) := by decide +kernel
theorem dX3_clock_98 : decode cX3_clock 98 = .ok (.getfield 153, 3) := by decide +kernel
theorem dX3_clock_101 : decode cX3_clock 101 = .ok (.iconst 1, 1) := by decide +kernel
theorem dX3_clock_102 : decode cX3_clock 102 = .ok (.iadd, 1) := by decide +kernel
theorem dX3_clock_103 : decode cX3_clock 103 = .ok (.putfield 153, 3) := by decide +kernel
theorem dX3_clock_106 : decode cX3_clock 106 = .ok (.aload_n 0, 1) := by decide +kernel
theorem dX3_clock_107 : decode cX3_clock 107 = .ok (.getfield 56, 3) := by decide +kernel
theorem dX3_clock_110 : decode cX3_clock 110 = .ok (.ifCond .eq 7, 3) := by decide +kernel
theorem dX3_clock_113 : decode cX3_clock 113 = .ok (.aload_n 0, 1) := by decide +kernel
theorem dX3_clock_114 : decode cX3_clock 114 = .ok (.invokevirtual 156, 3) := by decide +kernel
theorem dX3_clock_117 : decode cX3_clock 117 = .ok (.aload_n 0, 1) := by decide +kernel
theorem dX3_clock_118 : decode cX3_clock 118 = .ok (.getfield 52, 3) := by decide +kernel
theorem dX3_clock_121 : decode cX3_clock 121 = .ok (.ifCond .ne 18, 3) := by decide +kernel
theorem dX3_clock_124 : decode cX3_clock 124 = .ok (.aload_n 0, 1) := by decide +kernel
theorem dX3_clock_125 : decode cX3_clock 125 = .ok (.getfield 33, 3) := by decide +kernel
theorem dX3_clock_128 : decode cX3_clock 128 = .ok (.aload_n 0, 1) := by decide +kernel
theorem dX3_clock_129 : decode cX3_clock 129 = .ok (.getfield 27, 3) := by decide +kernel
theorem dX3_clock_132 : decode cX3_clock 132 = .ok (.if_icmp .ne 7, 3) := by decide +kernel
theorem dX3_clock_135 : decode cX3_clock 135 = .ok (.aload_n 0, 1) := by decide +kernel
theorem dX3_clock_136 : decode cX3_clock 136 = .ok (.invokevirtual 159, 3) := by decide +kernel
theorem dX3_clock_139 : decode cX3_clock 139 = .ok (.iinc 2 1, 3) := by decide +kernel
theorem dX3_clock_142 : decode cX3_clock 142 = .ok (.goto (-61), 3) := by decide +kernel
theorem dX3_clock_145 : decode cX3_clock 145 = .ok (.aload_n 0, 1) := by decide +kernel
theorem dX3_clock_146 : decode cX3_clock 146 = .ok (.getfield 40, 3) := by decide +kernel
theorem dX3_clock_149 : decode cX3_clock 149 = .ok (.ireturn, 1) := by decide +kernel
theorem dX3_register_0 : decode cX3_register 0 = .ok (.aload_n 0, 1) := by decide +kernel
theorem dX3_register_1 : decode cX3_register 1 = .ok (.iload_n 1, 1) := by decide +kernel
theorem dX3_register_2 : decode cX3_register 2 = .ok (.ifCond .lt 9, 3) := by decide +kernel
theorem dX3_register_5 : decode cX3_register 5 = .ok (.iload_n 1, 1) := by decide +kernel
theorem dX3_register_6 : decode cX3_register 6 = .ok (.bipush 31, 2) := by decide +kernel
theorem dX3_register_8 : decode cX3_register 8 = .ok (.if_icmp .le 7, 3) := by decide +kernel
theorem dX3_register_11 : decode cX3_register 11 = .ok (.iconst 1, 1) := by decide +kernel
theorem dX3_register_12 : decode cX3_register 12 = .ok (.goto 4, 3) := by decide +kernel
theorem dX3_register_15 : decode cX3_register 15 = .ok (.iconst 0, 1) := by decide +kernel
theorem dX3_register_16 : decode cX3_register 16 = .ok (.putfield 30, 3) := by decide +kernel
theorem dX3_register_19 : decode cX3_register 19 = .ok (.aload_n 0, 1) := by decide +kernel
theorem dX3_register_20 : decode cX3_register 20 = .ok (.getfield 30, 3) := by decide +kernel
theorem dX3_register_23 : decode cX3_register 23 = .ok (.ifCond .le 7, 3) := by decide +kernel
theorem dX3_register_26 : decode cX3_register 26 = .ok (.iconst 0, 1) := by decide +kernel
theorem dX3_register_27 : decode cX3_register 27 = .ok (.goto 9, 3) := by decide +kernel
theorem dX3_register_30 : decode cX3_register 30 = .ok (.aload_n 0, 1) := by decide +kernel
theorem dX3_register_31 : decode cX3_register 31 = .ok (.getfield 17, 3) := by decide +kernel
theorem dX3_register_34 : decode cX3_register 34 = .ok (.iload_n 1, 1) := by decide +kernel
theorem dX3_register_35 : decode cX3_register 35 = .ok (.iaload, 1) := by decide +kernel
theorem dX3_register_36 : decode cX3_register 36 = .ok (.ireturn, 1) := by decide +kernel
set_option maxRecDepth 100000 in
theorem ggX3_memory_X3_load : GoodIn wsX3_memory wsX3_load := goodIn_r _ [6, 7, 8, 9, 10, 11, 12, 13, 14, 15, 16, 17, 18, 19, 20, 21, 22, 23, 24, 25, 26, 27, 28] rfl (by decide +kernel)
set_option maxRecDepth 100000 in
theorem gX3_memory_X3_load : GoodIn wsX3_memory (wsV RX3 102 RX3 yX3_load wsX3_load) := goodIn_app (goodIn_of _ (by decide +kernel)) ggX3_memory_X3_load
theorem dX3_memory_0 : decode cX3_memory 0 = .ok (.aload_n 0, 1) := by decide +kernel
theorem dX3_memory_1 : decode cX3_memory 1 = .ok (.iload_n 1, 1) := by decide +kernel
theorem dX3_memory_2 : decode cX3_memory 2 = .ok (.ifCond .lt 9, 3) := by decide +kernel
theorem dX3_memory_5 : decode cX3_memory 5 = .ok (.iload_n 1, 1) := by decide +kernel
theorem dX3_memory_6 : decode cX3_memory 6 = .ok (.bipush 63, 2) := by decide +kernel
theorem dX3_memory_8 : decode cX3_memory 8 = .ok (.if_icmp .le 7, 3) := by decide +kernel
theorem dX3_memory_11 : decode cX3_memory 11 = .ok (.iconst 1, 1) := by decide +kernel
theorem dX3_memory_12 : decode cX3_memory 12 = .ok (.goto 4, 3) := by decide +kernel
theorem dX3_memory_15 : decode cX3_memory 15 = .ok (.iconst 0, 1) := by decide +kernel
theorem dX3_memory_16 : decode cX3_memory 16 = .ok (.putfield 30, 3) := by decide +kernel
theorem dX3_memory_19 : decode cX3_memory 19 = .ok (.aload_n 0, 1) := by decide +kernel
theorem dX3_memory_20 : decode cX3_memory 20 = .ok (.getfield 30, 3) := by decide +kernel
theorem dX3_memory_23 : decode cX3_memory 23 = .ok (.ifCond .le 7, 3) := by decide +kernel
theorem dX3_memory_26 : decode cX3_memory 26 = .ok (.iconst 0, 1) := by decide +kernel
theorem dX3_memory_27 : decode cX3_memory 27 = .ok (.goto 11, 3) := by decide +kernel
theorem dX3_memory_30 : decode cX3_memory 30 = .ok (.aload_n 0, 1) := by decide +kernel
theorem dX3_memory_31 : decode cX3_memory 31 = .ok (.iconst 4, 1) := by decide +kernel
theorem dX3_memory_32 : decode cX3_memory 32 = .ok (.iload_n 1, 1) := by decide +kernel
theorem dX3_memory_33 : decode cX3_memory 33 = .ok (.imul, 1) := by decide +kernel
theorem dX3_memory_34 : decode cX3_memory 34 = .ok (.iconst 4, 1) := by decide +kernel
theorem dX3_memory_35 : decode cX3_memory 35 = .ok (.invokevirtual 102, 3) := by decide +kernel
theorem dX3_memory_38 : decode cX3_memory 38 = .ok (.ireturn, 1) := by decide +kernel
theorem dX3_state_0 : decode cX3_state 0 = .ok (.aload_n 0, 1) := by decide +kernel
theorem dX3_state_1 : decode cX3_state 1 = .ok (.iconst 0, 1) := by decide +kernel
theorem dX3_state_2 : decode cX3_state 2 = .ok (.putfield 30, 3) := by decide +kernel
theorem dX3_state_5 : decode cX3_state 5 = .ok (.iload_n 1, 1) := by decide +kernel
theorem dX3_state_6 : decode cX3_state 6 = .ok (.tableswitch 68 0 5 #[38, 43, 48, 53, 58, 63], 38) := by decide +kernel
theorem dX3_state_44 : decode cX3_state 44 = .ok (.aload_n 0, 1) := by decide +kernel
theorem dX3_state_45 : decode cX3_state 45 = .ok (.getfield 33, 3) := by decide +kernel
theorem dX3_state_48 : decode cX3_state 48 = .ok (.ireturn, 1) := by decide +kernel
theorem dX3_state_49 : decode cX3_state 49 = .ok (.aload_n 0, 1) := by decide +kernel
theorem dX3_state_50 : decode cX3_state 50 = .ok (.getfield 40, 3) := by decide +kernel
theorem dX3_state_53 : decode cX3_state 53 = .ok (.ireturn, 1) := by decide +kernel
theorem dX3_state_54 : decode cX3_state 54 = .ok (.aload_n 0, 1) := by decide +kernel
theorem dX3_state_55 : decode cX3_state 55 = .ok (.getfield 43, 3) := by decide +kernel
theorem dX3_state_58 : decode cX3_state 58 = .ok (.ireturn, 1) := by decide +kernel
theorem dX3_state_59 : decode cX3_state 59 = .ok (.aload_n 0, 1) := by decide +kernel
theorem dX3_state_60 : decode cX3_state 60 = .ok (.getfield 46, 3) := by decide +kernel
theorem dX3_state_63 : decode cX3_state 63 = .ok (.ireturn, 1) := by decide +kernel
theorem dX3_state_64 : decode cX3_state 64 = .ok (.aload_n 0, 1) := by decide +kernel
theorem dX3_state_65 : decode cX3_state 65 = .ok (.getfield 23, 3) := by decide +kernel
theorem dX3_state_68 : decode cX3_state 68 = .ok (.ireturn, 1) := by decide +kernel
theorem dX3_state_69 : decode cX3_state 69 = .ok (.aload_n 0, 1) := by decide +kernel
theorem dX3_state_70 : decode cX3_state 70 = .ok (.getfield 153, 3) := by decide +kernel
theorem dX3_state_73 : decode cX3_state 73 = .ok (.ireturn, 1) := by decide +kernel
theorem dX3_state_74 : decode cX3_state 74 = .ok (.iconst (-1), 1) := by decide +kernel
theorem dX3_state_75 : decode cX3_state 75 = .ok (.ireturn, 1) := by decide +kernel
theorem dL_clock_0 : decode cL_clock 0 = .ok (.aload_n 2, 1) := by decide +kernel
theorem dL_clock_1 : decode cL_clock 1 = .ok (.iconst 0, 1) := by decide +kernel
theorem dL_clock_2 : decode cL_clock 2 = .ok (.aload_n 0, 1) := by decide +kernel
theorem dL_clock_3 : decode cL_clock 3 = .ok (.iload_n 1, 1) := by decide +kernel
theorem dL_clock_4 : decode cL_clock 4 = .ok (.invokevirtual 7, 3) := by decide +kernel
theorem dL_clock_7 : decode cL_clock 7 = .ok (.i2l, 1) := by decide +kernel
theorem dL_clock_8 : decode cL_clock 8 = .ok (.lastore, 1) := by decide +kernel
theorem dL_clock_9 : decode cL_clock 9 = .ok (.goto 9, 3) := by decide +kernel
theorem dL_clock_12 : decode cL_clock 12 = .ok (.astore_n 3, 1) := by decide +kernel
theorem dL_clock_13 : decode cL_clock 13 = .ok (.iconst 1, 1) := by decide +kernel
theorem dL_clock_14 : decode cL_clock 14 = .ok (.ireturn, 1) := by decide +kernel
theorem dL_clock_15 : decode cL_clock 15 = .ok (.astore_n 3, 1) := by decide +kernel
theorem dL_clock_16 : decode cL_clock 16 = .ok (.iconst 2, 1) := by decide +kernel
theorem dL_clock_17 : decode cL_clock 17 = .ok (.ireturn, 1) := by decide +kernel
theorem dL_clock_18 : decode cL_clock 18 = .ok (.iconst 0, 1) := by decide +kernel
theorem dL_clock_19 : decode cL_clock 19 = .ok (.ireturn, 1) := by decide +kernel
theorem dL_register_0 : decode cL_register 0 = .ok (.aload_n 2, 1) := by decide +kernel
theorem dL_register_1 : decode cL_register 1 = .ok (.iconst 0, 1) := by decide +kernel
theorem dL_register_2 : decode cL_register 2 = .ok (.aload_n 0, 1) := by decide +kernel
theorem dL_register_3 : decode cL_register 3 = .ok (.iload_n 1, 1) := by decide +kernel
theorem dL_register_4 : decode cL_register 4 = .ok (.invokevirtual 17, 3) := by decide +kernel
theorem dL_register_7 : decode cL_register 7 = .ok (.i2l, 1) := by decide +kernel
theorem dL_register_8 : decode cL_register 8 = .ok (.lastore, 1) := by decide +kernel
theorem dL_register_9 : decode cL_register 9 = .ok (.goto 6, 3) := by decide +kernel
theorem dL_register_12 : decode cL_register 12 = .ok (.astore_n 3, 1) := by decide +kernel
theorem dL_register_13 : decode cL_register 13 = .ok (.iconst 1, 1) := by decide +kernel
theorem dL_register_14 : decode cL_register 14 = .ok (.ireturn, 1) := by decide +kernel
theorem dL_register_15 : decode cL_register 15 = .ok (.iconst 0, 1) := by decide +kernel
theorem dL_register_16 : decode cL_register 16 = .ok (.ireturn, 1) := by decide +kernel
theorem dL_memory_0 : decode cL_memory 0 = .ok (.aload_n 2, 1) := by decide +kernel
theorem dL_memory_1 : decode cL_memory 1 = .ok (.iconst 0, 1) := by decide +kernel
theorem dL_memory_2 : decode cL_memory 2 = .ok (.aload_n 0, 1) := by decide +kernel
theorem dL_memory_3 : decode cL_memory 3 = .ok (.iload_n 1, 1) := by decide +kernel
theorem dL_memory_4 : decode cL_memory 4 = .ok (.invokevirtual 22, 3) := by decide +kernel
theorem dL_memory_7 : decode cL_memory 7 = .ok (.i2l, 1) := by decide +kernel
theorem dL_memory_8 : decode cL_memory 8 = .ok (.lastore, 1) := by decide +kernel
theorem dL_memory_9 : decode cL_memory 9 = .ok (.goto 6, 3) := by decide +kernel
theorem dL_memory_12 : decode cL_memory 12 = .ok (.astore_n 3, 1) := by decide +kernel
theorem dL_memory_13 : decode cL_memory 13 = .ok (.iconst 1, 1) := by decide +kernel
theorem dL_memory_14 : decode cL_memory 14 = .ok (.ireturn, 1) := by decide +kernel
theorem dL_memory_15 : decode cL_memory 15 = .ok (.iconst 0, 1) := by decide +kernel
theorem dL_memory_16 : decode cL_memory 16 = .ok (.ireturn, 1) := by decide +kernel
theorem dL_law_0 : decode cL_law 0 = .ok (.new 8, 3) := by decide +kernel
theorem dL_law_3 : decode cL_law 3 = .ok (.dup, 1) := by decide +kernel
theorem dL_law_4 : decode cL_law 4 = .ok (.invokespecial 25, 3) := by decide +kernel
theorem dL_law_7 : decode cL_law 7 = .ok (.astore_n 1, 1) := by decide +kernel
theorem dL_law_8 : decode cL_law 8 = .ok (.new 26, 3) := by decide +kernel
theorem dL_law_11 : decode cL_law 11 = .ok (.dup, 1) := by decide +kernel
theorem dL_law_12 : decode cL_law 12 = .ok (.invokespecial 28, 3) := by decide +kernel
theorem dL_law_15 : decode cL_law 15 = .ok (.astore_n 2, 1) := by decide +kernel
theorem dL_law_16 : decode cL_law 16 = .ok (.iconst 1, 1) := by decide +kernel
theorem dL_law_17 : decode cL_law 17 = .ok (.newarray .long, 2) := by decide +kernel
theorem dL_law_19 : decode cL_law 19 = .ok (.astore_n 3, 1) := by decide +kernel
theorem dL_law_20 : decode cL_law 20 = .ok (.iconst 0, 1) := by decide +kernel
theorem dL_law_21 : decode cL_law 21 = .ok (.istore 4, 2) := by decide +kernel
theorem dL_law_23 : decode cL_law 23 = .ok (.iload 4, 2) := by decide +kernel
theorem dL_law_25 : decode cL_law 25 = .ok (.aload_n 0, 1) := by decide +kernel
theorem dL_law_26 : decode cL_law 26 = .ok (.arraylength, 1) := by decide +kernel
theorem dL_law_27 : decode cL_law 27 = .ok (.iconst 3, 1) := by decide +kernel
theorem dL_law_28 : decode cL_law 28 = .ok (.isub, 1) := by decide +kernel
theorem dL_law_29 : decode cL_law 29 = .ok (.if_icmp .gt 376, 3) := by decide +kernel
theorem dL_law_32 : decode cL_law 32 = .ok (.aload_n 0, 1) := by decide +kernel
theorem dL_law_33 : decode cL_law 33 = .ok (.iload 4, 2) := by decide +kernel
theorem dL_law_35 : decode cL_law 35 = .ok (.iaload, 1) := by decide +kernel
theorem dL_law_36 : decode cL_law 36 = .ok (.bipush 7, 2) := by decide +kernel
theorem dL_law_38 : decode cL_law 38 = .ok (.iand, 1) := by decide +kernel
theorem dL_law_39 : decode cL_law 39 = .ok (.tableswitch 360 0 7 #[45, 82, 119, 156, 167, 223, 279, 335], 45) := by decide +kernel
theorem dL_law_84 : decode cL_law 84 = .ok (.aload_n 1, 1) := by decide +kernel
theorem dL_law_85 : decode cL_law 85 = .ok (.aload_n 0, 1) := by decide +kernel
theorem dL_law_86 : decode cL_law 86 = .ok (.iload 4, 2) := by decide +kernel
theorem dL_law_88 : decode cL_law 88 = .ok (.iconst 1, 1) := by decide +kernel
theorem dL_law_89 : decode cL_law 89 = .ok (.iadd, 1) := by decide +kernel
theorem dL_law_90 : decode cL_law 90 = .ok (.iaload, 1) := by decide +kernel
theorem dL_law_91 : decode cL_law 91 = .ok (.aload_n 0, 1) := by decide +kernel
theorem dL_law_92 : decode cL_law 92 = .ok (.iload 4, 2) := by decide +kernel
theorem dL_law_94 : decode cL_law 94 = .ok (.iconst 2, 1) := by decide +kernel
theorem dL_law_95 : decode cL_law 95 = .ok (.iadd, 1) := by decide +kernel
theorem dL_law_96 : decode cL_law 96 = .ok (.iaload, 1) := by decide +kernel
theorem dL_law_97 : decode cL_law 97 = .ok (.invokevirtual 29, 3) := by decide +kernel
theorem dL_law_100 : decode cL_law 100 = .ok (.aload_n 2, 1) := by decide +kernel
theorem dL_law_101 : decode cL_law 101 = .ok (.aload_n 0, 1) := by decide +kernel
theorem dL_law_102 : decode cL_law 102 = .ok (.iload 4, 2) := by decide +kernel
theorem dL_law_104 : decode cL_law 104 = .ok (.iconst 1, 1) := by decide +kernel
theorem dL_law_105 : decode cL_law 105 = .ok (.iadd, 1) := by decide +kernel
theorem dL_law_106 : decode cL_law 106 = .ok (.iaload, 1) := by decide +kernel
theorem dL_law_107 : decode cL_law 107 = .ok (.aload_n 0, 1) := by decide +kernel
theorem dL_law_108 : decode cL_law 108 = .ok (.iload 4, 2) := by decide +kernel
theorem dL_law_110 : decode cL_law 110 = .ok (.iconst 2, 1) := by decide +kernel
theorem dL_law_111 : decode cL_law 111 = .ok (.iadd, 1) := by decide +kernel
theorem dL_law_112 : decode cL_law 112 = .ok (.iaload, 1) := by decide +kernel
theorem dL_law_113 : decode cL_law 113 = .ok (.invokevirtual 33, 3) := by decide +kernel
theorem dL_law_116 : decode cL_law 116 = .ok (.if_icmp .eq 283, 3) := by decide +kernel
theorem dL_law_119 : decode cL_law 119 = .ok (.iconst 0, 1) := by decide +kernel
theorem dL_law_120 : decode cL_law 120 = .ok (.ireturn, 1) := by decide +kernel
theorem dL_law_121 : decode cL_law 121 = .ok (.aload_n 1, 1) := by decide +kernel
theorem dL_law_122 : decode cL_law 122 = .ok (.aload_n 0, 1) := by decide +kernel
theorem dL_law_123 : decode cL_law 123 = .ok (.iload 4, 2) := by decide +kernel
theorem dL_law_125 : decode cL_law 125 = .ok (.iconst 1, 1) := by decide +kernel
theorem dL_law_126 : decode cL_law 126 = .ok (.iadd, 1) := by decide +kernel
theorem dL_law_127 : decode cL_law 127 = .ok (.iaload, 1) := by decide +kernel
theorem dL_law_128 : decode cL_law 128 = .ok (.aload_n 0, 1) := by decide +kernel
theorem dL_law_129 : decode cL_law 129 = .ok (.iload 4, 2) := by decide +kernel
theorem dL_law_131 : decode cL_law 131 = .ok (.iconst 2, 1) := by decide +kernel
theorem dL_law_132 : decode cL_law 132 = .ok (.iadd, 1) := by decide +kernel
theorem dL_law_133 : decode cL_law 133 = .ok (.iaload, 1) := by decide +kernel
theorem dL_law_134 : decode cL_law 134 = .ok (.invokevirtual 34, 3) := by decide +kernel
theorem dL_law_137 : decode cL_law 137 = .ok (.aload_n 2, 1) := by decide +kernel
theorem dL_law_138 : decode cL_law 138 = .ok (.aload_n 0, 1) := by decide +kernel
theorem dL_law_139 : decode cL_law 139 = .ok (.iload 4, 2) := by decide +kernel
theorem dL_law_141 : decode cL_law 141 = .ok (.iconst 1, 1) := by decide +kernel
theorem dL_law_142 : decode cL_law 142 = .ok (.iadd, 1) := by decide +kernel
theorem dL_law_143 : decode cL_law 143 = .ok (.iaload, 1) := by decide +kernel
theorem dL_law_144 : decode cL_law 144 = .ok (.aload_n 0, 1) := by decide +kernel
theorem dL_law_145 : decode cL_law 145 = .ok (.iload 4, 2) := by decide +kernel
theorem dL_law_147 : decode cL_law 147 = .ok (.iconst 2, 1) := by decide +kernel
theorem dL_law_148 : decode cL_law 148 = .ok (.iadd, 1) := by decide +kernel
theorem dL_law_149 : decode cL_law 149 = .ok (.iaload, 1) := by decide +kernel
theorem dL_law_150 : decode cL_law 150 = .ok (.invokevirtual 37, 3) := by decide +kernel
theorem dL_law_153 : decode cL_law 153 = .ok (.if_icmp .eq 246, 3) := by decide +kernel
theorem dL_law_156 : decode cL_law 156 = .ok (.iconst 0, 1) := by decide +kernel
theorem dL_law_157 : decode cL_law 157 = .ok (.ireturn, 1) := by decide +kernel
theorem dL_law_158 : decode cL_law 158 = .ok (.aload_n 1, 1) := by decide +kernel
theorem dL_law_159 : decode cL_law 159 = .ok (.aload_n 0, 1) := by decide +kernel
theorem dL_law_160 : decode cL_law 160 = .ok (.iload 4, 2) := by decide +kernel
theorem dL_law_162 : decode cL_law 162 = .ok (.iconst 1, 1) := by decide +kernel
theorem dL_law_163 : decode cL_law 163 = .ok (.iadd, 1) := by decide +kernel
theorem dL_law_164 : decode cL_law 164 = .ok (.iaload, 1) := by decide +kernel
theorem dL_law_165 : decode cL_law 165 = .ok (.aload_n 0, 1) := by decide +kernel
theorem dL_law_166 : decode cL_law 166 = .ok (.iload 4, 2) := by decide +kernel
theorem dL_law_168 : decode cL_law 168 = .ok (.iconst 2, 1) := by decide +kernel
theorem dL_law_169 : decode cL_law 169 = .ok (.iadd, 1) := by decide +kernel
theorem dL_law_170 : decode cL_law 170 = .ok (.iaload, 1) := by decide +kernel
theorem dL_law_171 : decode cL_law 171 = .ok (.invokevirtual 38, 3) := by decide +kernel
theorem dL_law_174 : decode cL_law 174 = .ok (.aload_n 2, 1) := by decide +kernel
theorem dL_law_175 : decode cL_law 175 = .ok (.aload_n 0, 1) := by decide +kernel
theorem dL_law_176 : decode cL_law 176 = .ok (.iload 4, 2) := by decide +kernel
theorem dL_law_178 : decode cL_law 178 = .ok (.iconst 1, 1) := by decide +kernel
theorem dL_law_179 : decode cL_law 179 = .ok (.iadd, 1) := by decide +kernel
theorem dL_law_180 : decode cL_law 180 = .ok (.iaload, 1) := by decide +kernel
theorem dL_law_181 : decode cL_law 181 = .ok (.aload_n 0, 1) := by decide +kernel
theorem dL_law_182 : decode cL_law 182 = .ok (.iload 4, 2) := by decide +kernel
theorem dL_law_184 : decode cL_law 184 = .ok (.iconst 2, 1) := by decide +kernel
theorem dL_law_185 : decode cL_law 185 = .ok (.iadd, 1) := by decide +kernel
theorem dL_law_186 : decode cL_law 186 = .ok (.iaload, 1) := by decide +kernel
theorem dL_law_187 : decode cL_law 187 = .ok (.invokevirtual 41, 3) := by decide +kernel
theorem dL_law_190 : decode cL_law 190 = .ok (.if_icmp .eq 209, 3) := by decide +kernel
theorem dL_law_193 : decode cL_law 193 = .ok (.iconst 0, 1) := by decide +kernel
theorem dL_law_194 : decode cL_law 194 = .ok (.ireturn, 1) := by decide +kernel
theorem dL_law_195 : decode cL_law 195 = .ok (.aload_n 1, 1) := by decide +kernel
theorem dL_law_196 : decode cL_law 196 = .ok (.invokevirtual 42, 3) := by decide +kernel
theorem dL_law_199 : decode cL_law 199 = .ok (.aload_n 2, 1) := by decide +kernel
theorem dL_law_200 : decode cL_law 200 = .ok (.invokevirtual 45, 3) := by decide +kernel
theorem dL_law_203 : decode cL_law 203 = .ok (.goto 196, 3) := by decide +kernel
theorem dL_law_206 : decode cL_law 206 = .ok (.aload_n 1, 1) := by decide +kernel
theorem dL_law_207 : decode cL_law 207 = .ok (.aload_n 0, 1) := by decide +kernel
theorem dL_law_208 : decode cL_law 208 = .ok (.iload 4, 2) := by decide +kernel
theorem dL_law_210 : decode cL_law 210 = .ok (.iconst 1, 1) := by decide +kernel
theorem dL_law_211 : decode cL_law 211 = .ok (.iadd, 1) := by decide +kernel
theorem dL_law_212 : decode cL_law 212 = .ok (.iaload, 1) := by decide +kernel
theorem dL_law_213 : decode cL_law 213 = .ok (.aload_n 3, 1) := by decide +kernel
theorem dL_law_214 : decode cL_law 214 = .ok (.invokestatic 46, 3) := by decide +kernel
theorem dL_law_217 : decode cL_law 217 = .ok (.istore 5, 2) := by decide +kernel
theorem dL_law_219 : decode cL_law 219 = .ok (.aload_n 2, 1) := by decide +kernel
theorem dL_law_220 : decode cL_law 220 = .ok (.aload_n 0, 1) := by decide +kernel
theorem dL_law_221 : decode cL_law 221 = .ok (.iload 4, 2) := by decide +kernel
theorem dL_law_223 : decode cL_law 223 = .ok (.iconst 1, 1) := by decide +kernel
theorem dL_law_224 : decode cL_law 224 = .ok (.iadd, 1) := by decide +kernel
theorem dL_law_225 : decode cL_law 225 = .ok (.iaload, 1) := by decide +kernel
theorem dL_law_226 : decode cL_law 226 = .ok (.invokevirtual 51, 3) := by decide +kernel
theorem dL_law_229 : decode cL_law 229 = .ok (.istore 6, 2) := by decide +kernel
theorem dL_law_231 : decode cL_law 231 = .ok (.aload_n 2, 1) := by decide +kernel
theorem dL_law_232 : decode cL_law 232 = .ok (.invokevirtual 52, 3) := by decide +kernel
theorem dL_law_235 : decode cL_law 235 = .ok (.iload 5, 2) := by decide +kernel
theorem dL_law_237 : decode cL_law 237 = .ok (.if_icmp .eq 5, 3) := by decide +kernel
theorem dL_law_240 : decode cL_law 240 = .ok (.iconst 0, 1) := by decide +kernel
theorem dL_law_241 : decode cL_law 241 = .ok (.ireturn, 1) := by decide +kernel
theorem dL_law_242 : decode cL_law 242 = .ok (.iload 5, 2) := by decide +kernel
theorem dL_law_244 : decode cL_law 244 = .ok (.ifCond .ne 15, 3) := by decide +kernel
theorem dL_law_247 : decode cL_law 247 = .ok (.aload_n 3, 1) := by decide +kernel
theorem dL_law_248 : decode cL_law 248 = .ok (.iconst 0, 1) := by decide +kernel
theorem dL_law_249 : decode cL_law 249 = .ok (.laload, 1) := by decide +kernel
theorem dL_law_250 : decode cL_law 250 = .ok (.iload 6, 2) := by decide +kernel
theorem dL_law_252 : decode cL_law 252 = .ok (.i2l, 1) := by decide +kernel
theorem dL_law_253 : decode cL_law 253 = .ok (.lcmp, 1) := by decide +kernel
theorem dL_law_254 : decode cL_law 254 = .ok (.ifCond .eq 5, 3) := by decide +kernel
theorem dL_law_257 : decode cL_law 257 = .ok (.iconst 0, 1) := by decide +kernel
theorem dL_law_258 : decode cL_law 258 = .ok (.ireturn, 1) := by decide +kernel
theorem dL_law_259 : decode cL_law 259 = .ok (.goto 140, 3) := by decide +kernel
theorem dL_law_262 : decode cL_law 262 = .ok (.aload_n 1, 1) := by decide +kernel
theorem dL_law_263 : decode cL_law 263 = .ok (.aload_n 0, 1) := by decide +kernel
theorem dL_law_264 : decode cL_law 264 = .ok (.iload 4, 2) := by decide +kernel
theorem dL_law_266 : decode cL_law 266 = .ok (.iconst 1, 1) := by decide +kernel
theorem dL_law_267 : decode cL_law 267 = .ok (.iadd, 1) := by decide +kernel
theorem dL_law_268 : decode cL_law 268 = .ok (.iaload, 1) := by decide +kernel
theorem dL_law_269 : decode cL_law 269 = .ok (.aload_n 3, 1) := by decide +kernel
theorem dL_law_270 : decode cL_law 270 = .ok (.invokestatic 56, 3) := by decide +kernel
theorem dL_law_273 : decode cL_law 273 = .ok (.istore 5, 2) := by decide +kernel
theorem dL_law_275 : decode cL_law 275 = .ok (.aload_n 2, 1) := by decide +kernel
theorem dL_law_276 : decode cL_law 276 = .ok (.aload_n 0, 1) := by decide +kernel
theorem dL_law_277 : decode cL_law 277 = .ok (.iload 4, 2) := by decide +kernel
theorem dL_law_279 : decode cL_law 279 = .ok (.iconst 1, 1) := by decide +kernel
theorem dL_law_280 : decode cL_law 280 = .ok (.iadd, 1) := by decide +kernel
theorem dL_law_281 : decode cL_law 281 = .ok (.iaload, 1) := by decide +kernel
theorem dL_law_282 : decode cL_law 282 = .ok (.invokevirtual 58, 3) := by decide +kernel
theorem dL_law_285 : decode cL_law 285 = .ok (.istore 6, 2) := by decide +kernel
theorem dL_law_287 : decode cL_law 287 = .ok (.aload_n 2, 1) := by decide +kernel
theorem dL_law_288 : decode cL_law 288 = .ok (.invokevirtual 52, 3) := by decide +kernel
theorem dL_law_291 : decode cL_law 291 = .ok (.iload 5, 2) := by decide +kernel
theorem dL_law_293 : decode cL_law 293 = .ok (.if_icmp .eq 5, 3) := by decide +kernel
theorem dL_law_296 : decode cL_law 296 = .ok (.iconst 0, 1) := by decide +kernel
theorem dL_law_297 : decode cL_law 297 = .ok (.ireturn, 1) := by decide +kernel
theorem dL_law_298 : decode cL_law 298 = .ok (.iload 5, 2) := by decide +kernel
theorem dL_law_300 : decode cL_law 300 = .ok (.ifCond .ne 15, 3) := by decide +kernel
theorem dL_law_303 : decode cL_law 303 = .ok (.aload_n 3, 1) := by decide +kernel
theorem dL_law_304 : decode cL_law 304 = .ok (.iconst 0, 1) := by decide +kernel
theorem dL_law_305 : decode cL_law 305 = .ok (.laload, 1) := by decide +kernel
theorem dL_law_306 : decode cL_law 306 = .ok (.iload 6, 2) := by decide +kernel
theorem dL_law_308 : decode cL_law 308 = .ok (.i2l, 1) := by decide +kernel
theorem dL_law_309 : decode cL_law 309 = .ok (.lcmp, 1) := by decide +kernel
theorem dL_law_310 : decode cL_law 310 = .ok (.ifCond .eq 5, 3) := by decide +kernel
theorem dL_law_313 : decode cL_law 313 = .ok (.iconst 0, 1) := by decide +kernel
theorem dL_law_314 : decode cL_law 314 = .ok (.ireturn, 1) := by decide +kernel
theorem dL_law_315 : decode cL_law 315 = .ok (.goto 84, 3) := by decide +kernel
theorem dL_law_318 : decode cL_law 318 = .ok (.aload_n 1, 1) := by decide +kernel
theorem dL_law_319 : decode cL_law 319 = .ok (.aload_n 0, 1) := by decide +kernel
theorem dL_law_320 : decode cL_law 320 = .ok (.iload 4, 2) := by decide +kernel
theorem dL_law_322 : decode cL_law 322 = .ok (.iconst 1, 1) := by decide +kernel
theorem dL_law_323 : decode cL_law 323 = .ok (.iadd, 1) := by decide +kernel
theorem dL_law_324 : decode cL_law 324 = .ok (.iaload, 1) := by decide +kernel
theorem dL_law_325 : decode cL_law 325 = .ok (.aload_n 3, 1) := by decide +kernel
theorem dL_law_326 : decode cL_law 326 = .ok (.invokestatic 59, 3) := by decide +kernel
theorem dL_law_329 : decode cL_law 329 = .ok (.istore 5, 2) := by decide +kernel
theorem dL_law_331 : decode cL_law 331 = .ok (.aload_n 2, 1) := by decide +kernel
theorem dL_law_332 : decode cL_law 332 = .ok (.aload_n 0, 1) := by decide +kernel
theorem dL_law_333 : decode cL_law 333 = .ok (.iload 4, 2) := by decide +kernel
theorem dL_law_335 : decode cL_law 335 = .ok (.iconst 1, 1) := by decide +kernel
theorem dL_law_336 : decode cL_law 336 = .ok (.iadd, 1) := by decide +kernel
theorem dL_law_337 : decode cL_law 337 = .ok (.iaload, 1) := by decide +kernel
theorem dL_law_338 : decode cL_law 338 = .ok (.invokevirtual 61, 3) := by decide +kernel
theorem dL_law_341 : decode cL_law 341 = .ok (.istore 6, 2) := by decide +kernel
theorem dL_law_343 : decode cL_law 343 = .ok (.aload_n 2, 1) := by decide +kernel
theorem dL_law_344 : decode cL_law 344 = .ok (.invokevirtual 52, 3) := by decide +kernel
theorem dL_law_347 : decode cL_law 347 = .ok (.iload 5, 2) := by decide +kernel
theorem dL_law_349 : decode cL_law 349 = .ok (.if_icmp .eq 5, 3) := by decide +kernel
theorem dL_law_352 : decode cL_law 352 = .ok (.iconst 0, 1) := by decide +kernel
theorem dL_law_353 : decode cL_law 353 = .ok (.ireturn, 1) := by decide +kernel
theorem dL_law_354 : decode cL_law 354 = .ok (.iload 5, 2) := by decide +kernel
theorem dL_law_356 : decode cL_law 356 = .ok (.ifCond .ne 15, 3) := by decide +kernel
theorem dL_law_359 : decode cL_law 359 = .ok (.aload_n 3, 1) := by decide +kernel
theorem dL_law_360 : decode cL_law 360 = .ok (.iconst 0, 1) := by decide +kernel
theorem dL_law_361 : decode cL_law 361 = .ok (.laload, 1) := by decide +kernel
theorem dL_law_362 : decode cL_law 362 = .ok (.iload 6, 2) := by decide +kernel
theorem dL_law_364 : decode cL_law 364 = .ok (.i2l, 1) := by decide +kernel
theorem dL_law_365 : decode cL_law 365 = .ok (.lcmp, 1) := by decide +kernel
theorem dL_law_366 : decode cL_law 366 = .ok (.ifCond .eq 5, 3) := by decide +kernel
theorem dL_law_369 : decode cL_law 369 = .ok (.iconst 0, 1) := by decide +kernel
theorem dL_law_370 : decode cL_law 370 = .ok (.ireturn, 1) := by decide +kernel
theorem dL_law_371 : decode cL_law 371 = .ok (.goto 28, 3) := by decide +kernel
theorem dL_law_374 : decode cL_law 374 = .ok (.aload_n 1, 1) := by decide +kernel
theorem dL_law_375 : decode cL_law 375 = .ok (.aload_n 0, 1) := by decide +kernel
theorem dL_law_376 : decode cL_law 376 = .ok (.iload 4, 2) := by decide +kernel
theorem dL_law_378 : decode cL_law 378 = .ok (.iconst 1, 1) := by decide +kernel
theorem dL_law_379 : decode cL_law 379 = .ok (.iadd, 1) := by decide +kernel
theorem dL_law_380 : decode cL_law 380 = .ok (.iaload, 1) := by decide +kernel
theorem dL_law_381 : decode cL_law 381 = .ok (.invokevirtual 62, 3) := by decide +kernel
theorem dL_law_384 : decode cL_law 384 = .ok (.aload_n 2, 1) := by decide +kernel
theorem dL_law_385 : decode cL_law 385 = .ok (.aload_n 0, 1) := by decide +kernel
theorem dL_law_386 : decode cL_law 386 = .ok (.iload 4, 2) := by decide +kernel
theorem dL_law_388 : decode cL_law 388 = .ok (.iconst 1, 1) := by decide +kernel
theorem dL_law_389 : decode cL_law 389 = .ok (.iadd, 1) := by decide +kernel
theorem dL_law_390 : decode cL_law 390 = .ok (.iaload, 1) := by decide +kernel
theorem dL_law_391 : decode cL_law 391 = .ok (.invokevirtual 65, 3) := by decide +kernel
theorem dL_law_394 : decode cL_law 394 = .ok (.if_icmp .eq 5, 3) := by decide +kernel
theorem dL_law_397 : decode cL_law 397 = .ok (.iconst 0, 1) := by decide +kernel
theorem dL_law_398 : decode cL_law 398 = .ok (.ireturn, 1) := by decide +kernel
theorem dL_law_399 : decode cL_law 399 = .ok (.iinc 4 3, 3) := by decide +kernel
theorem dL_law_402 : decode cL_law 402 = .ok (.goto (-379), 3) := by decide +kernel
theorem dL_law_405 : decode cL_law 405 = .ok (.iconst 1, 1) := by decide +kernel
theorem dL_law_406 : decode cL_law 406 = .ok (.ireturn, 1) := by decide +kernel
abbrev vwCl : List vw_C := [(RX2, TX2, 16), (RX3, TX3, 21)]
