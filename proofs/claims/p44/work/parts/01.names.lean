-- ===== PART A: goes FIRST, ahead of the names: the tables' words, and 'selects' of the private methods out of them =====
/-- a private method of a class that the tables say can be made, by its rows of tables_1 -/
def lw_okq (q : MethodName × Nat) : Prop := (q.1.cls ≠ "java/lang/invoke/MethodHandle" ∧ q.1.cls ≠ "java/lang/invoke/VarHandle") ∧ Cond.instantiable q.1.cls q.2 ∈ tables_1 ∧ Cond.privateMethod q.1 ∈ tables_1 ∧ Cond.instanceMethod q.1 ∈ tables_1
theorem lw_p0 : lw_okq (⟨"SiphonsBench", "told", "(I)I"⟩, 10) := ⟨⟨by decide +kernel, by decide +kernel⟩, List.mem_of_getElem? (i := 31) (by decide +kernel), List.mem_of_getElem? (i := 29) (by decide +kernel), List.mem_of_getElem? (i := 30) (by decide +kernel)⟩
theorem lw_p1 : lw_okq (⟨"SiphonsBench", "refuse", "(I)I"⟩, 10) := ⟨⟨by decide +kernel, by decide +kernel⟩, List.mem_of_getElem? (i := 31) (by decide +kernel), List.mem_of_getElem? (i := 34) (by decide +kernel), List.mem_of_getElem? (i := 35) (by decide +kernel)⟩
theorem lw_p2 : lw_okq (⟨"SiphonsBench$Bench", "turn", "(LSiphonsBench$Pipe;)V"⟩, 9) := ⟨⟨by decide +kernel, by decide +kernel⟩, List.mem_of_getElem? (i := 58) (by decide +kernel), List.mem_of_getElem? (i := 56) (by decide +kernel), List.mem_of_getElem? (i := 57) (by decide +kernel)⟩
theorem lw_p3 : lw_okq (⟨"SiphonsBench$Pipe", "wish", "(I)I"⟩, 8) := ⟨⟨by decide +kernel, by decide +kernel⟩, List.mem_of_getElem? (i := 91) (by decide +kernel), List.mem_of_getElem? (i := 89) (by decide +kernel), List.mem_of_getElem? (i := 90) (by decide +kernel)⟩
theorem lw_p4 : lw_okq (⟨"SiphonsBench$Bench", "spill", "(I)V"⟩, 9) := ⟨⟨by decide +kernel, by decide +kernel⟩, List.mem_of_getElem? (i := 58) (by decide +kernel), List.mem_of_getElem? (i := 103) (by decide +kernel), List.mem_of_getElem? (i := 104) (by decide +kernel)⟩
theorem lw_p5 : lw_okq (⟨"SiphonsBench", "refuseLong", "(I)J"⟩, 10) := ⟨⟨by decide +kernel, by decide +kernel⟩, List.mem_of_getElem? (i := 31) (by decide +kernel), List.mem_of_getElem? (i := 131) (by decide +kernel), List.mem_of_getElem? (i := 132) (by decide +kernel)⟩
theorem lw_p6 : lw_okq (⟨"SiphonsBench$Mind", "pass", "(I)V"⟩, 6) := ⟨⟨by decide +kernel, by decide +kernel⟩, List.mem_of_getElem? (i := 162) (by decide +kernel), List.mem_of_getElem? (i := 160) (by decide +kernel), List.mem_of_getElem? (i := 161) (by decide +kernel)⟩
theorem lw_p7 : lw_okq (⟨"SiphonsBench$Mind", "sumpWithout", "(LSiphonsBench$Bench;II)I"⟩, 6) := ⟨⟨by decide +kernel, by decide +kernel⟩, List.mem_of_getElem? (i := 162) (by decide +kernel), List.mem_of_getElem? (i := 182) (by decide +kernel), List.mem_of_getElem? (i := 183) (by decide +kernel)⟩
theorem lw_p8 : lw_okq (⟨"SiphonsBench$Mind", "spillsWithout", "(LSiphonsBench$Bench;II)Z"⟩, 6) := ⟨⟨by decide +kernel, by decide +kernel⟩, List.mem_of_getElem? (i := 162) (by decide +kernel), List.mem_of_getElem? (i := 197) (by decide +kernel), List.mem_of_getElem? (i := 198) (by decide +kernel)⟩
theorem lw_p9 : lw_okq (⟨"SiphonsBench$Mind", "goesAsTold", "(LSiphonsBench$Pipe;LSiphonsBench$Row;)Z"⟩, 6) := ⟨⟨by decide +kernel, by decide +kernel⟩, List.mem_of_getElem? (i := 162) (by decide +kernel), List.mem_of_getElem? (i := 251) (by decide +kernel), List.mem_of_getElem? (i := 252) (by decide +kernel)⟩
theorem lw_p10 : lw_okq (⟨"SiphonsBench$Bench", "hasMouth", "(II)Z"⟩, 9) := ⟨⟨by decide +kernel, by decide +kernel⟩, List.mem_of_getElem? (i := 58) (by decide +kernel), List.mem_of_getElem? (i := 561) (by decide +kernel), List.mem_of_getElem? (i := 562) (by decide +kernel)⟩
def lw_privs_1 : List (MethodName × Nat) := [(⟨"SiphonsBench", "told", "(I)I"⟩, 10), (⟨"SiphonsBench", "refuse", "(I)I"⟩, 10), (⟨"SiphonsBench$Bench", "turn", "(LSiphonsBench$Pipe;)V"⟩, 9), (⟨"SiphonsBench$Pipe", "wish", "(I)I"⟩, 8), (⟨"SiphonsBench$Bench", "spill", "(I)V"⟩, 9), (⟨"SiphonsBench", "refuseLong", "(I)J"⟩, 10), (⟨"SiphonsBench$Mind", "pass", "(I)V"⟩, 6), (⟨"SiphonsBench$Mind", "sumpWithout", "(LSiphonsBench$Bench;II)I"⟩, 6), (⟨"SiphonsBench$Mind", "spillsWithout", "(LSiphonsBench$Bench;II)Z"⟩, 6), (⟨"SiphonsBench$Mind", "goesAsTold", "(LSiphonsBench$Pipe;LSiphonsBench$Row;)Z"⟩, 6), (⟨"SiphonsBench$Bench", "hasMouth", "(II)Z"⟩, 9)]
theorem lw_r1 : ∀ q ∈ lw_privs_1, lw_okq q := List.forall_mem_cons.mpr ⟨lw_p0, List.forall_mem_cons.mpr ⟨lw_p1, List.forall_mem_cons.mpr ⟨lw_p2, List.forall_mem_cons.mpr ⟨lw_p3, List.forall_mem_cons.mpr ⟨lw_p4, List.forall_mem_cons.mpr ⟨lw_p5, List.forall_mem_cons.mpr ⟨lw_p6, List.forall_mem_cons.mpr ⟨lw_p7, List.forall_mem_cons.mpr ⟨lw_p8, List.forall_mem_cons.mpr ⟨lw_p9, List.forall_mem_cons.mpr ⟨lw_p10, fun _ h => absurd h List.not_mem_nil⟩⟩⟩⟩⟩⟩⟩⟩⟩⟩⟩
def lw_privs : List (MethodName × Nat) := lw_privs_1
def lw_tbl : List Cond := k2_sels lw_privs ++ tables_1
theorem lw_privs_ok : ∀ q ∈ lw_privs, lw_okq q := lw_r1
-- ===== end of PART A; then your names; then what follows =====
def RX0 : String := "SiphonsBench$Bench"
def TX0 : u_T := fun k => match k with
  | 0 => ("SiphonsBench$Bench", "vessels", "[LSiphonsBench$Vessel;", true)
  | 1 => ("SiphonsBench$Bench", "pipes", "[LSiphonsBench$Pipe;", true)
  | 2 => ("SiphonsBench$Bench", "vesselCount", "I", false)
  | 3 => ("SiphonsBench$Bench", "pipeCount", "I", false)
  | 4 => ("SiphonsBench$Bench", "sump", "I", false)
  | 5 => ("SiphonsBench$Bench", "step", "I", false)
  | 6 => ("SiphonsBench$Bench", "out", "I", false)
  | 7 => ("SiphonsBench$Bench", "lost", "I", false)
  | _ => ("SiphonsBench$Bench", "lostBits", "I", false)
def tyX0 : Nat → FieldType := fun k => match k with
  | 0 => .array (.object "SiphonsBench$Vessel")
  | 1 => .array (.object "SiphonsBench$Pipe")
  | 2 => .int
  | 3 => .int
  | 4 => .int
  | 5 => .int
  | 6 => .int
  | 7 => .int
  | _ => .int
abbrev wsX00 : List Cond := u_ws RX0 TX0 9
theorem nmX0 : ∀ a, a < 9 → ∀ b, b < 9 → a ≠ b → (TX0 a).2.1 ≠ (TX0 b).2.1 := by decide +kernel
theorem tyX0_ok : ∀ k, k < 9 → parseFieldDescriptor (TX0 k).2.2.1 = some (tyX0 k) := by decide +kernel
abbrev cX0_init : ByteArray := prog_2_method_1_code
def yX0_init : MethodName := ⟨RX0, "<init>", "()V"⟩
abbrev cX0_copy : ByteArray := prog_2_method_2_code
def yX0_copy : MethodName := ⟨RX0, "copy", "(LSiphonsBench$Bench;)V"⟩
abbrev cX0_hasVessel : ByteArray := prog_2_method_3_code
def yX0_hasVessel : MethodName := ⟨RX0, "hasVessel", "(I)Z"⟩
abbrev cX0_hasPipe : ByteArray := prog_2_method_4_code
def yX0_hasPipe : MethodName := ⟨RX0, "hasPipe", "(I)Z"⟩
abbrev cX0_addVessel : ByteArray := prog_2_method_5_code
def yX0_addVessel : MethodName := ⟨RX0, "addVessel", "(III)I"⟩
abbrev cX0_addPipe : ByteArray := prog_2_method_6_code
def yX0_addPipe : MethodName := ⟨RX0, "addPipe", "(IIIII)I"⟩
abbrev cX0_hasMouth : ByteArray := prog_2_method_7_code
def yX0_hasMouth : MethodName := ⟨RX0, "hasMouth", "(II)Z"⟩
abbrev cX0_changeKind : ByteArray := prog_2_method_8_code
def yX0_changeKind : MethodName := ⟨RX0, "changeKind", "(III)I"⟩
abbrev cX0_changeWater : ByteArray := prog_2_method_9_code
def yX0_changeWater : MethodName := ⟨RX0, "changeWater", "(II)I"⟩
abbrev cX0_changeTap : ByteArray := prog_2_method_10_code
def yX0_changeTap : MethodName := ⟨RX0, "changeTap", "(II)I"⟩
abbrev cX0_passSteps : ByteArray := prog_2_method_11_code
def yX0_passSteps : MethodName := ⟨RX0, "passSteps", "(I)I"⟩
abbrev cX0_passStep : ByteArray := prog_2_method_12_code
def yX0_passStep : MethodName := ⟨RX0, "passStep", "()V"⟩
abbrev cX0_spill : ByteArray := prog_2_method_13_code
def yX0_spill : MethodName := ⟨RX0, "spill", "(I)V"⟩
abbrev cX0_turn : ByteArray := prog_2_method_14_code
def yX0_turn : MethodName := ⟨RX0, "turn", "(LSiphonsBench$Pipe;)V"⟩
abbrev cX0_wouldGo : ByteArray := prog_2_method_15_code
def yX0_wouldGo : MethodName := ⟨RX0, "wouldGo", "(LSiphonsBench$Pipe;)I"⟩
abbrev cX0_crestOf : ByteArray := prog_2_method_16_code
def yX0_crestOf : MethodName := ⟨RX0, "crestOf", "(LSiphonsBench$Pipe;)I"⟩
abbrev cX0_runBits : ByteArray := prog_2_method_17_code
def yX0_runBits : MethodName := ⟨RX0, "runBits", "()I"⟩
def RX1 : String := "SiphonsBench$Letters"
def TX1 : u_T := fun k => match k with
  | 0 => ("SiphonsBench$Letters", "signs", "[I", true)
  | 1 => ("SiphonsBench$Letters", "size", "I", false)
  | 2 => ("SiphonsBench$Letters", "place", "I", false)
  | _ => ("SiphonsBench$Letters", "numbers", "[I", true)
def tyX1 : Nat → FieldType := fun k => match k with
  | 0 => .array .int
  | 1 => .int
  | 2 => .int
  | _ => .array .int
abbrev wsX10 : List Cond := u_ws RX1 TX1 4
theorem nmX1 : ∀ a, a < 4 → ∀ b, b < 4 → a ≠ b → (TX1 a).2.1 ≠ (TX1 b).2.1 := by decide +kernel
theorem tyX1_ok : ∀ k, k < 4 → parseFieldDescriptor (TX1 k).2.2.1 = some (tyX1 k) := by decide +kernel
abbrev cX1_init : ByteArray := prog_3_method_1_code
def yX1_init : MethodName := ⟨RX1, "<init>", "()V"⟩
def RX2 : String := "SiphonsBench$Mind"
def TX2 : u_T := fun k => match k with
  | 0 => ("SiphonsBench$Mind", "bench", "LSiphonsBench$Bench;", true)
  | 1 => ("SiphonsBench$Mind", "traces", "[J", true)
  | 2 => ("SiphonsBench$Mind", "earlier", "I", false)
  | 3 => ("SiphonsBench$Mind", "lotsLost", "I", false)
  | 4 => ("SiphonsBench$Mind", "lotsRun", "I", false)
  | _ => ("SiphonsBench$Mind", "seed", "I", false)
def tyX2 : Nat → FieldType := fun k => match k with
  | 0 => .object "SiphonsBench$Bench"
  | 1 => .array .long
  | 2 => .int
  | 3 => .int
  | 4 => .int
  | _ => .int
abbrev wsX20 : List Cond := u_ws RX2 TX2 6
theorem nmX2 : ∀ a, a < 6 → ∀ b, b < 6 → a ≠ b → (TX2 a).2.1 ≠ (TX2 b).2.1 := by decide +kernel
theorem tyX2_ok : ∀ k, k < 6 → parseFieldDescriptor (TX2 k).2.2.1 = some (tyX2 k) := by decide +kernel
abbrev cX2_init : ByteArray := prog_4_method_1_code
def yX2_init : MethodName := ⟨RX2, "<init>", "()V"⟩
abbrev cX2_after : ByteArray := prog_4_method_2_code
def yX2_after : MethodName := ⟨RX2, "after", "(LSiphonsBench$Bench;I)LSiphonsBench$Bench;"⟩
abbrev cX2_pass : ByteArray := prog_4_method_3_code
def yX2_pass : MethodName := ⟨RX2, "pass", "(I)V"⟩
abbrev cX2_firstOver : ByteArray := prog_4_method_4_code
def yX2_firstOver : MethodName := ⟨RX2, "firstOver", "(LSiphonsBench$Bench;I)I"⟩
abbrev cX2_mostMissed : ByteArray := prog_4_method_14_code
def yX2_mostMissed : MethodName := ⟨RX2, "mostMissed", "(LSiphonsBench$Bench;I)I"⟩
abbrev cX2_sumpWithout : ByteArray := prog_4_method_15_code
def yX2_sumpWithout : MethodName := ⟨RX2, "sumpWithout", "(LSiphonsBench$Bench;II)I"⟩
abbrev cX2_leakingCases : ByteArray := prog_4_method_17_code
def yX2_leakingCases : MethodName := ⟨RX2, "leakingCases", "(LSiphonsBench$Bench;II)J"⟩
abbrev cX2_spillsWithout : ByteArray := prog_4_method_18_code
def yX2_spillsWithout : MethodName := ⟨RX2, "spillsWithout", "(LSiphonsBench$Bench;II)Z"⟩
abbrev cX2_firstOtherwise : ByteArray := prog_4_method_19_code
def yX2_firstOtherwise : MethodName := ⟨RX2, "firstOtherwise", "(LSiphonsBench$Bench;LSiphonsBench$Row;)I"⟩
abbrev cX2_kindsThatGo : ByteArray := prog_4_method_20_code
def yX2_kindsThatGo : MethodName := ⟨RX2, "kindsThatGo", "(LSiphonsBench$Bench;ILSiphonsBench$Row;)I"⟩
abbrev cX2_figuresThatGo : ByteArray := prog_4_method_21_code
def yX2_figuresThatGo : MethodName := ⟨RX2, "figuresThatGo", "(LSiphonsBench$Bench;ILSiphonsBench$Row;)I"⟩
abbrev cX2_goesAsTold : ByteArray := prog_4_method_22_code
def yX2_goesAsTold : MethodName := ⟨RX2, "goesAsTold", "(LSiphonsBench$Pipe;LSiphonsBench$Row;)Z"⟩
def RX3 : String := "SiphonsBench$Pipe"
def TX3 : u_T := fun k => match k with
  | 0 => ("SiphonsBench$Pipe", "first", "I", false)
  | 1 => ("SiphonsBench$Pipe", "second", "I", false)
  | 2 => ("SiphonsBench$Pipe", "mouth", "I", false)
  | 3 => ("SiphonsBench$Pipe", "other", "I", false)
  | 4 => ("SiphonsBench$Pipe", "rate", "I", false)
  | 5 => ("SiphonsBench$Pipe", "kind", "I", false)
  | 6 => ("SiphonsBench$Pipe", "figure", "I", false)
  | _ => ("SiphonsBench$Pipe", "runs", "Z", false)
def tyX3 : Nat → FieldType := fun k => match k with
  | 0 => .int
  | 1 => .int
  | 2 => .int
  | 3 => .int
  | 4 => .int
  | 5 => .int
  | 6 => .int
  | _ => .boolean
abbrev wsX30 : List Cond := u_ws RX3 TX3 8
theorem nmX3 : ∀ a, a < 8 → ∀ b, b < 8 → a ≠ b → (TX3 a).2.1 ≠ (TX3 b).2.1 := by decide +kernel
theorem tyX3_ok : ∀ k, k < 8 → parseFieldDescriptor (TX3 k).2.2.1 = some (tyX3 k) := by decide +kernel
abbrev cX3_init : ByteArray := prog_5_method_1_code
def yX3_init : MethodName := ⟨RX3, "<init>", "()V"⟩
abbrev cX3_copy : ByteArray := prog_5_method_2_code
def yX3_copy : MethodName := ⟨RX3, "copy", "(LSiphonsBench$Pipe;)V"⟩
abbrev cX3_isSiphon : ByteArray := prog_5_method_3_code
def yX3_isSiphon : MethodName := ⟨RX3, "isSiphon", "()Z"⟩
abbrev cX3_crest : ByteArray := prog_5_method_4_code
def yX3_crest : MethodName := ⟨RX3, "crest", "(LSiphonsBench$Vessel;)I"⟩
abbrev cX3_isAtCrest : ByteArray := prog_5_method_5_code
def yX3_isAtCrest : MethodName := ⟨RX3, "isAtCrest", "(LSiphonsBench$Vessel;)Z"⟩
abbrev cX3_flow : ByteArray := prog_5_method_6_code
def yX3_flow : MethodName := ⟨RX3, "flow", "(LSiphonsBench$Vessel;LSiphonsBench$Vessel;I)I"⟩
abbrev cX3_wish : ByteArray := prog_5_method_7_code
def yX3_wish : MethodName := ⟨RX3, "wish", "(I)I"⟩
def RX4 : String := "SiphonsBench$Row"
def TX4 : u_T := fun k => match k with
  | 0 => ("SiphonsBench$Row", "places", "[I", true)
  | _ => ("SiphonsBench$Row", "size", "I", false)
def tyX4 : Nat → FieldType := fun k => match k with
  | 0 => .array .int
  | _ => .int
abbrev wsX40 : List Cond := u_ws RX4 TX4 2
theorem nmX4 : ∀ a, a < 2 → ∀ b, b < 2 → a ≠ b → (TX4 a).2.1 ≠ (TX4 b).2.1 := by decide +kernel
theorem tyX4_ok : ∀ k, k < 2 → parseFieldDescriptor (TX4 k).2.2.1 = some (tyX4 k) := by decide +kernel
abbrev cX4_init : ByteArray := prog_6_method_1_code
def yX4_init : MethodName := ⟨RX4, "<init>", "(I)V"⟩
abbrev cX4_isMissing : ByteArray := prog_6_method_2_code
def yX4_isMissing : MethodName := ⟨RX4, "isMissing", "()Z"⟩
abbrev cX4_hasPlace : ByteArray := prog_6_method_3_code
def yX4_hasPlace : MethodName := ⟨RX4, "hasPlace", "(I)Z"⟩
abbrev cX4_become : ByteArray := prog_6_method_4_code
def yX4_become : MethodName := ⟨RX4, "become", "(II)V"⟩
def RX5 : String := "SiphonsBench$Vessel"
def TX5 : u_T := fun k => match k with
  | 0 => ("SiphonsBench$Vessel", "area", "I", false)
  | 1 => ("SiphonsBench$Vessel", "base", "I", false)
  | 2 => ("SiphonsBench$Vessel", "rim", "I", false)
  | 3 => ("SiphonsBench$Vessel", "water", "I", false)
  | _ => ("SiphonsBench$Vessel", "tap", "I", false)
def tyX5 : Nat → FieldType := fun k => match k with
  | 0 => .int
  | 1 => .int
  | 2 => .int
  | 3 => .int
  | _ => .int
abbrev wsX50 : List Cond := u_ws RX5 TX5 5
theorem nmX5 : ∀ a, a < 5 → ∀ b, b < 5 → a ≠ b → (TX5 a).2.1 ≠ (TX5 b).2.1 := by decide +kernel
theorem tyX5_ok : ∀ k, k < 5 → parseFieldDescriptor (TX5 k).2.2.1 = some (tyX5 k) := by decide +kernel
abbrev cX5_init : ByteArray := prog_7_method_1_code
def yX5_init : MethodName := ⟨RX5, "<init>", "()V"⟩
abbrev cX5_copy : ByteArray := prog_7_method_2_code
def yX5_copy : MethodName := ⟨RX5, "copy", "(LSiphonsBench$Vessel;)V"⟩
abbrev cX5_brim : ByteArray := prog_7_method_3_code
def yX5_brim : MethodName := ⟨RX5, "brim", "()I"⟩
abbrev cX5_height : ByteArray := prog_7_method_4_code
def yX5_height : MethodName := ⟨RX5, "height", "()I"⟩
abbrev cX5_head : ByteArray := prog_7_method_5_code
def yX5_head : MethodName := ⟨RX5, "head", "(I)I"⟩
abbrev cX5_waterAbove : ByteArray := prog_7_method_6_code
def yX5_waterAbove : MethodName := ⟨RX5, "waterAbove", "(I)I"⟩
def RX6 : String := "SiphonsBench"
def TX6 : u_T := fun k => match k with
  | 0 => ("SiphonsBench", "now", "LSiphonsBench$Bench;", true)
  | 1 => ("SiphonsBench", "kept", "LSiphonsBench$Bench;", true)
  | 2 => ("SiphonsBench", "keeps", "Z", false)
  | 3 => ("SiphonsBench", "trial", "LSiphonsBench$Bench;", true)
  | 4 => ("SiphonsBench", "mind", "LSiphonsBench$Mind;", true)
  | 5 => ("SiphonsBench", "letters", "LSiphonsBench$Letters;", true)
  | 6 => ("SiphonsBench", "lists", "[LSiphonsBench$Row;", true)
  | 7 => ("SiphonsBench", "rackRows", "[LSiphonsBench$Row;", true)
  | 8 => ("SiphonsBench", "rackKinds", "[I", true)
  | _ => ("SiphonsBench", "refusals", "[I", true)
def tyX6 : Nat → FieldType := fun k => match k with
  | 0 => .object "SiphonsBench$Bench"
  | 1 => .object "SiphonsBench$Bench"
  | 2 => .boolean
  | 3 => .object "SiphonsBench$Bench"
  | 4 => .object "SiphonsBench$Mind"
  | 5 => .object "SiphonsBench$Letters"
  | 6 => .array (.object "SiphonsBench$Row")
  | 7 => .array (.object "SiphonsBench$Row")
  | 8 => .array .int
  | _ => .array .int
abbrev wsX60 : List Cond := u_ws RX6 TX6 10
theorem nmX6 : ∀ a, a < 10 → ∀ b, b < 10 → a ≠ b → (TX6 a).2.1 ≠ (TX6 b).2.1 := by decide +kernel
theorem tyX6_ok : ∀ k, k < 10 → parseFieldDescriptor (TX6 k).2.2.1 = some (tyX6 k) := by decide +kernel
abbrev cX6_init : ByteArray := prog_1_method_1_code
def yX6_init : MethodName := ⟨RX6, "<init>", "()V"⟩
abbrev cX6_vessel : ByteArray := prog_1_method_4_code
def yX6_vessel : MethodName := ⟨RX6, "vessel", "(III)I"⟩
abbrev cX6_pipe : ByteArray := prog_1_method_5_code
def yX6_pipe : MethodName := ⟨RX6, "pipe", "(IIIII)I"⟩
abbrev cX6_kind : ByteArray := prog_1_method_6_code
def yX6_kind : MethodName := ⟨RX6, "kind", "(III)I"⟩
abbrev cX6_rate : ByteArray := prog_1_method_7_code
def yX6_rate : MethodName := ⟨RX6, "rate", "(II)I"⟩
abbrev cX6_water : ByteArray := prog_1_method_8_code
def yX6_water : MethodName := ⟨RX6, "water", "(II)I"⟩
abbrev cX6_tap : ByteArray := prog_1_method_9_code
def yX6_tap : MethodName := ⟨RX6, "tap", "(II)I"⟩
abbrev cX6_passes : ByteArray := prog_1_method_10_code
def yX6_passes : MethodName := ⟨RX6, "passes", "(I)I"⟩
abbrev cX6_of : ByteArray := prog_1_method_11_code
def yX6_of : MethodName := ⟨RX6, "of", "(II)I"⟩
abbrev cX6_ofPipe : ByteArray := prog_1_method_12_code
def yX6_ofPipe : MethodName := ⟨RX6, "ofPipe", "(II)I"⟩
abbrev cX6_goes : ByteArray := prog_1_method_14_code
def yX6_goes : MethodName := ⟨RX6, "goes", "(I)J"⟩
abbrev cX6_then : ByteArray := prog_1_method_15_code
def yX6_then : MethodName := ⟨RX6, "then", "(III)I"⟩
abbrev cX6_over : ByteArray := prog_1_method_16_code
def yX6_over : MethodName := ⟨RX6, "over", "(I)I"⟩
abbrev cX6_matters : ByteArray := prog_1_method_23_code
def yX6_matters : MethodName := ⟨RX6, "matters", "(I)I"⟩
abbrev cX6_leak : ByteArray := prog_1_method_28_code
def yX6_leak : MethodName := ⟨RX6, "leak", "(III)J"⟩
abbrev cX6_all : ByteArray := prog_1_method_29_code
def yX6_all : MethodName := ⟨RX6, "all", "()I"⟩
abbrev cX6_judge : ByteArray := prog_1_method_30_code
def yX6_judge : MethodName := ⟨RX6, "judge", "(I)I"⟩
abbrev cX6_whatIs : ByteArray := prog_1_method_31_code
def yX6_whatIs : MethodName := ⟨RX6, "whatIs", "(III)I"⟩
abbrev cX6_list : ByteArray := prog_1_method_33_code
def yX6_list : MethodName := ⟨RX6, "list", "(II)I"⟩
abbrev cX6_put : ByteArray := prog_1_method_34_code
def yX6_put : MethodName := ⟨RX6, "put", "(III)I"⟩
abbrev cX6_lays : ByteArray := prog_1_method_35_code
def yX6_lays : MethodName := ⟨RX6, "lays", "(II)I"⟩
abbrev cX6_image : ByteArray := prog_1_method_40_code
def yX6_image : MethodName := ⟨RX6, "image", "()I"⟩
abbrev cX6_on : ByteArray := prog_1_method_41_code
def yX6_on : MethodName := ⟨RX6, "on", "()I"⟩
abbrev cX6_count : ByteArray := prog_1_method_42_code
def yX6_count : MethodName := ⟨RX6, "count", "(I)I"⟩
abbrev cX6_refuse : ByteArray := prog_1_method_43_code
def yX6_refuse : MethodName := ⟨RX6, "refuse", "(I)I"⟩
abbrev cX6_refuseLong : ByteArray := prog_1_method_44_code
def yX6_refuseLong : MethodName := ⟨RX6, "refuseLong", "(I)J"⟩
abbrev cX6_told : ByteArray := prog_1_method_45_code
def yX6_told : MethodName := ⟨RX6, "told", "(I)I"⟩
abbrev cX6_outside : ByteArray := prog_1_method_47_code
def yX6_outside : MethodName := ⟨RX6, "outside", "(III)I"⟩
abbrev cX6_isList : ByteArray := prog_1_method_48_code
def yX6_isList : MethodName := ⟨RX6, "isList", "(I)Z"⟩
abbrev cX6_isKind : ByteArray := prog_1_method_50_code
def yX6_isKind : MethodName := ⟨RX6, "isKind", "(I)Z"⟩
abbrev cX6_partOf : ByteArray := prog_1_method_52_code
def yX6_partOf : MethodName := ⟨RX6, "partOf", "(JJI)J"⟩
abbrev cX6_greatestDivisor : ByteArray := prog_1_method_53_code
def yX6_greatestDivisor : MethodName := ⟨RX6, "greatestDivisor", "(JJ)J"⟩
abbrev cX6_power : ByteArray := prog_1_method_54_code
def yX6_power : MethodName := ⟨RX6, "power", "(JI)J"⟩
def RX7 : String := "SiphonsBenchModel"
def TX7 : u_T := fun k => match k with
  | _ => ("", "", "", false)
def tyX7 : Nat → FieldType := fun k => match k with
  | _ => .int
abbrev wsX70 : List Cond := u_ws RX7 TX7 0
theorem nmX7 : ∀ a, a < 0 → ∀ b, b < 0 → a ≠ b → (TX7 a).2.1 ≠ (TX7 b).2.1 := by decide +kernel
theorem tyX7_ok : ∀ k, k < 0 → parseFieldDescriptor (TX7 k).2.2.1 = some (tyX7 k) := by decide +kernel
def RJ6 : String := "java/lang/Integer"
abbrev cJ6_bitCount_0f7a4 : ByteArray := prog_10_method_49_code
def yJ6_bitCount_0f7a4 : MethodName := ⟨RJ6, "bitCount", "(I)I"⟩
def RJ9 : String := "java/lang/Math"
abbrev cJ9_abs_0f7a4 : ByteArray := prog_11_method_59_code
def yJ9_abs_0f7a4 : MethodName := ⟨RJ9, "abs", "(I)I"⟩
abbrev cJ9_min_7cf53 : ByteArray := prog_11_method_69_code
def yJ9_min_7cf53 : MethodName := ⟨RJ9, "min", "(II)I"⟩
def RL : String := "SiphonsBenchLaw"
abbrev cL_at : ByteArray := method_2_code
def yL_at : MethodName := ⟨RL, "at", "([II)I"⟩
abbrev cL_build : ByteArray := method_3_code
def yL_build : MethodName := ⟨RL, "build", "([I)LSiphonsBench;"⟩
abbrev cL_law : ByteArray := code
def yL_law : MethodName := ⟨RL, "law", "([I)Z"⟩
abbrev vwCl : List vw_C := [(RX0, TX0, 9), (RX1, TX1, 4), (RX2, TX2, 6), (RX3, TX3, 8), (RX4, TX4, 2), (RX5, TX5, 5), (RX6, TX6, 10)]
