-- ===== PART A: goes FIRST, ahead of the names: the tables' words, and 'selects' of the private methods out of them =====
/-- a private method of a class that the tables say can be made, by its rows of tables_1 -/
def lw_okq (q : MethodName × Nat) : Prop := (q.1.cls ≠ "java/lang/invoke/MethodHandle" ∧ q.1.cls ≠ "java/lang/invoke/VarHandle") ∧ Cond.instantiable q.1.cls q.2 ∈ tables_1 ∧ Cond.privateMethod q.1 ∈ tables_1 ∧ Cond.instanceMethod q.1 ∈ tables_1
theorem lw_p0 : lw_okq (⟨"SiphonsBench", "refuse", "(I)I"⟩, 10) := ⟨⟨by decide +kernel, by decide +kernel⟩, List.mem_of_getElem? (i := 18) (by decide +kernel), List.mem_of_getElem? (i := 270) (by decide +kernel), List.mem_of_getElem? (i := 271) (by decide +kernel)⟩
theorem lw_p1 : lw_okq (⟨"SiphonsBench$Letters", "readNumber", "(I)Z"⟩, 4) := ⟨⟨by decide +kernel, by decide +kernel⟩, List.mem_of_getElem? (i := 195) (by decide +kernel), List.mem_of_getElem? (i := 359) (by decide +kernel), List.mem_of_getElem? (i := 360) (by decide +kernel)⟩
theorem lw_p2 : lw_okq (⟨"SiphonsBench", "comes", "(I)I"⟩, 10) := ⟨⟨by decide +kernel, by decide +kernel⟩, List.mem_of_getElem? (i := 18) (by decide +kernel), List.mem_of_getElem? (i := 381) (by decide +kernel), List.mem_of_getElem? (i := 382) (by decide +kernel)⟩
theorem lw_p3 : lw_okq (⟨"SiphonsBench$Bench", "hasMouth", "(II)Z"⟩, 9) := ⟨⟨by decide +kernel, by decide +kernel⟩, List.mem_of_getElem? (i := 26) (by decide +kernel), List.mem_of_getElem? (i := 397) (by decide +kernel), List.mem_of_getElem? (i := 398) (by decide +kernel)⟩
theorem lw_p4 : lw_okq (⟨"SiphonsBench$Bench", "turn", "(LSiphonsBench$Pipe;)V"⟩, 9) := ⟨⟨by decide +kernel, by decide +kernel⟩, List.mem_of_getElem? (i := 26) (by decide +kernel), List.mem_of_getElem? (i := 435) (by decide +kernel), List.mem_of_getElem? (i := 436) (by decide +kernel)⟩
theorem lw_p5 : lw_okq (⟨"SiphonsBench$Pipe", "wish", "(I)I"⟩, 8) := ⟨⟨by decide +kernel, by decide +kernel⟩, List.mem_of_getElem? (i := 71) (by decide +kernel), List.mem_of_getElem? (i := 463) (by decide +kernel), List.mem_of_getElem? (i := 464) (by decide +kernel)⟩
theorem lw_p6 : lw_okq (⟨"SiphonsBench$Bench", "spill", "(I)V"⟩, 9) := ⟨⟨by decide +kernel, by decide +kernel⟩, List.mem_of_getElem? (i := 26) (by decide +kernel), List.mem_of_getElem? (i := 476) (by decide +kernel), List.mem_of_getElem? (i := 477) (by decide +kernel)⟩
theorem lw_p7 : lw_okq (⟨"SiphonsBench", "told", "(I)I"⟩, 10) := ⟨⟨by decide +kernel, by decide +kernel⟩, List.mem_of_getElem? (i := 18) (by decide +kernel), List.mem_of_getElem? (i := 491) (by decide +kernel), List.mem_of_getElem? (i := 492) (by decide +kernel)⟩
theorem lw_p8 : lw_okq (⟨"SiphonsBench", "refuseLong", "(I)J"⟩, 10) := ⟨⟨by decide +kernel, by decide +kernel⟩, List.mem_of_getElem? (i := 18) (by decide +kernel), List.mem_of_getElem? (i := 539) (by decide +kernel), List.mem_of_getElem? (i := 540) (by decide +kernel)⟩
theorem lw_p9 : lw_okq (⟨"SiphonsBench$Mind", "pass", "(I)V"⟩, 6) := ⟨⟨by decide +kernel, by decide +kernel⟩, List.mem_of_getElem? (i := 164) (by decide +kernel), List.mem_of_getElem? (i := 568) (by decide +kernel), List.mem_of_getElem? (i := 569) (by decide +kernel)⟩
theorem lw_p10 : lw_okq (⟨"SiphonsBench$Mind", "startsInStep", "(I)Z"⟩, 6) := ⟨⟨by decide +kernel, by decide +kernel⟩, List.mem_of_getElem? (i := 164) (by decide +kernel), List.mem_of_getElem? (i := 598) (by decide +kernel), List.mem_of_getElem? (i := 599) (by decide +kernel)⟩
theorem lw_p11 : lw_okq (⟨"SiphonsBench$Mind", "runsWithin", "(II)Z"⟩, 6) := ⟨⟨by decide +kernel, by decide +kernel⟩, List.mem_of_getElem? (i := 164) (by decide +kernel), List.mem_of_getElem? (i := 637) (by decide +kernel), List.mem_of_getElem? (i := 638) (by decide +kernel)⟩
theorem lw_p12 : lw_okq (⟨"SiphonsBench$Mind", "sumpWithout", "(LSiphonsBench$Bench;II)I"⟩, 6) := ⟨⟨by decide +kernel, by decide +kernel⟩, List.mem_of_getElem? (i := 164) (by decide +kernel), List.mem_of_getElem? (i := 662) (by decide +kernel), List.mem_of_getElem? (i := 663) (by decide +kernel)⟩
theorem lw_p13 : lw_okq (⟨"SiphonsBench$Mind", "spillsWithout", "(LSiphonsBench$Bench;II)Z"⟩, 6) := ⟨⟨by decide +kernel, by decide +kernel⟩, List.mem_of_getElem? (i := 164) (by decide +kernel), List.mem_of_getElem? (i := 711) (by decide +kernel), List.mem_of_getElem? (i := 712) (by decide +kernel)⟩
theorem lw_p14 : lw_okq (⟨"SiphonsBench$Mind", "goesAsTold", "(LSiphonsBench$Pipe;LSiphonsBench$Row;)Z"⟩, 6) := ⟨⟨by decide +kernel, by decide +kernel⟩, List.mem_of_getElem? (i := 164) (by decide +kernel), List.mem_of_getElem? (i := 757) (by decide +kernel), List.mem_of_getElem? (i := 758) (by decide +kernel)⟩
theorem lw_p15 : lw_okq (⟨"SiphonsBench$Mind", "draw", "(I)I"⟩, 6) := ⟨⟨by decide +kernel, by decide +kernel⟩, List.mem_of_getElem? (i := 164) (by decide +kernel), List.mem_of_getElem? (i := 774) (by decide +kernel), List.mem_of_getElem? (i := 775) (by decide +kernel)⟩
def lw_privs_1 : List (MethodName × Nat) := [(⟨"SiphonsBench", "refuse", "(I)I"⟩, 10), (⟨"SiphonsBench$Letters", "readNumber", "(I)Z"⟩, 4), (⟨"SiphonsBench", "comes", "(I)I"⟩, 10), (⟨"SiphonsBench$Bench", "hasMouth", "(II)Z"⟩, 9), (⟨"SiphonsBench$Bench", "turn", "(LSiphonsBench$Pipe;)V"⟩, 9), (⟨"SiphonsBench$Pipe", "wish", "(I)I"⟩, 8), (⟨"SiphonsBench$Bench", "spill", "(I)V"⟩, 9), (⟨"SiphonsBench", "told", "(I)I"⟩, 10), (⟨"SiphonsBench", "refuseLong", "(I)J"⟩, 10), (⟨"SiphonsBench$Mind", "pass", "(I)V"⟩, 6), (⟨"SiphonsBench$Mind", "startsInStep", "(I)Z"⟩, 6), (⟨"SiphonsBench$Mind", "runsWithin", "(II)Z"⟩, 6), (⟨"SiphonsBench$Mind", "sumpWithout", "(LSiphonsBench$Bench;II)I"⟩, 6), (⟨"SiphonsBench$Mind", "spillsWithout", "(LSiphonsBench$Bench;II)Z"⟩, 6), (⟨"SiphonsBench$Mind", "goesAsTold", "(LSiphonsBench$Pipe;LSiphonsBench$Row;)Z"⟩, 6), (⟨"SiphonsBench$Mind", "draw", "(I)I"⟩, 6)]
theorem lw_r1 : ∀ q ∈ lw_privs_1, lw_okq q := List.forall_mem_cons.mpr ⟨lw_p0, List.forall_mem_cons.mpr ⟨lw_p1, List.forall_mem_cons.mpr ⟨lw_p2, List.forall_mem_cons.mpr ⟨lw_p3, List.forall_mem_cons.mpr ⟨lw_p4, List.forall_mem_cons.mpr ⟨lw_p5, List.forall_mem_cons.mpr ⟨lw_p6, List.forall_mem_cons.mpr ⟨lw_p7, List.forall_mem_cons.mpr ⟨lw_p8, List.forall_mem_cons.mpr ⟨lw_p9, List.forall_mem_cons.mpr ⟨lw_p10, List.forall_mem_cons.mpr ⟨lw_p11, List.forall_mem_cons.mpr ⟨lw_p12, List.forall_mem_cons.mpr ⟨lw_p13, List.forall_mem_cons.mpr ⟨lw_p14, List.forall_mem_cons.mpr ⟨lw_p15, fun _ h => absurd h List.not_mem_nil⟩⟩⟩⟩⟩⟩⟩⟩⟩⟩⟩⟩⟩⟩⟩⟩
theorem lw_p16 : lw_okq (⟨"SiphonsBenchModel", "no", "(I)I"⟩, 21) := ⟨⟨by decide +kernel, by decide +kernel⟩, List.mem_of_getElem? (i := 841) (by decide +kernel), List.mem_of_getElem? (i := 915) (by decide +kernel), List.mem_of_getElem? (i := 916) (by decide +kernel)⟩
theorem lw_p17 : lw_okq (⟨"SiphonsBenchModel", "statement", "()V"⟩, 21) := ⟨⟨by decide +kernel, by decide +kernel⟩, List.mem_of_getElem? (i := 841) (by decide +kernel), List.mem_of_getElem? (i := 923) (by decide +kernel), List.mem_of_getElem? (i := 924) (by decide +kernel)⟩
theorem lw_p18 : lw_okq (⟨"SiphonsBenchModel", "here", "()I"⟩, 21) := ⟨⟨by decide +kernel, by decide +kernel⟩, List.mem_of_getElem? (i := 841) (by decide +kernel), List.mem_of_getElem? (i := 927) (by decide +kernel), List.mem_of_getElem? (i := 928) (by decide +kernel)⟩
theorem lw_p19 : lw_okq (⟨"SiphonsBenchModel", "number", "()I"⟩, 21) := ⟨⟨by decide +kernel, by decide +kernel⟩, List.mem_of_getElem? (i := 841) (by decide +kernel), List.mem_of_getElem? (i := 948) (by decide +kernel), List.mem_of_getElem? (i := 949) (by decide +kernel)⟩
theorem lw_p20 : lw_okq (⟨"SiphonsBenchModel", "takes", "(I)V"⟩, 21) := ⟨⟨by decide +kernel, by decide +kernel⟩, List.mem_of_getElem? (i := 841) (by decide +kernel), List.mem_of_getElem? (i := 959) (by decide +kernel), List.mem_of_getElem? (i := 960) (by decide +kernel)⟩
theorem lw_p21 : lw_okq (⟨"SiphonsBenchModel", "thinks", "()V"⟩, 21) := ⟨⟨by decide +kernel, by decide +kernel⟩, List.mem_of_getElem? (i := 841) (by decide +kernel), List.mem_of_getElem? (i := 963) (by decide +kernel), List.mem_of_getElem? (i := 964) (by decide +kernel)⟩
theorem lw_p22 : lw_okq (⟨"SiphonsBenchModel", "comes", "(I)I"⟩, 21) := ⟨⟨by decide +kernel, by decide +kernel⟩, List.mem_of_getElem? (i := 841) (by decide +kernel), List.mem_of_getElem? (i := 970) (by decide +kernel), List.mem_of_getElem? (i := 971) (by decide +kernel)⟩
theorem lw_p23 : lw_okq (⟨"SiphonsBenchModel", "vesselComes", "(III)I"⟩, 21) := ⟨⟨by decide +kernel, by decide +kernel⟩, List.mem_of_getElem? (i := 841) (by decide +kernel), List.mem_of_getElem? (i := 974) (by decide +kernel), List.mem_of_getElem? (i := 975) (by decide +kernel)⟩
theorem lw_p24 : lw_okq (⟨"SiphonsBenchModel", "pipeComes", "(IIIII)I"⟩, 21) := ⟨⟨by decide +kernel, by decide +kernel⟩, List.mem_of_getElem? (i := 841) (by decide +kernel), List.mem_of_getElem? (i := 981) (by decide +kernel), List.mem_of_getElem? (i := 982) (by decide +kernel)⟩
theorem lw_p25 : lw_okq (⟨"SiphonsBenchModel", "isVessel", "(I)Z"⟩, 21) := ⟨⟨by decide +kernel, by decide +kernel⟩, List.mem_of_getElem? (i := 841) (by decide +kernel), List.mem_of_getElem? (i := 985) (by decide +kernel), List.mem_of_getElem? (i := 986) (by decide +kernel)⟩
theorem lw_p26 : lw_okq (⟨"SiphonsBenchModel", "isMouth", "(II)Z"⟩, 21) := ⟨⟨by decide +kernel, by decide +kernel⟩, List.mem_of_getElem? (i := 841) (by decide +kernel), List.mem_of_getElem? (i := 989) (by decide +kernel), List.mem_of_getElem? (i := 990) (by decide +kernel)⟩
theorem lw_p27 : lw_okq (⟨"SiphonsBenchModel", "becomesKind", "(III)I"⟩, 21) := ⟨⟨by decide +kernel, by decide +kernel⟩, List.mem_of_getElem? (i := 841) (by decide +kernel), List.mem_of_getElem? (i := 996) (by decide +kernel), List.mem_of_getElem? (i := 997) (by decide +kernel)⟩
theorem lw_p28 : lw_okq (⟨"SiphonsBenchModel", "isPipe", "(I)Z"⟩, 21) := ⟨⟨by decide +kernel, by decide +kernel⟩, List.mem_of_getElem? (i := 841) (by decide +kernel), List.mem_of_getElem? (i := 1000) (by decide +kernel), List.mem_of_getElem? (i := 1001) (by decide +kernel)⟩
theorem lw_p29 : lw_okq (⟨"SiphonsBenchModel", "becomes", "(III)I"⟩, 21) := ⟨⟨by decide +kernel, by decide +kernel⟩, List.mem_of_getElem? (i := 841) (by decide +kernel), List.mem_of_getElem? (i := 1009) (by decide +kernel), List.mem_of_getElem? (i := 1010) (by decide +kernel)⟩
theorem lw_p30 : lw_okq (⟨"SiphonsBenchModel", "passed", "(I)I"⟩, 21) := ⟨⟨by decide +kernel, by decide +kernel⟩, List.mem_of_getElem? (i := 841) (by decide +kernel), List.mem_of_getElem? (i := 1013) (by decide +kernel), List.mem_of_getElem? (i := 1014) (by decide +kernel)⟩
theorem lw_p31 : lw_okq (⟨"SiphonsBenchModel", "steps", "(I)V"⟩, 21) := ⟨⟨by decide +kernel, by decide +kernel⟩, List.mem_of_getElem? (i := 841) (by decide +kernel), List.mem_of_getElem? (i := 1018) (by decide +kernel), List.mem_of_getElem? (i := 1019) (by decide +kernel)⟩
def lw_privs_2 : List (MethodName × Nat) := [(⟨"SiphonsBenchModel", "no", "(I)I"⟩, 21), (⟨"SiphonsBenchModel", "statement", "()V"⟩, 21), (⟨"SiphonsBenchModel", "here", "()I"⟩, 21), (⟨"SiphonsBenchModel", "number", "()I"⟩, 21), (⟨"SiphonsBenchModel", "takes", "(I)V"⟩, 21), (⟨"SiphonsBenchModel", "thinks", "()V"⟩, 21), (⟨"SiphonsBenchModel", "comes", "(I)I"⟩, 21), (⟨"SiphonsBenchModel", "vesselComes", "(III)I"⟩, 21), (⟨"SiphonsBenchModel", "pipeComes", "(IIIII)I"⟩, 21), (⟨"SiphonsBenchModel", "isVessel", "(I)Z"⟩, 21), (⟨"SiphonsBenchModel", "isMouth", "(II)Z"⟩, 21), (⟨"SiphonsBenchModel", "becomesKind", "(III)I"⟩, 21), (⟨"SiphonsBenchModel", "isPipe", "(I)Z"⟩, 21), (⟨"SiphonsBenchModel", "becomes", "(III)I"⟩, 21), (⟨"SiphonsBenchModel", "passed", "(I)I"⟩, 21), (⟨"SiphonsBenchModel", "steps", "(I)V"⟩, 21)]
theorem lw_r2 : ∀ q ∈ lw_privs_2, lw_okq q := List.forall_mem_cons.mpr ⟨lw_p16, List.forall_mem_cons.mpr ⟨lw_p17, List.forall_mem_cons.mpr ⟨lw_p18, List.forall_mem_cons.mpr ⟨lw_p19, List.forall_mem_cons.mpr ⟨lw_p20, List.forall_mem_cons.mpr ⟨lw_p21, List.forall_mem_cons.mpr ⟨lw_p22, List.forall_mem_cons.mpr ⟨lw_p23, List.forall_mem_cons.mpr ⟨lw_p24, List.forall_mem_cons.mpr ⟨lw_p25, List.forall_mem_cons.mpr ⟨lw_p26, List.forall_mem_cons.mpr ⟨lw_p27, List.forall_mem_cons.mpr ⟨lw_p28, List.forall_mem_cons.mpr ⟨lw_p29, List.forall_mem_cons.mpr ⟨lw_p30, List.forall_mem_cons.mpr ⟨lw_p31, fun _ h => absurd h List.not_mem_nil⟩⟩⟩⟩⟩⟩⟩⟩⟩⟩⟩⟩⟩⟩⟩⟩
theorem lw_p32 : lw_okq (⟨"SiphonsBenchModel", "step", "()V"⟩, 21) := ⟨⟨by decide +kernel, by decide +kernel⟩, List.mem_of_getElem? (i := 841) (by decide +kernel), List.mem_of_getElem? (i := 1022) (by decide +kernel), List.mem_of_getElem? (i := 1023) (by decide +kernel)⟩
theorem lw_p33 : lw_okq (⟨"SiphonsBenchModel", "goesPipe", "(I)V"⟩, 21) := ⟨⟨by decide +kernel, by decide +kernel⟩, List.mem_of_getElem? (i := 841) (by decide +kernel), List.mem_of_getElem? (i := 1026) (by decide +kernel), List.mem_of_getElem? (i := 1027) (by decide +kernel)⟩
theorem lw_p34 : lw_okq (⟨"SiphonsBenchModel", "doesRun", "(I)Z"⟩, 21) := ⟨⟨by decide +kernel, by decide +kernel⟩, List.mem_of_getElem? (i := 841) (by decide +kernel), List.mem_of_getElem? (i := 1033) (by decide +kernel), List.mem_of_getElem? (i := 1034) (by decide +kernel)⟩
theorem lw_p35 : lw_okq (⟨"SiphonsBenchModel", "height", "(I)I"⟩, 21) := ⟨⟨by decide +kernel, by decide +kernel⟩, List.mem_of_getElem? (i := 841) (by decide +kernel), List.mem_of_getElem? (i := 1037) (by decide +kernel), List.mem_of_getElem? (i := 1038) (by decide +kernel)⟩
theorem lw_p36 : lw_okq (⟨"SiphonsBenchModel", "crest", "(I)I"⟩, 21) := ⟨⟨by decide +kernel, by decide +kernel⟩, List.mem_of_getElem? (i := 841) (by decide +kernel), List.mem_of_getElem? (i := 1041) (by decide +kernel), List.mem_of_getElem? (i := 1042) (by decide +kernel)⟩
theorem lw_p37 : lw_okq (⟨"SiphonsBenchModel", "amount", "(I)I"⟩, 21) := ⟨⟨by decide +kernel, by decide +kernel⟩, List.mem_of_getElem? (i := 841) (by decide +kernel), List.mem_of_getElem? (i := 1048) (by decide +kernel), List.mem_of_getElem? (i := 1049) (by decide +kernel)⟩
theorem lw_p38 : lw_okq (⟨"SiphonsBenchModel", "differs", "(I)I"⟩, 21) := ⟨⟨by decide +kernel, by decide +kernel⟩, List.mem_of_getElem? (i := 841) (by decide +kernel), List.mem_of_getElem? (i := 1052) (by decide +kernel), List.mem_of_getElem? (i := 1053) (by decide +kernel)⟩
theorem lw_p39 : lw_okq (⟨"SiphonsBenchModel", "head", "(II)I"⟩, 21) := ⟨⟨by decide +kernel, by decide +kernel⟩, List.mem_of_getElem? (i := 841) (by decide +kernel), List.mem_of_getElem? (i := 1056) (by decide +kernel), List.mem_of_getElem? (i := 1057) (by decide +kernel)⟩
theorem lw_p40 : lw_okq (⟨"SiphonsBenchModel", "rateOf", "(I)I"⟩, 21) := ⟨⟨by decide +kernel, by decide +kernel⟩, List.mem_of_getElem? (i := 841) (by decide +kernel), List.mem_of_getElem? (i := 1060) (by decide +kernel), List.mem_of_getElem? (i := 1061) (by decide +kernel)⟩
theorem lw_p41 : lw_okq (⟨"SiphonsBenchModel", "goesFrom", "(III)I"⟩, 21) := ⟨⟨by decide +kernel, by decide +kernel⟩, List.mem_of_getElem? (i := 841) (by decide +kernel), List.mem_of_getElem? (i := 1065) (by decide +kernel), List.mem_of_getElem? (i := 1066) (by decide +kernel)⟩
theorem lw_p42 : lw_okq (⟨"SiphonsBenchModel", "above", "(II)I"⟩, 21) := ⟨⟨by decide +kernel, by decide +kernel⟩, List.mem_of_getElem? (i := 841) (by decide +kernel), List.mem_of_getElem? (i := 1070) (by decide +kernel), List.mem_of_getElem? (i := 1071) (by decide +kernel)⟩
theorem lw_p43 : lw_okq (⟨"SiphonsBenchModel", "back", "()V"⟩, 21) := ⟨⟨by decide +kernel, by decide +kernel⟩, List.mem_of_getElem? (i := 841) (by decide +kernel), List.mem_of_getElem? (i := 1076) (by decide +kernel), List.mem_of_getElem? (i := 1077) (by decide +kernel)⟩
theorem lw_p44 : lw_okq (⟨"SiphonsBenchModel", "counted", "(I)I"⟩, 21) := ⟨⟨by decide +kernel, by decide +kernel⟩, List.mem_of_getElem? (i := 841) (by decide +kernel), List.mem_of_getElem? (i := 1084) (by decide +kernel), List.mem_of_getElem? (i := 1085) (by decide +kernel)⟩
theorem lw_p45 : lw_okq (⟨"SiphonsBenchModel", "wide", "(I)J"⟩, 21) := ⟨⟨by decide +kernel, by decide +kernel⟩, List.mem_of_getElem? (i := 841) (by decide +kernel), List.mem_of_getElem? (i := 1126) (by decide +kernel), List.mem_of_getElem? (i := 1127) (by decide +kernel)⟩
theorem lw_p46 : lw_okq (⟨"SiphonsBenchModel", "thenOf", "(II)I"⟩, 21) := ⟨⟨by decide +kernel, by decide +kernel⟩, List.mem_of_getElem? (i := 841) (by decide +kernel), List.mem_of_getElem? (i := 1146) (by decide +kernel), List.mem_of_getElem? (i := 1147) (by decide +kernel)⟩
theorem lw_p47 : lw_okq (⟨"SiphonsBenchModel", "runs", "(I)I"⟩, 21) := ⟨⟨by decide +kernel, by decide +kernel⟩, List.mem_of_getElem? (i := 841) (by decide +kernel), List.mem_of_getElem? (i := 1150) (by decide +kernel), List.mem_of_getElem? (i := 1151) (by decide +kernel)⟩
def lw_privs_3 : List (MethodName × Nat) := [(⟨"SiphonsBenchModel", "step", "()V"⟩, 21), (⟨"SiphonsBenchModel", "goesPipe", "(I)V"⟩, 21), (⟨"SiphonsBenchModel", "doesRun", "(I)Z"⟩, 21), (⟨"SiphonsBenchModel", "height", "(I)I"⟩, 21), (⟨"SiphonsBenchModel", "crest", "(I)I"⟩, 21), (⟨"SiphonsBenchModel", "amount", "(I)I"⟩, 21), (⟨"SiphonsBenchModel", "differs", "(I)I"⟩, 21), (⟨"SiphonsBenchModel", "head", "(II)I"⟩, 21), (⟨"SiphonsBenchModel", "rateOf", "(I)I"⟩, 21), (⟨"SiphonsBenchModel", "goesFrom", "(III)I"⟩, 21), (⟨"SiphonsBenchModel", "above", "(II)I"⟩, 21), (⟨"SiphonsBenchModel", "back", "()V"⟩, 21), (⟨"SiphonsBenchModel", "counted", "(I)I"⟩, 21), (⟨"SiphonsBenchModel", "wide", "(I)J"⟩, 21), (⟨"SiphonsBenchModel", "thenOf", "(II)I"⟩, 21), (⟨"SiphonsBenchModel", "runs", "(I)I"⟩, 21)]
theorem lw_r3 : ∀ q ∈ lw_privs_3, lw_okq q := List.forall_mem_cons.mpr ⟨lw_p32, List.forall_mem_cons.mpr ⟨lw_p33, List.forall_mem_cons.mpr ⟨lw_p34, List.forall_mem_cons.mpr ⟨lw_p35, List.forall_mem_cons.mpr ⟨lw_p36, List.forall_mem_cons.mpr ⟨lw_p37, List.forall_mem_cons.mpr ⟨lw_p38, List.forall_mem_cons.mpr ⟨lw_p39, List.forall_mem_cons.mpr ⟨lw_p40, List.forall_mem_cons.mpr ⟨lw_p41, List.forall_mem_cons.mpr ⟨lw_p42, List.forall_mem_cons.mpr ⟨lw_p43, List.forall_mem_cons.mpr ⟨lw_p44, List.forall_mem_cons.mpr ⟨lw_p45, List.forall_mem_cons.mpr ⟨lw_p46, List.forall_mem_cons.mpr ⟨lw_p47, fun _ h => absurd h List.not_mem_nil⟩⟩⟩⟩⟩⟩⟩⟩⟩⟩⟩⟩⟩⟩⟩⟩
theorem lw_p48 : lw_okq (⟨"SiphonsBenchModel", "starts0", "(I)Z"⟩, 21) := ⟨⟨by decide +kernel, by decide +kernel⟩, List.mem_of_getElem? (i := 841) (by decide +kernel), List.mem_of_getElem? (i := 1166) (by decide +kernel), List.mem_of_getElem? (i := 1167) (by decide +kernel)⟩
theorem lw_p49 : lw_okq (⟨"SiphonsBenchModel", "keepsState", "(I)V"⟩, 21) := ⟨⟨by decide +kernel, by decide +kernel⟩, List.mem_of_getElem? (i := 841) (by decide +kernel), List.mem_of_getElem? (i := 1178) (by decide +kernel), List.mem_of_getElem? (i := 1179) (by decide +kernel)⟩
theorem lw_p50 : lw_okq (⟨"SiphonsBenchModel", "running", "()I"⟩, 21) := ⟨⟨by decide +kernel, by decide +kernel⟩, List.mem_of_getElem? (i := 841) (by decide +kernel), List.mem_of_getElem? (i := 1182) (by decide +kernel), List.mem_of_getElem? (i := 1183) (by decide +kernel)⟩
theorem lw_p51 : lw_okq (⟨"SiphonsBenchModel", "earlier", "(I)I"⟩, 21) := ⟨⟨by decide +kernel, by decide +kernel⟩, List.mem_of_getElem? (i := 841) (by decide +kernel), List.mem_of_getElem? (i := 1186) (by decide +kernel), List.mem_of_getElem? (i := 1187) (by decide +kernel)⟩
theorem lw_p52 : lw_okq (⟨"SiphonsBenchModel", "isState", "(II)Z"⟩, 21) := ⟨⟨by decide +kernel, by decide +kernel⟩, List.mem_of_getElem? (i := 841) (by decide +kernel), List.mem_of_getElem? (i := 1190) (by decide +kernel), List.mem_of_getElem? (i := 1191) (by decide +kernel)⟩
theorem lw_p53 : lw_okq (⟨"SiphonsBenchModel", "doesRunWithin", "(II)Z"⟩, 21) := ⟨⟨by decide +kernel, by decide +kernel⟩, List.mem_of_getElem? (i := 841) (by decide +kernel), List.mem_of_getElem? (i := 1198) (by decide +kernel), List.mem_of_getElem? (i := 1199) (by decide +kernel)⟩
theorem lw_p54 : lw_okq (⟨"SiphonsBenchModel", "sumpWithout", "(II)I"⟩, 21) := ⟨⟨by decide +kernel, by decide +kernel⟩, List.mem_of_getElem? (i := 841) (by decide +kernel), List.mem_of_getElem? (i := 1210) (by decide +kernel), List.mem_of_getElem? (i := 1211) (by decide +kernel)⟩
theorem lw_p55 : lw_okq (⟨"SiphonsBenchModel", "isAhead", "(II)Z"⟩, 21) := ⟨⟨by decide +kernel, by decide +kernel⟩, List.mem_of_getElem? (i := 841) (by decide +kernel), List.mem_of_getElem? (i := 1218) (by decide +kernel), List.mem_of_getElem? (i := 1219) (by decide +kernel)⟩
theorem lw_p56 : lw_okq (⟨"SiphonsBenchModel", "areAlike", "(II)Z"⟩, 21) := ⟨⟨by decide +kernel, by decide +kernel⟩, List.mem_of_getElem? (i := 841) (by decide +kernel), List.mem_of_getElem? (i := 1226) (by decide +kernel), List.mem_of_getElem? (i := 1227) (by decide +kernel)⟩
theorem lw_p57 : lw_okq (⟨"SiphonsBenchModel", "runsOver", "(II)Z"⟩, 21) := ⟨⟨by decide +kernel, by decide +kernel⟩, List.mem_of_getElem? (i := 841) (by decide +kernel), List.mem_of_getElem? (i := 1263) (by decide +kernel), List.mem_of_getElem? (i := 1264) (by decide +kernel)⟩
theorem lw_p58 : lw_okq (⟨"SiphonsBenchModel", "goesAsTold", "(II)Z"⟩, 21) := ⟨⟨by decide +kernel, by decide +kernel⟩, List.mem_of_getElem? (i := 841) (by decide +kernel), List.mem_of_getElem? (i := 1284) (by decide +kernel), List.mem_of_getElem? (i := 1285) (by decide +kernel)⟩
theorem lw_p59 : lw_okq (⟨"SiphonsBenchModel", "draw", "(I)I"⟩, 21) := ⟨⟨by decide +kernel, by decide +kernel⟩, List.mem_of_getElem? (i := 841) (by decide +kernel), List.mem_of_getElem? (i := 1293) (by decide +kernel), List.mem_of_getElem? (i := 1294) (by decide +kernel)⟩
def lw_privs_4 : List (MethodName × Nat) := [(⟨"SiphonsBenchModel", "starts0", "(I)Z"⟩, 21), (⟨"SiphonsBenchModel", "keepsState", "(I)V"⟩, 21), (⟨"SiphonsBenchModel", "running", "()I"⟩, 21), (⟨"SiphonsBenchModel", "earlier", "(I)I"⟩, 21), (⟨"SiphonsBenchModel", "isState", "(II)Z"⟩, 21), (⟨"SiphonsBenchModel", "doesRunWithin", "(II)Z"⟩, 21), (⟨"SiphonsBenchModel", "sumpWithout", "(II)I"⟩, 21), (⟨"SiphonsBenchModel", "isAhead", "(II)Z"⟩, 21), (⟨"SiphonsBenchModel", "areAlike", "(II)Z"⟩, 21), (⟨"SiphonsBenchModel", "runsOver", "(II)Z"⟩, 21), (⟨"SiphonsBenchModel", "goesAsTold", "(II)Z"⟩, 21), (⟨"SiphonsBenchModel", "draw", "(I)I"⟩, 21)]
theorem lw_r4 : ∀ q ∈ lw_privs_4, lw_okq q := List.forall_mem_cons.mpr ⟨lw_p48, List.forall_mem_cons.mpr ⟨lw_p49, List.forall_mem_cons.mpr ⟨lw_p50, List.forall_mem_cons.mpr ⟨lw_p51, List.forall_mem_cons.mpr ⟨lw_p52, List.forall_mem_cons.mpr ⟨lw_p53, List.forall_mem_cons.mpr ⟨lw_p54, List.forall_mem_cons.mpr ⟨lw_p55, List.forall_mem_cons.mpr ⟨lw_p56, List.forall_mem_cons.mpr ⟨lw_p57, List.forall_mem_cons.mpr ⟨lw_p58, List.forall_mem_cons.mpr ⟨lw_p59, fun _ h => absurd h List.not_mem_nil⟩⟩⟩⟩⟩⟩⟩⟩⟩⟩⟩⟩
def lw_privs : List (MethodName × Nat) := lw_privs_1 ++ (lw_privs_2 ++ (lw_privs_3 ++ (lw_privs_4)))
def lw_tbl : List Cond := k2_sels lw_privs ++ tables_1
theorem lw_privs_ok : ∀ q ∈ lw_privs, lw_okq q := by
  show ∀ q ∈ lw_privs_1 ++ (lw_privs_2 ++ (lw_privs_3 ++ (lw_privs_4))), lw_okq q
  exact List.forall_mem_append.mpr ⟨lw_r1, List.forall_mem_append.mpr ⟨lw_r2, List.forall_mem_append.mpr ⟨lw_r3, lw_r4⟩⟩⟩
/-- the streams that the claim lets the run draw from -/
abbrev lw_cs : List Choice := [Jvm.Choice.named "NaN.bits"]
theorem lw_bits : nanBits ∈ lw_cs := by first | decide | exact List.mem_cons_self | simp [lw_cs, nanBits]
-- ===== end of PART A; then your names; then what follows =====
def RX0 : String := "SiphonsBench$Bench"
def TX0 : u_T := fun k => match k with
  | 0 => ("SiphonsBench$Bench", "vessels", "[LSiphonsBench$Vessel;", true)
  | 1 => ("SiphonsBench$Bench", "pipes", "[LSiphonsBench$Pipe;", true)
  | 2 => ("SiphonsBench$Bench", "vesselCount", "I", false)
  | 3 => ("SiphonsBench$Bench", "pipeCount", "I", false)
  | 4 => ("SiphonsBench$Bench", "sump", "I", false)
  | 5 => ("SiphonsBench$Bench", "step", "I", false)
  | 6 => ("SiphonsBench$Bench", "out", "I", false)
  | 7 => ("SiphonsBench$Bench", "lost", "I", false)
  | _ => ("SiphonsBench$Bench", "lostBits", "I", false)
def tyX0 : Nat → FieldType := fun k => match k with
  | 0 => .array (.object "SiphonsBench$Vessel")
  | 1 => .array (.object "SiphonsBench$Pipe")
  | 2 => .int
  | 3 => .int
  | 4 => .int
  | 5 => .int
  | 6 => .int
  | 7 => .int
  | _ => .int
abbrev wsX00 : List Cond := u_ws RX0 TX0 9
theorem nmX0 : ∀ a, a < 9 → ∀ b, b < 9 → a ≠ b → (TX0 a).2.1 ≠ (TX0 b).2.1 := by decide +kernel
theorem tyX0_ok : ∀ k, k < 9 → parseFieldDescriptor (TX0 k).2.2.1 = some (tyX0 k) := by decide +kernel
abbrev cX0_init : ByteArray := prog_2_method_1_code
def yX0_init : MethodName := ⟨RX0, "<init>", "()V"⟩
abbrev cX0_copy : ByteArray := prog_2_method_2_code
def yX0_copy : MethodName := ⟨RX0, "copy", "(LSiphonsBench$Bench;)V"⟩
abbrev cX0_hasVessel : ByteArray := prog_2_method_3_code
def yX0_hasVessel : MethodName := ⟨RX0, "hasVessel", "(I)Z"⟩
abbrev cX0_hasPipe : ByteArray := prog_2_method_4_code
def yX0_hasPipe : MethodName := ⟨RX0, "hasPipe", "(I)Z"⟩
abbrev cX0_addVessel : ByteArray := prog_2_method_5_code
def yX0_addVessel : MethodName := ⟨RX0, "addVessel", "(III)I"⟩
abbrev cX0_addPipe : ByteArray := prog_2_method_6_code
def yX0_addPipe : MethodName := ⟨RX0, "addPipe", "(IIIII)I"⟩
abbrev cX0_hasMouth : ByteArray := prog_2_method_7_code
def yX0_hasMouth : MethodName := ⟨RX0, "hasMouth", "(II)Z"⟩
abbrev cX0_changeKind : ByteArray := prog_2_method_8_code
def yX0_changeKind : MethodName := ⟨RX0, "changeKind", "(III)I"⟩
abbrev cX0_changeWater : ByteArray := prog_2_method_9_code
def yX0_changeWater : MethodName := ⟨RX0, "changeWater", "(II)I"⟩
abbrev cX0_changeTap : ByteArray := prog_2_method_10_code
def yX0_changeTap : MethodName := ⟨RX0, "changeTap", "(II)I"⟩
abbrev cX0_passSteps : ByteArray := prog_2_method_11_code
def yX0_passSteps : MethodName := ⟨RX0, "passSteps", "(I)I"⟩
abbrev cX0_passStep : ByteArray := prog_2_method_12_code
def yX0_passStep : MethodName := ⟨RX0, "passStep", "()V"⟩
abbrev cX0_spill : ByteArray := prog_2_method_13_code
def yX0_spill : MethodName := ⟨RX0, "spill", "(I)V"⟩
abbrev cX0_turn : ByteArray := prog_2_method_14_code
def yX0_turn : MethodName := ⟨RX0, "turn", "(LSiphonsBench$Pipe;)V"⟩
abbrev cX0_wouldGo : ByteArray := prog_2_method_15_code
def yX0_wouldGo : MethodName := ⟨RX0, "wouldGo", "(LSiphonsBench$Pipe;)I"⟩
abbrev cX0_crestOf : ByteArray := prog_2_method_16_code
def yX0_crestOf : MethodName := ⟨RX0, "crestOf", "(LSiphonsBench$Pipe;)I"⟩
abbrev cX0_runBits : ByteArray := prog_2_method_17_code
def yX0_runBits : MethodName := ⟨RX0, "runBits", "()I"⟩
abbrev cX0_vesselsAhead : ByteArray := prog_2_method_18_code
def yX0_vesselsAhead : MethodName := ⟨RX0, "vesselsAhead", "(I)I"⟩
abbrev cX0_trace : ByteArray := prog_2_method_19_code
def yX0_trace : MethodName := ⟨RX0, "trace", "()J"⟩
def RX1 : String := "SiphonsBench$Letters"
def TX1 : u_T := fun k => match k with
  | 0 => ("SiphonsBench$Letters", "signs", "[I", true)
  | 1 => ("SiphonsBench$Letters", "size", "I", false)
  | 2 => ("SiphonsBench$Letters", "place", "I", false)
  | _ => ("SiphonsBench$Letters", "numbers", "[I", true)
def tyX1 : Nat → FieldType := fun k => match k with
  | 0 => .array .int
  | 1 => .int
  | 2 => .int
  | _ => .array .int
abbrev wsX10 : List Cond := u_ws RX1 TX1 4
theorem nmX1 : ∀ a, a < 4 → ∀ b, b < 4 → a ≠ b → (TX1 a).2.1 ≠ (TX1 b).2.1 := by decide +kernel
theorem tyX1_ok : ∀ k, k < 4 → parseFieldDescriptor (TX1 k).2.2.1 = some (tyX1 k) := by decide +kernel
abbrev cX1_init : ByteArray := prog_3_method_1_code
def yX1_init : MethodName := ⟨RX1, "<init>", "()V"⟩
abbrev cX1_append : ByteArray := prog_3_method_2_code
def yX1_append : MethodName := ⟨RX1, "append", "(I)I"⟩
abbrev cX1_clear : ByteArray := prog_3_method_3_code
def yX1_clear : MethodName := ⟨RX1, "clear", "()V"⟩
abbrev cX1_more : ByteArray := prog_3_method_4_code
def yX1_more : MethodName := ⟨RX1, "more", "()Z"⟩
abbrev cX1_at : ByteArray := prog_3_method_5_code
def yX1_at : MethodName := ⟨RX1, "at", "(I)I"⟩
abbrev cX1_fault : ByteArray := prog_3_method_6_code
def yX1_fault : MethodName := ⟨RX1, "fault", "()I"⟩
abbrev cX1_readStatement : ByteArray := prog_3_method_7_code
def yX1_readStatement : MethodName := ⟨RX1, "readStatement", "()Z"⟩
abbrev cX1_formOf : ByteArray := prog_3_method_8_code
def yX1_formOf : MethodName := ⟨RX1, "formOf", "(I)Ljava/lang/String;"⟩
abbrev cX1_readNumber : ByteArray := prog_3_method_9_code
def yX1_readNumber : MethodName := ⟨RX1, "readNumber", "(I)Z"⟩
abbrev cX1_digit : ByteArray := prog_3_method_10_code
def yX1_digit : MethodName := ⟨RX1, "digit", "(I)I"⟩
def RX2 : String := "SiphonsBench$Mind"
def TX2 : u_T := fun k => match k with
  | 0 => ("SiphonsBench$Mind", "bench", "LSiphonsBench$Bench;", true)
  | 1 => ("SiphonsBench$Mind", "traces", "[J", true)
  | 2 => ("SiphonsBench$Mind", "earlier", "I", false)
  | 3 => ("SiphonsBench$Mind", "lotsLost", "I", false)
  | 4 => ("SiphonsBench$Mind", "lotsRun", "I", false)
  | _ => ("SiphonsBench$Mind", "seed", "I", false)
def tyX2 : Nat → FieldType := fun k => match k with
  | 0 => .object "SiphonsBench$Bench"
  | 1 => .array .long
  | 2 => .int
  | 3 => .int
  | 4 => .int
  | _ => .int
abbrev wsX20 : List Cond := u_ws RX2 TX2 6
theorem nmX2 : ∀ a, a < 6 → ∀ b, b < 6 → a ≠ b → (TX2 a).2.1 ≠ (TX2 b).2.1 := by decide +kernel
theorem tyX2_ok : ∀ k, k < 6 → parseFieldDescriptor (TX2 k).2.2.1 = some (tyX2 k) := by decide +kernel
abbrev cX2_init : ByteArray := prog_4_method_1_code
def yX2_init : MethodName := ⟨RX2, "<init>", "()V"⟩
abbrev cX2_after : ByteArray := prog_4_method_2_code
def yX2_after : MethodName := ⟨RX2, "after", "(LSiphonsBench$Bench;I)LSiphonsBench$Bench;"⟩
abbrev cX2_pass : ByteArray := prog_4_method_3_code
def yX2_pass : MethodName := ⟨RX2, "pass", "(I)V"⟩
abbrev cX2_firstOver : ByteArray := prog_4_method_4_code
def yX2_firstOver : MethodName := ⟨RX2, "firstOver", "(LSiphonsBench$Bench;I)I"⟩
abbrev cX2_firstDry : ByteArray := prog_4_method_5_code
def yX2_firstDry : MethodName := ⟨RX2, "firstDry", "(LSiphonsBench$Bench;I)I"⟩
abbrev cX2_firstStart : ByteArray := prog_4_method_6_code
def yX2_firstStart : MethodName := ⟨RX2, "firstStart", "(LSiphonsBench$Bench;I)I"⟩
abbrev cX2_startsWithin : ByteArray := prog_4_method_7_code
def yX2_startsWithin : MethodName := ⟨RX2, "startsWithin", "(LSiphonsBench$Bench;II)I"⟩
abbrev cX2_startsInStep : ByteArray := prog_4_method_8_code
def yX2_startsInStep : MethodName := ⟨RX2, "startsInStep", "(I)Z"⟩
abbrev cX2_firstAgain : ByteArray := prog_4_method_9_code
def yX2_firstAgain : MethodName := ⟨RX2, "firstAgain", "(LSiphonsBench$Bench;)I"⟩
abbrev cX2_leastWater : ByteArray := prog_4_method_10_code
def yX2_leastWater : MethodName := ⟨RX2, "leastWater", "(LSiphonsBench$Bench;III)I"⟩
abbrev cX2_runsWithin : ByteArray := prog_4_method_11_code
def yX2_runsWithin : MethodName := ⟨RX2, "runsWithin", "(II)Z"⟩
abbrev cX2_bestTap : ByteArray := prog_4_method_12_code
def yX2_bestTap : MethodName := ⟨RX2, "bestTap", "(LSiphonsBench$Bench;III)I"⟩
abbrev cX2_waterByTap : ByteArray := prog_4_method_13_code
def yX2_waterByTap : MethodName := ⟨RX2, "waterByTap", "(LSiphonsBench$Bench;IIII)I"⟩
abbrev cX2_mostMissed : ByteArray := prog_4_method_14_code
def yX2_mostMissed : MethodName := ⟨RX2, "mostMissed", "(LSiphonsBench$Bench;I)I"⟩
abbrev cX2_sumpWithout : ByteArray := prog_4_method_15_code
def yX2_sumpWithout : MethodName := ⟨RX2, "sumpWithout", "(LSiphonsBench$Bench;II)I"⟩
abbrev cX2_firstAlike : ByteArray := prog_4_method_16_code
def yX2_firstAlike : MethodName := ⟨RX2, "firstAlike", "(LSiphonsBench$Bench;II)I"⟩
abbrev cX2_leakingCases : ByteArray := prog_4_method_17_code
def yX2_leakingCases : MethodName := ⟨RX2, "leakingCases", "(LSiphonsBench$Bench;II)J"⟩
abbrev cX2_spillsWithout : ByteArray := prog_4_method_18_code
def yX2_spillsWithout : MethodName := ⟨RX2, "spillsWithout", "(LSiphonsBench$Bench;II)Z"⟩
abbrev cX2_firstOtherwise : ByteArray := prog_4_method_19_code
def yX2_firstOtherwise : MethodName := ⟨RX2, "firstOtherwise", "(LSiphonsBench$Bench;LSiphonsBench$Row;)I"⟩
abbrev cX2_kindsThatGo : ByteArray := prog_4_method_20_code
def yX2_kindsThatGo : MethodName := ⟨RX2, "kindsThatGo", "(LSiphonsBench$Bench;ILSiphonsBench$Row;)I"⟩
abbrev cX2_figuresThatGo : ByteArray := prog_4_method_21_code
def yX2_figuresThatGo : MethodName := ⟨RX2, "figuresThatGo", "(LSiphonsBench$Bench;ILSiphonsBench$Row;)I"⟩
abbrev cX2_goesAsTold : ByteArray := prog_4_method_22_code
def yX2_goesAsTold : MethodName := ⟨RX2, "goesAsTold", "(LSiphonsBench$Pipe;LSiphonsBench$Row;)Z"⟩
abbrev cX2_drawBenches : ByteArray := prog_4_method_23_code
def yX2_drawBenches : MethodName := ⟨RX2, "drawBenches", "(LSiphonsBench$Bench;II)V"⟩
abbrev cX2_draw : ByteArray := prog_4_method_24_code
def yX2_draw : MethodName := ⟨RX2, "draw", "(I)I"⟩
def RX3 : String := "SiphonsBench$Pipe"
def TX3 : u_T := fun k => match k with
  | 0 => ("SiphonsBench$Pipe", "first", "I", false)
  | 1 => ("SiphonsBench$Pipe", "second", "I", false)
  | 2 => ("SiphonsBench$Pipe", "mouth", "I", false)
  | 3 => ("SiphonsBench$Pipe", "other", "I", false)
  | 4 => ("SiphonsBench$Pipe", "rate", "I", false)
  | 5 => ("SiphonsBench$Pipe", "kind", "I", false)
  | 6 => ("SiphonsBench$Pipe", "figure", "I", false)
  | _ => ("SiphonsBench$Pipe", "runs", "Z", false)
def tyX3 : Nat → FieldType := fun k => match k with
  | 0 => .int
  | 1 => .int
  | 2 => .int
  | 3 => .int
  | 4 => .int
  | 5 => .int
  | 6 => .int
  | _ => .boolean
abbrev wsX30 : List Cond := u_ws RX3 TX3 8
theorem nmX3 : ∀ a, a < 8 → ∀ b, b < 8 → a ≠ b → (TX3 a).2.1 ≠ (TX3 b).2.1 := by decide +kernel
theorem tyX3_ok : ∀ k, k < 8 → parseFieldDescriptor (TX3 k).2.2.1 = some (tyX3 k) := by decide +kernel
abbrev cX3_init : ByteArray := prog_5_method_1_code
def yX3_init : MethodName := ⟨RX3, "<init>", "()V"⟩
abbrev cX3_copy : ByteArray := prog_5_method_2_code
def yX3_copy : MethodName := ⟨RX3, "copy", "(LSiphonsBench$Pipe;)V"⟩
abbrev cX3_isSiphon : ByteArray := prog_5_method_3_code
def yX3_isSiphon : MethodName := ⟨RX3, "isSiphon", "()Z"⟩
abbrev cX3_crest : ByteArray := prog_5_method_4_code
def yX3_crest : MethodName := ⟨RX3, "crest", "(LSiphonsBench$Vessel;)I"⟩
abbrev cX3_isAtCrest : ByteArray := prog_5_method_5_code
def yX3_isAtCrest : MethodName := ⟨RX3, "isAtCrest", "(LSiphonsBench$Vessel;)Z"⟩
abbrev cX3_flow : ByteArray := prog_5_method_6_code
def yX3_flow : MethodName := ⟨RX3, "flow", "(LSiphonsBench$Vessel;LSiphonsBench$Vessel;I)I"⟩
abbrev cX3_wish : ByteArray := prog_5_method_7_code
def yX3_wish : MethodName := ⟨RX3, "wish", "(I)I"⟩
def RX4 : String := "SiphonsBench$Row"
def TX4 : u_T := fun k => match k with
  | 0 => ("SiphonsBench$Row", "places", "[I", true)
  | _ => ("SiphonsBench$Row", "size", "I", false)
def tyX4 : Nat → FieldType := fun k => match k with
  | 0 => .array .int
  | _ => .int
abbrev wsX40 : List Cond := u_ws RX4 TX4 2
theorem nmX4 : ∀ a, a < 2 → ∀ b, b < 2 → a ≠ b → (TX4 a).2.1 ≠ (TX4 b).2.1 := by decide +kernel
theorem tyX4_ok : ∀ k, k < 2 → parseFieldDescriptor (TX4 k).2.2.1 = some (tyX4 k) := by decide +kernel
abbrev cX4_init : ByteArray := prog_6_method_1_code
def yX4_init : MethodName := ⟨RX4, "<init>", "(I)V"⟩
abbrev cX4_isMissing : ByteArray := prog_6_method_2_code
def yX4_isMissing : MethodName := ⟨RX4, "isMissing", "()Z"⟩
abbrev cX4_hasPlace : ByteArray := prog_6_method_3_code
def yX4_hasPlace : MethodName := ⟨RX4, "hasPlace", "(I)Z"⟩
abbrev cX4_become : ByteArray := prog_6_method_4_code
def yX4_become : MethodName := ⟨RX4, "become", "(II)V"⟩
abbrev cX4_copy : ByteArray := prog_6_method_5_code
def yX4_copy : MethodName := ⟨RX4, "copy", "(LSiphonsBench$Row;)V"⟩
def RX5 : String := "SiphonsBench$Vessel"
def TX5 : u_T := fun k => match k with
  | 0 => ("SiphonsBench$Vessel", "area", "I", false)
  | 1 => ("SiphonsBench$Vessel", "base", "I", false)
  | 2 => ("SiphonsBench$Vessel", "rim", "I", false)
  | 3 => ("SiphonsBench$Vessel", "water", "I", false)
  | _ => ("SiphonsBench$Vessel", "tap", "I", false)
def tyX5 : Nat → FieldType := fun k => match k with
  | 0 => .int
  | 1 => .int
  | 2 => .int
  | 3 => .int
  | _ => .int
abbrev wsX50 : List Cond := u_ws RX5 TX5 5
theorem nmX5 : ∀ a, a < 5 → ∀ b, b < 5 → a ≠ b → (TX5 a).2.1 ≠ (TX5 b).2.1 := by decide +kernel
theorem tyX5_ok : ∀ k, k < 5 → parseFieldDescriptor (TX5 k).2.2.1 = some (tyX5 k) := by decide +kernel
abbrev cX5_init : ByteArray := prog_7_method_1_code
def yX5_init : MethodName := ⟨RX5, "<init>", "()V"⟩
abbrev cX5_copy : ByteArray := prog_7_method_2_code
def yX5_copy : MethodName := ⟨RX5, "copy", "(LSiphonsBench$Vessel;)V"⟩
abbrev cX5_brim : ByteArray := prog_7_method_3_code
def yX5_brim : MethodName := ⟨RX5, "brim", "()I"⟩
abbrev cX5_height : ByteArray := prog_7_method_4_code
def yX5_height : MethodName := ⟨RX5, "height", "()I"⟩
abbrev cX5_head : ByteArray := prog_7_method_5_code
def yX5_head : MethodName := ⟨RX5, "head", "(I)I"⟩
abbrev cX5_waterAbove : ByteArray := prog_7_method_6_code
def yX5_waterAbove : MethodName := ⟨RX5, "waterAbove", "(I)I"⟩
abbrev cX5_higherThan : ByteArray := prog_7_method_7_code
def yX5_higherThan : MethodName := ⟨RX5, "higherThan", "(LSiphonsBench$Vessel;)I"⟩
def RX6 : String := "SiphonsBench"
def TX6 : u_T := fun k => match k with
  | 0 => ("SiphonsBench", "now", "LSiphonsBench$Bench;", true)
  | 1 => ("SiphonsBench", "kept", "LSiphonsBench$Bench;", true)
  | 2 => ("SiphonsBench", "keeps", "Z", false)
  | 3 => ("SiphonsBench", "trial", "LSiphonsBench$Bench;", true)
  | 4 => ("SiphonsBench", "mind", "LSiphonsBench$Mind;", true)
  | 5 => ("SiphonsBench", "letters", "LSiphonsBench$Letters;", true)
  | 6 => ("SiphonsBench", "lists", "[LSiphonsBench$Row;", true)
  | 7 => ("SiphonsBench", "rackRows", "[LSiphonsBench$Row;", true)
  | 8 => ("SiphonsBench", "rackKinds", "[I", true)
  | _ => ("SiphonsBench", "refusals", "[I", true)
def tyX6 : Nat → FieldType := fun k => match k with
  | 0 => .object "SiphonsBench$Bench"
  | 1 => .object "SiphonsBench$Bench"
  | 2 => .boolean
  | 3 => .object "SiphonsBench$Bench"
  | 4 => .object "SiphonsBench$Mind"
  | 5 => .object "SiphonsBench$Letters"
  | 6 => .array (.object "SiphonsBench$Row")
  | 7 => .array (.object "SiphonsBench$Row")
  | 8 => .array .int
  | _ => .array .int
abbrev wsX60 : List Cond := u_ws RX6 TX6 10
theorem nmX6 : ∀ a, a < 10 → ∀ b, b < 10 → a ≠ b → (TX6 a).2.1 ≠ (TX6 b).2.1 := by decide +kernel
theorem tyX6_ok : ∀ k, k < 10 → parseFieldDescriptor (TX6 k).2.2.1 = some (tyX6 k) := by decide +kernel
abbrev cX6_init : ByteArray := prog_1_method_1_code
def yX6_init : MethodName := ⟨RX6, "<init>", "()V"⟩
abbrev cX6_letter : ByteArray := prog_1_method_2_code
def yX6_letter : MethodName := ⟨RX6, "letter", "(I)I"⟩
abbrev cX6_tells : ByteArray := prog_1_method_3_code
def yX6_tells : MethodName := ⟨RX6, "tells", "()I"⟩
abbrev cX6_vessel : ByteArray := prog_1_method_4_code
def yX6_vessel : MethodName := ⟨RX6, "vessel", "(III)I"⟩
abbrev cX6_pipe : ByteArray := prog_1_method_5_code
def yX6_pipe : MethodName := ⟨RX6, "pipe", "(IIIII)I"⟩
abbrev cX6_kind : ByteArray := prog_1_method_6_code
def yX6_kind : MethodName := ⟨RX6, "kind", "(III)I"⟩
abbrev cX6_rate : ByteArray := prog_1_method_7_code
def yX6_rate : MethodName := ⟨RX6, "rate", "(II)I"⟩
abbrev cX6_water : ByteArray := prog_1_method_8_code
def yX6_water : MethodName := ⟨RX6, "water", "(II)I"⟩
abbrev cX6_tap : ByteArray := prog_1_method_9_code
def yX6_tap : MethodName := ⟨RX6, "tap", "(II)I"⟩
abbrev cX6_passes : ByteArray := prog_1_method_10_code
def yX6_passes : MethodName := ⟨RX6, "passes", "(I)I"⟩
abbrev cX6_of : ByteArray := prog_1_method_11_code
def yX6_of : MethodName := ⟨RX6, "of", "(II)I"⟩
abbrev cX6_ofPipe : ByteArray := prog_1_method_12_code
def yX6_ofPipe : MethodName := ⟨RX6, "ofPipe", "(II)I"⟩
abbrev cX6_level : ByteArray := prog_1_method_13_code
def yX6_level : MethodName := ⟨RX6, "level", "(II)J"⟩
abbrev cX6_goes : ByteArray := prog_1_method_14_code
def yX6_goes : MethodName := ⟨RX6, "goes", "(I)J"⟩
abbrev cX6_then : ByteArray := prog_1_method_15_code
def yX6_then : MethodName := ⟨RX6, "then", "(III)I"⟩
abbrev cX6_over : ByteArray := prog_1_method_16_code
def yX6_over : MethodName := ⟨RX6, "over", "(I)I"⟩
abbrev cX6_dry : ByteArray := prog_1_method_17_code
def yX6_dry : MethodName := ⟨RX6, "dry", "(I)I"⟩
abbrev cX6_starts : ByteArray := prog_1_method_18_code
def yX6_starts : MethodName := ⟨RX6, "starts", "(I)I"⟩
abbrev cX6_turns : ByteArray := prog_1_method_19_code
def yX6_turns : MethodName := ⟨RX6, "turns", "(II)I"⟩
abbrev cX6_round : ByteArray := prog_1_method_20_code
def yX6_round : MethodName := ⟨RX6, "round", "(I)I"⟩
abbrev cX6_least : ByteArray := prog_1_method_21_code
def yX6_least : MethodName := ⟨RX6, "least", "(III)I"⟩
abbrev cX6_tapBest : ByteArray := prog_1_method_22_code
def yX6_tapBest : MethodName := ⟨RX6, "tapBest", "(IIII)I"⟩
abbrev cX6_matters : ByteArray := prog_1_method_23_code
def yX6_matters : MethodName := ⟨RX6, "matters", "(I)I"⟩
abbrev cX6_order : ByteArray := prog_1_method_24_code
def yX6_order : MethodName := ⟨RX6, "order", "(I)I"⟩
abbrev cX6_meets : ByteArray := prog_1_method_25_code
def yX6_meets : MethodName := ⟨RX6, "meets", "(II)I"⟩
abbrev cX6_shown : ByteArray := prog_1_method_26_code
def yX6_shown : MethodName := ⟨RX6, "shown", "(I)J"⟩
abbrev cX6_work : ByteArray := prog_1_method_27_code
def yX6_work : MethodName := ⟨RX6, "work", "(I)J"⟩
abbrev cX6_leak : ByteArray := prog_1_method_28_code
def yX6_leak : MethodName := ⟨RX6, "leak", "(III)J"⟩
abbrev cX6_all : ByteArray := prog_1_method_29_code
def yX6_all : MethodName := ⟨RX6, "all", "()I"⟩
abbrev cX6_judge : ByteArray := prog_1_method_30_code
def yX6_judge : MethodName := ⟨RX6, "judge", "(I)I"⟩
abbrev cX6_whatIs : ByteArray := prog_1_method_31_code
def yX6_whatIs : MethodName := ⟨RX6, "whatIs", "(III)I"⟩
abbrev cX6_lots : ByteArray := prog_1_method_32_code
def yX6_lots : MethodName := ⟨RX6, "lots", "(III)I"⟩
abbrev cX6_list : ByteArray := prog_1_method_33_code
def yX6_list : MethodName := ⟨RX6, "list", "(II)I"⟩
abbrev cX6_put : ByteArray := prog_1_method_34_code
def yX6_put : MethodName := ⟨RX6, "put", "(III)I"⟩
abbrev cX6_lays : ByteArray := prog_1_method_35_code
def yX6_lays : MethodName := ⟨RX6, "lays", "(II)I"⟩
abbrev cX6_rack : ByteArray := prog_1_method_36_code
def yX6_rack : MethodName := ⟨RX6, "rack", "(III)I"⟩
abbrev cX6_racks : ByteArray := prog_1_method_37_code
def yX6_racks : MethodName := ⟨RX6, "racks", "(III)I"⟩
abbrev cX6_racked : ByteArray := prog_1_method_38_code
def yX6_racked : MethodName := ⟨RX6, "racked", "(II)I"⟩
abbrev cX6_like : ByteArray := prog_1_method_39_code
def yX6_like : MethodName := ⟨RX6, "like", "(II)I"⟩
abbrev cX6_image : ByteArray := prog_1_method_40_code
def yX6_image : MethodName := ⟨RX6, "image", "()I"⟩
abbrev cX6_on : ByteArray := prog_1_method_41_code
def yX6_on : MethodName := ⟨RX6, "on", "()I"⟩
abbrev cX6_count : ByteArray := prog_1_method_42_code
def yX6_count : MethodName := ⟨RX6, "count", "(I)I"⟩
abbrev cX6_refuse : ByteArray := prog_1_method_43_code
def yX6_refuse : MethodName := ⟨RX6, "refuse", "(I)I"⟩
abbrev cX6_refuseLong : ByteArray := prog_1_method_44_code
def yX6_refuseLong : MethodName := ⟨RX6, "refuseLong", "(I)J"⟩
abbrev cX6_told : ByteArray := prog_1_method_45_code
def yX6_told : MethodName := ⟨RX6, "told", "(I)I"⟩
abbrev cX6_comes : ByteArray := prog_1_method_46_code
def yX6_comes : MethodName := ⟨RX6, "comes", "(I)I"⟩
abbrev cX6_outside : ByteArray := prog_1_method_47_code
def yX6_outside : MethodName := ⟨RX6, "outside", "(III)I"⟩
abbrev cX6_isList : ByteArray := prog_1_method_48_code
def yX6_isList : MethodName := ⟨RX6, "isList", "(I)Z"⟩
abbrev cX6_isRack : ByteArray := prog_1_method_49_code
def yX6_isRack : MethodName := ⟨RX6, "isRack", "(I)Z"⟩
abbrev cX6_isKind : ByteArray := prog_1_method_50_code
def yX6_isKind : MethodName := ⟨RX6, "isKind", "(I)Z"⟩
abbrev cX6_isUnder : ByteArray := prog_1_method_51_code
def yX6_isUnder : MethodName := ⟨RX6, "isUnder", "(II)Z"⟩
abbrev cX6_partOf : ByteArray := prog_1_method_52_code
def yX6_partOf : MethodName := ⟨RX6, "partOf", "(JJI)J"⟩
abbrev cX6_greatestDivisor : ByteArray := prog_1_method_53_code
def yX6_greatestDivisor : MethodName := ⟨RX6, "greatestDivisor", "(JJ)J"⟩
abbrev cX6_power : ByteArray := prog_1_method_54_code
def yX6_power : MethodName := ⟨RX6, "power", "(JI)J"⟩
abbrev cX6_bitsOf : ByteArray := prog_1_method_55_code
def yX6_bitsOf : MethodName := ⟨RX6, "bitsOf", "(DII)J"⟩
def RX7 : String := "SiphonsBenchModel"
def TX7 : u_T := fun k => match k with
  | 0 => ("SiphonsBenchModel", "w", "[I", true)
  | 1 => ("SiphonsBenchModel", "aside", "[I", true)
  | 2 => ("SiphonsBenchModel", "kept", "[I", true)
  | 3 => ("SiphonsBenchModel", "hasImage", "Z", false)
  | 4 => ("SiphonsBenchModel", "refused", "[I", true)
  | 5 => ("SiphonsBenchModel", "off", "I", false)
  | 6 => ("SiphonsBenchModel", "ranOver", "I", false)
  | 7 => ("SiphonsBenchModel", "letters", "[I", true)
  | 8 => ("SiphonsBenchModel", "letterMany", "I", false)
  | 9 => ("SiphonsBenchModel", "place", "I", false)
  | 10 => ("SiphonsBenchModel", "isBroken", "Z", false)
  | 11 => ("SiphonsBenchModel", "numbers", "[I", true)
  | 12 => ("SiphonsBenchModel", "told", "[I", true)
  | 13 => ("SiphonsBenchModel", "toldMany", "I", false)
  | 14 => ("SiphonsBenchModel", "states", "[I", true)
  | 15 => ("SiphonsBenchModel", "listSize", "[I", true)
  | 16 => ("SiphonsBenchModel", "items", "[I", true)
  | 17 => ("SiphonsBenchModel", "z", "I", false)
  | 18 => ("SiphonsBenchModel", "rackKind", "[I", true)
  | 19 => ("SiphonsBenchModel", "rackSize", "[I", true)
  | _ => ("SiphonsBenchModel", "lying", "[I", true)
def tyX7 : Nat → FieldType := fun k => match k with
  | 0 => .array .int
  | 1 => .array .int
  | 2 => .array .int
  | 3 => .boolean
  | 4 => .array .int
  | 5 => .int
  | 6 => .int
  | 7 => .array .int
  | 8 => .int
  | 9 => .int
  | 10 => .boolean
  | 11 => .array .int
  | 12 => .array .int
  | 13 => .int
  | 14 => .array .int
  | 15 => .array .int
  | 16 => .array .int
  | 17 => .int
  | 18 => .array .int
  | 19 => .array .int
  | _ => .array .int
abbrev wsX70 : List Cond := u_ws RX7 TX7 21
theorem nmX7 : ∀ a, a < 21 → ∀ b, b < 21 → a ≠ b → (TX7 a).2.1 ≠ (TX7 b).2.1 := by decide +kernel
theorem tyX7_ok : ∀ k, k < 21 → parseFieldDescriptor (TX7 k).2.2.1 = some (tyX7 k) := by decide +kernel
abbrev cX7_init : ByteArray := prog_9_method_1_code
def yX7_init : MethodName := ⟨RX7, "<init>", "()V"⟩
abbrev cX7_in : ByteArray := prog_9_method_2_code
def yX7_in : MethodName := ⟨RX7, "in", "(JJJ)Z"⟩
abbrev cX7_no : ByteArray := prog_9_method_3_code
def yX7_no : MethodName := ⟨RX7, "no", "(I)I"⟩
abbrev cX7_wide : ByteArray := prog_9_method_4_code
def yX7_wide : MethodName := ⟨RX7, "wide", "(I)J"⟩
abbrev cX7_copies : ByteArray := prog_9_method_5_code
def yX7_copies : MethodName := ⟨RX7, "copies", "([I[I)V"⟩
abbrev cX7_isVessel : ByteArray := prog_9_method_6_code
def yX7_isVessel : MethodName := ⟨RX7, "isVessel", "(I)Z"⟩
abbrev cX7_isPipe : ByteArray := prog_9_method_7_code
def yX7_isPipe : MethodName := ⟨RX7, "isPipe", "(I)Z"⟩
abbrev cX7_vessel : ByteArray := prog_9_method_8_code
def yX7_vessel : MethodName := ⟨RX7, "vessel", "(I)I"⟩
abbrev cX7_pipe : ByteArray := prog_9_method_9_code
def yX7_pipe : MethodName := ⟨RX7, "pipe", "(I)I"⟩
abbrev cX7_wrong : ByteArray := prog_9_method_10_code
def yX7_wrong : MethodName := ⟨RX7, "wrong", "(III)I"⟩
abbrev cX7_height : ByteArray := prog_9_method_11_code
def yX7_height : MethodName := ⟨RX7, "height", "(I)I"⟩
abbrev cX7_above : ByteArray := prog_9_method_12_code
def yX7_above : MethodName := ⟨RX7, "above", "(II)I"⟩
abbrev cX7_head : ByteArray := prog_9_method_13_code
def yX7_head : MethodName := ⟨RX7, "head", "(II)I"⟩
abbrev cX7_differs : ByteArray := prog_9_method_14_code
def yX7_differs : MethodName := ⟨RX7, "differs", "(I)I"⟩
abbrev cX7_goesFrom : ByteArray := prog_9_method_15_code
def yX7_goesFrom : MethodName := ⟨RX7, "goesFrom", "(III)I"⟩
abbrev cX7_isSiphon : ByteArray := prog_9_method_16_code
def yX7_isSiphon : MethodName := ⟨RX7, "isSiphon", "(I)Z"⟩
abbrev cX7_crest : ByteArray := prog_9_method_17_code
def yX7_crest : MethodName := ⟨RX7, "crest", "(I)I"⟩
abbrev cX7_doesRun : ByteArray := prog_9_method_18_code
def yX7_doesRun : MethodName := ⟨RX7, "doesRun", "(I)Z"⟩
abbrev cX7_rateOf : ByteArray := prog_9_method_19_code
def yX7_rateOf : MethodName := ⟨RX7, "rateOf", "(I)I"⟩
abbrev cX7_amount : ByteArray := prog_9_method_20_code
def yX7_amount : MethodName := ⟨RX7, "amount", "(I)I"⟩
abbrev cX7_goesPipe : ByteArray := prog_9_method_21_code
def yX7_goesPipe : MethodName := ⟨RX7, "goesPipe", "(I)V"⟩
abbrev cX7_step : ByteArray := prog_9_method_22_code
def yX7_step : MethodName := ⟨RX7, "step", "()V"⟩
abbrev cX7_steps : ByteArray := prog_9_method_23_code
def yX7_steps : MethodName := ⟨RX7, "steps", "(I)V"⟩
abbrev cX7_thinks : ByteArray := prog_9_method_24_code
def yX7_thinks : MethodName := ⟨RX7, "thinks", "()V"⟩
abbrev cX7_back : ByteArray := prog_9_method_25_code
def yX7_back : MethodName := ⟨RX7, "back", "()V"⟩
abbrev cX7_letter : ByteArray := prog_9_method_26_code
def yX7_letter : MethodName := ⟨RX7, "letter", "(I)I"⟩
abbrev cX7_here : ByteArray := prog_9_method_27_code
def yX7_here : MethodName := ⟨RX7, "here", "()I"⟩
abbrev cX7_takes : ByteArray := prog_9_method_28_code
def yX7_takes : MethodName := ⟨RX7, "takes", "(I)V"⟩
abbrev cX7_number : ByteArray := prog_9_method_29_code
def yX7_number : MethodName := ⟨RX7, "number", "()I"⟩
abbrev cX7_signs : ByteArray := prog_9_method_30_code
def yX7_signs : MethodName := ⟨RX7, "signs", "(I)Ljava/lang/String;"⟩
abbrev cX7_statement : ByteArray := prog_9_method_31_code
def yX7_statement : MethodName := ⟨RX7, "statement", "()V"⟩
abbrev cX7_comes : ByteArray := prog_9_method_32_code
def yX7_comes : MethodName := ⟨RX7, "comes", "(I)I"⟩
abbrev cX7_tells : ByteArray := prog_9_method_33_code
def yX7_tells : MethodName := ⟨RX7, "tells", "()I"⟩
abbrev cX7_vesselComes : ByteArray := prog_9_method_34_code
def yX7_vesselComes : MethodName := ⟨RX7, "vesselComes", "(III)I"⟩
abbrev cX7_isMouth : ByteArray := prog_9_method_35_code
def yX7_isMouth : MethodName := ⟨RX7, "isMouth", "(II)Z"⟩
abbrev cX7_pipeComes : ByteArray := prog_9_method_36_code
def yX7_pipeComes : MethodName := ⟨RX7, "pipeComes", "(IIIII)I"⟩
abbrev cX7_becomesKind : ByteArray := prog_9_method_37_code
def yX7_becomesKind : MethodName := ⟨RX7, "becomesKind", "(III)I"⟩
abbrev cX7_becomes : ByteArray := prog_9_method_38_code
def yX7_becomes : MethodName := ⟨RX7, "becomes", "(III)I"⟩
abbrev cX7_passed : ByteArray := prog_9_method_39_code
def yX7_passed : MethodName := ⟨RX7, "passed", "(I)I"⟩
abbrev cX7_counted : ByteArray := prog_9_method_40_code
def yX7_counted : MethodName := ⟨RX7, "counted", "(I)I"⟩
abbrev cX7_vessel_ : ByteArray := prog_9_method_41_code
def yX7_vessel_ : MethodName := ⟨RX7, "vessel", "(III)I"⟩
abbrev cX7_pipe_ : ByteArray := prog_9_method_42_code
def yX7_pipe_ : MethodName := ⟨RX7, "pipe", "(IIIII)I"⟩
abbrev cX7_kind : ByteArray := prog_9_method_43_code
def yX7_kind : MethodName := ⟨RX7, "kind", "(III)I"⟩
abbrev cX7_rate : ByteArray := prog_9_method_44_code
def yX7_rate : MethodName := ⟨RX7, "rate", "(II)I"⟩
abbrev cX7_water : ByteArray := prog_9_method_45_code
def yX7_water : MethodName := ⟨RX7, "water", "(II)I"⟩
abbrev cX7_tap : ByteArray := prog_9_method_46_code
def yX7_tap : MethodName := ⟨RX7, "tap", "(II)I"⟩
abbrev cX7_passes : ByteArray := prog_9_method_47_code
def yX7_passes : MethodName := ⟨RX7, "passes", "(I)I"⟩
abbrev cX7_of : ByteArray := prog_9_method_48_code
def yX7_of : MethodName := ⟨RX7, "of", "(II)I"⟩
abbrev cX7_ofPipe : ByteArray := prog_9_method_49_code
def yX7_ofPipe : MethodName := ⟨RX7, "ofPipe", "(II)I"⟩
abbrev cX7_divisor : ByteArray := prog_9_method_50_code
def yX7_divisor : MethodName := ⟨RX7, "divisor", "(JJ)J"⟩
abbrev cX7_part : ByteArray := prog_9_method_51_code
def yX7_part : MethodName := ⟨RX7, "part", "(JJI)J"⟩
abbrev cX7_level : ByteArray := prog_9_method_52_code
def yX7_level : MethodName := ⟨RX7, "level", "(II)J"⟩
abbrev cX7_goes : ByteArray := prog_9_method_53_code
def yX7_goes : MethodName := ⟨RX7, "goes", "(I)J"⟩
abbrev cX7_runs : ByteArray := prog_9_method_54_code
def yX7_runs : MethodName := ⟨RX7, "runs", "(I)I"⟩
abbrev cX7_thenOf : ByteArray := prog_9_method_55_code
def yX7_thenOf : MethodName := ⟨RX7, "thenOf", "(II)I"⟩
abbrev cX7_then : ByteArray := prog_9_method_56_code
def yX7_then : MethodName := ⟨RX7, "then", "(III)I"⟩
abbrev cX7_over : ByteArray := prog_9_method_57_code
def yX7_over : MethodName := ⟨RX7, "over", "(I)I"⟩
abbrev cX7_dry : ByteArray := prog_9_method_58_code
def yX7_dry : MethodName := ⟨RX7, "dry", "(I)I"⟩
abbrev cX7_starts0 : ByteArray := prog_9_method_59_code
def yX7_starts0 : MethodName := ⟨RX7, "starts0", "(I)Z"⟩
abbrev cX7_starts : ByteArray := prog_9_method_60_code
def yX7_starts : MethodName := ⟨RX7, "starts", "(I)I"⟩
abbrev cX7_turns : ByteArray := prog_9_method_61_code
def yX7_turns : MethodName := ⟨RX7, "turns", "(II)I"⟩
abbrev cX7_keepsState : ByteArray := prog_9_method_62_code
def yX7_keepsState : MethodName := ⟨RX7, "keepsState", "(I)V"⟩
abbrev cX7_running : ByteArray := prog_9_method_63_code
def yX7_running : MethodName := ⟨RX7, "running", "()I"⟩
abbrev cX7_isState : ByteArray := prog_9_method_64_code
def yX7_isState : MethodName := ⟨RX7, "isState", "(II)Z"⟩
abbrev cX7_earlier : ByteArray := prog_9_method_65_code
def yX7_earlier : MethodName := ⟨RX7, "earlier", "(I)I"⟩
abbrev cX7_round : ByteArray := prog_9_method_66_code
def yX7_round : MethodName := ⟨RX7, "round", "(I)I"⟩
abbrev cX7_doesRunWithin : ByteArray := prog_9_method_67_code
def yX7_doesRunWithin : MethodName := ⟨RX7, "doesRunWithin", "(II)Z"⟩
abbrev cX7_least : ByteArray := prog_9_method_68_code
def yX7_least : MethodName := ⟨RX7, "least", "(III)I"⟩
abbrev cX7_tapBest : ByteArray := prog_9_method_69_code
def yX7_tapBest : MethodName := ⟨RX7, "tapBest", "(IIII)I"⟩
abbrev cX7_sumpWithout : ByteArray := prog_9_method_70_code
def yX7_sumpWithout : MethodName := ⟨RX7, "sumpWithout", "(II)I"⟩
abbrev cX7_matters : ByteArray := prog_9_method_71_code
def yX7_matters : MethodName := ⟨RX7, "matters", "(I)I"⟩
abbrev cX7_isAhead : ByteArray := prog_9_method_72_code
def yX7_isAhead : MethodName := ⟨RX7, "isAhead", "(II)Z"⟩
abbrev cX7_order : ByteArray := prog_9_method_73_code
def yX7_order : MethodName := ⟨RX7, "order", "(I)I"⟩
abbrev cX7_areAlike : ByteArray := prog_9_method_74_code
def yX7_areAlike : MethodName := ⟨RX7, "areAlike", "(II)Z"⟩
abbrev cX7_meets : ByteArray := prog_9_method_75_code
def yX7_meets : MethodName := ⟨RX7, "meets", "(II)I"⟩
abbrev cX7_shown : ByteArray := prog_9_method_76_code
def yX7_shown : MethodName := ⟨RX7, "shown", "(I)J"⟩
abbrev cX7_work : ByteArray := prog_9_method_77_code
def yX7_work : MethodName := ⟨RX7, "work", "(I)J"⟩
abbrev cX7_runsOver : ByteArray := prog_9_method_78_code
def yX7_runsOver : MethodName := ⟨RX7, "runsOver", "(II)Z"⟩
abbrev cX7_leak : ByteArray := prog_9_method_79_code
def yX7_leak : MethodName := ⟨RX7, "leak", "(III)J"⟩
abbrev cX7_all : ByteArray := prog_9_method_80_code
def yX7_all : MethodName := ⟨RX7, "all", "()I"⟩
abbrev cX7_isList : ByteArray := prog_9_method_81_code
def yX7_isList : MethodName := ⟨RX7, "isList", "(I)Z"⟩
abbrev cX7_judge : ByteArray := prog_9_method_82_code
def yX7_judge : MethodName := ⟨RX7, "judge", "(I)I"⟩
abbrev cX7_goesAsTold : ByteArray := prog_9_method_83_code
def yX7_goesAsTold : MethodName := ⟨RX7, "goesAsTold", "(II)Z"⟩
abbrev cX7_whatIs : ByteArray := prog_9_method_84_code
def yX7_whatIs : MethodName := ⟨RX7, "whatIs", "(III)I"⟩
abbrev cX7_draw : ByteArray := prog_9_method_85_code
def yX7_draw : MethodName := ⟨RX7, "draw", "(I)I"⟩
abbrev cX7_lots : ByteArray := prog_9_method_86_code
def yX7_lots : MethodName := ⟨RX7, "lots", "(III)I"⟩
abbrev cX7_list : ByteArray := prog_9_method_87_code
def yX7_list : MethodName := ⟨RX7, "list", "(II)I"⟩
abbrev cX7_put : ByteArray := prog_9_method_88_code
def yX7_put : MethodName := ⟨RX7, "put", "(III)I"⟩
abbrev cX7_lays : ByteArray := prog_9_method_89_code
def yX7_lays : MethodName := ⟨RX7, "lays", "(II)I"⟩
abbrev cX7_isRack : ByteArray := prog_9_method_90_code
def yX7_isRack : MethodName := ⟨RX7, "isRack", "(I)Z"⟩
abbrev cX7_rack : ByteArray := prog_9_method_91_code
def yX7_rack : MethodName := ⟨RX7, "rack", "(III)I"⟩
abbrev cX7_isUnder : ByteArray := prog_9_method_92_code
def yX7_isUnder : MethodName := ⟨RX7, "isUnder", "(II)Z"⟩
abbrev cX7_racks : ByteArray := prog_9_method_93_code
def yX7_racks : MethodName := ⟨RX7, "racks", "(III)I"⟩
abbrev cX7_racked : ByteArray := prog_9_method_94_code
def yX7_racked : MethodName := ⟨RX7, "racked", "(II)I"⟩
abbrev cX7_like : ByteArray := prog_9_method_95_code
def yX7_like : MethodName := ⟨RX7, "like", "(II)I"⟩
abbrev cX7_image : ByteArray := prog_9_method_96_code
def yX7_image : MethodName := ⟨RX7, "image", "()I"⟩
abbrev cX7_on : ByteArray := prog_9_method_97_code
def yX7_on : MethodName := ⟨RX7, "on", "()I"⟩
abbrev cX7_count : ByteArray := prog_9_method_98_code
def yX7_count : MethodName := ⟨RX7, "count", "(I)I"⟩
def RJxe99ae : String := "java/lang/Double"
abbrev cJxe99ae_isNaN_b9ae7 : ByteArray := prog_10_method_6_code
def yJxe99ae_isNaN_b9ae7 : MethodName := ⟨RJxe99ae, "isNaN", "(D)Z"⟩
abbrev cJxe99ae_doubleToLongBits_ccdee : ByteArray := prog_10_method_23_code
def yJxe99ae_doubleToLongBits_ccdee : MethodName := ⟨RJxe99ae, "doubleToLongBits", "(D)J"⟩
def RJxf58ca : String := "java/lang/Float"
abbrev cJxf58ca_isNaN_12338 : ByteArray := prog_11_method_6_code
def yJxf58ca_isNaN_12338 : MethodName := ⟨RJxf58ca, "isNaN", "(F)Z"⟩
abbrev cJxf58ca_floatToIntBits_5c35a : ByteArray := prog_11_method_24_code
def yJxf58ca_floatToIntBits_5c35a : MethodName := ⟨RJxf58ca, "floatToIntBits", "(F)I"⟩
def RJ6 : String := "java/lang/Integer"
abbrev cJ6_bitCount_0f7a4 : ByteArray := prog_12_method_49_code
def yJ6_bitCount_0f7a4 : MethodName := ⟨RJ6, "bitCount", "(I)I"⟩
def RJ9 : String := "java/lang/Math"
abbrev cJ9_abs_0f7a4 : ByteArray := prog_13_method_59_code
def yJ9_abs_0f7a4 : MethodName := ⟨RJ9, "abs", "(I)I"⟩
abbrev cJ9_max_7cf53 : ByteArray := prog_13_method_65_code
def yJ9_max_7cf53 : MethodName := ⟨RJ9, "max", "(II)I"⟩
abbrev cJ9_min_7cf53 : ByteArray := prog_13_method_69_code
def yJ9_min_7cf53 : MethodName := ⟨RJ9, "min", "(II)I"⟩
def RJ0 : String := "java/lang/String"
abbrev cJ0_length_8abf5 : ByteArray := prog_14_method_54_code
def yJ0_length_8abf5 : MethodName := ⟨RJ0, "length", "()I"⟩
abbrev cJ0_isEmpty_aae02 : ByteArray := prog_14_method_55_code
def yJ0_isEmpty_aae02 : MethodName := ⟨RJ0, "isEmpty", "()Z"⟩
abbrev cJ0_charAt_5068e : ByteArray := prog_14_method_56_code
def yJ0_charAt_5068e : MethodName := ⟨RJ0, "charAt", "(I)C"⟩
abbrev cJ0_equals_9ea2d : ByteArray := prog_14_method_66_code
def yJ0_equals_9ea2d : MethodName := ⟨RJ0, "equals", "(Ljava/lang/Object;)Z"⟩
abbrev cJ0_coder_7d493 : ByteArray := prog_14_method_152_code
def yJ0_coder_7d493 : MethodName := ⟨RJ0, "coder", "()B"⟩
abbrev cJ0_isLatin1_aae02 : ByteArray := prog_14_method_154_code
def yJ0_isLatin1_aae02 : MethodName := ⟨RJ0, "isLatin1", "()Z"⟩
abbrev cJ0_checkIndex_df160 : ByteArray := prog_14_method_155_code
def yJ0_checkIndex_df160 : MethodName := ⟨RJ0, "checkIndex", "(II)V"⟩
def RJ1 : String := "java/lang/StringLatin1"
abbrev cJ1_charAt_3b067 : ByteArray := prog_15_method_2_code
def yJ1_charAt_3b067 : MethodName := ⟨RJ1, "charAt", "([BI)C"⟩
abbrev cJ1_equals_b5fdf : ByteArray := prog_15_method_13_code
def yJ1_equals_b5fdf : MethodName := ⟨RJ1, "equals", "([B[B)Z"⟩
def RJ2 : String := "java/lang/StringUTF16"
abbrev cJ2_getChar_3b067 : ByteArray := prog_16_method_5_code
def yJ2_getChar_3b067 : MethodName := ⟨RJ2, "getChar", "([BI)C"⟩
abbrev cJ2_length_9d52b : ByteArray := prog_16_method_6_code
def yJ2_length_9d52b : MethodName := ⟨RJ2, "length", "([B)I"⟩
abbrev cJ2_charAt_3b067 : ByteArray := prog_16_method_83_code
def yJ2_charAt_3b067 : MethodName := ⟨RJ2, "charAt", "([BI)C"⟩
abbrev cJ2_checkIndex_2214a : ByteArray := prog_16_method_91_code
def yJ2_checkIndex_2214a : MethodName := ⟨RJ2, "checkIndex", "(I[B)V"⟩
def RJ3 : String := "jdk/internal/util/Preconditions"
abbrev cJ3_checkIndex_8e157 : ByteArray := prog_17_method_11_code
def yJ3_checkIndex_8e157 : MethodName := ⟨RJ3, "checkIndex", "(IILjava/util/function/BiFunction;)I"⟩
def RL : String := "SiphonsBenchLaw"
abbrev cL_law : ByteArray := code
def yL_law : MethodName := ⟨RL, "law", "([I)Z"⟩
abbrev vwCl : List vw_C := [(RX0, TX0, 9), (RX1, TX1, 4), (RX2, TX2, 6), (RX3, TX3, 8), (RX4, TX4, 2), (RX5, TX5, 5), (RX6, TX6, 10), (RX7, TX7, 21)]
