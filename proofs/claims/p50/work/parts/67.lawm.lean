def SXH (k : KT) (b L : Nat) (xs : Nat → Int32) : Prop := L ≤ 260 ∧ ∀ (A : Nat → Prop) (U : State) (H : Heap), k.2.2 A U H → va_X b L xs U H ∧ b < H.size ∧ ¬ A b
theorem tm_686 : (Jvm.Cond.constant "MemoryCourtLaw" (7 : Nat) (1013904223 : Int32)) ∈ lw_tbl := List.mem_of_getElem? (i := 686) (by decide +kernel)
theorem tm_683 : (Jvm.Cond.methodLink "MemoryCourtLaw" (8 : Nat) ({ cls := "MemoryCourtLaw", name := "cell", desc := "([II)I" } : Jvm.MethodName)) ∈ lw_tbl := List.mem_of_getElem? (i := 683) (by decide +kernel)
theorem tm_684 : (Jvm.Cond.static ({ cls := "MemoryCourtLaw", name := "cell", desc := "([II)I" } : Jvm.MethodName)) ∈ lw_tbl := List.mem_of_getElem? (i := 684) (by decide +kernel)
theorem tm_32 : (Jvm.Cond.initialized "MemoryCourtLaw") ∈ lw_tbl := List.mem_of_getElem? (i := 32) (by decide +kernel)
theorem tm_685 : (Jvm.Cond.code ({ cls := "MemoryCourtLaw", name := "cell", desc := "([II)I" } : Jvm.MethodName) method_2_code (2 : Nat) (Option.some Jvm.ClassFile.FieldType.int)) ∈ lw_tbl := List.mem_of_getElem? (i := 685) (by decide +kernel)
theorem tm_687 : (Jvm.Cond.constant "MemoryCourtLaw" (14 : Nat) (2147483647 : Int32)) ∈ lw_tbl := List.mem_of_getElem? (i := 687) (by decide +kernel)
theorem tm_680 : (Jvm.Cond.methodLink "MemoryCourtLaw" (62 : Nat) ({ cls := "MemoryCourtLaw", name := "draw", desc := "([IIII)I" } : Jvm.MethodName)) ∈ lw_tbl := List.mem_of_getElem? (i := 680) (by decide +kernel)
theorem tm_681 : (Jvm.Cond.static ({ cls := "MemoryCourtLaw", name := "draw", desc := "([IIII)I" } : Jvm.MethodName)) ∈ lw_tbl := List.mem_of_getElem? (i := 681) (by decide +kernel)
theorem tm_682 : (Jvm.Cond.code ({ cls := "MemoryCourtLaw", name := "draw", desc := "([IIII)I" } : Jvm.MethodName) method_3_code (4 : Nat) (Option.some Jvm.ClassFile.FieldType.int)) ∈ lw_tbl := List.mem_of_getElem? (i := 682) (by decide +kernel)
theorem tm_345 : (Jvm.Cond.methodLink "MemoryCourtLaw" (84 : Nat) ({ cls := "MemoryCourt", name := "count", desc := "(I)I" } : Jvm.MethodName)) ∈ lw_tbl := List.mem_of_getElem? (i := 345) (by decide +kernel)
theorem tm_346 : (Jvm.Cond.instanceMethod ({ cls := "MemoryCourt", name := "count", desc := "(I)I" } : Jvm.MethodName)) ∈ lw_tbl := List.mem_of_getElem? (i := 346) (by decide +kernel)
theorem tm_347 : (Jvm.Cond.selects "MemoryCourt" ({ cls := "MemoryCourt", name := "count", desc := "(I)I" } : Jvm.MethodName) ({ cls := "MemoryCourt", name := "count", desc := "(I)I" } : Jvm.MethodName)) ∈ lw_tbl := List.mem_of_getElem? (i := 347) (by decide +kernel)
theorem tm_348 : (Jvm.Cond.code ({ cls := "MemoryCourt", name := "count", desc := "(I)I" } : Jvm.MethodName) prog_1_method_7_code (2 : Nat) (Option.some Jvm.ClassFile.FieldType.int)) ∈ lw_tbl := List.mem_of_getElem? (i := 348) (by decide +kernel)
theorem tm_1124 : (Jvm.Cond.methodLink "MemoryCourtLaw" (88 : Nat) ({ cls := "MemoryCourt", name := "ask", desc := "(III)I" } : Jvm.MethodName)) ∈ lw_tbl := List.mem_of_getElem? (i := 1124) (by decide +kernel)
theorem tm_1125 : (Jvm.Cond.instanceMethod ({ cls := "MemoryCourt", name := "ask", desc := "(III)I" } : Jvm.MethodName)) ∈ lw_tbl := List.mem_of_getElem? (i := 1125) (by decide +kernel)
theorem tm_1126 : (Jvm.Cond.selects "MemoryCourt" ({ cls := "MemoryCourt", name := "ask", desc := "(III)I" } : Jvm.MethodName) ({ cls := "MemoryCourt", name := "ask", desc := "(III)I" } : Jvm.MethodName)) ∈ lw_tbl := List.mem_of_getElem? (i := 1126) (by decide +kernel)
theorem tm_1127 : (Jvm.Cond.code ({ cls := "MemoryCourt", name := "ask", desc := "(III)I" } : Jvm.MethodName) prog_1_method_28_code (4 : Nat) (Option.some Jvm.ClassFile.FieldType.int)) ∈ lw_tbl := List.mem_of_getElem? (i := 1127) (by decide +kernel)
theorem tm_480 : (Jvm.Cond.methodLink "MemoryCourtLaw" (105 : Nat) ({ cls := "MemoryCourt", name := "run", desc := "(I)I" } : Jvm.MethodName)) ∈ lw_tbl := List.mem_of_getElem? (i := 480) (by decide +kernel)
theorem tm_481 : (Jvm.Cond.instanceMethod ({ cls := "MemoryCourt", name := "run", desc := "(I)I" } : Jvm.MethodName)) ∈ lw_tbl := List.mem_of_getElem? (i := 481) (by decide +kernel)
theorem tm_482 : (Jvm.Cond.selects "MemoryCourt" ({ cls := "MemoryCourt", name := "run", desc := "(I)I" } : Jvm.MethodName) ({ cls := "MemoryCourt", name := "run", desc := "(I)I" } : Jvm.MethodName)) ∈ lw_tbl := List.mem_of_getElem? (i := 482) (by decide +kernel)
theorem tm_483 : (Jvm.Cond.code ({ cls := "MemoryCourt", name := "run", desc := "(I)I" } : Jvm.MethodName) prog_1_method_27_code (4 : Nat) (Option.some Jvm.ClassFile.FieldType.int)) ∈ lw_tbl := List.mem_of_getElem? (i := 483) (by decide +kernel)
theorem tm_1131 : (Jvm.Cond.methodLink "MemoryCourtLaw" (92 : Nat) ({ cls := "MemoryCourt", name := "stall", desc := "(II)I" } : Jvm.MethodName)) ∈ lw_tbl := List.mem_of_getElem? (i := 1131) (by decide +kernel)
theorem tm_1132 : (Jvm.Cond.instanceMethod ({ cls := "MemoryCourt", name := "stall", desc := "(II)I" } : Jvm.MethodName)) ∈ lw_tbl := List.mem_of_getElem? (i := 1132) (by decide +kernel)
theorem tm_1133 : (Jvm.Cond.selects "MemoryCourt" ({ cls := "MemoryCourt", name := "stall", desc := "(II)I" } : Jvm.MethodName) ({ cls := "MemoryCourt", name := "stall", desc := "(II)I" } : Jvm.MethodName)) ∈ lw_tbl := List.mem_of_getElem? (i := 1133) (by decide +kernel)
theorem tm_1134 : (Jvm.Cond.code ({ cls := "MemoryCourt", name := "stall", desc := "(II)I" } : Jvm.MethodName) prog_1_method_32_code (4 : Nat) (Option.some Jvm.ClassFile.FieldType.int)) ∈ lw_tbl := List.mem_of_getElem? (i := 1134) (by decide +kernel)
theorem tm_629 : (Jvm.Cond.methodLink "MemoryCourtLaw" (96 : Nat) ({ cls := "MemoryCourt", name := "setOrder", desc := "(I)I" } : Jvm.MethodName)) ∈ lw_tbl := List.mem_of_getElem? (i := 629) (by decide +kernel)
theorem tm_630 : (Jvm.Cond.instanceMethod ({ cls := "MemoryCourt", name := "setOrder", desc := "(I)I" } : Jvm.MethodName)) ∈ lw_tbl := List.mem_of_getElem? (i := 630) (by decide +kernel)
theorem tm_631 : (Jvm.Cond.selects "MemoryCourt" ({ cls := "MemoryCourt", name := "setOrder", desc := "(I)I" } : Jvm.MethodName) ({ cls := "MemoryCourt", name := "setOrder", desc := "(I)I" } : Jvm.MethodName)) ∈ lw_tbl := List.mem_of_getElem? (i := 631) (by decide +kernel)
theorem tm_632 : (Jvm.Cond.code ({ cls := "MemoryCourt", name := "setOrder", desc := "(I)I" } : Jvm.MethodName) prog_1_method_34_code (3 : Nat) (Option.some Jvm.ClassFile.FieldType.int)) ∈ lw_tbl := List.mem_of_getElem? (i := 632) (by decide +kernel)
theorem tm_459 : (Jvm.Cond.methodLink "MemoryCourtLaw" (99 : Nat) ({ cls := "MemoryCourt", name := "loan", desc := "(II)I" } : Jvm.MethodName)) ∈ lw_tbl := List.mem_of_getElem? (i := 459) (by decide +kernel)
theorem tm_460 : (Jvm.Cond.instanceMethod ({ cls := "MemoryCourt", name := "loan", desc := "(II)I" } : Jvm.MethodName)) ∈ lw_tbl := List.mem_of_getElem? (i := 460) (by decide +kernel)
theorem tm_461 : (Jvm.Cond.selects "MemoryCourt" ({ cls := "MemoryCourt", name := "loan", desc := "(II)I" } : Jvm.MethodName) ({ cls := "MemoryCourt", name := "loan", desc := "(II)I" } : Jvm.MethodName)) ∈ lw_tbl := List.mem_of_getElem? (i := 461) (by decide +kernel)
theorem tm_462 : (Jvm.Cond.code ({ cls := "MemoryCourt", name := "loan", desc := "(II)I" } : Jvm.MethodName) prog_1_method_10_code (3 : Nat) (Option.some Jvm.ClassFile.FieldType.int)) ∈ lw_tbl := List.mem_of_getElem? (i := 462) (by decide +kernel)
theorem tm_1136 : (Jvm.Cond.methodLink "MemoryCourtLaw" (102 : Nat) ({ cls := "MemoryCourt", name := "giveBack", desc := "(II)I" } : Jvm.MethodName)) ∈ lw_tbl := List.mem_of_getElem? (i := 1136) (by decide +kernel)
theorem tm_1137 : (Jvm.Cond.instanceMethod ({ cls := "MemoryCourt", name := "giveBack", desc := "(II)I" } : Jvm.MethodName)) ∈ lw_tbl := List.mem_of_getElem? (i := 1137) (by decide +kernel)
theorem tm_1138 : (Jvm.Cond.selects "MemoryCourt" ({ cls := "MemoryCourt", name := "giveBack", desc := "(II)I" } : Jvm.MethodName) ({ cls := "MemoryCourt", name := "giveBack", desc := "(II)I" } : Jvm.MethodName)) ∈ lw_tbl := List.mem_of_getElem? (i := 1138) (by decide +kernel)
theorem tm_1139 : (Jvm.Cond.code ({ cls := "MemoryCourt", name := "giveBack", desc := "(II)I" } : Jvm.MethodName) prog_1_method_30_code (3 : Nat) (Option.some Jvm.ClassFile.FieldType.int)) ∈ lw_tbl := List.mem_of_getElem? (i := 1139) (by decide +kernel)
theorem tm_1186 : (Jvm.Cond.methodLink "MemoryCourtLaw" (117 : Nat) ({ cls := "MemoryCourt", name := "overdue", desc := "()I" } : Jvm.MethodName)) ∈ lw_tbl := List.mem_of_getElem? (i := 1186) (by decide +kernel)
theorem tm_1187 : (Jvm.Cond.instanceMethod ({ cls := "MemoryCourt", name := "overdue", desc := "()I" } : Jvm.MethodName)) ∈ lw_tbl := List.mem_of_getElem? (i := 1187) (by decide +kernel)
theorem tm_1188 : (Jvm.Cond.selects "MemoryCourt" ({ cls := "MemoryCourt", name := "overdue", desc := "()I" } : Jvm.MethodName) ({ cls := "MemoryCourt", name := "overdue", desc := "()I" } : Jvm.MethodName)) ∈ lw_tbl := List.mem_of_getElem? (i := 1188) (by decide +kernel)
theorem tm_1189 : (Jvm.Cond.code ({ cls := "MemoryCourt", name := "overdue", desc := "()I" } : Jvm.MethodName) prog_1_method_22_code (1 : Nat) (Option.some Jvm.ClassFile.FieldType.int)) ∈ lw_tbl := List.mem_of_getElem? (i := 1189) (by decide +kernel)
theorem tm_1191 : (Jvm.Cond.methodLink "MemoryCourtLaw" (120 : Nat) ({ cls := "MemoryCourt", name := "firstBroken", desc := "()I" } : Jvm.MethodName)) ∈ lw_tbl := List.mem_of_getElem? (i := 1191) (by decide +kernel)
theorem tm_1192 : (Jvm.Cond.instanceMethod ({ cls := "MemoryCourt", name := "firstBroken", desc := "()I" } : Jvm.MethodName)) ∈ lw_tbl := List.mem_of_getElem? (i := 1192) (by decide +kernel)
theorem tm_1193 : (Jvm.Cond.selects "MemoryCourt" ({ cls := "MemoryCourt", name := "firstBroken", desc := "()I" } : Jvm.MethodName) ({ cls := "MemoryCourt", name := "firstBroken", desc := "()I" } : Jvm.MethodName)) ∈ lw_tbl := List.mem_of_getElem? (i := 1193) (by decide +kernel)
theorem tm_1194 : (Jvm.Cond.code ({ cls := "MemoryCourt", name := "firstBroken", desc := "()I" } : Jvm.MethodName) prog_1_method_23_code (1 : Nat) (Option.some Jvm.ClassFile.FieldType.int)) ∈ lw_tbl := List.mem_of_getElem? (i := 1194) (by decide +kernel)
theorem tm_1196 : (Jvm.Cond.methodLink "MemoryCourtLaw" (129 : Nat) ({ cls := "MemoryCourt", name := "waiting", desc := "(I)I" } : Jvm.MethodName)) ∈ lw_tbl := List.mem_of_getElem? (i := 1196) (by decide +kernel)
theorem tm_1197 : (Jvm.Cond.instanceMethod ({ cls := "MemoryCourt", name := "waiting", desc := "(I)I" } : Jvm.MethodName)) ∈ lw_tbl := List.mem_of_getElem? (i := 1197) (by decide +kernel)
theorem tm_1198 : (Jvm.Cond.selects "MemoryCourt" ({ cls := "MemoryCourt", name := "waiting", desc := "(I)I" } : Jvm.MethodName) ({ cls := "MemoryCourt", name := "waiting", desc := "(I)I" } : Jvm.MethodName)) ∈ lw_tbl := List.mem_of_getElem? (i := 1198) (by decide +kernel)
theorem tm_1199 : (Jvm.Cond.code ({ cls := "MemoryCourt", name := "waiting", desc := "(I)I" } : Jvm.MethodName) prog_1_method_16_code (3 : Nat) (Option.some Jvm.ClassFile.FieldType.int)) ∈ lw_tbl := List.mem_of_getElem? (i := 1199) (by decide +kernel)
theorem tm_470 : (Jvm.Cond.methodLink "MemoryCourtLaw" (126 : Nat) ({ cls := "MemoryCourt", name := "claim", desc := "(II)I" } : Jvm.MethodName)) ∈ lw_tbl := List.mem_of_getElem? (i := 470) (by decide +kernel)
theorem tm_471 : (Jvm.Cond.instanceMethod ({ cls := "MemoryCourt", name := "claim", desc := "(II)I" } : Jvm.MethodName)) ∈ lw_tbl := List.mem_of_getElem? (i := 471) (by decide +kernel)
theorem tm_472 : (Jvm.Cond.selects "MemoryCourt" ({ cls := "MemoryCourt", name := "claim", desc := "(II)I" } : Jvm.MethodName) ({ cls := "MemoryCourt", name := "claim", desc := "(II)I" } : Jvm.MethodName)) ∈ lw_tbl := List.mem_of_getElem? (i := 472) (by decide +kernel)
theorem tm_473 : (Jvm.Cond.code ({ cls := "MemoryCourt", name := "claim", desc := "(II)I" } : Jvm.MethodName) prog_1_method_15_code (3 : Nat) (Option.some Jvm.ClassFile.FieldType.int)) ∈ lw_tbl := List.mem_of_getElem? (i := 473) (by decide +kernel)
theorem tm_377 : (Jvm.Cond.methodLink "MemoryCourtLaw" (123 : Nat) ({ cls := "MemoryCourt", name := "process", desc := "(II)I" } : Jvm.MethodName)) ∈ lw_tbl := List.mem_of_getElem? (i := 377) (by decide +kernel)
theorem tm_378 : (Jvm.Cond.instanceMethod ({ cls := "MemoryCourt", name := "process", desc := "(II)I" } : Jvm.MethodName)) ∈ lw_tbl := List.mem_of_getElem? (i := 378) (by decide +kernel)
theorem tm_379 : (Jvm.Cond.selects "MemoryCourt" ({ cls := "MemoryCourt", name := "process", desc := "(II)I" } : Jvm.MethodName) ({ cls := "MemoryCourt", name := "process", desc := "(II)I" } : Jvm.MethodName)) ∈ lw_tbl := List.mem_of_getElem? (i := 379) (by decide +kernel)
theorem tm_380 : (Jvm.Cond.code ({ cls := "MemoryCourt", name := "process", desc := "(II)I" } : Jvm.MethodName) prog_1_method_9_code (3 : Nat) (Option.some Jvm.ClassFile.FieldType.int)) ∈ lw_tbl := List.mem_of_getElem? (i := 380) (by decide +kernel)
theorem tm_1178 : (Jvm.Cond.methodLink "MemoryCourtLaw" (114 : Nat) ({ cls := "MemoryCourt", name := "pieces", desc := "(I)I" } : Jvm.MethodName)) ∈ lw_tbl := List.mem_of_getElem? (i := 1178) (by decide +kernel)
theorem tm_1179 : (Jvm.Cond.instanceMethod ({ cls := "MemoryCourt", name := "pieces", desc := "(I)I" } : Jvm.MethodName)) ∈ lw_tbl := List.mem_of_getElem? (i := 1179) (by decide +kernel)
theorem tm_1180 : (Jvm.Cond.selects "MemoryCourt" ({ cls := "MemoryCourt", name := "pieces", desc := "(I)I" } : Jvm.MethodName) ({ cls := "MemoryCourt", name := "pieces", desc := "(I)I" } : Jvm.MethodName)) ∈ lw_tbl := List.mem_of_getElem? (i := 1180) (by decide +kernel)
theorem tm_1181 : (Jvm.Cond.code ({ cls := "MemoryCourt", name := "pieces", desc := "(I)I" } : Jvm.MethodName) prog_1_method_13_code (2 : Nat) (Option.some Jvm.ClassFile.FieldType.int)) ∈ lw_tbl := List.mem_of_getElem? (i := 1181) (by decide +kernel)
theorem tm_1145 : (Jvm.Cond.methodLink "MemoryCourtLaw" (108 : Nat) ({ cls := "MemoryCourt", name := "pageOf", desc := "(II)I" } : Jvm.MethodName)) ∈ lw_tbl := List.mem_of_getElem? (i := 1145) (by decide +kernel)
theorem tm_1146 : (Jvm.Cond.instanceMethod ({ cls := "MemoryCourt", name := "pageOf", desc := "(II)I" } : Jvm.MethodName)) ∈ lw_tbl := List.mem_of_getElem? (i := 1146) (by decide +kernel)
theorem tm_1147 : (Jvm.Cond.selects "MemoryCourt" ({ cls := "MemoryCourt", name := "pageOf", desc := "(II)I" } : Jvm.MethodName) ({ cls := "MemoryCourt", name := "pageOf", desc := "(II)I" } : Jvm.MethodName)) ∈ lw_tbl := List.mem_of_getElem? (i := 1147) (by decide +kernel)
theorem tm_1148 : (Jvm.Cond.code ({ cls := "MemoryCourt", name := "pageOf", desc := "(II)I" } : Jvm.MethodName) prog_1_method_12_code (4 : Nat) (Option.some Jvm.ClassFile.FieldType.int)) ∈ lw_tbl := List.mem_of_getElem? (i := 1148) (by decide +kernel)
theorem tm_1169 : (Jvm.Cond.methodLink "MemoryCourtLaw" (111 : Nat) ({ cls := "MemoryCourt", name := "page", desc := "(I)I" } : Jvm.MethodName)) ∈ lw_tbl := List.mem_of_getElem? (i := 1169) (by decide +kernel)
theorem tm_1170 : (Jvm.Cond.instanceMethod ({ cls := "MemoryCourt", name := "page", desc := "(I)I" } : Jvm.MethodName)) ∈ lw_tbl := List.mem_of_getElem? (i := 1170) (by decide +kernel)
theorem tm_1171 : (Jvm.Cond.selects "MemoryCourt" ({ cls := "MemoryCourt", name := "page", desc := "(I)I" } : Jvm.MethodName) ({ cls := "MemoryCourt", name := "page", desc := "(I)I" } : Jvm.MethodName)) ∈ lw_tbl := List.mem_of_getElem? (i := 1171) (by decide +kernel)
theorem tm_1172 : (Jvm.Cond.code ({ cls := "MemoryCourt", name := "page", desc := "(I)I" } : Jvm.MethodName) prog_1_method_11_code (2 : Nat) (Option.some Jvm.ClassFile.FieldType.int)) ∈ lw_tbl := List.mem_of_getElem? (i := 1172) (by decide +kernel)
theorem bp_61 : (Int8.ofInt (61)).toInt32 = (61 : Int32) := by decide
theorem bp_13 : (Int8.ofInt (13)).toInt32 = (13 : Int32) := by decide
theorem bp_30 : (Int8.ofInt (30)).toInt32 = (30 : Int32) := by decide
theorem bp_12 : (Int8.ofInt (12)).toInt32 = (12 : Int32) := by decide
theorem bp_9 : (Int8.ofInt (9)).toInt32 = (9 : Int32) := by decide
theorem bp_11 : (Int8.ofInt (11)).toInt32 = (11 : Int32) := by decide
theorem bp_14 : (Int8.ofInt (14)).toInt32 = (14 : Int32) := by decide
theorem bp_18 : (Int8.ofInt (18)).toInt32 = (18 : Int32) := by decide
theorem sl_L_8 : SL RL 8 yL_cell cL_cell 2 (some .int) 2 := ⟨⟨tm_683, tm_684, tm_32, tm_685⟩, by decide +kernel⟩
theorem sl_L_62 : SL RL 62 yL_draw cL_draw 4 (some .int) 4 := ⟨⟨tm_680, tm_681, tm_32, tm_682⟩, by decide +kernel⟩
theorem vl_L_84 : VL RL 84 RX8 yX8_count cX8_count 2 (some .int) 1 := ⟨⟨tm_345, tm_346, tm_347, tm_33, tm_348⟩, by decide +kernel⟩
theorem vl_L_88 : VL RL 88 RX8 yX8_ask cX8_ask 4 (some .int) 3 := ⟨⟨tm_1124, tm_1125, tm_1126, tm_33, tm_1127⟩, by decide +kernel⟩
theorem vl_L_105 : VL RL 105 RX8 yX8_run cX8_run 4 (some .int) 1 := ⟨⟨tm_480, tm_481, tm_482, tm_33, tm_483⟩, by decide +kernel⟩
theorem vl_L_92 : VL RL 92 RX8 yX8_stall cX8_stall 4 (some .int) 2 := ⟨⟨tm_1131, tm_1132, tm_1133, tm_33, tm_1134⟩, by decide +kernel⟩
theorem vl_L_96 : VL RL 96 RX8 yX8_setOrder cX8_setOrder 3 (some .int) 1 := ⟨⟨tm_629, tm_630, tm_631, tm_33, tm_632⟩, by decide +kernel⟩
theorem vl_L_99 : VL RL 99 RX8 yX8_loan cX8_loan 3 (some .int) 2 := ⟨⟨tm_459, tm_460, tm_461, tm_33, tm_462⟩, by decide +kernel⟩
theorem vl_L_102 : VL RL 102 RX8 yX8_giveBack cX8_giveBack 3 (some .int) 2 := ⟨⟨tm_1136, tm_1137, tm_1138, tm_33, tm_1139⟩, by decide +kernel⟩
theorem vl_L_117 : VL RL 117 RX8 yX8_overdue cX8_overdue 1 (some .int) 0 := ⟨⟨tm_1186, tm_1187, tm_1188, tm_33, tm_1189⟩, by decide +kernel⟩
theorem vl_L_120 : VL RL 120 RX8 yX8_firstBroken cX8_firstBroken 1 (some .int) 0 := ⟨⟨tm_1191, tm_1192, tm_1193, tm_33, tm_1194⟩, by decide +kernel⟩
theorem vl_L_129 : VL RL 129 RX8 yX8_waiting cX8_waiting 3 (some .int) 1 := ⟨⟨tm_1196, tm_1197, tm_1198, tm_33, tm_1199⟩, by decide +kernel⟩
theorem vl_L_126 : VL RL 126 RX8 yX8_claim cX8_claim 3 (some .int) 2 := ⟨⟨tm_470, tm_471, tm_472, tm_33, tm_473⟩, by decide +kernel⟩
theorem vl_L_123 : VL RL 123 RX8 yX8_process cX8_process 3 (some .int) 2 := ⟨⟨tm_377, tm_378, tm_379, tm_33, tm_380⟩, by decide +kernel⟩
theorem vl_L_114 : VL RL 114 RX8 yX8_pieces cX8_pieces 2 (some .int) 1 := ⟨⟨tm_1178, tm_1179, tm_1180, tm_33, tm_1181⟩, by decide +kernel⟩
theorem vl_L_108 : VL RL 108 RX8 yX8_pageOf cX8_pageOf 4 (some .int) 2 := ⟨⟨tm_1145, tm_1146, tm_1147, tm_33, tm_1148⟩, by decide +kernel⟩
theorem vl_L_111 : VL RL 111 RX8 yX8_page cX8_page 2 (some .int) 1 := ⟨⟨tm_1169, tm_1170, tm_1171, tm_33, tm_1172⟩, by decide +kernel⟩
theorem dL_cell_0 : decode cL_cell 0 = .ok (.iload_n 1, 1) := by decide +kernel
theorem dL_cell_1 : decode cL_cell 1 = .ok (.aload_n 0, 1) := by decide +kernel
theorem dL_cell_2 : decode cL_cell 2 = .ok (.arraylength, 1) := by decide +kernel
theorem dL_cell_3 : decode cL_cell 3 = .ok (.if_icmp .ge 9, 3) := by decide +kernel
theorem dL_cell_6 : decode cL_cell 6 = .ok (.aload_n 0, 1) := by decide +kernel
theorem dL_cell_7 : decode cL_cell 7 = .ok (.iload_n 1, 1) := by decide +kernel
theorem dL_cell_8 : decode cL_cell 8 = .ok (.iaload, 1) := by decide +kernel
theorem dL_cell_9 : decode cL_cell 9 = .ok (.goto 10, 3) := by decide +kernel
theorem dL_cell_12 : decode cL_cell 12 = .ok (.ldc 7, 2) := by decide +kernel
theorem dL_cell_14 : decode cL_cell 14 = .ok (.iload_n 1, 1) := by decide +kernel
theorem dL_cell_15 : decode cL_cell 15 = .ok (.imul, 1) := by decide +kernel
theorem dL_cell_16 : decode cL_cell 16 = .ok (.bipush 61, 2) := by decide +kernel
theorem dL_cell_18 : decode cL_cell 18 = .ok (.iadd, 1) := by decide +kernel
theorem dL_cell_19 : decode cL_cell 19 = .ok (.ireturn, 1) := by decide +kernel
theorem dL_draw_0 : decode cL_draw 0 = .ok (.iload_n 2, 1) := by decide +kernel
theorem dL_draw_1 : decode cL_draw 1 = .ok (.aload_n 0, 1) := by decide +kernel
theorem dL_draw_2 : decode cL_draw 2 = .ok (.iload_n 1, 1) := by decide +kernel
theorem dL_draw_3 : decode cL_draw 3 = .ok (.invokestatic 8, 3) := by decide +kernel
theorem dL_draw_6 : decode cL_draw 6 = .ok (.ldc 14, 2) := by decide +kernel
theorem dL_draw_8 : decode cL_draw 8 = .ok (.iand, 1) := by decide +kernel
theorem dL_draw_9 : decode cL_draw 9 = .ok (.iload_n 3, 1) := by decide +kernel
theorem dL_draw_10 : decode cL_draw 10 = .ok (.iload_n 2, 1) := by decide +kernel
theorem dL_draw_11 : decode cL_draw 11 = .ok (.isub, 1) := by decide +kernel
theorem dL_draw_12 : decode cL_draw 12 = .ok (.iconst 1, 1) := by decide +kernel
theorem dL_draw_13 : decode cL_draw 13 = .ok (.iadd, 1) := by decide +kernel
theorem dL_draw_14 : decode cL_draw 14 = .ok (.irem, 1) := by decide +kernel
theorem dL_draw_15 : decode cL_draw 15 = .ok (.iadd, 1) := by decide +kernel
theorem dL_draw_16 : decode cL_draw 16 = .ok (.ireturn, 1) := by decide +kernel
theorem dL_act_0 : decode cL_act 0 = .ok (.iconst 0, 1) := by decide +kernel
theorem dL_act_1 : decode cL_act 1 = .ok (.istore 5, 2) := by decide +kernel
theorem dL_act_3 : decode cL_act 3 = .ok (.aload_n 1, 1) := by decide +kernel
theorem dL_act_4 : decode cL_act 4 = .ok (.iconst 4, 1) := by decide +kernel
theorem dL_act_5 : decode cL_act 5 = .ok (.iload_n 2, 1) := by decide +kernel
theorem dL_act_6 : decode cL_act 6 = .ok (.imul, 1) := by decide +kernel
theorem dL_act_7 : decode cL_act 7 = .ok (.iconst 0, 1) := by decide +kernel
theorem dL_act_8 : decode cL_act 8 = .ok (.bipush 6, 2) := by decide +kernel
theorem dL_act_10 : decode cL_act 10 = .ok (.invokestatic 62, 3) := by decide +kernel
theorem dL_act_13 : decode cL_act 13 = .ok (.tableswitch 207 0 4 #[35, 35, 92, 127, 147], 35) := by decide +kernel
theorem dL_act_48 : decode cL_act 48 = .ok (.aload_n 0, 1) := by decide +kernel
theorem dL_act_49 : decode cL_act 49 = .ok (.bipush 13, 2) := by decide +kernel
theorem dL_act_51 : decode cL_act 51 = .ok (.invokevirtual 84, 3) := by decide +kernel
theorem dL_act_54 : decode cL_act 54 = .ok (.bipush 60, 2) := by decide +kernel
theorem dL_act_56 : decode cL_act 56 = .ok (.if_icmp .ge 47, 3) := by decide +kernel
theorem dL_act_59 : decode cL_act 59 = .ok (.aload_n 0, 1) := by decide +kernel
theorem dL_act_60 : decode cL_act 60 = .ok (.aload_n 1, 1) := by decide +kernel
theorem dL_act_61 : decode cL_act 61 = .ok (.iconst 4, 1) := by decide +kernel
theorem dL_act_62 : decode cL_act 62 = .ok (.iload_n 2, 1) := by decide +kernel
theorem dL_act_63 : decode cL_act 63 = .ok (.imul, 1) := by decide +kernel
theorem dL_act_64 : decode cL_act 64 = .ok (.iconst 1, 1) := by decide +kernel
theorem dL_act_65 : decode cL_act 65 = .ok (.iadd, 1) := by decide +kernel
theorem dL_act_66 : decode cL_act 66 = .ok (.iconst 0, 1) := by decide +kernel
theorem dL_act_67 : decode cL_act 67 = .ok (.iload 4, 2) := by decide +kernel
theorem dL_act_69 : decode cL_act 69 = .ok (.iconst 1, 1) := by decide +kernel
theorem dL_act_70 : decode cL_act 70 = .ok (.isub, 1) := by decide +kernel
theorem dL_act_71 : decode cL_act 71 = .ok (.invokestatic 62, 3) := by decide +kernel
theorem dL_act_74 : decode cL_act 74 = .ok (.aload_n 1, 1) := by decide +kernel
theorem dL_act_75 : decode cL_act 75 = .ok (.iconst 4, 1) := by decide +kernel
theorem dL_act_76 : decode cL_act 76 = .ok (.iload_n 2, 1) := by decide +kernel
theorem dL_act_77 : decode cL_act 77 = .ok (.imul, 1) := by decide +kernel
theorem dL_act_78 : decode cL_act 78 = .ok (.iconst 2, 1) := by decide +kernel
theorem dL_act_79 : decode cL_act 79 = .ok (.iadd, 1) := by decide +kernel
theorem dL_act_80 : decode cL_act 80 = .ok (.iconst 1, 1) := by decide +kernel
theorem dL_act_81 : decode cL_act 81 = .ok (.iload_n 3, 1) := by decide +kernel
theorem dL_act_82 : decode cL_act 82 = .ok (.invokestatic 62, 3) := by decide +kernel
theorem dL_act_85 : decode cL_act 85 = .ok (.aload_n 1, 1) := by decide +kernel
theorem dL_act_86 : decode cL_act 86 = .ok (.iconst 4, 1) := by decide +kernel
theorem dL_act_87 : decode cL_act 87 = .ok (.iload_n 2, 1) := by decide +kernel
theorem dL_act_88 : decode cL_act 88 = .ok (.imul, 1) := by decide +kernel
theorem dL_act_89 : decode cL_act 89 = .ok (.iconst 3, 1) := by decide +kernel
theorem dL_act_90 : decode cL_act 90 = .ok (.iadd, 1) := by decide +kernel
theorem dL_act_91 : decode cL_act 91 = .ok (.iconst 1, 1) := by decide +kernel
theorem dL_act_92 : decode cL_act 92 = .ok (.bipush 30, 2) := by decide +kernel
theorem dL_act_94 : decode cL_act 94 = .ok (.invokestatic 62, 3) := by decide +kernel
theorem dL_act_97 : decode cL_act 97 = .ok (.invokevirtual 88, 3) := by decide +kernel
theorem dL_act_100 : decode cL_act 100 = .ok (.goto 4, 3) := by decide +kernel
theorem dL_act_103 : decode cL_act 103 = .ok (.iconst 0, 1) := by decide +kernel
theorem dL_act_104 : decode cL_act 104 = .ok (.ireturn, 1) := by decide +kernel
theorem dL_act_105 : decode cL_act 105 = .ok (.aload_n 0, 1) := by decide +kernel
theorem dL_act_106 : decode cL_act 106 = .ok (.aload_n 1, 1) := by decide +kernel
theorem dL_act_107 : decode cL_act 107 = .ok (.iconst 4, 1) := by decide +kernel
theorem dL_act_108 : decode cL_act 108 = .ok (.iload_n 2, 1) := by decide +kernel
theorem dL_act_109 : decode cL_act 109 = .ok (.imul, 1) := by decide +kernel
theorem dL_act_110 : decode cL_act 110 = .ok (.iconst 1, 1) := by decide +kernel
theorem dL_act_111 : decode cL_act 111 = .ok (.iadd, 1) := by decide +kernel
theorem dL_act_112 : decode cL_act 112 = .ok (.iconst 0, 1) := by decide +kernel
theorem dL_act_113 : decode cL_act 113 = .ok (.iload 4, 2) := by decide +kernel
theorem dL_act_115 : decode cL_act 115 = .ok (.iconst 1, 1) := by decide +kernel
theorem dL_act_116 : decode cL_act 116 = .ok (.isub, 1) := by decide +kernel
theorem dL_act_117 : decode cL_act 117 = .ok (.invokestatic 62, 3) := by decide +kernel
theorem dL_act_120 : decode cL_act 120 = .ok (.aload_n 1, 1) := by decide +kernel
theorem dL_act_121 : decode cL_act 121 = .ok (.iconst 4, 1) := by decide +kernel
theorem dL_act_122 : decode cL_act 122 = .ok (.iload_n 2, 1) := by decide +kernel
theorem dL_act_123 : decode cL_act 123 = .ok (.imul, 1) := by decide +kernel
theorem dL_act_124 : decode cL_act 124 = .ok (.iconst 2, 1) := by decide +kernel
theorem dL_act_125 : decode cL_act 125 = .ok (.iadd, 1) := by decide +kernel
theorem dL_act_126 : decode cL_act 126 = .ok (.iconst 0, 1) := by decide +kernel
theorem dL_act_127 : decode cL_act 127 = .ok (.bipush 20, 2) := by decide +kernel
theorem dL_act_129 : decode cL_act 129 = .ok (.invokestatic 62, 3) := by decide +kernel
theorem dL_act_132 : decode cL_act 132 = .ok (.invokevirtual 92, 3) := by decide +kernel
theorem dL_act_135 : decode cL_act 135 = .ok (.istore 5, 2) := by decide +kernel
theorem dL_act_137 : decode cL_act 137 = .ok (.goto 101, 3) := by decide +kernel
theorem dL_act_140 : decode cL_act 140 = .ok (.aload_n 0, 1) := by decide +kernel
theorem dL_act_141 : decode cL_act 141 = .ok (.aload_n 1, 1) := by decide +kernel
theorem dL_act_142 : decode cL_act 142 = .ok (.iconst 4, 1) := by decide +kernel
theorem dL_act_143 : decode cL_act 143 = .ok (.iload_n 2, 1) := by decide +kernel
theorem dL_act_144 : decode cL_act 144 = .ok (.imul, 1) := by decide +kernel
theorem dL_act_145 : decode cL_act 145 = .ok (.iconst 1, 1) := by decide +kernel
theorem dL_act_146 : decode cL_act 146 = .ok (.iadd, 1) := by decide +kernel
theorem dL_act_147 : decode cL_act 147 = .ok (.iconst 0, 1) := by decide +kernel
theorem dL_act_148 : decode cL_act 148 = .ok (.iconst 2, 1) := by decide +kernel
theorem dL_act_149 : decode cL_act 149 = .ok (.invokestatic 62, 3) := by decide +kernel
theorem dL_act_152 : decode cL_act 152 = .ok (.invokevirtual 96, 3) := by decide +kernel
theorem dL_act_155 : decode cL_act 155 = .ok (.istore 5, 2) := by decide +kernel
theorem dL_act_157 : decode cL_act 157 = .ok (.goto 81, 3) := by decide +kernel
theorem dL_act_160 : decode cL_act 160 = .ok (.aload_n 0, 1) := by decide +kernel
theorem dL_act_161 : decode cL_act 161 = .ok (.bipush 10, 2) := by decide +kernel
theorem dL_act_163 : decode cL_act 163 = .ok (.invokevirtual 84, 3) := by decide +kernel
theorem dL_act_166 : decode cL_act 166 = .ok (.istore 6, 2) := by decide +kernel
theorem dL_act_168 : decode cL_act 168 = .ok (.iload 6, 2) := by decide +kernel
theorem dL_act_170 : decode cL_act 170 = .ok (.ifCond .ne 7, 3) := by decide +kernel
theorem dL_act_173 : decode cL_act 173 = .ok (.iconst 0, 1) := by decide +kernel
theorem dL_act_174 : decode cL_act 174 = .ok (.goto 17, 3) := by decide +kernel
theorem dL_act_177 : decode cL_act 177 = .ok (.aload_n 1, 1) := by decide +kernel
theorem dL_act_178 : decode cL_act 178 = .ok (.iconst 4, 1) := by decide +kernel
theorem dL_act_179 : decode cL_act 179 = .ok (.iload_n 2, 1) := by decide +kernel
theorem dL_act_180 : decode cL_act 180 = .ok (.imul, 1) := by decide +kernel
theorem dL_act_181 : decode cL_act 181 = .ok (.iconst 1, 1) := by decide +kernel
theorem dL_act_182 : decode cL_act 182 = .ok (.iadd, 1) := by decide +kernel
theorem dL_act_183 : decode cL_act 183 = .ok (.iconst 0, 1) := by decide +kernel
theorem dL_act_184 : decode cL_act 184 = .ok (.iload 6, 2) := by decide +kernel
theorem dL_act_186 : decode cL_act 186 = .ok (.iconst 1, 1) := by decide +kernel
theorem dL_act_187 : decode cL_act 187 = .ok (.isub, 1) := by decide +kernel
theorem dL_act_188 : decode cL_act 188 = .ok (.invokestatic 62, 3) := by decide +kernel
theorem dL_act_191 : decode cL_act 191 = .ok (.istore 7, 2) := by decide +kernel
theorem dL_act_193 : decode cL_act 193 = .ok (.iload 6, 2) := by decide +kernel
theorem dL_act_195 : decode cL_act 195 = .ok (.ifCond .eq 13, 3) := by decide +kernel
theorem dL_act_198 : decode cL_act 198 = .ok (.aload_n 0, 1) := by decide +kernel
theorem dL_act_199 : decode cL_act 199 = .ok (.iload 7, 2) := by decide +kernel
theorem dL_act_201 : decode cL_act 201 = .ok (.iconst 1, 1) := by decide +kernel
theorem dL_act_202 : decode cL_act 202 = .ok (.invokevirtual 99, 3) := by decide +kernel
theorem dL_act_205 : decode cL_act 205 = .ok (.ifCond .ne 7, 3) := by decide +kernel
theorem dL_act_208 : decode cL_act 208 = .ok (.iconst 0, 1) := by decide +kernel
theorem dL_act_209 : decode cL_act 209 = .ok (.goto 10, 3) := by decide +kernel
theorem dL_act_212 : decode cL_act 212 = .ok (.aload_n 0, 1) := by decide +kernel
theorem dL_act_213 : decode cL_act 213 = .ok (.iload 7, 2) := by decide +kernel
theorem dL_act_215 : decode cL_act 215 = .ok (.iconst 1, 1) := by decide +kernel
theorem dL_act_216 : decode cL_act 216 = .ok (.invokevirtual 102, 3) := by decide +kernel
theorem dL_act_219 : decode cL_act 219 = .ok (.ireturn, 1) := by decide +kernel
theorem dL_act_220 : decode cL_act 220 = .ok (.aload_n 0, 1) := by decide +kernel
theorem dL_act_221 : decode cL_act 221 = .ok (.aload_n 1, 1) := by decide +kernel
theorem dL_act_222 : decode cL_act 222 = .ok (.iconst 4, 1) := by decide +kernel
theorem dL_act_223 : decode cL_act 223 = .ok (.iload_n 2, 1) := by decide +kernel
theorem dL_act_224 : decode cL_act 224 = .ok (.imul, 1) := by decide +kernel
theorem dL_act_225 : decode cL_act 225 = .ok (.iconst 1, 1) := by decide +kernel
theorem dL_act_226 : decode cL_act 226 = .ok (.iadd, 1) := by decide +kernel
theorem dL_act_227 : decode cL_act 227 = .ok (.iconst 1, 1) := by decide +kernel
theorem dL_act_228 : decode cL_act 228 = .ok (.bipush 12, 2) := by decide +kernel
theorem dL_act_230 : decode cL_act 230 = .ok (.invokestatic 62, 3) := by decide +kernel
theorem dL_act_233 : decode cL_act 233 = .ok (.invokevirtual 105, 3) := by decide +kernel
theorem dL_act_236 : decode cL_act 236 = .ok (.istore 5, 2) := by decide +kernel
theorem dL_act_238 : decode cL_act 238 = .ok (.iload 5, 2) := by decide +kernel
theorem dL_act_240 : decode cL_act 240 = .ok (.ireturn, 1) := by decide +kernel
theorem dL_isSound_0 : decode cL_isSound 0 = .ok (.aload_n 0, 1) := by decide +kernel
theorem dL_isSound_1 : decode cL_isSound 1 = .ok (.bipush 9, 2) := by decide +kernel
theorem dL_isSound_3 : decode cL_isSound 3 = .ok (.invokevirtual 84, 3) := by decide +kernel
theorem dL_isSound_6 : decode cL_isSound 6 = .ok (.istore_n 3, 1) := by decide +kernel
theorem dL_isSound_7 : decode cL_isSound 7 = .ok (.iconst 0, 1) := by decide +kernel
theorem dL_isSound_8 : decode cL_isSound 8 = .ok (.istore 4, 2) := by decide +kernel
theorem dL_isSound_10 : decode cL_isSound 10 = .ok (.iconst 0, 1) := by decide +kernel
theorem dL_isSound_11 : decode cL_isSound 11 = .ok (.istore 5, 2) := by decide +kernel
theorem dL_isSound_13 : decode cL_isSound 13 = .ok (.iconst 0, 1) := by decide +kernel
theorem dL_isSound_14 : decode cL_isSound 14 = .ok (.istore 6, 2) := by decide +kernel
theorem dL_isSound_16 : decode cL_isSound 16 = .ok (.iconst 0, 1) := by decide +kernel
theorem dL_isSound_17 : decode cL_isSound 17 = .ok (.istore 7, 2) := by decide +kernel
theorem dL_isSound_19 : decode cL_isSound 19 = .ok (.iload 7, 2) := by decide +kernel
theorem dL_isSound_21 : decode cL_isSound 21 = .ok (.aload_n 0, 1) := by decide +kernel
theorem dL_isSound_22 : decode cL_isSound 22 = .ok (.bipush 10, 2) := by decide +kernel
theorem dL_isSound_24 : decode cL_isSound 24 = .ok (.invokevirtual 84, 3) := by decide +kernel
theorem dL_isSound_27 : decode cL_isSound 27 = .ok (.if_icmp .ge 144, 3) := by decide +kernel
theorem dL_isSound_30 : decode cL_isSound 30 = .ok (.aload_n 0, 1) := by decide +kernel
theorem dL_isSound_31 : decode cL_isSound 31 = .ok (.iload 7, 2) := by decide +kernel
theorem dL_isSound_33 : decode cL_isSound 33 = .ok (.iconst 1, 1) := by decide +kernel
theorem dL_isSound_34 : decode cL_isSound 34 = .ok (.invokevirtual 99, 3) := by decide +kernel
theorem dL_isSound_37 : decode cL_isSound 37 = .ok (.istore 8, 2) := by decide +kernel
theorem dL_isSound_39 : decode cL_isSound 39 = .ok (.iload_n 3, 1) := by decide +kernel
theorem dL_isSound_40 : decode cL_isSound 40 = .ok (.iload 8, 2) := by decide +kernel
theorem dL_isSound_42 : decode cL_isSound 42 = .ok (.iadd, 1) := by decide +kernel
theorem dL_isSound_43 : decode cL_isSound 43 = .ok (.istore_n 3, 1) := by decide +kernel
theorem dL_isSound_44 : decode cL_isSound 44 = .ok (.iload 4, 2) := by decide +kernel
theorem dL_isSound_46 : decode cL_isSound 46 = .ok (.iload 8, 2) := by decide +kernel
theorem dL_isSound_48 : decode cL_isSound 48 = .ok (.ifCond .le 7, 3) := by decide +kernel
theorem dL_isSound_51 : decode cL_isSound 51 = .ok (.iconst 1, 1) := by decide +kernel
theorem dL_isSound_52 : decode cL_isSound 52 = .ok (.goto 4, 3) := by decide +kernel
theorem dL_isSound_55 : decode cL_isSound 55 = .ok (.iconst 0, 1) := by decide +kernel
theorem dL_isSound_56 : decode cL_isSound 56 = .ok (.iadd, 1) := by decide +kernel
theorem dL_isSound_57 : decode cL_isSound 57 = .ok (.istore 4, 2) := by decide +kernel
theorem dL_isSound_59 : decode cL_isSound 59 = .ok (.iload 5, 2) := by decide +kernel
theorem dL_isSound_61 : decode cL_isSound 61 = .ok (.aload_n 0, 1) := by decide +kernel
theorem dL_isSound_62 : decode cL_isSound 62 = .ok (.iload 7, 2) := by decide +kernel
theorem dL_isSound_64 : decode cL_isSound 64 = .ok (.iconst 5, 1) := by decide +kernel
theorem dL_isSound_65 : decode cL_isSound 65 = .ok (.invokevirtual 99, 3) := by decide +kernel
theorem dL_isSound_68 : decode cL_isSound 68 = .ok (.iadd, 1) := by decide +kernel
theorem dL_isSound_69 : decode cL_isSound 69 = .ok (.istore 5, 2) := by decide +kernel
theorem dL_isSound_71 : decode cL_isSound 71 = .ok (.iload 6, 2) := by decide +kernel
theorem dL_isSound_73 : decode cL_isSound 73 = .ok (.aload_n 0, 1) := by decide +kernel
theorem dL_isSound_74 : decode cL_isSound 74 = .ok (.iload 7, 2) := by decide +kernel
theorem dL_isSound_76 : decode cL_isSound 76 = .ok (.iconst 5, 1) := by decide +kernel
theorem dL_isSound_77 : decode cL_isSound 77 = .ok (.invokevirtual 99, 3) := by decide +kernel
theorem dL_isSound_80 : decode cL_isSound 80 = .ok (.iconst 1, 1) := by decide +kernel
theorem dL_isSound_81 : decode cL_isSound 81 = .ok (.if_icmp .ne 8, 3) := by decide +kernel
theorem dL_isSound_84 : decode cL_isSound 84 = .ok (.iload 8, 2) := by decide +kernel
theorem dL_isSound_86 : decode cL_isSound 86 = .ok (.goto 4, 3) := by decide +kernel
theorem dL_isSound_89 : decode cL_isSound 89 = .ok (.iconst 0, 1) := by decide +kernel
theorem dL_isSound_90 : decode cL_isSound 90 = .ok (.iadd, 1) := by decide +kernel
theorem dL_isSound_91 : decode cL_isSound 91 = .ok (.istore 6, 2) := by decide +kernel
theorem dL_isSound_93 : decode cL_isSound 93 = .ok (.iload 8, 2) := by decide +kernel
theorem dL_isSound_95 : decode cL_isSound 95 = .ok (.aload_n 0, 1) := by decide +kernel
theorem dL_isSound_96 : decode cL_isSound 96 = .ok (.iload 7, 2) := by decide +kernel
theorem dL_isSound_98 : decode cL_isSound 98 = .ok (.bipush 7, 2) := by decide +kernel
theorem dL_isSound_100 : decode cL_isSound 100 = .ok (.invokevirtual 99, 3) := by decide +kernel
theorem dL_isSound_103 : decode cL_isSound 103 = .ok (.if_icmp .gt 60, 3) := by decide +kernel
theorem dL_isSound_106 : decode cL_isSound 106 = .ok (.iload 8, 2) := by decide +kernel
theorem dL_isSound_108 : decode cL_isSound 108 = .ok (.aload_n 0, 1) := by decide +kernel
theorem dL_isSound_109 : decode cL_isSound 109 = .ok (.iload 7, 2) := by decide +kernel
theorem dL_isSound_111 : decode cL_isSound 111 = .ok (.bipush 6, 2) := by decide +kernel
theorem dL_isSound_113 : decode cL_isSound 113 = .ok (.invokevirtual 99, 3) := by decide +kernel
theorem dL_isSound_116 : decode cL_isSound 116 = .ok (.iadd, 1) := by decide +kernel
theorem dL_isSound_117 : decode cL_isSound 117 = .ok (.aload_n 0, 1) := by decide +kernel
theorem dL_isSound_118 : decode cL_isSound 118 = .ok (.iload 7, 2) := by decide +kernel
theorem dL_isSound_120 : decode cL_isSound 120 = .ok (.bipush 7, 2) := by decide +kernel
theorem dL_isSound_122 : decode cL_isSound 122 = .ok (.invokevirtual 99, 3) := by decide +kernel
theorem dL_isSound_125 : decode cL_isSound 125 = .ok (.if_icmp .gt 38, 3) := by decide +kernel
theorem dL_isSound_128 : decode cL_isSound 128 = .ok (.iload 8, 2) := by decide +kernel
theorem dL_isSound_130 : decode cL_isSound 130 = .ok (.ifCond .le 22, 3) := by decide +kernel
theorem dL_isSound_133 : decode cL_isSound 133 = .ok (.aload_n 0, 1) := by decide +kernel
theorem dL_isSound_134 : decode cL_isSound 134 = .ok (.aload_n 0, 1) := by decide +kernel
theorem dL_isSound_135 : decode cL_isSound 135 = .ok (.iload 7, 2) := by decide +kernel
theorem dL_isSound_137 : decode cL_isSound 137 = .ok (.iload 8, 2) := by decide +kernel
theorem dL_isSound_139 : decode cL_isSound 139 = .ok (.iconst 1, 1) := by decide +kernel
theorem dL_isSound_140 : decode cL_isSound 140 = .ok (.isub, 1) := by decide +kernel
theorem dL_isSound_141 : decode cL_isSound 141 = .ok (.invokevirtual 108, 3) := by decide +kernel
theorem dL_isSound_144 : decode cL_isSound 144 = .ok (.invokevirtual 111, 3) := by decide +kernel
theorem dL_isSound_147 : decode cL_isSound 147 = .ok (.iload 7, 2) := by decide +kernel
theorem dL_isSound_149 : decode cL_isSound 149 = .ok (.if_icmp .ne 14, 3) := by decide +kernel
theorem dL_isSound_152 : decode cL_isSound 152 = .ok (.aload_n 0, 1) := by decide +kernel
theorem dL_isSound_153 : decode cL_isSound 153 = .ok (.iload 7, 2) := by decide +kernel
theorem dL_isSound_155 : decode cL_isSound 155 = .ok (.invokevirtual 114, 3) := by decide +kernel
theorem dL_isSound_158 : decode cL_isSound 158 = .ok (.iload 8, 2) := by decide +kernel
theorem dL_isSound_160 : decode cL_isSound 160 = .ok (.if_icmp .le 5, 3) := by decide +kernel
theorem dL_isSound_163 : decode cL_isSound 163 = .ok (.iconst 0, 1) := by decide +kernel
theorem dL_isSound_164 : decode cL_isSound 164 = .ok (.ireturn, 1) := by decide +kernel
theorem dL_isSound_165 : decode cL_isSound 165 = .ok (.iinc 7 1, 3) := by decide +kernel
theorem dL_isSound_168 : decode cL_isSound 168 = .ok (.goto (-149), 3) := by decide +kernel
theorem dL_isSound_171 : decode cL_isSound 171 = .ok (.iload_n 3, 1) := by decide +kernel
theorem dL_isSound_172 : decode cL_isSound 172 = .ok (.iload_n 1, 1) := by decide +kernel
theorem dL_isSound_173 : decode cL_isSound 173 = .ok (.if_icmp .ne 60, 3) := by decide +kernel
theorem dL_isSound_176 : decode cL_isSound 176 = .ok (.iload 4, 2) := by decide +kernel
theorem dL_isSound_178 : decode cL_isSound 178 = .ok (.aload_n 0, 1) := by decide +kernel
theorem dL_isSound_179 : decode cL_isSound 179 = .ok (.bipush 11, 2) := by decide +kernel
theorem dL_isSound_181 : decode cL_isSound 181 = .ok (.invokevirtual 84, 3) := by decide +kernel
theorem dL_isSound_184 : decode cL_isSound 184 = .ok (.if_icmp .ne 49, 3) := by decide +kernel
theorem dL_isSound_187 : decode cL_isSound 187 = .ok (.iload 5, 2) := by decide +kernel
theorem dL_isSound_189 : decode cL_isSound 189 = .ok (.aload_n 0, 1) := by decide +kernel
theorem dL_isSound_190 : decode cL_isSound 190 = .ok (.bipush 12, 2) := by decide +kernel
theorem dL_isSound_192 : decode cL_isSound 192 = .ok (.invokevirtual 84, 3) := by decide +kernel
theorem dL_isSound_195 : decode cL_isSound 195 = .ok (.if_icmp .ne 38, 3) := by decide +kernel
theorem dL_isSound_198 : decode cL_isSound 198 = .ok (.iload 6, 2) := by decide +kernel
theorem dL_isSound_200 : decode cL_isSound 200 = .ok (.aload_n 0, 1) := by decide +kernel
theorem dL_isSound_201 : decode cL_isSound 201 = .ok (.invokevirtual 117, 3) := by decide +kernel
theorem dL_isSound_204 : decode cL_isSound 204 = .ok (.if_icmp .ne 29, 3) := by decide +kernel
theorem dL_isSound_207 : decode cL_isSound 207 = .ok (.aload_n 0, 1) := by decide +kernel
theorem dL_isSound_208 : decode cL_isSound 208 = .ok (.invokevirtual 120, 3) := by decide +kernel
theorem dL_isSound_211 : decode cL_isSound 211 = .ok (.iconst (-1), 1) := by decide +kernel
theorem dL_isSound_212 : decode cL_isSound 212 = .ok (.if_icmp .ne 7, 3) := by decide +kernel
theorem dL_isSound_215 : decode cL_isSound 215 = .ok (.iconst 1, 1) := by decide +kernel
theorem dL_isSound_216 : decode cL_isSound 216 = .ok (.goto 4, 3) := by decide +kernel
theorem dL_isSound_219 : decode cL_isSound 219 = .ok (.iconst 0, 1) := by decide +kernel
theorem dL_isSound_220 : decode cL_isSound 220 = .ok (.iload 5, 2) := by decide +kernel
theorem dL_isSound_222 : decode cL_isSound 222 = .ok (.ifCond .ne 7, 3) := by decide +kernel
theorem dL_isSound_225 : decode cL_isSound 225 = .ok (.iconst 1, 1) := by decide +kernel
theorem dL_isSound_226 : decode cL_isSound 226 = .ok (.goto 4, 3) := by decide +kernel
theorem dL_isSound_229 : decode cL_isSound 229 = .ok (.iconst 0, 1) := by decide +kernel
theorem dL_isSound_230 : decode cL_isSound 230 = .ok (.if_icmp .eq 5, 3) := by decide +kernel
theorem dL_isSound_233 : decode cL_isSound 233 = .ok (.iconst 0, 1) := by decide +kernel
theorem dL_isSound_234 : decode cL_isSound 234 = .ok (.ireturn, 1) := by decide +kernel
theorem dL_isSound_235 : decode cL_isSound 235 = .ok (.iconst 0, 1) := by decide +kernel
theorem dL_isSound_236 : decode cL_isSound 236 = .ok (.istore 7, 2) := by decide +kernel
theorem dL_isSound_238 : decode cL_isSound 238 = .ok (.iconst 0, 1) := by decide +kernel
theorem dL_isSound_239 : decode cL_isSound 239 = .ok (.istore 8, 2) := by decide +kernel
theorem dL_isSound_241 : decode cL_isSound 241 = .ok (.iconst 0, 1) := by decide +kernel
theorem dL_isSound_242 : decode cL_isSound 242 = .ok (.istore 9, 2) := by decide +kernel
theorem dL_isSound_244 : decode cL_isSound 244 = .ok (.iconst 0, 1) := by decide +kernel
theorem dL_isSound_245 : decode cL_isSound 245 = .ok (.istore 10, 2) := by decide +kernel
theorem dL_isSound_247 : decode cL_isSound 247 = .ok (.iload 10, 2) := by decide +kernel
theorem dL_isSound_249 : decode cL_isSound 249 = .ok (.iload_n 2, 1) := by decide +kernel
theorem dL_isSound_250 : decode cL_isSound 250 = .ok (.if_icmp .ge 95, 3) := by decide +kernel
theorem dL_isSound_253 : decode cL_isSound 253 = .ok (.iload 7, 2) := by decide +kernel
theorem dL_isSound_255 : decode cL_isSound 255 = .ok (.aload_n 0, 1) := by decide +kernel
theorem dL_isSound_256 : decode cL_isSound 256 = .ok (.iload 10, 2) := by decide +kernel
theorem dL_isSound_258 : decode cL_isSound 258 = .ok (.iconst 3, 1) := by decide +kernel
theorem dL_isSound_259 : decode cL_isSound 259 = .ok (.invokevirtual 123, 3) := by decide +kernel
theorem dL_isSound_262 : decode cL_isSound 262 = .ok (.iadd, 1) := by decide +kernel
theorem dL_isSound_263 : decode cL_isSound 263 = .ok (.istore 7, 2) := by decide +kernel
theorem dL_isSound_265 : decode cL_isSound 265 = .ok (.iload 8, 2) := by decide +kernel
theorem dL_isSound_267 : decode cL_isSound 267 = .ok (.aload_n 0, 1) := by decide +kernel
theorem dL_isSound_268 : decode cL_isSound 268 = .ok (.iload 10, 2) := by decide +kernel
theorem dL_isSound_270 : decode cL_isSound 270 = .ok (.bipush 6, 2) := by decide +kernel
theorem dL_isSound_272 : decode cL_isSound 272 = .ok (.invokevirtual 123, 3) := by decide +kernel
theorem dL_isSound_275 : decode cL_isSound 275 = .ok (.iadd, 1) := by decide +kernel
theorem dL_isSound_276 : decode cL_isSound 276 = .ok (.istore 8, 2) := by decide +kernel
theorem dL_isSound_278 : decode cL_isSound 278 = .ok (.iload 9, 2) := by decide +kernel
theorem dL_isSound_280 : decode cL_isSound 280 = .ok (.aload_n 0, 1) := by decide +kernel
theorem dL_isSound_281 : decode cL_isSound 281 = .ok (.iload 10, 2) := by decide +kernel
theorem dL_isSound_283 : decode cL_isSound 283 = .ok (.bipush 8, 2) := by decide +kernel
theorem dL_isSound_285 : decode cL_isSound 285 = .ok (.invokevirtual 123, 3) := by decide +kernel
theorem dL_isSound_288 : decode cL_isSound 288 = .ok (.iadd, 1) := by decide +kernel
theorem dL_isSound_289 : decode cL_isSound 289 = .ok (.istore 9, 2) := by decide +kernel
theorem dL_isSound_291 : decode cL_isSound 291 = .ok (.aload_n 0, 1) := by decide +kernel
theorem dL_isSound_292 : decode cL_isSound 292 = .ok (.iload 10, 2) := by decide +kernel
theorem dL_isSound_294 : decode cL_isSound 294 = .ok (.iconst 0, 1) := by decide +kernel
theorem dL_isSound_295 : decode cL_isSound 295 = .ok (.invokevirtual 123, 3) := by decide +kernel
theorem dL_isSound_298 : decode cL_isSound 298 = .ok (.sipush 999, 3) := by decide +kernel
theorem dL_isSound_301 : decode cL_isSound 301 = .ok (.if_icmp .gt 36, 3) := by decide +kernel
theorem dL_isSound_304 : decode cL_isSound 304 = .ok (.aload_n 0, 1) := by decide +kernel
theorem dL_isSound_305 : decode cL_isSound 305 = .ok (.iload 10, 2) := by decide +kernel
theorem dL_isSound_307 : decode cL_isSound 307 = .ok (.iconst 1, 1) := by decide +kernel
theorem dL_isSound_308 : decode cL_isSound 308 = .ok (.invokevirtual 123, 3) := by decide +kernel
theorem dL_isSound_311 : decode cL_isSound 311 = .ok (.sipush 999, 3) := by decide +kernel
theorem dL_isSound_314 : decode cL_isSound 314 = .ok (.if_icmp .gt 23, 3) := by decide +kernel
theorem dL_isSound_317 : decode cL_isSound 317 = .ok (.aload_n 0, 1) := by decide +kernel
theorem dL_isSound_318 : decode cL_isSound 318 = .ok (.iload 10, 2) := by decide +kernel
theorem dL_isSound_320 : decode cL_isSound 320 = .ok (.iconst 0, 1) := by decide +kernel
theorem dL_isSound_321 : decode cL_isSound 321 = .ok (.invokevirtual 123, 3) := by decide +kernel
theorem dL_isSound_324 : decode cL_isSound 324 = .ok (.ifCond .lt 13, 3) := by decide +kernel
theorem dL_isSound_327 : decode cL_isSound 327 = .ok (.aload_n 0, 1) := by decide +kernel
theorem dL_isSound_328 : decode cL_isSound 328 = .ok (.iload 10, 2) := by decide +kernel
theorem dL_isSound_330 : decode cL_isSound 330 = .ok (.iconst 1, 1) := by decide +kernel
theorem dL_isSound_331 : decode cL_isSound 331 = .ok (.invokevirtual 123, 3) := by decide +kernel
theorem dL_isSound_334 : decode cL_isSound 334 = .ok (.ifCond .ge 5, 3) := by decide +kernel
theorem dL_isSound_337 : decode cL_isSound 337 = .ok (.iconst 0, 1) := by decide +kernel
theorem dL_isSound_338 : decode cL_isSound 338 = .ok (.ireturn, 1) := by decide +kernel
theorem dL_isSound_339 : decode cL_isSound 339 = .ok (.iinc 10 1, 3) := by decide +kernel
theorem dL_isSound_342 : decode cL_isSound 342 = .ok (.goto (-95), 3) := by decide +kernel
theorem dL_isSound_345 : decode cL_isSound 345 = .ok (.iconst 0, 1) := by decide +kernel
theorem dL_isSound_346 : decode cL_isSound 346 = .ok (.istore 10, 2) := by decide +kernel
theorem dL_isSound_348 : decode cL_isSound 348 = .ok (.iconst 0, 1) := by decide +kernel
theorem dL_isSound_349 : decode cL_isSound 349 = .ok (.istore 11, 2) := by decide +kernel
theorem dL_isSound_351 : decode cL_isSound 351 = .ok (.iload 11, 2) := by decide +kernel
theorem dL_isSound_353 : decode cL_isSound 353 = .ok (.aload_n 0, 1) := by decide +kernel
theorem dL_isSound_354 : decode cL_isSound 354 = .ok (.bipush 13, 2) := by decide +kernel
theorem dL_isSound_356 : decode cL_isSound 356 = .ok (.invokevirtual 84, 3) := by decide +kernel
theorem dL_isSound_359 : decode cL_isSound 359 = .ok (.if_icmp .ge 94, 3) := by decide +kernel
theorem dL_isSound_362 : decode cL_isSound 362 = .ok (.iload 10, 2) := by decide +kernel
theorem dL_isSound_364 : decode cL_isSound 364 = .ok (.aload_n 0, 1) := by decide +kernel
theorem dL_isSound_365 : decode cL_isSound 365 = .ok (.iload 11, 2) := by decide +kernel
theorem dL_isSound_367 : decode cL_isSound 367 = .ok (.iconst 3, 1) := by decide +kernel
theorem dL_isSound_368 : decode cL_isSound 368 = .ok (.invokevirtual 126, 3) := by decide +kernel
theorem dL_isSound_371 : decode cL_isSound 371 = .ok (.ifCond .ne 7, 3) := by decide +kernel
theorem dL_isSound_374 : decode cL_isSound 374 = .ok (.iconst 1, 1) := by decide +kernel
theorem dL_isSound_375 : decode cL_isSound 375 = .ok (.goto 4, 3) := by decide +kernel
theorem dL_isSound_378 : decode cL_isSound 378 = .ok (.iconst 0, 1) := by decide +kernel
theorem dL_isSound_379 : decode cL_isSound 379 = .ok (.iadd, 1) := by decide +kernel
theorem dL_isSound_380 : decode cL_isSound 380 = .ok (.istore 10, 2) := by decide +kernel
theorem dL_isSound_382 : decode cL_isSound 382 = .ok (.aload_n 0, 1) := by decide +kernel
theorem dL_isSound_383 : decode cL_isSound 383 = .ok (.iload 11, 2) := by decide +kernel
theorem dL_isSound_385 : decode cL_isSound 385 = .ok (.iconst 3, 1) := by decide +kernel
theorem dL_isSound_386 : decode cL_isSound 386 = .ok (.invokevirtual 126, 3) := by decide +kernel
theorem dL_isSound_389 : decode cL_isSound 389 = .ok (.iconst 1, 1) := by decide +kernel
theorem dL_isSound_390 : decode cL_isSound 390 = .ok (.if_icmp .ne 7, 3) := by decide +kernel
theorem dL_isSound_393 : decode cL_isSound 393 = .ok (.iconst 1, 1) := by decide +kernel
theorem dL_isSound_394 : decode cL_isSound 394 = .ok (.goto 4, 3) := by decide +kernel
theorem dL_isSound_397 : decode cL_isSound 397 = .ok (.iconst 0, 1) := by decide +kernel
theorem dL_isSound_398 : decode cL_isSound 398 = .ok (.aload_n 0, 1) := by decide +kernel
theorem dL_isSound_399 : decode cL_isSound 399 = .ok (.iload 11, 2) := by decide +kernel
theorem dL_isSound_401 : decode cL_isSound 401 = .ok (.iconst 5, 1) := by decide +kernel
theorem dL_isSound_402 : decode cL_isSound 402 = .ok (.invokevirtual 126, 3) := by decide +kernel
theorem dL_isSound_405 : decode cL_isSound 405 = .ok (.iconst (-1), 1) := by decide +kernel
theorem dL_isSound_406 : decode cL_isSound 406 = .ok (.if_icmp .eq 7, 3) := by decide +kernel
theorem dL_isSound_409 : decode cL_isSound 409 = .ok (.iconst 1, 1) := by decide +kernel
theorem dL_isSound_410 : decode cL_isSound 410 = .ok (.goto 4, 3) := by decide +kernel
theorem dL_isSound_413 : decode cL_isSound 413 = .ok (.iconst 0, 1) := by decide +kernel
theorem dL_isSound_414 : decode cL_isSound 414 = .ok (.if_icmp .ne 31, 3) := by decide +kernel
theorem dL_isSound_417 : decode cL_isSound 417 = .ok (.aload_n 0, 1) := by decide +kernel
theorem dL_isSound_418 : decode cL_isSound 418 = .ok (.iload 11, 2) := by decide +kernel
theorem dL_isSound_420 : decode cL_isSound 420 = .ok (.iconst 5, 1) := by decide +kernel
theorem dL_isSound_421 : decode cL_isSound 421 = .ok (.invokevirtual 126, 3) := by decide +kernel
theorem dL_isSound_424 : decode cL_isSound 424 = .ok (.iconst (-1), 1) := by decide +kernel
theorem dL_isSound_425 : decode cL_isSound 425 = .ok (.if_icmp .eq 22, 3) := by decide +kernel
theorem dL_isSound_428 : decode cL_isSound 428 = .ok (.aload_n 0, 1) := by decide +kernel
theorem dL_isSound_429 : decode cL_isSound 429 = .ok (.aload_n 0, 1) := by decide +kernel
theorem dL_isSound_430 : decode cL_isSound 430 = .ok (.iload 11, 2) := by decide +kernel
theorem dL_isSound_432 : decode cL_isSound 432 = .ok (.iconst 5, 1) := by decide +kernel
theorem dL_isSound_433 : decode cL_isSound 433 = .ok (.invokevirtual 126, 3) := by decide +kernel
theorem dL_isSound_436 : decode cL_isSound 436 = .ok (.iconst 4, 1) := by decide +kernel
theorem dL_isSound_437 : decode cL_isSound 437 = .ok (.invokevirtual 99, 3) := by decide +kernel
theorem dL_isSound_440 : decode cL_isSound 440 = .ok (.iload 11, 2) := by decide +kernel
theorem dL_isSound_442 : decode cL_isSound 442 = .ok (.if_icmp .eq 5, 3) := by decide +kernel
theorem dL_isSound_445 : decode cL_isSound 445 = .ok (.iconst 0, 1) := by decide +kernel
theorem dL_isSound_446 : decode cL_isSound 446 = .ok (.ireturn, 1) := by decide +kernel
theorem dL_isSound_447 : decode cL_isSound 447 = .ok (.iinc 11 1, 3) := by decide +kernel
theorem dL_isSound_450 : decode cL_isSound 450 = .ok (.goto (-99), 3) := by decide +kernel
theorem dL_isSound_453 : decode cL_isSound 453 = .ok (.iload 7, 2) := by decide +kernel
theorem dL_isSound_455 : decode cL_isSound 455 = .ok (.iload_n 1, 1) := by decide +kernel
theorem dL_isSound_456 : decode cL_isSound 456 = .ok (.aload_n 0, 1) := by decide +kernel
theorem dL_isSound_457 : decode cL_isSound 457 = .ok (.bipush 9, 2) := by decide +kernel
theorem dL_isSound_459 : decode cL_isSound 459 = .ok (.invokevirtual 84, 3) := by decide +kernel
theorem dL_isSound_462 : decode cL_isSound 462 = .ok (.isub, 1) := by decide +kernel
theorem dL_isSound_463 : decode cL_isSound 463 = .ok (.if_icmp .ne 57, 3) := by decide +kernel
theorem dL_isSound_466 : decode cL_isSound 466 = .ok (.iload 8, 2) := by decide +kernel
theorem dL_isSound_468 : decode cL_isSound 468 = .ok (.aload_n 0, 1) := by decide +kernel
theorem dL_isSound_469 : decode cL_isSound 469 = .ok (.bipush 14, 2) := by decide +kernel
theorem dL_isSound_471 : decode cL_isSound 471 = .ok (.invokevirtual 84, 3) := by decide +kernel
theorem dL_isSound_474 : decode cL_isSound 474 = .ok (.if_icmp .ne 46, 3) := by decide +kernel
theorem dL_isSound_477 : decode cL_isSound 477 = .ok (.iload 10, 2) := by decide +kernel
theorem dL_isSound_479 : decode cL_isSound 479 = .ok (.iload 8, 2) := by decide +kernel
theorem dL_isSound_481 : decode cL_isSound 481 = .ok (.if_icmp .ne 39, 3) := by decide +kernel
theorem dL_isSound_484 : decode cL_isSound 484 = .ok (.iload 9, 2) := by decide +kernel
theorem dL_isSound_486 : decode cL_isSound 486 = .ok (.aload_n 0, 1) := by decide +kernel
theorem dL_isSound_487 : decode cL_isSound 487 = .ok (.bipush 18, 2) := by decide +kernel
theorem dL_isSound_489 : decode cL_isSound 489 = .ok (.invokevirtual 84, 3) := by decide +kernel
theorem dL_isSound_492 : decode cL_isSound 492 = .ok (.if_icmp .ne 28, 3) := by decide +kernel
theorem dL_isSound_495 : decode cL_isSound 495 = .ok (.iload 8, 2) := by decide +kernel
theorem dL_isSound_497 : decode cL_isSound 497 = .ok (.ifCond .eq 19, 3) := by decide +kernel
theorem dL_isSound_500 : decode cL_isSound 500 = .ok (.aload_n 0, 1) := by decide +kernel
theorem dL_isSound_501 : decode cL_isSound 501 = .ok (.aload_n 0, 1) := by decide +kernel
theorem dL_isSound_502 : decode cL_isSound 502 = .ok (.iload 8, 2) := by decide +kernel
theorem dL_isSound_504 : decode cL_isSound 504 = .ok (.iconst 1, 1) := by decide +kernel
theorem dL_isSound_505 : decode cL_isSound 505 = .ok (.isub, 1) := by decide +kernel
theorem dL_isSound_506 : decode cL_isSound 506 = .ok (.invokevirtual 129, 3) := by decide +kernel
theorem dL_isSound_509 : decode cL_isSound 509 = .ok (.iconst 3, 1) := by decide +kernel
theorem dL_isSound_510 : decode cL_isSound 510 = .ok (.invokevirtual 126, 3) := by decide +kernel
theorem dL_isSound_513 : decode cL_isSound 513 = .ok (.ifCond .ne 7, 3) := by decide +kernel
theorem dL_isSound_516 : decode cL_isSound 516 = .ok (.iconst 1, 1) := by decide +kernel
theorem dL_isSound_517 : decode cL_isSound 517 = .ok (.goto 4, 3) := by decide +kernel
theorem dL_isSound_520 : decode cL_isSound 520 = .ok (.iconst 0, 1) := by decide +kernel
theorem dL_isSound_521 : decode cL_isSound 521 = .ok (.ireturn, 1) := by decide +kernel
def f_L_cell (n : Nat) (L_s : Nat) (xs_s : Nat → Int32) (v1_0 : Int32) : Option (Int32) :=
  if (Int32.ofNat L_s) ≤ v1_0 then (
  some (((1013904223 : Int32) * v1_0) + (61 : Int32))) else (
  gI L_s v1_0 (Let (xs_s v1_0.toNatClampNeg) (fun x_1 : Int32 =>
  some x_1)))
set_option maxHeartbeats 4000000 in
set_option maxRecDepth 100000 in
theorem c_L_cell (n : Nat) (l : Launch) (k : KT) (b_s : Nat)  (L_s : Nat) (xs_s : Nat → Int32) (v1_0 : Int32) (res : (Int32)) (hf : f_L_cell n L_s xs_s v1_0 = some res) (hS : SXH k b_s L_s xs_s) : CG l k yL_cell cL_cell 2 (some .int) 0 0 0 0 [.ref b_s, .int v1_0] ([]) (Qi k (fun u : Unit => []) (fun (r : Int32) (u : Unit) => res = r)) := by
  refine CG.ofI (by decide) (Nat.le_of_ble_eq_true rfl) (fun p e s m args below meth c A Q E hnm hW hA hret ls hl => ?_)
  have hl : lv_has ls 2 [(0, .ref b_s), (1, .int v1_0)] := hl
  unfold f_L_cell at hf
  obtain ⟨hX, hbl, hbA⟩ := hS.2 _ _ _ E.sf
  refine k_iload_n E hl 1 dL_cell_0 rfl ?_
  refine k_aload_n E hl 0 dL_cell_1 rfl ?_
  refine va_slen E.hx E.hb hX hbl hbA hW.2.2 dL_cell_2 ?_
  refine lv_icmp_ge (tgt := 12) E.hx E.hb dL_cell_3 (by decide) (fun hc => ?_) (fun hc => ?_)
  · have hf := oT hc hf
    refine lv_ldc E.hx E.hb E.ho (E.w tm_686 rfl) dL_cell_12 ?_
    refine k_iload_n E hl 1 dL_cell_14 rfl ?_
    refine lv_imul E.hx E.hb dL_cell_15 ?_
    refine lv_bipush (v := (61 : Int32)) E.hx E.hb dL_cell_16 bp_61 ?_
    refine lv_iadd E.hx E.hb dL_cell_18 ?_
    exact hret _ () _ _ _ _ _ _ hW (Option.some.inj hf).symm rfl (by decide) (by decide) dL_cell_19
  · have hf := oF hc hf
    refine k_aload_n E hl 0 dL_cell_6 rfl ?_
    refine k_iload_n E hl 1 dL_cell_7 rfl ?_
    obtain ⟨hin, hf⟩ := oI hf
    obtain ⟨x_1, ex_1, hf⟩ := oL hf
    refine va_sld E.hx E.hb hX hbl hbA hW.2.2 hin dL_cell_8 ?_
    refine k_topi ex_1 ?_
    refine lv_goto (tgt := 19) E.hx E.hb dL_cell_9 (by decide) ?_
    exact hret _ () _ _ _ _ _ _ hW (Option.some.inj hf).symm rfl (by decide) (by decide) dL_cell_19
def f_L_draw (n : Nat) (L_s : Nat) (xs_s : Nat → Int32) (v1_0 : Int32) (v2_0 : Int32) (v3_0 : Int32) : Option (Int32) :=
  bnd (f_L_cell n L_s xs_s v1_0) (fun (r_1 : Int32) =>
  oN (((v3_0 - v2_0) + (1 : Int32)) = 0) (
  some (v2_0 + (rm32 (r_1 &&& (2147483647 : Int32)) ((v3_0 - v2_0) + (1 : Int32))))))
set_option maxHeartbeats 4000000 in
set_option maxRecDepth 100000 in
theorem c_L_draw (n : Nat) (l : Launch) (k : KT) (b_s : Nat)  (L_s : Nat) (xs_s : Nat → Int32) (v1_0 : Int32) (v2_0 : Int32) (v3_0 : Int32) (res : (Int32)) (hf : f_L_draw n L_s xs_s v1_0 v2_0 v3_0 = some res) (hS : SXH k b_s L_s xs_s) : CG l k yL_draw cL_draw 4 (some .int) 1 0 0 21 [.ref b_s, .int v1_0, .int v2_0, .int v3_0] ([]) (Qi k (fun u : Unit => []) (fun (r : Int32) (u : Unit) => res = r)) := by
  refine CG.ofI (by decide) (Nat.le_of_ble_eq_true rfl) (fun p e s m args below meth c A Q E hnm hW hA hret ls hl => ?_)
  have hl : lv_has ls 4 [(0, .ref b_s), (1, .int v1_0), (2, .int v2_0), (3, .int v3_0)] := hl
  unfold f_L_draw at hf
  obtain ⟨hX, hbl, hbA⟩ := hS.2 _ _ _ E.sf
  refine k_iload_n E hl 2 dL_draw_0 rfl ?_
  refine k_aload_n E hl 0 dL_draw_1 rfl ?_
  refine k_iload_n E hl 1 dL_draw_2 rfl ?_
  obtain ⟨r_1, hg, hf⟩ := ob hf
  refine k_callSi (As := [.ref b_s, .int v1_0]) (rest := [.int v2_0]) (ws2 := fun u => []) (c_L_cell n l k b_s L_s xs_s v1_0 r_1 hg hS) E sl_L_8 dL_draw_3 rfl [] hW hA hl rfl rfl ⟨by decide, by decide⟩ ⟨by decide, by decide⟩ (Nat.le_of_ble_eq_true rfl) rfl (fun _ => rfl) (fun _ => rfl) (fun r u H locs hp hW => ?_)
  cases hp
  have hW : WD k A s.heap ([]) H locs := hW
  refine lv_ldc E.hx E.hb E.ho (E.w tm_687 rfl) dL_draw_6 ?_
  refine lv_iand E.hx E.hb dL_draw_8 ?_
  refine k_iload_n E hl 3 dL_draw_9 rfl ?_
  refine k_iload_n E hl 2 dL_draw_10 rfl ?_
  refine lv_isub E.hx E.hb dL_draw_11 ?_
  refine lv_iconst (v := (1 : Int32)) E.hx E.hb dL_draw_12 ic_1 ?_
  refine lv_iadd E.hx E.hb dL_draw_13 ?_
  obtain ⟨hz, hf⟩ := oG hf
  refine lv_irem E.hx E.hb dL_draw_14 hz ?_
  refine lv_iadd E.hx E.hb dL_draw_15 ?_
  exact hret _ () _ _ _ _ _ _ hW (Option.some.inj hf).symm rfl (by decide) (by decide) dL_draw_16
def j_L_act_48 (n : Nat) (L_s : Nat) (xs_s : Nat → Int32) (sv_p0 : Value) (p0_0 : OS) (p0ru_0 : OS) (v2_0 : Int32) (v3_0 : Int32) (v4_0 : Int32) (p0no_j48 : OS) (p0pa_j48 : PS) : Option (OS × PS × Int32) :=
  bnd (f_X8_count n sv_p0 p0_0 p0ru_0 p0no_j48 p0pa_j48 (13 : Int32)) (fun (r_2 : Int32) =>
  if (60 : Int32) ≤ r_2 then (
  some (p0no_j48, p0pa_j48, (0 : Int32))) else (
  bnd (f_L_draw n L_s xs_s (((4 : Int32) * v2_0) + (1 : Int32)) (0 : Int32) (v4_0 - (1 : Int32))) (fun (r_3 : Int32) =>
  bnd (f_L_draw n L_s xs_s (((4 : Int32) * v2_0) + (2 : Int32)) (1 : Int32) v3_0) (fun (r_4 : Int32) =>
  bnd (f_L_draw n L_s xs_s (((4 : Int32) * v2_0) + (3 : Int32)) (1 : Int32) (30 : Int32)) (fun (r_5 : Int32) =>
  bnd4 (f_X8_ask n sv_p0 p0_0 p0ru_0 p0no_j48 p0pa_j48 r_3 r_4 r_5) (fun (p0no_6 : OS) (p0pa_7 : PS) (r_8 : Int32) (cd_9 : Nat) =>
  if cd_9 = 0 then (
  some (p0no_6, p0pa_7, r_8)) else (
  none)))))))
def j_L_act_191 (n : Nat) (L_s : Nat) (xs_s : Nat → Int32) (sv_p0 : Value) (p0_0 : OS) (p0ru_0 : OS) (p0no_j191 : OS) (p0pa_j191 : PS) (w6_j191 : Int32) (s0_j191 : Int32) : Option (OS × PS × Int32) :=
  if w6_j191 = 0 then (
  some (p0no_j191, p0pa_j191, (0 : Int32))) else (
  bnd2 (f_X8_loan n sv_p0 p0_0 p0no_j191 s0_j191 (1 : Int32)) (fun (r_31 : Int32) (cd_32 : Nat) =>
  if cd_32 = 0 then (
  if r_31 = 0 then (
  some (p0no_j191, p0pa_j191, (0 : Int32))) else (
  bnd4 (f_X8_giveBack n sv_p0 p0_0 p0no_j191 p0pa_j191 s0_j191 (1 : Int32)) (fun (p0no_33 : OS) (p0pa_34 : PS) (r_35 : Int32) (cd_36 : Nat) =>
  if cd_36 = 0 then (
  some (p0no_33, p0pa_34, r_35)) else (
  none)))) else (
  none)))
def f_L_act (n : Nat) (L_s : Nat) (xs_s : Nat → Int32) (sv_p0 : Value) (p0_0 : OS) (p0ru_0 : OS) (p0no_0 : OS) (p0pa_0 : PS) (v2_0 : Int32) (v3_0 : Int32) (v4_0 : Int32) : Option (OS × PS × Int32) :=
  bnd (f_L_draw n L_s xs_s ((4 : Int32) * v2_0) (0 : Int32) (6 : Int32)) (fun (r_1 : Int32) =>
  if (r_1).toInt < 0 ∨ 4 < (r_1).toInt then (
  bnd (f_L_draw n L_s xs_s (((4 : Int32) * v2_0) + (1 : Int32)) (1 : Int32) (12 : Int32)) (fun (r_11 : Int32) =>
  bnd4 (f_X8_run n sv_p0 p0_0 p0ru_0 p0no_0 p0pa_0 r_11) (fun (p0no_12 : OS) (p0pa_13 : PS) (r_14 : Int32) (cd_15 : Nat) =>
  if cd_15 = 0 then (
  some (p0no_12, p0pa_13, r_14)) else (
  none)))) else (if r_1 = (0 : Int32) then (
  j_L_act_48 n L_s xs_s sv_p0 p0_0 p0ru_0 v2_0 v3_0 v4_0 p0no_0 p0pa_0) else (if r_1 = (1 : Int32) then (
  j_L_act_48 n L_s xs_s sv_p0 p0_0 p0ru_0 v2_0 v3_0 v4_0 p0no_0 p0pa_0) else (if r_1 = (2 : Int32) then (
  bnd (f_L_draw n L_s xs_s (((4 : Int32) * v2_0) + (1 : Int32)) (0 : Int32) (v4_0 - (1 : Int32))) (fun (r_17 : Int32) =>
  bnd (f_L_draw n L_s xs_s (((4 : Int32) * v2_0) + (2 : Int32)) (0 : Int32) (20 : Int32)) (fun (r_18 : Int32) =>
  bnd4 (f_X8_stall n sv_p0 p0_0 p0ru_0 p0no_0 p0pa_0 r_17 r_18) (fun (p0no_19 : OS) (p0pa_20 : PS) (r_21 : Int32) (cd_22 : Nat) =>
  if cd_22 = 0 then (
  some (p0no_19, p0pa_20, r_21)) else (
  none))))) else (if r_1 = (3 : Int32) then (
  bnd (f_L_draw n L_s xs_s (((4 : Int32) * v2_0) + (1 : Int32)) (0 : Int32) (2 : Int32)) (fun (r_24 : Int32) =>
  bnd4 (f_X8_setOrder n sv_p0 p0_0 p0no_0 p0pa_0 r_24) (fun (p0no_25 : OS) (p0pa_26 : PS) (r_27 : Int32) (cd_28 : Nat) =>
  if cd_28 = 0 then (
  some (p0no_25, p0pa_26, r_27)) else (
  none)))) else (bnd (f_X8_count n sv_p0 p0_0 p0ru_0 p0no_0 p0pa_0 (10 : Int32)) (fun (r_30 : Int32) =>
  if r_30 = 0 then (
  j_L_act_191 n L_s xs_s sv_p0 p0_0 p0ru_0 p0no_0 p0pa_0 r_30 (0 : Int32)) else (
  bnd (f_L_draw n L_s xs_s (((4 : Int32) * v2_0) + (1 : Int32)) (0 : Int32) (r_30 - (1 : Int32))) (fun (r_38 : Int32) =>
  j_L_act_191 n L_s xs_s sv_p0 p0_0 p0ru_0 p0no_0 p0pa_0 r_30 r_38)))))))))
set_option maxHeartbeats 4000000 in
set_option maxRecDepth 100000 in
theorem c_L_act (n : Nat) (l : Launch) (k : KT) (b_s : Nat) (a_p0 : Nat → Nat) (a_p0in : Nat → Nat) (a_p0ou : Nat → Nat) (a_p0ru : Nat → Nat) (a_p0no : Nat → Nat) (a_p0fo : Nat → Nat) (a_p0rd : Nat → Nat) (a_p0pa : Nat → Nat) (pp_0 : Nat → Nat → Nat) (L_s : Nat) (xs_s : Nat → Int32) (sv_p0 : Value) (p0_0 : OS) (p0ru_0 : OS) (p0no_0 : OS) (p0pa_0 : PS) (v2_0 : Int32) (v3_0 : Int32) (v4_0 : Int32) (res : (OS × PS × Int32)) (hf : f_L_act n L_s xs_s sv_p0 p0_0 p0ru_0 p0no_0 p0pa_0 v2_0 v3_0 v4_0 = some res) (hS : SXH k b_s L_s xs_s) : CG l k yL_act cL_act 8 (some .int) 7 13 2000 245 [.ref (a_p0 0), .ref b_s, .int v2_0, .int v3_0, .int v4_0] ((wMCo k a_p0 (a_p0in 0) (a_p0ou 0) (a_p0ru 0) (a_p0no 0) (a_p0fo 0) (a_p0rd 0) (a_p0pa 0) sv_p0 p0_0 ++ wRules k a_p0ru p0ru_0 ++ wCourt k a_p0no p0no_0 ++ wPast k a_p0pa pp_0 p0pa_0) ++ poolW k pp_0 p0pa_0.2) (Qi k (fun u : (OS) × (PS) × (Nat → Nat → Nat) => (wMCo k a_p0 (a_p0in 0) (a_p0ou 0) (a_p0ru 0) (a_p0no 0) (a_p0fo 0) (a_p0rd 0) (a_p0pa 0) sv_p0 p0_0 ++ wRules k a_p0ru p0ru_0 ++ wCourt k a_p0no (u.1) ++ wPast k a_p0pa (u.2.2) (u.2.1)) ++ poolW k (u.2.2) (u.2.1).2) (fun (r : Int32) (u : (OS) × (PS) × (Nat → Nat → Nat)) => res = (u.1, u.2.1, r))) := by
  refine CG.ofI (by decide) (Nat.le_of_ble_eq_true rfl) (fun p e s m args below meth c A Q E hnm hW hA hret ls hl => ?_)
  have hl : lv_has ls 8 [(0, .ref (a_p0 0)), (1, .ref b_s), (2, .int v2_0), (3, .int v3_0), (4, .int v4_0)] := hl
  unfold f_L_act at hf
  obtain ⟨hX, hbl, hbA⟩ := hS.2 _ _ _ E.sf
  refine lv_iconst (v := (0 : Int32)) E.hx E.hb dL_act_0 ic_0 ?_
  refine k_istore (lv' := [(5, .int (0 : Int32)), (0, .ref (a_p0 0)), (1, .ref b_s), (2, .int v2_0), (3, .int v3_0), (4, .int v4_0)]) E rfl hl dL_act_1 (by decide) rfl (fun ls hl => ?_)
  refine k_aload_n E hl 2 dL_act_3 rfl ?_
  refine lv_iconst (v := (4 : Int32)) E.hx E.hb dL_act_4 ic_4 ?_
  refine k_iload_n E hl 3 dL_act_5 rfl ?_
  refine lv_imul E.hx E.hb dL_act_6 ?_
  refine lv_iconst (v := (0 : Int32)) E.hx E.hb dL_act_7 ic_0 ?_
  refine lv_bipush (v := (6 : Int32)) E.hx E.hb dL_act_8 bp_6 ?_
  obtain ⟨r_1, hg, hf⟩ := ob hf
  refine k_callSi (As := [.ref b_s, .int ((4 : Int32) * v2_0), .int (0 : Int32), .int (6 : Int32)]) (rest := []) (ws2 := fun u => (wMCo k a_p0 (a_p0in 0) (a_p0ou 0) (a_p0ru 0) (a_p0no 0) (a_p0fo 0) (a_p0rd 0) (a_p0pa 0) sv_p0 p0_0 ++ wRules k a_p0ru p0ru_0 ++ wCourt k a_p0no p0no_0 ++ wPast k a_p0pa pp_0 p0pa_0) ++ poolW k pp_0 p0pa_0.2) (c_L_draw n l k b_s L_s xs_s ((4 : Int32) * v2_0) (0 : Int32) (6 : Int32) r_1 hg hS) E sl_L_62 dL_act_10 rfl [] hW hA hl rfl rfl ⟨by decide, by decide⟩ ⟨by decide, by decide⟩ (Nat.le_of_ble_eq_true rfl) rfl (fun _ => rfl) (fun _ => rfl) (fun r u H locs hp hW => ?_)
  cases hp
  have hW : WD k A s.heap ((wMCo k a_p0 (a_p0in 0) (a_p0ou 0) (a_p0ru 0) (a_p0no 0) (a_p0fo 0) (a_p0rd 0) (a_p0pa 0) sv_p0 p0_0 ++ wRules k a_p0ru p0ru_0 ++ wCourt k a_p0no p0no_0 ++ wPast k a_p0pa pp_0 p0pa_0) ++ poolW k pp_0 p0pa_0.2) H locs := hW
  have J_48 : ∀ (p0no_j48 : OS) (p0pa_j48 : PS) (pp_j48 : Nat → Nat → Nat) (H : Heap) (locs : List Loc) (ls : Array Slot) (hW : WD k A s.heap ((wMCo k a_p0 (a_p0in 0) (a_p0ou 0) (a_p0ru 0) (a_p0no 0) (a_p0fo 0) (a_p0rd 0) (a_p0pa 0) sv_p0 p0_0 ++ wRules k a_p0ru p0ru_0 ++ wCourt k a_p0no p0no_j48 ++ wPast k a_p0pa pp_j48 p0pa_j48) ++ poolW k pp_j48 p0pa_j48.2) H locs) (hl : lv_has ls 8 [(0, .ref (a_p0 0)), (1, .ref b_s), (2, .int v2_0), (3, .int v3_0), (4, .int v4_0)]) (hf : j_L_act_48 n L_s xs_s sv_p0 p0_0 p0ru_0 v2_0 v3_0 v4_0 p0no_j48 p0pa_j48 = some res), W p l e { frames := 7, cells := 13, slots := 2000, locals := 245 } s m args below meth c H locs 0 0 Q (F0 m 48 ls []) := by
    intro p0no_j48 p0pa_j48 pp_j48 H locs ls hW hl hf
    unfold j_L_act_48 at hf
    refine k_aload_n E hl 0 dL_act_48 rfl ?_
    refine lv_bipush (v := (13 : Int32)) E.hx E.hb dL_act_49 bp_13 ?_
    obtain ⟨r_2, hg, hf⟩ := ob hf
    refine k_callVi (As := [.int (13 : Int32)]) (rest := []) (ws2 := fun u => (wMCo k a_p0 (a_p0in 0) (a_p0ou 0) (a_p0ru 0) (a_p0no 0) (a_p0fo 0) (a_p0rd 0) (a_p0pa 0) sv_p0 p0_0 ++ wRules k a_p0ru p0ru_0 ++ wCourt k a_p0no p0no_j48 ++ wPast k a_p0pa pp_j48 p0pa_j48) ++ poolW k pp_j48 p0pa_j48.2) (c_X8_count n l k a_p0 a_p0in a_p0ou a_p0ru a_p0no a_p0fo a_p0rd a_p0pa pp_j48 sv_p0 p0_0 p0ru_0 p0no_j48 p0pa_j48 (13 : Int32) r_2 hg) E vl_L_84 dL_act_51 rfl (List.range' 0 1 ++ List.range' 1 3 ++ List.range' 4 12 ++ List.range' 16 2) 8 0 hW hA hl rfl (by simp only [List.map_append]; exact app2 (app2 (app2 (blk_map [] (wMCo k a_p0 (a_p0in 0) (a_p0ou 0) (a_p0ru 0) (a_p0no 0) (a_p0fo 0) (a_p0rd 0) (a_p0pa 0) sv_p0 p0_0) (wRules k a_p0ru p0ru_0 ++ wCourt k a_p0no p0no_j48 ++ wPast k a_p0pa pp_j48 p0pa_j48 ++ poolW k pp_j48 p0pa_j48.2) 0 1 (by simp only [List.append_assoc, List.nil_append, List.append_nil]) rfl rfl) (blk_map (wMCo k a_p0 (a_p0in 0) (a_p0ou 0) (a_p0ru 0) (a_p0no 0) (a_p0fo 0) (a_p0rd 0) (a_p0pa 0) sv_p0 p0_0) (wRules k a_p0ru p0ru_0) (wCourt k a_p0no p0no_j48 ++ wPast k a_p0pa pp_j48 p0pa_j48 ++ poolW k pp_j48 p0pa_j48.2) 1 3 (by simp only [List.append_assoc, List.nil_append, List.append_nil]) rfl rfl)) (blk_map (wMCo k a_p0 (a_p0in 0) (a_p0ou 0) (a_p0ru 0) (a_p0no 0) (a_p0fo 0) (a_p0rd 0) (a_p0pa 0) sv_p0 p0_0 ++ wRules k a_p0ru p0ru_0) (wCourt k a_p0no p0no_j48) (wPast k a_p0pa pp_j48 p0pa_j48 ++ poolW k pp_j48 p0pa_j48.2) 4 12 (by simp only [List.append_assoc, List.nil_append, List.append_nil]) rfl rfl)) (blk_map (wMCo k a_p0 (a_p0in 0) (a_p0ou 0) (a_p0ru 0) (a_p0no 0) (a_p0fo 0) (a_p0rd 0) (a_p0pa 0) sv_p0 p0_0 ++ wRules k a_p0ru p0ru_0 ++ wCourt k a_p0no p0no_j48) (wPast k a_p0pa pp_j48 p0pa_j48) (poolW k pp_j48 p0pa_j48.2) 16 2 (by simp only [List.append_assoc, List.nil_append, List.append_nil]) rfl rfl)) rfl rfl ⟨by decide, by decide⟩ ⟨by decide, by decide⟩ (Nat.le_of_ble_eq_true rfl) rfl (fun _ => rfl) (fun u => by show putW _ (_ ++ _) (_ ++ _) = _; rw [putW_app _ _ _ _ _ rfl, putW_app _ _ _ _ _ rfl, putW_app _ _ _ _ _ rfl, blk_put [] (wMCo k a_p0 (a_p0in 0) (a_p0ou 0) (a_p0ru 0) (a_p0no 0) (a_p0fo 0) (a_p0rd 0) (a_p0pa 0) sv_p0 p0_0) (wRules k a_p0ru p0ru_0 ++ wCourt k a_p0no p0no_j48 ++ wPast k a_p0pa pp_j48 p0pa_j48 ++ poolW k pp_j48 p0pa_j48.2) (wMCo k a_p0 (a_p0in 0) (a_p0ou 0) (a_p0ru 0) (a_p0no 0) (a_p0fo 0) (a_p0rd 0) (a_p0pa 0) sv_p0 p0_0) 0 1 (by simp only [List.append_assoc, List.nil_append, List.append_nil]) rfl rfl rfl, blk_put (wMCo k a_p0 (a_p0in 0) (a_p0ou 0) (a_p0ru 0) (a_p0no 0) (a_p0fo 0) (a_p0rd 0) (a_p0pa 0) sv_p0 p0_0) (wRules k a_p0ru p0ru_0) (wCourt k a_p0no p0no_j48 ++ wPast k a_p0pa pp_j48 p0pa_j48 ++ poolW k pp_j48 p0pa_j48.2) (wRules k a_p0ru p0ru_0) 1 3 (by simp only [List.append_assoc, List.nil_append, List.append_nil]) rfl rfl rfl, blk_put (wMCo k a_p0 (a_p0in 0) (a_p0ou 0) (a_p0ru 0) (a_p0no 0) (a_p0fo 0) (a_p0rd 0) (a_p0pa 0) sv_p0 p0_0 ++ wRules k a_p0ru p0ru_0) (wCourt k a_p0no p0no_j48) (wPast k a_p0pa pp_j48 p0pa_j48 ++ poolW k pp_j48 p0pa_j48.2) (wCourt k a_p0no p0no_j48) 4 12 (by simp only [List.append_assoc, List.nil_append, List.append_nil]) rfl rfl rfl, blk_put (wMCo k a_p0 (a_p0in 0) (a_p0ou 0) (a_p0ru 0) (a_p0no 0) (a_p0fo 0) (a_p0rd 0) (a_p0pa 0) sv_p0 p0_0 ++ wRules k a_p0ru p0ru_0 ++ wCourt k a_p0no p0no_j48) (wPast k a_p0pa pp_j48 p0pa_j48) (poolW k pp_j48 p0pa_j48.2) (wPast k a_p0pa pp_j48 p0pa_j48) 16 2 (by simp only [List.append_assoc, List.nil_append, List.append_nil]) rfl rfl rfl]; try simp only [List.append_assoc, List.nil_append, List.append_nil]) (fun r u H locs hp hW => ?_)
    cases hp
    have hW : WD k A s.heap ((wMCo k a_p0 (a_p0in 0) (a_p0ou 0) (a_p0ru 0) (a_p0no 0) (a_p0fo 0) (a_p0rd 0) (a_p0pa 0) sv_p0 p0_0 ++ wRules k a_p0ru p0ru_0 ++ wCourt k a_p0no p0no_j48 ++ wPast k a_p0pa pp_j48 p0pa_j48) ++ poolW k pp_j48 p0pa_j48.2) H locs := hW
    refine lv_bipush (v := (60 : Int32)) E.hx E.hb dL_act_54 bp_60 ?_
    refine lv_icmp_ge (tgt := 103) E.hx E.hb dL_act_56 (by decide) (fun hc => ?_) (fun hc => ?_)
    · have hf := oT hc hf
      refine lv_iconst (v := (0 : Int32)) E.hx E.hb dL_act_103 ic_0 ?_
      exact hret _ (p0no_j48, p0pa_j48, pp_j48) _ _ _ _ _ _ hW (Option.some.inj hf).symm rfl (by decide) (by decide) dL_act_104
    · have hf := oF hc hf
      refine k_aload_n E hl 0 dL_act_59 rfl ?_
      refine k_aload_n E hl 1 dL_act_60 rfl ?_
      refine lv_iconst (v := (4 : Int32)) E.hx E.hb dL_act_61 ic_4 ?_
      refine k_iload_n E hl 2 dL_act_62 rfl ?_
      refine lv_imul E.hx E.hb dL_act_63 ?_
      refine lv_iconst (v := (1 : Int32)) E.hx E.hb dL_act_64 ic_1 ?_
      refine lv_iadd E.hx E.hb dL_act_65 ?_
      refine lv_iconst (v := (0 : Int32)) E.hx E.hb dL_act_66 ic_0 ?_
      refine k_iload E hl 4 dL_act_67 rfl ?_
      refine lv_iconst (v := (1 : Int32)) E.hx E.hb dL_act_69 ic_1 ?_
      refine lv_isub E.hx E.hb dL_act_70 ?_
      obtain ⟨r_3, hg, hf⟩ := ob hf
      refine k_callSi (As := [.ref b_s, .int (((4 : Int32) * v2_0) + (1 : Int32)), .int (0 : Int32), .int (v4_0 - (1 : Int32))]) (rest := [.ref (a_p0 0)]) (ws2 := fun u => (wMCo k a_p0 (a_p0in 0) (a_p0ou 0) (a_p0ru 0) (a_p0no 0) (a_p0fo 0) (a_p0rd 0) (a_p0pa 0) sv_p0 p0_0 ++ wRules k a_p0ru p0ru_0 ++ wCourt k a_p0no p0no_j48 ++ wPast k a_p0pa pp_j48 p0pa_j48) ++ poolW k pp_j48 p0pa_j48.2) (c_L_draw n l k b_s L_s xs_s (((4 : Int32) * v2_0) + (1 : Int32)) (0 : Int32) (v4_0 - (1 : Int32)) r_3 hg hS) E sl_L_62 dL_act_71 rfl [] hW hA hl rfl rfl ⟨by decide, by decide⟩ ⟨by decide, by decide⟩ (Nat.le_of_ble_eq_true rfl) rfl (fun _ => rfl) (fun _ => rfl) (fun r u H locs hp hW => ?_)
      cases hp
      have hW : WD k A s.heap ((wMCo k a_p0 (a_p0in 0) (a_p0ou 0) (a_p0ru 0) (a_p0no 0) (a_p0fo 0) (a_p0rd 0) (a_p0pa 0) sv_p0 p0_0 ++ wRules k a_p0ru p0ru_0 ++ wCourt k a_p0no p0no_j48 ++ wPast k a_p0pa pp_j48 p0pa_j48) ++ poolW k pp_j48 p0pa_j48.2) H locs := hW
      refine k_aload_n E hl 1 dL_act_74 rfl ?_
      refine lv_iconst (v := (4 : Int32)) E.hx E.hb dL_act_75 ic_4 ?_
      refine k_iload_n E hl 2 dL_act_76 rfl ?_
      refine lv_imul E.hx E.hb dL_act_77 ?_
      refine lv_iconst (v := (2 : Int32)) E.hx E.hb dL_act_78 ic_2 ?_
      refine lv_iadd E.hx E.hb dL_act_79 ?_
      refine lv_iconst (v := (1 : Int32)) E.hx E.hb dL_act_80 ic_1 ?_
      refine k_iload_n E hl 3 dL_act_81 rfl ?_
      obtain ⟨r_4, hg, hf⟩ := ob hf
      refine k_callSi (As := [.ref b_s, .int (((4 : Int32) * v2_0) + (2 : Int32)), .int (1 : Int32), .int v3_0]) (rest := [.int r_3, .ref (a_p0 0)]) (ws2 := fun u => (wMCo k a_p0 (a_p0in 0) (a_p0ou 0) (a_p0ru 0) (a_p0no 0) (a_p0fo 0) (a_p0rd 0) (a_p0pa 0) sv_p0 p0_0 ++ wRules k a_p0ru p0ru_0 ++ wCourt k a_p0no p0no_j48 ++ wPast k a_p0pa pp_j48 p0pa_j48) ++ poolW k pp_j48 p0pa_j48.2) (c_L_draw n l k b_s L_s xs_s (((4 : Int32) * v2_0) + (2 : Int32)) (1 : Int32) v3_0 r_4 hg hS) E sl_L_62 dL_act_82 rfl [] hW hA hl rfl rfl ⟨by decide, by decide⟩ ⟨by decide, by decide⟩ (Nat.le_of_ble_eq_true rfl) rfl (fun _ => rfl) (fun _ => rfl) (fun r u H locs hp hW => ?_)
      cases hp
      have hW : WD k A s.heap ((wMCo k a_p0 (a_p0in 0) (a_p0ou 0) (a_p0ru 0) (a_p0no 0) (a_p0fo 0) (a_p0rd 0) (a_p0pa 0) sv_p0 p0_0 ++ wRules k a_p0ru p0ru_0 ++ wCourt k a_p0no p0no_j48 ++ wPast k a_p0pa pp_j48 p0pa_j48) ++ poolW k pp_j48 p0pa_j48.2) H locs := hW
      refine k_aload_n E hl 1 dL_act_85 rfl ?_
      refine lv_iconst (v := (4 : Int32)) E.hx E.hb dL_act_86 ic_4 ?_
      refine k_iload_n E hl 2 dL_act_87 rfl ?_
      refine lv_imul E.hx E.hb dL_act_88 ?_
      refine lv_iconst (v := (3 : Int32)) E.hx E.hb dL_act_89 ic_3 ?_
      refine lv_iadd E.hx E.hb dL_act_90 ?_
      refine lv_iconst (v := (1 : Int32)) E.hx E.hb dL_act_91 ic_1 ?_
      refine lv_bipush (v := (30 : Int32)) E.hx E.hb dL_act_92 bp_30 ?_
      obtain ⟨r_5, hg, hf⟩ := ob hf
      refine k_callSi (As := [.ref b_s, .int (((4 : Int32) * v2_0) + (3 : Int32)), .int (1 : Int32), .int (30 : Int32)]) (rest := [.int r_4, .int r_3, .ref (a_p0 0)]) (ws2 := fun u => (wMCo k a_p0 (a_p0in 0) (a_p0ou 0) (a_p0ru 0) (a_p0no 0) (a_p0fo 0) (a_p0rd 0) (a_p0pa 0) sv_p0 p0_0 ++ wRules k a_p0ru p0ru_0 ++ wCourt k a_p0no p0no_j48 ++ wPast k a_p0pa pp_j48 p0pa_j48) ++ poolW k pp_j48 p0pa_j48.2) (c_L_draw n l k b_s L_s xs_s (((4 : Int32) * v2_0) + (3 : Int32)) (1 : Int32) (30 : Int32) r_5 hg hS) E sl_L_62 dL_act_94 rfl [] hW hA hl rfl rfl ⟨by decide, by decide⟩ ⟨by decide, by decide⟩ (Nat.le_of_ble_eq_true rfl) rfl (fun _ => rfl) (fun _ => rfl) (fun r u H locs hp hW => ?_)
      cases hp
      have hW : WD k A s.heap ((wMCo k a_p0 (a_p0in 0) (a_p0ou 0) (a_p0ru 0) (a_p0no 0) (a_p0fo 0) (a_p0rd 0) (a_p0pa 0) sv_p0 p0_0 ++ wRules k a_p0ru p0ru_0 ++ wCourt k a_p0no p0no_j48 ++ wPast k a_p0pa pp_j48 p0pa_j48) ++ poolW k pp_j48 p0pa_j48.2) H locs := hW
      obtain ⟨p0no_6, p0pa_7, r_8, cd_9, hg, hf⟩ := ob4 hf
      by_cases hcd : cd_9 = 0
      rotate_left
      · have hf := oF hcd hf
        exact o0 hf
      replace hf := oT hcd hf
      refine k_callGi (As := [.int r_3, .int r_4, .int r_5]) (rest := []) (ws2 := fun u => (wMCo k a_p0 (a_p0in 0) (a_p0ou 0) (a_p0ru 0) (a_p0no 0) (a_p0fo 0) (a_p0rd 0) (a_p0pa 0) sv_p0 p0_0 ++ wRules k a_p0ru p0ru_0 ++ wCourt k a_p0no (u.1) ++ wPast k a_p0pa (u.2.2) (u.2.1)) ++ poolW k (u.2.2) (u.2.1).2) (c_X8_ask n l k a_p0 a_p0in a_p0ou a_p0ru a_p0no a_p0fo a_p0rd a_p0pa pp_j48 sv_p0 p0_0 p0ru_0 p0no_j48 p0pa_j48 r_3 r_4 r_5 (p0no_6, p0pa_7, r_8, cd_9) hg hcd) E vl_L_88 dL_act_97 rfl (List.range' 0 1 ++ List.range' 1 3 ++ List.range' 4 12 ++ List.range' 16 2) 8 0 hW hA hl rfl (by simp only [List.map_append]; exact app2 (app2 (app2 (blk_map [] (wMCo k a_p0 (a_p0in 0) (a_p0ou 0) (a_p0ru 0) (a_p0no 0) (a_p0fo 0) (a_p0rd 0) (a_p0pa 0) sv_p0 p0_0) (wRules k a_p0ru p0ru_0 ++ wCourt k a_p0no p0no_j48 ++ wPast k a_p0pa pp_j48 p0pa_j48) 0 1 (by simp only [List.append_assoc, List.nil_append, List.append_nil]) rfl rfl) (blk_map (wMCo k a_p0 (a_p0in 0) (a_p0ou 0) (a_p0ru 0) (a_p0no 0) (a_p0fo 0) (a_p0rd 0) (a_p0pa 0) sv_p0 p0_0) (wRules k a_p0ru p0ru_0) (wCourt k a_p0no p0no_j48 ++ wPast k a_p0pa pp_j48 p0pa_j48) 1 3 (by simp only [List.append_assoc, List.nil_append, List.append_nil]) rfl rfl)) (blk_map (wMCo k a_p0 (a_p0in 0) (a_p0ou 0) (a_p0ru 0) (a_p0no 0) (a_p0fo 0) (a_p0rd 0) (a_p0pa 0) sv_p0 p0_0 ++ wRules k a_p0ru p0ru_0) (wCourt k a_p0no p0no_j48) (wPast k a_p0pa pp_j48 p0pa_j48) 4 12 (by simp only [List.append_assoc, List.nil_append, List.append_nil]) rfl rfl)) (blk_map (wMCo k a_p0 (a_p0in 0) (a_p0ou 0) (a_p0ru 0) (a_p0no 0) (a_p0fo 0) (a_p0rd 0) (a_p0pa 0) sv_p0 p0_0 ++ wRules k a_p0ru p0ru_0 ++ wCourt k a_p0no p0no_j48) (wPast k a_p0pa pp_j48 p0pa_j48) [] 16 2 (by simp only [List.append_assoc, List.nil_append, List.append_nil]) rfl rfl)) rfl rfl ⟨by decide, by decide⟩ ⟨by decide, by decide⟩ (Nat.le_of_ble_eq_true rfl) rfl (fun _ => rfl) (fun u => by show putW _ (_ ++ _) (_ ++ _) ++ _ = _; rw [putW_app _ _ _ _ _ rfl, putW_app _ _ _ _ _ rfl, putW_app _ _ _ _ _ rfl, blk_put [] (wMCo k a_p0 (a_p0in 0) (a_p0ou 0) (a_p0ru 0) (a_p0no 0) (a_p0fo 0) (a_p0rd 0) (a_p0pa 0) sv_p0 p0_0) (wRules k a_p0ru p0ru_0 ++ wCourt k a_p0no p0no_j48 ++ wPast k a_p0pa pp_j48 p0pa_j48) (wMCo k a_p0 (a_p0in 0) (a_p0ou 0) (a_p0ru 0) (a_p0no 0) (a_p0fo 0) (a_p0rd 0) (a_p0pa 0) sv_p0 p0_0) 0 1 (by simp only [List.append_assoc, List.nil_append, List.append_nil]) rfl rfl rfl, blk_put (wMCo k a_p0 (a_p0in 0) (a_p0ou 0) (a_p0ru 0) (a_p0no 0) (a_p0fo 0) (a_p0rd 0) (a_p0pa 0) sv_p0 p0_0) (wRules k a_p0ru p0ru_0) (wCourt k a_p0no p0no_j48 ++ wPast k a_p0pa pp_j48 p0pa_j48) (wRules k a_p0ru p0ru_0) 1 3 (by simp only [List.append_assoc, List.nil_append, List.append_nil]) rfl rfl rfl, blk_put (wMCo k a_p0 (a_p0in 0) (a_p0ou 0) (a_p0ru 0) (a_p0no 0) (a_p0fo 0) (a_p0rd 0) (a_p0pa 0) sv_p0 p0_0 ++ wRules k a_p0ru p0ru_0) (wCourt k a_p0no p0no_j48) (wPast k a_p0pa pp_j48 p0pa_j48) (wCourt k a_p0no (u.1)) 4 12 (by simp only [List.append_assoc, List.nil_append, List.append_nil]) rfl rfl rfl, blk_put (wMCo k a_p0 (a_p0in 0) (a_p0ou 0) (a_p0ru 0) (a_p0no 0) (a_p0fo 0) (a_p0rd 0) (a_p0pa 0) sv_p0 p0_0 ++ wRules k a_p0ru p0ru_0 ++ wCourt k a_p0no (u.1)) (wPast k a_p0pa pp_j48 p0pa_j48) [] (wPast k a_p0pa (u.2.2) (u.2.1)) 16 2 (by simp only [List.append_assoc, List.nil_append, List.append_nil]) rfl rfl rfl]; try simp only [List.append_assoc, List.nil_append, List.append_nil]) (fun r u H locs hp hW => ?_)
      obtain ⟨u0, u1, pp_10⟩ := u
      try dsimp only at hp
      cases hp
      have hW : WD k A s.heap ((wMCo k a_p0 (a_p0in 0) (a_p0ou 0) (a_p0ru 0) (a_p0no 0) (a_p0fo 0) (a_p0rd 0) (a_p0pa 0) sv_p0 p0_0 ++ wRules k a_p0ru p0ru_0 ++ wCourt k a_p0no p0no_6 ++ wPast k a_p0pa pp_10 p0pa_7) ++ poolW k pp_10 p0pa_7.2) H locs := hW
      refine lv_goto (tgt := 104) E.hx E.hb dL_act_100 (by decide) ?_
      exact hret _ (p0no_6, p0pa_7, pp_10) _ _ _ _ _ _ hW (Option.some.inj hf).symm rfl (by decide) (by decide) dL_act_104
  by_cases hsw : (r_1).toInt < 0 ∨ 4 < (r_1).toInt
  · have hf := oT hsw hf
    refine lv_tableOut (tgt := 220) E.hx E.hb dL_act_13 hsw (by decide) ?_
    refine k_aload_n E hl 1 dL_act_220 rfl ?_
    refine k_aload_n E hl 2 dL_act_221 rfl ?_
    refine lv_iconst (v := (4 : Int32)) E.hx E.hb dL_act_222 ic_4 ?_
    refine k_iload_n E hl 3 dL_act_223 rfl ?_
    refine lv_imul E.hx E.hb dL_act_224 ?_
    refine lv_iconst (v := (1 : Int32)) E.hx E.hb dL_act_225 ic_1 ?_
    refine lv_iadd E.hx E.hb dL_act_226 ?_
    refine lv_iconst (v := (1 : Int32)) E.hx E.hb dL_act_227 ic_1 ?_
    refine lv_bipush (v := (12 : Int32)) E.hx E.hb dL_act_228 bp_12 ?_
    obtain ⟨r_11, hg, hf⟩ := ob hf
    refine k_callSi (As := [.ref b_s, .int (((4 : Int32) * v2_0) + (1 : Int32)), .int (1 : Int32), .int (12 : Int32)]) (rest := [.ref (a_p0 0)]) (ws2 := fun u => (wMCo k a_p0 (a_p0in 0) (a_p0ou 0) (a_p0ru 0) (a_p0no 0) (a_p0fo 0) (a_p0rd 0) (a_p0pa 0) sv_p0 p0_0 ++ wRules k a_p0ru p0ru_0 ++ wCourt k a_p0no p0no_0 ++ wPast k a_p0pa pp_0 p0pa_0) ++ poolW k pp_0 p0pa_0.2) (c_L_draw n l k b_s L_s xs_s (((4 : Int32) * v2_0) + (1 : Int32)) (1 : Int32) (12 : Int32) r_11 hg hS) E sl_L_62 dL_act_230 rfl [] hW hA hl rfl rfl ⟨by decide, by decide⟩ ⟨by decide, by decide⟩ (Nat.le_of_ble_eq_true rfl) rfl (fun _ => rfl) (fun _ => rfl) (fun r u H locs hp hW => ?_)
    cases hp
    have hW : WD k A s.heap ((wMCo k a_p0 (a_p0in 0) (a_p0ou 0) (a_p0ru 0) (a_p0no 0) (a_p0fo 0) (a_p0rd 0) (a_p0pa 0) sv_p0 p0_0 ++ wRules k a_p0ru p0ru_0 ++ wCourt k a_p0no p0no_0 ++ wPast k a_p0pa pp_0 p0pa_0) ++ poolW k pp_0 p0pa_0.2) H locs := hW
    obtain ⟨p0no_12, p0pa_13, r_14, cd_15, hg, hf⟩ := ob4 hf
    by_cases hcd : cd_15 = 0
    rotate_left
    · have hf := oF hcd hf
      exact o0 hf
    replace hf := oT hcd hf
    refine k_callGi (As := [.int r_11]) (rest := []) (ws2 := fun u => (wMCo k a_p0 (a_p0in 0) (a_p0ou 0) (a_p0ru 0) (a_p0no 0) (a_p0fo 0) (a_p0rd 0) (a_p0pa 0) sv_p0 p0_0 ++ wRules k a_p0ru p0ru_0 ++ wCourt k a_p0no (u.1) ++ wPast k a_p0pa (u.2.2) (u.2.1)) ++ poolW k (u.2.2) (u.2.1).2) (c_X8_run n l k a_p0 a_p0in a_p0ou a_p0ru a_p0no a_p0fo a_p0rd a_p0pa pp_0 sv_p0 p0_0 p0ru_0 p0no_0 p0pa_0 r_11 (p0no_12, p0pa_13, r_14, cd_15) hg hcd) E vl_L_105 dL_act_233 rfl (List.range' 0 1 ++ List.range' 1 3 ++ List.range' 4 12 ++ List.range' 16 2) 8 0 hW hA hl rfl (by simp only [List.map_append]; exact app2 (app2 (app2 (blk_map [] (wMCo k a_p0 (a_p0in 0) (a_p0ou 0) (a_p0ru 0) (a_p0no 0) (a_p0fo 0) (a_p0rd 0) (a_p0pa 0) sv_p0 p0_0) (wRules k a_p0ru p0ru_0 ++ wCourt k a_p0no p0no_0 ++ wPast k a_p0pa pp_0 p0pa_0) 0 1 (by simp only [List.append_assoc, List.nil_append, List.append_nil]) rfl rfl) (blk_map (wMCo k a_p0 (a_p0in 0) (a_p0ou 0) (a_p0ru 0) (a_p0no 0) (a_p0fo 0) (a_p0rd 0) (a_p0pa 0) sv_p0 p0_0) (wRules k a_p0ru p0ru_0) (wCourt k a_p0no p0no_0 ++ wPast k a_p0pa pp_0 p0pa_0) 1 3 (by simp only [List.append_assoc, List.nil_append, List.append_nil]) rfl rfl)) (blk_map (wMCo k a_p0 (a_p0in 0) (a_p0ou 0) (a_p0ru 0) (a_p0no 0) (a_p0fo 0) (a_p0rd 0) (a_p0pa 0) sv_p0 p0_0 ++ wRules k a_p0ru p0ru_0) (wCourt k a_p0no p0no_0) (wPast k a_p0pa pp_0 p0pa_0) 4 12 (by simp only [List.append_assoc, List.nil_append, List.append_nil]) rfl rfl)) (blk_map (wMCo k a_p0 (a_p0in 0) (a_p0ou 0) (a_p0ru 0) (a_p0no 0) (a_p0fo 0) (a_p0rd 0) (a_p0pa 0) sv_p0 p0_0 ++ wRules k a_p0ru p0ru_0 ++ wCourt k a_p0no p0no_0) (wPast k a_p0pa pp_0 p0pa_0) [] 16 2 (by simp only [List.append_assoc, List.nil_append, List.append_nil]) rfl rfl)) rfl rfl ⟨by decide, by decide⟩ ⟨by decide, by decide⟩ (Nat.le_of_ble_eq_true rfl) rfl (fun _ => rfl) (fun u => by show putW _ (_ ++ _) (_ ++ _) ++ _ = _; rw [putW_app _ _ _ _ _ rfl, putW_app _ _ _ _ _ rfl, putW_app _ _ _ _ _ rfl, blk_put [] (wMCo k a_p0 (a_p0in 0) (a_p0ou 0) (a_p0ru 0) (a_p0no 0) (a_p0fo 0) (a_p0rd 0) (a_p0pa 0) sv_p0 p0_0) (wRules k a_p0ru p0ru_0 ++ wCourt k a_p0no p0no_0 ++ wPast k a_p0pa pp_0 p0pa_0) (wMCo k a_p0 (a_p0in 0) (a_p0ou 0) (a_p0ru 0) (a_p0no 0) (a_p0fo 0) (a_p0rd 0) (a_p0pa 0) sv_p0 p0_0) 0 1 (by simp only [List.append_assoc, List.nil_append, List.append_nil]) rfl rfl rfl, blk_put (wMCo k a_p0 (a_p0in 0) (a_p0ou 0) (a_p0ru 0) (a_p0no 0) (a_p0fo 0) (a_p0rd 0) (a_p0pa 0) sv_p0 p0_0) (wRules k a_p0ru p0ru_0) (wCourt k a_p0no p0no_0 ++ wPast k a_p0pa pp_0 p0pa_0) (wRules k a_p0ru p0ru_0) 1 3 (by simp only [List.append_assoc, List.nil_append, List.append_nil]) rfl rfl rfl, blk_put (wMCo k a_p0 (a_p0in 0) (a_p0ou 0) (a_p0ru 0) (a_p0no 0) (a_p0fo 0) (a_p0rd 0) (a_p0pa 0) sv_p0 p0_0 ++ wRules k a_p0ru p0ru_0) (wCourt k a_p0no p0no_0) (wPast k a_p0pa pp_0 p0pa_0) (wCourt k a_p0no (u.1)) 4 12 (by simp only [List.append_assoc, List.nil_append, List.append_nil]) rfl rfl rfl, blk_put (wMCo k a_p0 (a_p0in 0) (a_p0ou 0) (a_p0ru 0) (a_p0no 0) (a_p0fo 0) (a_p0rd 0) (a_p0pa 0) sv_p0 p0_0 ++ wRules k a_p0ru p0ru_0 ++ wCourt k a_p0no (u.1)) (wPast k a_p0pa pp_0 p0pa_0) [] (wPast k a_p0pa (u.2.2) (u.2.1)) 16 2 (by simp only [List.append_assoc, List.nil_append, List.append_nil]) rfl rfl rfl]; try simp only [List.append_assoc, List.nil_append, List.append_nil]) (fun r u H locs hp hW => ?_)
    obtain ⟨u0, u1, pp_16⟩ := u
    try dsimp only at hp
    cases hp
    have hW : WD k A s.heap ((wMCo k a_p0 (a_p0in 0) (a_p0ou 0) (a_p0ru 0) (a_p0no 0) (a_p0fo 0) (a_p0rd 0) (a_p0pa 0) sv_p0 p0_0 ++ wRules k a_p0ru p0ru_0 ++ wCourt k a_p0no p0no_12 ++ wPast k a_p0pa pp_16 p0pa_13) ++ poolW k pp_16 p0pa_13.2) H locs := hW
    refine k_istore (lv' := [(5, .int r_14), (0, .ref (a_p0 0)), (1, .ref b_s), (2, .int v2_0), (3, .int v3_0), (4, .int v4_0)]) E rfl hl dL_act_236 (by decide) rfl (fun ls hl => ?_)
    refine k_iload E hl 0 dL_act_238 rfl ?_
    exact hret _ (p0no_12, p0pa_13, pp_16) _ _ _ _ _ _ hW (Option.some.inj hf).symm rfl (by decide) (by decide) dL_act_240
  · have hf := oF hsw hf
    by_cases hc : r_1 = (0 : Int32)
    · have hf := oT hc hf
      refine lv_tableIn (off := (35)) (tgt := 48) E.hx E.hb dL_act_13 (by rw [hc]; decide) (by rw [hc]; decide) (by rw [hc]; rfl) (by decide) ?_
      exact J_48 p0no_0 p0pa_0 pp_0 _ _ _ hW (lv_sub hl [1, 2, 3, 4, 5] rfl) hf
    have hf := oF hc hf; have hn_0 := hc; clear hc
    by_cases hc : r_1 = (1 : Int32)
    · have hf := oT hc hf
      refine lv_tableIn (off := (35)) (tgt := 48) E.hx E.hb dL_act_13 (by rw [hc]; decide) (by rw [hc]; decide) (by rw [hc]; rfl) (by decide) ?_
      exact J_48 p0no_0 p0pa_0 pp_0 _ _ _ hW (lv_sub hl [1, 2, 3, 4, 5] rfl) hf
    have hf := oF hc hf; have hn_1 := hc; clear hc
    by_cases hc : r_1 = (2 : Int32)
    · have hf := oT hc hf
      refine lv_tableIn (off := (92)) (tgt := 105) E.hx E.hb dL_act_13 (by rw [hc]; decide) (by rw [hc]; decide) (by rw [hc]; rfl) (by decide) ?_
      refine k_aload_n E hl 1 dL_act_105 rfl ?_
      refine k_aload_n E hl 2 dL_act_106 rfl ?_
      refine lv_iconst (v := (4 : Int32)) E.hx E.hb dL_act_107 ic_4 ?_
      refine k_iload_n E hl 3 dL_act_108 rfl ?_
      refine lv_imul E.hx E.hb dL_act_109 ?_
      refine lv_iconst (v := (1 : Int32)) E.hx E.hb dL_act_110 ic_1 ?_
      refine lv_iadd E.hx E.hb dL_act_111 ?_
      refine lv_iconst (v := (0 : Int32)) E.hx E.hb dL_act_112 ic_0 ?_
      refine k_iload E hl 5 dL_act_113 rfl ?_
      refine lv_iconst (v := (1 : Int32)) E.hx E.hb dL_act_115 ic_1 ?_
      refine lv_isub E.hx E.hb dL_act_116 ?_
      obtain ⟨r_17, hg, hf⟩ := ob hf
      refine k_callSi (As := [.ref b_s, .int (((4 : Int32) * v2_0) + (1 : Int32)), .int (0 : Int32), .int (v4_0 - (1 : Int32))]) (rest := [.ref (a_p0 0)]) (ws2 := fun u => (wMCo k a_p0 (a_p0in 0) (a_p0ou 0) (a_p0ru 0) (a_p0no 0) (a_p0fo 0) (a_p0rd 0) (a_p0pa 0) sv_p0 p0_0 ++ wRules k a_p0ru p0ru_0 ++ wCourt k a_p0no p0no_0 ++ wPast k a_p0pa pp_0 p0pa_0) ++ poolW k pp_0 p0pa_0.2) (c_L_draw n l k b_s L_s xs_s (((4 : Int32) * v2_0) + (1 : Int32)) (0 : Int32) (v4_0 - (1 : Int32)) r_17 hg hS) E sl_L_62 dL_act_117 rfl [] hW hA hl rfl rfl ⟨by decide, by decide⟩ ⟨by decide, by decide⟩ (Nat.le_of_ble_eq_true rfl) rfl (fun _ => rfl) (fun _ => rfl) (fun r u H locs hp hW => ?_)
      cases hp
      have hW : WD k A s.heap ((wMCo k a_p0 (a_p0in 0) (a_p0ou 0) (a_p0ru 0) (a_p0no 0) (a_p0fo 0) (a_p0rd 0) (a_p0pa 0) sv_p0 p0_0 ++ wRules k a_p0ru p0ru_0 ++ wCourt k a_p0no p0no_0 ++ wPast k a_p0pa pp_0 p0pa_0) ++ poolW k pp_0 p0pa_0.2) H locs := hW
      refine k_aload_n E hl 2 dL_act_120 rfl ?_
      refine lv_iconst (v := (4 : Int32)) E.hx E.hb dL_act_121 ic_4 ?_
      refine k_iload_n E hl 3 dL_act_122 rfl ?_
      refine lv_imul E.hx E.hb dL_act_123 ?_
      refine lv_iconst (v := (2 : Int32)) E.hx E.hb dL_act_124 ic_2 ?_
      refine lv_iadd E.hx E.hb dL_act_125 ?_
      refine lv_iconst (v := (0 : Int32)) E.hx E.hb dL_act_126 ic_0 ?_
      refine lv_bipush (v := (20 : Int32)) E.hx E.hb dL_act_127 bp_20 ?_
      obtain ⟨r_18, hg, hf⟩ := ob hf
      refine k_callSi (As := [.ref b_s, .int (((4 : Int32) * v2_0) + (2 : Int32)), .int (0 : Int32), .int (20 : Int32)]) (rest := [.int r_17, .ref (a_p0 0)]) (ws2 := fun u => (wMCo k a_p0 (a_p0in 0) (a_p0ou 0) (a_p0ru 0) (a_p0no 0) (a_p0fo 0) (a_p0rd 0) (a_p0pa 0) sv_p0 p0_0 ++ wRules k a_p0ru p0ru_0 ++ wCourt k a_p0no p0no_0 ++ wPast k a_p0pa pp_0 p0pa_0) ++ poolW k pp_0 p0pa_0.2) (c_L_draw n l k b_s L_s xs_s (((4 : Int32) * v2_0) + (2 : Int32)) (0 : Int32) (20 : Int32) r_18 hg hS) E sl_L_62 dL_act_129 rfl [] hW hA hl rfl rfl ⟨by decide, by decide⟩ ⟨by decide, by decide⟩ (Nat.le_of_ble_eq_true rfl) rfl (fun _ => rfl) (fun _ => rfl) (fun r u H locs hp hW => ?_)
      cases hp
      have hW : WD k A s.heap ((wMCo k a_p0 (a_p0in 0) (a_p0ou 0) (a_p0ru 0) (a_p0no 0) (a_p0fo 0) (a_p0rd 0) (a_p0pa 0) sv_p0 p0_0 ++ wRules k a_p0ru p0ru_0 ++ wCourt k a_p0no p0no_0 ++ wPast k a_p0pa pp_0 p0pa_0) ++ poolW k pp_0 p0pa_0.2) H locs := hW
      obtain ⟨p0no_19, p0pa_20, r_21, cd_22, hg, hf⟩ := ob4 hf
      by_cases hcd : cd_22 = 0
      rotate_left
      · have hf := oF hcd hf
        exact o0 hf
      replace hf := oT hcd hf
      refine k_callGi (As := [.int r_17, .int r_18]) (rest := []) (ws2 := fun u => (wMCo k a_p0 (a_p0in 0) (a_p0ou 0) (a_p0ru 0) (a_p0no 0) (a_p0fo 0) (a_p0rd 0) (a_p0pa 0) sv_p0 p0_0 ++ wRules k a_p0ru p0ru_0 ++ wCourt k a_p0no (u.1) ++ wPast k a_p0pa (u.2.2) (u.2.1)) ++ poolW k (u.2.2) (u.2.1).2) (c_X8_stall n l k a_p0 a_p0in a_p0ou a_p0ru a_p0no a_p0fo a_p0rd a_p0pa pp_0 sv_p0 p0_0 p0ru_0 p0no_0 p0pa_0 r_17 r_18 (p0no_19, p0pa_20, r_21, cd_22) hg hcd) E vl_L_92 dL_act_132 rfl (List.range' 0 1 ++ List.range' 1 3 ++ List.range' 4 12 ++ List.range' 16 2) 8 0 hW hA hl rfl (by simp only [List.map_append]; exact app2 (app2 (app2 (blk_map [] (wMCo k a_p0 (a_p0in 0) (a_p0ou 0) (a_p0ru 0) (a_p0no 0) (a_p0fo 0) (a_p0rd 0) (a_p0pa 0) sv_p0 p0_0) (wRules k a_p0ru p0ru_0 ++ wCourt k a_p0no p0no_0 ++ wPast k a_p0pa pp_0 p0pa_0) 0 1 (by simp only [List.append_assoc, List.nil_append, List.append_nil]) rfl rfl) (blk_map (wMCo k a_p0 (a_p0in 0) (a_p0ou 0) (a_p0ru 0) (a_p0no 0) (a_p0fo 0) (a_p0rd 0) (a_p0pa 0) sv_p0 p0_0) (wRules k a_p0ru p0ru_0) (wCourt k a_p0no p0no_0 ++ wPast k a_p0pa pp_0 p0pa_0) 1 3 (by simp only [List.append_assoc, List.nil_append, List.append_nil]) rfl rfl)) (blk_map (wMCo k a_p0 (a_p0in 0) (a_p0ou 0) (a_p0ru 0) (a_p0no 0) (a_p0fo 0) (a_p0rd 0) (a_p0pa 0) sv_p0 p0_0 ++ wRules k a_p0ru p0ru_0) (wCourt k a_p0no p0no_0) (wPast k a_p0pa pp_0 p0pa_0) 4 12 (by simp only [List.append_assoc, List.nil_append, List.append_nil]) rfl rfl)) (blk_map (wMCo k a_p0 (a_p0in 0) (a_p0ou 0) (a_p0ru 0) (a_p0no 0) (a_p0fo 0) (a_p0rd 0) (a_p0pa 0) sv_p0 p0_0 ++ wRules k a_p0ru p0ru_0 ++ wCourt k a_p0no p0no_0) (wPast k a_p0pa pp_0 p0pa_0) [] 16 2 (by simp only [List.append_assoc, List.nil_append, List.append_nil]) rfl rfl)) rfl rfl ⟨by decide, by decide⟩ ⟨by decide, by decide⟩ (Nat.le_of_ble_eq_true rfl) rfl (fun _ => rfl) (fun u => by show putW _ (_ ++ _) (_ ++ _) ++ _ = _; rw [putW_app _ _ _ _ _ rfl, putW_app _ _ _ _ _ rfl, putW_app _ _ _ _ _ rfl, blk_put [] (wMCo k a_p0 (a_p0in 0) (a_p0ou 0) (a_p0ru 0) (a_p0no 0) (a_p0fo 0) (a_p0rd 0) (a_p0pa 0) sv_p0 p0_0) (wRules k a_p0ru p0ru_0 ++ wCourt k a_p0no p0no_0 ++ wPast k a_p0pa pp_0 p0pa_0) (wMCo k a_p0 (a_p0in 0) (a_p0ou 0) (a_p0ru 0) (a_p0no 0) (a_p0fo 0) (a_p0rd 0) (a_p0pa 0) sv_p0 p0_0) 0 1 (by simp only [List.append_assoc, List.nil_append, List.append_nil]) rfl rfl rfl, blk_put (wMCo k a_p0 (a_p0in 0) (a_p0ou 0) (a_p0ru 0) (a_p0no 0) (a_p0fo 0) (a_p0rd 0) (a_p0pa 0) sv_p0 p0_0) (wRules k a_p0ru p0ru_0) (wCourt k a_p0no p0no_0 ++ wPast k a_p0pa pp_0 p0pa_0) (wRules k a_p0ru p0ru_0) 1 3 (by simp only [List.append_assoc, List.nil_append, List.append_nil]) rfl rfl rfl, blk_put (wMCo k a_p0 (a_p0in 0) (a_p0ou 0) (a_p0ru 0) (a_p0no 0) (a_p0fo 0) (a_p0rd 0) (a_p0pa 0) sv_p0 p0_0 ++ wRules k a_p0ru p0ru_0) (wCourt k a_p0no p0no_0) (wPast k a_p0pa pp_0 p0pa_0) (wCourt k a_p0no (u.1)) 4 12 (by simp only [List.append_assoc, List.nil_append, List.append_nil]) rfl rfl rfl, blk_put (wMCo k a_p0 (a_p0in 0) (a_p0ou 0) (a_p0ru 0) (a_p0no 0) (a_p0fo 0) (a_p0rd 0) (a_p0pa 0) sv_p0 p0_0 ++ wRules k a_p0ru p0ru_0 ++ wCourt k a_p0no (u.1)) (wPast k a_p0pa pp_0 p0pa_0) [] (wPast k a_p0pa (u.2.2) (u.2.1)) 16 2 (by simp only [List.append_assoc, List.nil_append, List.append_nil]) rfl rfl rfl]; try simp only [List.append_assoc, List.nil_append, List.append_nil]) (fun r u H locs hp hW => ?_)
      obtain ⟨u0, u1, pp_23⟩ := u
      try dsimp only at hp
      cases hp
      have hW : WD k A s.heap ((wMCo k a_p0 (a_p0in 0) (a_p0ou 0) (a_p0ru 0) (a_p0no 0) (a_p0fo 0) (a_p0rd 0) (a_p0pa 0) sv_p0 p0_0 ++ wRules k a_p0ru p0ru_0 ++ wCourt k a_p0no p0no_19 ++ wPast k a_p0pa pp_23 p0pa_20) ++ poolW k pp_23 p0pa_20.2) H locs := hW
      refine k_istore (lv' := [(5, .int r_21), (0, .ref (a_p0 0)), (1, .ref b_s), (2, .int v2_0), (3, .int v3_0), (4, .int v4_0)]) E rfl hl dL_act_135 (by decide) rfl (fun ls hl => ?_)
      refine lv_goto (tgt := 238) E.hx E.hb dL_act_137 (by decide) ?_
      refine k_iload E hl 0 dL_act_238 rfl ?_
      exact hret _ (p0no_19, p0pa_20, pp_23) _ _ _ _ _ _ hW (Option.some.inj hf).symm rfl (by decide) (by decide) dL_act_240
    have hf := oF hc hf; have hn_2 := hc; clear hc
    by_cases hc : r_1 = (3 : Int32)
    · have hf := oT hc hf
      refine lv_tableIn (off := (127)) (tgt := 140) E.hx E.hb dL_act_13 (by rw [hc]; decide) (by rw [hc]; decide) (by rw [hc]; rfl) (by decide) ?_
      refine k_aload_n E hl 1 dL_act_140 rfl ?_
      refine k_aload_n E hl 2 dL_act_141 rfl ?_
      refine lv_iconst (v := (4 : Int32)) E.hx E.hb dL_act_142 ic_4 ?_
      refine k_iload_n E hl 3 dL_act_143 rfl ?_
      refine lv_imul E.hx E.hb dL_act_144 ?_
      refine lv_iconst (v := (1 : Int32)) E.hx E.hb dL_act_145 ic_1 ?_
      refine lv_iadd E.hx E.hb dL_act_146 ?_
      refine lv_iconst (v := (0 : Int32)) E.hx E.hb dL_act_147 ic_0 ?_
      refine lv_iconst (v := (2 : Int32)) E.hx E.hb dL_act_148 ic_2 ?_
      obtain ⟨r_24, hg, hf⟩ := ob hf
      refine k_callSi (As := [.ref b_s, .int (((4 : Int32) * v2_0) + (1 : Int32)), .int (0 : Int32), .int (2 : Int32)]) (rest := [.ref (a_p0 0)]) (ws2 := fun u => (wMCo k a_p0 (a_p0in 0) (a_p0ou 0) (a_p0ru 0) (a_p0no 0) (a_p0fo 0) (a_p0rd 0) (a_p0pa 0) sv_p0 p0_0 ++ wRules k a_p0ru p0ru_0 ++ wCourt k a_p0no p0no_0 ++ wPast k a_p0pa pp_0 p0pa_0) ++ poolW k pp_0 p0pa_0.2) (c_L_draw n l k b_s L_s xs_s (((4 : Int32) * v2_0) + (1 : Int32)) (0 : Int32) (2 : Int32) r_24 hg hS) E sl_L_62 dL_act_149 rfl [] hW hA hl rfl rfl ⟨by decide, by decide⟩ ⟨by decide, by decide⟩ (Nat.le_of_ble_eq_true rfl) rfl (fun _ => rfl) (fun _ => rfl) (fun r u H locs hp hW => ?_)
      cases hp
      have hW : WD k A s.heap ((wMCo k a_p0 (a_p0in 0) (a_p0ou 0) (a_p0ru 0) (a_p0no 0) (a_p0fo 0) (a_p0rd 0) (a_p0pa 0) sv_p0 p0_0 ++ wRules k a_p0ru p0ru_0 ++ wCourt k a_p0no p0no_0 ++ wPast k a_p0pa pp_0 p0pa_0) ++ poolW k pp_0 p0pa_0.2) H locs := hW
      obtain ⟨p0no_25, p0pa_26, r_27, cd_28, hg, hf⟩ := ob4 hf
      by_cases hcd : cd_28 = 0
      rotate_left
      · have hf := oF hcd hf
        exact o0 hf
      replace hf := oT hcd hf
      refine k_callGi (As := [.int r_24]) (rest := []) (ws2 := fun u => (wMCo k a_p0 (a_p0in 0) (a_p0ou 0) (a_p0ru 0) (a_p0no 0) (a_p0fo 0) (a_p0rd 0) (a_p0pa 0) sv_p0 p0_0 ++ wRules k a_p0ru p0ru_0 ++ wCourt k a_p0no (u.1) ++ wPast k a_p0pa (u.2.2) (u.2.1)) ++ poolW k (u.2.2) (u.2.1).2) (c_X8_setOrder n l k a_p0 a_p0in a_p0ou a_p0ru a_p0no a_p0fo a_p0rd a_p0pa pp_0 sv_p0 p0_0 p0no_0 p0pa_0 r_24 (p0no_25, p0pa_26, r_27, cd_28) hg hcd) E vl_L_96 dL_act_152 rfl (List.range' 0 1 ++ List.range' 4 12 ++ List.range' 16 2) 8 0 hW hA hl rfl (by simp only [List.map_append]; exact app2 (app2 (blk_map [] (wMCo k a_p0 (a_p0in 0) (a_p0ou 0) (a_p0ru 0) (a_p0no 0) (a_p0fo 0) (a_p0rd 0) (a_p0pa 0) sv_p0 p0_0) (wRules k a_p0ru p0ru_0 ++ wCourt k a_p0no p0no_0 ++ wPast k a_p0pa pp_0 p0pa_0) 0 1 (by simp only [List.append_assoc, List.nil_append, List.append_nil]) rfl rfl) (blk_map (wMCo k a_p0 (a_p0in 0) (a_p0ou 0) (a_p0ru 0) (a_p0no 0) (a_p0fo 0) (a_p0rd 0) (a_p0pa 0) sv_p0 p0_0 ++ wRules k a_p0ru p0ru_0) (wCourt k a_p0no p0no_0) (wPast k a_p0pa pp_0 p0pa_0) 4 12 (by simp only [List.append_assoc, List.nil_append, List.append_nil]) rfl rfl)) (blk_map (wMCo k a_p0 (a_p0in 0) (a_p0ou 0) (a_p0ru 0) (a_p0no 0) (a_p0fo 0) (a_p0rd 0) (a_p0pa 0) sv_p0 p0_0 ++ wRules k a_p0ru p0ru_0 ++ wCourt k a_p0no p0no_0) (wPast k a_p0pa pp_0 p0pa_0) [] 16 2 (by simp only [List.append_assoc, List.nil_append, List.append_nil]) rfl rfl)) rfl rfl ⟨by decide, by decide⟩ ⟨by decide, by decide⟩ (Nat.le_of_ble_eq_true rfl) rfl (fun _ => rfl) (fun u => by show putW _ (_ ++ _) (_ ++ _) ++ _ = _; rw [putW_app _ _ _ _ _ rfl, putW_app _ _ _ _ _ rfl, blk_put [] (wMCo k a_p0 (a_p0in 0) (a_p0ou 0) (a_p0ru 0) (a_p0no 0) (a_p0fo 0) (a_p0rd 0) (a_p0pa 0) sv_p0 p0_0) (wRules k a_p0ru p0ru_0 ++ wCourt k a_p0no p0no_0 ++ wPast k a_p0pa pp_0 p0pa_0) (wMCo k a_p0 (a_p0in 0) (a_p0ou 0) (a_p0ru 0) (a_p0no 0) (a_p0fo 0) (a_p0rd 0) (a_p0pa 0) sv_p0 p0_0) 0 1 (by simp only [List.append_assoc, List.nil_append, List.append_nil]) rfl rfl rfl, blk_put (wMCo k a_p0 (a_p0in 0) (a_p0ou 0) (a_p0ru 0) (a_p0no 0) (a_p0fo 0) (a_p0rd 0) (a_p0pa 0) sv_p0 p0_0 ++ wRules k a_p0ru p0ru_0) (wCourt k a_p0no p0no_0) (wPast k a_p0pa pp_0 p0pa_0) (wCourt k a_p0no (u.1)) 4 12 (by simp only [List.append_assoc, List.nil_append, List.append_nil]) rfl rfl rfl, blk_put (wMCo k a_p0 (a_p0in 0) (a_p0ou 0) (a_p0ru 0) (a_p0no 0) (a_p0fo 0) (a_p0rd 0) (a_p0pa 0) sv_p0 p0_0 ++ wRules k a_p0ru p0ru_0 ++ wCourt k a_p0no (u.1)) (wPast k a_p0pa pp_0 p0pa_0) [] (wPast k a_p0pa (u.2.2) (u.2.1)) 16 2 (by simp only [List.append_assoc, List.nil_append, List.append_nil]) rfl rfl rfl]; try simp only [List.append_assoc, List.nil_append, List.append_nil]) (fun r u H locs hp hW => ?_)
      obtain ⟨u0, u1, pp_29⟩ := u
      try dsimp only at hp
      cases hp
      have hW : WD k A s.heap ((wMCo k a_p0 (a_p0in 0) (a_p0ou 0) (a_p0ru 0) (a_p0no 0) (a_p0fo 0) (a_p0rd 0) (a_p0pa 0) sv_p0 p0_0 ++ wRules k a_p0ru p0ru_0 ++ wCourt k a_p0no p0no_25 ++ wPast k a_p0pa pp_29 p0pa_26) ++ poolW k pp_29 p0pa_26.2) H locs := hW
      refine k_istore (lv' := [(5, .int r_27), (0, .ref (a_p0 0)), (1, .ref b_s), (2, .int v2_0), (3, .int v3_0), (4, .int v4_0)]) E rfl hl dL_act_155 (by decide) rfl (fun ls hl => ?_)
      refine lv_goto (tgt := 238) E.hx E.hb dL_act_157 (by decide) ?_
      refine k_iload E hl 0 dL_act_238 rfl ?_
      exact hret _ (p0no_25, p0pa_26, pp_29) _ _ _ _ _ _ hW (Option.some.inj hf).symm rfl (by decide) (by decide) dL_act_240
    have hf := oF hc hf; have hn_3 := hc; clear hc
    have hc : r_1 = (4 : Int32) := by
      apply Int32.toInt_inj.mp; rw [show ((4 : Int32)).toInt = 4 from by decide]
      have hn_0 : ¬ (r_1).toInt = 0 := fun z => hn_0 (Int32.toInt_inj.mp (z.trans (show (0 : Int) = ((0 : Int32)).toInt from by decide)))
      have hn_1 : ¬ (r_1).toInt = 1 := fun z => hn_1 (Int32.toInt_inj.mp (z.trans (show (1 : Int) = ((1 : Int32)).toInt from by decide)))
      have hn_2 : ¬ (r_1).toInt = 2 := fun z => hn_2 (Int32.toInt_inj.mp (z.trans (show (2 : Int) = ((2 : Int32)).toInt from by decide)))
      have hn_3 : ¬ (r_1).toInt = 3 := fun z => hn_3 (Int32.toInt_inj.mp (z.trans (show (3 : Int) = ((3 : Int32)).toInt from by decide)))
      omega
    refine lv_tableIn (off := (147)) (tgt := 160) E.hx E.hb dL_act_13 (by rw [hc]; decide) (by rw [hc]; decide) (by rw [hc]; rfl) (by decide) ?_
    refine k_aload_n E hl 1 dL_act_160 rfl ?_
    refine lv_bipush (v := (10 : Int32)) E.hx E.hb dL_act_161 bp_10 ?_
    obtain ⟨r_30, hg, hf⟩ := ob hf
    refine k_callVi (As := [.int (10 : Int32)]) (rest := []) (ws2 := fun u => (wMCo k a_p0 (a_p0in 0) (a_p0ou 0) (a_p0ru 0) (a_p0no 0) (a_p0fo 0) (a_p0rd 0) (a_p0pa 0) sv_p0 p0_0 ++ wRules k a_p0ru p0ru_0 ++ wCourt k a_p0no p0no_0 ++ wPast k a_p0pa pp_0 p0pa_0) ++ poolW k pp_0 p0pa_0.2) (c_X8_count n l k a_p0 a_p0in a_p0ou a_p0ru a_p0no a_p0fo a_p0rd a_p0pa pp_0 sv_p0 p0_0 p0ru_0 p0no_0 p0pa_0 (10 : Int32) r_30 hg) E vl_L_84 dL_act_163 rfl (List.range' 0 1 ++ List.range' 1 3 ++ List.range' 4 12 ++ List.range' 16 2) 8 0 hW hA hl rfl (by simp only [List.map_append]; exact app2 (app2 (app2 (blk_map [] (wMCo k a_p0 (a_p0in 0) (a_p0ou 0) (a_p0ru 0) (a_p0no 0) (a_p0fo 0) (a_p0rd 0) (a_p0pa 0) sv_p0 p0_0) (wRules k a_p0ru p0ru_0 ++ wCourt k a_p0no p0no_0 ++ wPast k a_p0pa pp_0 p0pa_0 ++ poolW k pp_0 p0pa_0.2) 0 1 (by simp only [List.append_assoc, List.nil_append, List.append_nil]) rfl rfl) (blk_map (wMCo k a_p0 (a_p0in 0) (a_p0ou 0) (a_p0ru 0) (a_p0no 0) (a_p0fo 0) (a_p0rd 0) (a_p0pa 0) sv_p0 p0_0) (wRules k a_p0ru p0ru_0) (wCourt k a_p0no p0no_0 ++ wPast k a_p0pa pp_0 p0pa_0 ++ poolW k pp_0 p0pa_0.2) 1 3 (by simp only [List.append_assoc, List.nil_append, List.append_nil]) rfl rfl)) (blk_map (wMCo k a_p0 (a_p0in 0) (a_p0ou 0) (a_p0ru 0) (a_p0no 0) (a_p0fo 0) (a_p0rd 0) (a_p0pa 0) sv_p0 p0_0 ++ wRules k a_p0ru p0ru_0) (wCourt k a_p0no p0no_0) (wPast k a_p0pa pp_0 p0pa_0 ++ poolW k pp_0 p0pa_0.2) 4 12 (by simp only [List.append_assoc, List.nil_append, List.append_nil]) rfl rfl)) (blk_map (wMCo k a_p0 (a_p0in 0) (a_p0ou 0) (a_p0ru 0) (a_p0no 0) (a_p0fo 0) (a_p0rd 0) (a_p0pa 0) sv_p0 p0_0 ++ wRules k a_p0ru p0ru_0 ++ wCourt k a_p0no p0no_0) (wPast k a_p0pa pp_0 p0pa_0) (poolW k pp_0 p0pa_0.2) 16 2 (by simp only [List.append_assoc, List.nil_append, List.append_nil]) rfl rfl)) rfl rfl ⟨by decide, by decide⟩ ⟨by decide, by decide⟩ (Nat.le_of_ble_eq_true rfl) rfl (fun _ => rfl) (fun u => by show putW _ (_ ++ _) (_ ++ _) = _; rw [putW_app _ _ _ _ _ rfl, putW_app _ _ _ _ _ rfl, putW_app _ _ _ _ _ rfl, blk_put [] (wMCo k a_p0 (a_p0in 0) (a_p0ou 0) (a_p0ru 0) (a_p0no 0) (a_p0fo 0) (a_p0rd 0) (a_p0pa 0) sv_p0 p0_0) (wRules k a_p0ru p0ru_0 ++ wCourt k a_p0no p0no_0 ++ wPast k a_p0pa pp_0 p0pa_0 ++ poolW k pp_0 p0pa_0.2) (wMCo k a_p0 (a_p0in 0) (a_p0ou 0) (a_p0ru 0) (a_p0no 0) (a_p0fo 0) (a_p0rd 0) (a_p0pa 0) sv_p0 p0_0) 0 1 (by simp only [List.append_assoc, List.nil_append, List.append_nil]) rfl rfl rfl, blk_put (wMCo k a_p0 (a_p0in 0) (a_p0ou 0) (a_p0ru 0) (a_p0no 0) (a_p0fo 0) (a_p0rd 0) (a_p0pa 0) sv_p0 p0_0) (wRules k a_p0ru p0ru_0) (wCourt k a_p0no p0no_0 ++ wPast k a_p0pa pp_0 p0pa_0 ++ poolW k pp_0 p0pa_0.2) (wRules k a_p0ru p0ru_0) 1 3 (by simp only [List.append_assoc, List.nil_append, List.append_nil]) rfl rfl rfl, blk_put (wMCo k a_p0 (a_p0in 0) (a_p0ou 0) (a_p0ru 0) (a_p0no 0) (a_p0fo 0) (a_p0rd 0) (a_p0pa 0) sv_p0 p0_0 ++ wRules k a_p0ru p0ru_0) (wCourt k a_p0no p0no_0) (wPast k a_p0pa pp_0 p0pa_0 ++ poolW k pp_0 p0pa_0.2) (wCourt k a_p0no p0no_0) 4 12 (by simp only [List.append_assoc, List.nil_append, List.append_nil]) rfl rfl rfl, blk_put (wMCo k a_p0 (a_p0in 0) (a_p0ou 0) (a_p0ru 0) (a_p0no 0) (a_p0fo 0) (a_p0rd 0) (a_p0pa 0) sv_p0 p0_0 ++ wRules k a_p0ru p0ru_0 ++ wCourt k a_p0no p0no_0) (wPast k a_p0pa pp_0 p0pa_0) (poolW k pp_0 p0pa_0.2) (wPast k a_p0pa pp_0 p0pa_0) 16 2 (by simp only [List.append_assoc, List.nil_append, List.append_nil]) rfl rfl rfl]; try simp only [List.append_assoc, List.nil_append, List.append_nil]) (fun r u H locs hp hW => ?_)
    cases hp
    have hW : WD k A s.heap ((wMCo k a_p0 (a_p0in 0) (a_p0ou 0) (a_p0ru 0) (a_p0no 0) (a_p0fo 0) (a_p0rd 0) (a_p0pa 0) sv_p0 p0_0 ++ wRules k a_p0ru p0ru_0 ++ wCourt k a_p0no p0no_0 ++ wPast k a_p0pa pp_0 p0pa_0) ++ poolW k pp_0 p0pa_0.2) H locs := hW
    refine k_istore (lv' := [(6, .int r_30), (5, .int (0 : Int32)), (0, .ref (a_p0 0)), (1, .ref b_s), (2, .int v2_0), (3, .int v3_0), (4, .int v4_0)]) E rfl hl dL_act_166 (by decide) rfl (fun ls hl => ?_)
    refine k_iload E hl 0 dL_act_168 rfl ?_
    have J_191 : ∀ (p0no_j191 : OS) (p0pa_j191 : PS) (w6_j191 : Int32) (s0_j191 : Int32) (pp_j191 : Nat → Nat → Nat) (H : Heap) (locs : List Loc) (ls : Array Slot) (hW : WD k A s.heap ((wMCo k a_p0 (a_p0in 0) (a_p0ou 0) (a_p0ru 0) (a_p0no 0) (a_p0fo 0) (a_p0rd 0) (a_p0pa 0) sv_p0 p0_0 ++ wRules k a_p0ru p0ru_0 ++ wCourt k a_p0no p0no_j191 ++ wPast k a_p0pa pp_j191 p0pa_j191) ++ poolW k pp_j191 p0pa_j191.2) H locs) (hl : lv_has ls 8 [(0, .ref (a_p0 0)), (6, .int w6_j191)]) (hf : j_L_act_191 n L_s xs_s sv_p0 p0_0 p0ru_0 p0no_j191 p0pa_j191 w6_j191 s0_j191 = some res), W p l e { frames := 7, cells := 13, slots := 2000, locals := 245 } s m args below meth c H locs 0 0 Q (F0 m 191 ls [.int s0_j191]) := by
      intro p0no_j191 p0pa_j191 w6_j191 s0_j191 pp_j191 H locs ls hW hl hf
      unfold j_L_act_191 at hf
      refine k_istore (lv' := [(7, .int s0_j191), (0, .ref (a_p0 0)), (6, .int w6_j191)]) E rfl hl dL_act_191 (by decide) rfl (fun ls hl => ?_)
      refine k_iload E hl 2 dL_act_193 rfl ?_
      refine lv_if_eq (tgt := 208) E.hx E.hb dL_act_195 (by decide) (fun hc => ?_) (fun hc => ?_)
      · have hf := oT hc hf
        refine lv_iconst (v := (0 : Int32)) E.hx E.hb dL_act_208 ic_0 ?_
        refine lv_goto (tgt := 219) E.hx E.hb dL_act_209 (by decide) ?_
        exact hret _ (p0no_j191, p0pa_j191, pp_j191) _ _ _ _ _ _ hW (Option.some.inj hf).symm rfl (by decide) (by decide) dL_act_219
      · have hf := oF hc hf
        refine k_aload_n E hl 1 dL_act_198 rfl ?_
        refine k_iload E hl 0 dL_act_199 rfl ?_
        refine lv_iconst (v := (1 : Int32)) E.hx E.hb dL_act_201 ic_1 ?_
        obtain ⟨r_31, cd_32, hg, hf⟩ := ob2 hf
        by_cases hcd : cd_32 = 0
        rotate_left
        · have hf := oF hcd hf
          exact o0 hf
        replace hf := oT hcd hf
        refine k_callVi (As := [.int s0_j191, .int (1 : Int32)]) (rest := []) (ws2 := fun u => (wMCo k a_p0 (a_p0in 0) (a_p0ou 0) (a_p0ru 0) (a_p0no 0) (a_p0fo 0) (a_p0rd 0) (a_p0pa 0) sv_p0 p0_0 ++ wRules k a_p0ru p0ru_0 ++ wCourt k a_p0no p0no_j191 ++ wPast k a_p0pa pp_j191 p0pa_j191) ++ poolW k pp_j191 p0pa_j191.2) (c_X8_loan n l k a_p0 a_p0in a_p0ou a_p0ru a_p0no a_p0fo a_p0rd a_p0pa sv_p0 p0_0 p0no_j191 s0_j191 (1 : Int32) (r_31, cd_32) hg hcd) E vl_L_99 dL_act_202 rfl (List.range' 0 1 ++ List.range' 4 12) 8 0 hW hA hl rfl (by simp only [List.map_append]; exact app2 (blk_map [] (wMCo k a_p0 (a_p0in 0) (a_p0ou 0) (a_p0ru 0) (a_p0no 0) (a_p0fo 0) (a_p0rd 0) (a_p0pa 0) sv_p0 p0_0) (wRules k a_p0ru p0ru_0 ++ wCourt k a_p0no p0no_j191 ++ wPast k a_p0pa pp_j191 p0pa_j191 ++ poolW k pp_j191 p0pa_j191.2) 0 1 (by simp only [List.append_assoc, List.nil_append, List.append_nil]) rfl rfl) (blk_map (wMCo k a_p0 (a_p0in 0) (a_p0ou 0) (a_p0ru 0) (a_p0no 0) (a_p0fo 0) (a_p0rd 0) (a_p0pa 0) sv_p0 p0_0 ++ wRules k a_p0ru p0ru_0) (wCourt k a_p0no p0no_j191) (wPast k a_p0pa pp_j191 p0pa_j191 ++ poolW k pp_j191 p0pa_j191.2) 4 12 (by simp only [List.append_assoc, List.nil_append, List.append_nil]) rfl rfl)) rfl rfl ⟨by decide, by decide⟩ ⟨by decide, by decide⟩ (Nat.le_of_ble_eq_true rfl) rfl (fun _ => rfl) (fun u => by show putW _ (_ ++ _) (_ ++ _) = _; rw [putW_app _ _ _ _ _ rfl, blk_put [] (wMCo k a_p0 (a_p0in 0) (a_p0ou 0) (a_p0ru 0) (a_p0no 0) (a_p0fo 0) (a_p0rd 0) (a_p0pa 0) sv_p0 p0_0) (wRules k a_p0ru p0ru_0 ++ wCourt k a_p0no p0no_j191 ++ wPast k a_p0pa pp_j191 p0pa_j191 ++ poolW k pp_j191 p0pa_j191.2) (wMCo k a_p0 (a_p0in 0) (a_p0ou 0) (a_p0ru 0) (a_p0no 0) (a_p0fo 0) (a_p0rd 0) (a_p0pa 0) sv_p0 p0_0) 0 1 (by simp only [List.append_assoc, List.nil_append, List.append_nil]) rfl rfl rfl, blk_put (wMCo k a_p0 (a_p0in 0) (a_p0ou 0) (a_p0ru 0) (a_p0no 0) (a_p0fo 0) (a_p0rd 0) (a_p0pa 0) sv_p0 p0_0 ++ wRules k a_p0ru p0ru_0) (wCourt k a_p0no p0no_j191) (wPast k a_p0pa pp_j191 p0pa_j191 ++ poolW k pp_j191 p0pa_j191.2) (wCourt k a_p0no p0no_j191) 4 12 (by simp only [List.append_assoc, List.nil_append, List.append_nil]) rfl rfl rfl]; try simp only [List.append_assoc, List.nil_append, List.append_nil]) (fun r u H locs hp hW => ?_)
        cases hp
        have hW : WD k A s.heap ((wMCo k a_p0 (a_p0in 0) (a_p0ou 0) (a_p0ru 0) (a_p0no 0) (a_p0fo 0) (a_p0rd 0) (a_p0pa 0) sv_p0 p0_0 ++ wRules k a_p0ru p0ru_0 ++ wCourt k a_p0no p0no_j191 ++ wPast k a_p0pa pp_j191 p0pa_j191) ++ poolW k pp_j191 p0pa_j191.2) H locs := hW
        refine lv_if_ne (tgt := 212) E.hx E.hb dL_act_205 (by decide) (fun hc => ?_) (fun hc => ?_)
        · have hf := oF hc hf
          refine k_aload_n E hl 1 dL_act_212 rfl ?_
          refine k_iload E hl 0 dL_act_213 rfl ?_
          refine lv_iconst (v := (1 : Int32)) E.hx E.hb dL_act_215 ic_1 ?_
          obtain ⟨p0no_33, p0pa_34, r_35, cd_36, hg, hf⟩ := ob4 hf
          by_cases hcd : cd_36 = 0
          rotate_left
          · have hf := oF hcd hf
            exact o0 hf
          replace hf := oT hcd hf
          refine k_callGi (As := [.int s0_j191, .int (1 : Int32)]) (rest := []) (ws2 := fun u => (wMCo k a_p0 (a_p0in 0) (a_p0ou 0) (a_p0ru 0) (a_p0no 0) (a_p0fo 0) (a_p0rd 0) (a_p0pa 0) sv_p0 p0_0 ++ wRules k a_p0ru p0ru_0 ++ wCourt k a_p0no (u.1) ++ wPast k a_p0pa (u.2.2) (u.2.1)) ++ poolW k (u.2.2) (u.2.1).2) (c_X8_giveBack n l k a_p0 a_p0in a_p0ou a_p0ru a_p0no a_p0fo a_p0rd a_p0pa pp_j191 sv_p0 p0_0 p0no_j191 p0pa_j191 s0_j191 (1 : Int32) (p0no_33, p0pa_34, r_35, cd_36) hg hcd) E vl_L_102 dL_act_216 rfl (List.range' 0 1 ++ List.range' 4 12 ++ List.range' 16 2) 8 0 hW hA hl rfl (by simp only [List.map_append]; exact app2 (app2 (blk_map [] (wMCo k a_p0 (a_p0in 0) (a_p0ou 0) (a_p0ru 0) (a_p0no 0) (a_p0fo 0) (a_p0rd 0) (a_p0pa 0) sv_p0 p0_0) (wRules k a_p0ru p0ru_0 ++ wCourt k a_p0no p0no_j191 ++ wPast k a_p0pa pp_j191 p0pa_j191) 0 1 (by simp only [List.append_assoc, List.nil_append, List.append_nil]) rfl rfl) (blk_map (wMCo k a_p0 (a_p0in 0) (a_p0ou 0) (a_p0ru 0) (a_p0no 0) (a_p0fo 0) (a_p0rd 0) (a_p0pa 0) sv_p0 p0_0 ++ wRules k a_p0ru p0ru_0) (wCourt k a_p0no p0no_j191) (wPast k a_p0pa pp_j191 p0pa_j191) 4 12 (by simp only [List.append_assoc, List.nil_append, List.append_nil]) rfl rfl)) (blk_map (wMCo k a_p0 (a_p0in 0) (a_p0ou 0) (a_p0ru 0) (a_p0no 0) (a_p0fo 0) (a_p0rd 0) (a_p0pa 0) sv_p0 p0_0 ++ wRules k a_p0ru p0ru_0 ++ wCourt k a_p0no p0no_j191) (wPast k a_p0pa pp_j191 p0pa_j191) [] 16 2 (by simp only [List.append_assoc, List.nil_append, List.append_nil]) rfl rfl)) rfl rfl ⟨by decide, by decide⟩ ⟨by decide, by decide⟩ (Nat.le_of_ble_eq_true rfl) rfl (fun _ => rfl) (fun u => by show putW _ (_ ++ _) (_ ++ _) ++ _ = _; rw [putW_app _ _ _ _ _ rfl, putW_app _ _ _ _ _ rfl, blk_put [] (wMCo k a_p0 (a_p0in 0) (a_p0ou 0) (a_p0ru 0) (a_p0no 0) (a_p0fo 0) (a_p0rd 0) (a_p0pa 0) sv_p0 p0_0) (wRules k a_p0ru p0ru_0 ++ wCourt k a_p0no p0no_j191 ++ wPast k a_p0pa pp_j191 p0pa_j191) (wMCo k a_p0 (a_p0in 0) (a_p0ou 0) (a_p0ru 0) (a_p0no 0) (a_p0fo 0) (a_p0rd 0) (a_p0pa 0) sv_p0 p0_0) 0 1 (by simp only [List.append_assoc, List.nil_append, List.append_nil]) rfl rfl rfl, blk_put (wMCo k a_p0 (a_p0in 0) (a_p0ou 0) (a_p0ru 0) (a_p0no 0) (a_p0fo 0) (a_p0rd 0) (a_p0pa 0) sv_p0 p0_0 ++ wRules k a_p0ru p0ru_0) (wCourt k a_p0no p0no_j191) (wPast k a_p0pa pp_j191 p0pa_j191) (wCourt k a_p0no (u.1)) 4 12 (by simp only [List.append_assoc, List.nil_append, List.append_nil]) rfl rfl rfl, blk_put (wMCo k a_p0 (a_p0in 0) (a_p0ou 0) (a_p0ru 0) (a_p0no 0) (a_p0fo 0) (a_p0rd 0) (a_p0pa 0) sv_p0 p0_0 ++ wRules k a_p0ru p0ru_0 ++ wCourt k a_p0no (u.1)) (wPast k a_p0pa pp_j191 p0pa_j191) [] (wPast k a_p0pa (u.2.2) (u.2.1)) 16 2 (by simp only [List.append_assoc, List.nil_append, List.append_nil]) rfl rfl rfl]; try simp only [List.append_assoc, List.nil_append, List.append_nil]) (fun r u H locs hp hW => ?_)
          obtain ⟨u0, u1, pp_37⟩ := u
          try dsimp only at hp
          cases hp
          have hW : WD k A s.heap ((wMCo k a_p0 (a_p0in 0) (a_p0ou 0) (a_p0ru 0) (a_p0no 0) (a_p0fo 0) (a_p0rd 0) (a_p0pa 0) sv_p0 p0_0 ++ wRules k a_p0ru p0ru_0 ++ wCourt k a_p0no p0no_33 ++ wPast k a_p0pa pp_37 p0pa_34) ++ poolW k pp_37 p0pa_34.2) H locs := hW
          exact hret _ (p0no_33, p0pa_34, pp_37) _ _ _ _ _ _ hW (Option.some.inj hf).symm rfl (by decide) (by decide) dL_act_219
        · have hf := oT hc hf
          refine lv_iconst (v := (0 : Int32)) E.hx E.hb dL_act_208 ic_0 ?_
          refine lv_goto (tgt := 219) E.hx E.hb dL_act_209 (by decide) ?_
          exact hret _ (p0no_j191, p0pa_j191, pp_j191) _ _ _ _ _ _ hW (Option.some.inj hf).symm rfl (by decide) (by decide) dL_act_219
    refine lv_if_ne (tgt := 177) E.hx E.hb dL_act_170 (by decide) (fun hc => ?_) (fun hc => ?_)
    · have hf := oF hc hf
      refine k_aload_n E hl 3 dL_act_177 rfl ?_
      refine lv_iconst (v := (4 : Int32)) E.hx E.hb dL_act_178 ic_4 ?_
      refine k_iload_n E hl 4 dL_act_179 rfl ?_
      refine lv_imul E.hx E.hb dL_act_180 ?_
      refine lv_iconst (v := (1 : Int32)) E.hx E.hb dL_act_181 ic_1 ?_
      refine lv_iadd E.hx E.hb dL_act_182 ?_
      refine lv_iconst (v := (0 : Int32)) E.hx E.hb dL_act_183 ic_0 ?_
      refine k_iload E hl 0 dL_act_184 rfl ?_
      refine lv_iconst (v := (1 : Int32)) E.hx E.hb dL_act_186 ic_1 ?_
      refine lv_isub E.hx E.hb dL_act_187 ?_
      obtain ⟨r_38, hg, hf⟩ := ob hf
      refine k_callSi (As := [.ref b_s, .int (((4 : Int32) * v2_0) + (1 : Int32)), .int (0 : Int32), .int (r_30 - (1 : Int32))]) (rest := []) (ws2 := fun u => (wMCo k a_p0 (a_p0in 0) (a_p0ou 0) (a_p0ru 0) (a_p0no 0) (a_p0fo 0) (a_p0rd 0) (a_p0pa 0) sv_p0 p0_0 ++ wRules k a_p0ru p0ru_0 ++ wCourt k a_p0no p0no_0 ++ wPast k a_p0pa pp_0 p0pa_0) ++ poolW k pp_0 p0pa_0.2) (c_L_draw n l k b_s L_s xs_s (((4 : Int32) * v2_0) + (1 : Int32)) (0 : Int32) (r_30 - (1 : Int32)) r_38 hg hS) E sl_L_62 dL_act_188 rfl [] hW hA hl rfl rfl ⟨by decide, by decide⟩ ⟨by decide, by decide⟩ (Nat.le_of_ble_eq_true rfl) rfl (fun _ => rfl) (fun _ => rfl) (fun r u H locs hp hW => ?_)
      cases hp
      have hW : WD k A s.heap ((wMCo k a_p0 (a_p0in 0) (a_p0ou 0) (a_p0ru 0) (a_p0no 0) (a_p0fo 0) (a_p0rd 0) (a_p0pa 0) sv_p0 p0_0 ++ wRules k a_p0ru p0ru_0 ++ wCourt k a_p0no p0no_0 ++ wPast k a_p0pa pp_0 p0pa_0) ++ poolW k pp_0 p0pa_0.2) H locs := hW
      exact J_191 p0no_0 p0pa_0 r_30 r_38 pp_0 _ _ _ hW (lv_sub hl [2, 0] rfl) hf
    · have hf := oT hc hf
      refine lv_iconst (v := (0 : Int32)) E.hx E.hb dL_act_173 ic_0 ?_
      refine lv_goto (tgt := 191) E.hx E.hb dL_act_174 (by decide) ?_
      exact J_191 p0no_0 p0pa_0 r_30 (0 : Int32) pp_0 _ _ _ hW (lv_sub hl [2, 0] rfl) hf
def j_L_isSound_453 (n : Nat) (sv_p0 : Value) (p0_0 : OS) (p0ru_0 : OS) (p0pa_0 : PS) (w1_j351 : Int32) (p0no_j453 : OS) (w7_j453 : Int32) (w8_j453 : Int32) (w9_j453 : Int32) (w10_j453 : Int32) : Option (OS × Int32) :=
  bnd (f_X8_count n sv_p0 p0_0 p0ru_0 p0no_j453 p0pa_0 (9 : Int32)) (fun (r_8 : Int32) =>
  if w7_j453 = (w1_j351 - r_8) then (
  bnd (f_X8_count n sv_p0 p0_0 p0ru_0 p0no_j453 p0pa_0 (14 : Int32)) (fun (r_9 : Int32) =>
  if w8_j453 = r_9 then (
  if w10_j453 = w8_j453 then (
  bnd (f_X8_count n sv_p0 p0_0 p0ru_0 p0no_j453 p0pa_0 (18 : Int32)) (fun (r_10 : Int32) =>
  if w9_j453 = r_10 then (
  if w8_j453 = 0 then (
  some (p0no_j453, (1 : Int32))) else (
  bnd3 (f_X8_waiting n sv_p0 p0_0 p0no_j453 (w8_j453 - (1 : Int32))) (fun (p0no_11 : OS) (r_12 : Int32) (cd_13 : Nat) =>
  if cd_13 = 0 then (
  bnd2 (f_X8_claim n sv_p0 p0_0 p0no_11 r_12 (3 : Int32)) (fun (r_14 : Int32) (cd_15 : Nat) =>
  if cd_15 = 0 then (
  if r_14 = 0 then (
  some (p0no_11, (1 : Int32))) else (
  some (p0no_11, (0 : Int32)))) else (
  none))) else (
  none)))) else (
  some (p0no_j453, (0 : Int32))))) else (
  some (p0no_j453, (0 : Int32)))) else (
  some (p0no_j453, (0 : Int32))))) else (
  some (p0no_j453, (0 : Int32))))
def j_L_isSound_414 (n : Nat) (sv_p0 : Value) (p0_0 : OS) (p0ru_0 : OS) (p0pa_0 : PS) (w1_j351 : Int32) (w7_j351 : Int32) (w8_j351 : Int32) (w9_j351 : Int32) (rc_351 : (OS) → (Int32) → (Int32) → Option (OS × Int32)) (p0no_j414 : OS) (w10_j414 : Int32) (w11_j414 : Int32) (s0_j414 : Int32) (s1_j414 : Int32) : Option (OS × Int32) :=
  if s0_j414 = s1_j414 then (
  bnd2 (f_X8_claim n sv_p0 p0_0 p0no_j414 w11_j414 (5 : Int32)) (fun (r_23 : Int32) (cd_24 : Nat) =>
  if cd_24 = 0 then (
  if r_23 = (-1 : Int32) then (
  Let (w11_j414 + (1 : Int32)) (fun v11_25 : Int32 =>
  rc_351 p0no_j414 w10_j414 v11_25)) else (
  bnd2 (f_X8_claim n sv_p0 p0_0 p0no_j414 w11_j414 (5 : Int32)) (fun (r_26 : Int32) (cd_27 : Nat) =>
  if cd_27 = 0 then (
  bnd2 (f_X8_loan n sv_p0 p0_0 p0no_j414 r_26 (4 : Int32)) (fun (r_28 : Int32) (cd_29 : Nat) =>
  if cd_29 = 0 then (
  if r_28 = w11_j414 then (
  Let (w11_j414 + (1 : Int32)) (fun v11_30 : Int32 =>
  rc_351 p0no_j414 w10_j414 v11_30)) else (
  some (p0no_j414, (0 : Int32)))) else (
  none))) else (
  none)))) else (
  none))) else (
  some (p0no_j414, (0 : Int32)))
def j_L_isSound_398 (n : Nat) (sv_p0 : Value) (p0_0 : OS) (p0ru_0 : OS) (p0pa_0 : PS) (w1_j351 : Int32) (w7_j351 : Int32) (w8_j351 : Int32) (w9_j351 : Int32) (rc_351 : (OS) → (Int32) → (Int32) → Option (OS × Int32)) (p0no_j398 : OS) (w10_j398 : Int32) (w11_j398 : Int32) (s0_j398 : Int32) : Option (OS × Int32) :=
  bnd2 (f_X8_claim n sv_p0 p0_0 p0no_j398 w11_j398 (5 : Int32)) (fun (r_21 : Int32) (cd_22 : Nat) =>
  if cd_22 = 0 then (
  if r_21 = (-1 : Int32) then (
  j_L_isSound_414 n sv_p0 p0_0 p0ru_0 p0pa_0 w1_j351 w7_j351 w8_j351 w9_j351 rc_351 p0no_j398 w10_j398 w11_j398 s0_j398 (0 : Int32)) else (
  j_L_isSound_414 n sv_p0 p0_0 p0ru_0 p0pa_0 w1_j351 w7_j351 w8_j351 w9_j351 rc_351 p0no_j398 w10_j398 w11_j398 s0_j398 (1 : Int32))) else (
  none))
def j_L_isSound_379 (n : Nat) (sv_p0 : Value) (p0_0 : OS) (p0ru_0 : OS) (p0pa_0 : PS) (w1_j351 : Int32) (w7_j351 : Int32) (w8_j351 : Int32) (w9_j351 : Int32) (rc_351 : (OS) → (Int32) → (Int32) → Option (OS × Int32)) (p0no_j379 : OS) (w11_j379 : Int32) (s0_j379 : Int32) (s1_j379 : Int32) : Option (OS × Int32) :=
  Let (s0_j379 + s1_j379) (fun v10_18 : Int32 =>
  bnd2 (f_X8_claim n sv_p0 p0_0 p0no_j379 w11_j379 (3 : Int32)) (fun (r_19 : Int32) (cd_20 : Nat) =>
  if cd_20 = 0 then (
  if r_19 = (1 : Int32) then (
  j_L_isSound_398 n sv_p0 p0_0 p0ru_0 p0pa_0 w1_j351 w7_j351 w8_j351 w9_j351 rc_351 p0no_j379 v10_18 w11_j379 (1 : Int32)) else (
  j_L_isSound_398 n sv_p0 p0_0 p0ru_0 p0pa_0 w1_j351 w7_j351 w8_j351 w9_j351 rc_351 p0no_j379 v10_18 w11_j379 (0 : Int32))) else (
  none)))
def s_L_isSound_351 (n : Nat) (sv_p0 : Value) (p0_0 : OS) (p0ru_0 : OS) (p0pa_0 : PS) (w1_j351 : Int32) (w7_j351 : Int32) (w8_j351 : Int32) (w9_j351 : Int32) (rc_351 : (OS) → (Int32) → (Int32) → Option (OS × Int32)) (p0no_j351 : OS) (w10_j351 : Int32) (w11_j351 : Int32) : Option (OS × Int32) :=
  bnd (f_X8_count n sv_p0 p0_0 p0ru_0 p0no_j351 p0pa_0 (13 : Int32)) (fun (r_7 : Int32) =>
  if r_7 ≤ w11_j351 then (
  j_L_isSound_453 n sv_p0 p0_0 p0ru_0 p0pa_0 w1_j351 p0no_j351 w7_j351 w8_j351 w9_j351 w10_j351) else (
  bnd2 (f_X8_claim n sv_p0 p0_0 p0no_j351 w11_j351 (3 : Int32)) (fun (r_16 : Int32) (cd_17 : Nat) =>
  if cd_17 = 0 then (
  if r_16 = 0 then (
  j_L_isSound_379 n sv_p0 p0_0 p0ru_0 p0pa_0 w1_j351 w7_j351 w8_j351 w9_j351 rc_351 p0no_j351 w11_j351 w10_j351 (1 : Int32)) else (
  j_L_isSound_379 n sv_p0 p0_0 p0ru_0 p0pa_0 w1_j351 w7_j351 w8_j351 w9_j351 rc_351 p0no_j351 w11_j351 w10_j351 (0 : Int32))) else (
  none))))
def l_L_isSound_351 (n : Nat) (sv_p0 : Value) (p0_0 : OS) (p0ru_0 : OS) (p0pa_0 : PS) (w1_j351 : Int32) (w7_j351 : Int32) (w8_j351 : Int32) (w9_j351 : Int32) : Nat → (OS) → (Int32) → (Int32) → Option (OS × Int32)
  | 0 => fun _ _ _ => none
  | N + 1 => s_L_isSound_351 n sv_p0 p0_0 p0ru_0 p0pa_0 w1_j351 w7_j351 w8_j351 w9_j351 (l_L_isSound_351 n sv_p0 p0_0 p0ru_0 p0pa_0 w1_j351 w7_j351 w8_j351 w9_j351 N)
def j_L_isSound_345 (n : Nat) (sv_p0 : Value) (p0_0 : OS) (p0ru_0 : OS) (p0pa_0 : PS) (w1_j247 : Int32) (p0no_j345 : OS) (w7_j345 : Int32) (w8_j345 : Int32) (w9_j345 : Int32) : Option (OS × Int32) :=
  l_L_isSound_351 n sv_p0 p0_0 p0ru_0 p0pa_0 w1_j247 w7_j345 w8_j345 w9_j345 n p0no_j345 (0 : Int32) (0 : Int32)
def s_L_isSound_247 (n : Nat) (sv_p0 : Value) (p0_0 : OS) (p0ru_0 : OS) (p0pa_0 : PS) (w1_j247 : Int32) (w2_j247 : Int32) (rc_247 : (OS) → (Int32) → (Int32) → (Int32) → (Int32) → Option (OS × Int32)) (p0no_j247 : OS) (w7_j247 : Int32) (w8_j247 : Int32) (w9_j247 : Int32) (w10_j247 : Int32) : Option (OS × Int32) :=
  if w2_j247 ≤ w10_j247 then (
  j_L_isSound_345 n sv_p0 p0_0 p0ru_0 p0pa_0 w1_j247 p0no_j247 w7_j247 w8_j247 w9_j247) else (
  bnd2 (f_X8_process n sv_p0 p0_0 p0ru_0 p0no_j247 w10_j247 (3 : Int32)) (fun (r_31 : Int32) (cd_32 : Nat) =>
  if cd_32 = 0 then (
  Let (w7_j247 + r_31) (fun v7_33 : Int32 =>
  bnd2 (f_X8_process n sv_p0 p0_0 p0ru_0 p0no_j247 w10_j247 (6 : Int32)) (fun (r_34 : Int32) (cd_35 : Nat) =>
  if cd_35 = 0 then (
  Let (w8_j247 + r_34) (fun v8_36 : Int32 =>
  bnd2 (f_X8_process n sv_p0 p0_0 p0ru_0 p0no_j247 w10_j247 (8 : Int32)) (fun (r_37 : Int32) (cd_38 : Nat) =>
  if cd_38 = 0 then (
  Let (w9_j247 + r_37) (fun v9_39 : Int32 =>
  bnd2 (f_X8_process n sv_p0 p0_0 p0ru_0 p0no_j247 w10_j247 (0 : Int32)) (fun (r_40 : Int32) (cd_41 : Nat) =>
  if cd_41 = 0 then (
  if (999 : Int32) < r_40 then (
  some (p0no_j247, (0 : Int32))) else (
  bnd2 (f_X8_process n sv_p0 p0_0 p0ru_0 p0no_j247 w10_j247 (1 : Int32)) (fun (r_42 : Int32) (cd_43 : Nat) =>
  if cd_43 = 0 then (
  if (999 : Int32) < r_42 then (
  some (p0no_j247, (0 : Int32))) else (
  bnd2 (f_X8_process n sv_p0 p0_0 p0ru_0 p0no_j247 w10_j247 (0 : Int32)) (fun (r_44 : Int32) (cd_45 : Nat) =>
  if cd_45 = 0 then (
  if r_44 < 0 then (
  some (p0no_j247, (0 : Int32))) else (
  bnd2 (f_X8_process n sv_p0 p0_0 p0ru_0 p0no_j247 w10_j247 (1 : Int32)) (fun (r_46 : Int32) (cd_47 : Nat) =>
  if cd_47 = 0 then (
  if 0 ≤ r_46 then (
  Let (w10_j247 + (1 : Int32)) (fun v10_48 : Int32 =>
  rc_247 p0no_j247 v7_33 v8_36 v9_39 v10_48)) else (
  some (p0no_j247, (0 : Int32)))) else (
  none)))) else (
  none)))) else (
  none)))) else (
  none)))) else (
  none)))) else (
  none)))) else (
  none)))
def l_L_isSound_247 (n : Nat) (sv_p0 : Value) (p0_0 : OS) (p0ru_0 : OS) (p0pa_0 : PS) (w1_j247 : Int32) (w2_j247 : Int32) : Nat → (OS) → (Int32) → (Int32) → (Int32) → (Int32) → Option (OS × Int32)
  | 0 => fun _ _ _ _ _ => none
  | N + 1 => s_L_isSound_247 n sv_p0 p0_0 p0ru_0 p0pa_0 w1_j247 w2_j247 (l_L_isSound_247 n sv_p0 p0_0 p0ru_0 p0pa_0 w1_j247 w2_j247 N)
def j_L_isSound_230 (n : Nat) (sv_p0 : Value) (p0_0 : OS) (p0ru_0 : OS) (p0pa_0 : PS) (w1_j19 : Int32) (w2_j19 : Int32) (p0no_j230 : OS) (s0_j230 : Int32) (s1_j230 : Int32) : Option (OS × Int32) :=
  if s0_j230 = s1_j230 then (
  l_L_isSound_247 n sv_p0 p0_0 p0ru_0 p0pa_0 w1_j19 w2_j19 n p0no_j230 (0 : Int32) (0 : Int32) (0 : Int32) (0 : Int32)) else (
  some (p0no_j230, (0 : Int32)))
def j_L_isSound_171 (n : Nat) (sv_p0 : Value) (p0_0 : OS) (p0ru_0 : OS) (p0pa_0 : PS) (w1_j19 : Int32) (w2_j19 : Int32) (p0no_j171 : OS) (w3_j171 : Int32) (w4_j171 : Int32) (w5_j171 : Int32) (w6_j171 : Int32) : Option (OS × Int32) :=
  if w3_j171 = w1_j19 then (
  bnd (f_X8_count n sv_p0 p0_0 p0ru_0 p0no_j171 p0pa_0 (11 : Int32)) (fun (r_3 : Int32) =>
  if w4_j171 = r_3 then (
  bnd (f_X8_count n sv_p0 p0_0 p0ru_0 p0no_j171 p0pa_0 (12 : Int32)) (fun (r_4 : Int32) =>
  if w5_j171 = r_4 then (
  bnd (f_X8_overdue n sv_p0 p0_0 p0no_j171) (fun (r_5 : Int32) =>
  if w6_j171 = r_5 then (
  bnd (f_X8_firstBroken n sv_p0 p0_0 p0no_j171) (fun (r_6 : Int32) =>
  if r_6 = (-1 : Int32) then (
  if w5_j171 = 0 then (
  j_L_isSound_230 n sv_p0 p0_0 p0ru_0 p0pa_0 w1_j19 w2_j19 p0no_j171 (1 : Int32) (1 : Int32)) else (
  j_L_isSound_230 n sv_p0 p0_0 p0ru_0 p0pa_0 w1_j19 w2_j19 p0no_j171 (1 : Int32) (0 : Int32))) else (
  if w5_j171 = 0 then (
  j_L_isSound_230 n sv_p0 p0_0 p0ru_0 p0pa_0 w1_j19 w2_j19 p0no_j171 (0 : Int32) (1 : Int32)) else (
  j_L_isSound_230 n sv_p0 p0_0 p0ru_0 p0pa_0 w1_j19 w2_j19 p0no_j171 (0 : Int32) (0 : Int32))))) else (
  some (p0no_j171, (0 : Int32))))) else (
  some (p0no_j171, (0 : Int32))))) else (
  some (p0no_j171, (0 : Int32))))) else (
  some (p0no_j171, (0 : Int32)))
def j_L_isSound_152 (n : Nat) (sv_p0 : Value) (p0_0 : OS) (p0ru_0 : OS) (p0pa_0 : PS) (w1_j19 : Int32) (w2_j19 : Int32) (rc_19 : (OS) → (Int32) → (Int32) → (Int32) → (Int32) → (Int32) → Option (OS × Int32)) (p0no_j152 : OS) (w3_j152 : Int32) (w4_j152 : Int32) (w5_j152 : Int32) (w6_j152 : Int32) (w7_j152 : Int32) (w8_j152 : Int32) : Option (OS × Int32) :=
  bnd2 (f_X8_pieces n sv_p0 p0_0 p0no_j152 w7_j152) (fun (r_107 : Int32) (cd_108 : Nat) =>
  if cd_108 = 0 then (
  if r_107 ≤ w8_j152 then (
  Let (w7_j152 + (1 : Int32)) (fun v7_109 : Int32 =>
  rc_19 p0no_j152 w3_j152 w4_j152 w5_j152 w6_j152 v7_109)) else (
  some (p0no_j152, (0 : Int32)))) else (
  none))
def j_L_isSound_90 (n : Nat) (sv_p0 : Value) (p0_0 : OS) (p0ru_0 : OS) (p0pa_0 : PS) (w1_j19 : Int32) (w2_j19 : Int32) (rc_19 : (OS) → (Int32) → (Int32) → (Int32) → (Int32) → (Int32) → Option (OS × Int32)) (p0no_j90 : OS) (w3_j90 : Int32) (w4_j90 : Int32) (w5_j90 : Int32) (w7_j90 : Int32) (w8_j90 : Int32) (s0_j90 : Int32) (s1_j90 : Int32) : Option (OS × Int32) :=
  Let (s0_j90 + s1_j90) (fun v6_100 : Int32 =>
  bnd2 (f_X8_loan n sv_p0 p0_0 p0no_j90 w7_j90 (7 : Int32)) (fun (r_101 : Int32) (cd_102 : Nat) =>
  if cd_102 = 0 then (
  if r_101 < w8_j90 then (
  some (p0no_j90, (0 : Int32))) else (
  bnd2 (f_X8_loan n sv_p0 p0_0 p0no_j90 w7_j90 (6 : Int32)) (fun (r_103 : Int32) (cd_104 : Nat) =>
  if cd_104 = 0 then (
  bnd2 (f_X8_loan n sv_p0 p0_0 p0no_j90 w7_j90 (7 : Int32)) (fun (r_105 : Int32) (cd_106 : Nat) =>
  if cd_106 = 0 then (
  if r_105 < (w8_j90 + r_103) then (
  some (p0no_j90, (0 : Int32))) else (
  if w8_j90 ≤ 0 then (
  j_L_isSound_152 n sv_p0 p0_0 p0ru_0 p0pa_0 w1_j19 w2_j19 rc_19 p0no_j90 w3_j90 w4_j90 w5_j90 v6_100 w7_j90 w8_j90) else (
  bnd2 (f_X8_pageOf n sv_p0 p0_0 p0no_j90 w7_j90 (w8_j90 - (1 : Int32))) (fun (r_110 : Int32) (cd_111 : Nat) =>
  if cd_111 = 0 then (
  bnd2 (f_X8_page n sv_p0 p0_0 p0ru_0 p0no_j90 r_110) (fun (r_112 : Int32) (cd_113 : Nat) =>
  if cd_113 = 0 then (
  if r_112 = w7_j90 then (
  j_L_isSound_152 n sv_p0 p0_0 p0ru_0 p0pa_0 w1_j19 w2_j19 rc_19 p0no_j90 w3_j90 w4_j90 w5_j90 v6_100 w7_j90 w8_j90) else (
  some (p0no_j90, (0 : Int32)))) else (
  none))) else (
  none))))) else (
  none))) else (
  none)))) else (
  none)))
def j_L_isSound_56 (n : Nat) (sv_p0 : Value) (p0_0 : OS) (p0ru_0 : OS) (p0pa_0 : PS) (w1_j19 : Int32) (w2_j19 : Int32) (rc_19 : (OS) → (Int32) → (Int32) → (Int32) → (Int32) → (Int32) → Option (OS × Int32)) (p0no_j56 : OS) (w3_j56 : Int32) (w5_j56 : Int32) (w6_j56 : Int32) (w7_j56 : Int32) (w8_j56 : Int32) (s0_j56 : Int32) (s1_j56 : Int32) : Option (OS × Int32) :=
  Let (s0_j56 + s1_j56) (fun v4_94 : Int32 =>
  bnd2 (f_X8_loan n sv_p0 p0_0 p0no_j56 w7_j56 (5 : Int32)) (fun (r_95 : Int32) (cd_96 : Nat) =>
  if cd_96 = 0 then (
  Let (w5_j56 + r_95) (fun v5_97 : Int32 =>
  bnd2 (f_X8_loan n sv_p0 p0_0 p0no_j56 w7_j56 (5 : Int32)) (fun (r_98 : Int32) (cd_99 : Nat) =>
  if cd_99 = 0 then (
  if r_98 = (1 : Int32) then (
  j_L_isSound_90 n sv_p0 p0_0 p0ru_0 p0pa_0 w1_j19 w2_j19 rc_19 p0no_j56 w3_j56 v4_94 v5_97 w7_j56 w8_j56 w6_j56 w8_j56) else (
  j_L_isSound_90 n sv_p0 p0_0 p0ru_0 p0pa_0 w1_j19 w2_j19 rc_19 p0no_j56 w3_j56 v4_94 v5_97 w7_j56 w8_j56 w6_j56 (0 : Int32))) else (
  none)))) else (
  none)))
def s_L_isSound_19 (n : Nat) (sv_p0 : Value) (p0_0 : OS) (p0ru_0 : OS) (p0pa_0 : PS) (w1_j19 : Int32) (w2_j19 : Int32) (rc_19 : (OS) → (Int32) → (Int32) → (Int32) → (Int32) → (Int32) → Option (OS × Int32)) (p0no_j19 : OS) (w3_j19 : Int32) (w4_j19 : Int32) (w5_j19 : Int32) (w6_j19 : Int32) (w7_j19 : Int32) : Option (OS × Int32) :=
  bnd (f_X8_count n sv_p0 p0_0 p0ru_0 p0no_j19 p0pa_0 (10 : Int32)) (fun (r_2 : Int32) =>
  if r_2 ≤ w7_j19 then (
  j_L_isSound_171 n sv_p0 p0_0 p0ru_0 p0pa_0 w1_j19 w2_j19 p0no_j19 w3_j19 w4_j19 w5_j19 w6_j19) else (
  bnd2 (f_X8_loan n sv_p0 p0_0 p0no_j19 w7_j19 (1 : Int32)) (fun (r_91 : Int32) (cd_92 : Nat) =>
  if cd_92 = 0 then (
  Let (w3_j19 + r_91) (fun v3_93 : Int32 =>
  if r_91 ≤ 0 then (
  j_L_isSound_56 n sv_p0 p0_0 p0ru_0 p0pa_0 w1_j19 w2_j19 rc_19 p0no_j19 v3_93 w5_j19 w6_j19 w7_j19 r_91 w4_j19 (0 : Int32)) else (
  j_L_isSound_56 n sv_p0 p0_0 p0ru_0 p0pa_0 w1_j19 w2_j19 rc_19 p0no_j19 v3_93 w5_j19 w6_j19 w7_j19 r_91 w4_j19 (1 : Int32)))) else (
  none))))
def l_L_isSound_19 (n : Nat) (sv_p0 : Value) (p0_0 : OS) (p0ru_0 : OS) (p0pa_0 : PS) (w1_j19 : Int32) (w2_j19 : Int32) : Nat → (OS) → (Int32) → (Int32) → (Int32) → (Int32) → (Int32) → Option (OS × Int32)
  | 0 => fun _ _ _ _ _ _ => none
  | N + 1 => s_L_isSound_19 n sv_p0 p0_0 p0ru_0 p0pa_0 w1_j19 w2_j19 (l_L_isSound_19 n sv_p0 p0_0 p0ru_0 p0pa_0 w1_j19 w2_j19 N)
def f_L_isSound (n : Nat) (sv_p0 : Value) (p0_0 : OS) (p0ru_0 : OS) (p0no_0 : OS) (p0pa_0 : PS) (v1_0 : Int32) (v2_0 : Int32) : Option (OS × Int32) :=
  bnd (f_X8_count n sv_p0 p0_0 p0ru_0 p0no_0 p0pa_0 (9 : Int32)) (fun (r_1 : Int32) =>
  l_L_isSound_19 n sv_p0 p0_0 p0ru_0 p0pa_0 v1_0 v2_0 n p0no_0 r_1 (0 : Int32) (0 : Int32) (0 : Int32) (0 : Int32))
set_option maxHeartbeats 4000000 in
set_option maxRecDepth 100000 in
theorem c_L_isSound (n : Nat) (l : Launch) (k : KT) (a_p0 : Nat → Nat) (a_p0in : Nat → Nat) (a_p0ou : Nat → Nat) (a_p0ru : Nat → Nat) (a_p0no : Nat → Nat) (a_p0fo : Nat → Nat) (a_p0rd : Nat → Nat) (a_p0pa : Nat → Nat) (pp_0 : Nat → Nat → Nat) (sv_p0 : Value) (p0_0 : OS) (p0ru_0 : OS) (p0no_0 : OS) (p0pa_0 : PS) (v1_0 : Int32) (v2_0 : Int32) (res : (OS × Int32)) (hf : f_L_isSound n sv_p0 p0_0 p0ru_0 p0no_0 p0pa_0 v1_0 v2_0 = some res) : CG l k yL_isSound cL_isSound 12 (some .boolean) 4 0 0 90 [.ref (a_p0 0), .int v1_0, .int v2_0] (wMCo k a_p0 (a_p0in 0) (a_p0ou 0) (a_p0ru 0) (a_p0no 0) (a_p0fo 0) (a_p0rd 0) (a_p0pa 0) sv_p0 p0_0 ++ wRules k a_p0ru p0ru_0 ++ wCourt k a_p0no p0no_0 ++ wPast k a_p0pa pp_0 p0pa_0) (Qi k (fun u : OS => wMCo k a_p0 (a_p0in 0) (a_p0ou 0) (a_p0ru 0) (a_p0no 0) (a_p0fo 0) (a_p0rd 0) (a_p0pa 0) sv_p0 p0_0 ++ wRules k a_p0ru p0ru_0 ++ wCourt k a_p0no u ++ wPast k a_p0pa pp_0 p0pa_0) (fun (r : Int32) (u : OS) => res = (u, r))) := by
  refine CG.ofI (by decide) (Nat.le_of_ble_eq_true rfl) (fun p e s m args below meth c A Q E hnm hW hA hret ls hl => ?_)
  have hl : lv_has ls 12 [(0, .ref (a_p0 0)), (1, .int v1_0), (2, .int v2_0)] := hl
  unfold f_L_isSound at hf
  refine k_aload_n E hl 0 dL_isSound_0 rfl ?_
  refine lv_bipush (v := (9 : Int32)) E.hx E.hb dL_isSound_1 bp_9 ?_
  obtain ⟨r_1, hg, hf⟩ := ob hf
  refine k_callVi (As := [.int (9 : Int32)]) (rest := []) (ws2 := fun u => wMCo k a_p0 (a_p0in 0) (a_p0ou 0) (a_p0ru 0) (a_p0no 0) (a_p0fo 0) (a_p0rd 0) (a_p0pa 0) sv_p0 p0_0 ++ wRules k a_p0ru p0ru_0 ++ wCourt k a_p0no p0no_0 ++ wPast k a_p0pa pp_0 p0pa_0) (c_X8_count n l k a_p0 a_p0in a_p0ou a_p0ru a_p0no a_p0fo a_p0rd a_p0pa pp_0 sv_p0 p0_0 p0ru_0 p0no_0 p0pa_0 (9 : Int32) r_1 hg) E vl_L_84 dL_isSound_3 rfl (List.range' 0 18) 8 0 hW hA hl rfl (blk_map [] (wMCo k a_p0 (a_p0in 0) (a_p0ou 0) (a_p0ru 0) (a_p0no 0) (a_p0fo 0) (a_p0rd 0) (a_p0pa 0) sv_p0 p0_0 ++ wRules k a_p0ru p0ru_0 ++ wCourt k a_p0no p0no_0 ++ wPast k a_p0pa pp_0 p0pa_0) [] 0 18 (by simp only [List.nil_append, List.append_nil]) rfl rfl) rfl rfl ⟨by decide, by decide⟩ ⟨by decide, by decide⟩ (Nat.le_of_ble_eq_true rfl) rfl (fun _ => rfl) (fun u => by rw [blk_put [] (wMCo k a_p0 (a_p0in 0) (a_p0ou 0) (a_p0ru 0) (a_p0no 0) (a_p0fo 0) (a_p0rd 0) (a_p0pa 0) sv_p0 p0_0 ++ wRules k a_p0ru p0ru_0 ++ wCourt k a_p0no p0no_0 ++ wPast k a_p0pa pp_0 p0pa_0) [] (wMCo k a_p0 (a_p0in 0) (a_p0ou 0) (a_p0ru 0) (a_p0no 0) (a_p0fo 0) (a_p0rd 0) (a_p0pa 0) sv_p0 p0_0 ++ wRules k a_p0ru p0ru_0 ++ wCourt k a_p0no p0no_0 ++ wPast k a_p0pa pp_0 p0pa_0) 0 18 (by simp only [List.nil_append, List.append_nil]) rfl rfl rfl]; try simp only [List.nil_append, List.append_nil]) (fun r u H locs hp hW => ?_)
  cases hp
  have hW : WD k A s.heap (wMCo k a_p0 (a_p0in 0) (a_p0ou 0) (a_p0ru 0) (a_p0no 0) (a_p0fo 0) (a_p0rd 0) (a_p0pa 0) sv_p0 p0_0 ++ wRules k a_p0ru p0ru_0 ++ wCourt k a_p0no p0no_0 ++ wPast k a_p0pa pp_0 p0pa_0) H locs := hW
  refine k_istore_n (lv' := [(3, .int r_1), (0, .ref (a_p0 0)), (1, .int v1_0), (2, .int v2_0)]) E rfl hl dL_isSound_6 rfl (by decide) rfl (fun ls hl => ?_)
  refine lv_iconst (v := (0 : Int32)) E.hx E.hb dL_isSound_7 ic_0 ?_
  refine k_istore (lv' := [(4, .int (0 : Int32)), (3, .int r_1), (0, .ref (a_p0 0)), (1, .int v1_0), (2, .int v2_0)]) E rfl hl dL_isSound_8 (by decide) rfl (fun ls hl => ?_)
  refine lv_iconst (v := (0 : Int32)) E.hx E.hb dL_isSound_10 ic_0 ?_
  refine k_istore (lv' := [(5, .int (0 : Int32)), (4, .int (0 : Int32)), (3, .int r_1), (0, .ref (a_p0 0)), (1, .int v1_0), (2, .int v2_0)]) E rfl hl dL_isSound_11 (by decide) rfl (fun ls hl => ?_)
  refine lv_iconst (v := (0 : Int32)) E.hx E.hb dL_isSound_13 ic_0 ?_
  refine k_istore (lv' := [(6, .int (0 : Int32)), (5, .int (0 : Int32)), (4, .int (0 : Int32)), (3, .int r_1), (0, .ref (a_p0 0)), (1, .int v1_0), (2, .int v2_0)]) E rfl hl dL_isSound_14 (by decide) rfl (fun ls hl => ?_)
  refine lv_iconst (v := (0 : Int32)) E.hx E.hb dL_isSound_16 ic_0 ?_
  refine k_istore (lv' := [(7, .int (0 : Int32)), (6, .int (0 : Int32)), (5, .int (0 : Int32)), (4, .int (0 : Int32)), (3, .int r_1), (0, .ref (a_p0 0)), (1, .int v1_0), (2, .int v2_0)]) E rfl hl dL_isSound_17 (by decide) rfl (fun ls hl => ?_)
  have L_19 : ∀ (N_19 : Nat) (p0no_j19 : OS) (w3_j19 : Int32) (w4_j19 : Int32) (w5_j19 : Int32) (w6_j19 : Int32) (w7_j19 : Int32) (H : Heap) (locs : List Loc) (ls : Array Slot) (hW : WD k A s.heap (wMCo k a_p0 (a_p0in 0) (a_p0ou 0) (a_p0ru 0) (a_p0no 0) (a_p0fo 0) (a_p0rd 0) (a_p0pa 0) sv_p0 p0_0 ++ wRules k a_p0ru p0ru_0 ++ wCourt k a_p0no p0no_j19 ++ wPast k a_p0pa pp_0 p0pa_0) H locs) (hl : lv_has ls 12 [(0, .ref (a_p0 0)), (1, .int v1_0), (2, .int v2_0), (3, .int w3_j19), (4, .int w4_j19), (5, .int w5_j19), (6, .int w6_j19), (7, .int w7_j19)]) (hf : l_L_isSound_19 n sv_p0 p0_0 p0ru_0 p0pa_0 v1_0 v2_0 N_19 p0no_j19 w3_j19 w4_j19 w5_j19 w6_j19 w7_j19 = some res), W p l e { frames := 4, cells := 0, slots := 0, locals := 90 } s m args below meth c H locs 0 0 Q (F0 m 19 ls []) := by
    intro N_19
    induction N_19 with
    | zero => intro p0no_j19 w3_j19 w4_j19 w5_j19 w6_j19 w7_j19 H locs ls hW hl hf; exact o0 hf
    | succ N_19 ih_19 =>
      intro p0no_j19 w3_j19 w4_j19 w5_j19 w6_j19 w7_j19 H locs ls hW hl hf
      have hf : s_L_isSound_19 n sv_p0 p0_0 p0ru_0 p0pa_0 v1_0 v2_0 (l_L_isSound_19 n sv_p0 p0_0 p0ru_0 p0pa_0 v1_0 v2_0 N_19) p0no_j19 w3_j19 w4_j19 w5_j19 w6_j19 w7_j19 = some res := hf
      unfold s_L_isSound_19 at hf
      refine k_iload E hl 7 dL_isSound_19 rfl ?_
      refine k_aload_n E hl 0 dL_isSound_21 rfl ?_
      refine lv_bipush (v := (10 : Int32)) E.hx E.hb dL_isSound_22 bp_10 ?_
      obtain ⟨r_2, hg, hf⟩ := ob hf
      refine k_callVi (As := [.int (10 : Int32)]) (rest := [.int w7_j19]) (ws2 := fun u => wMCo k a_p0 (a_p0in 0) (a_p0ou 0) (a_p0ru 0) (a_p0no 0) (a_p0fo 0) (a_p0rd 0) (a_p0pa 0) sv_p0 p0_0 ++ wRules k a_p0ru p0ru_0 ++ wCourt k a_p0no p0no_j19 ++ wPast k a_p0pa pp_0 p0pa_0) (c_X8_count n l k a_p0 a_p0in a_p0ou a_p0ru a_p0no a_p0fo a_p0rd a_p0pa pp_0 sv_p0 p0_0 p0ru_0 p0no_j19 p0pa_0 (10 : Int32) r_2 hg) E vl_L_84 dL_isSound_24 rfl (List.range' 0 18) 8 0 hW hA hl rfl (blk_map [] (wMCo k a_p0 (a_p0in 0) (a_p0ou 0) (a_p0ru 0) (a_p0no 0) (a_p0fo 0) (a_p0rd 0) (a_p0pa 0) sv_p0 p0_0 ++ wRules k a_p0ru p0ru_0 ++ wCourt k a_p0no p0no_j19 ++ wPast k a_p0pa pp_0 p0pa_0) [] 0 18 (by simp only [List.nil_append, List.append_nil]) rfl rfl) rfl rfl ⟨by decide, by decide⟩ ⟨by decide, by decide⟩ (Nat.le_of_ble_eq_true rfl) rfl (fun _ => rfl) (fun u => by rw [blk_put [] (wMCo k a_p0 (a_p0in 0) (a_p0ou 0) (a_p0ru 0) (a_p0no 0) (a_p0fo 0) (a_p0rd 0) (a_p0pa 0) sv_p0 p0_0 ++ wRules k a_p0ru p0ru_0 ++ wCourt k a_p0no p0no_j19 ++ wPast k a_p0pa pp_0 p0pa_0) [] (wMCo k a_p0 (a_p0in 0) (a_p0ou 0) (a_p0ru 0) (a_p0no 0) (a_p0fo 0) (a_p0rd 0) (a_p0pa 0) sv_p0 p0_0 ++ wRules k a_p0ru p0ru_0 ++ wCourt k a_p0no p0no_j19 ++ wPast k a_p0pa pp_0 p0pa_0) 0 18 (by simp only [List.nil_append, List.append_nil]) rfl rfl rfl]; try simp only [List.nil_append, List.append_nil]) (fun r u H locs hp hW => ?_)
      cases hp
      have hW : WD k A s.heap (wMCo k a_p0 (a_p0in 0) (a_p0ou 0) (a_p0ru 0) (a_p0no 0) (a_p0fo 0) (a_p0rd 0) (a_p0pa 0) sv_p0 p0_0 ++ wRules k a_p0ru p0ru_0 ++ wCourt k a_p0no p0no_j19 ++ wPast k a_p0pa pp_0 p0pa_0) H locs := hW
      have J_171 : ∀ (p0no_j171 : OS) (w3_j171 : Int32) (w4_j171 : Int32) (w5_j171 : Int32) (w6_j171 : Int32) (H : Heap) (locs : List Loc) (ls : Array Slot) (hW : WD k A s.heap (wMCo k a_p0 (a_p0in 0) (a_p0ou 0) (a_p0ru 0) (a_p0no 0) (a_p0fo 0) (a_p0rd 0) (a_p0pa 0) sv_p0 p0_0 ++ wRules k a_p0ru p0ru_0 ++ wCourt k a_p0no p0no_j171 ++ wPast k a_p0pa pp_0 p0pa_0) H locs) (hl : lv_has ls 12 [(0, .ref (a_p0 0)), (1, .int v1_0), (2, .int v2_0), (3, .int w3_j171), (4, .int w4_j171), (5, .int w5_j171), (6, .int w6_j171)]) (hf : j_L_isSound_171 n sv_p0 p0_0 p0ru_0 p0pa_0 v1_0 v2_0 p0no_j171 w3_j171 w4_j171 w5_j171 w6_j171 = some res), W p l e { frames := 4, cells := 0, slots := 0, locals := 90 } s m args below meth c H locs 0 0 Q (F0 m 171 ls []) := by
        intro p0no_j171 w3_j171 w4_j171 w5_j171 w6_j171 H locs ls hW hl hf
        unfold j_L_isSound_171 at hf
        refine k_iload_n E hl 3 dL_isSound_171 rfl ?_
        refine k_iload_n E hl 1 dL_isSound_172 rfl ?_
        refine lv_icmp_ne (tgt := 233) E.hx E.hb dL_isSound_173 (by decide) (fun hc => ?_) (fun hc => ?_)
        · have hf := oF hc hf
          refine lv_iconst (v := (0 : Int32)) E.hx E.hb dL_isSound_233 ic_0 ?_
          exact hret _ p0no_j171 _ _ _ _ _ _ hW (Option.some.inj hf).symm (by decide) (by decide) (by decide) dL_isSound_234
        · have hf := oT hc hf
          refine k_iload E hl 4 dL_isSound_176 rfl ?_
          refine k_aload_n E hl 0 dL_isSound_178 rfl ?_
          refine lv_bipush (v := (11 : Int32)) E.hx E.hb dL_isSound_179 bp_11 ?_
          obtain ⟨r_3, hg, hf⟩ := ob hf
          refine k_callVi (As := [.int (11 : Int32)]) (rest := [.int w4_j171]) (ws2 := fun u => wMCo k a_p0 (a_p0in 0) (a_p0ou 0) (a_p0ru 0) (a_p0no 0) (a_p0fo 0) (a_p0rd 0) (a_p0pa 0) sv_p0 p0_0 ++ wRules k a_p0ru p0ru_0 ++ wCourt k a_p0no p0no_j171 ++ wPast k a_p0pa pp_0 p0pa_0) (c_X8_count n l k a_p0 a_p0in a_p0ou a_p0ru a_p0no a_p0fo a_p0rd a_p0pa pp_0 sv_p0 p0_0 p0ru_0 p0no_j171 p0pa_0 (11 : Int32) r_3 hg) E vl_L_84 dL_isSound_181 rfl (List.range' 0 18) 8 0 hW hA hl rfl (blk_map [] (wMCo k a_p0 (a_p0in 0) (a_p0ou 0) (a_p0ru 0) (a_p0no 0) (a_p0fo 0) (a_p0rd 0) (a_p0pa 0) sv_p0 p0_0 ++ wRules k a_p0ru p0ru_0 ++ wCourt k a_p0no p0no_j171 ++ wPast k a_p0pa pp_0 p0pa_0) [] 0 18 (by simp only [List.nil_append, List.append_nil]) rfl rfl) rfl rfl ⟨by decide, by decide⟩ ⟨by decide, by decide⟩ (Nat.le_of_ble_eq_true rfl) rfl (fun _ => rfl) (fun u => by rw [blk_put [] (wMCo k a_p0 (a_p0in 0) (a_p0ou 0) (a_p0ru 0) (a_p0no 0) (a_p0fo 0) (a_p0rd 0) (a_p0pa 0) sv_p0 p0_0 ++ wRules k a_p0ru p0ru_0 ++ wCourt k a_p0no p0no_j171 ++ wPast k a_p0pa pp_0 p0pa_0) [] (wMCo k a_p0 (a_p0in 0) (a_p0ou 0) (a_p0ru 0) (a_p0no 0) (a_p0fo 0) (a_p0rd 0) (a_p0pa 0) sv_p0 p0_0 ++ wRules k a_p0ru p0ru_0 ++ wCourt k a_p0no p0no_j171 ++ wPast k a_p0pa pp_0 p0pa_0) 0 18 (by simp only [List.nil_append, List.append_nil]) rfl rfl rfl]; try simp only [List.nil_append, List.append_nil]) (fun r u H locs hp hW => ?_)
          cases hp
          have hW : WD k A s.heap (wMCo k a_p0 (a_p0in 0) (a_p0ou 0) (a_p0ru 0) (a_p0no 0) (a_p0fo 0) (a_p0rd 0) (a_p0pa 0) sv_p0 p0_0 ++ wRules k a_p0ru p0ru_0 ++ wCourt k a_p0no p0no_j171 ++ wPast k a_p0pa pp_0 p0pa_0) H locs := hW
          refine lv_icmp_ne (tgt := 233) E.hx E.hb dL_isSound_184 (by decide) (fun hc => ?_) (fun hc => ?_)
          · have hf := oF hc hf
            refine lv_iconst (v := (0 : Int32)) E.hx E.hb dL_isSound_233 ic_0 ?_
            exact hret _ p0no_j171 _ _ _ _ _ _ hW (Option.some.inj hf).symm (by decide) (by decide) (by decide) dL_isSound_234
          · have hf := oT hc hf
            refine k_iload E hl 5 dL_isSound_187 rfl ?_
            refine k_aload_n E hl 0 dL_isSound_189 rfl ?_
            refine lv_bipush (v := (12 : Int32)) E.hx E.hb dL_isSound_190 bp_12 ?_
            obtain ⟨r_4, hg, hf⟩ := ob hf
            refine k_callVi (As := [.int (12 : Int32)]) (rest := [.int w5_j171]) (ws2 := fun u => wMCo k a_p0 (a_p0in 0) (a_p0ou 0) (a_p0ru 0) (a_p0no 0) (a_p0fo 0) (a_p0rd 0) (a_p0pa 0) sv_p0 p0_0 ++ wRules k a_p0ru p0ru_0 ++ wCourt k a_p0no p0no_j171 ++ wPast k a_p0pa pp_0 p0pa_0) (c_X8_count n l k a_p0 a_p0in a_p0ou a_p0ru a_p0no a_p0fo a_p0rd a_p0pa pp_0 sv_p0 p0_0 p0ru_0 p0no_j171 p0pa_0 (12 : Int32) r_4 hg) E vl_L_84 dL_isSound_192 rfl (List.range' 0 18) 8 0 hW hA hl rfl (blk_map [] (wMCo k a_p0 (a_p0in 0) (a_p0ou 0) (a_p0ru 0) (a_p0no 0) (a_p0fo 0) (a_p0rd 0) (a_p0pa 0) sv_p0 p0_0 ++ wRules k a_p0ru p0ru_0 ++ wCourt k a_p0no p0no_j171 ++ wPast k a_p0pa pp_0 p0pa_0) [] 0 18 (by simp only [List.nil_append, List.append_nil]) rfl rfl) rfl rfl ⟨by decide, by decide⟩ ⟨by decide, by decide⟩ (Nat.le_of_ble_eq_true rfl) rfl (fun _ => rfl) (fun u => by rw [blk_put [] (wMCo k a_p0 (a_p0in 0) (a_p0ou 0) (a_p0ru 0) (a_p0no 0) (a_p0fo 0) (a_p0rd 0) (a_p0pa 0) sv_p0 p0_0 ++ wRules k a_p0ru p0ru_0 ++ wCourt k a_p0no p0no_j171 ++ wPast k a_p0pa pp_0 p0pa_0) [] (wMCo k a_p0 (a_p0in 0) (a_p0ou 0) (a_p0ru 0) (a_p0no 0) (a_p0fo 0) (a_p0rd 0) (a_p0pa 0) sv_p0 p0_0 ++ wRules k a_p0ru p0ru_0 ++ wCourt k a_p0no p0no_j171 ++ wPast k a_p0pa pp_0 p0pa_0) 0 18 (by simp only [List.nil_append, List.append_nil]) rfl rfl rfl]; try simp only [List.nil_append, List.append_nil]) (fun r u H locs hp hW => ?_)
            cases hp
            have hW : WD k A s.heap (wMCo k a_p0 (a_p0in 0) (a_p0ou 0) (a_p0ru 0) (a_p0no 0) (a_p0fo 0) (a_p0rd 0) (a_p0pa 0) sv_p0 p0_0 ++ wRules k a_p0ru p0ru_0 ++ wCourt k a_p0no p0no_j171 ++ wPast k a_p0pa pp_0 p0pa_0) H locs := hW
            refine lv_icmp_ne (tgt := 233) E.hx E.hb dL_isSound_195 (by decide) (fun hc => ?_) (fun hc => ?_)
            · have hf := oF hc hf
              refine lv_iconst (v := (0 : Int32)) E.hx E.hb dL_isSound_233 ic_0 ?_
              exact hret _ p0no_j171 _ _ _ _ _ _ hW (Option.some.inj hf).symm (by decide) (by decide) (by decide) dL_isSound_234
            · have hf := oT hc hf
              refine k_iload E hl 6 dL_isSound_198 rfl ?_
              refine k_aload_n E hl 0 dL_isSound_200 rfl ?_
              obtain ⟨r_5, hg, hf⟩ := ob hf
              refine k_callVi (As := []) (rest := [.int w6_j171]) (ws2 := fun u => wMCo k a_p0 (a_p0in 0) (a_p0ou 0) (a_p0ru 0) (a_p0no 0) (a_p0fo 0) (a_p0rd 0) (a_p0pa 0) sv_p0 p0_0 ++ wRules k a_p0ru p0ru_0 ++ wCourt k a_p0no p0no_j171 ++ wPast k a_p0pa pp_0 p0pa_0) (c_X8_overdue n l k a_p0 a_p0in a_p0ou a_p0ru a_p0no a_p0fo a_p0rd a_p0pa sv_p0 p0_0 p0no_j171 r_5 hg) E vl_L_117 dL_isSound_201 rfl (List.range' 0 1 ++ List.range' 4 12) 8 0 hW hA hl rfl (by simp only [List.map_append]; exact app2 (blk_map [] (wMCo k a_p0 (a_p0in 0) (a_p0ou 0) (a_p0ru 0) (a_p0no 0) (a_p0fo 0) (a_p0rd 0) (a_p0pa 0) sv_p0 p0_0) (wRules k a_p0ru p0ru_0 ++ wCourt k a_p0no p0no_j171 ++ wPast k a_p0pa pp_0 p0pa_0) 0 1 (by simp only [List.append_assoc, List.nil_append, List.append_nil]) rfl rfl) (blk_map (wMCo k a_p0 (a_p0in 0) (a_p0ou 0) (a_p0ru 0) (a_p0no 0) (a_p0fo 0) (a_p0rd 0) (a_p0pa 0) sv_p0 p0_0 ++ wRules k a_p0ru p0ru_0) (wCourt k a_p0no p0no_j171) (wPast k a_p0pa pp_0 p0pa_0) 4 12 (by simp only [List.append_assoc, List.nil_append, List.append_nil]) rfl rfl)) rfl rfl ⟨by decide, by decide⟩ ⟨by decide, by decide⟩ (Nat.le_of_ble_eq_true rfl) rfl (fun _ => rfl) (fun u => by show putW _ (_ ++ _) (_ ++ _) = _; rw [putW_app _ _ _ _ _ rfl, blk_put [] (wMCo k a_p0 (a_p0in 0) (a_p0ou 0) (a_p0ru 0) (a_p0no 0) (a_p0fo 0) (a_p0rd 0) (a_p0pa 0) sv_p0 p0_0) (wRules k a_p0ru p0ru_0 ++ wCourt k a_p0no p0no_j171 ++ wPast k a_p0pa pp_0 p0pa_0) (wMCo k a_p0 (a_p0in 0) (a_p0ou 0) (a_p0ru 0) (a_p0no 0) (a_p0fo 0) (a_p0rd 0) (a_p0pa 0) sv_p0 p0_0) 0 1 (by simp only [List.append_assoc, List.nil_append, List.append_nil]) rfl rfl rfl, blk_put (wMCo k a_p0 (a_p0in 0) (a_p0ou 0) (a_p0ru 0) (a_p0no 0) (a_p0fo 0) (a_p0rd 0) (a_p0pa 0) sv_p0 p0_0 ++ wRules k a_p0ru p0ru_0) (wCourt k a_p0no p0no_j171) (wPast k a_p0pa pp_0 p0pa_0) (wCourt k a_p0no p0no_j171) 4 12 (by simp only [List.append_assoc, List.nil_append, List.append_nil]) rfl rfl rfl]; try simp only [List.append_assoc, List.nil_append, List.append_nil]) (fun r u H locs hp hW => ?_)
              cases hp
              have hW : WD k A s.heap (wMCo k a_p0 (a_p0in 0) (a_p0ou 0) (a_p0ru 0) (a_p0no 0) (a_p0fo 0) (a_p0rd 0) (a_p0pa 0) sv_p0 p0_0 ++ wRules k a_p0ru p0ru_0 ++ wCourt k a_p0no p0no_j171 ++ wPast k a_p0pa pp_0 p0pa_0) H locs := hW
              refine lv_icmp_ne (tgt := 233) E.hx E.hb dL_isSound_204 (by decide) (fun hc => ?_) (fun hc => ?_)
              · have hf := oF hc hf
                refine lv_iconst (v := (0 : Int32)) E.hx E.hb dL_isSound_233 ic_0 ?_
                exact hret _ p0no_j171 _ _ _ _ _ _ hW (Option.some.inj hf).symm (by decide) (by decide) (by decide) dL_isSound_234
              · have hf := oT hc hf
                refine k_aload_n E hl 0 dL_isSound_207 rfl ?_
                obtain ⟨r_6, hg, hf⟩ := ob hf
                refine k_callVi (As := []) (rest := []) (ws2 := fun u => wMCo k a_p0 (a_p0in 0) (a_p0ou 0) (a_p0ru 0) (a_p0no 0) (a_p0fo 0) (a_p0rd 0) (a_p0pa 0) sv_p0 p0_0 ++ wRules k a_p0ru p0ru_0 ++ wCourt k a_p0no p0no_j171 ++ wPast k a_p0pa pp_0 p0pa_0) (c_X8_firstBroken n l k a_p0 a_p0in a_p0ou a_p0ru a_p0no a_p0fo a_p0rd a_p0pa sv_p0 p0_0 p0no_j171 r_6 hg) E vl_L_120 dL_isSound_208 rfl (List.range' 0 1 ++ List.range' 4 12) 8 0 hW hA hl rfl (by simp only [List.map_append]; exact app2 (blk_map [] (wMCo k a_p0 (a_p0in 0) (a_p0ou 0) (a_p0ru 0) (a_p0no 0) (a_p0fo 0) (a_p0rd 0) (a_p0pa 0) sv_p0 p0_0) (wRules k a_p0ru p0ru_0 ++ wCourt k a_p0no p0no_j171 ++ wPast k a_p0pa pp_0 p0pa_0) 0 1 (by simp only [List.append_assoc, List.nil_append, List.append_nil]) rfl rfl) (blk_map (wMCo k a_p0 (a_p0in 0) (a_p0ou 0) (a_p0ru 0) (a_p0no 0) (a_p0fo 0) (a_p0rd 0) (a_p0pa 0) sv_p0 p0_0 ++ wRules k a_p0ru p0ru_0) (wCourt k a_p0no p0no_j171) (wPast k a_p0pa pp_0 p0pa_0) 4 12 (by simp only [List.append_assoc, List.nil_append, List.append_nil]) rfl rfl)) rfl rfl ⟨by decide, by decide⟩ ⟨by decide, by decide⟩ (Nat.le_of_ble_eq_true rfl) rfl (fun _ => rfl) (fun u => by show putW _ (_ ++ _) (_ ++ _) = _; rw [putW_app _ _ _ _ _ rfl, blk_put [] (wMCo k a_p0 (a_p0in 0) (a_p0ou 0) (a_p0ru 0) (a_p0no 0) (a_p0fo 0) (a_p0rd 0) (a_p0pa 0) sv_p0 p0_0) (wRules k a_p0ru p0ru_0 ++ wCourt k a_p0no p0no_j171 ++ wPast k a_p0pa pp_0 p0pa_0) (wMCo k a_p0 (a_p0in 0) (a_p0ou 0) (a_p0ru 0) (a_p0no 0) (a_p0fo 0) (a_p0rd 0) (a_p0pa 0) sv_p0 p0_0) 0 1 (by simp only [List.append_assoc, List.nil_append, List.append_nil]) rfl rfl rfl, blk_put (wMCo k a_p0 (a_p0in 0) (a_p0ou 0) (a_p0ru 0) (a_p0no 0) (a_p0fo 0) (a_p0rd 0) (a_p0pa 0) sv_p0 p0_0 ++ wRules k a_p0ru p0ru_0) (wCourt k a_p0no p0no_j171) (wPast k a_p0pa pp_0 p0pa_0) (wCourt k a_p0no p0no_j171) 4 12 (by simp only [List.append_assoc, List.nil_append, List.append_nil]) rfl rfl rfl]; try simp only [List.append_assoc, List.nil_append, List.append_nil]) (fun r u H locs hp hW => ?_)
                cases hp
                have hW : WD k A s.heap (wMCo k a_p0 (a_p0in 0) (a_p0ou 0) (a_p0ru 0) (a_p0no 0) (a_p0fo 0) (a_p0rd 0) (a_p0pa 0) sv_p0 p0_0 ++ wRules k a_p0ru p0ru_0 ++ wCourt k a_p0no p0no_j171 ++ wPast k a_p0pa pp_0 p0pa_0) H locs := hW
                refine lv_iconst (v := (-1 : Int32)) E.hx E.hb dL_isSound_211 ic_m1 ?_
                refine lv_icmp_ne (tgt := 219) E.hx E.hb dL_isSound_212 (by decide) (fun hc => ?_) (fun hc => ?_)
                · have hf := oF hc hf
                  refine lv_iconst (v := (0 : Int32)) E.hx E.hb dL_isSound_219 ic_0 ?_
                  refine k_iload E hl 5 dL_isSound_220 rfl ?_
                  have J_230 : ∀ (p0no_j230 : OS) (s0_j230 : Int32) (s1_j230 : Int32) (H : Heap) (locs : List Loc) (ls : Array Slot) (hW : WD k A s.heap (wMCo k a_p0 (a_p0in 0) (a_p0ou 0) (a_p0ru 0) (a_p0no 0) (a_p0fo 0) (a_p0rd 0) (a_p0pa 0) sv_p0 p0_0 ++ wRules k a_p0ru p0ru_0 ++ wCourt k a_p0no p0no_j230 ++ wPast k a_p0pa pp_0 p0pa_0) H locs) (hl : lv_has ls 12 [(0, .ref (a_p0 0)), (1, .int v1_0), (2, .int v2_0)]) (hf : j_L_isSound_230 n sv_p0 p0_0 p0ru_0 p0pa_0 v1_0 v2_0 p0no_j230 s0_j230 s1_j230 = some res), W p l e { frames := 4, cells := 0, slots := 0, locals := 90 } s m args below meth c H locs 0 0 Q (F0 m 230 ls [.int s1_j230, .int s0_j230]) := by
                    intro p0no_j230 s0_j230 s1_j230 H locs ls hW hl hf
                    unfold j_L_isSound_230 at hf
                    refine lv_icmp_eq (tgt := 235) E.hx E.hb dL_isSound_230 (by decide) (fun hc => ?_) (fun hc => ?_)
                    · have hf := oT hc hf
                      refine lv_iconst (v := (0 : Int32)) E.hx E.hb dL_isSound_235 ic_0 ?_
                      refine k_istore (lv' := [(7, .int (0 : Int32)), (0, .ref (a_p0 0)), (1, .int v1_0), (2, .int v2_0)]) E rfl hl dL_isSound_236 (by decide) rfl (fun ls hl => ?_)
                      refine lv_iconst (v := (0 : Int32)) E.hx E.hb dL_isSound_238 ic_0 ?_
                      refine k_istore (lv' := [(8, .int (0 : Int32)), (7, .int (0 : Int32)), (0, .ref (a_p0 0)), (1, .int v1_0), (2, .int v2_0)]) E rfl hl dL_isSound_239 (by decide) rfl (fun ls hl => ?_)
                      refine lv_iconst (v := (0 : Int32)) E.hx E.hb dL_isSound_241 ic_0 ?_
                      refine k_istore (lv' := [(9, .int (0 : Int32)), (8, .int (0 : Int32)), (7, .int (0 : Int32)), (0, .ref (a_p0 0)), (1, .int v1_0), (2, .int v2_0)]) E rfl hl dL_isSound_242 (by decide) rfl (fun ls hl => ?_)
                      refine lv_iconst (v := (0 : Int32)) E.hx E.hb dL_isSound_244 ic_0 ?_
                      refine k_istore (lv' := [(10, .int (0 : Int32)), (9, .int (0 : Int32)), (8, .int (0 : Int32)), (7, .int (0 : Int32)), (0, .ref (a_p0 0)), (1, .int v1_0), (2, .int v2_0)]) E rfl hl dL_isSound_245 (by decide) rfl (fun ls hl => ?_)
                      have L_247 : ∀ (N_247 : Nat) (p0no_j247 : OS) (w7_j247 : Int32) (w8_j247 : Int32) (w9_j247 : Int32) (w10_j247 : Int32) (H : Heap) (locs : List Loc) (ls : Array Slot) (hW : WD k A s.heap (wMCo k a_p0 (a_p0in 0) (a_p0ou 0) (a_p0ru 0) (a_p0no 0) (a_p0fo 0) (a_p0rd 0) (a_p0pa 0) sv_p0 p0_0 ++ wRules k a_p0ru p0ru_0 ++ wCourt k a_p0no p0no_j247 ++ wPast k a_p0pa pp_0 p0pa_0) H locs) (hl : lv_has ls 12 [(0, .ref (a_p0 0)), (1, .int v1_0), (2, .int v2_0), (7, .int w7_j247), (8, .int w8_j247), (9, .int w9_j247), (10, .int w10_j247)]) (hf : l_L_isSound_247 n sv_p0 p0_0 p0ru_0 p0pa_0 v1_0 v2_0 N_247 p0no_j247 w7_j247 w8_j247 w9_j247 w10_j247 = some res), W p l e { frames := 4, cells := 0, slots := 0, locals := 90 } s m args below meth c H locs 0 0 Q (F0 m 247 ls []) := by
                        intro N_247
                        induction N_247 with
                        | zero => intro p0no_j247 w7_j247 w8_j247 w9_j247 w10_j247 H locs ls hW hl hf; exact o0 hf
                        | succ N_247 ih_247 =>
                          intro p0no_j247 w7_j247 w8_j247 w9_j247 w10_j247 H locs ls hW hl hf
                          have hf : s_L_isSound_247 n sv_p0 p0_0 p0ru_0 p0pa_0 v1_0 v2_0 (l_L_isSound_247 n sv_p0 p0_0 p0ru_0 p0pa_0 v1_0 v2_0 N_247) p0no_j247 w7_j247 w8_j247 w9_j247 w10_j247 = some res := hf
                          unfold s_L_isSound_247 at hf
                          refine k_iload E hl 6 dL_isSound_247 rfl ?_
                          refine k_iload_n E hl 2 dL_isSound_249 rfl ?_
                          have J_345 : ∀ (p0no_j345 : OS) (w7_j345 : Int32) (w8_j345 : Int32) (w9_j345 : Int32) (H : Heap) (locs : List Loc) (ls : Array Slot) (hW : WD k A s.heap (wMCo k a_p0 (a_p0in 0) (a_p0ou 0) (a_p0ru 0) (a_p0no 0) (a_p0fo 0) (a_p0rd 0) (a_p0pa 0) sv_p0 p0_0 ++ wRules k a_p0ru p0ru_0 ++ wCourt k a_p0no p0no_j345 ++ wPast k a_p0pa pp_0 p0pa_0) H locs) (hl : lv_has ls 12 [(0, .ref (a_p0 0)), (1, .int v1_0), (7, .int w7_j345), (8, .int w8_j345), (9, .int w9_j345)]) (hf : j_L_isSound_345 n sv_p0 p0_0 p0ru_0 p0pa_0 v1_0 p0no_j345 w7_j345 w8_j345 w9_j345 = some res), W p l e { frames := 4, cells := 0, slots := 0, locals := 90 } s m args below meth c H locs 0 0 Q (F0 m 345 ls []) := by
                            intro p0no_j345 w7_j345 w8_j345 w9_j345 H locs ls hW hl hf
                            unfold j_L_isSound_345 at hf
                            refine lv_iconst (v := (0 : Int32)) E.hx E.hb dL_isSound_345 ic_0 ?_
                            refine k_istore (lv' := [(10, .int (0 : Int32)), (0, .ref (a_p0 0)), (1, .int v1_0), (7, .int w7_j345), (8, .int w8_j345), (9, .int w9_j345)]) E rfl hl dL_isSound_346 (by decide) rfl (fun ls hl => ?_)
                            refine lv_iconst (v := (0 : Int32)) E.hx E.hb dL_isSound_348 ic_0 ?_
                            refine k_istore (lv' := [(11, .int (0 : Int32)), (10, .int (0 : Int32)), (0, .ref (a_p0 0)), (1, .int v1_0), (7, .int w7_j345), (8, .int w8_j345), (9, .int w9_j345)]) E rfl hl dL_isSound_349 (by decide) rfl (fun ls hl => ?_)
                            have L_351 : ∀ (N_351 : Nat) (p0no_j351 : OS) (w10_j351 : Int32) (w11_j351 : Int32) (H : Heap) (locs : List Loc) (ls : Array Slot) (hW : WD k A s.heap (wMCo k a_p0 (a_p0in 0) (a_p0ou 0) (a_p0ru 0) (a_p0no 0) (a_p0fo 0) (a_p0rd 0) (a_p0pa 0) sv_p0 p0_0 ++ wRules k a_p0ru p0ru_0 ++ wCourt k a_p0no p0no_j351 ++ wPast k a_p0pa pp_0 p0pa_0) H locs) (hl : lv_has ls 12 [(0, .ref (a_p0 0)), (1, .int v1_0), (7, .int w7_j345), (8, .int w8_j345), (9, .int w9_j345), (10, .int w10_j351), (11, .int w11_j351)]) (hf : l_L_isSound_351 n sv_p0 p0_0 p0ru_0 p0pa_0 v1_0 w7_j345 w8_j345 w9_j345 N_351 p0no_j351 w10_j351 w11_j351 = some res), W p l e { frames := 4, cells := 0, slots := 0, locals := 90 } s m args below meth c H locs 0 0 Q (F0 m 351 ls []) := by
                              intro N_351
                              induction N_351 with
                              | zero => intro p0no_j351 w10_j351 w11_j351 H locs ls hW hl hf; exact o0 hf
                              | succ N_351 ih_351 =>
                                intro p0no_j351 w10_j351 w11_j351 H locs ls hW hl hf
                                have hf : s_L_isSound_351 n sv_p0 p0_0 p0ru_0 p0pa_0 v1_0 w7_j345 w8_j345 w9_j345 (l_L_isSound_351 n sv_p0 p0_0 p0ru_0 p0pa_0 v1_0 w7_j345 w8_j345 w9_j345 N_351) p0no_j351 w10_j351 w11_j351 = some res := hf
                                unfold s_L_isSound_351 at hf
                                refine k_iload E hl 6 dL_isSound_351 rfl ?_
                                refine k_aload_n E hl 0 dL_isSound_353 rfl ?_
                                refine lv_bipush (v := (13 : Int32)) E.hx E.hb dL_isSound_354 bp_13 ?_
                                obtain ⟨r_7, hg, hf⟩ := ob hf
                                refine k_callVi (As := [.int (13 : Int32)]) (rest := [.int w11_j351]) (ws2 := fun u => wMCo k a_p0 (a_p0in 0) (a_p0ou 0) (a_p0ru 0) (a_p0no 0) (a_p0fo 0) (a_p0rd 0) (a_p0pa 0) sv_p0 p0_0 ++ wRules k a_p0ru p0ru_0 ++ wCourt k a_p0no p0no_j351 ++ wPast k a_p0pa pp_0 p0pa_0) (c_X8_count n l k a_p0 a_p0in a_p0ou a_p0ru a_p0no a_p0fo a_p0rd a_p0pa pp_0 sv_p0 p0_0 p0ru_0 p0no_j351 p0pa_0 (13 : Int32) r_7 hg) E vl_L_84 dL_isSound_356 rfl (List.range' 0 18) 8 0 hW hA hl rfl (blk_map [] (wMCo k a_p0 (a_p0in 0) (a_p0ou 0) (a_p0ru 0) (a_p0no 0) (a_p0fo 0) (a_p0rd 0) (a_p0pa 0) sv_p0 p0_0 ++ wRules k a_p0ru p0ru_0 ++ wCourt k a_p0no p0no_j351 ++ wPast k a_p0pa pp_0 p0pa_0) [] 0 18 (by simp only [List.nil_append, List.append_nil]) rfl rfl) rfl rfl ⟨by decide, by decide⟩ ⟨by decide, by decide⟩ (Nat.le_of_ble_eq_true rfl) rfl (fun _ => rfl) (fun u => by rw [blk_put [] (wMCo k a_p0 (a_p0in 0) (a_p0ou 0) (a_p0ru 0) (a_p0no 0) (a_p0fo 0) (a_p0rd 0) (a_p0pa 0) sv_p0 p0_0 ++ wRules k a_p0ru p0ru_0 ++ wCourt k a_p0no p0no_j351 ++ wPast k a_p0pa pp_0 p0pa_0) [] (wMCo k a_p0 (a_p0in 0) (a_p0ou 0) (a_p0ru 0) (a_p0no 0) (a_p0fo 0) (a_p0rd 0) (a_p0pa 0) sv_p0 p0_0 ++ wRules k a_p0ru p0ru_0 ++ wCourt k a_p0no p0no_j351 ++ wPast k a_p0pa pp_0 p0pa_0) 0 18 (by simp only [List.nil_append, List.append_nil]) rfl rfl rfl]; try simp only [List.nil_append, List.append_nil]) (fun r u H locs hp hW => ?_)
                                cases hp
                                have hW : WD k A s.heap (wMCo k a_p0 (a_p0in 0) (a_p0ou 0) (a_p0ru 0) (a_p0no 0) (a_p0fo 0) (a_p0rd 0) (a_p0pa 0) sv_p0 p0_0 ++ wRules k a_p0ru p0ru_0 ++ wCourt k a_p0no p0no_j351 ++ wPast k a_p0pa pp_0 p0pa_0) H locs := hW
                                have J_453 : ∀ (p0no_j453 : OS) (w7_j453 : Int32) (w8_j453 : Int32) (w9_j453 : Int32) (w10_j453 : Int32) (H : Heap) (locs : List Loc) (ls : Array Slot) (hW : WD k A s.heap (wMCo k a_p0 (a_p0in 0) (a_p0ou 0) (a_p0ru 0) (a_p0no 0) (a_p0fo 0) (a_p0rd 0) (a_p0pa 0) sv_p0 p0_0 ++ wRules k a_p0ru p0ru_0 ++ wCourt k a_p0no p0no_j453 ++ wPast k a_p0pa pp_0 p0pa_0) H locs) (hl : lv_has ls 12 [(0, .ref (a_p0 0)), (1, .int v1_0), (7, .int w7_j453), (8, .int w8_j453), (9, .int w9_j453), (10, .int w10_j453)]) (hf : j_L_isSound_453 n sv_p0 p0_0 p0ru_0 p0pa_0 v1_0 p0no_j453 w7_j453 w8_j453 w9_j453 w10_j453 = some res), W p l e { frames := 4, cells := 0, slots := 0, locals := 90 } s m args below meth c H locs 0 0 Q (F0 m 453 ls []) := by
                                  intro p0no_j453 w7_j453 w8_j453 w9_j453 w10_j453 H locs ls hW hl hf
                                  unfold j_L_isSound_453 at hf
                                  refine k_iload E hl 2 dL_isSound_453 rfl ?_
                                  refine k_iload_n E hl 1 dL_isSound_455 rfl ?_
                                  refine k_aload_n E hl 0 dL_isSound_456 rfl ?_
                                  refine lv_bipush (v := (9 : Int32)) E.hx E.hb dL_isSound_457 bp_9 ?_
                                  obtain ⟨r_8, hg, hf⟩ := ob hf
                                  refine k_callVi (As := [.int (9 : Int32)]) (rest := [.int v1_0, .int w7_j453]) (ws2 := fun u => wMCo k a_p0 (a_p0in 0) (a_p0ou 0) (a_p0ru 0) (a_p0no 0) (a_p0fo 0) (a_p0rd 0) (a_p0pa 0) sv_p0 p0_0 ++ wRules k a_p0ru p0ru_0 ++ wCourt k a_p0no p0no_j453 ++ wPast k a_p0pa pp_0 p0pa_0) (c_X8_count n l k a_p0 a_p0in a_p0ou a_p0ru a_p0no a_p0fo a_p0rd a_p0pa pp_0 sv_p0 p0_0 p0ru_0 p0no_j453 p0pa_0 (9 : Int32) r_8 hg) E vl_L_84 dL_isSound_459 rfl (List.range' 0 18) 8 0 hW hA hl rfl (blk_map [] (wMCo k a_p0 (a_p0in 0) (a_p0ou 0) (a_p0ru 0) (a_p0no 0) (a_p0fo 0) (a_p0rd 0) (a_p0pa 0) sv_p0 p0_0 ++ wRules k a_p0ru p0ru_0 ++ wCourt k a_p0no p0no_j453 ++ wPast k a_p0pa pp_0 p0pa_0) [] 0 18 (by simp only [List.nil_append, List.append_nil]) rfl rfl) rfl rfl ⟨by decide, by decide⟩ ⟨by decide, by decide⟩ (Nat.le_of_ble_eq_true rfl) rfl (fun _ => rfl) (fun u => by rw [blk_put [] (wMCo k a_p0 (a_p0in 0) (a_p0ou 0) (a_p0ru 0) (a_p0no 0) (a_p0fo 0) (a_p0rd 0) (a_p0pa 0) sv_p0 p0_0 ++ wRules k a_p0ru p0ru_0 ++ wCourt k a_p0no p0no_j453 ++ wPast k a_p0pa pp_0 p0pa_0) [] (wMCo k a_p0 (a_p0in 0) (a_p0ou 0) (a_p0ru 0) (a_p0no 0) (a_p0fo 0) (a_p0rd 0) (a_p0pa 0) sv_p0 p0_0 ++ wRules k a_p0ru p0ru_0 ++ wCourt k a_p0no p0no_j453 ++ wPast k a_p0pa pp_0 p0pa_0) 0 18 (by simp only [List.nil_append, List.append_nil]) rfl rfl rfl]; try simp only [List.nil_append, List.append_nil]) (fun r u H locs hp hW => ?_)
                                  cases hp
                                  have hW : WD k A s.heap (wMCo k a_p0 (a_p0in 0) (a_p0ou 0) (a_p0ru 0) (a_p0no 0) (a_p0fo 0) (a_p0rd 0) (a_p0pa 0) sv_p0 p0_0 ++ wRules k a_p0ru p0ru_0 ++ wCourt k a_p0no p0no_j453 ++ wPast k a_p0pa pp_0 p0pa_0) H locs := hW
                                  refine lv_isub E.hx E.hb dL_isSound_462 ?_
                                  refine lv_icmp_ne (tgt := 520) E.hx E.hb dL_isSound_463 (by decide) (fun hc => ?_) (fun hc => ?_)
                                  · have hf := oF hc hf
                                    refine lv_iconst (v := (0 : Int32)) E.hx E.hb dL_isSound_520 ic_0 ?_
                                    exact hret _ p0no_j453 _ _ _ _ _ _ hW (Option.some.inj hf).symm (by decide) (by decide) (by decide) dL_isSound_521
                                  · have hf := oT hc hf
                                    refine k_iload E hl 3 dL_isSound_466 rfl ?_
                                    refine k_aload_n E hl 0 dL_isSound_468 rfl ?_
                                    refine lv_bipush (v := (14 : Int32)) E.hx E.hb dL_isSound_469 bp_14 ?_
                                    obtain ⟨r_9, hg, hf⟩ := ob hf
                                    refine k_callVi (As := [.int (14 : Int32)]) (rest := [.int w8_j453]) (ws2 := fun u => wMCo k a_p0 (a_p0in 0) (a_p0ou 0) (a_p0ru 0) (a_p0no 0) (a_p0fo 0) (a_p0rd 0) (a_p0pa 0) sv_p0 p0_0 ++ wRules k a_p0ru p0ru_0 ++ wCourt k a_p0no p0no_j453 ++ wPast k a_p0pa pp_0 p0pa_0) (c_X8_count n l k a_p0 a_p0in a_p0ou a_p0ru a_p0no a_p0fo a_p0rd a_p0pa pp_0 sv_p0 p0_0 p0ru_0 p0no_j453 p0pa_0 (14 : Int32) r_9 hg) E vl_L_84 dL_isSound_471 rfl (List.range' 0 18) 8 0 hW hA hl rfl (blk_map [] (wMCo k a_p0 (a_p0in 0) (a_p0ou 0) (a_p0ru 0) (a_p0no 0) (a_p0fo 0) (a_p0rd 0) (a_p0pa 0) sv_p0 p0_0 ++ wRules k a_p0ru p0ru_0 ++ wCourt k a_p0no p0no_j453 ++ wPast k a_p0pa pp_0 p0pa_0) [] 0 18 (by simp only [List.nil_append, List.append_nil]) rfl rfl) rfl rfl ⟨by decide, by decide⟩ ⟨by decide, by decide⟩ (Nat.le_of_ble_eq_true rfl) rfl (fun _ => rfl) (fun u => by rw [blk_put [] (wMCo k a_p0 (a_p0in 0) (a_p0ou 0) (a_p0ru 0) (a_p0no 0) (a_p0fo 0) (a_p0rd 0) (a_p0pa 0) sv_p0 p0_0 ++ wRules k a_p0ru p0ru_0 ++ wCourt k a_p0no p0no_j453 ++ wPast k a_p0pa pp_0 p0pa_0) [] (wMCo k a_p0 (a_p0in 0) (a_p0ou 0) (a_p0ru 0) (a_p0no 0) (a_p0fo 0) (a_p0rd 0) (a_p0pa 0) sv_p0 p0_0 ++ wRules k a_p0ru p0ru_0 ++ wCourt k a_p0no p0no_j453 ++ wPast k a_p0pa pp_0 p0pa_0) 0 18 (by simp only [List.nil_append, List.append_nil]) rfl rfl rfl]; try simp only [List.nil_append, List.append_nil]) (fun r u H locs hp hW => ?_)
                                    cases hp
                                    have hW : WD k A s.heap (wMCo k a_p0 (a_p0in 0) (a_p0ou 0) (a_p0ru 0) (a_p0no 0) (a_p0fo 0) (a_p0rd 0) (a_p0pa 0) sv_p0 p0_0 ++ wRules k a_p0ru p0ru_0 ++ wCourt k a_p0no p0no_j453 ++ wPast k a_p0pa pp_0 p0pa_0) H locs := hW
                                    refine lv_icmp_ne (tgt := 520) E.hx E.hb dL_isSound_474 (by decide) (fun hc => ?_) (fun hc => ?_)
                                    · have hf := oF hc hf
                                      refine lv_iconst (v := (0 : Int32)) E.hx E.hb dL_isSound_520 ic_0 ?_
                                      exact hret _ p0no_j453 _ _ _ _ _ _ hW (Option.some.inj hf).symm (by decide) (by decide) (by decide) dL_isSound_521
                                    · have hf := oT hc hf
                                      refine k_iload E hl 5 dL_isSound_477 rfl ?_
                                      refine k_iload E hl 3 dL_isSound_479 rfl ?_
                                      refine lv_icmp_ne (tgt := 520) E.hx E.hb dL_isSound_481 (by decide) (fun hc => ?_) (fun hc => ?_)
                                      · have hf := oF hc hf
                                        refine lv_iconst (v := (0 : Int32)) E.hx E.hb dL_isSound_520 ic_0 ?_
                                        exact hret _ p0no_j453 _ _ _ _ _ _ hW (Option.some.inj hf).symm (by decide) (by decide) (by decide) dL_isSound_521
                                      · have hf := oT hc hf
                                        refine k_iload E hl 4 dL_isSound_484 rfl ?_
                                        refine k_aload_n E hl 0 dL_isSound_486 rfl ?_
                                        refine lv_bipush (v := (18 : Int32)) E.hx E.hb dL_isSound_487 bp_18 ?_
                                        obtain ⟨r_10, hg, hf⟩ := ob hf
                                        refine k_callVi (As := [.int (18 : Int32)]) (rest := [.int w9_j453]) (ws2 := fun u => wMCo k a_p0 (a_p0in 0) (a_p0ou 0) (a_p0ru 0) (a_p0no 0) (a_p0fo 0) (a_p0rd 0) (a_p0pa 0) sv_p0 p0_0 ++ wRules k a_p0ru p0ru_0 ++ wCourt k a_p0no p0no_j453 ++ wPast k a_p0pa pp_0 p0pa_0) (c_X8_count n l k a_p0 a_p0in a_p0ou a_p0ru a_p0no a_p0fo a_p0rd a_p0pa pp_0 sv_p0 p0_0 p0ru_0 p0no_j453 p0pa_0 (18 : Int32) r_10 hg) E vl_L_84 dL_isSound_489 rfl (List.range' 0 18) 8 0 hW hA hl rfl (blk_map [] (wMCo k a_p0 (a_p0in 0) (a_p0ou 0) (a_p0ru 0) (a_p0no 0) (a_p0fo 0) (a_p0rd 0) (a_p0pa 0) sv_p0 p0_0 ++ wRules k a_p0ru p0ru_0 ++ wCourt k a_p0no p0no_j453 ++ wPast k a_p0pa pp_0 p0pa_0) [] 0 18 (by simp only [List.nil_append, List.append_nil]) rfl rfl) rfl rfl ⟨by decide, by decide⟩ ⟨by decide, by decide⟩ (Nat.le_of_ble_eq_true rfl) rfl (fun _ => rfl) (fun u => by rw [blk_put [] (wMCo k a_p0 (a_p0in 0) (a_p0ou 0) (a_p0ru 0) (a_p0no 0) (a_p0fo 0) (a_p0rd 0) (a_p0pa 0) sv_p0 p0_0 ++ wRules k a_p0ru p0ru_0 ++ wCourt k a_p0no p0no_j453 ++ wPast k a_p0pa pp_0 p0pa_0) [] (wMCo k a_p0 (a_p0in 0) (a_p0ou 0) (a_p0ru 0) (a_p0no 0) (a_p0fo 0) (a_p0rd 0) (a_p0pa 0) sv_p0 p0_0 ++ wRules k a_p0ru p0ru_0 ++ wCourt k a_p0no p0no_j453 ++ wPast k a_p0pa pp_0 p0pa_0) 0 18 (by simp only [List.nil_append, List.append_nil]) rfl rfl rfl]; try simp only [List.nil_append, List.append_nil]) (fun r u H locs hp hW => ?_)
                                        cases hp
                                        have hW : WD k A s.heap (wMCo k a_p0 (a_p0in 0) (a_p0ou 0) (a_p0ru 0) (a_p0no 0) (a_p0fo 0) (a_p0rd 0) (a_p0pa 0) sv_p0 p0_0 ++ wRules k a_p0ru p0ru_0 ++ wCourt k a_p0no p0no_j453 ++ wPast k a_p0pa pp_0 p0pa_0) H locs := hW
                                        refine lv_icmp_ne (tgt := 520) E.hx E.hb dL_isSound_492 (by decide) (fun hc => ?_) (fun hc => ?_)
                                        · have hf := oF hc hf
                                          refine lv_iconst (v := (0 : Int32)) E.hx E.hb dL_isSound_520 ic_0 ?_
                                          exact hret _ p0no_j453 _ _ _ _ _ _ hW (Option.some.inj hf).symm (by decide) (by decide) (by decide) dL_isSound_521
                                        · have hf := oT hc hf
                                          refine k_iload E hl 3 dL_isSound_495 rfl ?_
                                          refine lv_if_eq (tgt := 516) E.hx E.hb dL_isSound_497 (by decide) (fun hc => ?_) (fun hc => ?_)
                                          · have hf := oT hc hf
                                            refine lv_iconst (v := (1 : Int32)) E.hx E.hb dL_isSound_516 ic_1 ?_
                                            refine lv_goto (tgt := 521) E.hx E.hb dL_isSound_517 (by decide) ?_
                                            exact hret _ p0no_j453 _ _ _ _ _ _ hW (Option.some.inj hf).symm (by decide) (by decide) (by decide) dL_isSound_521
                                          · have hf := oF hc hf
                                            refine k_aload_n E hl 0 dL_isSound_500 rfl ?_
                                            refine k_aload_n E hl 0 dL_isSound_501 rfl ?_
                                            refine k_iload E hl 3 dL_isSound_502 rfl ?_
                                            refine lv_iconst (v := (1 : Int32)) E.hx E.hb dL_isSound_504 ic_1 ?_
                                            refine lv_isub E.hx E.hb dL_isSound_505 ?_
                                            obtain ⟨p0no_11, r_12, cd_13, hg, hf⟩ := ob3 hf
                                            by_cases hcd : cd_13 = 0
                                            rotate_left
                                            · have hf := oF hcd hf
                                              exact o0 hf
                                            replace hf := oT hcd hf
                                            refine k_callVi (As := [.int (w8_j453 - (1 : Int32))]) (rest := [.ref (a_p0 0)]) (ws2 := fun u => wMCo k a_p0 (a_p0in 0) (a_p0ou 0) (a_p0ru 0) (a_p0no 0) (a_p0fo 0) (a_p0rd 0) (a_p0pa 0) sv_p0 p0_0 ++ wRules k a_p0ru p0ru_0 ++ wCourt k a_p0no (u) ++ wPast k a_p0pa pp_0 p0pa_0) (c_X8_waiting n l k a_p0 a_p0in a_p0ou a_p0ru a_p0no a_p0fo a_p0rd a_p0pa sv_p0 p0_0 p0no_j453 (w8_j453 - (1 : Int32)) (p0no_11, r_12, cd_13) hg hcd) E vl_L_129 dL_isSound_506 rfl (List.range' 0 1 ++ List.range' 4 12) 8 0 hW hA hl rfl (by simp only [List.map_append]; exact app2 (blk_map [] (wMCo k a_p0 (a_p0in 0) (a_p0ou 0) (a_p0ru 0) (a_p0no 0) (a_p0fo 0) (a_p0rd 0) (a_p0pa 0) sv_p0 p0_0) (wRules k a_p0ru p0ru_0 ++ wCourt k a_p0no p0no_j453 ++ wPast k a_p0pa pp_0 p0pa_0) 0 1 (by simp only [List.append_assoc, List.nil_append, List.append_nil]) rfl rfl) (blk_map (wMCo k a_p0 (a_p0in 0) (a_p0ou 0) (a_p0ru 0) (a_p0no 0) (a_p0fo 0) (a_p0rd 0) (a_p0pa 0) sv_p0 p0_0 ++ wRules k a_p0ru p0ru_0) (wCourt k a_p0no p0no_j453) (wPast k a_p0pa pp_0 p0pa_0) 4 12 (by simp only [List.append_assoc, List.nil_append, List.append_nil]) rfl rfl)) rfl rfl ⟨by decide, by decide⟩ ⟨by decide, by decide⟩ (Nat.le_of_ble_eq_true rfl) rfl (fun _ => rfl) (fun u => by show putW _ (_ ++ _) (_ ++ _) = _; rw [putW_app _ _ _ _ _ rfl, blk_put [] (wMCo k a_p0 (a_p0in 0) (a_p0ou 0) (a_p0ru 0) (a_p0no 0) (a_p0fo 0) (a_p0rd 0) (a_p0pa 0) sv_p0 p0_0) (wRules k a_p0ru p0ru_0 ++ wCourt k a_p0no p0no_j453 ++ wPast k a_p0pa pp_0 p0pa_0) (wMCo k a_p0 (a_p0in 0) (a_p0ou 0) (a_p0ru 0) (a_p0no 0) (a_p0fo 0) (a_p0rd 0) (a_p0pa 0) sv_p0 p0_0) 0 1 (by simp only [List.append_assoc, List.nil_append, List.append_nil]) rfl rfl rfl, blk_put (wMCo k a_p0 (a_p0in 0) (a_p0ou 0) (a_p0ru 0) (a_p0no 0) (a_p0fo 0) (a_p0rd 0) (a_p0pa 0) sv_p0 p0_0 ++ wRules k a_p0ru p0ru_0) (wCourt k a_p0no p0no_j453) (wPast k a_p0pa pp_0 p0pa_0) (wCourt k a_p0no (u)) 4 12 (by simp only [List.append_assoc, List.nil_append, List.append_nil]) rfl rfl rfl]; try simp only [List.append_assoc, List.nil_append, List.append_nil]) (fun r u H locs hp hW => ?_)
                                            cases hp
                                            have hW : WD k A s.heap (wMCo k a_p0 (a_p0in 0) (a_p0ou 0) (a_p0ru 0) (a_p0no 0) (a_p0fo 0) (a_p0rd 0) (a_p0pa 0) sv_p0 p0_0 ++ wRules k a_p0ru p0ru_0 ++ wCourt k a_p0no p0no_11 ++ wPast k a_p0pa pp_0 p0pa_0) H locs := hW
                                            refine lv_iconst (v := (3 : Int32)) E.hx E.hb dL_isSound_509 ic_3 ?_
                                            obtain ⟨r_14, cd_15, hg, hf⟩ := ob2 hf
                                            by_cases hcd : cd_15 = 0
                                            rotate_left
                                            · have hf := oF hcd hf
                                              exact o0 hf
                                            replace hf := oT hcd hf
                                            refine k_callVi (As := [.int r_12, .int (3 : Int32)]) (rest := []) (ws2 := fun u => wMCo k a_p0 (a_p0in 0) (a_p0ou 0) (a_p0ru 0) (a_p0no 0) (a_p0fo 0) (a_p0rd 0) (a_p0pa 0) sv_p0 p0_0 ++ wRules k a_p0ru p0ru_0 ++ wCourt k a_p0no p0no_11 ++ wPast k a_p0pa pp_0 p0pa_0) (c_X8_claim n l k a_p0 a_p0in a_p0ou a_p0ru a_p0no a_p0fo a_p0rd a_p0pa sv_p0 p0_0 p0no_11 r_12 (3 : Int32) (r_14, cd_15) hg hcd) E vl_L_126 dL_isSound_510 rfl (List.range' 0 1 ++ List.range' 4 12) 8 0 hW hA hl rfl (by simp only [List.map_append]; exact app2 (blk_map [] (wMCo k a_p0 (a_p0in 0) (a_p0ou 0) (a_p0ru 0) (a_p0no 0) (a_p0fo 0) (a_p0rd 0) (a_p0pa 0) sv_p0 p0_0) (wRules k a_p0ru p0ru_0 ++ wCourt k a_p0no p0no_11 ++ wPast k a_p0pa pp_0 p0pa_0) 0 1 (by simp only [List.append_assoc, List.nil_append, List.append_nil]) rfl rfl) (blk_map (wMCo k a_p0 (a_p0in 0) (a_p0ou 0) (a_p0ru 0) (a_p0no 0) (a_p0fo 0) (a_p0rd 0) (a_p0pa 0) sv_p0 p0_0 ++ wRules k a_p0ru p0ru_0) (wCourt k a_p0no p0no_11) (wPast k a_p0pa pp_0 p0pa_0) 4 12 (by simp only [List.append_assoc, List.nil_append, List.append_nil]) rfl rfl)) rfl rfl ⟨by decide, by decide⟩ ⟨by decide, by decide⟩ (Nat.le_of_ble_eq_true rfl) rfl (fun _ => rfl) (fun u => by show putW _ (_ ++ _) (_ ++ _) = _; rw [putW_app _ _ _ _ _ rfl, blk_put [] (wMCo k a_p0 (a_p0in 0) (a_p0ou 0) (a_p0ru 0) (a_p0no 0) (a_p0fo 0) (a_p0rd 0) (a_p0pa 0) sv_p0 p0_0) (wRules k a_p0ru p0ru_0 ++ wCourt k a_p0no p0no_11 ++ wPast k a_p0pa pp_0 p0pa_0) (wMCo k a_p0 (a_p0in 0) (a_p0ou 0) (a_p0ru 0) (a_p0no 0) (a_p0fo 0) (a_p0rd 0) (a_p0pa 0) sv_p0 p0_0) 0 1 (by simp only [List.append_assoc, List.nil_append, List.append_nil]) rfl rfl rfl, blk_put (wMCo k a_p0 (a_p0in 0) (a_p0ou 0) (a_p0ru 0) (a_p0no 0) (a_p0fo 0) (a_p0rd 0) (a_p0pa 0) sv_p0 p0_0 ++ wRules k a_p0ru p0ru_0) (wCourt k a_p0no p0no_11) (wPast k a_p0pa pp_0 p0pa_0) (wCourt k a_p0no p0no_11) 4 12 (by simp only [List.append_assoc, List.nil_append, List.append_nil]) rfl rfl rfl]; try simp only [List.append_assoc, List.nil_append, List.append_nil]) (fun r u H locs hp hW => ?_)
                                            cases hp
                                            have hW : WD k A s.heap (wMCo k a_p0 (a_p0in 0) (a_p0ou 0) (a_p0ru 0) (a_p0no 0) (a_p0fo 0) (a_p0rd 0) (a_p0pa 0) sv_p0 p0_0 ++ wRules k a_p0ru p0ru_0 ++ wCourt k a_p0no p0no_11 ++ wPast k a_p0pa pp_0 p0pa_0) H locs := hW
                                            refine lv_if_ne (tgt := 520) E.hx E.hb dL_isSound_513 (by decide) (fun hc => ?_) (fun hc => ?_)
                                            · have hf := oF hc hf
                                              refine lv_iconst (v := (0 : Int32)) E.hx E.hb dL_isSound_520 ic_0 ?_
                                              exact hret _ p0no_11 _ _ _ _ _ _ hW (Option.some.inj hf).symm (by decide) (by decide) (by decide) dL_isSound_521
                                            · have hf := oT hc hf
                                              refine lv_iconst (v := (1 : Int32)) E.hx E.hb dL_isSound_516 ic_1 ?_
                                              refine lv_goto (tgt := 521) E.hx E.hb dL_isSound_517 (by decide) ?_
                                              exact hret _ p0no_11 _ _ _ _ _ _ hW (Option.some.inj hf).symm (by decide) (by decide) (by decide) dL_isSound_521
                                refine lv_icmp_ge (tgt := 453) E.hx E.hb dL_isSound_359 (by decide) (fun hc => ?_) (fun hc => ?_)
                                · have hf := oT hc hf
                                  exact J_453 p0no_j351 w7_j345 w8_j345 w9_j345 w10_j351 _ _ _ hW (lv_sub hl [0, 1, 2, 3, 4, 5] rfl) hf
                                · have hf := oF hc hf
                                  refine k_iload E hl 5 dL_isSound_362 rfl ?_
                                  refine k_aload_n E hl 0 dL_isSound_364 rfl ?_
                                  refine k_iload E hl 6 dL_isSound_365 rfl ?_
                                  refine lv_iconst (v := (3 : Int32)) E.hx E.hb dL_isSound_367 ic_3 ?_
                                  obtain ⟨r_16, cd_17, hg, hf⟩ := ob2 hf
                                  by_cases hcd : cd_17 = 0
                                  rotate_left
                                  · have hf := oF hcd hf
                                    exact o0 hf
                                  replace hf := oT hcd hf
                                  refine k_callVi (As := [.int w11_j351, .int (3 : Int32)]) (rest := [.int w10_j351]) (ws2 := fun u => wMCo k a_p0 (a_p0in 0) (a_p0ou 0) (a_p0ru 0) (a_p0no 0) (a_p0fo 0) (a_p0rd 0) (a_p0pa 0) sv_p0 p0_0 ++ wRules k a_p0ru p0ru_0 ++ wCourt k a_p0no p0no_j351 ++ wPast k a_p0pa pp_0 p0pa_0) (c_X8_claim n l k a_p0 a_p0in a_p0ou a_p0ru a_p0no a_p0fo a_p0rd a_p0pa sv_p0 p0_0 p0no_j351 w11_j351 (3 : Int32) (r_16, cd_17) hg hcd) E vl_L_126 dL_isSound_368 rfl (List.range' 0 1 ++ List.range' 4 12) 8 0 hW hA hl rfl (by simp only [List.map_append]; exact app2 (blk_map [] (wMCo k a_p0 (a_p0in 0) (a_p0ou 0) (a_p0ru 0) (a_p0no 0) (a_p0fo 0) (a_p0rd 0) (a_p0pa 0) sv_p0 p0_0) (wRules k a_p0ru p0ru_0 ++ wCourt k a_p0no p0no_j351 ++ wPast k a_p0pa pp_0 p0pa_0) 0 1 (by simp only [List.append_assoc, List.nil_append, List.append_nil]) rfl rfl) (blk_map (wMCo k a_p0 (a_p0in 0) (a_p0ou 0) (a_p0ru 0) (a_p0no 0) (a_p0fo 0) (a_p0rd 0) (a_p0pa 0) sv_p0 p0_0 ++ wRules k a_p0ru p0ru_0) (wCourt k a_p0no p0no_j351) (wPast k a_p0pa pp_0 p0pa_0) 4 12 (by simp only [List.append_assoc, List.nil_append, List.append_nil]) rfl rfl)) rfl rfl ⟨by decide, by decide⟩ ⟨by decide, by decide⟩ (Nat.le_of_ble_eq_true rfl) rfl (fun _ => rfl) (fun u => by show putW _ (_ ++ _) (_ ++ _) = _; rw [putW_app _ _ _ _ _ rfl, blk_put [] (wMCo k a_p0 (a_p0in 0) (a_p0ou 0) (a_p0ru 0) (a_p0no 0) (a_p0fo 0) (a_p0rd 0) (a_p0pa 0) sv_p0 p0_0) (wRules k a_p0ru p0ru_0 ++ wCourt k a_p0no p0no_j351 ++ wPast k a_p0pa pp_0 p0pa_0) (wMCo k a_p0 (a_p0in 0) (a_p0ou 0) (a_p0ru 0) (a_p0no 0) (a_p0fo 0) (a_p0rd 0) (a_p0pa 0) sv_p0 p0_0) 0 1 (by simp only [List.append_assoc, List.nil_append, List.append_nil]) rfl rfl rfl, blk_put (wMCo k a_p0 (a_p0in 0) (a_p0ou 0) (a_p0ru 0) (a_p0no 0) (a_p0fo 0) (a_p0rd 0) (a_p0pa 0) sv_p0 p0_0 ++ wRules k a_p0ru p0ru_0) (wCourt k a_p0no p0no_j351) (wPast k a_p0pa pp_0 p0pa_0) (wCourt k a_p0no p0no_j351) 4 12 (by simp only [List.append_assoc, List.nil_append, List.append_nil]) rfl rfl rfl]; try simp only [List.append_assoc, List.nil_append, List.append_nil]) (fun r u H locs hp hW => ?_)
                                  cases hp
                                  have hW : WD k A s.heap (wMCo k a_p0 (a_p0in 0) (a_p0ou 0) (a_p0ru 0) (a_p0no 0) (a_p0fo 0) (a_p0rd 0) (a_p0pa 0) sv_p0 p0_0 ++ wRules k a_p0ru p0ru_0 ++ wCourt k a_p0no p0no_j351 ++ wPast k a_p0pa pp_0 p0pa_0) H locs := hW
                                  have J_379 : ∀ (p0no_j379 : OS) (w11_j379 : Int32) (s0_j379 : Int32) (s1_j379 : Int32) (H : Heap) (locs : List Loc) (ls : Array Slot) (hW : WD k A s.heap (wMCo k a_p0 (a_p0in 0) (a_p0ou 0) (a_p0ru 0) (a_p0no 0) (a_p0fo 0) (a_p0rd 0) (a_p0pa 0) sv_p0 p0_0 ++ wRules k a_p0ru p0ru_0 ++ wCourt k a_p0no p0no_j379 ++ wPast k a_p0pa pp_0 p0pa_0) H locs) (hl : lv_has ls 12 [(0, .ref (a_p0 0)), (1, .int v1_0), (7, .int w7_j345), (8, .int w8_j345), (9, .int w9_j345), (11, .int w11_j379)]) (hf : j_L_isSound_379 n sv_p0 p0_0 p0ru_0 p0pa_0 v1_0 w7_j345 w8_j345 w9_j345 (l_L_isSound_351 n sv_p0 p0_0 p0ru_0 p0pa_0 v1_0 w7_j345 w8_j345 w9_j345 N_351) p0no_j379 w11_j379 s0_j379 s1_j379 = some res), W p l e { frames := 4, cells := 0, slots := 0, locals := 90 } s m args below meth c H locs 0 0 Q (F0 m 379 ls [.int s1_j379, .int s0_j379]) := by
                                    intro p0no_j379 w11_j379 s0_j379 s1_j379 H locs ls hW hl hf
                                    unfold j_L_isSound_379 at hf
                                    refine lv_iadd E.hx E.hb dL_isSound_379 ?_
                                    obtain ⟨v10_18, ev10_18, hf⟩ := oL hf
                                    refine k_istore (lv' := [(10, .int v10_18), (0, .ref (a_p0 0)), (1, .int v1_0), (7, .int w7_j345), (8, .int w8_j345), (9, .int w9_j345), (11, .int w11_j379)]) E ev10_18 hl dL_isSound_380 (by decide) rfl (fun ls hl => ?_)
                                    refine k_aload_n E hl 1 dL_isSound_382 rfl ?_
                                    refine k_iload E hl 6 dL_isSound_383 rfl ?_
                                    refine lv_iconst (v := (3 : Int32)) E.hx E.hb dL_isSound_385 ic_3 ?_
                                    obtain ⟨r_19, cd_20, hg, hf⟩ := ob2 hf
                                    by_cases hcd : cd_20 = 0
                                    rotate_left
                                    · have hf := oF hcd hf
                                      exact o0 hf
                                    replace hf := oT hcd hf
                                    refine k_callVi (As := [.int w11_j379, .int (3 : Int32)]) (rest := []) (ws2 := fun u => wMCo k a_p0 (a_p0in 0) (a_p0ou 0) (a_p0ru 0) (a_p0no 0) (a_p0fo 0) (a_p0rd 0) (a_p0pa 0) sv_p0 p0_0 ++ wRules k a_p0ru p0ru_0 ++ wCourt k a_p0no p0no_j379 ++ wPast k a_p0pa pp_0 p0pa_0) (c_X8_claim n l k a_p0 a_p0in a_p0ou a_p0ru a_p0no a_p0fo a_p0rd a_p0pa sv_p0 p0_0 p0no_j379 w11_j379 (3 : Int32) (r_19, cd_20) hg hcd) E vl_L_126 dL_isSound_386 rfl (List.range' 0 1 ++ List.range' 4 12) 8 0 hW hA hl rfl (by simp only [List.map_append]; exact app2 (blk_map [] (wMCo k a_p0 (a_p0in 0) (a_p0ou 0) (a_p0ru 0) (a_p0no 0) (a_p0fo 0) (a_p0rd 0) (a_p0pa 0) sv_p0 p0_0) (wRules k a_p0ru p0ru_0 ++ wCourt k a_p0no p0no_j379 ++ wPast k a_p0pa pp_0 p0pa_0) 0 1 (by simp only [List.append_assoc, List.nil_append, List.append_nil]) rfl rfl) (blk_map (wMCo k a_p0 (a_p0in 0) (a_p0ou 0) (a_p0ru 0) (a_p0no 0) (a_p0fo 0) (a_p0rd 0) (a_p0pa 0) sv_p0 p0_0 ++ wRules k a_p0ru p0ru_0) (wCourt k a_p0no p0no_j379) (wPast k a_p0pa pp_0 p0pa_0) 4 12 (by simp only [List.append_assoc, List.nil_append, List.append_nil]) rfl rfl)) rfl rfl ⟨by decide, by decide⟩ ⟨by decide, by decide⟩ (Nat.le_of_ble_eq_true rfl) rfl (fun _ => rfl) (fun u => by show putW _ (_ ++ _) (_ ++ _) = _; rw [putW_app _ _ _ _ _ rfl, blk_put [] (wMCo k a_p0 (a_p0in 0) (a_p0ou 0) (a_p0ru 0) (a_p0no 0) (a_p0fo 0) (a_p0rd 0) (a_p0pa 0) sv_p0 p0_0) (wRules k a_p0ru p0ru_0 ++ wCourt k a_p0no p0no_j379 ++ wPast k a_p0pa pp_0 p0pa_0) (wMCo k a_p0 (a_p0in 0) (a_p0ou 0) (a_p0ru 0) (a_p0no 0) (a_p0fo 0) (a_p0rd 0) (a_p0pa 0) sv_p0 p0_0) 0 1 (by simp only [List.append_assoc, List.nil_append, List.append_nil]) rfl rfl rfl, blk_put (wMCo k a_p0 (a_p0in 0) (a_p0ou 0) (a_p0ru 0) (a_p0no 0) (a_p0fo 0) (a_p0rd 0) (a_p0pa 0) sv_p0 p0_0 ++ wRules k a_p0ru p0ru_0) (wCourt k a_p0no p0no_j379) (wPast k a_p0pa pp_0 p0pa_0) (wCourt k a_p0no p0no_j379) 4 12 (by simp only [List.append_assoc, List.nil_append, List.append_nil]) rfl rfl rfl]; try simp only [List.append_assoc, List.nil_append, List.append_nil]) (fun r u H locs hp hW => ?_)
                                    cases hp
                                    have hW : WD k A s.heap (wMCo k a_p0 (a_p0in 0) (a_p0ou 0) (a_p0ru 0) (a_p0no 0) (a_p0fo 0) (a_p0rd 0) (a_p0pa 0) sv_p0 p0_0 ++ wRules k a_p0ru p0ru_0 ++ wCourt k a_p0no p0no_j379 ++ wPast k a_p0pa pp_0 p0pa_0) H locs := hW
                                    refine lv_iconst (v := (1 : Int32)) E.hx E.hb dL_isSound_389 ic_1 ?_
                                    have J_398 : ∀ (p0no_j398 : OS) (w10_j398 : Int32) (w11_j398 : Int32) (s0_j398 : Int32) (H : Heap) (locs : List Loc) (ls : Array Slot) (hW : WD k A s.heap (wMCo k a_p0 (a_p0in 0) (a_p0ou 0) (a_p0ru 0) (a_p0no 0) (a_p0fo 0) (a_p0rd 0) (a_p0pa 0) sv_p0 p0_0 ++ wRules k a_p0ru p0ru_0 ++ wCourt k a_p0no p0no_j398 ++ wPast k a_p0pa pp_0 p0pa_0) H locs) (hl : lv_has ls 12 [(0, .ref (a_p0 0)), (1, .int v1_0), (7, .int w7_j345), (8, .int w8_j345), (9, .int w9_j345), (10, .int w10_j398), (11, .int w11_j398)]) (hf : j_L_isSound_398 n sv_p0 p0_0 p0ru_0 p0pa_0 v1_0 w7_j345 w8_j345 w9_j345 (l_L_isSound_351 n sv_p0 p0_0 p0ru_0 p0pa_0 v1_0 w7_j345 w8_j345 w9_j345 N_351) p0no_j398 w10_j398 w11_j398 s0_j398 = some res), W p l e { frames := 4, cells := 0, slots := 0, locals := 90 } s m args below meth c H locs 0 0 Q (F0 m 398 ls [.int s0_j398]) := by
                                      intro p0no_j398 w10_j398 w11_j398 s0_j398 H locs ls hW hl hf
                                      unfold j_L_isSound_398 at hf
                                      refine k_aload_n E hl 0 dL_isSound_398 rfl ?_
                                      refine k_iload E hl 6 dL_isSound_399 rfl ?_
                                      refine lv_iconst (v := (5 : Int32)) E.hx E.hb dL_isSound_401 ic_5 ?_
                                      obtain ⟨r_21, cd_22, hg, hf⟩ := ob2 hf
                                      by_cases hcd : cd_22 = 0
                                      rotate_left
                                      · have hf := oF hcd hf
                                        exact o0 hf
                                      replace hf := oT hcd hf
                                      refine k_callVi (As := [.int w11_j398, .int (5 : Int32)]) (rest := [.int s0_j398]) (ws2 := fun u => wMCo k a_p0 (a_p0in 0) (a_p0ou 0) (a_p0ru 0) (a_p0no 0) (a_p0fo 0) (a_p0rd 0) (a_p0pa 0) sv_p0 p0_0 ++ wRules k a_p0ru p0ru_0 ++ wCourt k a_p0no p0no_j398 ++ wPast k a_p0pa pp_0 p0pa_0) (c_X8_claim n l k a_p0 a_p0in a_p0ou a_p0ru a_p0no a_p0fo a_p0rd a_p0pa sv_p0 p0_0 p0no_j398 w11_j398 (5 : Int32) (r_21, cd_22) hg hcd) E vl_L_126 dL_isSound_402 rfl (List.range' 0 1 ++ List.range' 4 12) 8 0 hW hA hl rfl (by simp only [List.map_append]; exact app2 (blk_map [] (wMCo k a_p0 (a_p0in 0) (a_p0ou 0) (a_p0ru 0) (a_p0no 0) (a_p0fo 0) (a_p0rd 0) (a_p0pa 0) sv_p0 p0_0) (wRules k a_p0ru p0ru_0 ++ wCourt k a_p0no p0no_j398 ++ wPast k a_p0pa pp_0 p0pa_0) 0 1 (by simp only [List.append_assoc, List.nil_append, List.append_nil]) rfl rfl) (blk_map (wMCo k a_p0 (a_p0in 0) (a_p0ou 0) (a_p0ru 0) (a_p0no 0) (a_p0fo 0) (a_p0rd 0) (a_p0pa 0) sv_p0 p0_0 ++ wRules k a_p0ru p0ru_0) (wCourt k a_p0no p0no_j398) (wPast k a_p0pa pp_0 p0pa_0) 4 12 (by simp only [List.append_assoc, List.nil_append, List.append_nil]) rfl rfl)) rfl rfl ⟨by decide, by decide⟩ ⟨by decide, by decide⟩ (Nat.le_of_ble_eq_true rfl) rfl (fun _ => rfl) (fun u => by show putW _ (_ ++ _) (_ ++ _) = _; rw [putW_app _ _ _ _ _ rfl, blk_put [] (wMCo k a_p0 (a_p0in 0) (a_p0ou 0) (a_p0ru 0) (a_p0no 0) (a_p0fo 0) (a_p0rd 0) (a_p0pa 0) sv_p0 p0_0) (wRules k a_p0ru p0ru_0 ++ wCourt k a_p0no p0no_j398 ++ wPast k a_p0pa pp_0 p0pa_0) (wMCo k a_p0 (a_p0in 0) (a_p0ou 0) (a_p0ru 0) (a_p0no 0) (a_p0fo 0) (a_p0rd 0) (a_p0pa 0) sv_p0 p0_0) 0 1 (by simp only [List.append_assoc, List.nil_append, List.append_nil]) rfl rfl rfl, blk_put (wMCo k a_p0 (a_p0in 0) (a_p0ou 0) (a_p0ru 0) (a_p0no 0) (a_p0fo 0) (a_p0rd 0) (a_p0pa 0) sv_p0 p0_0 ++ wRules k a_p0ru p0ru_0) (wCourt k a_p0no p0no_j398) (wPast k a_p0pa pp_0 p0pa_0) (wCourt k a_p0no p0no_j398) 4 12 (by simp only [List.append_assoc, List.nil_append, List.append_nil]) rfl rfl rfl]; try simp only [List.append_assoc, List.nil_append, List.append_nil]) (fun r u H locs hp hW => ?_)
                                      cases hp
                                      have hW : WD k A s.heap (wMCo k a_p0 (a_p0in 0) (a_p0ou 0) (a_p0ru 0) (a_p0no 0) (a_p0fo 0) (a_p0rd 0) (a_p0pa 0) sv_p0 p0_0 ++ wRules k a_p0ru p0ru_0 ++ wCourt k a_p0no p0no_j398 ++ wPast k a_p0pa pp_0 p0pa_0) H locs := hW
                                      refine lv_iconst (v := (-1 : Int32)) E.hx E.hb dL_isSound_405 ic_m1 ?_
                                      have J_414 : ∀ (p0no_j414 : OS) (w10_j414 : Int32) (w11_j414 : Int32) (s0_j414 : Int32) (s1_j414 : Int32) (H : Heap) (locs : List Loc) (ls : Array Slot) (hW : WD k A s.heap (wMCo k a_p0 (a_p0in 0) (a_p0ou 0) (a_p0ru 0) (a_p0no 0) (a_p0fo 0) (a_p0rd 0) (a_p0pa 0) sv_p0 p0_0 ++ wRules k a_p0ru p0ru_0 ++ wCourt k a_p0no p0no_j414 ++ wPast k a_p0pa pp_0 p0pa_0) H locs) (hl : lv_has ls 12 [(0, .ref (a_p0 0)), (1, .int v1_0), (7, .int w7_j345), (8, .int w8_j345), (9, .int w9_j345), (10, .int w10_j414), (11, .int w11_j414)]) (hf : j_L_isSound_414 n sv_p0 p0_0 p0ru_0 p0pa_0 v1_0 w7_j345 w8_j345 w9_j345 (l_L_isSound_351 n sv_p0 p0_0 p0ru_0 p0pa_0 v1_0 w7_j345 w8_j345 w9_j345 N_351) p0no_j414 w10_j414 w11_j414 s0_j414 s1_j414 = some res), W p l e { frames := 4, cells := 0, slots := 0, locals := 90 } s m args below meth c H locs 0 0 Q (F0 m 414 ls [.int s1_j414, .int s0_j414]) := by
                                        intro p0no_j414 w10_j414 w11_j414 s0_j414 s1_j414 H locs ls hW hl hf
                                        unfold j_L_isSound_414 at hf
                                        refine lv_icmp_ne (tgt := 445) E.hx E.hb dL_isSound_414 (by decide) (fun hc => ?_) (fun hc => ?_)
                                        · have hf := oF hc hf
                                          refine lv_iconst (v := (0 : Int32)) E.hx E.hb dL_isSound_445 ic_0 ?_
                                          exact hret _ p0no_j414 _ _ _ _ _ _ hW (Option.some.inj hf).symm (by decide) (by decide) (by decide) dL_isSound_446
                                        · have hf := oT hc hf
                                          refine k_aload_n E hl 0 dL_isSound_417 rfl ?_
                                          refine k_iload E hl 6 dL_isSound_418 rfl ?_
                                          refine lv_iconst (v := (5 : Int32)) E.hx E.hb dL_isSound_420 ic_5 ?_
                                          obtain ⟨r_23, cd_24, hg, hf⟩ := ob2 hf
                                          by_cases hcd : cd_24 = 0
                                          rotate_left
                                          · have hf := oF hcd hf
                                            exact o0 hf
                                          replace hf := oT hcd hf
                                          refine k_callVi (As := [.int w11_j414, .int (5 : Int32)]) (rest := []) (ws2 := fun u => wMCo k a_p0 (a_p0in 0) (a_p0ou 0) (a_p0ru 0) (a_p0no 0) (a_p0fo 0) (a_p0rd 0) (a_p0pa 0) sv_p0 p0_0 ++ wRules k a_p0ru p0ru_0 ++ wCourt k a_p0no p0no_j414 ++ wPast k a_p0pa pp_0 p0pa_0) (c_X8_claim n l k a_p0 a_p0in a_p0ou a_p0ru a_p0no a_p0fo a_p0rd a_p0pa sv_p0 p0_0 p0no_j414 w11_j414 (5 : Int32) (r_23, cd_24) hg hcd) E vl_L_126 dL_isSound_421 rfl (List.range' 0 1 ++ List.range' 4 12) 8 0 hW hA hl rfl (by simp only [List.map_append]; exact app2 (blk_map [] (wMCo k a_p0 (a_p0in 0) (a_p0ou 0) (a_p0ru 0) (a_p0no 0) (a_p0fo 0) (a_p0rd 0) (a_p0pa 0) sv_p0 p0_0) (wRules k a_p0ru p0ru_0 ++ wCourt k a_p0no p0no_j414 ++ wPast k a_p0pa pp_0 p0pa_0) 0 1 (by simp only [List.append_assoc, List.nil_append, List.append_nil]) rfl rfl) (blk_map (wMCo k a_p0 (a_p0in 0) (a_p0ou 0) (a_p0ru 0) (a_p0no 0) (a_p0fo 0) (a_p0rd 0) (a_p0pa 0) sv_p0 p0_0 ++ wRules k a_p0ru p0ru_0) (wCourt k a_p0no p0no_j414) (wPast k a_p0pa pp_0 p0pa_0) 4 12 (by simp only [List.append_assoc, List.nil_append, List.append_nil]) rfl rfl)) rfl rfl ⟨by decide, by decide⟩ ⟨by decide, by decide⟩ (Nat.le_of_ble_eq_true rfl) rfl (fun _ => rfl) (fun u => by show putW _ (_ ++ _) (_ ++ _) = _; rw [putW_app _ _ _ _ _ rfl, blk_put [] (wMCo k a_p0 (a_p0in 0) (a_p0ou 0) (a_p0ru 0) (a_p0no 0) (a_p0fo 0) (a_p0rd 0) (a_p0pa 0) sv_p0 p0_0) (wRules k a_p0ru p0ru_0 ++ wCourt k a_p0no p0no_j414 ++ wPast k a_p0pa pp_0 p0pa_0) (wMCo k a_p0 (a_p0in 0) (a_p0ou 0) (a_p0ru 0) (a_p0no 0) (a_p0fo 0) (a_p0rd 0) (a_p0pa 0) sv_p0 p0_0) 0 1 (by simp only [List.append_assoc, List.nil_append, List.append_nil]) rfl rfl rfl, blk_put (wMCo k a_p0 (a_p0in 0) (a_p0ou 0) (a_p0ru 0) (a_p0no 0) (a_p0fo 0) (a_p0rd 0) (a_p0pa 0) sv_p0 p0_0 ++ wRules k a_p0ru p0ru_0) (wCourt k a_p0no p0no_j414) (wPast k a_p0pa pp_0 p0pa_0) (wCourt k a_p0no p0no_j414) 4 12 (by simp only [List.append_assoc, List.nil_append, List.append_nil]) rfl rfl rfl]; try simp only [List.append_assoc, List.nil_append, List.append_nil]) (fun r u H locs hp hW => ?_)
                                          cases hp
                                          have hW : WD k A s.heap (wMCo k a_p0 (a_p0in 0) (a_p0ou 0) (a_p0ru 0) (a_p0no 0) (a_p0fo 0) (a_p0rd 0) (a_p0pa 0) sv_p0 p0_0 ++ wRules k a_p0ru p0ru_0 ++ wCourt k a_p0no p0no_j414 ++ wPast k a_p0pa pp_0 p0pa_0) H locs := hW
                                          refine lv_iconst (v := (-1 : Int32)) E.hx E.hb dL_isSound_424 ic_m1 ?_
                                          refine lv_icmp_eq (tgt := 447) E.hx E.hb dL_isSound_425 (by decide) (fun hc => ?_) (fun hc => ?_)
                                          · have hf := oT hc hf
                                            obtain ⟨v11_25, ev11_25, hf⟩ := oL hf
                                            refine k_iinc (lv' := [(11, .int v11_25), (0, .ref (a_p0 0)), (1, .int v1_0), (7, .int w7_j345), (8, .int w8_j345), (9, .int w9_j345), (10, .int w10_j414)]) E hl 6 dL_isSound_447 rfl (ev11_25.trans (congrArg (fun z => w11_j414 + z) ic_1.symm)) (by decide) rfl (fun ls hl => ?_)
                                            refine lv_goto (tgt := 351) E.hx E.hb dL_isSound_450 (by decide) ?_
                                            exact ih_351 p0no_j414 w10_j414 v11_25 _ _ _ hW (lv_sub hl [1, 2, 3, 4, 5, 6, 0] rfl) hf
                                          · have hf := oF hc hf
                                            refine k_aload_n E hl 0 dL_isSound_428 rfl ?_
                                            refine k_aload_n E hl 0 dL_isSound_429 rfl ?_
                                            refine k_iload E hl 6 dL_isSound_430 rfl ?_
                                            refine lv_iconst (v := (5 : Int32)) E.hx E.hb dL_isSound_432 ic_5 ?_
                                            obtain ⟨r_26, cd_27, hg, hf⟩ := ob2 hf
                                            by_cases hcd : cd_27 = 0
                                            rotate_left
                                            · have hf := oF hcd hf
                                              exact o0 hf
                                            replace hf := oT hcd hf
                                            refine k_callVi (As := [.int w11_j414, .int (5 : Int32)]) (rest := [.ref (a_p0 0)]) (ws2 := fun u => wMCo k a_p0 (a_p0in 0) (a_p0ou 0) (a_p0ru 0) (a_p0no 0) (a_p0fo 0) (a_p0rd 0) (a_p0pa 0) sv_p0 p0_0 ++ wRules k a_p0ru p0ru_0 ++ wCourt k a_p0no p0no_j414 ++ wPast k a_p0pa pp_0 p0pa_0) (c_X8_claim n l k a_p0 a_p0in a_p0ou a_p0ru a_p0no a_p0fo a_p0rd a_p0pa sv_p0 p0_0 p0no_j414 w11_j414 (5 : Int32) (r_26, cd_27) hg hcd) E vl_L_126 dL_isSound_433 rfl (List.range' 0 1 ++ List.range' 4 12) 8 0 hW hA hl rfl (by simp only [List.map_append]; exact app2 (blk_map [] (wMCo k a_p0 (a_p0in 0) (a_p0ou 0) (a_p0ru 0) (a_p0no 0) (a_p0fo 0) (a_p0rd 0) (a_p0pa 0) sv_p0 p0_0) (wRules k a_p0ru p0ru_0 ++ wCourt k a_p0no p0no_j414 ++ wPast k a_p0pa pp_0 p0pa_0) 0 1 (by simp only [List.append_assoc, List.nil_append, List.append_nil]) rfl rfl) (blk_map (wMCo k a_p0 (a_p0in 0) (a_p0ou 0) (a_p0ru 0) (a_p0no 0) (a_p0fo 0) (a_p0rd 0) (a_p0pa 0) sv_p0 p0_0 ++ wRules k a_p0ru p0ru_0) (wCourt k a_p0no p0no_j414) (wPast k a_p0pa pp_0 p0pa_0) 4 12 (by simp only [List.append_assoc, List.nil_append, List.append_nil]) rfl rfl)) rfl rfl ⟨by decide, by decide⟩ ⟨by decide, by decide⟩ (Nat.le_of_ble_eq_true rfl) rfl (fun _ => rfl) (fun u => by show putW _ (_ ++ _) (_ ++ _) = _; rw [putW_app _ _ _ _ _ rfl, blk_put [] (wMCo k a_p0 (a_p0in 0) (a_p0ou 0) (a_p0ru 0) (a_p0no 0) (a_p0fo 0) (a_p0rd 0) (a_p0pa 0) sv_p0 p0_0) (wRules k a_p0ru p0ru_0 ++ wCourt k a_p0no p0no_j414 ++ wPast k a_p0pa pp_0 p0pa_0) (wMCo k a_p0 (a_p0in 0) (a_p0ou 0) (a_p0ru 0) (a_p0no 0) (a_p0fo 0) (a_p0rd 0) (a_p0pa 0) sv_p0 p0_0) 0 1 (by simp only [List.append_assoc, List.nil_append, List.append_nil]) rfl rfl rfl, blk_put (wMCo k a_p0 (a_p0in 0) (a_p0ou 0) (a_p0ru 0) (a_p0no 0) (a_p0fo 0) (a_p0rd 0) (a_p0pa 0) sv_p0 p0_0 ++ wRules k a_p0ru p0ru_0) (wCourt k a_p0no p0no_j414) (wPast k a_p0pa pp_0 p0pa_0) (wCourt k a_p0no p0no_j414) 4 12 (by simp only [List.append_assoc, List.nil_append, List.append_nil]) rfl rfl rfl]; try simp only [List.append_assoc, List.nil_append, List.append_nil]) (fun r u H locs hp hW => ?_)
                                            cases hp
                                            have hW : WD k A s.heap (wMCo k a_p0 (a_p0in 0) (a_p0ou 0) (a_p0ru 0) (a_p0no 0) (a_p0fo 0) (a_p0rd 0) (a_p0pa 0) sv_p0 p0_0 ++ wRules k a_p0ru p0ru_0 ++ wCourt k a_p0no p0no_j414 ++ wPast k a_p0pa pp_0 p0pa_0) H locs := hW
                                            refine lv_iconst (v := (4 : Int32)) E.hx E.hb dL_isSound_436 ic_4 ?_
                                            obtain ⟨r_28, cd_29, hg, hf⟩ := ob2 hf
                                            by_cases hcd : cd_29 = 0
                                            rotate_left
                                            · have hf := oF hcd hf
                                              exact o0 hf
                                            replace hf := oT hcd hf
                                            refine k_callVi (As := [.int r_26, .int (4 : Int32)]) (rest := []) (ws2 := fun u => wMCo k a_p0 (a_p0in 0) (a_p0ou 0) (a_p0ru 0) (a_p0no 0) (a_p0fo 0) (a_p0rd 0) (a_p0pa 0) sv_p0 p0_0 ++ wRules k a_p0ru p0ru_0 ++ wCourt k a_p0no p0no_j414 ++ wPast k a_p0pa pp_0 p0pa_0) (c_X8_loan n l k a_p0 a_p0in a_p0ou a_p0ru a_p0no a_p0fo a_p0rd a_p0pa sv_p0 p0_0 p0no_j414 r_26 (4 : Int32) (r_28, cd_29) hg hcd) E vl_L_99 dL_isSound_437 rfl (List.range' 0 1 ++ List.range' 4 12) 8 0 hW hA hl rfl (by simp only [List.map_append]; exact app2 (blk_map [] (wMCo k a_p0 (a_p0in 0) (a_p0ou 0) (a_p0ru 0) (a_p0no 0) (a_p0fo 0) (a_p0rd 0) (a_p0pa 0) sv_p0 p0_0) (wRules k a_p0ru p0ru_0 ++ wCourt k a_p0no p0no_j414 ++ wPast k a_p0pa pp_0 p0pa_0) 0 1 (by simp only [List.append_assoc, List.nil_append, List.append_nil]) rfl rfl) (blk_map (wMCo k a_p0 (a_p0in 0) (a_p0ou 0) (a_p0ru 0) (a_p0no 0) (a_p0fo 0) (a_p0rd 0) (a_p0pa 0) sv_p0 p0_0 ++ wRules k a_p0ru p0ru_0) (wCourt k a_p0no p0no_j414) (wPast k a_p0pa pp_0 p0pa_0) 4 12 (by simp only [List.append_assoc, List.nil_append, List.append_nil]) rfl rfl)) rfl rfl ⟨by decide, by decide⟩ ⟨by decide, by decide⟩ (Nat.le_of_ble_eq_true rfl) rfl (fun _ => rfl) (fun u => by show putW _ (_ ++ _) (_ ++ _) = _; rw [putW_app _ _ _ _ _ rfl, blk_put [] (wMCo k a_p0 (a_p0in 0) (a_p0ou 0) (a_p0ru 0) (a_p0no 0) (a_p0fo 0) (a_p0rd 0) (a_p0pa 0) sv_p0 p0_0) (wRules k a_p0ru p0ru_0 ++ wCourt k a_p0no p0no_j414 ++ wPast k a_p0pa pp_0 p0pa_0) (wMCo k a_p0 (a_p0in 0) (a_p0ou 0) (a_p0ru 0) (a_p0no 0) (a_p0fo 0) (a_p0rd 0) (a_p0pa 0) sv_p0 p0_0) 0 1 (by simp only [List.append_assoc, List.nil_append, List.append_nil]) rfl rfl rfl, blk_put (wMCo k a_p0 (a_p0in 0) (a_p0ou 0) (a_p0ru 0) (a_p0no 0) (a_p0fo 0) (a_p0rd 0) (a_p0pa 0) sv_p0 p0_0 ++ wRules k a_p0ru p0ru_0) (wCourt k a_p0no p0no_j414) (wPast k a_p0pa pp_0 p0pa_0) (wCourt k a_p0no p0no_j414) 4 12 (by simp only [List.append_assoc, List.nil_append, List.append_nil]) rfl rfl rfl]; try simp only [List.append_assoc, List.nil_append, List.append_nil]) (fun r u H locs hp hW => ?_)
                                            cases hp
                                            have hW : WD k A s.heap (wMCo k a_p0 (a_p0in 0) (a_p0ou 0) (a_p0ru 0) (a_p0no 0) (a_p0fo 0) (a_p0rd 0) (a_p0pa 0) sv_p0 p0_0 ++ wRules k a_p0ru p0ru_0 ++ wCourt k a_p0no p0no_j414 ++ wPast k a_p0pa pp_0 p0pa_0) H locs := hW
                                            refine k_iload E hl 6 dL_isSound_440 rfl ?_
                                            refine lv_icmp_eq (tgt := 447) E.hx E.hb dL_isSound_442 (by decide) (fun hc => ?_) (fun hc => ?_)
                                            · have hf := oT hc hf
                                              obtain ⟨v11_30, ev11_30, hf⟩ := oL hf
                                              refine k_iinc (lv' := [(11, .int v11_30), (0, .ref (a_p0 0)), (1, .int v1_0), (7, .int w7_j345), (8, .int w8_j345), (9, .int w9_j345), (10, .int w10_j414)]) E hl 6 dL_isSound_447 rfl (ev11_30.trans (congrArg (fun z => w11_j414 + z) ic_1.symm)) (by decide) rfl (fun ls hl => ?_)
                                              refine lv_goto (tgt := 351) E.hx E.hb dL_isSound_450 (by decide) ?_
                                              exact ih_351 p0no_j414 w10_j414 v11_30 _ _ _ hW (lv_sub hl [1, 2, 3, 4, 5, 6, 0] rfl) hf
                                            · have hf := oF hc hf
                                              refine lv_iconst (v := (0 : Int32)) E.hx E.hb dL_isSound_445 ic_0 ?_
                                              exact hret _ p0no_j414 _ _ _ _ _ _ hW (Option.some.inj hf).symm (by decide) (by decide) (by decide) dL_isSound_446
                                      refine lv_icmp_eq (tgt := 413) E.hx E.hb dL_isSound_406 (by decide) (fun hc => ?_) (fun hc => ?_)
                                      · have hf := oT hc hf
                                        refine lv_iconst (v := (0 : Int32)) E.hx E.hb dL_isSound_413 ic_0 ?_
                                        exact J_414 p0no_j398 w10_j398 w11_j398 s0_j398 (0 : Int32) _ _ _ hW (lv_sub hl [0, 1, 2, 3, 4, 5, 6] rfl) hf
                                      · have hf := oF hc hf
                                        refine lv_iconst (v := (1 : Int32)) E.hx E.hb dL_isSound_409 ic_1 ?_
                                        refine lv_goto (tgt := 414) E.hx E.hb dL_isSound_410 (by decide) ?_
                                        exact J_414 p0no_j398 w10_j398 w11_j398 s0_j398 (1 : Int32) _ _ _ hW (lv_sub hl [0, 1, 2, 3, 4, 5, 6] rfl) hf
                                    refine lv_icmp_ne (tgt := 397) E.hx E.hb dL_isSound_390 (by decide) (fun hc => ?_) (fun hc => ?_)
                                    · have hf := oF hc hf
                                      refine lv_iconst (v := (0 : Int32)) E.hx E.hb dL_isSound_397 ic_0 ?_
                                      exact J_398 p0no_j379 v10_18 w11_j379 (0 : Int32) _ _ _ hW (lv_sub hl [1, 2, 3, 4, 5, 0, 6] rfl) hf
                                    · have hf := oT hc hf
                                      refine lv_iconst (v := (1 : Int32)) E.hx E.hb dL_isSound_393 ic_1 ?_
                                      refine lv_goto (tgt := 398) E.hx E.hb dL_isSound_394 (by decide) ?_
                                      exact J_398 p0no_j379 v10_18 w11_j379 (1 : Int32) _ _ _ hW (lv_sub hl [1, 2, 3, 4, 5, 0, 6] rfl) hf
                                  refine lv_if_ne (tgt := 378) E.hx E.hb dL_isSound_371 (by decide) (fun hc => ?_) (fun hc => ?_)
                                  · have hf := oF hc hf
                                    refine lv_iconst (v := (0 : Int32)) E.hx E.hb dL_isSound_378 ic_0 ?_
                                    exact J_379 p0no_j351 w11_j351 w10_j351 (0 : Int32) _ _ _ hW (lv_sub hl [0, 1, 2, 3, 4, 6] rfl) hf
                                  · have hf := oT hc hf
                                    refine lv_iconst (v := (1 : Int32)) E.hx E.hb dL_isSound_374 ic_1 ?_
                                    refine lv_goto (tgt := 379) E.hx E.hb dL_isSound_375 (by decide) ?_
                                    exact J_379 p0no_j351 w11_j351 w10_j351 (1 : Int32) _ _ _ hW (lv_sub hl [0, 1, 2, 3, 4, 6] rfl) hf
                            exact L_351 n p0no_j345 (0 : Int32) (0 : Int32) _ _ _ hW (lv_sub hl [2, 3, 4, 5, 6, 1, 0] rfl) hf
                          refine lv_icmp_ge (tgt := 345) E.hx E.hb dL_isSound_250 (by decide) (fun hc => ?_) (fun hc => ?_)
                          · have hf := oT hc hf
                            exact J_345 p0no_j247 w7_j247 w8_j247 w9_j247 _ _ _ hW (lv_sub hl [0, 1, 3, 4, 5] rfl) hf
                          · have hf := oF hc hf
                            refine k_iload E hl 3 dL_isSound_253 rfl ?_
                            refine k_aload_n E hl 0 dL_isSound_255 rfl ?_
                            refine k_iload E hl 6 dL_isSound_256 rfl ?_
                            refine lv_iconst (v := (3 : Int32)) E.hx E.hb dL_isSound_258 ic_3 ?_
                            obtain ⟨r_31, cd_32, hg, hf⟩ := ob2 hf
                            by_cases hcd : cd_32 = 0
                            rotate_left
                            · have hf := oF hcd hf
                              exact o0 hf
                            replace hf := oT hcd hf
                            refine k_callVi (As := [.int w10_j247, .int (3 : Int32)]) (rest := [.int w7_j247]) (ws2 := fun u => wMCo k a_p0 (a_p0in 0) (a_p0ou 0) (a_p0ru 0) (a_p0no 0) (a_p0fo 0) (a_p0rd 0) (a_p0pa 0) sv_p0 p0_0 ++ wRules k a_p0ru p0ru_0 ++ wCourt k a_p0no p0no_j247 ++ wPast k a_p0pa pp_0 p0pa_0) (c_X8_process n l k a_p0 a_p0in a_p0ou a_p0ru a_p0no a_p0fo a_p0rd a_p0pa sv_p0 p0_0 p0ru_0 p0no_j247 w10_j247 (3 : Int32) (r_31, cd_32) hg hcd) E vl_L_123 dL_isSound_259 rfl (List.range' 0 1 ++ List.range' 1 3 ++ List.range' 4 12) 8 0 hW hA hl rfl (by simp only [List.map_append]; exact app2 (app2 (blk_map [] (wMCo k a_p0 (a_p0in 0) (a_p0ou 0) (a_p0ru 0) (a_p0no 0) (a_p0fo 0) (a_p0rd 0) (a_p0pa 0) sv_p0 p0_0) (wRules k a_p0ru p0ru_0 ++ wCourt k a_p0no p0no_j247 ++ wPast k a_p0pa pp_0 p0pa_0) 0 1 (by simp only [List.append_assoc, List.nil_append, List.append_nil]) rfl rfl) (blk_map (wMCo k a_p0 (a_p0in 0) (a_p0ou 0) (a_p0ru 0) (a_p0no 0) (a_p0fo 0) (a_p0rd 0) (a_p0pa 0) sv_p0 p0_0) (wRules k a_p0ru p0ru_0) (wCourt k a_p0no p0no_j247 ++ wPast k a_p0pa pp_0 p0pa_0) 1 3 (by simp only [List.append_assoc, List.nil_append, List.append_nil]) rfl rfl)) (blk_map (wMCo k a_p0 (a_p0in 0) (a_p0ou 0) (a_p0ru 0) (a_p0no 0) (a_p0fo 0) (a_p0rd 0) (a_p0pa 0) sv_p0 p0_0 ++ wRules k a_p0ru p0ru_0) (wCourt k a_p0no p0no_j247) (wPast k a_p0pa pp_0 p0pa_0) 4 12 (by simp only [List.append_assoc, List.nil_append, List.append_nil]) rfl rfl)) rfl rfl ⟨by decide, by decide⟩ ⟨by decide, by decide⟩ (Nat.le_of_ble_eq_true rfl) rfl (fun _ => rfl) (fun u => by show putW _ (_ ++ _) (_ ++ _) = _; rw [putW_app _ _ _ _ _ rfl, putW_app _ _ _ _ _ rfl, blk_put [] (wMCo k a_p0 (a_p0in 0) (a_p0ou 0) (a_p0ru 0) (a_p0no 0) (a_p0fo 0) (a_p0rd 0) (a_p0pa 0) sv_p0 p0_0) (wRules k a_p0ru p0ru_0 ++ wCourt k a_p0no p0no_j247 ++ wPast k a_p0pa pp_0 p0pa_0) (wMCo k a_p0 (a_p0in 0) (a_p0ou 0) (a_p0ru 0) (a_p0no 0) (a_p0fo 0) (a_p0rd 0) (a_p0pa 0) sv_p0 p0_0) 0 1 (by simp only [List.append_assoc, List.nil_append, List.append_nil]) rfl rfl rfl, blk_put (wMCo k a_p0 (a_p0in 0) (a_p0ou 0) (a_p0ru 0) (a_p0no 0) (a_p0fo 0) (a_p0rd 0) (a_p0pa 0) sv_p0 p0_0) (wRules k a_p0ru p0ru_0) (wCourt k a_p0no p0no_j247 ++ wPast k a_p0pa pp_0 p0pa_0) (wRules k a_p0ru p0ru_0) 1 3 (by simp only [List.append_assoc, List.nil_append, List.append_nil]) rfl rfl rfl, blk_put (wMCo k a_p0 (a_p0in 0) (a_p0ou 0) (a_p0ru 0) (a_p0no 0) (a_p0fo 0) (a_p0rd 0) (a_p0pa 0) sv_p0 p0_0 ++ wRules k a_p0ru p0ru_0) (wCourt k a_p0no p0no_j247) (wPast k a_p0pa pp_0 p0pa_0) (wCourt k a_p0no p0no_j247) 4 12 (by simp only [List.append_assoc, List.nil_append, List.append_nil]) rfl rfl rfl]; try simp only [List.append_assoc, List.nil_append, List.append_nil]) (fun r u H locs hp hW => ?_)
                            cases hp
                            have hW : WD k A s.heap (wMCo k a_p0 (a_p0in 0) (a_p0ou 0) (a_p0ru 0) (a_p0no 0) (a_p0fo 0) (a_p0rd 0) (a_p0pa 0) sv_p0 p0_0 ++ wRules k a_p0ru p0ru_0 ++ wCourt k a_p0no p0no_j247 ++ wPast k a_p0pa pp_0 p0pa_0) H locs := hW
                            refine lv_iadd E.hx E.hb dL_isSound_262 ?_
                            obtain ⟨v7_33, ev7_33, hf⟩ := oL hf
                            refine k_istore (lv' := [(7, .int v7_33), (0, .ref (a_p0 0)), (1, .int v1_0), (2, .int v2_0), (8, .int w8_j247), (9, .int w9_j247), (10, .int w10_j247)]) E ev7_33 hl dL_isSound_263 (by decide) rfl (fun ls hl => ?_)
                            refine k_iload E hl 4 dL_isSound_265 rfl ?_
                            refine k_aload_n E hl 1 dL_isSound_267 rfl ?_
                            refine k_iload E hl 6 dL_isSound_268 rfl ?_
                            refine lv_bipush (v := (6 : Int32)) E.hx E.hb dL_isSound_270 bp_6 ?_
                            obtain ⟨r_34, cd_35, hg, hf⟩ := ob2 hf
                            by_cases hcd : cd_35 = 0
                            rotate_left
                            · have hf := oF hcd hf
                              exact o0 hf
                            replace hf := oT hcd hf
                            refine k_callVi (As := [.int w10_j247, .int (6 : Int32)]) (rest := [.int w8_j247]) (ws2 := fun u => wMCo k a_p0 (a_p0in 0) (a_p0ou 0) (a_p0ru 0) (a_p0no 0) (a_p0fo 0) (a_p0rd 0) (a_p0pa 0) sv_p0 p0_0 ++ wRules k a_p0ru p0ru_0 ++ wCourt k a_p0no p0no_j247 ++ wPast k a_p0pa pp_0 p0pa_0) (c_X8_process n l k a_p0 a_p0in a_p0ou a_p0ru a_p0no a_p0fo a_p0rd a_p0pa sv_p0 p0_0 p0ru_0 p0no_j247 w10_j247 (6 : Int32) (r_34, cd_35) hg hcd) E vl_L_123 dL_isSound_272 rfl (List.range' 0 1 ++ List.range' 1 3 ++ List.range' 4 12) 8 0 hW hA hl rfl (by simp only [List.map_append]; exact app2 (app2 (blk_map [] (wMCo k a_p0 (a_p0in 0) (a_p0ou 0) (a_p0ru 0) (a_p0no 0) (a_p0fo 0) (a_p0rd 0) (a_p0pa 0) sv_p0 p0_0) (wRules k a_p0ru p0ru_0 ++ wCourt k a_p0no p0no_j247 ++ wPast k a_p0pa pp_0 p0pa_0) 0 1 (by simp only [List.append_assoc, List.nil_append, List.append_nil]) rfl rfl) (blk_map (wMCo k a_p0 (a_p0in 0) (a_p0ou 0) (a_p0ru 0) (a_p0no 0) (a_p0fo 0) (a_p0rd 0) (a_p0pa 0) sv_p0 p0_0) (wRules k a_p0ru p0ru_0) (wCourt k a_p0no p0no_j247 ++ wPast k a_p0pa pp_0 p0pa_0) 1 3 (by simp only [List.append_assoc, List.nil_append, List.append_nil]) rfl rfl)) (blk_map (wMCo k a_p0 (a_p0in 0) (a_p0ou 0) (a_p0ru 0) (a_p0no 0) (a_p0fo 0) (a_p0rd 0) (a_p0pa 0) sv_p0 p0_0 ++ wRules k a_p0ru p0ru_0) (wCourt k a_p0no p0no_j247) (wPast k a_p0pa pp_0 p0pa_0) 4 12 (by simp only [List.append_assoc, List.nil_append, List.append_nil]) rfl rfl)) rfl rfl ⟨by decide, by decide⟩ ⟨by decide, by decide⟩ (Nat.le_of_ble_eq_true rfl) rfl (fun _ => rfl) (fun u => by show putW _ (_ ++ _) (_ ++ _) = _; rw [putW_app _ _ _ _ _ rfl, putW_app _ _ _ _ _ rfl, blk_put [] (wMCo k a_p0 (a_p0in 0) (a_p0ou 0) (a_p0ru 0) (a_p0no 0) (a_p0fo 0) (a_p0rd 0) (a_p0pa 0) sv_p0 p0_0) (wRules k a_p0ru p0ru_0 ++ wCourt k a_p0no p0no_j247 ++ wPast k a_p0pa pp_0 p0pa_0) (wMCo k a_p0 (a_p0in 0) (a_p0ou 0) (a_p0ru 0) (a_p0no 0) (a_p0fo 0) (a_p0rd 0) (a_p0pa 0) sv_p0 p0_0) 0 1 (by simp only [List.append_assoc, List.nil_append, List.append_nil]) rfl rfl rfl, blk_put (wMCo k a_p0 (a_p0in 0) (a_p0ou 0) (a_p0ru 0) (a_p0no 0) (a_p0fo 0) (a_p0rd 0) (a_p0pa 0) sv_p0 p0_0) (wRules k a_p0ru p0ru_0) (wCourt k a_p0no p0no_j247 ++ wPast k a_p0pa pp_0 p0pa_0) (wRules k a_p0ru p0ru_0) 1 3 (by simp only [List.append_assoc, List.nil_append, List.append_nil]) rfl rfl rfl, blk_put (wMCo k a_p0 (a_p0in 0) (a_p0ou 0) (a_p0ru 0) (a_p0no 0) (a_p0fo 0) (a_p0rd 0) (a_p0pa 0) sv_p0 p0_0 ++ wRules k a_p0ru p0ru_0) (wCourt k a_p0no p0no_j247) (wPast k a_p0pa pp_0 p0pa_0) (wCourt k a_p0no p0no_j247) 4 12 (by simp only [List.append_assoc, List.nil_append, List.append_nil]) rfl rfl rfl]; try simp only [List.append_assoc, List.nil_append, List.append_nil]) (fun r u H locs hp hW => ?_)
                            cases hp
                            have hW : WD k A s.heap (wMCo k a_p0 (a_p0in 0) (a_p0ou 0) (a_p0ru 0) (a_p0no 0) (a_p0fo 0) (a_p0rd 0) (a_p0pa 0) sv_p0 p0_0 ++ wRules k a_p0ru p0ru_0 ++ wCourt k a_p0no p0no_j247 ++ wPast k a_p0pa pp_0 p0pa_0) H locs := hW
                            refine lv_iadd E.hx E.hb dL_isSound_275 ?_
                            obtain ⟨v8_36, ev8_36, hf⟩ := oL hf
                            refine k_istore (lv' := [(8, .int v8_36), (7, .int v7_33), (0, .ref (a_p0 0)), (1, .int v1_0), (2, .int v2_0), (9, .int w9_j247), (10, .int w10_j247)]) E ev8_36 hl dL_isSound_276 (by decide) rfl (fun ls hl => ?_)
                            refine k_iload E hl 5 dL_isSound_278 rfl ?_
                            refine k_aload_n E hl 2 dL_isSound_280 rfl ?_
                            refine k_iload E hl 6 dL_isSound_281 rfl ?_
                            refine lv_bipush (v := (8 : Int32)) E.hx E.hb dL_isSound_283 bp_8 ?_
                            obtain ⟨r_37, cd_38, hg, hf⟩ := ob2 hf
                            by_cases hcd : cd_38 = 0
                            rotate_left
                            · have hf := oF hcd hf
                              exact o0 hf
                            replace hf := oT hcd hf
                            refine k_callVi (As := [.int w10_j247, .int (8 : Int32)]) (rest := [.int w9_j247]) (ws2 := fun u => wMCo k a_p0 (a_p0in 0) (a_p0ou 0) (a_p0ru 0) (a_p0no 0) (a_p0fo 0) (a_p0rd 0) (a_p0pa 0) sv_p0 p0_0 ++ wRules k a_p0ru p0ru_0 ++ wCourt k a_p0no p0no_j247 ++ wPast k a_p0pa pp_0 p0pa_0) (c_X8_process n l k a_p0 a_p0in a_p0ou a_p0ru a_p0no a_p0fo a_p0rd a_p0pa sv_p0 p0_0 p0ru_0 p0no_j247 w10_j247 (8 : Int32) (r_37, cd_38) hg hcd) E vl_L_123 dL_isSound_285 rfl (List.range' 0 1 ++ List.range' 1 3 ++ List.range' 4 12) 8 0 hW hA hl rfl (by simp only [List.map_append]; exact app2 (app2 (blk_map [] (wMCo k a_p0 (a_p0in 0) (a_p0ou 0) (a_p0ru 0) (a_p0no 0) (a_p0fo 0) (a_p0rd 0) (a_p0pa 0) sv_p0 p0_0) (wRules k a_p0ru p0ru_0 ++ wCourt k a_p0no p0no_j247 ++ wPast k a_p0pa pp_0 p0pa_0) 0 1 (by simp only [List.append_assoc, List.nil_append, List.append_nil]) rfl rfl) (blk_map (wMCo k a_p0 (a_p0in 0) (a_p0ou 0) (a_p0ru 0) (a_p0no 0) (a_p0fo 0) (a_p0rd 0) (a_p0pa 0) sv_p0 p0_0) (wRules k a_p0ru p0ru_0) (wCourt k a_p0no p0no_j247 ++ wPast k a_p0pa pp_0 p0pa_0) 1 3 (by simp only [List.append_assoc, List.nil_append, List.append_nil]) rfl rfl)) (blk_map (wMCo k a_p0 (a_p0in 0) (a_p0ou 0) (a_p0ru 0) (a_p0no 0) (a_p0fo 0) (a_p0rd 0) (a_p0pa 0) sv_p0 p0_0 ++ wRules k a_p0ru p0ru_0) (wCourt k a_p0no p0no_j247) (wPast k a_p0pa pp_0 p0pa_0) 4 12 (by simp only [List.append_assoc, List.nil_append, List.append_nil]) rfl rfl)) rfl rfl ⟨by decide, by decide⟩ ⟨by decide, by decide⟩ (Nat.le_of_ble_eq_true rfl) rfl (fun _ => rfl) (fun u => by show putW _ (_ ++ _) (_ ++ _) = _; rw [putW_app _ _ _ _ _ rfl, putW_app _ _ _ _ _ rfl, blk_put [] (wMCo k a_p0 (a_p0in 0) (a_p0ou 0) (a_p0ru 0) (a_p0no 0) (a_p0fo 0) (a_p0rd 0) (a_p0pa 0) sv_p0 p0_0) (wRules k a_p0ru p0ru_0 ++ wCourt k a_p0no p0no_j247 ++ wPast k a_p0pa pp_0 p0pa_0) (wMCo k a_p0 (a_p0in 0) (a_p0ou 0) (a_p0ru 0) (a_p0no 0) (a_p0fo 0) (a_p0rd 0) (a_p0pa 0) sv_p0 p0_0) 0 1 (by simp only [List.append_assoc, List.nil_append, List.append_nil]) rfl rfl rfl, blk_put (wMCo k a_p0 (a_p0in 0) (a_p0ou 0) (a_p0ru 0) (a_p0no 0) (a_p0fo 0) (a_p0rd 0) (a_p0pa 0) sv_p0 p0_0) (wRules k a_p0ru p0ru_0) (wCourt k a_p0no p0no_j247 ++ wPast k a_p0pa pp_0 p0pa_0) (wRules k a_p0ru p0ru_0) 1 3 (by simp only [List.append_assoc, List.nil_append, List.append_nil]) rfl rfl rfl, blk_put (wMCo k a_p0 (a_p0in 0) (a_p0ou 0) (a_p0ru 0) (a_p0no 0) (a_p0fo 0) (a_p0rd 0) (a_p0pa 0) sv_p0 p0_0 ++ wRules k a_p0ru p0ru_0) (wCourt k a_p0no p0no_j247) (wPast k a_p0pa pp_0 p0pa_0) (wCourt k a_p0no p0no_j247) 4 12 (by simp only [List.append_assoc, List.nil_append, List.append_nil]) rfl rfl rfl]; try simp only [List.append_assoc, List.nil_append, List.append_nil]) (fun r u H locs hp hW => ?_)
                            cases hp
                            have hW : WD k A s.heap (wMCo k a_p0 (a_p0in 0) (a_p0ou 0) (a_p0ru 0) (a_p0no 0) (a_p0fo 0) (a_p0rd 0) (a_p0pa 0) sv_p0 p0_0 ++ wRules k a_p0ru p0ru_0 ++ wCourt k a_p0no p0no_j247 ++ wPast k a_p0pa pp_0 p0pa_0) H locs := hW
                            refine lv_iadd E.hx E.hb dL_isSound_288 ?_
                            obtain ⟨v9_39, ev9_39, hf⟩ := oL hf
                            refine k_istore (lv' := [(9, .int v9_39), (8, .int v8_36), (7, .int v7_33), (0, .ref (a_p0 0)), (1, .int v1_0), (2, .int v2_0), (10, .int w10_j247)]) E ev9_39 hl dL_isSound_289 (by decide) rfl (fun ls hl => ?_)
                            refine k_aload_n E hl 3 dL_isSound_291 rfl ?_
                            refine k_iload E hl 6 dL_isSound_292 rfl ?_
                            refine lv_iconst (v := (0 : Int32)) E.hx E.hb dL_isSound_294 ic_0 ?_
                            obtain ⟨r_40, cd_41, hg, hf⟩ := ob2 hf
                            by_cases hcd : cd_41 = 0
                            rotate_left
                            · have hf := oF hcd hf
                              exact o0 hf
                            replace hf := oT hcd hf
                            refine k_callVi (As := [.int w10_j247, .int (0 : Int32)]) (rest := []) (ws2 := fun u => wMCo k a_p0 (a_p0in 0) (a_p0ou 0) (a_p0ru 0) (a_p0no 0) (a_p0fo 0) (a_p0rd 0) (a_p0pa 0) sv_p0 p0_0 ++ wRules k a_p0ru p0ru_0 ++ wCourt k a_p0no p0no_j247 ++ wPast k a_p0pa pp_0 p0pa_0) (c_X8_process n l k a_p0 a_p0in a_p0ou a_p0ru a_p0no a_p0fo a_p0rd a_p0pa sv_p0 p0_0 p0ru_0 p0no_j247 w10_j247 (0 : Int32) (r_40, cd_41) hg hcd) E vl_L_123 dL_isSound_295 rfl (List.range' 0 1 ++ List.range' 1 3 ++ List.range' 4 12) 8 0 hW hA hl rfl (by simp only [List.map_append]; exact app2 (app2 (blk_map [] (wMCo k a_p0 (a_p0in 0) (a_p0ou 0) (a_p0ru 0) (a_p0no 0) (a_p0fo 0) (a_p0rd 0) (a_p0pa 0) sv_p0 p0_0) (wRules k a_p0ru p0ru_0 ++ wCourt k a_p0no p0no_j247 ++ wPast k a_p0pa pp_0 p0pa_0) 0 1 (by simp only [List.append_assoc, List.nil_append, List.append_nil]) rfl rfl) (blk_map (wMCo k a_p0 (a_p0in 0) (a_p0ou 0) (a_p0ru 0) (a_p0no 0) (a_p0fo 0) (a_p0rd 0) (a_p0pa 0) sv_p0 p0_0) (wRules k a_p0ru p0ru_0) (wCourt k a_p0no p0no_j247 ++ wPast k a_p0pa pp_0 p0pa_0) 1 3 (by simp only [List.append_assoc, List.nil_append, List.append_nil]) rfl rfl)) (blk_map (wMCo k a_p0 (a_p0in 0) (a_p0ou 0) (a_p0ru 0) (a_p0no 0) (a_p0fo 0) (a_p0rd 0) (a_p0pa 0) sv_p0 p0_0 ++ wRules k a_p0ru p0ru_0) (wCourt k a_p0no p0no_j247) (wPast k a_p0pa pp_0 p0pa_0) 4 12 (by simp only [List.append_assoc, List.nil_append, List.append_nil]) rfl rfl)) rfl rfl ⟨by decide, by decide⟩ ⟨by decide, by decide⟩ (Nat.le_of_ble_eq_true rfl) rfl (fun _ => rfl) (fun u => by show putW _ (_ ++ _) (_ ++ _) = _; rw [putW_app _ _ _ _ _ rfl, putW_app _ _ _ _ _ rfl, blk_put [] (wMCo k a_p0 (a_p0in 0) (a_p0ou 0) (a_p0ru 0) (a_p0no 0) (a_p0fo 0) (a_p0rd 0) (a_p0pa 0) sv_p0 p0_0) (wRules k a_p0ru p0ru_0 ++ wCourt k a_p0no p0no_j247 ++ wPast k a_p0pa pp_0 p0pa_0) (wMCo k a_p0 (a_p0in 0) (a_p0ou 0) (a_p0ru 0) (a_p0no 0) (a_p0fo 0) (a_p0rd 0) (a_p0pa 0) sv_p0 p0_0) 0 1 (by simp only [List.append_assoc, List.nil_append, List.append_nil]) rfl rfl rfl, blk_put (wMCo k a_p0 (a_p0in 0) (a_p0ou 0) (a_p0ru 0) (a_p0no 0) (a_p0fo 0) (a_p0rd 0) (a_p0pa 0) sv_p0 p0_0) (wRules k a_p0ru p0ru_0) (wCourt k a_p0no p0no_j247 ++ wPast k a_p0pa pp_0 p0pa_0) (wRules k a_p0ru p0ru_0) 1 3 (by simp only [List.append_assoc, List.nil_append, List.append_nil]) rfl rfl rfl, blk_put (wMCo k a_p0 (a_p0in 0) (a_p0ou 0) (a_p0ru 0) (a_p0no 0) (a_p0fo 0) (a_p0rd 0) (a_p0pa 0) sv_p0 p0_0 ++ wRules k a_p0ru p0ru_0) (wCourt k a_p0no p0no_j247) (wPast k a_p0pa pp_0 p0pa_0) (wCourt k a_p0no p0no_j247) 4 12 (by simp only [List.append_assoc, List.nil_append, List.append_nil]) rfl rfl rfl]; try simp only [List.append_assoc, List.nil_append, List.append_nil]) (fun r u H locs hp hW => ?_)
                            cases hp
                            have hW : WD k A s.heap (wMCo k a_p0 (a_p0in 0) (a_p0ou 0) (a_p0ru 0) (a_p0no 0) (a_p0fo 0) (a_p0rd 0) (a_p0pa 0) sv_p0 p0_0 ++ wRules k a_p0ru p0ru_0 ++ wCourt k a_p0no p0no_j247 ++ wPast k a_p0pa pp_0 p0pa_0) H locs := hW
                            refine lv_sipush (v := (999 : Int32)) E.hx E.hb dL_isSound_298 sp_999 ?_
                            refine lv_icmp_gt (tgt := 337) E.hx E.hb dL_isSound_301 (by decide) (fun hc => ?_) (fun hc => ?_)
                            · have hf := oT hc hf
                              refine lv_iconst (v := (0 : Int32)) E.hx E.hb dL_isSound_337 ic_0 ?_
                              exact hret _ p0no_j247 _ _ _ _ _ _ hW (Option.some.inj hf).symm (by decide) (by decide) (by decide) dL_isSound_338
                            · have hf := oF hc hf
                              refine k_aload_n E hl 3 dL_isSound_304 rfl ?_
                              refine k_iload E hl 6 dL_isSound_305 rfl ?_
                              refine lv_iconst (v := (1 : Int32)) E.hx E.hb dL_isSound_307 ic_1 ?_
                              obtain ⟨r_42, cd_43, hg, hf⟩ := ob2 hf
                              by_cases hcd : cd_43 = 0
                              rotate_left
                              · have hf := oF hcd hf
                                exact o0 hf
                              replace hf := oT hcd hf
                              refine k_callVi (As := [.int w10_j247, .int (1 : Int32)]) (rest := []) (ws2 := fun u => wMCo k a_p0 (a_p0in 0) (a_p0ou 0) (a_p0ru 0) (a_p0no 0) (a_p0fo 0) (a_p0rd 0) (a_p0pa 0) sv_p0 p0_0 ++ wRules k a_p0ru p0ru_0 ++ wCourt k a_p0no p0no_j247 ++ wPast k a_p0pa pp_0 p0pa_0) (c_X8_process n l k a_p0 a_p0in a_p0ou a_p0ru a_p0no a_p0fo a_p0rd a_p0pa sv_p0 p0_0 p0ru_0 p0no_j247 w10_j247 (1 : Int32) (r_42, cd_43) hg hcd) E vl_L_123 dL_isSound_308 rfl (List.range' 0 1 ++ List.range' 1 3 ++ List.range' 4 12) 8 0 hW hA hl rfl (by simp only [List.map_append]; exact app2 (app2 (blk_map [] (wMCo k a_p0 (a_p0in 0) (a_p0ou 0) (a_p0ru 0) (a_p0no 0) (a_p0fo 0) (a_p0rd 0) (a_p0pa 0) sv_p0 p0_0) (wRules k a_p0ru p0ru_0 ++ wCourt k a_p0no p0no_j247 ++ wPast k a_p0pa pp_0 p0pa_0) 0 1 (by simp only [List.append_assoc, List.nil_append, List.append_nil]) rfl rfl) (blk_map (wMCo k a_p0 (a_p0in 0) (a_p0ou 0) (a_p0ru 0) (a_p0no 0) (a_p0fo 0) (a_p0rd 0) (a_p0pa 0) sv_p0 p0_0) (wRules k a_p0ru p0ru_0) (wCourt k a_p0no p0no_j247 ++ wPast k a_p0pa pp_0 p0pa_0) 1 3 (by simp only [List.append_assoc, List.nil_append, List.append_nil]) rfl rfl)) (blk_map (wMCo k a_p0 (a_p0in 0) (a_p0ou 0) (a_p0ru 0) (a_p0no 0) (a_p0fo 0) (a_p0rd 0) (a_p0pa 0) sv_p0 p0_0 ++ wRules k a_p0ru p0ru_0) (wCourt k a_p0no p0no_j247) (wPast k a_p0pa pp_0 p0pa_0) 4 12 (by simp only [List.append_assoc, List.nil_append, List.append_nil]) rfl rfl)) rfl rfl ⟨by decide, by decide⟩ ⟨by decide, by decide⟩ (Nat.le_of_ble_eq_true rfl) rfl (fun _ => rfl) (fun u => by show putW _ (_ ++ _) (_ ++ _) = _; rw [putW_app _ _ _ _ _ rfl, putW_app _ _ _ _ _ rfl, blk_put [] (wMCo k a_p0 (a_p0in 0) (a_p0ou 0) (a_p0ru 0) (a_p0no 0) (a_p0fo 0) (a_p0rd 0) (a_p0pa 0) sv_p0 p0_0) (wRules k a_p0ru p0ru_0 ++ wCourt k a_p0no p0no_j247 ++ wPast k a_p0pa pp_0 p0pa_0) (wMCo k a_p0 (a_p0in 0) (a_p0ou 0) (a_p0ru 0) (a_p0no 0) (a_p0fo 0) (a_p0rd 0) (a_p0pa 0) sv_p0 p0_0) 0 1 (by simp only [List.append_assoc, List.nil_append, List.append_nil]) rfl rfl rfl, blk_put (wMCo k a_p0 (a_p0in 0) (a_p0ou 0) (a_p0ru 0) (a_p0no 0) (a_p0fo 0) (a_p0rd 0) (a_p0pa 0) sv_p0 p0_0) (wRules k a_p0ru p0ru_0) (wCourt k a_p0no p0no_j247 ++ wPast k a_p0pa pp_0 p0pa_0) (wRules k a_p0ru p0ru_0) 1 3 (by simp only [List.append_assoc, List.nil_append, List.append_nil]) rfl rfl rfl, blk_put (wMCo k a_p0 (a_p0in 0) (a_p0ou 0) (a_p0ru 0) (a_p0no 0) (a_p0fo 0) (a_p0rd 0) (a_p0pa 0) sv_p0 p0_0 ++ wRules k a_p0ru p0ru_0) (wCourt k a_p0no p0no_j247) (wPast k a_p0pa pp_0 p0pa_0) (wCourt k a_p0no p0no_j247) 4 12 (by simp only [List.append_assoc, List.nil_append, List.append_nil]) rfl rfl rfl]; try simp only [List.append_assoc, List.nil_append, List.append_nil]) (fun r u H locs hp hW => ?_)
                              cases hp
                              have hW : WD k A s.heap (wMCo k a_p0 (a_p0in 0) (a_p0ou 0) (a_p0ru 0) (a_p0no 0) (a_p0fo 0) (a_p0rd 0) (a_p0pa 0) sv_p0 p0_0 ++ wRules k a_p0ru p0ru_0 ++ wCourt k a_p0no p0no_j247 ++ wPast k a_p0pa pp_0 p0pa_0) H locs := hW
                              refine lv_sipush (v := (999 : Int32)) E.hx E.hb dL_isSound_311 sp_999 ?_
                              refine lv_icmp_gt (tgt := 337) E.hx E.hb dL_isSound_314 (by decide) (fun hc => ?_) (fun hc => ?_)
                              · have hf := oT hc hf
                                refine lv_iconst (v := (0 : Int32)) E.hx E.hb dL_isSound_337 ic_0 ?_
                                exact hret _ p0no_j247 _ _ _ _ _ _ hW (Option.some.inj hf).symm (by decide) (by decide) (by decide) dL_isSound_338
                              · have hf := oF hc hf
                                refine k_aload_n E hl 3 dL_isSound_317 rfl ?_
                                refine k_iload E hl 6 dL_isSound_318 rfl ?_
                                refine lv_iconst (v := (0 : Int32)) E.hx E.hb dL_isSound_320 ic_0 ?_
                                obtain ⟨r_44, cd_45, hg, hf⟩ := ob2 hf
                                by_cases hcd : cd_45 = 0
                                rotate_left
                                · have hf := oF hcd hf
                                  exact o0 hf
                                replace hf := oT hcd hf
                                refine k_callVi (As := [.int w10_j247, .int (0 : Int32)]) (rest := []) (ws2 := fun u => wMCo k a_p0 (a_p0in 0) (a_p0ou 0) (a_p0ru 0) (a_p0no 0) (a_p0fo 0) (a_p0rd 0) (a_p0pa 0) sv_p0 p0_0 ++ wRules k a_p0ru p0ru_0 ++ wCourt k a_p0no p0no_j247 ++ wPast k a_p0pa pp_0 p0pa_0) (c_X8_process n l k a_p0 a_p0in a_p0ou a_p0ru a_p0no a_p0fo a_p0rd a_p0pa sv_p0 p0_0 p0ru_0 p0no_j247 w10_j247 (0 : Int32) (r_44, cd_45) hg hcd) E vl_L_123 dL_isSound_321 rfl (List.range' 0 1 ++ List.range' 1 3 ++ List.range' 4 12) 8 0 hW hA hl rfl (by simp only [List.map_append]; exact app2 (app2 (blk_map [] (wMCo k a_p0 (a_p0in 0) (a_p0ou 0) (a_p0ru 0) (a_p0no 0) (a_p0fo 0) (a_p0rd 0) (a_p0pa 0) sv_p0 p0_0) (wRules k a_p0ru p0ru_0 ++ wCourt k a_p0no p0no_j247 ++ wPast k a_p0pa pp_0 p0pa_0) 0 1 (by simp only [List.append_assoc, List.nil_append, List.append_nil]) rfl rfl) (blk_map (wMCo k a_p0 (a_p0in 0) (a_p0ou 0) (a_p0ru 0) (a_p0no 0) (a_p0fo 0) (a_p0rd 0) (a_p0pa 0) sv_p0 p0_0) (wRules k a_p0ru p0ru_0) (wCourt k a_p0no p0no_j247 ++ wPast k a_p0pa pp_0 p0pa_0) 1 3 (by simp only [List.append_assoc, List.nil_append, List.append_nil]) rfl rfl)) (blk_map (wMCo k a_p0 (a_p0in 0) (a_p0ou 0) (a_p0ru 0) (a_p0no 0) (a_p0fo 0) (a_p0rd 0) (a_p0pa 0) sv_p0 p0_0 ++ wRules k a_p0ru p0ru_0) (wCourt k a_p0no p0no_j247) (wPast k a_p0pa pp_0 p0pa_0) 4 12 (by simp only [List.append_assoc, List.nil_append, List.append_nil]) rfl rfl)) rfl rfl ⟨by decide, by decide⟩ ⟨by decide, by decide⟩ (Nat.le_of_ble_eq_true rfl) rfl (fun _ => rfl) (fun u => by show putW _ (_ ++ _) (_ ++ _) = _; rw [putW_app _ _ _ _ _ rfl, putW_app _ _ _ _ _ rfl, blk_put [] (wMCo k a_p0 (a_p0in 0) (a_p0ou 0) (a_p0ru 0) (a_p0no 0) (a_p0fo 0) (a_p0rd 0) (a_p0pa 0) sv_p0 p0_0) (wRules k a_p0ru p0ru_0 ++ wCourt k a_p0no p0no_j247 ++ wPast k a_p0pa pp_0 p0pa_0) (wMCo k a_p0 (a_p0in 0) (a_p0ou 0) (a_p0ru 0) (a_p0no 0) (a_p0fo 0) (a_p0rd 0) (a_p0pa 0) sv_p0 p0_0) 0 1 (by simp only [List.append_assoc, List.nil_append, List.append_nil]) rfl rfl rfl, blk_put (wMCo k a_p0 (a_p0in 0) (a_p0ou 0) (a_p0ru 0) (a_p0no 0) (a_p0fo 0) (a_p0rd 0) (a_p0pa 0) sv_p0 p0_0) (wRules k a_p0ru p0ru_0) (wCourt k a_p0no p0no_j247 ++ wPast k a_p0pa pp_0 p0pa_0) (wRules k a_p0ru p0ru_0) 1 3 (by simp only [List.append_assoc, List.nil_append, List.append_nil]) rfl rfl rfl, blk_put (wMCo k a_p0 (a_p0in 0) (a_p0ou 0) (a_p0ru 0) (a_p0no 0) (a_p0fo 0) (a_p0rd 0) (a_p0pa 0) sv_p0 p0_0 ++ wRules k a_p0ru p0ru_0) (wCourt k a_p0no p0no_j247) (wPast k a_p0pa pp_0 p0pa_0) (wCourt k a_p0no p0no_j247) 4 12 (by simp only [List.append_assoc, List.nil_append, List.append_nil]) rfl rfl rfl]; try simp only [List.append_assoc, List.nil_append, List.append_nil]) (fun r u H locs hp hW => ?_)
                                cases hp
                                have hW : WD k A s.heap (wMCo k a_p0 (a_p0in 0) (a_p0ou 0) (a_p0ru 0) (a_p0no 0) (a_p0fo 0) (a_p0rd 0) (a_p0pa 0) sv_p0 p0_0 ++ wRules k a_p0ru p0ru_0 ++ wCourt k a_p0no p0no_j247 ++ wPast k a_p0pa pp_0 p0pa_0) H locs := hW
                                refine lv_if_lt (tgt := 337) E.hx E.hb dL_isSound_324 (by decide) (fun hc => ?_) (fun hc => ?_)
                                · have hf := oT hc hf
                                  refine lv_iconst (v := (0 : Int32)) E.hx E.hb dL_isSound_337 ic_0 ?_
                                  exact hret _ p0no_j247 _ _ _ _ _ _ hW (Option.some.inj hf).symm (by decide) (by decide) (by decide) dL_isSound_338
                                · have hf := oF hc hf
                                  refine k_aload_n E hl 3 dL_isSound_327 rfl ?_
                                  refine k_iload E hl 6 dL_isSound_328 rfl ?_
                                  refine lv_iconst (v := (1 : Int32)) E.hx E.hb dL_isSound_330 ic_1 ?_
                                  obtain ⟨r_46, cd_47, hg, hf⟩ := ob2 hf
                                  by_cases hcd : cd_47 = 0
                                  rotate_left
                                  · have hf := oF hcd hf
                                    exact o0 hf
                                  replace hf := oT hcd hf
                                  refine k_callVi (As := [.int w10_j247, .int (1 : Int32)]) (rest := []) (ws2 := fun u => wMCo k a_p0 (a_p0in 0) (a_p0ou 0) (a_p0ru 0) (a_p0no 0) (a_p0fo 0) (a_p0rd 0) (a_p0pa 0) sv_p0 p0_0 ++ wRules k a_p0ru p0ru_0 ++ wCourt k a_p0no p0no_j247 ++ wPast k a_p0pa pp_0 p0pa_0) (c_X8_process n l k a_p0 a_p0in a_p0ou a_p0ru a_p0no a_p0fo a_p0rd a_p0pa sv_p0 p0_0 p0ru_0 p0no_j247 w10_j247 (1 : Int32) (r_46, cd_47) hg hcd) E vl_L_123 dL_isSound_331 rfl (List.range' 0 1 ++ List.range' 1 3 ++ List.range' 4 12) 8 0 hW hA hl rfl (by simp only [List.map_append]; exact app2 (app2 (blk_map [] (wMCo k a_p0 (a_p0in 0) (a_p0ou 0) (a_p0ru 0) (a_p0no 0) (a_p0fo 0) (a_p0rd 0) (a_p0pa 0) sv_p0 p0_0) (wRules k a_p0ru p0ru_0 ++ wCourt k a_p0no p0no_j247 ++ wPast k a_p0pa pp_0 p0pa_0) 0 1 (by simp only [List.append_assoc, List.nil_append, List.append_nil]) rfl rfl) (blk_map (wMCo k a_p0 (a_p0in 0) (a_p0ou 0) (a_p0ru 0) (a_p0no 0) (a_p0fo 0) (a_p0rd 0) (a_p0pa 0) sv_p0 p0_0) (wRules k a_p0ru p0ru_0) (wCourt k a_p0no p0no_j247 ++ wPast k a_p0pa pp_0 p0pa_0) 1 3 (by simp only [List.append_assoc, List.nil_append, List.append_nil]) rfl rfl)) (blk_map (wMCo k a_p0 (a_p0in 0) (a_p0ou 0) (a_p0ru 0) (a_p0no 0) (a_p0fo 0) (a_p0rd 0) (a_p0pa 0) sv_p0 p0_0 ++ wRules k a_p0ru p0ru_0) (wCourt k a_p0no p0no_j247) (wPast k a_p0pa pp_0 p0pa_0) 4 12 (by simp only [List.append_assoc, List.nil_append, List.append_nil]) rfl rfl)) rfl rfl ⟨by decide, by decide⟩ ⟨by decide, by decide⟩ (Nat.le_of_ble_eq_true rfl) rfl (fun _ => rfl) (fun u => by show putW _ (_ ++ _) (_ ++ _) = _; rw [putW_app _ _ _ _ _ rfl, putW_app _ _ _ _ _ rfl, blk_put [] (wMCo k a_p0 (a_p0in 0) (a_p0ou 0) (a_p0ru 0) (a_p0no 0) (a_p0fo 0) (a_p0rd 0) (a_p0pa 0) sv_p0 p0_0) (wRules k a_p0ru p0ru_0 ++ wCourt k a_p0no p0no_j247 ++ wPast k a_p0pa pp_0 p0pa_0) (wMCo k a_p0 (a_p0in 0) (a_p0ou 0) (a_p0ru 0) (a_p0no 0) (a_p0fo 0) (a_p0rd 0) (a_p0pa 0) sv_p0 p0_0) 0 1 (by simp only [List.append_assoc, List.nil_append, List.append_nil]) rfl rfl rfl, blk_put (wMCo k a_p0 (a_p0in 0) (a_p0ou 0) (a_p0ru 0) (a_p0no 0) (a_p0fo 0) (a_p0rd 0) (a_p0pa 0) sv_p0 p0_0) (wRules k a_p0ru p0ru_0) (wCourt k a_p0no p0no_j247 ++ wPast k a_p0pa pp_0 p0pa_0) (wRules k a_p0ru p0ru_0) 1 3 (by simp only [List.append_assoc, List.nil_append, List.append_nil]) rfl rfl rfl, blk_put (wMCo k a_p0 (a_p0in 0) (a_p0ou 0) (a_p0ru 0) (a_p0no 0) (a_p0fo 0) (a_p0rd 0) (a_p0pa 0) sv_p0 p0_0 ++ wRules k a_p0ru p0ru_0) (wCourt k a_p0no p0no_j247) (wPast k a_p0pa pp_0 p0pa_0) (wCourt k a_p0no p0no_j247) 4 12 (by simp only [List.append_assoc, List.nil_append, List.append_nil]) rfl rfl rfl]; try simp only [List.append_assoc, List.nil_append, List.append_nil]) (fun r u H locs hp hW => ?_)
                                  cases hp
                                  have hW : WD k A s.heap (wMCo k a_p0 (a_p0in 0) (a_p0ou 0) (a_p0ru 0) (a_p0no 0) (a_p0fo 0) (a_p0rd 0) (a_p0pa 0) sv_p0 p0_0 ++ wRules k a_p0ru p0ru_0 ++ wCourt k a_p0no p0no_j247 ++ wPast k a_p0pa pp_0 p0pa_0) H locs := hW
                                  refine lv_if_ge (tgt := 339) E.hx E.hb dL_isSound_334 (by decide) (fun hc => ?_) (fun hc => ?_)
                                  · have hf := oT hc hf
                                    obtain ⟨v10_48, ev10_48, hf⟩ := oL hf
                                    refine k_iinc (lv' := [(10, .int v10_48), (9, .int v9_39), (8, .int v8_36), (7, .int v7_33), (0, .ref (a_p0 0)), (1, .int v1_0), (2, .int v2_0)]) E hl 6 dL_isSound_339 rfl (ev10_48.trans (congrArg (fun z => w10_j247 + z) ic_1.symm)) (by decide) rfl (fun ls hl => ?_)
                                    refine lv_goto (tgt := 247) E.hx E.hb dL_isSound_342 (by decide) ?_
                                    exact ih_247 p0no_j247 v7_33 v8_36 v9_39 v10_48 _ _ _ hW (lv_sub hl [4, 5, 6, 3, 2, 1, 0] rfl) hf
                                  · have hf := oF hc hf
                                    refine lv_iconst (v := (0 : Int32)) E.hx E.hb dL_isSound_337 ic_0 ?_
                                    exact hret _ p0no_j247 _ _ _ _ _ _ hW (Option.some.inj hf).symm (by decide) (by decide) (by decide) dL_isSound_338
                      exact L_247 n p0no_j230 (0 : Int32) (0 : Int32) (0 : Int32) (0 : Int32) _ _ _ hW (lv_sub hl [4, 5, 6, 3, 2, 1, 0] rfl) hf
                    · have hf := oF hc hf
                      refine lv_iconst (v := (0 : Int32)) E.hx E.hb dL_isSound_233 ic_0 ?_
                      exact hret _ p0no_j230 _ _ _ _ _ _ hW (Option.some.inj hf).symm (by decide) (by decide) (by decide) dL_isSound_234
                  refine lv_if_ne (tgt := 229) E.hx E.hb dL_isSound_222 (by decide) (fun hc => ?_) (fun hc => ?_)
                  · have hf := oF hc hf
                    refine lv_iconst (v := (0 : Int32)) E.hx E.hb dL_isSound_229 ic_0 ?_
                    exact J_230 p0no_j171 (0 : Int32) (0 : Int32) _ _ _ hW (lv_sub hl [0, 1, 2] rfl) hf
                  · have hf := oT hc hf
                    refine lv_iconst (v := (1 : Int32)) E.hx E.hb dL_isSound_225 ic_1 ?_
                    refine lv_goto (tgt := 230) E.hx E.hb dL_isSound_226 (by decide) ?_
                    exact J_230 p0no_j171 (0 : Int32) (1 : Int32) _ _ _ hW (lv_sub hl [0, 1, 2] rfl) hf
                · have hf := oT hc hf
                  refine lv_iconst (v := (1 : Int32)) E.hx E.hb dL_isSound_215 ic_1 ?_
                  refine lv_goto (tgt := 220) E.hx E.hb dL_isSound_216 (by decide) ?_
                  refine k_iload E hl 5 dL_isSound_220 rfl ?_
                  have J_230 : ∀ (p0no_j230 : OS) (s0_j230 : Int32) (s1_j230 : Int32) (H : Heap) (locs : List Loc) (ls : Array Slot) (hW : WD k A s.heap (wMCo k a_p0 (a_p0in 0) (a_p0ou 0) (a_p0ru 0) (a_p0no 0) (a_p0fo 0) (a_p0rd 0) (a_p0pa 0) sv_p0 p0_0 ++ wRules k a_p0ru p0ru_0 ++ wCourt k a_p0no p0no_j230 ++ wPast k a_p0pa pp_0 p0pa_0) H locs) (hl : lv_has ls 12 [(0, .ref (a_p0 0)), (1, .int v1_0), (2, .int v2_0)]) (hf : j_L_isSound_230 n sv_p0 p0_0 p0ru_0 p0pa_0 v1_0 v2_0 p0no_j230 s0_j230 s1_j230 = some res), W p l e { frames := 4, cells := 0, slots := 0, locals := 90 } s m args below meth c H locs 0 0 Q (F0 m 230 ls [.int s1_j230, .int s0_j230]) := by
                    intro p0no_j230 s0_j230 s1_j230 H locs ls hW hl hf
                    unfold j_L_isSound_230 at hf
                    refine lv_icmp_eq (tgt := 235) E.hx E.hb dL_isSound_230 (by decide) (fun hc => ?_) (fun hc => ?_)
                    · have hf := oT hc hf
                      refine lv_iconst (v := (0 : Int32)) E.hx E.hb dL_isSound_235 ic_0 ?_
                      refine k_istore (lv' := [(7, .int (0 : Int32)), (0, .ref (a_p0 0)), (1, .int v1_0), (2, .int v2_0)]) E rfl hl dL_isSound_236 (by decide) rfl (fun ls hl => ?_)
                      refine lv_iconst (v := (0 : Int32)) E.hx E.hb dL_isSound_238 ic_0 ?_
                      refine k_istore (lv' := [(8, .int (0 : Int32)), (7, .int (0 : Int32)), (0, .ref (a_p0 0)), (1, .int v1_0), (2, .int v2_0)]) E rfl hl dL_isSound_239 (by decide) rfl (fun ls hl => ?_)
                      refine lv_iconst (v := (0 : Int32)) E.hx E.hb dL_isSound_241 ic_0 ?_
                      refine k_istore (lv' := [(9, .int (0 : Int32)), (8, .int (0 : Int32)), (7, .int (0 : Int32)), (0, .ref (a_p0 0)), (1, .int v1_0), (2, .int v2_0)]) E rfl hl dL_isSound_242 (by decide) rfl (fun ls hl => ?_)
                      refine lv_iconst (v := (0 : Int32)) E.hx E.hb dL_isSound_244 ic_0 ?_
                      refine k_istore (lv' := [(10, .int (0 : Int32)), (9, .int (0 : Int32)), (8, .int (0 : Int32)), (7, .int (0 : Int32)), (0, .ref (a_p0 0)), (1, .int v1_0), (2, .int v2_0)]) E rfl hl dL_isSound_245 (by decide) rfl (fun ls hl => ?_)
                      have L_247 : ∀ (N_247 : Nat) (p0no_j247 : OS) (w7_j247 : Int32) (w8_j247 : Int32) (w9_j247 : Int32) (w10_j247 : Int32) (H : Heap) (locs : List Loc) (ls : Array Slot) (hW : WD k A s.heap (wMCo k a_p0 (a_p0in 0) (a_p0ou 0) (a_p0ru 0) (a_p0no 0) (a_p0fo 0) (a_p0rd 0) (a_p0pa 0) sv_p0 p0_0 ++ wRules k a_p0ru p0ru_0 ++ wCourt k a_p0no p0no_j247 ++ wPast k a_p0pa pp_0 p0pa_0) H locs) (hl : lv_has ls 12 [(0, .ref (a_p0 0)), (1, .int v1_0), (2, .int v2_0), (7, .int w7_j247), (8, .int w8_j247), (9, .int w9_j247), (10, .int w10_j247)]) (hf : l_L_isSound_247 n sv_p0 p0_0 p0ru_0 p0pa_0 v1_0 v2_0 N_247 p0no_j247 w7_j247 w8_j247 w9_j247 w10_j247 = some res), W p l e { frames := 4, cells := 0, slots := 0, locals := 90 } s m args below meth c H locs 0 0 Q (F0 m 247 ls []) := by
                        intro N_247
                        induction N_247 with
                        | zero => intro p0no_j247 w7_j247 w8_j247 w9_j247 w10_j247 H locs ls hW hl hf; exact o0 hf
                        | succ N_247 ih_247 =>
                          intro p0no_j247 w7_j247 w8_j247 w9_j247 w10_j247 H locs ls hW hl hf
                          have hf : s_L_isSound_247 n sv_p0 p0_0 p0ru_0 p0pa_0 v1_0 v2_0 (l_L_isSound_247 n sv_p0 p0_0 p0ru_0 p0pa_0 v1_0 v2_0 N_247) p0no_j247 w7_j247 w8_j247 w9_j247 w10_j247 = some res := hf
                          unfold s_L_isSound_247 at hf
                          refine k_iload E hl 6 dL_isSound_247 rfl ?_
                          refine k_iload_n E hl 2 dL_isSound_249 rfl ?_
                          have J_345 : ∀ (p0no_j345 : OS) (w7_j345 : Int32) (w8_j345 : Int32) (w9_j345 : Int32) (H : Heap) (locs : List Loc) (ls : Array Slot) (hW : WD k A s.heap (wMCo k a_p0 (a_p0in 0) (a_p0ou 0) (a_p0ru 0) (a_p0no 0) (a_p0fo 0) (a_p0rd 0) (a_p0pa 0) sv_p0 p0_0 ++ wRules k a_p0ru p0ru_0 ++ wCourt k a_p0no p0no_j345 ++ wPast k a_p0pa pp_0 p0pa_0) H locs) (hl : lv_has ls 12 [(0, .ref (a_p0 0)), (1, .int v1_0), (7, .int w7_j345), (8, .int w8_j345), (9, .int w9_j345)]) (hf : j_L_isSound_345 n sv_p0 p0_0 p0ru_0 p0pa_0 v1_0 p0no_j345 w7_j345 w8_j345 w9_j345 = some res), W p l e { frames := 4, cells := 0, slots := 0, locals := 90 } s m args below meth c H locs 0 0 Q (F0 m 345 ls []) := by
                            intro p0no_j345 w7_j345 w8_j345 w9_j345 H locs ls hW hl hf
                            unfold j_L_isSound_345 at hf
                            refine lv_iconst (v := (0 : Int32)) E.hx E.hb dL_isSound_345 ic_0 ?_
                            refine k_istore (lv' := [(10, .int (0 : Int32)), (0, .ref (a_p0 0)), (1, .int v1_0), (7, .int w7_j345), (8, .int w8_j345), (9, .int w9_j345)]) E rfl hl dL_isSound_346 (by decide) rfl (fun ls hl => ?_)
                            refine lv_iconst (v := (0 : Int32)) E.hx E.hb dL_isSound_348 ic_0 ?_
                            refine k_istore (lv' := [(11, .int (0 : Int32)), (10, .int (0 : Int32)), (0, .ref (a_p0 0)), (1, .int v1_0), (7, .int w7_j345), (8, .int w8_j345), (9, .int w9_j345)]) E rfl hl dL_isSound_349 (by decide) rfl (fun ls hl => ?_)
                            have L_351 : ∀ (N_351 : Nat) (p0no_j351 : OS) (w10_j351 : Int32) (w11_j351 : Int32) (H : Heap) (locs : List Loc) (ls : Array Slot) (hW : WD k A s.heap (wMCo k a_p0 (a_p0in 0) (a_p0ou 0) (a_p0ru 0) (a_p0no 0) (a_p0fo 0) (a_p0rd 0) (a_p0pa 0) sv_p0 p0_0 ++ wRules k a_p0ru p0ru_0 ++ wCourt k a_p0no p0no_j351 ++ wPast k a_p0pa pp_0 p0pa_0) H locs) (hl : lv_has ls 12 [(0, .ref (a_p0 0)), (1, .int v1_0), (7, .int w7_j345), (8, .int w8_j345), (9, .int w9_j345), (10, .int w10_j351), (11, .int w11_j351)]) (hf : l_L_isSound_351 n sv_p0 p0_0 p0ru_0 p0pa_0 v1_0 w7_j345 w8_j345 w9_j345 N_351 p0no_j351 w10_j351 w11_j351 = some res), W p l e { frames := 4, cells := 0, slots := 0, locals := 90 } s m args below meth c H locs 0 0 Q (F0 m 351 ls []) := by
                              intro N_351
                              induction N_351 with
                              | zero => intro p0no_j351 w10_j351 w11_j351 H locs ls hW hl hf; exact o0 hf
                              | succ N_351 ih_351 =>
                                intro p0no_j351 w10_j351 w11_j351 H locs ls hW hl hf
                                have hf : s_L_isSound_351 n sv_p0 p0_0 p0ru_0 p0pa_0 v1_0 w7_j345 w8_j345 w9_j345 (l_L_isSound_351 n sv_p0 p0_0 p0ru_0 p0pa_0 v1_0 w7_j345 w8_j345 w9_j345 N_351) p0no_j351 w10_j351 w11_j351 = some res := hf
                                unfold s_L_isSound_351 at hf
                                refine k_iload E hl 6 dL_isSound_351 rfl ?_
                                refine k_aload_n E hl 0 dL_isSound_353 rfl ?_
                                refine lv_bipush (v := (13 : Int32)) E.hx E.hb dL_isSound_354 bp_13 ?_
                                obtain ⟨r_49, hg, hf⟩ := ob hf
                                refine k_callVi (As := [.int (13 : Int32)]) (rest := [.int w11_j351]) (ws2 := fun u => wMCo k a_p0 (a_p0in 0) (a_p0ou 0) (a_p0ru 0) (a_p0no 0) (a_p0fo 0) (a_p0rd 0) (a_p0pa 0) sv_p0 p0_0 ++ wRules k a_p0ru p0ru_0 ++ wCourt k a_p0no p0no_j351 ++ wPast k a_p0pa pp_0 p0pa_0) (c_X8_count n l k a_p0 a_p0in a_p0ou a_p0ru a_p0no a_p0fo a_p0rd a_p0pa pp_0 sv_p0 p0_0 p0ru_0 p0no_j351 p0pa_0 (13 : Int32) r_49 hg) E vl_L_84 dL_isSound_356 rfl (List.range' 0 18) 8 0 hW hA hl rfl (blk_map [] (wMCo k a_p0 (a_p0in 0) (a_p0ou 0) (a_p0ru 0) (a_p0no 0) (a_p0fo 0) (a_p0rd 0) (a_p0pa 0) sv_p0 p0_0 ++ wRules k a_p0ru p0ru_0 ++ wCourt k a_p0no p0no_j351 ++ wPast k a_p0pa pp_0 p0pa_0) [] 0 18 (by simp only [List.nil_append, List.append_nil]) rfl rfl) rfl rfl ⟨by decide, by decide⟩ ⟨by decide, by decide⟩ (Nat.le_of_ble_eq_true rfl) rfl (fun _ => rfl) (fun u => by rw [blk_put [] (wMCo k a_p0 (a_p0in 0) (a_p0ou 0) (a_p0ru 0) (a_p0no 0) (a_p0fo 0) (a_p0rd 0) (a_p0pa 0) sv_p0 p0_0 ++ wRules k a_p0ru p0ru_0 ++ wCourt k a_p0no p0no_j351 ++ wPast k a_p0pa pp_0 p0pa_0) [] (wMCo k a_p0 (a_p0in 0) (a_p0ou 0) (a_p0ru 0) (a_p0no 0) (a_p0fo 0) (a_p0rd 0) (a_p0pa 0) sv_p0 p0_0 ++ wRules k a_p0ru p0ru_0 ++ wCourt k a_p0no p0no_j351 ++ wPast k a_p0pa pp_0 p0pa_0) 0 18 (by simp only [List.nil_append, List.append_nil]) rfl rfl rfl]; try simp only [List.nil_append, List.append_nil]) (fun r u H locs hp hW => ?_)
                                cases hp
                                have hW : WD k A s.heap (wMCo k a_p0 (a_p0in 0) (a_p0ou 0) (a_p0ru 0) (a_p0no 0) (a_p0fo 0) (a_p0rd 0) (a_p0pa 0) sv_p0 p0_0 ++ wRules k a_p0ru p0ru_0 ++ wCourt k a_p0no p0no_j351 ++ wPast k a_p0pa pp_0 p0pa_0) H locs := hW
                                have J_453 : ∀ (p0no_j453 : OS) (w7_j453 : Int32) (w8_j453 : Int32) (w9_j453 : Int32) (w10_j453 : Int32) (H : Heap) (locs : List Loc) (ls : Array Slot) (hW : WD k A s.heap (wMCo k a_p0 (a_p0in 0) (a_p0ou 0) (a_p0ru 0) (a_p0no 0) (a_p0fo 0) (a_p0rd 0) (a_p0pa 0) sv_p0 p0_0 ++ wRules k a_p0ru p0ru_0 ++ wCourt k a_p0no p0no_j453 ++ wPast k a_p0pa pp_0 p0pa_0) H locs) (hl : lv_has ls 12 [(0, .ref (a_p0 0)), (1, .int v1_0), (7, .int w7_j453), (8, .int w8_j453), (9, .int w9_j453), (10, .int w10_j453)]) (hf : j_L_isSound_453 n sv_p0 p0_0 p0ru_0 p0pa_0 v1_0 p0no_j453 w7_j453 w8_j453 w9_j453 w10_j453 = some res), W p l e { frames := 4, cells := 0, slots := 0, locals := 90 } s m args below meth c H locs 0 0 Q (F0 m 453 ls []) := by
                                  intro p0no_j453 w7_j453 w8_j453 w9_j453 w10_j453 H locs ls hW hl hf
                                  unfold j_L_isSound_453 at hf
                                  refine k_iload E hl 2 dL_isSound_453 rfl ?_
                                  refine k_iload_n E hl 1 dL_isSound_455 rfl ?_
                                  refine k_aload_n E hl 0 dL_isSound_456 rfl ?_
                                  refine lv_bipush (v := (9 : Int32)) E.hx E.hb dL_isSound_457 bp_9 ?_
                                  obtain ⟨r_50, hg, hf⟩ := ob hf
                                  refine k_callVi (As := [.int (9 : Int32)]) (rest := [.int v1_0, .int w7_j453]) (ws2 := fun u => wMCo k a_p0 (a_p0in 0) (a_p0ou 0) (a_p0ru 0) (a_p0no 0) (a_p0fo 0) (a_p0rd 0) (a_p0pa 0) sv_p0 p0_0 ++ wRules k a_p0ru p0ru_0 ++ wCourt k a_p0no p0no_j453 ++ wPast k a_p0pa pp_0 p0pa_0) (c_X8_count n l k a_p0 a_p0in a_p0ou a_p0ru a_p0no a_p0fo a_p0rd a_p0pa pp_0 sv_p0 p0_0 p0ru_0 p0no_j453 p0pa_0 (9 : Int32) r_50 hg) E vl_L_84 dL_isSound_459 rfl (List.range' 0 18) 8 0 hW hA hl rfl (blk_map [] (wMCo k a_p0 (a_p0in 0) (a_p0ou 0) (a_p0ru 0) (a_p0no 0) (a_p0fo 0) (a_p0rd 0) (a_p0pa 0) sv_p0 p0_0 ++ wRules k a_p0ru p0ru_0 ++ wCourt k a_p0no p0no_j453 ++ wPast k a_p0pa pp_0 p0pa_0) [] 0 18 (by simp only [List.nil_append, List.append_nil]) rfl rfl) rfl rfl ⟨by decide, by decide⟩ ⟨by decide, by decide⟩ (Nat.le_of_ble_eq_true rfl) rfl (fun _ => rfl) (fun u => by rw [blk_put [] (wMCo k a_p0 (a_p0in 0) (a_p0ou 0) (a_p0ru 0) (a_p0no 0) (a_p0fo 0) (a_p0rd 0) (a_p0pa 0) sv_p0 p0_0 ++ wRules k a_p0ru p0ru_0 ++ wCourt k a_p0no p0no_j453 ++ wPast k a_p0pa pp_0 p0pa_0) [] (wMCo k a_p0 (a_p0in 0) (a_p0ou 0) (a_p0ru 0) (a_p0no 0) (a_p0fo 0) (a_p0rd 0) (a_p0pa 0) sv_p0 p0_0 ++ wRules k a_p0ru p0ru_0 ++ wCourt k a_p0no p0no_j453 ++ wPast k a_p0pa pp_0 p0pa_0) 0 18 (by simp only [List.nil_append, List.append_nil]) rfl rfl rfl]; try simp only [List.nil_append, List.append_nil]) (fun r u H locs hp hW => ?_)
                                  cases hp
                                  have hW : WD k A s.heap (wMCo k a_p0 (a_p0in 0) (a_p0ou 0) (a_p0ru 0) (a_p0no 0) (a_p0fo 0) (a_p0rd 0) (a_p0pa 0) sv_p0 p0_0 ++ wRules k a_p0ru p0ru_0 ++ wCourt k a_p0no p0no_j453 ++ wPast k a_p0pa pp_0 p0pa_0) H locs := hW
                                  refine lv_isub E.hx E.hb dL_isSound_462 ?_
                                  refine lv_icmp_ne (tgt := 520) E.hx E.hb dL_isSound_463 (by decide) (fun hc => ?_) (fun hc => ?_)
                                  · have hf := oF hc hf
                                    refine lv_iconst (v := (0 : Int32)) E.hx E.hb dL_isSound_520 ic_0 ?_
                                    exact hret _ p0no_j453 _ _ _ _ _ _ hW (Option.some.inj hf).symm (by decide) (by decide) (by decide) dL_isSound_521
                                  · have hf := oT hc hf
                                    refine k_iload E hl 3 dL_isSound_466 rfl ?_
                                    refine k_aload_n E hl 0 dL_isSound_468 rfl ?_
                                    refine lv_bipush (v := (14 : Int32)) E.hx E.hb dL_isSound_469 bp_14 ?_
                                    obtain ⟨r_51, hg, hf⟩ := ob hf
                                    refine k_callVi (As := [.int (14 : Int32)]) (rest := [.int w8_j453]) (ws2 := fun u => wMCo k a_p0 (a_p0in 0) (a_p0ou 0) (a_p0ru 0) (a_p0no 0) (a_p0fo 0) (a_p0rd 0) (a_p0pa 0) sv_p0 p0_0 ++ wRules k a_p0ru p0ru_0 ++ wCourt k a_p0no p0no_j453 ++ wPast k a_p0pa pp_0 p0pa_0) (c_X8_count n l k a_p0 a_p0in a_p0ou a_p0ru a_p0no a_p0fo a_p0rd a_p0pa pp_0 sv_p0 p0_0 p0ru_0 p0no_j453 p0pa_0 (14 : Int32) r_51 hg) E vl_L_84 dL_isSound_471 rfl (List.range' 0 18) 8 0 hW hA hl rfl (blk_map [] (wMCo k a_p0 (a_p0in 0) (a_p0ou 0) (a_p0ru 0) (a_p0no 0) (a_p0fo 0) (a_p0rd 0) (a_p0pa 0) sv_p0 p0_0 ++ wRules k a_p0ru p0ru_0 ++ wCourt k a_p0no p0no_j453 ++ wPast k a_p0pa pp_0 p0pa_0) [] 0 18 (by simp only [List.nil_append, List.append_nil]) rfl rfl) rfl rfl ⟨by decide, by decide⟩ ⟨by decide, by decide⟩ (Nat.le_of_ble_eq_true rfl) rfl (fun _ => rfl) (fun u => by rw [blk_put [] (wMCo k a_p0 (a_p0in 0) (a_p0ou 0) (a_p0ru 0) (a_p0no 0) (a_p0fo 0) (a_p0rd 0) (a_p0pa 0) sv_p0 p0_0 ++ wRules k a_p0ru p0ru_0 ++ wCourt k a_p0no p0no_j453 ++ wPast k a_p0pa pp_0 p0pa_0) [] (wMCo k a_p0 (a_p0in 0) (a_p0ou 0) (a_p0ru 0) (a_p0no 0) (a_p0fo 0) (a_p0rd 0) (a_p0pa 0) sv_p0 p0_0 ++ wRules k a_p0ru p0ru_0 ++ wCourt k a_p0no p0no_j453 ++ wPast k a_p0pa pp_0 p0pa_0) 0 18 (by simp only [List.nil_append, List.append_nil]) rfl rfl rfl]; try simp only [List.nil_append, List.append_nil]) (fun r u H locs hp hW => ?_)
                                    cases hp
                                    have hW : WD k A s.heap (wMCo k a_p0 (a_p0in 0) (a_p0ou 0) (a_p0ru 0) (a_p0no 0) (a_p0fo 0) (a_p0rd 0) (a_p0pa 0) sv_p0 p0_0 ++ wRules k a_p0ru p0ru_0 ++ wCourt k a_p0no p0no_j453 ++ wPast k a_p0pa pp_0 p0pa_0) H locs := hW
                                    refine lv_icmp_ne (tgt := 520) E.hx E.hb dL_isSound_474 (by decide) (fun hc => ?_) (fun hc => ?_)
                                    · have hf := oF hc hf
                                      refine lv_iconst (v := (0 : Int32)) E.hx E.hb dL_isSound_520 ic_0 ?_
                                      exact hret _ p0no_j453 _ _ _ _ _ _ hW (Option.some.inj hf).symm (by decide) (by decide) (by decide) dL_isSound_521
                                    · have hf := oT hc hf
                                      refine k_iload E hl 5 dL_isSound_477 rfl ?_
                                      refine k_iload E hl 3 dL_isSound_479 rfl ?_
                                      refine lv_icmp_ne (tgt := 520) E.hx E.hb dL_isSound_481 (by decide) (fun hc => ?_) (fun hc => ?_)
                                      · have hf := oF hc hf
                                        refine lv_iconst (v := (0 : Int32)) E.hx E.hb dL_isSound_520 ic_0 ?_
                                        exact hret _ p0no_j453 _ _ _ _ _ _ hW (Option.some.inj hf).symm (by decide) (by decide) (by decide) dL_isSound_521
                                      · have hf := oT hc hf
                                        refine k_iload E hl 4 dL_isSound_484 rfl ?_
                                        refine k_aload_n E hl 0 dL_isSound_486 rfl ?_
                                        refine lv_bipush (v := (18 : Int32)) E.hx E.hb dL_isSound_487 bp_18 ?_
                                        obtain ⟨r_52, hg, hf⟩ := ob hf
                                        refine k_callVi (As := [.int (18 : Int32)]) (rest := [.int w9_j453]) (ws2 := fun u => wMCo k a_p0 (a_p0in 0) (a_p0ou 0) (a_p0ru 0) (a_p0no 0) (a_p0fo 0) (a_p0rd 0) (a_p0pa 0) sv_p0 p0_0 ++ wRules k a_p0ru p0ru_0 ++ wCourt k a_p0no p0no_j453 ++ wPast k a_p0pa pp_0 p0pa_0) (c_X8_count n l k a_p0 a_p0in a_p0ou a_p0ru a_p0no a_p0fo a_p0rd a_p0pa pp_0 sv_p0 p0_0 p0ru_0 p0no_j453 p0pa_0 (18 : Int32) r_52 hg) E vl_L_84 dL_isSound_489 rfl (List.range' 0 18) 8 0 hW hA hl rfl (blk_map [] (wMCo k a_p0 (a_p0in 0) (a_p0ou 0) (a_p0ru 0) (a_p0no 0) (a_p0fo 0) (a_p0rd 0) (a_p0pa 0) sv_p0 p0_0 ++ wRules k a_p0ru p0ru_0 ++ wCourt k a_p0no p0no_j453 ++ wPast k a_p0pa pp_0 p0pa_0) [] 0 18 (by simp only [List.nil_append, List.append_nil]) rfl rfl) rfl rfl ⟨by decide, by decide⟩ ⟨by decide, by decide⟩ (Nat.le_of_ble_eq_true rfl) rfl (fun _ => rfl) (fun u => by rw [blk_put [] (wMCo k a_p0 (a_p0in 0) (a_p0ou 0) (a_p0ru 0) (a_p0no 0) (a_p0fo 0) (a_p0rd 0) (a_p0pa 0) sv_p0 p0_0 ++ wRules k a_p0ru p0ru_0 ++ wCourt k a_p0no p0no_j453 ++ wPast k a_p0pa pp_0 p0pa_0) [] (wMCo k a_p0 (a_p0in 0) (a_p0ou 0) (a_p0ru 0) (a_p0no 0) (a_p0fo 0) (a_p0rd 0) (a_p0pa 0) sv_p0 p0_0 ++ wRules k a_p0ru p0ru_0 ++ wCourt k a_p0no p0no_j453 ++ wPast k a_p0pa pp_0 p0pa_0) 0 18 (by simp only [List.nil_append, List.append_nil]) rfl rfl rfl]; try simp only [List.nil_append, List.append_nil]) (fun r u H locs hp hW => ?_)
                                        cases hp
                                        have hW : WD k A s.heap (wMCo k a_p0 (a_p0in 0) (a_p0ou 0) (a_p0ru 0) (a_p0no 0) (a_p0fo 0) (a_p0rd 0) (a_p0pa 0) sv_p0 p0_0 ++ wRules k a_p0ru p0ru_0 ++ wCourt k a_p0no p0no_j453 ++ wPast k a_p0pa pp_0 p0pa_0) H locs := hW
                                        refine lv_icmp_ne (tgt := 520) E.hx E.hb dL_isSound_492 (by decide) (fun hc => ?_) (fun hc => ?_)
                                        · have hf := oF hc hf
                                          refine lv_iconst (v := (0 : Int32)) E.hx E.hb dL_isSound_520 ic_0 ?_
                                          exact hret _ p0no_j453 _ _ _ _ _ _ hW (Option.some.inj hf).symm (by decide) (by decide) (by decide) dL_isSound_521
                                        · have hf := oT hc hf
                                          refine k_iload E hl 3 dL_isSound_495 rfl ?_
                                          refine lv_if_eq (tgt := 516) E.hx E.hb dL_isSound_497 (by decide) (fun hc => ?_) (fun hc => ?_)
                                          · have hf := oT hc hf
                                            refine lv_iconst (v := (1 : Int32)) E.hx E.hb dL_isSound_516 ic_1 ?_
                                            refine lv_goto (tgt := 521) E.hx E.hb dL_isSound_517 (by decide) ?_
                                            exact hret _ p0no_j453 _ _ _ _ _ _ hW (Option.some.inj hf).symm (by decide) (by decide) (by decide) dL_isSound_521
                                          · have hf := oF hc hf
                                            refine k_aload_n E hl 0 dL_isSound_500 rfl ?_
                                            refine k_aload_n E hl 0 dL_isSound_501 rfl ?_
                                            refine k_iload E hl 3 dL_isSound_502 rfl ?_
                                            refine lv_iconst (v := (1 : Int32)) E.hx E.hb dL_isSound_504 ic_1 ?_
                                            refine lv_isub E.hx E.hb dL_isSound_505 ?_
                                            obtain ⟨p0no_53, r_54, cd_55, hg, hf⟩ := ob3 hf
                                            by_cases hcd : cd_55 = 0
                                            rotate_left
                                            · have hf := oF hcd hf
                                              exact o0 hf
                                            replace hf := oT hcd hf
                                            refine k_callVi (As := [.int (w8_j453 - (1 : Int32))]) (rest := [.ref (a_p0 0)]) (ws2 := fun u => wMCo k a_p0 (a_p0in 0) (a_p0ou 0) (a_p0ru 0) (a_p0no 0) (a_p0fo 0) (a_p0rd 0) (a_p0pa 0) sv_p0 p0_0 ++ wRules k a_p0ru p0ru_0 ++ wCourt k a_p0no (u) ++ wPast k a_p0pa pp_0 p0pa_0) (c_X8_waiting n l k a_p0 a_p0in a_p0ou a_p0ru a_p0no a_p0fo a_p0rd a_p0pa sv_p0 p0_0 p0no_j453 (w8_j453 - (1 : Int32)) (p0no_53, r_54, cd_55) hg hcd) E vl_L_129 dL_isSound_506 rfl (List.range' 0 1 ++ List.range' 4 12) 8 0 hW hA hl rfl (by simp only [List.map_append]; exact app2 (blk_map [] (wMCo k a_p0 (a_p0in 0) (a_p0ou 0) (a_p0ru 0) (a_p0no 0) (a_p0fo 0) (a_p0rd 0) (a_p0pa 0) sv_p0 p0_0) (wRules k a_p0ru p0ru_0 ++ wCourt k a_p0no p0no_j453 ++ wPast k a_p0pa pp_0 p0pa_0) 0 1 (by simp only [List.append_assoc, List.nil_append, List.append_nil]) rfl rfl) (blk_map (wMCo k a_p0 (a_p0in 0) (a_p0ou 0) (a_p0ru 0) (a_p0no 0) (a_p0fo 0) (a_p0rd 0) (a_p0pa 0) sv_p0 p0_0 ++ wRules k a_p0ru p0ru_0) (wCourt k a_p0no p0no_j453) (wPast k a_p0pa pp_0 p0pa_0) 4 12 (by simp only [List.append_assoc, List.nil_append, List.append_nil]) rfl rfl)) rfl rfl ⟨by decide, by decide⟩ ⟨by decide, by decide⟩ (Nat.le_of_ble_eq_true rfl) rfl (fun _ => rfl) (fun u => by show putW _ (_ ++ _) (_ ++ _) = _; rw [putW_app _ _ _ _ _ rfl, blk_put [] (wMCo k a_p0 (a_p0in 0) (a_p0ou 0) (a_p0ru 0) (a_p0no 0) (a_p0fo 0) (a_p0rd 0) (a_p0pa 0) sv_p0 p0_0) (wRules k a_p0ru p0ru_0 ++ wCourt k a_p0no p0no_j453 ++ wPast k a_p0pa pp_0 p0pa_0) (wMCo k a_p0 (a_p0in 0) (a_p0ou 0) (a_p0ru 0) (a_p0no 0) (a_p0fo 0) (a_p0rd 0) (a_p0pa 0) sv_p0 p0_0) 0 1 (by simp only [List.append_assoc, List.nil_append, List.append_nil]) rfl rfl rfl, blk_put (wMCo k a_p0 (a_p0in 0) (a_p0ou 0) (a_p0ru 0) (a_p0no 0) (a_p0fo 0) (a_p0rd 0) (a_p0pa 0) sv_p0 p0_0 ++ wRules k a_p0ru p0ru_0) (wCourt k a_p0no p0no_j453) (wPast k a_p0pa pp_0 p0pa_0) (wCourt k a_p0no (u)) 4 12 (by simp only [List.append_assoc, List.nil_append, List.append_nil]) rfl rfl rfl]; try simp only [List.append_assoc, List.nil_append, List.append_nil]) (fun r u H locs hp hW => ?_)
                                            cases hp
                                            have hW : WD k A s.heap (wMCo k a_p0 (a_p0in 0) (a_p0ou 0) (a_p0ru 0) (a_p0no 0) (a_p0fo 0) (a_p0rd 0) (a_p0pa 0) sv_p0 p0_0 ++ wRules k a_p0ru p0ru_0 ++ wCourt k a_p0no p0no_53 ++ wPast k a_p0pa pp_0 p0pa_0) H locs := hW
                                            refine lv_iconst (v := (3 : Int32)) E.hx E.hb dL_isSound_509 ic_3 ?_
                                            obtain ⟨r_56, cd_57, hg, hf⟩ := ob2 hf
                                            by_cases hcd : cd_57 = 0
                                            rotate_left
                                            · have hf := oF hcd hf
                                              exact o0 hf
                                            replace hf := oT hcd hf
                                            refine k_callVi (As := [.int r_54, .int (3 : Int32)]) (rest := []) (ws2 := fun u => wMCo k a_p0 (a_p0in 0) (a_p0ou 0) (a_p0ru 0) (a_p0no 0) (a_p0fo 0) (a_p0rd 0) (a_p0pa 0) sv_p0 p0_0 ++ wRules k a_p0ru p0ru_0 ++ wCourt k a_p0no p0no_53 ++ wPast k a_p0pa pp_0 p0pa_0) (c_X8_claim n l k a_p0 a_p0in a_p0ou a_p0ru a_p0no a_p0fo a_p0rd a_p0pa sv_p0 p0_0 p0no_53 r_54 (3 : Int32) (r_56, cd_57) hg hcd) E vl_L_126 dL_isSound_510 rfl (List.range' 0 1 ++ List.range' 4 12) 8 0 hW hA hl rfl (by simp only [List.map_append]; exact app2 (blk_map [] (wMCo k a_p0 (a_p0in 0) (a_p0ou 0) (a_p0ru 0) (a_p0no 0) (a_p0fo 0) (a_p0rd 0) (a_p0pa 0) sv_p0 p0_0) (wRules k a_p0ru p0ru_0 ++ wCourt k a_p0no p0no_53 ++ wPast k a_p0pa pp_0 p0pa_0) 0 1 (by simp only [List.append_assoc, List.nil_append, List.append_nil]) rfl rfl) (blk_map (wMCo k a_p0 (a_p0in 0) (a_p0ou 0) (a_p0ru 0) (a_p0no 0) (a_p0fo 0) (a_p0rd 0) (a_p0pa 0) sv_p0 p0_0 ++ wRules k a_p0ru p0ru_0) (wCourt k a_p0no p0no_53) (wPast k a_p0pa pp_0 p0pa_0) 4 12 (by simp only [List.append_assoc, List.nil_append, List.append_nil]) rfl rfl)) rfl rfl ⟨by decide, by decide⟩ ⟨by decide, by decide⟩ (Nat.le_of_ble_eq_true rfl) rfl (fun _ => rfl) (fun u => by show putW _ (_ ++ _) (_ ++ _) = _; rw [putW_app _ _ _ _ _ rfl, blk_put [] (wMCo k a_p0 (a_p0in 0) (a_p0ou 0) (a_p0ru 0) (a_p0no 0) (a_p0fo 0) (a_p0rd 0) (a_p0pa 0) sv_p0 p0_0) (wRules k a_p0ru p0ru_0 ++ wCourt k a_p0no p0no_53 ++ wPast k a_p0pa pp_0 p0pa_0) (wMCo k a_p0 (a_p0in 0) (a_p0ou 0) (a_p0ru 0) (a_p0no 0) (a_p0fo 0) (a_p0rd 0) (a_p0pa 0) sv_p0 p0_0) 0 1 (by simp only [List.append_assoc, List.nil_append, List.append_nil]) rfl rfl rfl, blk_put (wMCo k a_p0 (a_p0in 0) (a_p0ou 0) (a_p0ru 0) (a_p0no 0) (a_p0fo 0) (a_p0rd 0) (a_p0pa 0) sv_p0 p0_0 ++ wRules k a_p0ru p0ru_0) (wCourt k a_p0no p0no_53) (wPast k a_p0pa pp_0 p0pa_0) (wCourt k a_p0no p0no_53) 4 12 (by simp only [List.append_assoc, List.nil_append, List.append_nil]) rfl rfl rfl]; try simp only [List.append_assoc, List.nil_append, List.append_nil]) (fun r u H locs hp hW => ?_)
                                            cases hp
                                            have hW : WD k A s.heap (wMCo k a_p0 (a_p0in 0) (a_p0ou 0) (a_p0ru 0) (a_p0no 0) (a_p0fo 0) (a_p0rd 0) (a_p0pa 0) sv_p0 p0_0 ++ wRules k a_p0ru p0ru_0 ++ wCourt k a_p0no p0no_53 ++ wPast k a_p0pa pp_0 p0pa_0) H locs := hW
                                            refine lv_if_ne (tgt := 520) E.hx E.hb dL_isSound_513 (by decide) (fun hc => ?_) (fun hc => ?_)
                                            · have hf := oF hc hf
                                              refine lv_iconst (v := (0 : Int32)) E.hx E.hb dL_isSound_520 ic_0 ?_
                                              exact hret _ p0no_53 _ _ _ _ _ _ hW (Option.some.inj hf).symm (by decide) (by decide) (by decide) dL_isSound_521
                                            · have hf := oT hc hf
                                              refine lv_iconst (v := (1 : Int32)) E.hx E.hb dL_isSound_516 ic_1 ?_
                                              refine lv_goto (tgt := 521) E.hx E.hb dL_isSound_517 (by decide) ?_
                                              exact hret _ p0no_53 _ _ _ _ _ _ hW (Option.some.inj hf).symm (by decide) (by decide) (by decide) dL_isSound_521
                                refine lv_icmp_ge (tgt := 453) E.hx E.hb dL_isSound_359 (by decide) (fun hc => ?_) (fun hc => ?_)
                                · have hf := oT hc hf
                                  exact J_453 p0no_j351 w7_j345 w8_j345 w9_j345 w10_j351 _ _ _ hW (lv_sub hl [0, 1, 2, 3, 4, 5] rfl) hf
                                · have hf := oF hc hf
                                  refine k_iload E hl 5 dL_isSound_362 rfl ?_
                                  refine k_aload_n E hl 0 dL_isSound_364 rfl ?_
                                  refine k_iload E hl 6 dL_isSound_365 rfl ?_
                                  refine lv_iconst (v := (3 : Int32)) E.hx E.hb dL_isSound_367 ic_3 ?_
                                  obtain ⟨r_58, cd_59, hg, hf⟩ := ob2 hf
                                  by_cases hcd : cd_59 = 0
                                  rotate_left
                                  · have hf := oF hcd hf
                                    exact o0 hf
                                  replace hf := oT hcd hf
                                  refine k_callVi (As := [.int w11_j351, .int (3 : Int32)]) (rest := [.int w10_j351]) (ws2 := fun u => wMCo k a_p0 (a_p0in 0) (a_p0ou 0) (a_p0ru 0) (a_p0no 0) (a_p0fo 0) (a_p0rd 0) (a_p0pa 0) sv_p0 p0_0 ++ wRules k a_p0ru p0ru_0 ++ wCourt k a_p0no p0no_j351 ++ wPast k a_p0pa pp_0 p0pa_0) (c_X8_claim n l k a_p0 a_p0in a_p0ou a_p0ru a_p0no a_p0fo a_p0rd a_p0pa sv_p0 p0_0 p0no_j351 w11_j351 (3 : Int32) (r_58, cd_59) hg hcd) E vl_L_126 dL_isSound_368 rfl (List.range' 0 1 ++ List.range' 4 12) 8 0 hW hA hl rfl (by simp only [List.map_append]; exact app2 (blk_map [] (wMCo k a_p0 (a_p0in 0) (a_p0ou 0) (a_p0ru 0) (a_p0no 0) (a_p0fo 0) (a_p0rd 0) (a_p0pa 0) sv_p0 p0_0) (wRules k a_p0ru p0ru_0 ++ wCourt k a_p0no p0no_j351 ++ wPast k a_p0pa pp_0 p0pa_0) 0 1 (by simp only [List.append_assoc, List.nil_append, List.append_nil]) rfl rfl) (blk_map (wMCo k a_p0 (a_p0in 0) (a_p0ou 0) (a_p0ru 0) (a_p0no 0) (a_p0fo 0) (a_p0rd 0) (a_p0pa 0) sv_p0 p0_0 ++ wRules k a_p0ru p0ru_0) (wCourt k a_p0no p0no_j351) (wPast k a_p0pa pp_0 p0pa_0) 4 12 (by simp only [List.append_assoc, List.nil_append, List.append_nil]) rfl rfl)) rfl rfl ⟨by decide, by decide⟩ ⟨by decide, by decide⟩ (Nat.le_of_ble_eq_true rfl) rfl (fun _ => rfl) (fun u => by show putW _ (_ ++ _) (_ ++ _) = _; rw [putW_app _ _ _ _ _ rfl, blk_put [] (wMCo k a_p0 (a_p0in 0) (a_p0ou 0) (a_p0ru 0) (a_p0no 0) (a_p0fo 0) (a_p0rd 0) (a_p0pa 0) sv_p0 p0_0) (wRules k a_p0ru p0ru_0 ++ wCourt k a_p0no p0no_j351 ++ wPast k a_p0pa pp_0 p0pa_0) (wMCo k a_p0 (a_p0in 0) (a_p0ou 0) (a_p0ru 0) (a_p0no 0) (a_p0fo 0) (a_p0rd 0) (a_p0pa 0) sv_p0 p0_0) 0 1 (by simp only [List.append_assoc, List.nil_append, List.append_nil]) rfl rfl rfl, blk_put (wMCo k a_p0 (a_p0in 0) (a_p0ou 0) (a_p0ru 0) (a_p0no 0) (a_p0fo 0) (a_p0rd 0) (a_p0pa 0) sv_p0 p0_0 ++ wRules k a_p0ru p0ru_0) (wCourt k a_p0no p0no_j351) (wPast k a_p0pa pp_0 p0pa_0) (wCourt k a_p0no p0no_j351) 4 12 (by simp only [List.append_assoc, List.nil_append, List.append_nil]) rfl rfl rfl]; try simp only [List.append_assoc, List.nil_append, List.append_nil]) (fun r u H locs hp hW => ?_)
                                  cases hp
                                  have hW : WD k A s.heap (wMCo k a_p0 (a_p0in 0) (a_p0ou 0) (a_p0ru 0) (a_p0no 0) (a_p0fo 0) (a_p0rd 0) (a_p0pa 0) sv_p0 p0_0 ++ wRules k a_p0ru p0ru_0 ++ wCourt k a_p0no p0no_j351 ++ wPast k a_p0pa pp_0 p0pa_0) H locs := hW
                                  have J_379 : ∀ (p0no_j379 : OS) (w11_j379 : Int32) (s0_j379 : Int32) (s1_j379 : Int32) (H : Heap) (locs : List Loc) (ls : Array Slot) (hW : WD k A s.heap (wMCo k a_p0 (a_p0in 0) (a_p0ou 0) (a_p0ru 0) (a_p0no 0) (a_p0fo 0) (a_p0rd 0) (a_p0pa 0) sv_p0 p0_0 ++ wRules k a_p0ru p0ru_0 ++ wCourt k a_p0no p0no_j379 ++ wPast k a_p0pa pp_0 p0pa_0) H locs) (hl : lv_has ls 12 [(0, .ref (a_p0 0)), (1, .int v1_0), (7, .int w7_j345), (8, .int w8_j345), (9, .int w9_j345), (11, .int w11_j379)]) (hf : j_L_isSound_379 n sv_p0 p0_0 p0ru_0 p0pa_0 v1_0 w7_j345 w8_j345 w9_j345 (l_L_isSound_351 n sv_p0 p0_0 p0ru_0 p0pa_0 v1_0 w7_j345 w8_j345 w9_j345 N_351) p0no_j379 w11_j379 s0_j379 s1_j379 = some res), W p l e { frames := 4, cells := 0, slots := 0, locals := 90 } s m args below meth c H locs 0 0 Q (F0 m 379 ls [.int s1_j379, .int s0_j379]) := by
                                    intro p0no_j379 w11_j379 s0_j379 s1_j379 H locs ls hW hl hf
                                    unfold j_L_isSound_379 at hf
                                    refine lv_iadd E.hx E.hb dL_isSound_379 ?_
                                    obtain ⟨v10_60, ev10_60, hf⟩ := oL hf
                                    refine k_istore (lv' := [(10, .int v10_60), (0, .ref (a_p0 0)), (1, .int v1_0), (7, .int w7_j345), (8, .int w8_j345), (9, .int w9_j345), (11, .int w11_j379)]) E ev10_60 hl dL_isSound_380 (by decide) rfl (fun ls hl => ?_)
                                    refine k_aload_n E hl 1 dL_isSound_382 rfl ?_
                                    refine k_iload E hl 6 dL_isSound_383 rfl ?_
                                    refine lv_iconst (v := (3 : Int32)) E.hx E.hb dL_isSound_385 ic_3 ?_
                                    obtain ⟨r_61, cd_62, hg, hf⟩ := ob2 hf
                                    by_cases hcd : cd_62 = 0
                                    rotate_left
                                    · have hf := oF hcd hf
                                      exact o0 hf
                                    replace hf := oT hcd hf
                                    refine k_callVi (As := [.int w11_j379, .int (3 : Int32)]) (rest := []) (ws2 := fun u => wMCo k a_p0 (a_p0in 0) (a_p0ou 0) (a_p0ru 0) (a_p0no 0) (a_p0fo 0) (a_p0rd 0) (a_p0pa 0) sv_p0 p0_0 ++ wRules k a_p0ru p0ru_0 ++ wCourt k a_p0no p0no_j379 ++ wPast k a_p0pa pp_0 p0pa_0) (c_X8_claim n l k a_p0 a_p0in a_p0ou a_p0ru a_p0no a_p0fo a_p0rd a_p0pa sv_p0 p0_0 p0no_j379 w11_j379 (3 : Int32) (r_61, cd_62) hg hcd) E vl_L_126 dL_isSound_386 rfl (List.range' 0 1 ++ List.range' 4 12) 8 0 hW hA hl rfl (by simp only [List.map_append]; exact app2 (blk_map [] (wMCo k a_p0 (a_p0in 0) (a_p0ou 0) (a_p0ru 0) (a_p0no 0) (a_p0fo 0) (a_p0rd 0) (a_p0pa 0) sv_p0 p0_0) (wRules k a_p0ru p0ru_0 ++ wCourt k a_p0no p0no_j379 ++ wPast k a_p0pa pp_0 p0pa_0) 0 1 (by simp only [List.append_assoc, List.nil_append, List.append_nil]) rfl rfl) (blk_map (wMCo k a_p0 (a_p0in 0) (a_p0ou 0) (a_p0ru 0) (a_p0no 0) (a_p0fo 0) (a_p0rd 0) (a_p0pa 0) sv_p0 p0_0 ++ wRules k a_p0ru p0ru_0) (wCourt k a_p0no p0no_j379) (wPast k a_p0pa pp_0 p0pa_0) 4 12 (by simp only [List.append_assoc, List.nil_append, List.append_nil]) rfl rfl)) rfl rfl ⟨by decide, by decide⟩ ⟨by decide, by decide⟩ (Nat.le_of_ble_eq_true rfl) rfl (fun _ => rfl) (fun u => by show putW _ (_ ++ _) (_ ++ _) = _; rw [putW_app _ _ _ _ _ rfl, blk_put [] (wMCo k a_p0 (a_p0in 0) (a_p0ou 0) (a_p0ru 0) (a_p0no 0) (a_p0fo 0) (a_p0rd 0) (a_p0pa 0) sv_p0 p0_0) (wRules k a_p0ru p0ru_0 ++ wCourt k a_p0no p0no_j379 ++ wPast k a_p0pa pp_0 p0pa_0) (wMCo k a_p0 (a_p0in 0) (a_p0ou 0) (a_p0ru 0) (a_p0no 0) (a_p0fo 0) (a_p0rd 0) (a_p0pa 0) sv_p0 p0_0) 0 1 (by simp only [List.append_assoc, List.nil_append, List.append_nil]) rfl rfl rfl, blk_put (wMCo k a_p0 (a_p0in 0) (a_p0ou 0) (a_p0ru 0) (a_p0no 0) (a_p0fo 0) (a_p0rd 0) (a_p0pa 0) sv_p0 p0_0 ++ wRules k a_p0ru p0ru_0) (wCourt k a_p0no p0no_j379) (wPast k a_p0pa pp_0 p0pa_0) (wCourt k a_p0no p0no_j379) 4 12 (by simp only [List.append_assoc, List.nil_append, List.append_nil]) rfl rfl rfl]; try simp only [List.append_assoc, List.nil_append, List.append_nil]) (fun r u H locs hp hW => ?_)
                                    cases hp
                                    have hW : WD k A s.heap (wMCo k a_p0 (a_p0in 0) (a_p0ou 0) (a_p0ru 0) (a_p0no 0) (a_p0fo 0) (a_p0rd 0) (a_p0pa 0) sv_p0 p0_0 ++ wRules k a_p0ru p0ru_0 ++ wCourt k a_p0no p0no_j379 ++ wPast k a_p0pa pp_0 p0pa_0) H locs := hW
                                    refine lv_iconst (v := (1 : Int32)) E.hx E.hb dL_isSound_389 ic_1 ?_
                                    have J_398 : ∀ (p0no_j398 : OS) (w10_j398 : Int32) (w11_j398 : Int32) (s0_j398 : Int32) (H : Heap) (locs : List Loc) (ls : Array Slot) (hW : WD k A s.heap (wMCo k a_p0 (a_p0in 0) (a_p0ou 0) (a_p0ru 0) (a_p0no 0) (a_p0fo 0) (a_p0rd 0) (a_p0pa 0) sv_p0 p0_0 ++ wRules k a_p0ru p0ru_0 ++ wCourt k a_p0no p0no_j398 ++ wPast k a_p0pa pp_0 p0pa_0) H locs) (hl : lv_has ls 12 [(0, .ref (a_p0 0)), (1, .int v1_0), (7, .int w7_j345), (8, .int w8_j345), (9, .int w9_j345), (10, .int w10_j398), (11, .int w11_j398)]) (hf : j_L_isSound_398 n sv_p0 p0_0 p0ru_0 p0pa_0 v1_0 w7_j345 w8_j345 w9_j345 (l_L_isSound_351 n sv_p0 p0_0 p0ru_0 p0pa_0 v1_0 w7_j345 w8_j345 w9_j345 N_351) p0no_j398 w10_j398 w11_j398 s0_j398 = some res), W p l e { frames := 4, cells := 0, slots := 0, locals := 90 } s m args below meth c H locs 0 0 Q (F0 m 398 ls [.int s0_j398]) := by
                                      intro p0no_j398 w10_j398 w11_j398 s0_j398 H locs ls hW hl hf
                                      unfold j_L_isSound_398 at hf
                                      refine k_aload_n E hl 0 dL_isSound_398 rfl ?_
                                      refine k_iload E hl 6 dL_isSound_399 rfl ?_
                                      refine lv_iconst (v := (5 : Int32)) E.hx E.hb dL_isSound_401 ic_5 ?_
                                      obtain ⟨r_63, cd_64, hg, hf⟩ := ob2 hf
                                      by_cases hcd : cd_64 = 0
                                      rotate_left
                                      · have hf := oF hcd hf
                                        exact o0 hf
                                      replace hf := oT hcd hf
                                      refine k_callVi (As := [.int w11_j398, .int (5 : Int32)]) (rest := [.int s0_j398]) (ws2 := fun u => wMCo k a_p0 (a_p0in 0) (a_p0ou 0) (a_p0ru 0) (a_p0no 0) (a_p0fo 0) (a_p0rd 0) (a_p0pa 0) sv_p0 p0_0 ++ wRules k a_p0ru p0ru_0 ++ wCourt k a_p0no p0no_j398 ++ wPast k a_p0pa pp_0 p0pa_0) (c_X8_claim n l k a_p0 a_p0in a_p0ou a_p0ru a_p0no a_p0fo a_p0rd a_p0pa sv_p0 p0_0 p0no_j398 w11_j398 (5 : Int32) (r_63, cd_64) hg hcd) E vl_L_126 dL_isSound_402 rfl (List.range' 0 1 ++ List.range' 4 12) 8 0 hW hA hl rfl (by simp only [List.map_append]; exact app2 (blk_map [] (wMCo k a_p0 (a_p0in 0) (a_p0ou 0) (a_p0ru 0) (a_p0no 0) (a_p0fo 0) (a_p0rd 0) (a_p0pa 0) sv_p0 p0_0) (wRules k a_p0ru p0ru_0 ++ wCourt k a_p0no p0no_j398 ++ wPast k a_p0pa pp_0 p0pa_0) 0 1 (by simp only [List.append_assoc, List.nil_append, List.append_nil]) rfl rfl) (blk_map (wMCo k a_p0 (a_p0in 0) (a_p0ou 0) (a_p0ru 0) (a_p0no 0) (a_p0fo 0) (a_p0rd 0) (a_p0pa 0) sv_p0 p0_0 ++ wRules k a_p0ru p0ru_0) (wCourt k a_p0no p0no_j398) (wPast k a_p0pa pp_0 p0pa_0) 4 12 (by simp only [List.append_assoc, List.nil_append, List.append_nil]) rfl rfl)) rfl rfl ⟨by decide, by decide⟩ ⟨by decide, by decide⟩ (Nat.le_of_ble_eq_true rfl) rfl (fun _ => rfl) (fun u => by show putW _ (_ ++ _) (_ ++ _) = _; rw [putW_app _ _ _ _ _ rfl, blk_put [] (wMCo k a_p0 (a_p0in 0) (a_p0ou 0) (a_p0ru 0) (a_p0no 0) (a_p0fo 0) (a_p0rd 0) (a_p0pa 0) sv_p0 p0_0) (wRules k a_p0ru p0ru_0 ++ wCourt k a_p0no p0no_j398 ++ wPast k a_p0pa pp_0 p0pa_0) (wMCo k a_p0 (a_p0in 0) (a_p0ou 0) (a_p0ru 0) (a_p0no 0) (a_p0fo 0) (a_p0rd 0) (a_p0pa 0) sv_p0 p0_0) 0 1 (by simp only [List.append_assoc, List.nil_append, List.append_nil]) rfl rfl rfl, blk_put (wMCo k a_p0 (a_p0in 0) (a_p0ou 0) (a_p0ru 0) (a_p0no 0) (a_p0fo 0) (a_p0rd 0) (a_p0pa 0) sv_p0 p0_0 ++ wRules k a_p0ru p0ru_0) (wCourt k a_p0no p0no_j398) (wPast k a_p0pa pp_0 p0pa_0) (wCourt k a_p0no p0no_j398) 4 12 (by simp only [List.append_assoc, List.nil_append, List.append_nil]) rfl rfl rfl]; try simp only [List.append_assoc, List.nil_append, List.append_nil]) (fun r u H locs hp hW => ?_)
                                      cases hp
                                      have hW : WD k A s.heap (wMCo k a_p0 (a_p0in 0) (a_p0ou 0) (a_p0ru 0) (a_p0no 0) (a_p0fo 0) (a_p0rd 0) (a_p0pa 0) sv_p0 p0_0 ++ wRules k a_p0ru p0ru_0 ++ wCourt k a_p0no p0no_j398 ++ wPast k a_p0pa pp_0 p0pa_0) H locs := hW
                                      refine lv_iconst (v := (-1 : Int32)) E.hx E.hb dL_isSound_405 ic_m1 ?_
                                      have J_414 : ∀ (p0no_j414 : OS) (w10_j414 : Int32) (w11_j414 : Int32) (s0_j414 : Int32) (s1_j414 : Int32) (H : Heap) (locs : List Loc) (ls : Array Slot) (hW : WD k A s.heap (wMCo k a_p0 (a_p0in 0) (a_p0ou 0) (a_p0ru 0) (a_p0no 0) (a_p0fo 0) (a_p0rd 0) (a_p0pa 0) sv_p0 p0_0 ++ wRules k a_p0ru p0ru_0 ++ wCourt k a_p0no p0no_j414 ++ wPast k a_p0pa pp_0 p0pa_0) H locs) (hl : lv_has ls 12 [(0, .ref (a_p0 0)), (1, .int v1_0), (7, .int w7_j345), (8, .int w8_j345), (9, .int w9_j345), (10, .int w10_j414), (11, .int w11_j414)]) (hf : j_L_isSound_414 n sv_p0 p0_0 p0ru_0 p0pa_0 v1_0 w7_j345 w8_j345 w9_j345 (l_L_isSound_351 n sv_p0 p0_0 p0ru_0 p0pa_0 v1_0 w7_j345 w8_j345 w9_j345 N_351) p0no_j414 w10_j414 w11_j414 s0_j414 s1_j414 = some res), W p l e { frames := 4, cells := 0, slots := 0, locals := 90 } s m args below meth c H locs 0 0 Q (F0 m 414 ls [.int s1_j414, .int s0_j414]) := by
                                        intro p0no_j414 w10_j414 w11_j414 s0_j414 s1_j414 H locs ls hW hl hf
                                        unfold j_L_isSound_414 at hf
                                        refine lv_icmp_ne (tgt := 445) E.hx E.hb dL_isSound_414 (by decide) (fun hc => ?_) (fun hc => ?_)
                                        · have hf := oF hc hf
                                          refine lv_iconst (v := (0 : Int32)) E.hx E.hb dL_isSound_445 ic_0 ?_
                                          exact hret _ p0no_j414 _ _ _ _ _ _ hW (Option.some.inj hf).symm (by decide) (by decide) (by decide) dL_isSound_446
                                        · have hf := oT hc hf
                                          refine k_aload_n E hl 0 dL_isSound_417 rfl ?_
                                          refine k_iload E hl 6 dL_isSound_418 rfl ?_
                                          refine lv_iconst (v := (5 : Int32)) E.hx E.hb dL_isSound_420 ic_5 ?_
                                          obtain ⟨r_65, cd_66, hg, hf⟩ := ob2 hf
                                          by_cases hcd : cd_66 = 0
                                          rotate_left
                                          · have hf := oF hcd hf
                                            exact o0 hf
                                          replace hf := oT hcd hf
                                          refine k_callVi (As := [.int w11_j414, .int (5 : Int32)]) (rest := []) (ws2 := fun u => wMCo k a_p0 (a_p0in 0) (a_p0ou 0) (a_p0ru 0) (a_p0no 0) (a_p0fo 0) (a_p0rd 0) (a_p0pa 0) sv_p0 p0_0 ++ wRules k a_p0ru p0ru_0 ++ wCourt k a_p0no p0no_j414 ++ wPast k a_p0pa pp_0 p0pa_0) (c_X8_claim n l k a_p0 a_p0in a_p0ou a_p0ru a_p0no a_p0fo a_p0rd a_p0pa sv_p0 p0_0 p0no_j414 w11_j414 (5 : Int32) (r_65, cd_66) hg hcd) E vl_L_126 dL_isSound_421 rfl (List.range' 0 1 ++ List.range' 4 12) 8 0 hW hA hl rfl (by simp only [List.map_append]; exact app2 (blk_map [] (wMCo k a_p0 (a_p0in 0) (a_p0ou 0) (a_p0ru 0) (a_p0no 0) (a_p0fo 0) (a_p0rd 0) (a_p0pa 0) sv_p0 p0_0) (wRules k a_p0ru p0ru_0 ++ wCourt k a_p0no p0no_j414 ++ wPast k a_p0pa pp_0 p0pa_0) 0 1 (by simp only [List.append_assoc, List.nil_append, List.append_nil]) rfl rfl) (blk_map (wMCo k a_p0 (a_p0in 0) (a_p0ou 0) (a_p0ru 0) (a_p0no 0) (a_p0fo 0) (a_p0rd 0) (a_p0pa 0) sv_p0 p0_0 ++ wRules k a_p0ru p0ru_0) (wCourt k a_p0no p0no_j414) (wPast k a_p0pa pp_0 p0pa_0) 4 12 (by simp only [List.append_assoc, List.nil_append, List.append_nil]) rfl rfl)) rfl rfl ⟨by decide, by decide⟩ ⟨by decide, by decide⟩ (Nat.le_of_ble_eq_true rfl) rfl (fun _ => rfl) (fun u => by show putW _ (_ ++ _) (_ ++ _) = _; rw [putW_app _ _ _ _ _ rfl, blk_put [] (wMCo k a_p0 (a_p0in 0) (a_p0ou 0) (a_p0ru 0) (a_p0no 0) (a_p0fo 0) (a_p0rd 0) (a_p0pa 0) sv_p0 p0_0) (wRules k a_p0ru p0ru_0 ++ wCourt k a_p0no p0no_j414 ++ wPast k a_p0pa pp_0 p0pa_0) (wMCo k a_p0 (a_p0in 0) (a_p0ou 0) (a_p0ru 0) (a_p0no 0) (a_p0fo 0) (a_p0rd 0) (a_p0pa 0) sv_p0 p0_0) 0 1 (by simp only [List.append_assoc, List.nil_append, List.append_nil]) rfl rfl rfl, blk_put (wMCo k a_p0 (a_p0in 0) (a_p0ou 0) (a_p0ru 0) (a_p0no 0) (a_p0fo 0) (a_p0rd 0) (a_p0pa 0) sv_p0 p0_0 ++ wRules k a_p0ru p0ru_0) (wCourt k a_p0no p0no_j414) (wPast k a_p0pa pp_0 p0pa_0) (wCourt k a_p0no p0no_j414) 4 12 (by simp only [List.append_assoc, List.nil_append, List.append_nil]) rfl rfl rfl]; try simp only [List.append_assoc, List.nil_append, List.append_nil]) (fun r u H locs hp hW => ?_)
                                          cases hp
                                          have hW : WD k A s.heap (wMCo k a_p0 (a_p0in 0) (a_p0ou 0) (a_p0ru 0) (a_p0no 0) (a_p0fo 0) (a_p0rd 0) (a_p0pa 0) sv_p0 p0_0 ++ wRules k a_p0ru p0ru_0 ++ wCourt k a_p0no p0no_j414 ++ wPast k a_p0pa pp_0 p0pa_0) H locs := hW
                                          refine lv_iconst (v := (-1 : Int32)) E.hx E.hb dL_isSound_424 ic_m1 ?_
                                          refine lv_icmp_eq (tgt := 447) E.hx E.hb dL_isSound_425 (by decide) (fun hc => ?_) (fun hc => ?_)
                                          · have hf := oT hc hf
                                            obtain ⟨v11_67, ev11_67, hf⟩ := oL hf
                                            refine k_iinc (lv' := [(11, .int v11_67), (0, .ref (a_p0 0)), (1, .int v1_0), (7, .int w7_j345), (8, .int w8_j345), (9, .int w9_j345), (10, .int w10_j414)]) E hl 6 dL_isSound_447 rfl (ev11_67.trans (congrArg (fun z => w11_j414 + z) ic_1.symm)) (by decide) rfl (fun ls hl => ?_)
                                            refine lv_goto (tgt := 351) E.hx E.hb dL_isSound_450 (by decide) ?_
                                            exact ih_351 p0no_j414 w10_j414 v11_67 _ _ _ hW (lv_sub hl [1, 2, 3, 4, 5, 6, 0] rfl) hf
                                          · have hf := oF hc hf
                                            refine k_aload_n E hl 0 dL_isSound_428 rfl ?_
                                            refine k_aload_n E hl 0 dL_isSound_429 rfl ?_
                                            refine k_iload E hl 6 dL_isSound_430 rfl ?_
                                            refine lv_iconst (v := (5 : Int32)) E.hx E.hb dL_isSound_432 ic_5 ?_
                                            obtain ⟨r_68, cd_69, hg, hf⟩ := ob2 hf
                                            by_cases hcd : cd_69 = 0
                                            rotate_left
                                            · have hf := oF hcd hf
                                              exact o0 hf
                                            replace hf := oT hcd hf
                                            refine k_callVi (As := [.int w11_j414, .int (5 : Int32)]) (rest := [.ref (a_p0 0)]) (ws2 := fun u => wMCo k a_p0 (a_p0in 0) (a_p0ou 0) (a_p0ru 0) (a_p0no 0) (a_p0fo 0) (a_p0rd 0) (a_p0pa 0) sv_p0 p0_0 ++ wRules k a_p0ru p0ru_0 ++ wCourt k a_p0no p0no_j414 ++ wPast k a_p0pa pp_0 p0pa_0) (c_X8_claim n l k a_p0 a_p0in a_p0ou a_p0ru a_p0no a_p0fo a_p0rd a_p0pa sv_p0 p0_0 p0no_j414 w11_j414 (5 : Int32) (r_68, cd_69) hg hcd) E vl_L_126 dL_isSound_433 rfl (List.range' 0 1 ++ List.range' 4 12) 8 0 hW hA hl rfl (by simp only [List.map_append]; exact app2 (blk_map [] (wMCo k a_p0 (a_p0in 0) (a_p0ou 0) (a_p0ru 0) (a_p0no 0) (a_p0fo 0) (a_p0rd 0) (a_p0pa 0) sv_p0 p0_0) (wRules k a_p0ru p0ru_0 ++ wCourt k a_p0no p0no_j414 ++ wPast k a_p0pa pp_0 p0pa_0) 0 1 (by simp only [List.append_assoc, List.nil_append, List.append_nil]) rfl rfl) (blk_map (wMCo k a_p0 (a_p0in 0) (a_p0ou 0) (a_p0ru 0) (a_p0no 0) (a_p0fo 0) (a_p0rd 0) (a_p0pa 0) sv_p0 p0_0 ++ wRules k a_p0ru p0ru_0) (wCourt k a_p0no p0no_j414) (wPast k a_p0pa pp_0 p0pa_0) 4 12 (by simp only [List.append_assoc, List.nil_append, List.append_nil]) rfl rfl)) rfl rfl ⟨by decide, by decide⟩ ⟨by decide, by decide⟩ (Nat.le_of_ble_eq_true rfl) rfl (fun _ => rfl) (fun u => by show putW _ (_ ++ _) (_ ++ _) = _; rw [putW_app _ _ _ _ _ rfl, blk_put [] (wMCo k a_p0 (a_p0in 0) (a_p0ou 0) (a_p0ru 0) (a_p0no 0) (a_p0fo 0) (a_p0rd 0) (a_p0pa 0) sv_p0 p0_0) (wRules k a_p0ru p0ru_0 ++ wCourt k a_p0no p0no_j414 ++ wPast k a_p0pa pp_0 p0pa_0) (wMCo k a_p0 (a_p0in 0) (a_p0ou 0) (a_p0ru 0) (a_p0no 0) (a_p0fo 0) (a_p0rd 0) (a_p0pa 0) sv_p0 p0_0) 0 1 (by simp only [List.append_assoc, List.nil_append, List.append_nil]) rfl rfl rfl, blk_put (wMCo k a_p0 (a_p0in 0) (a_p0ou 0) (a_p0ru 0) (a_p0no 0) (a_p0fo 0) (a_p0rd 0) (a_p0pa 0) sv_p0 p0_0 ++ wRules k a_p0ru p0ru_0) (wCourt k a_p0no p0no_j414) (wPast k a_p0pa pp_0 p0pa_0) (wCourt k a_p0no p0no_j414) 4 12 (by simp only [List.append_assoc, List.nil_append, List.append_nil]) rfl rfl rfl]; try simp only [List.append_assoc, List.nil_append, List.append_nil]) (fun r u H locs hp hW => ?_)
                                            cases hp
                                            have hW : WD k A s.heap (wMCo k a_p0 (a_p0in 0) (a_p0ou 0) (a_p0ru 0) (a_p0no 0) (a_p0fo 0) (a_p0rd 0) (a_p0pa 0) sv_p0 p0_0 ++ wRules k a_p0ru p0ru_0 ++ wCourt k a_p0no p0no_j414 ++ wPast k a_p0pa pp_0 p0pa_0) H locs := hW
                                            refine lv_iconst (v := (4 : Int32)) E.hx E.hb dL_isSound_436 ic_4 ?_
                                            obtain ⟨r_70, cd_71, hg, hf⟩ := ob2 hf
                                            by_cases hcd : cd_71 = 0
                                            rotate_left
                                            · have hf := oF hcd hf
                                              exact o0 hf
                                            replace hf := oT hcd hf
                                            refine k_callVi (As := [.int r_68, .int (4 : Int32)]) (rest := []) (ws2 := fun u => wMCo k a_p0 (a_p0in 0) (a_p0ou 0) (a_p0ru 0) (a_p0no 0) (a_p0fo 0) (a_p0rd 0) (a_p0pa 0) sv_p0 p0_0 ++ wRules k a_p0ru p0ru_0 ++ wCourt k a_p0no p0no_j414 ++ wPast k a_p0pa pp_0 p0pa_0) (c_X8_loan n l k a_p0 a_p0in a_p0ou a_p0ru a_p0no a_p0fo a_p0rd a_p0pa sv_p0 p0_0 p0no_j414 r_68 (4 : Int32) (r_70, cd_71) hg hcd) E vl_L_99 dL_isSound_437 rfl (List.range' 0 1 ++ List.range' 4 12) 8 0 hW hA hl rfl (by simp only [List.map_append]; exact app2 (blk_map [] (wMCo k a_p0 (a_p0in 0) (a_p0ou 0) (a_p0ru 0) (a_p0no 0) (a_p0fo 0) (a_p0rd 0) (a_p0pa 0) sv_p0 p0_0) (wRules k a_p0ru p0ru_0 ++ wCourt k a_p0no p0no_j414 ++ wPast k a_p0pa pp_0 p0pa_0) 0 1 (by simp only [List.append_assoc, List.nil_append, List.append_nil]) rfl rfl) (blk_map (wMCo k a_p0 (a_p0in 0) (a_p0ou 0) (a_p0ru 0) (a_p0no 0) (a_p0fo 0) (a_p0rd 0) (a_p0pa 0) sv_p0 p0_0 ++ wRules k a_p0ru p0ru_0) (wCourt k a_p0no p0no_j414) (wPast k a_p0pa pp_0 p0pa_0) 4 12 (by simp only [List.append_assoc, List.nil_append, List.append_nil]) rfl rfl)) rfl rfl ⟨by decide, by decide⟩ ⟨by decide, by decide⟩ (Nat.le_of_ble_eq_true rfl) rfl (fun _ => rfl) (fun u => by show putW _ (_ ++ _) (_ ++ _) = _; rw [putW_app _ _ _ _ _ rfl, blk_put [] (wMCo k a_p0 (a_p0in 0) (a_p0ou 0) (a_p0ru 0) (a_p0no 0) (a_p0fo 0) (a_p0rd 0) (a_p0pa 0) sv_p0 p0_0) (wRules k a_p0ru p0ru_0 ++ wCourt k a_p0no p0no_j414 ++ wPast k a_p0pa pp_0 p0pa_0) (wMCo k a_p0 (a_p0in 0) (a_p0ou 0) (a_p0ru 0) (a_p0no 0) (a_p0fo 0) (a_p0rd 0) (a_p0pa 0) sv_p0 p0_0) 0 1 (by simp only [List.append_assoc, List.nil_append, List.append_nil]) rfl rfl rfl, blk_put (wMCo k a_p0 (a_p0in 0) (a_p0ou 0) (a_p0ru 0) (a_p0no 0) (a_p0fo 0) (a_p0rd 0) (a_p0pa 0) sv_p0 p0_0 ++ wRules k a_p0ru p0ru_0) (wCourt k a_p0no p0no_j414) (wPast k a_p0pa pp_0 p0pa_0) (wCourt k a_p0no p0no_j414) 4 12 (by simp only [List.append_assoc, List.nil_append, List.append_nil]) rfl rfl rfl]; try simp only [List.append_assoc, List.nil_append, List.append_nil]) (fun r u H locs hp hW => ?_)
                                            cases hp
                                            have hW : WD k A s.heap (wMCo k a_p0 (a_p0in 0) (a_p0ou 0) (a_p0ru 0) (a_p0no 0) (a_p0fo 0) (a_p0rd 0) (a_p0pa 0) sv_p0 p0_0 ++ wRules k a_p0ru p0ru_0 ++ wCourt k a_p0no p0no_j414 ++ wPast k a_p0pa pp_0 p0pa_0) H locs := hW
                                            refine k_iload E hl 6 dL_isSound_440 rfl ?_
                                            refine lv_icmp_eq (tgt := 447) E.hx E.hb dL_isSound_442 (by decide) (fun hc => ?_) (fun hc => ?_)
                                            · have hf := oT hc hf
                                              obtain ⟨v11_72, ev11_72, hf⟩ := oL hf
                                              refine k_iinc (lv' := [(11, .int v11_72), (0, .ref (a_p0 0)), (1, .int v1_0), (7, .int w7_j345), (8, .int w8_j345), (9, .int w9_j345), (10, .int w10_j414)]) E hl 6 dL_isSound_447 rfl (ev11_72.trans (congrArg (fun z => w11_j414 + z) ic_1.symm)) (by decide) rfl (fun ls hl => ?_)
                                              refine lv_goto (tgt := 351) E.hx E.hb dL_isSound_450 (by decide) ?_
                                              exact ih_351 p0no_j414 w10_j414 v11_72 _ _ _ hW (lv_sub hl [1, 2, 3, 4, 5, 6, 0] rfl) hf
                                            · have hf := oF hc hf
                                              refine lv_iconst (v := (0 : Int32)) E.hx E.hb dL_isSound_445 ic_0 ?_
                                              exact hret _ p0no_j414 _ _ _ _ _ _ hW (Option.some.inj hf).symm (by decide) (by decide) (by decide) dL_isSound_446
                                      refine lv_icmp_eq (tgt := 413) E.hx E.hb dL_isSound_406 (by decide) (fun hc => ?_) (fun hc => ?_)
                                      · have hf := oT hc hf
                                        refine lv_iconst (v := (0 : Int32)) E.hx E.hb dL_isSound_413 ic_0 ?_
                                        exact J_414 p0no_j398 w10_j398 w11_j398 s0_j398 (0 : Int32) _ _ _ hW (lv_sub hl [0, 1, 2, 3, 4, 5, 6] rfl) hf
                                      · have hf := oF hc hf
                                        refine lv_iconst (v := (1 : Int32)) E.hx E.hb dL_isSound_409 ic_1 ?_
                                        refine lv_goto (tgt := 414) E.hx E.hb dL_isSound_410 (by decide) ?_
                                        exact J_414 p0no_j398 w10_j398 w11_j398 s0_j398 (1 : Int32) _ _ _ hW (lv_sub hl [0, 1, 2, 3, 4, 5, 6] rfl) hf
                                    refine lv_icmp_ne (tgt := 397) E.hx E.hb dL_isSound_390 (by decide) (fun hc => ?_) (fun hc => ?_)
                                    · have hf := oF hc hf
                                      refine lv_iconst (v := (0 : Int32)) E.hx E.hb dL_isSound_397 ic_0 ?_
                                      exact J_398 p0no_j379 v10_60 w11_j379 (0 : Int32) _ _ _ hW (lv_sub hl [1, 2, 3, 4, 5, 0, 6] rfl) hf
                                    · have hf := oT hc hf
                                      refine lv_iconst (v := (1 : Int32)) E.hx E.hb dL_isSound_393 ic_1 ?_
                                      refine lv_goto (tgt := 398) E.hx E.hb dL_isSound_394 (by decide) ?_
                                      exact J_398 p0no_j379 v10_60 w11_j379 (1 : Int32) _ _ _ hW (lv_sub hl [1, 2, 3, 4, 5, 0, 6] rfl) hf
                                  refine lv_if_ne (tgt := 378) E.hx E.hb dL_isSound_371 (by decide) (fun hc => ?_) (fun hc => ?_)
                                  · have hf := oF hc hf
                                    refine lv_iconst (v := (0 : Int32)) E.hx E.hb dL_isSound_378 ic_0 ?_
                                    exact J_379 p0no_j351 w11_j351 w10_j351 (0 : Int32) _ _ _ hW (lv_sub hl [0, 1, 2, 3, 4, 6] rfl) hf
                                  · have hf := oT hc hf
                                    refine lv_iconst (v := (1 : Int32)) E.hx E.hb dL_isSound_374 ic_1 ?_
                                    refine lv_goto (tgt := 379) E.hx E.hb dL_isSound_375 (by decide) ?_
                                    exact J_379 p0no_j351 w11_j351 w10_j351 (1 : Int32) _ _ _ hW (lv_sub hl [0, 1, 2, 3, 4, 6] rfl) hf
                            exact L_351 n p0no_j345 (0 : Int32) (0 : Int32) _ _ _ hW (lv_sub hl [2, 3, 4, 5, 6, 1, 0] rfl) hf
                          refine lv_icmp_ge (tgt := 345) E.hx E.hb dL_isSound_250 (by decide) (fun hc => ?_) (fun hc => ?_)
                          · have hf := oT hc hf
                            exact J_345 p0no_j247 w7_j247 w8_j247 w9_j247 _ _ _ hW (lv_sub hl [0, 1, 3, 4, 5] rfl) hf
                          · have hf := oF hc hf
                            refine k_iload E hl 3 dL_isSound_253 rfl ?_
                            refine k_aload_n E hl 0 dL_isSound_255 rfl ?_
                            refine k_iload E hl 6 dL_isSound_256 rfl ?_
                            refine lv_iconst (v := (3 : Int32)) E.hx E.hb dL_isSound_258 ic_3 ?_
                            obtain ⟨r_73, cd_74, hg, hf⟩ := ob2 hf
                            by_cases hcd : cd_74 = 0
                            rotate_left
                            · have hf := oF hcd hf
                              exact o0 hf
                            replace hf := oT hcd hf
                            refine k_callVi (As := [.int w10_j247, .int (3 : Int32)]) (rest := [.int w7_j247]) (ws2 := fun u => wMCo k a_p0 (a_p0in 0) (a_p0ou 0) (a_p0ru 0) (a_p0no 0) (a_p0fo 0) (a_p0rd 0) (a_p0pa 0) sv_p0 p0_0 ++ wRules k a_p0ru p0ru_0 ++ wCourt k a_p0no p0no_j247 ++ wPast k a_p0pa pp_0 p0pa_0) (c_X8_process n l k a_p0 a_p0in a_p0ou a_p0ru a_p0no a_p0fo a_p0rd a_p0pa sv_p0 p0_0 p0ru_0 p0no_j247 w10_j247 (3 : Int32) (r_73, cd_74) hg hcd) E vl_L_123 dL_isSound_259 rfl (List.range' 0 1 ++ List.range' 1 3 ++ List.range' 4 12) 8 0 hW hA hl rfl (by simp only [List.map_append]; exact app2 (app2 (blk_map [] (wMCo k a_p0 (a_p0in 0) (a_p0ou 0) (a_p0ru 0) (a_p0no 0) (a_p0fo 0) (a_p0rd 0) (a_p0pa 0) sv_p0 p0_0) (wRules k a_p0ru p0ru_0 ++ wCourt k a_p0no p0no_j247 ++ wPast k a_p0pa pp_0 p0pa_0) 0 1 (by simp only [List.append_assoc, List.nil_append, List.append_nil]) rfl rfl) (blk_map (wMCo k a_p0 (a_p0in 0) (a_p0ou 0) (a_p0ru 0) (a_p0no 0) (a_p0fo 0) (a_p0rd 0) (a_p0pa 0) sv_p0 p0_0) (wRules k a_p0ru p0ru_0) (wCourt k a_p0no p0no_j247 ++ wPast k a_p0pa pp_0 p0pa_0) 1 3 (by simp only [List.append_assoc, List.nil_append, List.append_nil]) rfl rfl)) (blk_map (wMCo k a_p0 (a_p0in 0) (a_p0ou 0) (a_p0ru 0) (a_p0no 0) (a_p0fo 0) (a_p0rd 0) (a_p0pa 0) sv_p0 p0_0 ++ wRules k a_p0ru p0ru_0) (wCourt k a_p0no p0no_j247) (wPast k a_p0pa pp_0 p0pa_0) 4 12 (by simp only [List.append_assoc, List.nil_append, List.append_nil]) rfl rfl)) rfl rfl ⟨by decide, by decide⟩ ⟨by decide, by decide⟩ (Nat.le_of_ble_eq_true rfl) rfl (fun _ => rfl) (fun u => by show putW _ (_ ++ _) (_ ++ _) = _; rw [putW_app _ _ _ _ _ rfl, putW_app _ _ _ _ _ rfl, blk_put [] (wMCo k a_p0 (a_p0in 0) (a_p0ou 0) (a_p0ru 0) (a_p0no 0) (a_p0fo 0) (a_p0rd 0) (a_p0pa 0) sv_p0 p0_0) (wRules k a_p0ru p0ru_0 ++ wCourt k a_p0no p0no_j247 ++ wPast k a_p0pa pp_0 p0pa_0) (wMCo k a_p0 (a_p0in 0) (a_p0ou 0) (a_p0ru 0) (a_p0no 0) (a_p0fo 0) (a_p0rd 0) (a_p0pa 0) sv_p0 p0_0) 0 1 (by simp only [List.append_assoc, List.nil_append, List.append_nil]) rfl rfl rfl, blk_put (wMCo k a_p0 (a_p0in 0) (a_p0ou 0) (a_p0ru 0) (a_p0no 0) (a_p0fo 0) (a_p0rd 0) (a_p0pa 0) sv_p0 p0_0) (wRules k a_p0ru p0ru_0) (wCourt k a_p0no p0no_j247 ++ wPast k a_p0pa pp_0 p0pa_0) (wRules k a_p0ru p0ru_0) 1 3 (by simp only [List.append_assoc, List.nil_append, List.append_nil]) rfl rfl rfl, blk_put (wMCo k a_p0 (a_p0in 0) (a_p0ou 0) (a_p0ru 0) (a_p0no 0) (a_p0fo 0) (a_p0rd 0) (a_p0pa 0) sv_p0 p0_0 ++ wRules k a_p0ru p0ru_0) (wCourt k a_p0no p0no_j247) (wPast k a_p0pa pp_0 p0pa_0) (wCourt k a_p0no p0no_j247) 4 12 (by simp only [List.append_assoc, List.nil_append, List.append_nil]) rfl rfl rfl]; try simp only [List.append_assoc, List.nil_append, List.append_nil]) (fun r u H locs hp hW => ?_)
                            cases hp
                            have hW : WD k A s.heap (wMCo k a_p0 (a_p0in 0) (a_p0ou 0) (a_p0ru 0) (a_p0no 0) (a_p0fo 0) (a_p0rd 0) (a_p0pa 0) sv_p0 p0_0 ++ wRules k a_p0ru p0ru_0 ++ wCourt k a_p0no p0no_j247 ++ wPast k a_p0pa pp_0 p0pa_0) H locs := hW
                            refine lv_iadd E.hx E.hb dL_isSound_262 ?_
                            obtain ⟨v7_75, ev7_75, hf⟩ := oL hf
                            refine k_istore (lv' := [(7, .int v7_75), (0, .ref (a_p0 0)), (1, .int v1_0), (2, .int v2_0), (8, .int w8_j247), (9, .int w9_j247), (10, .int w10_j247)]) E ev7_75 hl dL_isSound_263 (by decide) rfl (fun ls hl => ?_)
                            refine k_iload E hl 4 dL_isSound_265 rfl ?_
                            refine k_aload_n E hl 1 dL_isSound_267 rfl ?_
                            refine k_iload E hl 6 dL_isSound_268 rfl ?_
                            refine lv_bipush (v := (6 : Int32)) E.hx E.hb dL_isSound_270 bp_6 ?_
                            obtain ⟨r_76, cd_77, hg, hf⟩ := ob2 hf
                            by_cases hcd : cd_77 = 0
                            rotate_left
                            · have hf := oF hcd hf
                              exact o0 hf
                            replace hf := oT hcd hf
                            refine k_callVi (As := [.int w10_j247, .int (6 : Int32)]) (rest := [.int w8_j247]) (ws2 := fun u => wMCo k a_p0 (a_p0in 0) (a_p0ou 0) (a_p0ru 0) (a_p0no 0) (a_p0fo 0) (a_p0rd 0) (a_p0pa 0) sv_p0 p0_0 ++ wRules k a_p0ru p0ru_0 ++ wCourt k a_p0no p0no_j247 ++ wPast k a_p0pa pp_0 p0pa_0) (c_X8_process n l k a_p0 a_p0in a_p0ou a_p0ru a_p0no a_p0fo a_p0rd a_p0pa sv_p0 p0_0 p0ru_0 p0no_j247 w10_j247 (6 : Int32) (r_76, cd_77) hg hcd) E vl_L_123 dL_isSound_272 rfl (List.range' 0 1 ++ List.range' 1 3 ++ List.range' 4 12) 8 0 hW hA hl rfl (by simp only [List.map_append]; exact app2 (app2 (blk_map [] (wMCo k a_p0 (a_p0in 0) (a_p0ou 0) (a_p0ru 0) (a_p0no 0) (a_p0fo 0) (a_p0rd 0) (a_p0pa 0) sv_p0 p0_0) (wRules k a_p0ru p0ru_0 ++ wCourt k a_p0no p0no_j247 ++ wPast k a_p0pa pp_0 p0pa_0) 0 1 (by simp only [List.append_assoc, List.nil_append, List.append_nil]) rfl rfl) (blk_map (wMCo k a_p0 (a_p0in 0) (a_p0ou 0) (a_p0ru 0) (a_p0no 0) (a_p0fo 0) (a_p0rd 0) (a_p0pa 0) sv_p0 p0_0) (wRules k a_p0ru p0ru_0) (wCourt k a_p0no p0no_j247 ++ wPast k a_p0pa pp_0 p0pa_0) 1 3 (by simp only [List.append_assoc, List.nil_append, List.append_nil]) rfl rfl)) (blk_map (wMCo k a_p0 (a_p0in 0) (a_p0ou 0) (a_p0ru 0) (a_p0no 0) (a_p0fo 0) (a_p0rd 0) (a_p0pa 0) sv_p0 p0_0 ++ wRules k a_p0ru p0ru_0) (wCourt k a_p0no p0no_j247) (wPast k a_p0pa pp_0 p0pa_0) 4 12 (by simp only [List.append_assoc, List.nil_append, List.append_nil]) rfl rfl)) rfl rfl ⟨by decide, by decide⟩ ⟨by decide, by decide⟩ (Nat.le_of_ble_eq_true rfl) rfl (fun _ => rfl) (fun u => by show putW _ (_ ++ _) (_ ++ _) = _; rw [putW_app _ _ _ _ _ rfl, putW_app _ _ _ _ _ rfl, blk_put [] (wMCo k a_p0 (a_p0in 0) (a_p0ou 0) (a_p0ru 0) (a_p0no 0) (a_p0fo 0) (a_p0rd 0) (a_p0pa 0) sv_p0 p0_0) (wRules k a_p0ru p0ru_0 ++ wCourt k a_p0no p0no_j247 ++ wPast k a_p0pa pp_0 p0pa_0) (wMCo k a_p0 (a_p0in 0) (a_p0ou 0) (a_p0ru 0) (a_p0no 0) (a_p0fo 0) (a_p0rd 0) (a_p0pa 0) sv_p0 p0_0) 0 1 (by simp only [List.append_assoc, List.nil_append, List.append_nil]) rfl rfl rfl, blk_put (wMCo k a_p0 (a_p0in 0) (a_p0ou 0) (a_p0ru 0) (a_p0no 0) (a_p0fo 0) (a_p0rd 0) (a_p0pa 0) sv_p0 p0_0) (wRules k a_p0ru p0ru_0) (wCourt k a_p0no p0no_j247 ++ wPast k a_p0pa pp_0 p0pa_0) (wRules k a_p0ru p0ru_0) 1 3 (by simp only [List.append_assoc, List.nil_append, List.append_nil]) rfl rfl rfl, blk_put (wMCo k a_p0 (a_p0in 0) (a_p0ou 0) (a_p0ru 0) (a_p0no 0) (a_p0fo 0) (a_p0rd 0) (a_p0pa 0) sv_p0 p0_0 ++ wRules k a_p0ru p0ru_0) (wCourt k a_p0no p0no_j247) (wPast k a_p0pa pp_0 p0pa_0) (wCourt k a_p0no p0no_j247) 4 12 (by simp only [List.append_assoc, List.nil_append, List.append_nil]) rfl rfl rfl]; try simp only [List.append_assoc, List.nil_append, List.append_nil]) (fun r u H locs hp hW => ?_)
                            cases hp
                            have hW : WD k A s.heap (wMCo k a_p0 (a_p0in 0) (a_p0ou 0) (a_p0ru 0) (a_p0no 0) (a_p0fo 0) (a_p0rd 0) (a_p0pa 0) sv_p0 p0_0 ++ wRules k a_p0ru p0ru_0 ++ wCourt k a_p0no p0no_j247 ++ wPast k a_p0pa pp_0 p0pa_0) H locs := hW
                            refine lv_iadd E.hx E.hb dL_isSound_275 ?_
                            obtain ⟨v8_78, ev8_78, hf⟩ := oL hf
                            refine k_istore (lv' := [(8, .int v8_78), (7, .int v7_75), (0, .ref (a_p0 0)), (1, .int v1_0), (2, .int v2_0), (9, .int w9_j247), (10, .int w10_j247)]) E ev8_78 hl dL_isSound_276 (by decide) rfl (fun ls hl => ?_)
                            refine k_iload E hl 5 dL_isSound_278 rfl ?_
                            refine k_aload_n E hl 2 dL_isSound_280 rfl ?_
                            refine k_iload E hl 6 dL_isSound_281 rfl ?_
                            refine lv_bipush (v := (8 : Int32)) E.hx E.hb dL_isSound_283 bp_8 ?_
                            obtain ⟨r_79, cd_80, hg, hf⟩ := ob2 hf
                            by_cases hcd : cd_80 = 0
                            rotate_left
                            · have hf := oF hcd hf
                              exact o0 hf
                            replace hf := oT hcd hf
                            refine k_callVi (As := [.int w10_j247, .int (8 : Int32)]) (rest := [.int w9_j247]) (ws2 := fun u => wMCo k a_p0 (a_p0in 0) (a_p0ou 0) (a_p0ru 0) (a_p0no 0) (a_p0fo 0) (a_p0rd 0) (a_p0pa 0) sv_p0 p0_0 ++ wRules k a_p0ru p0ru_0 ++ wCourt k a_p0no p0no_j247 ++ wPast k a_p0pa pp_0 p0pa_0) (c_X8_process n l k a_p0 a_p0in a_p0ou a_p0ru a_p0no a_p0fo a_p0rd a_p0pa sv_p0 p0_0 p0ru_0 p0no_j247 w10_j247 (8 : Int32) (r_79, cd_80) hg hcd) E vl_L_123 dL_isSound_285 rfl (List.range' 0 1 ++ List.range' 1 3 ++ List.range' 4 12) 8 0 hW hA hl rfl (by simp only [List.map_append]; exact app2 (app2 (blk_map [] (wMCo k a_p0 (a_p0in 0) (a_p0ou 0) (a_p0ru 0) (a_p0no 0) (a_p0fo 0) (a_p0rd 0) (a_p0pa 0) sv_p0 p0_0) (wRules k a_p0ru p0ru_0 ++ wCourt k a_p0no p0no_j247 ++ wPast k a_p0pa pp_0 p0pa_0) 0 1 (by simp only [List.append_assoc, List.nil_append, List.append_nil]) rfl rfl) (blk_map (wMCo k a_p0 (a_p0in 0) (a_p0ou 0) (a_p0ru 0) (a_p0no 0) (a_p0fo 0) (a_p0rd 0) (a_p0pa 0) sv_p0 p0_0) (wRules k a_p0ru p0ru_0) (wCourt k a_p0no p0no_j247 ++ wPast k a_p0pa pp_0 p0pa_0) 1 3 (by simp only [List.append_assoc, List.nil_append, List.append_nil]) rfl rfl)) (blk_map (wMCo k a_p0 (a_p0in 0) (a_p0ou 0) (a_p0ru 0) (a_p0no 0) (a_p0fo 0) (a_p0rd 0) (a_p0pa 0) sv_p0 p0_0 ++ wRules k a_p0ru p0ru_0) (wCourt k a_p0no p0no_j247) (wPast k a_p0pa pp_0 p0pa_0) 4 12 (by simp only [List.append_assoc, List.nil_append, List.append_nil]) rfl rfl)) rfl rfl ⟨by decide, by decide⟩ ⟨by decide, by decide⟩ (Nat.le_of_ble_eq_true rfl) rfl (fun _ => rfl) (fun u => by show putW _ (_ ++ _) (_ ++ _) = _; rw [putW_app _ _ _ _ _ rfl, putW_app _ _ _ _ _ rfl, blk_put [] (wMCo k a_p0 (a_p0in 0) (a_p0ou 0) (a_p0ru 0) (a_p0no 0) (a_p0fo 0) (a_p0rd 0) (a_p0pa 0) sv_p0 p0_0) (wRules k a_p0ru p0ru_0 ++ wCourt k a_p0no p0no_j247 ++ wPast k a_p0pa pp_0 p0pa_0) (wMCo k a_p0 (a_p0in 0) (a_p0ou 0) (a_p0ru 0) (a_p0no 0) (a_p0fo 0) (a_p0rd 0) (a_p0pa 0) sv_p0 p0_0) 0 1 (by simp only [List.append_assoc, List.nil_append, List.append_nil]) rfl rfl rfl, blk_put (wMCo k a_p0 (a_p0in 0) (a_p0ou 0) (a_p0ru 0) (a_p0no 0) (a_p0fo 0) (a_p0rd 0) (a_p0pa 0) sv_p0 p0_0) (wRules k a_p0ru p0ru_0) (wCourt k a_p0no p0no_j247 ++ wPast k a_p0pa pp_0 p0pa_0) (wRules k a_p0ru p0ru_0) 1 3 (by simp only [List.append_assoc, List.nil_append, List.append_nil]) rfl rfl rfl, blk_put (wMCo k a_p0 (a_p0in 0) (a_p0ou 0) (a_p0ru 0) (a_p0no 0) (a_p0fo 0) (a_p0rd 0) (a_p0pa 0) sv_p0 p0_0 ++ wRules k a_p0ru p0ru_0) (wCourt k a_p0no p0no_j247) (wPast k a_p0pa pp_0 p0pa_0) (wCourt k a_p0no p0no_j247) 4 12 (by simp only [List.append_assoc, List.nil_append, List.append_nil]) rfl rfl rfl]; try simp only [List.append_assoc, List.nil_append, List.append_nil]) (fun r u H locs hp hW => ?_)
                            cases hp
                            have hW : WD k A s.heap (wMCo k a_p0 (a_p0in 0) (a_p0ou 0) (a_p0ru 0) (a_p0no 0) (a_p0fo 0) (a_p0rd 0) (a_p0pa 0) sv_p0 p0_0 ++ wRules k a_p0ru p0ru_0 ++ wCourt k a_p0no p0no_j247 ++ wPast k a_p0pa pp_0 p0pa_0) H locs := hW
                            refine lv_iadd E.hx E.hb dL_isSound_288 ?_
                            obtain ⟨v9_81, ev9_81, hf⟩ := oL hf
                            refine k_istore (lv' := [(9, .int v9_81), (8, .int v8_78), (7, .int v7_75), (0, .ref (a_p0 0)), (1, .int v1_0), (2, .int v2_0), (10, .int w10_j247)]) E ev9_81 hl dL_isSound_289 (by decide) rfl (fun ls hl => ?_)
                            refine k_aload_n E hl 3 dL_isSound_291 rfl ?_
                            refine k_iload E hl 6 dL_isSound_292 rfl ?_
                            refine lv_iconst (v := (0 : Int32)) E.hx E.hb dL_isSound_294 ic_0 ?_
                            obtain ⟨r_82, cd_83, hg, hf⟩ := ob2 hf
                            by_cases hcd : cd_83 = 0
                            rotate_left
                            · have hf := oF hcd hf
                              exact o0 hf
                            replace hf := oT hcd hf
                            refine k_callVi (As := [.int w10_j247, .int (0 : Int32)]) (rest := []) (ws2 := fun u => wMCo k a_p0 (a_p0in 0) (a_p0ou 0) (a_p0ru 0) (a_p0no 0) (a_p0fo 0) (a_p0rd 0) (a_p0pa 0) sv_p0 p0_0 ++ wRules k a_p0ru p0ru_0 ++ wCourt k a_p0no p0no_j247 ++ wPast k a_p0pa pp_0 p0pa_0) (c_X8_process n l k a_p0 a_p0in a_p0ou a_p0ru a_p0no a_p0fo a_p0rd a_p0pa sv_p0 p0_0 p0ru_0 p0no_j247 w10_j247 (0 : Int32) (r_82, cd_83) hg hcd) E vl_L_123 dL_isSound_295 rfl (List.range' 0 1 ++ List.range' 1 3 ++ List.range' 4 12) 8 0 hW hA hl rfl (by simp only [List.map_append]; exact app2 (app2 (blk_map [] (wMCo k a_p0 (a_p0in 0) (a_p0ou 0) (a_p0ru 0) (a_p0no 0) (a_p0fo 0) (a_p0rd 0) (a_p0pa 0) sv_p0 p0_0) (wRules k a_p0ru p0ru_0 ++ wCourt k a_p0no p0no_j247 ++ wPast k a_p0pa pp_0 p0pa_0) 0 1 (by simp only [List.append_assoc, List.nil_append, List.append_nil]) rfl rfl) (blk_map (wMCo k a_p0 (a_p0in 0) (a_p0ou 0) (a_p0ru 0) (a_p0no 0) (a_p0fo 0) (a_p0rd 0) (a_p0pa 0) sv_p0 p0_0) (wRules k a_p0ru p0ru_0) (wCourt k a_p0no p0no_j247 ++ wPast k a_p0pa pp_0 p0pa_0) 1 3 (by simp only [List.append_assoc, List.nil_append, List.append_nil]) rfl rfl)) (blk_map (wMCo k a_p0 (a_p0in 0) (a_p0ou 0) (a_p0ru 0) (a_p0no 0) (a_p0fo 0) (a_p0rd 0) (a_p0pa 0) sv_p0 p0_0 ++ wRules k a_p0ru p0ru_0) (wCourt k a_p0no p0no_j247) (wPast k a_p0pa pp_0 p0pa_0) 4 12 (by simp only [List.append_assoc, List.nil_append, List.append_nil]) rfl rfl)) rfl rfl ⟨by decide, by decide⟩ ⟨by decide, by decide⟩ (Nat.le_of_ble_eq_true rfl) rfl (fun _ => rfl) (fun u => by show putW _ (_ ++ _) (_ ++ _) = _; rw [putW_app _ _ _ _ _ rfl, putW_app _ _ _ _ _ rfl, blk_put [] (wMCo k a_p0 (a_p0in 0) (a_p0ou 0) (a_p0ru 0) (a_p0no 0) (a_p0fo 0) (a_p0rd 0) (a_p0pa 0) sv_p0 p0_0) (wRules k a_p0ru p0ru_0 ++ wCourt k a_p0no p0no_j247 ++ wPast k a_p0pa pp_0 p0pa_0) (wMCo k a_p0 (a_p0in 0) (a_p0ou 0) (a_p0ru 0) (a_p0no 0) (a_p0fo 0) (a_p0rd 0) (a_p0pa 0) sv_p0 p0_0) 0 1 (by simp only [List.append_assoc, List.nil_append, List.append_nil]) rfl rfl rfl, blk_put (wMCo k a_p0 (a_p0in 0) (a_p0ou 0) (a_p0ru 0) (a_p0no 0) (a_p0fo 0) (a_p0rd 0) (a_p0pa 0) sv_p0 p0_0) (wRules k a_p0ru p0ru_0) (wCourt k a_p0no p0no_j247 ++ wPast k a_p0pa pp_0 p0pa_0) (wRules k a_p0ru p0ru_0) 1 3 (by simp only [List.append_assoc, List.nil_append, List.append_nil]) rfl rfl rfl, blk_put (wMCo k a_p0 (a_p0in 0) (a_p0ou 0) (a_p0ru 0) (a_p0no 0) (a_p0fo 0) (a_p0rd 0) (a_p0pa 0) sv_p0 p0_0 ++ wRules k a_p0ru p0ru_0) (wCourt k a_p0no p0no_j247) (wPast k a_p0pa pp_0 p0pa_0) (wCourt k a_p0no p0no_j247) 4 12 (by simp only [List.append_assoc, List.nil_append, List.append_nil]) rfl rfl rfl]; try simp only [List.append_assoc, List.nil_append, List.append_nil]) (fun r u H locs hp hW => ?_)
                            cases hp
                            have hW : WD k A s.heap (wMCo k a_p0 (a_p0in 0) (a_p0ou 0) (a_p0ru 0) (a_p0no 0) (a_p0fo 0) (a_p0rd 0) (a_p0pa 0) sv_p0 p0_0 ++ wRules k a_p0ru p0ru_0 ++ wCourt k a_p0no p0no_j247 ++ wPast k a_p0pa pp_0 p0pa_0) H locs := hW
                            refine lv_sipush (v := (999 : Int32)) E.hx E.hb dL_isSound_298 sp_999 ?_
                            refine lv_icmp_gt (tgt := 337) E.hx E.hb dL_isSound_301 (by decide) (fun hc => ?_) (fun hc => ?_)
                            · have hf := oT hc hf
                              refine lv_iconst (v := (0 : Int32)) E.hx E.hb dL_isSound_337 ic_0 ?_
                              exact hret _ p0no_j247 _ _ _ _ _ _ hW (Option.some.inj hf).symm (by decide) (by decide) (by decide) dL_isSound_338
                            · have hf := oF hc hf
                              refine k_aload_n E hl 3 dL_isSound_304 rfl ?_
                              refine k_iload E hl 6 dL_isSound_305 rfl ?_
                              refine lv_iconst (v := (1 : Int32)) E.hx E.hb dL_isSound_307 ic_1 ?_
                              obtain ⟨r_84, cd_85, hg, hf⟩ := ob2 hf
                              by_cases hcd : cd_85 = 0
                              rotate_left
                              · have hf := oF hcd hf
                                exact o0 hf
                              replace hf := oT hcd hf
                              refine k_callVi (As := [.int w10_j247, .int (1 : Int32)]) (rest := []) (ws2 := fun u => wMCo k a_p0 (a_p0in 0) (a_p0ou 0) (a_p0ru 0) (a_p0no 0) (a_p0fo 0) (a_p0rd 0) (a_p0pa 0) sv_p0 p0_0 ++ wRules k a_p0ru p0ru_0 ++ wCourt k a_p0no p0no_j247 ++ wPast k a_p0pa pp_0 p0pa_0) (c_X8_process n l k a_p0 a_p0in a_p0ou a_p0ru a_p0no a_p0fo a_p0rd a_p0pa sv_p0 p0_0 p0ru_0 p0no_j247 w10_j247 (1 : Int32) (r_84, cd_85) hg hcd) E vl_L_123 dL_isSound_308 rfl (List.range' 0 1 ++ List.range' 1 3 ++ List.range' 4 12) 8 0 hW hA hl rfl (by simp only [List.map_append]; exact app2 (app2 (blk_map [] (wMCo k a_p0 (a_p0in 0) (a_p0ou 0) (a_p0ru 0) (a_p0no 0) (a_p0fo 0) (a_p0rd 0) (a_p0pa 0) sv_p0 p0_0) (wRules k a_p0ru p0ru_0 ++ wCourt k a_p0no p0no_j247 ++ wPast k a_p0pa pp_0 p0pa_0) 0 1 (by simp only [List.append_assoc, List.nil_append, List.append_nil]) rfl rfl) (blk_map (wMCo k a_p0 (a_p0in 0) (a_p0ou 0) (a_p0ru 0) (a_p0no 0) (a_p0fo 0) (a_p0rd 0) (a_p0pa 0) sv_p0 p0_0) (wRules k a_p0ru p0ru_0) (wCourt k a_p0no p0no_j247 ++ wPast k a_p0pa pp_0 p0pa_0) 1 3 (by simp only [List.append_assoc, List.nil_append, List.append_nil]) rfl rfl)) (blk_map (wMCo k a_p0 (a_p0in 0) (a_p0ou 0) (a_p0ru 0) (a_p0no 0) (a_p0fo 0) (a_p0rd 0) (a_p0pa 0) sv_p0 p0_0 ++ wRules k a_p0ru p0ru_0) (wCourt k a_p0no p0no_j247) (wPast k a_p0pa pp_0 p0pa_0) 4 12 (by simp only [List.append_assoc, List.nil_append, List.append_nil]) rfl rfl)) rfl rfl ⟨by decide, by decide⟩ ⟨by decide, by decide⟩ (Nat.le_of_ble_eq_true rfl) rfl (fun _ => rfl) (fun u => by show putW _ (_ ++ _) (_ ++ _) = _; rw [putW_app _ _ _ _ _ rfl, putW_app _ _ _ _ _ rfl, blk_put [] (wMCo k a_p0 (a_p0in 0) (a_p0ou 0) (a_p0ru 0) (a_p0no 0) (a_p0fo 0) (a_p0rd 0) (a_p0pa 0) sv_p0 p0_0) (wRules k a_p0ru p0ru_0 ++ wCourt k a_p0no p0no_j247 ++ wPast k a_p0pa pp_0 p0pa_0) (wMCo k a_p0 (a_p0in 0) (a_p0ou 0) (a_p0ru 0) (a_p0no 0) (a_p0fo 0) (a_p0rd 0) (a_p0pa 0) sv_p0 p0_0) 0 1 (by simp only [List.append_assoc, List.nil_append, List.append_nil]) rfl rfl rfl, blk_put (wMCo k a_p0 (a_p0in 0) (a_p0ou 0) (a_p0ru 0) (a_p0no 0) (a_p0fo 0) (a_p0rd 0) (a_p0pa 0) sv_p0 p0_0) (wRules k a_p0ru p0ru_0) (wCourt k a_p0no p0no_j247 ++ wPast k a_p0pa pp_0 p0pa_0) (wRules k a_p0ru p0ru_0) 1 3 (by simp only [List.append_assoc, List.nil_append, List.append_nil]) rfl rfl rfl, blk_put (wMCo k a_p0 (a_p0in 0) (a_p0ou 0) (a_p0ru 0) (a_p0no 0) (a_p0fo 0) (a_p0rd 0) (a_p0pa 0) sv_p0 p0_0 ++ wRules k a_p0ru p0ru_0) (wCourt k a_p0no p0no_j247) (wPast k a_p0pa pp_0 p0pa_0) (wCourt k a_p0no p0no_j247) 4 12 (by simp only [List.append_assoc, List.nil_append, List.append_nil]) rfl rfl rfl]; try simp only [List.append_assoc, List.nil_append, List.append_nil]) (fun r u H locs hp hW => ?_)
                              cases hp
                              have hW : WD k A s.heap (wMCo k a_p0 (a_p0in 0) (a_p0ou 0) (a_p0ru 0) (a_p0no 0) (a_p0fo 0) (a_p0rd 0) (a_p0pa 0) sv_p0 p0_0 ++ wRules k a_p0ru p0ru_0 ++ wCourt k a_p0no p0no_j247 ++ wPast k a_p0pa pp_0 p0pa_0) H locs := hW
                              refine lv_sipush (v := (999 : Int32)) E.hx E.hb dL_isSound_311 sp_999 ?_
                              refine lv_icmp_gt (tgt := 337) E.hx E.hb dL_isSound_314 (by decide) (fun hc => ?_) (fun hc => ?_)
                              · have hf := oT hc hf
                                refine lv_iconst (v := (0 : Int32)) E.hx E.hb dL_isSound_337 ic_0 ?_
                                exact hret _ p0no_j247 _ _ _ _ _ _ hW (Option.some.inj hf).symm (by decide) (by decide) (by decide) dL_isSound_338
                              · have hf := oF hc hf
                                refine k_aload_n E hl 3 dL_isSound_317 rfl ?_
                                refine k_iload E hl 6 dL_isSound_318 rfl ?_
                                refine lv_iconst (v := (0 : Int32)) E.hx E.hb dL_isSound_320 ic_0 ?_
                                obtain ⟨r_86, cd_87, hg, hf⟩ := ob2 hf
                                by_cases hcd : cd_87 = 0
                                rotate_left
                                · have hf := oF hcd hf
                                  exact o0 hf
                                replace hf := oT hcd hf
                                refine k_callVi (As := [.int w10_j247, .int (0 : Int32)]) (rest := []) (ws2 := fun u => wMCo k a_p0 (a_p0in 0) (a_p0ou 0) (a_p0ru 0) (a_p0no 0) (a_p0fo 0) (a_p0rd 0) (a_p0pa 0) sv_p0 p0_0 ++ wRules k a_p0ru p0ru_0 ++ wCourt k a_p0no p0no_j247 ++ wPast k a_p0pa pp_0 p0pa_0) (c_X8_process n l k a_p0 a_p0in a_p0ou a_p0ru a_p0no a_p0fo a_p0rd a_p0pa sv_p0 p0_0 p0ru_0 p0no_j247 w10_j247 (0 : Int32) (r_86, cd_87) hg hcd) E vl_L_123 dL_isSound_321 rfl (List.range' 0 1 ++ List.range' 1 3 ++ List.range' 4 12) 8 0 hW hA hl rfl (by simp only [List.map_append]; exact app2 (app2 (blk_map [] (wMCo k a_p0 (a_p0in 0) (a_p0ou 0) (a_p0ru 0) (a_p0no 0) (a_p0fo 0) (a_p0rd 0) (a_p0pa 0) sv_p0 p0_0) (wRules k a_p0ru p0ru_0 ++ wCourt k a_p0no p0no_j247 ++ wPast k a_p0pa pp_0 p0pa_0) 0 1 (by simp only [List.append_assoc, List.nil_append, List.append_nil]) rfl rfl) (blk_map (wMCo k a_p0 (a_p0in 0) (a_p0ou 0) (a_p0ru 0) (a_p0no 0) (a_p0fo 0) (a_p0rd 0) (a_p0pa 0) sv_p0 p0_0) (wRules k a_p0ru p0ru_0) (wCourt k a_p0no p0no_j247 ++ wPast k a_p0pa pp_0 p0pa_0) 1 3 (by simp only [List.append_assoc, List.nil_append, List.append_nil]) rfl rfl)) (blk_map (wMCo k a_p0 (a_p0in 0) (a_p0ou 0) (a_p0ru 0) (a_p0no 0) (a_p0fo 0) (a_p0rd 0) (a_p0pa 0) sv_p0 p0_0 ++ wRules k a_p0ru p0ru_0) (wCourt k a_p0no p0no_j247) (wPast k a_p0pa pp_0 p0pa_0) 4 12 (by simp only [List.append_assoc, List.nil_append, List.append_nil]) rfl rfl)) rfl rfl ⟨by decide, by decide⟩ ⟨by decide, by decide⟩ (Nat.le_of_ble_eq_true rfl) rfl (fun _ => rfl) (fun u => by show putW _ (_ ++ _) (_ ++ _) = _; rw [putW_app _ _ _ _ _ rfl, putW_app _ _ _ _ _ rfl, blk_put [] (wMCo k a_p0 (a_p0in 0) (a_p0ou 0) (a_p0ru 0) (a_p0no 0) (a_p0fo 0) (a_p0rd 0) (a_p0pa 0) sv_p0 p0_0) (wRules k a_p0ru p0ru_0 ++ wCourt k a_p0no p0no_j247 ++ wPast k a_p0pa pp_0 p0pa_0) (wMCo k a_p0 (a_p0in 0) (a_p0ou 0) (a_p0ru 0) (a_p0no 0) (a_p0fo 0) (a_p0rd 0) (a_p0pa 0) sv_p0 p0_0) 0 1 (by simp only [List.append_assoc, List.nil_append, List.append_nil]) rfl rfl rfl, blk_put (wMCo k a_p0 (a_p0in 0) (a_p0ou 0) (a_p0ru 0) (a_p0no 0) (a_p0fo 0) (a_p0rd 0) (a_p0pa 0) sv_p0 p0_0) (wRules k a_p0ru p0ru_0) (wCourt k a_p0no p0no_j247 ++ wPast k a_p0pa pp_0 p0pa_0) (wRules k a_p0ru p0ru_0) 1 3 (by simp only [List.append_assoc, List.nil_append, List.append_nil]) rfl rfl rfl, blk_put (wMCo k a_p0 (a_p0in 0) (a_p0ou 0) (a_p0ru 0) (a_p0no 0) (a_p0fo 0) (a_p0rd 0) (a_p0pa 0) sv_p0 p0_0 ++ wRules k a_p0ru p0ru_0) (wCourt k a_p0no p0no_j247) (wPast k a_p0pa pp_0 p0pa_0) (wCourt k a_p0no p0no_j247) 4 12 (by simp only [List.append_assoc, List.nil_append, List.append_nil]) rfl rfl rfl]; try simp only [List.append_assoc, List.nil_append, List.append_nil]) (fun r u H locs hp hW => ?_)
                                cases hp
                                have hW : WD k A s.heap (wMCo k a_p0 (a_p0in 0) (a_p0ou 0) (a_p0ru 0) (a_p0no 0) (a_p0fo 0) (a_p0rd 0) (a_p0pa 0) sv_p0 p0_0 ++ wRules k a_p0ru p0ru_0 ++ wCourt k a_p0no p0no_j247 ++ wPast k a_p0pa pp_0 p0pa_0) H locs := hW
                                refine lv_if_lt (tgt := 337) E.hx E.hb dL_isSound_324 (by decide) (fun hc => ?_) (fun hc => ?_)
                                · have hf := oT hc hf
                                  refine lv_iconst (v := (0 : Int32)) E.hx E.hb dL_isSound_337 ic_0 ?_
                                  exact hret _ p0no_j247 _ _ _ _ _ _ hW (Option.some.inj hf).symm (by decide) (by decide) (by decide) dL_isSound_338
                                · have hf := oF hc hf
                                  refine k_aload_n E hl 3 dL_isSound_327 rfl ?_
                                  refine k_iload E hl 6 dL_isSound_328 rfl ?_
                                  refine lv_iconst (v := (1 : Int32)) E.hx E.hb dL_isSound_330 ic_1 ?_
                                  obtain ⟨r_88, cd_89, hg, hf⟩ := ob2 hf
                                  by_cases hcd : cd_89 = 0
                                  rotate_left
                                  · have hf := oF hcd hf
                                    exact o0 hf
                                  replace hf := oT hcd hf
                                  refine k_callVi (As := [.int w10_j247, .int (1 : Int32)]) (rest := []) (ws2 := fun u => wMCo k a_p0 (a_p0in 0) (a_p0ou 0) (a_p0ru 0) (a_p0no 0) (a_p0fo 0) (a_p0rd 0) (a_p0pa 0) sv_p0 p0_0 ++ wRules k a_p0ru p0ru_0 ++ wCourt k a_p0no p0no_j247 ++ wPast k a_p0pa pp_0 p0pa_0) (c_X8_process n l k a_p0 a_p0in a_p0ou a_p0ru a_p0no a_p0fo a_p0rd a_p0pa sv_p0 p0_0 p0ru_0 p0no_j247 w10_j247 (1 : Int32) (r_88, cd_89) hg hcd) E vl_L_123 dL_isSound_331 rfl (List.range' 0 1 ++ List.range' 1 3 ++ List.range' 4 12) 8 0 hW hA hl rfl (by simp only [List.map_append]; exact app2 (app2 (blk_map [] (wMCo k a_p0 (a_p0in 0) (a_p0ou 0) (a_p0ru 0) (a_p0no 0) (a_p0fo 0) (a_p0rd 0) (a_p0pa 0) sv_p0 p0_0) (wRules k a_p0ru p0ru_0 ++ wCourt k a_p0no p0no_j247 ++ wPast k a_p0pa pp_0 p0pa_0) 0 1 (by simp only [List.append_assoc, List.nil_append, List.append_nil]) rfl rfl) (blk_map (wMCo k a_p0 (a_p0in 0) (a_p0ou 0) (a_p0ru 0) (a_p0no 0) (a_p0fo 0) (a_p0rd 0) (a_p0pa 0) sv_p0 p0_0) (wRules k a_p0ru p0ru_0) (wCourt k a_p0no p0no_j247 ++ wPast k a_p0pa pp_0 p0pa_0) 1 3 (by simp only [List.append_assoc, List.nil_append, List.append_nil]) rfl rfl)) (blk_map (wMCo k a_p0 (a_p0in 0) (a_p0ou 0) (a_p0ru 0) (a_p0no 0) (a_p0fo 0) (a_p0rd 0) (a_p0pa 0) sv_p0 p0_0 ++ wRules k a_p0ru p0ru_0) (wCourt k a_p0no p0no_j247) (wPast k a_p0pa pp_0 p0pa_0) 4 12 (by simp only [List.append_assoc, List.nil_append, List.append_nil]) rfl rfl)) rfl rfl ⟨by decide, by decide⟩ ⟨by decide, by decide⟩ (Nat.le_of_ble_eq_true rfl) rfl (fun _ => rfl) (fun u => by show putW _ (_ ++ _) (_ ++ _) = _; rw [putW_app _ _ _ _ _ rfl, putW_app _ _ _ _ _ rfl, blk_put [] (wMCo k a_p0 (a_p0in 0) (a_p0ou 0) (a_p0ru 0) (a_p0no 0) (a_p0fo 0) (a_p0rd 0) (a_p0pa 0) sv_p0 p0_0) (wRules k a_p0ru p0ru_0 ++ wCourt k a_p0no p0no_j247 ++ wPast k a_p0pa pp_0 p0pa_0) (wMCo k a_p0 (a_p0in 0) (a_p0ou 0) (a_p0ru 0) (a_p0no 0) (a_p0fo 0) (a_p0rd 0) (a_p0pa 0) sv_p0 p0_0) 0 1 (by simp only [List.append_assoc, List.nil_append, List.append_nil]) rfl rfl rfl, blk_put (wMCo k a_p0 (a_p0in 0) (a_p0ou 0) (a_p0ru 0) (a_p0no 0) (a_p0fo 0) (a_p0rd 0) (a_p0pa 0) sv_p0 p0_0) (wRules k a_p0ru p0ru_0) (wCourt k a_p0no p0no_j247 ++ wPast k a_p0pa pp_0 p0pa_0) (wRules k a_p0ru p0ru_0) 1 3 (by simp only [List.append_assoc, List.nil_append, List.append_nil]) rfl rfl rfl, blk_put (wMCo k a_p0 (a_p0in 0) (a_p0ou 0) (a_p0ru 0) (a_p0no 0) (a_p0fo 0) (a_p0rd 0) (a_p0pa 0) sv_p0 p0_0 ++ wRules k a_p0ru p0ru_0) (wCourt k a_p0no p0no_j247) (wPast k a_p0pa pp_0 p0pa_0) (wCourt k a_p0no p0no_j247) 4 12 (by simp only [List.append_assoc, List.nil_append, List.append_nil]) rfl rfl rfl]; try simp only [List.append_assoc, List.nil_append, List.append_nil]) (fun r u H locs hp hW => ?_)
                                  cases hp
                                  have hW : WD k A s.heap (wMCo k a_p0 (a_p0in 0) (a_p0ou 0) (a_p0ru 0) (a_p0no 0) (a_p0fo 0) (a_p0rd 0) (a_p0pa 0) sv_p0 p0_0 ++ wRules k a_p0ru p0ru_0 ++ wCourt k a_p0no p0no_j247 ++ wPast k a_p0pa pp_0 p0pa_0) H locs := hW
                                  refine lv_if_ge (tgt := 339) E.hx E.hb dL_isSound_334 (by decide) (fun hc => ?_) (fun hc => ?_)
                                  · have hf := oT hc hf
                                    obtain ⟨v10_90, ev10_90, hf⟩ := oL hf
                                    refine k_iinc (lv' := [(10, .int v10_90), (9, .int v9_81), (8, .int v8_78), (7, .int v7_75), (0, .ref (a_p0 0)), (1, .int v1_0), (2, .int v2_0)]) E hl 6 dL_isSound_339 rfl (ev10_90.trans (congrArg (fun z => w10_j247 + z) ic_1.symm)) (by decide) rfl (fun ls hl => ?_)
                                    refine lv_goto (tgt := 247) E.hx E.hb dL_isSound_342 (by decide) ?_
                                    exact ih_247 p0no_j247 v7_75 v8_78 v9_81 v10_90 _ _ _ hW (lv_sub hl [4, 5, 6, 3, 2, 1, 0] rfl) hf
                                  · have hf := oF hc hf
                                    refine lv_iconst (v := (0 : Int32)) E.hx E.hb dL_isSound_337 ic_0 ?_
                                    exact hret _ p0no_j247 _ _ _ _ _ _ hW (Option.some.inj hf).symm (by decide) (by decide) (by decide) dL_isSound_338
                      exact L_247 n p0no_j230 (0 : Int32) (0 : Int32) (0 : Int32) (0 : Int32) _ _ _ hW (lv_sub hl [4, 5, 6, 3, 2, 1, 0] rfl) hf
                    · have hf := oF hc hf
                      refine lv_iconst (v := (0 : Int32)) E.hx E.hb dL_isSound_233 ic_0 ?_
                      exact hret _ p0no_j230 _ _ _ _ _ _ hW (Option.some.inj hf).symm (by decide) (by decide) (by decide) dL_isSound_234
                  refine lv_if_ne (tgt := 229) E.hx E.hb dL_isSound_222 (by decide) (fun hc => ?_) (fun hc => ?_)
                  · have hf := oF hc hf
                    refine lv_iconst (v := (0 : Int32)) E.hx E.hb dL_isSound_229 ic_0 ?_
                    exact J_230 p0no_j171 (1 : Int32) (0 : Int32) _ _ _ hW (lv_sub hl [0, 1, 2] rfl) hf
                  · have hf := oT hc hf
                    refine lv_iconst (v := (1 : Int32)) E.hx E.hb dL_isSound_225 ic_1 ?_
                    refine lv_goto (tgt := 230) E.hx E.hb dL_isSound_226 (by decide) ?_
                    exact J_230 p0no_j171 (1 : Int32) (1 : Int32) _ _ _ hW (lv_sub hl [0, 1, 2] rfl) hf
      refine lv_icmp_ge (tgt := 171) E.hx E.hb dL_isSound_27 (by decide) (fun hc => ?_) (fun hc => ?_)
      · have hf := oT hc hf
        exact J_171 p0no_j19 w3_j19 w4_j19 w5_j19 w6_j19 _ _ _ hW (lv_sub hl [0, 1, 2, 3, 4, 5, 6] rfl) hf
      · have hf := oF hc hf
        refine k_aload_n E hl 0 dL_isSound_30 rfl ?_
        refine k_iload E hl 7 dL_isSound_31 rfl ?_
        refine lv_iconst (v := (1 : Int32)) E.hx E.hb dL_isSound_33 ic_1 ?_
        obtain ⟨r_91, cd_92, hg, hf⟩ := ob2 hf
        by_cases hcd : cd_92 = 0
        rotate_left
        · have hf := oF hcd hf
          exact o0 hf
        replace hf := oT hcd hf
        refine k_callVi (As := [.int w7_j19, .int (1 : Int32)]) (rest := []) (ws2 := fun u => wMCo k a_p0 (a_p0in 0) (a_p0ou 0) (a_p0ru 0) (a_p0no 0) (a_p0fo 0) (a_p0rd 0) (a_p0pa 0) sv_p0 p0_0 ++ wRules k a_p0ru p0ru_0 ++ wCourt k a_p0no p0no_j19 ++ wPast k a_p0pa pp_0 p0pa_0) (c_X8_loan n l k a_p0 a_p0in a_p0ou a_p0ru a_p0no a_p0fo a_p0rd a_p0pa sv_p0 p0_0 p0no_j19 w7_j19 (1 : Int32) (r_91, cd_92) hg hcd) E vl_L_99 dL_isSound_34 rfl (List.range' 0 1 ++ List.range' 4 12) 8 0 hW hA hl rfl (by simp only [List.map_append]; exact app2 (blk_map [] (wMCo k a_p0 (a_p0in 0) (a_p0ou 0) (a_p0ru 0) (a_p0no 0) (a_p0fo 0) (a_p0rd 0) (a_p0pa 0) sv_p0 p0_0) (wRules k a_p0ru p0ru_0 ++ wCourt k a_p0no p0no_j19 ++ wPast k a_p0pa pp_0 p0pa_0) 0 1 (by simp only [List.append_assoc, List.nil_append, List.append_nil]) rfl rfl) (blk_map (wMCo k a_p0 (a_p0in 0) (a_p0ou 0) (a_p0ru 0) (a_p0no 0) (a_p0fo 0) (a_p0rd 0) (a_p0pa 0) sv_p0 p0_0 ++ wRules k a_p0ru p0ru_0) (wCourt k a_p0no p0no_j19) (wPast k a_p0pa pp_0 p0pa_0) 4 12 (by simp only [List.append_assoc, List.nil_append, List.append_nil]) rfl rfl)) rfl rfl ⟨by decide, by decide⟩ ⟨by decide, by decide⟩ (Nat.le_of_ble_eq_true rfl) rfl (fun _ => rfl) (fun u => by show putW _ (_ ++ _) (_ ++ _) = _; rw [putW_app _ _ _ _ _ rfl, blk_put [] (wMCo k a_p0 (a_p0in 0) (a_p0ou 0) (a_p0ru 0) (a_p0no 0) (a_p0fo 0) (a_p0rd 0) (a_p0pa 0) sv_p0 p0_0) (wRules k a_p0ru p0ru_0 ++ wCourt k a_p0no p0no_j19 ++ wPast k a_p0pa pp_0 p0pa_0) (wMCo k a_p0 (a_p0in 0) (a_p0ou 0) (a_p0ru 0) (a_p0no 0) (a_p0fo 0) (a_p0rd 0) (a_p0pa 0) sv_p0 p0_0) 0 1 (by simp only [List.append_assoc, List.nil_append, List.append_nil]) rfl rfl rfl, blk_put (wMCo k a_p0 (a_p0in 0) (a_p0ou 0) (a_p0ru 0) (a_p0no 0) (a_p0fo 0) (a_p0rd 0) (a_p0pa 0) sv_p0 p0_0 ++ wRules k a_p0ru p0ru_0) (wCourt k a_p0no p0no_j19) (wPast k a_p0pa pp_0 p0pa_0) (wCourt k a_p0no p0no_j19) 4 12 (by simp only [List.append_assoc, List.nil_append, List.append_nil]) rfl rfl rfl]; try simp only [List.append_assoc, List.nil_append, List.append_nil]) (fun r u H locs hp hW => ?_)
        cases hp
        have hW : WD k A s.heap (wMCo k a_p0 (a_p0in 0) (a_p0ou 0) (a_p0ru 0) (a_p0no 0) (a_p0fo 0) (a_p0rd 0) (a_p0pa 0) sv_p0 p0_0 ++ wRules k a_p0ru p0ru_0 ++ wCourt k a_p0no p0no_j19 ++ wPast k a_p0pa pp_0 p0pa_0) H locs := hW
        refine k_istore (lv' := [(8, .int r_91), (0, .ref (a_p0 0)), (1, .int v1_0), (2, .int v2_0), (3, .int w3_j19), (4, .int w4_j19), (5, .int w5_j19), (6, .int w6_j19), (7, .int w7_j19)]) E rfl hl dL_isSound_37 (by decide) rfl (fun ls hl => ?_)
        refine k_iload_n E hl 4 dL_isSound_39 rfl ?_
        refine k_iload E hl 0 dL_isSound_40 rfl ?_
        refine lv_iadd E.hx E.hb dL_isSound_42 ?_
        obtain ⟨v3_93, ev3_93, hf⟩ := oL hf
        refine k_istore_n (lv' := [(3, .int v3_93), (8, .int r_91), (0, .ref (a_p0 0)), (1, .int v1_0), (2, .int v2_0), (4, .int w4_j19), (5, .int w5_j19), (6, .int w6_j19), (7, .int w7_j19)]) E ev3_93 hl dL_isSound_43 rfl (by decide) rfl (fun ls hl => ?_)
        refine k_iload E hl 5 dL_isSound_44 rfl ?_
        refine k_iload E hl 1 dL_isSound_46 rfl ?_
        have J_56 : ∀ (p0no_j56 : OS) (w3_j56 : Int32) (w5_j56 : Int32) (w6_j56 : Int32) (w7_j56 : Int32) (w8_j56 : Int32) (s0_j56 : Int32) (s1_j56 : Int32) (H : Heap) (locs : List Loc) (ls : Array Slot) (hW : WD k A s.heap (wMCo k a_p0 (a_p0in 0) (a_p0ou 0) (a_p0ru 0) (a_p0no 0) (a_p0fo 0) (a_p0rd 0) (a_p0pa 0) sv_p0 p0_0 ++ wRules k a_p0ru p0ru_0 ++ wCourt k a_p0no p0no_j56 ++ wPast k a_p0pa pp_0 p0pa_0) H locs) (hl : lv_has ls 12 [(0, .ref (a_p0 0)), (1, .int v1_0), (2, .int v2_0), (3, .int w3_j56), (5, .int w5_j56), (6, .int w6_j56), (7, .int w7_j56), (8, .int w8_j56)]) (hf : j_L_isSound_56 n sv_p0 p0_0 p0ru_0 p0pa_0 v1_0 v2_0 (l_L_isSound_19 n sv_p0 p0_0 p0ru_0 p0pa_0 v1_0 v2_0 N_19) p0no_j56 w3_j56 w5_j56 w6_j56 w7_j56 w8_j56 s0_j56 s1_j56 = some res), W p l e { frames := 4, cells := 0, slots := 0, locals := 90 } s m args below meth c H locs 0 0 Q (F0 m 56 ls [.int s1_j56, .int s0_j56]) := by
          intro p0no_j56 w3_j56 w5_j56 w6_j56 w7_j56 w8_j56 s0_j56 s1_j56 H locs ls hW hl hf
          unfold j_L_isSound_56 at hf
          refine lv_iadd E.hx E.hb dL_isSound_56 ?_
          obtain ⟨v4_94, ev4_94, hf⟩ := oL hf
          refine k_istore (lv' := [(4, .int v4_94), (0, .ref (a_p0 0)), (1, .int v1_0), (2, .int v2_0), (3, .int w3_j56), (5, .int w5_j56), (6, .int w6_j56), (7, .int w7_j56), (8, .int w8_j56)]) E ev4_94 hl dL_isSound_57 (by decide) rfl (fun ls hl => ?_)
          refine k_iload E hl 5 dL_isSound_59 rfl ?_
          refine k_aload_n E hl 1 dL_isSound_61 rfl ?_
          refine k_iload E hl 7 dL_isSound_62 rfl ?_
          refine lv_iconst (v := (5 : Int32)) E.hx E.hb dL_isSound_64 ic_5 ?_
          obtain ⟨r_95, cd_96, hg, hf⟩ := ob2 hf
          by_cases hcd : cd_96 = 0
          rotate_left
          · have hf := oF hcd hf
            exact o0 hf
          replace hf := oT hcd hf
          refine k_callVi (As := [.int w7_j56, .int (5 : Int32)]) (rest := [.int w5_j56]) (ws2 := fun u => wMCo k a_p0 (a_p0in 0) (a_p0ou 0) (a_p0ru 0) (a_p0no 0) (a_p0fo 0) (a_p0rd 0) (a_p0pa 0) sv_p0 p0_0 ++ wRules k a_p0ru p0ru_0 ++ wCourt k a_p0no p0no_j56 ++ wPast k a_p0pa pp_0 p0pa_0) (c_X8_loan n l k a_p0 a_p0in a_p0ou a_p0ru a_p0no a_p0fo a_p0rd a_p0pa sv_p0 p0_0 p0no_j56 w7_j56 (5 : Int32) (r_95, cd_96) hg hcd) E vl_L_99 dL_isSound_65 rfl (List.range' 0 1 ++ List.range' 4 12) 8 0 hW hA hl rfl (by simp only [List.map_append]; exact app2 (blk_map [] (wMCo k a_p0 (a_p0in 0) (a_p0ou 0) (a_p0ru 0) (a_p0no 0) (a_p0fo 0) (a_p0rd 0) (a_p0pa 0) sv_p0 p0_0) (wRules k a_p0ru p0ru_0 ++ wCourt k a_p0no p0no_j56 ++ wPast k a_p0pa pp_0 p0pa_0) 0 1 (by simp only [List.append_assoc, List.nil_append, List.append_nil]) rfl rfl) (blk_map (wMCo k a_p0 (a_p0in 0) (a_p0ou 0) (a_p0ru 0) (a_p0no 0) (a_p0fo 0) (a_p0rd 0) (a_p0pa 0) sv_p0 p0_0 ++ wRules k a_p0ru p0ru_0) (wCourt k a_p0no p0no_j56) (wPast k a_p0pa pp_0 p0pa_0) 4 12 (by simp only [List.append_assoc, List.nil_append, List.append_nil]) rfl rfl)) rfl rfl ⟨by decide, by decide⟩ ⟨by decide, by decide⟩ (Nat.le_of_ble_eq_true rfl) rfl (fun _ => rfl) (fun u => by show putW _ (_ ++ _) (_ ++ _) = _; rw [putW_app _ _ _ _ _ rfl, blk_put [] (wMCo k a_p0 (a_p0in 0) (a_p0ou 0) (a_p0ru 0) (a_p0no 0) (a_p0fo 0) (a_p0rd 0) (a_p0pa 0) sv_p0 p0_0) (wRules k a_p0ru p0ru_0 ++ wCourt k a_p0no p0no_j56 ++ wPast k a_p0pa pp_0 p0pa_0) (wMCo k a_p0 (a_p0in 0) (a_p0ou 0) (a_p0ru 0) (a_p0no 0) (a_p0fo 0) (a_p0rd 0) (a_p0pa 0) sv_p0 p0_0) 0 1 (by simp only [List.append_assoc, List.nil_append, List.append_nil]) rfl rfl rfl, blk_put (wMCo k a_p0 (a_p0in 0) (a_p0ou 0) (a_p0ru 0) (a_p0no 0) (a_p0fo 0) (a_p0rd 0) (a_p0pa 0) sv_p0 p0_0 ++ wRules k a_p0ru p0ru_0) (wCourt k a_p0no p0no_j56) (wPast k a_p0pa pp_0 p0pa_0) (wCourt k a_p0no p0no_j56) 4 12 (by simp only [List.append_assoc, List.nil_append, List.append_nil]) rfl rfl rfl]; try simp only [List.append_assoc, List.nil_append, List.append_nil]) (fun r u H locs hp hW => ?_)
          cases hp
          have hW : WD k A s.heap (wMCo k a_p0 (a_p0in 0) (a_p0ou 0) (a_p0ru 0) (a_p0no 0) (a_p0fo 0) (a_p0rd 0) (a_p0pa 0) sv_p0 p0_0 ++ wRules k a_p0ru p0ru_0 ++ wCourt k a_p0no p0no_j56 ++ wPast k a_p0pa pp_0 p0pa_0) H locs := hW
          refine lv_iadd E.hx E.hb dL_isSound_68 ?_
          obtain ⟨v5_97, ev5_97, hf⟩ := oL hf
          refine k_istore (lv' := [(5, .int v5_97), (4, .int v4_94), (0, .ref (a_p0 0)), (1, .int v1_0), (2, .int v2_0), (3, .int w3_j56), (6, .int w6_j56), (7, .int w7_j56), (8, .int w8_j56)]) E ev5_97 hl dL_isSound_69 (by decide) rfl (fun ls hl => ?_)
          refine k_iload E hl 6 dL_isSound_71 rfl ?_
          refine k_aload_n E hl 2 dL_isSound_73 rfl ?_
          refine k_iload E hl 7 dL_isSound_74 rfl ?_
          refine lv_iconst (v := (5 : Int32)) E.hx E.hb dL_isSound_76 ic_5 ?_
          obtain ⟨r_98, cd_99, hg, hf⟩ := ob2 hf
          by_cases hcd : cd_99 = 0
          rotate_left
          · have hf := oF hcd hf
            exact o0 hf
          replace hf := oT hcd hf
          refine k_callVi (As := [.int w7_j56, .int (5 : Int32)]) (rest := [.int w6_j56]) (ws2 := fun u => wMCo k a_p0 (a_p0in 0) (a_p0ou 0) (a_p0ru 0) (a_p0no 0) (a_p0fo 0) (a_p0rd 0) (a_p0pa 0) sv_p0 p0_0 ++ wRules k a_p0ru p0ru_0 ++ wCourt k a_p0no p0no_j56 ++ wPast k a_p0pa pp_0 p0pa_0) (c_X8_loan n l k a_p0 a_p0in a_p0ou a_p0ru a_p0no a_p0fo a_p0rd a_p0pa sv_p0 p0_0 p0no_j56 w7_j56 (5 : Int32) (r_98, cd_99) hg hcd) E vl_L_99 dL_isSound_77 rfl (List.range' 0 1 ++ List.range' 4 12) 8 0 hW hA hl rfl (by simp only [List.map_append]; exact app2 (blk_map [] (wMCo k a_p0 (a_p0in 0) (a_p0ou 0) (a_p0ru 0) (a_p0no 0) (a_p0fo 0) (a_p0rd 0) (a_p0pa 0) sv_p0 p0_0) (wRules k a_p0ru p0ru_0 ++ wCourt k a_p0no p0no_j56 ++ wPast k a_p0pa pp_0 p0pa_0) 0 1 (by simp only [List.append_assoc, List.nil_append, List.append_nil]) rfl rfl) (blk_map (wMCo k a_p0 (a_p0in 0) (a_p0ou 0) (a_p0ru 0) (a_p0no 0) (a_p0fo 0) (a_p0rd 0) (a_p0pa 0) sv_p0 p0_0 ++ wRules k a_p0ru p0ru_0) (wCourt k a_p0no p0no_j56) (wPast k a_p0pa pp_0 p0pa_0) 4 12 (by simp only [List.append_assoc, List.nil_append, List.append_nil]) rfl rfl)) rfl rfl ⟨by decide, by decide⟩ ⟨by decide, by decide⟩ (Nat.le_of_ble_eq_true rfl) rfl (fun _ => rfl) (fun u => by show putW _ (_ ++ _) (_ ++ _) = _; rw [putW_app _ _ _ _ _ rfl, blk_put [] (wMCo k a_p0 (a_p0in 0) (a_p0ou 0) (a_p0ru 0) (a_p0no 0) (a_p0fo 0) (a_p0rd 0) (a_p0pa 0) sv_p0 p0_0) (wRules k a_p0ru p0ru_0 ++ wCourt k a_p0no p0no_j56 ++ wPast k a_p0pa pp_0 p0pa_0) (wMCo k a_p0 (a_p0in 0) (a_p0ou 0) (a_p0ru 0) (a_p0no 0) (a_p0fo 0) (a_p0rd 0) (a_p0pa 0) sv_p0 p0_0) 0 1 (by simp only [List.append_assoc, List.nil_append, List.append_nil]) rfl rfl rfl, blk_put (wMCo k a_p0 (a_p0in 0) (a_p0ou 0) (a_p0ru 0) (a_p0no 0) (a_p0fo 0) (a_p0rd 0) (a_p0pa 0) sv_p0 p0_0 ++ wRules k a_p0ru p0ru_0) (wCourt k a_p0no p0no_j56) (wPast k a_p0pa pp_0 p0pa_0) (wCourt k a_p0no p0no_j56) 4 12 (by simp only [List.append_assoc, List.nil_append, List.append_nil]) rfl rfl rfl]; try simp only [List.append_assoc, List.nil_append, List.append_nil]) (fun r u H locs hp hW => ?_)
          cases hp
          have hW : WD k A s.heap (wMCo k a_p0 (a_p0in 0) (a_p0ou 0) (a_p0ru 0) (a_p0no 0) (a_p0fo 0) (a_p0rd 0) (a_p0pa 0) sv_p0 p0_0 ++ wRules k a_p0ru p0ru_0 ++ wCourt k a_p0no p0no_j56 ++ wPast k a_p0pa pp_0 p0pa_0) H locs := hW
          refine lv_iconst (v := (1 : Int32)) E.hx E.hb dL_isSound_80 ic_1 ?_
          have J_90 : ∀ (p0no_j90 : OS) (w3_j90 : Int32) (w4_j90 : Int32) (w5_j90 : Int32) (w7_j90 : Int32) (w8_j90 : Int32) (s0_j90 : Int32) (s1_j90 : Int32) (H : Heap) (locs : List Loc) (ls : Array Slot) (hW : WD k A s.heap (wMCo k a_p0 (a_p0in 0) (a_p0ou 0) (a_p0ru 0) (a_p0no 0) (a_p0fo 0) (a_p0rd 0) (a_p0pa 0) sv_p0 p0_0 ++ wRules k a_p0ru p0ru_0 ++ wCourt k a_p0no p0no_j90 ++ wPast k a_p0pa pp_0 p0pa_0) H locs) (hl : lv_has ls 12 [(0, .ref (a_p0 0)), (1, .int v1_0), (2, .int v2_0), (3, .int w3_j90), (4, .int w4_j90), (5, .int w5_j90), (7, .int w7_j90), (8, .int w8_j90)]) (hf : j_L_isSound_90 n sv_p0 p0_0 p0ru_0 p0pa_0 v1_0 v2_0 (l_L_isSound_19 n sv_p0 p0_0 p0ru_0 p0pa_0 v1_0 v2_0 N_19) p0no_j90 w3_j90 w4_j90 w5_j90 w7_j90 w8_j90 s0_j90 s1_j90 = some res), W p l e { frames := 4, cells := 0, slots := 0, locals := 90 } s m args below meth c H locs 0 0 Q (F0 m 90 ls [.int s1_j90, .int s0_j90]) := by
            intro p0no_j90 w3_j90 w4_j90 w5_j90 w7_j90 w8_j90 s0_j90 s1_j90 H locs ls hW hl hf
            unfold j_L_isSound_90 at hf
            refine lv_iadd E.hx E.hb dL_isSound_90 ?_
            obtain ⟨v6_100, ev6_100, hf⟩ := oL hf
            refine k_istore (lv' := [(6, .int v6_100), (0, .ref (a_p0 0)), (1, .int v1_0), (2, .int v2_0), (3, .int w3_j90), (4, .int w4_j90), (5, .int w5_j90), (7, .int w7_j90), (8, .int w8_j90)]) E ev6_100 hl dL_isSound_91 (by decide) rfl (fun ls hl => ?_)
            refine k_iload E hl 8 dL_isSound_93 rfl ?_
            refine k_aload_n E hl 1 dL_isSound_95 rfl ?_
            refine k_iload E hl 7 dL_isSound_96 rfl ?_
            refine lv_bipush (v := (7 : Int32)) E.hx E.hb dL_isSound_98 bp_7 ?_
            obtain ⟨r_101, cd_102, hg, hf⟩ := ob2 hf
            by_cases hcd : cd_102 = 0
            rotate_left
            · have hf := oF hcd hf
              exact o0 hf
            replace hf := oT hcd hf
            refine k_callVi (As := [.int w7_j90, .int (7 : Int32)]) (rest := [.int w8_j90]) (ws2 := fun u => wMCo k a_p0 (a_p0in 0) (a_p0ou 0) (a_p0ru 0) (a_p0no 0) (a_p0fo 0) (a_p0rd 0) (a_p0pa 0) sv_p0 p0_0 ++ wRules k a_p0ru p0ru_0 ++ wCourt k a_p0no p0no_j90 ++ wPast k a_p0pa pp_0 p0pa_0) (c_X8_loan n l k a_p0 a_p0in a_p0ou a_p0ru a_p0no a_p0fo a_p0rd a_p0pa sv_p0 p0_0 p0no_j90 w7_j90 (7 : Int32) (r_101, cd_102) hg hcd) E vl_L_99 dL_isSound_100 rfl (List.range' 0 1 ++ List.range' 4 12) 8 0 hW hA hl rfl (by simp only [List.map_append]; exact app2 (blk_map [] (wMCo k a_p0 (a_p0in 0) (a_p0ou 0) (a_p0ru 0) (a_p0no 0) (a_p0fo 0) (a_p0rd 0) (a_p0pa 0) sv_p0 p0_0) (wRules k a_p0ru p0ru_0 ++ wCourt k a_p0no p0no_j90 ++ wPast k a_p0pa pp_0 p0pa_0) 0 1 (by simp only [List.append_assoc, List.nil_append, List.append_nil]) rfl rfl) (blk_map (wMCo k a_p0 (a_p0in 0) (a_p0ou 0) (a_p0ru 0) (a_p0no 0) (a_p0fo 0) (a_p0rd 0) (a_p0pa 0) sv_p0 p0_0 ++ wRules k a_p0ru p0ru_0) (wCourt k a_p0no p0no_j90) (wPast k a_p0pa pp_0 p0pa_0) 4 12 (by simp only [List.append_assoc, List.nil_append, List.append_nil]) rfl rfl)) rfl rfl ⟨by decide, by decide⟩ ⟨by decide, by decide⟩ (Nat.le_of_ble_eq_true rfl) rfl (fun _ => rfl) (fun u => by show putW _ (_ ++ _) (_ ++ _) = _; rw [putW_app _ _ _ _ _ rfl, blk_put [] (wMCo k a_p0 (a_p0in 0) (a_p0ou 0) (a_p0ru 0) (a_p0no 0) (a_p0fo 0) (a_p0rd 0) (a_p0pa 0) sv_p0 p0_0) (wRules k a_p0ru p0ru_0 ++ wCourt k a_p0no p0no_j90 ++ wPast k a_p0pa pp_0 p0pa_0) (wMCo k a_p0 (a_p0in 0) (a_p0ou 0) (a_p0ru 0) (a_p0no 0) (a_p0fo 0) (a_p0rd 0) (a_p0pa 0) sv_p0 p0_0) 0 1 (by simp only [List.append_assoc, List.nil_append, List.append_nil]) rfl rfl rfl, blk_put (wMCo k a_p0 (a_p0in 0) (a_p0ou 0) (a_p0ru 0) (a_p0no 0) (a_p0fo 0) (a_p0rd 0) (a_p0pa 0) sv_p0 p0_0 ++ wRules k a_p0ru p0ru_0) (wCourt k a_p0no p0no_j90) (wPast k a_p0pa pp_0 p0pa_0) (wCourt k a_p0no p0no_j90) 4 12 (by simp only [List.append_assoc, List.nil_append, List.append_nil]) rfl rfl rfl]; try simp only [List.append_assoc, List.nil_append, List.append_nil]) (fun r u H locs hp hW => ?_)
            cases hp
            have hW : WD k A s.heap (wMCo k a_p0 (a_p0in 0) (a_p0ou 0) (a_p0ru 0) (a_p0no 0) (a_p0fo 0) (a_p0rd 0) (a_p0pa 0) sv_p0 p0_0 ++ wRules k a_p0ru p0ru_0 ++ wCourt k a_p0no p0no_j90 ++ wPast k a_p0pa pp_0 p0pa_0) H locs := hW
            refine lv_icmp_gt (tgt := 163) E.hx E.hb dL_isSound_103 (by decide) (fun hc => ?_) (fun hc => ?_)
            · have hf := oT hc hf
              refine lv_iconst (v := (0 : Int32)) E.hx E.hb dL_isSound_163 ic_0 ?_
              exact hret _ p0no_j90 _ _ _ _ _ _ hW (Option.some.inj hf).symm (by decide) (by decide) (by decide) dL_isSound_164
            · have hf := oF hc hf
              refine k_iload E hl 8 dL_isSound_106 rfl ?_
              refine k_aload_n E hl 1 dL_isSound_108 rfl ?_
              refine k_iload E hl 7 dL_isSound_109 rfl ?_
              refine lv_bipush (v := (6 : Int32)) E.hx E.hb dL_isSound_111 bp_6 ?_
              obtain ⟨r_103, cd_104, hg, hf⟩ := ob2 hf
              by_cases hcd : cd_104 = 0
              rotate_left
              · have hf := oF hcd hf
                exact o0 hf
              replace hf := oT hcd hf
              refine k_callVi (As := [.int w7_j90, .int (6 : Int32)]) (rest := [.int w8_j90]) (ws2 := fun u => wMCo k a_p0 (a_p0in 0) (a_p0ou 0) (a_p0ru 0) (a_p0no 0) (a_p0fo 0) (a_p0rd 0) (a_p0pa 0) sv_p0 p0_0 ++ wRules k a_p0ru p0ru_0 ++ wCourt k a_p0no p0no_j90 ++ wPast k a_p0pa pp_0 p0pa_0) (c_X8_loan n l k a_p0 a_p0in a_p0ou a_p0ru a_p0no a_p0fo a_p0rd a_p0pa sv_p0 p0_0 p0no_j90 w7_j90 (6 : Int32) (r_103, cd_104) hg hcd) E vl_L_99 dL_isSound_113 rfl (List.range' 0 1 ++ List.range' 4 12) 8 0 hW hA hl rfl (by simp only [List.map_append]; exact app2 (blk_map [] (wMCo k a_p0 (a_p0in 0) (a_p0ou 0) (a_p0ru 0) (a_p0no 0) (a_p0fo 0) (a_p0rd 0) (a_p0pa 0) sv_p0 p0_0) (wRules k a_p0ru p0ru_0 ++ wCourt k a_p0no p0no_j90 ++ wPast k a_p0pa pp_0 p0pa_0) 0 1 (by simp only [List.append_assoc, List.nil_append, List.append_nil]) rfl rfl) (blk_map (wMCo k a_p0 (a_p0in 0) (a_p0ou 0) (a_p0ru 0) (a_p0no 0) (a_p0fo 0) (a_p0rd 0) (a_p0pa 0) sv_p0 p0_0 ++ wRules k a_p0ru p0ru_0) (wCourt k a_p0no p0no_j90) (wPast k a_p0pa pp_0 p0pa_0) 4 12 (by simp only [List.append_assoc, List.nil_append, List.append_nil]) rfl rfl)) rfl rfl ⟨by decide, by decide⟩ ⟨by decide, by decide⟩ (Nat.le_of_ble_eq_true rfl) rfl (fun _ => rfl) (fun u => by show putW _ (_ ++ _) (_ ++ _) = _; rw [putW_app _ _ _ _ _ rfl, blk_put [] (wMCo k a_p0 (a_p0in 0) (a_p0ou 0) (a_p0ru 0) (a_p0no 0) (a_p0fo 0) (a_p0rd 0) (a_p0pa 0) sv_p0 p0_0) (wRules k a_p0ru p0ru_0 ++ wCourt k a_p0no p0no_j90 ++ wPast k a_p0pa pp_0 p0pa_0) (wMCo k a_p0 (a_p0in 0) (a_p0ou 0) (a_p0ru 0) (a_p0no 0) (a_p0fo 0) (a_p0rd 0) (a_p0pa 0) sv_p0 p0_0) 0 1 (by simp only [List.append_assoc, List.nil_append, List.append_nil]) rfl rfl rfl, blk_put (wMCo k a_p0 (a_p0in 0) (a_p0ou 0) (a_p0ru 0) (a_p0no 0) (a_p0fo 0) (a_p0rd 0) (a_p0pa 0) sv_p0 p0_0 ++ wRules k a_p0ru p0ru_0) (wCourt k a_p0no p0no_j90) (wPast k a_p0pa pp_0 p0pa_0) (wCourt k a_p0no p0no_j90) 4 12 (by simp only [List.append_assoc, List.nil_append, List.append_nil]) rfl rfl rfl]; try simp only [List.append_assoc, List.nil_append, List.append_nil]) (fun r u H locs hp hW => ?_)
              cases hp
              have hW : WD k A s.heap (wMCo k a_p0 (a_p0in 0) (a_p0ou 0) (a_p0ru 0) (a_p0no 0) (a_p0fo 0) (a_p0rd 0) (a_p0pa 0) sv_p0 p0_0 ++ wRules k a_p0ru p0ru_0 ++ wCourt k a_p0no p0no_j90 ++ wPast k a_p0pa pp_0 p0pa_0) H locs := hW
              refine lv_iadd E.hx E.hb dL_isSound_116 ?_
              refine k_aload_n E hl 1 dL_isSound_117 rfl ?_
              refine k_iload E hl 7 dL_isSound_118 rfl ?_
              refine lv_bipush (v := (7 : Int32)) E.hx E.hb dL_isSound_120 bp_7 ?_
              obtain ⟨r_105, cd_106, hg, hf⟩ := ob2 hf
              by_cases hcd : cd_106 = 0
              rotate_left
              · have hf := oF hcd hf
                exact o0 hf
              replace hf := oT hcd hf
              refine k_callVi (As := [.int w7_j90, .int (7 : Int32)]) (rest := [.int (w8_j90 + r_103)]) (ws2 := fun u => wMCo k a_p0 (a_p0in 0) (a_p0ou 0) (a_p0ru 0) (a_p0no 0) (a_p0fo 0) (a_p0rd 0) (a_p0pa 0) sv_p0 p0_0 ++ wRules k a_p0ru p0ru_0 ++ wCourt k a_p0no p0no_j90 ++ wPast k a_p0pa pp_0 p0pa_0) (c_X8_loan n l k a_p0 a_p0in a_p0ou a_p0ru a_p0no a_p0fo a_p0rd a_p0pa sv_p0 p0_0 p0no_j90 w7_j90 (7 : Int32) (r_105, cd_106) hg hcd) E vl_L_99 dL_isSound_122 rfl (List.range' 0 1 ++ List.range' 4 12) 8 0 hW hA hl rfl (by simp only [List.map_append]; exact app2 (blk_map [] (wMCo k a_p0 (a_p0in 0) (a_p0ou 0) (a_p0ru 0) (a_p0no 0) (a_p0fo 0) (a_p0rd 0) (a_p0pa 0) sv_p0 p0_0) (wRules k a_p0ru p0ru_0 ++ wCourt k a_p0no p0no_j90 ++ wPast k a_p0pa pp_0 p0pa_0) 0 1 (by simp only [List.append_assoc, List.nil_append, List.append_nil]) rfl rfl) (blk_map (wMCo k a_p0 (a_p0in 0) (a_p0ou 0) (a_p0ru 0) (a_p0no 0) (a_p0fo 0) (a_p0rd 0) (a_p0pa 0) sv_p0 p0_0 ++ wRules k a_p0ru p0ru_0) (wCourt k a_p0no p0no_j90) (wPast k a_p0pa pp_0 p0pa_0) 4 12 (by simp only [List.append_assoc, List.nil_append, List.append_nil]) rfl rfl)) rfl rfl ⟨by decide, by decide⟩ ⟨by decide, by decide⟩ (Nat.le_of_ble_eq_true rfl) rfl (fun _ => rfl) (fun u => by show putW _ (_ ++ _) (_ ++ _) = _; rw [putW_app _ _ _ _ _ rfl, blk_put [] (wMCo k a_p0 (a_p0in 0) (a_p0ou 0) (a_p0ru 0) (a_p0no 0) (a_p0fo 0) (a_p0rd 0) (a_p0pa 0) sv_p0 p0_0) (wRules k a_p0ru p0ru_0 ++ wCourt k a_p0no p0no_j90 ++ wPast k a_p0pa pp_0 p0pa_0) (wMCo k a_p0 (a_p0in 0) (a_p0ou 0) (a_p0ru 0) (a_p0no 0) (a_p0fo 0) (a_p0rd 0) (a_p0pa 0) sv_p0 p0_0) 0 1 (by simp only [List.append_assoc, List.nil_append, List.append_nil]) rfl rfl rfl, blk_put (wMCo k a_p0 (a_p0in 0) (a_p0ou 0) (a_p0ru 0) (a_p0no 0) (a_p0fo 0) (a_p0rd 0) (a_p0pa 0) sv_p0 p0_0 ++ wRules k a_p0ru p0ru_0) (wCourt k a_p0no p0no_j90) (wPast k a_p0pa pp_0 p0pa_0) (wCourt k a_p0no p0no_j90) 4 12 (by simp only [List.append_assoc, List.nil_append, List.append_nil]) rfl rfl rfl]; try simp only [List.append_assoc, List.nil_append, List.append_nil]) (fun r u H locs hp hW => ?_)
              cases hp
              have hW : WD k A s.heap (wMCo k a_p0 (a_p0in 0) (a_p0ou 0) (a_p0ru 0) (a_p0no 0) (a_p0fo 0) (a_p0rd 0) (a_p0pa 0) sv_p0 p0_0 ++ wRules k a_p0ru p0ru_0 ++ wCourt k a_p0no p0no_j90 ++ wPast k a_p0pa pp_0 p0pa_0) H locs := hW
              refine lv_icmp_gt (tgt := 163) E.hx E.hb dL_isSound_125 (by decide) (fun hc => ?_) (fun hc => ?_)
              · have hf := oT hc hf
                refine lv_iconst (v := (0 : Int32)) E.hx E.hb dL_isSound_163 ic_0 ?_
                exact hret _ p0no_j90 _ _ _ _ _ _ hW (Option.some.inj hf).symm (by decide) (by decide) (by decide) dL_isSound_164
              · have hf := oF hc hf
                refine k_iload E hl 8 dL_isSound_128 rfl ?_
                have J_152 : ∀ (p0no_j152 : OS) (w3_j152 : Int32) (w4_j152 : Int32) (w5_j152 : Int32) (w6_j152 : Int32) (w7_j152 : Int32) (w8_j152 : Int32) (H : Heap) (locs : List Loc) (ls : Array Slot) (hW : WD k A s.heap (wMCo k a_p0 (a_p0in 0) (a_p0ou 0) (a_p0ru 0) (a_p0no 0) (a_p0fo 0) (a_p0rd 0) (a_p0pa 0) sv_p0 p0_0 ++ wRules k a_p0ru p0ru_0 ++ wCourt k a_p0no p0no_j152 ++ wPast k a_p0pa pp_0 p0pa_0) H locs) (hl : lv_has ls 12 [(0, .ref (a_p0 0)), (1, .int v1_0), (2, .int v2_0), (3, .int w3_j152), (4, .int w4_j152), (5, .int w5_j152), (6, .int w6_j152), (7, .int w7_j152), (8, .int w8_j152)]) (hf : j_L_isSound_152 n sv_p0 p0_0 p0ru_0 p0pa_0 v1_0 v2_0 (l_L_isSound_19 n sv_p0 p0_0 p0ru_0 p0pa_0 v1_0 v2_0 N_19) p0no_j152 w3_j152 w4_j152 w5_j152 w6_j152 w7_j152 w8_j152 = some res), W p l e { frames := 4, cells := 0, slots := 0, locals := 90 } s m args below meth c H locs 0 0 Q (F0 m 152 ls []) := by
                  intro p0no_j152 w3_j152 w4_j152 w5_j152 w6_j152 w7_j152 w8_j152 H locs ls hW hl hf
                  unfold j_L_isSound_152 at hf
                  refine k_aload_n E hl 0 dL_isSound_152 rfl ?_
                  refine k_iload E hl 7 dL_isSound_153 rfl ?_
                  obtain ⟨r_107, cd_108, hg, hf⟩ := ob2 hf
                  by_cases hcd : cd_108 = 0
                  rotate_left
                  · have hf := oF hcd hf
                    exact o0 hf
                  replace hf := oT hcd hf
                  refine k_callVi (As := [.int w7_j152]) (rest := []) (ws2 := fun u => wMCo k a_p0 (a_p0in 0) (a_p0ou 0) (a_p0ru 0) (a_p0no 0) (a_p0fo 0) (a_p0rd 0) (a_p0pa 0) sv_p0 p0_0 ++ wRules k a_p0ru p0ru_0 ++ wCourt k a_p0no p0no_j152 ++ wPast k a_p0pa pp_0 p0pa_0) (c_X8_pieces n l k a_p0 a_p0in a_p0ou a_p0ru a_p0no a_p0fo a_p0rd a_p0pa sv_p0 p0_0 p0no_j152 w7_j152 (r_107, cd_108) hg hcd) E vl_L_114 dL_isSound_155 rfl (List.range' 0 1 ++ List.range' 4 12) 8 0 hW hA hl rfl (by simp only [List.map_append]; exact app2 (blk_map [] (wMCo k a_p0 (a_p0in 0) (a_p0ou 0) (a_p0ru 0) (a_p0no 0) (a_p0fo 0) (a_p0rd 0) (a_p0pa 0) sv_p0 p0_0) (wRules k a_p0ru p0ru_0 ++ wCourt k a_p0no p0no_j152 ++ wPast k a_p0pa pp_0 p0pa_0) 0 1 (by simp only [List.append_assoc, List.nil_append, List.append_nil]) rfl rfl) (blk_map (wMCo k a_p0 (a_p0in 0) (a_p0ou 0) (a_p0ru 0) (a_p0no 0) (a_p0fo 0) (a_p0rd 0) (a_p0pa 0) sv_p0 p0_0 ++ wRules k a_p0ru p0ru_0) (wCourt k a_p0no p0no_j152) (wPast k a_p0pa pp_0 p0pa_0) 4 12 (by simp only [List.append_assoc, List.nil_append, List.append_nil]) rfl rfl)) rfl rfl ⟨by decide, by decide⟩ ⟨by decide, by decide⟩ (Nat.le_of_ble_eq_true rfl) rfl (fun _ => rfl) (fun u => by show putW _ (_ ++ _) (_ ++ _) = _; rw [putW_app _ _ _ _ _ rfl, blk_put [] (wMCo k a_p0 (a_p0in 0) (a_p0ou 0) (a_p0ru 0) (a_p0no 0) (a_p0fo 0) (a_p0rd 0) (a_p0pa 0) sv_p0 p0_0) (wRules k a_p0ru p0ru_0 ++ wCourt k a_p0no p0no_j152 ++ wPast k a_p0pa pp_0 p0pa_0) (wMCo k a_p0 (a_p0in 0) (a_p0ou 0) (a_p0ru 0) (a_p0no 0) (a_p0fo 0) (a_p0rd 0) (a_p0pa 0) sv_p0 p0_0) 0 1 (by simp only [List.append_assoc, List.nil_append, List.append_nil]) rfl rfl rfl, blk_put (wMCo k a_p0 (a_p0in 0) (a_p0ou 0) (a_p0ru 0) (a_p0no 0) (a_p0fo 0) (a_p0rd 0) (a_p0pa 0) sv_p0 p0_0 ++ wRules k a_p0ru p0ru_0) (wCourt k a_p0no p0no_j152) (wPast k a_p0pa pp_0 p0pa_0) (wCourt k a_p0no p0no_j152) 4 12 (by simp only [List.append_assoc, List.nil_append, List.append_nil]) rfl rfl rfl]; try simp only [List.append_assoc, List.nil_append, List.append_nil]) (fun r u H locs hp hW => ?_)
                  cases hp
                  have hW : WD k A s.heap (wMCo k a_p0 (a_p0in 0) (a_p0ou 0) (a_p0ru 0) (a_p0no 0) (a_p0fo 0) (a_p0rd 0) (a_p0pa 0) sv_p0 p0_0 ++ wRules k a_p0ru p0ru_0 ++ wCourt k a_p0no p0no_j152 ++ wPast k a_p0pa pp_0 p0pa_0) H locs := hW
                  refine k_iload E hl 8 dL_isSound_158 rfl ?_
                  refine lv_icmp_le (tgt := 165) E.hx E.hb dL_isSound_160 (by decide) (fun hc => ?_) (fun hc => ?_)
                  · have hf := oT hc hf
                    obtain ⟨v7_109, ev7_109, hf⟩ := oL hf
                    refine k_iinc (lv' := [(7, .int v7_109), (0, .ref (a_p0 0)), (1, .int v1_0), (2, .int v2_0), (3, .int w3_j152), (4, .int w4_j152), (5, .int w5_j152), (6, .int w6_j152), (8, .int w8_j152)]) E hl 7 dL_isSound_165 rfl (ev7_109.trans (congrArg (fun z => w7_j152 + z) ic_1.symm)) (by decide) rfl (fun ls hl => ?_)
                    refine lv_goto (tgt := 19) E.hx E.hb dL_isSound_168 (by decide) ?_
                    exact ih_19 p0no_j152 w3_j152 w4_j152 w5_j152 w6_j152 v7_109 _ _ _ hW (lv_sub hl [1, 2, 3, 4, 5, 6, 7, 0] rfl) hf
                  · have hf := oF hc hf
                    refine lv_iconst (v := (0 : Int32)) E.hx E.hb dL_isSound_163 ic_0 ?_
                    exact hret _ p0no_j152 _ _ _ _ _ _ hW (Option.some.inj hf).symm (by decide) (by decide) (by decide) dL_isSound_164
                refine lv_if_le (tgt := 152) E.hx E.hb dL_isSound_130 (by decide) (fun hc => ?_) (fun hc => ?_)
                · have hf := oT hc hf
                  exact J_152 p0no_j90 w3_j90 w4_j90 w5_j90 v6_100 w7_j90 w8_j90 _ _ _ hW (lv_sub hl [1, 2, 3, 4, 5, 6, 0, 7, 8] rfl) hf
                · have hf := oF hc hf
                  refine k_aload_n E hl 1 dL_isSound_133 rfl ?_
                  refine k_aload_n E hl 1 dL_isSound_134 rfl ?_
                  refine k_iload E hl 7 dL_isSound_135 rfl ?_
                  refine k_iload E hl 8 dL_isSound_137 rfl ?_
                  refine lv_iconst (v := (1 : Int32)) E.hx E.hb dL_isSound_139 ic_1 ?_
                  refine lv_isub E.hx E.hb dL_isSound_140 ?_
                  obtain ⟨r_110, cd_111, hg, hf⟩ := ob2 hf
                  by_cases hcd : cd_111 = 0
                  rotate_left
                  · have hf := oF hcd hf
                    exact o0 hf
                  replace hf := oT hcd hf
                  refine k_callVi (As := [.int w7_j90, .int (w8_j90 - (1 : Int32))]) (rest := [.ref (a_p0 0)]) (ws2 := fun u => wMCo k a_p0 (a_p0in 0) (a_p0ou 0) (a_p0ru 0) (a_p0no 0) (a_p0fo 0) (a_p0rd 0) (a_p0pa 0) sv_p0 p0_0 ++ wRules k a_p0ru p0ru_0 ++ wCourt k a_p0no p0no_j90 ++ wPast k a_p0pa pp_0 p0pa_0) (c_X8_pageOf n l k a_p0 a_p0in a_p0ou a_p0ru a_p0no a_p0fo a_p0rd a_p0pa sv_p0 p0_0 p0no_j90 w7_j90 (w8_j90 - (1 : Int32)) (r_110, cd_111) hg hcd) E vl_L_108 dL_isSound_141 rfl (List.range' 0 1 ++ List.range' 4 12) 8 0 hW hA hl rfl (by simp only [List.map_append]; exact app2 (blk_map [] (wMCo k a_p0 (a_p0in 0) (a_p0ou 0) (a_p0ru 0) (a_p0no 0) (a_p0fo 0) (a_p0rd 0) (a_p0pa 0) sv_p0 p0_0) (wRules k a_p0ru p0ru_0 ++ wCourt k a_p0no p0no_j90 ++ wPast k a_p0pa pp_0 p0pa_0) 0 1 (by simp only [List.append_assoc, List.nil_append, List.append_nil]) rfl rfl) (blk_map (wMCo k a_p0 (a_p0in 0) (a_p0ou 0) (a_p0ru 0) (a_p0no 0) (a_p0fo 0) (a_p0rd 0) (a_p0pa 0) sv_p0 p0_0 ++ wRules k a_p0ru p0ru_0) (wCourt k a_p0no p0no_j90) (wPast k a_p0pa pp_0 p0pa_0) 4 12 (by simp only [List.append_assoc, List.nil_append, List.append_nil]) rfl rfl)) rfl rfl ⟨by decide, by decide⟩ ⟨by decide, by decide⟩ (Nat.le_of_ble_eq_true rfl) rfl (fun _ => rfl) (fun u => by show putW _ (_ ++ _) (_ ++ _) = _; rw [putW_app _ _ _ _ _ rfl, blk_put [] (wMCo k a_p0 (a_p0in 0) (a_p0ou 0) (a_p0ru 0) (a_p0no 0) (a_p0fo 0) (a_p0rd 0) (a_p0pa 0) sv_p0 p0_0) (wRules k a_p0ru p0ru_0 ++ wCourt k a_p0no p0no_j90 ++ wPast k a_p0pa pp_0 p0pa_0) (wMCo k a_p0 (a_p0in 0) (a_p0ou 0) (a_p0ru 0) (a_p0no 0) (a_p0fo 0) (a_p0rd 0) (a_p0pa 0) sv_p0 p0_0) 0 1 (by simp only [List.append_assoc, List.nil_append, List.append_nil]) rfl rfl rfl, blk_put (wMCo k a_p0 (a_p0in 0) (a_p0ou 0) (a_p0ru 0) (a_p0no 0) (a_p0fo 0) (a_p0rd 0) (a_p0pa 0) sv_p0 p0_0 ++ wRules k a_p0ru p0ru_0) (wCourt k a_p0no p0no_j90) (wPast k a_p0pa pp_0 p0pa_0) (wCourt k a_p0no p0no_j90) 4 12 (by simp only [List.append_assoc, List.nil_append, List.append_nil]) rfl rfl rfl]; try simp only [List.append_assoc, List.nil_append, List.append_nil]) (fun r u H locs hp hW => ?_)
                  cases hp
                  have hW : WD k A s.heap (wMCo k a_p0 (a_p0in 0) (a_p0ou 0) (a_p0ru 0) (a_p0no 0) (a_p0fo 0) (a_p0rd 0) (a_p0pa 0) sv_p0 p0_0 ++ wRules k a_p0ru p0ru_0 ++ wCourt k a_p0no p0no_j90 ++ wPast k a_p0pa pp_0 p0pa_0) H locs := hW
                  obtain ⟨r_112, cd_113, hg, hf⟩ := ob2 hf
                  by_cases hcd : cd_113 = 0
                  rotate_left
                  · have hf := oF hcd hf
                    exact o0 hf
                  replace hf := oT hcd hf
                  refine k_callVi (As := [.int r_110]) (rest := []) (ws2 := fun u => wMCo k a_p0 (a_p0in 0) (a_p0ou 0) (a_p0ru 0) (a_p0no 0) (a_p0fo 0) (a_p0rd 0) (a_p0pa 0) sv_p0 p0_0 ++ wRules k a_p0ru p0ru_0 ++ wCourt k a_p0no p0no_j90 ++ wPast k a_p0pa pp_0 p0pa_0) (c_X8_page n l k a_p0 a_p0in a_p0ou a_p0ru a_p0no a_p0fo a_p0rd a_p0pa sv_p0 p0_0 p0ru_0 p0no_j90 r_110 (r_112, cd_113) hg hcd) E vl_L_111 dL_isSound_144 rfl (List.range' 0 1 ++ List.range' 1 3 ++ List.range' 4 12) 8 0 hW hA hl rfl (by simp only [List.map_append]; exact app2 (app2 (blk_map [] (wMCo k a_p0 (a_p0in 0) (a_p0ou 0) (a_p0ru 0) (a_p0no 0) (a_p0fo 0) (a_p0rd 0) (a_p0pa 0) sv_p0 p0_0) (wRules k a_p0ru p0ru_0 ++ wCourt k a_p0no p0no_j90 ++ wPast k a_p0pa pp_0 p0pa_0) 0 1 (by simp only [List.append_assoc, List.nil_append, List.append_nil]) rfl rfl) (blk_map (wMCo k a_p0 (a_p0in 0) (a_p0ou 0) (a_p0ru 0) (a_p0no 0) (a_p0fo 0) (a_p0rd 0) (a_p0pa 0) sv_p0 p0_0) (wRules k a_p0ru p0ru_0) (wCourt k a_p0no p0no_j90 ++ wPast k a_p0pa pp_0 p0pa_0) 1 3 (by simp only [List.append_assoc, List.nil_append, List.append_nil]) rfl rfl)) (blk_map (wMCo k a_p0 (a_p0in 0) (a_p0ou 0) (a_p0ru 0) (a_p0no 0) (a_p0fo 0) (a_p0rd 0) (a_p0pa 0) sv_p0 p0_0 ++ wRules k a_p0ru p0ru_0) (wCourt k a_p0no p0no_j90) (wPast k a_p0pa pp_0 p0pa_0) 4 12 (by simp only [List.append_assoc, List.nil_append, List.append_nil]) rfl rfl)) rfl rfl ⟨by decide, by decide⟩ ⟨by decide, by decide⟩ (Nat.le_of_ble_eq_true rfl) rfl (fun _ => rfl) (fun u => by show putW _ (_ ++ _) (_ ++ _) = _; rw [putW_app _ _ _ _ _ rfl, putW_app _ _ _ _ _ rfl, blk_put [] (wMCo k a_p0 (a_p0in 0) (a_p0ou 0) (a_p0ru 0) (a_p0no 0) (a_p0fo 0) (a_p0rd 0) (a_p0pa 0) sv_p0 p0_0) (wRules k a_p0ru p0ru_0 ++ wCourt k a_p0no p0no_j90 ++ wPast k a_p0pa pp_0 p0pa_0) (wMCo k a_p0 (a_p0in 0) (a_p0ou 0) (a_p0ru 0) (a_p0no 0) (a_p0fo 0) (a_p0rd 0) (a_p0pa 0) sv_p0 p0_0) 0 1 (by simp only [List.append_assoc, List.nil_append, List.append_nil]) rfl rfl rfl, blk_put (wMCo k a_p0 (a_p0in 0) (a_p0ou 0) (a_p0ru 0) (a_p0no 0) (a_p0fo 0) (a_p0rd 0) (a_p0pa 0) sv_p0 p0_0) (wRules k a_p0ru p0ru_0) (wCourt k a_p0no p0no_j90 ++ wPast k a_p0pa pp_0 p0pa_0) (wRules k a_p0ru p0ru_0) 1 3 (by simp only [List.append_assoc, List.nil_append, List.append_nil]) rfl rfl rfl, blk_put (wMCo k a_p0 (a_p0in 0) (a_p0ou 0) (a_p0ru 0) (a_p0no 0) (a_p0fo 0) (a_p0rd 0) (a_p0pa 0) sv_p0 p0_0 ++ wRules k a_p0ru p0ru_0) (wCourt k a_p0no p0no_j90) (wPast k a_p0pa pp_0 p0pa_0) (wCourt k a_p0no p0no_j90) 4 12 (by simp only [List.append_assoc, List.nil_append, List.append_nil]) rfl rfl rfl]; try simp only [List.append_assoc, List.nil_append, List.append_nil]) (fun r u H locs hp hW => ?_)
                  cases hp
                  have hW : WD k A s.heap (wMCo k a_p0 (a_p0in 0) (a_p0ou 0) (a_p0ru 0) (a_p0no 0) (a_p0fo 0) (a_p0rd 0) (a_p0pa 0) sv_p0 p0_0 ++ wRules k a_p0ru p0ru_0 ++ wCourt k a_p0no p0no_j90 ++ wPast k a_p0pa pp_0 p0pa_0) H locs := hW
                  refine k_iload E hl 7 dL_isSound_147 rfl ?_
                  refine lv_icmp_ne (tgt := 163) E.hx E.hb dL_isSound_149 (by decide) (fun hc => ?_) (fun hc => ?_)
                  · have hf := oF hc hf
                    refine lv_iconst (v := (0 : Int32)) E.hx E.hb dL_isSound_163 ic_0 ?_
                    exact hret _ p0no_j90 _ _ _ _ _ _ hW (Option.some.inj hf).symm (by decide) (by decide) (by decide) dL_isSound_164
                  · have hf := oT hc hf
                    exact J_152 p0no_j90 w3_j90 w4_j90 w5_j90 v6_100 w7_j90 w8_j90 _ _ _ hW (lv_sub hl [1, 2, 3, 4, 5, 6, 0, 7, 8] rfl) hf
          refine lv_icmp_ne (tgt := 89) E.hx E.hb dL_isSound_81 (by decide) (fun hc => ?_) (fun hc => ?_)
          · have hf := oF hc hf
            refine lv_iconst (v := (0 : Int32)) E.hx E.hb dL_isSound_89 ic_0 ?_
            exact J_90 p0no_j56 w3_j56 v4_94 v5_97 w7_j56 w8_j56 w6_j56 (0 : Int32) _ _ _ hW (lv_sub hl [2, 3, 4, 5, 1, 0, 7, 8] rfl) hf
          · have hf := oT hc hf
            refine k_iload E hl 8 dL_isSound_84 rfl ?_
            refine lv_goto (tgt := 90) E.hx E.hb dL_isSound_86 (by decide) ?_
            exact J_90 p0no_j56 w3_j56 v4_94 v5_97 w7_j56 w8_j56 w6_j56 w8_j56 _ _ _ hW (lv_sub hl [2, 3, 4, 5, 1, 0, 7, 8] rfl) hf
        refine lv_if_le (tgt := 55) E.hx E.hb dL_isSound_48 (by decide) (fun hc => ?_) (fun hc => ?_)
        · have hf := oT hc hf
          refine lv_iconst (v := (0 : Int32)) E.hx E.hb dL_isSound_55 ic_0 ?_
          exact J_56 p0no_j19 v3_93 w5_j19 w6_j19 w7_j19 r_91 w4_j19 (0 : Int32) _ _ _ hW (lv_sub hl [2, 3, 4, 0, 6, 7, 8, 1] rfl) hf
        · have hf := oF hc hf
          refine lv_iconst (v := (1 : Int32)) E.hx E.hb dL_isSound_51 ic_1 ?_
          refine lv_goto (tgt := 56) E.hx E.hb dL_isSound_52 (by decide) ?_
          exact J_56 p0no_j19 v3_93 w5_j19 w6_j19 w7_j19 r_91 w4_j19 (1 : Int32) _ _ _ hW (lv_sub hl [2, 3, 4, 0, 6, 7, 8, 1] rfl) hf
  exact L_19 n p0no_0 r_1 (0 : Int32) (0 : Int32) (0 : Int32) (0 : Int32) _ _ _ hW (lv_sub hl [5, 6, 7, 4, 3, 2, 1, 0] rfl) hf
