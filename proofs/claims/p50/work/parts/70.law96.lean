theorem tm_654 : (Jvm.Cond.methodLink "MemoryCourtLaw" (149 : Nat) ({ cls := "MemoryCourt", name := "processIn", desc := "(III)I" } : Jvm.MethodName)) ∈ lw_tbl := List.mem_of_getElem? (i := 654) (by decide +kernel)
theorem tm_655 : (Jvm.Cond.instanceMethod ({ cls := "MemoryCourt", name := "processIn", desc := "(III)I" } : Jvm.MethodName)) ∈ lw_tbl := List.mem_of_getElem? (i := 655) (by decide +kernel)
theorem tm_656 : (Jvm.Cond.selects "MemoryCourt" ({ cls := "MemoryCourt", name := "processIn", desc := "(III)I" } : Jvm.MethodName) ({ cls := "MemoryCourt", name := "processIn", desc := "(III)I" } : Jvm.MethodName)) ∈ lw_tbl := List.mem_of_getElem? (i := 656) (by decide +kernel)
theorem tm_657 : (Jvm.Cond.code ({ cls := "MemoryCourt", name := "processIn", desc := "(III)I" } : Jvm.MethodName) prog_1_method_41_code (4 : Nat) (Option.some Jvm.ClassFile.FieldType.int)) ∈ lw_tbl := List.mem_of_getElem? (i := 657) (by decide +kernel)
theorem tm_663 : (Jvm.Cond.methodLink "MemoryCourtLaw" (155 : Nat) ({ cls := "MemoryCourt", name := "bestOrder", desc := "(I)I" } : Jvm.MethodName)) ∈ lw_tbl := List.mem_of_getElem? (i := 663) (by decide +kernel)
theorem tm_664 : (Jvm.Cond.instanceMethod ({ cls := "MemoryCourt", name := "bestOrder", desc := "(I)I" } : Jvm.MethodName)) ∈ lw_tbl := List.mem_of_getElem? (i := 664) (by decide +kernel)
theorem tm_665 : (Jvm.Cond.selects "MemoryCourt" ({ cls := "MemoryCourt", name := "bestOrder", desc := "(I)I" } : Jvm.MethodName) ({ cls := "MemoryCourt", name := "bestOrder", desc := "(I)I" } : Jvm.MethodName)) ∈ lw_tbl := List.mem_of_getElem? (i := 665) (by decide +kernel)
theorem tm_666 : (Jvm.Cond.code ({ cls := "MemoryCourt", name := "bestOrder", desc := "(I)I" } : Jvm.MethodName) prog_1_method_42_code (6 : Nat) (Option.some Jvm.ClassFile.FieldType.int)) ∈ lw_tbl := List.mem_of_getElem? (i := 666) (by decide +kernel)
theorem tm_1142 : (Jvm.Cond.methodLink "MemoryCourtLaw" (145 : Nat) ({ cls := "MemoryCourtLaw", name := "isSound", desc := "(LMemoryCourt;II)Z" } : Jvm.MethodName)) ∈ lw_tbl := List.mem_of_getElem? (i := 1142) (by decide +kernel)
theorem tm_1143 : (Jvm.Cond.static ({ cls := "MemoryCourtLaw", name := "isSound", desc := "(LMemoryCourt;II)Z" } : Jvm.MethodName)) ∈ lw_tbl := List.mem_of_getElem? (i := 1143) (by decide +kernel)
theorem tm_1144 : (Jvm.Cond.code ({ cls := "MemoryCourtLaw", name := "isSound", desc := "(LMemoryCourt;II)Z" } : Jvm.MethodName) method_8_code (12 : Nat) (Option.some Jvm.ClassFile.FieldType.boolean)) ∈ lw_tbl := List.mem_of_getElem? (i := 1144) (by decide +kernel)
theorem tm_634 : (Jvm.Cond.methodLink "MemoryCourtLaw" (158 : Nat) ({ cls := "MemoryCourt", name := "undo", desc := "()I" } : Jvm.MethodName)) ∈ lw_tbl := List.mem_of_getElem? (i := 634) (by decide +kernel)
theorem tm_635 : (Jvm.Cond.instanceMethod ({ cls := "MemoryCourt", name := "undo", desc := "()I" } : Jvm.MethodName)) ∈ lw_tbl := List.mem_of_getElem? (i := 635) (by decide +kernel)
theorem tm_636 : (Jvm.Cond.selects "MemoryCourt" ({ cls := "MemoryCourt", name := "undo", desc := "()I" } : Jvm.MethodName) ({ cls := "MemoryCourt", name := "undo", desc := "()I" } : Jvm.MethodName)) ∈ lw_tbl := List.mem_of_getElem? (i := 636) (by decide +kernel)
theorem tm_637 : (Jvm.Cond.code ({ cls := "MemoryCourt", name := "undo", desc := "()I" } : Jvm.MethodName) prog_1_method_35_code (1 : Nat) (Option.some Jvm.ClassFile.FieldType.int)) ∈ lw_tbl := List.mem_of_getElem? (i := 637) (by decide +kernel)
theorem tm_643 : (Jvm.Cond.methodLink "MemoryCourtLaw" (152 : Nat) ({ cls := "MemoryCourt", name := "metIn", desc := "(II)I" } : Jvm.MethodName)) ∈ lw_tbl := List.mem_of_getElem? (i := 643) (by decide +kernel)
theorem tm_644 : (Jvm.Cond.instanceMethod ({ cls := "MemoryCourt", name := "metIn", desc := "(II)I" } : Jvm.MethodName)) ∈ lw_tbl := List.mem_of_getElem? (i := 644) (by decide +kernel)
theorem tm_645 : (Jvm.Cond.selects "MemoryCourt" ({ cls := "MemoryCourt", name := "metIn", desc := "(II)I" } : Jvm.MethodName) ({ cls := "MemoryCourt", name := "metIn", desc := "(II)I" } : Jvm.MethodName)) ∈ lw_tbl := List.mem_of_getElem? (i := 645) (by decide +kernel)
theorem tm_646 : (Jvm.Cond.code ({ cls := "MemoryCourt", name := "metIn", desc := "(II)I" } : Jvm.MethodName) prog_1_method_36_code (3 : Nat) (Option.some Jvm.ClassFile.FieldType.int)) ∈ lw_tbl := List.mem_of_getElem? (i := 646) (by decide +kernel)
theorem bp_15 : (Int8.ofInt (15)).toInt32 = (15 : Int32) := by decide
theorem vl_L_149 : VL RL 149 RX8 yX8_processIn cX8_processIn 4 (some .int) 3 := ⟨⟨tm_654, tm_655, tm_656, tm_33, tm_657⟩, by decide +kernel⟩
theorem vl_L_155 : VL RL 155 RX8 yX8_bestOrder cX8_bestOrder 6 (some .int) 1 := ⟨⟨tm_663, tm_664, tm_665, tm_33, tm_666⟩, by decide +kernel⟩
theorem sl_L_145 : SL RL 145 yL_isSound cL_isSound 12 (some .boolean) 3 := ⟨⟨tm_1142, tm_1143, tm_32, tm_1144⟩, by decide +kernel⟩
theorem vl_L_158 : VL RL 158 RX8 yX8_undo cX8_undo 1 (some .int) 0 := ⟨⟨tm_634, tm_635, tm_636, tm_33, tm_637⟩, by decide +kernel⟩
theorem vl_L_152 : VL RL 152 RX8 yX8_metIn cX8_metIn 3 (some .int) 2 := ⟨⟨tm_643, tm_644, tm_645, tm_33, tm_646⟩, by decide +kernel⟩
theorem dL_law_0 : decode cL_law 0 = .ok (.new 26, 3) := by decide +kernel
theorem dL_law_3 : decode cL_law 3 = .ok (.dup, 1) := by decide +kernel
theorem dL_law_4 : decode cL_law 4 = .ok (.invokespecial 132, 3) := by decide +kernel
theorem dL_law_7 : decode cL_law 7 = .ok (.astore_n 1, 1) := by decide +kernel
theorem dL_law_8 : decode cL_law 8 = .ok (.aload_n 0, 1) := by decide +kernel
theorem dL_law_9 : decode cL_law 9 = .ok (.bipush 6, 2) := by decide +kernel
theorem dL_law_11 : decode cL_law 11 = .ok (.iconst 4, 1) := by decide +kernel
theorem dL_law_12 : decode cL_law 12 = .ok (.bipush 64, 2) := by decide +kernel
theorem dL_law_14 : decode cL_law 14 = .ok (.invokestatic 62, 3) := by decide +kernel
theorem dL_law_17 : decode cL_law 17 = .ok (.istore_n 2, 1) := by decide +kernel
theorem dL_law_18 : decode cL_law 18 = .ok (.aload_n 0, 1) := by decide +kernel
theorem dL_law_19 : decode cL_law 19 = .ok (.bipush 7, 2) := by decide +kernel
theorem dL_law_21 : decode cL_law 21 = .ok (.iconst 1, 1) := by decide +kernel
theorem dL_law_22 : decode cL_law 22 = .ok (.bipush 8, 2) := by decide +kernel
theorem dL_law_24 : decode cL_law 24 = .ok (.invokestatic 62, 3) := by decide +kernel
theorem dL_law_27 : decode cL_law 27 = .ok (.istore_n 3, 1) := by decide +kernel
theorem dL_law_28 : decode cL_law 28 = .ok (.aload_n 1, 1) := by decide +kernel
theorem dL_law_29 : decode cL_law 29 = .ok (.aload_n 0, 1) := by decide +kernel
theorem dL_law_30 : decode cL_law 30 = .ok (.iload_n 2, 1) := by decide +kernel
theorem dL_law_31 : decode cL_law 31 = .ok (.iload_n 3, 1) := by decide +kernel
theorem dL_law_32 : decode cL_law 32 = .ok (.invokestatic 133, 3) := by decide +kernel
theorem dL_law_35 : decode cL_law 35 = .ok (.invokestatic 137, 3) := by decide +kernel
theorem dL_law_38 : decode cL_law 38 = .ok (.iload_n 3, 1) := by decide +kernel
theorem dL_law_39 : decode cL_law 39 = .ok (.if_icmp .eq 5, 3) := by decide +kernel
theorem dL_law_42 : decode cL_law 42 = .ok (.iconst 0, 1) := by decide +kernel
theorem dL_law_43 : decode cL_law 43 = .ok (.ireturn, 1) := by decide +kernel
theorem dL_law_44 : decode cL_law 44 = .ok (.aload_n 0, 1) := by decide +kernel
theorem dL_law_45 : decode cL_law 45 = .ok (.bipush 8, 2) := by decide +kernel
theorem dL_law_47 : decode cL_law 47 = .ok (.iconst 3, 1) := by decide +kernel
theorem dL_law_48 : decode cL_law 48 = .ok (.bipush 22, 2) := by decide +kernel
theorem dL_law_50 : decode cL_law 50 = .ok (.invokestatic 62, 3) := by decide +kernel
theorem dL_law_53 : decode cL_law 53 = .ok (.istore 4, 2) := by decide +kernel
theorem dL_law_55 : decode cL_law 55 = .ok (.iconst 0, 1) := by decide +kernel
theorem dL_law_56 : decode cL_law 56 = .ok (.istore 5, 2) := by decide +kernel
theorem dL_law_58 : decode cL_law 58 = .ok (.iload 5, 2) := by decide +kernel
theorem dL_law_60 : decode cL_law 60 = .ok (.iload 4, 2) := by decide +kernel
theorem dL_law_62 : decode cL_law 62 = .ok (.if_icmp .ge 34, 3) := by decide +kernel
theorem dL_law_65 : decode cL_law 65 = .ok (.aload_n 1, 1) := by decide +kernel
theorem dL_law_66 : decode cL_law 66 = .ok (.aload_n 0, 1) := by decide +kernel
theorem dL_law_67 : decode cL_law 67 = .ok (.iload 5, 2) := by decide +kernel
theorem dL_law_69 : decode cL_law 69 = .ok (.iconst 3, 1) := by decide +kernel
theorem dL_law_70 : decode cL_law 70 = .ok (.iadd, 1) := by decide +kernel
theorem dL_law_71 : decode cL_law 71 = .ok (.iload_n 2, 1) := by decide +kernel
theorem dL_law_72 : decode cL_law 72 = .ok (.iload_n 3, 1) := by decide +kernel
theorem dL_law_73 : decode cL_law 73 = .ok (.invokestatic 141, 3) := by decide +kernel
theorem dL_law_76 : decode cL_law 76 = .ok (.ifCond .lt 12, 3) := by decide +kernel
theorem dL_law_79 : decode cL_law 79 = .ok (.aload_n 1, 1) := by decide +kernel
theorem dL_law_80 : decode cL_law 80 = .ok (.iload_n 2, 1) := by decide +kernel
theorem dL_law_81 : decode cL_law 81 = .ok (.iload_n 3, 1) := by decide +kernel
theorem dL_law_82 : decode cL_law 82 = .ok (.invokestatic 145, 3) := by decide +kernel
theorem dL_law_85 : decode cL_law 85 = .ok (.ifCond .ne 5, 3) := by decide +kernel
theorem dL_law_88 : decode cL_law 88 = .ok (.iconst 0, 1) := by decide +kernel
theorem dL_law_89 : decode cL_law 89 = .ok (.ireturn, 1) := by decide +kernel
theorem dL_law_90 : decode cL_law 90 = .ok (.iinc 5 1, 3) := by decide +kernel
theorem dL_law_93 : decode cL_law 93 = .ok (.goto (-35), 3) := by decide +kernel
theorem dL_law_96 : decode cL_law 96 = .ok (.aload_n 0, 1) := by decide +kernel
theorem dL_law_97 : decode cL_law 97 = .ok (.bipush 9, 2) := by decide +kernel
theorem dL_law_99 : decode cL_law 99 = .ok (.iconst 0, 1) := by decide +kernel
theorem dL_law_100 : decode cL_law 100 = .ok (.iload_n 3, 1) := by decide +kernel
theorem dL_law_101 : decode cL_law 101 = .ok (.iconst 1, 1) := by decide +kernel
theorem dL_law_102 : decode cL_law 102 = .ok (.isub, 1) := by decide +kernel
theorem dL_law_103 : decode cL_law 103 = .ok (.invokestatic 62, 3) := by decide +kernel
theorem dL_law_106 : decode cL_law 106 = .ok (.istore 5, 2) := by decide +kernel
theorem dL_law_108 : decode cL_law 108 = .ok (.aload_n 0, 1) := by decide +kernel
theorem dL_law_109 : decode cL_law 109 = .ok (.bipush 10, 2) := by decide +kernel
theorem dL_law_111 : decode cL_law 111 = .ok (.iconst 1, 1) := by decide +kernel
theorem dL_law_112 : decode cL_law 112 = .ok (.bipush 40, 2) := by decide +kernel
theorem dL_law_114 : decode cL_law 114 = .ok (.invokestatic 62, 3) := by decide +kernel
theorem dL_law_117 : decode cL_law 117 = .ok (.istore 6, 2) := by decide +kernel
theorem dL_law_119 : decode cL_law 119 = .ok (.aload_n 1, 1) := by decide +kernel
theorem dL_law_120 : decode cL_law 120 = .ok (.iconst 2, 1) := by decide +kernel
theorem dL_law_121 : decode cL_law 121 = .ok (.invokevirtual 84, 3) := by decide +kernel
theorem dL_law_124 : decode cL_law 124 = .ok (.istore 7, 2) := by decide +kernel
theorem dL_law_126 : decode cL_law 126 = .ok (.aload_n 1, 1) := by decide +kernel
theorem dL_law_127 : decode cL_law 127 = .ok (.bipush 15, 2) := by decide +kernel
theorem dL_law_129 : decode cL_law 129 = .ok (.invokevirtual 84, 3) := by decide +kernel
theorem dL_law_132 : decode cL_law 132 = .ok (.istore 8, 2) := by decide +kernel
theorem dL_law_134 : decode cL_law 134 = .ok (.aload_n 1, 1) := by decide +kernel
theorem dL_law_135 : decode cL_law 135 = .ok (.bipush 20, 2) := by decide +kernel
theorem dL_law_137 : decode cL_law 137 = .ok (.invokevirtual 84, 3) := by decide +kernel
theorem dL_law_140 : decode cL_law 140 = .ok (.istore 9, 2) := by decide +kernel
theorem dL_law_142 : decode cL_law 142 = .ok (.aload_n 1, 1) := by decide +kernel
theorem dL_law_143 : decode cL_law 143 = .ok (.iload 5, 2) := by decide +kernel
theorem dL_law_145 : decode cL_law 145 = .ok (.iload 6, 2) := by decide +kernel
theorem dL_law_147 : decode cL_law 147 = .ok (.iconst 0, 1) := by decide +kernel
theorem dL_law_148 : decode cL_law 148 = .ok (.invokevirtual 149, 3) := by decide +kernel
theorem dL_law_151 : decode cL_law 151 = .ok (.istore 10, 2) := by decide +kernel
theorem dL_law_153 : decode cL_law 153 = .ok (.aload_n 1, 1) := by decide +kernel
theorem dL_law_154 : decode cL_law 154 = .ok (.iload 5, 2) := by decide +kernel
theorem dL_law_156 : decode cL_law 156 = .ok (.iload 6, 2) := by decide +kernel
theorem dL_law_158 : decode cL_law 158 = .ok (.iconst 1, 1) := by decide +kernel
theorem dL_law_159 : decode cL_law 159 = .ok (.invokevirtual 149, 3) := by decide +kernel
theorem dL_law_162 : decode cL_law 162 = .ok (.istore 11, 2) := by decide +kernel
theorem dL_law_164 : decode cL_law 164 = .ok (.aload_n 1, 1) := by decide +kernel
theorem dL_law_165 : decode cL_law 165 = .ok (.iload 5, 2) := by decide +kernel
theorem dL_law_167 : decode cL_law 167 = .ok (.iload 6, 2) := by decide +kernel
theorem dL_law_169 : decode cL_law 169 = .ok (.iconst 2, 1) := by decide +kernel
theorem dL_law_170 : decode cL_law 170 = .ok (.invokevirtual 149, 3) := by decide +kernel
theorem dL_law_173 : decode cL_law 173 = .ok (.istore 12, 2) := by decide +kernel
theorem dL_law_175 : decode cL_law 175 = .ok (.aload_n 1, 1) := by decide +kernel
theorem dL_law_176 : decode cL_law 176 = .ok (.bipush 13, 2) := by decide +kernel
theorem dL_law_178 : decode cL_law 178 = .ok (.invokevirtual 84, 3) := by decide +kernel
theorem dL_law_181 : decode cL_law 181 = .ok (.iconst 1, 1) := by decide +kernel
theorem dL_law_182 : decode cL_law 182 = .ok (.isub, 1) := by decide +kernel
theorem dL_law_183 : decode cL_law 183 = .ok (.istore 13, 2) := by decide +kernel
theorem dL_law_185 : decode cL_law 185 = .ok (.iload 13, 2) := by decide +kernel
theorem dL_law_187 : decode cL_law 187 = .ok (.ifCond .ge 7, 3) := by decide +kernel
theorem dL_law_190 : decode cL_law 190 = .ok (.iconst (-1), 1) := by decide +kernel
theorem dL_law_191 : decode cL_law 191 = .ok (.goto 11, 3) := by decide +kernel
theorem dL_law_194 : decode cL_law 194 = .ok (.aload_n 1, 1) := by decide +kernel
theorem dL_law_195 : decode cL_law 195 = .ok (.iload 13, 2) := by decide +kernel
theorem dL_law_197 : decode cL_law 197 = .ok (.iload 6, 2) := by decide +kernel
theorem dL_law_199 : decode cL_law 199 = .ok (.invokevirtual 152, 3) := by decide +kernel
theorem dL_law_202 : decode cL_law 202 = .ok (.istore 14, 2) := by decide +kernel
theorem dL_law_204 : decode cL_law 204 = .ok (.iload 13, 2) := by decide +kernel
theorem dL_law_206 : decode cL_law 206 = .ok (.ifCond .lt 17, 3) := by decide +kernel
theorem dL_law_209 : decode cL_law 209 = .ok (.aload_n 1, 1) := by decide +kernel
theorem dL_law_210 : decode cL_law 210 = .ok (.iload 13, 2) := by decide +kernel
theorem dL_law_212 : decode cL_law 212 = .ok (.iconst 3, 1) := by decide +kernel
theorem dL_law_213 : decode cL_law 213 = .ok (.invokevirtual 126, 3) := by decide +kernel
theorem dL_law_216 : decode cL_law 216 = .ok (.ifCond .ne 7, 3) := by decide +kernel
theorem dL_law_219 : decode cL_law 219 = .ok (.iconst 1, 1) := by decide +kernel
theorem dL_law_220 : decode cL_law 220 = .ok (.goto 4, 3) := by decide +kernel
theorem dL_law_223 : decode cL_law 223 = .ok (.iconst 0, 1) := by decide +kernel
theorem dL_law_224 : decode cL_law 224 = .ok (.istore 15, 2) := by decide +kernel
theorem dL_law_226 : decode cL_law 226 = .ok (.aload_n 1, 1) := by decide +kernel
theorem dL_law_227 : decode cL_law 227 = .ok (.iload 6, 2) := by decide +kernel
theorem dL_law_229 : decode cL_law 229 = .ok (.invokevirtual 155, 3) := by decide +kernel
theorem dL_law_232 : decode cL_law 232 = .ok (.istore 16, 2) := by decide +kernel
theorem dL_law_234 : decode cL_law 234 = .ok (.aload_n 1, 1) := by decide +kernel
theorem dL_law_235 : decode cL_law 235 = .ok (.iload 6, 2) := by decide +kernel
theorem dL_law_237 : decode cL_law 237 = .ok (.invokevirtual 105, 3) := by decide +kernel
theorem dL_law_240 : decode cL_law 240 = .ok (.istore 17, 2) := by decide +kernel
theorem dL_law_242 : decode cL_law 242 = .ok (.aload_n 1, 1) := by decide +kernel
theorem dL_law_243 : decode cL_law 243 = .ok (.bipush 15, 2) := by decide +kernel
theorem dL_law_245 : decode cL_law 245 = .ok (.invokevirtual 84, 3) := by decide +kernel
theorem dL_law_248 : decode cL_law 248 = .ok (.iload 8, 2) := by decide +kernel
theorem dL_law_250 : decode cL_law 250 = .ok (.iload 17, 2) := by decide +kernel
theorem dL_law_252 : decode cL_law 252 = .ok (.iadd, 1) := by decide +kernel
theorem dL_law_253 : decode cL_law 253 = .ok (.if_icmp .ne 61, 3) := by decide +kernel
theorem dL_law_256 : decode cL_law 256 = .ok (.aload_n 1, 1) := by decide +kernel
theorem dL_law_257 : decode cL_law 257 = .ok (.iconst 2, 1) := by decide +kernel
theorem dL_law_258 : decode cL_law 258 = .ok (.invokevirtual 84, 3) := by decide +kernel
theorem dL_law_261 : decode cL_law 261 = .ok (.iload 7, 2) := by decide +kernel
theorem dL_law_263 : decode cL_law 263 = .ok (.iload 6, 2) := by decide +kernel
theorem dL_law_265 : decode cL_law 265 = .ok (.iadd, 1) := by decide +kernel
theorem dL_law_266 : decode cL_law 266 = .ok (.if_icmp .ne 48, 3) := by decide +kernel
theorem dL_law_269 : decode cL_law 269 = .ok (.aload_n 1, 1) := by decide +kernel
theorem dL_law_270 : decode cL_law 270 = .ok (.iload 5, 2) := by decide +kernel
theorem dL_law_272 : decode cL_law 272 = .ok (.iconst 0, 1) := by decide +kernel
theorem dL_law_273 : decode cL_law 273 = .ok (.invokevirtual 123, 3) := by decide +kernel
theorem dL_law_276 : decode cL_law 276 = .ok (.iload 10, 2) := by decide +kernel
theorem dL_law_278 : decode cL_law 278 = .ok (.if_icmp .ne 36, 3) := by decide +kernel
theorem dL_law_281 : decode cL_law 281 = .ok (.aload_n 1, 1) := by decide +kernel
theorem dL_law_282 : decode cL_law 282 = .ok (.iload 5, 2) := by decide +kernel
theorem dL_law_284 : decode cL_law 284 = .ok (.iconst 1, 1) := by decide +kernel
theorem dL_law_285 : decode cL_law 285 = .ok (.invokevirtual 123, 3) := by decide +kernel
theorem dL_law_288 : decode cL_law 288 = .ok (.iload 11, 2) := by decide +kernel
theorem dL_law_290 : decode cL_law 290 = .ok (.if_icmp .ne 24, 3) := by decide +kernel
theorem dL_law_293 : decode cL_law 293 = .ok (.aload_n 1, 1) := by decide +kernel
theorem dL_law_294 : decode cL_law 294 = .ok (.iload 5, 2) := by decide +kernel
theorem dL_law_296 : decode cL_law 296 = .ok (.iconst 3, 1) := by decide +kernel
theorem dL_law_297 : decode cL_law 297 = .ok (.invokevirtual 123, 3) := by decide +kernel
theorem dL_law_300 : decode cL_law 300 = .ok (.iload 12, 2) := by decide +kernel
theorem dL_law_302 : decode cL_law 302 = .ok (.if_icmp .ne 12, 3) := by decide +kernel
theorem dL_law_305 : decode cL_law 305 = .ok (.aload_n 1, 1) := by decide +kernel
theorem dL_law_306 : decode cL_law 306 = .ok (.iload_n 2, 1) := by decide +kernel
theorem dL_law_307 : decode cL_law 307 = .ok (.iload_n 3, 1) := by decide +kernel
theorem dL_law_308 : decode cL_law 308 = .ok (.invokestatic 145, 3) := by decide +kernel
theorem dL_law_311 : decode cL_law 311 = .ok (.ifCond .ne 5, 3) := by decide +kernel
theorem dL_law_314 : decode cL_law 314 = .ok (.iconst 0, 1) := by decide +kernel
theorem dL_law_315 : decode cL_law 315 = .ok (.ireturn, 1) := by decide +kernel
theorem dL_law_316 : decode cL_law 316 = .ok (.iload 15, 2) := by decide +kernel
theorem dL_law_318 : decode cL_law 318 = .ok (.ifCond .eq 33, 3) := by decide +kernel
theorem dL_law_321 : decode cL_law 321 = .ok (.iload 14, 2) := by decide +kernel
theorem dL_law_323 : decode cL_law 323 = .ok (.iconst (-1), 1) := by decide +kernel
theorem dL_law_324 : decode cL_law 324 = .ok (.if_icmp .eq 7, 3) := by decide +kernel
theorem dL_law_327 : decode cL_law 327 = .ok (.iconst 1, 1) := by decide +kernel
theorem dL_law_328 : decode cL_law 328 = .ok (.goto 4, 3) := by decide +kernel
theorem dL_law_331 : decode cL_law 331 = .ok (.iconst 0, 1) := by decide +kernel
theorem dL_law_332 : decode cL_law 332 = .ok (.aload_n 1, 1) := by decide +kernel
theorem dL_law_333 : decode cL_law 333 = .ok (.iload 13, 2) := by decide +kernel
theorem dL_law_335 : decode cL_law 335 = .ok (.iconst 3, 1) := by decide +kernel
theorem dL_law_336 : decode cL_law 336 = .ok (.invokevirtual 126, 3) := by decide +kernel
theorem dL_law_339 : decode cL_law 339 = .ok (.iconst 1, 1) := by decide +kernel
theorem dL_law_340 : decode cL_law 340 = .ok (.if_icmp .ne 7, 3) := by decide +kernel
theorem dL_law_343 : decode cL_law 343 = .ok (.iconst 1, 1) := by decide +kernel
theorem dL_law_344 : decode cL_law 344 = .ok (.goto 4, 3) := by decide +kernel
theorem dL_law_347 : decode cL_law 347 = .ok (.iconst 0, 1) := by decide +kernel
theorem dL_law_348 : decode cL_law 348 = .ok (.if_icmp .ne 29, 3) := by decide +kernel
theorem dL_law_351 : decode cL_law 351 = .ok (.iload 14, 2) := by decide +kernel
theorem dL_law_353 : decode cL_law 353 = .ok (.iconst (-1), 1) := by decide +kernel
theorem dL_law_354 : decode cL_law 354 = .ok (.if_icmp .eq 25, 3) := by decide +kernel
theorem dL_law_357 : decode cL_law 357 = .ok (.aload_n 1, 1) := by decide +kernel
theorem dL_law_358 : decode cL_law 358 = .ok (.aload_n 1, 1) := by decide +kernel
theorem dL_law_359 : decode cL_law 359 = .ok (.iload 13, 2) := by decide +kernel
theorem dL_law_361 : decode cL_law 361 = .ok (.iconst 5, 1) := by decide +kernel
theorem dL_law_362 : decode cL_law 362 = .ok (.invokevirtual 126, 3) := by decide +kernel
theorem dL_law_365 : decode cL_law 365 = .ok (.iconst 3, 1) := by decide +kernel
theorem dL_law_366 : decode cL_law 366 = .ok (.invokevirtual 99, 3) := by decide +kernel
theorem dL_law_369 : decode cL_law 369 = .ok (.iload 7, 2) := by decide +kernel
theorem dL_law_371 : decode cL_law 371 = .ok (.iload 14, 2) := by decide +kernel
theorem dL_law_373 : decode cL_law 373 = .ok (.iadd, 1) := by decide +kernel
theorem dL_law_374 : decode cL_law 374 = .ok (.if_icmp .eq 5, 3) := by decide +kernel
theorem dL_law_377 : decode cL_law 377 = .ok (.iconst 0, 1) := by decide +kernel
theorem dL_law_378 : decode cL_law 378 = .ok (.ireturn, 1) := by decide +kernel
theorem dL_law_379 : decode cL_law 379 = .ok (.aload_n 1, 1) := by decide +kernel
theorem dL_law_380 : decode cL_law 380 = .ok (.invokevirtual 158, 3) := by decide +kernel
theorem dL_law_383 : decode cL_law 383 = .ok (.istore 18, 2) := by decide +kernel
theorem dL_law_385 : decode cL_law 385 = .ok (.aload_n 1, 1) := by decide +kernel
theorem dL_law_386 : decode cL_law 386 = .ok (.iconst 2, 1) := by decide +kernel
theorem dL_law_387 : decode cL_law 387 = .ok (.invokevirtual 84, 3) := by decide +kernel
theorem dL_law_390 : decode cL_law 390 = .ok (.iload 7, 2) := by decide +kernel
theorem dL_law_392 : decode cL_law 392 = .ok (.if_icmp .ne 28, 3) := by decide +kernel
theorem dL_law_395 : decode cL_law 395 = .ok (.aload_n 1, 1) := by decide +kernel
theorem dL_law_396 : decode cL_law 396 = .ok (.bipush 15, 2) := by decide +kernel
theorem dL_law_398 : decode cL_law 398 = .ok (.invokevirtual 84, 3) := by decide +kernel
theorem dL_law_401 : decode cL_law 401 = .ok (.iload 8, 2) := by decide +kernel
theorem dL_law_403 : decode cL_law 403 = .ok (.if_icmp .ne 17, 3) := by decide +kernel
theorem dL_law_406 : decode cL_law 406 = .ok (.iload 9, 2) := by decide +kernel
theorem dL_law_408 : decode cL_law 408 = .ok (.bipush 8, 2) := by decide +kernel
theorem dL_law_410 : decode cL_law 410 = .ok (.if_icmp .ge 12, 3) := by decide +kernel
theorem dL_law_413 : decode cL_law 413 = .ok (.iload 18, 2) := by decide +kernel
theorem dL_law_415 : decode cL_law 415 = .ok (.iload 9, 2) := by decide +kernel
theorem dL_law_417 : decode cL_law 417 = .ok (.if_icmp .eq 5, 3) := by decide +kernel
theorem dL_law_420 : decode cL_law 420 = .ok (.iconst 0, 1) := by decide +kernel
theorem dL_law_421 : decode cL_law 421 = .ok (.ireturn, 1) := by decide +kernel
theorem dL_law_422 : decode cL_law 422 = .ok (.aload_n 1, 1) := by decide +kernel
theorem dL_law_423 : decode cL_law 423 = .ok (.iload 16, 2) := by decide +kernel
theorem dL_law_425 : decode cL_law 425 = .ok (.invokevirtual 96, 3) := by decide +kernel
theorem dL_law_428 : decode cL_law 428 = .ok (.istore 19, 2) := by decide +kernel
theorem dL_law_430 : decode cL_law 430 = .ok (.aload_n 1, 1) := by decide +kernel
theorem dL_law_431 : decode cL_law 431 = .ok (.iload 6, 2) := by decide +kernel
theorem dL_law_433 : decode cL_law 433 = .ok (.invokevirtual 105, 3) := by decide +kernel
theorem dL_law_436 : decode cL_law 436 = .ok (.iload 17, 2) := by decide +kernel
theorem dL_law_438 : decode cL_law 438 = .ok (.if_icmp .lt 8, 3) := by decide +kernel
theorem dL_law_441 : decode cL_law 441 = .ok (.iload 19, 2) := by decide +kernel
theorem dL_law_443 : decode cL_law 443 = .ok (.ifCond .ge 5, 3) := by decide +kernel
theorem dL_law_446 : decode cL_law 446 = .ok (.iconst 0, 1) := by decide +kernel
theorem dL_law_447 : decode cL_law 447 = .ok (.ireturn, 1) := by decide +kernel
theorem dL_law_448 : decode cL_law 448 = .ok (.aload_n 1, 1) := by decide +kernel
theorem dL_law_449 : decode cL_law 449 = .ok (.invokevirtual 161, 3) := by decide +kernel
theorem dL_law_452 : decode cL_law 452 = .ok (.istore 20, 2) := by decide +kernel
theorem dL_law_454 : decode cL_law 454 = .ok (.aload_n 1, 1) := by decide +kernel
theorem dL_law_455 : decode cL_law 455 = .ok (.iconst 3, 1) := by decide +kernel
theorem dL_law_456 : decode cL_law 456 = .ok (.invokevirtual 105, 3) := by decide +kernel
theorem dL_law_459 : decode cL_law 459 = .ok (.ifCond .lt 34, 3) := by decide +kernel
theorem dL_law_462 : decode cL_law 462 = .ok (.aload_n 1, 1) := by decide +kernel
theorem dL_law_463 : decode cL_law 463 = .ok (.invokevirtual 164, 3) := by decide +kernel
theorem dL_law_466 : decode cL_law 466 = .ok (.iload 20, 2) := by decide +kernel
theorem dL_law_468 : decode cL_law 468 = .ok (.if_icmp .ne 25, 3) := by decide +kernel
theorem dL_law_471 : decode cL_law 471 = .ok (.aload_n 1, 1) := by decide +kernel
theorem dL_law_472 : decode cL_law 472 = .ok (.bipush 20, 2) := by decide +kernel
theorem dL_law_474 : decode cL_law 474 = .ok (.invokevirtual 84, 3) := by decide +kernel
theorem dL_law_477 : decode cL_law 477 = .ok (.ifCond .ne 16, 3) := by decide +kernel
theorem dL_law_480 : decode cL_law 480 = .ok (.aload_n 1, 1) := by decide +kernel
theorem dL_law_481 : decode cL_law 481 = .ok (.iload_n 2, 1) := by decide +kernel
theorem dL_law_482 : decode cL_law 482 = .ok (.iload_n 3, 1) := by decide +kernel
theorem dL_law_483 : decode cL_law 483 = .ok (.invokestatic 145, 3) := by decide +kernel
theorem dL_law_486 : decode cL_law 486 = .ok (.ifCond .eq 7, 3) := by decide +kernel
theorem dL_law_489 : decode cL_law 489 = .ok (.iconst 1, 1) := by decide +kernel
theorem dL_law_490 : decode cL_law 490 = .ok (.goto 4, 3) := by decide +kernel
theorem dL_law_493 : decode cL_law 493 = .ok (.iconst 0, 1) := by decide +kernel
theorem dL_law_494 : decode cL_law 494 = .ok (.ireturn, 1) := by decide +kernel
def j_L_law_422 (n : Nat) (L_s : Nat) (xs_s : Nat → Int32) (sv_p0 : Value) (p0_0 : OS) (p0ru_0 : OS) (v2_0 : Int32) (v3_0 : Int32) (p0no_j422 : OS) (p0fo_j422 : OS) (p0pa_j422 : PS) (w6_j422 : Int32) (w16_j422 : Int32) (w17_j422 : Int32) : Option (OS × OS × PS) :=
  bnd4 (f_X8_setOrder n sv_p0 p0_0 p0no_j422 p0pa_j422 w16_j422) (fun (p0no_42 : OS) (p0pa_43 : PS) (r_44 : Int32) (cd_45 : Nat) =>
  if cd_45 = 0 then (
  bnd4 (f_X8_run n sv_p0 p0_0 p0ru_0 p0no_42 p0pa_43 w6_j422) (fun (p0no_47 : OS) (p0pa_48 : PS) (r_49 : Int32) (cd_50 : Nat) =>
  if cd_50 = 0 then (
  if r_49 < w17_j422 then (
  none) else (
  if 0 ≤ r_44 then (
  some (p0no_47, p0fo_j422, p0pa_48)) else (
  none))) else (
  none))) else (
  none))
def j_L_law_379 (n : Nat) (L_s : Nat) (xs_s : Nat → Int32) (sv_p0 : Value) (p0_0 : OS) (p0ru_0 : OS) (v2_0 : Int32) (v3_0 : Int32) (p0no_j379 : OS) (p0fo_j379 : OS) (p0pa_j379 : PS) (w6_j379 : Int32) (w7_j379 : Int32) (w8_j379 : Int32) (w9_j379 : Int32) (w16_j379 : Int32) (w17_j379 : Int32) : Option (OS × OS × PS) :=
  bnd4 (f_X8_undo n sv_p0 p0_0 p0no_j379 p0pa_j379) (fun (p0no_35 : OS) (p0pa_36 : PS) (r_37 : Int32) (cd_38 : Nat) =>
  if cd_38 = 0 then (
  bnd (f_X8_count n sv_p0 p0_0 p0ru_0 p0no_35 p0pa_36 (2 : Int32)) (fun (r_40 : Int32) =>
  if r_40 = w7_j379 then (
  bnd (f_X8_count n sv_p0 p0_0 p0ru_0 p0no_35 p0pa_36 (15 : Int32)) (fun (r_41 : Int32) =>
  if r_41 = w8_j379 then (
  if (8 : Int32) ≤ w9_j379 then (
  j_L_law_422 n L_s xs_s sv_p0 p0_0 p0ru_0 v2_0 v3_0 p0no_35 p0fo_j379 p0pa_36 w6_j379 w16_j379 w17_j379) else (
  if r_37 = w9_j379 then (
  j_L_law_422 n L_s xs_s sv_p0 p0_0 p0ru_0 v2_0 v3_0 p0no_35 p0fo_j379 p0pa_36 w6_j379 w16_j379 w17_j379) else (
  none))) else (
  none))) else (
  none))) else (
  none))
def j_L_law_351 (n : Nat) (L_s : Nat) (xs_s : Nat → Int32) (sv_p0 : Value) (p0_0 : OS) (p0ru_0 : OS) (v2_0 : Int32) (v3_0 : Int32) (p0no_j351 : OS) (p0fo_j351 : OS) (p0pa_j351 : PS) (w6_j351 : Int32) (w7_j351 : Int32) (w8_j351 : Int32) (w9_j351 : Int32) (w13_j351 : Int32) (w14_j351 : Int32) (w16_j351 : Int32) (w17_j351 : Int32) : Option (OS × OS × PS) :=
  if w14_j351 = (-1 : Int32) then (
  j_L_law_379 n L_s xs_s sv_p0 p0_0 p0ru_0 v2_0 v3_0 p0no_j351 p0fo_j351 p0pa_j351 w6_j351 w7_j351 w8_j351 w9_j351 w16_j351 w17_j351) else (
  bnd2 (f_X8_claim n sv_p0 p0_0 p0no_j351 w13_j351 (5 : Int32)) (fun (r_52 : Int32) (cd_53 : Nat) =>
  if cd_53 = 0 then (
  bnd2 (f_X8_loan n sv_p0 p0_0 p0no_j351 r_52 (3 : Int32)) (fun (r_54 : Int32) (cd_55 : Nat) =>
  if cd_55 = 0 then (
  if r_54 = (w7_j351 + w14_j351) then (
  j_L_law_379 n L_s xs_s sv_p0 p0_0 p0ru_0 v2_0 v3_0 p0no_j351 p0fo_j351 p0pa_j351 w6_j351 w7_j351 w8_j351 w9_j351 w16_j351 w17_j351) else (
  none)) else (
  none))) else (
  none)))
def j_L_law_332 (n : Nat) (L_s : Nat) (xs_s : Nat → Int32) (sv_p0 : Value) (p0_0 : OS) (p0ru_0 : OS) (v2_0 : Int32) (v3_0 : Int32) (p0no_j332 : OS) (p0fo_j332 : OS) (p0pa_j332 : PS) (w6_j332 : Int32) (w7_j332 : Int32) (w8_j332 : Int32) (w9_j332 : Int32) (w13_j332 : Int32) (w14_j332 : Int32) (w16_j332 : Int32) (w17_j332 : Int32) (s0_j332 : Int32) : Option (OS × OS × PS) :=
  bnd2 (f_X8_claim n sv_p0 p0_0 p0no_j332 w13_j332 (3 : Int32)) (fun (r_56 : Int32) (cd_57 : Nat) =>
  if cd_57 = 0 then (
  if r_56 = (1 : Int32) then (
  if s0_j332 = (1 : Int32) then (
  j_L_law_351 n L_s xs_s sv_p0 p0_0 p0ru_0 v2_0 v3_0 p0no_j332 p0fo_j332 p0pa_j332 w6_j332 w7_j332 w8_j332 w9_j332 w13_j332 w14_j332 w16_j332 w17_j332) else (
  none)) else (
  if s0_j332 = (0 : Int32) then (
  j_L_law_351 n L_s xs_s sv_p0 p0_0 p0ru_0 v2_0 v3_0 p0no_j332 p0fo_j332 p0pa_j332 w6_j332 w7_j332 w8_j332 w9_j332 w13_j332 w14_j332 w16_j332 w17_j332) else (
  none))) else (
  none))
def j_L_law_224 (n : Nat) (L_s : Nat) (xs_s : Nat → Int32) (sv_p0 : Value) (p0_0 : OS) (p0ru_0 : OS) (v2_0 : Int32) (v3_0 : Int32) (p0no_j224 : OS) (p0fo_j224 : OS) (p0pa_j224 : PS) (w5_j224 : Int32) (w6_j224 : Int32) (w7_j224 : Int32) (w8_j224 : Int32) (w9_j224 : Int32) (w10_j224 : Int32) (w11_j224 : Int32) (w12_j224 : Int32) (w13_j224 : Int32) (w14_j224 : Int32) (s0_j224 : Int32) : Option (OS × OS × PS) :=
  bnd3 (f_X8_bestOrder n sv_p0 p0_0 p0ru_0 p0no_j224 p0fo_j224 w6_j224) (fun (p0fo_17 : OS) (r_18 : Int32) (cd_19 : Nat) =>
  if cd_19 = 0 then (
  bnd4 (f_X8_run n sv_p0 p0_0 p0ru_0 p0no_j224 p0pa_j224 w6_j224) (fun (p0no_20 : OS) (p0pa_21 : PS) (r_22 : Int32) (cd_23 : Nat) =>
  if cd_23 = 0 then (
  bnd (f_X8_count n sv_p0 p0_0 p0ru_0 p0no_20 p0pa_21 (15 : Int32)) (fun (r_25 : Int32) =>
  if r_25 = (w8_j224 + r_22) then (
  bnd (f_X8_count n sv_p0 p0_0 p0ru_0 p0no_20 p0pa_21 (2 : Int32)) (fun (r_26 : Int32) =>
  if r_26 = (w7_j224 + w6_j224) then (
  bnd2 (f_X8_process n sv_p0 p0_0 p0ru_0 p0no_20 w5_j224 (0 : Int32)) (fun (r_27 : Int32) (cd_28 : Nat) =>
  if cd_28 = 0 then (
  if r_27 = w10_j224 then (
  bnd2 (f_X8_process n sv_p0 p0_0 p0ru_0 p0no_20 w5_j224 (1 : Int32)) (fun (r_29 : Int32) (cd_30 : Nat) =>
  if cd_30 = 0 then (
  if r_29 = w11_j224 then (
  bnd2 (f_X8_process n sv_p0 p0_0 p0ru_0 p0no_20 w5_j224 (3 : Int32)) (fun (r_31 : Int32) (cd_32 : Nat) =>
  if cd_32 = 0 then (
  if r_31 = w12_j224 then (
  bnd2 (f_L_isSound n sv_p0 p0_0 p0ru_0 p0no_20 p0pa_21 v2_0 v3_0) (fun (p0no_33 : OS) (r_34 : Int32) =>
  if r_34 = 0 then (
  none) else (
  if s0_j224 = 0 then (
  j_L_law_351 n L_s xs_s sv_p0 p0_0 p0ru_0 v2_0 v3_0 p0no_33 p0fo_17 p0pa_21 w6_j224 w7_j224 w8_j224 w9_j224 w13_j224 w14_j224 r_18 r_22) else (
  if w14_j224 = (-1 : Int32) then (
  j_L_law_332 n L_s xs_s sv_p0 p0_0 p0ru_0 v2_0 v3_0 p0no_33 p0fo_17 p0pa_21 w6_j224 w7_j224 w8_j224 w9_j224 w13_j224 w14_j224 r_18 r_22 (0 : Int32)) else (
  j_L_law_332 n L_s xs_s sv_p0 p0_0 p0ru_0 v2_0 v3_0 p0no_33 p0fo_17 p0pa_21 w6_j224 w7_j224 w8_j224 w9_j224 w13_j224 w14_j224 r_18 r_22 (1 : Int32)))))) else (
  none)) else (
  none))) else (
  none)) else (
  none))) else (
  none)) else (
  none))) else (
  none))) else (
  none))) else (
  none))) else (
  none))
def j_L_law_202 (n : Nat) (L_s : Nat) (xs_s : Nat → Int32) (sv_p0 : Value) (p0_0 : OS) (p0ru_0 : OS) (v2_0 : Int32) (v3_0 : Int32) (p0no_j202 : OS) (p0fo_j202 : OS) (p0pa_j202 : PS) (w5_j202 : Int32) (w6_j202 : Int32) (w7_j202 : Int32) (w8_j202 : Int32) (w9_j202 : Int32) (w10_j202 : Int32) (w11_j202 : Int32) (w12_j202 : Int32) (w13_j202 : Int32) (s0_j202 : Int32) : Option (OS × OS × PS) :=
  if w13_j202 < 0 then (
  j_L_law_224 n L_s xs_s sv_p0 p0_0 p0ru_0 v2_0 v3_0 p0no_j202 p0fo_j202 p0pa_j202 w5_j202 w6_j202 w7_j202 w8_j202 w9_j202 w10_j202 w11_j202 w12_j202 w13_j202 s0_j202 (0 : Int32)) else (
  bnd2 (f_X8_claim n sv_p0 p0_0 p0no_j202 w13_j202 (3 : Int32)) (fun (r_58 : Int32) (cd_59 : Nat) =>
  if cd_59 = 0 then (
  if r_58 = 0 then (
  j_L_law_224 n L_s xs_s sv_p0 p0_0 p0ru_0 v2_0 v3_0 p0no_j202 p0fo_j202 p0pa_j202 w5_j202 w6_j202 w7_j202 w8_j202 w9_j202 w10_j202 w11_j202 w12_j202 w13_j202 s0_j202 (1 : Int32)) else (
  j_L_law_224 n L_s xs_s sv_p0 p0_0 p0ru_0 v2_0 v3_0 p0no_j202 p0fo_j202 p0pa_j202 w5_j202 w6_j202 w7_j202 w8_j202 w9_j202 w10_j202 w11_j202 w12_j202 w13_j202 s0_j202 (0 : Int32))) else (
  none)))
def f_L_law (n : Nat) (L_s : Nat) (xs_s : Nat → Int32) (sv_p0 : Value) (p0_0 : OS) (p0ru_0 : OS) (p0no_0 : OS) (p0fo_0 : OS) (p0pa_0 : PS) (v2_0 : Int32) (v3_0 : Int32) : Option (OS × OS × PS) :=
  bnd (f_L_draw n L_s xs_s (9 : Int32) (0 : Int32) (v3_0 - (1 : Int32))) (fun (r_1 : Int32) =>
  bnd (f_L_draw n L_s xs_s (10 : Int32) (1 : Int32) (40 : Int32)) (fun (r_2 : Int32) =>
  bnd (f_X8_count n sv_p0 p0_0 p0ru_0 p0no_0 p0pa_0 (2 : Int32)) (fun (r_3 : Int32) =>
  bnd (f_X8_count n sv_p0 p0_0 p0ru_0 p0no_0 p0pa_0 (15 : Int32)) (fun (r_4 : Int32) =>
  bnd (f_X8_count n sv_p0 p0_0 p0ru_0 p0no_0 p0pa_0 (20 : Int32)) (fun (r_5 : Int32) =>
  bnd3 (f_X8_processIn n sv_p0 p0_0 p0ru_0 p0no_0 p0fo_0 r_1 r_2 (0 : Int32)) (fun (p0fo_6 : OS) (r_7 : Int32) (cd_8 : Nat) =>
  if cd_8 = 0 then (
  bnd3 (f_X8_processIn n sv_p0 p0_0 p0ru_0 p0no_0 p0fo_6 r_1 r_2 (1 : Int32)) (fun (p0fo_9 : OS) (r_10 : Int32) (cd_11 : Nat) =>
  if cd_11 = 0 then (
  bnd3 (f_X8_processIn n sv_p0 p0_0 p0ru_0 p0no_0 p0fo_9 r_1 r_2 (2 : Int32)) (fun (p0fo_12 : OS) (r_13 : Int32) (cd_14 : Nat) =>
  if cd_14 = 0 then (
  bnd (f_X8_count n sv_p0 p0_0 p0ru_0 p0no_0 p0pa_0 (13 : Int32)) (fun (r_15 : Int32) =>
  Let (r_15 - (1 : Int32)) (fun v13_16 : Int32 =>
  if 0 ≤ v13_16 then (
  bnd3 (f_X8_metIn n sv_p0 p0_0 p0ru_0 p0no_0 p0fo_12 v13_16 r_2) (fun (p0fo_60 : OS) (r_61 : Int32) (cd_62 : Nat) =>
  if cd_62 = 0 then (
  j_L_law_202 n L_s xs_s sv_p0 p0_0 p0ru_0 v2_0 v3_0 p0no_0 p0fo_60 p0pa_0 r_1 r_2 r_3 r_4 r_5 r_7 r_10 r_13 v13_16 r_61) else (
  none))) else (
  j_L_law_202 n L_s xs_s sv_p0 p0_0 p0ru_0 v2_0 v3_0 p0no_0 p0fo_12 p0pa_0 r_1 r_2 r_3 r_4 r_5 r_7 r_10 r_13 v13_16 (-1 : Int32))))) else (
  none))) else (
  none))) else (
  none)))))))
set_option maxHeartbeats 8000000 in
set_option maxRecDepth 100000 in
theorem w_L_law (n : Nat) (l : Launch) (k : KT) (b_s : Nat) (a_p0 : Nat → Nat) (a_p0in : Nat → Nat) (a_p0ou : Nat → Nat) (a_p0ru : Nat → Nat) (a_p0no : Nat → Nat) (a_p0fo : Nat → Nat) (a_p0rd : Nat → Nat) (a_p0pa : Nat → Nat) (pp_0 : Nat → Nat → Nat) (L_s : Nat) (xs_s : Nat → Int32) (sv_p0 : Value) (p0_0 : OS) (p0ru_0 : OS) (p0no_0 : OS) (p0fo_0 : OS) (p0pa_0 : PS) (v2_0 : Int32) (v3_0 : Int32) (res : (OS × OS × PS)) (hf : f_L_law n L_s xs_s sv_p0 p0_0 p0ru_0 p0no_0 p0fo_0 p0pa_0 v2_0 v3_0 = some res) (hS : SXH k b_s L_s xs_s) {p : Program} {e : Env} {s : State} {m : MethodId} {args : Array Value} {below : List Frame} {meth : Method} {c : Code} {A : Nat → Prop} {H : Heap} {locs : List Loc} {ls : Array Slot} {Q : State → Prop} (E : E0 p s m c cL_law 21 RL k A) (hW : WD k A s.heap ((wMCo k a_p0 (a_p0in 0) (a_p0ou 0) (a_p0ru 0) (a_p0no 0) (a_p0fo 0) (a_p0rd 0) (a_p0pa 0) sv_p0 p0_0 ++ wRules k a_p0ru p0ru_0 ++ wCourt k a_p0no p0no_0 ++ wCourt k a_p0fo p0fo_0 ++ wPast k a_p0pa pp_0 p0pa_0) ++ poolW k pp_0 p0pa_0.2) H locs) (hA : ∀ q : Nat, s.heap.size ≤ q → A q) (hl : lv_has ls 21 [(0, .ref b_s), (1, .ref (a_p0 0)), (2, .int v2_0), (3, .int v3_0)]) (hgo : ∀ (pp : Nat → Nat → Nat) (H : Heap) (locs : List Loc) (ls : Array Slot) (hW : WD k A s.heap ((wMCo k a_p0 (a_p0in 0) (a_p0ou 0) (a_p0ru 0) (a_p0no 0) (a_p0fo 0) (a_p0rd 0) (a_p0pa 0) sv_p0 p0_0 ++ wRules k a_p0ru p0ru_0 ++ wCourt k a_p0no res.1 ++ wCourt k a_p0fo res.2.1 ++ wPast k a_p0pa pp res.2.2) ++ poolW k pp res.2.2.2) H locs) (hl : lv_has ls 21 [(1, .ref (a_p0 0)), (2, .int v2_0), (3, .int v3_0)]), W p l e room_1 s m args below meth c H locs 639 156000 Q (F0 m 448 ls [])) : W p l e room_1 s m args below meth c H locs 600 150000 Q (F0 m 96 ls []) := by
  obtain ⟨hX, hbl, hbA⟩ := hS.2 _ _ _ E.sf
  unfold f_L_law at hf
  refine k_aload_n E hl 0 dL_law_96 rfl ?_
  refine lv_bipush (v := (9 : Int32)) E.hx E.hb dL_law_97 bp_9 ?_
  refine lv_iconst (v := (0 : Int32)) E.hx E.hb dL_law_99 ic_0 ?_
  refine k_iload_n E hl 3 dL_law_100 rfl ?_
  refine lv_iconst (v := (1 : Int32)) E.hx E.hb dL_law_101 ic_1 ?_
  refine lv_isub E.hx E.hb dL_law_102 ?_
  obtain ⟨r_1, hg, hf⟩ := ob hf
  refine k_callSi (As := [.ref b_s, .int (9 : Int32), .int (0 : Int32), .int (v3_0 - (1 : Int32))]) (rest := []) (ws2 := fun u => (wMCo k a_p0 (a_p0in 0) (a_p0ou 0) (a_p0ru 0) (a_p0no 0) (a_p0fo 0) (a_p0rd 0) (a_p0pa 0) sv_p0 p0_0 ++ wRules k a_p0ru p0ru_0 ++ wCourt k a_p0no p0no_0 ++ wCourt k a_p0fo p0fo_0 ++ wPast k a_p0pa pp_0 p0pa_0) ++ poolW k pp_0 p0pa_0.2) (c_L_draw n l k b_s L_s xs_s (9 : Int32) (0 : Int32) (v3_0 - (1 : Int32)) r_1 hg hS) E sl_L_62 dL_law_103 rfl [] hW hA hl rfl rfl ⟨by decide, by decide⟩ ⟨by decide, by decide⟩ (Nat.le_of_ble_eq_true rfl) rfl (fun _ => rfl) (fun _ => rfl) (fun r u H locs hp hW => ?_)
  cases hp
  have hW : WD k A s.heap ((wMCo k a_p0 (a_p0in 0) (a_p0ou 0) (a_p0ru 0) (a_p0no 0) (a_p0fo 0) (a_p0rd 0) (a_p0pa 0) sv_p0 p0_0 ++ wRules k a_p0ru p0ru_0 ++ wCourt k a_p0no p0no_0 ++ wCourt k a_p0fo p0fo_0 ++ wPast k a_p0pa pp_0 p0pa_0) ++ poolW k pp_0 p0pa_0.2) H locs := hW
  refine k_istore (lv' := [(5, .int r_1), (0, .ref b_s), (1, .ref (a_p0 0)), (2, .int v2_0), (3, .int v3_0)]) E rfl hl dL_law_106 (by decide) rfl (fun ls hl => ?_)
  refine k_aload_n E hl 1 dL_law_108 rfl ?_
  refine lv_bipush (v := (10 : Int32)) E.hx E.hb dL_law_109 bp_10 ?_
  refine lv_iconst (v := (1 : Int32)) E.hx E.hb dL_law_111 ic_1 ?_
  refine lv_bipush (v := (40 : Int32)) E.hx E.hb dL_law_112 bp_40 ?_
  obtain ⟨r_2, hg, hf⟩ := ob hf
  refine k_callSi (As := [.ref b_s, .int (10 : Int32), .int (1 : Int32), .int (40 : Int32)]) (rest := []) (ws2 := fun u => (wMCo k a_p0 (a_p0in 0) (a_p0ou 0) (a_p0ru 0) (a_p0no 0) (a_p0fo 0) (a_p0rd 0) (a_p0pa 0) sv_p0 p0_0 ++ wRules k a_p0ru p0ru_0 ++ wCourt k a_p0no p0no_0 ++ wCourt k a_p0fo p0fo_0 ++ wPast k a_p0pa pp_0 p0pa_0) ++ poolW k pp_0 p0pa_0.2) (c_L_draw n l k b_s L_s xs_s (10 : Int32) (1 : Int32) (40 : Int32) r_2 hg hS) E sl_L_62 dL_law_114 rfl [] hW hA hl rfl rfl ⟨by decide, by decide⟩ ⟨by decide, by decide⟩ (Nat.le_of_ble_eq_true rfl) rfl (fun _ => rfl) (fun _ => rfl) (fun r u H locs hp hW => ?_)
  cases hp
  have hW : WD k A s.heap ((wMCo k a_p0 (a_p0in 0) (a_p0ou 0) (a_p0ru 0) (a_p0no 0) (a_p0fo 0) (a_p0rd 0) (a_p0pa 0) sv_p0 p0_0 ++ wRules k a_p0ru p0ru_0 ++ wCourt k a_p0no p0no_0 ++ wCourt k a_p0fo p0fo_0 ++ wPast k a_p0pa pp_0 p0pa_0) ++ poolW k pp_0 p0pa_0.2) H locs := hW
  refine k_istore (lv' := [(6, .int r_2), (5, .int r_1), (0, .ref b_s), (1, .ref (a_p0 0)), (2, .int v2_0), (3, .int v3_0)]) E rfl hl dL_law_117 (by decide) rfl (fun ls hl => ?_)
  refine k_aload_n E hl 3 dL_law_119 rfl ?_
  refine lv_iconst (v := (2 : Int32)) E.hx E.hb dL_law_120 ic_2 ?_
  obtain ⟨r_3, hg, hf⟩ := ob hf
  refine k_callVi (As := [.int (2 : Int32)]) (rest := []) (ws2 := fun u => (wMCo k a_p0 (a_p0in 0) (a_p0ou 0) (a_p0ru 0) (a_p0no 0) (a_p0fo 0) (a_p0rd 0) (a_p0pa 0) sv_p0 p0_0 ++ wRules k a_p0ru p0ru_0 ++ wCourt k a_p0no p0no_0 ++ wCourt k a_p0fo p0fo_0 ++ wPast k a_p0pa pp_0 p0pa_0) ++ poolW k pp_0 p0pa_0.2) (c_X8_count n l k a_p0 a_p0in a_p0ou a_p0ru a_p0no a_p0fo a_p0rd a_p0pa pp_0 sv_p0 p0_0 p0ru_0 p0no_0 p0pa_0 (2 : Int32) r_3 hg) E vl_L_84 dL_law_121 rfl (List.range' 0 1 ++ List.range' 1 3 ++ List.range' 4 12 ++ List.range' 28 2) 8 0 hW hA hl rfl (by simp only [List.map_append]; exact app2 (app2 (app2 (blk_map [] (wMCo k a_p0 (a_p0in 0) (a_p0ou 0) (a_p0ru 0) (a_p0no 0) (a_p0fo 0) (a_p0rd 0) (a_p0pa 0) sv_p0 p0_0) (wRules k a_p0ru p0ru_0 ++ wCourt k a_p0no p0no_0 ++ wCourt k a_p0fo p0fo_0 ++ wPast k a_p0pa pp_0 p0pa_0 ++ poolW k pp_0 p0pa_0.2) 0 1 (by simp only [List.append_assoc, List.nil_append, List.append_nil]) rfl rfl) (blk_map (wMCo k a_p0 (a_p0in 0) (a_p0ou 0) (a_p0ru 0) (a_p0no 0) (a_p0fo 0) (a_p0rd 0) (a_p0pa 0) sv_p0 p0_0) (wRules k a_p0ru p0ru_0) (wCourt k a_p0no p0no_0 ++ wCourt k a_p0fo p0fo_0 ++ wPast k a_p0pa pp_0 p0pa_0 ++ poolW k pp_0 p0pa_0.2) 1 3 (by simp only [List.append_assoc, List.nil_append, List.append_nil]) rfl rfl)) (blk_map (wMCo k a_p0 (a_p0in 0) (a_p0ou 0) (a_p0ru 0) (a_p0no 0) (a_p0fo 0) (a_p0rd 0) (a_p0pa 0) sv_p0 p0_0 ++ wRules k a_p0ru p0ru_0) (wCourt k a_p0no p0no_0) (wCourt k a_p0fo p0fo_0 ++ wPast k a_p0pa pp_0 p0pa_0 ++ poolW k pp_0 p0pa_0.2) 4 12 (by simp only [List.append_assoc, List.nil_append, List.append_nil]) rfl rfl)) (blk_map (wMCo k a_p0 (a_p0in 0) (a_p0ou 0) (a_p0ru 0) (a_p0no 0) (a_p0fo 0) (a_p0rd 0) (a_p0pa 0) sv_p0 p0_0 ++ wRules k a_p0ru p0ru_0 ++ wCourt k a_p0no p0no_0 ++ wCourt k a_p0fo p0fo_0) (wPast k a_p0pa pp_0 p0pa_0) (poolW k pp_0 p0pa_0.2) 28 2 (by simp only [List.append_assoc, List.nil_append, List.append_nil]) rfl rfl)) rfl rfl ⟨by decide, by decide⟩ ⟨by decide, by decide⟩ (Nat.le_of_ble_eq_true rfl) rfl (fun _ => rfl) (fun u => by show putW _ (_ ++ _) (_ ++ _) = _; rw [putW_app _ _ _ _ _ rfl, putW_app _ _ _ _ _ rfl, putW_app _ _ _ _ _ rfl, blk_put [] (wMCo k a_p0 (a_p0in 0) (a_p0ou 0) (a_p0ru 0) (a_p0no 0) (a_p0fo 0) (a_p0rd 0) (a_p0pa 0) sv_p0 p0_0) (wRules k a_p0ru p0ru_0 ++ wCourt k a_p0no p0no_0 ++ wCourt k a_p0fo p0fo_0 ++ wPast k a_p0pa pp_0 p0pa_0 ++ poolW k pp_0 p0pa_0.2) (wMCo k a_p0 (a_p0in 0) (a_p0ou 0) (a_p0ru 0) (a_p0no 0) (a_p0fo 0) (a_p0rd 0) (a_p0pa 0) sv_p0 p0_0) 0 1 (by simp only [List.append_assoc, List.nil_append, List.append_nil]) rfl rfl rfl, blk_put (wMCo k a_p0 (a_p0in 0) (a_p0ou 0) (a_p0ru 0) (a_p0no 0) (a_p0fo 0) (a_p0rd 0) (a_p0pa 0) sv_p0 p0_0) (wRules k a_p0ru p0ru_0) (wCourt k a_p0no p0no_0 ++ wCourt k a_p0fo p0fo_0 ++ wPast k a_p0pa pp_0 p0pa_0 ++ poolW k pp_0 p0pa_0.2) (wRules k a_p0ru p0ru_0) 1 3 (by simp only [List.append_assoc, List.nil_append, List.append_nil]) rfl rfl rfl, blk_put (wMCo k a_p0 (a_p0in 0) (a_p0ou 0) (a_p0ru 0) (a_p0no 0) (a_p0fo 0) (a_p0rd 0) (a_p0pa 0) sv_p0 p0_0 ++ wRules k a_p0ru p0ru_0) (wCourt k a_p0no p0no_0) (wCourt k a_p0fo p0fo_0 ++ wPast k a_p0pa pp_0 p0pa_0 ++ poolW k pp_0 p0pa_0.2) (wCourt k a_p0no p0no_0) 4 12 (by simp only [List.append_assoc, List.nil_append, List.append_nil]) rfl rfl rfl, blk_put (wMCo k a_p0 (a_p0in 0) (a_p0ou 0) (a_p0ru 0) (a_p0no 0) (a_p0fo 0) (a_p0rd 0) (a_p0pa 0) sv_p0 p0_0 ++ wRules k a_p0ru p0ru_0 ++ wCourt k a_p0no p0no_0 ++ wCourt k a_p0fo p0fo_0) (wPast k a_p0pa pp_0 p0pa_0) (poolW k pp_0 p0pa_0.2) (wPast k a_p0pa pp_0 p0pa_0) 28 2 (by simp only [List.append_assoc, List.nil_append, List.append_nil]) rfl rfl rfl]; try simp only [List.append_assoc, List.nil_append, List.append_nil]) (fun r u H locs hp hW => ?_)
  cases hp
  have hW : WD k A s.heap ((wMCo k a_p0 (a_p0in 0) (a_p0ou 0) (a_p0ru 0) (a_p0no 0) (a_p0fo 0) (a_p0rd 0) (a_p0pa 0) sv_p0 p0_0 ++ wRules k a_p0ru p0ru_0 ++ wCourt k a_p0no p0no_0 ++ wCourt k a_p0fo p0fo_0 ++ wPast k a_p0pa pp_0 p0pa_0) ++ poolW k pp_0 p0pa_0.2) H locs := hW
  refine k_istore (lv' := [(7, .int r_3), (6, .int r_2), (5, .int r_1), (0, .ref b_s), (1, .ref (a_p0 0)), (2, .int v2_0), (3, .int v3_0)]) E rfl hl dL_law_124 (by decide) rfl (fun ls hl => ?_)
  refine k_aload_n E hl 4 dL_law_126 rfl ?_
  refine lv_bipush (v := (15 : Int32)) E.hx E.hb dL_law_127 bp_15 ?_
  obtain ⟨r_4, hg, hf⟩ := ob hf
  refine k_callVi (As := [.int (15 : Int32)]) (rest := []) (ws2 := fun u => (wMCo k a_p0 (a_p0in 0) (a_p0ou 0) (a_p0ru 0) (a_p0no 0) (a_p0fo 0) (a_p0rd 0) (a_p0pa 0) sv_p0 p0_0 ++ wRules k a_p0ru p0ru_0 ++ wCourt k a_p0no p0no_0 ++ wCourt k a_p0fo p0fo_0 ++ wPast k a_p0pa pp_0 p0pa_0) ++ poolW k pp_0 p0pa_0.2) (c_X8_count n l k a_p0 a_p0in a_p0ou a_p0ru a_p0no a_p0fo a_p0rd a_p0pa pp_0 sv_p0 p0_0 p0ru_0 p0no_0 p0pa_0 (15 : Int32) r_4 hg) E vl_L_84 dL_law_129 rfl (List.range' 0 1 ++ List.range' 1 3 ++ List.range' 4 12 ++ List.range' 28 2) 8 0 hW hA hl rfl (by simp only [List.map_append]; exact app2 (app2 (app2 (blk_map [] (wMCo k a_p0 (a_p0in 0) (a_p0ou 0) (a_p0ru 0) (a_p0no 0) (a_p0fo 0) (a_p0rd 0) (a_p0pa 0) sv_p0 p0_0) (wRules k a_p0ru p0ru_0 ++ wCourt k a_p0no p0no_0 ++ wCourt k a_p0fo p0fo_0 ++ wPast k a_p0pa pp_0 p0pa_0 ++ poolW k pp_0 p0pa_0.2) 0 1 (by simp only [List.append_assoc, List.nil_append, List.append_nil]) rfl rfl) (blk_map (wMCo k a_p0 (a_p0in 0) (a_p0ou 0) (a_p0ru 0) (a_p0no 0) (a_p0fo 0) (a_p0rd 0) (a_p0pa 0) sv_p0 p0_0) (wRules k a_p0ru p0ru_0) (wCourt k a_p0no p0no_0 ++ wCourt k a_p0fo p0fo_0 ++ wPast k a_p0pa pp_0 p0pa_0 ++ poolW k pp_0 p0pa_0.2) 1 3 (by simp only [List.append_assoc, List.nil_append, List.append_nil]) rfl rfl)) (blk_map (wMCo k a_p0 (a_p0in 0) (a_p0ou 0) (a_p0ru 0) (a_p0no 0) (a_p0fo 0) (a_p0rd 0) (a_p0pa 0) sv_p0 p0_0 ++ wRules k a_p0ru p0ru_0) (wCourt k a_p0no p0no_0) (wCourt k a_p0fo p0fo_0 ++ wPast k a_p0pa pp_0 p0pa_0 ++ poolW k pp_0 p0pa_0.2) 4 12 (by simp only [List.append_assoc, List.nil_append, List.append_nil]) rfl rfl)) (blk_map (wMCo k a_p0 (a_p0in 0) (a_p0ou 0) (a_p0ru 0) (a_p0no 0) (a_p0fo 0) (a_p0rd 0) (a_p0pa 0) sv_p0 p0_0 ++ wRules k a_p0ru p0ru_0 ++ wCourt k a_p0no p0no_0 ++ wCourt k a_p0fo p0fo_0) (wPast k a_p0pa pp_0 p0pa_0) (poolW k pp_0 p0pa_0.2) 28 2 (by simp only [List.append_assoc, List.nil_append, List.append_nil]) rfl rfl)) rfl rfl ⟨by decide, by decide⟩ ⟨by decide, by decide⟩ (Nat.le_of_ble_eq_true rfl) rfl (fun _ => rfl) (fun u => by show putW _ (_ ++ _) (_ ++ _) = _; rw [putW_app _ _ _ _ _ rfl, putW_app _ _ _ _ _ rfl, putW_app _ _ _ _ _ rfl, blk_put [] (wMCo k a_p0 (a_p0in 0) (a_p0ou 0) (a_p0ru 0) (a_p0no 0) (a_p0fo 0) (a_p0rd 0) (a_p0pa 0) sv_p0 p0_0) (wRules k a_p0ru p0ru_0 ++ wCourt k a_p0no p0no_0 ++ wCourt k a_p0fo p0fo_0 ++ wPast k a_p0pa pp_0 p0pa_0 ++ poolW k pp_0 p0pa_0.2) (wMCo k a_p0 (a_p0in 0) (a_p0ou 0) (a_p0ru 0) (a_p0no 0) (a_p0fo 0) (a_p0rd 0) (a_p0pa 0) sv_p0 p0_0) 0 1 (by simp only [List.append_assoc, List.nil_append, List.append_nil]) rfl rfl rfl, blk_put (wMCo k a_p0 (a_p0in 0) (a_p0ou 0) (a_p0ru 0) (a_p0no 0) (a_p0fo 0) (a_p0rd 0) (a_p0pa 0) sv_p0 p0_0) (wRules k a_p0ru p0ru_0) (wCourt k a_p0no p0no_0 ++ wCourt k a_p0fo p0fo_0 ++ wPast k a_p0pa pp_0 p0pa_0 ++ poolW k pp_0 p0pa_0.2) (wRules k a_p0ru p0ru_0) 1 3 (by simp only [List.append_assoc, List.nil_append, List.append_nil]) rfl rfl rfl, blk_put (wMCo k a_p0 (a_p0in 0) (a_p0ou 0) (a_p0ru 0) (a_p0no 0) (a_p0fo 0) (a_p0rd 0) (a_p0pa 0) sv_p0 p0_0 ++ wRules k a_p0ru p0ru_0) (wCourt k a_p0no p0no_0) (wCourt k a_p0fo p0fo_0 ++ wPast k a_p0pa pp_0 p0pa_0 ++ poolW k pp_0 p0pa_0.2) (wCourt k a_p0no p0no_0) 4 12 (by simp only [List.append_assoc, List.nil_append, List.append_nil]) rfl rfl rfl, blk_put (wMCo k a_p0 (a_p0in 0) (a_p0ou 0) (a_p0ru 0) (a_p0no 0) (a_p0fo 0) (a_p0rd 0) (a_p0pa 0) sv_p0 p0_0 ++ wRules k a_p0ru p0ru_0 ++ wCourt k a_p0no p0no_0 ++ wCourt k a_p0fo p0fo_0) (wPast k a_p0pa pp_0 p0pa_0) (poolW k pp_0 p0pa_0.2) (wPast k a_p0pa pp_0 p0pa_0) 28 2 (by simp only [List.append_assoc, List.nil_append, List.append_nil]) rfl rfl rfl]; try simp only [List.append_assoc, List.nil_append, List.append_nil]) (fun r u H locs hp hW => ?_)
  cases hp
  have hW : WD k A s.heap ((wMCo k a_p0 (a_p0in 0) (a_p0ou 0) (a_p0ru 0) (a_p0no 0) (a_p0fo 0) (a_p0rd 0) (a_p0pa 0) sv_p0 p0_0 ++ wRules k a_p0ru p0ru_0 ++ wCourt k a_p0no p0no_0 ++ wCourt k a_p0fo p0fo_0 ++ wPast k a_p0pa pp_0 p0pa_0) ++ poolW k pp_0 p0pa_0.2) H locs := hW
  refine k_istore (lv' := [(8, .int r_4), (7, .int r_3), (6, .int r_2), (5, .int r_1), (0, .ref b_s), (1, .ref (a_p0 0)), (2, .int v2_0), (3, .int v3_0)]) E rfl hl dL_law_132 (by decide) rfl (fun ls hl => ?_)
  refine k_aload_n E hl 5 dL_law_134 rfl ?_
  refine lv_bipush (v := (20 : Int32)) E.hx E.hb dL_law_135 bp_20 ?_
  obtain ⟨r_5, hg, hf⟩ := ob hf
  refine k_callVi (As := [.int (20 : Int32)]) (rest := []) (ws2 := fun u => (wMCo k a_p0 (a_p0in 0) (a_p0ou 0) (a_p0ru 0) (a_p0no 0) (a_p0fo 0) (a_p0rd 0) (a_p0pa 0) sv_p0 p0_0 ++ wRules k a_p0ru p0ru_0 ++ wCourt k a_p0no p0no_0 ++ wCourt k a_p0fo p0fo_0 ++ wPast k a_p0pa pp_0 p0pa_0) ++ poolW k pp_0 p0pa_0.2) (c_X8_count n l k a_p0 a_p0in a_p0ou a_p0ru a_p0no a_p0fo a_p0rd a_p0pa pp_0 sv_p0 p0_0 p0ru_0 p0no_0 p0pa_0 (20 : Int32) r_5 hg) E vl_L_84 dL_law_137 rfl (List.range' 0 1 ++ List.range' 1 3 ++ List.range' 4 12 ++ List.range' 28 2) 8 0 hW hA hl rfl (by simp only [List.map_append]; exact app2 (app2 (app2 (blk_map [] (wMCo k a_p0 (a_p0in 0) (a_p0ou 0) (a_p0ru 0) (a_p0no 0) (a_p0fo 0) (a_p0rd 0) (a_p0pa 0) sv_p0 p0_0) (wRules k a_p0ru p0ru_0 ++ wCourt k a_p0no p0no_0 ++ wCourt k a_p0fo p0fo_0 ++ wPast k a_p0pa pp_0 p0pa_0 ++ poolW k pp_0 p0pa_0.2) 0 1 (by simp only [List.append_assoc, List.nil_append, List.append_nil]) rfl rfl) (blk_map (wMCo k a_p0 (a_p0in 0) (a_p0ou 0) (a_p0ru 0) (a_p0no 0) (a_p0fo 0) (a_p0rd 0) (a_p0pa 0) sv_p0 p0_0) (wRules k a_p0ru p0ru_0) (wCourt k a_p0no p0no_0 ++ wCourt k a_p0fo p0fo_0 ++ wPast k a_p0pa pp_0 p0pa_0 ++ poolW k pp_0 p0pa_0.2) 1 3 (by simp only [List.append_assoc, List.nil_append, List.append_nil]) rfl rfl)) (blk_map (wMCo k a_p0 (a_p0in 0) (a_p0ou 0) (a_p0ru 0) (a_p0no 0) (a_p0fo 0) (a_p0rd 0) (a_p0pa 0) sv_p0 p0_0 ++ wRules k a_p0ru p0ru_0) (wCourt k a_p0no p0no_0) (wCourt k a_p0fo p0fo_0 ++ wPast k a_p0pa pp_0 p0pa_0 ++ poolW k pp_0 p0pa_0.2) 4 12 (by simp only [List.append_assoc, List.nil_append, List.append_nil]) rfl rfl)) (blk_map (wMCo k a_p0 (a_p0in 0) (a_p0ou 0) (a_p0ru 0) (a_p0no 0) (a_p0fo 0) (a_p0rd 0) (a_p0pa 0) sv_p0 p0_0 ++ wRules k a_p0ru p0ru_0 ++ wCourt k a_p0no p0no_0 ++ wCourt k a_p0fo p0fo_0) (wPast k a_p0pa pp_0 p0pa_0) (poolW k pp_0 p0pa_0.2) 28 2 (by simp only [List.append_assoc, List.nil_append, List.append_nil]) rfl rfl)) rfl rfl ⟨by decide, by decide⟩ ⟨by decide, by decide⟩ (Nat.le_of_ble_eq_true rfl) rfl (fun _ => rfl) (fun u => by show putW _ (_ ++ _) (_ ++ _) = _; rw [putW_app _ _ _ _ _ rfl, putW_app _ _ _ _ _ rfl, putW_app _ _ _ _ _ rfl, blk_put [] (wMCo k a_p0 (a_p0in 0) (a_p0ou 0) (a_p0ru 0) (a_p0no 0) (a_p0fo 0) (a_p0rd 0) (a_p0pa 0) sv_p0 p0_0) (wRules k a_p0ru p0ru_0 ++ wCourt k a_p0no p0no_0 ++ wCourt k a_p0fo p0fo_0 ++ wPast k a_p0pa pp_0 p0pa_0 ++ poolW k pp_0 p0pa_0.2) (wMCo k a_p0 (a_p0in 0) (a_p0ou 0) (a_p0ru 0) (a_p0no 0) (a_p0fo 0) (a_p0rd 0) (a_p0pa 0) sv_p0 p0_0) 0 1 (by simp only [List.append_assoc, List.nil_append, List.append_nil]) rfl rfl rfl, blk_put (wMCo k a_p0 (a_p0in 0) (a_p0ou 0) (a_p0ru 0) (a_p0no 0) (a_p0fo 0) (a_p0rd 0) (a_p0pa 0) sv_p0 p0_0) (wRules k a_p0ru p0ru_0) (wCourt k a_p0no p0no_0 ++ wCourt k a_p0fo p0fo_0 ++ wPast k a_p0pa pp_0 p0pa_0 ++ poolW k pp_0 p0pa_0.2) (wRules k a_p0ru p0ru_0) 1 3 (by simp only [List.append_assoc, List.nil_append, List.append_nil]) rfl rfl rfl, blk_put (wMCo k a_p0 (a_p0in 0) (a_p0ou 0) (a_p0ru 0) (a_p0no 0) (a_p0fo 0) (a_p0rd 0) (a_p0pa 0) sv_p0 p0_0 ++ wRules k a_p0ru p0ru_0) (wCourt k a_p0no p0no_0) (wCourt k a_p0fo p0fo_0 ++ wPast k a_p0pa pp_0 p0pa_0 ++ poolW k pp_0 p0pa_0.2) (wCourt k a_p0no p0no_0) 4 12 (by simp only [List.append_assoc, List.nil_append, List.append_nil]) rfl rfl rfl, blk_put (wMCo k a_p0 (a_p0in 0) (a_p0ou 0) (a_p0ru 0) (a_p0no 0) (a_p0fo 0) (a_p0rd 0) (a_p0pa 0) sv_p0 p0_0 ++ wRules k a_p0ru p0ru_0 ++ wCourt k a_p0no p0no_0 ++ wCourt k a_p0fo p0fo_0) (wPast k a_p0pa pp_0 p0pa_0) (poolW k pp_0 p0pa_0.2) (wPast k a_p0pa pp_0 p0pa_0) 28 2 (by simp only [List.append_assoc, List.nil_append, List.append_nil]) rfl rfl rfl]; try simp only [List.append_assoc, List.nil_append, List.append_nil]) (fun r u H locs hp hW => ?_)
  cases hp
  have hW : WD k A s.heap ((wMCo k a_p0 (a_p0in 0) (a_p0ou 0) (a_p0ru 0) (a_p0no 0) (a_p0fo 0) (a_p0rd 0) (a_p0pa 0) sv_p0 p0_0 ++ wRules k a_p0ru p0ru_0 ++ wCourt k a_p0no p0no_0 ++ wCourt k a_p0fo p0fo_0 ++ wPast k a_p0pa pp_0 p0pa_0) ++ poolW k pp_0 p0pa_0.2) H locs := hW
  refine k_istore (lv' := [(9, .int r_5), (8, .int r_4), (7, .int r_3), (6, .int r_2), (5, .int r_1), (0, .ref b_s), (1, .ref (a_p0 0)), (2, .int v2_0), (3, .int v3_0)]) E rfl hl dL_law_140 (by decide) rfl (fun ls hl => ?_)
  refine k_aload_n E hl 6 dL_law_142 rfl ?_
  refine k_iload E hl 4 dL_law_143 rfl ?_
  refine k_iload E hl 3 dL_law_145 rfl ?_
  refine lv_iconst (v := (0 : Int32)) E.hx E.hb dL_law_147 ic_0 ?_
  obtain ⟨p0fo_6, r_7, cd_8, hg, hf⟩ := ob3 hf
  by_cases hcd : cd_8 = 0
  rotate_left
  · have hf := oF hcd hf
    exact o0 hf
  replace hf := oT hcd hf
  refine k_callVi (As := [.int r_1, .int r_2, .int (0 : Int32)]) (rest := []) (ws2 := fun u => (wMCo k a_p0 (a_p0in 0) (a_p0ou 0) (a_p0ru 0) (a_p0no 0) (a_p0fo 0) (a_p0rd 0) (a_p0pa 0) sv_p0 p0_0 ++ wRules k a_p0ru p0ru_0 ++ wCourt k a_p0no p0no_0 ++ wCourt k a_p0fo (u) ++ wPast k a_p0pa pp_0 p0pa_0) ++ poolW k pp_0 p0pa_0.2) (c_X8_processIn n l k a_p0 a_p0in a_p0ou a_p0ru a_p0no a_p0fo a_p0rd a_p0pa sv_p0 p0_0 p0ru_0 p0no_0 p0fo_0 r_1 r_2 (0 : Int32) (p0fo_6, r_7, cd_8) hg hcd) E vl_L_149 dL_law_148 rfl (List.range' 0 1 ++ List.range' 1 3 ++ List.range' 4 12 ++ List.range' 16 12) 8 0 hW hA hl rfl (by simp only [List.map_append]; exact app2 (app2 (app2 (blk_map [] (wMCo k a_p0 (a_p0in 0) (a_p0ou 0) (a_p0ru 0) (a_p0no 0) (a_p0fo 0) (a_p0rd 0) (a_p0pa 0) sv_p0 p0_0) (wRules k a_p0ru p0ru_0 ++ wCourt k a_p0no p0no_0 ++ wCourt k a_p0fo p0fo_0 ++ wPast k a_p0pa pp_0 p0pa_0 ++ poolW k pp_0 p0pa_0.2) 0 1 (by simp only [List.append_assoc, List.nil_append, List.append_nil]) rfl rfl) (blk_map (wMCo k a_p0 (a_p0in 0) (a_p0ou 0) (a_p0ru 0) (a_p0no 0) (a_p0fo 0) (a_p0rd 0) (a_p0pa 0) sv_p0 p0_0) (wRules k a_p0ru p0ru_0) (wCourt k a_p0no p0no_0 ++ wCourt k a_p0fo p0fo_0 ++ wPast k a_p0pa pp_0 p0pa_0 ++ poolW k pp_0 p0pa_0.2) 1 3 (by simp only [List.append_assoc, List.nil_append, List.append_nil]) rfl rfl)) (blk_map (wMCo k a_p0 (a_p0in 0) (a_p0ou 0) (a_p0ru 0) (a_p0no 0) (a_p0fo 0) (a_p0rd 0) (a_p0pa 0) sv_p0 p0_0 ++ wRules k a_p0ru p0ru_0) (wCourt k a_p0no p0no_0) (wCourt k a_p0fo p0fo_0 ++ wPast k a_p0pa pp_0 p0pa_0 ++ poolW k pp_0 p0pa_0.2) 4 12 (by simp only [List.append_assoc, List.nil_append, List.append_nil]) rfl rfl)) (blk_map (wMCo k a_p0 (a_p0in 0) (a_p0ou 0) (a_p0ru 0) (a_p0no 0) (a_p0fo 0) (a_p0rd 0) (a_p0pa 0) sv_p0 p0_0 ++ wRules k a_p0ru p0ru_0 ++ wCourt k a_p0no p0no_0) (wCourt k a_p0fo p0fo_0) (wPast k a_p0pa pp_0 p0pa_0 ++ poolW k pp_0 p0pa_0.2) 16 12 (by simp only [List.append_assoc, List.nil_append, List.append_nil]) rfl rfl)) rfl rfl ⟨by decide, by decide⟩ ⟨by decide, by decide⟩ (Nat.le_of_ble_eq_true rfl) rfl (fun _ => rfl) (fun u => by show putW _ (_ ++ _) (_ ++ _) = _; rw [putW_app _ _ _ _ _ rfl, putW_app _ _ _ _ _ rfl, putW_app _ _ _ _ _ rfl, blk_put [] (wMCo k a_p0 (a_p0in 0) (a_p0ou 0) (a_p0ru 0) (a_p0no 0) (a_p0fo 0) (a_p0rd 0) (a_p0pa 0) sv_p0 p0_0) (wRules k a_p0ru p0ru_0 ++ wCourt k a_p0no p0no_0 ++ wCourt k a_p0fo p0fo_0 ++ wPast k a_p0pa pp_0 p0pa_0 ++ poolW k pp_0 p0pa_0.2) (wMCo k a_p0 (a_p0in 0) (a_p0ou 0) (a_p0ru 0) (a_p0no 0) (a_p0fo 0) (a_p0rd 0) (a_p0pa 0) sv_p0 p0_0) 0 1 (by simp only [List.append_assoc, List.nil_append, List.append_nil]) rfl rfl rfl, blk_put (wMCo k a_p0 (a_p0in 0) (a_p0ou 0) (a_p0ru 0) (a_p0no 0) (a_p0fo 0) (a_p0rd 0) (a_p0pa 0) sv_p0 p0_0) (wRules k a_p0ru p0ru_0) (wCourt k a_p0no p0no_0 ++ wCourt k a_p0fo p0fo_0 ++ wPast k a_p0pa pp_0 p0pa_0 ++ poolW k pp_0 p0pa_0.2) (wRules k a_p0ru p0ru_0) 1 3 (by simp only [List.append_assoc, List.nil_append, List.append_nil]) rfl rfl rfl, blk_put (wMCo k a_p0 (a_p0in 0) (a_p0ou 0) (a_p0ru 0) (a_p0no 0) (a_p0fo 0) (a_p0rd 0) (a_p0pa 0) sv_p0 p0_0 ++ wRules k a_p0ru p0ru_0) (wCourt k a_p0no p0no_0) (wCourt k a_p0fo p0fo_0 ++ wPast k a_p0pa pp_0 p0pa_0 ++ poolW k pp_0 p0pa_0.2) (wCourt k a_p0no p0no_0) 4 12 (by simp only [List.append_assoc, List.nil_append, List.append_nil]) rfl rfl rfl, blk_put (wMCo k a_p0 (a_p0in 0) (a_p0ou 0) (a_p0ru 0) (a_p0no 0) (a_p0fo 0) (a_p0rd 0) (a_p0pa 0) sv_p0 p0_0 ++ wRules k a_p0ru p0ru_0 ++ wCourt k a_p0no p0no_0) (wCourt k a_p0fo p0fo_0) (wPast k a_p0pa pp_0 p0pa_0 ++ poolW k pp_0 p0pa_0.2) (wCourt k a_p0fo (u)) 16 12 (by simp only [List.append_assoc, List.nil_append, List.append_nil]) rfl rfl rfl]; try simp only [List.append_assoc, List.nil_append, List.append_nil]) (fun r u H locs hp hW => ?_)
  cases hp
  have hW : WD k A s.heap ((wMCo k a_p0 (a_p0in 0) (a_p0ou 0) (a_p0ru 0) (a_p0no 0) (a_p0fo 0) (a_p0rd 0) (a_p0pa 0) sv_p0 p0_0 ++ wRules k a_p0ru p0ru_0 ++ wCourt k a_p0no p0no_0 ++ wCourt k a_p0fo p0fo_6 ++ wPast k a_p0pa pp_0 p0pa_0) ++ poolW k pp_0 p0pa_0.2) H locs := hW
  refine k_istore (lv' := [(10, .int r_7), (9, .int r_5), (8, .int r_4), (7, .int r_3), (6, .int r_2), (5, .int r_1), (0, .ref b_s), (1, .ref (a_p0 0)), (2, .int v2_0), (3, .int v3_0)]) E rfl hl dL_law_151 (by decide) rfl (fun ls hl => ?_)
  refine k_aload_n E hl 7 dL_law_153 rfl ?_
  refine k_iload E hl 5 dL_law_154 rfl ?_
  refine k_iload E hl 4 dL_law_156 rfl ?_
  refine lv_iconst (v := (1 : Int32)) E.hx E.hb dL_law_158 ic_1 ?_
  obtain ⟨p0fo_9, r_10, cd_11, hg, hf⟩ := ob3 hf
  by_cases hcd : cd_11 = 0
  rotate_left
  · have hf := oF hcd hf
    exact o0 hf
  replace hf := oT hcd hf
  refine k_callVi (As := [.int r_1, .int r_2, .int (1 : Int32)]) (rest := []) (ws2 := fun u => (wMCo k a_p0 (a_p0in 0) (a_p0ou 0) (a_p0ru 0) (a_p0no 0) (a_p0fo 0) (a_p0rd 0) (a_p0pa 0) sv_p0 p0_0 ++ wRules k a_p0ru p0ru_0 ++ wCourt k a_p0no p0no_0 ++ wCourt k a_p0fo (u) ++ wPast k a_p0pa pp_0 p0pa_0) ++ poolW k pp_0 p0pa_0.2) (c_X8_processIn n l k a_p0 a_p0in a_p0ou a_p0ru a_p0no a_p0fo a_p0rd a_p0pa sv_p0 p0_0 p0ru_0 p0no_0 p0fo_6 r_1 r_2 (1 : Int32) (p0fo_9, r_10, cd_11) hg hcd) E vl_L_149 dL_law_159 rfl (List.range' 0 1 ++ List.range' 1 3 ++ List.range' 4 12 ++ List.range' 16 12) 8 0 hW hA hl rfl (by simp only [List.map_append]; exact app2 (app2 (app2 (blk_map [] (wMCo k a_p0 (a_p0in 0) (a_p0ou 0) (a_p0ru 0) (a_p0no 0) (a_p0fo 0) (a_p0rd 0) (a_p0pa 0) sv_p0 p0_0) (wRules k a_p0ru p0ru_0 ++ wCourt k a_p0no p0no_0 ++ wCourt k a_p0fo p0fo_6 ++ wPast k a_p0pa pp_0 p0pa_0 ++ poolW k pp_0 p0pa_0.2) 0 1 (by simp only [List.append_assoc, List.nil_append, List.append_nil]) rfl rfl) (blk_map (wMCo k a_p0 (a_p0in 0) (a_p0ou 0) (a_p0ru 0) (a_p0no 0) (a_p0fo 0) (a_p0rd 0) (a_p0pa 0) sv_p0 p0_0) (wRules k a_p0ru p0ru_0) (wCourt k a_p0no p0no_0 ++ wCourt k a_p0fo p0fo_6 ++ wPast k a_p0pa pp_0 p0pa_0 ++ poolW k pp_0 p0pa_0.2) 1 3 (by simp only [List.append_assoc, List.nil_append, List.append_nil]) rfl rfl)) (blk_map (wMCo k a_p0 (a_p0in 0) (a_p0ou 0) (a_p0ru 0) (a_p0no 0) (a_p0fo 0) (a_p0rd 0) (a_p0pa 0) sv_p0 p0_0 ++ wRules k a_p0ru p0ru_0) (wCourt k a_p0no p0no_0) (wCourt k a_p0fo p0fo_6 ++ wPast k a_p0pa pp_0 p0pa_0 ++ poolW k pp_0 p0pa_0.2) 4 12 (by simp only [List.append_assoc, List.nil_append, List.append_nil]) rfl rfl)) (blk_map (wMCo k a_p0 (a_p0in 0) (a_p0ou 0) (a_p0ru 0) (a_p0no 0) (a_p0fo 0) (a_p0rd 0) (a_p0pa 0) sv_p0 p0_0 ++ wRules k a_p0ru p0ru_0 ++ wCourt k a_p0no p0no_0) (wCourt k a_p0fo p0fo_6) (wPast k a_p0pa pp_0 p0pa_0 ++ poolW k pp_0 p0pa_0.2) 16 12 (by simp only [List.append_assoc, List.nil_append, List.append_nil]) rfl rfl)) rfl rfl ⟨by decide, by decide⟩ ⟨by decide, by decide⟩ (Nat.le_of_ble_eq_true rfl) rfl (fun _ => rfl) (fun u => by show putW _ (_ ++ _) (_ ++ _) = _; rw [putW_app _ _ _ _ _ rfl, putW_app _ _ _ _ _ rfl, putW_app _ _ _ _ _ rfl, blk_put [] (wMCo k a_p0 (a_p0in 0) (a_p0ou 0) (a_p0ru 0) (a_p0no 0) (a_p0fo 0) (a_p0rd 0) (a_p0pa 0) sv_p0 p0_0) (wRules k a_p0ru p0ru_0 ++ wCourt k a_p0no p0no_0 ++ wCourt k a_p0fo p0fo_6 ++ wPast k a_p0pa pp_0 p0pa_0 ++ poolW k pp_0 p0pa_0.2) (wMCo k a_p0 (a_p0in 0) (a_p0ou 0) (a_p0ru 0) (a_p0no 0) (a_p0fo 0) (a_p0rd 0) (a_p0pa 0) sv_p0 p0_0) 0 1 (by simp only [List.append_assoc, List.nil_append, List.append_nil]) rfl rfl rfl, blk_put (wMCo k a_p0 (a_p0in 0) (a_p0ou 0) (a_p0ru 0) (a_p0no 0) (a_p0fo 0) (a_p0rd 0) (a_p0pa 0) sv_p0 p0_0) (wRules k a_p0ru p0ru_0) (wCourt k a_p0no p0no_0 ++ wCourt k a_p0fo p0fo_6 ++ wPast k a_p0pa pp_0 p0pa_0 ++ poolW k pp_0 p0pa_0.2) (wRules k a_p0ru p0ru_0) 1 3 (by simp only [List.append_assoc, List.nil_append, List.append_nil]) rfl rfl rfl, blk_put (wMCo k a_p0 (a_p0in 0) (a_p0ou 0) (a_p0ru 0) (a_p0no 0) (a_p0fo 0) (a_p0rd 0) (a_p0pa 0) sv_p0 p0_0 ++ wRules k a_p0ru p0ru_0) (wCourt k a_p0no p0no_0) (wCourt k a_p0fo p0fo_6 ++ wPast k a_p0pa pp_0 p0pa_0 ++ poolW k pp_0 p0pa_0.2) (wCourt k a_p0no p0no_0) 4 12 (by simp only [List.append_assoc, List.nil_append, List.append_nil]) rfl rfl rfl, blk_put (wMCo k a_p0 (a_p0in 0) (a_p0ou 0) (a_p0ru 0) (a_p0no 0) (a_p0fo 0) (a_p0rd 0) (a_p0pa 0) sv_p0 p0_0 ++ wRules k a_p0ru p0ru_0 ++ wCourt k a_p0no p0no_0) (wCourt k a_p0fo p0fo_6) (wPast k a_p0pa pp_0 p0pa_0 ++ poolW k pp_0 p0pa_0.2) (wCourt k a_p0fo (u)) 16 12 (by simp only [List.append_assoc, List.nil_append, List.append_nil]) rfl rfl rfl]; try simp only [List.append_assoc, List.nil_append, List.append_nil]) (fun r u H locs hp hW => ?_)
  cases hp
  have hW : WD k A s.heap ((wMCo k a_p0 (a_p0in 0) (a_p0ou 0) (a_p0ru 0) (a_p0no 0) (a_p0fo 0) (a_p0rd 0) (a_p0pa 0) sv_p0 p0_0 ++ wRules k a_p0ru p0ru_0 ++ wCourt k a_p0no p0no_0 ++ wCourt k a_p0fo p0fo_9 ++ wPast k a_p0pa pp_0 p0pa_0) ++ poolW k pp_0 p0pa_0.2) H locs := hW
  refine k_istore (lv' := [(11, .int r_10), (10, .int r_7), (9, .int r_5), (8, .int r_4), (7, .int r_3), (6, .int r_2), (5, .int r_1), (0, .ref b_s), (1, .ref (a_p0 0)), (2, .int v2_0), (3, .int v3_0)]) E rfl hl dL_law_162 (by decide) rfl (fun ls hl => ?_)
  refine k_aload_n E hl 8 dL_law_164 rfl ?_
  refine k_iload E hl 6 dL_law_165 rfl ?_
  refine k_iload E hl 5 dL_law_167 rfl ?_
  refine lv_iconst (v := (2 : Int32)) E.hx E.hb dL_law_169 ic_2 ?_
  obtain ⟨p0fo_12, r_13, cd_14, hg, hf⟩ := ob3 hf
  by_cases hcd : cd_14 = 0
  rotate_left
  · have hf := oF hcd hf
    exact o0 hf
  replace hf := oT hcd hf
  refine k_callVi (As := [.int r_1, .int r_2, .int (2 : Int32)]) (rest := []) (ws2 := fun u => (wMCo k a_p0 (a_p0in 0) (a_p0ou 0) (a_p0ru 0) (a_p0no 0) (a_p0fo 0) (a_p0rd 0) (a_p0pa 0) sv_p0 p0_0 ++ wRules k a_p0ru p0ru_0 ++ wCourt k a_p0no p0no_0 ++ wCourt k a_p0fo (u) ++ wPast k a_p0pa pp_0 p0pa_0) ++ poolW k pp_0 p0pa_0.2) (c_X8_processIn n l k a_p0 a_p0in a_p0ou a_p0ru a_p0no a_p0fo a_p0rd a_p0pa sv_p0 p0_0 p0ru_0 p0no_0 p0fo_9 r_1 r_2 (2 : Int32) (p0fo_12, r_13, cd_14) hg hcd) E vl_L_149 dL_law_170 rfl (List.range' 0 1 ++ List.range' 1 3 ++ List.range' 4 12 ++ List.range' 16 12) 8 0 hW hA hl rfl (by simp only [List.map_append]; exact app2 (app2 (app2 (blk_map [] (wMCo k a_p0 (a_p0in 0) (a_p0ou 0) (a_p0ru 0) (a_p0no 0) (a_p0fo 0) (a_p0rd 0) (a_p0pa 0) sv_p0 p0_0) (wRules k a_p0ru p0ru_0 ++ wCourt k a_p0no p0no_0 ++ wCourt k a_p0fo p0fo_9 ++ wPast k a_p0pa pp_0 p0pa_0 ++ poolW k pp_0 p0pa_0.2) 0 1 (by simp only [List.append_assoc, List.nil_append, List.append_nil]) rfl rfl) (blk_map (wMCo k a_p0 (a_p0in 0) (a_p0ou 0) (a_p0ru 0) (a_p0no 0) (a_p0fo 0) (a_p0rd 0) (a_p0pa 0) sv_p0 p0_0) (wRules k a_p0ru p0ru_0) (wCourt k a_p0no p0no_0 ++ wCourt k a_p0fo p0fo_9 ++ wPast k a_p0pa pp_0 p0pa_0 ++ poolW k pp_0 p0pa_0.2) 1 3 (by simp only [List.append_assoc, List.nil_append, List.append_nil]) rfl rfl)) (blk_map (wMCo k a_p0 (a_p0in 0) (a_p0ou 0) (a_p0ru 0) (a_p0no 0) (a_p0fo 0) (a_p0rd 0) (a_p0pa 0) sv_p0 p0_0 ++ wRules k a_p0ru p0ru_0) (wCourt k a_p0no p0no_0) (wCourt k a_p0fo p0fo_9 ++ wPast k a_p0pa pp_0 p0pa_0 ++ poolW k pp_0 p0pa_0.2) 4 12 (by simp only [List.append_assoc, List.nil_append, List.append_nil]) rfl rfl)) (blk_map (wMCo k a_p0 (a_p0in 0) (a_p0ou 0) (a_p0ru 0) (a_p0no 0) (a_p0fo 0) (a_p0rd 0) (a_p0pa 0) sv_p0 p0_0 ++ wRules k a_p0ru p0ru_0 ++ wCourt k a_p0no p0no_0) (wCourt k a_p0fo p0fo_9) (wPast k a_p0pa pp_0 p0pa_0 ++ poolW k pp_0 p0pa_0.2) 16 12 (by simp only [List.append_assoc, List.nil_append, List.append_nil]) rfl rfl)) rfl rfl ⟨by decide, by decide⟩ ⟨by decide, by decide⟩ (Nat.le_of_ble_eq_true rfl) rfl (fun _ => rfl) (fun u => by show putW _ (_ ++ _) (_ ++ _) = _; rw [putW_app _ _ _ _ _ rfl, putW_app _ _ _ _ _ rfl, putW_app _ _ _ _ _ rfl, blk_put [] (wMCo k a_p0 (a_p0in 0) (a_p0ou 0) (a_p0ru 0) (a_p0no 0) (a_p0fo 0) (a_p0rd 0) (a_p0pa 0) sv_p0 p0_0) (wRules k a_p0ru p0ru_0 ++ wCourt k a_p0no p0no_0 ++ wCourt k a_p0fo p0fo_9 ++ wPast k a_p0pa pp_0 p0pa_0 ++ poolW k pp_0 p0pa_0.2) (wMCo k a_p0 (a_p0in 0) (a_p0ou 0) (a_p0ru 0) (a_p0no 0) (a_p0fo 0) (a_p0rd 0) (a_p0pa 0) sv_p0 p0_0) 0 1 (by simp only [List.append_assoc, List.nil_append, List.append_nil]) rfl rfl rfl, blk_put (wMCo k a_p0 (a_p0in 0) (a_p0ou 0) (a_p0ru 0) (a_p0no 0) (a_p0fo 0) (a_p0rd 0) (a_p0pa 0) sv_p0 p0_0) (wRules k a_p0ru p0ru_0) (wCourt k a_p0no p0no_0 ++ wCourt k a_p0fo p0fo_9 ++ wPast k a_p0pa pp_0 p0pa_0 ++ poolW k pp_0 p0pa_0.2) (wRules k a_p0ru p0ru_0) 1 3 (by simp only [List.append_assoc, List.nil_append, List.append_nil]) rfl rfl rfl, blk_put (wMCo k a_p0 (a_p0in 0) (a_p0ou 0) (a_p0ru 0) (a_p0no 0) (a_p0fo 0) (a_p0rd 0) (a_p0pa 0) sv_p0 p0_0 ++ wRules k a_p0ru p0ru_0) (wCourt k a_p0no p0no_0) (wCourt k a_p0fo p0fo_9 ++ wPast k a_p0pa pp_0 p0pa_0 ++ poolW k pp_0 p0pa_0.2) (wCourt k a_p0no p0no_0) 4 12 (by simp only [List.append_assoc, List.nil_append, List.append_nil]) rfl rfl rfl, blk_put (wMCo k a_p0 (a_p0in 0) (a_p0ou 0) (a_p0ru 0) (a_p0no 0) (a_p0fo 0) (a_p0rd 0) (a_p0pa 0) sv_p0 p0_0 ++ wRules k a_p0ru p0ru_0 ++ wCourt k a_p0no p0no_0) (wCourt k a_p0fo p0fo_9) (wPast k a_p0pa pp_0 p0pa_0 ++ poolW k pp_0 p0pa_0.2) (wCourt k a_p0fo (u)) 16 12 (by simp only [List.append_assoc, List.nil_append, List.append_nil]) rfl rfl rfl]; try simp only [List.append_assoc, List.nil_append, List.append_nil]) (fun r u H locs hp hW => ?_)
  cases hp
  have hW : WD k A s.heap ((wMCo k a_p0 (a_p0in 0) (a_p0ou 0) (a_p0ru 0) (a_p0no 0) (a_p0fo 0) (a_p0rd 0) (a_p0pa 0) sv_p0 p0_0 ++ wRules k a_p0ru p0ru_0 ++ wCourt k a_p0no p0no_0 ++ wCourt k a_p0fo p0fo_12 ++ wPast k a_p0pa pp_0 p0pa_0) ++ poolW k pp_0 p0pa_0.2) H locs := hW
  refine k_istore (lv' := [(12, .int r_13), (11, .int r_10), (10, .int r_7), (9, .int r_5), (8, .int r_4), (7, .int r_3), (6, .int r_2), (5, .int r_1), (0, .ref b_s), (1, .ref (a_p0 0)), (2, .int v2_0), (3, .int v3_0)]) E rfl hl dL_law_173 (by decide) rfl (fun ls hl => ?_)
  refine k_aload_n E hl 9 dL_law_175 rfl ?_
  refine lv_bipush (v := (13 : Int32)) E.hx E.hb dL_law_176 bp_13 ?_
  obtain ⟨r_15, hg, hf⟩ := ob hf
  refine k_callVi (As := [.int (13 : Int32)]) (rest := []) (ws2 := fun u => (wMCo k a_p0 (a_p0in 0) (a_p0ou 0) (a_p0ru 0) (a_p0no 0) (a_p0fo 0) (a_p0rd 0) (a_p0pa 0) sv_p0 p0_0 ++ wRules k a_p0ru p0ru_0 ++ wCourt k a_p0no p0no_0 ++ wCourt k a_p0fo p0fo_12 ++ wPast k a_p0pa pp_0 p0pa_0) ++ poolW k pp_0 p0pa_0.2) (c_X8_count n l k a_p0 a_p0in a_p0ou a_p0ru a_p0no a_p0fo a_p0rd a_p0pa pp_0 sv_p0 p0_0 p0ru_0 p0no_0 p0pa_0 (13 : Int32) r_15 hg) E vl_L_84 dL_law_178 rfl (List.range' 0 1 ++ List.range' 1 3 ++ List.range' 4 12 ++ List.range' 28 2) 8 0 hW hA hl rfl (by simp only [List.map_append]; exact app2 (app2 (app2 (blk_map [] (wMCo k a_p0 (a_p0in 0) (a_p0ou 0) (a_p0ru 0) (a_p0no 0) (a_p0fo 0) (a_p0rd 0) (a_p0pa 0) sv_p0 p0_0) (wRules k a_p0ru p0ru_0 ++ wCourt k a_p0no p0no_0 ++ wCourt k a_p0fo p0fo_12 ++ wPast k a_p0pa pp_0 p0pa_0 ++ poolW k pp_0 p0pa_0.2) 0 1 (by simp only [List.append_assoc, List.nil_append, List.append_nil]) rfl rfl) (blk_map (wMCo k a_p0 (a_p0in 0) (a_p0ou 0) (a_p0ru 0) (a_p0no 0) (a_p0fo 0) (a_p0rd 0) (a_p0pa 0) sv_p0 p0_0) (wRules k a_p0ru p0ru_0) (wCourt k a_p0no p0no_0 ++ wCourt k a_p0fo p0fo_12 ++ wPast k a_p0pa pp_0 p0pa_0 ++ poolW k pp_0 p0pa_0.2) 1 3 (by simp only [List.append_assoc, List.nil_append, List.append_nil]) rfl rfl)) (blk_map (wMCo k a_p0 (a_p0in 0) (a_p0ou 0) (a_p0ru 0) (a_p0no 0) (a_p0fo 0) (a_p0rd 0) (a_p0pa 0) sv_p0 p0_0 ++ wRules k a_p0ru p0ru_0) (wCourt k a_p0no p0no_0) (wCourt k a_p0fo p0fo_12 ++ wPast k a_p0pa pp_0 p0pa_0 ++ poolW k pp_0 p0pa_0.2) 4 12 (by simp only [List.append_assoc, List.nil_append, List.append_nil]) rfl rfl)) (blk_map (wMCo k a_p0 (a_p0in 0) (a_p0ou 0) (a_p0ru 0) (a_p0no 0) (a_p0fo 0) (a_p0rd 0) (a_p0pa 0) sv_p0 p0_0 ++ wRules k a_p0ru p0ru_0 ++ wCourt k a_p0no p0no_0 ++ wCourt k a_p0fo p0fo_12) (wPast k a_p0pa pp_0 p0pa_0) (poolW k pp_0 p0pa_0.2) 28 2 (by simp only [List.append_assoc, List.nil_append, List.append_nil]) rfl rfl)) rfl rfl ⟨by decide, by decide⟩ ⟨by decide, by decide⟩ (Nat.le_of_ble_eq_true rfl) rfl (fun _ => rfl) (fun u => by show putW _ (_ ++ _) (_ ++ _) = _; rw [putW_app _ _ _ _ _ rfl, putW_app _ _ _ _ _ rfl, putW_app _ _ _ _ _ rfl, blk_put [] (wMCo k a_p0 (a_p0in 0) (a_p0ou 0) (a_p0ru 0) (a_p0no 0) (a_p0fo 0) (a_p0rd 0) (a_p0pa 0) sv_p0 p0_0) (wRules k a_p0ru p0ru_0 ++ wCourt k a_p0no p0no_0 ++ wCourt k a_p0fo p0fo_12 ++ wPast k a_p0pa pp_0 p0pa_0 ++ poolW k pp_0 p0pa_0.2) (wMCo k a_p0 (a_p0in 0) (a_p0ou 0) (a_p0ru 0) (a_p0no 0) (a_p0fo 0) (a_p0rd 0) (a_p0pa 0) sv_p0 p0_0) 0 1 (by simp only [List.append_assoc, List.nil_append, List.append_nil]) rfl rfl rfl, blk_put (wMCo k a_p0 (a_p0in 0) (a_p0ou 0) (a_p0ru 0) (a_p0no 0) (a_p0fo 0) (a_p0rd 0) (a_p0pa 0) sv_p0 p0_0) (wRules k a_p0ru p0ru_0) (wCourt k a_p0no p0no_0 ++ wCourt k a_p0fo p0fo_12 ++ wPast k a_p0pa pp_0 p0pa_0 ++ poolW k pp_0 p0pa_0.2) (wRules k a_p0ru p0ru_0) 1 3 (by simp only [List.append_assoc, List.nil_append, List.append_nil]) rfl rfl rfl, blk_put (wMCo k a_p0 (a_p0in 0) (a_p0ou 0) (a_p0ru 0) (a_p0no 0) (a_p0fo 0) (a_p0rd 0) (a_p0pa 0) sv_p0 p0_0 ++ wRules k a_p0ru p0ru_0) (wCourt k a_p0no p0no_0) (wCourt k a_p0fo p0fo_12 ++ wPast k a_p0pa pp_0 p0pa_0 ++ poolW k pp_0 p0pa_0.2) (wCourt k a_p0no p0no_0) 4 12 (by simp only [List.append_assoc, List.nil_append, List.append_nil]) rfl rfl rfl, blk_put (wMCo k a_p0 (a_p0in 0) (a_p0ou 0) (a_p0ru 0) (a_p0no 0) (a_p0fo 0) (a_p0rd 0) (a_p0pa 0) sv_p0 p0_0 ++ wRules k a_p0ru p0ru_0 ++ wCourt k a_p0no p0no_0 ++ wCourt k a_p0fo p0fo_12) (wPast k a_p0pa pp_0 p0pa_0) (poolW k pp_0 p0pa_0.2) (wPast k a_p0pa pp_0 p0pa_0) 28 2 (by simp only [List.append_assoc, List.nil_append, List.append_nil]) rfl rfl rfl]; try simp only [List.append_assoc, List.nil_append, List.append_nil]) (fun r u H locs hp hW => ?_)
  cases hp
  have hW : WD k A s.heap ((wMCo k a_p0 (a_p0in 0) (a_p0ou 0) (a_p0ru 0) (a_p0no 0) (a_p0fo 0) (a_p0rd 0) (a_p0pa 0) sv_p0 p0_0 ++ wRules k a_p0ru p0ru_0 ++ wCourt k a_p0no p0no_0 ++ wCourt k a_p0fo p0fo_12 ++ wPast k a_p0pa pp_0 p0pa_0) ++ poolW k pp_0 p0pa_0.2) H locs := hW
  refine lv_iconst (v := (1 : Int32)) E.hx E.hb dL_law_181 ic_1 ?_
  refine lv_isub E.hx E.hb dL_law_182 ?_
  obtain ⟨v13_16, ev13_16, hf⟩ := oL hf
  refine k_istore (lv' := [(13, .int v13_16), (12, .int r_13), (11, .int r_10), (10, .int r_7), (9, .int r_5), (8, .int r_4), (7, .int r_3), (6, .int r_2), (5, .int r_1), (0, .ref b_s), (1, .ref (a_p0 0)), (2, .int v2_0), (3, .int v3_0)]) E ev13_16 hl dL_law_183 (by decide) rfl (fun ls hl => ?_)
  refine k_iload E hl 0 dL_law_185 rfl ?_
  have J_202 : ∀ (p0no_j202 : OS) (p0fo_j202 : OS) (p0pa_j202 : PS) (w5_j202 : Int32) (w6_j202 : Int32) (w7_j202 : Int32) (w8_j202 : Int32) (w9_j202 : Int32) (w10_j202 : Int32) (w11_j202 : Int32) (w12_j202 : Int32) (w13_j202 : Int32) (s0_j202 : Int32) (pp_j202 : Nat → Nat → Nat) (H : Heap) (locs : List Loc) (ls : Array Slot) (hW : WD k A s.heap ((wMCo k a_p0 (a_p0in 0) (a_p0ou 0) (a_p0ru 0) (a_p0no 0) (a_p0fo 0) (a_p0rd 0) (a_p0pa 0) sv_p0 p0_0 ++ wRules k a_p0ru p0ru_0 ++ wCourt k a_p0no p0no_j202 ++ wCourt k a_p0fo p0fo_j202 ++ wPast k a_p0pa pp_j202 p0pa_j202) ++ poolW k pp_j202 p0pa_j202.2) H locs) (hl : lv_has ls 21 [(1, .ref (a_p0 0)), (2, .int v2_0), (3, .int v3_0), (5, .int w5_j202), (6, .int w6_j202), (7, .int w7_j202), (8, .int w8_j202), (9, .int w9_j202), (10, .int w10_j202), (11, .int w11_j202), (12, .int w12_j202), (13, .int w13_j202)]) (hf : j_L_law_202 n L_s xs_s sv_p0 p0_0 p0ru_0 v2_0 v3_0 p0no_j202 p0fo_j202 p0pa_j202 w5_j202 w6_j202 w7_j202 w8_j202 w9_j202 w10_j202 w11_j202 w12_j202 w13_j202 s0_j202 = some res), W p l e room_1 s m args below meth c H locs 600 150000 Q (F0 m 202 ls [.int s0_j202]) := by
    intro p0no_j202 p0fo_j202 p0pa_j202 w5_j202 w6_j202 w7_j202 w8_j202 w9_j202 w10_j202 w11_j202 w12_j202 w13_j202 s0_j202 pp_j202 H locs ls hW hl hf
    unfold j_L_law_202 at hf
    refine k_istore (lv' := [(14, .int s0_j202), (1, .ref (a_p0 0)), (2, .int v2_0), (3, .int v3_0), (5, .int w5_j202), (6, .int w6_j202), (7, .int w7_j202), (8, .int w8_j202), (9, .int w9_j202), (10, .int w10_j202), (11, .int w11_j202), (12, .int w12_j202), (13, .int w13_j202)]) E rfl hl dL_law_202 (by decide) rfl (fun ls hl => ?_)
    refine k_iload E hl 12 dL_law_204 rfl ?_
    have J_224 : ∀ (p0no_j224 : OS) (p0fo_j224 : OS) (p0pa_j224 : PS) (w5_j224 : Int32) (w6_j224 : Int32) (w7_j224 : Int32) (w8_j224 : Int32) (w9_j224 : Int32) (w10_j224 : Int32) (w11_j224 : Int32) (w12_j224 : Int32) (w13_j224 : Int32) (w14_j224 : Int32) (s0_j224 : Int32) (pp_j224 : Nat → Nat → Nat) (H : Heap) (locs : List Loc) (ls : Array Slot) (hW : WD k A s.heap ((wMCo k a_p0 (a_p0in 0) (a_p0ou 0) (a_p0ru 0) (a_p0no 0) (a_p0fo 0) (a_p0rd 0) (a_p0pa 0) sv_p0 p0_0 ++ wRules k a_p0ru p0ru_0 ++ wCourt k a_p0no p0no_j224 ++ wCourt k a_p0fo p0fo_j224 ++ wPast k a_p0pa pp_j224 p0pa_j224) ++ poolW k pp_j224 p0pa_j224.2) H locs) (hl : lv_has ls 21 [(1, .ref (a_p0 0)), (2, .int v2_0), (3, .int v3_0), (5, .int w5_j224), (6, .int w6_j224), (7, .int w7_j224), (8, .int w8_j224), (9, .int w9_j224), (10, .int w10_j224), (11, .int w11_j224), (12, .int w12_j224), (13, .int w13_j224), (14, .int w14_j224)]) (hf : j_L_law_224 n L_s xs_s sv_p0 p0_0 p0ru_0 v2_0 v3_0 p0no_j224 p0fo_j224 p0pa_j224 w5_j224 w6_j224 w7_j224 w8_j224 w9_j224 w10_j224 w11_j224 w12_j224 w13_j224 w14_j224 s0_j224 = some res), W p l e room_1 s m args below meth c H locs 600 150000 Q (F0 m 224 ls [.int s0_j224]) := by
      intro p0no_j224 p0fo_j224 p0pa_j224 w5_j224 w6_j224 w7_j224 w8_j224 w9_j224 w10_j224 w11_j224 w12_j224 w13_j224 w14_j224 s0_j224 pp_j224 H locs ls hW hl hf
      unfold j_L_law_224 at hf
      refine k_istore (lv' := [(15, .int s0_j224), (1, .ref (a_p0 0)), (2, .int v2_0), (3, .int v3_0), (5, .int w5_j224), (6, .int w6_j224), (7, .int w7_j224), (8, .int w8_j224), (9, .int w9_j224), (10, .int w10_j224), (11, .int w11_j224), (12, .int w12_j224), (13, .int w13_j224), (14, .int w14_j224)]) E rfl hl dL_law_224 (by decide) rfl (fun ls hl => ?_)
      refine k_aload_n E hl 1 dL_law_226 rfl ?_
      refine k_iload E hl 5 dL_law_227 rfl ?_
      obtain ⟨p0fo_17, r_18, cd_19, hg, hf⟩ := ob3 hf
      by_cases hcd : cd_19 = 0
      rotate_left
      · have hf := oF hcd hf
        exact o0 hf
      replace hf := oT hcd hf
      refine k_callVi (As := [.int w6_j224]) (rest := []) (ws2 := fun u => (wMCo k a_p0 (a_p0in 0) (a_p0ou 0) (a_p0ru 0) (a_p0no 0) (a_p0fo 0) (a_p0rd 0) (a_p0pa 0) sv_p0 p0_0 ++ wRules k a_p0ru p0ru_0 ++ wCourt k a_p0no p0no_j224 ++ wCourt k a_p0fo (u) ++ wPast k a_p0pa pp_j224 p0pa_j224) ++ poolW k pp_j224 p0pa_j224.2) (c_X8_bestOrder n l k a_p0 a_p0in a_p0ou a_p0ru a_p0no a_p0fo a_p0rd a_p0pa sv_p0 p0_0 p0ru_0 p0no_j224 p0fo_j224 w6_j224 (p0fo_17, r_18, cd_19) hg hcd) E vl_L_155 dL_law_229 rfl (List.range' 0 1 ++ List.range' 1 3 ++ List.range' 4 12 ++ List.range' 16 12) 8 0 hW hA hl rfl (by simp only [List.map_append]; exact app2 (app2 (app2 (blk_map [] (wMCo k a_p0 (a_p0in 0) (a_p0ou 0) (a_p0ru 0) (a_p0no 0) (a_p0fo 0) (a_p0rd 0) (a_p0pa 0) sv_p0 p0_0) (wRules k a_p0ru p0ru_0 ++ wCourt k a_p0no p0no_j224 ++ wCourt k a_p0fo p0fo_j224 ++ wPast k a_p0pa pp_j224 p0pa_j224 ++ poolW k pp_j224 p0pa_j224.2) 0 1 (by simp only [List.append_assoc, List.nil_append, List.append_nil]) rfl rfl) (blk_map (wMCo k a_p0 (a_p0in 0) (a_p0ou 0) (a_p0ru 0) (a_p0no 0) (a_p0fo 0) (a_p0rd 0) (a_p0pa 0) sv_p0 p0_0) (wRules k a_p0ru p0ru_0) (wCourt k a_p0no p0no_j224 ++ wCourt k a_p0fo p0fo_j224 ++ wPast k a_p0pa pp_j224 p0pa_j224 ++ poolW k pp_j224 p0pa_j224.2) 1 3 (by simp only [List.append_assoc, List.nil_append, List.append_nil]) rfl rfl)) (blk_map (wMCo k a_p0 (a_p0in 0) (a_p0ou 0) (a_p0ru 0) (a_p0no 0) (a_p0fo 0) (a_p0rd 0) (a_p0pa 0) sv_p0 p0_0 ++ wRules k a_p0ru p0ru_0) (wCourt k a_p0no p0no_j224) (wCourt k a_p0fo p0fo_j224 ++ wPast k a_p0pa pp_j224 p0pa_j224 ++ poolW k pp_j224 p0pa_j224.2) 4 12 (by simp only [List.append_assoc, List.nil_append, List.append_nil]) rfl rfl)) (blk_map (wMCo k a_p0 (a_p0in 0) (a_p0ou 0) (a_p0ru 0) (a_p0no 0) (a_p0fo 0) (a_p0rd 0) (a_p0pa 0) sv_p0 p0_0 ++ wRules k a_p0ru p0ru_0 ++ wCourt k a_p0no p0no_j224) (wCourt k a_p0fo p0fo_j224) (wPast k a_p0pa pp_j224 p0pa_j224 ++ poolW k pp_j224 p0pa_j224.2) 16 12 (by simp only [List.append_assoc, List.nil_append, List.append_nil]) rfl rfl)) rfl rfl ⟨by decide, by decide⟩ ⟨by decide, by decide⟩ (Nat.le_of_ble_eq_true rfl) rfl (fun _ => rfl) (fun u => by show putW _ (_ ++ _) (_ ++ _) = _; rw [putW_app _ _ _ _ _ rfl, putW_app _ _ _ _ _ rfl, putW_app _ _ _ _ _ rfl, blk_put [] (wMCo k a_p0 (a_p0in 0) (a_p0ou 0) (a_p0ru 0) (a_p0no 0) (a_p0fo 0) (a_p0rd 0) (a_p0pa 0) sv_p0 p0_0) (wRules k a_p0ru p0ru_0 ++ wCourt k a_p0no p0no_j224 ++ wCourt k a_p0fo p0fo_j224 ++ wPast k a_p0pa pp_j224 p0pa_j224 ++ poolW k pp_j224 p0pa_j224.2) (wMCo k a_p0 (a_p0in 0) (a_p0ou 0) (a_p0ru 0) (a_p0no 0) (a_p0fo 0) (a_p0rd 0) (a_p0pa 0) sv_p0 p0_0) 0 1 (by simp only [List.append_assoc, List.nil_append, List.append_nil]) rfl rfl rfl, blk_put (wMCo k a_p0 (a_p0in 0) (a_p0ou 0) (a_p0ru 0) (a_p0no 0) (a_p0fo 0) (a_p0rd 0) (a_p0pa 0) sv_p0 p0_0) (wRules k a_p0ru p0ru_0) (wCourt k a_p0no p0no_j224 ++ wCourt k a_p0fo p0fo_j224 ++ wPast k a_p0pa pp_j224 p0pa_j224 ++ poolW k pp_j224 p0pa_j224.2) (wRules k a_p0ru p0ru_0) 1 3 (by simp only [List.append_assoc, List.nil_append, List.append_nil]) rfl rfl rfl, blk_put (wMCo k a_p0 (a_p0in 0) (a_p0ou 0) (a_p0ru 0) (a_p0no 0) (a_p0fo 0) (a_p0rd 0) (a_p0pa 0) sv_p0 p0_0 ++ wRules k a_p0ru p0ru_0) (wCourt k a_p0no p0no_j224) (wCourt k a_p0fo p0fo_j224 ++ wPast k a_p0pa pp_j224 p0pa_j224 ++ poolW k pp_j224 p0pa_j224.2) (wCourt k a_p0no p0no_j224) 4 12 (by simp only [List.append_assoc, List.nil_append, List.append_nil]) rfl rfl rfl, blk_put (wMCo k a_p0 (a_p0in 0) (a_p0ou 0) (a_p0ru 0) (a_p0no 0) (a_p0fo 0) (a_p0rd 0) (a_p0pa 0) sv_p0 p0_0 ++ wRules k a_p0ru p0ru_0 ++ wCourt k a_p0no p0no_j224) (wCourt k a_p0fo p0fo_j224) (wPast k a_p0pa pp_j224 p0pa_j224 ++ poolW k pp_j224 p0pa_j224.2) (wCourt k a_p0fo (u)) 16 12 (by simp only [List.append_assoc, List.nil_append, List.append_nil]) rfl rfl rfl]; try simp only [List.append_assoc, List.nil_append, List.append_nil]) (fun r u H locs hp hW => ?_)
      cases hp
      have hW : WD k A s.heap ((wMCo k a_p0 (a_p0in 0) (a_p0ou 0) (a_p0ru 0) (a_p0no 0) (a_p0fo 0) (a_p0rd 0) (a_p0pa 0) sv_p0 p0_0 ++ wRules k a_p0ru p0ru_0 ++ wCourt k a_p0no p0no_j224 ++ wCourt k a_p0fo p0fo_17 ++ wPast k a_p0pa pp_j224 p0pa_j224) ++ poolW k pp_j224 p0pa_j224.2) H locs := hW
      refine k_istore (lv' := [(16, .int r_18), (15, .int s0_j224), (1, .ref (a_p0 0)), (2, .int v2_0), (3, .int v3_0), (5, .int w5_j224), (6, .int w6_j224), (7, .int w7_j224), (8, .int w8_j224), (9, .int w9_j224), (10, .int w10_j224), (11, .int w11_j224), (12, .int w12_j224), (13, .int w13_j224), (14, .int w14_j224)]) E rfl hl dL_law_232 (by decide) rfl (fun ls hl => ?_)
      refine k_aload_n E hl 2 dL_law_234 rfl ?_
      refine k_iload E hl 6 dL_law_235 rfl ?_
      obtain ⟨p0no_20, p0pa_21, r_22, cd_23, hg, hf⟩ := ob4 hf
      by_cases hcd : cd_23 = 0
      rotate_left
      · have hf := oF hcd hf
        exact o0 hf
      replace hf := oT hcd hf
      refine k_callGi (As := [.int w6_j224]) (rest := []) (ws2 := fun u => (wMCo k a_p0 (a_p0in 0) (a_p0ou 0) (a_p0ru 0) (a_p0no 0) (a_p0fo 0) (a_p0rd 0) (a_p0pa 0) sv_p0 p0_0 ++ wRules k a_p0ru p0ru_0 ++ wCourt k a_p0no (u.1) ++ wCourt k a_p0fo p0fo_17 ++ wPast k a_p0pa (u.2.2) (u.2.1)) ++ poolW k (u.2.2) (u.2.1).2) (c_X8_run n l k a_p0 a_p0in a_p0ou a_p0ru a_p0no a_p0fo a_p0rd a_p0pa pp_j224 sv_p0 p0_0 p0ru_0 p0no_j224 p0pa_j224 w6_j224 (p0no_20, p0pa_21, r_22, cd_23) hg hcd) E vl_L_105 dL_law_237 rfl (List.range' 0 1 ++ List.range' 1 3 ++ List.range' 4 12 ++ List.range' 28 2) 8 0 hW hA hl rfl (by simp only [List.map_append]; exact app2 (app2 (app2 (blk_map [] (wMCo k a_p0 (a_p0in 0) (a_p0ou 0) (a_p0ru 0) (a_p0no 0) (a_p0fo 0) (a_p0rd 0) (a_p0pa 0) sv_p0 p0_0) (wRules k a_p0ru p0ru_0 ++ wCourt k a_p0no p0no_j224 ++ wCourt k a_p0fo p0fo_17 ++ wPast k a_p0pa pp_j224 p0pa_j224) 0 1 (by simp only [List.append_assoc, List.nil_append, List.append_nil]) rfl rfl) (blk_map (wMCo k a_p0 (a_p0in 0) (a_p0ou 0) (a_p0ru 0) (a_p0no 0) (a_p0fo 0) (a_p0rd 0) (a_p0pa 0) sv_p0 p0_0) (wRules k a_p0ru p0ru_0) (wCourt k a_p0no p0no_j224 ++ wCourt k a_p0fo p0fo_17 ++ wPast k a_p0pa pp_j224 p0pa_j224) 1 3 (by simp only [List.append_assoc, List.nil_append, List.append_nil]) rfl rfl)) (blk_map (wMCo k a_p0 (a_p0in 0) (a_p0ou 0) (a_p0ru 0) (a_p0no 0) (a_p0fo 0) (a_p0rd 0) (a_p0pa 0) sv_p0 p0_0 ++ wRules k a_p0ru p0ru_0) (wCourt k a_p0no p0no_j224) (wCourt k a_p0fo p0fo_17 ++ wPast k a_p0pa pp_j224 p0pa_j224) 4 12 (by simp only [List.append_assoc, List.nil_append, List.append_nil]) rfl rfl)) (blk_map (wMCo k a_p0 (a_p0in 0) (a_p0ou 0) (a_p0ru 0) (a_p0no 0) (a_p0fo 0) (a_p0rd 0) (a_p0pa 0) sv_p0 p0_0 ++ wRules k a_p0ru p0ru_0 ++ wCourt k a_p0no p0no_j224 ++ wCourt k a_p0fo p0fo_17) (wPast k a_p0pa pp_j224 p0pa_j224) [] 28 2 (by simp only [List.append_assoc, List.nil_append, List.append_nil]) rfl rfl)) rfl rfl ⟨by decide, by decide⟩ ⟨by decide, by decide⟩ (Nat.le_of_ble_eq_true rfl) rfl (fun _ => rfl) (fun u => by show putW _ (_ ++ _) (_ ++ _) ++ _ = _; rw [putW_app _ _ _ _ _ rfl, putW_app _ _ _ _ _ rfl, putW_app _ _ _ _ _ rfl, blk_put [] (wMCo k a_p0 (a_p0in 0) (a_p0ou 0) (a_p0ru 0) (a_p0no 0) (a_p0fo 0) (a_p0rd 0) (a_p0pa 0) sv_p0 p0_0) (wRules k a_p0ru p0ru_0 ++ wCourt k a_p0no p0no_j224 ++ wCourt k a_p0fo p0fo_17 ++ wPast k a_p0pa pp_j224 p0pa_j224) (wMCo k a_p0 (a_p0in 0) (a_p0ou 0) (a_p0ru 0) (a_p0no 0) (a_p0fo 0) (a_p0rd 0) (a_p0pa 0) sv_p0 p0_0) 0 1 (by simp only [List.append_assoc, List.nil_append, List.append_nil]) rfl rfl rfl, blk_put (wMCo k a_p0 (a_p0in 0) (a_p0ou 0) (a_p0ru 0) (a_p0no 0) (a_p0fo 0) (a_p0rd 0) (a_p0pa 0) sv_p0 p0_0) (wRules k a_p0ru p0ru_0) (wCourt k a_p0no p0no_j224 ++ wCourt k a_p0fo p0fo_17 ++ wPast k a_p0pa pp_j224 p0pa_j224) (wRules k a_p0ru p0ru_0) 1 3 (by simp only [List.append_assoc, List.nil_append, List.append_nil]) rfl rfl rfl, blk_put (wMCo k a_p0 (a_p0in 0) (a_p0ou 0) (a_p0ru 0) (a_p0no 0) (a_p0fo 0) (a_p0rd 0) (a_p0pa 0) sv_p0 p0_0 ++ wRules k a_p0ru p0ru_0) (wCourt k a_p0no p0no_j224) (wCourt k a_p0fo p0fo_17 ++ wPast k a_p0pa pp_j224 p0pa_j224) (wCourt k a_p0no (u.1)) 4 12 (by simp only [List.append_assoc, List.nil_append, List.append_nil]) rfl rfl rfl, blk_put (wMCo k a_p0 (a_p0in 0) (a_p0ou 0) (a_p0ru 0) (a_p0no 0) (a_p0fo 0) (a_p0rd 0) (a_p0pa 0) sv_p0 p0_0 ++ wRules k a_p0ru p0ru_0 ++ wCourt k a_p0no (u.1) ++ wCourt k a_p0fo p0fo_17) (wPast k a_p0pa pp_j224 p0pa_j224) [] (wPast k a_p0pa (u.2.2) (u.2.1)) 28 2 (by simp only [List.append_assoc, List.nil_append, List.append_nil]) rfl rfl rfl]; try simp only [List.append_assoc, List.nil_append, List.append_nil]) (fun r u H locs hp hW => ?_)
      obtain ⟨u0, u1, pp_24⟩ := u
      try dsimp only at hp
      cases hp
      have hW : WD k A s.heap ((wMCo k a_p0 (a_p0in 0) (a_p0ou 0) (a_p0ru 0) (a_p0no 0) (a_p0fo 0) (a_p0rd 0) (a_p0pa 0) sv_p0 p0_0 ++ wRules k a_p0ru p0ru_0 ++ wCourt k a_p0no p0no_20 ++ wCourt k a_p0fo p0fo_17 ++ wPast k a_p0pa pp_24 p0pa_21) ++ poolW k pp_24 p0pa_21.2) H locs := hW
      refine k_istore (lv' := [(17, .int r_22), (16, .int r_18), (15, .int s0_j224), (1, .ref (a_p0 0)), (2, .int v2_0), (3, .int v3_0), (5, .int w5_j224), (6, .int w6_j224), (7, .int w7_j224), (8, .int w8_j224), (9, .int w9_j224), (10, .int w10_j224), (11, .int w11_j224), (12, .int w12_j224), (13, .int w13_j224), (14, .int w14_j224)]) E rfl hl dL_law_240 (by decide) rfl (fun ls hl => ?_)
      refine k_aload_n E hl 3 dL_law_242 rfl ?_
      refine lv_bipush (v := (15 : Int32)) E.hx E.hb dL_law_243 bp_15 ?_
      obtain ⟨r_25, hg, hf⟩ := ob hf
      refine k_callVi (As := [.int (15 : Int32)]) (rest := []) (ws2 := fun u => (wMCo k a_p0 (a_p0in 0) (a_p0ou 0) (a_p0ru 0) (a_p0no 0) (a_p0fo 0) (a_p0rd 0) (a_p0pa 0) sv_p0 p0_0 ++ wRules k a_p0ru p0ru_0 ++ wCourt k a_p0no p0no_20 ++ wCourt k a_p0fo p0fo_17 ++ wPast k a_p0pa pp_24 p0pa_21) ++ poolW k pp_24 p0pa_21.2) (c_X8_count n l k a_p0 a_p0in a_p0ou a_p0ru a_p0no a_p0fo a_p0rd a_p0pa pp_24 sv_p0 p0_0 p0ru_0 p0no_20 p0pa_21 (15 : Int32) r_25 hg) E vl_L_84 dL_law_245 rfl (List.range' 0 1 ++ List.range' 1 3 ++ List.range' 4 12 ++ List.range' 28 2) 8 0 hW hA hl rfl (by simp only [List.map_append]; exact app2 (app2 (app2 (blk_map [] (wMCo k a_p0 (a_p0in 0) (a_p0ou 0) (a_p0ru 0) (a_p0no 0) (a_p0fo 0) (a_p0rd 0) (a_p0pa 0) sv_p0 p0_0) (wRules k a_p0ru p0ru_0 ++ wCourt k a_p0no p0no_20 ++ wCourt k a_p0fo p0fo_17 ++ wPast k a_p0pa pp_24 p0pa_21 ++ poolW k pp_24 p0pa_21.2) 0 1 (by simp only [List.append_assoc, List.nil_append, List.append_nil]) rfl rfl) (blk_map (wMCo k a_p0 (a_p0in 0) (a_p0ou 0) (a_p0ru 0) (a_p0no 0) (a_p0fo 0) (a_p0rd 0) (a_p0pa 0) sv_p0 p0_0) (wRules k a_p0ru p0ru_0) (wCourt k a_p0no p0no_20 ++ wCourt k a_p0fo p0fo_17 ++ wPast k a_p0pa pp_24 p0pa_21 ++ poolW k pp_24 p0pa_21.2) 1 3 (by simp only [List.append_assoc, List.nil_append, List.append_nil]) rfl rfl)) (blk_map (wMCo k a_p0 (a_p0in 0) (a_p0ou 0) (a_p0ru 0) (a_p0no 0) (a_p0fo 0) (a_p0rd 0) (a_p0pa 0) sv_p0 p0_0 ++ wRules k a_p0ru p0ru_0) (wCourt k a_p0no p0no_20) (wCourt k a_p0fo p0fo_17 ++ wPast k a_p0pa pp_24 p0pa_21 ++ poolW k pp_24 p0pa_21.2) 4 12 (by simp only [List.append_assoc, List.nil_append, List.append_nil]) rfl rfl)) (blk_map (wMCo k a_p0 (a_p0in 0) (a_p0ou 0) (a_p0ru 0) (a_p0no 0) (a_p0fo 0) (a_p0rd 0) (a_p0pa 0) sv_p0 p0_0 ++ wRules k a_p0ru p0ru_0 ++ wCourt k a_p0no p0no_20 ++ wCourt k a_p0fo p0fo_17) (wPast k a_p0pa pp_24 p0pa_21) (poolW k pp_24 p0pa_21.2) 28 2 (by simp only [List.append_assoc, List.nil_append, List.append_nil]) rfl rfl)) rfl rfl ⟨by decide, by decide⟩ ⟨by decide, by decide⟩ (Nat.le_of_ble_eq_true rfl) rfl (fun _ => rfl) (fun u => by show putW _ (_ ++ _) (_ ++ _) = _; rw [putW_app _ _ _ _ _ rfl, putW_app _ _ _ _ _ rfl, putW_app _ _ _ _ _ rfl, blk_put [] (wMCo k a_p0 (a_p0in 0) (a_p0ou 0) (a_p0ru 0) (a_p0no 0) (a_p0fo 0) (a_p0rd 0) (a_p0pa 0) sv_p0 p0_0) (wRules k a_p0ru p0ru_0 ++ wCourt k a_p0no p0no_20 ++ wCourt k a_p0fo p0fo_17 ++ wPast k a_p0pa pp_24 p0pa_21 ++ poolW k pp_24 p0pa_21.2) (wMCo k a_p0 (a_p0in 0) (a_p0ou 0) (a_p0ru 0) (a_p0no 0) (a_p0fo 0) (a_p0rd 0) (a_p0pa 0) sv_p0 p0_0) 0 1 (by simp only [List.append_assoc, List.nil_append, List.append_nil]) rfl rfl rfl, blk_put (wMCo k a_p0 (a_p0in 0) (a_p0ou 0) (a_p0ru 0) (a_p0no 0) (a_p0fo 0) (a_p0rd 0) (a_p0pa 0) sv_p0 p0_0) (wRules k a_p0ru p0ru_0) (wCourt k a_p0no p0no_20 ++ wCourt k a_p0fo p0fo_17 ++ wPast k a_p0pa pp_24 p0pa_21 ++ poolW k pp_24 p0pa_21.2) (wRules k a_p0ru p0ru_0) 1 3 (by simp only [List.append_assoc, List.nil_append, List.append_nil]) rfl rfl rfl, blk_put (wMCo k a_p0 (a_p0in 0) (a_p0ou 0) (a_p0ru 0) (a_p0no 0) (a_p0fo 0) (a_p0rd 0) (a_p0pa 0) sv_p0 p0_0 ++ wRules k a_p0ru p0ru_0) (wCourt k a_p0no p0no_20) (wCourt k a_p0fo p0fo_17 ++ wPast k a_p0pa pp_24 p0pa_21 ++ poolW k pp_24 p0pa_21.2) (wCourt k a_p0no p0no_20) 4 12 (by simp only [List.append_assoc, List.nil_append, List.append_nil]) rfl rfl rfl, blk_put (wMCo k a_p0 (a_p0in 0) (a_p0ou 0) (a_p0ru 0) (a_p0no 0) (a_p0fo 0) (a_p0rd 0) (a_p0pa 0) sv_p0 p0_0 ++ wRules k a_p0ru p0ru_0 ++ wCourt k a_p0no p0no_20 ++ wCourt k a_p0fo p0fo_17) (wPast k a_p0pa pp_24 p0pa_21) (poolW k pp_24 p0pa_21.2) (wPast k a_p0pa pp_24 p0pa_21) 28 2 (by simp only [List.append_assoc, List.nil_append, List.append_nil]) rfl rfl rfl]; try simp only [List.append_assoc, List.nil_append, List.append_nil]) (fun r u H locs hp hW => ?_)
      cases hp
      have hW : WD k A s.heap ((wMCo k a_p0 (a_p0in 0) (a_p0ou 0) (a_p0ru 0) (a_p0no 0) (a_p0fo 0) (a_p0rd 0) (a_p0pa 0) sv_p0 p0_0 ++ wRules k a_p0ru p0ru_0 ++ wCourt k a_p0no p0no_20 ++ wCourt k a_p0fo p0fo_17 ++ wPast k a_p0pa pp_24 p0pa_21) ++ poolW k pp_24 p0pa_21.2) H locs := hW
      refine k_iload E hl 9 dL_law_248 rfl ?_
      refine k_iload E hl 0 dL_law_250 rfl ?_
      refine lv_iadd E.hx E.hb dL_law_252 ?_
      refine lv_icmp_ne (tgt := 314) E.hx E.hb dL_law_253 (by decide) (fun hc => ?_) (fun hc => ?_)
      · have hf := oF hc hf
        refine lv_iconst (v := (0 : Int32)) E.hx E.hb dL_law_314 ic_0 ?_
        exact o0 hf
      · have hf := oT hc hf
        refine k_aload_n E hl 3 dL_law_256 rfl ?_
        refine lv_iconst (v := (2 : Int32)) E.hx E.hb dL_law_257 ic_2 ?_
        obtain ⟨r_26, hg, hf⟩ := ob hf
        refine k_callVi (As := [.int (2 : Int32)]) (rest := []) (ws2 := fun u => (wMCo k a_p0 (a_p0in 0) (a_p0ou 0) (a_p0ru 0) (a_p0no 0) (a_p0fo 0) (a_p0rd 0) (a_p0pa 0) sv_p0 p0_0 ++ wRules k a_p0ru p0ru_0 ++ wCourt k a_p0no p0no_20 ++ wCourt k a_p0fo p0fo_17 ++ wPast k a_p0pa pp_24 p0pa_21) ++ poolW k pp_24 p0pa_21.2) (c_X8_count n l k a_p0 a_p0in a_p0ou a_p0ru a_p0no a_p0fo a_p0rd a_p0pa pp_24 sv_p0 p0_0 p0ru_0 p0no_20 p0pa_21 (2 : Int32) r_26 hg) E vl_L_84 dL_law_258 rfl (List.range' 0 1 ++ List.range' 1 3 ++ List.range' 4 12 ++ List.range' 28 2) 8 0 hW hA hl rfl (by simp only [List.map_append]; exact app2 (app2 (app2 (blk_map [] (wMCo k a_p0 (a_p0in 0) (a_p0ou 0) (a_p0ru 0) (a_p0no 0) (a_p0fo 0) (a_p0rd 0) (a_p0pa 0) sv_p0 p0_0) (wRules k a_p0ru p0ru_0 ++ wCourt k a_p0no p0no_20 ++ wCourt k a_p0fo p0fo_17 ++ wPast k a_p0pa pp_24 p0pa_21 ++ poolW k pp_24 p0pa_21.2) 0 1 (by simp only [List.append_assoc, List.nil_append, List.append_nil]) rfl rfl) (blk_map (wMCo k a_p0 (a_p0in 0) (a_p0ou 0) (a_p0ru 0) (a_p0no 0) (a_p0fo 0) (a_p0rd 0) (a_p0pa 0) sv_p0 p0_0) (wRules k a_p0ru p0ru_0) (wCourt k a_p0no p0no_20 ++ wCourt k a_p0fo p0fo_17 ++ wPast k a_p0pa pp_24 p0pa_21 ++ poolW k pp_24 p0pa_21.2) 1 3 (by simp only [List.append_assoc, List.nil_append, List.append_nil]) rfl rfl)) (blk_map (wMCo k a_p0 (a_p0in 0) (a_p0ou 0) (a_p0ru 0) (a_p0no 0) (a_p0fo 0) (a_p0rd 0) (a_p0pa 0) sv_p0 p0_0 ++ wRules k a_p0ru p0ru_0) (wCourt k a_p0no p0no_20) (wCourt k a_p0fo p0fo_17 ++ wPast k a_p0pa pp_24 p0pa_21 ++ poolW k pp_24 p0pa_21.2) 4 12 (by simp only [List.append_assoc, List.nil_append, List.append_nil]) rfl rfl)) (blk_map (wMCo k a_p0 (a_p0in 0) (a_p0ou 0) (a_p0ru 0) (a_p0no 0) (a_p0fo 0) (a_p0rd 0) (a_p0pa 0) sv_p0 p0_0 ++ wRules k a_p0ru p0ru_0 ++ wCourt k a_p0no p0no_20 ++ wCourt k a_p0fo p0fo_17) (wPast k a_p0pa pp_24 p0pa_21) (poolW k pp_24 p0pa_21.2) 28 2 (by simp only [List.append_assoc, List.nil_append, List.append_nil]) rfl rfl)) rfl rfl ⟨by decide, by decide⟩ ⟨by decide, by decide⟩ (Nat.le_of_ble_eq_true rfl) rfl (fun _ => rfl) (fun u => by show putW _ (_ ++ _) (_ ++ _) = _; rw [putW_app _ _ _ _ _ rfl, putW_app _ _ _ _ _ rfl, putW_app _ _ _ _ _ rfl, blk_put [] (wMCo k a_p0 (a_p0in 0) (a_p0ou 0) (a_p0ru 0) (a_p0no 0) (a_p0fo 0) (a_p0rd 0) (a_p0pa 0) sv_p0 p0_0) (wRules k a_p0ru p0ru_0 ++ wCourt k a_p0no p0no_20 ++ wCourt k a_p0fo p0fo_17 ++ wPast k a_p0pa pp_24 p0pa_21 ++ poolW k pp_24 p0pa_21.2) (wMCo k a_p0 (a_p0in 0) (a_p0ou 0) (a_p0ru 0) (a_p0no 0) (a_p0fo 0) (a_p0rd 0) (a_p0pa 0) sv_p0 p0_0) 0 1 (by simp only [List.append_assoc, List.nil_append, List.append_nil]) rfl rfl rfl, blk_put (wMCo k a_p0 (a_p0in 0) (a_p0ou 0) (a_p0ru 0) (a_p0no 0) (a_p0fo 0) (a_p0rd 0) (a_p0pa 0) sv_p0 p0_0) (wRules k a_p0ru p0ru_0) (wCourt k a_p0no p0no_20 ++ wCourt k a_p0fo p0fo_17 ++ wPast k a_p0pa pp_24 p0pa_21 ++ poolW k pp_24 p0pa_21.2) (wRules k a_p0ru p0ru_0) 1 3 (by simp only [List.append_assoc, List.nil_append, List.append_nil]) rfl rfl rfl, blk_put (wMCo k a_p0 (a_p0in 0) (a_p0ou 0) (a_p0ru 0) (a_p0no 0) (a_p0fo 0) (a_p0rd 0) (a_p0pa 0) sv_p0 p0_0 ++ wRules k a_p0ru p0ru_0) (wCourt k a_p0no p0no_20) (wCourt k a_p0fo p0fo_17 ++ wPast k a_p0pa pp_24 p0pa_21 ++ poolW k pp_24 p0pa_21.2) (wCourt k a_p0no p0no_20) 4 12 (by simp only [List.append_assoc, List.nil_append, List.append_nil]) rfl rfl rfl, blk_put (wMCo k a_p0 (a_p0in 0) (a_p0ou 0) (a_p0ru 0) (a_p0no 0) (a_p0fo 0) (a_p0rd 0) (a_p0pa 0) sv_p0 p0_0 ++ wRules k a_p0ru p0ru_0 ++ wCourt k a_p0no p0no_20 ++ wCourt k a_p0fo p0fo_17) (wPast k a_p0pa pp_24 p0pa_21) (poolW k pp_24 p0pa_21.2) (wPast k a_p0pa pp_24 p0pa_21) 28 2 (by simp only [List.append_assoc, List.nil_append, List.append_nil]) rfl rfl rfl]; try simp only [List.append_assoc, List.nil_append, List.append_nil]) (fun r u H locs hp hW => ?_)
        cases hp
        have hW : WD k A s.heap ((wMCo k a_p0 (a_p0in 0) (a_p0ou 0) (a_p0ru 0) (a_p0no 0) (a_p0fo 0) (a_p0rd 0) (a_p0pa 0) sv_p0 p0_0 ++ wRules k a_p0ru p0ru_0 ++ wCourt k a_p0no p0no_20 ++ wCourt k a_p0fo p0fo_17 ++ wPast k a_p0pa pp_24 p0pa_21) ++ poolW k pp_24 p0pa_21.2) H locs := hW
        refine k_iload E hl 8 dL_law_261 rfl ?_
        refine k_iload E hl 7 dL_law_263 rfl ?_
        refine lv_iadd E.hx E.hb dL_law_265 ?_
        refine lv_icmp_ne (tgt := 314) E.hx E.hb dL_law_266 (by decide) (fun hc => ?_) (fun hc => ?_)
        · have hf := oF hc hf
          refine lv_iconst (v := (0 : Int32)) E.hx E.hb dL_law_314 ic_0 ?_
          exact o0 hf
        · have hf := oT hc hf
          refine k_aload_n E hl 3 dL_law_269 rfl ?_
          refine k_iload E hl 6 dL_law_270 rfl ?_
          refine lv_iconst (v := (0 : Int32)) E.hx E.hb dL_law_272 ic_0 ?_
          obtain ⟨r_27, cd_28, hg, hf⟩ := ob2 hf
          by_cases hcd : cd_28 = 0
          rotate_left
          · have hf := oF hcd hf
            exact o0 hf
          replace hf := oT hcd hf
          refine k_callVi (As := [.int w5_j224, .int (0 : Int32)]) (rest := []) (ws2 := fun u => (wMCo k a_p0 (a_p0in 0) (a_p0ou 0) (a_p0ru 0) (a_p0no 0) (a_p0fo 0) (a_p0rd 0) (a_p0pa 0) sv_p0 p0_0 ++ wRules k a_p0ru p0ru_0 ++ wCourt k a_p0no p0no_20 ++ wCourt k a_p0fo p0fo_17 ++ wPast k a_p0pa pp_24 p0pa_21) ++ poolW k pp_24 p0pa_21.2) (c_X8_process n l k a_p0 a_p0in a_p0ou a_p0ru a_p0no a_p0fo a_p0rd a_p0pa sv_p0 p0_0 p0ru_0 p0no_20 w5_j224 (0 : Int32) (r_27, cd_28) hg hcd) E vl_L_123 dL_law_273 rfl (List.range' 0 1 ++ List.range' 1 3 ++ List.range' 4 12) 8 0 hW hA hl rfl (by simp only [List.map_append]; exact app2 (app2 (blk_map [] (wMCo k a_p0 (a_p0in 0) (a_p0ou 0) (a_p0ru 0) (a_p0no 0) (a_p0fo 0) (a_p0rd 0) (a_p0pa 0) sv_p0 p0_0) (wRules k a_p0ru p0ru_0 ++ wCourt k a_p0no p0no_20 ++ wCourt k a_p0fo p0fo_17 ++ wPast k a_p0pa pp_24 p0pa_21 ++ poolW k pp_24 p0pa_21.2) 0 1 (by simp only [List.append_assoc, List.nil_append, List.append_nil]) rfl rfl) (blk_map (wMCo k a_p0 (a_p0in 0) (a_p0ou 0) (a_p0ru 0) (a_p0no 0) (a_p0fo 0) (a_p0rd 0) (a_p0pa 0) sv_p0 p0_0) (wRules k a_p0ru p0ru_0) (wCourt k a_p0no p0no_20 ++ wCourt k a_p0fo p0fo_17 ++ wPast k a_p0pa pp_24 p0pa_21 ++ poolW k pp_24 p0pa_21.2) 1 3 (by simp only [List.append_assoc, List.nil_append, List.append_nil]) rfl rfl)) (blk_map (wMCo k a_p0 (a_p0in 0) (a_p0ou 0) (a_p0ru 0) (a_p0no 0) (a_p0fo 0) (a_p0rd 0) (a_p0pa 0) sv_p0 p0_0 ++ wRules k a_p0ru p0ru_0) (wCourt k a_p0no p0no_20) (wCourt k a_p0fo p0fo_17 ++ wPast k a_p0pa pp_24 p0pa_21 ++ poolW k pp_24 p0pa_21.2) 4 12 (by simp only [List.append_assoc, List.nil_append, List.append_nil]) rfl rfl)) rfl rfl ⟨by decide, by decide⟩ ⟨by decide, by decide⟩ (Nat.le_of_ble_eq_true rfl) rfl (fun _ => rfl) (fun u => by show putW _ (_ ++ _) (_ ++ _) = _; rw [putW_app _ _ _ _ _ rfl, putW_app _ _ _ _ _ rfl, blk_put [] (wMCo k a_p0 (a_p0in 0) (a_p0ou 0) (a_p0ru 0) (a_p0no 0) (a_p0fo 0) (a_p0rd 0) (a_p0pa 0) sv_p0 p0_0) (wRules k a_p0ru p0ru_0 ++ wCourt k a_p0no p0no_20 ++ wCourt k a_p0fo p0fo_17 ++ wPast k a_p0pa pp_24 p0pa_21 ++ poolW k pp_24 p0pa_21.2) (wMCo k a_p0 (a_p0in 0) (a_p0ou 0) (a_p0ru 0) (a_p0no 0) (a_p0fo 0) (a_p0rd 0) (a_p0pa 0) sv_p0 p0_0) 0 1 (by simp only [List.append_assoc, List.nil_append, List.append_nil]) rfl rfl rfl, blk_put (wMCo k a_p0 (a_p0in 0) (a_p0ou 0) (a_p0ru 0) (a_p0no 0) (a_p0fo 0) (a_p0rd 0) (a_p0pa 0) sv_p0 p0_0) (wRules k a_p0ru p0ru_0) (wCourt k a_p0no p0no_20 ++ wCourt k a_p0fo p0fo_17 ++ wPast k a_p0pa pp_24 p0pa_21 ++ poolW k pp_24 p0pa_21.2) (wRules k a_p0ru p0ru_0) 1 3 (by simp only [List.append_assoc, List.nil_append, List.append_nil]) rfl rfl rfl, blk_put (wMCo k a_p0 (a_p0in 0) (a_p0ou 0) (a_p0ru 0) (a_p0no 0) (a_p0fo 0) (a_p0rd 0) (a_p0pa 0) sv_p0 p0_0 ++ wRules k a_p0ru p0ru_0) (wCourt k a_p0no p0no_20) (wCourt k a_p0fo p0fo_17 ++ wPast k a_p0pa pp_24 p0pa_21 ++ poolW k pp_24 p0pa_21.2) (wCourt k a_p0no p0no_20) 4 12 (by simp only [List.append_assoc, List.nil_append, List.append_nil]) rfl rfl rfl]; try simp only [List.append_assoc, List.nil_append, List.append_nil]) (fun r u H locs hp hW => ?_)
          cases hp
          have hW : WD k A s.heap ((wMCo k a_p0 (a_p0in 0) (a_p0ou 0) (a_p0ru 0) (a_p0no 0) (a_p0fo 0) (a_p0rd 0) (a_p0pa 0) sv_p0 p0_0 ++ wRules k a_p0ru p0ru_0 ++ wCourt k a_p0no p0no_20 ++ wCourt k a_p0fo p0fo_17 ++ wPast k a_p0pa pp_24 p0pa_21) ++ poolW k pp_24 p0pa_21.2) H locs := hW
          refine k_iload E hl 11 dL_law_276 rfl ?_
          refine lv_icmp_ne (tgt := 314) E.hx E.hb dL_law_278 (by decide) (fun hc => ?_) (fun hc => ?_)
          · have hf := oF hc hf
            refine lv_iconst (v := (0 : Int32)) E.hx E.hb dL_law_314 ic_0 ?_
            exact o0 hf
          · have hf := oT hc hf
            refine k_aload_n E hl 3 dL_law_281 rfl ?_
            refine k_iload E hl 6 dL_law_282 rfl ?_
            refine lv_iconst (v := (1 : Int32)) E.hx E.hb dL_law_284 ic_1 ?_
            obtain ⟨r_29, cd_30, hg, hf⟩ := ob2 hf
            by_cases hcd : cd_30 = 0
            rotate_left
            · have hf := oF hcd hf
              exact o0 hf
            replace hf := oT hcd hf
            refine k_callVi (As := [.int w5_j224, .int (1 : Int32)]) (rest := []) (ws2 := fun u => (wMCo k a_p0 (a_p0in 0) (a_p0ou 0) (a_p0ru 0) (a_p0no 0) (a_p0fo 0) (a_p0rd 0) (a_p0pa 0) sv_p0 p0_0 ++ wRules k a_p0ru p0ru_0 ++ wCourt k a_p0no p0no_20 ++ wCourt k a_p0fo p0fo_17 ++ wPast k a_p0pa pp_24 p0pa_21) ++ poolW k pp_24 p0pa_21.2) (c_X8_process n l k a_p0 a_p0in a_p0ou a_p0ru a_p0no a_p0fo a_p0rd a_p0pa sv_p0 p0_0 p0ru_0 p0no_20 w5_j224 (1 : Int32) (r_29, cd_30) hg hcd) E vl_L_123 dL_law_285 rfl (List.range' 0 1 ++ List.range' 1 3 ++ List.range' 4 12) 8 0 hW hA hl rfl (by simp only [List.map_append]; exact app2 (app2 (blk_map [] (wMCo k a_p0 (a_p0in 0) (a_p0ou 0) (a_p0ru 0) (a_p0no 0) (a_p0fo 0) (a_p0rd 0) (a_p0pa 0) sv_p0 p0_0) (wRules k a_p0ru p0ru_0 ++ wCourt k a_p0no p0no_20 ++ wCourt k a_p0fo p0fo_17 ++ wPast k a_p0pa pp_24 p0pa_21 ++ poolW k pp_24 p0pa_21.2) 0 1 (by simp only [List.append_assoc, List.nil_append, List.append_nil]) rfl rfl) (blk_map (wMCo k a_p0 (a_p0in 0) (a_p0ou 0) (a_p0ru 0) (a_p0no 0) (a_p0fo 0) (a_p0rd 0) (a_p0pa 0) sv_p0 p0_0) (wRules k a_p0ru p0ru_0) (wCourt k a_p0no p0no_20 ++ wCourt k a_p0fo p0fo_17 ++ wPast k a_p0pa pp_24 p0pa_21 ++ poolW k pp_24 p0pa_21.2) 1 3 (by simp only [List.append_assoc, List.nil_append, List.append_nil]) rfl rfl)) (blk_map (wMCo k a_p0 (a_p0in 0) (a_p0ou 0) (a_p0ru 0) (a_p0no 0) (a_p0fo 0) (a_p0rd 0) (a_p0pa 0) sv_p0 p0_0 ++ wRules k a_p0ru p0ru_0) (wCourt k a_p0no p0no_20) (wCourt k a_p0fo p0fo_17 ++ wPast k a_p0pa pp_24 p0pa_21 ++ poolW k pp_24 p0pa_21.2) 4 12 (by simp only [List.append_assoc, List.nil_append, List.append_nil]) rfl rfl)) rfl rfl ⟨by decide, by decide⟩ ⟨by decide, by decide⟩ (Nat.le_of_ble_eq_true rfl) rfl (fun _ => rfl) (fun u => by show putW _ (_ ++ _) (_ ++ _) = _; rw [putW_app _ _ _ _ _ rfl, putW_app _ _ _ _ _ rfl, blk_put [] (wMCo k a_p0 (a_p0in 0) (a_p0ou 0) (a_p0ru 0) (a_p0no 0) (a_p0fo 0) (a_p0rd 0) (a_p0pa 0) sv_p0 p0_0) (wRules k a_p0ru p0ru_0 ++ wCourt k a_p0no p0no_20 ++ wCourt k a_p0fo p0fo_17 ++ wPast k a_p0pa pp_24 p0pa_21 ++ poolW k pp_24 p0pa_21.2) (wMCo k a_p0 (a_p0in 0) (a_p0ou 0) (a_p0ru 0) (a_p0no 0) (a_p0fo 0) (a_p0rd 0) (a_p0pa 0) sv_p0 p0_0) 0 1 (by simp only [List.append_assoc, List.nil_append, List.append_nil]) rfl rfl rfl, blk_put (wMCo k a_p0 (a_p0in 0) (a_p0ou 0) (a_p0ru 0) (a_p0no 0) (a_p0fo 0) (a_p0rd 0) (a_p0pa 0) sv_p0 p0_0) (wRules k a_p0ru p0ru_0) (wCourt k a_p0no p0no_20 ++ wCourt k a_p0fo p0fo_17 ++ wPast k a_p0pa pp_24 p0pa_21 ++ poolW k pp_24 p0pa_21.2) (wRules k a_p0ru p0ru_0) 1 3 (by simp only [List.append_assoc, List.nil_append, List.append_nil]) rfl rfl rfl, blk_put (wMCo k a_p0 (a_p0in 0) (a_p0ou 0) (a_p0ru 0) (a_p0no 0) (a_p0fo 0) (a_p0rd 0) (a_p0pa 0) sv_p0 p0_0 ++ wRules k a_p0ru p0ru_0) (wCourt k a_p0no p0no_20) (wCourt k a_p0fo p0fo_17 ++ wPast k a_p0pa pp_24 p0pa_21 ++ poolW k pp_24 p0pa_21.2) (wCourt k a_p0no p0no_20) 4 12 (by simp only [List.append_assoc, List.nil_append, List.append_nil]) rfl rfl rfl]; try simp only [List.append_assoc, List.nil_append, List.append_nil]) (fun r u H locs hp hW => ?_)
            cases hp
            have hW : WD k A s.heap ((wMCo k a_p0 (a_p0in 0) (a_p0ou 0) (a_p0ru 0) (a_p0no 0) (a_p0fo 0) (a_p0rd 0) (a_p0pa 0) sv_p0 p0_0 ++ wRules k a_p0ru p0ru_0 ++ wCourt k a_p0no p0no_20 ++ wCourt k a_p0fo p0fo_17 ++ wPast k a_p0pa pp_24 p0pa_21) ++ poolW k pp_24 p0pa_21.2) H locs := hW
            refine k_iload E hl 12 dL_law_288 rfl ?_
            refine lv_icmp_ne (tgt := 314) E.hx E.hb dL_law_290 (by decide) (fun hc => ?_) (fun hc => ?_)
            · have hf := oF hc hf
              refine lv_iconst (v := (0 : Int32)) E.hx E.hb dL_law_314 ic_0 ?_
              exact o0 hf
            · have hf := oT hc hf
              refine k_aload_n E hl 3 dL_law_293 rfl ?_
              refine k_iload E hl 6 dL_law_294 rfl ?_
              refine lv_iconst (v := (3 : Int32)) E.hx E.hb dL_law_296 ic_3 ?_
              obtain ⟨r_31, cd_32, hg, hf⟩ := ob2 hf
              by_cases hcd : cd_32 = 0
              rotate_left
              · have hf := oF hcd hf
                exact o0 hf
              replace hf := oT hcd hf
              refine k_callVi (As := [.int w5_j224, .int (3 : Int32)]) (rest := []) (ws2 := fun u => (wMCo k a_p0 (a_p0in 0) (a_p0ou 0) (a_p0ru 0) (a_p0no 0) (a_p0fo 0) (a_p0rd 0) (a_p0pa 0) sv_p0 p0_0 ++ wRules k a_p0ru p0ru_0 ++ wCourt k a_p0no p0no_20 ++ wCourt k a_p0fo p0fo_17 ++ wPast k a_p0pa pp_24 p0pa_21) ++ poolW k pp_24 p0pa_21.2) (c_X8_process n l k a_p0 a_p0in a_p0ou a_p0ru a_p0no a_p0fo a_p0rd a_p0pa sv_p0 p0_0 p0ru_0 p0no_20 w5_j224 (3 : Int32) (r_31, cd_32) hg hcd) E vl_L_123 dL_law_297 rfl (List.range' 0 1 ++ List.range' 1 3 ++ List.range' 4 12) 8 0 hW hA hl rfl (by simp only [List.map_append]; exact app2 (app2 (blk_map [] (wMCo k a_p0 (a_p0in 0) (a_p0ou 0) (a_p0ru 0) (a_p0no 0) (a_p0fo 0) (a_p0rd 0) (a_p0pa 0) sv_p0 p0_0) (wRules k a_p0ru p0ru_0 ++ wCourt k a_p0no p0no_20 ++ wCourt k a_p0fo p0fo_17 ++ wPast k a_p0pa pp_24 p0pa_21 ++ poolW k pp_24 p0pa_21.2) 0 1 (by simp only [List.append_assoc, List.nil_append, List.append_nil]) rfl rfl) (blk_map (wMCo k a_p0 (a_p0in 0) (a_p0ou 0) (a_p0ru 0) (a_p0no 0) (a_p0fo 0) (a_p0rd 0) (a_p0pa 0) sv_p0 p0_0) (wRules k a_p0ru p0ru_0) (wCourt k a_p0no p0no_20 ++ wCourt k a_p0fo p0fo_17 ++ wPast k a_p0pa pp_24 p0pa_21 ++ poolW k pp_24 p0pa_21.2) 1 3 (by simp only [List.append_assoc, List.nil_append, List.append_nil]) rfl rfl)) (blk_map (wMCo k a_p0 (a_p0in 0) (a_p0ou 0) (a_p0ru 0) (a_p0no 0) (a_p0fo 0) (a_p0rd 0) (a_p0pa 0) sv_p0 p0_0 ++ wRules k a_p0ru p0ru_0) (wCourt k a_p0no p0no_20) (wCourt k a_p0fo p0fo_17 ++ wPast k a_p0pa pp_24 p0pa_21 ++ poolW k pp_24 p0pa_21.2) 4 12 (by simp only [List.append_assoc, List.nil_append, List.append_nil]) rfl rfl)) rfl rfl ⟨by decide, by decide⟩ ⟨by decide, by decide⟩ (Nat.le_of_ble_eq_true rfl) rfl (fun _ => rfl) (fun u => by show putW _ (_ ++ _) (_ ++ _) = _; rw [putW_app _ _ _ _ _ rfl, putW_app _ _ _ _ _ rfl, blk_put [] (wMCo k a_p0 (a_p0in 0) (a_p0ou 0) (a_p0ru 0) (a_p0no 0) (a_p0fo 0) (a_p0rd 0) (a_p0pa 0) sv_p0 p0_0) (wRules k a_p0ru p0ru_0 ++ wCourt k a_p0no p0no_20 ++ wCourt k a_p0fo p0fo_17 ++ wPast k a_p0pa pp_24 p0pa_21 ++ poolW k pp_24 p0pa_21.2) (wMCo k a_p0 (a_p0in 0) (a_p0ou 0) (a_p0ru 0) (a_p0no 0) (a_p0fo 0) (a_p0rd 0) (a_p0pa 0) sv_p0 p0_0) 0 1 (by simp only [List.append_assoc, List.nil_append, List.append_nil]) rfl rfl rfl, blk_put (wMCo k a_p0 (a_p0in 0) (a_p0ou 0) (a_p0ru 0) (a_p0no 0) (a_p0fo 0) (a_p0rd 0) (a_p0pa 0) sv_p0 p0_0) (wRules k a_p0ru p0ru_0) (wCourt k a_p0no p0no_20 ++ wCourt k a_p0fo p0fo_17 ++ wPast k a_p0pa pp_24 p0pa_21 ++ poolW k pp_24 p0pa_21.2) (wRules k a_p0ru p0ru_0) 1 3 (by simp only [List.append_assoc, List.nil_append, List.append_nil]) rfl rfl rfl, blk_put (wMCo k a_p0 (a_p0in 0) (a_p0ou 0) (a_p0ru 0) (a_p0no 0) (a_p0fo 0) (a_p0rd 0) (a_p0pa 0) sv_p0 p0_0 ++ wRules k a_p0ru p0ru_0) (wCourt k a_p0no p0no_20) (wCourt k a_p0fo p0fo_17 ++ wPast k a_p0pa pp_24 p0pa_21 ++ poolW k pp_24 p0pa_21.2) (wCourt k a_p0no p0no_20) 4 12 (by simp only [List.append_assoc, List.nil_append, List.append_nil]) rfl rfl rfl]; try simp only [List.append_assoc, List.nil_append, List.append_nil]) (fun r u H locs hp hW => ?_)
              cases hp
              have hW : WD k A s.heap ((wMCo k a_p0 (a_p0in 0) (a_p0ou 0) (a_p0ru 0) (a_p0no 0) (a_p0fo 0) (a_p0rd 0) (a_p0pa 0) sv_p0 p0_0 ++ wRules k a_p0ru p0ru_0 ++ wCourt k a_p0no p0no_20 ++ wCourt k a_p0fo p0fo_17 ++ wPast k a_p0pa pp_24 p0pa_21) ++ poolW k pp_24 p0pa_21.2) H locs := hW
              refine k_iload E hl 13 dL_law_300 rfl ?_
              refine lv_icmp_ne (tgt := 314) E.hx E.hb dL_law_302 (by decide) (fun hc => ?_) (fun hc => ?_)
              · have hf := oF hc hf
                refine lv_iconst (v := (0 : Int32)) E.hx E.hb dL_law_314 ic_0 ?_
                exact o0 hf
              · have hf := oT hc hf
                refine k_aload_n E hl 3 dL_law_305 rfl ?_
                refine k_iload_n E hl 4 dL_law_306 rfl ?_
                refine k_iload_n E hl 5 dL_law_307 rfl ?_
                obtain ⟨p0no_33, r_34, hg, hf⟩ := ob2 hf
                refine k_callSi (As := [.ref (a_p0 0), .int v2_0, .int v3_0]) (rest := []) (ws2 := fun u => (wMCo k a_p0 (a_p0in 0) (a_p0ou 0) (a_p0ru 0) (a_p0no 0) (a_p0fo 0) (a_p0rd 0) (a_p0pa 0) sv_p0 p0_0 ++ wRules k a_p0ru p0ru_0 ++ wCourt k a_p0no (u) ++ wCourt k a_p0fo p0fo_17 ++ wPast k a_p0pa pp_24 p0pa_21) ++ poolW k pp_24 p0pa_21.2) (c_L_isSound n l k a_p0 a_p0in a_p0ou a_p0ru a_p0no a_p0fo a_p0rd a_p0pa pp_24 sv_p0 p0_0 p0ru_0 p0no_20 p0pa_21 v2_0 v3_0 (p0no_33, r_34) hg) E sl_L_145 dL_law_308 rfl (List.range' 0 1 ++ List.range' 1 3 ++ List.range' 4 12 ++ List.range' 28 2) hW hA hl rfl (by simp only [List.map_append]; exact app2 (app2 (app2 (blk_map [] (wMCo k a_p0 (a_p0in 0) (a_p0ou 0) (a_p0ru 0) (a_p0no 0) (a_p0fo 0) (a_p0rd 0) (a_p0pa 0) sv_p0 p0_0) (wRules k a_p0ru p0ru_0 ++ wCourt k a_p0no p0no_20 ++ wCourt k a_p0fo p0fo_17 ++ wPast k a_p0pa pp_24 p0pa_21 ++ poolW k pp_24 p0pa_21.2) 0 1 (by simp only [List.append_assoc, List.nil_append, List.append_nil]) rfl rfl) (blk_map (wMCo k a_p0 (a_p0in 0) (a_p0ou 0) (a_p0ru 0) (a_p0no 0) (a_p0fo 0) (a_p0rd 0) (a_p0pa 0) sv_p0 p0_0) (wRules k a_p0ru p0ru_0) (wCourt k a_p0no p0no_20 ++ wCourt k a_p0fo p0fo_17 ++ wPast k a_p0pa pp_24 p0pa_21 ++ poolW k pp_24 p0pa_21.2) 1 3 (by simp only [List.append_assoc, List.nil_append, List.append_nil]) rfl rfl)) (blk_map (wMCo k a_p0 (a_p0in 0) (a_p0ou 0) (a_p0ru 0) (a_p0no 0) (a_p0fo 0) (a_p0rd 0) (a_p0pa 0) sv_p0 p0_0 ++ wRules k a_p0ru p0ru_0) (wCourt k a_p0no p0no_20) (wCourt k a_p0fo p0fo_17 ++ wPast k a_p0pa pp_24 p0pa_21 ++ poolW k pp_24 p0pa_21.2) 4 12 (by simp only [List.append_assoc, List.nil_append, List.append_nil]) rfl rfl)) (blk_map (wMCo k a_p0 (a_p0in 0) (a_p0ou 0) (a_p0ru 0) (a_p0no 0) (a_p0fo 0) (a_p0rd 0) (a_p0pa 0) sv_p0 p0_0 ++ wRules k a_p0ru p0ru_0 ++ wCourt k a_p0no p0no_20 ++ wCourt k a_p0fo p0fo_17) (wPast k a_p0pa pp_24 p0pa_21) (poolW k pp_24 p0pa_21.2) 28 2 (by simp only [List.append_assoc, List.nil_append, List.append_nil]) rfl rfl)) ⟨by decide, by decide⟩ ⟨by decide, by decide⟩ (Nat.le_of_ble_eq_true rfl) rfl (fun _ => rfl) (fun u => by show putW _ (_ ++ _) (_ ++ _) = _; rw [putW_app _ _ _ _ _ rfl, putW_app _ _ _ _ _ rfl, putW_app _ _ _ _ _ rfl, blk_put [] (wMCo k a_p0 (a_p0in 0) (a_p0ou 0) (a_p0ru 0) (a_p0no 0) (a_p0fo 0) (a_p0rd 0) (a_p0pa 0) sv_p0 p0_0) (wRules k a_p0ru p0ru_0 ++ wCourt k a_p0no p0no_20 ++ wCourt k a_p0fo p0fo_17 ++ wPast k a_p0pa pp_24 p0pa_21 ++ poolW k pp_24 p0pa_21.2) (wMCo k a_p0 (a_p0in 0) (a_p0ou 0) (a_p0ru 0) (a_p0no 0) (a_p0fo 0) (a_p0rd 0) (a_p0pa 0) sv_p0 p0_0) 0 1 (by simp only [List.append_assoc, List.nil_append, List.append_nil]) rfl rfl rfl, blk_put (wMCo k a_p0 (a_p0in 0) (a_p0ou 0) (a_p0ru 0) (a_p0no 0) (a_p0fo 0) (a_p0rd 0) (a_p0pa 0) sv_p0 p0_0) (wRules k a_p0ru p0ru_0) (wCourt k a_p0no p0no_20 ++ wCourt k a_p0fo p0fo_17 ++ wPast k a_p0pa pp_24 p0pa_21 ++ poolW k pp_24 p0pa_21.2) (wRules k a_p0ru p0ru_0) 1 3 (by simp only [List.append_assoc, List.nil_append, List.append_nil]) rfl rfl rfl, blk_put (wMCo k a_p0 (a_p0in 0) (a_p0ou 0) (a_p0ru 0) (a_p0no 0) (a_p0fo 0) (a_p0rd 0) (a_p0pa 0) sv_p0 p0_0 ++ wRules k a_p0ru p0ru_0) (wCourt k a_p0no p0no_20) (wCourt k a_p0fo p0fo_17 ++ wPast k a_p0pa pp_24 p0pa_21 ++ poolW k pp_24 p0pa_21.2) (wCourt k a_p0no (u)) 4 12 (by simp only [List.append_assoc, List.nil_append, List.append_nil]) rfl rfl rfl, blk_put (wMCo k a_p0 (a_p0in 0) (a_p0ou 0) (a_p0ru 0) (a_p0no 0) (a_p0fo 0) (a_p0rd 0) (a_p0pa 0) sv_p0 p0_0 ++ wRules k a_p0ru p0ru_0 ++ wCourt k a_p0no (u) ++ wCourt k a_p0fo p0fo_17) (wPast k a_p0pa pp_24 p0pa_21) (poolW k pp_24 p0pa_21.2) (wPast k a_p0pa pp_24 p0pa_21) 28 2 (by simp only [List.append_assoc, List.nil_append, List.append_nil]) rfl rfl rfl]; try simp only [List.append_assoc, List.nil_append, List.append_nil]) (fun r u H locs hp hW => ?_)
                cases hp
                have hW : WD k A s.heap ((wMCo k a_p0 (a_p0in 0) (a_p0ou 0) (a_p0ru 0) (a_p0no 0) (a_p0fo 0) (a_p0rd 0) (a_p0pa 0) sv_p0 p0_0 ++ wRules k a_p0ru p0ru_0 ++ wCourt k a_p0no p0no_33 ++ wCourt k a_p0fo p0fo_17 ++ wPast k a_p0pa pp_24 p0pa_21) ++ poolW k pp_24 p0pa_21.2) H locs := hW
                refine lv_if_ne (tgt := 316) E.hx E.hb dL_law_311 (by decide) (fun hc => ?_) (fun hc => ?_)
                · have hf := oF hc hf
                  refine k_iload E hl 2 dL_law_316 rfl ?_
                  have J_351 : ∀ (p0no_j351 : OS) (p0fo_j351 : OS) (p0pa_j351 : PS) (w6_j351 : Int32) (w7_j351 : Int32) (w8_j351 : Int32) (w9_j351 : Int32) (w13_j351 : Int32) (w14_j351 : Int32) (w16_j351 : Int32) (w17_j351 : Int32) (pp_j351 : Nat → Nat → Nat) (H : Heap) (locs : List Loc) (ls : Array Slot) (hW : WD k A s.heap ((wMCo k a_p0 (a_p0in 0) (a_p0ou 0) (a_p0ru 0) (a_p0no 0) (a_p0fo 0) (a_p0rd 0) (a_p0pa 0) sv_p0 p0_0 ++ wRules k a_p0ru p0ru_0 ++ wCourt k a_p0no p0no_j351 ++ wCourt k a_p0fo p0fo_j351 ++ wPast k a_p0pa pp_j351 p0pa_j351) ++ poolW k pp_j351 p0pa_j351.2) H locs) (hl : lv_has ls 21 [(1, .ref (a_p0 0)), (2, .int v2_0), (3, .int v3_0), (6, .int w6_j351), (7, .int w7_j351), (8, .int w8_j351), (9, .int w9_j351), (13, .int w13_j351), (14, .int w14_j351), (16, .int w16_j351), (17, .int w17_j351)]) (hf : j_L_law_351 n L_s xs_s sv_p0 p0_0 p0ru_0 v2_0 v3_0 p0no_j351 p0fo_j351 p0pa_j351 w6_j351 w7_j351 w8_j351 w9_j351 w13_j351 w14_j351 w16_j351 w17_j351 = some res), W p l e room_1 s m args below meth c H locs 613 152000 Q (F0 m 351 ls []) := by
                    intro p0no_j351 p0fo_j351 p0pa_j351 w6_j351 w7_j351 w8_j351 w9_j351 w13_j351 w14_j351 w16_j351 w17_j351 pp_j351 H locs ls hW hl hf
                    unfold j_L_law_351 at hf
                    refine k_iload E hl 8 dL_law_351 rfl ?_
                    refine lv_iconst (v := (-1 : Int32)) E.hx E.hb dL_law_353 ic_m1 ?_
                    have J_379 : ∀ (p0no_j379 : OS) (p0fo_j379 : OS) (p0pa_j379 : PS) (w6_j379 : Int32) (w7_j379 : Int32) (w8_j379 : Int32) (w9_j379 : Int32) (w16_j379 : Int32) (w17_j379 : Int32) (pp_j379 : Nat → Nat → Nat) (H : Heap) (locs : List Loc) (ls : Array Slot) (hW : WD k A s.heap ((wMCo k a_p0 (a_p0in 0) (a_p0ou 0) (a_p0ru 0) (a_p0no 0) (a_p0fo 0) (a_p0rd 0) (a_p0pa 0) sv_p0 p0_0 ++ wRules k a_p0ru p0ru_0 ++ wCourt k a_p0no p0no_j379 ++ wCourt k a_p0fo p0fo_j379 ++ wPast k a_p0pa pp_j379 p0pa_j379) ++ poolW k pp_j379 p0pa_j379.2) H locs) (hl : lv_has ls 21 [(1, .ref (a_p0 0)), (2, .int v2_0), (3, .int v3_0), (6, .int w6_j379), (7, .int w7_j379), (8, .int w8_j379), (9, .int w9_j379), (16, .int w16_j379), (17, .int w17_j379)]) (hf : j_L_law_379 n L_s xs_s sv_p0 p0_0 p0ru_0 v2_0 v3_0 p0no_j379 p0fo_j379 p0pa_j379 w6_j379 w7_j379 w8_j379 w9_j379 w16_j379 w17_j379 = some res), W p l e room_1 s m args below meth c H locs 613 152000 Q (F0 m 379 ls []) := by
                      intro p0no_j379 p0fo_j379 p0pa_j379 w6_j379 w7_j379 w8_j379 w9_j379 w16_j379 w17_j379 pp_j379 H locs ls hW hl hf
                      unfold j_L_law_379 at hf
                      refine k_aload_n E hl 0 dL_law_379 rfl ?_
                      obtain ⟨p0no_35, p0pa_36, r_37, cd_38, hg, hf⟩ := ob4 hf
                      by_cases hcd : cd_38 = 0
                      rotate_left
                      · have hf := oF hcd hf
                        exact o0 hf
                      replace hf := oT hcd hf
                      refine k_callGi (As := []) (rest := []) (ws2 := fun u => (wMCo k a_p0 (a_p0in 0) (a_p0ou 0) (a_p0ru 0) (a_p0no 0) (a_p0fo 0) (a_p0rd 0) (a_p0pa 0) sv_p0 p0_0 ++ wRules k a_p0ru p0ru_0 ++ wCourt k a_p0no (u.1) ++ wCourt k a_p0fo p0fo_j379 ++ wPast k a_p0pa (u.2.2) (u.2.1)) ++ poolW k (u.2.2) (u.2.1).2) (c_X8_undo n l k a_p0 a_p0in a_p0ou a_p0ru a_p0no a_p0fo a_p0rd a_p0pa pp_j379 sv_p0 p0_0 p0no_j379 p0pa_j379 (p0no_35, p0pa_36, r_37, cd_38) hg hcd) E vl_L_158 dL_law_380 rfl (List.range' 0 1 ++ List.range' 4 12 ++ List.range' 28 2) 8 0 hW hA hl rfl (by simp only [List.map_append]; exact app2 (app2 (blk_map [] (wMCo k a_p0 (a_p0in 0) (a_p0ou 0) (a_p0ru 0) (a_p0no 0) (a_p0fo 0) (a_p0rd 0) (a_p0pa 0) sv_p0 p0_0) (wRules k a_p0ru p0ru_0 ++ wCourt k a_p0no p0no_j379 ++ wCourt k a_p0fo p0fo_j379 ++ wPast k a_p0pa pp_j379 p0pa_j379) 0 1 (by simp only [List.append_assoc, List.nil_append, List.append_nil]) rfl rfl) (blk_map (wMCo k a_p0 (a_p0in 0) (a_p0ou 0) (a_p0ru 0) (a_p0no 0) (a_p0fo 0) (a_p0rd 0) (a_p0pa 0) sv_p0 p0_0 ++ wRules k a_p0ru p0ru_0) (wCourt k a_p0no p0no_j379) (wCourt k a_p0fo p0fo_j379 ++ wPast k a_p0pa pp_j379 p0pa_j379) 4 12 (by simp only [List.append_assoc, List.nil_append, List.append_nil]) rfl rfl)) (blk_map (wMCo k a_p0 (a_p0in 0) (a_p0ou 0) (a_p0ru 0) (a_p0no 0) (a_p0fo 0) (a_p0rd 0) (a_p0pa 0) sv_p0 p0_0 ++ wRules k a_p0ru p0ru_0 ++ wCourt k a_p0no p0no_j379 ++ wCourt k a_p0fo p0fo_j379) (wPast k a_p0pa pp_j379 p0pa_j379) [] 28 2 (by simp only [List.append_assoc, List.nil_append, List.append_nil]) rfl rfl)) rfl rfl ⟨by decide, by decide⟩ ⟨by decide, by decide⟩ (Nat.le_of_ble_eq_true rfl) rfl (fun _ => rfl) (fun u => by show putW _ (_ ++ _) (_ ++ _) ++ _ = _; rw [putW_app _ _ _ _ _ rfl, putW_app _ _ _ _ _ rfl, blk_put [] (wMCo k a_p0 (a_p0in 0) (a_p0ou 0) (a_p0ru 0) (a_p0no 0) (a_p0fo 0) (a_p0rd 0) (a_p0pa 0) sv_p0 p0_0) (wRules k a_p0ru p0ru_0 ++ wCourt k a_p0no p0no_j379 ++ wCourt k a_p0fo p0fo_j379 ++ wPast k a_p0pa pp_j379 p0pa_j379) (wMCo k a_p0 (a_p0in 0) (a_p0ou 0) (a_p0ru 0) (a_p0no 0) (a_p0fo 0) (a_p0rd 0) (a_p0pa 0) sv_p0 p0_0) 0 1 (by simp only [List.append_assoc, List.nil_append, List.append_nil]) rfl rfl rfl, blk_put (wMCo k a_p0 (a_p0in 0) (a_p0ou 0) (a_p0ru 0) (a_p0no 0) (a_p0fo 0) (a_p0rd 0) (a_p0pa 0) sv_p0 p0_0 ++ wRules k a_p0ru p0ru_0) (wCourt k a_p0no p0no_j379) (wCourt k a_p0fo p0fo_j379 ++ wPast k a_p0pa pp_j379 p0pa_j379) (wCourt k a_p0no (u.1)) 4 12 (by simp only [List.append_assoc, List.nil_append, List.append_nil]) rfl rfl rfl, blk_put (wMCo k a_p0 (a_p0in 0) (a_p0ou 0) (a_p0ru 0) (a_p0no 0) (a_p0fo 0) (a_p0rd 0) (a_p0pa 0) sv_p0 p0_0 ++ wRules k a_p0ru p0ru_0 ++ wCourt k a_p0no (u.1) ++ wCourt k a_p0fo p0fo_j379) (wPast k a_p0pa pp_j379 p0pa_j379) [] (wPast k a_p0pa (u.2.2) (u.2.1)) 28 2 (by simp only [List.append_assoc, List.nil_append, List.append_nil]) rfl rfl rfl]; try simp only [List.append_assoc, List.nil_append, List.append_nil]) (fun r u H locs hp hW => ?_)
                      obtain ⟨u0, u1, pp_39⟩ := u
                      try dsimp only at hp
                      cases hp
                      have hW : WD k A s.heap ((wMCo k a_p0 (a_p0in 0) (a_p0ou 0) (a_p0ru 0) (a_p0no 0) (a_p0fo 0) (a_p0rd 0) (a_p0pa 0) sv_p0 p0_0 ++ wRules k a_p0ru p0ru_0 ++ wCourt k a_p0no p0no_35 ++ wCourt k a_p0fo p0fo_j379 ++ wPast k a_p0pa pp_39 p0pa_36) ++ poolW k pp_39 p0pa_36.2) H locs := hW
                      refine k_istore (lv' := [(18, .int r_37), (1, .ref (a_p0 0)), (2, .int v2_0), (3, .int v3_0), (6, .int w6_j379), (7, .int w7_j379), (8, .int w8_j379), (9, .int w9_j379), (16, .int w16_j379), (17, .int w17_j379)]) E rfl hl dL_law_383 (by decide) rfl (fun ls hl => ?_)
                      refine k_aload_n E hl 1 dL_law_385 rfl ?_
                      refine lv_iconst (v := (2 : Int32)) E.hx E.hb dL_law_386 ic_2 ?_
                      obtain ⟨r_40, hg, hf⟩ := ob hf
                      refine k_callVi (As := [.int (2 : Int32)]) (rest := []) (ws2 := fun u => (wMCo k a_p0 (a_p0in 0) (a_p0ou 0) (a_p0ru 0) (a_p0no 0) (a_p0fo 0) (a_p0rd 0) (a_p0pa 0) sv_p0 p0_0 ++ wRules k a_p0ru p0ru_0 ++ wCourt k a_p0no p0no_35 ++ wCourt k a_p0fo p0fo_j379 ++ wPast k a_p0pa pp_39 p0pa_36) ++ poolW k pp_39 p0pa_36.2) (c_X8_count n l k a_p0 a_p0in a_p0ou a_p0ru a_p0no a_p0fo a_p0rd a_p0pa pp_39 sv_p0 p0_0 p0ru_0 p0no_35 p0pa_36 (2 : Int32) r_40 hg) E vl_L_84 dL_law_387 rfl (List.range' 0 1 ++ List.range' 1 3 ++ List.range' 4 12 ++ List.range' 28 2) 8 0 hW hA hl rfl (by simp only [List.map_append]; exact app2 (app2 (app2 (blk_map [] (wMCo k a_p0 (a_p0in 0) (a_p0ou 0) (a_p0ru 0) (a_p0no 0) (a_p0fo 0) (a_p0rd 0) (a_p0pa 0) sv_p0 p0_0) (wRules k a_p0ru p0ru_0 ++ wCourt k a_p0no p0no_35 ++ wCourt k a_p0fo p0fo_j379 ++ wPast k a_p0pa pp_39 p0pa_36 ++ poolW k pp_39 p0pa_36.2) 0 1 (by simp only [List.append_assoc, List.nil_append, List.append_nil]) rfl rfl) (blk_map (wMCo k a_p0 (a_p0in 0) (a_p0ou 0) (a_p0ru 0) (a_p0no 0) (a_p0fo 0) (a_p0rd 0) (a_p0pa 0) sv_p0 p0_0) (wRules k a_p0ru p0ru_0) (wCourt k a_p0no p0no_35 ++ wCourt k a_p0fo p0fo_j379 ++ wPast k a_p0pa pp_39 p0pa_36 ++ poolW k pp_39 p0pa_36.2) 1 3 (by simp only [List.append_assoc, List.nil_append, List.append_nil]) rfl rfl)) (blk_map (wMCo k a_p0 (a_p0in 0) (a_p0ou 0) (a_p0ru 0) (a_p0no 0) (a_p0fo 0) (a_p0rd 0) (a_p0pa 0) sv_p0 p0_0 ++ wRules k a_p0ru p0ru_0) (wCourt k a_p0no p0no_35) (wCourt k a_p0fo p0fo_j379 ++ wPast k a_p0pa pp_39 p0pa_36 ++ poolW k pp_39 p0pa_36.2) 4 12 (by simp only [List.append_assoc, List.nil_append, List.append_nil]) rfl rfl)) (blk_map (wMCo k a_p0 (a_p0in 0) (a_p0ou 0) (a_p0ru 0) (a_p0no 0) (a_p0fo 0) (a_p0rd 0) (a_p0pa 0) sv_p0 p0_0 ++ wRules k a_p0ru p0ru_0 ++ wCourt k a_p0no p0no_35 ++ wCourt k a_p0fo p0fo_j379) (wPast k a_p0pa pp_39 p0pa_36) (poolW k pp_39 p0pa_36.2) 28 2 (by simp only [List.append_assoc, List.nil_append, List.append_nil]) rfl rfl)) rfl rfl ⟨by decide, by decide⟩ ⟨by decide, by decide⟩ (Nat.le_of_ble_eq_true rfl) rfl (fun _ => rfl) (fun u => by show putW _ (_ ++ _) (_ ++ _) = _; rw [putW_app _ _ _ _ _ rfl, putW_app _ _ _ _ _ rfl, putW_app _ _ _ _ _ rfl, blk_put [] (wMCo k a_p0 (a_p0in 0) (a_p0ou 0) (a_p0ru 0) (a_p0no 0) (a_p0fo 0) (a_p0rd 0) (a_p0pa 0) sv_p0 p0_0) (wRules k a_p0ru p0ru_0 ++ wCourt k a_p0no p0no_35 ++ wCourt k a_p0fo p0fo_j379 ++ wPast k a_p0pa pp_39 p0pa_36 ++ poolW k pp_39 p0pa_36.2) (wMCo k a_p0 (a_p0in 0) (a_p0ou 0) (a_p0ru 0) (a_p0no 0) (a_p0fo 0) (a_p0rd 0) (a_p0pa 0) sv_p0 p0_0) 0 1 (by simp only [List.append_assoc, List.nil_append, List.append_nil]) rfl rfl rfl, blk_put (wMCo k a_p0 (a_p0in 0) (a_p0ou 0) (a_p0ru 0) (a_p0no 0) (a_p0fo 0) (a_p0rd 0) (a_p0pa 0) sv_p0 p0_0) (wRules k a_p0ru p0ru_0) (wCourt k a_p0no p0no_35 ++ wCourt k a_p0fo p0fo_j379 ++ wPast k a_p0pa pp_39 p0pa_36 ++ poolW k pp_39 p0pa_36.2) (wRules k a_p0ru p0ru_0) 1 3 (by simp only [List.append_assoc, List.nil_append, List.append_nil]) rfl rfl rfl, blk_put (wMCo k a_p0 (a_p0in 0) (a_p0ou 0) (a_p0ru 0) (a_p0no 0) (a_p0fo 0) (a_p0rd 0) (a_p0pa 0) sv_p0 p0_0 ++ wRules k a_p0ru p0ru_0) (wCourt k a_p0no p0no_35) (wCourt k a_p0fo p0fo_j379 ++ wPast k a_p0pa pp_39 p0pa_36 ++ poolW k pp_39 p0pa_36.2) (wCourt k a_p0no p0no_35) 4 12 (by simp only [List.append_assoc, List.nil_append, List.append_nil]) rfl rfl rfl, blk_put (wMCo k a_p0 (a_p0in 0) (a_p0ou 0) (a_p0ru 0) (a_p0no 0) (a_p0fo 0) (a_p0rd 0) (a_p0pa 0) sv_p0 p0_0 ++ wRules k a_p0ru p0ru_0 ++ wCourt k a_p0no p0no_35 ++ wCourt k a_p0fo p0fo_j379) (wPast k a_p0pa pp_39 p0pa_36) (poolW k pp_39 p0pa_36.2) (wPast k a_p0pa pp_39 p0pa_36) 28 2 (by simp only [List.append_assoc, List.nil_append, List.append_nil]) rfl rfl rfl]; try simp only [List.append_assoc, List.nil_append, List.append_nil]) (fun r u H locs hp hW => ?_)
                      cases hp
                      have hW : WD k A s.heap ((wMCo k a_p0 (a_p0in 0) (a_p0ou 0) (a_p0ru 0) (a_p0no 0) (a_p0fo 0) (a_p0rd 0) (a_p0pa 0) sv_p0 p0_0 ++ wRules k a_p0ru p0ru_0 ++ wCourt k a_p0no p0no_35 ++ wCourt k a_p0fo p0fo_j379 ++ wPast k a_p0pa pp_39 p0pa_36) ++ poolW k pp_39 p0pa_36.2) H locs := hW
                      refine k_iload E hl 5 dL_law_390 rfl ?_
                      refine lv_icmp_ne (tgt := 420) E.hx E.hb dL_law_392 (by decide) (fun hc => ?_) (fun hc => ?_)
                      · have hf := oF hc hf
                        refine lv_iconst (v := (0 : Int32)) E.hx E.hb dL_law_420 ic_0 ?_
                        exact o0 hf
                      · have hf := oT hc hf
                        refine k_aload_n E hl 1 dL_law_395 rfl ?_
                        refine lv_bipush (v := (15 : Int32)) E.hx E.hb dL_law_396 bp_15 ?_
                        obtain ⟨r_41, hg, hf⟩ := ob hf
                        refine k_callVi (As := [.int (15 : Int32)]) (rest := []) (ws2 := fun u => (wMCo k a_p0 (a_p0in 0) (a_p0ou 0) (a_p0ru 0) (a_p0no 0) (a_p0fo 0) (a_p0rd 0) (a_p0pa 0) sv_p0 p0_0 ++ wRules k a_p0ru p0ru_0 ++ wCourt k a_p0no p0no_35 ++ wCourt k a_p0fo p0fo_j379 ++ wPast k a_p0pa pp_39 p0pa_36) ++ poolW k pp_39 p0pa_36.2) (c_X8_count n l k a_p0 a_p0in a_p0ou a_p0ru a_p0no a_p0fo a_p0rd a_p0pa pp_39 sv_p0 p0_0 p0ru_0 p0no_35 p0pa_36 (15 : Int32) r_41 hg) E vl_L_84 dL_law_398 rfl (List.range' 0 1 ++ List.range' 1 3 ++ List.range' 4 12 ++ List.range' 28 2) 8 0 hW hA hl rfl (by simp only [List.map_append]; exact app2 (app2 (app2 (blk_map [] (wMCo k a_p0 (a_p0in 0) (a_p0ou 0) (a_p0ru 0) (a_p0no 0) (a_p0fo 0) (a_p0rd 0) (a_p0pa 0) sv_p0 p0_0) (wRules k a_p0ru p0ru_0 ++ wCourt k a_p0no p0no_35 ++ wCourt k a_p0fo p0fo_j379 ++ wPast k a_p0pa pp_39 p0pa_36 ++ poolW k pp_39 p0pa_36.2) 0 1 (by simp only [List.append_assoc, List.nil_append, List.append_nil]) rfl rfl) (blk_map (wMCo k a_p0 (a_p0in 0) (a_p0ou 0) (a_p0ru 0) (a_p0no 0) (a_p0fo 0) (a_p0rd 0) (a_p0pa 0) sv_p0 p0_0) (wRules k a_p0ru p0ru_0) (wCourt k a_p0no p0no_35 ++ wCourt k a_p0fo p0fo_j379 ++ wPast k a_p0pa pp_39 p0pa_36 ++ poolW k pp_39 p0pa_36.2) 1 3 (by simp only [List.append_assoc, List.nil_append, List.append_nil]) rfl rfl)) (blk_map (wMCo k a_p0 (a_p0in 0) (a_p0ou 0) (a_p0ru 0) (a_p0no 0) (a_p0fo 0) (a_p0rd 0) (a_p0pa 0) sv_p0 p0_0 ++ wRules k a_p0ru p0ru_0) (wCourt k a_p0no p0no_35) (wCourt k a_p0fo p0fo_j379 ++ wPast k a_p0pa pp_39 p0pa_36 ++ poolW k pp_39 p0pa_36.2) 4 12 (by simp only [List.append_assoc, List.nil_append, List.append_nil]) rfl rfl)) (blk_map (wMCo k a_p0 (a_p0in 0) (a_p0ou 0) (a_p0ru 0) (a_p0no 0) (a_p0fo 0) (a_p0rd 0) (a_p0pa 0) sv_p0 p0_0 ++ wRules k a_p0ru p0ru_0 ++ wCourt k a_p0no p0no_35 ++ wCourt k a_p0fo p0fo_j379) (wPast k a_p0pa pp_39 p0pa_36) (poolW k pp_39 p0pa_36.2) 28 2 (by simp only [List.append_assoc, List.nil_append, List.append_nil]) rfl rfl)) rfl rfl ⟨by decide, by decide⟩ ⟨by decide, by decide⟩ (Nat.le_of_ble_eq_true rfl) rfl (fun _ => rfl) (fun u => by show putW _ (_ ++ _) (_ ++ _) = _; rw [putW_app _ _ _ _ _ rfl, putW_app _ _ _ _ _ rfl, putW_app _ _ _ _ _ rfl, blk_put [] (wMCo k a_p0 (a_p0in 0) (a_p0ou 0) (a_p0ru 0) (a_p0no 0) (a_p0fo 0) (a_p0rd 0) (a_p0pa 0) sv_p0 p0_0) (wRules k a_p0ru p0ru_0 ++ wCourt k a_p0no p0no_35 ++ wCourt k a_p0fo p0fo_j379 ++ wPast k a_p0pa pp_39 p0pa_36 ++ poolW k pp_39 p0pa_36.2) (wMCo k a_p0 (a_p0in 0) (a_p0ou 0) (a_p0ru 0) (a_p0no 0) (a_p0fo 0) (a_p0rd 0) (a_p0pa 0) sv_p0 p0_0) 0 1 (by simp only [List.append_assoc, List.nil_append, List.append_nil]) rfl rfl rfl, blk_put (wMCo k a_p0 (a_p0in 0) (a_p0ou 0) (a_p0ru 0) (a_p0no 0) (a_p0fo 0) (a_p0rd 0) (a_p0pa 0) sv_p0 p0_0) (wRules k a_p0ru p0ru_0) (wCourt k a_p0no p0no_35 ++ wCourt k a_p0fo p0fo_j379 ++ wPast k a_p0pa pp_39 p0pa_36 ++ poolW k pp_39 p0pa_36.2) (wRules k a_p0ru p0ru_0) 1 3 (by simp only [List.append_assoc, List.nil_append, List.append_nil]) rfl rfl rfl, blk_put (wMCo k a_p0 (a_p0in 0) (a_p0ou 0) (a_p0ru 0) (a_p0no 0) (a_p0fo 0) (a_p0rd 0) (a_p0pa 0) sv_p0 p0_0 ++ wRules k a_p0ru p0ru_0) (wCourt k a_p0no p0no_35) (wCourt k a_p0fo p0fo_j379 ++ wPast k a_p0pa pp_39 p0pa_36 ++ poolW k pp_39 p0pa_36.2) (wCourt k a_p0no p0no_35) 4 12 (by simp only [List.append_assoc, List.nil_append, List.append_nil]) rfl rfl rfl, blk_put (wMCo k a_p0 (a_p0in 0) (a_p0ou 0) (a_p0ru 0) (a_p0no 0) (a_p0fo 0) (a_p0rd 0) (a_p0pa 0) sv_p0 p0_0 ++ wRules k a_p0ru p0ru_0 ++ wCourt k a_p0no p0no_35 ++ wCourt k a_p0fo p0fo_j379) (wPast k a_p0pa pp_39 p0pa_36) (poolW k pp_39 p0pa_36.2) (wPast k a_p0pa pp_39 p0pa_36) 28 2 (by simp only [List.append_assoc, List.nil_append, List.append_nil]) rfl rfl rfl]; try simp only [List.append_assoc, List.nil_append, List.append_nil]) (fun r u H locs hp hW => ?_)
                        cases hp
                        have hW : WD k A s.heap ((wMCo k a_p0 (a_p0in 0) (a_p0ou 0) (a_p0ru 0) (a_p0no 0) (a_p0fo 0) (a_p0rd 0) (a_p0pa 0) sv_p0 p0_0 ++ wRules k a_p0ru p0ru_0 ++ wCourt k a_p0no p0no_35 ++ wCourt k a_p0fo p0fo_j379 ++ wPast k a_p0pa pp_39 p0pa_36) ++ poolW k pp_39 p0pa_36.2) H locs := hW
                        refine k_iload E hl 6 dL_law_401 rfl ?_
                        refine lv_icmp_ne (tgt := 420) E.hx E.hb dL_law_403 (by decide) (fun hc => ?_) (fun hc => ?_)
                        · have hf := oF hc hf
                          refine lv_iconst (v := (0 : Int32)) E.hx E.hb dL_law_420 ic_0 ?_
                          exact o0 hf
                        · have hf := oT hc hf
                          refine k_iload E hl 7 dL_law_406 rfl ?_
                          refine lv_bipush (v := (8 : Int32)) E.hx E.hb dL_law_408 bp_8 ?_
                          have J_422 : ∀ (p0no_j422 : OS) (p0fo_j422 : OS) (p0pa_j422 : PS) (w6_j422 : Int32) (w16_j422 : Int32) (w17_j422 : Int32) (pp_j422 : Nat → Nat → Nat) (H : Heap) (locs : List Loc) (ls : Array Slot) (hW : WD k A s.heap ((wMCo k a_p0 (a_p0in 0) (a_p0ou 0) (a_p0ru 0) (a_p0no 0) (a_p0fo 0) (a_p0rd 0) (a_p0pa 0) sv_p0 p0_0 ++ wRules k a_p0ru p0ru_0 ++ wCourt k a_p0no p0no_j422 ++ wCourt k a_p0fo p0fo_j422 ++ wPast k a_p0pa pp_j422 p0pa_j422) ++ poolW k pp_j422 p0pa_j422.2) H locs) (hl : lv_has ls 21 [(1, .ref (a_p0 0)), (2, .int v2_0), (3, .int v3_0), (6, .int w6_j422), (16, .int w16_j422), (17, .int w17_j422)]) (hf : j_L_law_422 n L_s xs_s sv_p0 p0_0 p0ru_0 v2_0 v3_0 p0no_j422 p0fo_j422 p0pa_j422 w6_j422 w16_j422 w17_j422 = some res), W p l e room_1 s m args below meth c H locs 613 152000 Q (F0 m 422 ls []) := by
                            intro p0no_j422 p0fo_j422 p0pa_j422 w6_j422 w16_j422 w17_j422 pp_j422 H locs ls hW hl hf
                            unfold j_L_law_422 at hf
                            refine k_aload_n E hl 0 dL_law_422 rfl ?_
                            refine k_iload E hl 4 dL_law_423 rfl ?_
                            obtain ⟨p0no_42, p0pa_43, r_44, cd_45, hg, hf⟩ := ob4 hf
                            by_cases hcd : cd_45 = 0
                            rotate_left
                            · have hf := oF hcd hf
                              exact o0 hf
                            replace hf := oT hcd hf
                            refine k_callGi (As := [.int w16_j422]) (rest := []) (ws2 := fun u => (wMCo k a_p0 (a_p0in 0) (a_p0ou 0) (a_p0ru 0) (a_p0no 0) (a_p0fo 0) (a_p0rd 0) (a_p0pa 0) sv_p0 p0_0 ++ wRules k a_p0ru p0ru_0 ++ wCourt k a_p0no (u.1) ++ wCourt k a_p0fo p0fo_j422 ++ wPast k a_p0pa (u.2.2) (u.2.1)) ++ poolW k (u.2.2) (u.2.1).2) (c_X8_setOrder n l k a_p0 a_p0in a_p0ou a_p0ru a_p0no a_p0fo a_p0rd a_p0pa pp_j422 sv_p0 p0_0 p0no_j422 p0pa_j422 w16_j422 (p0no_42, p0pa_43, r_44, cd_45) hg hcd) E vl_L_96 dL_law_425 rfl (List.range' 0 1 ++ List.range' 4 12 ++ List.range' 28 2) 8 0 hW hA hl rfl (by simp only [List.map_append]; exact app2 (app2 (blk_map [] (wMCo k a_p0 (a_p0in 0) (a_p0ou 0) (a_p0ru 0) (a_p0no 0) (a_p0fo 0) (a_p0rd 0) (a_p0pa 0) sv_p0 p0_0) (wRules k a_p0ru p0ru_0 ++ wCourt k a_p0no p0no_j422 ++ wCourt k a_p0fo p0fo_j422 ++ wPast k a_p0pa pp_j422 p0pa_j422) 0 1 (by simp only [List.append_assoc, List.nil_append, List.append_nil]) rfl rfl) (blk_map (wMCo k a_p0 (a_p0in 0) (a_p0ou 0) (a_p0ru 0) (a_p0no 0) (a_p0fo 0) (a_p0rd 0) (a_p0pa 0) sv_p0 p0_0 ++ wRules k a_p0ru p0ru_0) (wCourt k a_p0no p0no_j422) (wCourt k a_p0fo p0fo_j422 ++ wPast k a_p0pa pp_j422 p0pa_j422) 4 12 (by simp only [List.append_assoc, List.nil_append, List.append_nil]) rfl rfl)) (blk_map (wMCo k a_p0 (a_p0in 0) (a_p0ou 0) (a_p0ru 0) (a_p0no 0) (a_p0fo 0) (a_p0rd 0) (a_p0pa 0) sv_p0 p0_0 ++ wRules k a_p0ru p0ru_0 ++ wCourt k a_p0no p0no_j422 ++ wCourt k a_p0fo p0fo_j422) (wPast k a_p0pa pp_j422 p0pa_j422) [] 28 2 (by simp only [List.append_assoc, List.nil_append, List.append_nil]) rfl rfl)) rfl rfl ⟨by decide, by decide⟩ ⟨by decide, by decide⟩ (Nat.le_of_ble_eq_true rfl) rfl (fun _ => rfl) (fun u => by show putW _ (_ ++ _) (_ ++ _) ++ _ = _; rw [putW_app _ _ _ _ _ rfl, putW_app _ _ _ _ _ rfl, blk_put [] (wMCo k a_p0 (a_p0in 0) (a_p0ou 0) (a_p0ru 0) (a_p0no 0) (a_p0fo 0) (a_p0rd 0) (a_p0pa 0) sv_p0 p0_0) (wRules k a_p0ru p0ru_0 ++ wCourt k a_p0no p0no_j422 ++ wCourt k a_p0fo p0fo_j422 ++ wPast k a_p0pa pp_j422 p0pa_j422) (wMCo k a_p0 (a_p0in 0) (a_p0ou 0) (a_p0ru 0) (a_p0no 0) (a_p0fo 0) (a_p0rd 0) (a_p0pa 0) sv_p0 p0_0) 0 1 (by simp only [List.append_assoc, List.nil_append, List.append_nil]) rfl rfl rfl, blk_put (wMCo k a_p0 (a_p0in 0) (a_p0ou 0) (a_p0ru 0) (a_p0no 0) (a_p0fo 0) (a_p0rd 0) (a_p0pa 0) sv_p0 p0_0 ++ wRules k a_p0ru p0ru_0) (wCourt k a_p0no p0no_j422) (wCourt k a_p0fo p0fo_j422 ++ wPast k a_p0pa pp_j422 p0pa_j422) (wCourt k a_p0no (u.1)) 4 12 (by simp only [List.append_assoc, List.nil_append, List.append_nil]) rfl rfl rfl, blk_put (wMCo k a_p0 (a_p0in 0) (a_p0ou 0) (a_p0ru 0) (a_p0no 0) (a_p0fo 0) (a_p0rd 0) (a_p0pa 0) sv_p0 p0_0 ++ wRules k a_p0ru p0ru_0 ++ wCourt k a_p0no (u.1) ++ wCourt k a_p0fo p0fo_j422) (wPast k a_p0pa pp_j422 p0pa_j422) [] (wPast k a_p0pa (u.2.2) (u.2.1)) 28 2 (by simp only [List.append_assoc, List.nil_append, List.append_nil]) rfl rfl rfl]; try simp only [List.append_assoc, List.nil_append, List.append_nil]) (fun r u H locs hp hW => ?_)
                            obtain ⟨u0, u1, pp_46⟩ := u
                            try dsimp only at hp
                            cases hp
                            have hW : WD k A s.heap ((wMCo k a_p0 (a_p0in 0) (a_p0ou 0) (a_p0ru 0) (a_p0no 0) (a_p0fo 0) (a_p0rd 0) (a_p0pa 0) sv_p0 p0_0 ++ wRules k a_p0ru p0ru_0 ++ wCourt k a_p0no p0no_42 ++ wCourt k a_p0fo p0fo_j422 ++ wPast k a_p0pa pp_46 p0pa_43) ++ poolW k pp_46 p0pa_43.2) H locs := hW
                            refine k_istore (lv' := [(19, .int r_44), (1, .ref (a_p0 0)), (2, .int v2_0), (3, .int v3_0), (6, .int w6_j422), (16, .int w16_j422), (17, .int w17_j422)]) E rfl hl dL_law_428 (by decide) rfl (fun ls hl => ?_)
                            refine k_aload_n E hl 1 dL_law_430 rfl ?_
                            refine k_iload E hl 4 dL_law_431 rfl ?_
                            obtain ⟨p0no_47, p0pa_48, r_49, cd_50, hg, hf⟩ := ob4 hf
                            by_cases hcd : cd_50 = 0
                            rotate_left
                            · have hf := oF hcd hf
                              exact o0 hf
                            replace hf := oT hcd hf
                            refine k_callGi (As := [.int w6_j422]) (rest := []) (ws2 := fun u => (wMCo k a_p0 (a_p0in 0) (a_p0ou 0) (a_p0ru 0) (a_p0no 0) (a_p0fo 0) (a_p0rd 0) (a_p0pa 0) sv_p0 p0_0 ++ wRules k a_p0ru p0ru_0 ++ wCourt k a_p0no (u.1) ++ wCourt k a_p0fo p0fo_j422 ++ wPast k a_p0pa (u.2.2) (u.2.1)) ++ poolW k (u.2.2) (u.2.1).2) (c_X8_run n l k a_p0 a_p0in a_p0ou a_p0ru a_p0no a_p0fo a_p0rd a_p0pa pp_46 sv_p0 p0_0 p0ru_0 p0no_42 p0pa_43 w6_j422 (p0no_47, p0pa_48, r_49, cd_50) hg hcd) E vl_L_105 dL_law_433 rfl (List.range' 0 1 ++ List.range' 1 3 ++ List.range' 4 12 ++ List.range' 28 2) 8 0 hW hA hl rfl (by simp only [List.map_append]; exact app2 (app2 (app2 (blk_map [] (wMCo k a_p0 (a_p0in 0) (a_p0ou 0) (a_p0ru 0) (a_p0no 0) (a_p0fo 0) (a_p0rd 0) (a_p0pa 0) sv_p0 p0_0) (wRules k a_p0ru p0ru_0 ++ wCourt k a_p0no p0no_42 ++ wCourt k a_p0fo p0fo_j422 ++ wPast k a_p0pa pp_46 p0pa_43) 0 1 (by simp only [List.append_assoc, List.nil_append, List.append_nil]) rfl rfl) (blk_map (wMCo k a_p0 (a_p0in 0) (a_p0ou 0) (a_p0ru 0) (a_p0no 0) (a_p0fo 0) (a_p0rd 0) (a_p0pa 0) sv_p0 p0_0) (wRules k a_p0ru p0ru_0) (wCourt k a_p0no p0no_42 ++ wCourt k a_p0fo p0fo_j422 ++ wPast k a_p0pa pp_46 p0pa_43) 1 3 (by simp only [List.append_assoc, List.nil_append, List.append_nil]) rfl rfl)) (blk_map (wMCo k a_p0 (a_p0in 0) (a_p0ou 0) (a_p0ru 0) (a_p0no 0) (a_p0fo 0) (a_p0rd 0) (a_p0pa 0) sv_p0 p0_0 ++ wRules k a_p0ru p0ru_0) (wCourt k a_p0no p0no_42) (wCourt k a_p0fo p0fo_j422 ++ wPast k a_p0pa pp_46 p0pa_43) 4 12 (by simp only [List.append_assoc, List.nil_append, List.append_nil]) rfl rfl)) (blk_map (wMCo k a_p0 (a_p0in 0) (a_p0ou 0) (a_p0ru 0) (a_p0no 0) (a_p0fo 0) (a_p0rd 0) (a_p0pa 0) sv_p0 p0_0 ++ wRules k a_p0ru p0ru_0 ++ wCourt k a_p0no p0no_42 ++ wCourt k a_p0fo p0fo_j422) (wPast k a_p0pa pp_46 p0pa_43) [] 28 2 (by simp only [List.append_assoc, List.nil_append, List.append_nil]) rfl rfl)) rfl rfl ⟨by decide, by decide⟩ ⟨by decide, by decide⟩ (Nat.le_of_ble_eq_true rfl) rfl (fun _ => rfl) (fun u => by show putW _ (_ ++ _) (_ ++ _) ++ _ = _; rw [putW_app _ _ _ _ _ rfl, putW_app _ _ _ _ _ rfl, putW_app _ _ _ _ _ rfl, blk_put [] (wMCo k a_p0 (a_p0in 0) (a_p0ou 0) (a_p0ru 0) (a_p0no 0) (a_p0fo 0) (a_p0rd 0) (a_p0pa 0) sv_p0 p0_0) (wRules k a_p0ru p0ru_0 ++ wCourt k a_p0no p0no_42 ++ wCourt k a_p0fo p0fo_j422 ++ wPast k a_p0pa pp_46 p0pa_43) (wMCo k a_p0 (a_p0in 0) (a_p0ou 0) (a_p0ru 0) (a_p0no 0) (a_p0fo 0) (a_p0rd 0) (a_p0pa 0) sv_p0 p0_0) 0 1 (by simp only [List.append_assoc, List.nil_append, List.append_nil]) rfl rfl rfl, blk_put (wMCo k a_p0 (a_p0in 0) (a_p0ou 0) (a_p0ru 0) (a_p0no 0) (a_p0fo 0) (a_p0rd 0) (a_p0pa 0) sv_p0 p0_0) (wRules k a_p0ru p0ru_0) (wCourt k a_p0no p0no_42 ++ wCourt k a_p0fo p0fo_j422 ++ wPast k a_p0pa pp_46 p0pa_43) (wRules k a_p0ru p0ru_0) 1 3 (by simp only [List.append_assoc, List.nil_append, List.append_nil]) rfl rfl rfl, blk_put (wMCo k a_p0 (a_p0in 0) (a_p0ou 0) (a_p0ru 0) (a_p0no 0) (a_p0fo 0) (a_p0rd 0) (a_p0pa 0) sv_p0 p0_0 ++ wRules k a_p0ru p0ru_0) (wCourt k a_p0no p0no_42) (wCourt k a_p0fo p0fo_j422 ++ wPast k a_p0pa pp_46 p0pa_43) (wCourt k a_p0no (u.1)) 4 12 (by simp only [List.append_assoc, List.nil_append, List.append_nil]) rfl rfl rfl, blk_put (wMCo k a_p0 (a_p0in 0) (a_p0ou 0) (a_p0ru 0) (a_p0no 0) (a_p0fo 0) (a_p0rd 0) (a_p0pa 0) sv_p0 p0_0 ++ wRules k a_p0ru p0ru_0 ++ wCourt k a_p0no (u.1) ++ wCourt k a_p0fo p0fo_j422) (wPast k a_p0pa pp_46 p0pa_43) [] (wPast k a_p0pa (u.2.2) (u.2.1)) 28 2 (by simp only [List.append_assoc, List.nil_append, List.append_nil]) rfl rfl rfl]; try simp only [List.append_assoc, List.nil_append, List.append_nil]) (fun r u H locs hp hW => ?_)
                            obtain ⟨u0, u1, pp_51⟩ := u
                            try dsimp only at hp
                            cases hp
                            have hW : WD k A s.heap ((wMCo k a_p0 (a_p0in 0) (a_p0ou 0) (a_p0ru 0) (a_p0no 0) (a_p0fo 0) (a_p0rd 0) (a_p0pa 0) sv_p0 p0_0 ++ wRules k a_p0ru p0ru_0 ++ wCourt k a_p0no p0no_47 ++ wCourt k a_p0fo p0fo_j422 ++ wPast k a_p0pa pp_51 p0pa_48) ++ poolW k pp_51 p0pa_48.2) H locs := hW
                            refine k_iload E hl 6 dL_law_436 rfl ?_
                            refine lv_icmp_lt (tgt := 446) E.hx E.hb dL_law_438 (by decide) (fun hc => ?_) (fun hc => ?_)
                            · have hf := oT hc hf
                              refine lv_iconst (v := (0 : Int32)) E.hx E.hb dL_law_446 ic_0 ?_
                              exact o0 hf
                            · have hf := oF hc hf
                              refine k_iload E hl 0 dL_law_441 rfl ?_
                              refine lv_if_ge (tgt := 448) E.hx E.hb dL_law_443 (by decide) (fun hc => ?_) (fun hc => ?_)
                              · have hf := oT hc hf
                                cases hf
                                exact hgo _ _ _ _ hW (lv_sub hl [1, 2, 3] rfl)
                              · have hf := oF hc hf
                                refine lv_iconst (v := (0 : Int32)) E.hx E.hb dL_law_446 ic_0 ?_
                                exact o0 hf
                          refine lv_icmp_ge (tgt := 422) E.hx E.hb dL_law_410 (by decide) (fun hc => ?_) (fun hc => ?_)
                          · have hf := oT hc hf
                            exact J_422 p0no_35 p0fo_j379 p0pa_36 w6_j379 w16_j379 w17_j379 pp_39 _ _ _ hW (lv_sub hl [1, 2, 3, 4, 8, 9] rfl) hf
                          · have hf := oF hc hf
                            refine k_iload E hl 0 dL_law_413 rfl ?_
                            refine k_iload E hl 7 dL_law_415 rfl ?_
                            refine lv_icmp_eq (tgt := 422) E.hx E.hb dL_law_417 (by decide) (fun hc => ?_) (fun hc => ?_)
                            · have hf := oT hc hf
                              exact J_422 p0no_35 p0fo_j379 p0pa_36 w6_j379 w16_j379 w17_j379 pp_39 _ _ _ hW (lv_sub hl [1, 2, 3, 4, 8, 9] rfl) hf
                            · have hf := oF hc hf
                              refine lv_iconst (v := (0 : Int32)) E.hx E.hb dL_law_420 ic_0 ?_
                              exact o0 hf
                    refine lv_icmp_eq (tgt := 379) E.hx E.hb dL_law_354 (by decide) (fun hc => ?_) (fun hc => ?_)
                    · have hf := oT hc hf
                      exact J_379 p0no_j351 p0fo_j351 p0pa_j351 w6_j351 w7_j351 w8_j351 w9_j351 w16_j351 w17_j351 pp_j351 _ _ _ hW (lv_sub hl [0, 1, 2, 3, 4, 5, 6, 9, 10] rfl) hf
                    · have hf := oF hc hf
                      refine k_aload_n E hl 0 dL_law_357 rfl ?_
                      refine k_aload_n E hl 0 dL_law_358 rfl ?_
                      refine k_iload E hl 7 dL_law_359 rfl ?_
                      refine lv_iconst (v := (5 : Int32)) E.hx E.hb dL_law_361 ic_5 ?_
                      obtain ⟨r_52, cd_53, hg, hf⟩ := ob2 hf
                      by_cases hcd : cd_53 = 0
                      rotate_left
                      · have hf := oF hcd hf
                        exact o0 hf
                      replace hf := oT hcd hf
                      refine k_callVi (As := [.int w13_j351, .int (5 : Int32)]) (rest := [.ref (a_p0 0)]) (ws2 := fun u => (wMCo k a_p0 (a_p0in 0) (a_p0ou 0) (a_p0ru 0) (a_p0no 0) (a_p0fo 0) (a_p0rd 0) (a_p0pa 0) sv_p0 p0_0 ++ wRules k a_p0ru p0ru_0 ++ wCourt k a_p0no p0no_j351 ++ wCourt k a_p0fo p0fo_j351 ++ wPast k a_p0pa pp_j351 p0pa_j351) ++ poolW k pp_j351 p0pa_j351.2) (c_X8_claim n l k a_p0 a_p0in a_p0ou a_p0ru a_p0no a_p0fo a_p0rd a_p0pa sv_p0 p0_0 p0no_j351 w13_j351 (5 : Int32) (r_52, cd_53) hg hcd) E vl_L_126 dL_law_362 rfl (List.range' 0 1 ++ List.range' 4 12) 8 0 hW hA hl rfl (by simp only [List.map_append]; exact app2 (blk_map [] (wMCo k a_p0 (a_p0in 0) (a_p0ou 0) (a_p0ru 0) (a_p0no 0) (a_p0fo 0) (a_p0rd 0) (a_p0pa 0) sv_p0 p0_0) (wRules k a_p0ru p0ru_0 ++ wCourt k a_p0no p0no_j351 ++ wCourt k a_p0fo p0fo_j351 ++ wPast k a_p0pa pp_j351 p0pa_j351 ++ poolW k pp_j351 p0pa_j351.2) 0 1 (by simp only [List.append_assoc, List.nil_append, List.append_nil]) rfl rfl) (blk_map (wMCo k a_p0 (a_p0in 0) (a_p0ou 0) (a_p0ru 0) (a_p0no 0) (a_p0fo 0) (a_p0rd 0) (a_p0pa 0) sv_p0 p0_0 ++ wRules k a_p0ru p0ru_0) (wCourt k a_p0no p0no_j351) (wCourt k a_p0fo p0fo_j351 ++ wPast k a_p0pa pp_j351 p0pa_j351 ++ poolW k pp_j351 p0pa_j351.2) 4 12 (by simp only [List.append_assoc, List.nil_append, List.append_nil]) rfl rfl)) rfl rfl ⟨by decide, by decide⟩ ⟨by decide, by decide⟩ (Nat.le_of_ble_eq_true rfl) rfl (fun _ => rfl) (fun u => by show putW _ (_ ++ _) (_ ++ _) = _; rw [putW_app _ _ _ _ _ rfl, blk_put [] (wMCo k a_p0 (a_p0in 0) (a_p0ou 0) (a_p0ru 0) (a_p0no 0) (a_p0fo 0) (a_p0rd 0) (a_p0pa 0) sv_p0 p0_0) (wRules k a_p0ru p0ru_0 ++ wCourt k a_p0no p0no_j351 ++ wCourt k a_p0fo p0fo_j351 ++ wPast k a_p0pa pp_j351 p0pa_j351 ++ poolW k pp_j351 p0pa_j351.2) (wMCo k a_p0 (a_p0in 0) (a_p0ou 0) (a_p0ru 0) (a_p0no 0) (a_p0fo 0) (a_p0rd 0) (a_p0pa 0) sv_p0 p0_0) 0 1 (by simp only [List.append_assoc, List.nil_append, List.append_nil]) rfl rfl rfl, blk_put (wMCo k a_p0 (a_p0in 0) (a_p0ou 0) (a_p0ru 0) (a_p0no 0) (a_p0fo 0) (a_p0rd 0) (a_p0pa 0) sv_p0 p0_0 ++ wRules k a_p0ru p0ru_0) (wCourt k a_p0no p0no_j351) (wCourt k a_p0fo p0fo_j351 ++ wPast k a_p0pa pp_j351 p0pa_j351 ++ poolW k pp_j351 p0pa_j351.2) (wCourt k a_p0no p0no_j351) 4 12 (by simp only [List.append_assoc, List.nil_append, List.append_nil]) rfl rfl rfl]; try simp only [List.append_assoc, List.nil_append, List.append_nil]) (fun r u H locs hp hW => ?_)
                      cases hp
                      have hW : WD k A s.heap ((wMCo k a_p0 (a_p0in 0) (a_p0ou 0) (a_p0ru 0) (a_p0no 0) (a_p0fo 0) (a_p0rd 0) (a_p0pa 0) sv_p0 p0_0 ++ wRules k a_p0ru p0ru_0 ++ wCourt k a_p0no p0no_j351 ++ wCourt k a_p0fo p0fo_j351 ++ wPast k a_p0pa pp_j351 p0pa_j351) ++ poolW k pp_j351 p0pa_j351.2) H locs := hW
                      refine lv_iconst (v := (3 : Int32)) E.hx E.hb dL_law_365 ic_3 ?_
                      obtain ⟨r_54, cd_55, hg, hf⟩ := ob2 hf
                      by_cases hcd : cd_55 = 0
                      rotate_left
                      · have hf := oF hcd hf
                        exact o0 hf
                      replace hf := oT hcd hf
                      refine k_callVi (As := [.int r_52, .int (3 : Int32)]) (rest := []) (ws2 := fun u => (wMCo k a_p0 (a_p0in 0) (a_p0ou 0) (a_p0ru 0) (a_p0no 0) (a_p0fo 0) (a_p0rd 0) (a_p0pa 0) sv_p0 p0_0 ++ wRules k a_p0ru p0ru_0 ++ wCourt k a_p0no p0no_j351 ++ wCourt k a_p0fo p0fo_j351 ++ wPast k a_p0pa pp_j351 p0pa_j351) ++ poolW k pp_j351 p0pa_j351.2) (c_X8_loan n l k a_p0 a_p0in a_p0ou a_p0ru a_p0no a_p0fo a_p0rd a_p0pa sv_p0 p0_0 p0no_j351 r_52 (3 : Int32) (r_54, cd_55) hg hcd) E vl_L_99 dL_law_366 rfl (List.range' 0 1 ++ List.range' 4 12) 8 0 hW hA hl rfl (by simp only [List.map_append]; exact app2 (blk_map [] (wMCo k a_p0 (a_p0in 0) (a_p0ou 0) (a_p0ru 0) (a_p0no 0) (a_p0fo 0) (a_p0rd 0) (a_p0pa 0) sv_p0 p0_0) (wRules k a_p0ru p0ru_0 ++ wCourt k a_p0no p0no_j351 ++ wCourt k a_p0fo p0fo_j351 ++ wPast k a_p0pa pp_j351 p0pa_j351 ++ poolW k pp_j351 p0pa_j351.2) 0 1 (by simp only [List.append_assoc, List.nil_append, List.append_nil]) rfl rfl) (blk_map (wMCo k a_p0 (a_p0in 0) (a_p0ou 0) (a_p0ru 0) (a_p0no 0) (a_p0fo 0) (a_p0rd 0) (a_p0pa 0) sv_p0 p0_0 ++ wRules k a_p0ru p0ru_0) (wCourt k a_p0no p0no_j351) (wCourt k a_p0fo p0fo_j351 ++ wPast k a_p0pa pp_j351 p0pa_j351 ++ poolW k pp_j351 p0pa_j351.2) 4 12 (by simp only [List.append_assoc, List.nil_append, List.append_nil]) rfl rfl)) rfl rfl ⟨by decide, by decide⟩ ⟨by decide, by decide⟩ (Nat.le_of_ble_eq_true rfl) rfl (fun _ => rfl) (fun u => by show putW _ (_ ++ _) (_ ++ _) = _; rw [putW_app _ _ _ _ _ rfl, blk_put [] (wMCo k a_p0 (a_p0in 0) (a_p0ou 0) (a_p0ru 0) (a_p0no 0) (a_p0fo 0) (a_p0rd 0) (a_p0pa 0) sv_p0 p0_0) (wRules k a_p0ru p0ru_0 ++ wCourt k a_p0no p0no_j351 ++ wCourt k a_p0fo p0fo_j351 ++ wPast k a_p0pa pp_j351 p0pa_j351 ++ poolW k pp_j351 p0pa_j351.2) (wMCo k a_p0 (a_p0in 0) (a_p0ou 0) (a_p0ru 0) (a_p0no 0) (a_p0fo 0) (a_p0rd 0) (a_p0pa 0) sv_p0 p0_0) 0 1 (by simp only [List.append_assoc, List.nil_append, List.append_nil]) rfl rfl rfl, blk_put (wMCo k a_p0 (a_p0in 0) (a_p0ou 0) (a_p0ru 0) (a_p0no 0) (a_p0fo 0) (a_p0rd 0) (a_p0pa 0) sv_p0 p0_0 ++ wRules k a_p0ru p0ru_0) (wCourt k a_p0no p0no_j351) (wCourt k a_p0fo p0fo_j351 ++ wPast k a_p0pa pp_j351 p0pa_j351 ++ poolW k pp_j351 p0pa_j351.2) (wCourt k a_p0no p0no_j351) 4 12 (by simp only [List.append_assoc, List.nil_append, List.append_nil]) rfl rfl rfl]; try simp only [List.append_assoc, List.nil_append, List.append_nil]) (fun r u H locs hp hW => ?_)
                      cases hp
                      have hW : WD k A s.heap ((wMCo k a_p0 (a_p0in 0) (a_p0ou 0) (a_p0ru 0) (a_p0no 0) (a_p0fo 0) (a_p0rd 0) (a_p0pa 0) sv_p0 p0_0 ++ wRules k a_p0ru p0ru_0 ++ wCourt k a_p0no p0no_j351 ++ wCourt k a_p0fo p0fo_j351 ++ wPast k a_p0pa pp_j351 p0pa_j351) ++ poolW k pp_j351 p0pa_j351.2) H locs := hW
                      refine k_iload E hl 4 dL_law_369 rfl ?_
                      refine k_iload E hl 8 dL_law_371 rfl ?_
                      refine lv_iadd E.hx E.hb dL_law_373 ?_
                      refine lv_icmp_eq (tgt := 379) E.hx E.hb dL_law_374 (by decide) (fun hc => ?_) (fun hc => ?_)
                      · have hf := oT hc hf
                        exact J_379 p0no_j351 p0fo_j351 p0pa_j351 w6_j351 w7_j351 w8_j351 w9_j351 w16_j351 w17_j351 pp_j351 _ _ _ hW (lv_sub hl [0, 1, 2, 3, 4, 5, 6, 9, 10] rfl) hf
                      · have hf := oF hc hf
                        refine lv_iconst (v := (0 : Int32)) E.hx E.hb dL_law_377 ic_0 ?_
                        exact o0 hf
                  refine lv_if_eq (tgt := 351) E.hx E.hb dL_law_318 (by decide) (fun hc => ?_) (fun hc => ?_)
                  · have hf := oT hc hf
                    exact J_351 p0no_33 p0fo_17 p0pa_21 w6_j224 w7_j224 w8_j224 w9_j224 w13_j224 w14_j224 r_18 r_22 pp_24 _ _ _ hW (lv_sub hl [3, 4, 5, 7, 8, 9, 10, 14, 15, 1, 0] rfl) hf
                  · have hf := oF hc hf
                    refine k_iload E hl 15 dL_law_321 rfl ?_
                    refine lv_iconst (v := (-1 : Int32)) E.hx E.hb dL_law_323 ic_m1 ?_
                    have J_332 : ∀ (p0no_j332 : OS) (p0fo_j332 : OS) (p0pa_j332 : PS) (w6_j332 : Int32) (w7_j332 : Int32) (w8_j332 : Int32) (w9_j332 : Int32) (w13_j332 : Int32) (w14_j332 : Int32) (w16_j332 : Int32) (w17_j332 : Int32) (s0_j332 : Int32) (pp_j332 : Nat → Nat → Nat) (H : Heap) (locs : List Loc) (ls : Array Slot) (hW : WD k A s.heap ((wMCo k a_p0 (a_p0in 0) (a_p0ou 0) (a_p0ru 0) (a_p0no 0) (a_p0fo 0) (a_p0rd 0) (a_p0pa 0) sv_p0 p0_0 ++ wRules k a_p0ru p0ru_0 ++ wCourt k a_p0no p0no_j332 ++ wCourt k a_p0fo p0fo_j332 ++ wPast k a_p0pa pp_j332 p0pa_j332) ++ poolW k pp_j332 p0pa_j332.2) H locs) (hl : lv_has ls 21 [(1, .ref (a_p0 0)), (2, .int v2_0), (3, .int v3_0), (6, .int w6_j332), (7, .int w7_j332), (8, .int w8_j332), (9, .int w9_j332), (13, .int w13_j332), (14, .int w14_j332), (16, .int w16_j332), (17, .int w17_j332)]) (hf : j_L_law_332 n L_s xs_s sv_p0 p0_0 p0ru_0 v2_0 v3_0 p0no_j332 p0fo_j332 p0pa_j332 w6_j332 w7_j332 w8_j332 w9_j332 w13_j332 w14_j332 w16_j332 w17_j332 s0_j332 = some res), W p l e room_1 s m args below meth c H locs 613 152000 Q (F0 m 332 ls [.int s0_j332]) := by
                      intro p0no_j332 p0fo_j332 p0pa_j332 w6_j332 w7_j332 w8_j332 w9_j332 w13_j332 w14_j332 w16_j332 w17_j332 s0_j332 pp_j332 H locs ls hW hl hf
                      unfold j_L_law_332 at hf
                      refine k_aload_n E hl 0 dL_law_332 rfl ?_
                      refine k_iload E hl 7 dL_law_333 rfl ?_
                      refine lv_iconst (v := (3 : Int32)) E.hx E.hb dL_law_335 ic_3 ?_
                      obtain ⟨r_56, cd_57, hg, hf⟩ := ob2 hf
                      by_cases hcd : cd_57 = 0
                      rotate_left
                      · have hf := oF hcd hf
                        exact o0 hf
                      replace hf := oT hcd hf
                      refine k_callVi (As := [.int w13_j332, .int (3 : Int32)]) (rest := [.int s0_j332]) (ws2 := fun u => (wMCo k a_p0 (a_p0in 0) (a_p0ou 0) (a_p0ru 0) (a_p0no 0) (a_p0fo 0) (a_p0rd 0) (a_p0pa 0) sv_p0 p0_0 ++ wRules k a_p0ru p0ru_0 ++ wCourt k a_p0no p0no_j332 ++ wCourt k a_p0fo p0fo_j332 ++ wPast k a_p0pa pp_j332 p0pa_j332) ++ poolW k pp_j332 p0pa_j332.2) (c_X8_claim n l k a_p0 a_p0in a_p0ou a_p0ru a_p0no a_p0fo a_p0rd a_p0pa sv_p0 p0_0 p0no_j332 w13_j332 (3 : Int32) (r_56, cd_57) hg hcd) E vl_L_126 dL_law_336 rfl (List.range' 0 1 ++ List.range' 4 12) 8 0 hW hA hl rfl (by simp only [List.map_append]; exact app2 (blk_map [] (wMCo k a_p0 (a_p0in 0) (a_p0ou 0) (a_p0ru 0) (a_p0no 0) (a_p0fo 0) (a_p0rd 0) (a_p0pa 0) sv_p0 p0_0) (wRules k a_p0ru p0ru_0 ++ wCourt k a_p0no p0no_j332 ++ wCourt k a_p0fo p0fo_j332 ++ wPast k a_p0pa pp_j332 p0pa_j332 ++ poolW k pp_j332 p0pa_j332.2) 0 1 (by simp only [List.append_assoc, List.nil_append, List.append_nil]) rfl rfl) (blk_map (wMCo k a_p0 (a_p0in 0) (a_p0ou 0) (a_p0ru 0) (a_p0no 0) (a_p0fo 0) (a_p0rd 0) (a_p0pa 0) sv_p0 p0_0 ++ wRules k a_p0ru p0ru_0) (wCourt k a_p0no p0no_j332) (wCourt k a_p0fo p0fo_j332 ++ wPast k a_p0pa pp_j332 p0pa_j332 ++ poolW k pp_j332 p0pa_j332.2) 4 12 (by simp only [List.append_assoc, List.nil_append, List.append_nil]) rfl rfl)) rfl rfl ⟨by decide, by decide⟩ ⟨by decide, by decide⟩ (Nat.le_of_ble_eq_true rfl) rfl (fun _ => rfl) (fun u => by show putW _ (_ ++ _) (_ ++ _) = _; rw [putW_app _ _ _ _ _ rfl, blk_put [] (wMCo k a_p0 (a_p0in 0) (a_p0ou 0) (a_p0ru 0) (a_p0no 0) (a_p0fo 0) (a_p0rd 0) (a_p0pa 0) sv_p0 p0_0) (wRules k a_p0ru p0ru_0 ++ wCourt k a_p0no p0no_j332 ++ wCourt k a_p0fo p0fo_j332 ++ wPast k a_p0pa pp_j332 p0pa_j332 ++ poolW k pp_j332 p0pa_j332.2) (wMCo k a_p0 (a_p0in 0) (a_p0ou 0) (a_p0ru 0) (a_p0no 0) (a_p0fo 0) (a_p0rd 0) (a_p0pa 0) sv_p0 p0_0) 0 1 (by simp only [List.append_assoc, List.nil_append, List.append_nil]) rfl rfl rfl, blk_put (wMCo k a_p0 (a_p0in 0) (a_p0ou 0) (a_p0ru 0) (a_p0no 0) (a_p0fo 0) (a_p0rd 0) (a_p0pa 0) sv_p0 p0_0 ++ wRules k a_p0ru p0ru_0) (wCourt k a_p0no p0no_j332) (wCourt k a_p0fo p0fo_j332 ++ wPast k a_p0pa pp_j332 p0pa_j332 ++ poolW k pp_j332 p0pa_j332.2) (wCourt k a_p0no p0no_j332) 4 12 (by simp only [List.append_assoc, List.nil_append, List.append_nil]) rfl rfl rfl]; try simp only [List.append_assoc, List.nil_append, List.append_nil]) (fun r u H locs hp hW => ?_)
                      cases hp
                      have hW : WD k A s.heap ((wMCo k a_p0 (a_p0in 0) (a_p0ou 0) (a_p0ru 0) (a_p0no 0) (a_p0fo 0) (a_p0rd 0) (a_p0pa 0) sv_p0 p0_0 ++ wRules k a_p0ru p0ru_0 ++ wCourt k a_p0no p0no_j332 ++ wCourt k a_p0fo p0fo_j332 ++ wPast k a_p0pa pp_j332 p0pa_j332) ++ poolW k pp_j332 p0pa_j332.2) H locs := hW
                      refine lv_iconst (v := (1 : Int32)) E.hx E.hb dL_law_339 ic_1 ?_
                      refine lv_icmp_ne (tgt := 347) E.hx E.hb dL_law_340 (by decide) (fun hc => ?_) (fun hc => ?_)
                      · have hf := oF hc hf
                        refine lv_iconst (v := (0 : Int32)) E.hx E.hb dL_law_347 ic_0 ?_
                        refine lv_icmp_ne (tgt := 377) E.hx E.hb dL_law_348 (by decide) (fun hc => ?_) (fun hc => ?_)
                        · have hf := oF hc hf
                          refine lv_iconst (v := (0 : Int32)) E.hx E.hb dL_law_377 ic_0 ?_
                          exact o0 hf
                        · have hf := oT hc hf
                          exact J_351 p0no_j332 p0fo_j332 p0pa_j332 w6_j332 w7_j332 w8_j332 w9_j332 w13_j332 w14_j332 w16_j332 w17_j332 pp_j332 _ _ _ hW (lv_sub hl [0, 1, 2, 3, 4, 5, 6, 7, 8, 9, 10] rfl) hf
                      · have hf := oT hc hf
                        refine lv_iconst (v := (1 : Int32)) E.hx E.hb dL_law_343 ic_1 ?_
                        refine lv_goto (tgt := 348) E.hx E.hb dL_law_344 (by decide) ?_
                        refine lv_icmp_ne (tgt := 377) E.hx E.hb dL_law_348 (by decide) (fun hc => ?_) (fun hc => ?_)
                        · have hf := oF hc hf
                          refine lv_iconst (v := (0 : Int32)) E.hx E.hb dL_law_377 ic_0 ?_
                          exact o0 hf
                        · have hf := oT hc hf
                          exact J_351 p0no_j332 p0fo_j332 p0pa_j332 w6_j332 w7_j332 w8_j332 w9_j332 w13_j332 w14_j332 w16_j332 w17_j332 pp_j332 _ _ _ hW (lv_sub hl [0, 1, 2, 3, 4, 5, 6, 7, 8, 9, 10] rfl) hf
                    refine lv_icmp_eq (tgt := 331) E.hx E.hb dL_law_324 (by decide) (fun hc => ?_) (fun hc => ?_)
                    · have hf := oT hc hf
                      refine lv_iconst (v := (0 : Int32)) E.hx E.hb dL_law_331 ic_0 ?_
                      exact J_332 p0no_33 p0fo_17 p0pa_21 w6_j224 w7_j224 w8_j224 w9_j224 w13_j224 w14_j224 r_18 r_22 (0 : Int32) pp_24 _ _ _ hW (lv_sub hl [3, 4, 5, 7, 8, 9, 10, 14, 15, 1, 0] rfl) hf
                    · have hf := oF hc hf
                      refine lv_iconst (v := (1 : Int32)) E.hx E.hb dL_law_327 ic_1 ?_
                      refine lv_goto (tgt := 332) E.hx E.hb dL_law_328 (by decide) ?_
                      exact J_332 p0no_33 p0fo_17 p0pa_21 w6_j224 w7_j224 w8_j224 w9_j224 w13_j224 w14_j224 r_18 r_22 (1 : Int32) pp_24 _ _ _ hW (lv_sub hl [3, 4, 5, 7, 8, 9, 10, 14, 15, 1, 0] rfl) hf
                · have hf := oT hc hf
                  refine lv_iconst (v := (0 : Int32)) E.hx E.hb dL_law_314 ic_0 ?_
                  exact o0 hf
    refine lv_if_lt (tgt := 223) E.hx E.hb dL_law_206 (by decide) (fun hc => ?_) (fun hc => ?_)
    · have hf := oT hc hf
      refine lv_iconst (v := (0 : Int32)) E.hx E.hb dL_law_223 ic_0 ?_
      exact J_224 p0no_j202 p0fo_j202 p0pa_j202 w5_j202 w6_j202 w7_j202 w8_j202 w9_j202 w10_j202 w11_j202 w12_j202 w13_j202 s0_j202 (0 : Int32) pp_j202 _ _ _ hW (lv_sub hl [1, 2, 3, 4, 5, 6, 7, 8, 9, 10, 11, 12, 0] rfl) hf
    · have hf := oF hc hf
      refine k_aload_n E hl 1 dL_law_209 rfl ?_
      refine k_iload E hl 12 dL_law_210 rfl ?_
      refine lv_iconst (v := (3 : Int32)) E.hx E.hb dL_law_212 ic_3 ?_
      obtain ⟨r_58, cd_59, hg, hf⟩ := ob2 hf
      by_cases hcd : cd_59 = 0
      rotate_left
      · have hf := oF hcd hf
        exact o0 hf
      replace hf := oT hcd hf
      refine k_callVi (As := [.int w13_j202, .int (3 : Int32)]) (rest := []) (ws2 := fun u => (wMCo k a_p0 (a_p0in 0) (a_p0ou 0) (a_p0ru 0) (a_p0no 0) (a_p0fo 0) (a_p0rd 0) (a_p0pa 0) sv_p0 p0_0 ++ wRules k a_p0ru p0ru_0 ++ wCourt k a_p0no p0no_j202 ++ wCourt k a_p0fo p0fo_j202 ++ wPast k a_p0pa pp_j202 p0pa_j202) ++ poolW k pp_j202 p0pa_j202.2) (c_X8_claim n l k a_p0 a_p0in a_p0ou a_p0ru a_p0no a_p0fo a_p0rd a_p0pa sv_p0 p0_0 p0no_j202 w13_j202 (3 : Int32) (r_58, cd_59) hg hcd) E vl_L_126 dL_law_213 rfl (List.range' 0 1 ++ List.range' 4 12) 8 0 hW hA hl rfl (by simp only [List.map_append]; exact app2 (blk_map [] (wMCo k a_p0 (a_p0in 0) (a_p0ou 0) (a_p0ru 0) (a_p0no 0) (a_p0fo 0) (a_p0rd 0) (a_p0pa 0) sv_p0 p0_0) (wRules k a_p0ru p0ru_0 ++ wCourt k a_p0no p0no_j202 ++ wCourt k a_p0fo p0fo_j202 ++ wPast k a_p0pa pp_j202 p0pa_j202 ++ poolW k pp_j202 p0pa_j202.2) 0 1 (by simp only [List.append_assoc, List.nil_append, List.append_nil]) rfl rfl) (blk_map (wMCo k a_p0 (a_p0in 0) (a_p0ou 0) (a_p0ru 0) (a_p0no 0) (a_p0fo 0) (a_p0rd 0) (a_p0pa 0) sv_p0 p0_0 ++ wRules k a_p0ru p0ru_0) (wCourt k a_p0no p0no_j202) (wCourt k a_p0fo p0fo_j202 ++ wPast k a_p0pa pp_j202 p0pa_j202 ++ poolW k pp_j202 p0pa_j202.2) 4 12 (by simp only [List.append_assoc, List.nil_append, List.append_nil]) rfl rfl)) rfl rfl ⟨by decide, by decide⟩ ⟨by decide, by decide⟩ (Nat.le_of_ble_eq_true rfl) rfl (fun _ => rfl) (fun u => by show putW _ (_ ++ _) (_ ++ _) = _; rw [putW_app _ _ _ _ _ rfl, blk_put [] (wMCo k a_p0 (a_p0in 0) (a_p0ou 0) (a_p0ru 0) (a_p0no 0) (a_p0fo 0) (a_p0rd 0) (a_p0pa 0) sv_p0 p0_0) (wRules k a_p0ru p0ru_0 ++ wCourt k a_p0no p0no_j202 ++ wCourt k a_p0fo p0fo_j202 ++ wPast k a_p0pa pp_j202 p0pa_j202 ++ poolW k pp_j202 p0pa_j202.2) (wMCo k a_p0 (a_p0in 0) (a_p0ou 0) (a_p0ru 0) (a_p0no 0) (a_p0fo 0) (a_p0rd 0) (a_p0pa 0) sv_p0 p0_0) 0 1 (by simp only [List.append_assoc, List.nil_append, List.append_nil]) rfl rfl rfl, blk_put (wMCo k a_p0 (a_p0in 0) (a_p0ou 0) (a_p0ru 0) (a_p0no 0) (a_p0fo 0) (a_p0rd 0) (a_p0pa 0) sv_p0 p0_0 ++ wRules k a_p0ru p0ru_0) (wCourt k a_p0no p0no_j202) (wCourt k a_p0fo p0fo_j202 ++ wPast k a_p0pa pp_j202 p0pa_j202 ++ poolW k pp_j202 p0pa_j202.2) (wCourt k a_p0no p0no_j202) 4 12 (by simp only [List.append_assoc, List.nil_append, List.append_nil]) rfl rfl rfl]; try simp only [List.append_assoc, List.nil_append, List.append_nil]) (fun r u H locs hp hW => ?_)
      cases hp
      have hW : WD k A s.heap ((wMCo k a_p0 (a_p0in 0) (a_p0ou 0) (a_p0ru 0) (a_p0no 0) (a_p0fo 0) (a_p0rd 0) (a_p0pa 0) sv_p0 p0_0 ++ wRules k a_p0ru p0ru_0 ++ wCourt k a_p0no p0no_j202 ++ wCourt k a_p0fo p0fo_j202 ++ wPast k a_p0pa pp_j202 p0pa_j202) ++ poolW k pp_j202 p0pa_j202.2) H locs := hW
      refine lv_if_ne (tgt := 223) E.hx E.hb dL_law_216 (by decide) (fun hc => ?_) (fun hc => ?_)
      · have hf := oF hc hf
        refine lv_iconst (v := (0 : Int32)) E.hx E.hb dL_law_223 ic_0 ?_
        exact J_224 p0no_j202 p0fo_j202 p0pa_j202 w5_j202 w6_j202 w7_j202 w8_j202 w9_j202 w10_j202 w11_j202 w12_j202 w13_j202 s0_j202 (0 : Int32) pp_j202 _ _ _ hW (lv_sub hl [1, 2, 3, 4, 5, 6, 7, 8, 9, 10, 11, 12, 0] rfl) hf
      · have hf := oT hc hf
        refine lv_iconst (v := (1 : Int32)) E.hx E.hb dL_law_219 ic_1 ?_
        refine lv_goto (tgt := 224) E.hx E.hb dL_law_220 (by decide) ?_
        exact J_224 p0no_j202 p0fo_j202 p0pa_j202 w5_j202 w6_j202 w7_j202 w8_j202 w9_j202 w10_j202 w11_j202 w12_j202 w13_j202 s0_j202 (1 : Int32) pp_j202 _ _ _ hW (lv_sub hl [1, 2, 3, 4, 5, 6, 7, 8, 9, 10, 11, 12, 0] rfl) hf
  refine lv_if_ge (tgt := 194) E.hx E.hb dL_law_187 (by decide) (fun hc => ?_) (fun hc => ?_)
  · have hf := oT hc hf
    refine k_aload_n E hl 10 dL_law_194 rfl ?_
    refine k_iload E hl 0 dL_law_195 rfl ?_
    refine k_iload E hl 7 dL_law_197 rfl ?_
    obtain ⟨p0fo_60, r_61, cd_62, hg, hf⟩ := ob3 hf
    by_cases hcd : cd_62 = 0
    rotate_left
    · have hf := oF hcd hf
      exact o0 hf
    replace hf := oT hcd hf
    refine k_callVi (As := [.int v13_16, .int r_2]) (rest := []) (ws2 := fun u => (wMCo k a_p0 (a_p0in 0) (a_p0ou 0) (a_p0ru 0) (a_p0no 0) (a_p0fo 0) (a_p0rd 0) (a_p0pa 0) sv_p0 p0_0 ++ wRules k a_p0ru p0ru_0 ++ wCourt k a_p0no p0no_0 ++ wCourt k a_p0fo (u) ++ wPast k a_p0pa pp_0 p0pa_0) ++ poolW k pp_0 p0pa_0.2) (c_X8_metIn n l k a_p0 a_p0in a_p0ou a_p0ru a_p0no a_p0fo a_p0rd a_p0pa sv_p0 p0_0 p0ru_0 p0no_0 p0fo_12 v13_16 r_2 (p0fo_60, r_61, cd_62) hg hcd) E vl_L_152 dL_law_199 rfl (List.range' 0 1 ++ List.range' 1 3 ++ List.range' 4 12 ++ List.range' 16 12) 8 0 hW hA hl rfl (by simp only [List.map_append]; exact app2 (app2 (app2 (blk_map [] (wMCo k a_p0 (a_p0in 0) (a_p0ou 0) (a_p0ru 0) (a_p0no 0) (a_p0fo 0) (a_p0rd 0) (a_p0pa 0) sv_p0 p0_0) (wRules k a_p0ru p0ru_0 ++ wCourt k a_p0no p0no_0 ++ wCourt k a_p0fo p0fo_12 ++ wPast k a_p0pa pp_0 p0pa_0 ++ poolW k pp_0 p0pa_0.2) 0 1 (by simp only [List.append_assoc, List.nil_append, List.append_nil]) rfl rfl) (blk_map (wMCo k a_p0 (a_p0in 0) (a_p0ou 0) (a_p0ru 0) (a_p0no 0) (a_p0fo 0) (a_p0rd 0) (a_p0pa 0) sv_p0 p0_0) (wRules k a_p0ru p0ru_0) (wCourt k a_p0no p0no_0 ++ wCourt k a_p0fo p0fo_12 ++ wPast k a_p0pa pp_0 p0pa_0 ++ poolW k pp_0 p0pa_0.2) 1 3 (by simp only [List.append_assoc, List.nil_append, List.append_nil]) rfl rfl)) (blk_map (wMCo k a_p0 (a_p0in 0) (a_p0ou 0) (a_p0ru 0) (a_p0no 0) (a_p0fo 0) (a_p0rd 0) (a_p0pa 0) sv_p0 p0_0 ++ wRules k a_p0ru p0ru_0) (wCourt k a_p0no p0no_0) (wCourt k a_p0fo p0fo_12 ++ wPast k a_p0pa pp_0 p0pa_0 ++ poolW k pp_0 p0pa_0.2) 4 12 (by simp only [List.append_assoc, List.nil_append, List.append_nil]) rfl rfl)) (blk_map (wMCo k a_p0 (a_p0in 0) (a_p0ou 0) (a_p0ru 0) (a_p0no 0) (a_p0fo 0) (a_p0rd 0) (a_p0pa 0) sv_p0 p0_0 ++ wRules k a_p0ru p0ru_0 ++ wCourt k a_p0no p0no_0) (wCourt k a_p0fo p0fo_12) (wPast k a_p0pa pp_0 p0pa_0 ++ poolW k pp_0 p0pa_0.2) 16 12 (by simp only [List.append_assoc, List.nil_append, List.append_nil]) rfl rfl)) rfl rfl ⟨by decide, by decide⟩ ⟨by decide, by decide⟩ (Nat.le_of_ble_eq_true rfl) rfl (fun _ => rfl) (fun u => by show putW _ (_ ++ _) (_ ++ _) = _; rw [putW_app _ _ _ _ _ rfl, putW_app _ _ _ _ _ rfl, putW_app _ _ _ _ _ rfl, blk_put [] (wMCo k a_p0 (a_p0in 0) (a_p0ou 0) (a_p0ru 0) (a_p0no 0) (a_p0fo 0) (a_p0rd 0) (a_p0pa 0) sv_p0 p0_0) (wRules k a_p0ru p0ru_0 ++ wCourt k a_p0no p0no_0 ++ wCourt k a_p0fo p0fo_12 ++ wPast k a_p0pa pp_0 p0pa_0 ++ poolW k pp_0 p0pa_0.2) (wMCo k a_p0 (a_p0in 0) (a_p0ou 0) (a_p0ru 0) (a_p0no 0) (a_p0fo 0) (a_p0rd 0) (a_p0pa 0) sv_p0 p0_0) 0 1 (by simp only [List.append_assoc, List.nil_append, List.append_nil]) rfl rfl rfl, blk_put (wMCo k a_p0 (a_p0in 0) (a_p0ou 0) (a_p0ru 0) (a_p0no 0) (a_p0fo 0) (a_p0rd 0) (a_p0pa 0) sv_p0 p0_0) (wRules k a_p0ru p0ru_0) (wCourt k a_p0no p0no_0 ++ wCourt k a_p0fo p0fo_12 ++ wPast k a_p0pa pp_0 p0pa_0 ++ poolW k pp_0 p0pa_0.2) (wRules k a_p0ru p0ru_0) 1 3 (by simp only [List.append_assoc, List.nil_append, List.append_nil]) rfl rfl rfl, blk_put (wMCo k a_p0 (a_p0in 0) (a_p0ou 0) (a_p0ru 0) (a_p0no 0) (a_p0fo 0) (a_p0rd 0) (a_p0pa 0) sv_p0 p0_0 ++ wRules k a_p0ru p0ru_0) (wCourt k a_p0no p0no_0) (wCourt k a_p0fo p0fo_12 ++ wPast k a_p0pa pp_0 p0pa_0 ++ poolW k pp_0 p0pa_0.2) (wCourt k a_p0no p0no_0) 4 12 (by simp only [List.append_assoc, List.nil_append, List.append_nil]) rfl rfl rfl, blk_put (wMCo k a_p0 (a_p0in 0) (a_p0ou 0) (a_p0ru 0) (a_p0no 0) (a_p0fo 0) (a_p0rd 0) (a_p0pa 0) sv_p0 p0_0 ++ wRules k a_p0ru p0ru_0 ++ wCourt k a_p0no p0no_0) (wCourt k a_p0fo p0fo_12) (wPast k a_p0pa pp_0 p0pa_0 ++ poolW k pp_0 p0pa_0.2) (wCourt k a_p0fo (u)) 16 12 (by simp only [List.append_assoc, List.nil_append, List.append_nil]) rfl rfl rfl]; try simp only [List.append_assoc, List.nil_append, List.append_nil]) (fun r u H locs hp hW => ?_)
    cases hp
    have hW : WD k A s.heap ((wMCo k a_p0 (a_p0in 0) (a_p0ou 0) (a_p0ru 0) (a_p0no 0) (a_p0fo 0) (a_p0rd 0) (a_p0pa 0) sv_p0 p0_0 ++ wRules k a_p0ru p0ru_0 ++ wCourt k a_p0no p0no_0 ++ wCourt k a_p0fo p0fo_60 ++ wPast k a_p0pa pp_0 p0pa_0) ++ poolW k pp_0 p0pa_0.2) H locs := hW
    exact J_202 p0no_0 p0fo_60 p0pa_0 r_1 r_2 r_3 r_4 r_5 r_7 r_10 r_13 v13_16 r_61 pp_0 _ _ _ hW (lv_sub hl [10, 11, 12, 8, 7, 6, 5, 4, 3, 2, 1, 0] rfl) hf
  · have hf := oF hc hf
    refine lv_iconst (v := (-1 : Int32)) E.hx E.hb dL_law_190 ic_m1 ?_
    refine lv_goto (tgt := 202) E.hx E.hb dL_law_191 (by decide) ?_
    exact J_202 p0no_0 p0fo_12 p0pa_0 r_1 r_2 r_3 r_4 r_5 r_7 r_10 r_13 v13_16 (-1 : Int32) pp_0 _ _ _ hW (lv_sub hl [10, 11, 12, 8, 7, 6, 5, 4, 3, 2, 1, 0] rfl) hf
