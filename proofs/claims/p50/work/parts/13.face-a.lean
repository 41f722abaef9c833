theorem tm_319 : (Jvm.Cond.fieldLink "MemoryCourt" (24 : Nat) "MemoryCourt" "rules" "LMemoryCourt$Rules;") ∈ lw_tbl := List.mem_of_getElem? (i := 319) (by decide +kernel)
theorem tm_114 : (Jvm.Cond.fieldLinkNest "MemoryCourt" (96 : Nat) "MemoryCourt$Rules" "processes" "I" "MemoryCourt") ∈ lw_tbl := List.mem_of_getElem? (i := 114) (by decide +kernel)
theorem tm_320 : (Jvm.Cond.fieldLink "MemoryCourt" (31 : Nat) "MemoryCourt" "now" "LMemoryCourt$Court;") ∈ lw_tbl := List.mem_of_getElem? (i := 320) (by decide +kernel)
theorem tm_165 : (Jvm.Cond.fieldLinkNest "MemoryCourt" (132 : Nat) "MemoryCourt$Court" "loanCount" "I" "MemoryCourt") ∈ lw_tbl := List.mem_of_getElem? (i := 165) (by decide +kernel)
theorem tm_168 : (Jvm.Cond.fieldLinkNest "MemoryCourt" (142 : Nat) "MemoryCourt$Court" "claimCount" "I" "MemoryCourt") ∈ lw_tbl := List.mem_of_getElem? (i := 168) (by decide +kernel)
theorem tm_278 : (Jvm.Cond.fieldLink "MemoryCourt$Past" (21 : Nat) "MemoryCourt$Past" "count" "I") ∈ lw_tbl := List.mem_of_getElem? (i := 278) (by decide +kernel)
theorem tm_317 : (Jvm.Cond.fieldLink "MemoryCourt" (14 : Nat) "MemoryCourt" "input" "LMemoryCourt$Bytes;") ∈ lw_tbl := List.mem_of_getElem? (i := 317) (by decide +kernel)
theorem tm_81 : (Jvm.Cond.fieldLinkNest "MemoryCourt" (75 : Nat) "MemoryCourt$Bytes" "length" "I" "MemoryCourt") ∈ lw_tbl := List.mem_of_getElem? (i := 81) (by decide +kernel)
theorem tm_746 : (Jvm.Cond.methodLink "MemoryCourt" (78 : Nat) ({ cls := "MemoryCourt$Bytes", name := "putWord", desc := "(I)V" } : Jvm.MethodName)) ∈ lw_tbl := List.mem_of_getElem? (i := 746) (by decide +kernel)
theorem tm_747 : (Jvm.Cond.instanceMethod ({ cls := "MemoryCourt$Bytes", name := "putWord", desc := "(I)V" } : Jvm.MethodName)) ∈ lw_tbl := List.mem_of_getElem? (i := 747) (by decide +kernel)
theorem tm_748 : (Jvm.Cond.selects "MemoryCourt$Bytes" ({ cls := "MemoryCourt$Bytes", name := "putWord", desc := "(I)V" } : Jvm.MethodName) ({ cls := "MemoryCourt$Bytes", name := "putWord", desc := "(I)V" } : Jvm.MethodName)) ∈ lw_tbl := List.mem_of_getElem? (i := 748) (by decide +kernel)
theorem tm_749 : (Jvm.Cond.code ({ cls := "MemoryCourt$Bytes", name := "putWord", desc := "(I)V" } : Jvm.MethodName) prog_3_method_4_code (2 : Nat) (Option.none : Option Jvm.ClassFile.FieldType)) ∈ lw_tbl := List.mem_of_getElem? (i := 749) (by decide +kernel)
theorem tm_112 : (Jvm.Cond.fieldLinkNest "MemoryCourt" (105 : Nat) "MemoryCourt$Rules" "pages" "I" "MemoryCourt") ∈ lw_tbl := List.mem_of_getElem? (i := 112) (by decide +kernel)
theorem tm_156 : (Jvm.Cond.fieldLinkNest "MemoryCourt" (108 : Nat) "MemoryCourt$Court" "time" "I" "MemoryCourt") ∈ lw_tbl := List.mem_of_getElem? (i := 156) (by decide +kernel)
theorem tm_158 : (Jvm.Cond.fieldLinkNest "MemoryCourt" (111 : Nat) "MemoryCourt$Court" "order" "I" "MemoryCourt") ∈ lw_tbl := List.mem_of_getElem? (i := 158) (by decide +kernel)
theorem tm_118 : (Jvm.Cond.fieldLinkNest "MemoryCourt" (114 : Nat) "MemoryCourt$Rules" "every" "I" "MemoryCourt") ∈ lw_tbl := List.mem_of_getElem? (i := 118) (by decide +kernel)
theorem tm_120 : (Jvm.Cond.fieldLinkNest "MemoryCourt" (117 : Nat) "MemoryCourt$Rules" "base" "I" "MemoryCourt") ∈ lw_tbl := List.mem_of_getElem? (i := 120) (by decide +kernel)
theorem tm_123 : (Jvm.Cond.fieldLinkNest "MemoryCourt" (120 : Nat) "MemoryCourt$Rules" "fade" "I" "MemoryCourt") ∈ lw_tbl := List.mem_of_getElem? (i := 123) (by decide +kernel)
theorem tm_125 : (Jvm.Cond.fieldLinkNest "MemoryCourt" (123 : Nat) "MemoryCourt$Rules" "patience" "I" "MemoryCourt") ∈ lw_tbl := List.mem_of_getElem? (i := 125) (by decide +kernel)
theorem tm_128 : (Jvm.Cond.fieldLinkNest "MemoryCourt" (126 : Nat) "MemoryCourt$Rules" "appeal" "I" "MemoryCourt") ∈ lw_tbl := List.mem_of_getElem? (i := 128) (by decide +kernel)
theorem tm_162 : (Jvm.Cond.fieldLinkNest "MemoryCourt" (129 : Nat) "MemoryCourt$Court" "free" "I" "MemoryCourt") ∈ lw_tbl := List.mem_of_getElem? (i := 162) (by decide +kernel)
theorem tm_349 : (Jvm.Cond.methodLink "MemoryCourt" (135 : Nat) ({ cls := "MemoryCourt$Court", name := "openLoans", desc := "(I)I" } : Jvm.MethodName)) ∈ lw_tbl := List.mem_of_getElem? (i := 349) (by decide +kernel)
theorem tm_350 : (Jvm.Cond.instanceMethod ({ cls := "MemoryCourt$Court", name := "openLoans", desc := "(I)I" } : Jvm.MethodName)) ∈ lw_tbl := List.mem_of_getElem? (i := 350) (by decide +kernel)
theorem tm_351 : (Jvm.Cond.selects "MemoryCourt$Court" ({ cls := "MemoryCourt$Court", name := "openLoans", desc := "(I)I" } : Jvm.MethodName) ({ cls := "MemoryCourt$Court", name := "openLoans", desc := "(I)I" } : Jvm.MethodName)) ∈ lw_tbl := List.mem_of_getElem? (i := 351) (by decide +kernel)
theorem tm_352 : (Jvm.Cond.code ({ cls := "MemoryCourt$Court", name := "openLoans", desc := "(I)I" } : Jvm.MethodName) prog_4_method_14_code (4 : Nat) (Option.some Jvm.ClassFile.FieldType.int)) ∈ lw_tbl := List.mem_of_getElem? (i := 352) (by decide +kernel)
theorem tm_365 : (Jvm.Cond.methodLink "MemoryCourt" (139 : Nat) ({ cls := "MemoryCourt$Court", name := "brokenLoans", desc := "(I)I" } : Jvm.MethodName)) ∈ lw_tbl := List.mem_of_getElem? (i := 365) (by decide +kernel)
theorem tm_366 : (Jvm.Cond.instanceMethod ({ cls := "MemoryCourt$Court", name := "brokenLoans", desc := "(I)I" } : Jvm.MethodName)) ∈ lw_tbl := List.mem_of_getElem? (i := 366) (by decide +kernel)
theorem tm_367 : (Jvm.Cond.selects "MemoryCourt$Court" ({ cls := "MemoryCourt$Court", name := "brokenLoans", desc := "(I)I" } : Jvm.MethodName) ({ cls := "MemoryCourt$Court", name := "brokenLoans", desc := "(I)I" } : Jvm.MethodName)) ∈ lw_tbl := List.mem_of_getElem? (i := 367) (by decide +kernel)
theorem tm_368 : (Jvm.Cond.code ({ cls := "MemoryCourt$Court", name := "brokenLoans", desc := "(I)I" } : Jvm.MethodName) prog_4_method_15_code (4 : Nat) (Option.some Jvm.ClassFile.FieldType.int)) ∈ lw_tbl := List.mem_of_getElem? (i := 368) (by decide +kernel)
theorem tm_373 : (Jvm.Cond.methodLink "MemoryCourt" (145 : Nat) ({ cls := "MemoryCourt$Court", name := "claimsThat", desc := "(II)I" } : Jvm.MethodName)) ∈ lw_tbl := List.mem_of_getElem? (i := 373) (by decide +kernel)
theorem tm_374 : (Jvm.Cond.instanceMethod ({ cls := "MemoryCourt$Court", name := "claimsThat", desc := "(II)I" } : Jvm.MethodName)) ∈ lw_tbl := List.mem_of_getElem? (i := 374) (by decide +kernel)
theorem tm_375 : (Jvm.Cond.selects "MemoryCourt$Court" ({ cls := "MemoryCourt$Court", name := "claimsThat", desc := "(II)I" } : Jvm.MethodName) ({ cls := "MemoryCourt$Court", name := "claimsThat", desc := "(II)I" } : Jvm.MethodName)) ∈ lw_tbl := List.mem_of_getElem? (i := 375) (by decide +kernel)
theorem tm_376 : (Jvm.Cond.code ({ cls := "MemoryCourt$Court", name := "claimsThat", desc := "(II)I" } : Jvm.MethodName) prog_4_method_25_code (5 : Nat) (Option.some Jvm.ClassFile.FieldType.int)) ∈ lw_tbl := List.mem_of_getElem? (i := 376) (by decide +kernel)
theorem tm_172 : (Jvm.Cond.fieldLinkNest "MemoryCourt" (149 : Nat) "MemoryCourt$Court" "hearings" "I" "MemoryCourt") ∈ lw_tbl := List.mem_of_getElem? (i := 172) (by decide +kernel)
theorem tm_170 : (Jvm.Cond.fieldLinkNest "MemoryCourt" (152 : Nat) "MemoryCourt$Court" "fineCount" "I" "MemoryCourt") ∈ lw_tbl := List.mem_of_getElem? (i := 170) (by decide +kernel)
theorem tm_175 : (Jvm.Cond.fieldLinkNest "MemoryCourt" (155 : Nat) "MemoryCourt$Court" "takenBack" "I" "MemoryCourt") ∈ lw_tbl := List.mem_of_getElem? (i := 175) (by decide +kernel)
theorem tm_323 : (Jvm.Cond.fieldLink "MemoryCourt" (50 : Nat) "MemoryCourt" "past" "LMemoryCourt$Past;") ∈ lw_tbl := List.mem_of_getElem? (i := 323) (by decide +kernel)
theorem tm_279 : (Jvm.Cond.fieldLinkNest "MemoryCourt" (158 : Nat) "MemoryCourt$Past" "count" "I" "MemoryCourt") ∈ lw_tbl := List.mem_of_getElem? (i := 279) (by decide +kernel)
theorem tm_381 : (Jvm.Cond.methodLink "MemoryCourt" (165 : Nat) ({ cls := "MemoryCourt", name := "needProcess", desc := "(I)V" } : Jvm.MethodName)) ∈ lw_tbl := List.mem_of_getElem? (i := 381) (by decide +kernel)
theorem tm_383 : (Jvm.Cond.instanceMethod ({ cls := "MemoryCourt", name := "needProcess", desc := "(I)V" } : Jvm.MethodName)) ∈ lw_tbl := List.mem_of_getElem? (i := 383) (by decide +kernel)
theorem tms_1 : (Jvm.Cond.selects "MemoryCourt" ({ cls := "MemoryCourt", name := "needProcess", desc := "(I)V" } : Jvm.MethodName) ({ cls := "MemoryCourt", name := "needProcess", desc := "(I)V" } : Jvm.MethodName)) ∈ lw_tbl := List.mem_of_getElem? (i := 1) (by decide +kernel)
theorem tm_33 : (Jvm.Cond.initialized "MemoryCourt") ∈ lw_tbl := List.mem_of_getElem? (i := 33) (by decide +kernel)
theorem tm_384 : (Jvm.Cond.code ({ cls := "MemoryCourt", name := "needProcess", desc := "(I)V" } : Jvm.MethodName) prog_1_method_49_code (2 : Nat) (Option.none : Option Jvm.ClassFile.FieldType)) ∈ lw_tbl := List.mem_of_getElem? (i := 384) (by decide +kernel)
theorem tm_179 : (Jvm.Cond.fieldLinkNest "MemoryCourt" (168 : Nat) "MemoryCourt$Court" "processes" "LMemoryCourt$Table;" "MemoryCourt") ∈ lw_tbl := List.mem_of_getElem? (i := 179) (by decide +kernel)
theorem tm_453 : (Jvm.Cond.methodLink "MemoryCourt" (171 : Nat) ({ cls := "MemoryCourt$Table", name := "get", desc := "(II)I" } : Jvm.MethodName)) ∈ lw_tbl := List.mem_of_getElem? (i := 453) (by decide +kernel)
theorem tm_454 : (Jvm.Cond.methodLink "MemoryCourt" (176 : Nat) ({ cls := "MemoryCourt$Court", name := "heldPages", desc := "(I)I" } : Jvm.MethodName)) ∈ lw_tbl := List.mem_of_getElem? (i := 454) (by decide +kernel)
theorem tm_455 : (Jvm.Cond.instanceMethod ({ cls := "MemoryCourt$Court", name := "heldPages", desc := "(I)I" } : Jvm.MethodName)) ∈ lw_tbl := List.mem_of_getElem? (i := 455) (by decide +kernel)
theorem tm_456 : (Jvm.Cond.selects "MemoryCourt$Court" ({ cls := "MemoryCourt$Court", name := "heldPages", desc := "(I)I" } : Jvm.MethodName) ({ cls := "MemoryCourt$Court", name := "heldPages", desc := "(I)I" } : Jvm.MethodName)) ∈ lw_tbl := List.mem_of_getElem? (i := 456) (by decide +kernel)
theorem tm_457 : (Jvm.Cond.code ({ cls := "MemoryCourt$Court", name := "heldPages", desc := "(I)I" } : Jvm.MethodName) prog_4_method_16_code (4 : Nat) (Option.some Jvm.ClassFile.FieldType.int)) ∈ lw_tbl := List.mem_of_getElem? (i := 457) (by decide +kernel)
theorem tm_463 : (Jvm.Cond.methodLink "MemoryCourt" (186 : Nat) ({ cls := "MemoryCourt", name := "needLoan", desc := "(I)V" } : Jvm.MethodName)) ∈ lw_tbl := List.mem_of_getElem? (i := 463) (by decide +kernel)
theorem tm_465 : (Jvm.Cond.instanceMethod ({ cls := "MemoryCourt", name := "needLoan", desc := "(I)V" } : Jvm.MethodName)) ∈ lw_tbl := List.mem_of_getElem? (i := 465) (by decide +kernel)
theorem tms_3 : (Jvm.Cond.selects "MemoryCourt" ({ cls := "MemoryCourt", name := "needLoan", desc := "(I)V" } : Jvm.MethodName) ({ cls := "MemoryCourt", name := "needLoan", desc := "(I)V" } : Jvm.MethodName)) ∈ lw_tbl := List.mem_of_getElem? (i := 3) (by decide +kernel)
theorem tm_466 : (Jvm.Cond.code ({ cls := "MemoryCourt", name := "needLoan", desc := "(I)V" } : Jvm.MethodName) prog_1_method_50_code (2 : Nat) (Option.none : Option Jvm.ClassFile.FieldType)) ∈ lw_tbl := List.mem_of_getElem? (i := 466) (by decide +kernel)
theorem tm_181 : (Jvm.Cond.fieldLinkNest "MemoryCourt" (195 : Nat) "MemoryCourt$Court" "loans" "LMemoryCourt$Table;" "MemoryCourt") ∈ lw_tbl := List.mem_of_getElem? (i := 181) (by decide +kernel)
theorem tm_469 : (Jvm.Cond.methodLink "MemoryCourt" (191 : Nat) ({ cls := "MemoryCourt$Court", name := "isBroken", desc := "(I)Z" } : Jvm.MethodName)) ∈ lw_tbl := List.mem_of_getElem? (i := 469) (by decide +kernel)
theorem tm_1174 : (Jvm.Cond.methodLink "MemoryCourt" (200 : Nat) ({ cls := "MemoryCourt$Court", name := "loanOf", desc := "(I)I" } : Jvm.MethodName)) ∈ lw_tbl := List.mem_of_getElem? (i := 1174) (by decide +kernel)
theorem tm_1175 : (Jvm.Cond.instanceMethod ({ cls := "MemoryCourt$Court", name := "loanOf", desc := "(I)I" } : Jvm.MethodName)) ∈ lw_tbl := List.mem_of_getElem? (i := 1175) (by decide +kernel)
theorem tm_1176 : (Jvm.Cond.selects "MemoryCourt$Court" ({ cls := "MemoryCourt$Court", name := "loanOf", desc := "(I)I" } : Jvm.MethodName) ({ cls := "MemoryCourt$Court", name := "loanOf", desc := "(I)I" } : Jvm.MethodName)) ∈ lw_tbl := List.mem_of_getElem? (i := 1176) (by decide +kernel)
theorem tm_1177 : (Jvm.Cond.code ({ cls := "MemoryCourt$Court", name := "loanOf", desc := "(I)I" } : Jvm.MethodName) prog_4_method_4_code (2 : Nat) (Option.some Jvm.ClassFile.FieldType.int)) ∈ lw_tbl := List.mem_of_getElem? (i := 1177) (by decide +kernel)
theorem tm_1149 : (Jvm.Cond.methodLink "MemoryCourt" (203 : Nat) ({ cls := "MemoryCourt$Court", name := "pageAt", desc := "(II)I" } : Jvm.MethodName)) ∈ lw_tbl := List.mem_of_getElem? (i := 1149) (by decide +kernel)
theorem tm_1150 : (Jvm.Cond.instanceMethod ({ cls := "MemoryCourt$Court", name := "pageAt", desc := "(II)I" } : Jvm.MethodName)) ∈ lw_tbl := List.mem_of_getElem? (i := 1150) (by decide +kernel)
theorem tm_1151 : (Jvm.Cond.selects "MemoryCourt$Court" ({ cls := "MemoryCourt$Court", name := "pageAt", desc := "(II)I" } : Jvm.MethodName) ({ cls := "MemoryCourt$Court", name := "pageAt", desc := "(II)I" } : Jvm.MethodName)) ∈ lw_tbl := List.mem_of_getElem? (i := 1151) (by decide +kernel)
theorem tm_1152 : (Jvm.Cond.code ({ cls := "MemoryCourt$Court", name := "pageAt", desc := "(II)I" } : Jvm.MethodName) prog_4_method_5_code (5 : Nat) (Option.some Jvm.ClassFile.FieldType.int)) ∈ lw_tbl := List.mem_of_getElem? (i := 1152) (by decide +kernel)
theorem tm_1182 : (Jvm.Cond.methodLink "MemoryCourt" (211 : Nat) ({ cls := "MemoryCourt$Court", name := "rowsOf", desc := "(I)I" } : Jvm.MethodName)) ∈ lw_tbl := List.mem_of_getElem? (i := 1182) (by decide +kernel)
theorem tm_1183 : (Jvm.Cond.instanceMethod ({ cls := "MemoryCourt$Court", name := "rowsOf", desc := "(I)I" } : Jvm.MethodName)) ∈ lw_tbl := List.mem_of_getElem? (i := 1183) (by decide +kernel)
theorem tm_1184 : (Jvm.Cond.selects "MemoryCourt$Court" ({ cls := "MemoryCourt$Court", name := "rowsOf", desc := "(I)I" } : Jvm.MethodName) ({ cls := "MemoryCourt$Court", name := "rowsOf", desc := "(I)I" } : Jvm.MethodName)) ∈ lw_tbl := List.mem_of_getElem? (i := 1184) (by decide +kernel)
theorem tm_1185 : (Jvm.Cond.code ({ cls := "MemoryCourt$Court", name := "rowsOf", desc := "(I)I" } : Jvm.MethodName) prog_4_method_6_code (8 : Nat) (Option.some Jvm.ClassFile.FieldType.int)) ∈ lw_tbl := List.mem_of_getElem? (i := 1185) (by decide +kernel)
theorem tm_474 : (Jvm.Cond.methodLink "MemoryCourt" (217 : Nat) ({ cls := "MemoryCourt", name := "needClaim", desc := "(I)V" } : Jvm.MethodName)) ∈ lw_tbl := List.mem_of_getElem? (i := 474) (by decide +kernel)
theorem tm_476 : (Jvm.Cond.instanceMethod ({ cls := "MemoryCourt", name := "needClaim", desc := "(I)V" } : Jvm.MethodName)) ∈ lw_tbl := List.mem_of_getElem? (i := 476) (by decide +kernel)
theorem tms_4 : (Jvm.Cond.selects "MemoryCourt" ({ cls := "MemoryCourt", name := "needClaim", desc := "(I)V" } : Jvm.MethodName) ({ cls := "MemoryCourt", name := "needClaim", desc := "(I)V" } : Jvm.MethodName)) ∈ lw_tbl := List.mem_of_getElem? (i := 4) (by decide +kernel)
theorem tm_477 : (Jvm.Cond.code ({ cls := "MemoryCourt", name := "needClaim", desc := "(I)V" } : Jvm.MethodName) prog_1_method_51_code (2 : Nat) (Option.none : Option Jvm.ClassFile.FieldType)) ∈ lw_tbl := List.mem_of_getElem? (i := 477) (by decide +kernel)
theorem tm_183 : (Jvm.Cond.fieldLinkNest "MemoryCourt" (222 : Nat) "MemoryCourt$Court" "claims" "LMemoryCourt$Table;" "MemoryCourt") ∈ lw_tbl := List.mem_of_getElem? (i := 183) (by decide +kernel)
theorem tm_1200 : (Jvm.Cond.methodLink "MemoryCourt" (225 : Nat) ({ cls := "MemoryCourt$Court", name := "lineUp", desc := "()I" } : Jvm.MethodName)) ∈ lw_tbl := List.mem_of_getElem? (i := 1200) (by decide +kernel)
theorem tm_1202 : (Jvm.Cond.methodLink "MemoryCourt" (231 : Nat) ({ cls := "MemoryCourt$Court", name := "inLine", desc := "(I)I" } : Jvm.MethodName)) ∈ lw_tbl := List.mem_of_getElem? (i := 1202) (by decide +kernel)
theorem tm_1190 : (Jvm.Cond.methodLink "MemoryCourt" (263 : Nat) ({ cls := "MemoryCourt$Court", name := "brokenPages", desc := "()I" } : Jvm.MethodName)) ∈ lw_tbl := List.mem_of_getElem? (i := 1190) (by decide +kernel)
theorem tm_1195 : (Jvm.Cond.methodLink "MemoryCourt" (266 : Nat) ({ cls := "MemoryCourt$Court", name := "earliestBroken", desc := "()I" } : Jvm.MethodName)) ∈ lw_tbl := List.mem_of_getElem? (i := 1195) (by decide +kernel)
theorem sp_500 : (Int16.ofInt (500)).toInt32 = (500 : Int32) := by decide
theorem bp_20 : (Int8.ofInt (20)).toInt32 = (20 : Int32) := by decide
theorem sp_600 : (Int16.ofInt (600)).toInt32 = (600 : Int32) := by decide
theorem gf_X8_24 {p : Program} {l : Launch} {e : Env} {R : Room} {s : State} {m : MethodId} {args : Array Value} {below : List Frame} {meth : Method} {c : Code} {H : Heap} {locs : List Loc} {cells slots : Nat} {Q : State → Prop} {cc : ByteArray} {pc nL : Nat} {ls : Array Slot} {rest : List Value} {k : KT} {A : Nat → Prop} {ws : va_W} {H0 : Heap} {a : Nat} (E : E0 p s m c cc nL RX8 k A) (hW : WD k A H0 ws H locs) (q0 : Nat) {fs : List Value} (he : ws[q0]? = some (a, .inr (8, fs))) {v : Value} (hv : fs[2]? = some v) (hdg : decode cc pc = .ok (.getfield 24, 3)) (q : W p l e R s m args below meth c H locs cells slots Q (F0 m (pc + 3) ls (v :: rest))) : W p l e R s m args below meth c H locs cells slots Q (F0 m pc ls (.ref a :: rest)) := va_get (C := RX8) (T := TX8) (N := 9) (ci := 8) E.hx E.hb (Ts := wsX80) (fun w hw => E.w (inX8 w hw) (tbl_laysX8 w hw)) (fun _ h => h) E.ho E.hK hW.1 q0 he rfl 2 (by decide) (E.w tm_319 rfl) (fun _ h => h) hv hdg q
theorem gf_X8_96 {p : Program} {l : Launch} {e : Env} {R : Room} {s : State} {m : MethodId} {args : Array Value} {below : List Frame} {meth : Method} {c : Code} {H : Heap} {locs : List Loc} {cells slots : Nat} {Q : State → Prop} {cc : ByteArray} {pc nL : Nat} {ls : Array Slot} {rest : List Value} {k : KT} {A : Nat → Prop} {ws : va_W} {H0 : Heap} {a : Nat} (E : E0 p s m c cc nL RX8 k A) (hW : WD k A H0 ws H locs) (q0 : Nat) {fs : List Value} (he : ws[q0]? = some (a, .inr (6, fs))) {v : Value} (hv : fs[1]? = some v) (hdg : decode cc pc = .ok (.getfield 96, 3)) (q : W p l e R s m args below meth c H locs cells slots Q (F0 m (pc + 3) ls (v :: rest))) : W p l e R s m args below meth c H locs cells slots Q (F0 m pc ls (.ref a :: rest)) := va_getN (C := RX5) (T := TX5) (N := 8) (ci := 6) E.hx E.hb (Ts := wsX50) (fun w hw => E.w (inX5 w hw) (tbl_laysX5 w hw)) (fun _ h => h) E.ho E.hK hW.1 q0 he rfl 1 (by decide) (E.w tm_114 rfl) (fun _ h => h) hv hdg q
theorem gf_X8_31 {p : Program} {l : Launch} {e : Env} {R : Room} {s : State} {m : MethodId} {args : Array Value} {below : List Frame} {meth : Method} {c : Code} {H : Heap} {locs : List Loc} {cells slots : Nat} {Q : State → Prop} {cc : ByteArray} {pc nL : Nat} {ls : Array Slot} {rest : List Value} {k : KT} {A : Nat → Prop} {ws : va_W} {H0 : Heap} {a : Nat} (E : E0 p s m c cc nL RX8 k A) (hW : WD k A H0 ws H locs) (q0 : Nat) {fs : List Value} (he : ws[q0]? = some (a, .inr (8, fs))) {v : Value} (hv : fs[3]? = some v) (hdg : decode cc pc = .ok (.getfield 31, 3)) (q : W p l e R s m args below meth c H locs cells slots Q (F0 m (pc + 3) ls (v :: rest))) : W p l e R s m args below meth c H locs cells slots Q (F0 m pc ls (.ref a :: rest)) := va_get (C := RX8) (T := TX8) (N := 9) (ci := 8) E.hx E.hb (Ts := wsX80) (fun w hw => E.w (inX8 w hw) (tbl_laysX8 w hw)) (fun _ h => h) E.ho E.hK hW.1 q0 he rfl 3 (by decide) (E.w tm_320 rfl) (fun _ h => h) hv hdg q
theorem gf_X8_132 {p : Program} {l : Launch} {e : Env} {R : Room} {s : State} {m : MethodId} {args : Array Value} {below : List Frame} {meth : Method} {c : Code} {H : Heap} {locs : List Loc} {cells slots : Nat} {Q : State → Prop} {cc : ByteArray} {pc nL : Nat} {ls : Array Slot} {rest : List Value} {k : KT} {A : Nat → Prop} {ws : va_W} {H0 : Heap} {a : Nat} (E : E0 p s m c cc nL RX8 k A) (hW : WD k A H0 ws H locs) (q0 : Nat) {fs : List Value} (he : ws[q0]? = some (a, .inr (3, fs))) {v : Value} (hv : fs[3]? = some v) (hdg : decode cc pc = .ok (.getfield 132, 3)) (q : W p l e R s m args below meth c H locs cells slots Q (F0 m (pc + 3) ls (v :: rest))) : W p l e R s m args below meth c H locs cells slots Q (F0 m pc ls (.ref a :: rest)) := va_getN (C := RX2) (T := TX2) (N := 16) (ci := 3) E.hx E.hb (Ts := wsX20) (fun w hw => E.w (inX2 w hw) (tbl_laysX2 w hw)) (fun _ h => h) E.ho E.hK hW.1 q0 he rfl 3 (by decide) (E.w tm_165 rfl) (fun _ h => h) hv hdg q
theorem gf_X8_142 {p : Program} {l : Launch} {e : Env} {R : Room} {s : State} {m : MethodId} {args : Array Value} {below : List Frame} {meth : Method} {c : Code} {H : Heap} {locs : List Loc} {cells slots : Nat} {Q : State → Prop} {cc : ByteArray} {pc nL : Nat} {ls : Array Slot} {rest : List Value} {k : KT} {A : Nat → Prop} {ws : va_W} {H0 : Heap} {a : Nat} (E : E0 p s m c cc nL RX8 k A) (hW : WD k A H0 ws H locs) (q0 : Nat) {fs : List Value} (he : ws[q0]? = some (a, .inr (3, fs))) {v : Value} (hv : fs[4]? = some v) (hdg : decode cc pc = .ok (.getfield 142, 3)) (q : W p l e R s m args below meth c H locs cells slots Q (F0 m (pc + 3) ls (v :: rest))) : W p l e R s m args below meth c H locs cells slots Q (F0 m pc ls (.ref a :: rest)) := va_getN (C := RX2) (T := TX2) (N := 16) (ci := 3) E.hx E.hb (Ts := wsX20) (fun w hw => E.w (inX2 w hw) (tbl_laysX2 w hw)) (fun _ h => h) E.ho E.hK hW.1 q0 he rfl 4 (by decide) (E.w tm_168 rfl) (fun _ h => h) hv hdg q
theorem pf_X3_21 {p : Program} {l : Launch} {e : Env} {R : Room} {s : State} {m : MethodId} {args : Array Value} {below : List Frame} {meth : Method} {c : Code} {H : Heap} {locs : List Loc} {cells slots : Nat} {Q : State → Prop} {cc : ByteArray} {pc nL : Nat} {ls : Array Slot} {rest : List Value} {k : KT} {A : Nat → Prop} {ws ws2 : va_W} {H0 : Heap} {a : Nat} (E : E0 p s m c cc nL RX3 k A) (hW : WD k A H0 ws H locs) (q0 : Nat) {fs : List Value} (he : ws[q0]? = some (a, .inr (4, fs))) {v : Value} (hn : narrow (tyX3 2) v = v) (hfit : fits (tyX3 2) v = true) (hl : 2 < fs.length) (hdg : decode cc pc = .ok (.putfield 21, 3)) (hws : ws.set q0 (a, .inr (4, fs.set 2 v)) = ws2) (q : ∀ (H1 : Heap) (locs1 : List Loc), WD k A H0 ws2 H1 locs1 → W p l e R s m args below meth c H1 locs1 cells slots Q (F0 m (pc + 3) ls rest)) : W p l e R s m args below meth c H locs cells slots Q (F0 m pc ls (v :: .ref a :: rest)) := by
  subst hws
  exact va_put (C := RX3) (T := TX3) (N := 3) (ci := 4) (ty := tyX3 2) E.hx E.hb (Ts := wsX30) (fun w hw => E.w (inX3 w hw) (tbl_laysX3 w hw)) (fun _ h => h) tyX3 tyX3_ok nmX3 E.ho E.hK hW.1 hW.2.1 hW.2.2 q0 he rfl 2 (by decide) (E.w tm_278 rfl) (fun _ h => h) rfl (tyX3_ok 2 (by decide)) hn hfit hl hdg (fun H1 locs1 h1 h2 h3 => q H1 locs1 ⟨h1, h2, h3⟩)
theorem gf_X8_14 {p : Program} {l : Launch} {e : Env} {R : Room} {s : State} {m : MethodId} {args : Array Value} {below : List Frame} {meth : Method} {c : Code} {H : Heap} {locs : List Loc} {cells slots : Nat} {Q : State → Prop} {cc : ByteArray} {pc nL : Nat} {ls : Array Slot} {rest : List Value} {k : KT} {A : Nat → Prop} {ws : va_W} {H0 : Heap} {a : Nat} (E : E0 p s m c cc nL RX8 k A) (hW : WD k A H0 ws H locs) (q0 : Nat) {fs : List Value} (he : ws[q0]? = some (a, .inr (8, fs))) {v : Value} (hv : fs[0]? = some v) (hdg : decode cc pc = .ok (.getfield 14, 3)) (q : W p l e R s m args below meth c H locs cells slots Q (F0 m (pc + 3) ls (v :: rest))) : W p l e R s m args below meth c H locs cells slots Q (F0 m pc ls (.ref a :: rest)) := va_get (C := RX8) (T := TX8) (N := 9) (ci := 8) E.hx E.hb (Ts := wsX80) (fun w hw => E.w (inX8 w hw) (tbl_laysX8 w hw)) (fun _ h => h) E.ho E.hK hW.1 q0 he rfl 0 (by decide) (E.w tm_317 rfl) (fun _ h => h) hv hdg q
theorem gf_X8_75 {p : Program} {l : Launch} {e : Env} {R : Room} {s : State} {m : MethodId} {args : Array Value} {below : List Frame} {meth : Method} {c : Code} {H : Heap} {locs : List Loc} {cells slots : Nat} {Q : State → Prop} {cc : ByteArray} {pc nL : Nat} {ls : Array Slot} {rest : List Value} {k : KT} {A : Nat → Prop} {ws : va_W} {H0 : Heap} {a : Nat} (E : E0 p s m c cc nL RX8 k A) (hW : WD k A H0 ws H locs) (q0 : Nat) {fs : List Value} (he : ws[q0]? = some (a, .inr (2, fs))) {v : Value} (hv : fs[1]? = some v) (hdg : decode cc pc = .ok (.getfield 75, 3)) (q : W p l e R s m args below meth c H locs cells slots Q (F0 m (pc + 3) ls (v :: rest))) : W p l e R s m args below meth c H locs cells slots Q (F0 m pc ls (.ref a :: rest)) := va_getN (C := RX1) (T := TX1) (N := 2) (ci := 2) E.hx E.hb (Ts := wsX10) (fun w hw => E.w (inX1 w hw) (tbl_laysX1 w hw)) (fun _ h => h) E.ho E.hK hW.1 q0 he rfl 1 (by decide) (E.w tm_81 rfl) (fun _ h => h) hv hdg q
theorem pf_X8_75 {p : Program} {l : Launch} {e : Env} {R : Room} {s : State} {m : MethodId} {args : Array Value} {below : List Frame} {meth : Method} {c : Code} {H : Heap} {locs : List Loc} {cells slots : Nat} {Q : State → Prop} {cc : ByteArray} {pc nL : Nat} {ls : Array Slot} {rest : List Value} {k : KT} {A : Nat → Prop} {ws ws2 : va_W} {H0 : Heap} {a : Nat} (E : E0 p s m c cc nL RX8 k A) (hW : WD k A H0 ws H locs) (q0 : Nat) {fs : List Value} (he : ws[q0]? = some (a, .inr (2, fs))) {v : Value} (hn : narrow (tyX1 1) v = v) (hfit : fits (tyX1 1) v = true) (hl : 1 < fs.length) (hdg : decode cc pc = .ok (.putfield 75, 3)) (hws : ws.set q0 (a, .inr (2, fs.set 1 v)) = ws2) (q : ∀ (H1 : Heap) (locs1 : List Loc), WD k A H0 ws2 H1 locs1 → W p l e R s m args below meth c H1 locs1 cells slots Q (F0 m (pc + 3) ls rest)) : W p l e R s m args below meth c H locs cells slots Q (F0 m pc ls (v :: .ref a :: rest)) := by
  subst hws
  exact va_putN (C := RX1) (T := TX1) (N := 2) (ci := 2) (ty := tyX1 1) E.hx E.hb (Ts := wsX10) (fun w hw => E.w (inX1 w hw) (tbl_laysX1 w hw)) (fun _ h => h) tyX1 tyX1_ok nmX1 E.ho E.hK hW.1 hW.2.1 hW.2.2 q0 he rfl 1 (by decide) (E.w tm_81 rfl) (fun _ h => h) rfl (tyX1_ok 1 (by decide)) hn hfit hl hdg (fun H1 locs1 h1 h2 h3 => q H1 locs1 ⟨h1, h2, h3⟩)
theorem gf_X8_105 {p : Program} {l : Launch} {e : Env} {R : Room} {s : State} {m : MethodId} {args : Array Value} {below : List Frame} {meth : Method} {c : Code} {H : Heap} {locs : List Loc} {cells slots : Nat} {Q : State → Prop} {cc : ByteArray} {pc nL : Nat} {ls : Array Slot} {rest : List Value} {k : KT} {A : Nat → Prop} {ws : va_W} {H0 : Heap} {a : Nat} (E : E0 p s m c cc nL RX8 k A) (hW : WD k A H0 ws H locs) (q0 : Nat) {fs : List Value} (he : ws[q0]? = some (a, .inr (6, fs))) {v : Value} (hv : fs[0]? = some v) (hdg : decode cc pc = .ok (.getfield 105, 3)) (q : W p l e R s m args below meth c H locs cells slots Q (F0 m (pc + 3) ls (v :: rest))) : W p l e R s m args below meth c H locs cells slots Q (F0 m pc ls (.ref a :: rest)) := va_getN (C := RX5) (T := TX5) (N := 8) (ci := 6) E.hx E.hb (Ts := wsX50) (fun w hw => E.w (inX5 w hw) (tbl_laysX5 w hw)) (fun _ h => h) E.ho E.hK hW.1 q0 he rfl 0 (by decide) (E.w tm_112 rfl) (fun _ h => h) hv hdg q
theorem gf_X8_108 {p : Program} {l : Launch} {e : Env} {R : Room} {s : State} {m : MethodId} {args : Array Value} {below : List Frame} {meth : Method} {c : Code} {H : Heap} {locs : List Loc} {cells slots : Nat} {Q : State → Prop} {cc : ByteArray} {pc nL : Nat} {ls : Array Slot} {rest : List Value} {k : KT} {A : Nat → Prop} {ws : va_W} {H0 : Heap} {a : Nat} (E : E0 p s m c cc nL RX8 k A) (hW : WD k A H0 ws H locs) (q0 : Nat) {fs : List Value} (he : ws[q0]? = some (a, .inr (3, fs))) {v : Value} (hv : fs[0]? = some v) (hdg : decode cc pc = .ok (.getfield 108, 3)) (q : W p l e R s m args below meth c H locs cells slots Q (F0 m (pc + 3) ls (v :: rest))) : W p l e R s m args below meth c H locs cells slots Q (F0 m pc ls (.ref a :: rest)) := va_getN (C := RX2) (T := TX2) (N := 16) (ci := 3) E.hx E.hb (Ts := wsX20) (fun w hw => E.w (inX2 w hw) (tbl_laysX2 w hw)) (fun _ h => h) E.ho E.hK hW.1 q0 he rfl 0 (by decide) (E.w tm_156 rfl) (fun _ h => h) hv hdg q
theorem gf_X8_111 {p : Program} {l : Launch} {e : Env} {R : Room} {s : State} {m : MethodId} {args : Array Value} {below : List Frame} {meth : Method} {c : Code} {H : Heap} {locs : List Loc} {cells slots : Nat} {Q : State → Prop} {cc : ByteArray} {pc nL : Nat} {ls : Array Slot} {rest : List Value} {k : KT} {A : Nat → Prop} {ws : va_W} {H0 : Heap} {a : Nat} (E : E0 p s m c cc nL RX8 k A) (hW : WD k A H0 ws H locs) (q0 : Nat) {fs : List Value} (he : ws[q0]? = some (a, .inr (3, fs))) {v : Value} (hv : fs[1]? = some v) (hdg : decode cc pc = .ok (.getfield 111, 3)) (q : W p l e R s m args below meth c H locs cells slots Q (F0 m (pc + 3) ls (v :: rest))) : W p l e R s m args below meth c H locs cells slots Q (F0 m pc ls (.ref a :: rest)) := va_getN (C := RX2) (T := TX2) (N := 16) (ci := 3) E.hx E.hb (Ts := wsX20) (fun w hw => E.w (inX2 w hw) (tbl_laysX2 w hw)) (fun _ h => h) E.ho E.hK hW.1 q0 he rfl 1 (by decide) (E.w tm_158 rfl) (fun _ h => h) hv hdg q
theorem gf_X8_114 {p : Program} {l : Launch} {e : Env} {R : Room} {s : State} {m : MethodId} {args : Array Value} {below : List Frame} {meth : Method} {c : Code} {H : Heap} {locs : List Loc} {cells slots : Nat} {Q : State → Prop} {cc : ByteArray} {pc nL : Nat} {ls : Array Slot} {rest : List Value} {k : KT} {A : Nat → Prop} {ws : va_W} {H0 : Heap} {a : Nat} (E : E0 p s m c cc nL RX8 k A) (hW : WD k A H0 ws H locs) (q0 : Nat) {fs : List Value} (he : ws[q0]? = some (a, .inr (6, fs))) {v : Value} (hv : fs[2]? = some v) (hdg : decode cc pc = .ok (.getfield 114, 3)) (q : W p l e R s m args below meth c H locs cells slots Q (F0 m (pc + 3) ls (v :: rest))) : W p l e R s m args below meth c H locs cells slots Q (F0 m pc ls (.ref a :: rest)) := va_getN (C := RX5) (T := TX5) (N := 8) (ci := 6) E.hx E.hb (Ts := wsX50) (fun w hw => E.w (inX5 w hw) (tbl_laysX5 w hw)) (fun _ h => h) E.ho E.hK hW.1 q0 he rfl 2 (by decide) (E.w tm_118 rfl) (fun _ h => h) hv hdg q
theorem gf_X8_117 {p : Program} {l : Launch} {e : Env} {R : Room} {s : State} {m : MethodId} {args : Array Value} {below : List Frame} {meth : Method} {c : Code} {H : Heap} {locs : List Loc} {cells slots : Nat} {Q : State → Prop} {cc : ByteArray} {pc nL : Nat} {ls : Array Slot} {rest : List Value} {k : KT} {A : Nat → Prop} {ws : va_W} {H0 : Heap} {a : Nat} (E : E0 p s m c cc nL RX8 k A) (hW : WD k A H0 ws H locs) (q0 : Nat) {fs : List Value} (he : ws[q0]? = some (a, .inr (6, fs))) {v : Value} (hv : fs[3]? = some v) (hdg : decode cc pc = .ok (.getfield 117, 3)) (q : W p l e R s m args below meth c H locs cells slots Q (F0 m (pc + 3) ls (v :: rest))) : W p l e R s m args below meth c H locs cells slots Q (F0 m pc ls (.ref a :: rest)) := va_getN (C := RX5) (T := TX5) (N := 8) (ci := 6) E.hx E.hb (Ts := wsX50) (fun w hw => E.w (inX5 w hw) (tbl_laysX5 w hw)) (fun _ h => h) E.ho E.hK hW.1 q0 he rfl 3 (by decide) (E.w tm_120 rfl) (fun _ h => h) hv hdg q
theorem gf_X8_120 {p : Program} {l : Launch} {e : Env} {R : Room} {s : State} {m : MethodId} {args : Array Value} {below : List Frame} {meth : Method} {c : Code} {H : Heap} {locs : List Loc} {cells slots : Nat} {Q : State → Prop} {cc : ByteArray} {pc nL : Nat} {ls : Array Slot} {rest : List Value} {k : KT} {A : Nat → Prop} {ws : va_W} {H0 : Heap} {a : Nat} (E : E0 p s m c cc nL RX8 k A) (hW : WD k A H0 ws H locs) (q0 : Nat) {fs : List Value} (he : ws[q0]? = some (a, .inr (6, fs))) {v : Value} (hv : fs[4]? = some v) (hdg : decode cc pc = .ok (.getfield 120, 3)) (q : W p l e R s m args below meth c H locs cells slots Q (F0 m (pc + 3) ls (v :: rest))) : W p l e R s m args below meth c H locs cells slots Q (F0 m pc ls (.ref a :: rest)) := va_getN (C := RX5) (T := TX5) (N := 8) (ci := 6) E.hx E.hb (Ts := wsX50) (fun w hw => E.w (inX5 w hw) (tbl_laysX5 w hw)) (fun _ h => h) E.ho E.hK hW.1 q0 he rfl 4 (by decide) (E.w tm_123 rfl) (fun _ h => h) hv hdg q
theorem gf_X8_123 {p : Program} {l : Launch} {e : Env} {R : Room} {s : State} {m : MethodId} {args : Array Value} {below : List Frame} {meth : Method} {c : Code} {H : Heap} {locs : List Loc} {cells slots : Nat} {Q : State → Prop} {cc : ByteArray} {pc nL : Nat} {ls : Array Slot} {rest : List Value} {k : KT} {A : Nat → Prop} {ws : va_W} {H0 : Heap} {a : Nat} (E : E0 p s m c cc nL RX8 k A) (hW : WD k A H0 ws H locs) (q0 : Nat) {fs : List Value} (he : ws[q0]? = some (a, .inr (6, fs))) {v : Value} (hv : fs[5]? = some v) (hdg : decode cc pc = .ok (.getfield 123, 3)) (q : W p l e R s m args below meth c H locs cells slots Q (F0 m (pc + 3) ls (v :: rest))) : W p l e R s m args below meth c H locs cells slots Q (F0 m pc ls (.ref a :: rest)) := va_getN (C := RX5) (T := TX5) (N := 8) (ci := 6) E.hx E.hb (Ts := wsX50) (fun w hw => E.w (inX5 w hw) (tbl_laysX5 w hw)) (fun _ h => h) E.ho E.hK hW.1 q0 he rfl 5 (by decide) (E.w tm_125 rfl) (fun _ h => h) hv hdg q
theorem gf_X8_126 {p : Program} {l : Launch} {e : Env} {R : Room} {s : State} {m : MethodId} {args : Array Value} {below : List Frame} {meth : Method} {c : Code} {H : Heap} {locs : List Loc} {cells slots : Nat} {Q : State → Prop} {cc : ByteArray} {pc nL : Nat} {ls : Array Slot} {rest : List Value} {k : KT} {A : Nat → Prop} {ws : va_W} {H0 : Heap} {a : Nat} (E : E0 p s m c cc nL RX8 k A) (hW : WD k A H0 ws H locs) (q0 : Nat) {fs : List Value} (he : ws[q0]? = some (a, .inr (6, fs))) {v : Value} (hv : fs[6]? = some v) (hdg : decode cc pc = .ok (.getfield 126, 3)) (q : W p l e R s m args below meth c H locs cells slots Q (F0 m (pc + 3) ls (v :: rest))) : W p l e R s m args below meth c H locs cells slots Q (F0 m pc ls (.ref a :: rest)) := va_getN (C := RX5) (T := TX5) (N := 8) (ci := 6) E.hx E.hb (Ts := wsX50) (fun w hw => E.w (inX5 w hw) (tbl_laysX5 w hw)) (fun _ h => h) E.ho E.hK hW.1 q0 he rfl 6 (by decide) (E.w tm_128 rfl) (fun _ h => h) hv hdg q
theorem gf_X8_129 {p : Program} {l : Launch} {e : Env} {R : Room} {s : State} {m : MethodId} {args : Array Value} {below : List Frame} {meth : Method} {c : Code} {H : Heap} {locs : List Loc} {cells slots : Nat} {Q : State → Prop} {cc : ByteArray} {pc nL : Nat} {ls : Array Slot} {rest : List Value} {k : KT} {A : Nat → Prop} {ws : va_W} {H0 : Heap} {a : Nat} (E : E0 p s m c cc nL RX8 k A) (hW : WD k A H0 ws H locs) (q0 : Nat) {fs : List Value} (he : ws[q0]? = some (a, .inr (3, fs))) {v : Value} (hv : fs[2]? = some v) (hdg : decode cc pc = .ok (.getfield 129, 3)) (q : W p l e R s m args below meth c H locs cells slots Q (F0 m (pc + 3) ls (v :: rest))) : W p l e R s m args below meth c H locs cells slots Q (F0 m pc ls (.ref a :: rest)) := va_getN (C := RX2) (T := TX2) (N := 16) (ci := 3) E.hx E.hb (Ts := wsX20) (fun w hw => E.w (inX2 w hw) (tbl_laysX2 w hw)) (fun _ h => h) E.ho E.hK hW.1 q0 he rfl 2 (by decide) (E.w tm_162 rfl) (fun _ h => h) hv hdg q
theorem gf_X8_149 {p : Program} {l : Launch} {e : Env} {R : Room} {s : State} {m : MethodId} {args : Array Value} {below : List Frame} {meth : Method} {c : Code} {H : Heap} {locs : List Loc} {cells slots : Nat} {Q : State → Prop} {cc : ByteArray} {pc nL : Nat} {ls : Array Slot} {rest : List Value} {k : KT} {A : Nat → Prop} {ws : va_W} {H0 : Heap} {a : Nat} (E : E0 p s m c cc nL RX8 k A) (hW : WD k A H0 ws H locs) (q0 : Nat) {fs : List Value} (he : ws[q0]? = some (a, .inr (3, fs))) {v : Value} (hv : fs[6]? = some v) (hdg : decode cc pc = .ok (.getfield 149, 3)) (q : W p l e R s m args below meth c H locs cells slots Q (F0 m (pc + 3) ls (v :: rest))) : W p l e R s m args below meth c H locs cells slots Q (F0 m pc ls (.ref a :: rest)) := va_getN (C := RX2) (T := TX2) (N := 16) (ci := 3) E.hx E.hb (Ts := wsX20) (fun w hw => E.w (inX2 w hw) (tbl_laysX2 w hw)) (fun _ h => h) E.ho E.hK hW.1 q0 he rfl 6 (by decide) (E.w tm_172 rfl) (fun _ h => h) hv hdg q
theorem gf_X8_152 {p : Program} {l : Launch} {e : Env} {R : Room} {s : State} {m : MethodId} {args : Array Value} {below : List Frame} {meth : Method} {c : Code} {H : Heap} {locs : List Loc} {cells slots : Nat} {Q : State → Prop} {cc : ByteArray} {pc nL : Nat} {ls : Array Slot} {rest : List Value} {k : KT} {A : Nat → Prop} {ws : va_W} {H0 : Heap} {a : Nat} (E : E0 p s m c cc nL RX8 k A) (hW : WD k A H0 ws H locs) (q0 : Nat) {fs : List Value} (he : ws[q0]? = some (a, .inr (3, fs))) {v : Value} (hv : fs[5]? = some v) (hdg : decode cc pc = .ok (.getfield 152, 3)) (q : W p l e R s m args below meth c H locs cells slots Q (F0 m (pc + 3) ls (v :: rest))) : W p l e R s m args below meth c H locs cells slots Q (F0 m pc ls (.ref a :: rest)) := va_getN (C := RX2) (T := TX2) (N := 16) (ci := 3) E.hx E.hb (Ts := wsX20) (fun w hw => E.w (inX2 w hw) (tbl_laysX2 w hw)) (fun _ h => h) E.ho E.hK hW.1 q0 he rfl 5 (by decide) (E.w tm_170 rfl) (fun _ h => h) hv hdg q
theorem gf_X8_155 {p : Program} {l : Launch} {e : Env} {R : Room} {s : State} {m : MethodId} {args : Array Value} {below : List Frame} {meth : Method} {c : Code} {H : Heap} {locs : List Loc} {cells slots : Nat} {Q : State → Prop} {cc : ByteArray} {pc nL : Nat} {ls : Array Slot} {rest : List Value} {k : KT} {A : Nat → Prop} {ws : va_W} {H0 : Heap} {a : Nat} (E : E0 p s m c cc nL RX8 k A) (hW : WD k A H0 ws H locs) (q0 : Nat) {fs : List Value} (he : ws[q0]? = some (a, .inr (3, fs))) {v : Value} (hv : fs[8]? = some v) (hdg : decode cc pc = .ok (.getfield 155, 3)) (q : W p l e R s m args below meth c H locs cells slots Q (F0 m (pc + 3) ls (v :: rest))) : W p l e R s m args below meth c H locs cells slots Q (F0 m pc ls (.ref a :: rest)) := va_getN (C := RX2) (T := TX2) (N := 16) (ci := 3) E.hx E.hb (Ts := wsX20) (fun w hw => E.w (inX2 w hw) (tbl_laysX2 w hw)) (fun _ h => h) E.ho E.hK hW.1 q0 he rfl 8 (by decide) (E.w tm_175 rfl) (fun _ h => h) hv hdg q
theorem gf_X8_50 {p : Program} {l : Launch} {e : Env} {R : Room} {s : State} {m : MethodId} {args : Array Value} {below : List Frame} {meth : Method} {c : Code} {H : Heap} {locs : List Loc} {cells slots : Nat} {Q : State → Prop} {cc : ByteArray} {pc nL : Nat} {ls : Array Slot} {rest : List Value} {k : KT} {A : Nat → Prop} {ws : va_W} {H0 : Heap} {a : Nat} (E : E0 p s m c cc nL RX8 k A) (hW : WD k A H0 ws H locs) (q0 : Nat) {fs : List Value} (he : ws[q0]? = some (a, .inr (8, fs))) {v : Value} (hv : fs[6]? = some v) (hdg : decode cc pc = .ok (.getfield 50, 3)) (q : W p l e R s m args below meth c H locs cells slots Q (F0 m (pc + 3) ls (v :: rest))) : W p l e R s m args below meth c H locs cells slots Q (F0 m pc ls (.ref a :: rest)) := va_get (C := RX8) (T := TX8) (N := 9) (ci := 8) E.hx E.hb (Ts := wsX80) (fun w hw => E.w (inX8 w hw) (tbl_laysX8 w hw)) (fun _ h => h) E.ho E.hK hW.1 q0 he rfl 6 (by decide) (E.w tm_323 rfl) (fun _ h => h) hv hdg q
theorem gf_X8_158 {p : Program} {l : Launch} {e : Env} {R : Room} {s : State} {m : MethodId} {args : Array Value} {below : List Frame} {meth : Method} {c : Code} {H : Heap} {locs : List Loc} {cells slots : Nat} {Q : State → Prop} {cc : ByteArray} {pc nL : Nat} {ls : Array Slot} {rest : List Value} {k : KT} {A : Nat → Prop} {ws : va_W} {H0 : Heap} {a : Nat} (E : E0 p s m c cc nL RX8 k A) (hW : WD k A H0 ws H locs) (q0 : Nat) {fs : List Value} (he : ws[q0]? = some (a, .inr (4, fs))) {v : Value} (hv : fs[2]? = some v) (hdg : decode cc pc = .ok (.getfield 158, 3)) (q : W p l e R s m args below meth c H locs cells slots Q (F0 m (pc + 3) ls (v :: rest))) : W p l e R s m args below meth c H locs cells slots Q (F0 m pc ls (.ref a :: rest)) := va_getN (C := RX3) (T := TX3) (N := 3) (ci := 4) E.hx E.hb (Ts := wsX30) (fun w hw => E.w (inX3 w hw) (tbl_laysX3 w hw)) (fun _ h => h) E.ho E.hK hW.1 q0 he rfl 2 (by decide) (E.w tm_279 rfl) (fun _ h => h) hv hdg q
theorem gf_X8_168 {p : Program} {l : Launch} {e : Env} {R : Room} {s : State} {m : MethodId} {args : Array Value} {below : List Frame} {meth : Method} {c : Code} {H : Heap} {locs : List Loc} {cells slots : Nat} {Q : State → Prop} {cc : ByteArray} {pc nL : Nat} {ls : Array Slot} {rest : List Value} {k : KT} {A : Nat → Prop} {ws : va_W} {H0 : Heap} {a : Nat} (E : E0 p s m c cc nL RX8 k A) (hW : WD k A H0 ws H locs) (q0 : Nat) {fs : List Value} (he : ws[q0]? = some (a, .inr (3, fs))) {v : Value} (hv : fs[11]? = some v) (hdg : decode cc pc = .ok (.getfield 168, 3)) (q : W p l e R s m args below meth c H locs cells slots Q (F0 m (pc + 3) ls (v :: rest))) : W p l e R s m args below meth c H locs cells slots Q (F0 m pc ls (.ref a :: rest)) := va_getN (C := RX2) (T := TX2) (N := 16) (ci := 3) E.hx E.hb (Ts := wsX20) (fun w hw => E.w (inX2 w hw) (tbl_laysX2 w hw)) (fun _ h => h) E.ho E.hK hW.1 q0 he rfl 11 (by decide) (E.w tm_179 rfl) (fun _ h => h) hv hdg q
theorem gf_X8_195 {p : Program} {l : Launch} {e : Env} {R : Room} {s : State} {m : MethodId} {args : Array Value} {below : List Frame} {meth : Method} {c : Code} {H : Heap} {locs : List Loc} {cells slots : Nat} {Q : State → Prop} {cc : ByteArray} {pc nL : Nat} {ls : Array Slot} {rest : List Value} {k : KT} {A : Nat → Prop} {ws : va_W} {H0 : Heap} {a : Nat} (E : E0 p s m c cc nL RX8 k A) (hW : WD k A H0 ws H locs) (q0 : Nat) {fs : List Value} (he : ws[q0]? = some (a, .inr (3, fs))) {v : Value} (hv : fs[12]? = some v) (hdg : decode cc pc = .ok (.getfield 195, 3)) (q : W p l e R s m args below meth c H locs cells slots Q (F0 m (pc + 3) ls (v :: rest))) : W p l e R s m args below meth c H locs cells slots Q (F0 m pc ls (.ref a :: rest)) := va_getN (C := RX2) (T := TX2) (N := 16) (ci := 3) E.hx E.hb (Ts := wsX20) (fun w hw => E.w (inX2 w hw) (tbl_laysX2 w hw)) (fun _ h => h) E.ho E.hK hW.1 q0 he rfl 12 (by decide) (E.w tm_181 rfl) (fun _ h => h) hv hdg q
theorem gf_X8_222 {p : Program} {l : Launch} {e : Env} {R : Room} {s : State} {m : MethodId} {args : Array Value} {below : List Frame} {meth : Method} {c : Code} {H : Heap} {locs : List Loc} {cells slots : Nat} {Q : State → Prop} {cc : ByteArray} {pc nL : Nat} {ls : Array Slot} {rest : List Value} {k : KT} {A : Nat → Prop} {ws : va_W} {H0 : Heap} {a : Nat} (E : E0 p s m c cc nL RX8 k A) (hW : WD k A H0 ws H locs) (q0 : Nat) {fs : List Value} (he : ws[q0]? = some (a, .inr (3, fs))) {v : Value} (hv : fs[13]? = some v) (hdg : decode cc pc = .ok (.getfield 222, 3)) (q : W p l e R s m args below meth c H locs cells slots Q (F0 m (pc + 3) ls (v :: rest))) : W p l e R s m args below meth c H locs cells slots Q (F0 m pc ls (.ref a :: rest)) := va_getN (C := RX2) (T := TX2) (N := 16) (ci := 3) E.hx E.hb (Ts := wsX20) (fun w hw => E.w (inX2 w hw) (tbl_laysX2 w hw)) (fun _ h => h) E.ho E.hK hW.1 q0 he rfl 13 (by decide) (E.w tm_183 rfl) (fun _ h => h) hv hdg q
theorem vl_X8_78 : VL RX8 78 RX1 yX1_putWord cX1_putWord 2 none 1 := ⟨⟨tm_746, tm_747, tm_748, tm_34, tm_749⟩, by decide +kernel⟩
theorem vl_X8_135 : VL RX8 135 RX2 yX2_openLoans cX2_openLoans 4 (some .int) 1 := ⟨⟨tm_349, tm_350, tm_351, tm_38, tm_352⟩, by decide +kernel⟩
theorem vl_X8_139 : VL RX8 139 RX2 yX2_brokenLoans cX2_brokenLoans 4 (some .int) 1 := ⟨⟨tm_365, tm_366, tm_367, tm_38, tm_368⟩, by decide +kernel⟩
theorem vl_X8_145 : VL RX8 145 RX2 yX2_claimsThat cX2_claimsThat 5 (some .int) 2 := ⟨⟨tm_373, tm_374, tm_375, tm_38, tm_376⟩, by decide +kernel⟩
theorem vl_X8_165 : VL RX8 165 RX8 yX8_needProcess cX8_needProcess 2 none 1 := ⟨⟨tm_381, tm_383, tms_1, tm_33, tm_384⟩, by decide +kernel⟩
theorem vl_X8_171 : VL RX8 171 RX6 yX6_get cX6_get 4 (some .int) 2 := ⟨⟨tm_453, tm_358, tm_359, tm_37, tm_360⟩, by decide +kernel⟩
theorem vl_X8_176 : VL RX8 176 RX2 yX2_heldPages cX2_heldPages 4 (some .int) 1 := ⟨⟨tm_454, tm_455, tm_456, tm_38, tm_457⟩, by decide +kernel⟩
theorem vl_X8_186 : VL RX8 186 RX8 yX8_needLoan cX8_needLoan 2 none 1 := ⟨⟨tm_463, tm_465, tms_3, tm_33, tm_466⟩, by decide +kernel⟩
theorem vl_X8_191 : VL RX8 191 RX2 yX2_isBroken cX2_isBroken 2 (some .boolean) 1 := ⟨⟨tm_469, tm_370, tm_371, tm_38, tm_372⟩, by decide +kernel⟩
theorem vl_X8_200 : VL RX8 200 RX2 yX2_loanOf cX2_loanOf 2 (some .int) 1 := ⟨⟨tm_1174, tm_1175, tm_1176, tm_38, tm_1177⟩, by decide +kernel⟩
theorem vl_X8_203 : VL RX8 203 RX2 yX2_pageAt cX2_pageAt 5 (some .int) 2 := ⟨⟨tm_1149, tm_1150, tm_1151, tm_38, tm_1152⟩, by decide +kernel⟩
theorem vl_X8_211 : VL RX8 211 RX2 yX2_rowsOf cX2_rowsOf 8 (some .int) 1 := ⟨⟨tm_1182, tm_1183, tm_1184, tm_38, tm_1185⟩, by decide +kernel⟩
theorem vl_X8_217 : VL RX8 217 RX8 yX8_needClaim cX8_needClaim 2 none 1 := ⟨⟨tm_474, tm_476, tms_4, tm_33, tm_477⟩, by decide +kernel⟩
theorem vl_X8_225 : VL RX8 225 RX2 yX2_lineUp cX2_lineUp 5 (some .int) 0 := ⟨⟨tm_1200, tm_586, tm_587, tm_38, tm_588⟩, by decide +kernel⟩
theorem vl_X8_231 : VL RX8 231 RX2 yX2_inLine cX2_inLine 2 (some .int) 1 := ⟨⟨tm_1202, tm_598, tm_599, tm_38, tm_600⟩, by decide +kernel⟩
theorem vl_X8_263 : VL RX8 263 RX2 yX2_brokenPages cX2_brokenPages 3 (some .int) 0 := ⟨⟨tm_1190, tm_606, tm_607, tm_38, tm_608⟩, by decide +kernel⟩
theorem vl_X8_266 : VL RX8 266 RX2 yX2_earliestBroken cX2_earliestBroken 4 (some .int) 0 := ⟨⟨tm_1195, tm_614, tm_615, tm_38, tm_616⟩, by decide +kernel⟩
theorem dX8_needProcess_0 : decode cX8_needProcess 0 = .ok (.iload_n 1, 1) := by decide +kernel
theorem dX8_needProcess_1 : decode cX8_needProcess 1 = .ok (.ifCond .lt 14, 3) := by decide +kernel
theorem dX8_needProcess_4 : decode cX8_needProcess 4 = .ok (.iload_n 1, 1) := by decide +kernel
theorem dX8_needProcess_5 : decode cX8_needProcess 5 = .ok (.aload_n 0, 1) := by decide +kernel
theorem dX8_needProcess_6 : decode cX8_needProcess 6 = .ok (.getfield 24, 3) := by decide +kernel
theorem dX8_needProcess_9 : decode cX8_needProcess 9 = .ok (.getfield 96, 3) := by decide +kernel
theorem dX8_needProcess_12 : decode cX8_needProcess 12 = .ok (.if_icmp .lt 14, 3) := by decide +kernel
theorem dX8_needProcess_15 : decode cX8_needProcess 15 = .ok (.new 179, 3) := by decide +kernel
theorem dX8_needProcess_26 : decode cX8_needProcess 26 = .ok (.return_, 1) := by decide +kernel
theorem dX8_needLoan_0 : decode cX8_needLoan 0 = .ok (.iload_n 1, 1) := by decide +kernel
theorem dX8_needLoan_1 : decode cX8_needLoan 1 = .ok (.ifCond .lt 14, 3) := by decide +kernel
theorem dX8_needLoan_4 : decode cX8_needLoan 4 = .ok (.iload_n 1, 1) := by decide +kernel
theorem dX8_needLoan_5 : decode cX8_needLoan 5 = .ok (.aload_n 0, 1) := by decide +kernel
theorem dX8_needLoan_6 : decode cX8_needLoan 6 = .ok (.getfield 31, 3) := by decide +kernel
theorem dX8_needLoan_9 : decode cX8_needLoan 9 = .ok (.getfield 132, 3) := by decide +kernel
theorem dX8_needLoan_12 : decode cX8_needLoan 12 = .ok (.if_icmp .lt 14, 3) := by decide +kernel
theorem dX8_needLoan_15 : decode cX8_needLoan 15 = .ok (.new 179, 3) := by decide +kernel
theorem dX8_needLoan_26 : decode cX8_needLoan 26 = .ok (.return_, 1) := by decide +kernel
theorem dX8_needClaim_0 : decode cX8_needClaim 0 = .ok (.iload_n 1, 1) := by decide +kernel
theorem dX8_needClaim_1 : decode cX8_needClaim 1 = .ok (.ifCond .lt 14, 3) := by decide +kernel
theorem dX8_needClaim_4 : decode cX8_needClaim 4 = .ok (.iload_n 1, 1) := by decide +kernel
theorem dX8_needClaim_5 : decode cX8_needClaim 5 = .ok (.aload_n 0, 1) := by decide +kernel
theorem dX8_needClaim_6 : decode cX8_needClaim 6 = .ok (.getfield 31, 3) := by decide +kernel
theorem dX8_needClaim_9 : decode cX8_needClaim 9 = .ok (.getfield 142, 3) := by decide +kernel
theorem dX8_needClaim_12 : decode cX8_needClaim 12 = .ok (.if_icmp .lt 14, 3) := by decide +kernel
theorem dX8_needClaim_15 : decode cX8_needClaim 15 = .ok (.new 179, 3) := by decide +kernel
theorem dX8_needClaim_26 : decode cX8_needClaim 26 = .ok (.return_, 1) := by decide +kernel
theorem dX8_needTicks_0 : decode cX8_needTicks 0 = .ok (.iload_n 1, 1) := by decide +kernel
theorem dX8_needTicks_1 : decode cX8_needTicks 1 = .ok (.iconst 1, 1) := by decide +kernel
theorem dX8_needTicks_2 : decode cX8_needTicks 2 = .ok (.if_icmp .lt 10, 3) := by decide +kernel
theorem dX8_needTicks_5 : decode cX8_needTicks 5 = .ok (.iload_n 1, 1) := by decide +kernel
theorem dX8_needTicks_6 : decode cX8_needTicks 6 = .ok (.sipush 500, 3) := by decide +kernel
theorem dX8_needTicks_9 : decode cX8_needTicks 9 = .ok (.if_icmp .le 14, 3) := by decide +kernel
theorem dX8_needTicks_12 : decode cX8_needTicks 12 = .ok (.new 234, 3) := by decide +kernel
theorem dX8_needTicks_23 : decode cX8_needTicks 23 = .ok (.return_, 1) := by decide +kernel
theorem dX3_forget_0 : decode cX3_forget 0 = .ok (.aload_n 0, 1) := by decide +kernel
theorem dX3_forget_1 : decode cX3_forget 1 = .ok (.iconst 0, 1) := by decide +kernel
theorem dX3_forget_2 : decode cX3_forget 2 = .ok (.putfield 21, 3) := by decide +kernel
theorem dX3_forget_5 : decode cX3_forget 5 = .ok (.return_, 1) := by decide +kernel
theorem dX8_truncate_0 : decode cX8_truncate 0 = .ok (.iload_n 1, 1) := by decide +kernel
theorem dX8_truncate_1 : decode cX8_truncate 1 = .ok (.ifCond .lt 14, 3) := by decide +kernel
theorem dX8_truncate_4 : decode cX8_truncate 4 = .ok (.iload_n 1, 1) := by decide +kernel
theorem dX8_truncate_5 : decode cX8_truncate 5 = .ok (.aload_n 0, 1) := by decide +kernel
theorem dX8_truncate_6 : decode cX8_truncate 6 = .ok (.getfield 14, 3) := by decide +kernel
theorem dX8_truncate_9 : decode cX8_truncate 9 = .ok (.getfield 75, 3) := by decide +kernel
theorem dX8_truncate_12 : decode cX8_truncate 12 = .ok (.if_icmp .le 5, 3) := by decide +kernel
theorem dX8_truncate_15 : decode cX8_truncate 15 = .ok (.iconst 0, 1) := by decide +kernel
theorem dX8_truncate_16 : decode cX8_truncate 16 = .ok (.ireturn, 1) := by decide +kernel
theorem dX8_truncate_17 : decode cX8_truncate 17 = .ok (.aload_n 0, 1) := by decide +kernel
theorem dX8_truncate_18 : decode cX8_truncate 18 = .ok (.getfield 14, 3) := by decide +kernel
theorem dX8_truncate_21 : decode cX8_truncate 21 = .ok (.iload_n 1, 1) := by decide +kernel
theorem dX8_truncate_22 : decode cX8_truncate 22 = .ok (.putfield 75, 3) := by decide +kernel
theorem dX8_truncate_25 : decode cX8_truncate 25 = .ok (.iconst 1, 1) := by decide +kernel
theorem dX8_truncate_26 : decode cX8_truncate 26 = .ok (.ireturn, 1) := by decide +kernel
theorem dX8_feed_0 : decode cX8_feed 0 = .ok (.aload_n 0, 1) := by decide +kernel
theorem dX8_feed_1 : decode cX8_feed 1 = .ok (.getfield 14, 3) := by decide +kernel
theorem dX8_feed_4 : decode cX8_feed 4 = .ok (.getfield 75, 3) := by decide +kernel
theorem dX8_feed_7 : decode cX8_feed 7 = .ok (.bipush 20, 2) := by decide +kernel
theorem dX8_feed_9 : decode cX8_feed 9 = .ok (.iadd, 1) := by decide +kernel
theorem dX8_feed_10 : decode cX8_feed 10 = .ok (.sipush 600, 3) := by decide +kernel
theorem dX8_feed_13 : decode cX8_feed 13 = .ok (.if_icmp .le 5, 3) := by decide +kernel
theorem dX8_feed_16 : decode cX8_feed 16 = .ok (.iconst (-1), 1) := by decide +kernel
theorem dX8_feed_17 : decode cX8_feed 17 = .ok (.ireturn, 1) := by decide +kernel
theorem dX8_feed_18 : decode cX8_feed 18 = .ok (.aload_n 0, 1) := by decide +kernel
theorem dX8_feed_19 : decode cX8_feed 19 = .ok (.getfield 14, 3) := by decide +kernel
theorem dX8_feed_22 : decode cX8_feed 22 = .ok (.iload_n 1, 1) := by decide +kernel
theorem dX8_feed_23 : decode cX8_feed 23 = .ok (.invokevirtual 78, 3) := by decide +kernel
theorem dX8_feed_26 : decode cX8_feed 26 = .ok (.aload_n 0, 1) := by decide +kernel
theorem dX8_feed_27 : decode cX8_feed 27 = .ok (.getfield 14, 3) := by decide +kernel
theorem dX8_feed_30 : decode cX8_feed 30 = .ok (.iload_n 2, 1) := by decide +kernel
theorem dX8_feed_31 : decode cX8_feed 31 = .ok (.invokevirtual 78, 3) := by decide +kernel
theorem dX8_feed_34 : decode cX8_feed 34 = .ok (.aload_n 0, 1) := by decide +kernel
theorem dX8_feed_35 : decode cX8_feed 35 = .ok (.getfield 14, 3) := by decide +kernel
theorem dX8_feed_38 : decode cX8_feed 38 = .ok (.iload_n 3, 1) := by decide +kernel
theorem dX8_feed_39 : decode cX8_feed 39 = .ok (.invokevirtual 78, 3) := by decide +kernel
theorem dX8_feed_42 : decode cX8_feed 42 = .ok (.aload_n 0, 1) := by decide +kernel
theorem dX8_feed_43 : decode cX8_feed 43 = .ok (.getfield 14, 3) := by decide +kernel
theorem dX8_feed_46 : decode cX8_feed 46 = .ok (.iload 4, 2) := by decide +kernel
theorem dX8_feed_48 : decode cX8_feed 48 = .ok (.invokevirtual 78, 3) := by decide +kernel
theorem dX8_feed_51 : decode cX8_feed 51 = .ok (.aload_n 0, 1) := by decide +kernel
theorem dX8_feed_52 : decode cX8_feed 52 = .ok (.getfield 14, 3) := by decide +kernel
theorem dX8_feed_55 : decode cX8_feed 55 = .ok (.iload 5, 2) := by decide +kernel
theorem dX8_feed_57 : decode cX8_feed 57 = .ok (.invokevirtual 78, 3) := by decide +kernel
theorem dX8_feed_60 : decode cX8_feed 60 = .ok (.aload_n 0, 1) := by decide +kernel
theorem dX8_feed_61 : decode cX8_feed 61 = .ok (.getfield 14, 3) := by decide +kernel
theorem dX8_feed_64 : decode cX8_feed 64 = .ok (.getfield 75, 3) := by decide +kernel
theorem dX8_feed_67 : decode cX8_feed 67 = .ok (.ireturn, 1) := by decide +kernel
theorem dX8_count_0 : decode cX8_count 0 = .ok (.iload_n 1, 1) := by decide +kernel
theorem dX8_count_1 : decode cX8_count 1 = .ok (.tableswitch 275 0 20 #[99, 107, 115, 123, 131, 139, 147, 155, 163, 171, 179, 187, 196, 205, 213, 223, 233, 243, 251, 259, 267], 99) := by decide +kernel
theorem dX8_count_100 : decode cX8_count 100 = .ok (.aload_n 0, 1) := by decide +kernel
theorem dX8_count_101 : decode cX8_count 101 = .ok (.getfield 24, 3) := by decide +kernel
theorem dX8_count_104 : decode cX8_count 104 = .ok (.getfield 105, 3) := by decide +kernel
theorem dX8_count_107 : decode cX8_count 107 = .ok (.ireturn, 1) := by decide +kernel
theorem dX8_count_108 : decode cX8_count 108 = .ok (.aload_n 0, 1) := by decide +kernel
theorem dX8_count_109 : decode cX8_count 109 = .ok (.getfield 24, 3) := by decide +kernel
theorem dX8_count_112 : decode cX8_count 112 = .ok (.getfield 96, 3) := by decide +kernel
theorem dX8_count_115 : decode cX8_count 115 = .ok (.ireturn, 1) := by decide +kernel
theorem dX8_count_116 : decode cX8_count 116 = .ok (.aload_n 0, 1) := by decide +kernel
theorem dX8_count_117 : decode cX8_count 117 = .ok (.getfield 31, 3) := by decide +kernel
theorem dX8_count_120 : decode cX8_count 120 = .ok (.getfield 108, 3) := by decide +kernel
theorem dX8_count_123 : decode cX8_count 123 = .ok (.ireturn, 1) := by decide +kernel
theorem dX8_count_124 : decode cX8_count 124 = .ok (.aload_n 0, 1) := by decide +kernel
theorem dX8_count_125 : decode cX8_count 125 = .ok (.getfield 31, 3) := by decide +kernel
theorem dX8_count_128 : decode cX8_count 128 = .ok (.getfield 111, 3) := by decide +kernel
theorem dX8_count_131 : decode cX8_count 131 = .ok (.ireturn, 1) := by decide +kernel
theorem dX8_count_132 : decode cX8_count 132 = .ok (.aload_n 0, 1) := by decide +kernel
theorem dX8_count_133 : decode cX8_count 133 = .ok (.getfield 24, 3) := by decide +kernel
theorem dX8_count_136 : decode cX8_count 136 = .ok (.getfield 114, 3) := by decide +kernel
theorem dX8_count_139 : decode cX8_count 139 = .ok (.ireturn, 1) := by decide +kernel
theorem dX8_count_140 : decode cX8_count 140 = .ok (.aload_n 0, 1) := by decide +kernel
theorem dX8_count_141 : decode cX8_count 141 = .ok (.getfield 24, 3) := by decide +kernel
theorem dX8_count_144 : decode cX8_count 144 = .ok (.getfield 117, 3) := by decide +kernel
theorem dX8_count_147 : decode cX8_count 147 = .ok (.ireturn, 1) := by decide +kernel
theorem dX8_count_148 : decode cX8_count 148 = .ok (.aload_n 0, 1) := by decide +kernel
theorem dX8_count_149 : decode cX8_count 149 = .ok (.getfield 24, 3) := by decide +kernel
theorem dX8_count_152 : decode cX8_count 152 = .ok (.getfield 120, 3) := by decide +kernel
theorem dX8_count_155 : decode cX8_count 155 = .ok (.ireturn, 1) := by decide +kernel
theorem dX8_count_156 : decode cX8_count 156 = .ok (.aload_n 0, 1) := by decide +kernel
theorem dX8_count_157 : decode cX8_count 157 = .ok (.getfield 24, 3) := by decide +kernel
theorem dX8_count_160 : decode cX8_count 160 = .ok (.getfield 123, 3) := by decide +kernel
theorem dX8_count_163 : decode cX8_count 163 = .ok (.ireturn, 1) := by decide +kernel
theorem dX8_count_164 : decode cX8_count 164 = .ok (.aload_n 0, 1) := by decide +kernel
theorem dX8_count_165 : decode cX8_count 165 = .ok (.getfield 24, 3) := by decide +kernel
theorem dX8_count_168 : decode cX8_count 168 = .ok (.getfield 126, 3) := by decide +kernel
theorem dX8_count_171 : decode cX8_count 171 = .ok (.ireturn, 1) := by decide +kernel
theorem dX8_count_172 : decode cX8_count 172 = .ok (.aload_n 0, 1) := by decide +kernel
theorem dX8_count_173 : decode cX8_count 173 = .ok (.getfield 31, 3) := by decide +kernel
theorem dX8_count_176 : decode cX8_count 176 = .ok (.getfield 129, 3) := by decide +kernel
theorem dX8_count_179 : decode cX8_count 179 = .ok (.ireturn, 1) := by decide +kernel
theorem dX8_count_180 : decode cX8_count 180 = .ok (.aload_n 0, 1) := by decide +kernel
theorem dX8_count_181 : decode cX8_count 181 = .ok (.getfield 31, 3) := by decide +kernel
theorem dX8_count_184 : decode cX8_count 184 = .ok (.getfield 132, 3) := by decide +kernel
theorem dX8_count_187 : decode cX8_count 187 = .ok (.ireturn, 1) := by decide +kernel
theorem dX8_count_188 : decode cX8_count 188 = .ok (.aload_n 0, 1) := by decide +kernel
theorem dX8_count_189 : decode cX8_count 189 = .ok (.getfield 31, 3) := by decide +kernel
theorem dX8_count_192 : decode cX8_count 192 = .ok (.iconst (-1), 1) := by decide +kernel
theorem dX8_count_193 : decode cX8_count 193 = .ok (.invokevirtual 135, 3) := by decide +kernel
theorem dX8_count_196 : decode cX8_count 196 = .ok (.ireturn, 1) := by decide +kernel
theorem dX8_count_197 : decode cX8_count 197 = .ok (.aload_n 0, 1) := by decide +kernel
theorem dX8_count_198 : decode cX8_count 198 = .ok (.getfield 31, 3) := by decide +kernel
theorem dX8_count_201 : decode cX8_count 201 = .ok (.iconst (-1), 1) := by decide +kernel
theorem dX8_count_202 : decode cX8_count 202 = .ok (.invokevirtual 139, 3) := by decide +kernel
theorem dX8_count_205 : decode cX8_count 205 = .ok (.ireturn, 1) := by decide +kernel
theorem dX8_count_206 : decode cX8_count 206 = .ok (.aload_n 0, 1) := by decide +kernel
theorem dX8_count_207 : decode cX8_count 207 = .ok (.getfield 31, 3) := by decide +kernel
theorem dX8_count_210 : decode cX8_count 210 = .ok (.getfield 142, 3) := by decide +kernel
theorem dX8_count_213 : decode cX8_count 213 = .ok (.ireturn, 1) := by decide +kernel
theorem dX8_count_214 : decode cX8_count 214 = .ok (.aload_n 0, 1) := by decide +kernel
theorem dX8_count_215 : decode cX8_count 215 = .ok (.getfield 31, 3) := by decide +kernel
theorem dX8_count_218 : decode cX8_count 218 = .ok (.iconst (-1), 1) := by decide +kernel
theorem dX8_count_219 : decode cX8_count 219 = .ok (.iconst 0, 1) := by decide +kernel
theorem dX8_count_220 : decode cX8_count 220 = .ok (.invokevirtual 145, 3) := by decide +kernel
theorem dX8_count_223 : decode cX8_count 223 = .ok (.ireturn, 1) := by decide +kernel
theorem dX8_count_224 : decode cX8_count 224 = .ok (.aload_n 0, 1) := by decide +kernel
theorem dX8_count_225 : decode cX8_count 225 = .ok (.getfield 31, 3) := by decide +kernel
theorem dX8_count_228 : decode cX8_count 228 = .ok (.iconst (-1), 1) := by decide +kernel
theorem dX8_count_229 : decode cX8_count 229 = .ok (.iconst 1, 1) := by decide +kernel
theorem dX8_count_230 : decode cX8_count 230 = .ok (.invokevirtual 145, 3) := by decide +kernel
theorem dX8_count_233 : decode cX8_count 233 = .ok (.ireturn, 1) := by decide +kernel
theorem dX8_count_234 : decode cX8_count 234 = .ok (.aload_n 0, 1) := by decide +kernel
theorem dX8_count_235 : decode cX8_count 235 = .ok (.getfield 31, 3) := by decide +kernel
theorem dX8_count_238 : decode cX8_count 238 = .ok (.iconst (-1), 1) := by decide +kernel
theorem dX8_count_239 : decode cX8_count 239 = .ok (.iconst 2, 1) := by decide +kernel
theorem dX8_count_240 : decode cX8_count 240 = .ok (.invokevirtual 145, 3) := by decide +kernel
theorem dX8_count_243 : decode cX8_count 243 = .ok (.ireturn, 1) := by decide +kernel
theorem dX8_count_244 : decode cX8_count 244 = .ok (.aload_n 0, 1) := by decide +kernel
theorem dX8_count_245 : decode cX8_count 245 = .ok (.getfield 31, 3) := by decide +kernel
theorem dX8_count_248 : decode cX8_count 248 = .ok (.getfield 149, 3) := by decide +kernel
theorem dX8_count_251 : decode cX8_count 251 = .ok (.ireturn, 1) := by decide +kernel
theorem dX8_count_252 : decode cX8_count 252 = .ok (.aload_n 0, 1) := by decide +kernel
theorem dX8_count_253 : decode cX8_count 253 = .ok (.getfield 31, 3) := by decide +kernel
theorem dX8_count_256 : decode cX8_count 256 = .ok (.getfield 152, 3) := by decide +kernel
theorem dX8_count_259 : decode cX8_count 259 = .ok (.ireturn, 1) := by decide +kernel
theorem dX8_count_260 : decode cX8_count 260 = .ok (.aload_n 0, 1) := by decide +kernel
theorem dX8_count_261 : decode cX8_count 261 = .ok (.getfield 31, 3) := by decide +kernel
theorem dX8_count_264 : decode cX8_count 264 = .ok (.getfield 155, 3) := by decide +kernel
theorem dX8_count_267 : decode cX8_count 267 = .ok (.ireturn, 1) := by decide +kernel
theorem dX8_count_268 : decode cX8_count 268 = .ok (.aload_n 0, 1) := by decide +kernel
theorem dX8_count_269 : decode cX8_count 269 = .ok (.getfield 50, 3) := by decide +kernel
theorem dX8_count_272 : decode cX8_count 272 = .ok (.getfield 158, 3) := by decide +kernel
theorem dX8_count_275 : decode cX8_count 275 = .ok (.ireturn, 1) := by decide +kernel
theorem dX8_count_276 : decode cX8_count 276 = .ok (.iconst (-1), 1) := by decide +kernel
theorem dX8_count_277 : decode cX8_count 277 = .ok (.ireturn, 1) := by decide +kernel
theorem dX8_process_0 : decode cX8_process 0 = .ok (.aload_n 0, 1) := by decide +kernel
theorem dX8_process_1 : decode cX8_process 1 = .ok (.iload_n 1, 1) := by decide +kernel
theorem dX8_process_2 : decode cX8_process 2 = .ok (.invokevirtual 165, 3) := by decide +kernel
theorem dX8_process_5 : decode cX8_process 5 = .ok (.iload_n 2, 1) := by decide +kernel
theorem dX8_process_6 : decode cX8_process 6 = .ok (.tableswitch 166 0 9 #[54, 67, 80, 93, 102, 111, 120, 130, 140, 153], 54) := by decide +kernel
theorem dX8_process_60 : decode cX8_process 60 = .ok (.aload_n 0, 1) := by decide +kernel
theorem dX8_process_61 : decode cX8_process 61 = .ok (.getfield 31, 3) := by decide +kernel
theorem dX8_process_64 : decode cX8_process 64 = .ok (.getfield 168, 3) := by decide +kernel
theorem dX8_process_67 : decode cX8_process 67 = .ok (.iload_n 1, 1) := by decide +kernel
theorem dX8_process_68 : decode cX8_process 68 = .ok (.iconst 0, 1) := by decide +kernel
theorem dX8_process_69 : decode cX8_process 69 = .ok (.invokevirtual 171, 3) := by decide +kernel
theorem dX8_process_72 : decode cX8_process 72 = .ok (.ireturn, 1) := by decide +kernel
theorem dX8_process_73 : decode cX8_process 73 = .ok (.aload_n 0, 1) := by decide +kernel
theorem dX8_process_74 : decode cX8_process 74 = .ok (.getfield 31, 3) := by decide +kernel
theorem dX8_process_77 : decode cX8_process 77 = .ok (.getfield 168, 3) := by decide +kernel
theorem dX8_process_80 : decode cX8_process 80 = .ok (.iload_n 1, 1) := by decide +kernel
theorem dX8_process_81 : decode cX8_process 81 = .ok (.iconst 1, 1) := by decide +kernel
theorem dX8_process_82 : decode cX8_process 82 = .ok (.invokevirtual 171, 3) := by decide +kernel
theorem dX8_process_85 : decode cX8_process 85 = .ok (.ireturn, 1) := by decide +kernel
theorem dX8_process_86 : decode cX8_process 86 = .ok (.aload_n 0, 1) := by decide +kernel
theorem dX8_process_87 : decode cX8_process 87 = .ok (.getfield 31, 3) := by decide +kernel
theorem dX8_process_90 : decode cX8_process 90 = .ok (.getfield 168, 3) := by decide +kernel
theorem dX8_process_93 : decode cX8_process 93 = .ok (.iload_n 1, 1) := by decide +kernel
theorem dX8_process_94 : decode cX8_process 94 = .ok (.iconst 2, 1) := by decide +kernel
theorem dX8_process_95 : decode cX8_process 95 = .ok (.invokevirtual 171, 3) := by decide +kernel
theorem dX8_process_98 : decode cX8_process 98 = .ok (.ireturn, 1) := by decide +kernel
theorem dX8_process_99 : decode cX8_process 99 = .ok (.aload_n 0, 1) := by decide +kernel
theorem dX8_process_100 : decode cX8_process 100 = .ok (.getfield 31, 3) := by decide +kernel
theorem dX8_process_103 : decode cX8_process 103 = .ok (.iload_n 1, 1) := by decide +kernel
theorem dX8_process_104 : decode cX8_process 104 = .ok (.invokevirtual 176, 3) := by decide +kernel
theorem dX8_process_107 : decode cX8_process 107 = .ok (.ireturn, 1) := by decide +kernel
theorem dX8_process_108 : decode cX8_process 108 = .ok (.aload_n 0, 1) := by decide +kernel
theorem dX8_process_109 : decode cX8_process 109 = .ok (.getfield 31, 3) := by decide +kernel
theorem dX8_process_112 : decode cX8_process 112 = .ok (.iload_n 1, 1) := by decide +kernel
theorem dX8_process_113 : decode cX8_process 113 = .ok (.invokevirtual 135, 3) := by decide +kernel
theorem dX8_process_116 : decode cX8_process 116 = .ok (.ireturn, 1) := by decide +kernel
theorem dX8_process_117 : decode cX8_process 117 = .ok (.aload_n 0, 1) := by decide +kernel
theorem dX8_process_118 : decode cX8_process 118 = .ok (.getfield 31, 3) := by decide +kernel
theorem dX8_process_121 : decode cX8_process 121 = .ok (.iload_n 1, 1) := by decide +kernel
theorem dX8_process_122 : decode cX8_process 122 = .ok (.invokevirtual 139, 3) := by decide +kernel
theorem dX8_process_125 : decode cX8_process 125 = .ok (.ireturn, 1) := by decide +kernel
theorem dX8_process_126 : decode cX8_process 126 = .ok (.aload_n 0, 1) := by decide +kernel
theorem dX8_process_127 : decode cX8_process 127 = .ok (.getfield 31, 3) := by decide +kernel
theorem dX8_process_130 : decode cX8_process 130 = .ok (.iload_n 1, 1) := by decide +kernel
theorem dX8_process_131 : decode cX8_process 131 = .ok (.iconst 0, 1) := by decide +kernel
theorem dX8_process_132 : decode cX8_process 132 = .ok (.invokevirtual 145, 3) := by decide +kernel
theorem dX8_process_135 : decode cX8_process 135 = .ok (.ireturn, 1) := by decide +kernel
theorem dX8_process_136 : decode cX8_process 136 = .ok (.aload_n 0, 1) := by decide +kernel
theorem dX8_process_137 : decode cX8_process 137 = .ok (.getfield 31, 3) := by decide +kernel
theorem dX8_process_140 : decode cX8_process 140 = .ok (.iload_n 1, 1) := by decide +kernel
theorem dX8_process_141 : decode cX8_process 141 = .ok (.iconst 1, 1) := by decide +kernel
theorem dX8_process_142 : decode cX8_process 142 = .ok (.invokevirtual 145, 3) := by decide +kernel
theorem dX8_process_145 : decode cX8_process 145 = .ok (.ireturn, 1) := by decide +kernel
theorem dX8_process_146 : decode cX8_process 146 = .ok (.aload_n 0, 1) := by decide +kernel
theorem dX8_process_147 : decode cX8_process 147 = .ok (.getfield 31, 3) := by decide +kernel
theorem dX8_process_150 : decode cX8_process 150 = .ok (.getfield 168, 3) := by decide +kernel
theorem dX8_process_153 : decode cX8_process 153 = .ok (.iload_n 1, 1) := by decide +kernel
theorem dX8_process_154 : decode cX8_process 154 = .ok (.iconst 3, 1) := by decide +kernel
theorem dX8_process_155 : decode cX8_process 155 = .ok (.invokevirtual 171, 3) := by decide +kernel
theorem dX8_process_158 : decode cX8_process 158 = .ok (.ireturn, 1) := by decide +kernel
theorem dX8_process_159 : decode cX8_process 159 = .ok (.aload_n 0, 1) := by decide +kernel
theorem dX8_process_160 : decode cX8_process 160 = .ok (.getfield 31, 3) := by decide +kernel
theorem dX8_process_163 : decode cX8_process 163 = .ok (.getfield 168, 3) := by decide +kernel
theorem dX8_process_166 : decode cX8_process 166 = .ok (.iload_n 1, 1) := by decide +kernel
theorem dX8_process_167 : decode cX8_process 167 = .ok (.iconst 4, 1) := by decide +kernel
theorem dX8_process_168 : decode cX8_process 168 = .ok (.invokevirtual 171, 3) := by decide +kernel
theorem dX8_process_171 : decode cX8_process 171 = .ok (.ireturn, 1) := by decide +kernel
theorem dX8_process_172 : decode cX8_process 172 = .ok (.new 179, 3) := by decide +kernel
theorem dX8_loan_0 : decode cX8_loan 0 = .ok (.aload_n 0, 1) := by decide +kernel
theorem dX8_loan_1 : decode cX8_loan 1 = .ok (.iload_n 1, 1) := by decide +kernel
theorem dX8_loan_2 : decode cX8_loan 2 = .ok (.invokevirtual 186, 3) := by decide +kernel
theorem dX8_loan_5 : decode cX8_loan 5 = .ok (.iload_n 2, 1) := by decide +kernel
theorem dX8_loan_6 : decode cX8_loan 6 = .ok (.ifCond .lt 9, 3) := by decide +kernel
theorem dX8_loan_9 : decode cX8_loan 9 = .ok (.iload_n 2, 1) := by decide +kernel
theorem dX8_loan_10 : decode cX8_loan 10 = .ok (.bipush 7, 2) := by decide +kernel
theorem dX8_loan_12 : decode cX8_loan 12 = .ok (.if_icmp .le 13, 3) := by decide +kernel
theorem dX8_loan_15 : decode cX8_loan 15 = .ok (.new 179, 3) := by decide +kernel
theorem dX8_loan_25 : decode cX8_loan 25 = .ok (.iload_n 2, 1) := by decide +kernel
theorem dX8_loan_26 : decode cX8_loan 26 = .ok (.iconst 5, 1) := by decide +kernel
theorem dX8_loan_27 : decode cX8_loan 27 = .ok (.if_icmp .ne 20, 3) := by decide +kernel
theorem dX8_loan_30 : decode cX8_loan 30 = .ok (.aload_n 0, 1) := by decide +kernel
theorem dX8_loan_31 : decode cX8_loan 31 = .ok (.getfield 31, 3) := by decide +kernel
theorem dX8_loan_34 : decode cX8_loan 34 = .ok (.iload_n 1, 1) := by decide +kernel
theorem dX8_loan_35 : decode cX8_loan 35 = .ok (.invokevirtual 191, 3) := by decide +kernel
theorem dX8_loan_38 : decode cX8_loan 38 = .ok (.ifCond .eq 7, 3) := by decide +kernel
theorem dX8_loan_41 : decode cX8_loan 41 = .ok (.iconst 1, 1) := by decide +kernel
theorem dX8_loan_42 : decode cX8_loan 42 = .ok (.goto 4, 3) := by decide +kernel
theorem dX8_loan_45 : decode cX8_loan 45 = .ok (.iconst 0, 1) := by decide +kernel
theorem dX8_loan_46 : decode cX8_loan 46 = .ok (.ireturn, 1) := by decide +kernel
theorem dX8_loan_47 : decode cX8_loan 47 = .ok (.aload_n 0, 1) := by decide +kernel
theorem dX8_loan_48 : decode cX8_loan 48 = .ok (.getfield 31, 3) := by decide +kernel
theorem dX8_loan_51 : decode cX8_loan 51 = .ok (.getfield 195, 3) := by decide +kernel
theorem dX8_loan_54 : decode cX8_loan 54 = .ok (.iload_n 1, 1) := by decide +kernel
theorem dX8_loan_55 : decode cX8_loan 55 = .ok (.iload_n 2, 1) := by decide +kernel
theorem dX8_loan_56 : decode cX8_loan 56 = .ok (.invokevirtual 171, 3) := by decide +kernel
theorem dX8_loan_59 : decode cX8_loan 59 = .ok (.ireturn, 1) := by decide +kernel
theorem dX8_page_0 : decode cX8_page 0 = .ok (.iload_n 1, 1) := by decide +kernel
theorem dX8_page_1 : decode cX8_page 1 = .ok (.ifCond .lt 14, 3) := by decide +kernel
theorem dX8_page_4 : decode cX8_page 4 = .ok (.iload_n 1, 1) := by decide +kernel
theorem dX8_page_5 : decode cX8_page 5 = .ok (.aload_n 0, 1) := by decide +kernel
theorem dX8_page_6 : decode cX8_page 6 = .ok (.getfield 24, 3) := by decide +kernel
theorem dX8_page_9 : decode cX8_page 9 = .ok (.getfield 105, 3) := by decide +kernel
theorem dX8_page_12 : decode cX8_page 12 = .ok (.if_icmp .lt 13, 3) := by decide +kernel
theorem dX8_page_15 : decode cX8_page 15 = .ok (.new 179, 3) := by decide +kernel
theorem dX8_page_25 : decode cX8_page 25 = .ok (.aload_n 0, 1) := by decide +kernel
theorem dX8_page_26 : decode cX8_page 26 = .ok (.getfield 31, 3) := by decide +kernel
theorem dX8_page_29 : decode cX8_page 29 = .ok (.iload_n 1, 1) := by decide +kernel
theorem dX8_page_30 : decode cX8_page 30 = .ok (.invokevirtual 200, 3) := by decide +kernel
theorem dX8_page_33 : decode cX8_page 33 = .ok (.ireturn, 1) := by decide +kernel
theorem dX8_pageOf_0 : decode cX8_pageOf 0 = .ok (.aload_n 0, 1) := by decide +kernel
theorem dX8_pageOf_1 : decode cX8_pageOf 1 = .ok (.iload_n 1, 1) := by decide +kernel
theorem dX8_pageOf_2 : decode cX8_pageOf 2 = .ok (.invokevirtual 186, 3) := by decide +kernel
theorem dX8_pageOf_5 : decode cX8_pageOf 5 = .ok (.aload_n 0, 1) := by decide +kernel
theorem dX8_pageOf_6 : decode cX8_pageOf 6 = .ok (.getfield 31, 3) := by decide +kernel
theorem dX8_pageOf_9 : decode cX8_pageOf 9 = .ok (.iload_n 1, 1) := by decide +kernel
theorem dX8_pageOf_10 : decode cX8_pageOf 10 = .ok (.iload_n 2, 1) := by decide +kernel
theorem dX8_pageOf_11 : decode cX8_pageOf 11 = .ok (.invokevirtual 203, 3) := by decide +kernel
theorem dX8_pageOf_14 : decode cX8_pageOf 14 = .ok (.istore_n 3, 1) := by decide +kernel
theorem dX8_pageOf_15 : decode cX8_pageOf 15 = .ok (.iload_n 3, 1) := by decide +kernel
theorem dX8_pageOf_16 : decode cX8_pageOf 16 = .ok (.iconst (-1), 1) := by decide +kernel
theorem dX8_pageOf_17 : decode cX8_pageOf 17 = .ok (.if_icmp .ne 13, 3) := by decide +kernel
theorem dX8_pageOf_20 : decode cX8_pageOf 20 = .ok (.new 206, 3) := by decide +kernel
theorem dX8_pageOf_30 : decode cX8_pageOf 30 = .ok (.iload_n 3, 1) := by decide +kernel
theorem dX8_pageOf_31 : decode cX8_pageOf 31 = .ok (.ireturn, 1) := by decide +kernel
theorem dX8_pieces_0 : decode cX8_pieces 0 = .ok (.aload_n 0, 1) := by decide +kernel
theorem dX8_pieces_1 : decode cX8_pieces 1 = .ok (.iload_n 1, 1) := by decide +kernel
theorem dX8_pieces_2 : decode cX8_pieces 2 = .ok (.invokevirtual 186, 3) := by decide +kernel
theorem dX8_pieces_5 : decode cX8_pieces 5 = .ok (.aload_n 0, 1) := by decide +kernel
theorem dX8_pieces_6 : decode cX8_pieces 6 = .ok (.getfield 31, 3) := by decide +kernel
theorem dX8_pieces_9 : decode cX8_pieces 9 = .ok (.iload_n 1, 1) := by decide +kernel
theorem dX8_pieces_10 : decode cX8_pieces 10 = .ok (.invokevirtual 211, 3) := by decide +kernel
theorem dX8_pieces_13 : decode cX8_pieces 13 = .ok (.ireturn, 1) := by decide +kernel
theorem dX8_claim_0 : decode cX8_claim 0 = .ok (.aload_n 0, 1) := by decide +kernel
theorem dX8_claim_1 : decode cX8_claim 1 = .ok (.iload_n 1, 1) := by decide +kernel
theorem dX8_claim_2 : decode cX8_claim 2 = .ok (.invokevirtual 217, 3) := by decide +kernel
theorem dX8_claim_5 : decode cX8_claim 5 = .ok (.iload_n 2, 1) := by decide +kernel
theorem dX8_claim_6 : decode cX8_claim 6 = .ok (.ifCond .lt 9, 3) := by decide +kernel
theorem dX8_claim_9 : decode cX8_claim 9 = .ok (.iload_n 2, 1) := by decide +kernel
theorem dX8_claim_10 : decode cX8_claim 10 = .ok (.bipush 6, 2) := by decide +kernel
theorem dX8_claim_12 : decode cX8_claim 12 = .ok (.if_icmp .le 13, 3) := by decide +kernel
theorem dX8_claim_15 : decode cX8_claim 15 = .ok (.new 179, 3) := by decide +kernel
theorem dX8_claim_25 : decode cX8_claim 25 = .ok (.aload_n 0, 1) := by decide +kernel
theorem dX8_claim_26 : decode cX8_claim 26 = .ok (.getfield 31, 3) := by decide +kernel
theorem dX8_claim_29 : decode cX8_claim 29 = .ok (.getfield 222, 3) := by decide +kernel
theorem dX8_claim_32 : decode cX8_claim 32 = .ok (.iload_n 1, 1) := by decide +kernel
theorem dX8_claim_33 : decode cX8_claim 33 = .ok (.iload_n 2, 1) := by decide +kernel
theorem dX8_claim_34 : decode cX8_claim 34 = .ok (.invokevirtual 171, 3) := by decide +kernel
theorem dX8_claim_37 : decode cX8_claim 37 = .ok (.ireturn, 1) := by decide +kernel
theorem dX8_waiting_0 : decode cX8_waiting 0 = .ok (.aload_n 0, 1) := by decide +kernel
theorem dX8_waiting_1 : decode cX8_waiting 1 = .ok (.getfield 31, 3) := by decide +kernel
theorem dX8_waiting_4 : decode cX8_waiting 4 = .ok (.invokevirtual 225, 3) := by decide +kernel
theorem dX8_waiting_7 : decode cX8_waiting 7 = .ok (.istore_n 2, 1) := by decide +kernel
theorem dX8_waiting_8 : decode cX8_waiting 8 = .ok (.iload_n 1, 1) := by decide +kernel
theorem dX8_waiting_9 : decode cX8_waiting 9 = .ok (.ifCond .lt 8, 3) := by decide +kernel
theorem dX8_waiting_12 : decode cX8_waiting 12 = .ok (.iload_n 1, 1) := by decide +kernel
theorem dX8_waiting_13 : decode cX8_waiting 13 = .ok (.iload_n 2, 1) := by decide +kernel
theorem dX8_waiting_14 : decode cX8_waiting 14 = .ok (.if_icmp .lt 13, 3) := by decide +kernel
theorem dX8_waiting_17 : decode cX8_waiting 17 = .ok (.new 206, 3) := by decide +kernel
theorem dX8_waiting_27 : decode cX8_waiting 27 = .ok (.aload_n 0, 1) := by decide +kernel
theorem dX8_waiting_28 : decode cX8_waiting 28 = .ok (.getfield 31, 3) := by decide +kernel
theorem dX8_waiting_31 : decode cX8_waiting 31 = .ok (.iload_n 1, 1) := by decide +kernel
theorem dX8_waiting_32 : decode cX8_waiting 32 = .ok (.invokevirtual 231, 3) := by decide +kernel
theorem dX8_waiting_35 : decode cX8_waiting 35 = .ok (.ireturn, 1) := by decide +kernel
theorem dX8_overdue_0 : decode cX8_overdue 0 = .ok (.aload_n 0, 1) := by decide +kernel
theorem dX8_overdue_1 : decode cX8_overdue 1 = .ok (.getfield 31, 3) := by decide +kernel
theorem dX8_overdue_4 : decode cX8_overdue 4 = .ok (.invokevirtual 263, 3) := by decide +kernel
theorem dX8_overdue_7 : decode cX8_overdue 7 = .ok (.ireturn, 1) := by decide +kernel
theorem dX8_firstBroken_0 : decode cX8_firstBroken 0 = .ok (.aload_n 0, 1) := by decide +kernel
theorem dX8_firstBroken_1 : decode cX8_firstBroken 1 = .ok (.getfield 31, 3) := by decide +kernel
theorem dX8_firstBroken_4 : decode cX8_firstBroken 4 = .ok (.invokevirtual 266, 3) := by decide +kernel
theorem dX8_firstBroken_7 : decode cX8_firstBroken 7 = .ok (.ireturn, 1) := by decide +kernel
def f_X8_needProcess (n : Nat) (sv_th : Value) (th_0 : OS) (ru_0 : OS) (v1_0 : Int32) : Option (Nat) :=
  if v1_0 < 0 then (
  some 1) else (
  if v1_0 < (ru_0.1 1) then (
  some 0) else (
  some 1))
set_option maxHeartbeats 4000000 in
set_option maxRecDepth 100000 in
theorem c_X8_needProcess (n : Nat) (l : Launch) (k : KT) (a_th : Nat → Nat) (a_in : Nat → Nat) (a_ou : Nat → Nat) (a_ru : Nat → Nat) (a_no : Nat → Nat) (a_fo : Nat → Nat) (a_rd : Nat → Nat) (a_pa : Nat → Nat) (sv_th : Value) (th_0 : OS) (ru_0 : OS) (v1_0 : Int32) (res : (Nat)) (hf : f_X8_needProcess n sv_th th_0 ru_0 v1_0 = some res) (h0 : res = 0) : CG l k yX8_needProcess cX8_needProcess 2 none 0 0 0 0 [.ref (a_th 0), .int v1_0] (wMCo k a_th (a_in 0) (a_ou 0) (a_ru 0) (a_no 0) (a_fo 0) (a_rd 0) (a_pa 0) sv_th th_0 ++ wRules k a_ru ru_0) (Qv k (fun u : Unit => wMCo k a_th (a_in 0) (a_ou 0) (a_ru 0) (a_no 0) (a_fo 0) (a_rd 0) (a_pa 0) sv_th th_0 ++ wRules k a_ru ru_0) (fun u : Unit => res = 0)) := by
  refine CG.ofV (by decide) (Nat.le_of_ble_eq_true rfl) (fun p e s m args below meth c A Q E hnm hW hA hret ls hl => ?_)
  have hl : lv_has ls 2 [(0, .ref (a_th 0)), (1, .int v1_0)] := hl
  unfold f_X8_needProcess at hf
  refine k_iload_n E hl 1 dX8_needProcess_0 rfl ?_
  refine lv_if_lt (tgt := 15) E.hx E.hb dX8_needProcess_1 (by decide) (fun hc => ?_) (fun hc => ?_)
  · have hf := oT hc hf
    cases hf
    exact absurd h0 (show ¬ (1 : Nat) = 0 from by decide)
  · have hf := oF hc hf
    refine k_iload_n E hl 1 dX8_needProcess_4 rfl ?_
    refine k_aload_n E hl 0 dX8_needProcess_5 rfl ?_
    refine gf_X8_24 E hW 0 rfl rfl dX8_needProcess_6 ?_
    refine gf_X8_96 E hW 1 rfl rfl dX8_needProcess_9 ?_
    refine lv_icmp_lt (tgt := 26) E.hx E.hb dX8_needProcess_12 (by decide) (fun hc => ?_) (fun hc => ?_)
    · have hf := oT hc hf
      exact hret () _ _ _ _ _ _ hW (Option.some.inj hf).symm (by decide) (by decide) dX8_needProcess_26
    · have hf := oF hc hf
      cases hf
      exact absurd h0 (show ¬ (1 : Nat) = 0 from by decide)
def f_X8_needLoan (n : Nat) (sv_th : Value) (th_0 : OS) (no_0 : OS) (v1_0 : Int32) : Option (Nat) :=
  if v1_0 < 0 then (
  some 1) else (
  if v1_0 < (no_0.1 3) then (
  some 0) else (
  some 1))
set_option maxHeartbeats 4000000 in
set_option maxRecDepth 100000 in
theorem c_X8_needLoan (n : Nat) (l : Launch) (k : KT) (a_th : Nat → Nat) (a_in : Nat → Nat) (a_ou : Nat → Nat) (a_ru : Nat → Nat) (a_no : Nat → Nat) (a_fo : Nat → Nat) (a_rd : Nat → Nat) (a_pa : Nat → Nat) (sv_th : Value) (th_0 : OS) (no_0 : OS) (v1_0 : Int32) (res : (Nat)) (hf : f_X8_needLoan n sv_th th_0 no_0 v1_0 = some res) (h0 : res = 0) : CG l k yX8_needLoan cX8_needLoan 2 none 0 0 0 0 [.ref (a_th 0), .int v1_0] (wMCo k a_th (a_in 0) (a_ou 0) (a_ru 0) (a_no 0) (a_fo 0) (a_rd 0) (a_pa 0) sv_th th_0 ++ wCourt k a_no no_0) (Qv k (fun u : Unit => wMCo k a_th (a_in 0) (a_ou 0) (a_ru 0) (a_no 0) (a_fo 0) (a_rd 0) (a_pa 0) sv_th th_0 ++ wCourt k a_no no_0) (fun u : Unit => res = 0)) := by
  refine CG.ofV (by decide) (Nat.le_of_ble_eq_true rfl) (fun p e s m args below meth c A Q E hnm hW hA hret ls hl => ?_)
  have hl : lv_has ls 2 [(0, .ref (a_th 0)), (1, .int v1_0)] := hl
  unfold f_X8_needLoan at hf
  refine k_iload_n E hl 1 dX8_needLoan_0 rfl ?_
  refine lv_if_lt (tgt := 15) E.hx E.hb dX8_needLoan_1 (by decide) (fun hc => ?_) (fun hc => ?_)
  · have hf := oT hc hf
    cases hf
    exact absurd h0 (show ¬ (1 : Nat) = 0 from by decide)
  · have hf := oF hc hf
    refine k_iload_n E hl 1 dX8_needLoan_4 rfl ?_
    refine k_aload_n E hl 0 dX8_needLoan_5 rfl ?_
    refine gf_X8_31 E hW 0 rfl rfl dX8_needLoan_6 ?_
    refine gf_X8_132 E hW 1 rfl rfl dX8_needLoan_9 ?_
    refine lv_icmp_lt (tgt := 26) E.hx E.hb dX8_needLoan_12 (by decide) (fun hc => ?_) (fun hc => ?_)
    · have hf := oT hc hf
      exact hret () _ _ _ _ _ _ hW (Option.some.inj hf).symm (by decide) (by decide) dX8_needLoan_26
    · have hf := oF hc hf
      cases hf
      exact absurd h0 (show ¬ (1 : Nat) = 0 from by decide)
def f_X8_needClaim (n : Nat) (sv_th : Value) (th_0 : OS) (no_0 : OS) (v1_0 : Int32) : Option (Nat) :=
  if v1_0 < 0 then (
  some 1) else (
  if v1_0 < (no_0.1 4) then (
  some 0) else (
  some 1))
set_option maxHeartbeats 4000000 in
set_option maxRecDepth 100000 in
theorem c_X8_needClaim (n : Nat) (l : Launch) (k : KT) (a_th : Nat → Nat) (a_in : Nat → Nat) (a_ou : Nat → Nat) (a_ru : Nat → Nat) (a_no : Nat → Nat) (a_fo : Nat → Nat) (a_rd : Nat → Nat) (a_pa : Nat → Nat) (sv_th : Value) (th_0 : OS) (no_0 : OS) (v1_0 : Int32) (res : (Nat)) (hf : f_X8_needClaim n sv_th th_0 no_0 v1_0 = some res) (h0 : res = 0) : CG l k yX8_needClaim cX8_needClaim 2 none 0 0 0 0 [.ref (a_th 0), .int v1_0] (wMCo k a_th (a_in 0) (a_ou 0) (a_ru 0) (a_no 0) (a_fo 0) (a_rd 0) (a_pa 0) sv_th th_0 ++ wCourt k a_no no_0) (Qv k (fun u : Unit => wMCo k a_th (a_in 0) (a_ou 0) (a_ru 0) (a_no 0) (a_fo 0) (a_rd 0) (a_pa 0) sv_th th_0 ++ wCourt k a_no no_0) (fun u : Unit => res = 0)) := by
  refine CG.ofV (by decide) (Nat.le_of_ble_eq_true rfl) (fun p e s m args below meth c A Q E hnm hW hA hret ls hl => ?_)
  have hl : lv_has ls 2 [(0, .ref (a_th 0)), (1, .int v1_0)] := hl
  unfold f_X8_needClaim at hf
  refine k_iload_n E hl 1 dX8_needClaim_0 rfl ?_
  refine lv_if_lt (tgt := 15) E.hx E.hb dX8_needClaim_1 (by decide) (fun hc => ?_) (fun hc => ?_)
  · have hf := oT hc hf
    cases hf
    exact absurd h0 (show ¬ (1 : Nat) = 0 from by decide)
  · have hf := oF hc hf
    refine k_iload_n E hl 1 dX8_needClaim_4 rfl ?_
    refine k_aload_n E hl 0 dX8_needClaim_5 rfl ?_
    refine gf_X8_31 E hW 0 rfl rfl dX8_needClaim_6 ?_
    refine gf_X8_142 E hW 1 rfl rfl dX8_needClaim_9 ?_
    refine lv_icmp_lt (tgt := 26) E.hx E.hb dX8_needClaim_12 (by decide) (fun hc => ?_) (fun hc => ?_)
    · have hf := oT hc hf
      exact hret () _ _ _ _ _ _ hW (Option.some.inj hf).symm (by decide) (by decide) dX8_needClaim_26
    · have hf := oF hc hf
      cases hf
      exact absurd h0 (show ¬ (1 : Nat) = 0 from by decide)
def f_X8_needTicks (n : Nat) (sv_th : Value) (th_0 : OS) (v1_0 : Int32) : Option (Nat) :=
  if v1_0 < (1 : Int32) then (
  some 2) else (
  if v1_0 ≤ (500 : Int32) then (
  some 0) else (
  some 2))
set_option maxHeartbeats 4000000 in
set_option maxRecDepth 100000 in
theorem c_X8_needTicks (n : Nat) (l : Launch) (k : KT) (a_th : Nat → Nat) (a_in : Nat → Nat) (a_ou : Nat → Nat) (a_ru : Nat → Nat) (a_no : Nat → Nat) (a_fo : Nat → Nat) (a_rd : Nat → Nat) (a_pa : Nat → Nat) (sv_th : Value) (th_0 : OS) (v1_0 : Int32) (res : (Nat)) (hf : f_X8_needTicks n sv_th th_0 v1_0 = some res) (h0 : res = 0) : CG l k yX8_needTicks cX8_needTicks 2 none 0 0 0 0 [.ref (a_th 0), .int v1_0] (wMCo k a_th (a_in 0) (a_ou 0) (a_ru 0) (a_no 0) (a_fo 0) (a_rd 0) (a_pa 0) sv_th th_0) (Qv k (fun u : Unit => wMCo k a_th (a_in 0) (a_ou 0) (a_ru 0) (a_no 0) (a_fo 0) (a_rd 0) (a_pa 0) sv_th th_0) (fun u : Unit => res = 0)) := by
  refine CG.ofV (by decide) (Nat.le_of_ble_eq_true rfl) (fun p e s m args below meth c A Q E hnm hW hA hret ls hl => ?_)
  have hl : lv_has ls 2 [(0, .ref (a_th 0)), (1, .int v1_0)] := hl
  unfold f_X8_needTicks at hf
  refine k_iload_n E hl 1 dX8_needTicks_0 rfl ?_
  refine lv_iconst (v := (1 : Int32)) E.hx E.hb dX8_needTicks_1 ic_1 ?_
  refine lv_icmp_lt (tgt := 12) E.hx E.hb dX8_needTicks_2 (by decide) (fun hc => ?_) (fun hc => ?_)
  · have hf := oT hc hf
    cases hf
    exact absurd h0 (show ¬ (2 : Nat) = 0 from by decide)
  · have hf := oF hc hf
    refine k_iload_n E hl 1 dX8_needTicks_5 rfl ?_
    refine lv_sipush (v := (500 : Int32)) E.hx E.hb dX8_needTicks_6 sp_500 ?_
    refine lv_icmp_le (tgt := 23) E.hx E.hb dX8_needTicks_9 (by decide) (fun hc => ?_) (fun hc => ?_)
    · have hf := oT hc hf
      exact hret () _ _ _ _ _ _ hW (Option.some.inj hf).symm (by decide) (by decide) dX8_needTicks_23
    · have hf := oF hc hf
      cases hf
      exact absurd h0 (show ¬ (2 : Nat) = 0 from by decide)
def f_X3_forget (n : Nat) (th_0 : PS) : Option (PS) :=
  Let (pI th_0 2 (0 : Int32)) (fun th_1 : PS =>
  some th_1)
set_option maxHeartbeats 4000000 in
set_option maxRecDepth 100000 in
theorem c_X3_forget (n : Nat) (l : Launch) (k : KT) (a_th : Nat → Nat) (pp_0 : Nat → Nat → Nat) (th_0 : PS) (res : (PS)) (hf : f_X3_forget n th_0 = some res) : CG l k yX3_forget cX3_forget 1 none 0 0 0 0 [.ref (a_th 0)] (wPast k a_th pp_0 th_0) (Qv k (fun u : PS => wPast k a_th pp_0 u) (fun u : PS => res = u)) := by
  refine CG.ofV (by decide) (Nat.le_of_ble_eq_true rfl) (fun p e s m args below meth c A Q E hnm hW hA hret ls hl => ?_)
  have hl : lv_has ls 1 [(0, .ref (a_th 0))] := hl
  unfold f_X3_forget at hf
  refine k_aload_n E hl 0 dX3_forget_0 rfl ?_
  refine lv_iconst (v := (0 : Int32)) E.hx E.hb dX3_forget_1 ic_0 ?_
  obtain ⟨th_1, eth_1, hf⟩ := oL hf
  refine pf_X3_21 (ws2 := wPast k a_th pp_0 th_1) E hW 0 rfl rfl rfl (Nat.le_of_ble_eq_true rfl) dX3_forget_2 (by rw [eth_1]; rfl) (fun H locs hW => ?_)
  exact hret th_1 _ _ _ _ _ _ hW (Option.some.inj hf).symm (by decide) (by decide) dX3_forget_5
def f_X8_truncate (n : Nat) (sv_th : Value) (th_0 : OS) (z_in : Nat) (in_0 : OS) (v1_0 : Int32) : Option (OS × Int32) :=
  if v1_0 < 0 then (
  some (in_0, (0 : Int32))) else (
  if v1_0 ≤ (in_0.1 1) then (
  Let (sI in_0 1 v1_0) (fun in_1 : OS =>
  some (in_1, (1 : Int32)))) else (
  some (in_0, (0 : Int32))))
set_option maxHeartbeats 4000000 in
set_option maxRecDepth 100000 in
theorem c_X8_truncate (n : Nat) (l : Launch) (k : KT) (a_th : Nat → Nat) (a_in : Nat → Nat) (a_ou : Nat → Nat) (a_ru : Nat → Nat) (a_no : Nat → Nat) (a_fo : Nat → Nat) (a_rd : Nat → Nat) (a_pa : Nat → Nat) (sv_th : Value) (th_0 : OS) (z_in : Nat) (in_0 : OS) (v1_0 : Int32) (res : (OS × Int32)) (hf : f_X8_truncate n sv_th th_0 z_in in_0 v1_0 = some res) : CG l k yX8_truncate cX8_truncate 2 (some .boolean) 0 0 0 0 [.ref (a_th 0), .int v1_0] (wMCo k a_th (a_in 0) (a_ou 0) (a_ru 0) (a_no 0) (a_fo 0) (a_rd 0) (a_pa 0) sv_th th_0 ++ wBytes k a_in z_in in_0) (Qi k (fun u : OS => wMCo k a_th (a_in 0) (a_ou 0) (a_ru 0) (a_no 0) (a_fo 0) (a_rd 0) (a_pa 0) sv_th th_0 ++ wBytes k a_in z_in u) (fun (r : Int32) (u : OS) => res = (u, r))) := by
  refine CG.ofI (by decide) (Nat.le_of_ble_eq_true rfl) (fun p e s m args below meth c A Q E hnm hW hA hret ls hl => ?_)
  have hl : lv_has ls 2 [(0, .ref (a_th 0)), (1, .int v1_0)] := hl
  unfold f_X8_truncate at hf
  refine k_iload_n E hl 1 dX8_truncate_0 rfl ?_
  refine lv_if_lt (tgt := 15) E.hx E.hb dX8_truncate_1 (by decide) (fun hc => ?_) (fun hc => ?_)
  · have hf := oT hc hf
    refine lv_iconst (v := (0 : Int32)) E.hx E.hb dX8_truncate_15 ic_0 ?_
    exact hret _ in_0 _ _ _ _ _ _ hW (Option.some.inj hf).symm (by decide) (by decide) (by decide) dX8_truncate_16
  · have hf := oF hc hf
    refine k_iload_n E hl 1 dX8_truncate_4 rfl ?_
    refine k_aload_n E hl 0 dX8_truncate_5 rfl ?_
    refine gf_X8_14 E hW 0 rfl rfl dX8_truncate_6 ?_
    refine gf_X8_75 E hW 1 rfl rfl dX8_truncate_9 ?_
    refine lv_icmp_le (tgt := 17) E.hx E.hb dX8_truncate_12 (by decide) (fun hc => ?_) (fun hc => ?_)
    · have hf := oT hc hf
      refine k_aload_n E hl 0 dX8_truncate_17 rfl ?_
      refine gf_X8_14 E hW 0 rfl rfl dX8_truncate_18 ?_
      refine k_iload_n E hl 1 dX8_truncate_21 rfl ?_
      obtain ⟨in_1, ein_1, hf⟩ := oL hf
      refine pf_X8_75 (ws2 := wMCo k a_th (a_in 0) (a_ou 0) (a_ru 0) (a_no 0) (a_fo 0) (a_rd 0) (a_pa 0) sv_th th_0 ++ wBytes k a_in z_in in_1) E hW 1 rfl rfl rfl (Nat.le_of_ble_eq_true rfl) dX8_truncate_22 (by rw [ein_1]; rfl) (fun H locs hW => ?_)
      refine lv_iconst (v := (1 : Int32)) E.hx E.hb dX8_truncate_25 ic_1 ?_
      exact hret _ in_1 _ _ _ _ _ _ hW (Option.some.inj hf).symm (by decide) (by decide) (by decide) dX8_truncate_26
    · have hf := oF hc hf
      refine lv_iconst (v := (0 : Int32)) E.hx E.hb dX8_truncate_15 ic_0 ?_
      exact hret _ in_0 _ _ _ _ _ _ hW (Option.some.inj hf).symm (by decide) (by decide) (by decide) dX8_truncate_16
def f_X8_feed (n : Nat) (sv_th : Value) (th_0 : OS) (z_in : Nat) (in_0 : OS) (v1_0 : Int32) (v2_0 : Int32) (v3_0 : Int32) (v4_0 : Int32) (v5_0 : Int32) : Option (OS × Int32) :=
  if ((in_0.1 1) + (20 : Int32)) ≤ (600 : Int32) then (
  bnd (f_X1_putWord n z_in in_0 v1_0) (fun (in_1 : OS) =>
  bnd (f_X1_putWord n z_in in_1 v2_0) (fun (in_2 : OS) =>
  bnd (f_X1_putWord n z_in in_2 v3_0) (fun (in_3 : OS) =>
  bnd (f_X1_putWord n z_in in_3 v4_0) (fun (in_4 : OS) =>
  bnd (f_X1_putWord n z_in in_4 v5_0) (fun (in_5 : OS) =>
  some (in_5, (in_5.1 1)))))))) else (
  some (in_0, (-1 : Int32)))
set_option maxHeartbeats 4000000 in
set_option maxRecDepth 100000 in
theorem c_X8_feed (n : Nat) (l : Launch) (k : KT) (a_th : Nat → Nat) (a_in : Nat → Nat) (a_ou : Nat → Nat) (a_ru : Nat → Nat) (a_no : Nat → Nat) (a_fo : Nat → Nat) (a_rd : Nat → Nat) (a_pa : Nat → Nat) (sv_th : Value) (th_0 : OS) (z_in : Nat) (in_0 : OS) (v1_0 : Int32) (v2_0 : Int32) (v3_0 : Int32) (v4_0 : Int32) (v5_0 : Int32) (res : (OS × Int32)) (hf : f_X8_feed n sv_th th_0 z_in in_0 v1_0 v2_0 v3_0 v4_0 v5_0 = some res) : CG l k yX8_feed cX8_feed 6 (some .int) 2 0 0 42 [.ref (a_th 0), .int v1_0, .int v2_0, .int v3_0, .int v4_0, .int v5_0] (wMCo k a_th (a_in 0) (a_ou 0) (a_ru 0) (a_no 0) (a_fo 0) (a_rd 0) (a_pa 0) sv_th th_0 ++ wBytes k a_in z_in in_0) (Qi k (fun u : OS => wMCo k a_th (a_in 0) (a_ou 0) (a_ru 0) (a_no 0) (a_fo 0) (a_rd 0) (a_pa 0) sv_th th_0 ++ wBytes k a_in z_in u) (fun (r : Int32) (u : OS) => res = (u, r))) := by
  refine CG.ofI (by decide) (Nat.le_of_ble_eq_true rfl) (fun p e s m args below meth c A Q E hnm hW hA hret ls hl => ?_)
  have hl : lv_has ls 6 [(0, .ref (a_th 0)), (1, .int v1_0), (2, .int v2_0), (3, .int v3_0), (4, .int v4_0), (5, .int v5_0)] := hl
  unfold f_X8_feed at hf
  refine k_aload_n E hl 0 dX8_feed_0 rfl ?_
  refine gf_X8_14 E hW 0 rfl rfl dX8_feed_1 ?_
  refine gf_X8_75 E hW 1 rfl rfl dX8_feed_4 ?_
  refine lv_bipush (v := (20 : Int32)) E.hx E.hb dX8_feed_7 bp_20 ?_
  refine lv_iadd E.hx E.hb dX8_feed_9 ?_
  refine lv_sipush (v := (600 : Int32)) E.hx E.hb dX8_feed_10 sp_600 ?_
  refine lv_icmp_le (tgt := 18) E.hx E.hb dX8_feed_13 (by decide) (fun hc => ?_) (fun hc => ?_)
  · have hf := oT hc hf
    refine k_aload_n E hl 0 dX8_feed_18 rfl ?_
    refine gf_X8_14 E hW 0 rfl rfl dX8_feed_19 ?_
    refine k_iload_n E hl 1 dX8_feed_22 rfl ?_
    obtain ⟨in_1, hg, hf⟩ := ob hf
    refine k_callVv (As := [.int v1_0]) (rest := []) (ws2 := fun u => wMCo k a_th (a_in 0) (a_ou 0) (a_ru 0) (a_no 0) (a_fo 0) (a_rd 0) (a_pa 0) sv_th th_0 ++ wBytes k a_in z_in (u)) (c_X1_putWord n l k a_in z_in in_0 v1_0 in_1 hg) E vl_X8_78 dX8_feed_23 rfl [1, 2] 2 1 hW hA hl rfl rfl rfl rfl ⟨by decide, by decide⟩ ⟨by decide, by decide⟩ (Nat.le_of_ble_eq_true rfl) rfl (fun _ => rfl) (fun _ => rfl) (fun u H locs hp hW => ?_)
    cases hp
    have hW : WD k A s.heap (wMCo k a_th (a_in 0) (a_ou 0) (a_ru 0) (a_no 0) (a_fo 0) (a_rd 0) (a_pa 0) sv_th th_0 ++ wBytes k a_in z_in in_1) H locs := hW
    refine k_aload_n E hl 0 dX8_feed_26 rfl ?_
    refine gf_X8_14 E hW 0 rfl rfl dX8_feed_27 ?_
    refine k_iload_n E hl 2 dX8_feed_30 rfl ?_
    obtain ⟨in_2, hg, hf⟩ := ob hf
    refine k_callVv (As := [.int v2_0]) (rest := []) (ws2 := fun u => wMCo k a_th (a_in 0) (a_ou 0) (a_ru 0) (a_no 0) (a_fo 0) (a_rd 0) (a_pa 0) sv_th th_0 ++ wBytes k a_in z_in (u)) (c_X1_putWord n l k a_in z_in in_1 v2_0 in_2 hg) E vl_X8_78 dX8_feed_31 rfl [1, 2] 2 1 hW hA hl rfl rfl rfl rfl ⟨by decide, by decide⟩ ⟨by decide, by decide⟩ (Nat.le_of_ble_eq_true rfl) rfl (fun _ => rfl) (fun _ => rfl) (fun u H locs hp hW => ?_)
    cases hp
    have hW : WD k A s.heap (wMCo k a_th (a_in 0) (a_ou 0) (a_ru 0) (a_no 0) (a_fo 0) (a_rd 0) (a_pa 0) sv_th th_0 ++ wBytes k a_in z_in in_2) H locs := hW
    refine k_aload_n E hl 0 dX8_feed_34 rfl ?_
    refine gf_X8_14 E hW 0 rfl rfl dX8_feed_35 ?_
    refine k_iload_n E hl 3 dX8_feed_38 rfl ?_
    obtain ⟨in_3, hg, hf⟩ := ob hf
    refine k_callVv (As := [.int v3_0]) (rest := []) (ws2 := fun u => wMCo k a_th (a_in 0) (a_ou 0) (a_ru 0) (a_no 0) (a_fo 0) (a_rd 0) (a_pa 0) sv_th th_0 ++ wBytes k a_in z_in (u)) (c_X1_putWord n l k a_in z_in in_2 v3_0 in_3 hg) E vl_X8_78 dX8_feed_39 rfl [1, 2] 2 1 hW hA hl rfl rfl rfl rfl ⟨by decide, by decide⟩ ⟨by decide, by decide⟩ (Nat.le_of_ble_eq_true rfl) rfl (fun _ => rfl) (fun _ => rfl) (fun u H locs hp hW => ?_)
    cases hp
    have hW : WD k A s.heap (wMCo k a_th (a_in 0) (a_ou 0) (a_ru 0) (a_no 0) (a_fo 0) (a_rd 0) (a_pa 0) sv_th th_0 ++ wBytes k a_in z_in in_3) H locs := hW
    refine k_aload_n E hl 0 dX8_feed_42 rfl ?_
    refine gf_X8_14 E hW 0 rfl rfl dX8_feed_43 ?_
    refine k_iload E hl 4 dX8_feed_46 rfl ?_
    obtain ⟨in_4, hg, hf⟩ := ob hf
    refine k_callVv (As := [.int v4_0]) (rest := []) (ws2 := fun u => wMCo k a_th (a_in 0) (a_ou 0) (a_ru 0) (a_no 0) (a_fo 0) (a_rd 0) (a_pa 0) sv_th th_0 ++ wBytes k a_in z_in (u)) (c_X1_putWord n l k a_in z_in in_3 v4_0 in_4 hg) E vl_X8_78 dX8_feed_48 rfl [1, 2] 2 1 hW hA hl rfl rfl rfl rfl ⟨by decide, by decide⟩ ⟨by decide, by decide⟩ (Nat.le_of_ble_eq_true rfl) rfl (fun _ => rfl) (fun _ => rfl) (fun u H locs hp hW => ?_)
    cases hp
    have hW : WD k A s.heap (wMCo k a_th (a_in 0) (a_ou 0) (a_ru 0) (a_no 0) (a_fo 0) (a_rd 0) (a_pa 0) sv_th th_0 ++ wBytes k a_in z_in in_4) H locs := hW
    refine k_aload_n E hl 0 dX8_feed_51 rfl ?_
    refine gf_X8_14 E hW 0 rfl rfl dX8_feed_52 ?_
    refine k_iload E hl 5 dX8_feed_55 rfl ?_
    obtain ⟨in_5, hg, hf⟩ := ob hf
    refine k_callVv (As := [.int v5_0]) (rest := []) (ws2 := fun u => wMCo k a_th (a_in 0) (a_ou 0) (a_ru 0) (a_no 0) (a_fo 0) (a_rd 0) (a_pa 0) sv_th th_0 ++ wBytes k a_in z_in (u)) (c_X1_putWord n l k a_in z_in in_4 v5_0 in_5 hg) E vl_X8_78 dX8_feed_57 rfl [1, 2] 2 1 hW hA hl rfl rfl rfl rfl ⟨by decide, by decide⟩ ⟨by decide, by decide⟩ (Nat.le_of_ble_eq_true rfl) rfl (fun _ => rfl) (fun _ => rfl) (fun u H locs hp hW => ?_)
    cases hp
    have hW : WD k A s.heap (wMCo k a_th (a_in 0) (a_ou 0) (a_ru 0) (a_no 0) (a_fo 0) (a_rd 0) (a_pa 0) sv_th th_0 ++ wBytes k a_in z_in in_5) H locs := hW
    refine k_aload_n E hl 0 dX8_feed_60 rfl ?_
    refine gf_X8_14 E hW 0 rfl rfl dX8_feed_61 ?_
    refine gf_X8_75 E hW 1 rfl rfl dX8_feed_64 ?_
    exact hret _ in_5 _ _ _ _ _ _ hW (Option.some.inj hf).symm rfl (by decide) (by decide) dX8_feed_67
  · have hf := oF hc hf
    refine lv_iconst (v := (-1 : Int32)) E.hx E.hb dX8_feed_16 ic_m1 ?_
    exact hret _ in_0 _ _ _ _ _ _ hW (Option.some.inj hf).symm rfl (by decide) (by decide) dX8_feed_17
def f_X8_count (n : Nat) (sv_th : Value) (th_0 : OS) (ru_0 : OS) (no_0 : OS) (pa_0 : PS) (v1_0 : Int32) : Option (Int32) :=
  if (v1_0).toInt < 0 ∨ 20 < (v1_0).toInt then (
  some (-1 : Int32)) else (if v1_0 = (0 : Int32) then (
  some (ru_0.1 0)) else (if v1_0 = (1 : Int32) then (
  some (ru_0.1 1)) else (if v1_0 = (2 : Int32) then (
  some (no_0.1 0)) else (if v1_0 = (3 : Int32) then (
  some (no_0.1 1)) else (if v1_0 = (4 : Int32) then (
  some (ru_0.1 2)) else (if v1_0 = (5 : Int32) then (
  some (ru_0.1 3)) else (if v1_0 = (6 : Int32) then (
  some (ru_0.1 4)) else (if v1_0 = (7 : Int32) then (
  some (ru_0.1 5)) else (if v1_0 = (8 : Int32) then (
  some (ru_0.1 6)) else (if v1_0 = (9 : Int32) then (
  some (no_0.1 2)) else (if v1_0 = (10 : Int32) then (
  some (no_0.1 3)) else (if v1_0 = (11 : Int32) then (
  bnd (f_X2_openLoans n no_0 (-1 : Int32)) (fun (r_1 : Int32) =>
  some r_1)) else (if v1_0 = (12 : Int32) then (
  bnd (f_X2_brokenLoans n no_0 (-1 : Int32)) (fun (r_2 : Int32) =>
  some r_2)) else (if v1_0 = (13 : Int32) then (
  some (no_0.1 4)) else (if v1_0 = (14 : Int32) then (
  bnd (f_X2_claimsThat n no_0 (-1 : Int32) (0 : Int32)) (fun (r_3 : Int32) =>
  some r_3)) else (if v1_0 = (15 : Int32) then (
  bnd (f_X2_claimsThat n no_0 (-1 : Int32) (1 : Int32)) (fun (r_4 : Int32) =>
  some r_4)) else (if v1_0 = (16 : Int32) then (
  bnd (f_X2_claimsThat n no_0 (-1 : Int32) (2 : Int32)) (fun (r_5 : Int32) =>
  some r_5)) else (if v1_0 = (17 : Int32) then (
  some (no_0.1 6)) else (if v1_0 = (18 : Int32) then (
  some (no_0.1 5)) else (if v1_0 = (19 : Int32) then (
  some (no_0.1 8)) else (some (pa_0.1 2))))))))))))))))))))))
set_option maxHeartbeats 4000000 in
set_option maxRecDepth 100000 in
theorem c_X8_count (n : Nat) (l : Launch) (k : KT) (a_th : Nat → Nat) (a_in : Nat → Nat) (a_ou : Nat → Nat) (a_ru : Nat → Nat) (a_no : Nat → Nat) (a_fo : Nat → Nat) (a_rd : Nat → Nat) (a_pa : Nat → Nat) (pp_0 : Nat → Nat → Nat) (sv_th : Value) (th_0 : OS) (ru_0 : OS) (no_0 : OS) (pa_0 : PS) (v1_0 : Int32) (res : (Int32)) (hf : f_X8_count n sv_th th_0 ru_0 no_0 pa_0 v1_0 = some res) : CG l k yX8_count cX8_count 2 (some .int) 3 0 0 68 [.ref (a_th 0), .int v1_0] (wMCo k a_th (a_in 0) (a_ou 0) (a_ru 0) (a_no 0) (a_fo 0) (a_rd 0) (a_pa 0) sv_th th_0 ++ wRules k a_ru ru_0 ++ wCourt k a_no no_0 ++ wPast k a_pa pp_0 pa_0) (Qi k (fun u : Unit => wMCo k a_th (a_in 0) (a_ou 0) (a_ru 0) (a_no 0) (a_fo 0) (a_rd 0) (a_pa 0) sv_th th_0 ++ wRules k a_ru ru_0 ++ wCourt k a_no no_0 ++ wPast k a_pa pp_0 pa_0) (fun (r : Int32) (u : Unit) => res = r)) := by
  refine CG.ofI (by decide) (Nat.le_of_ble_eq_true rfl) (fun p e s m args below meth c A Q E hnm hW hA hret ls hl => ?_)
  have hl : lv_has ls 2 [(0, .ref (a_th 0)), (1, .int v1_0)] := hl
  unfold f_X8_count at hf
  refine k_iload_n E hl 1 dX8_count_0 rfl ?_
  by_cases hsw : (v1_0).toInt < 0 ∨ 20 < (v1_0).toInt
  · have hf := oT hsw hf
    refine lv_tableOut (tgt := 276) E.hx E.hb dX8_count_1 hsw (by decide) ?_
    refine lv_iconst (v := (-1 : Int32)) E.hx E.hb dX8_count_276 ic_m1 ?_
    exact hret _ () _ _ _ _ _ _ hW (Option.some.inj hf).symm rfl (by decide) (by decide) dX8_count_277
  · have hf := oF hsw hf
    by_cases hc : v1_0 = (0 : Int32)
    · have hf := oT hc hf
      refine lv_tableIn (off := (99)) (tgt := 100) E.hx E.hb dX8_count_1 (by rw [hc]; decide) (by rw [hc]; decide) (by rw [hc]; rfl) (by decide) ?_
      refine k_aload_n E hl 0 dX8_count_100 rfl ?_
      refine gf_X8_24 E hW 0 rfl rfl dX8_count_101 ?_
      refine gf_X8_105 E hW 1 rfl rfl dX8_count_104 ?_
      exact hret _ () _ _ _ _ _ _ hW (Option.some.inj hf).symm rfl (by decide) (by decide) dX8_count_107
    have hf := oF hc hf; have hn_0 := hc; clear hc
    by_cases hc : v1_0 = (1 : Int32)
    · have hf := oT hc hf
      refine lv_tableIn (off := (107)) (tgt := 108) E.hx E.hb dX8_count_1 (by rw [hc]; decide) (by rw [hc]; decide) (by rw [hc]; rfl) (by decide) ?_
      refine k_aload_n E hl 0 dX8_count_108 rfl ?_
      refine gf_X8_24 E hW 0 rfl rfl dX8_count_109 ?_
      refine gf_X8_96 E hW 1 rfl rfl dX8_count_112 ?_
      exact hret _ () _ _ _ _ _ _ hW (Option.some.inj hf).symm rfl (by decide) (by decide) dX8_count_115
    have hf := oF hc hf; have hn_1 := hc; clear hc
    by_cases hc : v1_0 = (2 : Int32)
    · have hf := oT hc hf
      refine lv_tableIn (off := (115)) (tgt := 116) E.hx E.hb dX8_count_1 (by rw [hc]; decide) (by rw [hc]; decide) (by rw [hc]; rfl) (by decide) ?_
      refine k_aload_n E hl 0 dX8_count_116 rfl ?_
      refine gf_X8_31 E hW 0 rfl rfl dX8_count_117 ?_
      refine gf_X8_108 E hW 4 rfl rfl dX8_count_120 ?_
      exact hret _ () _ _ _ _ _ _ hW (Option.some.inj hf).symm rfl (by decide) (by decide) dX8_count_123
    have hf := oF hc hf; have hn_2 := hc; clear hc
    by_cases hc : v1_0 = (3 : Int32)
    · have hf := oT hc hf
      refine lv_tableIn (off := (123)) (tgt := 124) E.hx E.hb dX8_count_1 (by rw [hc]; decide) (by rw [hc]; decide) (by rw [hc]; rfl) (by decide) ?_
      refine k_aload_n E hl 0 dX8_count_124 rfl ?_
      refine gf_X8_31 E hW 0 rfl rfl dX8_count_125 ?_
      refine gf_X8_111 E hW 4 rfl rfl dX8_count_128 ?_
      exact hret _ () _ _ _ _ _ _ hW (Option.some.inj hf).symm rfl (by decide) (by decide) dX8_count_131
    have hf := oF hc hf; have hn_3 := hc; clear hc
    by_cases hc : v1_0 = (4 : Int32)
    · have hf := oT hc hf
      refine lv_tableIn (off := (131)) (tgt := 132) E.hx E.hb dX8_count_1 (by rw [hc]; decide) (by rw [hc]; decide) (by rw [hc]; rfl) (by decide) ?_
      refine k_aload_n E hl 0 dX8_count_132 rfl ?_
      refine gf_X8_24 E hW 0 rfl rfl dX8_count_133 ?_
      refine gf_X8_114 E hW 1 rfl rfl dX8_count_136 ?_
      exact hret _ () _ _ _ _ _ _ hW (Option.some.inj hf).symm rfl (by decide) (by decide) dX8_count_139
    have hf := oF hc hf; have hn_4 := hc; clear hc
    by_cases hc : v1_0 = (5 : Int32)
    · have hf := oT hc hf
      refine lv_tableIn (off := (139)) (tgt := 140) E.hx E.hb dX8_count_1 (by rw [hc]; decide) (by rw [hc]; decide) (by rw [hc]; rfl) (by decide) ?_
      refine k_aload_n E hl 0 dX8_count_140 rfl ?_
      refine gf_X8_24 E hW 0 rfl rfl dX8_count_141 ?_
      refine gf_X8_117 E hW 1 rfl rfl dX8_count_144 ?_
      exact hret _ () _ _ _ _ _ _ hW (Option.some.inj hf).symm rfl (by decide) (by decide) dX8_count_147
    have hf := oF hc hf; have hn_5 := hc; clear hc
    by_cases hc : v1_0 = (6 : Int32)
    · have hf := oT hc hf
      refine lv_tableIn (off := (147)) (tgt := 148) E.hx E.hb dX8_count_1 (by rw [hc]; decide) (by rw [hc]; decide) (by rw [hc]; rfl) (by decide) ?_
      refine k_aload_n E hl 0 dX8_count_148 rfl ?_
      refine gf_X8_24 E hW 0 rfl rfl dX8_count_149 ?_
      refine gf_X8_120 E hW 1 rfl rfl dX8_count_152 ?_
      exact hret _ () _ _ _ _ _ _ hW (Option.some.inj hf).symm rfl (by decide) (by decide) dX8_count_155
    have hf := oF hc hf; have hn_6 := hc; clear hc
    by_cases hc : v1_0 = (7 : Int32)
    · have hf := oT hc hf
      refine lv_tableIn (off := (155)) (tgt := 156) E.hx E.hb dX8_count_1 (by rw [hc]; decide) (by rw [hc]; decide) (by rw [hc]; rfl) (by decide) ?_
      refine k_aload_n E hl 0 dX8_count_156 rfl ?_
      refine gf_X8_24 E hW 0 rfl rfl dX8_count_157 ?_
      refine gf_X8_123 E hW 1 rfl rfl dX8_count_160 ?_
      exact hret _ () _ _ _ _ _ _ hW (Option.some.inj hf).symm rfl (by decide) (by decide) dX8_count_163
    have hf := oF hc hf; have hn_7 := hc; clear hc
    by_cases hc : v1_0 = (8 : Int32)
    · have hf := oT hc hf
      refine lv_tableIn (off := (163)) (tgt := 164) E.hx E.hb dX8_count_1 (by rw [hc]; decide) (by rw [hc]; decide) (by rw [hc]; rfl) (by decide) ?_
      refine k_aload_n E hl 0 dX8_count_164 rfl ?_
      refine gf_X8_24 E hW 0 rfl rfl dX8_count_165 ?_
      refine gf_X8_126 E hW 1 rfl rfl dX8_count_168 ?_
      exact hret _ () _ _ _ _ _ _ hW (Option.some.inj hf).symm rfl (by decide) (by decide) dX8_count_171
    have hf := oF hc hf; have hn_8 := hc; clear hc
    by_cases hc : v1_0 = (9 : Int32)
    · have hf := oT hc hf
      refine lv_tableIn (off := (171)) (tgt := 172) E.hx E.hb dX8_count_1 (by rw [hc]; decide) (by rw [hc]; decide) (by rw [hc]; rfl) (by decide) ?_
      refine k_aload_n E hl 0 dX8_count_172 rfl ?_
      refine gf_X8_31 E hW 0 rfl rfl dX8_count_173 ?_
      refine gf_X8_129 E hW 4 rfl rfl dX8_count_176 ?_
      exact hret _ () _ _ _ _ _ _ hW (Option.some.inj hf).symm rfl (by decide) (by decide) dX8_count_179
    have hf := oF hc hf; have hn_9 := hc; clear hc
    by_cases hc : v1_0 = (10 : Int32)
    · have hf := oT hc hf
      refine lv_tableIn (off := (179)) (tgt := 180) E.hx E.hb dX8_count_1 (by rw [hc]; decide) (by rw [hc]; decide) (by rw [hc]; rfl) (by decide) ?_
      refine k_aload_n E hl 0 dX8_count_180 rfl ?_
      refine gf_X8_31 E hW 0 rfl rfl dX8_count_181 ?_
      refine gf_X8_132 E hW 4 rfl rfl dX8_count_184 ?_
      exact hret _ () _ _ _ _ _ _ hW (Option.some.inj hf).symm rfl (by decide) (by decide) dX8_count_187
    have hf := oF hc hf; have hn_10 := hc; clear hc
    by_cases hc : v1_0 = (11 : Int32)
    · have hf := oT hc hf
      refine lv_tableIn (off := (187)) (tgt := 188) E.hx E.hb dX8_count_1 (by rw [hc]; decide) (by rw [hc]; decide) (by rw [hc]; rfl) (by decide) ?_
      refine k_aload_n E hl 0 dX8_count_188 rfl ?_
      refine gf_X8_31 E hW 0 rfl rfl dX8_count_189 ?_
      refine lv_iconst (v := (-1 : Int32)) E.hx E.hb dX8_count_192 ic_m1 ?_
      obtain ⟨r_1, hg, hf⟩ := ob hf
      refine k_callVi (As := [.int (-1 : Int32)]) (rest := []) (ws2 := fun u => wMCo k a_th (a_in 0) (a_ou 0) (a_ru 0) (a_no 0) (a_fo 0) (a_rd 0) (a_pa 0) sv_th th_0 ++ wRules k a_ru ru_0 ++ wCourt k a_no no_0 ++ wPast k a_pa pp_0 pa_0) (c_X2_openLoans n l k a_no no_0 (-1 : Int32) r_1 hg) E vl_X8_135 dX8_count_193 rfl [4, 5, 6, 7, 8, 9, 10, 11, 12, 13, 14, 15] 3 4 hW hA hl rfl rfl rfl rfl ⟨by decide, by decide⟩ ⟨by decide, by decide⟩ (Nat.le_of_ble_eq_true rfl) rfl (fun _ => rfl) (fun _ => rfl) (fun r u H locs hp hW => ?_)
      cases hp
      have hW : WD k A s.heap (wMCo k a_th (a_in 0) (a_ou 0) (a_ru 0) (a_no 0) (a_fo 0) (a_rd 0) (a_pa 0) sv_th th_0 ++ wRules k a_ru ru_0 ++ wCourt k a_no no_0 ++ wPast k a_pa pp_0 pa_0) H locs := hW
      exact hret _ () _ _ _ _ _ _ hW (Option.some.inj hf).symm rfl (by decide) (by decide) dX8_count_196
    have hf := oF hc hf; have hn_11 := hc; clear hc
    by_cases hc : v1_0 = (12 : Int32)
    · have hf := oT hc hf
      refine lv_tableIn (off := (196)) (tgt := 197) E.hx E.hb dX8_count_1 (by rw [hc]; decide) (by rw [hc]; decide) (by rw [hc]; rfl) (by decide) ?_
      refine k_aload_n E hl 0 dX8_count_197 rfl ?_
      refine gf_X8_31 E hW 0 rfl rfl dX8_count_198 ?_
      refine lv_iconst (v := (-1 : Int32)) E.hx E.hb dX8_count_201 ic_m1 ?_
      obtain ⟨r_2, hg, hf⟩ := ob hf
      refine k_callVi (As := [.int (-1 : Int32)]) (rest := []) (ws2 := fun u => wMCo k a_th (a_in 0) (a_ou 0) (a_ru 0) (a_no 0) (a_fo 0) (a_rd 0) (a_pa 0) sv_th th_0 ++ wRules k a_ru ru_0 ++ wCourt k a_no no_0 ++ wPast k a_pa pp_0 pa_0) (c_X2_brokenLoans n l k a_no no_0 (-1 : Int32) r_2 hg) E vl_X8_139 dX8_count_202 rfl [4, 5, 6, 7, 8, 9, 10, 11, 12, 13, 14, 15] 3 4 hW hA hl rfl rfl rfl rfl ⟨by decide, by decide⟩ ⟨by decide, by decide⟩ (Nat.le_of_ble_eq_true rfl) rfl (fun _ => rfl) (fun _ => rfl) (fun r u H locs hp hW => ?_)
      cases hp
      have hW : WD k A s.heap (wMCo k a_th (a_in 0) (a_ou 0) (a_ru 0) (a_no 0) (a_fo 0) (a_rd 0) (a_pa 0) sv_th th_0 ++ wRules k a_ru ru_0 ++ wCourt k a_no no_0 ++ wPast k a_pa pp_0 pa_0) H locs := hW
      exact hret _ () _ _ _ _ _ _ hW (Option.some.inj hf).symm rfl (by decide) (by decide) dX8_count_205
    have hf := oF hc hf; have hn_12 := hc; clear hc
    by_cases hc : v1_0 = (13 : Int32)
    · have hf := oT hc hf
      refine lv_tableIn (off := (205)) (tgt := 206) E.hx E.hb dX8_count_1 (by rw [hc]; decide) (by rw [hc]; decide) (by rw [hc]; rfl) (by decide) ?_
      refine k_aload_n E hl 0 dX8_count_206 rfl ?_
      refine gf_X8_31 E hW 0 rfl rfl dX8_count_207 ?_
      refine gf_X8_142 E hW 4 rfl rfl dX8_count_210 ?_
      exact hret _ () _ _ _ _ _ _ hW (Option.some.inj hf).symm rfl (by decide) (by decide) dX8_count_213
    have hf := oF hc hf; have hn_13 := hc; clear hc
    by_cases hc : v1_0 = (14 : Int32)
    · have hf := oT hc hf
      refine lv_tableIn (off := (213)) (tgt := 214) E.hx E.hb dX8_count_1 (by rw [hc]; decide) (by rw [hc]; decide) (by rw [hc]; rfl) (by decide) ?_
      refine k_aload_n E hl 0 dX8_count_214 rfl ?_
      refine gf_X8_31 E hW 0 rfl rfl dX8_count_215 ?_
      refine lv_iconst (v := (-1 : Int32)) E.hx E.hb dX8_count_218 ic_m1 ?_
      refine lv_iconst (v := (0 : Int32)) E.hx E.hb dX8_count_219 ic_0 ?_
      obtain ⟨r_3, hg, hf⟩ := ob hf
      refine k_callVi (As := [.int (-1 : Int32), .int (0 : Int32)]) (rest := []) (ws2 := fun u => wMCo k a_th (a_in 0) (a_ou 0) (a_ru 0) (a_no 0) (a_fo 0) (a_rd 0) (a_pa 0) sv_th th_0 ++ wRules k a_ru ru_0 ++ wCourt k a_no no_0 ++ wPast k a_pa pp_0 pa_0) (c_X2_claimsThat n l k a_no no_0 (-1 : Int32) (0 : Int32) r_3 hg) E vl_X8_145 dX8_count_220 rfl [4, 5, 6, 7, 8, 9, 10, 11, 12, 13, 14, 15] 3 4 hW hA hl rfl rfl rfl rfl ⟨by decide, by decide⟩ ⟨by decide, by decide⟩ (Nat.le_of_ble_eq_true rfl) rfl (fun _ => rfl) (fun _ => rfl) (fun r u H locs hp hW => ?_)
      cases hp
      have hW : WD k A s.heap (wMCo k a_th (a_in 0) (a_ou 0) (a_ru 0) (a_no 0) (a_fo 0) (a_rd 0) (a_pa 0) sv_th th_0 ++ wRules k a_ru ru_0 ++ wCourt k a_no no_0 ++ wPast k a_pa pp_0 pa_0) H locs := hW
      exact hret _ () _ _ _ _ _ _ hW (Option.some.inj hf).symm rfl (by decide) (by decide) dX8_count_223
    have hf := oF hc hf; have hn_14 := hc; clear hc
    by_cases hc : v1_0 = (15 : Int32)
    · have hf := oT hc hf
      refine lv_tableIn (off := (223)) (tgt := 224) E.hx E.hb dX8_count_1 (by rw [hc]; decide) (by rw [hc]; decide) (by rw [hc]; rfl) (by decide) ?_
      refine k_aload_n E hl 0 dX8_count_224 rfl ?_
      refine gf_X8_31 E hW 0 rfl rfl dX8_count_225 ?_
      refine lv_iconst (v := (-1 : Int32)) E.hx E.hb dX8_count_228 ic_m1 ?_
      refine lv_iconst (v := (1 : Int32)) E.hx E.hb dX8_count_229 ic_1 ?_
      obtain ⟨r_4, hg, hf⟩ := ob hf
      refine k_callVi (As := [.int (-1 : Int32), .int (1 : Int32)]) (rest := []) (ws2 := fun u => wMCo k a_th (a_in 0) (a_ou 0) (a_ru 0) (a_no 0) (a_fo 0) (a_rd 0) (a_pa 0) sv_th th_0 ++ wRules k a_ru ru_0 ++ wCourt k a_no no_0 ++ wPast k a_pa pp_0 pa_0) (c_X2_claimsThat n l k a_no no_0 (-1 : Int32) (1 : Int32) r_4 hg) E vl_X8_145 dX8_count_230 rfl [4, 5, 6, 7, 8, 9, 10, 11, 12, 13, 14, 15] 3 4 hW hA hl rfl rfl rfl rfl ⟨by decide, by decide⟩ ⟨by decide, by decide⟩ (Nat.le_of_ble_eq_true rfl) rfl (fun _ => rfl) (fun _ => rfl) (fun r u H locs hp hW => ?_)
      cases hp
      have hW : WD k A s.heap (wMCo k a_th (a_in 0) (a_ou 0) (a_ru 0) (a_no 0) (a_fo 0) (a_rd 0) (a_pa 0) sv_th th_0 ++ wRules k a_ru ru_0 ++ wCourt k a_no no_0 ++ wPast k a_pa pp_0 pa_0) H locs := hW
      exact hret _ () _ _ _ _ _ _ hW (Option.some.inj hf).symm rfl (by decide) (by decide) dX8_count_233
    have hf := oF hc hf; have hn_15 := hc; clear hc
    by_cases hc : v1_0 = (16 : Int32)
    · have hf := oT hc hf
      refine lv_tableIn (off := (233)) (tgt := 234) E.hx E.hb dX8_count_1 (by rw [hc]; decide) (by rw [hc]; decide) (by rw [hc]; rfl) (by decide) ?_
      refine k_aload_n E hl 0 dX8_count_234 rfl ?_
      refine gf_X8_31 E hW 0 rfl rfl dX8_count_235 ?_
      refine lv_iconst (v := (-1 : Int32)) E.hx E.hb dX8_count_238 ic_m1 ?_
      refine lv_iconst (v := (2 : Int32)) E.hx E.hb dX8_count_239 ic_2 ?_
      obtain ⟨r_5, hg, hf⟩ := ob hf
      refine k_callVi (As := [.int (-1 : Int32), .int (2 : Int32)]) (rest := []) (ws2 := fun u => wMCo k a_th (a_in 0) (a_ou 0) (a_ru 0) (a_no 0) (a_fo 0) (a_rd 0) (a_pa 0) sv_th th_0 ++ wRules k a_ru ru_0 ++ wCourt k a_no no_0 ++ wPast k a_pa pp_0 pa_0) (c_X2_claimsThat n l k a_no no_0 (-1 : Int32) (2 : Int32) r_5 hg) E vl_X8_145 dX8_count_240 rfl [4, 5, 6, 7, 8, 9, 10, 11, 12, 13, 14, 15] 3 4 hW hA hl rfl rfl rfl rfl ⟨by decide, by decide⟩ ⟨by decide, by decide⟩ (Nat.le_of_ble_eq_true rfl) rfl (fun _ => rfl) (fun _ => rfl) (fun r u H locs hp hW => ?_)
      cases hp
      have hW : WD k A s.heap (wMCo k a_th (a_in 0) (a_ou 0) (a_ru 0) (a_no 0) (a_fo 0) (a_rd 0) (a_pa 0) sv_th th_0 ++ wRules k a_ru ru_0 ++ wCourt k a_no no_0 ++ wPast k a_pa pp_0 pa_0) H locs := hW
      exact hret _ () _ _ _ _ _ _ hW (Option.some.inj hf).symm rfl (by decide) (by decide) dX8_count_243
    have hf := oF hc hf; have hn_16 := hc; clear hc
    by_cases hc : v1_0 = (17 : Int32)
    · have hf := oT hc hf
      refine lv_tableIn (off := (243)) (tgt := 244) E.hx E.hb dX8_count_1 (by rw [hc]; decide) (by rw [hc]; decide) (by rw [hc]; rfl) (by decide) ?_
      refine k_aload_n E hl 0 dX8_count_244 rfl ?_
      refine gf_X8_31 E hW 0 rfl rfl dX8_count_245 ?_
      refine gf_X8_149 E hW 4 rfl rfl dX8_count_248 ?_
      exact hret _ () _ _ _ _ _ _ hW (Option.some.inj hf).symm rfl (by decide) (by decide) dX8_count_251
    have hf := oF hc hf; have hn_17 := hc; clear hc
    by_cases hc : v1_0 = (18 : Int32)
    · have hf := oT hc hf
      refine lv_tableIn (off := (251)) (tgt := 252) E.hx E.hb dX8_count_1 (by rw [hc]; decide) (by rw [hc]; decide) (by rw [hc]; rfl) (by decide) ?_
      refine k_aload_n E hl 0 dX8_count_252 rfl ?_
      refine gf_X8_31 E hW 0 rfl rfl dX8_count_253 ?_
      refine gf_X8_152 E hW 4 rfl rfl dX8_count_256 ?_
      exact hret _ () _ _ _ _ _ _ hW (Option.some.inj hf).symm rfl (by decide) (by decide) dX8_count_259
    have hf := oF hc hf; have hn_18 := hc; clear hc
    by_cases hc : v1_0 = (19 : Int32)
    · have hf := oT hc hf
      refine lv_tableIn (off := (259)) (tgt := 260) E.hx E.hb dX8_count_1 (by rw [hc]; decide) (by rw [hc]; decide) (by rw [hc]; rfl) (by decide) ?_
      refine k_aload_n E hl 0 dX8_count_260 rfl ?_
      refine gf_X8_31 E hW 0 rfl rfl dX8_count_261 ?_
      refine gf_X8_155 E hW 4 rfl rfl dX8_count_264 ?_
      exact hret _ () _ _ _ _ _ _ hW (Option.some.inj hf).symm rfl (by decide) (by decide) dX8_count_267
    have hf := oF hc hf; have hn_19 := hc; clear hc
    have hc : v1_0 = (20 : Int32) := by
      apply Int32.toInt_inj.mp; rw [show ((20 : Int32)).toInt = 20 from by decide]
      have hn_0 : ¬ (v1_0).toInt = 0 := fun z => hn_0 (Int32.toInt_inj.mp (z.trans (show (0 : Int) = ((0 : Int32)).toInt from by decide)))
      have hn_1 : ¬ (v1_0).toInt = 1 := fun z => hn_1 (Int32.toInt_inj.mp (z.trans (show (1 : Int) = ((1 : Int32)).toInt from by decide)))
      have hn_2 : ¬ (v1_0).toInt = 2 := fun z => hn_2 (Int32.toInt_inj.mp (z.trans (show (2 : Int) = ((2 : Int32)).toInt from by decide)))
      have hn_3 : ¬ (v1_0).toInt = 3 := fun z => hn_3 (Int32.toInt_inj.mp (z.trans (show (3 : Int) = ((3 : Int32)).toInt from by decide)))
      have hn_4 : ¬ (v1_0).toInt = 4 := fun z => hn_4 (Int32.toInt_inj.mp (z.trans (show (4 : Int) = ((4 : Int32)).toInt from by decide)))
      have hn_5 : ¬ (v1_0).toInt = 5 := fun z => hn_5 (Int32.toInt_inj.mp (z.trans (show (5 : Int) = ((5 : Int32)).toInt from by decide)))
      have hn_6 : ¬ (v1_0).toInt = 6 := fun z => hn_6 (Int32.toInt_inj.mp (z.trans (show (6 : Int) = ((6 : Int32)).toInt from by decide)))
      have hn_7 : ¬ (v1_0).toInt = 7 := fun z => hn_7 (Int32.toInt_inj.mp (z.trans (show (7 : Int) = ((7 : Int32)).toInt from by decide)))
      have hn_8 : ¬ (v1_0).toInt = 8 := fun z => hn_8 (Int32.toInt_inj.mp (z.trans (show (8 : Int) = ((8 : Int32)).toInt from by decide)))
      have hn_9 : ¬ (v1_0).toInt = 9 := fun z => hn_9 (Int32.toInt_inj.mp (z.trans (show (9 : Int) = ((9 : Int32)).toInt from by decide)))
      have hn_10 : ¬ (v1_0).toInt = 10 := fun z => hn_10 (Int32.toInt_inj.mp (z.trans (show (10 : Int) = ((10 : Int32)).toInt from by decide)))
      have hn_11 : ¬ (v1_0).toInt = 11 := fun z => hn_11 (Int32.toInt_inj.mp (z.trans (show (11 : Int) = ((11 : Int32)).toInt from by decide)))
      have hn_12 : ¬ (v1_0).toInt = 12 := fun z => hn_12 (Int32.toInt_inj.mp (z.trans (show (12 : Int) = ((12 : Int32)).toInt from by decide)))
      have hn_13 : ¬ (v1_0).toInt = 13 := fun z => hn_13 (Int32.toInt_inj.mp (z.trans (show (13 : Int) = ((13 : Int32)).toInt from by decide)))
      have hn_14 : ¬ (v1_0).toInt = 14 := fun z => hn_14 (Int32.toInt_inj.mp (z.trans (show (14 : Int) = ((14 : Int32)).toInt from by decide)))
      have hn_15 : ¬ (v1_0).toInt = 15 := fun z => hn_15 (Int32.toInt_inj.mp (z.trans (show (15 : Int) = ((15 : Int32)).toInt from by decide)))
      have hn_16 : ¬ (v1_0).toInt = 16 := fun z => hn_16 (Int32.toInt_inj.mp (z.trans (show (16 : Int) = ((16 : Int32)).toInt from by decide)))
      have hn_17 : ¬ (v1_0).toInt = 17 := fun z => hn_17 (Int32.toInt_inj.mp (z.trans (show (17 : Int) = ((17 : Int32)).toInt from by decide)))
      have hn_18 : ¬ (v1_0).toInt = 18 := fun z => hn_18 (Int32.toInt_inj.mp (z.trans (show (18 : Int) = ((18 : Int32)).toInt from by decide)))
      have hn_19 : ¬ (v1_0).toInt = 19 := fun z => hn_19 (Int32.toInt_inj.mp (z.trans (show (19 : Int) = ((19 : Int32)).toInt from by decide)))
      omega
    refine lv_tableIn (off := (267)) (tgt := 268) E.hx E.hb dX8_count_1 (by rw [hc]; decide) (by rw [hc]; decide) (by rw [hc]; rfl) (by decide) ?_
    refine k_aload_n E hl 0 dX8_count_268 rfl ?_
    refine gf_X8_50 E hW 0 rfl rfl dX8_count_269 ?_
    refine gf_X8_158 E hW 16 rfl rfl dX8_count_272 ?_
    exact hret _ () _ _ _ _ _ _ hW (Option.some.inj hf).symm rfl (by decide) (by decide) dX8_count_275
def f_X8_process (n : Nat) (sv_th : Value) (th_0 : OS) (ru_0 : OS) (no_0 : OS) (v1_0 : Int32) (v2_0 : Int32) : Option (Int32 × Nat) :=
  bnd (f_X8_needProcess n sv_th th_0 ru_0 v1_0) (fun (cd_1 : Nat) =>
  if cd_1 = 0 then (
  if (v2_0).toInt < 0 ∨ 9 < (v2_0).toInt then (
  some ((0 : Int32), 1)) else (if v2_0 = (0 : Int32) then (
  bnd (f_X6_get n (5 : Int32) 40 (no_0.2.1 11) v1_0 (0 : Int32)) (fun (r_2 : Int32) =>
  some (r_2, 0))) else (if v2_0 = (1 : Int32) then (
  bnd (f_X6_get n (5 : Int32) 40 (no_0.2.1 11) v1_0 (1 : Int32)) (fun (r_3 : Int32) =>
  some (r_3, 0))) else (if v2_0 = (2 : Int32) then (
  bnd (f_X6_get n (5 : Int32) 40 (no_0.2.1 11) v1_0 (2 : Int32)) (fun (r_4 : Int32) =>
  some (r_4, 0))) else (if v2_0 = (3 : Int32) then (
  bnd (f_X2_heldPages n no_0 v1_0) (fun (r_5 : Int32) =>
  some (r_5, 0))) else (if v2_0 = (4 : Int32) then (
  bnd (f_X2_openLoans n no_0 v1_0) (fun (r_6 : Int32) =>
  some (r_6, 0))) else (if v2_0 = (5 : Int32) then (
  bnd (f_X2_brokenLoans n no_0 v1_0) (fun (r_7 : Int32) =>
  some (r_7, 0))) else (if v2_0 = (6 : Int32) then (
  bnd (f_X2_claimsThat n no_0 v1_0 (0 : Int32)) (fun (r_8 : Int32) =>
  some (r_8, 0))) else (if v2_0 = (7 : Int32) then (
  bnd (f_X2_claimsThat n no_0 v1_0 (1 : Int32)) (fun (r_9 : Int32) =>
  some (r_9, 0))) else (if v2_0 = (8 : Int32) then (
  bnd (f_X6_get n (5 : Int32) 40 (no_0.2.1 11) v1_0 (3 : Int32)) (fun (r_10 : Int32) =>
  some (r_10, 0))) else (bnd (f_X6_get n (5 : Int32) 40 (no_0.2.1 11) v1_0 (4 : Int32)) (fun (r_11 : Int32) =>
  some (r_11, 0))))))))))))) else (
  some ((0 : Int32), cd_1)))
set_option maxHeartbeats 4000000 in
set_option maxRecDepth 100000 in
theorem c_X8_process (n : Nat) (l : Launch) (k : KT) (a_th : Nat → Nat) (a_in : Nat → Nat) (a_ou : Nat → Nat) (a_ru : Nat → Nat) (a_no : Nat → Nat) (a_fo : Nat → Nat) (a_rd : Nat → Nat) (a_pa : Nat → Nat) (sv_th : Value) (th_0 : OS) (ru_0 : OS) (no_0 : OS) (v1_0 : Int32) (v2_0 : Int32) (res : (Int32 × Nat)) (hf : f_X8_process n sv_th th_0 ru_0 no_0 v1_0 v2_0 = some res) (h0 : res.2 = 0) : CG l k yX8_process cX8_process 3 (some .int) 3 0 0 68 [.ref (a_th 0), .int v1_0, .int v2_0] (wMCo k a_th (a_in 0) (a_ou 0) (a_ru 0) (a_no 0) (a_fo 0) (a_rd 0) (a_pa 0) sv_th th_0 ++ wRules k a_ru ru_0 ++ wCourt k a_no no_0) (Qi k (fun u : Unit => wMCo k a_th (a_in 0) (a_ou 0) (a_ru 0) (a_no 0) (a_fo 0) (a_rd 0) (a_pa 0) sv_th th_0 ++ wRules k a_ru ru_0 ++ wCourt k a_no no_0) (fun (r : Int32) (u : Unit) => res = (r, 0))) := by
  refine CG.ofI (by decide) (Nat.le_of_ble_eq_true rfl) (fun p e s m args below meth c A Q E hnm hW hA hret ls hl => ?_)
  have hl : lv_has ls 3 [(0, .ref (a_th 0)), (1, .int v1_0), (2, .int v2_0)] := hl
  unfold f_X8_process at hf
  refine k_aload_n E hl 0 dX8_process_0 rfl ?_
  refine k_iload_n E hl 1 dX8_process_1 rfl ?_
  obtain ⟨cd_1, hg, hf⟩ := ob hf
  by_cases hcd : cd_1 = 0
  rotate_left
  · have hf := oF hcd hf
    cases hf; exact absurd h0 hcd
  replace hf := oT hcd hf
  refine k_callVv (As := [.int v1_0]) (rest := []) (ws2 := fun u => wMCo k a_th (a_in 0) (a_ou 0) (a_ru 0) (a_no 0) (a_fo 0) (a_rd 0) (a_pa 0) sv_th th_0 ++ wRules k a_ru ru_0 ++ wCourt k a_no no_0) (c_X8_needProcess n l k a_th a_in a_ou a_ru a_no a_fo a_rd a_pa sv_th th_0 ru_0 v1_0 cd_1 hg hcd) E vl_X8_165 dX8_process_2 rfl [0, 1, 2, 3] 8 0 hW hA hl rfl rfl rfl rfl ⟨by decide, by decide⟩ ⟨by decide, by decide⟩ (Nat.le_of_ble_eq_true rfl) rfl (fun _ => rfl) (fun _ => rfl) (fun u H locs hp hW => ?_)
  cases hp
  have hW : WD k A s.heap (wMCo k a_th (a_in 0) (a_ou 0) (a_ru 0) (a_no 0) (a_fo 0) (a_rd 0) (a_pa 0) sv_th th_0 ++ wRules k a_ru ru_0 ++ wCourt k a_no no_0) H locs := hW
  refine k_iload_n E hl 2 dX8_process_5 rfl ?_
  by_cases hsw : (v2_0).toInt < 0 ∨ 9 < (v2_0).toInt
  · have hf := oT hsw hf
    refine lv_tableOut (tgt := 172) E.hx E.hb dX8_process_6 hsw (by decide) ?_
    cases hf
    exact absurd h0 (show ¬ (1 : Nat) = 0 from by decide)
  · have hf := oF hsw hf
    by_cases hc : v2_0 = (0 : Int32)
    · have hf := oT hc hf
      refine lv_tableIn (off := (54)) (tgt := 60) E.hx E.hb dX8_process_6 (by rw [hc]; decide) (by rw [hc]; decide) (by rw [hc]; rfl) (by decide) ?_
      refine k_aload_n E hl 0 dX8_process_60 rfl ?_
      refine gf_X8_31 E hW 0 rfl rfl dX8_process_61 ?_
      refine gf_X8_168 E hW 4 rfl rfl dX8_process_64 ?_
      refine k_iload_n E hl 1 dX8_process_67 rfl ?_
      refine lv_iconst (v := (0 : Int32)) E.hx E.hb dX8_process_68 ic_0 ?_
      obtain ⟨r_2, hg, hf⟩ := ob hf
      refine k_callVi (As := [.int v1_0, .int (0 : Int32)]) (rest := []) (ws2 := fun u => wMCo k a_th (a_in 0) (a_ou 0) (a_ru 0) (a_no 0) (a_fo 0) (a_rd 0) (a_pa 0) sv_th th_0 ++ wRules k a_ru ru_0 ++ wCourt k a_no no_0) (c_X6_get n l k (fun j => a_no (3 + j)) (5 : Int32) 40 (no_0.2.1 11) v1_0 (0 : Int32) r_2 hg) E vl_X8_171 dX8_process_69 rfl [7, 8] 7 7 hW hA hl rfl rfl rfl rfl ⟨by decide, by decide⟩ ⟨by decide, by decide⟩ (Nat.le_of_ble_eq_true rfl) rfl (fun _ => rfl) (fun _ => rfl) (fun r u H locs hp hW => ?_)
      cases hp
      have hW : WD k A s.heap (wMCo k a_th (a_in 0) (a_ou 0) (a_ru 0) (a_no 0) (a_fo 0) (a_rd 0) (a_pa 0) sv_th th_0 ++ wRules k a_ru ru_0 ++ wCourt k a_no no_0) H locs := hW
      exact hret _ () _ _ _ _ _ _ hW (Option.some.inj hf).symm rfl (by decide) (by decide) dX8_process_72
    have hf := oF hc hf; have hn_0 := hc; clear hc
    by_cases hc : v2_0 = (1 : Int32)
    · have hf := oT hc hf
      refine lv_tableIn (off := (67)) (tgt := 73) E.hx E.hb dX8_process_6 (by rw [hc]; decide) (by rw [hc]; decide) (by rw [hc]; rfl) (by decide) ?_
      refine k_aload_n E hl 0 dX8_process_73 rfl ?_
      refine gf_X8_31 E hW 0 rfl rfl dX8_process_74 ?_
      refine gf_X8_168 E hW 4 rfl rfl dX8_process_77 ?_
      refine k_iload_n E hl 1 dX8_process_80 rfl ?_
      refine lv_iconst (v := (1 : Int32)) E.hx E.hb dX8_process_81 ic_1 ?_
      obtain ⟨r_3, hg, hf⟩ := ob hf
      refine k_callVi (As := [.int v1_0, .int (1 : Int32)]) (rest := []) (ws2 := fun u => wMCo k a_th (a_in 0) (a_ou 0) (a_ru 0) (a_no 0) (a_fo 0) (a_rd 0) (a_pa 0) sv_th th_0 ++ wRules k a_ru ru_0 ++ wCourt k a_no no_0) (c_X6_get n l k (fun j => a_no (3 + j)) (5 : Int32) 40 (no_0.2.1 11) v1_0 (1 : Int32) r_3 hg) E vl_X8_171 dX8_process_82 rfl [7, 8] 7 7 hW hA hl rfl rfl rfl rfl ⟨by decide, by decide⟩ ⟨by decide, by decide⟩ (Nat.le_of_ble_eq_true rfl) rfl (fun _ => rfl) (fun _ => rfl) (fun r u H locs hp hW => ?_)
      cases hp
      have hW : WD k A s.heap (wMCo k a_th (a_in 0) (a_ou 0) (a_ru 0) (a_no 0) (a_fo 0) (a_rd 0) (a_pa 0) sv_th th_0 ++ wRules k a_ru ru_0 ++ wCourt k a_no no_0) H locs := hW
      exact hret _ () _ _ _ _ _ _ hW (Option.some.inj hf).symm rfl (by decide) (by decide) dX8_process_85
    have hf := oF hc hf; have hn_1 := hc; clear hc
    by_cases hc : v2_0 = (2 : Int32)
    · have hf := oT hc hf
      refine lv_tableIn (off := (80)) (tgt := 86) E.hx E.hb dX8_process_6 (by rw [hc]; decide) (by rw [hc]; decide) (by rw [hc]; rfl) (by decide) ?_
      refine k_aload_n E hl 0 dX8_process_86 rfl ?_
      refine gf_X8_31 E hW 0 rfl rfl dX8_process_87 ?_
      refine gf_X8_168 E hW 4 rfl rfl dX8_process_90 ?_
      refine k_iload_n E hl 1 dX8_process_93 rfl ?_
      refine lv_iconst (v := (2 : Int32)) E.hx E.hb dX8_process_94 ic_2 ?_
      obtain ⟨r_4, hg, hf⟩ := ob hf
      refine k_callVi (As := [.int v1_0, .int (2 : Int32)]) (rest := []) (ws2 := fun u => wMCo k a_th (a_in 0) (a_ou 0) (a_ru 0) (a_no 0) (a_fo 0) (a_rd 0) (a_pa 0) sv_th th_0 ++ wRules k a_ru ru_0 ++ wCourt k a_no no_0) (c_X6_get n l k (fun j => a_no (3 + j)) (5 : Int32) 40 (no_0.2.1 11) v1_0 (2 : Int32) r_4 hg) E vl_X8_171 dX8_process_95 rfl [7, 8] 7 7 hW hA hl rfl rfl rfl rfl ⟨by decide, by decide⟩ ⟨by decide, by decide⟩ (Nat.le_of_ble_eq_true rfl) rfl (fun _ => rfl) (fun _ => rfl) (fun r u H locs hp hW => ?_)
      cases hp
      have hW : WD k A s.heap (wMCo k a_th (a_in 0) (a_ou 0) (a_ru 0) (a_no 0) (a_fo 0) (a_rd 0) (a_pa 0) sv_th th_0 ++ wRules k a_ru ru_0 ++ wCourt k a_no no_0) H locs := hW
      exact hret _ () _ _ _ _ _ _ hW (Option.some.inj hf).symm rfl (by decide) (by decide) dX8_process_98
    have hf := oF hc hf; have hn_2 := hc; clear hc
    by_cases hc : v2_0 = (3 : Int32)
    · have hf := oT hc hf
      refine lv_tableIn (off := (93)) (tgt := 99) E.hx E.hb dX8_process_6 (by rw [hc]; decide) (by rw [hc]; decide) (by rw [hc]; rfl) (by decide) ?_
      refine k_aload_n E hl 0 dX8_process_99 rfl ?_
      refine gf_X8_31 E hW 0 rfl rfl dX8_process_100 ?_
      refine k_iload_n E hl 1 dX8_process_103 rfl ?_
      obtain ⟨r_5, hg, hf⟩ := ob hf
      refine k_callVi (As := [.int v1_0]) (rest := []) (ws2 := fun u => wMCo k a_th (a_in 0) (a_ou 0) (a_ru 0) (a_no 0) (a_fo 0) (a_rd 0) (a_pa 0) sv_th th_0 ++ wRules k a_ru ru_0 ++ wCourt k a_no no_0) (c_X2_heldPages n l k a_no no_0 v1_0 r_5 hg) E vl_X8_176 dX8_process_104 rfl [4, 5, 6, 7, 8, 9, 10, 11, 12, 13, 14, 15] 3 4 hW hA hl rfl rfl rfl rfl ⟨by decide, by decide⟩ ⟨by decide, by decide⟩ (Nat.le_of_ble_eq_true rfl) rfl (fun _ => rfl) (fun _ => rfl) (fun r u H locs hp hW => ?_)
      cases hp
      have hW : WD k A s.heap (wMCo k a_th (a_in 0) (a_ou 0) (a_ru 0) (a_no 0) (a_fo 0) (a_rd 0) (a_pa 0) sv_th th_0 ++ wRules k a_ru ru_0 ++ wCourt k a_no no_0) H locs := hW
      exact hret _ () _ _ _ _ _ _ hW (Option.some.inj hf).symm rfl (by decide) (by decide) dX8_process_107
    have hf := oF hc hf; have hn_3 := hc; clear hc
    by_cases hc : v2_0 = (4 : Int32)
    · have hf := oT hc hf
      refine lv_tableIn (off := (102)) (tgt := 108) E.hx E.hb dX8_process_6 (by rw [hc]; decide) (by rw [hc]; decide) (by rw [hc]; rfl) (by decide) ?_
      refine k_aload_n E hl 0 dX8_process_108 rfl ?_
      refine gf_X8_31 E hW 0 rfl rfl dX8_process_109 ?_
      refine k_iload_n E hl 1 dX8_process_112 rfl ?_
      obtain ⟨r_6, hg, hf⟩ := ob hf
      refine k_callVi (As := [.int v1_0]) (rest := []) (ws2 := fun u => wMCo k a_th (a_in 0) (a_ou 0) (a_ru 0) (a_no 0) (a_fo 0) (a_rd 0) (a_pa 0) sv_th th_0 ++ wRules k a_ru ru_0 ++ wCourt k a_no no_0) (c_X2_openLoans n l k a_no no_0 v1_0 r_6 hg) E vl_X8_135 dX8_process_113 rfl [4, 5, 6, 7, 8, 9, 10, 11, 12, 13, 14, 15] 3 4 hW hA hl rfl rfl rfl rfl ⟨by decide, by decide⟩ ⟨by decide, by decide⟩ (Nat.le_of_ble_eq_true rfl) rfl (fun _ => rfl) (fun _ => rfl) (fun r u H locs hp hW => ?_)
      cases hp
      have hW : WD k A s.heap (wMCo k a_th (a_in 0) (a_ou 0) (a_ru 0) (a_no 0) (a_fo 0) (a_rd 0) (a_pa 0) sv_th th_0 ++ wRules k a_ru ru_0 ++ wCourt k a_no no_0) H locs := hW
      exact hret _ () _ _ _ _ _ _ hW (Option.some.inj hf).symm rfl (by decide) (by decide) dX8_process_116
    have hf := oF hc hf; have hn_4 := hc; clear hc
    by_cases hc : v2_0 = (5 : Int32)
    · have hf := oT hc hf
      refine lv_tableIn (off := (111)) (tgt := 117) E.hx E.hb dX8_process_6 (by rw [hc]; decide) (by rw [hc]; decide) (by rw [hc]; rfl) (by decide) ?_
      refine k_aload_n E hl 0 dX8_process_117 rfl ?_
      refine gf_X8_31 E hW 0 rfl rfl dX8_process_118 ?_
      refine k_iload_n E hl 1 dX8_process_121 rfl ?_
      obtain ⟨r_7, hg, hf⟩ := ob hf
      refine k_callVi (As := [.int v1_0]) (rest := []) (ws2 := fun u => wMCo k a_th (a_in 0) (a_ou 0) (a_ru 0) (a_no 0) (a_fo 0) (a_rd 0) (a_pa 0) sv_th th_0 ++ wRules k a_ru ru_0 ++ wCourt k a_no no_0) (c_X2_brokenLoans n l k a_no no_0 v1_0 r_7 hg) E vl_X8_139 dX8_process_122 rfl [4, 5, 6, 7, 8, 9, 10, 11, 12, 13, 14, 15] 3 4 hW hA hl rfl rfl rfl rfl ⟨by decide, by decide⟩ ⟨by decide, by decide⟩ (Nat.le_of_ble_eq_true rfl) rfl (fun _ => rfl) (fun _ => rfl) (fun r u H locs hp hW => ?_)
      cases hp
      have hW : WD k A s.heap (wMCo k a_th (a_in 0) (a_ou 0) (a_ru 0) (a_no 0) (a_fo 0) (a_rd 0) (a_pa 0) sv_th th_0 ++ wRules k a_ru ru_0 ++ wCourt k a_no no_0) H locs := hW
      exact hret _ () _ _ _ _ _ _ hW (Option.some.inj hf).symm rfl (by decide) (by decide) dX8_process_125
    have hf := oF hc hf; have hn_5 := hc; clear hc
    by_cases hc : v2_0 = (6 : Int32)
    · have hf := oT hc hf
      refine lv_tableIn (off := (120)) (tgt := 126) E.hx E.hb dX8_process_6 (by rw [hc]; decide) (by rw [hc]; decide) (by rw [hc]; rfl) (by decide) ?_
      refine k_aload_n E hl 0 dX8_process_126 rfl ?_
      refine gf_X8_31 E hW 0 rfl rfl dX8_process_127 ?_
      refine k_iload_n E hl 1 dX8_process_130 rfl ?_
      refine lv_iconst (v := (0 : Int32)) E.hx E.hb dX8_process_131 ic_0 ?_
      obtain ⟨r_8, hg, hf⟩ := ob hf
      refine k_callVi (As := [.int v1_0, .int (0 : Int32)]) (rest := []) (ws2 := fun u => wMCo k a_th (a_in 0) (a_ou 0) (a_ru 0) (a_no 0) (a_fo 0) (a_rd 0) (a_pa 0) sv_th th_0 ++ wRules k a_ru ru_0 ++ wCourt k a_no no_0) (c_X2_claimsThat n l k a_no no_0 v1_0 (0 : Int32) r_8 hg) E vl_X8_145 dX8_process_132 rfl [4, 5, 6, 7, 8, 9, 10, 11, 12, 13, 14, 15] 3 4 hW hA hl rfl rfl rfl rfl ⟨by decide, by decide⟩ ⟨by decide, by decide⟩ (Nat.le_of_ble_eq_true rfl) rfl (fun _ => rfl) (fun _ => rfl) (fun r u H locs hp hW => ?_)
      cases hp
      have hW : WD k A s.heap (wMCo k a_th (a_in 0) (a_ou 0) (a_ru 0) (a_no 0) (a_fo 0) (a_rd 0) (a_pa 0) sv_th th_0 ++ wRules k a_ru ru_0 ++ wCourt k a_no no_0) H locs := hW
      exact hret _ () _ _ _ _ _ _ hW (Option.some.inj hf).symm rfl (by decide) (by decide) dX8_process_135
    have hf := oF hc hf; have hn_6 := hc; clear hc
    by_cases hc : v2_0 = (7 : Int32)
    · have hf := oT hc hf
      refine lv_tableIn (off := (130)) (tgt := 136) E.hx E.hb dX8_process_6 (by rw [hc]; decide) (by rw [hc]; decide) (by rw [hc]; rfl) (by decide) ?_
      refine k_aload_n E hl 0 dX8_process_136 rfl ?_
      refine gf_X8_31 E hW 0 rfl rfl dX8_process_137 ?_
      refine k_iload_n E hl 1 dX8_process_140 rfl ?_
      refine lv_iconst (v := (1 : Int32)) E.hx E.hb dX8_process_141 ic_1 ?_
      obtain ⟨r_9, hg, hf⟩ := ob hf
      refine k_callVi (As := [.int v1_0, .int (1 : Int32)]) (rest := []) (ws2 := fun u => wMCo k a_th (a_in 0) (a_ou 0) (a_ru 0) (a_no 0) (a_fo 0) (a_rd 0) (a_pa 0) sv_th th_0 ++ wRules k a_ru ru_0 ++ wCourt k a_no no_0) (c_X2_claimsThat n l k a_no no_0 v1_0 (1 : Int32) r_9 hg) E vl_X8_145 dX8_process_142 rfl [4, 5, 6, 7, 8, 9, 10, 11, 12, 13, 14, 15] 3 4 hW hA hl rfl rfl rfl rfl ⟨by decide, by decide⟩ ⟨by decide, by decide⟩ (Nat.le_of_ble_eq_true rfl) rfl (fun _ => rfl) (fun _ => rfl) (fun r u H locs hp hW => ?_)
      cases hp
      have hW : WD k A s.heap (wMCo k a_th (a_in 0) (a_ou 0) (a_ru 0) (a_no 0) (a_fo 0) (a_rd 0) (a_pa 0) sv_th th_0 ++ wRules k a_ru ru_0 ++ wCourt k a_no no_0) H locs := hW
      exact hret _ () _ _ _ _ _ _ hW (Option.some.inj hf).symm rfl (by decide) (by decide) dX8_process_145
    have hf := oF hc hf; have hn_7 := hc; clear hc
    by_cases hc : v2_0 = (8 : Int32)
    · have hf := oT hc hf
      refine lv_tableIn (off := (140)) (tgt := 146) E.hx E.hb dX8_process_6 (by rw [hc]; decide) (by rw [hc]; decide) (by rw [hc]; rfl) (by decide) ?_
      refine k_aload_n E hl 0 dX8_process_146 rfl ?_
      refine gf_X8_31 E hW 0 rfl rfl dX8_process_147 ?_
      refine gf_X8_168 E hW 4 rfl rfl dX8_process_150 ?_
      refine k_iload_n E hl 1 dX8_process_153 rfl ?_
      refine lv_iconst (v := (3 : Int32)) E.hx E.hb dX8_process_154 ic_3 ?_
      obtain ⟨r_10, hg, hf⟩ := ob hf
      refine k_callVi (As := [.int v1_0, .int (3 : Int32)]) (rest := []) (ws2 := fun u => wMCo k a_th (a_in 0) (a_ou 0) (a_ru 0) (a_no 0) (a_fo 0) (a_rd 0) (a_pa 0) sv_th th_0 ++ wRules k a_ru ru_0 ++ wCourt k a_no no_0) (c_X6_get n l k (fun j => a_no (3 + j)) (5 : Int32) 40 (no_0.2.1 11) v1_0 (3 : Int32) r_10 hg) E vl_X8_171 dX8_process_155 rfl [7, 8] 7 7 hW hA hl rfl rfl rfl rfl ⟨by decide, by decide⟩ ⟨by decide, by decide⟩ (Nat.le_of_ble_eq_true rfl) rfl (fun _ => rfl) (fun _ => rfl) (fun r u H locs hp hW => ?_)
      cases hp
      have hW : WD k A s.heap (wMCo k a_th (a_in 0) (a_ou 0) (a_ru 0) (a_no 0) (a_fo 0) (a_rd 0) (a_pa 0) sv_th th_0 ++ wRules k a_ru ru_0 ++ wCourt k a_no no_0) H locs := hW
      exact hret _ () _ _ _ _ _ _ hW (Option.some.inj hf).symm rfl (by decide) (by decide) dX8_process_158
    have hf := oF hc hf; have hn_8 := hc; clear hc
    have hc : v2_0 = (9 : Int32) := by
      apply Int32.toInt_inj.mp; rw [show ((9 : Int32)).toInt = 9 from by decide]
      have hn_0 : ¬ (v2_0).toInt = 0 := fun z => hn_0 (Int32.toInt_inj.mp (z.trans (show (0 : Int) = ((0 : Int32)).toInt from by decide)))
      have hn_1 : ¬ (v2_0).toInt = 1 := fun z => hn_1 (Int32.toInt_inj.mp (z.trans (show (1 : Int) = ((1 : Int32)).toInt from by decide)))
      have hn_2 : ¬ (v2_0).toInt = 2 := fun z => hn_2 (Int32.toInt_inj.mp (z.trans (show (2 : Int) = ((2 : Int32)).toInt from by decide)))
      have hn_3 : ¬ (v2_0).toInt = 3 := fun z => hn_3 (Int32.toInt_inj.mp (z.trans (show (3 : Int) = ((3 : Int32)).toInt from by decide)))
      have hn_4 : ¬ (v2_0).toInt = 4 := fun z => hn_4 (Int32.toInt_inj.mp (z.trans (show (4 : Int) = ((4 : Int32)).toInt from by decide)))
      have hn_5 : ¬ (v2_0).toInt = 5 := fun z => hn_5 (Int32.toInt_inj.mp (z.trans (show (5 : Int) = ((5 : Int32)).toInt from by decide)))
      have hn_6 : ¬ (v2_0).toInt = 6 := fun z => hn_6 (Int32.toInt_inj.mp (z.trans (show (6 : Int) = ((6 : Int32)).toInt from by decide)))
      have hn_7 : ¬ (v2_0).toInt = 7 := fun z => hn_7 (Int32.toInt_inj.mp (z.trans (show (7 : Int) = ((7 : Int32)).toInt from by decide)))
      have hn_8 : ¬ (v2_0).toInt = 8 := fun z => hn_8 (Int32.toInt_inj.mp (z.trans (show (8 : Int) = ((8 : Int32)).toInt from by decide)))
      omega
    refine lv_tableIn (off := (153)) (tgt := 159) E.hx E.hb dX8_process_6 (by rw [hc]; decide) (by rw [hc]; decide) (by rw [hc]; rfl) (by decide) ?_
    refine k_aload_n E hl 0 dX8_process_159 rfl ?_
    refine gf_X8_31 E hW 0 rfl rfl dX8_process_160 ?_
    refine gf_X8_168 E hW 4 rfl rfl dX8_process_163 ?_
    refine k_iload_n E hl 1 dX8_process_166 rfl ?_
    refine lv_iconst (v := (4 : Int32)) E.hx E.hb dX8_process_167 ic_4 ?_
    obtain ⟨r_11, hg, hf⟩ := ob hf
    refine k_callVi (As := [.int v1_0, .int (4 : Int32)]) (rest := []) (ws2 := fun u => wMCo k a_th (a_in 0) (a_ou 0) (a_ru 0) (a_no 0) (a_fo 0) (a_rd 0) (a_pa 0) sv_th th_0 ++ wRules k a_ru ru_0 ++ wCourt k a_no no_0) (c_X6_get n l k (fun j => a_no (3 + j)) (5 : Int32) 40 (no_0.2.1 11) v1_0 (4 : Int32) r_11 hg) E vl_X8_171 dX8_process_168 rfl [7, 8] 7 7 hW hA hl rfl rfl rfl rfl ⟨by decide, by decide⟩ ⟨by decide, by decide⟩ (Nat.le_of_ble_eq_true rfl) rfl (fun _ => rfl) (fun _ => rfl) (fun r u H locs hp hW => ?_)
    cases hp
    have hW : WD k A s.heap (wMCo k a_th (a_in 0) (a_ou 0) (a_ru 0) (a_no 0) (a_fo 0) (a_rd 0) (a_pa 0) sv_th th_0 ++ wRules k a_ru ru_0 ++ wCourt k a_no no_0) H locs := hW
    exact hret _ () _ _ _ _ _ _ hW (Option.some.inj hf).symm rfl (by decide) (by decide) dX8_process_171
def f_X8_loan (n : Nat) (sv_th : Value) (th_0 : OS) (no_0 : OS) (v1_0 : Int32) (v2_0 : Int32) : Option (Int32 × Nat) :=
  bnd (f_X8_needLoan n sv_th th_0 no_0 v1_0) (fun (cd_1 : Nat) =>
  if cd_1 = 0 then (
  if v2_0 < 0 then (
  some ((0 : Int32), 1)) else (
  if v2_0 ≤ (7 : Int32) then (
  if v2_0 = (5 : Int32) then (
  bnd (f_X2_isBroken n no_0 v1_0) (fun (r_3 : Int32) =>
  if r_3 = 0 then (
  some ((0 : Int32), 0)) else (
  some ((1 : Int32), 0)))) else (
  bnd (f_X6_get n (8 : Int32) 640 (no_0.2.1 12) v1_0 v2_0) (fun (r_2 : Int32) =>
  some (r_2, 0)))) else (
  some ((0 : Int32), 1)))) else (
  some ((0 : Int32), cd_1)))
set_option maxHeartbeats 4000000 in
set_option maxRecDepth 100000 in
theorem c_X8_loan (n : Nat) (l : Launch) (k : KT) (a_th : Nat → Nat) (a_in : Nat → Nat) (a_ou : Nat → Nat) (a_ru : Nat → Nat) (a_no : Nat → Nat) (a_fo : Nat → Nat) (a_rd : Nat → Nat) (a_pa : Nat → Nat) (sv_th : Value) (th_0 : OS) (no_0 : OS) (v1_0 : Int32) (v2_0 : Int32) (res : (Int32 × Nat)) (hf : f_X8_loan n sv_th th_0 no_0 v1_0 v2_0 = some res) (h0 : res.2 = 0) : CG l k yX8_loan cX8_loan 3 (some .int) 2 0 0 44 [.ref (a_th 0), .int v1_0, .int v2_0] (wMCo k a_th (a_in 0) (a_ou 0) (a_ru 0) (a_no 0) (a_fo 0) (a_rd 0) (a_pa 0) sv_th th_0 ++ wCourt k a_no no_0) (Qi k (fun u : Unit => wMCo k a_th (a_in 0) (a_ou 0) (a_ru 0) (a_no 0) (a_fo 0) (a_rd 0) (a_pa 0) sv_th th_0 ++ wCourt k a_no no_0) (fun (r : Int32) (u : Unit) => res = (r, 0))) := by
  refine CG.ofI (by decide) (Nat.le_of_ble_eq_true rfl) (fun p e s m args below meth c A Q E hnm hW hA hret ls hl => ?_)
  have hl : lv_has ls 3 [(0, .ref (a_th 0)), (1, .int v1_0), (2, .int v2_0)] := hl
  unfold f_X8_loan at hf
  refine k_aload_n E hl 0 dX8_loan_0 rfl ?_
  refine k_iload_n E hl 1 dX8_loan_1 rfl ?_
  obtain ⟨cd_1, hg, hf⟩ := ob hf
  by_cases hcd : cd_1 = 0
  rotate_left
  · have hf := oF hcd hf
    cases hf; exact absurd h0 hcd
  replace hf := oT hcd hf
  refine k_callVv (As := [.int v1_0]) (rest := []) (ws2 := fun u => wMCo k a_th (a_in 0) (a_ou 0) (a_ru 0) (a_no 0) (a_fo 0) (a_rd 0) (a_pa 0) sv_th th_0 ++ wCourt k a_no no_0) (c_X8_needLoan n l k a_th a_in a_ou a_ru a_no a_fo a_rd a_pa sv_th th_0 no_0 v1_0 cd_1 hg hcd) E vl_X8_186 dX8_loan_2 rfl [0, 1, 2, 3, 4, 5, 6, 7, 8, 9, 10, 11, 12] 8 0 hW hA hl rfl rfl rfl rfl ⟨by decide, by decide⟩ ⟨by decide, by decide⟩ (Nat.le_of_ble_eq_true rfl) rfl (fun _ => rfl) (fun _ => rfl) (fun u H locs hp hW => ?_)
  cases hp
  have hW : WD k A s.heap (wMCo k a_th (a_in 0) (a_ou 0) (a_ru 0) (a_no 0) (a_fo 0) (a_rd 0) (a_pa 0) sv_th th_0 ++ wCourt k a_no no_0) H locs := hW
  refine k_iload_n E hl 2 dX8_loan_5 rfl ?_
  refine lv_if_lt (tgt := 15) E.hx E.hb dX8_loan_6 (by decide) (fun hc => ?_) (fun hc => ?_)
  · have hf := oT hc hf
    cases hf
    exact absurd h0 (show ¬ (1 : Nat) = 0 from by decide)
  · have hf := oF hc hf
    refine k_iload_n E hl 2 dX8_loan_9 rfl ?_
    refine lv_bipush (v := (7 : Int32)) E.hx E.hb dX8_loan_10 bp_7 ?_
    refine lv_icmp_le (tgt := 25) E.hx E.hb dX8_loan_12 (by decide) (fun hc => ?_) (fun hc => ?_)
    · have hf := oT hc hf
      refine k_iload_n E hl 2 dX8_loan_25 rfl ?_
      refine lv_iconst (v := (5 : Int32)) E.hx E.hb dX8_loan_26 ic_5 ?_
      refine lv_icmp_ne (tgt := 47) E.hx E.hb dX8_loan_27 (by decide) (fun hc => ?_) (fun hc => ?_)
      · have hf := oF hc hf
        refine k_aload_n E hl 0 dX8_loan_47 rfl ?_
        refine gf_X8_31 E hW 0 rfl rfl dX8_loan_48 ?_
        refine gf_X8_195 E hW 1 rfl rfl dX8_loan_51 ?_
        refine k_iload_n E hl 1 dX8_loan_54 rfl ?_
        refine k_iload_n E hl 2 dX8_loan_55 rfl ?_
        obtain ⟨r_2, hg, hf⟩ := ob hf
        refine k_callVi (As := [.int v1_0, .int v2_0]) (rest := []) (ws2 := fun u => wMCo k a_th (a_in 0) (a_ou 0) (a_ru 0) (a_no 0) (a_fo 0) (a_rd 0) (a_pa 0) sv_th th_0 ++ wCourt k a_no no_0) (c_X6_get n l k (fun j => a_no (5 + j)) (8 : Int32) 640 (no_0.2.1 12) v1_0 v2_0 r_2 hg) E vl_X8_171 dX8_loan_56 rfl [6, 7] 7 6 hW hA hl rfl rfl rfl rfl ⟨by decide, by decide⟩ ⟨by decide, by decide⟩ (Nat.le_of_ble_eq_true rfl) rfl (fun _ => rfl) (fun _ => rfl) (fun r u H locs hp hW => ?_)
        cases hp
        have hW : WD k A s.heap (wMCo k a_th (a_in 0) (a_ou 0) (a_ru 0) (a_no 0) (a_fo 0) (a_rd 0) (a_pa 0) sv_th th_0 ++ wCourt k a_no no_0) H locs := hW
        exact hret _ () _ _ _ _ _ _ hW (Option.some.inj hf).symm rfl (by decide) (by decide) dX8_loan_59
      · have hf := oT hc hf
        refine k_aload_n E hl 0 dX8_loan_30 rfl ?_
        refine gf_X8_31 E hW 0 rfl rfl dX8_loan_31 ?_
        refine k_iload_n E hl 1 dX8_loan_34 rfl ?_
        obtain ⟨r_3, hg, hf⟩ := ob hf
        refine k_callVi (As := [.int v1_0]) (rest := []) (ws2 := fun u => wMCo k a_th (a_in 0) (a_ou 0) (a_ru 0) (a_no 0) (a_fo 0) (a_rd 0) (a_pa 0) sv_th th_0 ++ wCourt k a_no no_0) (c_X2_isBroken n l k a_no no_0 v1_0 r_3 hg) E vl_X8_191 dX8_loan_35 rfl [1, 2, 3, 4, 5, 6, 7, 8, 9, 10, 11, 12] 3 1 hW hA hl rfl rfl rfl rfl ⟨by decide, by decide⟩ ⟨by decide, by decide⟩ (Nat.le_of_ble_eq_true rfl) rfl (fun _ => rfl) (fun _ => rfl) (fun r u H locs hp hW => ?_)
        cases hp
        have hW : WD k A s.heap (wMCo k a_th (a_in 0) (a_ou 0) (a_ru 0) (a_no 0) (a_fo 0) (a_rd 0) (a_pa 0) sv_th th_0 ++ wCourt k a_no no_0) H locs := hW
        refine lv_if_eq (tgt := 45) E.hx E.hb dX8_loan_38 (by decide) (fun hc => ?_) (fun hc => ?_)
        · have hf := oT hc hf
          refine lv_iconst (v := (0 : Int32)) E.hx E.hb dX8_loan_45 ic_0 ?_
          exact hret _ () _ _ _ _ _ _ hW (Option.some.inj hf).symm rfl (by decide) (by decide) dX8_loan_46
        · have hf := oF hc hf
          refine lv_iconst (v := (1 : Int32)) E.hx E.hb dX8_loan_41 ic_1 ?_
          refine lv_goto (tgt := 46) E.hx E.hb dX8_loan_42 (by decide) ?_
          exact hret _ () _ _ _ _ _ _ hW (Option.some.inj hf).symm rfl (by decide) (by decide) dX8_loan_46
    · have hf := oF hc hf
      cases hf
      exact absurd h0 (show ¬ (1 : Nat) = 0 from by decide)
def f_X8_page (n : Nat) (sv_th : Value) (th_0 : OS) (ru_0 : OS) (no_0 : OS) (v1_0 : Int32) : Option (Int32 × Nat) :=
  if v1_0 < 0 then (
  some ((0 : Int32), 1)) else (
  if v1_0 < (ru_0.1 0) then (
  bnd (f_X2_loanOf n no_0 v1_0) (fun (r_1 : Int32) =>
  some (r_1, 0))) else (
  some ((0 : Int32), 1)))
set_option maxHeartbeats 4000000 in
set_option maxRecDepth 100000 in
theorem c_X8_page (n : Nat) (l : Launch) (k : KT) (a_th : Nat → Nat) (a_in : Nat → Nat) (a_ou : Nat → Nat) (a_ru : Nat → Nat) (a_no : Nat → Nat) (a_fo : Nat → Nat) (a_rd : Nat → Nat) (a_pa : Nat → Nat) (sv_th : Value) (th_0 : OS) (ru_0 : OS) (no_0 : OS) (v1_0 : Int32) (res : (Int32 × Nat)) (hf : f_X8_page n sv_th th_0 ru_0 no_0 v1_0 = some res) (h0 : res.2 = 0) : CG l k yX8_page cX8_page 2 (some .int) 1 0 0 21 [.ref (a_th 0), .int v1_0] (wMCo k a_th (a_in 0) (a_ou 0) (a_ru 0) (a_no 0) (a_fo 0) (a_rd 0) (a_pa 0) sv_th th_0 ++ wRules k a_ru ru_0 ++ wCourt k a_no no_0) (Qi k (fun u : Unit => wMCo k a_th (a_in 0) (a_ou 0) (a_ru 0) (a_no 0) (a_fo 0) (a_rd 0) (a_pa 0) sv_th th_0 ++ wRules k a_ru ru_0 ++ wCourt k a_no no_0) (fun (r : Int32) (u : Unit) => res = (r, 0))) := by
  refine CG.ofI (by decide) (Nat.le_of_ble_eq_true rfl) (fun p e s m args below meth c A Q E hnm hW hA hret ls hl => ?_)
  have hl : lv_has ls 2 [(0, .ref (a_th 0)), (1, .int v1_0)] := hl
  unfold f_X8_page at hf
  refine k_iload_n E hl 1 dX8_page_0 rfl ?_
  refine lv_if_lt (tgt := 15) E.hx E.hb dX8_page_1 (by decide) (fun hc => ?_) (fun hc => ?_)
  · have hf := oT hc hf
    cases hf
    exact absurd h0 (show ¬ (1 : Nat) = 0 from by decide)
  · have hf := oF hc hf
    refine k_iload_n E hl 1 dX8_page_4 rfl ?_
    refine k_aload_n E hl 0 dX8_page_5 rfl ?_
    refine gf_X8_24 E hW 0 rfl rfl dX8_page_6 ?_
    refine gf_X8_105 E hW 1 rfl rfl dX8_page_9 ?_
    refine lv_icmp_lt (tgt := 25) E.hx E.hb dX8_page_12 (by decide) (fun hc => ?_) (fun hc => ?_)
    · have hf := oT hc hf
      refine k_aload_n E hl 0 dX8_page_25 rfl ?_
      refine gf_X8_31 E hW 0 rfl rfl dX8_page_26 ?_
      refine k_iload_n E hl 1 dX8_page_29 rfl ?_
      obtain ⟨r_1, hg, hf⟩ := ob hf
      refine k_callVi (As := [.int v1_0]) (rest := []) (ws2 := fun u => wMCo k a_th (a_in 0) (a_ou 0) (a_ru 0) (a_no 0) (a_fo 0) (a_rd 0) (a_pa 0) sv_th th_0 ++ wRules k a_ru ru_0 ++ wCourt k a_no no_0) (c_X2_loanOf n l k a_no no_0 v1_0 r_1 hg) E vl_X8_200 dX8_page_30 rfl [4, 5, 6, 7, 8, 9, 10, 11, 12, 13, 14, 15] 3 4 hW hA hl rfl rfl rfl rfl ⟨by decide, by decide⟩ ⟨by decide, by decide⟩ (Nat.le_of_ble_eq_true rfl) rfl (fun _ => rfl) (fun _ => rfl) (fun r u H locs hp hW => ?_)
      cases hp
      have hW : WD k A s.heap (wMCo k a_th (a_in 0) (a_ou 0) (a_ru 0) (a_no 0) (a_fo 0) (a_rd 0) (a_pa 0) sv_th th_0 ++ wRules k a_ru ru_0 ++ wCourt k a_no no_0) H locs := hW
      exact hret _ () _ _ _ _ _ _ hW (Option.some.inj hf).symm rfl (by decide) (by decide) dX8_page_33
    · have hf := oF hc hf
      cases hf
      exact absurd h0 (show ¬ (1 : Nat) = 0 from by decide)
def f_X8_pageOf (n : Nat) (sv_th : Value) (th_0 : OS) (no_0 : OS) (v1_0 : Int32) (v2_0 : Int32) : Option (Int32 × Nat) :=
  bnd (f_X8_needLoan n sv_th th_0 no_0 v1_0) (fun (cd_1 : Nat) =>
  if cd_1 = 0 then (
  bnd (f_X2_pageAt n no_0 v1_0 v2_0) (fun (r_2 : Int32) =>
  if r_2 = (-1 : Int32) then (
  some ((0 : Int32), 4)) else (
  some (r_2, 0)))) else (
  some ((0 : Int32), cd_1)))
set_option maxHeartbeats 4000000 in
set_option maxRecDepth 100000 in
theorem c_X8_pageOf (n : Nat) (l : Launch) (k : KT) (a_th : Nat → Nat) (a_in : Nat → Nat) (a_ou : Nat → Nat) (a_ru : Nat → Nat) (a_no : Nat → Nat) (a_fo : Nat → Nat) (a_rd : Nat → Nat) (a_pa : Nat → Nat) (sv_th : Value) (th_0 : OS) (no_0 : OS) (v1_0 : Int32) (v2_0 : Int32) (res : (Int32 × Nat)) (hf : f_X8_pageOf n sv_th th_0 no_0 v1_0 v2_0 = some res) (h0 : res.2 = 0) : CG l k yX8_pageOf cX8_pageOf 4 (some .int) 1 0 0 24 [.ref (a_th 0), .int v1_0, .int v2_0] (wMCo k a_th (a_in 0) (a_ou 0) (a_ru 0) (a_no 0) (a_fo 0) (a_rd 0) (a_pa 0) sv_th th_0 ++ wCourt k a_no no_0) (Qi k (fun u : Unit => wMCo k a_th (a_in 0) (a_ou 0) (a_ru 0) (a_no 0) (a_fo 0) (a_rd 0) (a_pa 0) sv_th th_0 ++ wCourt k a_no no_0) (fun (r : Int32) (u : Unit) => res = (r, 0))) := by
  refine CG.ofI (by decide) (Nat.le_of_ble_eq_true rfl) (fun p e s m args below meth c A Q E hnm hW hA hret ls hl => ?_)
  have hl : lv_has ls 4 [(0, .ref (a_th 0)), (1, .int v1_0), (2, .int v2_0)] := hl
  unfold f_X8_pageOf at hf
  refine k_aload_n E hl 0 dX8_pageOf_0 rfl ?_
  refine k_iload_n E hl 1 dX8_pageOf_1 rfl ?_
  obtain ⟨cd_1, hg, hf⟩ := ob hf
  by_cases hcd : cd_1 = 0
  rotate_left
  · have hf := oF hcd hf
    cases hf; exact absurd h0 hcd
  replace hf := oT hcd hf
  refine k_callVv (As := [.int v1_0]) (rest := []) (ws2 := fun u => wMCo k a_th (a_in 0) (a_ou 0) (a_ru 0) (a_no 0) (a_fo 0) (a_rd 0) (a_pa 0) sv_th th_0 ++ wCourt k a_no no_0) (c_X8_needLoan n l k a_th a_in a_ou a_ru a_no a_fo a_rd a_pa sv_th th_0 no_0 v1_0 cd_1 hg hcd) E vl_X8_186 dX8_pageOf_2 rfl [0, 1, 2, 3, 4, 5, 6, 7, 8, 9, 10, 11, 12] 8 0 hW hA hl rfl rfl rfl rfl ⟨by decide, by decide⟩ ⟨by decide, by decide⟩ (Nat.le_of_ble_eq_true rfl) rfl (fun _ => rfl) (fun _ => rfl) (fun u H locs hp hW => ?_)
  cases hp
  have hW : WD k A s.heap (wMCo k a_th (a_in 0) (a_ou 0) (a_ru 0) (a_no 0) (a_fo 0) (a_rd 0) (a_pa 0) sv_th th_0 ++ wCourt k a_no no_0) H locs := hW
  refine k_aload_n E hl 0 dX8_pageOf_5 rfl ?_
  refine gf_X8_31 E hW 0 rfl rfl dX8_pageOf_6 ?_
  refine k_iload_n E hl 1 dX8_pageOf_9 rfl ?_
  refine k_iload_n E hl 2 dX8_pageOf_10 rfl ?_
  obtain ⟨r_2, hg, hf⟩ := ob hf
  refine k_callVi (As := [.int v1_0, .int v2_0]) (rest := []) (ws2 := fun u => wMCo k a_th (a_in 0) (a_ou 0) (a_ru 0) (a_no 0) (a_fo 0) (a_rd 0) (a_pa 0) sv_th th_0 ++ wCourt k a_no no_0) (c_X2_pageAt n l k a_no no_0 v1_0 v2_0 r_2 hg) E vl_X8_203 dX8_pageOf_11 rfl [1, 2, 3, 4, 5, 6, 7, 8, 9, 10, 11, 12] 3 1 hW hA hl rfl rfl rfl rfl ⟨by decide, by decide⟩ ⟨by decide, by decide⟩ (Nat.le_of_ble_eq_true rfl) rfl (fun _ => rfl) (fun _ => rfl) (fun r u H locs hp hW => ?_)
  cases hp
  have hW : WD k A s.heap (wMCo k a_th (a_in 0) (a_ou 0) (a_ru 0) (a_no 0) (a_fo 0) (a_rd 0) (a_pa 0) sv_th th_0 ++ wCourt k a_no no_0) H locs := hW
  refine k_istore_n (lv' := [(3, .int r_2), (0, .ref (a_th 0)), (1, .int v1_0), (2, .int v2_0)]) E rfl hl dX8_pageOf_14 rfl (by decide) rfl (fun ls hl => ?_)
  refine k_iload_n E hl 0 dX8_pageOf_15 rfl ?_
  refine lv_iconst (v := (-1 : Int32)) E.hx E.hb dX8_pageOf_16 ic_m1 ?_
  refine lv_icmp_ne (tgt := 30) E.hx E.hb dX8_pageOf_17 (by decide) (fun hc => ?_) (fun hc => ?_)
  · have hf := oF hc hf
    refine k_iload_n E hl 0 dX8_pageOf_30 rfl ?_
    exact hret _ () _ _ _ _ _ _ hW (Option.some.inj hf).symm rfl (by decide) (by decide) dX8_pageOf_31
  · have hf := oT hc hf
    cases hf
    exact absurd h0 (show ¬ (4 : Nat) = 0 from by decide)
def f_X8_pieces (n : Nat) (sv_th : Value) (th_0 : OS) (no_0 : OS) (v1_0 : Int32) : Option (Int32 × Nat) :=
  bnd (f_X8_needLoan n sv_th th_0 no_0 v1_0) (fun (cd_1 : Nat) =>
  if cd_1 = 0 then (
  bnd (f_X2_rowsOf n no_0 v1_0) (fun (r_2 : Int32) =>
  some (r_2, 0))) else (
  some ((0 : Int32), cd_1)))
set_option maxHeartbeats 4000000 in
set_option maxRecDepth 100000 in
theorem c_X8_pieces (n : Nat) (l : Launch) (k : KT) (a_th : Nat → Nat) (a_in : Nat → Nat) (a_ou : Nat → Nat) (a_ru : Nat → Nat) (a_no : Nat → Nat) (a_fo : Nat → Nat) (a_rd : Nat → Nat) (a_pa : Nat → Nat) (sv_th : Value) (th_0 : OS) (no_0 : OS) (v1_0 : Int32) (res : (Int32 × Nat)) (hf : f_X8_pieces n sv_th th_0 no_0 v1_0 = some res) (h0 : res.2 = 0) : CG l k yX8_pieces cX8_pieces 2 (some .int) 1 0 0 27 [.ref (a_th 0), .int v1_0] (wMCo k a_th (a_in 0) (a_ou 0) (a_ru 0) (a_no 0) (a_fo 0) (a_rd 0) (a_pa 0) sv_th th_0 ++ wCourt k a_no no_0) (Qi k (fun u : Unit => wMCo k a_th (a_in 0) (a_ou 0) (a_ru 0) (a_no 0) (a_fo 0) (a_rd 0) (a_pa 0) sv_th th_0 ++ wCourt k a_no no_0) (fun (r : Int32) (u : Unit) => res = (r, 0))) := by
  refine CG.ofI (by decide) (Nat.le_of_ble_eq_true rfl) (fun p e s m args below meth c A Q E hnm hW hA hret ls hl => ?_)
  have hl : lv_has ls 2 [(0, .ref (a_th 0)), (1, .int v1_0)] := hl
  unfold f_X8_pieces at hf
  refine k_aload_n E hl 0 dX8_pieces_0 rfl ?_
  refine k_iload_n E hl 1 dX8_pieces_1 rfl ?_
  obtain ⟨cd_1, hg, hf⟩ := ob hf
  by_cases hcd : cd_1 = 0
  rotate_left
  · have hf := oF hcd hf
    cases hf; exact absurd h0 hcd
  replace hf := oT hcd hf
  refine k_callVv (As := [.int v1_0]) (rest := []) (ws2 := fun u => wMCo k a_th (a_in 0) (a_ou 0) (a_ru 0) (a_no 0) (a_fo 0) (a_rd 0) (a_pa 0) sv_th th_0 ++ wCourt k a_no no_0) (c_X8_needLoan n l k a_th a_in a_ou a_ru a_no a_fo a_rd a_pa sv_th th_0 no_0 v1_0 cd_1 hg hcd) E vl_X8_186 dX8_pieces_2 rfl [0, 1, 2, 3, 4, 5, 6, 7, 8, 9, 10, 11, 12] 8 0 hW hA hl rfl rfl rfl rfl ⟨by decide, by decide⟩ ⟨by decide, by decide⟩ (Nat.le_of_ble_eq_true rfl) rfl (fun _ => rfl) (fun _ => rfl) (fun u H locs hp hW => ?_)
  cases hp
  have hW : WD k A s.heap (wMCo k a_th (a_in 0) (a_ou 0) (a_ru 0) (a_no 0) (a_fo 0) (a_rd 0) (a_pa 0) sv_th th_0 ++ wCourt k a_no no_0) H locs := hW
  refine k_aload_n E hl 0 dX8_pieces_5 rfl ?_
  refine gf_X8_31 E hW 0 rfl rfl dX8_pieces_6 ?_
  refine k_iload_n E hl 1 dX8_pieces_9 rfl ?_
  obtain ⟨r_2, hg, hf⟩ := ob hf
  refine k_callVi (As := [.int v1_0]) (rest := []) (ws2 := fun u => wMCo k a_th (a_in 0) (a_ou 0) (a_ru 0) (a_no 0) (a_fo 0) (a_rd 0) (a_pa 0) sv_th th_0 ++ wCourt k a_no no_0) (c_X2_rowsOf n l k a_no no_0 v1_0 r_2 hg) E vl_X8_211 dX8_pieces_10 rfl [1, 2, 3, 4, 5, 6, 7, 8, 9, 10, 11, 12] 3 1 hW hA hl rfl rfl rfl rfl ⟨by decide, by decide⟩ ⟨by decide, by decide⟩ (Nat.le_of_ble_eq_true rfl) rfl (fun _ => rfl) (fun _ => rfl) (fun r u H locs hp hW => ?_)
  cases hp
  have hW : WD k A s.heap (wMCo k a_th (a_in 0) (a_ou 0) (a_ru 0) (a_no 0) (a_fo 0) (a_rd 0) (a_pa 0) sv_th th_0 ++ wCourt k a_no no_0) H locs := hW
  exact hret _ () _ _ _ _ _ _ hW (Option.some.inj hf).symm rfl (by decide) (by decide) dX8_pieces_13
def f_X8_claim (n : Nat) (sv_th : Value) (th_0 : OS) (no_0 : OS) (v1_0 : Int32) (v2_0 : Int32) : Option (Int32 × Nat) :=
  bnd (f_X8_needClaim n sv_th th_0 no_0 v1_0) (fun (cd_1 : Nat) =>
  if cd_1 = 0 then (
  if v2_0 < 0 then (
  some ((0 : Int32), 1)) else (
  if v2_0 ≤ (6 : Int32) then (
  bnd (f_X6_get n (7 : Int32) 420 (no_0.2.1 13) v1_0 v2_0) (fun (r_2 : Int32) =>
  some (r_2, 0))) else (
  some ((0 : Int32), 1)))) else (
  some ((0 : Int32), cd_1)))
set_option maxHeartbeats 4000000 in
set_option maxRecDepth 100000 in
theorem c_X8_claim (n : Nat) (l : Launch) (k : KT) (a_th : Nat → Nat) (a_in : Nat → Nat) (a_ou : Nat → Nat) (a_ru : Nat → Nat) (a_no : Nat → Nat) (a_fo : Nat → Nat) (a_rd : Nat → Nat) (a_pa : Nat → Nat) (sv_th : Value) (th_0 : OS) (no_0 : OS) (v1_0 : Int32) (v2_0 : Int32) (res : (Int32 × Nat)) (hf : f_X8_claim n sv_th th_0 no_0 v1_0 v2_0 = some res) (h0 : res.2 = 0) : CG l k yX8_claim cX8_claim 3 (some .int) 1 0 0 23 [.ref (a_th 0), .int v1_0, .int v2_0] (wMCo k a_th (a_in 0) (a_ou 0) (a_ru 0) (a_no 0) (a_fo 0) (a_rd 0) (a_pa 0) sv_th th_0 ++ wCourt k a_no no_0) (Qi k (fun u : Unit => wMCo k a_th (a_in 0) (a_ou 0) (a_ru 0) (a_no 0) (a_fo 0) (a_rd 0) (a_pa 0) sv_th th_0 ++ wCourt k a_no no_0) (fun (r : Int32) (u : Unit) => res = (r, 0))) := by
  refine CG.ofI (by decide) (Nat.le_of_ble_eq_true rfl) (fun p e s m args below meth c A Q E hnm hW hA hret ls hl => ?_)
  have hl : lv_has ls 3 [(0, .ref (a_th 0)), (1, .int v1_0), (2, .int v2_0)] := hl
  unfold f_X8_claim at hf
  refine k_aload_n E hl 0 dX8_claim_0 rfl ?_
  refine k_iload_n E hl 1 dX8_claim_1 rfl ?_
  obtain ⟨cd_1, hg, hf⟩ := ob hf
  by_cases hcd : cd_1 = 0
  rotate_left
  · have hf := oF hcd hf
    cases hf; exact absurd h0 hcd
  replace hf := oT hcd hf
  refine k_callVv (As := [.int v1_0]) (rest := []) (ws2 := fun u => wMCo k a_th (a_in 0) (a_ou 0) (a_ru 0) (a_no 0) (a_fo 0) (a_rd 0) (a_pa 0) sv_th th_0 ++ wCourt k a_no no_0) (c_X8_needClaim n l k a_th a_in a_ou a_ru a_no a_fo a_rd a_pa sv_th th_0 no_0 v1_0 cd_1 hg hcd) E vl_X8_217 dX8_claim_2 rfl [0, 1, 2, 3, 4, 5, 6, 7, 8, 9, 10, 11, 12] 8 0 hW hA hl rfl rfl rfl rfl ⟨by decide, by decide⟩ ⟨by decide, by decide⟩ (Nat.le_of_ble_eq_true rfl) rfl (fun _ => rfl) (fun _ => rfl) (fun u H locs hp hW => ?_)
  cases hp
  have hW : WD k A s.heap (wMCo k a_th (a_in 0) (a_ou 0) (a_ru 0) (a_no 0) (a_fo 0) (a_rd 0) (a_pa 0) sv_th th_0 ++ wCourt k a_no no_0) H locs := hW
  refine k_iload_n E hl 2 dX8_claim_5 rfl ?_
  refine lv_if_lt (tgt := 15) E.hx E.hb dX8_claim_6 (by decide) (fun hc => ?_) (fun hc => ?_)
  · have hf := oT hc hf
    cases hf
    exact absurd h0 (show ¬ (1 : Nat) = 0 from by decide)
  · have hf := oF hc hf
    refine k_iload_n E hl 2 dX8_claim_9 rfl ?_
    refine lv_bipush (v := (6 : Int32)) E.hx E.hb dX8_claim_10 bp_6 ?_
    refine lv_icmp_le (tgt := 25) E.hx E.hb dX8_claim_12 (by decide) (fun hc => ?_) (fun hc => ?_)
    · have hf := oT hc hf
      refine k_aload_n E hl 0 dX8_claim_25 rfl ?_
      refine gf_X8_31 E hW 0 rfl rfl dX8_claim_26 ?_
      refine gf_X8_222 E hW 1 rfl rfl dX8_claim_29 ?_
      refine k_iload_n E hl 1 dX8_claim_32 rfl ?_
      refine k_iload_n E hl 2 dX8_claim_33 rfl ?_
      obtain ⟨r_2, hg, hf⟩ := ob hf
      refine k_callVi (As := [.int v1_0, .int v2_0]) (rest := []) (ws2 := fun u => wMCo k a_th (a_in 0) (a_ou 0) (a_ru 0) (a_no 0) (a_fo 0) (a_rd 0) (a_pa 0) sv_th th_0 ++ wCourt k a_no no_0) (c_X6_get n l k (fun j => a_no (7 + j)) (7 : Int32) 420 (no_0.2.1 13) v1_0 v2_0 r_2 hg) E vl_X8_171 dX8_claim_34 rfl [8, 9] 7 8 hW hA hl rfl rfl rfl rfl ⟨by decide, by decide⟩ ⟨by decide, by decide⟩ (Nat.le_of_ble_eq_true rfl) rfl (fun _ => rfl) (fun _ => rfl) (fun r u H locs hp hW => ?_)
      cases hp
      have hW : WD k A s.heap (wMCo k a_th (a_in 0) (a_ou 0) (a_ru 0) (a_no 0) (a_fo 0) (a_rd 0) (a_pa 0) sv_th th_0 ++ wCourt k a_no no_0) H locs := hW
      exact hret _ () _ _ _ _ _ _ hW (Option.some.inj hf).symm rfl (by decide) (by decide) dX8_claim_37
    · have hf := oF hc hf
      cases hf
      exact absurd h0 (show ¬ (1 : Nat) = 0 from by decide)
def f_X8_waiting (n : Nat) (sv_th : Value) (th_0 : OS) (no_0 : OS) (v1_0 : Int32) : Option (OS × Int32 × Nat) :=
  bnd2 (f_X2_lineUp n no_0) (fun (no_1 : OS) (r_2 : Int32) =>
  if v1_0 < 0 then (
  some (no_1, (0 : Int32), 4)) else (
  if v1_0 < r_2 then (
  bnd (f_X2_inLine n no_1 v1_0) (fun (r_3 : Int32) =>
  some (no_1, r_3, 0))) else (
  some (no_1, (0 : Int32), 4))))
set_option maxHeartbeats 4000000 in
set_option maxRecDepth 100000 in
theorem c_X8_waiting (n : Nat) (l : Launch) (k : KT) (a_th : Nat → Nat) (a_in : Nat → Nat) (a_ou : Nat → Nat) (a_ru : Nat → Nat) (a_no : Nat → Nat) (a_fo : Nat → Nat) (a_rd : Nat → Nat) (a_pa : Nat → Nat) (sv_th : Value) (th_0 : OS) (no_0 : OS) (v1_0 : Int32) (res : (OS × Int32 × Nat)) (hf : f_X8_waiting n sv_th th_0 no_0 v1_0 = some res) (h0 : res.2.2 = 0) : CG l k yX8_waiting cX8_waiting 3 (some .int) 3 0 0 68 [.ref (a_th 0), .int v1_0] (wMCo k a_th (a_in 0) (a_ou 0) (a_ru 0) (a_no 0) (a_fo 0) (a_rd 0) (a_pa 0) sv_th th_0 ++ wCourt k a_no no_0) (Qi k (fun u : OS => wMCo k a_th (a_in 0) (a_ou 0) (a_ru 0) (a_no 0) (a_fo 0) (a_rd 0) (a_pa 0) sv_th th_0 ++ wCourt k a_no u) (fun (r : Int32) (u : OS) => res = (u, r, 0))) := by
  refine CG.ofI (by decide) (Nat.le_of_ble_eq_true rfl) (fun p e s m args below meth c A Q E hnm hW hA hret ls hl => ?_)
  have hl : lv_has ls 3 [(0, .ref (a_th 0)), (1, .int v1_0)] := hl
  unfold f_X8_waiting at hf
  refine k_aload_n E hl 0 dX8_waiting_0 rfl ?_
  refine gf_X8_31 E hW 0 rfl rfl dX8_waiting_1 ?_
  obtain ⟨no_1, r_2, hg, hf⟩ := ob2 hf
  refine k_callVi (As := []) (rest := []) (ws2 := fun u => wMCo k a_th (a_in 0) (a_ou 0) (a_ru 0) (a_no 0) (a_fo 0) (a_rd 0) (a_pa 0) sv_th th_0 ++ wCourt k a_no (u)) (c_X2_lineUp n l k a_no no_0 (no_1, r_2) hg) E vl_X8_225 dX8_waiting_4 rfl [1, 2, 3, 4, 5, 6, 7, 8, 9, 10, 11, 12] 3 1 hW hA hl rfl rfl rfl rfl ⟨by decide, by decide⟩ ⟨by decide, by decide⟩ (Nat.le_of_ble_eq_true rfl) rfl (fun _ => rfl) (fun _ => rfl) (fun r u H locs hp hW => ?_)
  cases hp
  have hW : WD k A s.heap (wMCo k a_th (a_in 0) (a_ou 0) (a_ru 0) (a_no 0) (a_fo 0) (a_rd 0) (a_pa 0) sv_th th_0 ++ wCourt k a_no no_1) H locs := hW
  refine k_istore_n (lv' := [(2, .int r_2), (0, .ref (a_th 0)), (1, .int v1_0)]) E rfl hl dX8_waiting_7 rfl (by decide) rfl (fun ls hl => ?_)
  refine k_iload_n E hl 2 dX8_waiting_8 rfl ?_
  refine lv_if_lt (tgt := 17) E.hx E.hb dX8_waiting_9 (by decide) (fun hc => ?_) (fun hc => ?_)
  · have hf := oT hc hf
    cases hf
    exact absurd h0 (show ¬ (4 : Nat) = 0 from by decide)
  · have hf := oF hc hf
    refine k_iload_n E hl 2 dX8_waiting_12 rfl ?_
    refine k_iload_n E hl 0 dX8_waiting_13 rfl ?_
    refine lv_icmp_lt (tgt := 27) E.hx E.hb dX8_waiting_14 (by decide) (fun hc => ?_) (fun hc => ?_)
    · have hf := oT hc hf
      refine k_aload_n E hl 1 dX8_waiting_27 rfl ?_
      refine gf_X8_31 E hW 0 rfl rfl dX8_waiting_28 ?_
      refine k_iload_n E hl 2 dX8_waiting_31 rfl ?_
      obtain ⟨r_3, hg, hf⟩ := ob hf
      refine k_callVi (As := [.int v1_0]) (rest := []) (ws2 := fun u => wMCo k a_th (a_in 0) (a_ou 0) (a_ru 0) (a_no 0) (a_fo 0) (a_rd 0) (a_pa 0) sv_th th_0 ++ wCourt k a_no no_1) (c_X2_inLine n l k a_no no_1 v1_0 r_3 hg) E vl_X8_231 dX8_waiting_32 rfl [1, 2, 3, 4, 5, 6, 7, 8, 9, 10, 11, 12] 3 1 hW hA hl rfl rfl rfl rfl ⟨by decide, by decide⟩ ⟨by decide, by decide⟩ (Nat.le_of_ble_eq_true rfl) rfl (fun _ => rfl) (fun _ => rfl) (fun r u H locs hp hW => ?_)
      cases hp
      have hW : WD k A s.heap (wMCo k a_th (a_in 0) (a_ou 0) (a_ru 0) (a_no 0) (a_fo 0) (a_rd 0) (a_pa 0) sv_th th_0 ++ wCourt k a_no no_1) H locs := hW
      exact hret _ no_1 _ _ _ _ _ _ hW (Option.some.inj hf).symm rfl (by decide) (by decide) dX8_waiting_35
    · have hf := oF hc hf
      cases hf
      exact absurd h0 (show ¬ (4 : Nat) = 0 from by decide)
def f_X8_overdue (n : Nat) (sv_th : Value) (th_0 : OS) (no_0 : OS) : Option (Int32) :=
  bnd (f_X2_brokenPages n no_0) (fun (r_1 : Int32) =>
  some r_1)
set_option maxHeartbeats 4000000 in
set_option maxRecDepth 100000 in
theorem c_X8_overdue (n : Nat) (l : Launch) (k : KT) (a_th : Nat → Nat) (a_in : Nat → Nat) (a_ou : Nat → Nat) (a_ru : Nat → Nat) (a_no : Nat → Nat) (a_fo : Nat → Nat) (a_rd : Nat → Nat) (a_pa : Nat → Nat) (sv_th : Value) (th_0 : OS) (no_0 : OS) (res : (Int32)) (hf : f_X8_overdue n sv_th th_0 no_0 = some res) : CG l k yX8_overdue cX8_overdue 1 (some .int) 3 0 0 66 [.ref (a_th 0)] (wMCo k a_th (a_in 0) (a_ou 0) (a_ru 0) (a_no 0) (a_fo 0) (a_rd 0) (a_pa 0) sv_th th_0 ++ wCourt k a_no no_0) (Qi k (fun u : Unit => wMCo k a_th (a_in 0) (a_ou 0) (a_ru 0) (a_no 0) (a_fo 0) (a_rd 0) (a_pa 0) sv_th th_0 ++ wCourt k a_no no_0) (fun (r : Int32) (u : Unit) => res = r)) := by
  refine CG.ofI (by decide) (Nat.le_of_ble_eq_true rfl) (fun p e s m args below meth c A Q E hnm hW hA hret ls hl => ?_)
  have hl : lv_has ls 1 [(0, .ref (a_th 0))] := hl
  unfold f_X8_overdue at hf
  refine k_aload_n E hl 0 dX8_overdue_0 rfl ?_
  refine gf_X8_31 E hW 0 rfl rfl dX8_overdue_1 ?_
  obtain ⟨r_1, hg, hf⟩ := ob hf
  refine k_callVi (As := []) (rest := []) (ws2 := fun u => wMCo k a_th (a_in 0) (a_ou 0) (a_ru 0) (a_no 0) (a_fo 0) (a_rd 0) (a_pa 0) sv_th th_0 ++ wCourt k a_no no_0) (c_X2_brokenPages n l k a_no no_0 r_1 hg) E vl_X8_263 dX8_overdue_4 rfl [1, 2, 3, 4, 5, 6, 7, 8, 9, 10, 11, 12] 3 1 hW hA hl rfl rfl rfl rfl ⟨by decide, by decide⟩ ⟨by decide, by decide⟩ (Nat.le_of_ble_eq_true rfl) rfl (fun _ => rfl) (fun _ => rfl) (fun r u H locs hp hW => ?_)
  cases hp
  have hW : WD k A s.heap (wMCo k a_th (a_in 0) (a_ou 0) (a_ru 0) (a_no 0) (a_fo 0) (a_rd 0) (a_pa 0) sv_th th_0 ++ wCourt k a_no no_0) H locs := hW
  exact hret _ () _ _ _ _ _ _ hW (Option.some.inj hf).symm rfl (by decide) (by decide) dX8_overdue_7
def f_X8_firstBroken (n : Nat) (sv_th : Value) (th_0 : OS) (no_0 : OS) : Option (Int32) :=
  bnd (f_X2_earliestBroken n no_0) (fun (r_1 : Int32) =>
  some r_1)
set_option maxHeartbeats 4000000 in
set_option maxRecDepth 100000 in
theorem c_X8_firstBroken (n : Nat) (l : Launch) (k : KT) (a_th : Nat → Nat) (a_in : Nat → Nat) (a_ou : Nat → Nat) (a_ru : Nat → Nat) (a_no : Nat → Nat) (a_fo : Nat → Nat) (a_rd : Nat → Nat) (a_pa : Nat → Nat) (sv_th : Value) (th_0 : OS) (no_0 : OS) (res : (Int32)) (hf : f_X8_firstBroken n sv_th th_0 no_0 = some res) : CG l k yX8_firstBroken cX8_firstBroken 1 (some .int) 2 0 0 46 [.ref (a_th 0)] (wMCo k a_th (a_in 0) (a_ou 0) (a_ru 0) (a_no 0) (a_fo 0) (a_rd 0) (a_pa 0) sv_th th_0 ++ wCourt k a_no no_0) (Qi k (fun u : Unit => wMCo k a_th (a_in 0) (a_ou 0) (a_ru 0) (a_no 0) (a_fo 0) (a_rd 0) (a_pa 0) sv_th th_0 ++ wCourt k a_no no_0) (fun (r : Int32) (u : Unit) => res = r)) := by
  refine CG.ofI (by decide) (Nat.le_of_ble_eq_true rfl) (fun p e s m args below meth c A Q E hnm hW hA hret ls hl => ?_)
  have hl : lv_has ls 1 [(0, .ref (a_th 0))] := hl
  unfold f_X8_firstBroken at hf
  refine k_aload_n E hl 0 dX8_firstBroken_0 rfl ?_
  refine gf_X8_31 E hW 0 rfl rfl dX8_firstBroken_1 ?_
  obtain ⟨r_1, hg, hf⟩ := ob hf
  refine k_callVi (As := []) (rest := []) (ws2 := fun u => wMCo k a_th (a_in 0) (a_ou 0) (a_ru 0) (a_no 0) (a_fo 0) (a_rd 0) (a_pa 0) sv_th th_0 ++ wCourt k a_no no_0) (c_X2_earliestBroken n l k a_no no_0 r_1 hg) E vl_X8_266 dX8_firstBroken_4 rfl [1, 2, 3, 4, 5, 6, 7, 8, 9, 10, 11, 12] 3 1 hW hA hl rfl rfl rfl rfl ⟨by decide, by decide⟩ ⟨by decide, by decide⟩ (Nat.le_of_ble_eq_true rfl) rfl (fun _ => rfl) (fun _ => rfl) (fun r u H locs hp hW => ?_)
  cases hp
  have hW : WD k A s.heap (wMCo k a_th (a_in 0) (a_ou 0) (a_ru 0) (a_no 0) (a_fo 0) (a_rd 0) (a_pa 0) sv_th th_0 ++ wCourt k a_no no_0) H locs := hW
  exact hret _ () _ _ _ _ _ _ hW (Option.some.inj hf).symm rfl (by decide) (by decide) dX8_firstBroken_7
