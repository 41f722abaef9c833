theorem tm_392 : (Jvm.Cond.fieldLink "MemoryCourt" (24 : Nat) "MemoryCourt" "rules" "LMemoryCourt$Rules;") ∈ lw_tbl := List.mem_of_getElem? (i := 392) (by decide +kernel)
theorem tm_185 : (Jvm.Cond.fieldLinkNest "MemoryCourt" (96 : Nat) "MemoryCourt$Rules" "processes" "I" "MemoryCourt") ∈ lw_tbl := List.mem_of_getElem? (i := 185) (by decide +kernel)
theorem tm_393 : (Jvm.Cond.fieldLink "MemoryCourt" (31 : Nat) "MemoryCourt" "now" "LMemoryCourt$Court;") ∈ lw_tbl := List.mem_of_getElem? (i := 393) (by decide +kernel)
theorem tm_236 : (Jvm.Cond.fieldLinkNest "MemoryCourt" (132 : Nat) "MemoryCourt$Court" "loanCount" "I" "MemoryCourt") ∈ lw_tbl := List.mem_of_getElem? (i := 236) (by decide +kernel)
theorem tm_239 : (Jvm.Cond.fieldLinkNest "MemoryCourt" (142 : Nat) "MemoryCourt$Court" "claimCount" "I" "MemoryCourt") ∈ lw_tbl := List.mem_of_getElem? (i := 239) (by decide +kernel)
theorem tm_961 : (Jvm.Cond.methodLink "MemoryCourt" (385 : Nat) ({ cls := "MemoryCourt$Court", name := "isKnown", desc := "(I)Z" } : Jvm.MethodName)) ∈ lw_tbl := List.mem_of_getElem? (i := 961) (by decide +kernel)
theorem tm_962 : (Jvm.Cond.instanceMethod ({ cls := "MemoryCourt$Court", name := "isKnown", desc := "(I)Z" } : Jvm.MethodName)) ∈ lw_tbl := List.mem_of_getElem? (i := 962) (by decide +kernel)
theorem tm_963 : (Jvm.Cond.selects "MemoryCourt$Court" ({ cls := "MemoryCourt$Court", name := "isKnown", desc := "(I)Z" } : Jvm.MethodName) ({ cls := "MemoryCourt$Court", name := "isKnown", desc := "(I)Z" } : Jvm.MethodName)) ∈ lw_tbl := List.mem_of_getElem? (i := 963) (by decide +kernel)
theorem tm_964 : (Jvm.Cond.code ({ cls := "MemoryCourt$Court", name := "isKnown", desc := "(I)Z" } : Jvm.MethodName) prog_4_method_30_code (2 : Nat) (Option.some Jvm.ClassFile.FieldType.boolean)) ∈ lw_tbl := List.mem_of_getElem? (i := 964) (by decide +kernel)
theorem tm_351 : (Jvm.Cond.fieldLink "MemoryCourt$Past" (21 : Nat) "MemoryCourt$Past" "count" "I") ∈ lw_tbl := List.mem_of_getElem? (i := 351) (by decide +kernel)
theorem tm_390 : (Jvm.Cond.fieldLink "MemoryCourt" (14 : Nat) "MemoryCourt" "input" "LMemoryCourt$Bytes;") ∈ lw_tbl := List.mem_of_getElem? (i := 390) (by decide +kernel)
theorem tm_152 : (Jvm.Cond.fieldLinkNest "MemoryCourt" (75 : Nat) "MemoryCourt$Bytes" "length" "I" "MemoryCourt") ∈ lw_tbl := List.mem_of_getElem? (i := 152) (by decide +kernel)
theorem tm_422 : (Jvm.Cond.methodLink "MemoryCourt" (78 : Nat) ({ cls := "MemoryCourt$Bytes", name := "putWord", desc := "(I)V" } : Jvm.MethodName)) ∈ lw_tbl := List.mem_of_getElem? (i := 422) (by decide +kernel)
theorem tm_423 : (Jvm.Cond.instanceMethod ({ cls := "MemoryCourt$Bytes", name := "putWord", desc := "(I)V" } : Jvm.MethodName)) ∈ lw_tbl := List.mem_of_getElem? (i := 423) (by decide +kernel)
theorem tm_424 : (Jvm.Cond.selects "MemoryCourt$Bytes" ({ cls := "MemoryCourt$Bytes", name := "putWord", desc := "(I)V" } : Jvm.MethodName) ({ cls := "MemoryCourt$Bytes", name := "putWord", desc := "(I)V" } : Jvm.MethodName)) ∈ lw_tbl := List.mem_of_getElem? (i := 424) (by decide +kernel)
theorem tm_425 : (Jvm.Cond.code ({ cls := "MemoryCourt$Bytes", name := "putWord", desc := "(I)V" } : Jvm.MethodName) prog_3_method_4_code (2 : Nat) (Option.none : Option Jvm.ClassFile.FieldType)) ∈ lw_tbl := List.mem_of_getElem? (i := 425) (by decide +kernel)
theorem tm_395 : (Jvm.Cond.fieldLink "MemoryCourt" (43 : Nat) "MemoryCourt" "reader" "LMemoryCourt$Reader;") ∈ lw_tbl := List.mem_of_getElem? (i := 395) (by decide +kernel)
theorem tm_306 : (Jvm.Cond.fieldLinkNest "MemoryCourt" (99 : Nat) "MemoryCourt$Reader" "code" "I" "MemoryCourt") ∈ lw_tbl := List.mem_of_getElem? (i := 306) (by decide +kernel)
theorem tm_308 : (Jvm.Cond.fieldLinkNest "MemoryCourt" (102 : Nat) "MemoryCourt$Reader" "offset" "I" "MemoryCourt") ∈ lw_tbl := List.mem_of_getElem? (i := 308) (by decide +kernel)
theorem tm_673 : (Jvm.Cond.methodLink "MemoryCourt" (161 : Nat) ({ cls := "MemoryCourt$Rules", name := "processNamed", desc := "(LMemoryCourt$Bytes;II)I" } : Jvm.MethodName)) ∈ lw_tbl := List.mem_of_getElem? (i := 673) (by decide +kernel)
theorem tm_549 : (Jvm.Cond.instanceMethod ({ cls := "MemoryCourt$Rules", name := "processNamed", desc := "(LMemoryCourt$Bytes;II)I" } : Jvm.MethodName)) ∈ lw_tbl := List.mem_of_getElem? (i := 549) (by decide +kernel)
theorem tm_550 : (Jvm.Cond.selects "MemoryCourt$Rules" ({ cls := "MemoryCourt$Rules", name := "processNamed", desc := "(LMemoryCourt$Bytes;II)I" } : Jvm.MethodName) ({ cls := "MemoryCourt$Rules", name := "processNamed", desc := "(LMemoryCourt$Bytes;II)I" } : Jvm.MethodName)) ∈ lw_tbl := List.mem_of_getElem? (i := 550) (by decide +kernel)
theorem tm_551 : (Jvm.Cond.code ({ cls := "MemoryCourt$Rules", name := "processNamed", desc := "(LMemoryCourt$Bytes;II)I" } : Jvm.MethodName) prog_7_method_6_code (5 : Nat) (Option.some Jvm.ClassFile.FieldType.int)) ∈ lw_tbl := List.mem_of_getElem? (i := 551) (by decide +kernel)
theorem tm_183 : (Jvm.Cond.fieldLinkNest "MemoryCourt" (105 : Nat) "MemoryCourt$Rules" "pages" "I" "MemoryCourt") ∈ lw_tbl := List.mem_of_getElem? (i := 183) (by decide +kernel)
theorem tm_227 : (Jvm.Cond.fieldLinkNest "MemoryCourt" (108 : Nat) "MemoryCourt$Court" "time" "I" "MemoryCourt") ∈ lw_tbl := List.mem_of_getElem? (i := 227) (by decide +kernel)
theorem tm_229 : (Jvm.Cond.fieldLinkNest "MemoryCourt" (111 : Nat) "MemoryCourt$Court" "order" "I" "MemoryCourt") ∈ lw_tbl := List.mem_of_getElem? (i := 229) (by decide +kernel)
theorem tm_189 : (Jvm.Cond.fieldLinkNest "MemoryCourt" (114 : Nat) "MemoryCourt$Rules" "every" "I" "MemoryCourt") ∈ lw_tbl := List.mem_of_getElem? (i := 189) (by decide +kernel)
theorem tm_191 : (Jvm.Cond.fieldLinkNest "MemoryCourt" (117 : Nat) "MemoryCourt$Rules" "base" "I" "MemoryCourt") ∈ lw_tbl := List.mem_of_getElem? (i := 191) (by decide +kernel)
theorem tm_194 : (Jvm.Cond.fieldLinkNest "MemoryCourt" (120 : Nat) "MemoryCourt$Rules" "fade" "I" "MemoryCourt") ∈ lw_tbl := List.mem_of_getElem? (i := 194) (by decide +kernel)
theorem tm_196 : (Jvm.Cond.fieldLinkNest "MemoryCourt" (123 : Nat) "MemoryCourt$Rules" "patience" "I" "MemoryCourt") ∈ lw_tbl := List.mem_of_getElem? (i := 196) (by decide +kernel)
theorem tm_199 : (Jvm.Cond.fieldLinkNest "MemoryCourt" (126 : Nat) "MemoryCourt$Rules" "appeal" "I" "MemoryCourt") ∈ lw_tbl := List.mem_of_getElem? (i := 199) (by decide +kernel)
theorem tm_233 : (Jvm.Cond.fieldLinkNest "MemoryCourt" (129 : Nat) "MemoryCourt$Court" "free" "I" "MemoryCourt") ∈ lw_tbl := List.mem_of_getElem? (i := 233) (by decide +kernel)
theorem tm_644 : (Jvm.Cond.methodLink "MemoryCourt" (135 : Nat) ({ cls := "MemoryCourt$Court", name := "openLoans", desc := "(I)I" } : Jvm.MethodName)) ∈ lw_tbl := List.mem_of_getElem? (i := 644) (by decide +kernel)
theorem tm_645 : (Jvm.Cond.instanceMethod ({ cls := "MemoryCourt$Court", name := "openLoans", desc := "(I)I" } : Jvm.MethodName)) ∈ lw_tbl := List.mem_of_getElem? (i := 645) (by decide +kernel)
theorem tm_646 : (Jvm.Cond.selects "MemoryCourt$Court" ({ cls := "MemoryCourt$Court", name := "openLoans", desc := "(I)I" } : Jvm.MethodName) ({ cls := "MemoryCourt$Court", name := "openLoans", desc := "(I)I" } : Jvm.MethodName)) ∈ lw_tbl := List.mem_of_getElem? (i := 646) (by decide +kernel)
theorem tm_647 : (Jvm.Cond.code ({ cls := "MemoryCourt$Court", name := "openLoans", desc := "(I)I" } : Jvm.MethodName) prog_4_method_14_code (4 : Nat) (Option.some Jvm.ClassFile.FieldType.int)) ∈ lw_tbl := List.mem_of_getElem? (i := 647) (by decide +kernel)
theorem tm_657 : (Jvm.Cond.methodLink "MemoryCourt" (139 : Nat) ({ cls := "MemoryCourt$Court", name := "brokenLoans", desc := "(I)I" } : Jvm.MethodName)) ∈ lw_tbl := List.mem_of_getElem? (i := 657) (by decide +kernel)
theorem tm_658 : (Jvm.Cond.instanceMethod ({ cls := "MemoryCourt$Court", name := "brokenLoans", desc := "(I)I" } : Jvm.MethodName)) ∈ lw_tbl := List.mem_of_getElem? (i := 658) (by decide +kernel)
theorem tm_659 : (Jvm.Cond.selects "MemoryCourt$Court" ({ cls := "MemoryCourt$Court", name := "brokenLoans", desc := "(I)I" } : Jvm.MethodName) ({ cls := "MemoryCourt$Court", name := "brokenLoans", desc := "(I)I" } : Jvm.MethodName)) ∈ lw_tbl := List.mem_of_getElem? (i := 659) (by decide +kernel)
theorem tm_660 : (Jvm.Cond.code ({ cls := "MemoryCourt$Court", name := "brokenLoans", desc := "(I)I" } : Jvm.MethodName) prog_4_method_15_code (4 : Nat) (Option.some Jvm.ClassFile.FieldType.int)) ∈ lw_tbl := List.mem_of_getElem? (i := 660) (by decide +kernel)
theorem tm_665 : (Jvm.Cond.methodLink "MemoryCourt" (145 : Nat) ({ cls := "MemoryCourt$Court", name := "claimsThat", desc := "(II)I" } : Jvm.MethodName)) ∈ lw_tbl := List.mem_of_getElem? (i := 665) (by decide +kernel)
theorem tm_243 : (Jvm.Cond.fieldLinkNest "MemoryCourt" (149 : Nat) "MemoryCourt$Court" "hearings" "I" "MemoryCourt") ∈ lw_tbl := List.mem_of_getElem? (i := 243) (by decide +kernel)
theorem tm_241 : (Jvm.Cond.fieldLinkNest "MemoryCourt" (152 : Nat) "MemoryCourt$Court" "fineCount" "I" "MemoryCourt") ∈ lw_tbl := List.mem_of_getElem? (i := 241) (by decide +kernel)
theorem tm_246 : (Jvm.Cond.fieldLinkNest "MemoryCourt" (155 : Nat) "MemoryCourt$Court" "takenBack" "I" "MemoryCourt") ∈ lw_tbl := List.mem_of_getElem? (i := 246) (by decide +kernel)
theorem tm_396 : (Jvm.Cond.fieldLink "MemoryCourt" (50 : Nat) "MemoryCourt" "past" "LMemoryCourt$Past;") ∈ lw_tbl := List.mem_of_getElem? (i := 396) (by decide +kernel)
theorem tm_352 : (Jvm.Cond.fieldLinkNest "MemoryCourt" (158 : Nat) "MemoryCourt$Past" "count" "I" "MemoryCourt") ∈ lw_tbl := List.mem_of_getElem? (i := 352) (by decide +kernel)
theorem tm_757 : (Jvm.Cond.methodLink "MemoryCourt" (165 : Nat) ({ cls := "MemoryCourt", name := "needProcess", desc := "(I)V" } : Jvm.MethodName)) ∈ lw_tbl := List.mem_of_getElem? (i := 757) (by decide +kernel)
theorem tm_759 : (Jvm.Cond.instanceMethod ({ cls := "MemoryCourt", name := "needProcess", desc := "(I)V" } : Jvm.MethodName)) ∈ lw_tbl := List.mem_of_getElem? (i := 759) (by decide +kernel)
theorem tms_17 : (Jvm.Cond.selects "MemoryCourt" ({ cls := "MemoryCourt", name := "needProcess", desc := "(I)V" } : Jvm.MethodName) ({ cls := "MemoryCourt", name := "needProcess", desc := "(I)V" } : Jvm.MethodName)) ∈ lw_tbl := List.mem_of_getElem? (i := 17) (by decide +kernel)
theorem tm_108 : (Jvm.Cond.initialized "MemoryCourt") ∈ lw_tbl := List.mem_of_getElem? (i := 108) (by decide +kernel)
theorem tm_760 : (Jvm.Cond.code ({ cls := "MemoryCourt", name := "needProcess", desc := "(I)V" } : Jvm.MethodName) prog_1_method_49_code (2 : Nat) (Option.none : Option Jvm.ClassFile.FieldType)) ∈ lw_tbl := List.mem_of_getElem? (i := 760) (by decide +kernel)
theorem tm_250 : (Jvm.Cond.fieldLinkNest "MemoryCourt" (168 : Nat) "MemoryCourt$Court" "processes" "LMemoryCourt$Table;" "MemoryCourt") ∈ lw_tbl := List.mem_of_getElem? (i := 250) (by decide +kernel)
theorem tm_829 : (Jvm.Cond.methodLink "MemoryCourt" (171 : Nat) ({ cls := "MemoryCourt$Table", name := "get", desc := "(II)I" } : Jvm.MethodName)) ∈ lw_tbl := List.mem_of_getElem? (i := 829) (by decide +kernel)
theorem tm_830 : (Jvm.Cond.methodLink "MemoryCourt" (176 : Nat) ({ cls := "MemoryCourt$Court", name := "heldPages", desc := "(I)I" } : Jvm.MethodName)) ∈ lw_tbl := List.mem_of_getElem? (i := 830) (by decide +kernel)
theorem tm_831 : (Jvm.Cond.instanceMethod ({ cls := "MemoryCourt$Court", name := "heldPages", desc := "(I)I" } : Jvm.MethodName)) ∈ lw_tbl := List.mem_of_getElem? (i := 831) (by decide +kernel)
theorem tm_832 : (Jvm.Cond.selects "MemoryCourt$Court" ({ cls := "MemoryCourt$Court", name := "heldPages", desc := "(I)I" } : Jvm.MethodName) ({ cls := "MemoryCourt$Court", name := "heldPages", desc := "(I)I" } : Jvm.MethodName)) ∈ lw_tbl := List.mem_of_getElem? (i := 832) (by decide +kernel)
theorem tm_833 : (Jvm.Cond.code ({ cls := "MemoryCourt$Court", name := "heldPages", desc := "(I)I" } : Jvm.MethodName) prog_4_method_16_code (4 : Nat) (Option.some Jvm.ClassFile.FieldType.int)) ∈ lw_tbl := List.mem_of_getElem? (i := 833) (by decide +kernel)
theorem tm_842 : (Jvm.Cond.methodLink "MemoryCourt" (186 : Nat) ({ cls := "MemoryCourt", name := "needLoan", desc := "(I)V" } : Jvm.MethodName)) ∈ lw_tbl := List.mem_of_getElem? (i := 842) (by decide +kernel)
theorem tm_844 : (Jvm.Cond.instanceMethod ({ cls := "MemoryCourt", name := "needLoan", desc := "(I)V" } : Jvm.MethodName)) ∈ lw_tbl := List.mem_of_getElem? (i := 844) (by decide +kernel)
theorem tms_19 : (Jvm.Cond.selects "MemoryCourt" ({ cls := "MemoryCourt", name := "needLoan", desc := "(I)V" } : Jvm.MethodName) ({ cls := "MemoryCourt", name := "needLoan", desc := "(I)V" } : Jvm.MethodName)) ∈ lw_tbl := List.mem_of_getElem? (i := 19) (by decide +kernel)
theorem tm_845 : (Jvm.Cond.code ({ cls := "MemoryCourt", name := "needLoan", desc := "(I)V" } : Jvm.MethodName) prog_1_method_50_code (2 : Nat) (Option.none : Option Jvm.ClassFile.FieldType)) ∈ lw_tbl := List.mem_of_getElem? (i := 845) (by decide +kernel)
theorem tm_252 : (Jvm.Cond.fieldLinkNest "MemoryCourt" (195 : Nat) "MemoryCourt$Court" "loans" "LMemoryCourt$Table;" "MemoryCourt") ∈ lw_tbl := List.mem_of_getElem? (i := 252) (by decide +kernel)
theorem tm_848 : (Jvm.Cond.methodLink "MemoryCourt" (191 : Nat) ({ cls := "MemoryCourt$Court", name := "isBroken", desc := "(I)Z" } : Jvm.MethodName)) ∈ lw_tbl := List.mem_of_getElem? (i := 848) (by decide +kernel)
theorem tm_857 : (Jvm.Cond.methodLink "MemoryCourt" (200 : Nat) ({ cls := "MemoryCourt$Court", name := "loanOf", desc := "(I)I" } : Jvm.MethodName)) ∈ lw_tbl := List.mem_of_getElem? (i := 857) (by decide +kernel)
theorem tm_858 : (Jvm.Cond.instanceMethod ({ cls := "MemoryCourt$Court", name := "loanOf", desc := "(I)I" } : Jvm.MethodName)) ∈ lw_tbl := List.mem_of_getElem? (i := 858) (by decide +kernel)
theorem tm_859 : (Jvm.Cond.selects "MemoryCourt$Court" ({ cls := "MemoryCourt$Court", name := "loanOf", desc := "(I)I" } : Jvm.MethodName) ({ cls := "MemoryCourt$Court", name := "loanOf", desc := "(I)I" } : Jvm.MethodName)) ∈ lw_tbl := List.mem_of_getElem? (i := 859) (by decide +kernel)
theorem tm_860 : (Jvm.Cond.code ({ cls := "MemoryCourt$Court", name := "loanOf", desc := "(I)I" } : Jvm.MethodName) prog_4_method_4_code (2 : Nat) (Option.some Jvm.ClassFile.FieldType.int)) ∈ lw_tbl := List.mem_of_getElem? (i := 860) (by decide +kernel)
theorem tm_869 : (Jvm.Cond.methodLink "MemoryCourt" (203 : Nat) ({ cls := "MemoryCourt$Court", name := "pageAt", desc := "(II)I" } : Jvm.MethodName)) ∈ lw_tbl := List.mem_of_getElem? (i := 869) (by decide +kernel)
theorem tm_870 : (Jvm.Cond.instanceMethod ({ cls := "MemoryCourt$Court", name := "pageAt", desc := "(II)I" } : Jvm.MethodName)) ∈ lw_tbl := List.mem_of_getElem? (i := 870) (by decide +kernel)
theorem tm_871 : (Jvm.Cond.selects "MemoryCourt$Court" ({ cls := "MemoryCourt$Court", name := "pageAt", desc := "(II)I" } : Jvm.MethodName) ({ cls := "MemoryCourt$Court", name := "pageAt", desc := "(II)I" } : Jvm.MethodName)) ∈ lw_tbl := List.mem_of_getElem? (i := 871) (by decide +kernel)
theorem tm_872 : (Jvm.Cond.code ({ cls := "MemoryCourt$Court", name := "pageAt", desc := "(II)I" } : Jvm.MethodName) prog_4_method_5_code (5 : Nat) (Option.some Jvm.ClassFile.FieldType.int)) ∈ lw_tbl := List.mem_of_getElem? (i := 872) (by decide +kernel)
theorem tm_896 : (Jvm.Cond.methodLink "MemoryCourt" (211 : Nat) ({ cls := "MemoryCourt$Court", name := "rowsOf", desc := "(I)I" } : Jvm.MethodName)) ∈ lw_tbl := List.mem_of_getElem? (i := 896) (by decide +kernel)
theorem tm_897 : (Jvm.Cond.instanceMethod ({ cls := "MemoryCourt$Court", name := "rowsOf", desc := "(I)I" } : Jvm.MethodName)) ∈ lw_tbl := List.mem_of_getElem? (i := 897) (by decide +kernel)
theorem tm_898 : (Jvm.Cond.selects "MemoryCourt$Court" ({ cls := "MemoryCourt$Court", name := "rowsOf", desc := "(I)I" } : Jvm.MethodName) ({ cls := "MemoryCourt$Court", name := "rowsOf", desc := "(I)I" } : Jvm.MethodName)) ∈ lw_tbl := List.mem_of_getElem? (i := 898) (by decide +kernel)
theorem tm_899 : (Jvm.Cond.code ({ cls := "MemoryCourt$Court", name := "rowsOf", desc := "(I)I" } : Jvm.MethodName) prog_4_method_6_code (8 : Nat) (Option.some Jvm.ClassFile.FieldType.int)) ∈ lw_tbl := List.mem_of_getElem? (i := 899) (by decide +kernel)
theorem tm_678 : (Jvm.Cond.methodLink "MemoryCourt" (214 : Nat) ({ cls := "MemoryCourt$Court", name := "longestRow", desc := "(I)I" } : Jvm.MethodName)) ∈ lw_tbl := List.mem_of_getElem? (i := 678) (by decide +kernel)
theorem tm_679 : (Jvm.Cond.instanceMethod ({ cls := "MemoryCourt$Court", name := "longestRow", desc := "(I)I" } : Jvm.MethodName)) ∈ lw_tbl := List.mem_of_getElem? (i := 679) (by decide +kernel)
theorem tm_680 : (Jvm.Cond.selects "MemoryCourt$Court" ({ cls := "MemoryCourt$Court", name := "longestRow", desc := "(I)I" } : Jvm.MethodName) ({ cls := "MemoryCourt$Court", name := "longestRow", desc := "(I)I" } : Jvm.MethodName)) ∈ lw_tbl := List.mem_of_getElem? (i := 680) (by decide +kernel)
theorem tm_681 : (Jvm.Cond.code ({ cls := "MemoryCourt$Court", name := "longestRow", desc := "(I)I" } : Jvm.MethodName) prog_4_method_7_code (8 : Nat) (Option.some Jvm.ClassFile.FieldType.int)) ∈ lw_tbl := List.mem_of_getElem? (i := 681) (by decide +kernel)
theorem tm_907 : (Jvm.Cond.methodLink "MemoryCourt" (217 : Nat) ({ cls := "MemoryCourt", name := "needClaim", desc := "(I)V" } : Jvm.MethodName)) ∈ lw_tbl := List.mem_of_getElem? (i := 907) (by decide +kernel)
theorem tm_909 : (Jvm.Cond.instanceMethod ({ cls := "MemoryCourt", name := "needClaim", desc := "(I)V" } : Jvm.MethodName)) ∈ lw_tbl := List.mem_of_getElem? (i := 909) (by decide +kernel)
theorem tms_20 : (Jvm.Cond.selects "MemoryCourt" ({ cls := "MemoryCourt", name := "needClaim", desc := "(I)V" } : Jvm.MethodName) ({ cls := "MemoryCourt", name := "needClaim", desc := "(I)V" } : Jvm.MethodName)) ∈ lw_tbl := List.mem_of_getElem? (i := 20) (by decide +kernel)
theorem tm_910 : (Jvm.Cond.code ({ cls := "MemoryCourt", name := "needClaim", desc := "(I)V" } : Jvm.MethodName) prog_1_method_51_code (2 : Nat) (Option.none : Option Jvm.ClassFile.FieldType)) ∈ lw_tbl := List.mem_of_getElem? (i := 910) (by decide +kernel)
theorem tm_254 : (Jvm.Cond.fieldLinkNest "MemoryCourt" (222 : Nat) "MemoryCourt$Court" "claims" "LMemoryCourt$Table;" "MemoryCourt") ∈ lw_tbl := List.mem_of_getElem? (i := 254) (by decide +kernel)
theorem tm_920 : (Jvm.Cond.methodLink "MemoryCourt" (225 : Nat) ({ cls := "MemoryCourt$Court", name := "lineUp", desc := "()I" } : Jvm.MethodName)) ∈ lw_tbl := List.mem_of_getElem? (i := 920) (by decide +kernel)
theorem tm_929 : (Jvm.Cond.methodLink "MemoryCourt" (231 : Nat) ({ cls := "MemoryCourt$Court", name := "inLine", desc := "(I)I" } : Jvm.MethodName)) ∈ lw_tbl := List.mem_of_getElem? (i := 929) (by decide +kernel)
theorem tm_957 : (Jvm.Cond.methodLink "MemoryCourt" (239 : Nat) ({ cls := "MemoryCourt", name := "needFine", desc := "(I)V" } : Jvm.MethodName)) ∈ lw_tbl := List.mem_of_getElem? (i := 957) (by decide +kernel)
theorem tm_959 : (Jvm.Cond.instanceMethod ({ cls := "MemoryCourt", name := "needFine", desc := "(I)V" } : Jvm.MethodName)) ∈ lw_tbl := List.mem_of_getElem? (i := 959) (by decide +kernel)
theorem tms_22 : (Jvm.Cond.selects "MemoryCourt" ({ cls := "MemoryCourt", name := "needFine", desc := "(I)V" } : Jvm.MethodName) ({ cls := "MemoryCourt", name := "needFine", desc := "(I)V" } : Jvm.MethodName)) ∈ lw_tbl := List.mem_of_getElem? (i := 22) (by decide +kernel)
theorem tm_960 : (Jvm.Cond.code ({ cls := "MemoryCourt", name := "needFine", desc := "(I)V" } : Jvm.MethodName) prog_1_method_52_code (2 : Nat) (Option.none : Option Jvm.ClassFile.FieldType)) ∈ lw_tbl := List.mem_of_getElem? (i := 960) (by decide +kernel)
theorem tm_966 : (Jvm.Cond.methodLink "MemoryCourt" (242 : Nat) ({ cls := "MemoryCourt$Court", name := "ofFine", desc := "(II)I" } : Jvm.MethodName)) ∈ lw_tbl := List.mem_of_getElem? (i := 966) (by decide +kernel)
theorem tm_977 : (Jvm.Cond.methodLink "MemoryCourt" (245 : Nat) ({ cls := "MemoryCourt$Court", name := "evidenceFor", desc := "(I)I" } : Jvm.MethodName)) ∈ lw_tbl := List.mem_of_getElem? (i := 977) (by decide +kernel)
theorem tm_978 : (Jvm.Cond.instanceMethod ({ cls := "MemoryCourt$Court", name := "evidenceFor", desc := "(I)I" } : Jvm.MethodName)) ∈ lw_tbl := List.mem_of_getElem? (i := 978) (by decide +kernel)
theorem tm_979 : (Jvm.Cond.selects "MemoryCourt$Court" ({ cls := "MemoryCourt$Court", name := "evidenceFor", desc := "(I)I" } : Jvm.MethodName) ({ cls := "MemoryCourt$Court", name := "evidenceFor", desc := "(I)I" } : Jvm.MethodName)) ∈ lw_tbl := List.mem_of_getElem? (i := 979) (by decide +kernel)
theorem tm_980 : (Jvm.Cond.code ({ cls := "MemoryCourt$Court", name := "evidenceFor", desc := "(I)I" } : Jvm.MethodName) prog_4_method_34_code (6 : Nat) (Option.some Jvm.ClassFile.FieldType.int)) ∈ lw_tbl := List.mem_of_getElem? (i := 980) (by decide +kernel)
theorem tm_993 : (Jvm.Cond.methodLink "MemoryCourt" (248 : Nat) ({ cls := "MemoryCourt$Court", name := "stalledIn", desc := "(II)Z" } : Jvm.MethodName)) ∈ lw_tbl := List.mem_of_getElem? (i := 993) (by decide +kernel)
theorem tm_687 : (Jvm.Cond.methodLink "MemoryCourt" (252 : Nat) ({ cls := "MemoryCourt$Rules", name := "hearingAfter", desc := "(I)I" } : Jvm.MethodName)) ∈ lw_tbl := List.mem_of_getElem? (i := 687) (by decide +kernel)
theorem tm_688 : (Jvm.Cond.instanceMethod ({ cls := "MemoryCourt$Rules", name := "hearingAfter", desc := "(I)I" } : Jvm.MethodName)) ∈ lw_tbl := List.mem_of_getElem? (i := 688) (by decide +kernel)
theorem tm_689 : (Jvm.Cond.selects "MemoryCourt$Rules" ({ cls := "MemoryCourt$Rules", name := "hearingAfter", desc := "(I)I" } : Jvm.MethodName) ({ cls := "MemoryCourt$Rules", name := "hearingAfter", desc := "(I)I" } : Jvm.MethodName)) ∈ lw_tbl := List.mem_of_getElem? (i := 689) (by decide +kernel)
theorem tm_690 : (Jvm.Cond.code ({ cls := "MemoryCourt$Rules", name := "hearingAfter", desc := "(I)I" } : Jvm.MethodName) prog_7_method_11_code (3 : Nat) (Option.some Jvm.ClassFile.FieldType.int)) ∈ lw_tbl := List.mem_of_getElem? (i := 690) (by decide +kernel)
theorem tm_695 : (Jvm.Cond.methodLink "MemoryCourt" (255 : Nat) ({ cls := "MemoryCourt$Court", name := "waitingPages", desc := "()I" } : Jvm.MethodName)) ∈ lw_tbl := List.mem_of_getElem? (i := 695) (by decide +kernel)
theorem tm_696 : (Jvm.Cond.instanceMethod ({ cls := "MemoryCourt$Court", name := "waitingPages", desc := "()I" } : Jvm.MethodName)) ∈ lw_tbl := List.mem_of_getElem? (i := 696) (by decide +kernel)
theorem tm_697 : (Jvm.Cond.selects "MemoryCourt$Court" ({ cls := "MemoryCourt$Court", name := "waitingPages", desc := "()I" } : Jvm.MethodName) ({ cls := "MemoryCourt$Court", name := "waitingPages", desc := "()I" } : Jvm.MethodName)) ∈ lw_tbl := List.mem_of_getElem? (i := 697) (by decide +kernel)
theorem tm_698 : (Jvm.Cond.code ({ cls := "MemoryCourt$Court", name := "waitingPages", desc := "()I" } : Jvm.MethodName) prog_4_method_26_code (3 : Nat) (Option.some Jvm.ClassFile.FieldType.int)) ∈ lw_tbl := List.mem_of_getElem? (i := 698) (by decide +kernel)
theorem tm_703 : (Jvm.Cond.methodLink "MemoryCourt" (258 : Nat) ({ cls := "java/lang/Math", name := "max", desc := "(II)I" } : Jvm.MethodName)) ∈ lw_tbl := List.mem_of_getElem? (i := 703) (by decide +kernel)
theorem tm_708 : (Jvm.Cond.methodLink "MemoryCourt" (263 : Nat) ({ cls := "MemoryCourt$Court", name := "brokenPages", desc := "()I" } : Jvm.MethodName)) ∈ lw_tbl := List.mem_of_getElem? (i := 708) (by decide +kernel)
theorem tm_716 : (Jvm.Cond.methodLink "MemoryCourt" (266 : Nat) ({ cls := "MemoryCourt$Court", name := "earliestBroken", desc := "()I" } : Jvm.MethodName)) ∈ lw_tbl := List.mem_of_getElem? (i := 716) (by decide +kernel)
theorem tm_724 : (Jvm.Cond.methodLink "MemoryCourt" (269 : Nat) ({ cls := "MemoryCourt$Court", name := "greatestRecord", desc := "(I)I" } : Jvm.MethodName)) ∈ lw_tbl := List.mem_of_getElem? (i := 724) (by decide +kernel)
theorem tm_725 : (Jvm.Cond.instanceMethod ({ cls := "MemoryCourt$Court", name := "greatestRecord", desc := "(I)I" } : Jvm.MethodName)) ∈ lw_tbl := List.mem_of_getElem? (i := 725) (by decide +kernel)
theorem tm_726 : (Jvm.Cond.selects "MemoryCourt$Court" ({ cls := "MemoryCourt$Court", name := "greatestRecord", desc := "(I)I" } : Jvm.MethodName) ({ cls := "MemoryCourt$Court", name := "greatestRecord", desc := "(I)I" } : Jvm.MethodName)) ∈ lw_tbl := List.mem_of_getElem? (i := 726) (by decide +kernel)
theorem tm_727 : (Jvm.Cond.code ({ cls := "MemoryCourt$Court", name := "greatestRecord", desc := "(I)I" } : Jvm.MethodName) prog_4_method_22_code (5 : Nat) (Option.some Jvm.ClassFile.FieldType.int)) ∈ lw_tbl := List.mem_of_getElem? (i := 727) (by decide +kernel)
theorem sp_500 : (Int16.ofInt (500)).toInt32 = (500 : Int32) := by decide
theorem gf_X8_24 {p : Program} {l : Launch} {e : Env} {R : Room} {s : State} {m : MethodId} {args : Array Value} {below : List Frame} {meth : Method} {c : Code} {H : Heap} {locs : List Loc} {cells slots : Nat} {Q : State → Prop} {cc : ByteArray} {pc nL : Nat} {ls : Array Slot} {rest : List Value} {k : KT} {A : Nat → Prop} {ws : va_W} {H0 : Heap} {a : Nat} (E : E0 p s m c cc nL RX8 k A) (hW : WD k A H0 ws H locs) (q0 : Nat) {fs : List Value} (he : ws[q0]? = some (a, .inr (6, fs))) {v : Value} (hv : fs[2]? = some v) (hdg : decode cc pc = .ok (.getfield 24, 3)) (q : W p l e R s m args below meth c H locs cells slots Q (F0 m (pc + 3) ls (v :: rest))) : W p l e R s m args below meth c H locs cells slots Q (F0 m pc ls (.ref a :: rest)) := va_get (C := RX8) (T := TX8) (N := 9) (ci := 6) E.hx E.hb (Ts := wsX80) (fun w hw => E.w (inX8 w hw) (tbl_laysX8 w hw)) (fun _ h => h) E.ho E.hK hW.1 q0 he rfl 2 (by decide) (E.w tm_392 rfl) (fun _ h => h) hv hdg q
theorem gf_X8_96 {p : Program} {l : Launch} {e : Env} {R : Room} {s : State} {m : MethodId} {args : Array Value} {below : List Frame} {meth : Method} {c : Code} {H : Heap} {locs : List Loc} {cells slots : Nat} {Q : State → Prop} {cc : ByteArray} {pc nL : Nat} {ls : Array Slot} {rest : List Value} {k : KT} {A : Nat → Prop} {ws : va_W} {H0 : Heap} {a : Nat} (E : E0 p s m c cc nL RX8 k A) (hW : WD k A H0 ws H locs) (q0 : Nat) {fs : List Value} (he : ws[q0]? = some (a, .inr (4, fs))) {v : Value} (hv : fs[1]? = some v) (hdg : decode cc pc = .ok (.getfield 96, 3)) (q : W p l e R s m args below meth c H locs cells slots Q (F0 m (pc + 3) ls (v :: rest))) : W p l e R s m args below meth c H locs cells slots Q (F0 m pc ls (.ref a :: rest)) := va_getN (C := RX5) (T := TX5) (N := 8) (ci := 4) E.hx E.hb (Ts := wsX50) (fun w hw => E.w (inX5 w hw) (tbl_laysX5 w hw)) (fun _ h => h) E.ho E.hK hW.1 q0 he rfl 1 (by decide) (E.w tm_185 rfl) (fun _ h => h) hv hdg q
theorem gf_X8_31 {p : Program} {l : Launch} {e : Env} {R : Room} {s : State} {m : MethodId} {args : Array Value} {below : List Frame} {meth : Method} {c : Code} {H : Heap} {locs : List Loc} {cells slots : Nat} {Q : State → Prop} {cc : ByteArray} {pc nL : Nat} {ls : Array Slot} {rest : List Value} {k : KT} {A : Nat → Prop} {ws : va_W} {H0 : Heap} {a : Nat} (E : E0 p s m c cc nL RX8 k A) (hW : WD k A H0 ws H locs) (q0 : Nat) {fs : List Value} (he : ws[q0]? = some (a, .inr (6, fs))) {v : Value} (hv : fs[3]? = some v) (hdg : decode cc pc = .ok (.getfield 31, 3)) (q : W p l e R s m args below meth c H locs cells slots Q (F0 m (pc + 3) ls (v :: rest))) : W p l e R s m args below meth c H locs cells slots Q (F0 m pc ls (.ref a :: rest)) := va_get (C := RX8) (T := TX8) (N := 9) (ci := 6) E.hx E.hb (Ts := wsX80) (fun w hw => E.w (inX8 w hw) (tbl_laysX8 w hw)) (fun _ h => h) E.ho E.hK hW.1 q0 he rfl 3 (by decide) (E.w tm_393 rfl) (fun _ h => h) hv hdg q
theorem gf_X8_132 {p : Program} {l : Launch} {e : Env} {R : Room} {s : State} {m : MethodId} {args : Array Value} {below : List Frame} {meth : Method} {c : Code} {H : Heap} {locs : List Loc} {cells slots : Nat} {Q : State → Prop} {cc : ByteArray} {pc nL : Nat} {ls : Array Slot} {rest : List Value} {k : KT} {A : Nat → Prop} {ws : va_W} {H0 : Heap} {a : Nat} (E : E0 p s m c cc nL RX8 k A) (hW : WD k A H0 ws H locs) (q0 : Nat) {fs : List Value} (he : ws[q0]? = some (a, .inr (1, fs))) {v : Value} (hv : fs[3]? = some v) (hdg : decode cc pc = .ok (.getfield 132, 3)) (q : W p l e R s m args below meth c H locs cells slots Q (F0 m (pc + 3) ls (v :: rest))) : W p l e R s m args below meth c H locs cells slots Q (F0 m pc ls (.ref a :: rest)) := va_getN (C := RX2) (T := TX2) (N := 16) (ci := 1) E.hx E.hb (Ts := wsX20) (fun w hw => E.w (inX2 w hw) (tbl_laysX2 w hw)) (fun _ h => h) E.ho E.hK hW.1 q0 he rfl 3 (by decide) (E.w tm_236 rfl) (fun _ h => h) hv hdg q
theorem gf_X8_142 {p : Program} {l : Launch} {e : Env} {R : Room} {s : State} {m : MethodId} {args : Array Value} {below : List Frame} {meth : Method} {c : Code} {H : Heap} {locs : List Loc} {cells slots : Nat} {Q : State → Prop} {cc : ByteArray} {pc nL : Nat} {ls : Array Slot} {rest : List Value} {k : KT} {A : Nat → Prop} {ws : va_W} {H0 : Heap} {a : Nat} (E : E0 p s m c cc nL RX8 k A) (hW : WD k A H0 ws H locs) (q0 : Nat) {fs : List Value} (he : ws[q0]? = some (a, .inr (1, fs))) {v : Value} (hv : fs[4]? = some v) (hdg : decode cc pc = .ok (.getfield 142, 3)) (q : W p l e R s m args below meth c H locs cells slots Q (F0 m (pc + 3) ls (v :: rest))) : W p l e R s m args below meth c H locs cells slots Q (F0 m pc ls (.ref a :: rest)) := va_getN (C := RX2) (T := TX2) (N := 16) (ci := 1) E.hx E.hb (Ts := wsX20) (fun w hw => E.w (inX2 w hw) (tbl_laysX2 w hw)) (fun _ h => h) E.ho E.hK hW.1 q0 he rfl 4 (by decide) (E.w tm_239 rfl) (fun _ h => h) hv hdg q
theorem pf_X3_21 {p : Program} {l : Launch} {e : Env} {R : Room} {s : State} {m : MethodId} {args : Array Value} {below : List Frame} {meth : Method} {c : Code} {H : Heap} {locs : List Loc} {cells slots : Nat} {Q : State → Prop} {cc : ByteArray} {pc nL : Nat} {ls : Array Slot} {rest : List Value} {k : KT} {A : Nat → Prop} {ws ws2 : va_W} {H0 : Heap} {a : Nat} (E : E0 p s m c cc nL RX3 k A) (hW : WD k A H0 ws H locs) (q0 : Nat) {fs : List Value} (he : ws[q0]? = some (a, .inr (2, fs))) {v : Value} (hn : narrow (tyX3 2) v = v) (hfit : fits (tyX3 2) v = true) (hl : 2 < fs.length) (hdg : decode cc pc = .ok (.putfield 21, 3)) (hws : ws.set q0 (a, .inr (2, fs.set 2 v)) = ws2) (q : ∀ (H1 : Heap) (locs1 : List Loc), WD k A H0 ws2 H1 locs1 → W p l e R s m args below meth c H1 locs1 cells slots Q (F0 m (pc + 3) ls rest)) : W p l e R s m args below meth c H locs cells slots Q (F0 m pc ls (v :: .ref a :: rest)) := by
  subst hws
  exact va_put (C := RX3) (T := TX3) (N := 3) (ci := 2) (ty := tyX3 2) E.hx E.hb (Ts := wsX30) (fun w hw => E.w (inX3 w hw) (tbl_laysX3 w hw)) (fun _ h => h) tyX3 tyX3_ok nmX3 E.ho E.hK hW.1 hW.2.1 hW.2.2 q0 he rfl 2 (by decide) (E.w tm_351 rfl) (fun _ h => h) rfl (tyX3_ok 2 (by decide)) hn hfit hl hdg (fun H1 locs1 h1 h2 h3 => q H1 locs1 ⟨h1, h2, h3⟩)
theorem gf_X8_14 {p : Program} {l : Launch} {e : Env} {R : Room} {s : State} {m : MethodId} {args : Array Value} {below : List Frame} {meth : Method} {c : Code} {H : Heap} {locs : List Loc} {cells slots : Nat} {Q : State → Prop} {cc : ByteArray} {pc nL : Nat} {ls : Array Slot} {rest : List Value} {k : KT} {A : Nat → Prop} {ws : va_W} {H0 : Heap} {a : Nat} (E : E0 p s m c cc nL RX8 k A) (hW : WD k A H0 ws H locs) (q0 : Nat) {fs : List Value} (he : ws[q0]? = some (a, .inr (6, fs))) {v : Value} (hv : fs[0]? = some v) (hdg : decode cc pc = .ok (.getfield 14, 3)) (q : W p l e R s m args below meth c H locs cells slots Q (F0 m (pc + 3) ls (v :: rest))) : W p l e R s m args below meth c H locs cells slots Q (F0 m pc ls (.ref a :: rest)) := va_get (C := RX8) (T := TX8) (N := 9) (ci := 6) E.hx E.hb (Ts := wsX80) (fun w hw => E.w (inX8 w hw) (tbl_laysX8 w hw)) (fun _ h => h) E.ho E.hK hW.1 q0 he rfl 0 (by decide) (E.w tm_390 rfl) (fun _ h => h) hv hdg q
theorem gf_X8_75 {p : Program} {l : Launch} {e : Env} {R : Room} {s : State} {m : MethodId} {args : Array Value} {below : List Frame} {meth : Method} {c : Code} {H : Heap} {locs : List Loc} {cells slots : Nat} {Q : State → Prop} {cc : ByteArray} {pc nL : Nat} {ls : Array Slot} {rest : List Value} {k : KT} {A : Nat → Prop} {ws : va_W} {H0 : Heap} {a : Nat} (E : E0 p s m c cc nL RX8 k A) (hW : WD k A H0 ws H locs) (q0 : Nat) {fs : List Value} (he : ws[q0]? = some (a, .inr (0, fs))) {v : Value} (hv : fs[1]? = some v) (hdg : decode cc pc = .ok (.getfield 75, 3)) (q : W p l e R s m args below meth c H locs cells slots Q (F0 m (pc + 3) ls (v :: rest))) : W p l e R s m args below meth c H locs cells slots Q (F0 m pc ls (.ref a :: rest)) := va_getN (C := RX1) (T := TX1) (N := 2) (ci := 0) E.hx E.hb (Ts := wsX10) (fun w hw => E.w (inX1 w hw) (tbl_laysX1 w hw)) (fun _ h => h) E.ho E.hK hW.1 q0 he rfl 1 (by decide) (E.w tm_152 rfl) (fun _ h => h) hv hdg q
theorem pf_X8_75 {p : Program} {l : Launch} {e : Env} {R : Room} {s : State} {m : MethodId} {args : Array Value} {below : List Frame} {meth : Method} {c : Code} {H : Heap} {locs : List Loc} {cells slots : Nat} {Q : State → Prop} {cc : ByteArray} {pc nL : Nat} {ls : Array Slot} {rest : List Value} {k : KT} {A : Nat → Prop} {ws ws2 : va_W} {H0 : Heap} {a : Nat} (E : E0 p s m c cc nL RX8 k A) (hW : WD k A H0 ws H locs) (q0 : Nat) {fs : List Value} (he : ws[q0]? = some (a, .inr (0, fs))) {v : Value} (hn : narrow (tyX1 1) v = v) (hfit : fits (tyX1 1) v = true) (hl : 1 < fs.length) (hdg : decode cc pc = .ok (.putfield 75, 3)) (hws : ws.set q0 (a, .inr (0, fs.set 1 v)) = ws2) (q : ∀ (H1 : Heap) (locs1 : List Loc), WD k A H0 ws2 H1 locs1 → W p l e R s m args below meth c H1 locs1 cells slots Q (F0 m (pc + 3) ls rest)) : W p l e R s m args below meth c H locs cells slots Q (F0 m pc ls (v :: .ref a :: rest)) := by
  subst hws
  exact va_putN (C := RX1) (T := TX1) (N := 2) (ci := 0) (ty := tyX1 1) E.hx E.hb (Ts := wsX10) (fun w hw => E.w (inX1 w hw) (tbl_laysX1 w hw)) (fun _ h => h) tyX1 tyX1_ok nmX1 E.ho E.hK hW.1 hW.2.1 hW.2.2 q0 he rfl 1 (by decide) (E.w tm_152 rfl) (fun _ h => h) rfl (tyX1_ok 1 (by decide)) hn hfit hl hdg (fun H1 locs1 h1 h2 h3 => q H1 locs1 ⟨h1, h2, h3⟩)
theorem gf_X8_43 {p : Program} {l : Launch} {e : Env} {R : Room} {s : State} {m : MethodId} {args : Array Value} {below : List Frame} {meth : Method} {c : Code} {H : Heap} {locs : List Loc} {cells slots : Nat} {Q : State → Prop} {cc : ByteArray} {pc nL : Nat} {ls : Array Slot} {rest : List Value} {k : KT} {A : Nat → Prop} {ws : va_W} {H0 : Heap} {a : Nat} (E : E0 p s m c cc nL RX8 k A) (hW : WD k A H0 ws H locs) (q0 : Nat) {fs : List Value} (he : ws[q0]? = some (a, .inr (6, fs))) {v : Value} (hv : fs[5]? = some v) (hdg : decode cc pc = .ok (.getfield 43, 3)) (q : W p l e R s m args below meth c H locs cells slots Q (F0 m (pc + 3) ls (v :: rest))) : W p l e R s m args below meth c H locs cells slots Q (F0 m pc ls (.ref a :: rest)) := va_get (C := RX8) (T := TX8) (N := 9) (ci := 6) E.hx E.hb (Ts := wsX80) (fun w hw => E.w (inX8 w hw) (tbl_laysX8 w hw)) (fun _ h => h) E.ho E.hK hW.1 q0 he rfl 5 (by decide) (E.w tm_395 rfl) (fun _ h => h) hv hdg q
theorem gf_X8_99 {p : Program} {l : Launch} {e : Env} {R : Room} {s : State} {m : MethodId} {args : Array Value} {below : List Frame} {meth : Method} {c : Code} {H : Heap} {locs : List Loc} {cells slots : Nat} {Q : State → Prop} {cc : ByteArray} {pc nL : Nat} {ls : Array Slot} {rest : List Value} {k : KT} {A : Nat → Prop} {ws : va_W} {H0 : Heap} {a : Nat} (E : E0 p s m c cc nL RX8 k A) (hW : WD k A H0 ws H locs) (q0 : Nat) {fs : List Value} (he : ws[q0]? = some (a, .inr (3, fs))) {v : Value} (hv : fs[3]? = some v) (hdg : decode cc pc = .ok (.getfield 99, 3)) (q : W p l e R s m args below meth c H locs cells slots Q (F0 m (pc + 3) ls (v :: rest))) : W p l e R s m args below meth c H locs cells slots Q (F0 m pc ls (.ref a :: rest)) := va_getN (C := RX4) (T := TX4) (N := 12) (ci := 3) E.hx E.hb (Ts := wsX40) (fun w hw => E.w (inX4 w hw) (tbl_laysX4 w hw)) (fun _ h => h) E.ho E.hK hW.1 q0 he rfl 3 (by decide) (E.w tm_306 rfl) (fun _ h => h) hv hdg q
theorem gf_X8_102 {p : Program} {l : Launch} {e : Env} {R : Room} {s : State} {m : MethodId} {args : Array Value} {below : List Frame} {meth : Method} {c : Code} {H : Heap} {locs : List Loc} {cells slots : Nat} {Q : State → Prop} {cc : ByteArray} {pc nL : Nat} {ls : Array Slot} {rest : List Value} {k : KT} {A : Nat → Prop} {ws : va_W} {H0 : Heap} {a : Nat} (E : E0 p s m c cc nL RX8 k A) (hW : WD k A H0 ws H locs) (q0 : Nat) {fs : List Value} (he : ws[q0]? = some (a, .inr (3, fs))) {v : Value} (hv : fs[4]? = some v) (hdg : decode cc pc = .ok (.getfield 102, 3)) (q : W p l e R s m args below meth c H locs cells slots Q (F0 m (pc + 3) ls (v :: rest))) : W p l e R s m args below meth c H locs cells slots Q (F0 m pc ls (.ref a :: rest)) := va_getN (C := RX4) (T := TX4) (N := 12) (ci := 3) E.hx E.hb (Ts := wsX40) (fun w hw => E.w (inX4 w hw) (tbl_laysX4 w hw)) (fun _ h => h) E.ho E.hK hW.1 q0 he rfl 4 (by decide) (E.w tm_308 rfl) (fun _ h => h) hv hdg q
theorem gf_X8_105 {p : Program} {l : Launch} {e : Env} {R : Room} {s : State} {m : MethodId} {args : Array Value} {below : List Frame} {meth : Method} {c : Code} {H : Heap} {locs : List Loc} {cells slots : Nat} {Q : State → Prop} {cc : ByteArray} {pc nL : Nat} {ls : Array Slot} {rest : List Value} {k : KT} {A : Nat → Prop} {ws : va_W} {H0 : Heap} {a : Nat} (E : E0 p s m c cc nL RX8 k A) (hW : WD k A H0 ws H locs) (q0 : Nat) {fs : List Value} (he : ws[q0]? = some (a, .inr (4, fs))) {v : Value} (hv : fs[0]? = some v) (hdg : decode cc pc = .ok (.getfield 105, 3)) (q : W p l e R s m args below meth c H locs cells slots Q (F0 m (pc + 3) ls (v :: rest))) : W p l e R s m args below meth c H locs cells slots Q (F0 m pc ls (.ref a :: rest)) := va_getN (C := RX5) (T := TX5) (N := 8) (ci := 4) E.hx E.hb (Ts := wsX50) (fun w hw => E.w (inX5 w hw) (tbl_laysX5 w hw)) (fun _ h => h) E.ho E.hK hW.1 q0 he rfl 0 (by decide) (E.w tm_183 rfl) (fun _ h => h) hv hdg q
theorem gf_X8_108 {p : Program} {l : Launch} {e : Env} {R : Room} {s : State} {m : MethodId} {args : Array Value} {below : List Frame} {meth : Method} {c : Code} {H : Heap} {locs : List Loc} {cells slots : Nat} {Q : State → Prop} {cc : ByteArray} {pc nL : Nat} {ls : Array Slot} {rest : List Value} {k : KT} {A : Nat → Prop} {ws : va_W} {H0 : Heap} {a : Nat} (E : E0 p s m c cc nL RX8 k A) (hW : WD k A H0 ws H locs) (q0 : Nat) {fs : List Value} (he : ws[q0]? = some (a, .inr (1, fs))) {v : Value} (hv : fs[0]? = some v) (hdg : decode cc pc = .ok (.getfield 108, 3)) (q : W p l e R s m args below meth c H locs cells slots Q (F0 m (pc + 3) ls (v :: rest))) : W p l e R s m args below meth c H locs cells slots Q (F0 m pc ls (.ref a :: rest)) := va_getN (C := RX2) (T := TX2) (N := 16) (ci := 1) E.hx E.hb (Ts := wsX20) (fun w hw => E.w (inX2 w hw) (tbl_laysX2 w hw)) (fun _ h => h) E.ho E.hK hW.1 q0 he rfl 0 (by decide) (E.w tm_227 rfl) (fun _ h => h) hv hdg q
theorem gf_X8_111 {p : Program} {l : Launch} {e : Env} {R : Room} {s : State} {m : MethodId} {args : Array Value} {below : List Frame} {meth : Method} {c : Code} {H : Heap} {locs : List Loc} {cells slots : Nat} {Q : State → Prop} {cc : ByteArray} {pc nL : Nat} {ls : Array Slot} {rest : List Value} {k : KT} {A : Nat → Prop} {ws : va_W} {H0 : Heap} {a : Nat} (E : E0 p s m c cc nL RX8 k A) (hW : WD k A H0 ws H locs) (q0 : Nat) {fs : List Value} (he : ws[q0]? = some (a, .inr (1, fs))) {v : Value} (hv : fs[1]? = some v) (hdg : decode cc pc = .ok (.getfield 111, 3)) (q : W p l e R s m args below meth c H locs cells slots Q (F0 m (pc + 3) ls (v :: rest))) : W p l e R s m args below meth c H locs cells slots Q (F0 m pc ls (.ref a :: rest)) := va_getN (C := RX2) (T := TX2) (N := 16) (ci := 1) E.hx E.hb (Ts := wsX20) (fun w hw => E.w (inX2 w hw) (tbl_laysX2 w hw)) (fun _ h => h) E.ho E.hK hW.1 q0 he rfl 1 (by decide) (E.w tm_229 rfl) (fun _ h => h) hv hdg q
theorem gf_X8_114 {p : Program} {l : Launch} {e : Env} {R : Room} {s : State} {m : MethodId} {args : Array Value} {below : List Frame} {meth : Method} {c : Code} {H : Heap} {locs : List Loc} {cells slots : Nat} {Q : State → Prop} {cc : ByteArray} {pc nL : Nat} {ls : Array Slot} {rest : List Value} {k : KT} {A : Nat → Prop} {ws : va_W} {H0 : Heap} {a : Nat} (E : E0 p s m c cc nL RX8 k A) (hW : WD k A H0 ws H locs) (q0 : Nat) {fs : List Value} (he : ws[q0]? = some (a, .inr (4, fs))) {v : Value} (hv : fs[2]? = some v) (hdg : decode cc pc = .ok (.getfield 114, 3)) (q : W p l e R s m args below meth c H locs cells slots Q (F0 m (pc + 3) ls (v :: rest))) : W p l e R s m args below meth c H locs cells slots Q (F0 m pc ls (.ref a :: rest)) := va_getN (C := RX5) (T := TX5) (N := 8) (ci := 4) E.hx E.hb (Ts := wsX50) (fun w hw => E.w (inX5 w hw) (tbl_laysX5 w hw)) (fun _ h => h) E.ho E.hK hW.1 q0 he rfl 2 (by decide) (E.w tm_189 rfl) (fun _ h => h) hv hdg q
theorem gf_X8_117 {p : Program} {l : Launch} {e : Env} {R : Room} {s : State} {m : MethodId} {args : Array Value} {below : List Frame} {meth : Method} {c : Code} {H : Heap} {locs : List Loc} {cells slots : Nat} {Q : State → Prop} {cc : ByteArray} {pc nL : Nat} {ls : Array Slot} {rest : List Value} {k : KT} {A : Nat → Prop} {ws : va_W} {H0 : Heap} {a : Nat} (E : E0 p s m c cc nL RX8 k A) (hW : WD k A H0 ws H locs) (q0 : Nat) {fs : List Value} (he : ws[q0]? = some (a, .inr (4, fs))) {v : Value} (hv : fs[3]? = some v) (hdg : decode cc pc = .ok (.getfield 117, 3)) (q : W p l e R s m args below meth c H locs cells slots Q (F0 m (pc + 3) ls (v :: rest))) : W p l e R s m args below meth c H locs cells slots Q (F0 m pc ls (.ref a :: rest)) := va_getN (C := RX5) (T := TX5) (N := 8) (ci := 4) E.hx E.hb (Ts := wsX50) (fun w hw => E.w (inX5 w hw) (tbl_laysX5 w hw)) (fun _ h => h) E.ho E.hK hW.1 q0 he rfl 3 (by decide) (E.w tm_191 rfl) (fun _ h => h) hv hdg q
theorem gf_X8_120 {p : Program} {l : Launch} {e : Env} {R : Room} {s : State} {m : MethodId} {args : Array Value} {below : List Frame} {meth : Method} {c : Code} {H : Heap} {locs : List Loc} {cells slots : Nat} {Q : State → Prop} {cc : ByteArray} {pc nL : Nat} {ls : Array Slot} {rest : List Value} {k : KT} {A : Nat → Prop} {ws : va_W} {H0 : Heap} {a : Nat} (E : E0 p s m c cc nL RX8 k A) (hW : WD k A H0 ws H locs) (q0 : Nat) {fs : List Value} (he : ws[q0]? = some (a, .inr (4, fs))) {v : Value} (hv : fs[4]? = some v) (hdg : decode cc pc = .ok (.getfield 120, 3)) (q : W p l e R s m args below meth c H locs cells slots Q (F0 m (pc + 3) ls (v :: rest))) : W p l e R s m args below meth c H locs cells slots Q (F0 m pc ls (.ref a :: rest)) := va_getN (C := RX5) (T := TX5) (N := 8) (ci := 4) E.hx E.hb (Ts := wsX50) (fun w hw => E.w (inX5 w hw) (tbl_laysX5 w hw)) (fun _ h => h) E.ho E.hK hW.1 q0 he rfl 4 (by decide) (E.w tm_194 rfl) (fun _ h => h) hv hdg q
theorem gf_X8_123 {p : Program} {l : Launch} {e : Env} {R : Room} {s : State} {m : MethodId} {args : Array Value} {below : List Frame} {meth : Method} {c : Code} {H : Heap} {locs : List Loc} {cells slots : Nat} {Q : State → Prop} {cc : ByteArray} {pc nL : Nat} {ls : Array Slot} {rest : List Value} {k : KT} {A : Nat → Prop} {ws : va_W} {H0 : Heap} {a : Nat} (E : E0 p s m c cc nL RX8 k A) (hW : WD k A H0 ws H locs) (q0 : Nat) {fs : List Value} (he : ws[q0]? = some (a, .inr (4, fs))) {v : Value} (hv : fs[5]? = some v) (hdg : decode cc pc = .ok (.getfield 123, 3)) (q : W p l e R s m args below meth c H locs cells slots Q (F0 m (pc + 3) ls (v :: rest))) : W p l e R s m args below meth c H locs cells slots Q (F0 m pc ls (.ref a :: rest)) := va_getN (C := RX5) (T := TX5) (N := 8) (ci := 4) E.hx E.hb (Ts := wsX50) (fun w hw => E.w (inX5 w hw) (tbl_laysX5 w hw)) (fun _ h => h) E.ho E.hK hW.1 q0 he rfl 5 (by decide) (E.w tm_196 rfl) (fun _ h => h) hv hdg q
theorem gf_X8_126 {p : Program} {l : Launch} {e : Env} {R : Room} {s : State} {m : MethodId} {args : Array Value} {below : List Frame} {meth : Method} {c : Code} {H : Heap} {locs : List Loc} {cells slots : Nat} {Q : State → Prop} {cc : ByteArray} {pc nL : Nat} {ls : Array Slot} {rest : List Value} {k : KT} {A : Nat → Prop} {ws : va_W} {H0 : Heap} {a : Nat} (E : E0 p s m c cc nL RX8 k A) (hW : WD k A H0 ws H locs) (q0 : Nat) {fs : List Value} (he : ws[q0]? = some (a, .inr (4, fs))) {v : Value} (hv : fs[6]? = some v) (hdg : decode cc pc = .ok (.getfield 126, 3)) (q : W p l e R s m args below meth c H locs cells slots Q (F0 m (pc + 3) ls (v :: rest))) : W p l e R s m args below meth c H locs cells slots Q (F0 m pc ls (.ref a :: rest)) := va_getN (C := RX5) (T := TX5) (N := 8) (ci := 4) E.hx E.hb (Ts := wsX50) (fun w hw => E.w (inX5 w hw) (tbl_laysX5 w hw)) (fun _ h => h) E.ho E.hK hW.1 q0 he rfl 6 (by decide) (E.w tm_199 rfl) (fun _ h => h) hv hdg q
theorem gf_X8_129 {p : Program} {l : Launch} {e : Env} {R : Room} {s : State} {m : MethodId} {args : Array Value} {below : List Frame} {meth : Method} {c : Code} {H : Heap} {locs : List Loc} {cells slots : Nat} {Q : State → Prop} {cc : ByteArray} {pc nL : Nat} {ls : Array Slot} {rest : List Value} {k : KT} {A : Nat → Prop} {ws : va_W} {H0 : Heap} {a : Nat} (E : E0 p s m c cc nL RX8 k A) (hW : WD k A H0 ws H locs) (q0 : Nat) {fs : List Value} (he : ws[q0]? = some (a, .inr (1, fs))) {v : Value} (hv : fs[2]? = some v) (hdg : decode cc pc = .ok (.getfield 129, 3)) (q : W p l e R s m args below meth c H locs cells slots Q (F0 m (pc + 3) ls (v :: rest))) : W p l e R s m args below meth c H locs cells slots Q (F0 m pc ls (.ref a :: rest)) := va_getN (C := RX2) (T := TX2) (N := 16) (ci := 1) E.hx E.hb (Ts := wsX20) (fun w hw => E.w (inX2 w hw) (tbl_laysX2 w hw)) (fun _ h => h) E.ho E.hK hW.1 q0 he rfl 2 (by decide) (E.w tm_233 rfl) (fun _ h => h) hv hdg q
theorem gf_X8_149 {p : Program} {l : Launch} {e : Env} {R : Room} {s : State} {m : MethodId} {args : Array Value} {below : List Frame} {meth : Method} {c : Code} {H : Heap} {locs : List Loc} {cells slots : Nat} {Q : State → Prop} {cc : ByteArray} {pc nL : Nat} {ls : Array Slot} {rest : List Value} {k : KT} {A : Nat → Prop} {ws : va_W} {H0 : Heap} {a : Nat} (E : E0 p s m c cc nL RX8 k A) (hW : WD k A H0 ws H locs) (q0 : Nat) {fs : List Value} (he : ws[q0]? = some (a, .inr (1, fs))) {v : Value} (hv : fs[6]? = some v) (hdg : decode cc pc = .ok (.getfield 149, 3)) (q : W p l e R s m args below meth c H locs cells slots Q (F0 m (pc + 3) ls (v :: rest))) : W p l e R s m args below meth c H locs cells slots Q (F0 m pc ls (.ref a :: rest)) := va_getN (C := RX2) (T := TX2) (N := 16) (ci := 1) E.hx E.hb (Ts := wsX20) (fun w hw => E.w (inX2 w hw) (tbl_laysX2 w hw)) (fun _ h => h) E.ho E.hK hW.1 q0 he rfl 6 (by decide) (E.w tm_243 rfl) (fun _ h => h) hv hdg q
theorem gf_X8_152 {p : Program} {l : Launch} {e : Env} {R : Room} {s : State} {m : MethodId} {args : Array Value} {below : List Frame} {meth : Method} {c : Code} {H : Heap} {locs : List Loc} {cells slots : Nat} {Q : State → Prop} {cc : ByteArray} {pc nL : Nat} {ls : Array Slot} {rest : List Value} {k : KT} {A : Nat → Prop} {ws : va_W} {H0 : Heap} {a : Nat} (E : E0 p s m c cc nL RX8 k A) (hW : WD k A H0 ws H locs) (q0 : Nat) {fs : List Value} (he : ws[q0]? = some (a, .inr (1, fs))) {v : Value} (hv : fs[5]? = some v) (hdg : decode cc pc = .ok (.getfield 152, 3)) (q : W p l e R s m args below meth c H locs cells slots Q (F0 m (pc + 3) ls (v :: rest))) : W p l e R s m args below meth c H locs cells slots Q (F0 m pc ls (.ref a :: rest)) := va_getN (C := RX2) (T := TX2) (N := 16) (ci := 1) E.hx E.hb (Ts := wsX20) (fun w hw => E.w (inX2 w hw) (tbl_laysX2 w hw)) (fun _ h => h) E.ho E.hK hW.1 q0 he rfl 5 (by decide) (E.w tm_241 rfl) (fun _ h => h) hv hdg q
theorem gf_X8_155 {p : Program} {l : Launch} {e : Env} {R : Room} {s : State} {m : MethodId} {args : Array Value} {below : List Frame} {meth : Method} {c : Code} {H : Heap} {locs : List Loc} {cells slots : Nat} {Q : State → Prop} {cc : ByteArray} {pc nL : Nat} {ls : Array Slot} {rest : List Value} {k : KT} {A : Nat → Prop} {ws : va_W} {H0 : Heap} {a : Nat} (E : E0 p s m c cc nL RX8 k A) (hW : WD k A H0 ws H locs) (q0 : Nat) {fs : List Value} (he : ws[q0]? = some (a, .inr (1, fs))) {v : Value} (hv : fs[8]? = some v) (hdg : decode cc pc = .ok (.getfield 155, 3)) (q : W p l e R s m args below meth c H locs cells slots Q (F0 m (pc + 3) ls (v :: rest))) : W p l e R s m args below meth c H locs cells slots Q (F0 m pc ls (.ref a :: rest)) := va_getN (C := RX2) (T := TX2) (N := 16) (ci := 1) E.hx E.hb (Ts := wsX20) (fun w hw => E.w (inX2 w hw) (tbl_laysX2 w hw)) (fun _ h => h) E.ho E.hK hW.1 q0 he rfl 8 (by decide) (E.w tm_246 rfl) (fun _ h => h) hv hdg q
theorem gf_X8_50 {p : Program} {l : Launch} {e : Env} {R : Room} {s : State} {m : MethodId} {args : Array Value} {below : List Frame} {meth : Method} {c : Code} {H : Heap} {locs : List Loc} {cells slots : Nat} {Q : State → Prop} {cc : ByteArray} {pc nL : Nat} {ls : Array Slot} {rest : List Value} {k : KT} {A : Nat → Prop} {ws : va_W} {H0 : Heap} {a : Nat} (E : E0 p s m c cc nL RX8 k A) (hW : WD k A H0 ws H locs) (q0 : Nat) {fs : List Value} (he : ws[q0]? = some (a, .inr (6, fs))) {v : Value} (hv : fs[6]? = some v) (hdg : decode cc pc = .ok (.getfield 50, 3)) (q : W p l e R s m args below meth c H locs cells slots Q (F0 m (pc + 3) ls (v :: rest))) : W p l e R s m args below meth c H locs cells slots Q (F0 m pc ls (.ref a :: rest)) := va_get (C := RX8) (T := TX8) (N := 9) (ci := 6) E.hx E.hb (Ts := wsX80) (fun w hw => E.w (inX8 w hw) (tbl_laysX8 w hw)) (fun _ h => h) E.ho E.hK hW.1 q0 he rfl 6 (by decide) (E.w tm_396 rfl) (fun _ h => h) hv hdg q
theorem gf_X8_158 {p : Program} {l : Launch} {e : Env} {R : Room} {s : State} {m : MethodId} {args : Array Value} {below : List Frame} {meth : Method} {c : Code} {H : Heap} {locs : List Loc} {cells slots : Nat} {Q : State → Prop} {cc : ByteArray} {pc nL : Nat} {ls : Array Slot} {rest : List Value} {k : KT} {A : Nat → Prop} {ws : va_W} {H0 : Heap} {a : Nat} (E : E0 p s m c cc nL RX8 k A) (hW : WD k A H0 ws H locs) (q0 : Nat) {fs : List Value} (he : ws[q0]? = some (a, .inr (2, fs))) {v : Value} (hv : fs[2]? = some v) (hdg : decode cc pc = .ok (.getfield 158, 3)) (q : W p l e R s m args below meth c H locs cells slots Q (F0 m (pc + 3) ls (v :: rest))) : W p l e R s m args below meth c H locs cells slots Q (F0 m pc ls (.ref a :: rest)) := va_getN (C := RX3) (T := TX3) (N := 3) (ci := 2) E.hx E.hb (Ts := wsX30) (fun w hw => E.w (inX3 w hw) (tbl_laysX3 w hw)) (fun _ h => h) E.ho E.hK hW.1 q0 he rfl 2 (by decide) (E.w tm_352 rfl) (fun _ h => h) hv hdg q
theorem gf_X8_168 {p : Program} {l : Launch} {e : Env} {R : Room} {s : State} {m : MethodId} {args : Array Value} {below : List Frame} {meth : Method} {c : Code} {H : Heap} {locs : List Loc} {cells slots : Nat} {Q : State → Prop} {cc : ByteArray} {pc nL : Nat} {ls : Array Slot} {rest : List Value} {k : KT} {A : Nat → Prop} {ws : va_W} {H0 : Heap} {a : Nat} (E : E0 p s m c cc nL RX8 k A) (hW : WD k A H0 ws H locs) (q0 : Nat) {fs : List Value} (he : ws[q0]? = some (a, .inr (1, fs))) {v : Value} (hv : fs[11]? = some v) (hdg : decode cc pc = .ok (.getfield 168, 3)) (q : W p l e R s m args below meth c H locs cells slots Q (F0 m (pc + 3) ls (v :: rest))) : W p l e R s m args below meth c H locs cells slots Q (F0 m pc ls (.ref a :: rest)) := va_getN (C := RX2) (T := TX2) (N := 16) (ci := 1) E.hx E.hb (Ts := wsX20) (fun w hw => E.w (inX2 w hw) (tbl_laysX2 w hw)) (fun _ h => h) E.ho E.hK hW.1 q0 he rfl 11 (by decide) (E.w tm_250 rfl) (fun _ h => h) hv hdg q
theorem gf_X8_195 {p : Program} {l : Launch} {e : Env} {R : Room} {s : State} {m : MethodId} {args : Array Value} {below : List Frame} {meth : Method} {c : Code} {H : Heap} {locs : List Loc} {cells slots : Nat} {Q : State → Prop} {cc : ByteArray} {pc nL : Nat} {ls : Array Slot} {rest : List Value} {k : KT} {A : Nat → Prop} {ws : va_W} {H0 : Heap} {a : Nat} (E : E0 p s m c cc nL RX8 k A) (hW : WD k A H0 ws H locs) (q0 : Nat) {fs : List Value} (he : ws[q0]? = some (a, .inr (1, fs))) {v : Value} (hv : fs[12]? = some v) (hdg : decode cc pc = .ok (.getfield 195, 3)) (q : W p l e R s m args below meth c H locs cells slots Q (F0 m (pc + 3) ls (v :: rest))) : W p l e R s m args below meth c H locs cells slots Q (F0 m pc ls (.ref a :: rest)) := va_getN (C := RX2) (T := TX2) (N := 16) (ci := 1) E.hx E.hb (Ts := wsX20) (fun w hw => E.w (inX2 w hw) (tbl_laysX2 w hw)) (fun _ h => h) E.ho E.hK hW.1 q0 he rfl 12 (by decide) (E.w tm_252 rfl) (fun _ h => h) hv hdg q
theorem gf_X8_222 {p : Program} {l : Launch} {e : Env} {R : Room} {s : State} {m : MethodId} {args : Array Value} {below : List Frame} {meth : Method} {c : Code} {H : Heap} {locs : List Loc} {cells slots : Nat} {Q : State → Prop} {cc : ByteArray} {pc nL : Nat} {ls : Array Slot} {rest : List Value} {k : KT} {A : Nat → Prop} {ws : va_W} {H0 : Heap} {a : Nat} (E : E0 p s m c cc nL RX8 k A) (hW : WD k A H0 ws H locs) (q0 : Nat) {fs : List Value} (he : ws[q0]? = some (a, .inr (1, fs))) {v : Value} (hv : fs[13]? = some v) (hdg : decode cc pc = .ok (.getfield 222, 3)) (q : W p l e R s m args below meth c H locs cells slots Q (F0 m (pc + 3) ls (v :: rest))) : W p l e R s m args below meth c H locs cells slots Q (F0 m pc ls (.ref a :: rest)) := va_getN (C := RX2) (T := TX2) (N := 16) (ci := 1) E.hx E.hb (Ts := wsX20) (fun w hw => E.w (inX2 w hw) (tbl_laysX2 w hw)) (fun _ h => h) E.ho E.hK hW.1 q0 he rfl 13 (by decide) (E.w tm_254 rfl) (fun _ h => h) hv hdg q
theorem vl_X8_385 : VL RX8 385 RX2 yX2_isKnown cX2_isKnown 2 (some .boolean) 1 := ⟨⟨tm_961, tm_962, tm_963, tm_113, tm_964⟩, by decide +kernel⟩
theorem vl_X8_78 : VL RX8 78 RX1 yX1_putWord cX1_putWord 2 none 1 := ⟨⟨tm_422, tm_423, tm_424, tm_109, tm_425⟩, by decide +kernel⟩
theorem vl_X8_161 : VL RX8 161 RX5 yX5_processNamed cX5_processNamed 5 (some .int) 3 := ⟨⟨tm_673, tm_549, tm_550, tm_111, tm_551⟩, by decide +kernel⟩
theorem vl_X8_135 : VL RX8 135 RX2 yX2_openLoans cX2_openLoans 4 (some .int) 1 := ⟨⟨tm_644, tm_645, tm_646, tm_113, tm_647⟩, by decide +kernel⟩
theorem vl_X8_139 : VL RX8 139 RX2 yX2_brokenLoans cX2_brokenLoans 4 (some .int) 1 := ⟨⟨tm_657, tm_658, tm_659, tm_113, tm_660⟩, by decide +kernel⟩
theorem vl_X8_145 : VL RX8 145 RX2 yX2_claimsThat cX2_claimsThat 5 (some .int) 2 := ⟨⟨tm_665, tm_666, tm_667, tm_113, tm_668⟩, by decide +kernel⟩
theorem vl_X8_165 : VL RX8 165 RX8 yX8_needProcess cX8_needProcess 2 none 1 := ⟨⟨tm_757, tm_759, tms_17, tm_108, tm_760⟩, by decide +kernel⟩
theorem vl_X8_171 : VL RX8 171 RX6 yX6_get cX6_get 4 (some .int) 2 := ⟨⟨tm_829, tm_557, tm_558, tm_112, tm_559⟩, by decide +kernel⟩
theorem vl_X8_176 : VL RX8 176 RX2 yX2_heldPages cX2_heldPages 4 (some .int) 1 := ⟨⟨tm_830, tm_831, tm_832, tm_113, tm_833⟩, by decide +kernel⟩
theorem vl_X8_186 : VL RX8 186 RX8 yX8_needLoan cX8_needLoan 2 none 1 := ⟨⟨tm_842, tm_844, tms_19, tm_108, tm_845⟩, by decide +kernel⟩
theorem vl_X8_191 : VL RX8 191 RX2 yX2_isBroken cX2_isBroken 2 (some .boolean) 1 := ⟨⟨tm_848, tm_662, tm_663, tm_113, tm_664⟩, by decide +kernel⟩
theorem vl_X8_200 : VL RX8 200 RX2 yX2_loanOf cX2_loanOf 2 (some .int) 1 := ⟨⟨tm_857, tm_858, tm_859, tm_113, tm_860⟩, by decide +kernel⟩
theorem vl_X8_203 : VL RX8 203 RX2 yX2_pageAt cX2_pageAt 5 (some .int) 2 := ⟨⟨tm_869, tm_870, tm_871, tm_113, tm_872⟩, by decide +kernel⟩
theorem vl_X8_211 : VL RX8 211 RX2 yX2_rowsOf cX2_rowsOf 8 (some .int) 1 := ⟨⟨tm_896, tm_897, tm_898, tm_113, tm_899⟩, by decide +kernel⟩
theorem vl_X8_214 : VL RX8 214 RX2 yX2_longestRow cX2_longestRow 8 (some .int) 1 := ⟨⟨tm_678, tm_679, tm_680, tm_113, tm_681⟩, by decide +kernel⟩
theorem vl_X8_217 : VL RX8 217 RX8 yX8_needClaim cX8_needClaim 2 none 1 := ⟨⟨tm_907, tm_909, tms_20, tm_108, tm_910⟩, by decide +kernel⟩
theorem vl_X8_225 : VL RX8 225 RX2 yX2_lineUp cX2_lineUp 5 (some .int) 0 := ⟨⟨tm_920, tm_921, tm_922, tm_113, tm_923⟩, by decide +kernel⟩
theorem vl_X8_231 : VL RX8 231 RX2 yX2_inLine cX2_inLine 2 (some .int) 1 := ⟨⟨tm_929, tm_930, tm_931, tm_113, tm_932⟩, by decide +kernel⟩
theorem vl_X8_239 : VL RX8 239 RX8 yX8_needFine cX8_needFine 2 none 1 := ⟨⟨tm_957, tm_959, tms_22, tm_108, tm_960⟩, by decide +kernel⟩
theorem vl_X8_242 : VL RX8 242 RX2 yX2_ofFine cX2_ofFine 3 (some .int) 2 := ⟨⟨tm_966, tm_967, tm_968, tm_113, tm_969⟩, by decide +kernel⟩
theorem vl_X8_245 : VL RX8 245 RX2 yX2_evidenceFor cX2_evidenceFor 6 (some .int) 1 := ⟨⟨tm_977, tm_978, tm_979, tm_113, tm_980⟩, by decide +kernel⟩
theorem vl_X8_248 : VL RX8 248 RX2 yX2_stalledIn cX2_stalledIn 4 (some .boolean) 2 := ⟨⟨tm_993, tm_983, tm_984, tm_113, tm_985⟩, by decide +kernel⟩
theorem vl_X8_252 : VL RX8 252 RX5 yX5_hearingAfter cX5_hearingAfter 3 (some .int) 1 := ⟨⟨tm_687, tm_688, tm_689, tm_111, tm_690⟩, by decide +kernel⟩
theorem vl_X8_255 : VL RX8 255 RX2 yX2_waitingPages cX2_waitingPages 3 (some .int) 0 := ⟨⟨tm_695, tm_696, tm_697, tm_113, tm_698⟩, by decide +kernel⟩
theorem vl_X8_263 : VL RX8 263 RX2 yX2_brokenPages cX2_brokenPages 3 (some .int) 0 := ⟨⟨tm_708, tm_709, tm_710, tm_113, tm_711⟩, by decide +kernel⟩
theorem vl_X8_266 : VL RX8 266 RX2 yX2_earliestBroken cX2_earliestBroken 4 (some .int) 0 := ⟨⟨tm_716, tm_717, tm_718, tm_113, tm_719⟩, by decide +kernel⟩
theorem vl_X8_269 : VL RX8 269 RX2 yX2_greatestRecord cX2_greatestRecord 5 (some .int) 1 := ⟨⟨tm_724, tm_725, tm_726, tm_113, tm_727⟩, by decide +kernel⟩
theorem dX8_needProcess_0 : decode cX8_needProcess 0 = .ok (.iload_n 1, 1) := by decide +kernel
theorem dX8_needProcess_1 : decode cX8_needProcess 1 = .ok (.ifCond .lt 14, 3) := by decide +kernel
theorem dX8_needProcess_4 : decode cX8_needProcess 4 = .ok (.iload_n 1, 1) := by decide +kernel
theorem dX8_needProcess_5 : decode cX8_needProcess 5 = .ok (.aload_n 0, 1) := by decide +kernel
theorem dX8_needProcess_6 : decode cX8_needProcess 6 = .ok (.getfield 24, 3) := by decide +kernel
theorem dX8_needProcess_9 : decode cX8_needProcess 9 = .ok (.getfield 96, 3) := by decide +kernel
theorem dX8_needProcess_12 : decode cX8_needProcess 12 = .ok (.if_icmp .lt 14, 3) := by decide +kernel
theorem dX8_needProcess_15 : decode cX8_needProcess 15 = .ok (.new 179, 3) := by decide +kernel
theorem dX8_needProcess_18 : decode cX8_needProcess 18 = .ok (.dup, 1) := by decide +kernel
theorem dX8_needProcess_19 : decode cX8_needProcess 19 = .ok (.ldc_w 379, 3) := by decide +kernel
theorem dX8_needProcess_22 : decode cX8_needProcess 22 = .ok (.invokespecial 183, 3) := by decide +kernel
theorem dX8_needProcess_25 : decode cX8_needProcess 25 = .ok (.athrow, 1) := by decide +kernel
theorem dX8_needProcess_26 : decode cX8_needProcess 26 = .ok (.return_, 1) := by decide +kernel
theorem dX8_needLoan_0 : decode cX8_needLoan 0 = .ok (.iload_n 1, 1) := by decide +kernel
theorem dX8_needLoan_1 : decode cX8_needLoan 1 = .ok (.ifCond .lt 14, 3) := by decide +kernel
theorem dX8_needLoan_4 : decode cX8_needLoan 4 = .ok (.iload_n 1, 1) := by decide +kernel
theorem dX8_needLoan_5 : decode cX8_needLoan 5 = .ok (.aload_n 0, 1) := by decide +kernel
theorem dX8_needLoan_6 : decode cX8_needLoan 6 = .ok (.getfield 31, 3) := by decide +kernel
theorem dX8_needLoan_9 : decode cX8_needLoan 9 = .ok (.getfield 132, 3) := by decide +kernel
theorem dX8_needLoan_12 : decode cX8_needLoan 12 = .ok (.if_icmp .lt 14, 3) := by decide +kernel
theorem dX8_needLoan_15 : decode cX8_needLoan 15 = .ok (.new 179, 3) := by decide +kernel
theorem dX8_needLoan_18 : decode cX8_needLoan 18 = .ok (.dup, 1) := by decide +kernel
theorem dX8_needLoan_19 : decode cX8_needLoan 19 = .ok (.ldc_w 381, 3) := by decide +kernel
theorem dX8_needLoan_22 : decode cX8_needLoan 22 = .ok (.invokespecial 183, 3) := by decide +kernel
theorem dX8_needLoan_25 : decode cX8_needLoan 25 = .ok (.athrow, 1) := by decide +kernel
theorem dX8_needLoan_26 : decode cX8_needLoan 26 = .ok (.return_, 1) := by decide +kernel
theorem dX8_needClaim_0 : decode cX8_needClaim 0 = .ok (.iload_n 1, 1) := by decide +kernel
theorem dX8_needClaim_1 : decode cX8_needClaim 1 = .ok (.ifCond .lt 14, 3) := by decide +kernel
theorem dX8_needClaim_4 : decode cX8_needClaim 4 = .ok (.iload_n 1, 1) := by decide +kernel
theorem dX8_needClaim_5 : decode cX8_needClaim 5 = .ok (.aload_n 0, 1) := by decide +kernel
theorem dX8_needClaim_6 : decode cX8_needClaim 6 = .ok (.getfield 31, 3) := by decide +kernel
theorem dX8_needClaim_9 : decode cX8_needClaim 9 = .ok (.getfield 142, 3) := by decide +kernel
theorem dX8_needClaim_12 : decode cX8_needClaim 12 = .ok (.if_icmp .lt 14, 3) := by decide +kernel
theorem dX8_needClaim_15 : decode cX8_needClaim 15 = .ok (.new 179, 3) := by decide +kernel
theorem dX8_needClaim_18 : decode cX8_needClaim 18 = .ok (.dup, 1) := by decide +kernel
theorem dX8_needClaim_19 : decode cX8_needClaim 19 = .ok (.ldc_w 383, 3) := by decide +kernel
theorem dX8_needClaim_22 : decode cX8_needClaim 22 = .ok (.invokespecial 183, 3) := by decide +kernel
theorem dX8_needClaim_25 : decode cX8_needClaim 25 = .ok (.athrow, 1) := by decide +kernel
theorem dX8_needClaim_26 : decode cX8_needClaim 26 = .ok (.return_, 1) := by decide +kernel
theorem dX8_needFine_0 : decode cX8_needFine 0 = .ok (.aload_n 0, 1) := by decide +kernel
theorem dX8_needFine_1 : decode cX8_needFine 1 = .ok (.getfield 31, 3) := by decide +kernel
theorem dX8_needFine_4 : decode cX8_needFine 4 = .ok (.iload_n 1, 1) := by decide +kernel
theorem dX8_needFine_5 : decode cX8_needFine 5 = .ok (.invokevirtual 385, 3) := by decide +kernel
theorem dX8_needFine_8 : decode cX8_needFine 8 = .ok (.ifCond .ne 14, 3) := by decide +kernel
theorem dX8_needFine_11 : decode cX8_needFine 11 = .ok (.new 206, 3) := by decide +kernel
theorem dX8_needFine_14 : decode cX8_needFine 14 = .ok (.dup, 1) := by decide +kernel
theorem dX8_needFine_15 : decode cX8_needFine 15 = .ok (.ldc_w 388, 3) := by decide +kernel
theorem dX8_needFine_18 : decode cX8_needFine 18 = .ok (.invokespecial 210, 3) := by decide +kernel
theorem dX8_needFine_21 : decode cX8_needFine 21 = .ok (.athrow, 1) := by decide +kernel
theorem dX8_needFine_22 : decode cX8_needFine 22 = .ok (.return_, 1) := by decide +kernel
theorem dX8_needTicks_0 : decode cX8_needTicks 0 = .ok (.iload_n 1, 1) := by decide +kernel
theorem dX8_needTicks_1 : decode cX8_needTicks 1 = .ok (.iconst 1, 1) := by decide +kernel
theorem dX8_needTicks_2 : decode cX8_needTicks 2 = .ok (.if_icmp .lt 10, 3) := by decide +kernel
theorem dX8_needTicks_5 : decode cX8_needTicks 5 = .ok (.iload_n 1, 1) := by decide +kernel
theorem dX8_needTicks_6 : decode cX8_needTicks 6 = .ok (.sipush 500, 3) := by decide +kernel
theorem dX8_needTicks_9 : decode cX8_needTicks 9 = .ok (.if_icmp .le 14, 3) := by decide +kernel
theorem dX8_needTicks_12 : decode cX8_needTicks 12 = .ok (.new 234, 3) := by decide +kernel
theorem dX8_needTicks_15 : decode cX8_needTicks 15 = .ok (.dup, 1) := by decide +kernel
theorem dX8_needTicks_16 : decode cX8_needTicks 16 = .ok (.ldc_w 313, 3) := by decide +kernel
theorem dX8_needTicks_19 : decode cX8_needTicks 19 = .ok (.invokespecial 238, 3) := by decide +kernel
theorem dX8_needTicks_22 : decode cX8_needTicks 22 = .ok (.athrow, 1) := by decide +kernel
theorem dX8_needTicks_23 : decode cX8_needTicks 23 = .ok (.return_, 1) := by decide +kernel
theorem dX3_forget_0 : decode cX3_forget 0 = .ok (.aload_n 0, 1) := by decide +kernel
theorem dX3_forget_1 : decode cX3_forget 1 = .ok (.iconst 0, 1) := by decide +kernel
theorem dX3_forget_2 : decode cX3_forget 2 = .ok (.putfield 21, 3) := by decide +kernel
theorem dX3_forget_5 : decode cX3_forget 5 = .ok (.return_, 1) := by decide +kernel
theorem dX8_truncate_0 : decode cX8_truncate 0 = .ok (.iload_n 1, 1) := by decide +kernel
theorem dX8_truncate_1 : decode cX8_truncate 1 = .ok (.ifCond .lt 14, 3) := by decide +kernel
theorem dX8_truncate_4 : decode cX8_truncate 4 = .ok (.iload_n 1, 1) := by decide +kernel
theorem dX8_truncate_5 : decode cX8_truncate 5 = .ok (.aload_n 0, 1) := by decide +kernel
theorem dX8_truncate_6 : decode cX8_truncate 6 = .ok (.getfield 14, 3) := by decide +kernel
theorem dX8_truncate_9 : decode cX8_truncate 9 = .ok (.getfield 75, 3) := by decide +kernel
theorem dX8_truncate_12 : decode cX8_truncate 12 = .ok (.if_icmp .le 5, 3) := by decide +kernel
theorem dX8_truncate_15 : decode cX8_truncate 15 = .ok (.iconst 0, 1) := by decide +kernel
theorem dX8_truncate_16 : decode cX8_truncate 16 = .ok (.ireturn, 1) := by decide +kernel
theorem dX8_truncate_17 : decode cX8_truncate 17 = .ok (.aload_n 0, 1) := by decide +kernel
theorem dX8_truncate_18 : decode cX8_truncate 18 = .ok (.getfield 14, 3) := by decide +kernel
theorem dX8_truncate_21 : decode cX8_truncate 21 = .ok (.iload_n 1, 1) := by decide +kernel
theorem dX8_truncate_22 : decode cX8_truncate 22 = .ok (.putfield 75, 3) := by decide +kernel
theorem dX8_truncate_25 : decode cX8_truncate 25 = .ok (.iconst 1, 1) := by decide +kernel
theorem dX8_truncate_26 : decode cX8_truncate 26 = .ok (.ireturn, 1) := by decide +kernel
theorem dX8_feed_0 : decode cX8_feed 0 = .ok (.aload_n 0, 1) := by decide +kernel
theorem dX8_feed_1 : decode cX8_feed 1 = .ok (.getfield 14, 3) := by decide +kernel
theorem dX8_feed_4 : decode cX8_feed 4 = .ok (.getfield 75, 3) := by decide +kernel
theorem dX8_feed_7 : decode cX8_feed 7 = .ok (.bipush 20, 2) := by decide +kernel
theorem dX8_feed_9 : decode cX8_feed 9 = .ok (.iadd, 1) := by decide +kernel
theorem dX8_feed_10 : decode cX8_feed 10 = .ok (.sipush 600, 3) := by decide +kernel
theorem dX8_feed_13 : decode cX8_feed 13 = .ok (.if_icmp .le 5, 3) := by decide +kernel
theorem dX8_feed_16 : decode cX8_feed 16 = .ok (.iconst (-1), 1) := by decide +kernel
theorem dX8_feed_17 : decode cX8_feed 17 = .ok (.ireturn, 1) := by decide +kernel
theorem dX8_feed_18 : decode cX8_feed 18 = .ok (.aload_n 0, 1) := by decide +kernel
theorem dX8_feed_19 : decode cX8_feed 19 = .ok (.getfield 14, 3) := by decide +kernel
theorem dX8_feed_22 : decode cX8_feed 22 = .ok (.iload_n 1, 1) := by decide +kernel
theorem dX8_feed_23 : decode cX8_feed 23 = .ok (.invokevirtual 78, 3) := by decide +kernel
theorem dX8_feed_26 : decode cX8_feed 26 = .ok (.aload_n 0, 1) := by decide +kernel
theorem dX8_feed_27 : decode cX8_feed 27 = .ok (.getfield 14, 3) := by decide +kernel
theorem dX8_feed_30 : decode cX8_feed 30 = .ok (.iload_n 2, 1) := by decide +kernel
theorem dX8_feed_31 : decode cX8_feed 31 = .ok (.invokevirtual 78, 3) := by decide +kernel
theorem dX8_feed_34 : decode cX8_feed 34 = .ok (.aload_n 0, 1) := by decide +kernel
theorem dX8_feed_35 : decode cX8_feed 35 = .ok (.getfield 14, 3) := by decide +kernel
theorem dX8_feed_38 : decode cX8_feed 38 = .ok (.iload_n 3, 1) := by decide +kernel
theorem dX8_feed_39 : decode cX8_feed 39 = .ok (.invokevirtual 78, 3) := by decide +kernel
theorem dX8_feed_42 : decode cX8_feed 42 = .ok (.aload_n 0, 1) := by decide +kernel
theorem dX8_feed_43 : decode cX8_feed 43 = .ok (.getfield 14, 3) := by decide +kernel
theorem dX8_feed_46 : decode cX8_feed 46 = .ok (.iload 4, 2) := by decide +kernel
theorem dX8_feed_48 : decode cX8_feed 48 = .ok (.invokevirtual 78, 3) := by decide +kernel
theorem dX8_feed_51 : decode cX8_feed 51 = .ok (.aload_n 0, 1) := by decide +kernel
theorem dX8_feed_52 : decode cX8_feed 52 = .ok (.getfield 14, 3) := by decide +kernel
theorem dX8_feed_55 : decode cX8_feed 55 = .ok (.iload 5, 2) := by decide +kernel
theorem dX8_feed_57 : decode cX8_feed 57 = .ok (.invokevirtual 78, 3) := by decide +kernel
theorem dX8_feed_60 : decode cX8_feed 60 = .ok (.aload_n 0, 1) := by decide +kernel
theorem dX8_feed_61 : decode cX8_feed 61 = .ok (.getfield 14, 3) := by decide +kernel
theorem dX8_feed_64 : decode cX8_feed 64 = .ok (.getfield 75, 3) := by decide +kernel
theorem dX8_feed_67 : decode cX8_feed 67 = .ok (.ireturn, 1) := by decide +kernel
theorem dX8_errorCode_0 : decode cX8_errorCode 0 = .ok (.aload_n 0, 1) := by decide +kernel
theorem dX8_errorCode_1 : decode cX8_errorCode 1 = .ok (.getfield 43, 3) := by decide +kernel
theorem dX8_errorCode_4 : decode cX8_errorCode 4 = .ok (.getfield 99, 3) := by decide +kernel
theorem dX8_errorCode_7 : decode cX8_errorCode 7 = .ok (.ireturn, 1) := by decide +kernel
theorem dX8_errorOffset_0 : decode cX8_errorOffset 0 = .ok (.aload_n 0, 1) := by decide +kernel
theorem dX8_errorOffset_1 : decode cX8_errorOffset 1 = .ok (.getfield 43, 3) := by decide +kernel
theorem dX8_errorOffset_4 : decode cX8_errorOffset 4 = .ok (.getfield 102, 3) := by decide +kernel
theorem dX8_errorOffset_7 : decode cX8_errorOffset 7 = .ok (.ireturn, 1) := by decide +kernel
theorem dX8_find_0 : decode cX8_find 0 = .ok (.aload_n 0, 1) := by decide +kernel
theorem dX8_find_1 : decode cX8_find 1 = .ok (.getfield 24, 3) := by decide +kernel
theorem dX8_find_4 : decode cX8_find 4 = .ok (.aload_n 0, 1) := by decide +kernel
theorem dX8_find_5 : decode cX8_find 5 = .ok (.getfield 14, 3) := by decide +kernel
theorem dX8_find_8 : decode cX8_find 8 = .ok (.iconst 0, 1) := by decide +kernel
theorem dX8_find_9 : decode cX8_find 9 = .ok (.aload_n 0, 1) := by decide +kernel
theorem dX8_find_10 : decode cX8_find 10 = .ok (.getfield 14, 3) := by decide +kernel
theorem dX8_find_13 : decode cX8_find 13 = .ok (.getfield 75, 3) := by decide +kernel
theorem dX8_find_16 : decode cX8_find 16 = .ok (.invokevirtual 161, 3) := by decide +kernel
theorem dX8_find_19 : decode cX8_find 19 = .ok (.istore_n 1, 1) := by decide +kernel
theorem dX8_find_20 : decode cX8_find 20 = .ok (.aload_n 0, 1) := by decide +kernel
theorem dX8_find_21 : decode cX8_find 21 = .ok (.getfield 14, 3) := by decide +kernel
theorem dX8_find_24 : decode cX8_find 24 = .ok (.iconst 0, 1) := by decide +kernel
theorem dX8_find_25 : decode cX8_find 25 = .ok (.putfield 75, 3) := by decide +kernel
theorem dX8_find_28 : decode cX8_find 28 = .ok (.iload_n 1, 1) := by decide +kernel
theorem dX8_find_29 : decode cX8_find 29 = .ok (.ireturn, 1) := by decide +kernel
theorem dX8_count_0 : decode cX8_count 0 = .ok (.iload_n 1, 1) := by decide +kernel
theorem dX8_count_1 : decode cX8_count 1 = .ok (.tableswitch 275 0 20 #[99, 107, 115, 123, 131, 139, 147, 155, 163, 171, 179, 187, 196, 205, 213, 223, 233, 243, 251, 259, 267], 99) := by decide +kernel
theorem dX8_count_100 : decode cX8_count 100 = .ok (.aload_n 0, 1) := by decide +kernel
theorem dX8_count_101 : decode cX8_count 101 = .ok (.getfield 24, 3) := by decide +kernel
theorem dX8_count_104 : decode cX8_count 104 = .ok (.getfield 105, 3) := by decide +kernel
theorem dX8_count_107 : decode cX8_count 107 = .ok (.ireturn, 1) := by decide +kernel
theorem dX8_count_108 : decode cX8_count 108 = .ok (.aload_n 0, 1) := by decide +kernel
theorem dX8_count_109 : decode cX8_count 109 = .ok (.getfield 24, 3) := by decide +kernel
theorem dX8_count_112 : decode cX8_count 112 = .ok (.getfield 96, 3) := by decide +kernel
theorem dX8_count_115 : decode cX8_count 115 = .ok (.ireturn, 1) := by decide +kernel
theorem dX8_count_116 : decode cX8_count 116 = .ok (.aload_n 0, 1) := by decide +kernel
theorem dX8_count_117 : decode cX8_count 117 = .ok (.getfield 31, 3) := by decide +kernel
theorem dX8_count_120 : decode cX8_count 120 = .ok (.getfield 108, 3) := by decide +kernel
theorem dX8_count_123 : decode cX8_count 123 = .ok (.ireturn, 1) := by decide +kernel
theorem dX8_count_124 : decode cX8_count 124 = .ok (.aload_n 0, 1) := by decide +kernel
theorem dX8_count_125 : decode cX8_count 125 = .ok (.getfield 31, 3) := by decide +kernel
theorem dX8_count_128 : decode cX8_count 128 = .ok (.getfield 111, 3) := by decide +kernel
theorem dX8_count_131 : decode cX8_count 131 = .ok (.ireturn, 1) := by decide +kernel
theorem dX8_count_132 : decode cX8_count 132 = .ok (.aload_n 0, 1) := by decide +kernel
theorem dX8_count_133 : decode cX8_count 133 = .ok (.getfield 24, 3) := by decide +kernel
theorem dX8_count_136 : decode cX8_count 136 = .ok (.getfield 114, 3) := by decide +kernel
theorem dX8_count_139 : decode cX8_count 139 = .ok (.ireturn, 1) := by decide +kernel
theorem dX8_count_140 : decode cX8_count 140 = .ok (.aload_n 0, 1) := by decide +kernel
theorem dX8_count_141 : decode cX8_count 141 = .ok (.getfield 24, 3) := by decide +kernel
theorem dX8_count_144 : decode cX8_count 144 = .ok (.getfield 117, 3) := by decide +kernel
theorem dX8_count_147 : decode cX8_count 147 = .ok (.ireturn, 1) := by decide +kernel
theorem dX8_count_148 : decode cX8_count 148 = .ok (.aload_n 0, 1) := by decide +kernel
theorem dX8_count_149 : decode cX8_count 149 = .ok (.getfield 24, 3) := by decide +kernel
theorem dX8_count_152 : decode cX8_count 152 = .ok (.getfield 120, 3) := by decide +kernel
theorem dX8_count_155 : decode cX8_count 155 = .ok (.ireturn, 1) := by decide +kernel
theorem dX8_count_156 : decode cX8_count 156 = .ok (.aload_n 0, 1) := by decide +kernel
theorem dX8_count_157 : decode cX8_count 157 = .ok (.getfield 24, 3) := by decide +kernel
theorem dX8_count_160 : decode cX8_count 160 = .ok (.getfield 123, 3) := by decide +kernel
theorem dX8_count_163 : decode cX8_count 163 = .ok (.ireturn, 1) := by decide +kernel
theorem dX8_count_164 : decode cX8_count 164 = .ok (.aload_n 0, 1) := by decide +kernel
theorem dX8_count_165 : decode cX8_count 165 = .ok (.getfield 24, 3) := by decide +kernel
theorem dX8_count_168 : decode cX8_count 168 = .ok (.getfield 126, 3) := by decide +kernel
theorem dX8_count_171 : decode cX8_count 171 = .ok (.ireturn, 1) := by decide +kernel
theorem dX8_count_172 : decode cX8_count 172 = .ok (.aload_n 0, 1) := by decide +kernel
theorem dX8_count_173 : decode cX8_count 173 = .ok (.getfield 31, 3) := by decide +kernel
theorem dX8_count_176 : decode cX8_count 176 = .ok (.getfield 129, 3) := by decide +kernel
theorem dX8_count_179 : decode cX8_count 179 = .ok (.ireturn, 1) := by decide +kernel
theorem dX8_count_180 : decode cX8_count 180 = .ok (.aload_n 0, 1) := by decide +kernel
theorem dX8_count_181 : decode cX8_count 181 = .ok (.getfield 31, 3) := by decide +kernel
theorem dX8_count_184 : decode cX8_count 184 = .ok (.getfield 132, 3) := by decide +kernel
theorem dX8_count_187 : decode cX8_count 187 = .ok (.ireturn, 1) := by decide +kernel
theorem dX8_count_188 : decode cX8_count 188 = .ok (.aload_n 0, 1) := by decide +kernel
theorem dX8_count_189 : decode cX8_count 189 = .ok (.getfield 31, 3) := by decide +kernel
theorem dX8_count_192 : decode cX8_count 192 = .ok (.iconst (-1), 1) := by decide +kernel
theorem dX8_count_193 : decode cX8_count 193 = .ok (.invokevirtual 135, 3) := by decide +kernel
theorem dX8_count_196 : decode cX8_count 196 = .ok (.ireturn, 1) := by decide +kernel
theorem dX8_count_197 : decode cX8_count 197 = .ok (.aload_n 0, 1) := by decide +kernel
theorem dX8_count_198 : decode cX8_count 198 = .ok (.getfield 31, 3) := by decide +kernel
theorem dX8_count_201 : decode cX8_count 201 = .ok (.iconst (-1), 1) := by decide +kernel
theorem dX8_count_202 : decode cX8_count 202 = .ok (.invokevirtual 139, 3) := by decide +kernel
theorem dX8_count_205 : decode cX8_count 205 = .ok (.ireturn, 1) := by decide +kernel
theorem dX8_count_206 : decode cX8_count 206 = .ok (.aload_n 0, 1) := by decide +kernel
theorem dX8_count_207 : decode cX8_count 207 = .ok (.getfield 31, 3) := by decide +kernel
theorem dX8_count_210 : decode cX8_count 210 = .ok (.getfield 142, 3) := by decide +kernel
theorem dX8_count_213 : decode cX8_count 213 = .ok (.ireturn, 1) := by decide +kernel
theorem dX8_count_214 : decode cX8_count 214 = .ok (.aload_n 0, 1) := by decide +kernel
theorem dX8_count_215 : decode cX8_count 215 = .ok (.getfield 31, 3) := by decide +kernel
theorem dX8_count_218 : decode cX8_count 218 = .ok (.iconst (-1), 1) := by decide +kernel
theorem dX8_count_219 : decode cX8_count 219 = .ok (.iconst 0, 1) := by decide +kernel
theorem dX8_count_220 : decode cX8_count 220 = .ok (.invokevirtual 145, 3) := by decide +kernel
theorem dX8_count_223 : decode cX8_count 223 = .ok (.ireturn, 1) := by decide +kernel
theorem dX8_count_224 : decode cX8_count 224 = .ok (.aload_n 0, 1) := by decide +kernel
theorem dX8_count_225 : decode cX8_count 225 = .ok (.getfield 31, 3) := by decide +kernel
theorem dX8_count_228 : decode cX8_count 228 = .ok (.iconst (-1), 1) := by decide +kernel
theorem dX8_count_229 : decode cX8_count 229 = .ok (.iconst 1, 1) := by decide +kernel
theorem dX8_count_230 : decode cX8_count 230 = .ok (.invokevirtual 145, 3) := by decide +kernel
theorem dX8_count_233 : decode cX8_count 233 = .ok (.ireturn, 1) := by decide +kernel
theorem dX8_count_234 : decode cX8_count 234 = .ok (.aload_n 0, 1) := by decide +kernel
theorem dX8_count_235 : decode cX8_count 235 = .ok (.getfield 31, 3) := by decide +kernel
theorem dX8_count_238 : decode cX8_count 238 = .ok (.iconst (-1), 1) := by decide +kernel
theorem dX8_count_239 : decode cX8_count 239 = .ok (.iconst 2, 1) := by decide +kernel
theorem dX8_count_240 : decode cX8_count 240 = .ok (.invokevirtual 145, 3) := by decide +kernel
theorem dX8_count_243 : decode cX8_count 243 = .ok (.ireturn, 1) := by decide +kernel
theorem dX8_count_244 : decode cX8_count 244 = .ok (.aload_n 0, 1) := by decide +kernel
theorem dX8_count_245 : decode cX8_count 245 = .ok (.getfield 31, 3) := by decide +kernel
theorem dX8_count_248 : decode cX8_count 248 = .ok (.getfield 149, 3) := by decide +kernel
theorem dX8_count_251 : decode cX8_count 251 = .ok (.ireturn, 1) := by decide +kernel
theorem dX8_count_252 : decode cX8_count 252 = .ok (.aload_n 0, 1) := by decide +kernel
theorem dX8_count_253 : decode cX8_count 253 = .ok (.getfield 31, 3) := by decide +kernel
theorem dX8_count_256 : decode cX8_count 256 = .ok (.getfield 152, 3) := by decide +kernel
theorem dX8_count_259 : decode cX8_count 259 = .ok (.ireturn, 1) := by decide +kernel
theorem dX8_count_260 : decode cX8_count 260 = .ok (.aload_n 0, 1) := by decide +kernel
theorem dX8_count_261 : decode cX8_count 261 = .ok (.getfield 31, 3) := by decide +kernel
theorem dX8_count_264 : decode cX8_count 264 = .ok (.getfield 155, 3) := by decide +kernel
theorem dX8_count_267 : decode cX8_count 267 = .ok (.ireturn, 1) := by decide +kernel
theorem dX8_count_268 : decode cX8_count 268 = .ok (.aload_n 0, 1) := by decide +kernel
theorem dX8_count_269 : decode cX8_count 269 = .ok (.getfield 50, 3) := by decide +kernel
theorem dX8_count_272 : decode cX8_count 272 = .ok (.getfield 158, 3) := by decide +kernel
theorem dX8_count_275 : decode cX8_count 275 = .ok (.ireturn, 1) := by decide +kernel
theorem dX8_count_276 : decode cX8_count 276 = .ok (.iconst (-1), 1) := by decide +kernel
theorem dX8_count_277 : decode cX8_count 277 = .ok (.ireturn, 1) := by decide +kernel
theorem dX8_process_0 : decode cX8_process 0 = .ok (.aload_n 0, 1) := by decide +kernel
theorem dX8_process_1 : decode cX8_process 1 = .ok (.iload_n 1, 1) := by decide +kernel
theorem dX8_process_2 : decode cX8_process 2 = .ok (.invokevirtual 165, 3) := by decide +kernel
theorem dX8_process_5 : decode cX8_process 5 = .ok (.iload_n 2, 1) := by decide +kernel
theorem dX8_process_6 : decode cX8_process 6 = .ok (.tableswitch 166 0 9 #[54, 67, 80, 93, 102, 111, 120, 130, 140, 153], 54) := by decide +kernel
theorem dX8_process_60 : decode cX8_process 60 = .ok (.aload_n 0, 1) := by decide +kernel
theorem dX8_process_61 : decode cX8_process 61 = .ok (.getfield 31, 3) := by decide +kernel
theorem dX8_process_64 : decode cX8_process 64 = .ok (.getfield 168, 3) := by decide +kernel
theorem dX8_process_67 : decode cX8_process 67 = .ok (.iload_n 1, 1) := by decide +kernel
theorem dX8_process_68 : decode cX8_process 68 = .ok (.iconst 0, 1) := by decide +kernel
theorem dX8_process_69 : decode cX8_process 69 = .ok (.invokevirtual 171, 3) := by decide +kernel
theorem dX8_process_72 : decode cX8_process 72 = .ok (.ireturn, 1) := by decide +kernel
theorem dX8_process_73 : decode cX8_process 73 = .ok (.aload_n 0, 1) := by decide +kernel
theorem dX8_process_74 : decode cX8_process 74 = .ok (.getfield 31, 3) := by decide +kernel
theorem dX8_process_77 : decode cX8_process 77 = .ok (.getfield 168, 3) := by decide +kernel
theorem dX8_process_80 : decode cX8_process 80 = .ok (.iload_n 1, 1) := by decide +kernel
theorem dX8_process_81 : decode cX8_process 81 = .ok (.iconst 1, 1) := by decide +kernel
theorem dX8_process_82 : decode cX8_process 82 = .ok (.invokevirtual 171, 3) := by decide +kernel
theorem dX8_process_85 : decode cX8_process 85 = .ok (.ireturn, 1) := by decide +kernel
theorem dX8_process_86 : decode cX8_process 86 = .ok (.aload_n 0, 1) := by decide +kernel
theorem dX8_process_87 : decode cX8_process 87 = .ok (.getfield 31, 3) := by decide +kernel
theorem dX8_process_90 : decode cX8_process 90 = .ok (.getfield 168, 3) := by decide +kernel
theorem dX8_process_93 : decode cX8_process 93 = .ok (.iload_n 1, 1) := by decide +kernel
theorem dX8_process_94 : decode cX8_process 94 = .ok (.iconst 2, 1) := by decide +kernel
theorem dX8_process_95 : decode cX8_process 95 = .ok (.invokevirtual 171, 3) := by decide +kernel
theorem dX8_process_98 : decode cX8_process 98 = .ok (.ireturn, 1) := by decide +kernel
theorem dX8_process_99 : decode cX8_process 99 = .ok (.aload_n 0, 1) := by decide +kernel
theorem dX8_process_100 : decode cX8_process 100 = .ok (.getfield 31, 3) := by decide +kernel
theorem dX8_process_103 : decode cX8_process 103 = .ok (.iload_n 1, 1) := by decide +kernel
theorem dX8_process_104 : decode cX8_process 104 = .ok (.invokevirtual 176, 3) := by decide +kernel
theorem dX8_process_107 : decode cX8_process 107 = .ok (.ireturn, 1) := by decide +kernel
theorem dX8_process_108 : decode cX8_process 108 = .ok (.aload_n 0, 1) := by decide +kernel
theorem dX8_process_109 : decode cX8_process 109 = .ok (.getfield 31, 3) := by decide +kernel
theorem dX8_process_112 : decode cX8_process 112 = .ok (.iload_n 1, 1) := by decide +kernel
theorem dX8_process_113 : decode cX8_process 113 = .ok (.invokevirtual 135, 3) := by decide +kernel
theorem dX8_process_116 : decode cX8_process 116 = .ok (.ireturn, 1) := by decide +kernel
theorem dX8_process_117 : decode cX8_process 117 = .ok (.aload_n 0, 1) := by decide +kernel
theorem dX8_process_118 : decode cX8_process 118 = .ok (.getfield 31, 3) := by decide +kernel
theorem dX8_process_121 : decode cX8_process 121 = .ok (.iload_n 1, 1) := by decide +kernel
theorem dX8_process_122 : decode cX8_process 122 = .ok (.invokevirtual 139, 3) := by decide +kernel
theorem dX8_process_125 : decode cX8_process 125 = .ok (.ireturn, 1) := by decide +kernel
theorem dX8_process_126 : decode cX8_process 126 = .ok (.aload_n 0, 1) := by decide +kernel
theorem dX8_process_127 : decode cX8_process 127 = .ok (.getfield 31, 3) := by decide +kernel
theorem dX8_process_130 : decode cX8_process 130 = .ok (.iload_n 1, 1) := by decide +kernel
theorem dX8_process_131 : decode cX8_process 131 = .ok (.iconst 0, 1) := by decide +kernel
theorem dX8_process_132 : decode cX8_process 132 = .ok (.invokevirtual 145, 3) := by decide +kernel
theorem dX8_process_135 : decode cX8_process 135 = .ok (.ireturn, 1) := by decide +kernel
theorem dX8_process_136 : decode cX8_process 136 = .ok (.aload_n 0, 1) := by decide +kernel
theorem dX8_process_137 : decode cX8_process 137 = .ok (.getfield 31, 3) := by decide +kernel
theorem dX8_process_140 : decode cX8_process 140 = .ok (.iload_n 1, 1) := by decide +kernel
theorem dX8_process_141 : decode cX8_process 141 = .ok (.iconst 1, 1) := by decide +kernel
theorem dX8_process_142 : decode cX8_process 142 = .ok (.invokevirtual 145, 3) := by decide +kernel
theorem dX8_process_145 : decode cX8_process 145 = .ok (.ireturn, 1) := by decide +kernel
theorem dX8_process_146 : decode cX8_process 146 = .ok (.aload_n 0, 1) := by decide +kernel
theorem dX8_process_147 : decode cX8_process 147 = .ok (.getfield 31, 3) := by decide +kernel
theorem dX8_process_150 : decode cX8_process 150 = .ok (.getfield 168, 3) := by decide +kernel
theorem dX8_process_153 : decode cX8_process 153 = .ok (.iload_n 1, 1) := by decide +kernel
theorem dX8_process_154 : decode cX8_process 154 = .ok (.iconst 3, 1) := by decide +kernel
theorem dX8_process_155 : decode cX8_process 155 = .ok (.invokevirtual 171, 3) := by decide +kernel
theorem dX8_process_158 : decode cX8_process 158 = .ok (.ireturn, 1) := by decide +kernel
theorem dX8_process_159 : decode cX8_process 159 = .ok (.aload_n 0, 1) := by decide +kernel
theorem dX8_process_160 : decode cX8_process 160 = .ok (.getfield 31, 3) := by decide +kernel
theorem dX8_process_163 : decode cX8_process 163 = .ok (.getfield 168, 3) := by decide +kernel
theorem dX8_process_166 : decode cX8_process 166 = .ok (.iload_n 1, 1) := by decide +kernel
theorem dX8_process_167 : decode cX8_process 167 = .ok (.iconst 4, 1) := by decide +kernel
theorem dX8_process_168 : decode cX8_process 168 = .ok (.invokevirtual 171, 3) := by decide +kernel
theorem dX8_process_171 : decode cX8_process 171 = .ok (.ireturn, 1) := by decide +kernel
theorem dX8_process_172 : decode cX8_process 172 = .ok (.new 179, 3) := by decide +kernel
theorem dX8_process_175 : decode cX8_process 175 = .ok (.dup, 1) := by decide +kernel
theorem dX8_process_176 : decode cX8_process 176 = .ok (.ldc 181, 2) := by decide +kernel
theorem dX8_process_178 : decode cX8_process 178 = .ok (.invokespecial 183, 3) := by decide +kernel
theorem dX8_process_181 : decode cX8_process 181 = .ok (.athrow, 1) := by decide +kernel
theorem dX8_loan_0 : decode cX8_loan 0 = .ok (.aload_n 0, 1) := by decide +kernel
theorem dX8_loan_1 : decode cX8_loan 1 = .ok (.iload_n 1, 1) := by decide +kernel
theorem dX8_loan_2 : decode cX8_loan 2 = .ok (.invokevirtual 186, 3) := by decide +kernel
theorem dX8_loan_5 : decode cX8_loan 5 = .ok (.iload_n 2, 1) := by decide +kernel
theorem dX8_loan_6 : decode cX8_loan 6 = .ok (.ifCond .lt 9, 3) := by decide +kernel
theorem dX8_loan_9 : decode cX8_loan 9 = .ok (.iload_n 2, 1) := by decide +kernel
theorem dX8_loan_10 : decode cX8_loan 10 = .ok (.bipush 7, 2) := by decide +kernel
theorem dX8_loan_12 : decode cX8_loan 12 = .ok (.if_icmp .le 13, 3) := by decide +kernel
theorem dX8_loan_15 : decode cX8_loan 15 = .ok (.new 179, 3) := by decide +kernel
theorem dX8_loan_18 : decode cX8_loan 18 = .ok (.dup, 1) := by decide +kernel
theorem dX8_loan_19 : decode cX8_loan 19 = .ok (.ldc 189, 2) := by decide +kernel
theorem dX8_loan_21 : decode cX8_loan 21 = .ok (.invokespecial 183, 3) := by decide +kernel
theorem dX8_loan_24 : decode cX8_loan 24 = .ok (.athrow, 1) := by decide +kernel
theorem dX8_loan_25 : decode cX8_loan 25 = .ok (.iload_n 2, 1) := by decide +kernel
theorem dX8_loan_26 : decode cX8_loan 26 = .ok (.iconst 5, 1) := by decide +kernel
theorem dX8_loan_27 : decode cX8_loan 27 = .ok (.if_icmp .ne 20, 3) := by decide +kernel
theorem dX8_loan_30 : decode cX8_loan 30 = .ok (.aload_n 0, 1) := by decide +kernel
theorem dX8_loan_31 : decode cX8_loan 31 = .ok (.getfield 31, 3) := by decide +kernel
theorem dX8_loan_34 : decode cX8_loan 34 = .ok (.iload_n 1, 1) := by decide +kernel
theorem dX8_loan_35 : decode cX8_loan 35 = .ok (.invokevirtual 191, 3) := by decide +kernel
theorem dX8_loan_38 : decode cX8_loan 38 = .ok (.ifCond .eq 7, 3) := by decide +kernel
theorem dX8_loan_41 : decode cX8_loan 41 = .ok (.iconst 1, 1) := by decide +kernel
theorem dX8_loan_42 : decode cX8_loan 42 = .ok (.goto 4, 3) := by decide +kernel
theorem dX8_loan_45 : decode cX8_loan 45 = .ok (.iconst 0, 1) := by decide +kernel
theorem dX8_loan_46 : decode cX8_loan 46 = .ok (.ireturn, 1) := by decide +kernel
theorem dX8_loan_47 : decode cX8_loan 47 = .ok (.aload_n 0, 1) := by decide +kernel
theorem dX8_loan_48 : decode cX8_loan 48 = .ok (.getfield 31, 3) := by decide +kernel
theorem dX8_loan_51 : decode cX8_loan 51 = .ok (.getfield 195, 3) := by decide +kernel
theorem dX8_loan_54 : decode cX8_loan 54 = .ok (.iload_n 1, 1) := by decide +kernel
theorem dX8_loan_55 : decode cX8_loan 55 = .ok (.iload_n 2, 1) := by decide +kernel
theorem dX8_loan_56 : decode cX8_loan 56 = .ok (.invokevirtual 171, 3) := by decide +kernel
theorem dX8_loan_59 : decode cX8_loan 59 = .ok (.ireturn, 1) := by decide +kernel
theorem dX8_page_0 : decode cX8_page 0 = .ok (.iload_n 1, 1) := by decide +kernel
theorem dX8_page_1 : decode cX8_page 1 = .ok (.ifCond .lt 14, 3) := by decide +kernel
theorem dX8_page_4 : decode cX8_page 4 = .ok (.iload_n 1, 1) := by decide +kernel
theorem dX8_page_5 : decode cX8_page 5 = .ok (.aload_n 0, 1) := by decide +kernel
theorem dX8_page_6 : decode cX8_page 6 = .ok (.getfield 24, 3) := by decide +kernel
theorem dX8_page_9 : decode cX8_page 9 = .ok (.getfield 105, 3) := by decide +kernel
theorem dX8_page_12 : decode cX8_page 12 = .ok (.if_icmp .lt 13, 3) := by decide +kernel
theorem dX8_page_15 : decode cX8_page 15 = .ok (.new 179, 3) := by decide +kernel
theorem dX8_page_18 : decode cX8_page 18 = .ok (.dup, 1) := by decide +kernel
theorem dX8_page_19 : decode cX8_page 19 = .ok (.ldc 198, 2) := by decide +kernel
theorem dX8_page_21 : decode cX8_page 21 = .ok (.invokespecial 183, 3) := by decide +kernel
theorem dX8_page_24 : decode cX8_page 24 = .ok (.athrow, 1) := by decide +kernel
theorem dX8_page_25 : decode cX8_page 25 = .ok (.aload_n 0, 1) := by decide +kernel
theorem dX8_page_26 : decode cX8_page 26 = .ok (.getfield 31, 3) := by decide +kernel
theorem dX8_page_29 : decode cX8_page 29 = .ok (.iload_n 1, 1) := by decide +kernel
theorem dX8_page_30 : decode cX8_page 30 = .ok (.invokevirtual 200, 3) := by decide +kernel
theorem dX8_page_33 : decode cX8_page 33 = .ok (.ireturn, 1) := by decide +kernel
theorem dX8_pageOf_0 : decode cX8_pageOf 0 = .ok (.aload_n 0, 1) := by decide +kernel
theorem dX8_pageOf_1 : decode cX8_pageOf 1 = .ok (.iload_n 1, 1) := by decide +kernel
theorem dX8_pageOf_2 : decode cX8_pageOf 2 = .ok (.invokevirtual 186, 3) := by decide +kernel
theorem dX8_pageOf_5 : decode cX8_pageOf 5 = .ok (.aload_n 0, 1) := by decide +kernel
theorem dX8_pageOf_6 : decode cX8_pageOf 6 = .ok (.getfield 31, 3) := by decide +kernel
theorem dX8_pageOf_9 : decode cX8_pageOf 9 = .ok (.iload_n 1, 1) := by decide +kernel
theorem dX8_pageOf_10 : decode cX8_pageOf 10 = .ok (.iload_n 2, 1) := by decide +kernel
theorem dX8_pageOf_11 : decode cX8_pageOf 11 = .ok (.invokevirtual 203, 3) := by decide +kernel
theorem dX8_pageOf_14 : decode cX8_pageOf 14 = .ok (.istore_n 3, 1) := by decide +kernel
theorem dX8_pageOf_15 : decode cX8_pageOf 15 = .ok (.iload_n 3, 1) := by decide +kernel
theorem dX8_pageOf_16 : decode cX8_pageOf 16 = .ok (.iconst (-1), 1) := by decide +kernel
theorem dX8_pageOf_17 : decode cX8_pageOf 17 = .ok (.if_icmp .ne 13, 3) := by decide +kernel
theorem dX8_pageOf_20 : decode cX8_pageOf 20 = .ok (.new 206, 3) := by decide +kernel
theorem dX8_pageOf_23 : decode cX8_pageOf 23 = .ok (.dup, 1) := by decide +kernel
theorem dX8_pageOf_24 : decode cX8_pageOf 24 = .ok (.ldc 208, 2) := by decide +kernel
theorem dX8_pageOf_26 : decode cX8_pageOf 26 = .ok (.invokespecial 210, 3) := by decide +kernel
theorem dX8_pageOf_29 : decode cX8_pageOf 29 = .ok (.athrow, 1) := by decide +kernel
theorem dX8_pageOf_30 : decode cX8_pageOf 30 = .ok (.iload_n 3, 1) := by decide +kernel
theorem dX8_pageOf_31 : decode cX8_pageOf 31 = .ok (.ireturn, 1) := by decide +kernel
theorem dX8_pieces_0 : decode cX8_pieces 0 = .ok (.aload_n 0, 1) := by decide +kernel
theorem dX8_pieces_1 : decode cX8_pieces 1 = .ok (.iload_n 1, 1) := by decide +kernel
theorem dX8_pieces_2 : decode cX8_pieces 2 = .ok (.invokevirtual 186, 3) := by decide +kernel
theorem dX8_pieces_5 : decode cX8_pieces 5 = .ok (.aload_n 0, 1) := by decide +kernel
theorem dX8_pieces_6 : decode cX8_pieces 6 = .ok (.getfield 31, 3) := by decide +kernel
theorem dX8_pieces_9 : decode cX8_pieces 9 = .ok (.iload_n 1, 1) := by decide +kernel
theorem dX8_pieces_10 : decode cX8_pieces 10 = .ok (.invokevirtual 211, 3) := by decide +kernel
theorem dX8_pieces_13 : decode cX8_pieces 13 = .ok (.ireturn, 1) := by decide +kernel
theorem dX8_longestFree_0 : decode cX8_longestFree 0 = .ok (.aload_n 0, 1) := by decide +kernel
theorem dX8_longestFree_1 : decode cX8_longestFree 1 = .ok (.getfield 31, 3) := by decide +kernel
theorem dX8_longestFree_4 : decode cX8_longestFree 4 = .ok (.iconst (-1), 1) := by decide +kernel
theorem dX8_longestFree_5 : decode cX8_longestFree 5 = .ok (.invokevirtual 214, 3) := by decide +kernel
theorem dX8_longestFree_8 : decode cX8_longestFree 8 = .ok (.ireturn, 1) := by decide +kernel
theorem dX8_claim_0 : decode cX8_claim 0 = .ok (.aload_n 0, 1) := by decide +kernel
theorem dX8_claim_1 : decode cX8_claim 1 = .ok (.iload_n 1, 1) := by decide +kernel
theorem dX8_claim_2 : decode cX8_claim 2 = .ok (.invokevirtual 217, 3) := by decide +kernel
theorem dX8_claim_5 : decode cX8_claim 5 = .ok (.iload_n 2, 1) := by decide +kernel
theorem dX8_claim_6 : decode cX8_claim 6 = .ok (.ifCond .lt 9, 3) := by decide +kernel
theorem dX8_claim_9 : decode cX8_claim 9 = .ok (.iload_n 2, 1) := by decide +kernel
theorem dX8_claim_10 : decode cX8_claim 10 = .ok (.bipush 6, 2) := by decide +kernel
theorem dX8_claim_12 : decode cX8_claim 12 = .ok (.if_icmp .le 13, 3) := by decide +kernel
theorem dX8_claim_15 : decode cX8_claim 15 = .ok (.new 179, 3) := by decide +kernel
theorem dX8_claim_18 : decode cX8_claim 18 = .ok (.dup, 1) := by decide +kernel
theorem dX8_claim_19 : decode cX8_claim 19 = .ok (.ldc 220, 2) := by decide +kernel
theorem dX8_claim_21 : decode cX8_claim 21 = .ok (.invokespecial 183, 3) := by decide +kernel
theorem dX8_claim_24 : decode cX8_claim 24 = .ok (.athrow, 1) := by decide +kernel
theorem dX8_claim_25 : decode cX8_claim 25 = .ok (.aload_n 0, 1) := by decide +kernel
theorem dX8_claim_26 : decode cX8_claim 26 = .ok (.getfield 31, 3) := by decide +kernel
theorem dX8_claim_29 : decode cX8_claim 29 = .ok (.getfield 222, 3) := by decide +kernel
theorem dX8_claim_32 : decode cX8_claim 32 = .ok (.iload_n 1, 1) := by decide +kernel
theorem dX8_claim_33 : decode cX8_claim 33 = .ok (.iload_n 2, 1) := by decide +kernel
theorem dX8_claim_34 : decode cX8_claim 34 = .ok (.invokevirtual 171, 3) := by decide +kernel
theorem dX8_claim_37 : decode cX8_claim 37 = .ok (.ireturn, 1) := by decide +kernel
theorem dX8_waiting_0 : decode cX8_waiting 0 = .ok (.aload_n 0, 1) := by decide +kernel
theorem dX8_waiting_1 : decode cX8_waiting 1 = .ok (.getfield 31, 3) := by decide +kernel
theorem dX8_waiting_4 : decode cX8_waiting 4 = .ok (.invokevirtual 225, 3) := by decide +kernel
theorem dX8_waiting_7 : decode cX8_waiting 7 = .ok (.istore_n 2, 1) := by decide +kernel
theorem dX8_waiting_8 : decode cX8_waiting 8 = .ok (.iload_n 1, 1) := by decide +kernel
theorem dX8_waiting_9 : decode cX8_waiting 9 = .ok (.ifCond .lt 8, 3) := by decide +kernel
theorem dX8_waiting_12 : decode cX8_waiting 12 = .ok (.iload_n 1, 1) := by decide +kernel
theorem dX8_waiting_13 : decode cX8_waiting 13 = .ok (.iload_n 2, 1) := by decide +kernel
theorem dX8_waiting_14 : decode cX8_waiting 14 = .ok (.if_icmp .lt 13, 3) := by decide +kernel
theorem dX8_waiting_17 : decode cX8_waiting 17 = .ok (.new 206, 3) := by decide +kernel
theorem dX8_waiting_20 : decode cX8_waiting 20 = .ok (.dup, 1) := by decide +kernel
theorem dX8_waiting_21 : decode cX8_waiting 21 = .ok (.ldc 229, 2) := by decide +kernel
theorem dX8_waiting_23 : decode cX8_waiting 23 = .ok (.invokespecial 210, 3) := by decide +kernel
theorem dX8_waiting_26 : decode cX8_waiting 26 = .ok (.athrow, 1) := by decide +kernel
theorem dX8_waiting_27 : decode cX8_waiting 27 = .ok (.aload_n 0, 1) := by decide +kernel
theorem dX8_waiting_28 : decode cX8_waiting 28 = .ok (.getfield 31, 3) := by decide +kernel
theorem dX8_waiting_31 : decode cX8_waiting 31 = .ok (.iload_n 1, 1) := by decide +kernel
theorem dX8_waiting_32 : decode cX8_waiting 32 = .ok (.invokevirtual 231, 3) := by decide +kernel
theorem dX8_waiting_35 : decode cX8_waiting 35 = .ok (.ireturn, 1) := by decide +kernel
theorem dX8_fine_0 : decode cX8_fine 0 = .ok (.iload_n 2, 1) := by decide +kernel
theorem dX8_fine_1 : decode cX8_fine 1 = .ok (.ifCond .lt 9, 3) := by decide +kernel
theorem dX8_fine_4 : decode cX8_fine 4 = .ok (.iload_n 2, 1) := by decide +kernel
theorem dX8_fine_5 : decode cX8_fine 5 = .ok (.bipush 7, 2) := by decide +kernel
theorem dX8_fine_7 : decode cX8_fine 7 = .ok (.if_icmp .le 13, 3) := by decide +kernel
theorem dX8_fine_10 : decode cX8_fine 10 = .ok (.new 234, 3) := by decide +kernel
theorem dX8_fine_13 : decode cX8_fine 13 = .ok (.dup, 1) := by decide +kernel
theorem dX8_fine_14 : decode cX8_fine 14 = .ok (.ldc 236, 2) := by decide +kernel
theorem dX8_fine_16 : decode cX8_fine 16 = .ok (.invokespecial 238, 3) := by decide +kernel
theorem dX8_fine_19 : decode cX8_fine 19 = .ok (.athrow, 1) := by decide +kernel
theorem dX8_fine_20 : decode cX8_fine 20 = .ok (.aload_n 0, 1) := by decide +kernel
theorem dX8_fine_21 : decode cX8_fine 21 = .ok (.iload_n 1, 1) := by decide +kernel
theorem dX8_fine_22 : decode cX8_fine 22 = .ok (.invokevirtual 239, 3) := by decide +kernel
theorem dX8_fine_25 : decode cX8_fine 25 = .ok (.aload_n 0, 1) := by decide +kernel
theorem dX8_fine_26 : decode cX8_fine 26 = .ok (.getfield 31, 3) := by decide +kernel
theorem dX8_fine_29 : decode cX8_fine 29 = .ok (.iload_n 1, 1) := by decide +kernel
theorem dX8_fine_30 : decode cX8_fine 30 = .ok (.iload_n 2, 1) := by decide +kernel
theorem dX8_fine_31 : decode cX8_fine 31 = .ok (.invokevirtual 242, 3) := by decide +kernel
theorem dX8_fine_34 : decode cX8_fine 34 = .ok (.ireturn, 1) := by decide +kernel
theorem dX8_evidence_0 : decode cX8_evidence 0 = .ok (.aload_n 0, 1) := by decide +kernel
theorem dX8_evidence_1 : decode cX8_evidence 1 = .ok (.iload_n 1, 1) := by decide +kernel
theorem dX8_evidence_2 : decode cX8_evidence 2 = .ok (.invokevirtual 239, 3) := by decide +kernel
theorem dX8_evidence_5 : decode cX8_evidence 5 = .ok (.aload_n 0, 1) := by decide +kernel
theorem dX8_evidence_6 : decode cX8_evidence 6 = .ok (.getfield 31, 3) := by decide +kernel
theorem dX8_evidence_9 : decode cX8_evidence 9 = .ok (.iload_n 1, 1) := by decide +kernel
theorem dX8_evidence_10 : decode cX8_evidence 10 = .ok (.invokevirtual 245, 3) := by decide +kernel
theorem dX8_evidence_13 : decode cX8_evidence 13 = .ok (.ireturn, 1) := by decide +kernel
theorem dX8_wasStalled_0 : decode cX8_wasStalled 0 = .ok (.aload_n 0, 1) := by decide +kernel
theorem dX8_wasStalled_1 : decode cX8_wasStalled 1 = .ok (.iload_n 1, 1) := by decide +kernel
theorem dX8_wasStalled_2 : decode cX8_wasStalled 2 = .ok (.invokevirtual 165, 3) := by decide +kernel
theorem dX8_wasStalled_5 : decode cX8_wasStalled 5 = .ok (.aload_n 0, 1) := by decide +kernel
theorem dX8_wasStalled_6 : decode cX8_wasStalled 6 = .ok (.getfield 31, 3) := by decide +kernel
theorem dX8_wasStalled_9 : decode cX8_wasStalled 9 = .ok (.iload_n 1, 1) := by decide +kernel
theorem dX8_wasStalled_10 : decode cX8_wasStalled 10 = .ok (.iload_n 2, 1) := by decide +kernel
theorem dX8_wasStalled_11 : decode cX8_wasStalled 11 = .ok (.invokevirtual 248, 3) := by decide +kernel
theorem dX8_wasStalled_14 : decode cX8_wasStalled 14 = .ok (.ireturn, 1) := by decide +kernel
theorem dX8_nextHearing_0 : decode cX8_nextHearing 0 = .ok (.aload_n 0, 1) := by decide +kernel
theorem dX8_nextHearing_1 : decode cX8_nextHearing 1 = .ok (.getfield 24, 3) := by decide +kernel
theorem dX8_nextHearing_4 : decode cX8_nextHearing 4 = .ok (.aload_n 0, 1) := by decide +kernel
theorem dX8_nextHearing_5 : decode cX8_nextHearing 5 = .ok (.getfield 31, 3) := by decide +kernel
theorem dX8_nextHearing_8 : decode cX8_nextHearing 8 = .ok (.getfield 108, 3) := by decide +kernel
theorem dX8_nextHearing_11 : decode cX8_nextHearing 11 = .ok (.invokevirtual 252, 3) := by decide +kernel
theorem dX8_nextHearing_14 : decode cX8_nextHearing 14 = .ok (.ireturn, 1) := by decide +kernel
theorem dX8_shortage_0 : decode cX8_shortage 0 = .ok (.iconst 0, 1) := by decide +kernel
theorem dX8_shortage_1 : decode cX8_shortage 1 = .ok (.aload_n 0, 1) := by decide +kernel
theorem dX8_shortage_2 : decode cX8_shortage 2 = .ok (.getfield 31, 3) := by decide +kernel
theorem dX8_shortage_5 : decode cX8_shortage 5 = .ok (.invokevirtual 255, 3) := by decide +kernel
theorem dX8_shortage_8 : decode cX8_shortage 8 = .ok (.aload_n 0, 1) := by decide +kernel
theorem dX8_shortage_9 : decode cX8_shortage 9 = .ok (.getfield 31, 3) := by decide +kernel
theorem dX8_shortage_12 : decode cX8_shortage 12 = .ok (.getfield 129, 3) := by decide +kernel
theorem dX8_shortage_15 : decode cX8_shortage 15 = .ok (.isub, 1) := by decide +kernel
theorem dX8_shortage_16 : decode cX8_shortage 16 = .ok (.invokestatic 258, 3) := by decide +kernel
theorem dX8_shortage_19 : decode cX8_shortage 19 = .ok (.ireturn, 1) := by decide +kernel
theorem dX8_overdue_0 : decode cX8_overdue 0 = .ok (.aload_n 0, 1) := by decide +kernel
theorem dX8_overdue_1 : decode cX8_overdue 1 = .ok (.getfield 31, 3) := by decide +kernel
theorem dX8_overdue_4 : decode cX8_overdue 4 = .ok (.invokevirtual 263, 3) := by decide +kernel
theorem dX8_overdue_7 : decode cX8_overdue 7 = .ok (.ireturn, 1) := by decide +kernel
theorem dX8_firstBroken_0 : decode cX8_firstBroken 0 = .ok (.aload_n 0, 1) := by decide +kernel
theorem dX8_firstBroken_1 : decode cX8_firstBroken 1 = .ok (.getfield 31, 3) := by decide +kernel
theorem dX8_firstBroken_4 : decode cX8_firstBroken 4 = .ok (.invokevirtual 266, 3) := by decide +kernel
theorem dX8_firstBroken_7 : decode cX8_firstBroken 7 = .ok (.ireturn, 1) := by decide +kernel
theorem dX8_worst_0 : decode cX8_worst 0 = .ok (.aload_n 0, 1) := by decide +kernel
theorem dX8_worst_1 : decode cX8_worst 1 = .ok (.getfield 31, 3) := by decide +kernel
theorem dX8_worst_4 : decode cX8_worst 4 = .ok (.aload_n 0, 1) := by decide +kernel
theorem dX8_worst_5 : decode cX8_worst 5 = .ok (.getfield 24, 3) := by decide +kernel
theorem dX8_worst_8 : decode cX8_worst 8 = .ok (.getfield 96, 3) := by decide +kernel
theorem dX8_worst_11 : decode cX8_worst 11 = .ok (.invokevirtual 269, 3) := by decide +kernel
theorem dX8_worst_14 : decode cX8_worst 14 = .ok (.ireturn, 1) := by decide +kernel
def f_X8_needProcess (n : Nat) (sv_th : Value) (th_0 : OS) (ru_0 : OS) (v1_0 : Int32) : Option (Nat) :=
  if v1_0 < 0 then (
  some 1) else (
  if v1_0 < (ru_0.1 1) then (
  some 0) else (
  some 1))
set_option maxHeartbeats 4000000 in
set_option maxRecDepth 100000 in
theorem c_X8_needProcess (n : Nat) (l : Launch) (k : KT) (hx : XH l k) (a_th : Nat → Nat) (a_in : Nat → Nat) (a_ou : Nat → Nat) (a_ru : Nat → Nat) (a_no : Nat → Nat) (a_fo : Nat → Nat) (a_rd : Nat → Nat) (a_pa : Nat → Nat) (sv_th : Value) (th_0 : OS) (ru_0 : OS) (v1_0 : Int32) (res : (Nat)) (hf : f_X8_needProcess n sv_th th_0 ru_0 v1_0 = some res) : CX l k yX8_needProcess cX8_needProcess 2 none 6 1 6 82 [.ref (a_th 0), .int v1_0] (wMCo k a_th (a_in 0) (a_ou 0) (a_ru 0) (a_no 0) (a_fo 0) (a_rd 0) (a_pa 0) sv_th th_0 ++ wRules k a_ru ru_0) (Qv k (fun u : Unit => wMCo k a_th (a_in 0) (a_ou 0) (a_ru 0) (a_no 0) (a_fo 0) (a_rd 0) (a_pa 0) sv_th th_0 ++ wRules k a_ru ru_0) (fun u : Unit => res = 0)) (Xq k (fun u : Unit => wMCo k a_th (a_in 0) (a_ou 0) (a_ru 0) (a_no 0) (a_fo 0) (a_rd 0) (a_pa 0) sv_th th_0 ++ wRules k a_ru ru_0) (fun (cd : Nat) (u : Unit) => cd ≠ 0 ∧ res = cd)) := by
  refine CX.ofV hx rfl (by decide) (Nat.le_of_ble_eq_true rfl) (by decide) (by decide) (fun p e s m args below meth c A Q E hnm hW hA hret hout hthr ls hl => ?_)
  have hl : lv_has ls 2 [(0, .ref (a_th 0)), (1, .int v1_0)] := hl
  unfold f_X8_needProcess at hf
  refine k_iload_n E hl 1 dX8_needProcess_0 rfl ?_
  refine lv_if_lt (tgt := 15) E.hx E.hb dX8_needProcess_1 (by decide) (fun hc => ?_) (fun hc => ?_)
  · have hf := oT hc hf
    exact hthr 1 () _ _ _ _ _ _ _ _ _ _ _ xr_1 xt_379 ⟨by decide, (Option.some.inj hf).symm⟩ hW hl ⟨dX8_needProcess_15, dX8_needProcess_18, Or.inr ⟨dX8_needProcess_19, dX8_needProcess_22, dX8_needProcess_25⟩⟩ (by decide) (by decide)
  · have hf := oF hc hf
    refine k_iload_n E hl 1 dX8_needProcess_4 rfl ?_
    refine k_aload_n E hl 0 dX8_needProcess_5 rfl ?_
    refine gf_X8_24 E hW 0 rfl rfl dX8_needProcess_6 ?_
    refine gf_X8_96 E hW 1 rfl rfl dX8_needProcess_9 ?_
    refine lv_icmp_lt (tgt := 26) E.hx E.hb dX8_needProcess_12 (by decide) (fun hc => ?_) (fun hc => ?_)
    · have hf := oT hc hf
      exact hret () _ _ _ _ _ _ hW (Option.some.inj hf).symm (by decide) (by decide) dX8_needProcess_26
    · have hf := oF hc hf
      exact hthr 1 () _ _ _ _ _ _ _ _ _ _ _ xr_1 xt_379 ⟨by decide, (Option.some.inj hf).symm⟩ hW hl ⟨dX8_needProcess_15, dX8_needProcess_18, Or.inr ⟨dX8_needProcess_19, dX8_needProcess_22, dX8_needProcess_25⟩⟩ (by decide) (by decide)
def f_X8_needLoan (n : Nat) (sv_th : Value) (th_0 : OS) (no_0 : OS) (v1_0 : Int32) : Option (Nat) :=
  if v1_0 < 0 then (
  some 1) else (
  if v1_0 < (no_0.1 3) then (
  some 0) else (
  some 1))
set_option maxHeartbeats 4000000 in
set_option maxRecDepth 100000 in
theorem c_X8_needLoan (n : Nat) (l : Launch) (k : KT) (hx : XH l k) (a_th : Nat → Nat) (a_in : Nat → Nat) (a_ou : Nat → Nat) (a_ru : Nat → Nat) (a_no : Nat → Nat) (a_fo : Nat → Nat) (a_rd : Nat → Nat) (a_pa : Nat → Nat) (sv_th : Value) (th_0 : OS) (no_0 : OS) (v1_0 : Int32) (res : (Nat)) (hf : f_X8_needLoan n sv_th th_0 no_0 v1_0 = some res) : CX l k yX8_needLoan cX8_needLoan 2 none 6 1 6 82 [.ref (a_th 0), .int v1_0] (wMCo k a_th (a_in 0) (a_ou 0) (a_ru 0) (a_no 0) (a_fo 0) (a_rd 0) (a_pa 0) sv_th th_0 ++ wCourt k a_no no_0) (Qv k (fun u : Unit => wMCo k a_th (a_in 0) (a_ou 0) (a_ru 0) (a_no 0) (a_fo 0) (a_rd 0) (a_pa 0) sv_th th_0 ++ wCourt k a_no no_0) (fun u : Unit => res = 0)) (Xq k (fun u : Unit => wMCo k a_th (a_in 0) (a_ou 0) (a_ru 0) (a_no 0) (a_fo 0) (a_rd 0) (a_pa 0) sv_th th_0 ++ wCourt k a_no no_0) (fun (cd : Nat) (u : Unit) => cd ≠ 0 ∧ res = cd)) := by
  refine CX.ofV hx rfl (by decide) (Nat.le_of_ble_eq_true rfl) (by decide) (by decide) (fun p e s m args below meth c A Q E hnm hW hA hret hout hthr ls hl => ?_)
  have hl : lv_has ls 2 [(0, .ref (a_th 0)), (1, .int v1_0)] := hl
  unfold f_X8_needLoan at hf
  refine k_iload_n E hl 1 dX8_needLoan_0 rfl ?_
  refine lv_if_lt (tgt := 15) E.hx E.hb dX8_needLoan_1 (by decide) (fun hc => ?_) (fun hc => ?_)
  · have hf := oT hc hf
    exact hthr 1 () _ _ _ _ _ _ _ _ _ _ _ xr_1 xt_381 ⟨by decide, (Option.some.inj hf).symm⟩ hW hl ⟨dX8_needLoan_15, dX8_needLoan_18, Or.inr ⟨dX8_needLoan_19, dX8_needLoan_22, dX8_needLoan_25⟩⟩ (by decide) (by decide)
  · have hf := oF hc hf
    refine k_iload_n E hl 1 dX8_needLoan_4 rfl ?_
    refine k_aload_n E hl 0 dX8_needLoan_5 rfl ?_
    refine gf_X8_31 E hW 0 rfl rfl dX8_needLoan_6 ?_
    refine gf_X8_132 E hW 1 rfl rfl dX8_needLoan_9 ?_
    refine lv_icmp_lt (tgt := 26) E.hx E.hb dX8_needLoan_12 (by decide) (fun hc => ?_) (fun hc => ?_)
    · have hf := oT hc hf
      exact hret () _ _ _ _ _ _ hW (Option.some.inj hf).symm (by decide) (by decide) dX8_needLoan_26
    · have hf := oF hc hf
      exact hthr 1 () _ _ _ _ _ _ _ _ _ _ _ xr_1 xt_381 ⟨by decide, (Option.some.inj hf).symm⟩ hW hl ⟨dX8_needLoan_15, dX8_needLoan_18, Or.inr ⟨dX8_needLoan_19, dX8_needLoan_22, dX8_needLoan_25⟩⟩ (by decide) (by decide)
def f_X8_needClaim (n : Nat) (sv_th : Value) (th_0 : OS) (no_0 : OS) (v1_0 : Int32) : Option (Nat) :=
  if v1_0 < 0 then (
  some 1) else (
  if v1_0 < (no_0.1 4) then (
  some 0) else (
  some 1))
set_option maxHeartbeats 4000000 in
set_option maxRecDepth 100000 in
theorem c_X8_needClaim (n : Nat) (l : Launch) (k : KT) (hx : XH l k) (a_th : Nat → Nat) (a_in : Nat → Nat) (a_ou : Nat → Nat) (a_ru : Nat → Nat) (a_no : Nat → Nat) (a_fo : Nat → Nat) (a_rd : Nat → Nat) (a_pa : Nat → Nat) (sv_th : Value) (th_0 : OS) (no_0 : OS) (v1_0 : Int32) (res : (Nat)) (hf : f_X8_needClaim n sv_th th_0 no_0 v1_0 = some res) : CX l k yX8_needClaim cX8_needClaim 2 none 6 1 6 82 [.ref (a_th 0), .int v1_0] (wMCo k a_th (a_in 0) (a_ou 0) (a_ru 0) (a_no 0) (a_fo 0) (a_rd 0) (a_pa 0) sv_th th_0 ++ wCourt k a_no no_0) (Qv k (fun u : Unit => wMCo k a_th (a_in 0) (a_ou 0) (a_ru 0) (a_no 0) (a_fo 0) (a_rd 0) (a_pa 0) sv_th th_0 ++ wCourt k a_no no_0) (fun u : Unit => res = 0)) (Xq k (fun u : Unit => wMCo k a_th (a_in 0) (a_ou 0) (a_ru 0) (a_no 0) (a_fo 0) (a_rd 0) (a_pa 0) sv_th th_0 ++ wCourt k a_no no_0) (fun (cd : Nat) (u : Unit) => cd ≠ 0 ∧ res = cd)) := by
  refine CX.ofV hx rfl (by decide) (Nat.le_of_ble_eq_true rfl) (by decide) (by decide) (fun p e s m args below meth c A Q E hnm hW hA hret hout hthr ls hl => ?_)
  have hl : lv_has ls 2 [(0, .ref (a_th 0)), (1, .int v1_0)] := hl
  unfold f_X8_needClaim at hf
  refine k_iload_n E hl 1 dX8_needClaim_0 rfl ?_
  refine lv_if_lt (tgt := 15) E.hx E.hb dX8_needClaim_1 (by decide) (fun hc => ?_) (fun hc => ?_)
  · have hf := oT hc hf
    exact hthr 1 () _ _ _ _ _ _ _ _ _ _ _ xr_1 xt_383 ⟨by decide, (Option.some.inj hf).symm⟩ hW hl ⟨dX8_needClaim_15, dX8_needClaim_18, Or.inr ⟨dX8_needClaim_19, dX8_needClaim_22, dX8_needClaim_25⟩⟩ (by decide) (by decide)
  · have hf := oF hc hf
    refine k_iload_n E hl 1 dX8_needClaim_4 rfl ?_
    refine k_aload_n E hl 0 dX8_needClaim_5 rfl ?_
    refine gf_X8_31 E hW 0 rfl rfl dX8_needClaim_6 ?_
    refine gf_X8_142 E hW 1 rfl rfl dX8_needClaim_9 ?_
    refine lv_icmp_lt (tgt := 26) E.hx E.hb dX8_needClaim_12 (by decide) (fun hc => ?_) (fun hc => ?_)
    · have hf := oT hc hf
      exact hret () _ _ _ _ _ _ hW (Option.some.inj hf).symm (by decide) (by decide) dX8_needClaim_26
    · have hf := oF hc hf
      exact hthr 1 () _ _ _ _ _ _ _ _ _ _ _ xr_1 xt_383 ⟨by decide, (Option.some.inj hf).symm⟩ hW hl ⟨dX8_needClaim_15, dX8_needClaim_18, Or.inr ⟨dX8_needClaim_19, dX8_needClaim_22, dX8_needClaim_25⟩⟩ (by decide) (by decide)
def f_X8_needFine (n : Nat) (sv_th : Value) (th_0 : OS) (no_0 : OS) (v1_0 : Int32) : Option (Nat) :=
  bnd (f_X2_isKnown n no_0 v1_0) (fun (r_1 : Int32) =>
  if r_1 = 0 then (
  some 4) else (
  some 0))
set_option maxHeartbeats 4000000 in
set_option maxRecDepth 100000 in
theorem c_X8_needFine (n : Nat) (l : Launch) (k : KT) (hx : XH l k) (a_th : Nat → Nat) (a_in : Nat → Nat) (a_ou : Nat → Nat) (a_ru : Nat → Nat) (a_no : Nat → Nat) (a_fo : Nat → Nat) (a_rd : Nat → Nat) (a_pa : Nat → Nat) (sv_th : Value) (th_0 : OS) (no_0 : OS) (v1_0 : Int32) (res : (Nat)) (hf : f_X8_needFine n sv_th th_0 no_0 v1_0 = some res) : CX l k yX8_needFine cX8_needFine 2 none 6 1 6 82 [.ref (a_th 0), .int v1_0] (wMCo k a_th (a_in 0) (a_ou 0) (a_ru 0) (a_no 0) (a_fo 0) (a_rd 0) (a_pa 0) sv_th th_0 ++ wCourt k a_no no_0) (Qv k (fun u : Unit => wMCo k a_th (a_in 0) (a_ou 0) (a_ru 0) (a_no 0) (a_fo 0) (a_rd 0) (a_pa 0) sv_th th_0 ++ wCourt k a_no no_0) (fun u : Unit => res = 0)) (Xq k (fun u : Unit => wMCo k a_th (a_in 0) (a_ou 0) (a_ru 0) (a_no 0) (a_fo 0) (a_rd 0) (a_pa 0) sv_th th_0 ++ wCourt k a_no no_0) (fun (cd : Nat) (u : Unit) => cd ≠ 0 ∧ res = cd)) := by
  refine CX.ofV hx rfl (by decide) (Nat.le_of_ble_eq_true rfl) (by decide) (by decide) (fun p e s m args below meth c A Q E hnm hW hA hret hout hthr ls hl => ?_)
  have hl : lv_has ls 2 [(0, .ref (a_th 0)), (1, .int v1_0)] := hl
  unfold f_X8_needFine at hf
  refine k_aload_n E hl 0 dX8_needFine_0 rfl ?_
  refine gf_X8_31 E hW 0 rfl rfl dX8_needFine_1 ?_
  refine k_iload_n E hl 1 dX8_needFine_4 rfl ?_
  obtain ⟨r_1, hg, hf⟩ := ob hf
  refine k_callVi (As := [.int v1_0]) (rest := []) (ws2 := fun u => wMCo k a_th (a_in 0) (a_ou 0) (a_ru 0) (a_no 0) (a_fo 0) (a_rd 0) (a_pa 0) sv_th th_0 ++ wCourt k a_no no_0) (c_X2_isKnown n l k a_no no_0 v1_0 r_1 hg) E vl_X8_385 dX8_needFine_5 rfl [1, 2, 3, 4, 5, 6, 7, 8, 9, 10, 11, 12] 1 1 hW hA hl rfl rfl rfl rfl ⟨by decide, by decide⟩ ⟨by decide, by decide⟩ (Nat.le_of_ble_eq_true rfl) rfl (fun _ => rfl) (fun _ => rfl) (fun r u H locs hp hW => ?_)
  cases hp
  have hW : WD k A s.heap (wMCo k a_th (a_in 0) (a_ou 0) (a_ru 0) (a_no 0) (a_fo 0) (a_rd 0) (a_pa 0) sv_th th_0 ++ wCourt k a_no no_0) H locs := hW
  refine lv_if_ne (tgt := 22) E.hx E.hb dX8_needFine_8 (by decide) (fun hc => ?_) (fun hc => ?_)
  · have hf := oF hc hf
    exact hret () _ _ _ _ _ _ hW (Option.some.inj hf).symm (by decide) (by decide) dX8_needFine_22
  · have hf := oT hc hf
    exact hthr 4 () _ _ _ _ _ _ _ _ _ _ _ xr_4 xt_388 ⟨by decide, (Option.some.inj hf).symm⟩ hW hl ⟨dX8_needFine_11, dX8_needFine_14, Or.inr ⟨dX8_needFine_15, dX8_needFine_18, dX8_needFine_21⟩⟩ (by decide) (by decide)
def f_X8_needTicks (n : Nat) (sv_th : Value) (th_0 : OS) (v1_0 : Int32) : Option (Nat) :=
  if v1_0 < (1 : Int32) then (
  some 2) else (
  if v1_0 ≤ (500 : Int32) then (
  some 0) else (
  some 2))
set_option maxHeartbeats 4000000 in
set_option maxRecDepth 100000 in
theorem c_X8_needTicks (n : Nat) (l : Launch) (k : KT) (hx : XH l k) (a_th : Nat → Nat) (a_in : Nat → Nat) (a_ou : Nat → Nat) (a_ru : Nat → Nat) (a_no : Nat → Nat) (a_fo : Nat → Nat) (a_rd : Nat → Nat) (a_pa : Nat → Nat) (sv_th : Value) (th_0 : OS) (v1_0 : Int32) (res : (Nat)) (hf : f_X8_needTicks n sv_th th_0 v1_0 = some res) : CX l k yX8_needTicks cX8_needTicks 2 none 6 1 6 82 [.ref (a_th 0), .int v1_0] (wMCo k a_th (a_in 0) (a_ou 0) (a_ru 0) (a_no 0) (a_fo 0) (a_rd 0) (a_pa 0) sv_th th_0) (Qv k (fun u : Unit => wMCo k a_th (a_in 0) (a_ou 0) (a_ru 0) (a_no 0) (a_fo 0) (a_rd 0) (a_pa 0) sv_th th_0) (fun u : Unit => res = 0)) (Xq k (fun u : Unit => wMCo k a_th (a_in 0) (a_ou 0) (a_ru 0) (a_no 0) (a_fo 0) (a_rd 0) (a_pa 0) sv_th th_0) (fun (cd : Nat) (u : Unit) => cd ≠ 0 ∧ res = cd)) := by
  refine CX.ofV hx rfl (by decide) (Nat.le_of_ble_eq_true rfl) (by decide) (by decide) (fun p e s m args below meth c A Q E hnm hW hA hret hout hthr ls hl => ?_)
  have hl : lv_has ls 2 [(0, .ref (a_th 0)), (1, .int v1_0)] := hl
  unfold f_X8_needTicks at hf
  refine k_iload_n E hl 1 dX8_needTicks_0 rfl ?_
  refine lv_iconst (v := (1 : Int32)) E.hx E.hb dX8_needTicks_1 ic_1 ?_
  refine lv_icmp_lt (tgt := 12) E.hx E.hb dX8_needTicks_2 (by decide) (fun hc => ?_) (fun hc => ?_)
  · have hf := oT hc hf
    exact hthr 2 () _ _ _ _ _ _ _ _ _ _ _ xr_2 xt_313 ⟨by decide, (Option.some.inj hf).symm⟩ hW hl ⟨dX8_needTicks_12, dX8_needTicks_15, Or.inr ⟨dX8_needTicks_16, dX8_needTicks_19, dX8_needTicks_22⟩⟩ (by decide) (by decide)
  · have hf := oF hc hf
    refine k_iload_n E hl 1 dX8_needTicks_5 rfl ?_
    refine lv_sipush (v := (500 : Int32)) E.hx E.hb dX8_needTicks_6 sp_500 ?_
    refine lv_icmp_le (tgt := 23) E.hx E.hb dX8_needTicks_9 (by decide) (fun hc => ?_) (fun hc => ?_)
    · have hf := oT hc hf
      exact hret () _ _ _ _ _ _ hW (Option.some.inj hf).symm (by decide) (by decide) dX8_needTicks_23
    · have hf := oF hc hf
      exact hthr 2 () _ _ _ _ _ _ _ _ _ _ _ xr_2 xt_313 ⟨by decide, (Option.some.inj hf).symm⟩ hW hl ⟨dX8_needTicks_12, dX8_needTicks_15, Or.inr ⟨dX8_needTicks_16, dX8_needTicks_19, dX8_needTicks_22⟩⟩ (by decide) (by decide)
def f_X3_forget (n : Nat) (th_0 : PS) : Option (PS) :=
  Let (pI th_0 2 (0 : Int32)) (fun th_1 : PS =>
  some th_1)
set_option maxHeartbeats 4000000 in
set_option maxRecDepth 100000 in
theorem c_X3_forget (n : Nat) (l : Launch) (k : KT) (a_th : Nat → Nat) (pp_0 : Nat → Nat → Nat) (th_0 : PS) (res : (PS)) (hf : f_X3_forget n th_0 = some res) : CG l k yX3_forget cX3_forget 1 none 0 0 0 0 [.ref (a_th 0)] (wPast k a_th pp_0 th_0) (Qv k (fun u : PS => wPast k a_th pp_0 u) (fun u : PS => res = u)) := by
  refine CG.ofV (by decide) (Nat.le_of_ble_eq_true rfl) (fun p e s m args below meth c A Q E hnm hW hA hret ls hl => ?_)
  have hl : lv_has ls 1 [(0, .ref (a_th 0))] := hl
  unfold f_X3_forget at hf
  refine k_aload_n E hl 0 dX3_forget_0 rfl ?_
  refine lv_iconst (v := (0 : Int32)) E.hx E.hb dX3_forget_1 ic_0 ?_
  obtain ⟨th_1, eth_1, hf⟩ := oL hf
  refine pf_X3_21 (ws2 := wPast k a_th pp_0 th_1) E hW 0 rfl rfl rfl (Nat.le_of_ble_eq_true rfl) dX3_forget_2 (by rw [eth_1]; rfl) (fun H locs hW => ?_)
  exact hret th_1 _ _ _ _ _ _ hW (Option.some.inj hf).symm (by decide) (by decide) dX3_forget_5
def f_X8_truncate (n : Nat) (sv_th : Value) (th_0 : OS) (z_in : Nat) (in_0 : OS) (v1_0 : Int32) : Option (OS × Int32) :=
  if v1_0 < 0 then (
  some (in_0, (0 : Int32))) else (
  if v1_0 ≤ (in_0.1 1) then (
  Let (sI in_0 1 v1_0) (fun in_1 : OS =>
  some (in_1, (1 : Int32)))) else (
  some (in_0, (0 : Int32))))
set_option maxHeartbeats 4000000 in
set_option maxRecDepth 100000 in
theorem c_X8_truncate (n : Nat) (l : Launch) (k : KT) (a_th : Nat → Nat) (a_in : Nat → Nat) (a_ou : Nat → Nat) (a_ru : Nat → Nat) (a_no : Nat → Nat) (a_fo : Nat → Nat) (a_rd : Nat → Nat) (a_pa : Nat → Nat) (sv_th : Value) (th_0 : OS) (z_in : Nat) (in_0 : OS) (v1_0 : Int32) (res : (OS × Int32)) (hf : f_X8_truncate n sv_th th_0 z_in in_0 v1_0 = some res) : CG l k yX8_truncate cX8_truncate 2 (some .boolean) 0 0 0 0 [.ref (a_th 0), .int v1_0] (wMCo k a_th (a_in 0) (a_ou 0) (a_ru 0) (a_no 0) (a_fo 0) (a_rd 0) (a_pa 0) sv_th th_0 ++ wBytes k a_in z_in in_0) (Qi k (fun u : OS => wMCo k a_th (a_in 0) (a_ou 0) (a_ru 0) (a_no 0) (a_fo 0) (a_rd 0) (a_pa 0) sv_th th_0 ++ wBytes k a_in z_in u) (fun (r : Int32) (u : OS) => res = (u, r))) := by
  refine CG.ofI (by decide) (Nat.le_of_ble_eq_true rfl) (fun p e s m args below meth c A Q E hnm hW hA hret ls hl => ?_)
  have hl : lv_has ls 2 [(0, .ref (a_th 0)), (1, .int v1_0)] := hl
  unfold f_X8_truncate at hf
  refine k_iload_n E hl 1 dX8_truncate_0 rfl ?_
  refine lv_if_lt (tgt := 15) E.hx E.hb dX8_truncate_1 (by decide) (fun hc => ?_) (fun hc => ?_)
  · have hf := oT hc hf
    refine lv_iconst (v := (0 : Int32)) E.hx E.hb dX8_truncate_15 ic_0 ?_
    exact hret _ in_0 _ _ _ _ _ _ hW (Option.some.inj hf).symm (by decide) (by decide) (by decide) dX8_truncate_16
  · have hf := oF hc hf
    refine k_iload_n E hl 1 dX8_truncate_4 rfl ?_
    refine k_aload_n E hl 0 dX8_truncate_5 rfl ?_
    refine gf_X8_14 E hW 0 rfl rfl dX8_truncate_6 ?_
    refine gf_X8_75 E hW 1 rfl rfl dX8_truncate_9 ?_
    refine lv_icmp_le (tgt := 17) E.hx E.hb dX8_truncate_12 (by decide) (fun hc => ?_) (fun hc => ?_)
    · have hf := oT hc hf
      refine k_aload_n E hl 0 dX8_truncate_17 rfl ?_
      refine gf_X8_14 E hW 0 rfl rfl dX8_truncate_18 ?_
      refine k_iload_n E hl 1 dX8_truncate_21 rfl ?_
      obtain ⟨in_1, ein_1, hf⟩ := oL hf
      refine pf_X8_75 (ws2 := wMCo k a_th (a_in 0) (a_ou 0) (a_ru 0) (a_no 0) (a_fo 0) (a_rd 0) (a_pa 0) sv_th th_0 ++ wBytes k a_in z_in in_1) E hW 1 rfl rfl rfl (Nat.le_of_ble_eq_true rfl) dX8_truncate_22 (by rw [ein_1]; rfl) (fun H locs hW => ?_)
      refine lv_iconst (v := (1 : Int32)) E.hx E.hb dX8_truncate_25 ic_1 ?_
      exact hret _ in_1 _ _ _ _ _ _ hW (Option.some.inj hf).symm (by decide) (by decide) (by decide) dX8_truncate_26
    · have hf := oF hc hf
      refine lv_iconst (v := (0 : Int32)) E.hx E.hb dX8_truncate_15 ic_0 ?_
      exact hret _ in_0 _ _ _ _ _ _ hW (Option.some.inj hf).symm (by decide) (by decide) (by decide) dX8_truncate_16
def f_X8_feed (n : Nat) (sv_th : Value) (th_0 : OS) (z_in : Nat) (in_0 : OS) (v1_0 : Int32) (v2_0 : Int32) (v3_0 : Int32) (v4_0 : Int32) (v5_0 : Int32) : Option (OS × Int32) :=
  if ((in_0.1 1) + (20 : Int32)) ≤ (600 : Int32) then (
  bnd (f_X1_putWord n z_in in_0 v1_0) (fun (in_1 : OS) =>
  bnd (f_X1_putWord n z_in in_1 v2_0) (fun (in_2 : OS) =>
  bnd (f_X1_putWord n z_in in_2 v3_0) (fun (in_3 : OS) =>
  bnd (f_X1_putWord n z_in in_3 v4_0) (fun (in_4 : OS) =>
  bnd (f_X1_putWord n z_in in_4 v5_0) (fun (in_5 : OS) =>
  some (in_5, (in_5.1 1)))))))) else (
  some (in_0, (-1 : Int32)))
set_option maxHeartbeats 4000000 in
set_option maxRecDepth 100000 in
theorem c_X8_feed (n : Nat) (l : Launch) (k : KT) (a_th : Nat → Nat) (a_in : Nat → Nat) (a_ou : Nat → Nat) (a_ru : Nat → Nat) (a_no : Nat → Nat) (a_fo : Nat → Nat) (a_rd : Nat → Nat) (a_pa : Nat → Nat) (sv_th : Value) (th_0 : OS) (z_in : Nat) (in_0 : OS) (v1_0 : Int32) (v2_0 : Int32) (v3_0 : Int32) (v4_0 : Int32) (v5_0 : Int32) (res : (OS × Int32)) (hf : f_X8_feed n sv_th th_0 z_in in_0 v1_0 v2_0 v3_0 v4_0 v5_0 = some res) : CG l k yX8_feed cX8_feed 6 (some .int) 2 0 0 42 [.ref (a_th 0), .int v1_0, .int v2_0, .int v3_0, .int v4_0, .int v5_0] (wMCo k a_th (a_in 0) (a_ou 0) (a_ru 0) (a_no 0) (a_fo 0) (a_rd 0) (a_pa 0) sv_th th_0 ++ wBytes k a_in z_in in_0) (Qi k (fun u : OS => wMCo k a_th (a_in 0) (a_ou 0) (a_ru 0) (a_no 0) (a_fo 0) (a_rd 0) (a_pa 0) sv_th th_0 ++ wBytes k a_in z_in u) (fun (r : Int32) (u : OS) => res = (u, r))) := by
  refine CG.ofI (by decide) (Nat.le_of_ble_eq_true rfl) (fun p e s m args below meth c A Q E hnm hW hA hret ls hl => ?_)
  have hl : lv_has ls 6 [(0, .ref (a_th 0)), (1, .int v1_0), (2, .int v2_0), (3, .int v3_0), (4, .int v4_0), (5, .int v5_0)] := hl
  unfold f_X8_feed at hf
  refine k_aload_n E hl 0 dX8_feed_0 rfl ?_
  refine gf_X8_14 E hW 0 rfl rfl dX8_feed_1 ?_
  refine gf_X8_75 E hW 1 rfl rfl dX8_feed_4 ?_
  refine lv_bipush (v := (20 : Int32)) E.hx E.hb dX8_feed_7 bp_20 ?_
  refine lv_iadd E.hx E.hb dX8_feed_9 ?_
  refine lv_sipush (v := (600 : Int32)) E.hx E.hb dX8_feed_10 sp_600 ?_
  refine lv_icmp_le (tgt := 18) E.hx E.hb dX8_feed_13 (by decide) (fun hc => ?_) (fun hc => ?_)
  · have hf := oT hc hf
    refine k_aload_n E hl 0 dX8_feed_18 rfl ?_
    refine gf_X8_14 E hW 0 rfl rfl dX8_feed_19 ?_
    refine k_iload_n E hl 1 dX8_feed_22 rfl ?_
    obtain ⟨in_1, hg, hf⟩ := ob hf
    refine k_callVv (As := [.int v1_0]) (rest := []) (ws2 := fun u => wMCo k a_th (a_in 0) (a_ou 0) (a_ru 0) (a_no 0) (a_fo 0) (a_rd 0) (a_pa 0) sv_th th_0 ++ wBytes k a_in z_in (u)) (c_X1_putWord n l k a_in z_in in_0 v1_0 in_1 hg) E vl_X8_78 dX8_feed_23 rfl [1, 2] 0 1 hW hA hl rfl rfl rfl rfl ⟨by decide, by decide⟩ ⟨by decide, by decide⟩ (Nat.le_of_ble_eq_true rfl) rfl (fun _ => rfl) (fun _ => rfl) (fun u H locs hp hW => ?_)
    cases hp
    have hW : WD k A s.heap (wMCo k a_th (a_in 0) (a_ou 0) (a_ru 0) (a_no 0) (a_fo 0) (a_rd 0) (a_pa 0) sv_th th_0 ++ wBytes k a_in z_in in_1) H locs := hW
    refine k_aload_n E hl 0 dX8_feed_26 rfl ?_
    refine gf_X8_14 E hW 0 rfl rfl dX8_feed_27 ?_
    refine k_iload_n E hl 2 dX8_feed_30 rfl ?_
    obtain ⟨in_2, hg, hf⟩ := ob hf
    refine k_callVv (As := [.int v2_0]) (rest := []) (ws2 := fun u => wMCo k a_th (a_in 0) (a_ou 0) (a_ru 0) (a_no 0) (a_fo 0) (a_rd 0) (a_pa 0) sv_th th_0 ++ wBytes k a_in z_in (u)) (c_X1_putWord n l k a_in z_in in_1 v2_0 in_2 hg) E vl_X8_78 dX8_feed_31 rfl [1, 2] 0 1 hW hA hl rfl rfl rfl rfl ⟨by decide, by decide⟩ ⟨by decide, by decide⟩ (Nat.le_of_ble_eq_true rfl) rfl (fun _ => rfl) (fun _ => rfl) (fun u H locs hp hW => ?_)
    cases hp
    have hW : WD k A s.heap (wMCo k a_th (a_in 0) (a_ou 0) (a_ru 0) (a_no 0) (a_fo 0) (a_rd 0) (a_pa 0) sv_th th_0 ++ wBytes k a_in z_in in_2) H locs := hW
    refine k_aload_n E hl 0 dX8_feed_34 rfl ?_
    refine gf_X8_14 E hW 0 rfl rfl dX8_feed_35 ?_
    refine k_iload_n E hl 3 dX8_feed_38 rfl ?_
    obtain ⟨in_3, hg, hf⟩ := ob hf
    refine k_callVv (As := [.int v3_0]) (rest := []) (ws2 := fun u => wMCo k a_th (a_in 0) (a_ou 0) (a_ru 0) (a_no 0) (a_fo 0) (a_rd 0) (a_pa 0) sv_th th_0 ++ wBytes k a_in z_in (u)) (c_X1_putWord n l k a_in z_in in_2 v3_0 in_3 hg) E vl_X8_78 dX8_feed_39 rfl [1, 2] 0 1 hW hA hl rfl rfl rfl rfl ⟨by decide, by decide⟩ ⟨by decide, by decide⟩ (Nat.le_of_ble_eq_true rfl) rfl (fun _ => rfl) (fun _ => rfl) (fun u H locs hp hW => ?_)
    cases hp
    have hW : WD k A s.heap (wMCo k a_th (a_in 0) (a_ou 0) (a_ru 0) (a_no 0) (a_fo 0) (a_rd 0) (a_pa 0) sv_th th_0 ++ wBytes k a_in z_in in_3) H locs := hW
    refine k_aload_n E hl 0 dX8_feed_42 rfl ?_
    refine gf_X8_14 E hW 0 rfl rfl dX8_feed_43 ?_
    refine k_iload E hl 4 dX8_feed_46 rfl ?_
    obtain ⟨in_4, hg, hf⟩ := ob hf
    refine k_callVv (As := [.int v4_0]) (rest := []) (ws2 := fun u => wMCo k a_th (a_in 0) (a_ou 0) (a_ru 0) (a_no 0) (a_fo 0) (a_rd 0) (a_pa 0) sv_th th_0 ++ wBytes k a_in z_in (u)) (c_X1_putWord n l k a_in z_in in_3 v4_0 in_4 hg) E vl_X8_78 dX8_feed_48 rfl [1, 2] 0 1 hW hA hl rfl rfl rfl rfl ⟨by decide, by decide⟩ ⟨by decide, by decide⟩ (Nat.le_of_ble_eq_true rfl) rfl (fun _ => rfl) (fun _ => rfl) (fun u H locs hp hW => ?_)
    cases hp
    have hW : WD k A s.heap (wMCo k a_th (a_in 0) (a_ou 0) (a_ru 0) (a_no 0) (a_fo 0) (a_rd 0) (a_pa 0) sv_th th_0 ++ wBytes k a_in z_in in_4) H locs := hW
    refine k_aload_n E hl 0 dX8_feed_51 rfl ?_
    refine gf_X8_14 E hW 0 rfl rfl dX8_feed_52 ?_
    refine k_iload E hl 5 dX8_feed_55 rfl ?_
    obtain ⟨in_5, hg, hf⟩ := ob hf
    refine k_callVv (As := [.int v5_0]) (rest := []) (ws2 := fun u => wMCo k a_th (a_in 0) (a_ou 0) (a_ru 0) (a_no 0) (a_fo 0) (a_rd 0) (a_pa 0) sv_th th_0 ++ wBytes k a_in z_in (u)) (c_X1_putWord n l k a_in z_in in_4 v5_0 in_5 hg) E vl_X8_78 dX8_feed_57 rfl [1, 2] 0 1 hW hA hl rfl rfl rfl rfl ⟨by decide, by decide⟩ ⟨by decide, by decide⟩ (Nat.le_of_ble_eq_true rfl) rfl (fun _ => rfl) (fun _ => rfl) (fun u H locs hp hW => ?_)
    cases hp
    have hW : WD k A s.heap (wMCo k a_th (a_in 0) (a_ou 0) (a_ru 0) (a_no 0) (a_fo 0) (a_rd 0) (a_pa 0) sv_th th_0 ++ wBytes k a_in z_in in_5) H locs := hW
    refine k_aload_n E hl 0 dX8_feed_60 rfl ?_
    refine gf_X8_14 E hW 0 rfl rfl dX8_feed_61 ?_
    refine gf_X8_75 E hW 1 rfl rfl dX8_feed_64 ?_
    exact hret _ in_5 _ _ _ _ _ _ hW (Option.some.inj hf).symm rfl (by decide) (by decide) dX8_feed_67
  · have hf := oF hc hf
    refine lv_iconst (v := (-1 : Int32)) E.hx E.hb dX8_feed_16 ic_m1 ?_
    exact hret _ in_0 _ _ _ _ _ _ hW (Option.some.inj hf).symm rfl (by decide) (by decide) dX8_feed_17
def f_X8_errorCode (n : Nat) (sv_th : Value) (th_0 : OS) (rd_0 : OS) : Option (Int32) :=
  some (rd_0.1 3)
set_option maxHeartbeats 4000000 in
set_option maxRecDepth 100000 in
theorem c_X8_errorCode (n : Nat) (l : Launch) (k : KT) (a_th : Nat → Nat) (a_in : Nat → Nat) (a_ou : Nat → Nat) (a_ru : Nat → Nat) (a_no : Nat → Nat) (a_fo : Nat → Nat) (a_rd : Nat → Nat) (a_rr : Nat → Nat) (a_pa : Nat → Nat) (sv_th : Value) (th_0 : OS) (rd_0 : OS) (res : (Int32)) (hf : f_X8_errorCode n sv_th th_0 rd_0 = some res) : CG l k yX8_errorCode cX8_errorCode 1 (some .int) 0 0 0 0 [.ref (a_th 0)] (wMCo k a_th (a_in 0) (a_ou 0) (a_ru 0) (a_no 0) (a_fo 0) (a_rd 0) (a_pa 0) sv_th th_0 ++ wReader k a_rd (a_in 0) (a_fo 0) (a_rr 0) rd_0) (Qi k (fun u : Unit => wMCo k a_th (a_in 0) (a_ou 0) (a_ru 0) (a_no 0) (a_fo 0) (a_rd 0) (a_pa 0) sv_th th_0 ++ wReader k a_rd (a_in 0) (a_fo 0) (a_rr 0) rd_0) (fun (r : Int32) (u : Unit) => res = r)) := by
  refine CG.ofI (by decide) (Nat.le_of_ble_eq_true rfl) (fun p e s m args below meth c A Q E hnm hW hA hret ls hl => ?_)
  have hl : lv_has ls 1 [(0, .ref (a_th 0))] := hl
  unfold f_X8_errorCode at hf
  refine k_aload_n E hl 0 dX8_errorCode_0 rfl ?_
  refine gf_X8_43 E hW 0 rfl rfl dX8_errorCode_1 ?_
  refine gf_X8_99 E hW 1 rfl rfl dX8_errorCode_4 ?_
  exact hret _ () _ _ _ _ _ _ hW (Option.some.inj hf).symm rfl (by decide) (by decide) dX8_errorCode_7
def f_X8_errorOffset (n : Nat) (sv_th : Value) (th_0 : OS) (rd_0 : OS) : Option (Int32) :=
  some (rd_0.1 4)
set_option maxHeartbeats 4000000 in
set_option maxRecDepth 100000 in
theorem c_X8_errorOffset (n : Nat) (l : Launch) (k : KT) (a_th : Nat → Nat) (a_in : Nat → Nat) (a_ou : Nat → Nat) (a_ru : Nat → Nat) (a_no : Nat → Nat) (a_fo : Nat → Nat) (a_rd : Nat → Nat) (a_rr : Nat → Nat) (a_pa : Nat → Nat) (sv_th : Value) (th_0 : OS) (rd_0 : OS) (res : (Int32)) (hf : f_X8_errorOffset n sv_th th_0 rd_0 = some res) : CG l k yX8_errorOffset cX8_errorOffset 1 (some .int) 0 0 0 0 [.ref (a_th 0)] (wMCo k a_th (a_in 0) (a_ou 0) (a_ru 0) (a_no 0) (a_fo 0) (a_rd 0) (a_pa 0) sv_th th_0 ++ wReader k a_rd (a_in 0) (a_fo 0) (a_rr 0) rd_0) (Qi k (fun u : Unit => wMCo k a_th (a_in 0) (a_ou 0) (a_ru 0) (a_no 0) (a_fo 0) (a_rd 0) (a_pa 0) sv_th th_0 ++ wReader k a_rd (a_in 0) (a_fo 0) (a_rr 0) rd_0) (fun (r : Int32) (u : Unit) => res = r)) := by
  refine CG.ofI (by decide) (Nat.le_of_ble_eq_true rfl) (fun p e s m args below meth c A Q E hnm hW hA hret ls hl => ?_)
  have hl : lv_has ls 1 [(0, .ref (a_th 0))] := hl
  unfold f_X8_errorOffset at hf
  refine k_aload_n E hl 0 dX8_errorOffset_0 rfl ?_
  refine gf_X8_43 E hW 0 rfl rfl dX8_errorOffset_1 ?_
  refine gf_X8_102 E hW 1 rfl rfl dX8_errorOffset_4 ?_
  exact hret _ () _ _ _ _ _ _ hW (Option.some.inj hf).symm rfl (by decide) (by decide) dX8_errorOffset_7
def f_X8_find (n : Nat) (sv_th : Value) (th_0 : OS) (z_in : Nat) (in_0 : OS) (ru_0 : OS) : Option (OS × Int32) :=
  bnd (f_X5_processNamed n ru_0 z_in in_0 (0 : Int32) (in_0.1 1)) (fun (r_1 : Int32) =>
  Let (sI in_0 1 (0 : Int32)) (fun in_2 : OS =>
  some (in_2, r_1)))
set_option maxHeartbeats 4000000 in
set_option maxRecDepth 100000 in
theorem c_X8_find (n : Nat) (l : Launch) (k : KT) (a_th : Nat → Nat) (a_in : Nat → Nat) (a_ou : Nat → Nat) (a_ru : Nat → Nat) (a_no : Nat → Nat) (a_fo : Nat → Nat) (a_rd : Nat → Nat) (a_pa : Nat → Nat) (sv_th : Value) (th_0 : OS) (z_in : Nat) (in_0 : OS) (ru_0 : OS) (res : (OS × Int32)) (hf : f_X8_find n sv_th th_0 z_in in_0 ru_0 = some res) : CG l k yX8_find cX8_find 2 (some .int) 3 0 0 72 [.ref (a_th 0)] (wMCo k a_th (a_in 0) (a_ou 0) (a_ru 0) (a_no 0) (a_fo 0) (a_rd 0) (a_pa 0) sv_th th_0 ++ wBytes k a_in z_in in_0 ++ wRules k a_ru ru_0) (Qi k (fun u : OS => wMCo k a_th (a_in 0) (a_ou 0) (a_ru 0) (a_no 0) (a_fo 0) (a_rd 0) (a_pa 0) sv_th th_0 ++ wBytes k a_in z_in u ++ wRules k a_ru ru_0) (fun (r : Int32) (u : OS) => res = (u, r))) := by
  refine CG.ofI (by decide) (Nat.le_of_ble_eq_true rfl) (fun p e s m args below meth c A Q E hnm hW hA hret ls hl => ?_)
  have hl : lv_has ls 2 [(0, .ref (a_th 0))] := hl
  unfold f_X8_find at hf
  refine k_aload_n E hl 0 dX8_find_0 rfl ?_
  refine gf_X8_24 E hW 0 rfl rfl dX8_find_1 ?_
  refine k_aload_n E hl 0 dX8_find_4 rfl ?_
  refine gf_X8_14 E hW 0 rfl rfl dX8_find_5 ?_
  refine lv_iconst (v := (0 : Int32)) E.hx E.hb dX8_find_8 ic_0 ?_
  refine k_aload_n E hl 0 dX8_find_9 rfl ?_
  refine gf_X8_14 E hW 0 rfl rfl dX8_find_10 ?_
  refine gf_X8_75 E hW 1 rfl rfl dX8_find_13 ?_
  obtain ⟨r_1, hg, hf⟩ := ob hf
  refine k_callVi (As := [.ref (a_in 0), .int (0 : Int32), .int (in_0.1 1)]) (rest := []) (ws2 := fun u => wMCo k a_th (a_in 0) (a_ou 0) (a_ru 0) (a_no 0) (a_fo 0) (a_rd 0) (a_pa 0) sv_th th_0 ++ wBytes k a_in z_in in_0 ++ wRules k a_ru ru_0) (c_X5_processNamed n l k a_ru a_in ru_0 z_in in_0 (0 : Int32) (in_0.1 1) r_1 hg) E vl_X8_161 dX8_find_16 rfl [3, 4, 5, 1, 2] 4 3 hW hA hl rfl rfl rfl rfl ⟨by decide, by decide⟩ ⟨by decide, by decide⟩ (Nat.le_of_ble_eq_true rfl) rfl (fun _ => rfl) (fun _ => rfl) (fun r u H locs hp hW => ?_)
  cases hp
  have hW : WD k A s.heap (wMCo k a_th (a_in 0) (a_ou 0) (a_ru 0) (a_no 0) (a_fo 0) (a_rd 0) (a_pa 0) sv_th th_0 ++ wBytes k a_in z_in in_0 ++ wRules k a_ru ru_0) H locs := hW
  refine k_istore_n (lv' := [(1, .int r_1), (0, .ref (a_th 0))]) E rfl hl dX8_find_19 rfl (by decide) rfl (fun ls hl => ?_)
  refine k_aload_n E hl 1 dX8_find_20 rfl ?_
  refine gf_X8_14 E hW 0 rfl rfl dX8_find_21 ?_
  refine lv_iconst (v := (0 : Int32)) E.hx E.hb dX8_find_24 ic_0 ?_
  obtain ⟨in_2, ein_2, hf⟩ := oL hf
  refine pf_X8_75 (ws2 := wMCo k a_th (a_in 0) (a_ou 0) (a_ru 0) (a_no 0) (a_fo 0) (a_rd 0) (a_pa 0) sv_th th_0 ++ wBytes k a_in z_in in_2 ++ wRules k a_ru ru_0) E hW 1 rfl rfl rfl (Nat.le_of_ble_eq_true rfl) dX8_find_25 (by rw [ein_2]; rfl) (fun H locs hW => ?_)
  refine k_iload_n E hl 0 dX8_find_28 rfl ?_
  exact hret _ in_2 _ _ _ _ _ _ hW (Option.some.inj hf).symm rfl (by decide) (by decide) dX8_find_29
def f_X8_count (n : Nat) (sv_th : Value) (th_0 : OS) (ru_0 : OS) (no_0 : OS) (pa_0 : PS) (v1_0 : Int32) : Option (Int32) :=
  if (v1_0).toInt < 0 ∨ 20 < (v1_0).toInt then (
  some (-1 : Int32)) else (if v1_0 = (0 : Int32) then (
  some (ru_0.1 0)) else (if v1_0 = (1 : Int32) then (
  some (ru_0.1 1)) else (if v1_0 = (2 : Int32) then (
  some (no_0.1 0)) else (if v1_0 = (3 : Int32) then (
  some (no_0.1 1)) else (if v1_0 = (4 : Int32) then (
  some (ru_0.1 2)) else (if v1_0 = (5 : Int32) then (
  some (ru_0.1 3)) else (if v1_0 = (6 : Int32) then (
  some (ru_0.1 4)) else (if v1_0 = (7 : Int32) then (
  some (ru_0.1 5)) else (if v1_0 = (8 : Int32) then (
  some (ru_0.1 6)) else (if v1_0 = (9 : Int32) then (
  some (no_0.1 2)) else (if v1_0 = (10 : Int32) then (
  some (no_0.1 3)) else (if v1_0 = (11 : Int32) then (
  bnd (f_X2_openLoans n no_0 (-1 : Int32)) (fun (r_1 : Int32) =>
  some r_1)) else (if v1_0 = (12 : Int32) then (
  bnd (f_X2_brokenLoans n no_0 (-1 : Int32)) (fun (r_2 : Int32) =>
  some r_2)) else (if v1_0 = (13 : Int32) then (
  some (no_0.1 4)) else (if v1_0 = (14 : Int32) then (
  bnd (f_X2_claimsThat n no_0 (-1 : Int32) (0 : Int32)) (fun (r_3 : Int32) =>
  some r_3)) else (if v1_0 = (15 : Int32) then (
  bnd (f_X2_claimsThat n no_0 (-1 : Int32) (1 : Int32)) (fun (r_4 : Int32) =>
  some r_4)) else (if v1_0 = (16 : Int32) then (
  bnd (f_X2_claimsThat n no_0 (-1 : Int32) (2 : Int32)) (fun (r_5 : Int32) =>
  some r_5)) else (if v1_0 = (17 : Int32) then (
  some (no_0.1 6)) else (if v1_0 = (18 : Int32) then (
  some (no_0.1 5)) else (if v1_0 = (19 : Int32) then (
  some (no_0.1 8)) else (some (pa_0.1 2))))))))))))))))))))))
set_option maxHeartbeats 4000000 in
set_option maxRecDepth 100000 in
theorem c_X8_count (n : Nat) (l : Launch) (k : KT) (a_th : Nat → Nat) (a_in : Nat → Nat) (a_ou : Nat → Nat) (a_ru : Nat → Nat) (a_no : Nat → Nat) (a_fo : Nat → Nat) (a_rd : Nat → Nat) (a_pa : Nat → Nat) (pp_0 : Nat → Nat → Nat) (sv_th : Value) (th_0 : OS) (ru_0 : OS) (no_0 : OS) (pa_0 : PS) (v1_0 : Int32) (res : (Int32)) (hf : f_X8_count n sv_th th_0 ru_0 no_0 pa_0 v1_0 = some res) : CG l k yX8_count cX8_count 2 (some .int) 3 0 0 68 [.ref (a_th 0), .int v1_0] (wMCo k a_th (a_in 0) (a_ou 0) (a_ru 0) (a_no 0) (a_fo 0) (a_rd 0) (a_pa 0) sv_th th_0 ++ wRules k a_ru ru_0 ++ wCourt k a_no no_0 ++ wPast k a_pa pp_0 pa_0) (Qi k (fun u : Unit => wMCo k a_th (a_in 0) (a_ou 0) (a_ru 0) (a_no 0) (a_fo 0) (a_rd 0) (a_pa 0) sv_th th_0 ++ wRules k a_ru ru_0 ++ wCourt k a_no no_0 ++ wPast k a_pa pp_0 pa_0) (fun (r : Int32) (u : Unit) => res = r)) := by
  refine CG.ofI (by decide) (Nat.le_of_ble_eq_true rfl) (fun p e s m args below meth c A Q E hnm hW hA hret ls hl => ?_)
  have hl : lv_has ls 2 [(0, .ref (a_th 0)), (1, .int v1_0)] := hl
  unfold f_X8_count at hf
  refine k_iload_n E hl 1 dX8_count_0 rfl ?_
  by_cases hsw : (v1_0).toInt < 0 ∨ 20 < (v1_0).toInt
  · have hf := oT hsw hf
    refine lv_tableOut (tgt := 276) E.hx E.hb dX8_count_1 hsw (by decide) ?_
    refine lv_iconst (v := (-1 : Int32)) E.hx E.hb dX8_count_276 ic_m1 ?_
    exact hret _ () _ _ _ _ _ _ hW (Option.some.inj hf).symm rfl (by decide) (by decide) dX8_count_277
  · have hf := oF hsw hf
    by_cases hc : v1_0 = (0 : Int32)
    · have hf := oT hc hf
      refine lv_tableIn (off := (99)) (tgt := 100) E.hx E.hb dX8_count_1 (by rw [hc]; decide) (by rw [hc]; decide) (by rw [hc]; rfl) (by decide) ?_
      refine k_aload_n E hl 0 dX8_count_100 rfl ?_
      refine gf_X8_24 E hW 0 rfl rfl dX8_count_101 ?_
      refine gf_X8_105 E hW 1 rfl rfl dX8_count_104 ?_
      exact hret _ () _ _ _ _ _ _ hW (Option.some.inj hf).symm rfl (by decide) (by decide) dX8_count_107
    have hf := oF hc hf; have hn_0 := hc; clear hc
    by_cases hc : v1_0 = (1 : Int32)
    · have hf := oT hc hf
      refine lv_tableIn (off := (107)) (tgt := 108) E.hx E.hb dX8_count_1 (by rw [hc]; decide) (by rw [hc]; decide) (by rw [hc]; rfl) (by decide) ?_
      refine k_aload_n E hl 0 dX8_count_108 rfl ?_
      refine gf_X8_24 E hW 0 rfl rfl dX8_count_109 ?_
      refine gf_X8_96 E hW 1 rfl rfl dX8_count_112 ?_
      exact hret _ () _ _ _ _ _ _ hW (Option.some.inj hf).symm rfl (by decide) (by decide) dX8_count_115
    have hf := oF hc hf; have hn_1 := hc; clear hc
    by_cases hc : v1_0 = (2 : Int32)
    · have hf := oT hc hf
      refine lv_tableIn (off := (115)) (tgt := 116) E.hx E.hb dX8_count_1 (by rw [hc]; decide) (by rw [hc]; decide) (by rw [hc]; rfl) (by decide) ?_
      refine k_aload_n E hl 0 dX8_count_116 rfl ?_
      refine gf_X8_31 E hW 0 rfl rfl dX8_count_117 ?_
      refine gf_X8_108 E hW 4 rfl rfl dX8_count_120 ?_
      exact hret _ () _ _ _ _ _ _ hW (Option.some.inj hf).symm rfl (by decide) (by decide) dX8_count_123
    have hf := oF hc hf; have hn_2 := hc; clear hc
    by_cases hc : v1_0 = (3 : Int32)
    · have hf := oT hc hf
      refine lv_tableIn (off := (123)) (tgt := 124) E.hx E.hb dX8_count_1 (by rw [hc]; decide) (by rw [hc]; decide) (by rw [hc]; rfl) (by decide) ?_
      refine k_aload_n E hl 0 dX8_count_124 rfl ?_
      refine gf_X8_31 E hW 0 rfl rfl dX8_count_125 ?_
      refine gf_X8_111 E hW 4 rfl rfl dX8_count_128 ?_
      exact hret _ () _ _ _ _ _ _ hW (Option.some.inj hf).symm rfl (by decide) (by decide) dX8_count_131
    have hf := oF hc hf; have hn_3 := hc; clear hc
    by_cases hc : v1_0 = (4 : Int32)
    · have hf := oT hc hf
      refine lv_tableIn (off := (131)) (tgt := 132) E.hx E.hb dX8_count_1 (by rw [hc]; decide) (by rw [hc]; decide) (by rw [hc]; rfl) (by decide) ?_
      refine k_aload_n E hl 0 dX8_count_132 rfl ?_
      refine gf_X8_24 E hW 0 rfl rfl dX8_count_133 ?_
      refine gf_X8_114 E hW 1 rfl rfl dX8_count_136 ?_
      exact hret _ () _ _ _ _ _ _ hW (Option.some.inj hf).symm rfl (by decide) (by decide) dX8_count_139
    have hf := oF hc hf; have hn_4 := hc; clear hc
    by_cases hc : v1_0 = (5 : Int32)
    · have hf := oT hc hf
      refine lv_tableIn (off := (139)) (tgt := 140) E.hx E.hb dX8_count_1 (by rw [hc]; decide) (by rw [hc]; decide) (by rw [hc]; rfl) (by decide) ?_
      refine k_aload_n E hl 0 dX8_count_140 rfl ?_
      refine gf_X8_24 E hW 0 rfl rfl dX8_count_141 ?_
      refine gf_X8_117 E hW 1 rfl rfl dX8_count_144 ?_
      exact hret _ () _ _ _ _ _ _ hW (Option.some.inj hf).symm rfl (by decide) (by decide) dX8_count_147
    have hf := oF hc hf; have hn_5 := hc; clear hc
    by_cases hc : v1_0 = (6 : Int32)
    · have hf := oT hc hf
      refine lv_tableIn (off := (147)) (tgt := 148) E.hx E.hb dX8_count_1 (by rw [hc]; decide) (by rw [hc]; decide) (by rw [hc]; rfl) (by decide) ?_
      refine k_aload_n E hl 0 dX8_count_148 rfl ?_
      refine gf_X8_24 E hW 0 rfl rfl dX8_count_149 ?_
      refine gf_X8_120 E hW 1 rfl rfl dX8_count_152 ?_
      exact hret _ () _ _ _ _ _ _ hW (Option.some.inj hf).symm rfl (by decide) (by decide) dX8_count_155
    have hf := oF hc hf; have hn_6 := hc; clear hc
    by_cases hc : v1_0 = (7 : Int32)
    · have hf := oT hc hf
      refine lv_tableIn (off := (155)) (tgt := 156) E.hx E.hb dX8_count_1 (by rw [hc]; decide) (by rw [hc]; decide) (by rw [hc]; rfl) (by decide) ?_
      refine k_aload_n E hl 0 dX8_count_156 rfl ?_
      refine gf_X8_24 E hW 0 rfl rfl dX8_count_157 ?_
      refine gf_X8_123 E hW 1 rfl rfl dX8_count_160 ?_
      exact hret _ () _ _ _ _ _ _ hW (Option.some.inj hf).symm rfl (by decide) (by decide) dX8_count_163
    have hf := oF hc hf; have hn_7 := hc; clear hc
    by_cases hc : v1_0 = (8 : Int32)
    · have hf := oT hc hf
      refine lv_tableIn (off := (163)) (tgt := 164) E.hx E.hb dX8_count_1 (by rw [hc]; decide) (by rw [hc]; decide) (by rw [hc]; rfl) (by decide) ?_
      refine k_aload_n E hl 0 dX8_count_164 rfl ?_
      refine gf_X8_24 E hW 0 rfl rfl dX8_count_165 ?_
      refine gf_X8_126 E hW 1 rfl rfl dX8_count_168 ?_
      exact hret _ () _ _ _ _ _ _ hW (Option.some.inj hf).symm rfl (by decide) (by decide) dX8_count_171
    have hf := oF hc hf; have hn_8 := hc; clear hc
    by_cases hc : v1_0 = (9 : Int32)
    · have hf := oT hc hf
      refine lv_tableIn (off := (171)) (tgt := 172) E.hx E.hb dX8_count_1 (by rw [hc]; decide) (by rw [hc]; decide) (by rw [hc]; rfl) (by decide) ?_
      refine k_aload_n E hl 0 dX8_count_172 rfl ?_
      refine gf_X8_31 E hW 0 rfl rfl dX8_count_173 ?_
      refine gf_X8_129 E hW 4 rfl rfl dX8_count_176 ?_
      exact hret _ () _ _ _ _ _ _ hW (Option.some.inj hf).symm rfl (by decide) (by decide) dX8_count_179
    have hf := oF hc hf; have hn_9 := hc; clear hc
    by_cases hc : v1_0 = (10 : Int32)
    · have hf := oT hc hf
      refine lv_tableIn (off := (179)) (tgt := 180) E.hx E.hb dX8_count_1 (by rw [hc]; decide) (by rw [hc]; decide) (by rw [hc]; rfl) (by decide) ?_
      refine k_aload_n E hl 0 dX8_count_180 rfl ?_
      refine gf_X8_31 E hW 0 rfl rfl dX8_count_181 ?_
      refine gf_X8_132 E hW 4 rfl rfl dX8_count_184 ?_
      exact hret _ () _ _ _ _ _ _ hW (Option.some.inj hf).symm rfl (by decide) (by decide) dX8_count_187
    have hf := oF hc hf; have hn_10 := hc; clear hc
    by_cases hc : v1_0 = (11 : Int32)
    · have hf := oT hc hf
      refine lv_tableIn (off := (187)) (tgt := 188) E.hx E.hb dX8_count_1 (by rw [hc]; decide) (by rw [hc]; decide) (by rw [hc]; rfl) (by decide) ?_
      refine k_aload_n E hl 0 dX8_count_188 rfl ?_
      refine gf_X8_31 E hW 0 rfl rfl dX8_count_189 ?_
      refine lv_iconst (v := (-1 : Int32)) E.hx E.hb dX8_count_192 ic_m1 ?_
      obtain ⟨r_1, hg, hf⟩ := ob hf
      refine k_callVi (As := [.int (-1 : Int32)]) (rest := []) (ws2 := fun u => wMCo k a_th (a_in 0) (a_ou 0) (a_ru 0) (a_no 0) (a_fo 0) (a_rd 0) (a_pa 0) sv_th th_0 ++ wRules k a_ru ru_0 ++ wCourt k a_no no_0 ++ wPast k a_pa pp_0 pa_0) (c_X2_openLoans n l k a_no no_0 (-1 : Int32) r_1 hg) E vl_X8_135 dX8_count_193 rfl [4, 5, 6, 7, 8, 9, 10, 11, 12, 13, 14, 15] 1 4 hW hA hl rfl rfl rfl rfl ⟨by decide, by decide⟩ ⟨by decide, by decide⟩ (Nat.le_of_ble_eq_true rfl) rfl (fun _ => rfl) (fun _ => rfl) (fun r u H locs hp hW => ?_)
      cases hp
      have hW : WD k A s.heap (wMCo k a_th (a_in 0) (a_ou 0) (a_ru 0) (a_no 0) (a_fo 0) (a_rd 0) (a_pa 0) sv_th th_0 ++ wRules k a_ru ru_0 ++ wCourt k a_no no_0 ++ wPast k a_pa pp_0 pa_0) H locs := hW
      exact hret _ () _ _ _ _ _ _ hW (Option.some.inj hf).symm rfl (by decide) (by decide) dX8_count_196
    have hf := oF hc hf; have hn_11 := hc; clear hc
    by_cases hc : v1_0 = (12 : Int32)
    · have hf := oT hc hf
      refine lv_tableIn (off := (196)) (tgt := 197) E.hx E.hb dX8_count_1 (by rw [hc]; decide) (by rw [hc]; decide) (by rw [hc]; rfl) (by decide) ?_
      refine k_aload_n E hl 0 dX8_count_197 rfl ?_
      refine gf_X8_31 E hW 0 rfl rfl dX8_count_198 ?_
      refine lv_iconst (v := (-1 : Int32)) E.hx E.hb dX8_count_201 ic_m1 ?_
      obtain ⟨r_2, hg, hf⟩ := ob hf
      refine k_callVi (As := [.int (-1 : Int32)]) (rest := []) (ws2 := fun u => wMCo k a_th (a_in 0) (a_ou 0) (a_ru 0) (a_no 0) (a_fo 0) (a_rd 0) (a_pa 0) sv_th th_0 ++ wRules k a_ru ru_0 ++ wCourt k a_no no_0 ++ wPast k a_pa pp_0 pa_0) (c_X2_brokenLoans n l k a_no no_0 (-1 : Int32) r_2 hg) E vl_X8_139 dX8_count_202 rfl [4, 5, 6, 7, 8, 9, 10, 11, 12, 13, 14, 15] 1 4 hW hA hl rfl rfl rfl rfl ⟨by decide, by decide⟩ ⟨by decide, by decide⟩ (Nat.le_of_ble_eq_true rfl) rfl (fun _ => rfl) (fun _ => rfl) (fun r u H locs hp hW => ?_)
      cases hp
      have hW : WD k A s.heap (wMCo k a_th (a_in 0) (a_ou 0) (a_ru 0) (a_no 0) (a_fo 0) (a_rd 0) (a_pa 0) sv_th th_0 ++ wRules k a_ru ru_0 ++ wCourt k a_no no_0 ++ wPast k a_pa pp_0 pa_0) H locs := hW
      exact hret _ () _ _ _ _ _ _ hW (Option.some.inj hf).symm rfl (by decide) (by decide) dX8_count_205
    have hf := oF hc hf; have hn_12 := hc; clear hc
    by_cases hc : v1_0 = (13 : Int32)
    · have hf := oT hc hf
      refine lv_tableIn (off := (205)) (tgt := 206) E.hx E.hb dX8_count_1 (by rw [hc]; decide) (by rw [hc]; decide) (by rw [hc]; rfl) (by decide) ?_
      refine k_aload_n E hl 0 dX8_count_206 rfl ?_
      refine gf_X8_31 E hW 0 rfl rfl dX8_count_207 ?_
      refine gf_X8_142 E hW 4 rfl rfl dX8_count_210 ?_
      exact hret _ () _ _ _ _ _ _ hW (Option.some.inj hf).symm rfl (by decide) (by decide) dX8_count_213
    have hf := oF hc hf; have hn_13 := hc; clear hc
    by_cases hc : v1_0 = (14 : Int32)
    · have hf := oT hc hf
      refine lv_tableIn (off := (213)) (tgt := 214) E.hx E.hb dX8_count_1 (by rw [hc]; decide) (by rw [hc]; decide) (by rw [hc]; rfl) (by decide) ?_
      refine k_aload_n E hl 0 dX8_count_214 rfl ?_
      refine gf_X8_31 E hW 0 rfl rfl dX8_count_215 ?_
      refine lv_iconst (v := (-1 : Int32)) E.hx E.hb dX8_count_218 ic_m1 ?_
      refine lv_iconst (v := (0 : Int32)) E.hx E.hb dX8_count_219 ic_0 ?_
      obtain ⟨r_3, hg, hf⟩ := ob hf
      refine k_callVi (As := [.int (-1 : Int32), .int (0 : Int32)]) (rest := []) (ws2 := fun u => wMCo k a_th (a_in 0) (a_ou 0) (a_ru 0) (a_no 0) (a_fo 0) (a_rd 0) (a_pa 0) sv_th th_0 ++ wRules k a_ru ru_0 ++ wCourt k a_no no_0 ++ wPast k a_pa pp_0 pa_0) (c_X2_claimsThat n l k a_no no_0 (-1 : Int32) (0 : Int32) r_3 hg) E vl_X8_145 dX8_count_220 rfl [4, 5, 6, 7, 8, 9, 10, 11, 12, 13, 14, 15] 1 4 hW hA hl rfl rfl rfl rfl ⟨by decide, by decide⟩ ⟨by decide, by decide⟩ (Nat.le_of_ble_eq_true rfl) rfl (fun _ => rfl) (fun _ => rfl) (fun r u H locs hp hW => ?_)
      cases hp
      have hW : WD k A s.heap (wMCo k a_th (a_in 0) (a_ou 0) (a_ru 0) (a_no 0) (a_fo 0) (a_rd 0) (a_pa 0) sv_th th_0 ++ wRules k a_ru ru_0 ++ wCourt k a_no no_0 ++ wPast k a_pa pp_0 pa_0) H locs := hW
      exact hret _ () _ _ _ _ _ _ hW (Option.some.inj hf).symm rfl (by decide) (by decide) dX8_count_223
    have hf := oF hc hf; have hn_14 := hc; clear hc
    by_cases hc : v1_0 = (15 : Int32)
    · have hf := oT hc hf
      refine lv_tableIn (off := (223)) (tgt := 224) E.hx E.hb dX8_count_1 (by rw [hc]; decide) (by rw [hc]; decide) (by rw [hc]; rfl) (by decide) ?_
      refine k_aload_n E hl 0 dX8_count_224 rfl ?_
      refine gf_X8_31 E hW 0 rfl rfl dX8_count_225 ?_
      refine lv_iconst (v := (-1 : Int32)) E.hx E.hb dX8_count_228 ic_m1 ?_
      refine lv_iconst (v := (1 : Int32)) E.hx E.hb dX8_count_229 ic_1 ?_
      obtain ⟨r_4, hg, hf⟩ := ob hf
      refine k_callVi (As := [.int (-1 : Int32), .int (1 : Int32)]) (rest := []) (ws2 := fun u => wMCo k a_th (a_in 0) (a_ou 0) (a_ru 0) (a_no 0) (a_fo 0) (a_rd 0) (a_pa 0) sv_th th_0 ++ wRules k a_ru ru_0 ++ wCourt k a_no no_0 ++ wPast k a_pa pp_0 pa_0) (c_X2_claimsThat n l k a_no no_0 (-1 : Int32) (1 : Int32) r_4 hg) E vl_X8_145 dX8_count_230 rfl [4, 5, 6, 7, 8, 9, 10, 11, 12, 13, 14, 15] 1 4 hW hA hl rfl rfl rfl rfl ⟨by decide, by decide⟩ ⟨by decide, by decide⟩ (Nat.le_of_ble_eq_true rfl) rfl (fun _ => rfl) (fun _ => rfl) (fun r u H locs hp hW => ?_)
      cases hp
      have hW : WD k A s.heap (wMCo k a_th (a_in 0) (a_ou 0) (a_ru 0) (a_no 0) (a_fo 0) (a_rd 0) (a_pa 0) sv_th th_0 ++ wRules k a_ru ru_0 ++ wCourt k a_no no_0 ++ wPast k a_pa pp_0 pa_0) H locs := hW
      exact hret _ () _ _ _ _ _ _ hW (Option.some.inj hf).symm rfl (by decide) (by decide) dX8_count_233
    have hf := oF hc hf; have hn_15 := hc; clear hc
    by_cases hc : v1_0 = (16 : Int32)
    · have hf := oT hc hf
      refine lv_tableIn (off := (233)) (tgt := 234) E.hx E.hb dX8_count_1 (by rw [hc]; decide) (by rw [hc]; decide) (by rw [hc]; rfl) (by decide) ?_
      refine k_aload_n E hl 0 dX8_count_234 rfl ?_
      refine gf_X8_31 E hW 0 rfl rfl dX8_count_235 ?_
      refine lv_iconst (v := (-1 : Int32)) E.hx E.hb dX8_count_238 ic_m1 ?_
      refine lv_iconst (v := (2 : Int32)) E.hx E.hb dX8_count_239 ic_2 ?_
      obtain ⟨r_5, hg, hf⟩ := ob hf
      refine k_callVi (As := [.int (-1 : Int32), .int (2 : Int32)]) (rest := []) (ws2 := fun u => wMCo k a_th (a_in 0) (a_ou 0) (a_ru 0) (a_no 0) (a_fo 0) (a_rd 0) (a_pa 0) sv_th th_0 ++ wRules k a_ru ru_0 ++ wCourt k a_no no_0 ++ wPast k a_pa pp_0 pa_0) (c_X2_claimsThat n l k a_no no_0 (-1 : Int32) (2 : Int32) r_5 hg) E vl_X8_145 dX8_count_240 rfl [4, 5, 6, 7, 8, 9, 10, 11, 12, 13, 14, 15] 1 4 hW hA hl rfl rfl rfl rfl ⟨by decide, by decide⟩ ⟨by decide, by decide⟩ (Nat.le_of_ble_eq_true rfl) rfl (fun _ => rfl) (fun _ => rfl) (fun r u H locs hp hW => ?_)
      cases hp
      have hW : WD k A s.heap (wMCo k a_th (a_in 0) (a_ou 0) (a_ru 0) (a_no 0) (a_fo 0) (a_rd 0) (a_pa 0) sv_th th_0 ++ wRules k a_ru ru_0 ++ wCourt k a_no no_0 ++ wPast k a_pa pp_0 pa_0) H locs := hW
      exact hret _ () _ _ _ _ _ _ hW (Option.some.inj hf).symm rfl (by decide) (by decide) dX8_count_243
    have hf := oF hc hf; have hn_16 := hc; clear hc
    by_cases hc : v1_0 = (17 : Int32)
    · have hf := oT hc hf
      refine lv_tableIn (off := (243)) (tgt := 244) E.hx E.hb dX8_count_1 (by rw [hc]; decide) (by rw [hc]; decide) (by rw [hc]; rfl) (by decide) ?_
      refine k_aload_n E hl 0 dX8_count_244 rfl ?_
      refine gf_X8_31 E hW 0 rfl rfl dX8_count_245 ?_
      refine gf_X8_149 E hW 4 rfl rfl dX8_count_248 ?_
      exact hret _ () _ _ _ _ _ _ hW (Option.some.inj hf).symm rfl (by decide) (by decide) dX8_count_251
    have hf := oF hc hf; have hn_17 := hc; clear hc
    by_cases hc : v1_0 = (18 : Int32)
    · have hf := oT hc hf
      refine lv_tableIn (off := (251)) (tgt := 252) E.hx E.hb dX8_count_1 (by rw [hc]; decide) (by rw [hc]; decide) (by rw [hc]; rfl) (by decide) ?_
      refine k_aload_n E hl 0 dX8_count_252 rfl ?_
      refine gf_X8_31 E hW 0 rfl rfl dX8_count_253 ?_
      refine gf_X8_152 E hW 4 rfl rfl dX8_count_256 ?_
      exact hret _ () _ _ _ _ _ _ hW (Option.some.inj hf).symm rfl (by decide) (by decide) dX8_count_259
    have hf := oF hc hf; have hn_18 := hc; clear hc
    by_cases hc : v1_0 = (19 : Int32)
    · have hf := oT hc hf
      refine lv_tableIn (off := (259)) (tgt := 260) E.hx E.hb dX8_count_1 (by rw [hc]; decide) (by rw [hc]; decide) (by rw [hc]; rfl) (by decide) ?_
      refine k_aload_n E hl 0 dX8_count_260 rfl ?_
      refine gf_X8_31 E hW 0 rfl rfl dX8_count_261 ?_
      refine gf_X8_155 E hW 4 rfl rfl dX8_count_264 ?_
      exact hret _ () _ _ _ _ _ _ hW (Option.some.inj hf).symm rfl (by decide) (by decide) dX8_count_267
    have hf := oF hc hf; have hn_19 := hc; clear hc
    have hc : v1_0 = (20 : Int32) := by
      apply Int32.toInt_inj.mp; rw [show ((20 : Int32)).toInt = 20 from by decide]
      have hn_0 : ¬ (v1_0).toInt = 0 := fun z => hn_0 (Int32.toInt_inj.mp (z.trans (show (0 : Int) = ((0 : Int32)).toInt from by decide)))
      have hn_1 : ¬ (v1_0).toInt = 1 := fun z => hn_1 (Int32.toInt_inj.mp (z.trans (show (1 : Int) = ((1 : Int32)).toInt from by decide)))
      have hn_2 : ¬ (v1_0).toInt = 2 := fun z => hn_2 (Int32.toInt_inj.mp (z.trans (show (2 : Int) = ((2 : Int32)).toInt from by decide)))
      have hn_3 : ¬ (v1_0).toInt = 3 := fun z => hn_3 (Int32.toInt_inj.mp (z.trans (show (3 : Int) = ((3 : Int32)).toInt from by decide)))
      have hn_4 : ¬ (v1_0).toInt = 4 := fun z => hn_4 (Int32.toInt_inj.mp (z.trans (show (4 : Int) = ((4 : Int32)).toInt from by decide)))
      have hn_5 : ¬ (v1_0).toInt = 5 := fun z => hn_5 (Int32.toInt_inj.mp (z.trans (show (5 : Int) = ((5 : Int32)).toInt from by decide)))
      have hn_6 : ¬ (v1_0).toInt = 6 := fun z => hn_6 (Int32.toInt_inj.mp (z.trans (show (6 : Int) = ((6 : Int32)).toInt from by decide)))
      have hn_7 : ¬ (v1_0).toInt = 7 := fun z => hn_7 (Int32.toInt_inj.mp (z.trans (show (7 : Int) = ((7 : Int32)).toInt from by decide)))
      have hn_8 : ¬ (v1_0).toInt = 8 := fun z => hn_8 (Int32.toInt_inj.mp (z.trans (show (8 : Int) = ((8 : Int32)).toInt from by decide)))
      have hn_9 : ¬ (v1_0).toInt = 9 := fun z => hn_9 (Int32.toInt_inj.mp (z.trans (show (9 : Int) = ((9 : Int32)).toInt from by decide)))
      have hn_10 : ¬ (v1_0).toInt = 10 := fun z => hn_10 (Int32.toInt_inj.mp (z.trans (show (10 : Int) = ((10 : Int32)).toInt from by decide)))
      have hn_11 : ¬ (v1_0).toInt = 11 := fun z => hn_11 (Int32.toInt_inj.mp (z.trans (show (11 : Int) = ((11 : Int32)).toInt from by decide)))
      have hn_12 : ¬ (v1_0).toInt = 12 := fun z => hn_12 (Int32.toInt_inj.mp (z.trans (show (12 : Int) = ((12 : Int32)).toInt from by decide)))
      have hn_13 : ¬ (v1_0).toInt = 13 := fun z => hn_13 (Int32.toInt_inj.mp (z.trans (show (13 : Int) = ((13 : Int32)).toInt from by decide)))
      have hn_14 : ¬ (v1_0).toInt = 14 := fun z => hn_14 (Int32.toInt_inj.mp (z.trans (show (14 : Int) = ((14 : Int32)).toInt from by decide)))
      have hn_15 : ¬ (v1_0).toInt = 15 := fun z => hn_15 (Int32.toInt_inj.mp (z.trans (show (15 : Int) = ((15 : Int32)).toInt from by decide)))
      have hn_16 : ¬ (v1_0).toInt = 16 := fun z => hn_16 (Int32.toInt_inj.mp (z.trans (show (16 : Int) = ((16 : Int32)).toInt from by decide)))
      have hn_17 : ¬ (v1_0).toInt = 17 := fun z => hn_17 (Int32.toInt_inj.mp (z.trans (show (17 : Int) = ((17 : Int32)).toInt from by decide)))
      have hn_18 : ¬ (v1_0).toInt = 18 := fun z => hn_18 (Int32.toInt_inj.mp (z.trans (show (18 : Int) = ((18 : Int32)).toInt from by decide)))
      have hn_19 : ¬ (v1_0).toInt = 19 := fun z => hn_19 (Int32.toInt_inj.mp (z.trans (show (19 : Int) = ((19 : Int32)).toInt from by decide)))
      omega
    refine lv_tableIn (off := (267)) (tgt := 268) E.hx E.hb dX8_count_1 (by rw [hc]; decide) (by rw [hc]; decide) (by rw [hc]; rfl) (by decide) ?_
    refine k_aload_n E hl 0 dX8_count_268 rfl ?_
    refine gf_X8_50 E hW 0 rfl rfl dX8_count_269 ?_
    refine gf_X8_158 E hW 16 rfl rfl dX8_count_272 ?_
    exact hret _ () _ _ _ _ _ _ hW (Option.some.inj hf).symm rfl (by decide) (by decide) dX8_count_275
def f_X8_process (n : Nat) (sv_th : Value) (th_0 : OS) (ru_0 : OS) (no_0 : OS) (v1_0 : Int32) (v2_0 : Int32) : Option (Int32 × Nat) :=
  bnd (f_X8_needProcess n sv_th th_0 ru_0 v1_0) (fun (cd_1 : Nat) =>
  if cd_1 = 0 then (
  if (v2_0).toInt < 0 ∨ 9 < (v2_0).toInt then (
  some ((0 : Int32), 1)) else (if v2_0 = (0 : Int32) then (
  bnd (f_X6_get n (5 : Int32) 40 (no_0.2.1 11) v1_0 (0 : Int32)) (fun (r_2 : Int32) =>
  some (r_2, 0))) else (if v2_0 = (1 : Int32) then (
  bnd (f_X6_get n (5 : Int32) 40 (no_0.2.1 11) v1_0 (1 : Int32)) (fun (r_3 : Int32) =>
  some (r_3, 0))) else (if v2_0 = (2 : Int32) then (
  bnd (f_X6_get n (5 : Int32) 40 (no_0.2.1 11) v1_0 (2 : Int32)) (fun (r_4 : Int32) =>
  some (r_4, 0))) else (if v2_0 = (3 : Int32) then (
  bnd (f_X2_heldPages n no_0 v1_0) (fun (r_5 : Int32) =>
  some (r_5, 0))) else (if v2_0 = (4 : Int32) then (
  bnd (f_X2_openLoans n no_0 v1_0) (fun (r_6 : Int32) =>
  some (r_6, 0))) else (if v2_0 = (5 : Int32) then (
  bnd (f_X2_brokenLoans n no_0 v1_0) (fun (r_7 : Int32) =>
  some (r_7, 0))) else (if v2_0 = (6 : Int32) then (
  bnd (f_X2_claimsThat n no_0 v1_0 (0 : Int32)) (fun (r_8 : Int32) =>
  some (r_8, 0))) else (if v2_0 = (7 : Int32) then (
  bnd (f_X2_claimsThat n no_0 v1_0 (1 : Int32)) (fun (r_9 : Int32) =>
  some (r_9, 0))) else (if v2_0 = (8 : Int32) then (
  bnd (f_X6_get n (5 : Int32) 40 (no_0.2.1 11) v1_0 (3 : Int32)) (fun (r_10 : Int32) =>
  some (r_10, 0))) else (bnd (f_X6_get n (5 : Int32) 40 (no_0.2.1 11) v1_0 (4 : Int32)) (fun (r_11 : Int32) =>
  some (r_11, 0))))))))))))) else (
  some ((0 : Int32), cd_1)))
set_option maxHeartbeats 4000000 in
set_option maxRecDepth 100000 in
theorem c_X8_process (n : Nat) (l : Launch) (k : KT) (hx : XH l k) (a_th : Nat → Nat) (a_in : Nat → Nat) (a_ou : Nat → Nat) (a_ru : Nat → Nat) (a_no : Nat → Nat) (a_fo : Nat → Nat) (a_rd : Nat → Nat) (a_pa : Nat → Nat) (sv_th : Value) (th_0 : OS) (ru_0 : OS) (no_0 : OS) (v1_0 : Int32) (v2_0 : Int32) (res : (Int32 × Nat)) (hf : f_X8_process n sv_th th_0 ru_0 no_0 v1_0 v2_0 = some res) : CX l k yX8_process cX8_process 3 (some .int) 7 2 12 103 [.ref (a_th 0), .int v1_0, .int v2_0] (wMCo k a_th (a_in 0) (a_ou 0) (a_ru 0) (a_no 0) (a_fo 0) (a_rd 0) (a_pa 0) sv_th th_0 ++ wRules k a_ru ru_0 ++ wCourt k a_no no_0) (Qi k (fun u : Unit => wMCo k a_th (a_in 0) (a_ou 0) (a_ru 0) (a_no 0) (a_fo 0) (a_rd 0) (a_pa 0) sv_th th_0 ++ wRules k a_ru ru_0 ++ wCourt k a_no no_0) (fun (r : Int32) (u : Unit) => res = (r, 0))) (Xq k (fun u : Unit => wMCo k a_th (a_in 0) (a_ou 0) (a_ru 0) (a_no 0) (a_fo 0) (a_rd 0) (a_pa 0) sv_th th_0 ++ wRules k a_ru ru_0 ++ wCourt k a_no no_0) (fun (cd : Nat) (u : Unit) => cd ≠ 0 ∧ res = ((0 : Int32), cd))) := by
  refine CX.ofI hx rfl (by decide) (Nat.le_of_ble_eq_true rfl) (by decide) (by decide) (fun p e s m args below meth c A Q E hnm hW hA hret hout hthr ls hl => ?_)
  have hl : lv_has ls 3 [(0, .ref (a_th 0)), (1, .int v1_0), (2, .int v2_0)] := hl
  unfold f_X8_process at hf
  refine k_aload_n E hl 0 dX8_process_0 rfl ?_
  refine k_iload_n E hl 1 dX8_process_1 rfl ?_
  obtain ⟨cd_1, hg, hf⟩ := ob hf
  refine k_callXv (As := [.int v1_0]) (rest := []) (ws2 := fun u => wMCo k a_th (a_in 0) (a_ou 0) (a_ru 0) (a_no 0) (a_fo 0) (a_rd 0) (a_pa 0) sv_th th_0 ++ wRules k a_ru ru_0 ++ wCourt k a_no no_0) (c_X8_needProcess n l k hx a_th a_in a_ou a_ru a_no a_fo a_rd a_pa sv_th th_0 ru_0 v1_0 cd_1 hg) E vl_X8_165 dX8_process_2 rfl [0, 1, 2, 3] 6 0 hW hA hl rfl rfl rfl rfl ⟨by decide, by decide⟩ ⟨by decide, by decide⟩ (Nat.le_of_ble_eq_true rfl) rfl (fun _ => rfl) (fun _ => rfl) (fun cd9 u ce9 q9 H locs hp hW hce hcv hcls => ?_) (fun u H locs hp hW => ?_)
  · obtain ⟨hcd, hp⟩ := hp
    cases hp
    have hW : WD k A s.heap (wMCo k a_th (a_in 0) (a_ou 0) (a_ru 0) (a_no 0) (a_fo 0) (a_rd 0) (a_pa 0) sv_th th_0 ++ wRules k a_ru ru_0 ++ wCourt k a_no no_0) H locs := hW
    have hf := oF hcd hf
    exact hout _ () _ _ _ _ _ _ _ _ _ ⟨hcd, (Option.some.inj hf).symm⟩ hW hce hcv hcls (by decide) (by decide)
  cases hp
  have hW : WD k A s.heap (wMCo k a_th (a_in 0) (a_ou 0) (a_ru 0) (a_no 0) (a_fo 0) (a_rd 0) (a_pa 0) sv_th th_0 ++ wRules k a_ru ru_0 ++ wCourt k a_no no_0) H locs := hW
  have hf := oT rfl hf
  refine k_iload_n E hl 2 dX8_process_5 rfl ?_
  by_cases hsw : (v2_0).toInt < 0 ∨ 9 < (v2_0).toInt
  · have hf := oT hsw hf
    refine lv_tableOut (tgt := 172) E.hx E.hb dX8_process_6 hsw (by decide) ?_
    exact hthr 1 () _ _ _ _ _ _ _ _ _ _ _ xr_1 xt_181 ⟨by decide, (Option.some.inj hf).symm⟩ hW hl ⟨dX8_process_172, dX8_process_175, Or.inl ⟨dX8_process_176, dX8_process_178, dX8_process_181⟩⟩ (by decide) (by decide)
  · have hf := oF hsw hf
    by_cases hc : v2_0 = (0 : Int32)
    · have hf := oT hc hf
      refine lv_tableIn (off := (54)) (tgt := 60) E.hx E.hb dX8_process_6 (by rw [hc]; decide) (by rw [hc]; decide) (by rw [hc]; rfl) (by decide) ?_
      refine k_aload_n E hl 0 dX8_process_60 rfl ?_
      refine gf_X8_31 E hW 0 rfl rfl dX8_process_61 ?_
      refine gf_X8_168 E hW 4 rfl rfl dX8_process_64 ?_
      refine k_iload_n E hl 1 dX8_process_67 rfl ?_
      refine lv_iconst (v := (0 : Int32)) E.hx E.hb dX8_process_68 ic_0 ?_
      obtain ⟨r_2, hg, hf⟩ := ob hf
      refine k_callVi (As := [.int v1_0, .int (0 : Int32)]) (rest := []) (ws2 := fun u => wMCo k a_th (a_in 0) (a_ou 0) (a_ru 0) (a_no 0) (a_fo 0) (a_rd 0) (a_pa 0) sv_th th_0 ++ wRules k a_ru ru_0 ++ wCourt k a_no no_0) (c_X6_get n l k (fun j => a_no (3 + j)) (5 : Int32) 40 (no_0.2.1 11) v1_0 (0 : Int32) r_2 hg) E vl_X8_171 dX8_process_69 rfl [7, 8] 5 7 hW hA hl rfl rfl rfl rfl ⟨by decide, by decide⟩ ⟨by decide, by decide⟩ (Nat.le_of_ble_eq_true rfl) rfl (fun _ => rfl) (fun _ => rfl) (fun r u H locs hp hW => ?_)
      cases hp
      have hW : WD k A s.heap (wMCo k a_th (a_in 0) (a_ou 0) (a_ru 0) (a_no 0) (a_fo 0) (a_rd 0) (a_pa 0) sv_th th_0 ++ wRules k a_ru ru_0 ++ wCourt k a_no no_0) H locs := hW
      exact hret _ () _ _ _ _ _ _ hW (Option.some.inj hf).symm rfl (by decide) (by decide) dX8_process_72
    have hf := oF hc hf; have hn_0 := hc; clear hc
    by_cases hc : v2_0 = (1 : Int32)
    · have hf := oT hc hf
      refine lv_tableIn (off := (67)) (tgt := 73) E.hx E.hb dX8_process_6 (by rw [hc]; decide) (by rw [hc]; decide) (by rw [hc]; rfl) (by decide) ?_
      refine k_aload_n E hl 0 dX8_process_73 rfl ?_
      refine gf_X8_31 E hW 0 rfl rfl dX8_process_74 ?_
      refine gf_X8_168 E hW 4 rfl rfl dX8_process_77 ?_
      refine k_iload_n E hl 1 dX8_process_80 rfl ?_
      refine lv_iconst (v := (1 : Int32)) E.hx E.hb dX8_process_81 ic_1 ?_
      obtain ⟨r_3, hg, hf⟩ := ob hf
      refine k_callVi (As := [.int v1_0, .int (1 : Int32)]) (rest := []) (ws2 := fun u => wMCo k a_th (a_in 0) (a_ou 0) (a_ru 0) (a_no 0) (a_fo 0) (a_rd 0) (a_pa 0) sv_th th_0 ++ wRules k a_ru ru_0 ++ wCourt k a_no no_0) (c_X6_get n l k (fun j => a_no (3 + j)) (5 : Int32) 40 (no_0.2.1 11) v1_0 (1 : Int32) r_3 hg) E vl_X8_171 dX8_process_82 rfl [7, 8] 5 7 hW hA hl rfl rfl rfl rfl ⟨by decide, by decide⟩ ⟨by decide, by decide⟩ (Nat.le_of_ble_eq_true rfl) rfl (fun _ => rfl) (fun _ => rfl) (fun r u H locs hp hW => ?_)
      cases hp
      have hW : WD k A s.heap (wMCo k a_th (a_in 0) (a_ou 0) (a_ru 0) (a_no 0) (a_fo 0) (a_rd 0) (a_pa 0) sv_th th_0 ++ wRules k a_ru ru_0 ++ wCourt k a_no no_0) H locs := hW
      exact hret _ () _ _ _ _ _ _ hW (Option.some.inj hf).symm rfl (by decide) (by decide) dX8_process_85
    have hf := oF hc hf; have hn_1 := hc; clear hc
    by_cases hc : v2_0 = (2 : Int32)
    · have hf := oT hc hf
      refine lv_tableIn (off := (80)) (tgt := 86) E.hx E.hb dX8_process_6 (by rw [hc]; decide) (by rw [hc]; decide) (by rw [hc]; rfl) (by decide) ?_
      refine k_aload_n E hl 0 dX8_process_86 rfl ?_
      refine gf_X8_31 E hW 0 rfl rfl dX8_process_87 ?_
      refine gf_X8_168 E hW 4 rfl rfl dX8_process_90 ?_
      refine k_iload_n E hl 1 dX8_process_93 rfl ?_
      refine lv_iconst (v := (2 : Int32)) E.hx E.hb dX8_process_94 ic_2 ?_
      obtain ⟨r_4, hg, hf⟩ := ob hf
      refine k_callVi (As := [.int v1_0, .int (2 : Int32)]) (rest := []) (ws2 := fun u => wMCo k a_th (a_in 0) (a_ou 0) (a_ru 0) (a_no 0) (a_fo 0) (a_rd 0) (a_pa 0) sv_th th_0 ++ wRules k a_ru ru_0 ++ wCourt k a_no no_0) (c_X6_get n l k (fun j => a_no (3 + j)) (5 : Int32) 40 (no_0.2.1 11) v1_0 (2 : Int32) r_4 hg) E vl_X8_171 dX8_process_95 rfl [7, 8] 5 7 hW hA hl rfl rfl rfl rfl ⟨by decide, by decide⟩ ⟨by decide, by decide⟩ (Nat.le_of_ble_eq_true rfl) rfl (fun _ => rfl) (fun _ => rfl) (fun r u H locs hp hW => ?_)
      cases hp
      have hW : WD k A s.heap (wMCo k a_th (a_in 0) (a_ou 0) (a_ru 0) (a_no 0) (a_fo 0) (a_rd 0) (a_pa 0) sv_th th_0 ++ wRules k a_ru ru_0 ++ wCourt k a_no no_0) H locs := hW
      exact hret _ () _ _ _ _ _ _ hW (Option.some.inj hf).symm rfl (by decide) (by decide) dX8_process_98
    have hf := oF hc hf; have hn_2 := hc; clear hc
    by_cases hc : v2_0 = (3 : Int32)
    · have hf := oT hc hf
      refine lv_tableIn (off := (93)) (tgt := 99) E.hx E.hb dX8_process_6 (by rw [hc]; decide) (by rw [hc]; decide) (by rw [hc]; rfl) (by decide) ?_
      refine k_aload_n E hl 0 dX8_process_99 rfl ?_
      refine gf_X8_31 E hW 0 rfl rfl dX8_process_100 ?_
      refine k_iload_n E hl 1 dX8_process_103 rfl ?_
      obtain ⟨r_5, hg, hf⟩ := ob hf
      refine k_callVi (As := [.int v1_0]) (rest := []) (ws2 := fun u => wMCo k a_th (a_in 0) (a_ou 0) (a_ru 0) (a_no 0) (a_fo 0) (a_rd 0) (a_pa 0) sv_th th_0 ++ wRules k a_ru ru_0 ++ wCourt k a_no no_0) (c_X2_heldPages n l k a_no no_0 v1_0 r_5 hg) E vl_X8_176 dX8_process_104 rfl [4, 5, 6, 7, 8, 9, 10, 11, 12, 13, 14, 15] 1 4 hW hA hl rfl rfl rfl rfl ⟨by decide, by decide⟩ ⟨by decide, by decide⟩ (Nat.le_of_ble_eq_true rfl) rfl (fun _ => rfl) (fun _ => rfl) (fun r u H locs hp hW => ?_)
      cases hp
      have hW : WD k A s.heap (wMCo k a_th (a_in 0) (a_ou 0) (a_ru 0) (a_no 0) (a_fo 0) (a_rd 0) (a_pa 0) sv_th th_0 ++ wRules k a_ru ru_0 ++ wCourt k a_no no_0) H locs := hW
      exact hret _ () _ _ _ _ _ _ hW (Option.some.inj hf).symm rfl (by decide) (by decide) dX8_process_107
    have hf := oF hc hf; have hn_3 := hc; clear hc
    by_cases hc : v2_0 = (4 : Int32)
    · have hf := oT hc hf
      refine lv_tableIn (off := (102)) (tgt := 108) E.hx E.hb dX8_process_6 (by rw [hc]; decide) (by rw [hc]; decide) (by rw [hc]; rfl) (by decide) ?_
      refine k_aload_n E hl 0 dX8_process_108 rfl ?_
      refine gf_X8_31 E hW 0 rfl rfl dX8_process_109 ?_
      refine k_iload_n E hl 1 dX8_process_112 rfl ?_
      obtain ⟨r_6, hg, hf⟩ := ob hf
      refine k_callVi (As := [.int v1_0]) (rest := []) (ws2 := fun u => wMCo k a_th (a_in 0) (a_ou 0) (a_ru 0) (a_no 0) (a_fo 0) (a_rd 0) (a_pa 0) sv_th th_0 ++ wRules k a_ru ru_0 ++ wCourt k a_no no_0) (c_X2_openLoans n l k a_no no_0 v1_0 r_6 hg) E vl_X8_135 dX8_process_113 rfl [4, 5, 6, 7, 8, 9, 10, 11, 12, 13, 14, 15] 1 4 hW hA hl rfl rfl rfl rfl ⟨by decide, by decide⟩ ⟨by decide, by decide⟩ (Nat.le_of_ble_eq_true rfl) rfl (fun _ => rfl) (fun _ => rfl) (fun r u H locs hp hW => ?_)
      cases hp
      have hW : WD k A s.heap (wMCo k a_th (a_in 0) (a_ou 0) (a_ru 0) (a_no 0) (a_fo 0) (a_rd 0) (a_pa 0) sv_th th_0 ++ wRules k a_ru ru_0 ++ wCourt k a_no no_0) H locs := hW
      exact hret _ () _ _ _ _ _ _ hW (Option.some.inj hf).symm rfl (by decide) (by decide) dX8_process_116
    have hf := oF hc hf; have hn_4 := hc; clear hc
    by_cases hc : v2_0 = (5 : Int32)
    · have hf := oT hc hf
      refine lv_tableIn (off := (111)) (tgt := 117) E.hx E.hb dX8_process_6 (by rw [hc]; decide) (by rw [hc]; decide) (by rw [hc]; rfl) (by decide) ?_
      refine k_aload_n E hl 0 dX8_process_117 rfl ?_
      refine gf_X8_31 E hW 0 rfl rfl dX8_process_118 ?_
      refine k_iload_n E hl 1 dX8_process_121 rfl ?_
      obtain ⟨r_7, hg, hf⟩ := ob hf
      refine k_callVi (As := [.int v1_0]) (rest := []) (ws2 := fun u => wMCo k a_th (a_in 0) (a_ou 0) (a_ru 0) (a_no 0) (a_fo 0) (a_rd 0) (a_pa 0) sv_th th_0 ++ wRules k a_ru ru_0 ++ wCourt k a_no no_0) (c_X2_brokenLoans n l k a_no no_0 v1_0 r_7 hg) E vl_X8_139 dX8_process_122 rfl [4, 5, 6, 7, 8, 9, 10, 11, 12, 13, 14, 15] 1 4 hW hA hl rfl rfl rfl rfl ⟨by decide, by decide⟩ ⟨by decide, by decide⟩ (Nat.le_of_ble_eq_true rfl) rfl (fun _ => rfl) (fun _ => rfl) (fun r u H locs hp hW => ?_)
      cases hp
      have hW : WD k A s.heap (wMCo k a_th (a_in 0) (a_ou 0) (a_ru 0) (a_no 0) (a_fo 0) (a_rd 0) (a_pa 0) sv_th th_0 ++ wRules k a_ru ru_0 ++ wCourt k a_no no_0) H locs := hW
      exact hret _ () _ _ _ _ _ _ hW (Option.some.inj hf).symm rfl (by decide) (by decide) dX8_process_125
    have hf := oF hc hf; have hn_5 := hc; clear hc
    by_cases hc : v2_0 = (6 : Int32)
    · have hf := oT hc hf
      refine lv_tableIn (off := (120)) (tgt := 126) E.hx E.hb dX8_process_6 (by rw [hc]; decide) (by rw [hc]; decide) (by rw [hc]; rfl) (by decide) ?_
      refine k_aload_n E hl 0 dX8_process_126 rfl ?_
      refine gf_X8_31 E hW 0 rfl rfl dX8_process_127 ?_
      refine k_iload_n E hl 1 dX8_process_130 rfl ?_
      refine lv_iconst (v := (0 : Int32)) E.hx E.hb dX8_process_131 ic_0 ?_
      obtain ⟨r_8, hg, hf⟩ := ob hf
      refine k_callVi (As := [.int v1_0, .int (0 : Int32)]) (rest := []) (ws2 := fun u => wMCo k a_th (a_in 0) (a_ou 0) (a_ru 0) (a_no 0) (a_fo 0) (a_rd 0) (a_pa 0) sv_th th_0 ++ wRules k a_ru ru_0 ++ wCourt k a_no no_0) (c_X2_claimsThat n l k a_no no_0 v1_0 (0 : Int32) r_8 hg) E vl_X8_145 dX8_process_132 rfl [4, 5, 6, 7, 8, 9, 10, 11, 12, 13, 14, 15] 1 4 hW hA hl rfl rfl rfl rfl ⟨by decide, by decide⟩ ⟨by decide, by decide⟩ (Nat.le_of_ble_eq_true rfl) rfl (fun _ => rfl) (fun _ => rfl) (fun r u H locs hp hW => ?_)
      cases hp
      have hW : WD k A s.heap (wMCo k a_th (a_in 0) (a_ou 0) (a_ru 0) (a_no 0) (a_fo 0) (a_rd 0) (a_pa 0) sv_th th_0 ++ wRules k a_ru ru_0 ++ wCourt k a_no no_0) H locs := hW
      exact hret _ () _ _ _ _ _ _ hW (Option.some.inj hf).symm rfl (by decide) (by decide) dX8_process_135
    have hf := oF hc hf; have hn_6 := hc; clear hc
    by_cases hc : v2_0 = (7 : Int32)
    · have hf := oT hc hf
      refine lv_tableIn (off := (130)) (tgt := 136) E.hx E.hb dX8_process_6 (by rw [hc]; decide) (by rw [hc]; decide) (by rw [hc]; rfl) (by decide) ?_
      refine k_aload_n E hl 0 dX8_process_136 rfl ?_
      refine gf_X8_31 E hW 0 rfl rfl dX8_process_137 ?_
      refine k_iload_n E hl 1 dX8_process_140 rfl ?_
      refine lv_iconst (v := (1 : Int32)) E.hx E.hb dX8_process_141 ic_1 ?_
      obtain ⟨r_9, hg, hf⟩ := ob hf
      refine k_callVi (As := [.int v1_0, .int (1 : Int32)]) (rest := []) (ws2 := fun u => wMCo k a_th (a_in 0) (a_ou 0) (a_ru 0) (a_no 0) (a_fo 0) (a_rd 0) (a_pa 0) sv_th th_0 ++ wRules k a_ru ru_0 ++ wCourt k a_no no_0) (c_X2_claimsThat n l k a_no no_0 v1_0 (1 : Int32) r_9 hg) E vl_X8_145 dX8_process_142 rfl [4, 5, 6, 7, 8, 9, 10, 11, 12, 13, 14, 15] 1 4 hW hA hl rfl rfl rfl rfl ⟨by decide, by decide⟩ ⟨by decide, by decide⟩ (Nat.le_of_ble_eq_true rfl) rfl (fun _ => rfl) (fun _ => rfl) (fun r u H locs hp hW => ?_)
      cases hp
      have hW : WD k A s.heap (wMCo k a_th (a_in 0) (a_ou 0) (a_ru 0) (a_no 0) (a_fo 0) (a_rd 0) (a_pa 0) sv_th th_0 ++ wRules k a_ru ru_0 ++ wCourt k a_no no_0) H locs := hW
      exact hret _ () _ _ _ _ _ _ hW (Option.some.inj hf).symm rfl (by decide) (by decide) dX8_process_145
    have hf := oF hc hf; have hn_7 := hc; clear hc
    by_cases hc : v2_0 = (8 : Int32)
    · have hf := oT hc hf
      refine lv_tableIn (off := (140)) (tgt := 146) E.hx E.hb dX8_process_6 (by rw [hc]; decide) (by rw [hc]; decide) (by rw [hc]; rfl) (by decide) ?_
      refine k_aload_n E hl 0 dX8_process_146 rfl ?_
      refine gf_X8_31 E hW 0 rfl rfl dX8_process_147 ?_
      refine gf_X8_168 E hW 4 rfl rfl dX8_process_150 ?_
      refine k_iload_n E hl 1 dX8_process_153 rfl ?_
      refine lv_iconst (v := (3 : Int32)) E.hx E.hb dX8_process_154 ic_3 ?_
      obtain ⟨r_10, hg, hf⟩ := ob hf
      refine k_callVi (As := [.int v1_0, .int (3 : Int32)]) (rest := []) (ws2 := fun u => wMCo k a_th (a_in 0) (a_ou 0) (a_ru 0) (a_no 0) (a_fo 0) (a_rd 0) (a_pa 0) sv_th th_0 ++ wRules k a_ru ru_0 ++ wCourt k a_no no_0) (c_X6_get n l k (fun j => a_no (3 + j)) (5 : Int32) 40 (no_0.2.1 11) v1_0 (3 : Int32) r_10 hg) E vl_X8_171 dX8_process_155 rfl [7, 8] 5 7 hW hA hl rfl rfl rfl rfl ⟨by decide, by decide⟩ ⟨by decide, by decide⟩ (Nat.le_of_ble_eq_true rfl) rfl (fun _ => rfl) (fun _ => rfl) (fun r u H locs hp hW => ?_)
      cases hp
      have hW : WD k A s.heap (wMCo k a_th (a_in 0) (a_ou 0) (a_ru 0) (a_no 0) (a_fo 0) (a_rd 0) (a_pa 0) sv_th th_0 ++ wRules k a_ru ru_0 ++ wCourt k a_no no_0) H locs := hW
      exact hret _ () _ _ _ _ _ _ hW (Option.some.inj hf).symm rfl (by decide) (by decide) dX8_process_158
    have hf := oF hc hf; have hn_8 := hc; clear hc
    have hc : v2_0 = (9 : Int32) := by
      apply Int32.toInt_inj.mp; rw [show ((9 : Int32)).toInt = 9 from by decide]
      have hn_0 : ¬ (v2_0).toInt = 0 := fun z => hn_0 (Int32.toInt_inj.mp (z.trans (show (0 : Int) = ((0 : Int32)).toInt from by decide)))
      have hn_1 : ¬ (v2_0).toInt = 1 := fun z => hn_1 (Int32.toInt_inj.mp (z.trans (show (1 : Int) = ((1 : Int32)).toInt from by decide)))
      have hn_2 : ¬ (v2_0).toInt = 2 := fun z => hn_2 (Int32.toInt_inj.mp (z.trans (show (2 : Int) = ((2 : Int32)).toInt from by decide)))
      have hn_3 : ¬ (v2_0).toInt = 3 := fun z => hn_3 (Int32.toInt_inj.mp (z.trans (show (3 : Int) = ((3 : Int32)).toInt from by decide)))
      have hn_4 : ¬ (v2_0).toInt = 4 := fun z => hn_4 (Int32.toInt_inj.mp (z.trans (show (4 : Int) = ((4 : Int32)).toInt from by decide)))
      have hn_5 : ¬ (v2_0).toInt = 5 := fun z => hn_5 (Int32.toInt_inj.mp (z.trans (show (5 : Int) = ((5 : Int32)).toInt from by decide)))
      have hn_6 : ¬ (v2_0).toInt = 6 := fun z => hn_6 (Int32.toInt_inj.mp (z.trans (show (6 : Int) = ((6 : Int32)).toInt from by decide)))
      have hn_7 : ¬ (v2_0).toInt = 7 := fun z => hn_7 (Int32.toInt_inj.mp (z.trans (show (7 : Int) = ((7 : Int32)).toInt from by decide)))
      have hn_8 : ¬ (v2_0).toInt = 8 := fun z => hn_8 (Int32.toInt_inj.mp (z.trans (show (8 : Int) = ((8 : Int32)).toInt from by decide)))
      omega
    refine lv_tableIn (off := (153)) (tgt := 159) E.hx E.hb dX8_process_6 (by rw [hc]; decide) (by rw [hc]; decide) (by rw [hc]; rfl) (by decide) ?_
    refine k_aload_n E hl 0 dX8_process_159 rfl ?_
    refine gf_X8_31 E hW 0 rfl rfl dX8_process_160 ?_
    refine gf_X8_168 E hW 4 rfl rfl dX8_process_163 ?_
    refine k_iload_n E hl 1 dX8_process_166 rfl ?_
    refine lv_iconst (v := (4 : Int32)) E.hx E.hb dX8_process_167 ic_4 ?_
    obtain ⟨r_11, hg, hf⟩ := ob hf
    refine k_callVi (As := [.int v1_0, .int (4 : Int32)]) (rest := []) (ws2 := fun u => wMCo k a_th (a_in 0) (a_ou 0) (a_ru 0) (a_no 0) (a_fo 0) (a_rd 0) (a_pa 0) sv_th th_0 ++ wRules k a_ru ru_0 ++ wCourt k a_no no_0) (c_X6_get n l k (fun j => a_no (3 + j)) (5 : Int32) 40 (no_0.2.1 11) v1_0 (4 : Int32) r_11 hg) E vl_X8_171 dX8_process_168 rfl [7, 8] 5 7 hW hA hl rfl rfl rfl rfl ⟨by decide, by decide⟩ ⟨by decide, by decide⟩ (Nat.le_of_ble_eq_true rfl) rfl (fun _ => rfl) (fun _ => rfl) (fun r u H locs hp hW => ?_)
    cases hp
    have hW : WD k A s.heap (wMCo k a_th (a_in 0) (a_ou 0) (a_ru 0) (a_no 0) (a_fo 0) (a_rd 0) (a_pa 0) sv_th th_0 ++ wRules k a_ru ru_0 ++ wCourt k a_no no_0) H locs := hW
    exact hret _ () _ _ _ _ _ _ hW (Option.some.inj hf).symm rfl (by decide) (by decide) dX8_process_171
def f_X8_loan (n : Nat) (sv_th : Value) (th_0 : OS) (no_0 : OS) (v1_0 : Int32) (v2_0 : Int32) : Option (Int32 × Nat) :=
  bnd (f_X8_needLoan n sv_th th_0 no_0 v1_0) (fun (cd_1 : Nat) =>
  if cd_1 = 0 then (
  if v2_0 < 0 then (
  some ((0 : Int32), 1)) else (
  if v2_0 ≤ (7 : Int32) then (
  if v2_0 = (5 : Int32) then (
  bnd (f_X2_isBroken n no_0 v1_0) (fun (r_3 : Int32) =>
  if r_3 = 0 then (
  some ((0 : Int32), 0)) else (
  some ((1 : Int32), 0)))) else (
  bnd (f_X6_get n (8 : Int32) 640 (no_0.2.1 12) v1_0 v2_0) (fun (r_2 : Int32) =>
  some (r_2, 0)))) else (
  some ((0 : Int32), 1)))) else (
  some ((0 : Int32), cd_1)))
set_option maxHeartbeats 4000000 in
set_option maxRecDepth 100000 in
theorem c_X8_loan (n : Nat) (l : Launch) (k : KT) (hx : XH l k) (a_th : Nat → Nat) (a_in : Nat → Nat) (a_ou : Nat → Nat) (a_ru : Nat → Nat) (a_no : Nat → Nat) (a_fo : Nat → Nat) (a_rd : Nat → Nat) (a_pa : Nat → Nat) (sv_th : Value) (th_0 : OS) (no_0 : OS) (v1_0 : Int32) (v2_0 : Int32) (res : (Int32 × Nat)) (hf : f_X8_loan n sv_th th_0 no_0 v1_0 v2_0 = some res) : CX l k yX8_loan cX8_loan 3 (some .int) 7 2 12 103 [.ref (a_th 0), .int v1_0, .int v2_0] (wMCo k a_th (a_in 0) (a_ou 0) (a_ru 0) (a_no 0) (a_fo 0) (a_rd 0) (a_pa 0) sv_th th_0 ++ wCourt k a_no no_0) (Qi k (fun u : Unit => wMCo k a_th (a_in 0) (a_ou 0) (a_ru 0) (a_no 0) (a_fo 0) (a_rd 0) (a_pa 0) sv_th th_0 ++ wCourt k a_no no_0) (fun (r : Int32) (u : Unit) => res = (r, 0))) (Xq k (fun u : Unit => wMCo k a_th (a_in 0) (a_ou 0) (a_ru 0) (a_no 0) (a_fo 0) (a_rd 0) (a_pa 0) sv_th th_0 ++ wCourt k a_no no_0) (fun (cd : Nat) (u : Unit) => cd ≠ 0 ∧ res = ((0 : Int32), cd))) := by
  refine CX.ofI hx rfl (by decide) (Nat.le_of_ble_eq_true rfl) (by decide) (by decide) (fun p e s m args below meth c A Q E hnm hW hA hret hout hthr ls hl => ?_)
  have hl : lv_has ls 3 [(0, .ref (a_th 0)), (1, .int v1_0), (2, .int v2_0)] := hl
  unfold f_X8_loan at hf
  refine k_aload_n E hl 0 dX8_loan_0 rfl ?_
  refine k_iload_n E hl 1 dX8_loan_1 rfl ?_
  obtain ⟨cd_1, hg, hf⟩ := ob hf
  refine k_callXv (As := [.int v1_0]) (rest := []) (ws2 := fun u => wMCo k a_th (a_in 0) (a_ou 0) (a_ru 0) (a_no 0) (a_fo 0) (a_rd 0) (a_pa 0) sv_th th_0 ++ wCourt k a_no no_0) (c_X8_needLoan n l k hx a_th a_in a_ou a_ru a_no a_fo a_rd a_pa sv_th th_0 no_0 v1_0 cd_1 hg) E vl_X8_186 dX8_loan_2 rfl [0, 1, 2, 3, 4, 5, 6, 7, 8, 9, 10, 11, 12] 6 0 hW hA hl rfl rfl rfl rfl ⟨by decide, by decide⟩ ⟨by decide, by decide⟩ (Nat.le_of_ble_eq_true rfl) rfl (fun _ => rfl) (fun _ => rfl) (fun cd9 u ce9 q9 H locs hp hW hce hcv hcls => ?_) (fun u H locs hp hW => ?_)
  · obtain ⟨hcd, hp⟩ := hp
    cases hp
    have hW : WD k A s.heap (wMCo k a_th (a_in 0) (a_ou 0) (a_ru 0) (a_no 0) (a_fo 0) (a_rd 0) (a_pa 0) sv_th th_0 ++ wCourt k a_no no_0) H locs := hW
    have hf := oF hcd hf
    exact hout _ () _ _ _ _ _ _ _ _ _ ⟨hcd, (Option.some.inj hf).symm⟩ hW hce hcv hcls (by decide) (by decide)
  cases hp
  have hW : WD k A s.heap (wMCo k a_th (a_in 0) (a_ou 0) (a_ru 0) (a_no 0) (a_fo 0) (a_rd 0) (a_pa 0) sv_th th_0 ++ wCourt k a_no no_0) H locs := hW
  have hf := oT rfl hf
  refine k_iload_n E hl 2 dX8_loan_5 rfl ?_
  refine lv_if_lt (tgt := 15) E.hx E.hb dX8_loan_6 (by decide) (fun hc => ?_) (fun hc => ?_)
  · have hf := oT hc hf
    exact hthr 1 () _ _ _ _ _ _ _ _ _ _ _ xr_1 xt_189 ⟨by decide, (Option.some.inj hf).symm⟩ hW hl ⟨dX8_loan_15, dX8_loan_18, Or.inl ⟨dX8_loan_19, dX8_loan_21, dX8_loan_24⟩⟩ (by decide) (by decide)
  · have hf := oF hc hf
    refine k_iload_n E hl 2 dX8_loan_9 rfl ?_
    refine lv_bipush (v := (7 : Int32)) E.hx E.hb dX8_loan_10 bp_7 ?_
    refine lv_icmp_le (tgt := 25) E.hx E.hb dX8_loan_12 (by decide) (fun hc => ?_) (fun hc => ?_)
    · have hf := oT hc hf
      refine k_iload_n E hl 2 dX8_loan_25 rfl ?_
      refine lv_iconst (v := (5 : Int32)) E.hx E.hb dX8_loan_26 ic_5 ?_
      refine lv_icmp_ne (tgt := 47) E.hx E.hb dX8_loan_27 (by decide) (fun hc => ?_) (fun hc => ?_)
      · have hf := oF hc hf
        refine k_aload_n E hl 0 dX8_loan_47 rfl ?_
        refine gf_X8_31 E hW 0 rfl rfl dX8_loan_48 ?_
        refine gf_X8_195 E hW 1 rfl rfl dX8_loan_51 ?_
        refine k_iload_n E hl 1 dX8_loan_54 rfl ?_
        refine k_iload_n E hl 2 dX8_loan_55 rfl ?_
        obtain ⟨r_2, hg, hf⟩ := ob hf
        refine k_callVi (As := [.int v1_0, .int v2_0]) (rest := []) (ws2 := fun u => wMCo k a_th (a_in 0) (a_ou 0) (a_ru 0) (a_no 0) (a_fo 0) (a_rd 0) (a_pa 0) sv_th th_0 ++ wCourt k a_no no_0) (c_X6_get n l k (fun j => a_no (5 + j)) (8 : Int32) 640 (no_0.2.1 12) v1_0 v2_0 r_2 hg) E vl_X8_171 dX8_loan_56 rfl [6, 7] 5 6 hW hA hl rfl rfl rfl rfl ⟨by decide, by decide⟩ ⟨by decide, by decide⟩ (Nat.le_of_ble_eq_true rfl) rfl (fun _ => rfl) (fun _ => rfl) (fun r u H locs hp hW => ?_)
        cases hp
        have hW : WD k A s.heap (wMCo k a_th (a_in 0) (a_ou 0) (a_ru 0) (a_no 0) (a_fo 0) (a_rd 0) (a_pa 0) sv_th th_0 ++ wCourt k a_no no_0) H locs := hW
        exact hret _ () _ _ _ _ _ _ hW (Option.some.inj hf).symm rfl (by decide) (by decide) dX8_loan_59
      · have hf := oT hc hf
        refine k_aload_n E hl 0 dX8_loan_30 rfl ?_
        refine gf_X8_31 E hW 0 rfl rfl dX8_loan_31 ?_
        refine k_iload_n E hl 1 dX8_loan_34 rfl ?_
        obtain ⟨r_3, hg, hf⟩ := ob hf
        refine k_callVi (As := [.int v1_0]) (rest := []) (ws2 := fun u => wMCo k a_th (a_in 0) (a_ou 0) (a_ru 0) (a_no 0) (a_fo 0) (a_rd 0) (a_pa 0) sv_th th_0 ++ wCourt k a_no no_0) (c_X2_isBroken n l k a_no no_0 v1_0 r_3 hg) E vl_X8_191 dX8_loan_35 rfl [1, 2, 3, 4, 5, 6, 7, 8, 9, 10, 11, 12] 1 1 hW hA hl rfl rfl rfl rfl ⟨by decide, by decide⟩ ⟨by decide, by decide⟩ (Nat.le_of_ble_eq_true rfl) rfl (fun _ => rfl) (fun _ => rfl) (fun r u H locs hp hW => ?_)
        cases hp
        have hW : WD k A s.heap (wMCo k a_th (a_in 0) (a_ou 0) (a_ru 0) (a_no 0) (a_fo 0) (a_rd 0) (a_pa 0) sv_th th_0 ++ wCourt k a_no no_0) H locs := hW
        refine lv_if_eq (tgt := 45) E.hx E.hb dX8_loan_38 (by decide) (fun hc => ?_) (fun hc => ?_)
        · have hf := oT hc hf
          refine lv_iconst (v := (0 : Int32)) E.hx E.hb dX8_loan_45 ic_0 ?_
          exact hret _ () _ _ _ _ _ _ hW (Option.some.inj hf).symm rfl (by decide) (by decide) dX8_loan_46
        · have hf := oF hc hf
          refine lv_iconst (v := (1 : Int32)) E.hx E.hb dX8_loan_41 ic_1 ?_
          refine lv_goto (tgt := 46) E.hx E.hb dX8_loan_42 (by decide) ?_
          exact hret _ () _ _ _ _ _ _ hW (Option.some.inj hf).symm rfl (by decide) (by decide) dX8_loan_46
    · have hf := oF hc hf
      exact hthr 1 () _ _ _ _ _ _ _ _ _ _ _ xr_1 xt_189 ⟨by decide, (Option.some.inj hf).symm⟩ hW hl ⟨dX8_loan_15, dX8_loan_18, Or.inl ⟨dX8_loan_19, dX8_loan_21, dX8_loan_24⟩⟩ (by decide) (by decide)
def f_X8_page (n : Nat) (sv_th : Value) (th_0 : OS) (ru_0 : OS) (no_0 : OS) (v1_0 : Int32) : Option (Int32 × Nat) :=
  if v1_0 < 0 then (
  some ((0 : Int32), 1)) else (
  if v1_0 < (ru_0.1 0) then (
  bnd (f_X2_loanOf n no_0 v1_0) (fun (r_1 : Int32) =>
  some (r_1, 0))) else (
  some ((0 : Int32), 1)))
set_option maxHeartbeats 4000000 in
set_option maxRecDepth 100000 in
theorem c_X8_page (n : Nat) (l : Launch) (k : KT) (hx : XH l k) (a_th : Nat → Nat) (a_in : Nat → Nat) (a_ou : Nat → Nat) (a_ru : Nat → Nat) (a_no : Nat → Nat) (a_fo : Nat → Nat) (a_rd : Nat → Nat) (a_pa : Nat → Nat) (sv_th : Value) (th_0 : OS) (ru_0 : OS) (no_0 : OS) (v1_0 : Int32) (res : (Int32 × Nat)) (hf : f_X8_page n sv_th th_0 ru_0 no_0 v1_0 = some res) : CX l k yX8_page cX8_page 2 (some .int) 6 1 6 82 [.ref (a_th 0), .int v1_0] (wMCo k a_th (a_in 0) (a_ou 0) (a_ru 0) (a_no 0) (a_fo 0) (a_rd 0) (a_pa 0) sv_th th_0 ++ wRules k a_ru ru_0 ++ wCourt k a_no no_0) (Qi k (fun u : Unit => wMCo k a_th (a_in 0) (a_ou 0) (a_ru 0) (a_no 0) (a_fo 0) (a_rd 0) (a_pa 0) sv_th th_0 ++ wRules k a_ru ru_0 ++ wCourt k a_no no_0) (fun (r : Int32) (u : Unit) => res = (r, 0))) (Xq k (fun u : Unit => wMCo k a_th (a_in 0) (a_ou 0) (a_ru 0) (a_no 0) (a_fo 0) (a_rd 0) (a_pa 0) sv_th th_0 ++ wRules k a_ru ru_0 ++ wCourt k a_no no_0) (fun (cd : Nat) (u : Unit) => cd ≠ 0 ∧ res = ((0 : Int32), cd))) := by
  refine CX.ofI hx rfl (by decide) (Nat.le_of_ble_eq_true rfl) (by decide) (by decide) (fun p e s m args below meth c A Q E hnm hW hA hret hout hthr ls hl => ?_)
  have hl : lv_has ls 2 [(0, .ref (a_th 0)), (1, .int v1_0)] := hl
  unfold f_X8_page at hf
  refine k_iload_n E hl 1 dX8_page_0 rfl ?_
  refine lv_if_lt (tgt := 15) E.hx E.hb dX8_page_1 (by decide) (fun hc => ?_) (fun hc => ?_)
  · have hf := oT hc hf
    exact hthr 1 () _ _ _ _ _ _ _ _ _ _ _ xr_1 xt_198 ⟨by decide, (Option.some.inj hf).symm⟩ hW hl ⟨dX8_page_15, dX8_page_18, Or.inl ⟨dX8_page_19, dX8_page_21, dX8_page_24⟩⟩ (by decide) (by decide)
  · have hf := oF hc hf
    refine k_iload_n E hl 1 dX8_page_4 rfl ?_
    refine k_aload_n E hl 0 dX8_page_5 rfl ?_
    refine gf_X8_24 E hW 0 rfl rfl dX8_page_6 ?_
    refine gf_X8_105 E hW 1 rfl rfl dX8_page_9 ?_
    refine lv_icmp_lt (tgt := 25) E.hx E.hb dX8_page_12 (by decide) (fun hc => ?_) (fun hc => ?_)
    · have hf := oT hc hf
      refine k_aload_n E hl 0 dX8_page_25 rfl ?_
      refine gf_X8_31 E hW 0 rfl rfl dX8_page_26 ?_
      refine k_iload_n E hl 1 dX8_page_29 rfl ?_
      obtain ⟨r_1, hg, hf⟩ := ob hf
      refine k_callVi (As := [.int v1_0]) (rest := []) (ws2 := fun u => wMCo k a_th (a_in 0) (a_ou 0) (a_ru 0) (a_no 0) (a_fo 0) (a_rd 0) (a_pa 0) sv_th th_0 ++ wRules k a_ru ru_0 ++ wCourt k a_no no_0) (c_X2_loanOf n l k a_no no_0 v1_0 r_1 hg) E vl_X8_200 dX8_page_30 rfl [4, 5, 6, 7, 8, 9, 10, 11, 12, 13, 14, 15] 1 4 hW hA hl rfl rfl rfl rfl ⟨by decide, by decide⟩ ⟨by decide, by decide⟩ (Nat.le_of_ble_eq_true rfl) rfl (fun _ => rfl) (fun _ => rfl) (fun r u H locs hp hW => ?_)
      cases hp
      have hW : WD k A s.heap (wMCo k a_th (a_in 0) (a_ou 0) (a_ru 0) (a_no 0) (a_fo 0) (a_rd 0) (a_pa 0) sv_th th_0 ++ wRules k a_ru ru_0 ++ wCourt k a_no no_0) H locs := hW
      exact hret _ () _ _ _ _ _ _ hW (Option.some.inj hf).symm rfl (by decide) (by decide) dX8_page_33
    · have hf := oF hc hf
      exact hthr 1 () _ _ _ _ _ _ _ _ _ _ _ xr_1 xt_198 ⟨by decide, (Option.some.inj hf).symm⟩ hW hl ⟨dX8_page_15, dX8_page_18, Or.inl ⟨dX8_page_19, dX8_page_21, dX8_page_24⟩⟩ (by decide) (by decide)
def f_X8_pageOf (n : Nat) (sv_th : Value) (th_0 : OS) (no_0 : OS) (v1_0 : Int32) (v2_0 : Int32) : Option (Int32 × Nat) :=
  bnd (f_X8_needLoan n sv_th th_0 no_0 v1_0) (fun (cd_1 : Nat) =>
  if cd_1 = 0 then (
  bnd (f_X2_pageAt n no_0 v1_0 v2_0) (fun (r_2 : Int32) =>
  if r_2 = (-1 : Int32) then (
  some ((0 : Int32), 4)) else (
  some (r_2, 0)))) else (
  some ((0 : Int32), cd_1)))
set_option maxHeartbeats 4000000 in
set_option maxRecDepth 100000 in
theorem c_X8_pageOf (n : Nat) (l : Launch) (k : KT) (hx : XH l k) (a_th : Nat → Nat) (a_in : Nat → Nat) (a_ou : Nat → Nat) (a_ru : Nat → Nat) (a_no : Nat → Nat) (a_fo : Nat → Nat) (a_rd : Nat → Nat) (a_pa : Nat → Nat) (sv_th : Value) (th_0 : OS) (no_0 : OS) (v1_0 : Int32) (v2_0 : Int32) (res : (Int32 × Nat)) (hf : f_X8_pageOf n sv_th th_0 no_0 v1_0 v2_0 = some res) : CX l k yX8_pageOf cX8_pageOf 4 (some .int) 7 2 12 103 [.ref (a_th 0), .int v1_0, .int v2_0] (wMCo k a_th (a_in 0) (a_ou 0) (a_ru 0) (a_no 0) (a_fo 0) (a_rd 0) (a_pa 0) sv_th th_0 ++ wCourt k a_no no_0) (Qi k (fun u : Unit => wMCo k a_th (a_in 0) (a_ou 0) (a_ru 0) (a_no 0) (a_fo 0) (a_rd 0) (a_pa 0) sv_th th_0 ++ wCourt k a_no no_0) (fun (r : Int32) (u : Unit) => res = (r, 0))) (Xq k (fun u : Unit => wMCo k a_th (a_in 0) (a_ou 0) (a_ru 0) (a_no 0) (a_fo 0) (a_rd 0) (a_pa 0) sv_th th_0 ++ wCourt k a_no no_0) (fun (cd : Nat) (u : Unit) => cd ≠ 0 ∧ res = ((0 : Int32), cd))) := by
  refine CX.ofI hx rfl (by decide) (Nat.le_of_ble_eq_true rfl) (by decide) (by decide) (fun p e s m args below meth c A Q E hnm hW hA hret hout hthr ls hl => ?_)
  have hl : lv_has ls 4 [(0, .ref (a_th 0)), (1, .int v1_0), (2, .int v2_0)] := hl
  unfold f_X8_pageOf at hf
  refine k_aload_n E hl 0 dX8_pageOf_0 rfl ?_
  refine k_iload_n E hl 1 dX8_pageOf_1 rfl ?_
  obtain ⟨cd_1, hg, hf⟩ := ob hf
  refine k_callXv (As := [.int v1_0]) (rest := []) (ws2 := fun u => wMCo k a_th (a_in 0) (a_ou 0) (a_ru 0) (a_no 0) (a_fo 0) (a_rd 0) (a_pa 0) sv_th th_0 ++ wCourt k a_no no_0) (c_X8_needLoan n l k hx a_th a_in a_ou a_ru a_no a_fo a_rd a_pa sv_th th_0 no_0 v1_0 cd_1 hg) E vl_X8_186 dX8_pageOf_2 rfl [0, 1, 2, 3, 4, 5, 6, 7, 8, 9, 10, 11, 12] 6 0 hW hA hl rfl rfl rfl rfl ⟨by decide, by decide⟩ ⟨by decide, by decide⟩ (Nat.le_of_ble_eq_true rfl) rfl (fun _ => rfl) (fun _ => rfl) (fun cd9 u ce9 q9 H locs hp hW hce hcv hcls => ?_) (fun u H locs hp hW => ?_)
  · obtain ⟨hcd, hp⟩ := hp
    cases hp
    have hW : WD k A s.heap (wMCo k a_th (a_in 0) (a_ou 0) (a_ru 0) (a_no 0) (a_fo 0) (a_rd 0) (a_pa 0) sv_th th_0 ++ wCourt k a_no no_0) H locs := hW
    have hf := oF hcd hf
    exact hout _ () _ _ _ _ _ _ _ _ _ ⟨hcd, (Option.some.inj hf).symm⟩ hW hce hcv hcls (by decide) (by decide)
  cases hp
  have hW : WD k A s.heap (wMCo k a_th (a_in 0) (a_ou 0) (a_ru 0) (a_no 0) (a_fo 0) (a_rd 0) (a_pa 0) sv_th th_0 ++ wCourt k a_no no_0) H locs := hW
  have hf := oT rfl hf
  refine k_aload_n E hl 0 dX8_pageOf_5 rfl ?_
  refine gf_X8_31 E hW 0 rfl rfl dX8_pageOf_6 ?_
  refine k_iload_n E hl 1 dX8_pageOf_9 rfl ?_
  refine k_iload_n E hl 2 dX8_pageOf_10 rfl ?_
  obtain ⟨r_2, hg, hf⟩ := ob hf
  refine k_callVi (As := [.int v1_0, .int v2_0]) (rest := []) (ws2 := fun u => wMCo k a_th (a_in 0) (a_ou 0) (a_ru 0) (a_no 0) (a_fo 0) (a_rd 0) (a_pa 0) sv_th th_0 ++ wCourt k a_no no_0) (c_X2_pageAt n l k a_no no_0 v1_0 v2_0 r_2 hg) E vl_X8_203 dX8_pageOf_11 rfl [1, 2, 3, 4, 5, 6, 7, 8, 9, 10, 11, 12] 1 1 hW hA hl rfl rfl rfl rfl ⟨by decide, by decide⟩ ⟨by decide, by decide⟩ (Nat.le_of_ble_eq_true rfl) rfl (fun _ => rfl) (fun _ => rfl) (fun r u H locs hp hW => ?_)
  cases hp
  have hW : WD k A s.heap (wMCo k a_th (a_in 0) (a_ou 0) (a_ru 0) (a_no 0) (a_fo 0) (a_rd 0) (a_pa 0) sv_th th_0 ++ wCourt k a_no no_0) H locs := hW
  refine k_istore_n (lv' := [(3, .int r_2), (0, .ref (a_th 0)), (1, .int v1_0), (2, .int v2_0)]) E rfl hl dX8_pageOf_14 rfl (by decide) rfl (fun ls hl => ?_)
  refine k_iload_n E hl 0 dX8_pageOf_15 rfl ?_
  refine lv_iconst (v := (-1 : Int32)) E.hx E.hb dX8_pageOf_16 ic_m1 ?_
  refine lv_icmp_ne (tgt := 30) E.hx E.hb dX8_pageOf_17 (by decide) (fun hc => ?_) (fun hc => ?_)
  · have hf := oF hc hf
    refine k_iload_n E hl 0 dX8_pageOf_30 rfl ?_
    exact hret _ () _ _ _ _ _ _ hW (Option.some.inj hf).symm rfl (by decide) (by decide) dX8_pageOf_31
  · have hf := oT hc hf
    exact hthr 4 () _ _ _ _ _ _ _ _ _ _ _ xr_4 xt_208 ⟨by decide, (Option.some.inj hf).symm⟩ hW hl ⟨dX8_pageOf_20, dX8_pageOf_23, Or.inl ⟨dX8_pageOf_24, dX8_pageOf_26, dX8_pageOf_29⟩⟩ (by decide) (by decide)
def f_X8_pieces (n : Nat) (sv_th : Value) (th_0 : OS) (no_0 : OS) (v1_0 : Int32) : Option (Int32 × Nat) :=
  bnd (f_X8_needLoan n sv_th th_0 no_0 v1_0) (fun (cd_1 : Nat) =>
  if cd_1 = 0 then (
  bnd (f_X2_rowsOf n no_0 v1_0) (fun (r_2 : Int32) =>
  some (r_2, 0))) else (
  some ((0 : Int32), cd_1)))
set_option maxHeartbeats 4000000 in
set_option maxRecDepth 100000 in
theorem c_X8_pieces (n : Nat) (l : Launch) (k : KT) (hx : XH l k) (a_th : Nat → Nat) (a_in : Nat → Nat) (a_ou : Nat → Nat) (a_ru : Nat → Nat) (a_no : Nat → Nat) (a_fo : Nat → Nat) (a_rd : Nat → Nat) (a_pa : Nat → Nat) (sv_th : Value) (th_0 : OS) (no_0 : OS) (v1_0 : Int32) (res : (Int32 × Nat)) (hf : f_X8_pieces n sv_th th_0 no_0 v1_0 = some res) : CX l k yX8_pieces cX8_pieces 2 (some .int) 7 1 6 103 [.ref (a_th 0), .int v1_0] (wMCo k a_th (a_in 0) (a_ou 0) (a_ru 0) (a_no 0) (a_fo 0) (a_rd 0) (a_pa 0) sv_th th_0 ++ wCourt k a_no no_0) (Qi k (fun u : Unit => wMCo k a_th (a_in 0) (a_ou 0) (a_ru 0) (a_no 0) (a_fo 0) (a_rd 0) (a_pa 0) sv_th th_0 ++ wCourt k a_no no_0) (fun (r : Int32) (u : Unit) => res = (r, 0))) (Xq k (fun u : Unit => wMCo k a_th (a_in 0) (a_ou 0) (a_ru 0) (a_no 0) (a_fo 0) (a_rd 0) (a_pa 0) sv_th th_0 ++ wCourt k a_no no_0) (fun (cd : Nat) (u : Unit) => cd ≠ 0 ∧ res = ((0 : Int32), cd))) := by
  refine CX.ofI hx rfl (by decide) (Nat.le_of_ble_eq_true rfl) (by decide) (by decide) (fun p e s m args below meth c A Q E hnm hW hA hret hout hthr ls hl => ?_)
  have hl : lv_has ls 2 [(0, .ref (a_th 0)), (1, .int v1_0)] := hl
  unfold f_X8_pieces at hf
  refine k_aload_n E hl 0 dX8_pieces_0 rfl ?_
  refine k_iload_n E hl 1 dX8_pieces_1 rfl ?_
  obtain ⟨cd_1, hg, hf⟩ := ob hf
  refine k_callXv (As := [.int v1_0]) (rest := []) (ws2 := fun u => wMCo k a_th (a_in 0) (a_ou 0) (a_ru 0) (a_no 0) (a_fo 0) (a_rd 0) (a_pa 0) sv_th th_0 ++ wCourt k a_no no_0) (c_X8_needLoan n l k hx a_th a_in a_ou a_ru a_no a_fo a_rd a_pa sv_th th_0 no_0 v1_0 cd_1 hg) E vl_X8_186 dX8_pieces_2 rfl [0, 1, 2, 3, 4, 5, 6, 7, 8, 9, 10, 11, 12] 6 0 hW hA hl rfl rfl rfl rfl ⟨by decide, by decide⟩ ⟨by decide, by decide⟩ (Nat.le_of_ble_eq_true rfl) rfl (fun _ => rfl) (fun _ => rfl) (fun cd9 u ce9 q9 H locs hp hW hce hcv hcls => ?_) (fun u H locs hp hW => ?_)
  · obtain ⟨hcd, hp⟩ := hp
    cases hp
    have hW : WD k A s.heap (wMCo k a_th (a_in 0) (a_ou 0) (a_ru 0) (a_no 0) (a_fo 0) (a_rd 0) (a_pa 0) sv_th th_0 ++ wCourt k a_no no_0) H locs := hW
    have hf := oF hcd hf
    exact hout _ () _ _ _ _ _ _ _ _ _ ⟨hcd, (Option.some.inj hf).symm⟩ hW hce hcv hcls (by decide) (by decide)
  cases hp
  have hW : WD k A s.heap (wMCo k a_th (a_in 0) (a_ou 0) (a_ru 0) (a_no 0) (a_fo 0) (a_rd 0) (a_pa 0) sv_th th_0 ++ wCourt k a_no no_0) H locs := hW
  have hf := oT rfl hf
  refine k_aload_n E hl 0 dX8_pieces_5 rfl ?_
  refine gf_X8_31 E hW 0 rfl rfl dX8_pieces_6 ?_
  refine k_iload_n E hl 1 dX8_pieces_9 rfl ?_
  obtain ⟨r_2, hg, hf⟩ := ob hf
  refine k_callVi (As := [.int v1_0]) (rest := []) (ws2 := fun u => wMCo k a_th (a_in 0) (a_ou 0) (a_ru 0) (a_no 0) (a_fo 0) (a_rd 0) (a_pa 0) sv_th th_0 ++ wCourt k a_no no_0) (c_X2_rowsOf n l k a_no no_0 v1_0 r_2 hg) E vl_X8_211 dX8_pieces_10 rfl [1, 2, 3, 4, 5, 6, 7, 8, 9, 10, 11, 12] 1 1 hW hA hl rfl rfl rfl rfl ⟨by decide, by decide⟩ ⟨by decide, by decide⟩ (Nat.le_of_ble_eq_true rfl) rfl (fun _ => rfl) (fun _ => rfl) (fun r u H locs hp hW => ?_)
  cases hp
  have hW : WD k A s.heap (wMCo k a_th (a_in 0) (a_ou 0) (a_ru 0) (a_no 0) (a_fo 0) (a_rd 0) (a_pa 0) sv_th th_0 ++ wCourt k a_no no_0) H locs := hW
  exact hret _ () _ _ _ _ _ _ hW (Option.some.inj hf).symm rfl (by decide) (by decide) dX8_pieces_13
def f_X8_longestFree (n : Nat) (sv_th : Value) (th_0 : OS) (no_0 : OS) : Option (Int32) :=
  bnd (f_X2_longestRow n no_0 (-1 : Int32)) (fun (r_1 : Int32) =>
  some r_1)
set_option maxHeartbeats 4000000 in
set_option maxRecDepth 100000 in
theorem c_X8_longestFree (n : Nat) (l : Launch) (k : KT) (a_th : Nat → Nat) (a_in : Nat → Nat) (a_ou : Nat → Nat) (a_ru : Nat → Nat) (a_no : Nat → Nat) (a_fo : Nat → Nat) (a_rd : Nat → Nat) (a_pa : Nat → Nat) (sv_th : Value) (th_0 : OS) (no_0 : OS) (res : (Int32)) (hf : f_X8_longestFree n sv_th th_0 no_0 = some res) : CG l k yX8_longestFree cX8_longestFree 1 (some .int) 2 0 0 49 [.ref (a_th 0)] (wMCo k a_th (a_in 0) (a_ou 0) (a_ru 0) (a_no 0) (a_fo 0) (a_rd 0) (a_pa 0) sv_th th_0 ++ wCourt k a_no no_0) (Qi k (fun u : Unit => wMCo k a_th (a_in 0) (a_ou 0) (a_ru 0) (a_no 0) (a_fo 0) (a_rd 0) (a_pa 0) sv_th th_0 ++ wCourt k a_no no_0) (fun (r : Int32) (u : Unit) => res = r)) := by
  refine CG.ofI (by decide) (Nat.le_of_ble_eq_true rfl) (fun p e s m args below meth c A Q E hnm hW hA hret ls hl => ?_)
  have hl : lv_has ls 1 [(0, .ref (a_th 0))] := hl
  unfold f_X8_longestFree at hf
  refine k_aload_n E hl 0 dX8_longestFree_0 rfl ?_
  refine gf_X8_31 E hW 0 rfl rfl dX8_longestFree_1 ?_
  refine lv_iconst (v := (-1 : Int32)) E.hx E.hb dX8_longestFree_4 ic_m1 ?_
  obtain ⟨r_1, hg, hf⟩ := ob hf
  refine k_callVi (As := [.int (-1 : Int32)]) (rest := []) (ws2 := fun u => wMCo k a_th (a_in 0) (a_ou 0) (a_ru 0) (a_no 0) (a_fo 0) (a_rd 0) (a_pa 0) sv_th th_0 ++ wCourt k a_no no_0) (c_X2_longestRow n l k a_no no_0 (-1 : Int32) r_1 hg) E vl_X8_214 dX8_longestFree_5 rfl [1, 2, 3, 4, 5, 6, 7, 8, 9, 10, 11, 12] 1 1 hW hA hl rfl rfl rfl rfl ⟨by decide, by decide⟩ ⟨by decide, by decide⟩ (Nat.le_of_ble_eq_true rfl) rfl (fun _ => rfl) (fun _ => rfl) (fun r u H locs hp hW => ?_)
  cases hp
  have hW : WD k A s.heap (wMCo k a_th (a_in 0) (a_ou 0) (a_ru 0) (a_no 0) (a_fo 0) (a_rd 0) (a_pa 0) sv_th th_0 ++ wCourt k a_no no_0) H locs := hW
  exact hret _ () _ _ _ _ _ _ hW (Option.some.inj hf).symm rfl (by decide) (by decide) dX8_longestFree_8
def f_X8_claim (n : Nat) (sv_th : Value) (th_0 : OS) (no_0 : OS) (v1_0 : Int32) (v2_0 : Int32) : Option (Int32 × Nat) :=
  bnd (f_X8_needClaim n sv_th th_0 no_0 v1_0) (fun (cd_1 : Nat) =>
  if cd_1 = 0 then (
  if v2_0 < 0 then (
  some ((0 : Int32), 1)) else (
  if v2_0 ≤ (6 : Int32) then (
  bnd (f_X6_get n (7 : Int32) 420 (no_0.2.1 13) v1_0 v2_0) (fun (r_2 : Int32) =>
  some (r_2, 0))) else (
  some ((0 : Int32), 1)))) else (
  some ((0 : Int32), cd_1)))
set_option maxHeartbeats 4000000 in
set_option maxRecDepth 100000 in
theorem c_X8_claim (n : Nat) (l : Launch) (k : KT) (hx : XH l k) (a_th : Nat → Nat) (a_in : Nat → Nat) (a_ou : Nat → Nat) (a_ru : Nat → Nat) (a_no : Nat → Nat) (a_fo : Nat → Nat) (a_rd : Nat → Nat) (a_pa : Nat → Nat) (sv_th : Value) (th_0 : OS) (no_0 : OS) (v1_0 : Int32) (v2_0 : Int32) (res : (Int32 × Nat)) (hf : f_X8_claim n sv_th th_0 no_0 v1_0 v2_0 = some res) : CX l k yX8_claim cX8_claim 3 (some .int) 7 2 12 103 [.ref (a_th 0), .int v1_0, .int v2_0] (wMCo k a_th (a_in 0) (a_ou 0) (a_ru 0) (a_no 0) (a_fo 0) (a_rd 0) (a_pa 0) sv_th th_0 ++ wCourt k a_no no_0) (Qi k (fun u : Unit => wMCo k a_th (a_in 0) (a_ou 0) (a_ru 0) (a_no 0) (a_fo 0) (a_rd 0) (a_pa 0) sv_th th_0 ++ wCourt k a_no no_0) (fun (r : Int32) (u : Unit) => res = (r, 0))) (Xq k (fun u : Unit => wMCo k a_th (a_in 0) (a_ou 0) (a_ru 0) (a_no 0) (a_fo 0) (a_rd 0) (a_pa 0) sv_th th_0 ++ wCourt k a_no no_0) (fun (cd : Nat) (u : Unit) => cd ≠ 0 ∧ res = ((0 : Int32), cd))) := by
  refine CX.ofI hx rfl (by decide) (Nat.le_of_ble_eq_true rfl) (by decide) (by decide) (fun p e s m args below meth c A Q E hnm hW hA hret hout hthr ls hl => ?_)
  have hl : lv_has ls 3 [(0, .ref (a_th 0)), (1, .int v1_0), (2, .int v2_0)] := hl
  unfold f_X8_claim at hf
  refine k_aload_n E hl 0 dX8_claim_0 rfl ?_
  refine k_iload_n E hl 1 dX8_claim_1 rfl ?_
  obtain ⟨cd_1, hg, hf⟩ := ob hf
  refine k_callXv (As := [.int v1_0]) (rest := []) (ws2 := fun u => wMCo k a_th (a_in 0) (a_ou 0) (a_ru 0) (a_no 0) (a_fo 0) (a_rd 0) (a_pa 0) sv_th th_0 ++ wCourt k a_no no_0) (c_X8_needClaim n l k hx a_th a_in a_ou a_ru a_no a_fo a_rd a_pa sv_th th_0 no_0 v1_0 cd_1 hg) E vl_X8_217 dX8_claim_2 rfl [0, 1, 2, 3, 4, 5, 6, 7, 8, 9, 10, 11, 12] 6 0 hW hA hl rfl rfl rfl rfl ⟨by decide, by decide⟩ ⟨by decide, by decide⟩ (Nat.le_of_ble_eq_true rfl) rfl (fun _ => rfl) (fun _ => rfl) (fun cd9 u ce9 q9 H locs hp hW hce hcv hcls => ?_) (fun u H locs hp hW => ?_)
  · obtain ⟨hcd, hp⟩ := hp
    cases hp
    have hW : WD k A s.heap (wMCo k a_th (a_in 0) (a_ou 0) (a_ru 0) (a_no 0) (a_fo 0) (a_rd 0) (a_pa 0) sv_th th_0 ++ wCourt k a_no no_0) H locs := hW
    have hf := oF hcd hf
    exact hout _ () _ _ _ _ _ _ _ _ _ ⟨hcd, (Option.some.inj hf).symm⟩ hW hce hcv hcls (by decide) (by decide)
  cases hp
  have hW : WD k A s.heap (wMCo k a_th (a_in 0) (a_ou 0) (a_ru 0) (a_no 0) (a_fo 0) (a_rd 0) (a_pa 0) sv_th th_0 ++ wCourt k a_no no_0) H locs := hW
  have hf := oT rfl hf
  refine k_iload_n E hl 2 dX8_claim_5 rfl ?_
  refine lv_if_lt (tgt := 15) E.hx E.hb dX8_claim_6 (by decide) (fun hc => ?_) (fun hc => ?_)
  · have hf := oT hc hf
    exact hthr 1 () _ _ _ _ _ _ _ _ _ _ _ xr_1 xt_220 ⟨by decide, (Option.some.inj hf).symm⟩ hW hl ⟨dX8_claim_15, dX8_claim_18, Or.inl ⟨dX8_claim_19, dX8_claim_21, dX8_claim_24⟩⟩ (by decide) (by decide)
  · have hf := oF hc hf
    refine k_iload_n E hl 2 dX8_claim_9 rfl ?_
    refine lv_bipush (v := (6 : Int32)) E.hx E.hb dX8_claim_10 bp_6 ?_
    refine lv_icmp_le (tgt := 25) E.hx E.hb dX8_claim_12 (by decide) (fun hc => ?_) (fun hc => ?_)
    · have hf := oT hc hf
      refine k_aload_n E hl 0 dX8_claim_25 rfl ?_
      refine gf_X8_31 E hW 0 rfl rfl dX8_claim_26 ?_
      refine gf_X8_222 E hW 1 rfl rfl dX8_claim_29 ?_
      refine k_iload_n E hl 1 dX8_claim_32 rfl ?_
      refine k_iload_n E hl 2 dX8_claim_33 rfl ?_
      obtain ⟨r_2, hg, hf⟩ := ob hf
      refine k_callVi (As := [.int v1_0, .int v2_0]) (rest := []) (ws2 := fun u => wMCo k a_th (a_in 0) (a_ou 0) (a_ru 0) (a_no 0) (a_fo 0) (a_rd 0) (a_pa 0) sv_th th_0 ++ wCourt k a_no no_0) (c_X6_get n l k (fun j => a_no (7 + j)) (7 : Int32) 420 (no_0.2.1 13) v1_0 v2_0 r_2 hg) E vl_X8_171 dX8_claim_34 rfl [8, 9] 5 8 hW hA hl rfl rfl rfl rfl ⟨by decide, by decide⟩ ⟨by decide, by decide⟩ (Nat.le_of_ble_eq_true rfl) rfl (fun _ => rfl) (fun _ => rfl) (fun r u H locs hp hW => ?_)
      cases hp
      have hW : WD k A s.heap (wMCo k a_th (a_in 0) (a_ou 0) (a_ru 0) (a_no 0) (a_fo 0) (a_rd 0) (a_pa 0) sv_th th_0 ++ wCourt k a_no no_0) H locs := hW
      exact hret _ () _ _ _ _ _ _ hW (Option.some.inj hf).symm rfl (by decide) (by decide) dX8_claim_37
    · have hf := oF hc hf
      exact hthr 1 () _ _ _ _ _ _ _ _ _ _ _ xr_1 xt_220 ⟨by decide, (Option.some.inj hf).symm⟩ hW hl ⟨dX8_claim_15, dX8_claim_18, Or.inl ⟨dX8_claim_19, dX8_claim_21, dX8_claim_24⟩⟩ (by decide) (by decide)
def f_X8_waiting (n : Nat) (sv_th : Value) (th_0 : OS) (no_0 : OS) (v1_0 : Int32) : Option (OS × Int32 × Nat) :=
  bnd2 (f_X2_lineUp n no_0) (fun (no_1 : OS) (r_2 : Int32) =>
  if v1_0 < 0 then (
  some (no_1, (0 : Int32), 4)) else (
  if v1_0 < r_2 then (
  bnd (f_X2_inLine n no_1 v1_0) (fun (r_3 : Int32) =>
  some (no_1, r_3, 0))) else (
  some (no_1, (0 : Int32), 4))))
set_option maxHeartbeats 4000000 in
set_option maxRecDepth 100000 in
theorem c_X8_waiting (n : Nat) (l : Launch) (k : KT) (hx : XH l k) (a_th : Nat → Nat) (a_in : Nat → Nat) (a_ou : Nat → Nat) (a_ru : Nat → Nat) (a_no : Nat → Nat) (a_fo : Nat → Nat) (a_rd : Nat → Nat) (a_pa : Nat → Nat) (sv_th : Value) (th_0 : OS) (no_0 : OS) (v1_0 : Int32) (res : (OS × Int32 × Nat)) (hf : f_X8_waiting n sv_th th_0 no_0 v1_0 = some res) : CX l k yX8_waiting cX8_waiting 3 (some .int) 6 1 6 82 [.ref (a_th 0), .int v1_0] (wMCo k a_th (a_in 0) (a_ou 0) (a_ru 0) (a_no 0) (a_fo 0) (a_rd 0) (a_pa 0) sv_th th_0 ++ wCourt k a_no no_0) (Qi k (fun u : OS => wMCo k a_th (a_in 0) (a_ou 0) (a_ru 0) (a_no 0) (a_fo 0) (a_rd 0) (a_pa 0) sv_th th_0 ++ wCourt k a_no u) (fun (r : Int32) (u : OS) => res = (u, r, 0))) (Xq k (fun u : OS => wMCo k a_th (a_in 0) (a_ou 0) (a_ru 0) (a_no 0) (a_fo 0) (a_rd 0) (a_pa 0) sv_th th_0 ++ wCourt k a_no u) (fun (cd : Nat) (u : OS) => cd ≠ 0 ∧ res = (u, (0 : Int32), cd))) := by
  refine CX.ofI hx rfl (by decide) (Nat.le_of_ble_eq_true rfl) (by decide) (by decide) (fun p e s m args below meth c A Q E hnm hW hA hret hout hthr ls hl => ?_)
  have hl : lv_has ls 3 [(0, .ref (a_th 0)), (1, .int v1_0)] := hl
  unfold f_X8_waiting at hf
  refine k_aload_n E hl 0 dX8_waiting_0 rfl ?_
  refine gf_X8_31 E hW 0 rfl rfl dX8_waiting_1 ?_
  obtain ⟨no_1, r_2, hg, hf⟩ := ob2 hf
  refine k_callVi (As := []) (rest := []) (ws2 := fun u => wMCo k a_th (a_in 0) (a_ou 0) (a_ru 0) (a_no 0) (a_fo 0) (a_rd 0) (a_pa 0) sv_th th_0 ++ wCourt k a_no (u)) (c_X2_lineUp n l k a_no no_0 (no_1, r_2) hg) E vl_X8_225 dX8_waiting_4 rfl [1, 2, 3, 4, 5, 6, 7, 8, 9, 10, 11, 12] 1 1 hW hA hl rfl rfl rfl rfl ⟨by decide, by decide⟩ ⟨by decide, by decide⟩ (Nat.le_of_ble_eq_true rfl) rfl (fun _ => rfl) (fun _ => rfl) (fun r u H locs hp hW => ?_)
  cases hp
  have hW : WD k A s.heap (wMCo k a_th (a_in 0) (a_ou 0) (a_ru 0) (a_no 0) (a_fo 0) (a_rd 0) (a_pa 0) sv_th th_0 ++ wCourt k a_no no_1) H locs := hW
  refine k_istore_n (lv' := [(2, .int r_2), (0, .ref (a_th 0)), (1, .int v1_0)]) E rfl hl dX8_waiting_7 rfl (by decide) rfl (fun ls hl => ?_)
  refine k_iload_n E hl 2 dX8_waiting_8 rfl ?_
  refine lv_if_lt (tgt := 17) E.hx E.hb dX8_waiting_9 (by decide) (fun hc => ?_) (fun hc => ?_)
  · have hf := oT hc hf
    exact hthr 4 no_1 _ _ _ _ _ _ _ _ _ _ _ xr_4 xt_229 ⟨by decide, (Option.some.inj hf).symm⟩ hW hl ⟨dX8_waiting_17, dX8_waiting_20, Or.inl ⟨dX8_waiting_21, dX8_waiting_23, dX8_waiting_26⟩⟩ (by decide) (by decide)
  · have hf := oF hc hf
    refine k_iload_n E hl 2 dX8_waiting_12 rfl ?_
    refine k_iload_n E hl 0 dX8_waiting_13 rfl ?_
    refine lv_icmp_lt (tgt := 27) E.hx E.hb dX8_waiting_14 (by decide) (fun hc => ?_) (fun hc => ?_)
    · have hf := oT hc hf
      refine k_aload_n E hl 1 dX8_waiting_27 rfl ?_
      refine gf_X8_31 E hW 0 rfl rfl dX8_waiting_28 ?_
      refine k_iload_n E hl 2 dX8_waiting_31 rfl ?_
      obtain ⟨r_3, hg, hf⟩ := ob hf
      refine k_callVi (As := [.int v1_0]) (rest := []) (ws2 := fun u => wMCo k a_th (a_in 0) (a_ou 0) (a_ru 0) (a_no 0) (a_fo 0) (a_rd 0) (a_pa 0) sv_th th_0 ++ wCourt k a_no no_1) (c_X2_inLine n l k a_no no_1 v1_0 r_3 hg) E vl_X8_231 dX8_waiting_32 rfl [1, 2, 3, 4, 5, 6, 7, 8, 9, 10, 11, 12] 1 1 hW hA hl rfl rfl rfl rfl ⟨by decide, by decide⟩ ⟨by decide, by decide⟩ (Nat.le_of_ble_eq_true rfl) rfl (fun _ => rfl) (fun _ => rfl) (fun r u H locs hp hW => ?_)
      cases hp
      have hW : WD k A s.heap (wMCo k a_th (a_in 0) (a_ou 0) (a_ru 0) (a_no 0) (a_fo 0) (a_rd 0) (a_pa 0) sv_th th_0 ++ wCourt k a_no no_1) H locs := hW
      exact hret _ no_1 _ _ _ _ _ _ hW (Option.some.inj hf).symm rfl (by decide) (by decide) dX8_waiting_35
    · have hf := oF hc hf
      exact hthr 4 no_1 _ _ _ _ _ _ _ _ _ _ _ xr_4 xt_229 ⟨by decide, (Option.some.inj hf).symm⟩ hW hl ⟨dX8_waiting_17, dX8_waiting_20, Or.inl ⟨dX8_waiting_21, dX8_waiting_23, dX8_waiting_26⟩⟩ (by decide) (by decide)
def f_X8_fine (n : Nat) (sv_th : Value) (th_0 : OS) (no_0 : OS) (v1_0 : Int32) (v2_0 : Int32) : Option (Int32 × Nat) :=
  if v2_0 < 0 then (
  some ((0 : Int32), 2)) else (
  if v2_0 ≤ (7 : Int32) then (
  bnd (f_X8_needFine n sv_th th_0 no_0 v1_0) (fun (cd_1 : Nat) =>
  if cd_1 = 0 then (
  bnd (f_X2_ofFine n no_0 v1_0 v2_0) (fun (r_2 : Int32) =>
  some (r_2, 0))) else (
  some ((0 : Int32), cd_1)))) else (
  some ((0 : Int32), 2)))
set_option maxHeartbeats 4000000 in
set_option maxRecDepth 100000 in
theorem c_X8_fine (n : Nat) (l : Launch) (k : KT) (hx : XH l k) (a_th : Nat → Nat) (a_in : Nat → Nat) (a_ou : Nat → Nat) (a_ru : Nat → Nat) (a_no : Nat → Nat) (a_fo : Nat → Nat) (a_rd : Nat → Nat) (a_pa : Nat → Nat) (sv_th : Value) (th_0 : OS) (no_0 : OS) (v1_0 : Int32) (v2_0 : Int32) (res : (Int32 × Nat)) (hf : f_X8_fine n sv_th th_0 no_0 v1_0 v2_0 = some res) : CX l k yX8_fine cX8_fine 3 (some .int) 7 1 6 103 [.ref (a_th 0), .int v1_0, .int v2_0] (wMCo k a_th (a_in 0) (a_ou 0) (a_ru 0) (a_no 0) (a_fo 0) (a_rd 0) (a_pa 0) sv_th th_0 ++ wCourt k a_no no_0) (Qi k (fun u : Unit => wMCo k a_th (a_in 0) (a_ou 0) (a_ru 0) (a_no 0) (a_fo 0) (a_rd 0) (a_pa 0) sv_th th_0 ++ wCourt k a_no no_0) (fun (r : Int32) (u : Unit) => res = (r, 0))) (Xq k (fun u : Unit => wMCo k a_th (a_in 0) (a_ou 0) (a_ru 0) (a_no 0) (a_fo 0) (a_rd 0) (a_pa 0) sv_th th_0 ++ wCourt k a_no no_0) (fun (cd : Nat) (u : Unit) => cd ≠ 0 ∧ res = ((0 : Int32), cd))) := by
  refine CX.ofI hx rfl (by decide) (Nat.le_of_ble_eq_true rfl) (by decide) (by decide) (fun p e s m args below meth c A Q E hnm hW hA hret hout hthr ls hl => ?_)
  have hl : lv_has ls 3 [(0, .ref (a_th 0)), (1, .int v1_0), (2, .int v2_0)] := hl
  unfold f_X8_fine at hf
  refine k_iload_n E hl 2 dX8_fine_0 rfl ?_
  refine lv_if_lt (tgt := 10) E.hx E.hb dX8_fine_1 (by decide) (fun hc => ?_) (fun hc => ?_)
  · have hf := oT hc hf
    exact hthr 2 () _ _ _ _ _ _ _ _ _ _ _ xr_2 xt_236 ⟨by decide, (Option.some.inj hf).symm⟩ hW hl ⟨dX8_fine_10, dX8_fine_13, Or.inl ⟨dX8_fine_14, dX8_fine_16, dX8_fine_19⟩⟩ (by decide) (by decide)
  · have hf := oF hc hf
    refine k_iload_n E hl 2 dX8_fine_4 rfl ?_
    refine lv_bipush (v := (7 : Int32)) E.hx E.hb dX8_fine_5 bp_7 ?_
    refine lv_icmp_le (tgt := 20) E.hx E.hb dX8_fine_7 (by decide) (fun hc => ?_) (fun hc => ?_)
    · have hf := oT hc hf
      refine k_aload_n E hl 0 dX8_fine_20 rfl ?_
      refine k_iload_n E hl 1 dX8_fine_21 rfl ?_
      obtain ⟨cd_1, hg, hf⟩ := ob hf
      refine k_callXv (As := [.int v1_0]) (rest := []) (ws2 := fun u => wMCo k a_th (a_in 0) (a_ou 0) (a_ru 0) (a_no 0) (a_fo 0) (a_rd 0) (a_pa 0) sv_th th_0 ++ wCourt k a_no no_0) (c_X8_needFine n l k hx a_th a_in a_ou a_ru a_no a_fo a_rd a_pa sv_th th_0 no_0 v1_0 cd_1 hg) E vl_X8_239 dX8_fine_22 rfl [0, 1, 2, 3, 4, 5, 6, 7, 8, 9, 10, 11, 12] 6 0 hW hA hl rfl rfl rfl rfl ⟨by decide, by decide⟩ ⟨by decide, by decide⟩ (Nat.le_of_ble_eq_true rfl) rfl (fun _ => rfl) (fun _ => rfl) (fun cd9 u ce9 q9 H locs hp hW hce hcv hcls => ?_) (fun u H locs hp hW => ?_)
      · obtain ⟨hcd, hp⟩ := hp
        cases hp
        have hW : WD k A s.heap (wMCo k a_th (a_in 0) (a_ou 0) (a_ru 0) (a_no 0) (a_fo 0) (a_rd 0) (a_pa 0) sv_th th_0 ++ wCourt k a_no no_0) H locs := hW
        have hf := oF hcd hf
        exact hout _ () _ _ _ _ _ _ _ _ _ ⟨hcd, (Option.some.inj hf).symm⟩ hW hce hcv hcls (by decide) (by decide)
      cases hp
      have hW : WD k A s.heap (wMCo k a_th (a_in 0) (a_ou 0) (a_ru 0) (a_no 0) (a_fo 0) (a_rd 0) (a_pa 0) sv_th th_0 ++ wCourt k a_no no_0) H locs := hW
      have hf := oT rfl hf
      refine k_aload_n E hl 0 dX8_fine_25 rfl ?_
      refine gf_X8_31 E hW 0 rfl rfl dX8_fine_26 ?_
      refine k_iload_n E hl 1 dX8_fine_29 rfl ?_
      refine k_iload_n E hl 2 dX8_fine_30 rfl ?_
      obtain ⟨r_2, hg, hf⟩ := ob hf
      refine k_callVi (As := [.int v1_0, .int v2_0]) (rest := []) (ws2 := fun u => wMCo k a_th (a_in 0) (a_ou 0) (a_ru 0) (a_no 0) (a_fo 0) (a_rd 0) (a_pa 0) sv_th th_0 ++ wCourt k a_no no_0) (c_X2_ofFine n l k a_no no_0 v1_0 v2_0 r_2 hg) E vl_X8_242 dX8_fine_31 rfl [1, 2, 3, 4, 5, 6, 7, 8, 9, 10, 11, 12] 1 1 hW hA hl rfl rfl rfl rfl ⟨by decide, by decide⟩ ⟨by decide, by decide⟩ (Nat.le_of_ble_eq_true rfl) rfl (fun _ => rfl) (fun _ => rfl) (fun r u H locs hp hW => ?_)
      cases hp
      have hW : WD k A s.heap (wMCo k a_th (a_in 0) (a_ou 0) (a_ru 0) (a_no 0) (a_fo 0) (a_rd 0) (a_pa 0) sv_th th_0 ++ wCourt k a_no no_0) H locs := hW
      exact hret _ () _ _ _ _ _ _ hW (Option.some.inj hf).symm rfl (by decide) (by decide) dX8_fine_34
    · have hf := oF hc hf
      exact hthr 2 () _ _ _ _ _ _ _ _ _ _ _ xr_2 xt_236 ⟨by decide, (Option.some.inj hf).symm⟩ hW hl ⟨dX8_fine_10, dX8_fine_13, Or.inl ⟨dX8_fine_14, dX8_fine_16, dX8_fine_19⟩⟩ (by decide) (by decide)
def f_X8_evidence (n : Nat) (sv_th : Value) (th_0 : OS) (no_0 : OS) (v1_0 : Int32) : Option (Int32 × Nat) :=
  bnd (f_X8_needFine n sv_th th_0 no_0 v1_0) (fun (cd_1 : Nat) =>
  if cd_1 = 0 then (
  bnd (f_X2_evidenceFor n no_0 v1_0) (fun (r_2 : Int32) =>
  some (r_2, 0))) else (
  some ((0 : Int32), cd_1)))
set_option maxHeartbeats 4000000 in
set_option maxRecDepth 100000 in
theorem c_X8_evidence (n : Nat) (l : Launch) (k : KT) (hx : XH l k) (a_th : Nat → Nat) (a_in : Nat → Nat) (a_ou : Nat → Nat) (a_ru : Nat → Nat) (a_no : Nat → Nat) (a_fo : Nat → Nat) (a_rd : Nat → Nat) (a_pa : Nat → Nat) (sv_th : Value) (th_0 : OS) (no_0 : OS) (v1_0 : Int32) (res : (Int32 × Nat)) (hf : f_X8_evidence n sv_th th_0 no_0 v1_0 = some res) : CX l k yX8_evidence cX8_evidence 2 (some .int) 7 1 6 103 [.ref (a_th 0), .int v1_0] (wMCo k a_th (a_in 0) (a_ou 0) (a_ru 0) (a_no 0) (a_fo 0) (a_rd 0) (a_pa 0) sv_th th_0 ++ wCourt k a_no no_0) (Qi k (fun u : Unit => wMCo k a_th (a_in 0) (a_ou 0) (a_ru 0) (a_no 0) (a_fo 0) (a_rd 0) (a_pa 0) sv_th th_0 ++ wCourt k a_no no_0) (fun (r : Int32) (u : Unit) => res = (r, 0))) (Xq k (fun u : Unit => wMCo k a_th (a_in 0) (a_ou 0) (a_ru 0) (a_no 0) (a_fo 0) (a_rd 0) (a_pa 0) sv_th th_0 ++ wCourt k a_no no_0) (fun (cd : Nat) (u : Unit) => cd ≠ 0 ∧ res = ((0 : Int32), cd))) := by
  refine CX.ofI hx rfl (by decide) (Nat.le_of_ble_eq_true rfl) (by decide) (by decide) (fun p e s m args below meth c A Q E hnm hW hA hret hout hthr ls hl => ?_)
  have hl : lv_has ls 2 [(0, .ref (a_th 0)), (1, .int v1_0)] := hl
  unfold f_X8_evidence at hf
  refine k_aload_n E hl 0 dX8_evidence_0 rfl ?_
  refine k_iload_n E hl 1 dX8_evidence_1 rfl ?_
  obtain ⟨cd_1, hg, hf⟩ := ob hf
  refine k_callXv (As := [.int v1_0]) (rest := []) (ws2 := fun u => wMCo k a_th (a_in 0) (a_ou 0) (a_ru 0) (a_no 0) (a_fo 0) (a_rd 0) (a_pa 0) sv_th th_0 ++ wCourt k a_no no_0) (c_X8_needFine n l k hx a_th a_in a_ou a_ru a_no a_fo a_rd a_pa sv_th th_0 no_0 v1_0 cd_1 hg) E vl_X8_239 dX8_evidence_2 rfl [0, 1, 2, 3, 4, 5, 6, 7, 8, 9, 10, 11, 12] 6 0 hW hA hl rfl rfl rfl rfl ⟨by decide, by decide⟩ ⟨by decide, by decide⟩ (Nat.le_of_ble_eq_true rfl) rfl (fun _ => rfl) (fun _ => rfl) (fun cd9 u ce9 q9 H locs hp hW hce hcv hcls => ?_) (fun u H locs hp hW => ?_)
  · obtain ⟨hcd, hp⟩ := hp
    cases hp
    have hW : WD k A s.heap (wMCo k a_th (a_in 0) (a_ou 0) (a_ru 0) (a_no 0) (a_fo 0) (a_rd 0) (a_pa 0) sv_th th_0 ++ wCourt k a_no no_0) H locs := hW
    have hf := oF hcd hf
    exact hout _ () _ _ _ _ _ _ _ _ _ ⟨hcd, (Option.some.inj hf).symm⟩ hW hce hcv hcls (by decide) (by decide)
  cases hp
  have hW : WD k A s.heap (wMCo k a_th (a_in 0) (a_ou 0) (a_ru 0) (a_no 0) (a_fo 0) (a_rd 0) (a_pa 0) sv_th th_0 ++ wCourt k a_no no_0) H locs := hW
  have hf := oT rfl hf
  refine k_aload_n E hl 0 dX8_evidence_5 rfl ?_
  refine gf_X8_31 E hW 0 rfl rfl dX8_evidence_6 ?_
  refine k_iload_n E hl 1 dX8_evidence_9 rfl ?_
  obtain ⟨r_2, hg, hf⟩ := ob hf
  refine k_callVi (As := [.int v1_0]) (rest := []) (ws2 := fun u => wMCo k a_th (a_in 0) (a_ou 0) (a_ru 0) (a_no 0) (a_fo 0) (a_rd 0) (a_pa 0) sv_th th_0 ++ wCourt k a_no no_0) (c_X2_evidenceFor n l k a_no no_0 v1_0 r_2 hg) E vl_X8_245 dX8_evidence_10 rfl [1, 2, 3, 4, 5, 6, 7, 8, 9, 10, 11, 12] 1 1 hW hA hl rfl rfl rfl rfl ⟨by decide, by decide⟩ ⟨by decide, by decide⟩ (Nat.le_of_ble_eq_true rfl) rfl (fun _ => rfl) (fun _ => rfl) (fun r u H locs hp hW => ?_)
  cases hp
  have hW : WD k A s.heap (wMCo k a_th (a_in 0) (a_ou 0) (a_ru 0) (a_no 0) (a_fo 0) (a_rd 0) (a_pa 0) sv_th th_0 ++ wCourt k a_no no_0) H locs := hW
  exact hret _ () _ _ _ _ _ _ hW (Option.some.inj hf).symm rfl (by decide) (by decide) dX8_evidence_13
def f_X8_wasStalled (n : Nat) (sv_th : Value) (th_0 : OS) (ru_0 : OS) (no_0 : OS) (v1_0 : Int32) (v2_0 : Int32) : Option (Int32 × Nat) :=
  bnd (f_X8_needProcess n sv_th th_0 ru_0 v1_0) (fun (cd_1 : Nat) =>
  if cd_1 = 0 then (
  bnd (f_X2_stalledIn n no_0 v1_0 v2_0) (fun (r_2 : Int32) =>
  gZ r_2 (some (r_2, 0)))) else (
  some ((0 : Int32), cd_1)))
set_option maxHeartbeats 4000000 in
set_option maxRecDepth 100000 in
theorem c_X8_wasStalled (n : Nat) (l : Launch) (k : KT) (hx : XH l k) (a_th : Nat → Nat) (a_in : Nat → Nat) (a_ou : Nat → Nat) (a_ru : Nat → Nat) (a_no : Nat → Nat) (a_fo : Nat → Nat) (a_rd : Nat → Nat) (a_pa : Nat → Nat) (sv_th : Value) (th_0 : OS) (ru_0 : OS) (no_0 : OS) (v1_0 : Int32) (v2_0 : Int32) (res : (Int32 × Nat)) (hf : f_X8_wasStalled n sv_th th_0 ru_0 no_0 v1_0 v2_0 = some res) : CX l k yX8_wasStalled cX8_wasStalled 3 (some .boolean) 7 1 6 103 [.ref (a_th 0), .int v1_0, .int v2_0] (wMCo k a_th (a_in 0) (a_ou 0) (a_ru 0) (a_no 0) (a_fo 0) (a_rd 0) (a_pa 0) sv_th th_0 ++ wRules k a_ru ru_0 ++ wCourt k a_no no_0) (Qi k (fun u : Unit => wMCo k a_th (a_in 0) (a_ou 0) (a_ru 0) (a_no 0) (a_fo 0) (a_rd 0) (a_pa 0) sv_th th_0 ++ wRules k a_ru ru_0 ++ wCourt k a_no no_0) (fun (r : Int32) (u : Unit) => res = (r, 0))) (Xq k (fun u : Unit => wMCo k a_th (a_in 0) (a_ou 0) (a_ru 0) (a_no 0) (a_fo 0) (a_rd 0) (a_pa 0) sv_th th_0 ++ wRules k a_ru ru_0 ++ wCourt k a_no no_0) (fun (cd : Nat) (u : Unit) => cd ≠ 0 ∧ res = ((0 : Int32), cd))) := by
  refine CX.ofI hx rfl (by decide) (Nat.le_of_ble_eq_true rfl) (by decide) (by decide) (fun p e s m args below meth c A Q E hnm hW hA hret hout hthr ls hl => ?_)
  have hl : lv_has ls 3 [(0, .ref (a_th 0)), (1, .int v1_0), (2, .int v2_0)] := hl
  unfold f_X8_wasStalled at hf
  refine k_aload_n E hl 0 dX8_wasStalled_0 rfl ?_
  refine k_iload_n E hl 1 dX8_wasStalled_1 rfl ?_
  obtain ⟨cd_1, hg, hf⟩ := ob hf
  refine k_callXv (As := [.int v1_0]) (rest := []) (ws2 := fun u => wMCo k a_th (a_in 0) (a_ou 0) (a_ru 0) (a_no 0) (a_fo 0) (a_rd 0) (a_pa 0) sv_th th_0 ++ wRules k a_ru ru_0 ++ wCourt k a_no no_0) (c_X8_needProcess n l k hx a_th a_in a_ou a_ru a_no a_fo a_rd a_pa sv_th th_0 ru_0 v1_0 cd_1 hg) E vl_X8_165 dX8_wasStalled_2 rfl [0, 1, 2, 3] 6 0 hW hA hl rfl rfl rfl rfl ⟨by decide, by decide⟩ ⟨by decide, by decide⟩ (Nat.le_of_ble_eq_true rfl) rfl (fun _ => rfl) (fun _ => rfl) (fun cd9 u ce9 q9 H locs hp hW hce hcv hcls => ?_) (fun u H locs hp hW => ?_)
  · obtain ⟨hcd, hp⟩ := hp
    cases hp
    have hW : WD k A s.heap (wMCo k a_th (a_in 0) (a_ou 0) (a_ru 0) (a_no 0) (a_fo 0) (a_rd 0) (a_pa 0) sv_th th_0 ++ wRules k a_ru ru_0 ++ wCourt k a_no no_0) H locs := hW
    have hf := oF hcd hf
    exact hout _ () _ _ _ _ _ _ _ _ _ ⟨hcd, (Option.some.inj hf).symm⟩ hW hce hcv hcls (by decide) (by decide)
  cases hp
  have hW : WD k A s.heap (wMCo k a_th (a_in 0) (a_ou 0) (a_ru 0) (a_no 0) (a_fo 0) (a_rd 0) (a_pa 0) sv_th th_0 ++ wRules k a_ru ru_0 ++ wCourt k a_no no_0) H locs := hW
  have hf := oT rfl hf
  refine k_aload_n E hl 0 dX8_wasStalled_5 rfl ?_
  refine gf_X8_31 E hW 0 rfl rfl dX8_wasStalled_6 ?_
  refine k_iload_n E hl 1 dX8_wasStalled_9 rfl ?_
  refine k_iload_n E hl 2 dX8_wasStalled_10 rfl ?_
  obtain ⟨r_2, hg, hf⟩ := ob hf
  refine k_callVi (As := [.int v1_0, .int v2_0]) (rest := []) (ws2 := fun u => wMCo k a_th (a_in 0) (a_ou 0) (a_ru 0) (a_no 0) (a_fo 0) (a_rd 0) (a_pa 0) sv_th th_0 ++ wRules k a_ru ru_0 ++ wCourt k a_no no_0) (c_X2_stalledIn n l k a_no no_0 v1_0 v2_0 r_2 hg) E vl_X8_248 dX8_wasStalled_11 rfl [4, 5, 6, 7, 8, 9, 10, 11, 12, 13, 14, 15] 1 4 hW hA hl rfl rfl rfl rfl ⟨by decide, by decide⟩ ⟨by decide, by decide⟩ (Nat.le_of_ble_eq_true rfl) rfl (fun _ => rfl) (fun _ => rfl) (fun r u H locs hp hW => ?_)
  cases hp
  have hW : WD k A s.heap (wMCo k a_th (a_in 0) (a_ou 0) (a_ru 0) (a_no 0) (a_fo 0) (a_rd 0) (a_pa 0) sv_th th_0 ++ wRules k a_ru ru_0 ++ wCourt k a_no no_0) H locs := hW
  obtain ⟨hz, hf⟩ := oZ hf
  exact hret _ () _ _ _ _ _ _ hW (Option.some.inj hf).symm hz (by decide) (by decide) dX8_wasStalled_14
def f_X8_nextHearing (n : Nat) (sv_th : Value) (th_0 : OS) (ru_0 : OS) (no_0 : OS) : Option (Int32) :=
  bnd (f_X5_hearingAfter n ru_0 (no_0.1 0)) (fun (r_1 : Int32) =>
  some r_1)
set_option maxHeartbeats 4000000 in
set_option maxRecDepth 100000 in
theorem c_X8_nextHearing (n : Nat) (l : Launch) (k : KT) (a_th : Nat → Nat) (a_in : Nat → Nat) (a_ou : Nat → Nat) (a_ru : Nat → Nat) (a_no : Nat → Nat) (a_fo : Nat → Nat) (a_rd : Nat → Nat) (a_pa : Nat → Nat) (sv_th : Value) (th_0 : OS) (ru_0 : OS) (no_0 : OS) (res : (Int32)) (hf : f_X8_nextHearing n sv_th th_0 ru_0 no_0 = some res) : CG l k yX8_nextHearing cX8_nextHearing 1 (some .int) 1 0 0 22 [.ref (a_th 0)] (wMCo k a_th (a_in 0) (a_ou 0) (a_ru 0) (a_no 0) (a_fo 0) (a_rd 0) (a_pa 0) sv_th th_0 ++ wRules k a_ru ru_0 ++ wCourt k a_no no_0) (Qi k (fun u : Unit => wMCo k a_th (a_in 0) (a_ou 0) (a_ru 0) (a_no 0) (a_fo 0) (a_rd 0) (a_pa 0) sv_th th_0 ++ wRules k a_ru ru_0 ++ wCourt k a_no no_0) (fun (r : Int32) (u : Unit) => res = r)) := by
  refine CG.ofI (by decide) (Nat.le_of_ble_eq_true rfl) (fun p e s m args below meth c A Q E hnm hW hA hret ls hl => ?_)
  have hl : lv_has ls 1 [(0, .ref (a_th 0))] := hl
  unfold f_X8_nextHearing at hf
  refine k_aload_n E hl 0 dX8_nextHearing_0 rfl ?_
  refine gf_X8_24 E hW 0 rfl rfl dX8_nextHearing_1 ?_
  refine k_aload_n E hl 0 dX8_nextHearing_4 rfl ?_
  refine gf_X8_31 E hW 0 rfl rfl dX8_nextHearing_5 ?_
  refine gf_X8_108 E hW 4 rfl rfl dX8_nextHearing_8 ?_
  obtain ⟨r_1, hg, hf⟩ := ob hf
  refine k_callVi (As := [.int (no_0.1 0)]) (rest := []) (ws2 := fun u => wMCo k a_th (a_in 0) (a_ou 0) (a_ru 0) (a_no 0) (a_fo 0) (a_rd 0) (a_pa 0) sv_th th_0 ++ wRules k a_ru ru_0 ++ wCourt k a_no no_0) (c_X5_hearingAfter n l k a_ru ru_0 (no_0.1 0) r_1 hg) E vl_X8_252 dX8_nextHearing_11 rfl [1, 2, 3] 4 1 hW hA hl rfl rfl rfl rfl ⟨by decide, by decide⟩ ⟨by decide, by decide⟩ (Nat.le_of_ble_eq_true rfl) rfl (fun _ => rfl) (fun _ => rfl) (fun r u H locs hp hW => ?_)
  cases hp
  have hW : WD k A s.heap (wMCo k a_th (a_in 0) (a_ou 0) (a_ru 0) (a_no 0) (a_fo 0) (a_rd 0) (a_pa 0) sv_th th_0 ++ wRules k a_ru ru_0 ++ wCourt k a_no no_0) H locs := hW
  exact hret _ () _ _ _ _ _ _ hW (Option.some.inj hf).symm rfl (by decide) (by decide) dX8_nextHearing_14
def f_X8_shortage (n : Nat) (sv_th : Value) (th_0 : OS) (no_0 : OS) : Option (Int32) :=
  bnd (f_X2_waitingPages n no_0) (fun (r_1 : Int32) =>
  some (if (0 : Int32) < (r_1 - (no_0.1 2)) then (r_1 - (no_0.1 2)) else (0 : Int32)))
set_option maxHeartbeats 4000000 in
set_option maxRecDepth 100000 in
theorem c_X8_shortage (n : Nat) (l : Launch) (k : KT) (a_th : Nat → Nat) (a_in : Nat → Nat) (a_ou : Nat → Nat) (a_ru : Nat → Nat) (a_no : Nat → Nat) (a_fo : Nat → Nat) (a_rd : Nat → Nat) (a_pa : Nat → Nat) (sv_th : Value) (th_0 : OS) (no_0 : OS) (res : (Int32)) (hf : f_X8_shortage n sv_th th_0 no_0 = some res) : CG l k yX8_shortage cX8_shortage 1 (some .int) 3 0 0 66 [.ref (a_th 0)] (wMCo k a_th (a_in 0) (a_ou 0) (a_ru 0) (a_no 0) (a_fo 0) (a_rd 0) (a_pa 0) sv_th th_0 ++ wCourt k a_no no_0) (Qi k (fun u : Unit => wMCo k a_th (a_in 0) (a_ou 0) (a_ru 0) (a_no 0) (a_fo 0) (a_rd 0) (a_pa 0) sv_th th_0 ++ wCourt k a_no no_0) (fun (r : Int32) (u : Unit) => res = r)) := by
  refine CG.ofI (by decide) (Nat.le_of_ble_eq_true rfl) (fun p e s m args below meth c A Q E hnm hW hA hret ls hl => ?_)
  have hl : lv_has ls 1 [(0, .ref (a_th 0))] := hl
  unfold f_X8_shortage at hf
  refine lv_iconst (v := (0 : Int32)) E.hx E.hb dX8_shortage_0 ic_0 ?_
  refine k_aload_n E hl 0 dX8_shortage_1 rfl ?_
  refine gf_X8_31 E hW 0 rfl rfl dX8_shortage_2 ?_
  obtain ⟨r_1, hg, hf⟩ := ob hf
  refine k_callVi (As := []) (rest := [.int (0 : Int32)]) (ws2 := fun u => wMCo k a_th (a_in 0) (a_ou 0) (a_ru 0) (a_no 0) (a_fo 0) (a_rd 0) (a_pa 0) sv_th th_0 ++ wCourt k a_no no_0) (c_X2_waitingPages n l k a_no no_0 r_1 hg) E vl_X8_255 dX8_shortage_5 rfl [1, 2, 3, 4, 5, 6, 7, 8, 9, 10, 11, 12] 1 1 hW hA hl rfl rfl rfl rfl ⟨by decide, by decide⟩ ⟨by decide, by decide⟩ (Nat.le_of_ble_eq_true rfl) rfl (fun _ => rfl) (fun _ => rfl) (fun r u H locs hp hW => ?_)
  cases hp
  have hW : WD k A s.heap (wMCo k a_th (a_in 0) (a_ou 0) (a_ru 0) (a_no 0) (a_fo 0) (a_rd 0) (a_pa 0) sv_th th_0 ++ wCourt k a_no no_0) H locs := hW
  refine k_aload_n E hl 0 dX8_shortage_8 rfl ?_
  refine gf_X8_31 E hW 0 rfl rfl dX8_shortage_9 ?_
  refine gf_X8_129 E hW 1 rfl rfl dX8_shortage_12 ?_
  refine lv_isub E.hx E.hb dX8_shortage_15 ?_
  refine va_mmax E.hx E.hb (E.hml.trans hl.1.symm) E.ho (E.w tm_703 rfl) (E.w tm_148 rfl) (E.w tm_110 rfl) (E.w tm_149 rfl) (by decide) (Nat.le_of_ble_eq_true rfl) (by decide) (by decide) dX8_shortage_16 ?_
  exact hret _ () _ _ _ _ _ _ hW (Option.some.inj hf).symm rfl (by decide) (by decide) dX8_shortage_19
def f_X8_overdue (n : Nat) (sv_th : Value) (th_0 : OS) (no_0 : OS) : Option (Int32) :=
  bnd (f_X2_brokenPages n no_0) (fun (r_1 : Int32) =>
  some r_1)
set_option maxHeartbeats 4000000 in
set_option maxRecDepth 100000 in
theorem c_X8_overdue (n : Nat) (l : Launch) (k : KT) (a_th : Nat → Nat) (a_in : Nat → Nat) (a_ou : Nat → Nat) (a_ru : Nat → Nat) (a_no : Nat → Nat) (a_fo : Nat → Nat) (a_rd : Nat → Nat) (a_pa : Nat → Nat) (sv_th : Value) (th_0 : OS) (no_0 : OS) (res : (Int32)) (hf : f_X8_overdue n sv_th th_0 no_0 = some res) : CG l k yX8_overdue cX8_overdue 1 (some .int) 3 0 0 66 [.ref (a_th 0)] (wMCo k a_th (a_in 0) (a_ou 0) (a_ru 0) (a_no 0) (a_fo 0) (a_rd 0) (a_pa 0) sv_th th_0 ++ wCourt k a_no no_0) (Qi k (fun u : Unit => wMCo k a_th (a_in 0) (a_ou 0) (a_ru 0) (a_no 0) (a_fo 0) (a_rd 0) (a_pa 0) sv_th th_0 ++ wCourt k a_no no_0) (fun (r : Int32) (u : Unit) => res = r)) := by
  refine CG.ofI (by decide) (Nat.le_of_ble_eq_true rfl) (fun p e s m args below meth c A Q E hnm hW hA hret ls hl => ?_)
  have hl : lv_has ls 1 [(0, .ref (a_th 0))] := hl
  unfold f_X8_overdue at hf
  refine k_aload_n E hl 0 dX8_overdue_0 rfl ?_
  refine gf_X8_31 E hW 0 rfl rfl dX8_overdue_1 ?_
  obtain ⟨r_1, hg, hf⟩ := ob hf
  refine k_callVi (As := []) (rest := []) (ws2 := fun u => wMCo k a_th (a_in 0) (a_ou 0) (a_ru 0) (a_no 0) (a_fo 0) (a_rd 0) (a_pa 0) sv_th th_0 ++ wCourt k a_no no_0) (c_X2_brokenPages n l k a_no no_0 r_1 hg) E vl_X8_263 dX8_overdue_4 rfl [1, 2, 3, 4, 5, 6, 7, 8, 9, 10, 11, 12] 1 1 hW hA hl rfl rfl rfl rfl ⟨by decide, by decide⟩ ⟨by decide, by decide⟩ (Nat.le_of_ble_eq_true rfl) rfl (fun _ => rfl) (fun _ => rfl) (fun r u H locs hp hW => ?_)
  cases hp
  have hW : WD k A s.heap (wMCo k a_th (a_in 0) (a_ou 0) (a_ru 0) (a_no 0) (a_fo 0) (a_rd 0) (a_pa 0) sv_th th_0 ++ wCourt k a_no no_0) H locs := hW
  exact hret _ () _ _ _ _ _ _ hW (Option.some.inj hf).symm rfl (by decide) (by decide) dX8_overdue_7
def f_X8_firstBroken (n : Nat) (sv_th : Value) (th_0 : OS) (no_0 : OS) : Option (Int32) :=
  bnd (f_X2_earliestBroken n no_0) (fun (r_1 : Int32) =>
  some r_1)
set_option maxHeartbeats 4000000 in
set_option maxRecDepth 100000 in
theorem c_X8_firstBroken (n : Nat) (l : Launch) (k : KT) (a_th : Nat → Nat) (a_in : Nat → Nat) (a_ou : Nat → Nat) (a_ru : Nat → Nat) (a_no : Nat → Nat) (a_fo : Nat → Nat) (a_rd : Nat → Nat) (a_pa : Nat → Nat) (sv_th : Value) (th_0 : OS) (no_0 : OS) (res : (Int32)) (hf : f_X8_firstBroken n sv_th th_0 no_0 = some res) : CG l k yX8_firstBroken cX8_firstBroken 1 (some .int) 2 0 0 46 [.ref (a_th 0)] (wMCo k a_th (a_in 0) (a_ou 0) (a_ru 0) (a_no 0) (a_fo 0) (a_rd 0) (a_pa 0) sv_th th_0 ++ wCourt k a_no no_0) (Qi k (fun u : Unit => wMCo k a_th (a_in 0) (a_ou 0) (a_ru 0) (a_no 0) (a_fo 0) (a_rd 0) (a_pa 0) sv_th th_0 ++ wCourt k a_no no_0) (fun (r : Int32) (u : Unit) => res = r)) := by
  refine CG.ofI (by decide) (Nat.le_of_ble_eq_true rfl) (fun p e s m args below meth c A Q E hnm hW hA hret ls hl => ?_)
  have hl : lv_has ls 1 [(0, .ref (a_th 0))] := hl
  unfold f_X8_firstBroken at hf
  refine k_aload_n E hl 0 dX8_firstBroken_0 rfl ?_
  refine gf_X8_31 E hW 0 rfl rfl dX8_firstBroken_1 ?_
  obtain ⟨r_1, hg, hf⟩ := ob hf
  refine k_callVi (As := []) (rest := []) (ws2 := fun u => wMCo k a_th (a_in 0) (a_ou 0) (a_ru 0) (a_no 0) (a_fo 0) (a_rd 0) (a_pa 0) sv_th th_0 ++ wCourt k a_no no_0) (c_X2_earliestBroken n l k a_no no_0 r_1 hg) E vl_X8_266 dX8_firstBroken_4 rfl [1, 2, 3, 4, 5, 6, 7, 8, 9, 10, 11, 12] 1 1 hW hA hl rfl rfl rfl rfl ⟨by decide, by decide⟩ ⟨by decide, by decide⟩ (Nat.le_of_ble_eq_true rfl) rfl (fun _ => rfl) (fun _ => rfl) (fun r u H locs hp hW => ?_)
  cases hp
  have hW : WD k A s.heap (wMCo k a_th (a_in 0) (a_ou 0) (a_ru 0) (a_no 0) (a_fo 0) (a_rd 0) (a_pa 0) sv_th th_0 ++ wCourt k a_no no_0) H locs := hW
  exact hret _ () _ _ _ _ _ _ hW (Option.some.inj hf).symm rfl (by decide) (by decide) dX8_firstBroken_7
def f_X8_worst (n : Nat) (sv_th : Value) (th_0 : OS) (ru_0 : OS) (no_0 : OS) : Option (Int32) :=
  bnd (f_X2_greatestRecord n no_0 (ru_0.1 1)) (fun (r_1 : Int32) =>
  some r_1)
set_option maxHeartbeats 4000000 in
set_option maxRecDepth 100000 in
theorem c_X8_worst (n : Nat) (l : Launch) (k : KT) (a_th : Nat → Nat) (a_in : Nat → Nat) (a_ou : Nat → Nat) (a_ru : Nat → Nat) (a_no : Nat → Nat) (a_fo : Nat → Nat) (a_rd : Nat → Nat) (a_pa : Nat → Nat) (sv_th : Value) (th_0 : OS) (ru_0 : OS) (no_0 : OS) (res : (Int32)) (hf : f_X8_worst n sv_th th_0 ru_0 no_0 = some res) : CG l k yX8_worst cX8_worst 1 (some .int) 2 0 0 47 [.ref (a_th 0)] (wMCo k a_th (a_in 0) (a_ou 0) (a_ru 0) (a_no 0) (a_fo 0) (a_rd 0) (a_pa 0) sv_th th_0 ++ wRules k a_ru ru_0 ++ wCourt k a_no no_0) (Qi k (fun u : Unit => wMCo k a_th (a_in 0) (a_ou 0) (a_ru 0) (a_no 0) (a_fo 0) (a_rd 0) (a_pa 0) sv_th th_0 ++ wRules k a_ru ru_0 ++ wCourt k a_no no_0) (fun (r : Int32) (u : Unit) => res = r)) := by
  refine CG.ofI (by decide) (Nat.le_of_ble_eq_true rfl) (fun p e s m args below meth c A Q E hnm hW hA hret ls hl => ?_)
  have hl : lv_has ls 1 [(0, .ref (a_th 0))] := hl
  unfold f_X8_worst at hf
  refine k_aload_n E hl 0 dX8_worst_0 rfl ?_
  refine gf_X8_31 E hW 0 rfl rfl dX8_worst_1 ?_
  refine k_aload_n E hl 0 dX8_worst_4 rfl ?_
  refine gf_X8_24 E hW 0 rfl rfl dX8_worst_5 ?_
  refine gf_X8_96 E hW 1 rfl rfl dX8_worst_8 ?_
  obtain ⟨r_1, hg, hf⟩ := ob hf
  refine k_callVi (As := [.int (ru_0.1 1)]) (rest := []) (ws2 := fun u => wMCo k a_th (a_in 0) (a_ou 0) (a_ru 0) (a_no 0) (a_fo 0) (a_rd 0) (a_pa 0) sv_th th_0 ++ wRules k a_ru ru_0 ++ wCourt k a_no no_0) (c_X2_greatestRecord n l k a_no no_0 (ru_0.1 1) r_1 hg) E vl_X8_269 dX8_worst_11 rfl [4, 5, 6, 7, 8, 9, 10, 11, 12, 13, 14, 15] 1 4 hW hA hl rfl rfl rfl rfl ⟨by decide, by decide⟩ ⟨by decide, by decide⟩ (Nat.le_of_ble_eq_true rfl) rfl (fun _ => rfl) (fun _ => rfl) (fun r u H locs hp hW => ?_)
  cases hp
  have hW : WD k A s.heap (wMCo k a_th (a_in 0) (a_ou 0) (a_ru 0) (a_no 0) (a_fo 0) (a_rd 0) (a_pa 0) sv_th th_0 ++ wRules k a_ru ru_0 ++ wCourt k a_no no_0) H locs := hW
  exact hret _ () _ _ _ _ _ _ hW (Option.some.inj hf).symm rfl (by decide) (by decide) dX8_worst_14
