theorem tm_293 : (Jvm.Cond.fieldLink "MemoryCourt$Rules" (42 : Nat) "MemoryCourt$Word" "EVERY" "LMemoryCourt$Word;") ∈ lw_tbl := List.mem_of_getElem? (i := 293) (by decide +kernel)
theorem tm_1228 : (Jvm.Cond.fieldLinkNest "MemoryCourt$Rules" (48 : Nat) "MemoryCourt$Word" "usual" "I" "MemoryCourt") ∈ lw_tbl := List.mem_of_getElem? (i := 1228) (by decide +kernel)
theorem tm_295 : (Jvm.Cond.fieldLink "MemoryCourt$Rules" (51 : Nat) "MemoryCourt$Word" "BASE" "LMemoryCourt$Word;") ∈ lw_tbl := List.mem_of_getElem? (i := 295) (by decide +kernel)
theorem tm_297 : (Jvm.Cond.fieldLink "MemoryCourt$Rules" (54 : Nat) "MemoryCourt$Word" "FADE" "LMemoryCourt$Word;") ∈ lw_tbl := List.mem_of_getElem? (i := 297) (by decide +kernel)
theorem tm_299 : (Jvm.Cond.fieldLink "MemoryCourt$Rules" (57 : Nat) "MemoryCourt$Word" "PATIENCE" "LMemoryCourt$Word;") ∈ lw_tbl := List.mem_of_getElem? (i := 299) (by decide +kernel)
theorem tm_301 : (Jvm.Cond.fieldLink "MemoryCourt$Rules" (60 : Nat) "MemoryCourt$Word" "APPEAL" "LMemoryCourt$Word;") ∈ lw_tbl := List.mem_of_getElem? (i := 301) (by decide +kernel)
theorem tm_874 : (Jvm.Cond.fieldLink "MemoryCourt$Rules" (67 : Nat) "MemoryCourt$1" "$SwitchMap$MemoryCourt$Word" "[I") ∈ lw_tbl := List.mem_of_getElem? (i := 874) (by decide +kernel)
theorem tm_781 : (Jvm.Cond.fieldLink "MemoryCourt$Word" (84 : Nat) "MemoryCourt$Word" "ALL" "[LMemoryCourt$Word;") ∈ lw_tbl := List.mem_of_getElem? (i := 781) (by decide +kernel)
theorem tm_786 : (Jvm.Cond.fieldLink "MemoryCourt$Word" (5 : Nat) "MemoryCourt$Word" "OTHER" "LMemoryCourt$Word;") ∈ lw_tbl := List.mem_of_getElem? (i := 786) (by decide +kernel)
theorem tm_1229 : (Jvm.Cond.fieldLink "MemoryCourt$Word" (67 : Nat) "MemoryCourt$Word" "text" "Ljava/lang/String;") ∈ lw_tbl := List.mem_of_getElem? (i := 1229) (by decide +kernel)
theorem tm_783 : (Jvm.Cond.methodLink "MemoryCourt$Word" (87 : Nat) ({ cls := "java/lang/String", name := "length", desc := "()I" } : Jvm.MethodName)) ∈ lw_tbl := List.mem_of_getElem? (i := 783) (by decide +kernel)
theorem tm_695 : (Jvm.Cond.instanceMethod ({ cls := "java/lang/String", name := "length", desc := "()I" } : Jvm.MethodName)) ∈ lw_tbl := List.mem_of_getElem? (i := 695) (by decide +kernel)
theorem tm_696 : (Jvm.Cond.selects "java/lang/String" ({ cls := "java/lang/String", name := "length", desc := "()I" } : Jvm.MethodName) ({ cls := "java/lang/String", name := "length", desc := "()I" } : Jvm.MethodName)) ∈ lw_tbl := List.mem_of_getElem? (i := 696) (by decide +kernel)
theorem tm_697 : (Jvm.Cond.code ({ cls := "java/lang/String", name := "length", desc := "()I" } : Jvm.MethodName) prog_27_method_54_code (1 : Nat) (Option.some Jvm.ClassFile.FieldType.int)) ∈ lw_tbl := List.mem_of_getElem? (i := 697) (by decide +kernel)
theorem tm_784 : (Jvm.Cond.methodLink "MemoryCourt$Word" (93 : Nat) ({ cls := "java/lang/String", name := "charAt", desc := "(I)C" } : Jvm.MethodName)) ∈ lw_tbl := List.mem_of_getElem? (i := 784) (by decide +kernel)
theorem tm_705 : (Jvm.Cond.instanceMethod ({ cls := "java/lang/String", name := "charAt", desc := "(I)C" } : Jvm.MethodName)) ∈ lw_tbl := List.mem_of_getElem? (i := 705) (by decide +kernel)
theorem tm_706 : (Jvm.Cond.selects "java/lang/String" ({ cls := "java/lang/String", name := "charAt", desc := "(I)C" } : Jvm.MethodName) ({ cls := "java/lang/String", name := "charAt", desc := "(I)C" } : Jvm.MethodName)) ∈ lw_tbl := List.mem_of_getElem? (i := 706) (by decide +kernel)
theorem tm_707 : (Jvm.Cond.code ({ cls := "java/lang/String", name := "charAt", desc := "(I)C" } : Jvm.MethodName) prog_27_method_56_code (2 : Nat) (Option.some Jvm.ClassFile.FieldType.char)) ∈ lw_tbl := List.mem_of_getElem? (i := 707) (by decide +kernel)
theorem tm_785 : (Jvm.Cond.methodLink "MemoryCourt$Word" (97 : Nat) ({ cls := "MemoryCourt$Bytes", name := "at", desc := "(I)I" } : Jvm.MethodName)) ∈ lw_tbl := List.mem_of_getElem? (i := 785) (by decide +kernel)
theorem tm_230 : (Jvm.Cond.fieldLink "MemoryCourt$Reader" (52 : Nat) "MemoryCourt$Reader" "input" "LMemoryCourt$Bytes;") ∈ lw_tbl := List.mem_of_getElem? (i := 230) (by decide +kernel)
theorem tm_774 : (Jvm.Cond.methodLink "MemoryCourt$Reader" (177 : Nat) ({ cls := "MemoryCourt$Bytes", name := "at", desc := "(I)I" } : Jvm.MethodName)) ∈ lw_tbl := List.mem_of_getElem? (i := 774) (by decide +kernel)
theorem tm_238 : (Jvm.Cond.fieldLink "MemoryCourt$Reader" (31 : Nat) "MemoryCourt$Reader" "end" "I") ∈ lw_tbl := List.mem_of_getElem? (i := 238) (by decide +kernel)
theorem tm_237 : (Jvm.Cond.fieldLink "MemoryCourt$Reader" (28 : Nat) "MemoryCourt$Reader" "start" "I") ∈ lw_tbl := List.mem_of_getElem? (i := 237) (by decide +kernel)
theorem tm_82 : (Jvm.Cond.fieldLinkNest "MemoryCourt$Reader" (67 : Nat) "MemoryCourt$Bytes" "length" "I" "MemoryCourt") ∈ lw_tbl := List.mem_of_getElem? (i := 82) (by decide +kernel)
theorem tm_770 : (Jvm.Cond.methodLink "MemoryCourt$Reader" (181 : Nat) ({ cls := "MemoryCourt$Reader", name := "kindAt", desc := "(I)I" } : Jvm.MethodName)) ∈ lw_tbl := List.mem_of_getElem? (i := 770) (by decide +kernel)
theorem tm_772 : (Jvm.Cond.instanceMethod ({ cls := "MemoryCourt$Reader", name := "kindAt", desc := "(I)I" } : Jvm.MethodName)) ∈ lw_tbl := List.mem_of_getElem? (i := 772) (by decide +kernel)
theorem tms_17 : (Jvm.Cond.selects "MemoryCourt$Reader" ({ cls := "MemoryCourt$Reader", name := "kindAt", desc := "(I)I" } : Jvm.MethodName) ({ cls := "MemoryCourt$Reader", name := "kindAt", desc := "(I)I" } : Jvm.MethodName)) ∈ lw_tbl := List.mem_of_getElem? (i := 17) (by decide +kernel)
theorem tm_39 : (Jvm.Cond.initialized "MemoryCourt$Reader") ∈ lw_tbl := List.mem_of_getElem? (i := 39) (by decide +kernel)
theorem tm_773 : (Jvm.Cond.code ({ cls := "MemoryCourt$Reader", name := "kindAt", desc := "(I)I" } : Jvm.MethodName) prog_6_method_17_code (3 : Nat) (Option.some Jvm.ClassFile.FieldType.int)) ∈ lw_tbl := List.mem_of_getElem? (i := 773) (by decide +kernel)
theorem tm_236 : (Jvm.Cond.fieldLink "MemoryCourt$Reader" (25 : Nat) "MemoryCourt$Reader" "kind" "I") ∈ lw_tbl := List.mem_of_getElem? (i := 236) (by decide +kernel)
theorem tm_228 : (Jvm.Cond.fieldLink "MemoryCourt$Reader" (34 : Nat) "MemoryCourt$Word" "OTHER" "LMemoryCourt$Word;") ∈ lw_tbl := List.mem_of_getElem? (i := 228) (by decide +kernel)
theorem tm_239 : (Jvm.Cond.fieldLink "MemoryCourt$Reader" (40 : Nat) "MemoryCourt$Reader" "word" "LMemoryCourt$Word;") ∈ lw_tbl := List.mem_of_getElem? (i := 239) (by decide +kernel)
theorem tm_778 : (Jvm.Cond.methodLink "MemoryCourt$Reader" (184 : Nat) ({ cls := "MemoryCourt$Word", name := "standing", desc := "(LMemoryCourt$Bytes;II)LMemoryCourt$Word;" } : Jvm.MethodName)) ∈ lw_tbl := List.mem_of_getElem? (i := 778) (by decide +kernel)
theorem tm_779 : (Jvm.Cond.static ({ cls := "MemoryCourt$Word", name := "standing", desc := "(LMemoryCourt$Bytes;II)LMemoryCourt$Word;" } : Jvm.MethodName)) ∈ lw_tbl := List.mem_of_getElem? (i := 779) (by decide +kernel)
theorem tm_41 : (Jvm.Cond.initialized "MemoryCourt$Word") ∈ lw_tbl := List.mem_of_getElem? (i := 41) (by decide +kernel)
theorem tm_780 : (Jvm.Cond.code ({ cls := "MemoryCourt$Word", name := "standing", desc := "(LMemoryCourt$Bytes;II)LMemoryCourt$Word;" } : Jvm.MethodName) prog_9_method_4_code (10 : Nat) (Option.some (Jvm.ClassFile.FieldType.object "MemoryCourt$Word"))) ∈ lw_tbl := List.mem_of_getElem? (i := 780) (by decide +kernel)
theorem tm_234 : (Jvm.Cond.fieldLink "MemoryCourt$Reader" (18 : Nat) "MemoryCourt$Reader" "code" "I") ∈ lw_tbl := List.mem_of_getElem? (i := 234) (by decide +kernel)
theorem tm_235 : (Jvm.Cond.fieldLink "MemoryCourt$Reader" (22 : Nat) "MemoryCourt$Reader" "offset" "I") ∈ lw_tbl := List.mem_of_getElem? (i := 235) (by decide +kernel)
theorem tm_766 : (Jvm.Cond.methodLink "MemoryCourt$Reader" (60 : Nat) ({ cls := "MemoryCourt$Reader", name := "advance", desc := "()V" } : Jvm.MethodName)) ∈ lw_tbl := List.mem_of_getElem? (i := 766) (by decide +kernel)
theorem tm_768 : (Jvm.Cond.instanceMethod ({ cls := "MemoryCourt$Reader", name := "advance", desc := "()V" } : Jvm.MethodName)) ∈ lw_tbl := List.mem_of_getElem? (i := 768) (by decide +kernel)
theorem tms_16 : (Jvm.Cond.selects "MemoryCourt$Reader" ({ cls := "MemoryCourt$Reader", name := "advance", desc := "()V" } : Jvm.MethodName) ({ cls := "MemoryCourt$Reader", name := "advance", desc := "()V" } : Jvm.MethodName)) ∈ lw_tbl := List.mem_of_getElem? (i := 16) (by decide +kernel)
theorem tm_769 : (Jvm.Cond.code ({ cls := "MemoryCourt$Reader", name := "advance", desc := "()V" } : Jvm.MethodName) prog_6_method_16_code (2 : Nat) (Option.none : Option Jvm.ClassFile.FieldType)) ∈ lw_tbl := List.mem_of_getElem? (i := 769) (by decide +kernel)
theorem tm_792 : (Jvm.Cond.methodLink "MemoryCourt$Reader" (81 : Nat) ({ cls := "MemoryCourt$Reader", name := "fail", desc := "(I)Z" } : Jvm.MethodName)) ∈ lw_tbl := List.mem_of_getElem? (i := 792) (by decide +kernel)
theorem tm_794 : (Jvm.Cond.instanceMethod ({ cls := "MemoryCourt$Reader", name := "fail", desc := "(I)Z" } : Jvm.MethodName)) ∈ lw_tbl := List.mem_of_getElem? (i := 794) (by decide +kernel)
theorem tms_19 : (Jvm.Cond.selects "MemoryCourt$Reader" ({ cls := "MemoryCourt$Reader", name := "fail", desc := "(I)Z" } : Jvm.MethodName) ({ cls := "MemoryCourt$Reader", name := "fail", desc := "(I)Z" } : Jvm.MethodName)) ∈ lw_tbl := List.mem_of_getElem? (i := 19) (by decide +kernel)
theorem tm_795 : (Jvm.Cond.code ({ cls := "MemoryCourt$Reader", name := "fail", desc := "(I)Z" } : Jvm.MethodName) prog_6_method_15_code (2 : Nat) (Option.some Jvm.ClassFile.FieldType.boolean)) ∈ lw_tbl := List.mem_of_getElem? (i := 795) (by decide +kernel)
theorem tm_241 : (Jvm.Cond.fieldLink "MemoryCourt$Reader" (46 : Nat) "MemoryCourt$Reader" "number" "I") ∈ lw_tbl := List.mem_of_getElem? (i := 241) (by decide +kernel)
theorem tm_822 : (Jvm.Cond.methodLink "MemoryCourt$Reader" (130 : Nat) ({ cls := "MemoryCourt$Reader", name := "isName", desc := "()Z" } : Jvm.MethodName)) ∈ lw_tbl := List.mem_of_getElem? (i := 822) (by decide +kernel)
theorem tm_824 : (Jvm.Cond.instanceMethod ({ cls := "MemoryCourt$Reader", name := "isName", desc := "()Z" } : Jvm.MethodName)) ∈ lw_tbl := List.mem_of_getElem? (i := 824) (by decide +kernel)
theorem tms_24 : (Jvm.Cond.selects "MemoryCourt$Reader" ({ cls := "MemoryCourt$Reader", name := "isName", desc := "()Z" } : Jvm.MethodName) ({ cls := "MemoryCourt$Reader", name := "isName", desc := "()Z" } : Jvm.MethodName)) ∈ lw_tbl := List.mem_of_getElem? (i := 24) (by decide +kernel)
theorem tm_825 : (Jvm.Cond.code ({ cls := "MemoryCourt$Reader", name := "isName", desc := "()Z" } : Jvm.MethodName) prog_6_method_12_code (1 : Nat) (Option.some Jvm.ClassFile.FieldType.boolean)) ∈ lw_tbl := List.mem_of_getElem? (i := 825) (by decide +kernel)
theorem tm_232 : (Jvm.Cond.fieldLink "MemoryCourt$Reader" (12 : Nat) "MemoryCourt$Reader" "rules" "LMemoryCourt$Rules;") ∈ lw_tbl := List.mem_of_getElem? (i := 232) (by decide +kernel)
theorem tm_826 : (Jvm.Cond.methodLink "MemoryCourt$Reader" (133 : Nat) ({ cls := "MemoryCourt$Rules", name := "processNamed", desc := "(LMemoryCourt$Bytes;II)I" } : Jvm.MethodName)) ∈ lw_tbl := List.mem_of_getElem? (i := 826) (by decide +kernel)
theorem tm_827 : (Jvm.Cond.instanceMethod ({ cls := "MemoryCourt$Rules", name := "processNamed", desc := "(LMemoryCourt$Bytes;II)I" } : Jvm.MethodName)) ∈ lw_tbl := List.mem_of_getElem? (i := 827) (by decide +kernel)
theorem tm_828 : (Jvm.Cond.selects "MemoryCourt$Rules" ({ cls := "MemoryCourt$Rules", name := "processNamed", desc := "(LMemoryCourt$Bytes;II)I" } : Jvm.MethodName) ({ cls := "MemoryCourt$Rules", name := "processNamed", desc := "(LMemoryCourt$Bytes;II)I" } : Jvm.MethodName)) ∈ lw_tbl := List.mem_of_getElem? (i := 828) (by decide +kernel)
theorem tm_829 : (Jvm.Cond.code ({ cls := "MemoryCourt$Rules", name := "processNamed", desc := "(LMemoryCourt$Bytes;II)I" } : Jvm.MethodName) prog_7_method_6_code (5 : Nat) (Option.some Jvm.ClassFile.FieldType.int)) ∈ lw_tbl := List.mem_of_getElem? (i := 829) (by decide +kernel)
theorem tm_240 : (Jvm.Cond.fieldLink "MemoryCourt$Reader" (43 : Nat) "MemoryCourt$Reader" "process" "I") ∈ lw_tbl := List.mem_of_getElem? (i := 240) (by decide +kernel)
theorem tm_242 : (Jvm.Cond.fieldLink "MemoryCourt$Reader" (49 : Nat) "MemoryCourt$Reader" "toldOnce" "I") ∈ lw_tbl := List.mem_of_getElem? (i := 242) (by decide +kernel)
theorem tm_1233 : (Jvm.Cond.fieldLinkNest "MemoryCourt$Reader" (174 : Nat) "MemoryCourt$Word" "bit" "I" "MemoryCourt") ∈ lw_tbl := List.mem_of_getElem? (i := 1233) (by decide +kernel)
theorem tm_862 : (Jvm.Cond.methodLink "MemoryCourt$Reader" (164 : Nat) ({ cls := "MemoryCourt$Reader", name := "isFirstOfItsKind", desc := "()Z" } : Jvm.MethodName)) ∈ lw_tbl := List.mem_of_getElem? (i := 862) (by decide +kernel)
theorem tm_864 : (Jvm.Cond.instanceMethod ({ cls := "MemoryCourt$Reader", name := "isFirstOfItsKind", desc := "()Z" } : Jvm.MethodName)) ∈ lw_tbl := List.mem_of_getElem? (i := 864) (by decide +kernel)
theorem tms_30 : (Jvm.Cond.selects "MemoryCourt$Reader" ({ cls := "MemoryCourt$Reader", name := "isFirstOfItsKind", desc := "()Z" } : Jvm.MethodName) ({ cls := "MemoryCourt$Reader", name := "isFirstOfItsKind", desc := "()Z" } : Jvm.MethodName)) ∈ lw_tbl := List.mem_of_getElem? (i := 30) (by decide +kernel)
theorem tm_865 : (Jvm.Cond.code ({ cls := "MemoryCourt$Reader", name := "isFirstOfItsKind", desc := "()Z" } : Jvm.MethodName) prog_6_method_10_code (2 : Nat) (Option.some Jvm.ClassFile.FieldType.boolean)) ∈ lw_tbl := List.mem_of_getElem? (i := 865) (by decide +kernel)
theorem tm_1230 : (Jvm.Cond.fieldLinkNest "MemoryCourt$Reader" (85 : Nat) "MemoryCourt$Word" "low" "I" "MemoryCourt") ∈ lw_tbl := List.mem_of_getElem? (i := 1230) (by decide +kernel)
theorem tm_1231 : (Jvm.Cond.fieldLinkNest "MemoryCourt$Reader" (88 : Nat) "MemoryCourt$Word" "high" "I" "MemoryCourt") ∈ lw_tbl := List.mem_of_getElem? (i := 1231) (by decide +kernel)
theorem tm_796 : (Jvm.Cond.methodLink "MemoryCourt$Reader" (91 : Nat) ({ cls := "MemoryCourt$Reader", name := "readNumber", desc := "(II)Z" } : Jvm.MethodName)) ∈ lw_tbl := List.mem_of_getElem? (i := 796) (by decide +kernel)
theorem tm_798 : (Jvm.Cond.instanceMethod ({ cls := "MemoryCourt$Reader", name := "readNumber", desc := "(II)Z" } : Jvm.MethodName)) ∈ lw_tbl := List.mem_of_getElem? (i := 798) (by decide +kernel)
theorem tms_20 : (Jvm.Cond.selects "MemoryCourt$Reader" ({ cls := "MemoryCourt$Reader", name := "readNumber", desc := "(II)Z" } : Jvm.MethodName) ({ cls := "MemoryCourt$Reader", name := "readNumber", desc := "(II)Z" } : Jvm.MethodName)) ∈ lw_tbl := List.mem_of_getElem? (i := 20) (by decide +kernel)
theorem tm_799 : (Jvm.Cond.code ({ cls := "MemoryCourt$Reader", name := "readNumber", desc := "(II)Z" } : Jvm.MethodName) prog_6_method_13_code (5 : Nat) (Option.some Jvm.ClassFile.FieldType.boolean)) ∈ lw_tbl := List.mem_of_getElem? (i := 799) (by decide +kernel)
theorem tm_870 : (Jvm.Cond.methodLink "MemoryCourt$Reader" (170 : Nat) ({ cls := "MemoryCourt$Rules", name := "set", desc := "(LMemoryCourt$Word;I)V" } : Jvm.MethodName)) ∈ lw_tbl := List.mem_of_getElem? (i := 870) (by decide +kernel)
theorem tm_871 : (Jvm.Cond.instanceMethod ({ cls := "MemoryCourt$Rules", name := "set", desc := "(LMemoryCourt$Word;I)V" } : Jvm.MethodName)) ∈ lw_tbl := List.mem_of_getElem? (i := 871) (by decide +kernel)
theorem tm_872 : (Jvm.Cond.selects "MemoryCourt$Rules" ({ cls := "MemoryCourt$Rules", name := "set", desc := "(LMemoryCourt$Word;I)V" } : Jvm.MethodName) ({ cls := "MemoryCourt$Rules", name := "set", desc := "(LMemoryCourt$Word;I)V" } : Jvm.MethodName)) ∈ lw_tbl := List.mem_of_getElem? (i := 872) (by decide +kernel)
theorem tm_873 : (Jvm.Cond.code ({ cls := "MemoryCourt$Rules", name := "set", desc := "(LMemoryCourt$Word;I)V" } : Jvm.MethodName) prog_7_method_4_code (3 : Nat) (Option.none : Option Jvm.ClassFile.FieldType)) ∈ lw_tbl := List.mem_of_getElem? (i := 873) (by decide +kernel)
theorem tm_810 : (Jvm.Cond.fieldLink "MemoryCourt$Reader" (102 : Nat) "MemoryCourt$1" "$SwitchMap$MemoryCourt$Word" "[I") ∈ lw_tbl := List.mem_of_getElem? (i := 810) (by decide +kernel)
theorem tm_231 : (Jvm.Cond.fieldLink "MemoryCourt$Reader" (56 : Nat) "MemoryCourt$Reader" "court" "LMemoryCourt$Court;") ∈ lw_tbl := List.mem_of_getElem? (i := 231) (by decide +kernel)
theorem tm_159 : (Jvm.Cond.fieldLinkNest "MemoryCourt$Reader" (167 : Nat) "MemoryCourt$Court" "order" "I" "MemoryCourt") ∈ lw_tbl := List.mem_of_getElem? (i := 159) (by decide +kernel)
theorem tm_167 : (Jvm.Cond.fieldLinkNest "MemoryCourt$Reader" (154 : Nat) "MemoryCourt$Court" "claimCount" "I" "MemoryCourt") ∈ lw_tbl := List.mem_of_getElem? (i := 167) (by decide +kernel)
theorem tm_845 : (Jvm.Cond.methodLink "MemoryCourt$Reader" (144 : Nat) ({ cls := "MemoryCourt$Reader", name := "readProcess", desc := "()Z" } : Jvm.MethodName)) ∈ lw_tbl := List.mem_of_getElem? (i := 845) (by decide +kernel)
theorem tm_847 : (Jvm.Cond.instanceMethod ({ cls := "MemoryCourt$Reader", name := "readProcess", desc := "()Z" } : Jvm.MethodName)) ∈ lw_tbl := List.mem_of_getElem? (i := 847) (by decide +kernel)
theorem tms_27 : (Jvm.Cond.selects "MemoryCourt$Reader" ({ cls := "MemoryCourt$Reader", name := "readProcess", desc := "()Z" } : Jvm.MethodName) ({ cls := "MemoryCourt$Reader", name := "readProcess", desc := "()Z" } : Jvm.MethodName)) ∈ lw_tbl := List.mem_of_getElem? (i := 27) (by decide +kernel)
theorem tm_848 : (Jvm.Cond.code ({ cls := "MemoryCourt$Reader", name := "readProcess", desc := "()Z" } : Jvm.MethodName) prog_6_method_11_code (1 : Nat) (Option.some Jvm.ClassFile.FieldType.boolean)) ∈ lw_tbl := List.mem_of_getElem? (i := 848) (by decide +kernel)
theorem tm_111 : (Jvm.Cond.fieldLinkNest "MemoryCourt$Reader" (157 : Nat) "MemoryCourt$Rules" "pages" "I" "MemoryCourt") ∈ lw_tbl := List.mem_of_getElem? (i := 111) (by decide +kernel)
theorem tm_854 : (Jvm.Cond.methodLink "MemoryCourt$Reader" (160 : Nat) ({ cls := "MemoryCourt$Court", name := "addClaim", desc := "(III)I" } : Jvm.MethodName)) ∈ lw_tbl := List.mem_of_getElem? (i := 854) (by decide +kernel)
theorem tm_855 : (Jvm.Cond.instanceMethod ({ cls := "MemoryCourt$Court", name := "addClaim", desc := "(III)I" } : Jvm.MethodName)) ∈ lw_tbl := List.mem_of_getElem? (i := 855) (by decide +kernel)
theorem tm_856 : (Jvm.Cond.selects "MemoryCourt$Court" ({ cls := "MemoryCourt$Court", name := "addClaim", desc := "(III)I" } : Jvm.MethodName) ({ cls := "MemoryCourt$Court", name := "addClaim", desc := "(III)I" } : Jvm.MethodName)) ∈ lw_tbl := List.mem_of_getElem? (i := 856) (by decide +kernel)
theorem tm_857 : (Jvm.Cond.code ({ cls := "MemoryCourt$Court", name := "addClaim", desc := "(III)I" } : Jvm.MethodName) prog_4_method_23_code (5 : Nat) (Option.some Jvm.ClassFile.FieldType.int)) ∈ lw_tbl := List.mem_of_getElem? (i := 857) (by decide +kernel)
theorem tm_164 : (Jvm.Cond.fieldLinkNest "MemoryCourt$Reader" (141 : Nat) "MemoryCourt$Court" "loanCount" "I" "MemoryCourt") ∈ lw_tbl := List.mem_of_getElem? (i := 164) (by decide +kernel)
theorem tm_161 : (Jvm.Cond.fieldLinkNest "MemoryCourt$Reader" (147 : Nat) "MemoryCourt$Court" "free" "I" "MemoryCourt") ∈ lw_tbl := List.mem_of_getElem? (i := 161) (by decide +kernel)
theorem tm_849 : (Jvm.Cond.methodLink "MemoryCourt$Reader" (150 : Nat) ({ cls := "MemoryCourt$Court", name := "lend", desc := "(IIII)I" } : Jvm.MethodName)) ∈ lw_tbl := List.mem_of_getElem? (i := 849) (by decide +kernel)
theorem tm_115 : (Jvm.Cond.fieldLinkNest "MemoryCourt$Reader" (127 : Nat) "MemoryCourt$Rules" "processes" "I" "MemoryCourt") ∈ lw_tbl := List.mem_of_getElem? (i := 115) (by decide +kernel)
theorem tm_836 : (Jvm.Cond.methodLink "MemoryCourt$Reader" (137 : Nat) ({ cls := "MemoryCourt$Rules", name := "addProcess", desc := "(LMemoryCourt$Bytes;II)V" } : Jvm.MethodName)) ∈ lw_tbl := List.mem_of_getElem? (i := 836) (by decide +kernel)
theorem tm_837 : (Jvm.Cond.instanceMethod ({ cls := "MemoryCourt$Rules", name := "addProcess", desc := "(LMemoryCourt$Bytes;II)V" } : Jvm.MethodName)) ∈ lw_tbl := List.mem_of_getElem? (i := 837) (by decide +kernel)
theorem tm_838 : (Jvm.Cond.selects "MemoryCourt$Rules" ({ cls := "MemoryCourt$Rules", name := "addProcess", desc := "(LMemoryCourt$Bytes;II)V" } : Jvm.MethodName) ({ cls := "MemoryCourt$Rules", name := "addProcess", desc := "(LMemoryCourt$Bytes;II)V" } : Jvm.MethodName)) ∈ lw_tbl := List.mem_of_getElem? (i := 838) (by decide +kernel)
theorem tm_839 : (Jvm.Cond.code ({ cls := "MemoryCourt$Rules", name := "addProcess", desc := "(LMemoryCourt$Bytes;II)V" } : Jvm.MethodName) prog_7_method_5_code (5 : Nat) (Option.none : Option Jvm.ClassFile.FieldType)) ∈ lw_tbl := List.mem_of_getElem? (i := 839) (by decide +kernel)
theorem tm_866 : (Jvm.Cond.methodLink "MemoryCourt$Reader" (124 : Nat) ({ cls := "MemoryCourt$Reader", name := "readSetting", desc := "()Z" } : Jvm.MethodName)) ∈ lw_tbl := List.mem_of_getElem? (i := 866) (by decide +kernel)
theorem tm_868 : (Jvm.Cond.instanceMethod ({ cls := "MemoryCourt$Reader", name := "readSetting", desc := "()Z" } : Jvm.MethodName)) ∈ lw_tbl := List.mem_of_getElem? (i := 868) (by decide +kernel)
theorem tms_31 : (Jvm.Cond.selects "MemoryCourt$Reader" ({ cls := "MemoryCourt$Reader", name := "readSetting", desc := "()Z" } : Jvm.MethodName) ({ cls := "MemoryCourt$Reader", name := "readSetting", desc := "()Z" } : Jvm.MethodName)) ∈ lw_tbl := List.mem_of_getElem? (i := 31) (by decide +kernel)
theorem tm_869 : (Jvm.Cond.code ({ cls := "MemoryCourt$Reader", name := "readSetting", desc := "()Z" } : Jvm.MethodName) prog_6_method_9_code (2 : Nat) (Option.some Jvm.ClassFile.FieldType.boolean)) ∈ lw_tbl := List.mem_of_getElem? (i := 869) (by decide +kernel)
theorem tm_818 : (Jvm.Cond.methodLink "MemoryCourt$Reader" (112 : Nat) ({ cls := "MemoryCourt$Reader", name := "readNewProcess", desc := "()Z" } : Jvm.MethodName)) ∈ lw_tbl := List.mem_of_getElem? (i := 818) (by decide +kernel)
theorem tm_820 : (Jvm.Cond.instanceMethod ({ cls := "MemoryCourt$Reader", name := "readNewProcess", desc := "()Z" } : Jvm.MethodName)) ∈ lw_tbl := List.mem_of_getElem? (i := 820) (by decide +kernel)
theorem tms_23 : (Jvm.Cond.selects "MemoryCourt$Reader" ({ cls := "MemoryCourt$Reader", name := "readNewProcess", desc := "()Z" } : Jvm.MethodName) ({ cls := "MemoryCourt$Reader", name := "readNewProcess", desc := "()Z" } : Jvm.MethodName)) ∈ lw_tbl := List.mem_of_getElem? (i := 23) (by decide +kernel)
theorem tm_821 : (Jvm.Cond.code ({ cls := "MemoryCourt$Reader", name := "readNewProcess", desc := "()Z" } : Jvm.MethodName) prog_6_method_5_code (1 : Nat) (Option.some Jvm.ClassFile.FieldType.boolean)) ∈ lw_tbl := List.mem_of_getElem? (i := 821) (by decide +kernel)
theorem tm_841 : (Jvm.Cond.methodLink "MemoryCourt$Reader" (115 : Nat) ({ cls := "MemoryCourt$Reader", name := "readLoan", desc := "()Z" } : Jvm.MethodName)) ∈ lw_tbl := List.mem_of_getElem? (i := 841) (by decide +kernel)
theorem tm_843 : (Jvm.Cond.instanceMethod ({ cls := "MemoryCourt$Reader", name := "readLoan", desc := "()Z" } : Jvm.MethodName)) ∈ lw_tbl := List.mem_of_getElem? (i := 843) (by decide +kernel)
theorem tms_26 : (Jvm.Cond.selects "MemoryCourt$Reader" ({ cls := "MemoryCourt$Reader", name := "readLoan", desc := "()Z" } : Jvm.MethodName) ({ cls := "MemoryCourt$Reader", name := "readLoan", desc := "()Z" } : Jvm.MethodName)) ∈ lw_tbl := List.mem_of_getElem? (i := 26) (by decide +kernel)
theorem tm_844 : (Jvm.Cond.code ({ cls := "MemoryCourt$Reader", name := "readLoan", desc := "()Z" } : Jvm.MethodName) prog_6_method_6_code (2 : Nat) (Option.some Jvm.ClassFile.FieldType.boolean)) ∈ lw_tbl := List.mem_of_getElem? (i := 844) (by decide +kernel)
theorem tm_850 : (Jvm.Cond.methodLink "MemoryCourt$Reader" (118 : Nat) ({ cls := "MemoryCourt$Reader", name := "readClaim", desc := "()Z" } : Jvm.MethodName)) ∈ lw_tbl := List.mem_of_getElem? (i := 850) (by decide +kernel)
theorem tm_852 : (Jvm.Cond.instanceMethod ({ cls := "MemoryCourt$Reader", name := "readClaim", desc := "()Z" } : Jvm.MethodName)) ∈ lw_tbl := List.mem_of_getElem? (i := 852) (by decide +kernel)
theorem tms_28 : (Jvm.Cond.selects "MemoryCourt$Reader" ({ cls := "MemoryCourt$Reader", name := "readClaim", desc := "()Z" } : Jvm.MethodName) ({ cls := "MemoryCourt$Reader", name := "readClaim", desc := "()Z" } : Jvm.MethodName)) ∈ lw_tbl := List.mem_of_getElem? (i := 28) (by decide +kernel)
theorem tm_853 : (Jvm.Cond.code ({ cls := "MemoryCourt$Reader", name := "readClaim", desc := "()Z" } : Jvm.MethodName) prog_6_method_7_code (2 : Nat) (Option.some Jvm.ClassFile.FieldType.boolean)) ∈ lw_tbl := List.mem_of_getElem? (i := 853) (by decide +kernel)
theorem tm_858 : (Jvm.Cond.methodLink "MemoryCourt$Reader" (121 : Nat) ({ cls := "MemoryCourt$Reader", name := "readOrder", desc := "()Z" } : Jvm.MethodName)) ∈ lw_tbl := List.mem_of_getElem? (i := 858) (by decide +kernel)
theorem tm_860 : (Jvm.Cond.instanceMethod ({ cls := "MemoryCourt$Reader", name := "readOrder", desc := "()Z" } : Jvm.MethodName)) ∈ lw_tbl := List.mem_of_getElem? (i := 860) (by decide +kernel)
theorem tms_29 : (Jvm.Cond.selects "MemoryCourt$Reader" ({ cls := "MemoryCourt$Reader", name := "readOrder", desc := "()Z" } : Jvm.MethodName) ({ cls := "MemoryCourt$Reader", name := "readOrder", desc := "()Z" } : Jvm.MethodName)) ∈ lw_tbl := List.mem_of_getElem? (i := 29) (by decide +kernel)
theorem tm_861 : (Jvm.Cond.code ({ cls := "MemoryCourt$Reader", name := "readOrder", desc := "()Z" } : Jvm.MethodName) prog_6_method_8_code (1 : Nat) (Option.some Jvm.ClassFile.FieldType.boolean)) ∈ lw_tbl := List.mem_of_getElem? (i := 861) (by decide +kernel)
theorem tm_791 : (Jvm.Cond.fieldLink "MemoryCourt$Reader" (78 : Nat) "MemoryCourt$Word" "PAGES" "LMemoryCourt$Word;") ∈ lw_tbl := List.mem_of_getElem? (i := 791) (by decide +kernel)
theorem tm_800 : (Jvm.Cond.methodLink "MemoryCourt$Reader" (95 : Nat) ({ cls := "MemoryCourt$Rules", name := "begin", desc := "(I)V" } : Jvm.MethodName)) ∈ lw_tbl := List.mem_of_getElem? (i := 800) (by decide +kernel)
theorem tm_290 : (Jvm.Cond.instanceMethod ({ cls := "MemoryCourt$Rules", name := "begin", desc := "(I)V" } : Jvm.MethodName)) ∈ lw_tbl := List.mem_of_getElem? (i := 290) (by decide +kernel)
theorem tm_291 : (Jvm.Cond.selects "MemoryCourt$Rules" ({ cls := "MemoryCourt$Rules", name := "begin", desc := "(I)V" } : Jvm.MethodName) ({ cls := "MemoryCourt$Rules", name := "begin", desc := "(I)V" } : Jvm.MethodName)) ∈ lw_tbl := List.mem_of_getElem? (i := 291) (by decide +kernel)
theorem tm_292 : (Jvm.Cond.code ({ cls := "MemoryCourt$Rules", name := "begin", desc := "(I)V" } : Jvm.MethodName) prog_7_method_2_code (2 : Nat) (Option.none : Option Jvm.ClassFile.FieldType)) ∈ lw_tbl := List.mem_of_getElem? (i := 292) (by decide +kernel)
theorem tm_801 : (Jvm.Cond.methodLink "MemoryCourt$Reader" (99 : Nat) ({ cls := "MemoryCourt$Court", name := "begin", desc := "(I)V" } : Jvm.MethodName)) ∈ lw_tbl := List.mem_of_getElem? (i := 801) (by decide +kernel)
theorem tm_304 : (Jvm.Cond.instanceMethod ({ cls := "MemoryCourt$Court", name := "begin", desc := "(I)V" } : Jvm.MethodName)) ∈ lw_tbl := List.mem_of_getElem? (i := 304) (by decide +kernel)
theorem tm_305 : (Jvm.Cond.selects "MemoryCourt$Court" ({ cls := "MemoryCourt$Court", name := "begin", desc := "(I)V" } : Jvm.MethodName) ({ cls := "MemoryCourt$Court", name := "begin", desc := "(I)V" } : Jvm.MethodName)) ∈ lw_tbl := List.mem_of_getElem? (i := 305) (by decide +kernel)
theorem tm_306 : (Jvm.Cond.code ({ cls := "MemoryCourt$Court", name := "begin", desc := "(I)V" } : Jvm.MethodName) prog_4_method_2_code (3 : Nat) (Option.none : Option Jvm.ClassFile.FieldType)) ∈ lw_tbl := List.mem_of_getElem? (i := 306) (by decide +kernel)
theorem tm_802 : (Jvm.Cond.methodLink "MemoryCourt$Reader" (75 : Nat) ({ cls := "MemoryCourt$Reader", name := "readSemicolon", desc := "()Z" } : Jvm.MethodName)) ∈ lw_tbl := List.mem_of_getElem? (i := 802) (by decide +kernel)
theorem tm_804 : (Jvm.Cond.instanceMethod ({ cls := "MemoryCourt$Reader", name := "readSemicolon", desc := "()Z" } : Jvm.MethodName)) ∈ lw_tbl := List.mem_of_getElem? (i := 804) (by decide +kernel)
theorem tms_21 : (Jvm.Cond.selects "MemoryCourt$Reader" ({ cls := "MemoryCourt$Reader", name := "readSemicolon", desc := "()Z" } : Jvm.MethodName) ({ cls := "MemoryCourt$Reader", name := "readSemicolon", desc := "()Z" } : Jvm.MethodName)) ∈ lw_tbl := List.mem_of_getElem? (i := 21) (by decide +kernel)
theorem tm_805 : (Jvm.Cond.code ({ cls := "MemoryCourt$Reader", name := "readSemicolon", desc := "()Z" } : Jvm.MethodName) prog_6_method_14_code (1 : Nat) (Option.some Jvm.ClassFile.FieldType.boolean)) ∈ lw_tbl := List.mem_of_getElem? (i := 805) (by decide +kernel)
theorem tm_787 : (Jvm.Cond.methodLink "MemoryCourt$Reader" (63 : Nat) ({ cls := "MemoryCourt$Reader", name := "readPages", desc := "()Z" } : Jvm.MethodName)) ∈ lw_tbl := List.mem_of_getElem? (i := 787) (by decide +kernel)
theorem tm_789 : (Jvm.Cond.instanceMethod ({ cls := "MemoryCourt$Reader", name := "readPages", desc := "()Z" } : Jvm.MethodName)) ∈ lw_tbl := List.mem_of_getElem? (i := 789) (by decide +kernel)
theorem tms_18 : (Jvm.Cond.selects "MemoryCourt$Reader" ({ cls := "MemoryCourt$Reader", name := "readPages", desc := "()Z" } : Jvm.MethodName) ({ cls := "MemoryCourt$Reader", name := "readPages", desc := "()Z" } : Jvm.MethodName)) ∈ lw_tbl := List.mem_of_getElem? (i := 18) (by decide +kernel)
theorem tm_790 : (Jvm.Cond.code ({ cls := "MemoryCourt$Reader", name := "readPages", desc := "()Z" } : Jvm.MethodName) prog_6_method_3_code (1 : Nat) (Option.some Jvm.ClassFile.FieldType.boolean)) ∈ lw_tbl := List.mem_of_getElem? (i := 790) (by decide +kernel)
theorem tm_806 : (Jvm.Cond.methodLink "MemoryCourt$Reader" (72 : Nat) ({ cls := "MemoryCourt$Reader", name := "readStatement", desc := "()Z" } : Jvm.MethodName)) ∈ lw_tbl := List.mem_of_getElem? (i := 806) (by decide +kernel)
theorem tm_808 : (Jvm.Cond.instanceMethod ({ cls := "MemoryCourt$Reader", name := "readStatement", desc := "()Z" } : Jvm.MethodName)) ∈ lw_tbl := List.mem_of_getElem? (i := 808) (by decide +kernel)
theorem tms_22 : (Jvm.Cond.selects "MemoryCourt$Reader" ({ cls := "MemoryCourt$Reader", name := "readStatement", desc := "()Z" } : Jvm.MethodName) ({ cls := "MemoryCourt$Reader", name := "readStatement", desc := "()Z" } : Jvm.MethodName)) ∈ lw_tbl := List.mem_of_getElem? (i := 22) (by decide +kernel)
theorem tm_809 : (Jvm.Cond.code ({ cls := "MemoryCourt$Reader", name := "readStatement", desc := "()Z" } : Jvm.MethodName) prog_6_method_4_code (1 : Nat) (Option.some Jvm.ClassFile.FieldType.boolean)) ∈ lw_tbl := List.mem_of_getElem? (i := 809) (by decide +kernel)
theorem tm_322 : (Jvm.Cond.fieldLink "MemoryCourt" (43 : Nat) "MemoryCourt" "reader" "LMemoryCourt$Reader;") ∈ lw_tbl := List.mem_of_getElem? (i := 322) (by decide +kernel)
theorem tm_762 : (Jvm.Cond.methodLink "MemoryCourt" (81 : Nat) ({ cls := "MemoryCourt$Reader", name := "readText", desc := "()Z" } : Jvm.MethodName)) ∈ lw_tbl := List.mem_of_getElem? (i := 762) (by decide +kernel)
theorem tm_763 : (Jvm.Cond.instanceMethod ({ cls := "MemoryCourt$Reader", name := "readText", desc := "()Z" } : Jvm.MethodName)) ∈ lw_tbl := List.mem_of_getElem? (i := 763) (by decide +kernel)
theorem tm_764 : (Jvm.Cond.selects "MemoryCourt$Reader" ({ cls := "MemoryCourt$Reader", name := "readText", desc := "()Z" } : Jvm.MethodName) ({ cls := "MemoryCourt$Reader", name := "readText", desc := "()Z" } : Jvm.MethodName)) ∈ lw_tbl := List.mem_of_getElem? (i := 764) (by decide +kernel)
theorem tm_765 : (Jvm.Cond.code ({ cls := "MemoryCourt$Reader", name := "readText", desc := "()Z" } : Jvm.MethodName) prog_6_method_2_code (2 : Nat) (Option.some Jvm.ClassFile.FieldType.boolean)) ∈ lw_tbl := List.mem_of_getElem? (i := 765) (by decide +kernel)
theorem tm_233 : (Jvm.Cond.fieldLinkNest "MemoryCourt" (85 : Nat) "MemoryCourt$Reader" "rules" "LMemoryCourt$Rules;" "MemoryCourt") ∈ lw_tbl := List.mem_of_getElem? (i := 233) (by decide +kernel)
theorem tm_876 : (Jvm.Cond.methodLink "MemoryCourt" (86 : Nat) ({ cls := "MemoryCourt$Rules", name := "copyFrom", desc := "(LMemoryCourt$Rules;)V" } : Jvm.MethodName)) ∈ lw_tbl := List.mem_of_getElem? (i := 876) (by decide +kernel)
theorem tm_877 : (Jvm.Cond.instanceMethod ({ cls := "MemoryCourt$Rules", name := "copyFrom", desc := "(LMemoryCourt$Rules;)V" } : Jvm.MethodName)) ∈ lw_tbl := List.mem_of_getElem? (i := 877) (by decide +kernel)
theorem tm_878 : (Jvm.Cond.selects "MemoryCourt$Rules" ({ cls := "MemoryCourt$Rules", name := "copyFrom", desc := "(LMemoryCourt$Rules;)V" } : Jvm.MethodName) ({ cls := "MemoryCourt$Rules", name := "copyFrom", desc := "(LMemoryCourt$Rules;)V" } : Jvm.MethodName)) ∈ lw_tbl := List.mem_of_getElem? (i := 878) (by decide +kernel)
theorem tm_879 : (Jvm.Cond.code ({ cls := "MemoryCourt$Rules", name := "copyFrom", desc := "(LMemoryCourt$Rules;)V" } : Jvm.MethodName) prog_7_method_3_code (2 : Nat) (Option.none : Option Jvm.ClassFile.FieldType)) ∈ lw_tbl := List.mem_of_getElem? (i := 879) (by decide +kernel)
theorem tm_676 : (Jvm.Cond.methodLink "MemoryCourt" (93 : Nat) ({ cls := "MemoryCourt$Past", name := "forget", desc := "()V" } : Jvm.MethodName)) ∈ lw_tbl := List.mem_of_getElem? (i := 676) (by decide +kernel)
theorem tm_677 : (Jvm.Cond.instanceMethod ({ cls := "MemoryCourt$Past", name := "forget", desc := "()V" } : Jvm.MethodName)) ∈ lw_tbl := List.mem_of_getElem? (i := 677) (by decide +kernel)
theorem tm_678 : (Jvm.Cond.selects "MemoryCourt$Past" ({ cls := "MemoryCourt$Past", name := "forget", desc := "()V" } : Jvm.MethodName) ({ cls := "MemoryCourt$Past", name := "forget", desc := "()V" } : Jvm.MethodName)) ∈ lw_tbl := List.mem_of_getElem? (i := 678) (by decide +kernel)
theorem tm_42 : (Jvm.Cond.initialized "MemoryCourt$Past") ∈ lw_tbl := List.mem_of_getElem? (i := 42) (by decide +kernel)
theorem tm_679 : (Jvm.Cond.code ({ cls := "MemoryCourt$Past", name := "forget", desc := "()V" } : Jvm.MethodName) prog_5_method_4_code (1 : Nat) (Option.none : Option Jvm.ClassFile.FieldType)) ∈ lw_tbl := List.mem_of_getElem? (i := 679) (by decide +kernel)
theorem tm_325 : (Jvm.Cond.fieldLink "MemoryCourt" (57 : Nat) "MemoryCourt" "isSaved" "Z") ∈ lw_tbl := List.mem_of_getElem? (i := 325) (by decide +kernel)
theorem bp_32 : (Int8.ofInt (32)).toInt32 = (32 : Int32) := by decide
theorem bp_10 : (Int8.ofInt (10)).toInt32 = (10 : Int32) := by decide
theorem bp_59 : (Int8.ofInt (59)).toInt32 = (59 : Int32) := by decide
theorem bp_97 : (Int8.ofInt (97)).toInt32 = (97 : Int32) := by decide
theorem bp_48 : (Int8.ofInt (48)).toInt32 = (48 : Int32) := by decide
theorem bp_57 : (Int8.ofInt (57)).toInt32 = (57 : Int32) := by decide
theorem bp_122 : (Int8.ofInt (122)).toInt32 = (122 : Int32) := by decide
theorem bp_60 : (Int8.ofInt (60)).toInt32 = (60 : Int32) := by decide
theorem bp_99 : (Int8.ofInt (99)).toInt32 = (99 : Int32) := by decide
theorem gf_X4_52 {p : Program} {l : Launch} {e : Env} {R : Room} {s : State} {m : MethodId} {args : Array Value} {below : List Frame} {meth : Method} {c : Code} {H : Heap} {locs : List Loc} {cells slots : Nat} {Q : State → Prop} {cc : ByteArray} {pc nL : Nat} {ls : Array Slot} {rest : List Value} {k : KT} {A : Nat → Prop} {ws : va_W} {H0 : Heap} {a : Nat} (E : E0 p s m c cc nL RX4 k A) (hW : WD k A H0 ws H locs) (q0 : Nat) {fs : List Value} (he : ws[q0]? = some (a, .inr (5, fs))) {v : Value} (hv : fs[0]? = some v) (hdg : decode cc pc = .ok (.getfield 52, 3)) (q : W p l e R s m args below meth c H locs cells slots Q (F0 m (pc + 3) ls (v :: rest))) : W p l e R s m args below meth c H locs cells slots Q (F0 m pc ls (.ref a :: rest)) := va_get (C := RX4) (T := TX4) (N := 12) (ci := 5) E.hx E.hb (Ts := wsX40) (fun w hw => E.w (inX4 w hw) (tbl_laysX4 w hw)) (fun _ h => h) E.ho E.hK hW.1 q0 he rfl 0 (by decide) (E.w tm_230 rfl) (fun _ h => h) hv hdg q
theorem gf_X4_31 {p : Program} {l : Launch} {e : Env} {R : Room} {s : State} {m : MethodId} {args : Array Value} {below : List Frame} {meth : Method} {c : Code} {H : Heap} {locs : List Loc} {cells slots : Nat} {Q : State → Prop} {cc : ByteArray} {pc nL : Nat} {ls : Array Slot} {rest : List Value} {k : KT} {A : Nat → Prop} {ws : va_W} {H0 : Heap} {a : Nat} (E : E0 p s m c cc nL RX4 k A) (hW : WD k A H0 ws H locs) (q0 : Nat) {fs : List Value} (he : ws[q0]? = some (a, .inr (5, fs))) {v : Value} (hv : fs[7]? = some v) (hdg : decode cc pc = .ok (.getfield 31, 3)) (q : W p l e R s m args below meth c H locs cells slots Q (F0 m (pc + 3) ls (v :: rest))) : W p l e R s m args below meth c H locs cells slots Q (F0 m pc ls (.ref a :: rest)) := va_get (C := RX4) (T := TX4) (N := 12) (ci := 5) E.hx E.hb (Ts := wsX40) (fun w hw => E.w (inX4 w hw) (tbl_laysX4 w hw)) (fun _ h => h) E.ho E.hK hW.1 q0 he rfl 7 (by decide) (E.w tm_238 rfl) (fun _ h => h) hv hdg q
theorem pf_X4_28 {p : Program} {l : Launch} {e : Env} {R : Room} {s : State} {m : MethodId} {args : Array Value} {below : List Frame} {meth : Method} {c : Code} {H : Heap} {locs : List Loc} {cells slots : Nat} {Q : State → Prop} {cc : ByteArray} {pc nL : Nat} {ls : Array Slot} {rest : List Value} {k : KT} {A : Nat → Prop} {ws ws2 : va_W} {H0 : Heap} {a : Nat} (E : E0 p s m c cc nL RX4 k A) (hW : WD k A H0 ws H locs) (q0 : Nat) {fs : List Value} (he : ws[q0]? = some (a, .inr (5, fs))) {v : Value} (hn : narrow (tyX4 6) v = v) (hfit : fits (tyX4 6) v = true) (hl : 6 < fs.length) (hdg : decode cc pc = .ok (.putfield 28, 3)) (hws : ws.set q0 (a, .inr (5, fs.set 6 v)) = ws2) (q : ∀ (H1 : Heap) (locs1 : List Loc), WD k A H0 ws2 H1 locs1 → W p l e R s m args below meth c H1 locs1 cells slots Q (F0 m (pc + 3) ls rest)) : W p l e R s m args below meth c H locs cells slots Q (F0 m pc ls (v :: .ref a :: rest)) := by
  subst hws
  exact va_put (C := RX4) (T := TX4) (N := 12) (ci := 5) (ty := tyX4 6) E.hx E.hb (Ts := wsX40) (fun w hw => E.w (inX4 w hw) (tbl_laysX4 w hw)) (fun _ h => h) tyX4 tyX4_ok nmX4 E.ho E.hK hW.1 hW.2.1 hW.2.2 q0 he rfl 6 (by decide) (E.w tm_237 rfl) (fun _ h => h) rfl (tyX4_ok 6 (by decide)) hn hfit hl hdg (fun H1 locs1 h1 h2 h3 => q H1 locs1 ⟨h1, h2, h3⟩)
theorem gf_X4_67 {p : Program} {l : Launch} {e : Env} {R : Room} {s : State} {m : MethodId} {args : Array Value} {below : List Frame} {meth : Method} {c : Code} {H : Heap} {locs : List Loc} {cells slots : Nat} {Q : State → Prop} {cc : ByteArray} {pc nL : Nat} {ls : Array Slot} {rest : List Value} {k : KT} {A : Nat → Prop} {ws : va_W} {H0 : Heap} {a : Nat} (E : E0 p s m c cc nL RX4 k A) (hW : WD k A H0 ws H locs) (q0 : Nat) {fs : List Value} (he : ws[q0]? = some (a, .inr (2, fs))) {v : Value} (hv : fs[1]? = some v) (hdg : decode cc pc = .ok (.getfield 67, 3)) (q : W p l e R s m args below meth c H locs cells slots Q (F0 m (pc + 3) ls (v :: rest))) : W p l e R s m args below meth c H locs cells slots Q (F0 m pc ls (.ref a :: rest)) := va_getN (C := RX1) (T := TX1) (N := 2) (ci := 2) E.hx E.hb (Ts := wsX10) (fun w hw => E.w (inX1 w hw) (tbl_laysX1 w hw)) (fun _ h => h) E.ho E.hK hW.1 q0 he rfl 1 (by decide) (E.w tm_82 rfl) (fun _ h => h) hv hdg q
theorem gf_X4_28 {p : Program} {l : Launch} {e : Env} {R : Room} {s : State} {m : MethodId} {args : Array Value} {below : List Frame} {meth : Method} {c : Code} {H : Heap} {locs : List Loc} {cells slots : Nat} {Q : State → Prop} {cc : ByteArray} {pc nL : Nat} {ls : Array Slot} {rest : List Value} {k : KT} {A : Nat → Prop} {ws : va_W} {H0 : Heap} {a : Nat} (E : E0 p s m c cc nL RX4 k A) (hW : WD k A H0 ws H locs) (q0 : Nat) {fs : List Value} (he : ws[q0]? = some (a, .inr (5, fs))) {v : Value} (hv : fs[6]? = some v) (hdg : decode cc pc = .ok (.getfield 28, 3)) (q : W p l e R s m args below meth c H locs cells slots Q (F0 m (pc + 3) ls (v :: rest))) : W p l e R s m args below meth c H locs cells slots Q (F0 m pc ls (.ref a :: rest)) := va_get (C := RX4) (T := TX4) (N := 12) (ci := 5) E.hx E.hb (Ts := wsX40) (fun w hw => E.w (inX4 w hw) (tbl_laysX4 w hw)) (fun _ h => h) E.ho E.hK hW.1 q0 he rfl 6 (by decide) (E.w tm_237 rfl) (fun _ h => h) hv hdg q
theorem pf_X4_25 {p : Program} {l : Launch} {e : Env} {R : Room} {s : State} {m : MethodId} {args : Array Value} {below : List Frame} {meth : Method} {c : Code} {H : Heap} {locs : List Loc} {cells slots : Nat} {Q : State → Prop} {cc : ByteArray} {pc nL : Nat} {ls : Array Slot} {rest : List Value} {k : KT} {A : Nat → Prop} {ws ws2 : va_W} {H0 : Heap} {a : Nat} (E : E0 p s m c cc nL RX4 k A) (hW : WD k A H0 ws H locs) (q0 : Nat) {fs : List Value} (he : ws[q0]? = some (a, .inr (5, fs))) {v : Value} (hn : narrow (tyX4 5) v = v) (hfit : fits (tyX4 5) v = true) (hl : 5 < fs.length) (hdg : decode cc pc = .ok (.putfield 25, 3)) (hws : ws.set q0 (a, .inr (5, fs.set 5 v)) = ws2) (q : ∀ (H1 : Heap) (locs1 : List Loc), WD k A H0 ws2 H1 locs1 → W p l e R s m args below meth c H1 locs1 cells slots Q (F0 m (pc + 3) ls rest)) : W p l e R s m args below meth c H locs cells slots Q (F0 m pc ls (v :: .ref a :: rest)) := by
  subst hws
  exact va_put (C := RX4) (T := TX4) (N := 12) (ci := 5) (ty := tyX4 5) E.hx E.hb (Ts := wsX40) (fun w hw => E.w (inX4 w hw) (tbl_laysX4 w hw)) (fun _ h => h) tyX4 tyX4_ok nmX4 E.ho E.hK hW.1 hW.2.1 hW.2.2 q0 he rfl 5 (by decide) (E.w tm_236 rfl) (fun _ h => h) rfl (tyX4_ok 5 (by decide)) hn hfit hl hdg (fun H1 locs1 h1 h2 h3 => q H1 locs1 ⟨h1, h2, h3⟩)
theorem gf_X4_25 {p : Program} {l : Launch} {e : Env} {R : Room} {s : State} {m : MethodId} {args : Array Value} {below : List Frame} {meth : Method} {c : Code} {H : Heap} {locs : List Loc} {cells slots : Nat} {Q : State → Prop} {cc : ByteArray} {pc nL : Nat} {ls : Array Slot} {rest : List Value} {k : KT} {A : Nat → Prop} {ws : va_W} {H0 : Heap} {a : Nat} (E : E0 p s m c cc nL RX4 k A) (hW : WD k A H0 ws H locs) (q0 : Nat) {fs : List Value} (he : ws[q0]? = some (a, .inr (5, fs))) {v : Value} (hv : fs[5]? = some v) (hdg : decode cc pc = .ok (.getfield 25, 3)) (q : W p l e R s m args below meth c H locs cells slots Q (F0 m (pc + 3) ls (v :: rest))) : W p l e R s m args below meth c H locs cells slots Q (F0 m pc ls (.ref a :: rest)) := va_get (C := RX4) (T := TX4) (N := 12) (ci := 5) E.hx E.hb (Ts := wsX40) (fun w hw => E.w (inX4 w hw) (tbl_laysX4 w hw)) (fun _ h => h) E.ho E.hK hW.1 q0 he rfl 5 (by decide) (E.w tm_236 rfl) (fun _ h => h) hv hdg q
theorem pf_X4_31 {p : Program} {l : Launch} {e : Env} {R : Room} {s : State} {m : MethodId} {args : Array Value} {below : List Frame} {meth : Method} {c : Code} {H : Heap} {locs : List Loc} {cells slots : Nat} {Q : State → Prop} {cc : ByteArray} {pc nL : Nat} {ls : Array Slot} {rest : List Value} {k : KT} {A : Nat → Prop} {ws ws2 : va_W} {H0 : Heap} {a : Nat} (E : E0 p s m c cc nL RX4 k A) (hW : WD k A H0 ws H locs) (q0 : Nat) {fs : List Value} (he : ws[q0]? = some (a, .inr (5, fs))) {v : Value} (hn : narrow (tyX4 7) v = v) (hfit : fits (tyX4 7) v = true) (hl : 7 < fs.length) (hdg : decode cc pc = .ok (.putfield 31, 3)) (hws : ws.set q0 (a, .inr (5, fs.set 7 v)) = ws2) (q : ∀ (H1 : Heap) (locs1 : List Loc), WD k A H0 ws2 H1 locs1 → W p l e R s m args below meth c H1 locs1 cells slots Q (F0 m (pc + 3) ls rest)) : W p l e R s m args below meth c H locs cells slots Q (F0 m pc ls (v :: .ref a :: rest)) := by
  subst hws
  exact va_put (C := RX4) (T := TX4) (N := 12) (ci := 5) (ty := tyX4 7) E.hx E.hb (Ts := wsX40) (fun w hw => E.w (inX4 w hw) (tbl_laysX4 w hw)) (fun _ h => h) tyX4 tyX4_ok nmX4 E.ho E.hK hW.1 hW.2.1 hW.2.2 q0 he rfl 7 (by decide) (E.w tm_238 rfl) (fun _ h => h) rfl (tyX4_ok 7 (by decide)) hn hfit hl hdg (fun H1 locs1 h1 h2 h3 => q H1 locs1 ⟨h1, h2, h3⟩)
theorem pf_X4_40 {p : Program} {l : Launch} {e : Env} {R : Room} {s : State} {m : MethodId} {args : Array Value} {below : List Frame} {meth : Method} {c : Code} {H : Heap} {locs : List Loc} {cells slots : Nat} {Q : State → Prop} {cc : ByteArray} {pc nL : Nat} {ls : Array Slot} {rest : List Value} {k : KT} {A : Nat → Prop} {ws ws2 : va_W} {H0 : Heap} {a : Nat} (E : E0 p s m c cc nL RX4 k A) (hW : WD k A H0 ws H locs) (q0 : Nat) {fs : List Value} (he : ws[q0]? = some (a, .inr (5, fs))) {v : Value} (hn : narrow (tyX4 8) v = v) (hfit : fits (tyX4 8) v = true) (hl : 8 < fs.length) (hdg : decode cc pc = .ok (.putfield 40, 3)) (hws : ws.set q0 (a, .inr (5, fs.set 8 v)) = ws2) (q : ∀ (H1 : Heap) (locs1 : List Loc), WD k A H0 ws2 H1 locs1 → W p l e R s m args below meth c H1 locs1 cells slots Q (F0 m (pc + 3) ls rest)) : W p l e R s m args below meth c H locs cells slots Q (F0 m pc ls (v :: .ref a :: rest)) := by
  subst hws
  exact va_put (C := RX4) (T := TX4) (N := 12) (ci := 5) (ty := tyX4 8) E.hx E.hb (Ts := wsX40) (fun w hw => E.w (inX4 w hw) (tbl_laysX4 w hw)) (fun _ h => h) tyX4 tyX4_ok nmX4 E.ho E.hK hW.1 hW.2.1 hW.2.2 q0 he rfl 8 (by decide) (E.w tm_239 rfl) (fun _ h => h) rfl (tyX4_ok 8 (by decide)) hn hfit hl hdg (fun H1 locs1 h1 h2 h3 => q H1 locs1 ⟨h1, h2, h3⟩)
theorem pf_X4_18 {p : Program} {l : Launch} {e : Env} {R : Room} {s : State} {m : MethodId} {args : Array Value} {below : List Frame} {meth : Method} {c : Code} {H : Heap} {locs : List Loc} {cells slots : Nat} {Q : State → Prop} {cc : ByteArray} {pc nL : Nat} {ls : Array Slot} {rest : List Value} {k : KT} {A : Nat → Prop} {ws ws2 : va_W} {H0 : Heap} {a : Nat} (E : E0 p s m c cc nL RX4 k A) (hW : WD k A H0 ws H locs) (q0 : Nat) {fs : List Value} (he : ws[q0]? = some (a, .inr (5, fs))) {v : Value} (hn : narrow (tyX4 3) v = v) (hfit : fits (tyX4 3) v = true) (hl : 3 < fs.length) (hdg : decode cc pc = .ok (.putfield 18, 3)) (hws : ws.set q0 (a, .inr (5, fs.set 3 v)) = ws2) (q : ∀ (H1 : Heap) (locs1 : List Loc), WD k A H0 ws2 H1 locs1 → W p l e R s m args below meth c H1 locs1 cells slots Q (F0 m (pc + 3) ls rest)) : W p l e R s m args below meth c H locs cells slots Q (F0 m pc ls (v :: .ref a :: rest)) := by
  subst hws
  exact va_put (C := RX4) (T := TX4) (N := 12) (ci := 5) (ty := tyX4 3) E.hx E.hb (Ts := wsX40) (fun w hw => E.w (inX4 w hw) (tbl_laysX4 w hw)) (fun _ h => h) tyX4 tyX4_ok nmX4 E.ho E.hK hW.1 hW.2.1 hW.2.2 q0 he rfl 3 (by decide) (E.w tm_234 rfl) (fun _ h => h) rfl (tyX4_ok 3 (by decide)) hn hfit hl hdg (fun H1 locs1 h1 h2 h3 => q H1 locs1 ⟨h1, h2, h3⟩)
theorem pf_X4_22 {p : Program} {l : Launch} {e : Env} {R : Room} {s : State} {m : MethodId} {args : Array Value} {below : List Frame} {meth : Method} {c : Code} {H : Heap} {locs : List Loc} {cells slots : Nat} {Q : State → Prop} {cc : ByteArray} {pc nL : Nat} {ls : Array Slot} {rest : List Value} {k : KT} {A : Nat → Prop} {ws ws2 : va_W} {H0 : Heap} {a : Nat} (E : E0 p s m c cc nL RX4 k A) (hW : WD k A H0 ws H locs) (q0 : Nat) {fs : List Value} (he : ws[q0]? = some (a, .inr (5, fs))) {v : Value} (hn : narrow (tyX4 4) v = v) (hfit : fits (tyX4 4) v = true) (hl : 4 < fs.length) (hdg : decode cc pc = .ok (.putfield 22, 3)) (hws : ws.set q0 (a, .inr (5, fs.set 4 v)) = ws2) (q : ∀ (H1 : Heap) (locs1 : List Loc), WD k A H0 ws2 H1 locs1 → W p l e R s m args below meth c H1 locs1 cells slots Q (F0 m (pc + 3) ls rest)) : W p l e R s m args below meth c H locs cells slots Q (F0 m pc ls (v :: .ref a :: rest)) := by
  subst hws
  exact va_put (C := RX4) (T := TX4) (N := 12) (ci := 5) (ty := tyX4 4) E.hx E.hb (Ts := wsX40) (fun w hw => E.w (inX4 w hw) (tbl_laysX4 w hw)) (fun _ h => h) tyX4 tyX4_ok nmX4 E.ho E.hK hW.1 hW.2.1 hW.2.2 q0 he rfl 4 (by decide) (E.w tm_235 rfl) (fun _ h => h) rfl (tyX4_ok 4 (by decide)) hn hfit hl hdg (fun H1 locs1 h1 h2 h3 => q H1 locs1 ⟨h1, h2, h3⟩)
theorem pf_X4_46 {p : Program} {l : Launch} {e : Env} {R : Room} {s : State} {m : MethodId} {args : Array Value} {below : List Frame} {meth : Method} {c : Code} {H : Heap} {locs : List Loc} {cells slots : Nat} {Q : State → Prop} {cc : ByteArray} {pc nL : Nat} {ls : Array Slot} {rest : List Value} {k : KT} {A : Nat → Prop} {ws ws2 : va_W} {H0 : Heap} {a : Nat} (E : E0 p s m c cc nL RX4 k A) (hW : WD k A H0 ws H locs) (q0 : Nat) {fs : List Value} (he : ws[q0]? = some (a, .inr (5, fs))) {v : Value} (hn : narrow (tyX4 10) v = v) (hfit : fits (tyX4 10) v = true) (hl : 10 < fs.length) (hdg : decode cc pc = .ok (.putfield 46, 3)) (hws : ws.set q0 (a, .inr (5, fs.set 10 v)) = ws2) (q : ∀ (H1 : Heap) (locs1 : List Loc), WD k A H0 ws2 H1 locs1 → W p l e R s m args below meth c H1 locs1 cells slots Q (F0 m (pc + 3) ls rest)) : W p l e R s m args below meth c H locs cells slots Q (F0 m pc ls (v :: .ref a :: rest)) := by
  subst hws
  exact va_put (C := RX4) (T := TX4) (N := 12) (ci := 5) (ty := tyX4 10) E.hx E.hb (Ts := wsX40) (fun w hw => E.w (inX4 w hw) (tbl_laysX4 w hw)) (fun _ h => h) tyX4 tyX4_ok nmX4 E.ho E.hK hW.1 hW.2.1 hW.2.2 q0 he rfl 10 (by decide) (E.w tm_241 rfl) (fun _ h => h) rfl (tyX4_ok 10 (by decide)) hn hfit hl hdg (fun H1 locs1 h1 h2 h3 => q H1 locs1 ⟨h1, h2, h3⟩)
theorem gf_X4_40 {p : Program} {l : Launch} {e : Env} {R : Room} {s : State} {m : MethodId} {args : Array Value} {below : List Frame} {meth : Method} {c : Code} {H : Heap} {locs : List Loc} {cells slots : Nat} {Q : State → Prop} {cc : ByteArray} {pc nL : Nat} {ls : Array Slot} {rest : List Value} {k : KT} {A : Nat → Prop} {ws : va_W} {H0 : Heap} {a : Nat} (E : E0 p s m c cc nL RX4 k A) (hW : WD k A H0 ws H locs) (q0 : Nat) {fs : List Value} (he : ws[q0]? = some (a, .inr (5, fs))) {v : Value} (hv : fs[8]? = some v) (hdg : decode cc pc = .ok (.getfield 40, 3)) (q : W p l e R s m args below meth c H locs cells slots Q (F0 m (pc + 3) ls (v :: rest))) : W p l e R s m args below meth c H locs cells slots Q (F0 m pc ls (.ref a :: rest)) := va_get (C := RX4) (T := TX4) (N := 12) (ci := 5) E.hx E.hb (Ts := wsX40) (fun w hw => E.w (inX4 w hw) (tbl_laysX4 w hw)) (fun _ h => h) E.ho E.hK hW.1 q0 he rfl 8 (by decide) (E.w tm_239 rfl) (fun _ h => h) hv hdg q
theorem gf_X4_12 {p : Program} {l : Launch} {e : Env} {R : Room} {s : State} {m : MethodId} {args : Array Value} {below : List Frame} {meth : Method} {c : Code} {H : Heap} {locs : List Loc} {cells slots : Nat} {Q : State → Prop} {cc : ByteArray} {pc nL : Nat} {ls : Array Slot} {rest : List Value} {k : KT} {A : Nat → Prop} {ws : va_W} {H0 : Heap} {a : Nat} (E : E0 p s m c cc nL RX4 k A) (hW : WD k A H0 ws H locs) (q0 : Nat) {fs : List Value} (he : ws[q0]? = some (a, .inr (5, fs))) {v : Value} (hv : fs[2]? = some v) (hdg : decode cc pc = .ok (.getfield 12, 3)) (q : W p l e R s m args below meth c H locs cells slots Q (F0 m (pc + 3) ls (v :: rest))) : W p l e R s m args below meth c H locs cells slots Q (F0 m pc ls (.ref a :: rest)) := va_get (C := RX4) (T := TX4) (N := 12) (ci := 5) E.hx E.hb (Ts := wsX40) (fun w hw => E.w (inX4 w hw) (tbl_laysX4 w hw)) (fun _ h => h) E.ho E.hK hW.1 q0 he rfl 2 (by decide) (E.w tm_232 rfl) (fun _ h => h) hv hdg q
theorem pf_X4_43 {p : Program} {l : Launch} {e : Env} {R : Room} {s : State} {m : MethodId} {args : Array Value} {below : List Frame} {meth : Method} {c : Code} {H : Heap} {locs : List Loc} {cells slots : Nat} {Q : State → Prop} {cc : ByteArray} {pc nL : Nat} {ls : Array Slot} {rest : List Value} {k : KT} {A : Nat → Prop} {ws ws2 : va_W} {H0 : Heap} {a : Nat} (E : E0 p s m c cc nL RX4 k A) (hW : WD k A H0 ws H locs) (q0 : Nat) {fs : List Value} (he : ws[q0]? = some (a, .inr (5, fs))) {v : Value} (hn : narrow (tyX4 9) v = v) (hfit : fits (tyX4 9) v = true) (hl : 9 < fs.length) (hdg : decode cc pc = .ok (.putfield 43, 3)) (hws : ws.set q0 (a, .inr (5, fs.set 9 v)) = ws2) (q : ∀ (H1 : Heap) (locs1 : List Loc), WD k A H0 ws2 H1 locs1 → W p l e R s m args below meth c H1 locs1 cells slots Q (F0 m (pc + 3) ls rest)) : W p l e R s m args below meth c H locs cells slots Q (F0 m pc ls (v :: .ref a :: rest)) := by
  subst hws
  exact va_put (C := RX4) (T := TX4) (N := 12) (ci := 5) (ty := tyX4 9) E.hx E.hb (Ts := wsX40) (fun w hw => E.w (inX4 w hw) (tbl_laysX4 w hw)) (fun _ h => h) tyX4 tyX4_ok nmX4 E.ho E.hK hW.1 hW.2.1 hW.2.2 q0 he rfl 9 (by decide) (E.w tm_240 rfl) (fun _ h => h) rfl (tyX4_ok 9 (by decide)) hn hfit hl hdg (fun H1 locs1 h1 h2 h3 => q H1 locs1 ⟨h1, h2, h3⟩)
theorem gf_X4_43 {p : Program} {l : Launch} {e : Env} {R : Room} {s : State} {m : MethodId} {args : Array Value} {below : List Frame} {meth : Method} {c : Code} {H : Heap} {locs : List Loc} {cells slots : Nat} {Q : State → Prop} {cc : ByteArray} {pc nL : Nat} {ls : Array Slot} {rest : List Value} {k : KT} {A : Nat → Prop} {ws : va_W} {H0 : Heap} {a : Nat} (E : E0 p s m c cc nL RX4 k A) (hW : WD k A H0 ws H locs) (q0 : Nat) {fs : List Value} (he : ws[q0]? = some (a, .inr (5, fs))) {v : Value} (hv : fs[9]? = some v) (hdg : decode cc pc = .ok (.getfield 43, 3)) (q : W p l e R s m args below meth c H locs cells slots Q (F0 m (pc + 3) ls (v :: rest))) : W p l e R s m args below meth c H locs cells slots Q (F0 m pc ls (.ref a :: rest)) := va_get (C := RX4) (T := TX4) (N := 12) (ci := 5) E.hx E.hb (Ts := wsX40) (fun w hw => E.w (inX4 w hw) (tbl_laysX4 w hw)) (fun _ h => h) E.ho E.hK hW.1 q0 he rfl 9 (by decide) (E.w tm_240 rfl) (fun _ h => h) hv hdg q
theorem gf_X4_49 {p : Program} {l : Launch} {e : Env} {R : Room} {s : State} {m : MethodId} {args : Array Value} {below : List Frame} {meth : Method} {c : Code} {H : Heap} {locs : List Loc} {cells slots : Nat} {Q : State → Prop} {cc : ByteArray} {pc nL : Nat} {ls : Array Slot} {rest : List Value} {k : KT} {A : Nat → Prop} {ws : va_W} {H0 : Heap} {a : Nat} (E : E0 p s m c cc nL RX4 k A) (hW : WD k A H0 ws H locs) (q0 : Nat) {fs : List Value} (he : ws[q0]? = some (a, .inr (5, fs))) {v : Value} (hv : fs[11]? = some v) (hdg : decode cc pc = .ok (.getfield 49, 3)) (q : W p l e R s m args below meth c H locs cells slots Q (F0 m (pc + 3) ls (v :: rest))) : W p l e R s m args below meth c H locs cells slots Q (F0 m pc ls (.ref a :: rest)) := va_get (C := RX4) (T := TX4) (N := 12) (ci := 5) E.hx E.hb (Ts := wsX40) (fun w hw => E.w (inX4 w hw) (tbl_laysX4 w hw)) (fun _ h => h) E.ho E.hK hW.1 q0 he rfl 11 (by decide) (E.w tm_242 rfl) (fun _ h => h) hv hdg q
theorem pf_X4_49 {p : Program} {l : Launch} {e : Env} {R : Room} {s : State} {m : MethodId} {args : Array Value} {below : List Frame} {meth : Method} {c : Code} {H : Heap} {locs : List Loc} {cells slots : Nat} {Q : State → Prop} {cc : ByteArray} {pc nL : Nat} {ls : Array Slot} {rest : List Value} {k : KT} {A : Nat → Prop} {ws ws2 : va_W} {H0 : Heap} {a : Nat} (E : E0 p s m c cc nL RX4 k A) (hW : WD k A H0 ws H locs) (q0 : Nat) {fs : List Value} (he : ws[q0]? = some (a, .inr (5, fs))) {v : Value} (hn : narrow (tyX4 11) v = v) (hfit : fits (tyX4 11) v = true) (hl : 11 < fs.length) (hdg : decode cc pc = .ok (.putfield 49, 3)) (hws : ws.set q0 (a, .inr (5, fs.set 11 v)) = ws2) (q : ∀ (H1 : Heap) (locs1 : List Loc), WD k A H0 ws2 H1 locs1 → W p l e R s m args below meth c H1 locs1 cells slots Q (F0 m (pc + 3) ls rest)) : W p l e R s m args below meth c H locs cells slots Q (F0 m pc ls (v :: .ref a :: rest)) := by
  subst hws
  exact va_put (C := RX4) (T := TX4) (N := 12) (ci := 5) (ty := tyX4 11) E.hx E.hb (Ts := wsX40) (fun w hw => E.w (inX4 w hw) (tbl_laysX4 w hw)) (fun _ h => h) tyX4 tyX4_ok nmX4 E.ho E.hK hW.1 hW.2.1 hW.2.2 q0 he rfl 11 (by decide) (E.w tm_242 rfl) (fun _ h => h) rfl (tyX4_ok 11 (by decide)) hn hfit hl hdg (fun H1 locs1 h1 h2 h3 => q H1 locs1 ⟨h1, h2, h3⟩)
theorem gf_X4_46 {p : Program} {l : Launch} {e : Env} {R : Room} {s : State} {m : MethodId} {args : Array Value} {below : List Frame} {meth : Method} {c : Code} {H : Heap} {locs : List Loc} {cells slots : Nat} {Q : State → Prop} {cc : ByteArray} {pc nL : Nat} {ls : Array Slot} {rest : List Value} {k : KT} {A : Nat → Prop} {ws : va_W} {H0 : Heap} {a : Nat} (E : E0 p s m c cc nL RX4 k A) (hW : WD k A H0 ws H locs) (q0 : Nat) {fs : List Value} (he : ws[q0]? = some (a, .inr (5, fs))) {v : Value} (hv : fs[10]? = some v) (hdg : decode cc pc = .ok (.getfield 46, 3)) (q : W p l e R s m args below meth c H locs cells slots Q (F0 m (pc + 3) ls (v :: rest))) : W p l e R s m args below meth c H locs cells slots Q (F0 m pc ls (.ref a :: rest)) := va_get (C := RX4) (T := TX4) (N := 12) (ci := 5) E.hx E.hb (Ts := wsX40) (fun w hw => E.w (inX4 w hw) (tbl_laysX4 w hw)) (fun _ h => h) E.ho E.hK hW.1 q0 he rfl 10 (by decide) (E.w tm_241 rfl) (fun _ h => h) hv hdg q
theorem gf_X4_56 {p : Program} {l : Launch} {e : Env} {R : Room} {s : State} {m : MethodId} {args : Array Value} {below : List Frame} {meth : Method} {c : Code} {H : Heap} {locs : List Loc} {cells slots : Nat} {Q : State → Prop} {cc : ByteArray} {pc nL : Nat} {ls : Array Slot} {rest : List Value} {k : KT} {A : Nat → Prop} {ws : va_W} {H0 : Heap} {a : Nat} (E : E0 p s m c cc nL RX4 k A) (hW : WD k A H0 ws H locs) (q0 : Nat) {fs : List Value} (he : ws[q0]? = some (a, .inr (5, fs))) {v : Value} (hv : fs[1]? = some v) (hdg : decode cc pc = .ok (.getfield 56, 3)) (q : W p l e R s m args below meth c H locs cells slots Q (F0 m (pc + 3) ls (v :: rest))) : W p l e R s m args below meth c H locs cells slots Q (F0 m pc ls (.ref a :: rest)) := va_get (C := RX4) (T := TX4) (N := 12) (ci := 5) E.hx E.hb (Ts := wsX40) (fun w hw => E.w (inX4 w hw) (tbl_laysX4 w hw)) (fun _ h => h) E.ho E.hK hW.1 q0 he rfl 1 (by decide) (E.w tm_231 rfl) (fun _ h => h) hv hdg q
theorem pf_X4_167 {p : Program} {l : Launch} {e : Env} {R : Room} {s : State} {m : MethodId} {args : Array Value} {below : List Frame} {meth : Method} {c : Code} {H : Heap} {locs : List Loc} {cells slots : Nat} {Q : State → Prop} {cc : ByteArray} {pc nL : Nat} {ls : Array Slot} {rest : List Value} {k : KT} {A : Nat → Prop} {ws ws2 : va_W} {H0 : Heap} {a : Nat} (E : E0 p s m c cc nL RX4 k A) (hW : WD k A H0 ws H locs) (q0 : Nat) {fs : List Value} (he : ws[q0]? = some (a, .inr (3, fs))) {v : Value} (hn : narrow (tyX2 1) v = v) (hfit : fits (tyX2 1) v = true) (hl : 1 < fs.length) (hdg : decode cc pc = .ok (.putfield 167, 3)) (hws : ws.set q0 (a, .inr (3, fs.set 1 v)) = ws2) (q : ∀ (H1 : Heap) (locs1 : List Loc), WD k A H0 ws2 H1 locs1 → W p l e R s m args below meth c H1 locs1 cells slots Q (F0 m (pc + 3) ls rest)) : W p l e R s m args below meth c H locs cells slots Q (F0 m pc ls (v :: .ref a :: rest)) := by
  subst hws
  exact va_putN (C := RX2) (T := TX2) (N := 16) (ci := 3) (ty := tyX2 1) E.hx E.hb (Ts := wsX20) (fun w hw => E.w (inX2 w hw) (tbl_laysX2 w hw)) (fun _ h => h) tyX2 tyX2_ok nmX2 E.ho E.hK hW.1 hW.2.1 hW.2.2 q0 he rfl 1 (by decide) (E.w tm_159 rfl) (fun _ h => h) rfl (tyX2_ok 1 (by decide)) hn hfit hl hdg (fun H1 locs1 h1 h2 h3 => q H1 locs1 ⟨h1, h2, h3⟩)
theorem gf_X4_154 {p : Program} {l : Launch} {e : Env} {R : Room} {s : State} {m : MethodId} {args : Array Value} {below : List Frame} {meth : Method} {c : Code} {H : Heap} {locs : List Loc} {cells slots : Nat} {Q : State → Prop} {cc : ByteArray} {pc nL : Nat} {ls : Array Slot} {rest : List Value} {k : KT} {A : Nat → Prop} {ws : va_W} {H0 : Heap} {a : Nat} (E : E0 p s m c cc nL RX4 k A) (hW : WD k A H0 ws H locs) (q0 : Nat) {fs : List Value} (he : ws[q0]? = some (a, .inr (3, fs))) {v : Value} (hv : fs[4]? = some v) (hdg : decode cc pc = .ok (.getfield 154, 3)) (q : W p l e R s m args below meth c H locs cells slots Q (F0 m (pc + 3) ls (v :: rest))) : W p l e R s m args below meth c H locs cells slots Q (F0 m pc ls (.ref a :: rest)) := va_getN (C := RX2) (T := TX2) (N := 16) (ci := 3) E.hx E.hb (Ts := wsX20) (fun w hw => E.w (inX2 w hw) (tbl_laysX2 w hw)) (fun _ h => h) E.ho E.hK hW.1 q0 he rfl 4 (by decide) (E.w tm_167 rfl) (fun _ h => h) hv hdg q
theorem gf_X4_157 {p : Program} {l : Launch} {e : Env} {R : Room} {s : State} {m : MethodId} {args : Array Value} {below : List Frame} {meth : Method} {c : Code} {H : Heap} {locs : List Loc} {cells slots : Nat} {Q : State → Prop} {cc : ByteArray} {pc nL : Nat} {ls : Array Slot} {rest : List Value} {k : KT} {A : Nat → Prop} {ws : va_W} {H0 : Heap} {a : Nat} (E : E0 p s m c cc nL RX4 k A) (hW : WD k A H0 ws H locs) (q0 : Nat) {fs : List Value} (he : ws[q0]? = some (a, .inr (6, fs))) {v : Value} (hv : fs[0]? = some v) (hdg : decode cc pc = .ok (.getfield 157, 3)) (q : W p l e R s m args below meth c H locs cells slots Q (F0 m (pc + 3) ls (v :: rest))) : W p l e R s m args below meth c H locs cells slots Q (F0 m pc ls (.ref a :: rest)) := va_getN (C := RX5) (T := TX5) (N := 8) (ci := 6) E.hx E.hb (Ts := wsX50) (fun w hw => E.w (inX5 w hw) (tbl_laysX5 w hw)) (fun _ h => h) E.ho E.hK hW.1 q0 he rfl 0 (by decide) (E.w tm_111 rfl) (fun _ h => h) hv hdg q
theorem gf_X4_141 {p : Program} {l : Launch} {e : Env} {R : Room} {s : State} {m : MethodId} {args : Array Value} {below : List Frame} {meth : Method} {c : Code} {H : Heap} {locs : List Loc} {cells slots : Nat} {Q : State → Prop} {cc : ByteArray} {pc nL : Nat} {ls : Array Slot} {rest : List Value} {k : KT} {A : Nat → Prop} {ws : va_W} {H0 : Heap} {a : Nat} (E : E0 p s m c cc nL RX4 k A) (hW : WD k A H0 ws H locs) (q0 : Nat) {fs : List Value} (he : ws[q0]? = some (a, .inr (3, fs))) {v : Value} (hv : fs[3]? = some v) (hdg : decode cc pc = .ok (.getfield 141, 3)) (q : W p l e R s m args below meth c H locs cells slots Q (F0 m (pc + 3) ls (v :: rest))) : W p l e R s m args below meth c H locs cells slots Q (F0 m pc ls (.ref a :: rest)) := va_getN (C := RX2) (T := TX2) (N := 16) (ci := 3) E.hx E.hb (Ts := wsX20) (fun w hw => E.w (inX2 w hw) (tbl_laysX2 w hw)) (fun _ h => h) E.ho E.hK hW.1 q0 he rfl 3 (by decide) (E.w tm_164 rfl) (fun _ h => h) hv hdg q
theorem gf_X4_147 {p : Program} {l : Launch} {e : Env} {R : Room} {s : State} {m : MethodId} {args : Array Value} {below : List Frame} {meth : Method} {c : Code} {H : Heap} {locs : List Loc} {cells slots : Nat} {Q : State → Prop} {cc : ByteArray} {pc nL : Nat} {ls : Array Slot} {rest : List Value} {k : KT} {A : Nat → Prop} {ws : va_W} {H0 : Heap} {a : Nat} (E : E0 p s m c cc nL RX4 k A) (hW : WD k A H0 ws H locs) (q0 : Nat) {fs : List Value} (he : ws[q0]? = some (a, .inr (3, fs))) {v : Value} (hv : fs[2]? = some v) (hdg : decode cc pc = .ok (.getfield 147, 3)) (q : W p l e R s m args below meth c H locs cells slots Q (F0 m (pc + 3) ls (v :: rest))) : W p l e R s m args below meth c H locs cells slots Q (F0 m pc ls (.ref a :: rest)) := va_getN (C := RX2) (T := TX2) (N := 16) (ci := 3) E.hx E.hb (Ts := wsX20) (fun w hw => E.w (inX2 w hw) (tbl_laysX2 w hw)) (fun _ h => h) E.ho E.hK hW.1 q0 he rfl 2 (by decide) (E.w tm_161 rfl) (fun _ h => h) hv hdg q
theorem gf_X4_127 {p : Program} {l : Launch} {e : Env} {R : Room} {s : State} {m : MethodId} {args : Array Value} {below : List Frame} {meth : Method} {c : Code} {H : Heap} {locs : List Loc} {cells slots : Nat} {Q : State → Prop} {cc : ByteArray} {pc nL : Nat} {ls : Array Slot} {rest : List Value} {k : KT} {A : Nat → Prop} {ws : va_W} {H0 : Heap} {a : Nat} (E : E0 p s m c cc nL RX4 k A) (hW : WD k A H0 ws H locs) (q0 : Nat) {fs : List Value} (he : ws[q0]? = some (a, .inr (6, fs))) {v : Value} (hv : fs[1]? = some v) (hdg : decode cc pc = .ok (.getfield 127, 3)) (q : W p l e R s m args below meth c H locs cells slots Q (F0 m (pc + 3) ls (v :: rest))) : W p l e R s m args below meth c H locs cells slots Q (F0 m pc ls (.ref a :: rest)) := va_getN (C := RX5) (T := TX5) (N := 8) (ci := 6) E.hx E.hb (Ts := wsX50) (fun w hw => E.w (inX5 w hw) (tbl_laysX5 w hw)) (fun _ h => h) E.ho E.hK hW.1 q0 he rfl 1 (by decide) (E.w tm_115 rfl) (fun _ h => h) hv hdg q
theorem gf_X8_43 {p : Program} {l : Launch} {e : Env} {R : Room} {s : State} {m : MethodId} {args : Array Value} {below : List Frame} {meth : Method} {c : Code} {H : Heap} {locs : List Loc} {cells slots : Nat} {Q : State → Prop} {cc : ByteArray} {pc nL : Nat} {ls : Array Slot} {rest : List Value} {k : KT} {A : Nat → Prop} {ws : va_W} {H0 : Heap} {a : Nat} (E : E0 p s m c cc nL RX8 k A) (hW : WD k A H0 ws H locs) (q0 : Nat) {fs : List Value} (he : ws[q0]? = some (a, .inr (8, fs))) {v : Value} (hv : fs[5]? = some v) (hdg : decode cc pc = .ok (.getfield 43, 3)) (q : W p l e R s m args below meth c H locs cells slots Q (F0 m (pc + 3) ls (v :: rest))) : W p l e R s m args below meth c H locs cells slots Q (F0 m pc ls (.ref a :: rest)) := va_get (C := RX8) (T := TX8) (N := 9) (ci := 8) E.hx E.hb (Ts := wsX80) (fun w hw => E.w (inX8 w hw) (tbl_laysX8 w hw)) (fun _ h => h) E.ho E.hK hW.1 q0 he rfl 5 (by decide) (E.w tm_322 rfl) (fun _ h => h) hv hdg q
theorem gf_X8_85 {p : Program} {l : Launch} {e : Env} {R : Room} {s : State} {m : MethodId} {args : Array Value} {below : List Frame} {meth : Method} {c : Code} {H : Heap} {locs : List Loc} {cells slots : Nat} {Q : State → Prop} {cc : ByteArray} {pc nL : Nat} {ls : Array Slot} {rest : List Value} {k : KT} {A : Nat → Prop} {ws : va_W} {H0 : Heap} {a : Nat} (E : E0 p s m c cc nL RX8 k A) (hW : WD k A H0 ws H locs) (q0 : Nat) {fs : List Value} (he : ws[q0]? = some (a, .inr (5, fs))) {v : Value} (hv : fs[2]? = some v) (hdg : decode cc pc = .ok (.getfield 85, 3)) (q : W p l e R s m args below meth c H locs cells slots Q (F0 m (pc + 3) ls (v :: rest))) : W p l e R s m args below meth c H locs cells slots Q (F0 m pc ls (.ref a :: rest)) := va_getN (C := RX4) (T := TX4) (N := 12) (ci := 5) E.hx E.hb (Ts := wsX40) (fun w hw => E.w (inX4 w hw) (tbl_laysX4 w hw)) (fun _ h => h) E.ho E.hK hW.1 q0 he rfl 2 (by decide) (E.w tm_233 rfl) (fun _ h => h) hv hdg q
theorem pf_X8_57 {p : Program} {l : Launch} {e : Env} {R : Room} {s : State} {m : MethodId} {args : Array Value} {below : List Frame} {meth : Method} {c : Code} {H : Heap} {locs : List Loc} {cells slots : Nat} {Q : State → Prop} {cc : ByteArray} {pc nL : Nat} {ls : Array Slot} {rest : List Value} {k : KT} {A : Nat → Prop} {ws ws2 : va_W} {H0 : Heap} {a : Nat} (E : E0 p s m c cc nL RX8 k A) (hW : WD k A H0 ws H locs) (q0 : Nat) {fs : List Value} (he : ws[q0]? = some (a, .inr (8, fs))) {v : Value} (hn : narrow (tyX8 8) v = v) (hfit : fits (tyX8 8) v = true) (hl : 8 < fs.length) (hdg : decode cc pc = .ok (.putfield 57, 3)) (hws : ws.set q0 (a, .inr (8, fs.set 8 v)) = ws2) (q : ∀ (H1 : Heap) (locs1 : List Loc), WD k A H0 ws2 H1 locs1 → W p l e R s m args below meth c H1 locs1 cells slots Q (F0 m (pc + 3) ls rest)) : W p l e R s m args below meth c H locs cells slots Q (F0 m pc ls (v :: .ref a :: rest)) := by
  subst hws
  exact va_put (C := RX8) (T := TX8) (N := 9) (ci := 8) (ty := tyX8 8) E.hx E.hb (Ts := wsX80) (fun w hw => E.w (inX8 w hw) (tbl_laysX8 w hw)) (fun _ h => h) tyX8 tyX8_ok nmX8 E.ho E.hK hW.1 hW.2.1 hW.2.2 q0 he rfl 8 (by decide) (E.w tm_325 rfl) (fun _ h => h) rfl (tyX8_ok 8 (by decide)) hn hfit hl hdg (fun H1 locs1 h1 h2 h3 => q H1 locs1 ⟨h1, h2, h3⟩)
theorem ul_X5_73 : UL RX5 73 := by unfold UL; decide +kernel
theorem vl_X7_87 : VL RX7 87 RJ0 yJ0_length_8abf5 cJ0_length_8abf5 1 (some .int) 0 := ⟨⟨tm_783, tm_695, tm_696, tm_46, tm_697⟩, by decide +kernel⟩
theorem vl_X7_93 : VL RX7 93 RJ0 yJ0_charAt_5068e cJ0_charAt_5068e 2 (some .char) 1 := ⟨⟨tm_784, tm_705, tm_706, tm_46, tm_707⟩, by decide +kernel⟩
theorem vl_X7_97 : VL RX7 97 RX1 yX1_at cX1_at 2 (some .int) 1 := ⟨⟨tm_785, tm_775, tm_776, tm_34, tm_777⟩, by decide +kernel⟩
theorem vl_X4_177 : VL RX4 177 RX1 yX1_at cX1_at 2 (some .int) 1 := ⟨⟨tm_774, tm_775, tm_776, tm_34, tm_777⟩, by decide +kernel⟩
theorem vl_X4_181 : VL RX4 181 RX4 yX4_kindAt cX4_kindAt 3 (some .int) 1 := ⟨⟨tm_770, tm_772, tms_17, tm_39, tm_773⟩, by decide +kernel⟩
theorem sl_X4_184 : SL RX4 184 yX7_standing cX7_standing 10 (some (.object "MemoryCourt$Word")) 3 := ⟨⟨tm_778, tm_779, tm_41, tm_780⟩, by decide +kernel⟩
theorem vl_X4_60 : VL RX4 60 RX4 yX4_advance cX4_advance 2 none 0 := ⟨⟨tm_766, tm_768, tms_16, tm_39, tm_769⟩, by decide +kernel⟩
theorem vl_X4_81 : VL RX4 81 RX4 yX4_fail cX4_fail 2 (some .boolean) 1 := ⟨⟨tm_792, tm_794, tms_19, tm_39, tm_795⟩, by decide +kernel⟩
theorem vl_X4_130 : VL RX4 130 RX4 yX4_isName cX4_isName 1 (some .boolean) 0 := ⟨⟨tm_822, tm_824, tms_24, tm_39, tm_825⟩, by decide +kernel⟩
theorem vl_X4_133 : VL RX4 133 RX5 yX5_processNamed cX5_processNamed 5 (some .int) 3 := ⟨⟨tm_826, tm_827, tm_828, tm_36, tm_829⟩, by decide +kernel⟩
theorem vl_X4_164 : VL RX4 164 RX4 yX4_isFirstOfItsKind cX4_isFirstOfItsKind 2 (some .boolean) 0 := ⟨⟨tm_862, tm_864, tms_30, tm_39, tm_865⟩, by decide +kernel⟩
theorem vl_X4_91 : VL RX4 91 RX4 yX4_readNumber cX4_readNumber 5 (some .boolean) 2 := ⟨⟨tm_796, tm_798, tms_20, tm_39, tm_799⟩, by decide +kernel⟩
theorem vl_X4_170 : VL RX4 170 RX5 yX5_set cX5_set 3 none 2 := ⟨⟨tm_870, tm_871, tm_872, tm_36, tm_873⟩, by decide +kernel⟩
theorem ul_X4_108 : UL RX4 108 := by unfold UL; decide +kernel
theorem vl_X4_144 : VL RX4 144 RX4 yX4_readProcess cX4_readProcess 1 (some .boolean) 0 := ⟨⟨tm_845, tm_847, tms_27, tm_39, tm_848⟩, by decide +kernel⟩
theorem vl_X4_160 : VL RX4 160 RX2 yX2_addClaim cX2_addClaim 5 (some .int) 3 := ⟨⟨tm_854, tm_855, tm_856, tm_38, tm_857⟩, by decide +kernel⟩
theorem vl_X4_150 : VL RX4 150 RX2 yX2_lend cX2_lend 8 (some .int) 4 := ⟨⟨tm_849, tm_622, tm_623, tm_38, tm_624⟩, by decide +kernel⟩
theorem vl_X4_137 : VL RX4 137 RX5 yX5_addProcess cX5_addProcess 5 none 3 := ⟨⟨tm_836, tm_837, tm_838, tm_36, tm_839⟩, by decide +kernel⟩
theorem vl_X4_124 : VL RX4 124 RX4 yX4_readSetting cX4_readSetting 2 (some .boolean) 0 := ⟨⟨tm_866, tm_868, tms_31, tm_39, tm_869⟩, by decide +kernel⟩
theorem vl_X4_112 : VL RX4 112 RX4 yX4_readNewProcess cX4_readNewProcess 1 (some .boolean) 0 := ⟨⟨tm_818, tm_820, tms_23, tm_39, tm_821⟩, by decide +kernel⟩
theorem vl_X4_115 : VL RX4 115 RX4 yX4_readLoan cX4_readLoan 2 (some .boolean) 0 := ⟨⟨tm_841, tm_843, tms_26, tm_39, tm_844⟩, by decide +kernel⟩
theorem vl_X4_118 : VL RX4 118 RX4 yX4_readClaim cX4_readClaim 2 (some .boolean) 0 := ⟨⟨tm_850, tm_852, tms_28, tm_39, tm_853⟩, by decide +kernel⟩
theorem vl_X4_121 : VL RX4 121 RX4 yX4_readOrder cX4_readOrder 1 (some .boolean) 0 := ⟨⟨tm_858, tm_860, tms_29, tm_39, tm_861⟩, by decide +kernel⟩
theorem vl_X4_95 : VL RX4 95 RX5 yX5_begin cX5_begin 2 none 1 := ⟨⟨tm_800, tm_290, tm_291, tm_36, tm_292⟩, by decide +kernel⟩
theorem vl_X4_99 : VL RX4 99 RX2 yX2_begin cX2_begin 3 none 1 := ⟨⟨tm_801, tm_304, tm_305, tm_38, tm_306⟩, by decide +kernel⟩
theorem vl_X4_75 : VL RX4 75 RX4 yX4_readSemicolon cX4_readSemicolon 1 (some .boolean) 0 := ⟨⟨tm_802, tm_804, tms_21, tm_39, tm_805⟩, by decide +kernel⟩
theorem vl_X4_63 : VL RX4 63 RX4 yX4_readPages cX4_readPages 1 (some .boolean) 0 := ⟨⟨tm_787, tm_789, tms_18, tm_39, tm_790⟩, by decide +kernel⟩
theorem vl_X4_72 : VL RX4 72 RX4 yX4_readStatement cX4_readStatement 1 (some .boolean) 0 := ⟨⟨tm_806, tm_808, tms_22, tm_39, tm_809⟩, by decide +kernel⟩
theorem vl_X8_81 : VL RX8 81 RX4 yX4_readText cX4_readText 2 (some .boolean) 0 := ⟨⟨tm_762, tm_763, tm_764, tm_39, tm_765⟩, by decide +kernel⟩
theorem vl_X8_86 : VL RX8 86 RX5 yX5_copyFrom cX5_copyFrom 2 none 1 := ⟨⟨tm_876, tm_877, tm_878, tm_36, tm_879⟩, by decide +kernel⟩
theorem vl_X8_93 : VL RX8 93 RX3 yX3_forget cX3_forget 1 none 0 := ⟨⟨tm_676, tm_677, tm_678, tm_42, tm_679⟩, by decide +kernel⟩
theorem dX5_begin_0 : decode cX5_begin 0 = .ok (.aload_n 0, 1) := by decide +kernel
theorem dX5_begin_1 : decode cX5_begin 1 = .ok (.iload_n 1, 1) := by decide +kernel
theorem dX5_begin_2 : decode cX5_begin 2 = .ok (.putfield 9, 3) := by decide +kernel
theorem dX5_begin_5 : decode cX5_begin 5 = .ok (.aload_n 0, 1) := by decide +kernel
theorem dX5_begin_6 : decode cX5_begin 6 = .ok (.iconst 0, 1) := by decide +kernel
theorem dX5_begin_7 : decode cX5_begin 7 = .ok (.putfield 15, 3) := by decide +kernel
theorem dX5_begin_10 : decode cX5_begin 10 = .ok (.aload_n 0, 1) := by decide +kernel
theorem dX5_begin_11 : decode cX5_begin 11 = .ok (.getstatic 42, 3) := by decide +kernel
theorem dX5_begin_14 : decode cX5_begin 14 = .ok (.getfield 48, 3) := by decide +kernel
theorem dX5_begin_17 : decode cX5_begin 17 = .ok (.putfield 18, 3) := by decide +kernel
theorem dX5_begin_20 : decode cX5_begin 20 = .ok (.aload_n 0, 1) := by decide +kernel
theorem dX5_begin_21 : decode cX5_begin 21 = .ok (.getstatic 51, 3) := by decide +kernel
theorem dX5_begin_24 : decode cX5_begin 24 = .ok (.getfield 48, 3) := by decide +kernel
theorem dX5_begin_27 : decode cX5_begin 27 = .ok (.putfield 21, 3) := by decide +kernel
theorem dX5_begin_30 : decode cX5_begin 30 = .ok (.aload_n 0, 1) := by decide +kernel
theorem dX5_begin_31 : decode cX5_begin 31 = .ok (.getstatic 54, 3) := by decide +kernel
theorem dX5_begin_34 : decode cX5_begin 34 = .ok (.getfield 48, 3) := by decide +kernel
theorem dX5_begin_37 : decode cX5_begin 37 = .ok (.putfield 24, 3) := by decide +kernel
theorem dX5_begin_40 : decode cX5_begin 40 = .ok (.aload_n 0, 1) := by decide +kernel
theorem dX5_begin_41 : decode cX5_begin 41 = .ok (.getstatic 57, 3) := by decide +kernel
theorem dX5_begin_44 : decode cX5_begin 44 = .ok (.getfield 48, 3) := by decide +kernel
theorem dX5_begin_47 : decode cX5_begin 47 = .ok (.putfield 27, 3) := by decide +kernel
theorem dX5_begin_50 : decode cX5_begin 50 = .ok (.aload_n 0, 1) := by decide +kernel
theorem dX5_begin_51 : decode cX5_begin 51 = .ok (.getstatic 60, 3) := by decide +kernel
theorem dX5_begin_54 : decode cX5_begin 54 = .ok (.getfield 48, 3) := by decide +kernel
theorem dX5_begin_57 : decode cX5_begin 57 = .ok (.putfield 30, 3) := by decide +kernel
theorem dX5_begin_60 : decode cX5_begin 60 = .ok (.return_, 1) := by decide +kernel
theorem dX5_set_0 : decode cX5_set 0 = .ok (.getstatic 67, 3) := by decide +kernel
theorem dX5_set_3 : decode cX5_set 3 = .ok (.aload_n 1, 1) := by decide +kernel
theorem dX5_set_4 : decode cX5_set 4 = .ok (.invokevirtual 73, 3) := by decide +kernel
theorem dX5_set_7 : decode cX5_set 7 = .ok (.iaload, 1) := by decide +kernel
theorem dX5_set_8 : decode cX5_set 8 = .ok (.tableswitch 76 1 5 #[36, 44, 52, 60, 68], 36) := by decide +kernel
theorem dX5_set_44 : decode cX5_set 44 = .ok (.aload_n 0, 1) := by decide +kernel
theorem dX5_set_45 : decode cX5_set 45 = .ok (.iload_n 2, 1) := by decide +kernel
theorem dX5_set_46 : decode cX5_set 46 = .ok (.putfield 18, 3) := by decide +kernel
theorem dX5_set_49 : decode cX5_set 49 = .ok (.goto 35, 3) := by decide +kernel
theorem dX5_set_52 : decode cX5_set 52 = .ok (.aload_n 0, 1) := by decide +kernel
theorem dX5_set_53 : decode cX5_set 53 = .ok (.iload_n 2, 1) := by decide +kernel
theorem dX5_set_54 : decode cX5_set 54 = .ok (.putfield 21, 3) := by decide +kernel
theorem dX5_set_57 : decode cX5_set 57 = .ok (.goto 27, 3) := by decide +kernel
theorem dX5_set_60 : decode cX5_set 60 = .ok (.aload_n 0, 1) := by decide +kernel
theorem dX5_set_61 : decode cX5_set 61 = .ok (.iload_n 2, 1) := by decide +kernel
theorem dX5_set_62 : decode cX5_set 62 = .ok (.putfield 24, 3) := by decide +kernel
theorem dX5_set_65 : decode cX5_set 65 = .ok (.goto 19, 3) := by decide +kernel
theorem dX5_set_68 : decode cX5_set 68 = .ok (.aload_n 0, 1) := by decide +kernel
theorem dX5_set_69 : decode cX5_set 69 = .ok (.iload_n 2, 1) := by decide +kernel
theorem dX5_set_70 : decode cX5_set 70 = .ok (.putfield 27, 3) := by decide +kernel
theorem dX5_set_73 : decode cX5_set 73 = .ok (.goto 11, 3) := by decide +kernel
theorem dX5_set_76 : decode cX5_set 76 = .ok (.aload_n 0, 1) := by decide +kernel
theorem dX5_set_77 : decode cX5_set 77 = .ok (.iload_n 2, 1) := by decide +kernel
theorem dX5_set_78 : decode cX5_set 78 = .ok (.putfield 30, 3) := by decide +kernel
theorem dX5_set_81 : decode cX5_set 81 = .ok (.goto 3, 3) := by decide +kernel
theorem dX5_set_84 : decode cX5_set 84 = .ok (.return_, 1) := by decide +kernel
theorem dX7_standing_0 : decode cX7_standing 0 = .ok (.getstatic 84, 3) := by decide +kernel
theorem dX7_standing_3 : decode cX7_standing 3 = .ok (.astore_n 3, 1) := by decide +kernel
theorem dX7_standing_4 : decode cX7_standing 4 = .ok (.aload_n 3, 1) := by decide +kernel
theorem dX7_standing_5 : decode cX7_standing 5 = .ok (.arraylength, 1) := by decide +kernel
theorem dX7_standing_6 : decode cX7_standing 6 = .ok (.istore 4, 2) := by decide +kernel
theorem dX7_standing_8 : decode cX7_standing 8 = .ok (.iconst 0, 1) := by decide +kernel
theorem dX7_standing_9 : decode cX7_standing 9 = .ok (.istore 5, 2) := by decide +kernel
theorem dX7_standing_11 : decode cX7_standing 11 = .ok (.iload 5, 2) := by decide +kernel
theorem dX7_standing_13 : decode cX7_standing 13 = .ok (.iload 4, 2) := by decide +kernel
theorem dX7_standing_15 : decode cX7_standing 15 = .ok (.if_icmp .ge 97, 3) := by decide +kernel
theorem dX7_standing_18 : decode cX7_standing 18 = .ok (.aload_n 3, 1) := by decide +kernel
theorem dX7_standing_19 : decode cX7_standing 19 = .ok (.iload 5, 2) := by decide +kernel
theorem dX7_standing_21 : decode cX7_standing 21 = .ok (.aaload, 1) := by decide +kernel
theorem dX7_standing_22 : decode cX7_standing 22 = .ok (.astore 6, 2) := by decide +kernel
theorem dX7_standing_24 : decode cX7_standing 24 = .ok (.aload 6, 2) := by decide +kernel
theorem dX7_standing_26 : decode cX7_standing 26 = .ok (.getfield 67, 3) := by decide +kernel
theorem dX7_standing_29 : decode cX7_standing 29 = .ok (.invokevirtual 87, 3) := by decide +kernel
theorem dX7_standing_32 : decode cX7_standing 32 = .ok (.istore 7, 2) := by decide +kernel
theorem dX7_standing_34 : decode cX7_standing 34 = .ok (.iload 7, 2) := by decide +kernel
theorem dX7_standing_36 : decode cX7_standing 36 = .ok (.iload_n 2, 1) := by decide +kernel
theorem dX7_standing_37 : decode cX7_standing 37 = .ok (.iload_n 1, 1) := by decide +kernel
theorem dX7_standing_38 : decode cX7_standing 38 = .ok (.isub, 1) := by decide +kernel
theorem dX7_standing_39 : decode cX7_standing 39 = .ok (.if_icmp .ne 7, 3) := by decide +kernel
theorem dX7_standing_42 : decode cX7_standing 42 = .ok (.iconst 1, 1) := by decide +kernel
theorem dX7_standing_43 : decode cX7_standing 43 = .ok (.goto 4, 3) := by decide +kernel
theorem dX7_standing_46 : decode cX7_standing 46 = .ok (.iconst 0, 1) := by decide +kernel
theorem dX7_standing_47 : decode cX7_standing 47 = .ok (.istore 8, 2) := by decide +kernel
theorem dX7_standing_49 : decode cX7_standing 49 = .ok (.iconst 0, 1) := by decide +kernel
theorem dX7_standing_50 : decode cX7_standing 50 = .ok (.istore 9, 2) := by decide +kernel
theorem dX7_standing_52 : decode cX7_standing 52 = .ok (.iload 9, 2) := by decide +kernel
theorem dX7_standing_54 : decode cX7_standing 54 = .ok (.iload 7, 2) := by decide +kernel
theorem dX7_standing_56 : decode cX7_standing 56 = .ok (.if_icmp .ge 42, 3) := by decide +kernel
theorem dX7_standing_59 : decode cX7_standing 59 = .ok (.iload 8, 2) := by decide +kernel
theorem dX7_standing_61 : decode cX7_standing 61 = .ok (.ifCond .eq 37, 3) := by decide +kernel
theorem dX7_standing_64 : decode cX7_standing 64 = .ok (.aload 6, 2) := by decide +kernel
theorem dX7_standing_66 : decode cX7_standing 66 = .ok (.getfield 67, 3) := by decide +kernel
theorem dX7_standing_69 : decode cX7_standing 69 = .ok (.iload 9, 2) := by decide +kernel
theorem dX7_standing_71 : decode cX7_standing 71 = .ok (.invokevirtual 93, 3) := by decide +kernel
theorem dX7_standing_74 : decode cX7_standing 74 = .ok (.aload_n 0, 1) := by decide +kernel
theorem dX7_standing_75 : decode cX7_standing 75 = .ok (.iload_n 1, 1) := by decide +kernel
theorem dX7_standing_76 : decode cX7_standing 76 = .ok (.iload 9, 2) := by decide +kernel
theorem dX7_standing_78 : decode cX7_standing 78 = .ok (.iadd, 1) := by decide +kernel
theorem dX7_standing_79 : decode cX7_standing 79 = .ok (.invokevirtual 97, 3) := by decide +kernel
theorem dX7_standing_82 : decode cX7_standing 82 = .ok (.if_icmp .ne 7, 3) := by decide +kernel
theorem dX7_standing_85 : decode cX7_standing 85 = .ok (.iconst 1, 1) := by decide +kernel
theorem dX7_standing_86 : decode cX7_standing 86 = .ok (.goto 4, 3) := by decide +kernel
theorem dX7_standing_89 : decode cX7_standing 89 = .ok (.iconst 0, 1) := by decide +kernel
theorem dX7_standing_90 : decode cX7_standing 90 = .ok (.istore 8, 2) := by decide +kernel
theorem dX7_standing_92 : decode cX7_standing 92 = .ok (.iinc 9 1, 3) := by decide +kernel
theorem dX7_standing_95 : decode cX7_standing 95 = .ok (.goto (-43), 3) := by decide +kernel
theorem dX7_standing_98 : decode cX7_standing 98 = .ok (.iload 8, 2) := by decide +kernel
theorem dX7_standing_100 : decode cX7_standing 100 = .ok (.ifCond .eq 6, 3) := by decide +kernel
theorem dX7_standing_103 : decode cX7_standing 103 = .ok (.aload 6, 2) := by decide +kernel
theorem dX7_standing_105 : decode cX7_standing 105 = .ok (.areturn, 1) := by decide +kernel
theorem dX7_standing_106 : decode cX7_standing 106 = .ok (.iinc 5 1, 3) := by decide +kernel
theorem dX7_standing_109 : decode cX7_standing 109 = .ok (.goto (-98), 3) := by decide +kernel
theorem dX7_standing_112 : decode cX7_standing 112 = .ok (.getstatic 5, 3) := by decide +kernel
theorem dX7_standing_115 : decode cX7_standing 115 = .ok (.areturn, 1) := by decide +kernel
theorem dX4_kindAt_0 : decode cX4_kindAt 0 = .ok (.aload_n 0, 1) := by decide +kernel
theorem dX4_kindAt_1 : decode cX4_kindAt 1 = .ok (.getfield 52, 3) := by decide +kernel
theorem dX4_kindAt_4 : decode cX4_kindAt 4 = .ok (.iload_n 1, 1) := by decide +kernel
theorem dX4_kindAt_5 : decode cX4_kindAt 5 = .ok (.invokevirtual 177, 3) := by decide +kernel
theorem dX4_kindAt_8 : decode cX4_kindAt 8 = .ok (.istore_n 2, 1) := by decide +kernel
theorem dX4_kindAt_9 : decode cX4_kindAt 9 = .ok (.iload_n 2, 1) := by decide +kernel
theorem dX4_kindAt_10 : decode cX4_kindAt 10 = .ok (.iconst (-1), 1) := by decide +kernel
theorem dX4_kindAt_11 : decode cX4_kindAt 11 = .ok (.if_icmp .ne 5, 3) := by decide +kernel
theorem dX4_kindAt_14 : decode cX4_kindAt 14 = .ok (.iconst 0, 1) := by decide +kernel
theorem dX4_kindAt_15 : decode cX4_kindAt 15 = .ok (.ireturn, 1) := by decide +kernel
theorem dX4_kindAt_16 : decode cX4_kindAt 16 = .ok (.iload_n 2, 1) := by decide +kernel
theorem dX4_kindAt_17 : decode cX4_kindAt 17 = .ok (.bipush 32, 2) := by decide +kernel
theorem dX4_kindAt_19 : decode cX4_kindAt 19 = .ok (.if_icmp .eq 9, 3) := by decide +kernel
theorem dX4_kindAt_22 : decode cX4_kindAt 22 = .ok (.iload_n 2, 1) := by decide +kernel
theorem dX4_kindAt_23 : decode cX4_kindAt 23 = .ok (.bipush 10, 2) := by decide +kernel
theorem dX4_kindAt_25 : decode cX4_kindAt 25 = .ok (.if_icmp .ne 5, 3) := by decide +kernel
theorem dX4_kindAt_28 : decode cX4_kindAt 28 = .ok (.iconst 1, 1) := by decide +kernel
theorem dX4_kindAt_29 : decode cX4_kindAt 29 = .ok (.ireturn, 1) := by decide +kernel
theorem dX4_kindAt_30 : decode cX4_kindAt 30 = .ok (.iload_n 2, 1) := by decide +kernel
theorem dX4_kindAt_31 : decode cX4_kindAt 31 = .ok (.bipush 59, 2) := by decide +kernel
theorem dX4_kindAt_33 : decode cX4_kindAt 33 = .ok (.if_icmp .ne 5, 3) := by decide +kernel
theorem dX4_kindAt_36 : decode cX4_kindAt 36 = .ok (.iconst 3, 1) := by decide +kernel
theorem dX4_kindAt_37 : decode cX4_kindAt 37 = .ok (.ireturn, 1) := by decide +kernel
theorem dX4_kindAt_38 : decode cX4_kindAt 38 = .ok (.iload_n 2, 1) := by decide +kernel
theorem dX4_kindAt_39 : decode cX4_kindAt 39 = .ok (.bipush 97, 2) := by decide +kernel
theorem dX4_kindAt_41 : decode cX4_kindAt 41 = .ok (.if_icmp .lt 11, 3) := by decide +kernel
theorem dX4_kindAt_44 : decode cX4_kindAt 44 = .ok (.iload_n 2, 1) := by decide +kernel
theorem dX4_kindAt_45 : decode cX4_kindAt 45 = .ok (.bipush 122, 2) := by decide +kernel
theorem dX4_kindAt_47 : decode cX4_kindAt 47 = .ok (.if_icmp .gt 5, 3) := by decide +kernel
theorem dX4_kindAt_50 : decode cX4_kindAt 50 = .ok (.iconst 4, 1) := by decide +kernel
theorem dX4_kindAt_51 : decode cX4_kindAt 51 = .ok (.ireturn, 1) := by decide +kernel
theorem dX4_kindAt_52 : decode cX4_kindAt 52 = .ok (.iload_n 2, 1) := by decide +kernel
theorem dX4_kindAt_53 : decode cX4_kindAt 53 = .ok (.bipush 48, 2) := by decide +kernel
theorem dX4_kindAt_55 : decode cX4_kindAt 55 = .ok (.if_icmp .lt 13, 3) := by decide +kernel
theorem dX4_kindAt_58 : decode cX4_kindAt 58 = .ok (.iload_n 2, 1) := by decide +kernel
theorem dX4_kindAt_59 : decode cX4_kindAt 59 = .ok (.bipush 57, 2) := by decide +kernel
theorem dX4_kindAt_61 : decode cX4_kindAt 61 = .ok (.if_icmp .gt 7, 3) := by decide +kernel
theorem dX4_kindAt_64 : decode cX4_kindAt 64 = .ok (.iconst 5, 1) := by decide +kernel
theorem dX4_kindAt_65 : decode cX4_kindAt 65 = .ok (.goto 4, 3) := by decide +kernel
theorem dX4_kindAt_68 : decode cX4_kindAt 68 = .ok (.iconst 2, 1) := by decide +kernel
theorem dX4_kindAt_69 : decode cX4_kindAt 69 = .ok (.ireturn, 1) := by decide +kernel
theorem dX4_advance_0 : decode cX4_advance 0 = .ok (.aload_n 0, 1) := by decide +kernel
theorem dX4_advance_1 : decode cX4_advance 1 = .ok (.aload_n 0, 1) := by decide +kernel
theorem dX4_advance_2 : decode cX4_advance 2 = .ok (.getfield 31, 3) := by decide +kernel
theorem dX4_advance_5 : decode cX4_advance 5 = .ok (.putfield 28, 3) := by decide +kernel
theorem dX4_advance_8 : decode cX4_advance 8 = .ok (.aload_n 0, 1) := by decide +kernel
theorem dX4_advance_9 : decode cX4_advance 9 = .ok (.getfield 31, 3) := by decide +kernel
theorem dX4_advance_12 : decode cX4_advance 12 = .ok (.istore_n 1, 1) := by decide +kernel
theorem dX4_advance_13 : decode cX4_advance 13 = .ok (.iload_n 1, 1) := by decide +kernel
theorem dX4_advance_14 : decode cX4_advance 14 = .ok (.aload_n 0, 1) := by decide +kernel
theorem dX4_advance_15 : decode cX4_advance 15 = .ok (.getfield 52, 3) := by decide +kernel
theorem dX4_advance_18 : decode cX4_advance 18 = .ok (.getfield 67, 3) := by decide +kernel
theorem dX4_advance_21 : decode cX4_advance 21 = .ok (.if_icmp .ge 25, 3) := by decide +kernel
theorem dX4_advance_24 : decode cX4_advance 24 = .ok (.aload_n 0, 1) := by decide +kernel
theorem dX4_advance_25 : decode cX4_advance 25 = .ok (.iload_n 1, 1) := by decide +kernel
theorem dX4_advance_26 : decode cX4_advance 26 = .ok (.invokevirtual 181, 3) := by decide +kernel
theorem dX4_advance_29 : decode cX4_advance 29 = .ok (.iconst 1, 1) := by decide +kernel
theorem dX4_advance_30 : decode cX4_advance 30 = .ok (.if_icmp .ne 16, 3) := by decide +kernel
theorem dX4_advance_33 : decode cX4_advance 33 = .ok (.aload_n 0, 1) := by decide +kernel
theorem dX4_advance_34 : decode cX4_advance 34 = .ok (.iload_n 1, 1) := by decide +kernel
theorem dX4_advance_35 : decode cX4_advance 35 = .ok (.iconst 1, 1) := by decide +kernel
theorem dX4_advance_36 : decode cX4_advance 36 = .ok (.iadd, 1) := by decide +kernel
theorem dX4_advance_37 : decode cX4_advance 37 = .ok (.putfield 28, 3) := by decide +kernel
theorem dX4_advance_40 : decode cX4_advance 40 = .ok (.iinc 1 1, 3) := by decide +kernel
theorem dX4_advance_43 : decode cX4_advance 43 = .ok (.goto (-30), 3) := by decide +kernel
theorem dX4_advance_46 : decode cX4_advance 46 = .ok (.aload_n 0, 1) := by decide +kernel
theorem dX4_advance_47 : decode cX4_advance 47 = .ok (.aload_n 0, 1) := by decide +kernel
theorem dX4_advance_48 : decode cX4_advance 48 = .ok (.aload_n 0, 1) := by decide +kernel
theorem dX4_advance_49 : decode cX4_advance 49 = .ok (.getfield 28, 3) := by decide +kernel
theorem dX4_advance_52 : decode cX4_advance 52 = .ok (.invokevirtual 181, 3) := by decide +kernel
theorem dX4_advance_55 : decode cX4_advance 55 = .ok (.putfield 25, 3) := by decide +kernel
theorem dX4_advance_58 : decode cX4_advance 58 = .ok (.aload_n 0, 1) := by decide +kernel
theorem dX4_advance_59 : decode cX4_advance 59 = .ok (.aload_n 0, 1) := by decide +kernel
theorem dX4_advance_60 : decode cX4_advance 60 = .ok (.getfield 25, 3) := by decide +kernel
theorem dX4_advance_63 : decode cX4_advance 63 = .ok (.ifCond .ne 10, 3) := by decide +kernel
theorem dX4_advance_66 : decode cX4_advance 66 = .ok (.aload_n 0, 1) := by decide +kernel
theorem dX4_advance_67 : decode cX4_advance 67 = .ok (.getfield 28, 3) := by decide +kernel
theorem dX4_advance_70 : decode cX4_advance 70 = .ok (.goto 9, 3) := by decide +kernel
theorem dX4_advance_73 : decode cX4_advance 73 = .ok (.aload_n 0, 1) := by decide +kernel
theorem dX4_advance_74 : decode cX4_advance 74 = .ok (.getfield 28, 3) := by decide +kernel
theorem dX4_advance_77 : decode cX4_advance 77 = .ok (.iconst 1, 1) := by decide +kernel
theorem dX4_advance_78 : decode cX4_advance 78 = .ok (.iadd, 1) := by decide +kernel
theorem dX4_advance_79 : decode cX4_advance 79 = .ok (.putfield 31, 3) := by decide +kernel
theorem dX4_advance_82 : decode cX4_advance 82 = .ok (.aload_n 0, 1) := by decide +kernel
theorem dX4_advance_83 : decode cX4_advance 83 = .ok (.getfield 25, 3) := by decide +kernel
theorem dX4_advance_86 : decode cX4_advance 86 = .ok (.iconst 4, 1) := by decide +kernel
theorem dX4_advance_87 : decode cX4_advance 87 = .ok (.if_icmp .eq 11, 3) := by decide +kernel
theorem dX4_advance_90 : decode cX4_advance 90 = .ok (.aload_n 0, 1) := by decide +kernel
theorem dX4_advance_91 : decode cX4_advance 91 = .ok (.getfield 25, 3) := by decide +kernel
theorem dX4_advance_94 : decode cX4_advance 94 = .ok (.iconst 5, 1) := by decide +kernel
theorem dX4_advance_95 : decode cX4_advance 95 = .ok (.if_icmp .ne 44, 3) := by decide +kernel
theorem dX4_advance_98 : decode cX4_advance 98 = .ok (.aload_n 0, 1) := by decide +kernel
theorem dX4_advance_99 : decode cX4_advance 99 = .ok (.getfield 31, 3) := by decide +kernel
theorem dX4_advance_102 : decode cX4_advance 102 = .ok (.istore_n 1, 1) := by decide +kernel
theorem dX4_advance_103 : decode cX4_advance 103 = .ok (.iload_n 1, 1) := by decide +kernel
theorem dX4_advance_104 : decode cX4_advance 104 = .ok (.aload_n 0, 1) := by decide +kernel
theorem dX4_advance_105 : decode cX4_advance 105 = .ok (.getfield 52, 3) := by decide +kernel
theorem dX4_advance_108 : decode cX4_advance 108 = .ok (.getfield 67, 3) := by decide +kernel
theorem dX4_advance_111 : decode cX4_advance 111 = .ok (.if_icmp .ge 28, 3) := by decide +kernel
theorem dX4_advance_114 : decode cX4_advance 114 = .ok (.aload_n 0, 1) := by decide +kernel
theorem dX4_advance_115 : decode cX4_advance 115 = .ok (.iload_n 1, 1) := by decide +kernel
theorem dX4_advance_116 : decode cX4_advance 116 = .ok (.invokevirtual 181, 3) := by decide +kernel
theorem dX4_advance_119 : decode cX4_advance 119 = .ok (.aload_n 0, 1) := by decide +kernel
theorem dX4_advance_120 : decode cX4_advance 120 = .ok (.getfield 25, 3) := by decide +kernel
theorem dX4_advance_123 : decode cX4_advance 123 = .ok (.if_icmp .ne 16, 3) := by decide +kernel
theorem dX4_advance_126 : decode cX4_advance 126 = .ok (.aload_n 0, 1) := by decide +kernel
theorem dX4_advance_127 : decode cX4_advance 127 = .ok (.iload_n 1, 1) := by decide +kernel
theorem dX4_advance_128 : decode cX4_advance 128 = .ok (.iconst 1, 1) := by decide +kernel
theorem dX4_advance_129 : decode cX4_advance 129 = .ok (.iadd, 1) := by decide +kernel
theorem dX4_advance_130 : decode cX4_advance 130 = .ok (.putfield 31, 3) := by decide +kernel
theorem dX4_advance_133 : decode cX4_advance 133 = .ok (.iinc 1 1, 3) := by decide +kernel
theorem dX4_advance_136 : decode cX4_advance 136 = .ok (.goto (-33), 3) := by decide +kernel
theorem dX4_advance_139 : decode cX4_advance 139 = .ok (.aload_n 0, 1) := by decide +kernel
theorem dX4_advance_140 : decode cX4_advance 140 = .ok (.aload_n 0, 1) := by decide +kernel
theorem dX4_advance_141 : decode cX4_advance 141 = .ok (.getfield 25, 3) := by decide +kernel
theorem dX4_advance_144 : decode cX4_advance 144 = .ok (.iconst 4, 1) := by decide +kernel
theorem dX4_advance_145 : decode cX4_advance 145 = .ok (.if_icmp .ne 21, 3) := by decide +kernel
theorem dX4_advance_148 : decode cX4_advance 148 = .ok (.aload_n 0, 1) := by decide +kernel
theorem dX4_advance_149 : decode cX4_advance 149 = .ok (.getfield 52, 3) := by decide +kernel
theorem dX4_advance_152 : decode cX4_advance 152 = .ok (.aload_n 0, 1) := by decide +kernel
theorem dX4_advance_153 : decode cX4_advance 153 = .ok (.getfield 28, 3) := by decide +kernel
theorem dX4_advance_156 : decode cX4_advance 156 = .ok (.aload_n 0, 1) := by decide +kernel
theorem dX4_advance_157 : decode cX4_advance 157 = .ok (.getfield 31, 3) := by decide +kernel
theorem dX4_advance_160 : decode cX4_advance 160 = .ok (.invokestatic 184, 3) := by decide +kernel
theorem dX4_advance_163 : decode cX4_advance 163 = .ok (.goto 6, 3) := by decide +kernel
theorem dX4_advance_166 : decode cX4_advance 166 = .ok (.getstatic 34, 3) := by decide +kernel
theorem dX4_advance_169 : decode cX4_advance 169 = .ok (.putfield 40, 3) := by decide +kernel
theorem dX4_advance_172 : decode cX4_advance 172 = .ok (.return_, 1) := by decide +kernel
theorem dX4_fail_0 : decode cX4_fail 0 = .ok (.aload_n 0, 1) := by decide +kernel
theorem dX4_fail_1 : decode cX4_fail 1 = .ok (.iload_n 1, 1) := by decide +kernel
theorem dX4_fail_2 : decode cX4_fail 2 = .ok (.putfield 18, 3) := by decide +kernel
theorem dX4_fail_5 : decode cX4_fail 5 = .ok (.aload_n 0, 1) := by decide +kernel
theorem dX4_fail_6 : decode cX4_fail 6 = .ok (.aload_n 0, 1) := by decide +kernel
theorem dX4_fail_7 : decode cX4_fail 7 = .ok (.getfield 28, 3) := by decide +kernel
theorem dX4_fail_10 : decode cX4_fail 10 = .ok (.putfield 22, 3) := by decide +kernel
theorem dX4_fail_13 : decode cX4_fail 13 = .ok (.iconst 0, 1) := by decide +kernel
theorem dX4_fail_14 : decode cX4_fail 14 = .ok (.ireturn, 1) := by decide +kernel
theorem dX4_readSemicolon_0 : decode cX4_readSemicolon 0 = .ok (.aload_n 0, 1) := by decide +kernel
theorem dX4_readSemicolon_1 : decode cX4_readSemicolon 1 = .ok (.getfield 25, 3) := by decide +kernel
theorem dX4_readSemicolon_4 : decode cX4_readSemicolon 4 = .ok (.iconst 3, 1) := by decide +kernel
theorem dX4_readSemicolon_5 : decode cX4_readSemicolon 5 = .ok (.if_icmp .eq 9, 3) := by decide +kernel
theorem dX4_readSemicolon_8 : decode cX4_readSemicolon 8 = .ok (.aload_n 0, 1) := by decide +kernel
theorem dX4_readSemicolon_9 : decode cX4_readSemicolon 9 = .ok (.iconst 1, 1) := by decide +kernel
theorem dX4_readSemicolon_10 : decode cX4_readSemicolon 10 = .ok (.invokevirtual 81, 3) := by decide +kernel
theorem dX4_readSemicolon_13 : decode cX4_readSemicolon 13 = .ok (.ireturn, 1) := by decide +kernel
theorem dX4_readSemicolon_14 : decode cX4_readSemicolon 14 = .ok (.aload_n 0, 1) := by decide +kernel
theorem dX4_readSemicolon_15 : decode cX4_readSemicolon 15 = .ok (.invokevirtual 60, 3) := by decide +kernel
theorem dX4_readSemicolon_18 : decode cX4_readSemicolon 18 = .ok (.iconst 1, 1) := by decide +kernel
theorem dX4_readSemicolon_19 : decode cX4_readSemicolon 19 = .ok (.ireturn, 1) := by decide +kernel
theorem dX4_readNumber_0 : decode cX4_readNumber 0 = .ok (.aload_n 0, 1) := by decide +kernel
theorem dX4_readNumber_1 : decode cX4_readNumber 1 = .ok (.getfield 25, 3) := by decide +kernel
theorem dX4_readNumber_4 : decode cX4_readNumber 4 = .ok (.iconst 5, 1) := by decide +kernel
theorem dX4_readNumber_5 : decode cX4_readNumber 5 = .ok (.if_icmp .ne 16, 3) := by decide +kernel
theorem dX4_readNumber_8 : decode cX4_readNumber 8 = .ok (.aload_n 0, 1) := by decide +kernel
theorem dX4_readNumber_9 : decode cX4_readNumber 9 = .ok (.getfield 31, 3) := by decide +kernel
theorem dX4_readNumber_12 : decode cX4_readNumber 12 = .ok (.aload_n 0, 1) := by decide +kernel
theorem dX4_readNumber_13 : decode cX4_readNumber 13 = .ok (.getfield 28, 3) := by decide +kernel
theorem dX4_readNumber_16 : decode cX4_readNumber 16 = .ok (.isub, 1) := by decide +kernel
theorem dX4_readNumber_17 : decode cX4_readNumber 17 = .ok (.iconst 3, 1) := by decide +kernel
theorem dX4_readNumber_18 : decode cX4_readNumber 18 = .ok (.if_icmp .le 9, 3) := by decide +kernel
theorem dX4_readNumber_21 : decode cX4_readNumber 21 = .ok (.aload_n 0, 1) := by decide +kernel
theorem dX4_readNumber_22 : decode cX4_readNumber 22 = .ok (.iconst 1, 1) := by decide +kernel
theorem dX4_readNumber_23 : decode cX4_readNumber 23 = .ok (.invokevirtual 81, 3) := by decide +kernel
theorem dX4_readNumber_26 : decode cX4_readNumber 26 = .ok (.ireturn, 1) := by decide +kernel
theorem dX4_readNumber_27 : decode cX4_readNumber 27 = .ok (.iconst 0, 1) := by decide +kernel
theorem dX4_readNumber_28 : decode cX4_readNumber 28 = .ok (.istore_n 3, 1) := by decide +kernel
theorem dX4_readNumber_29 : decode cX4_readNumber 29 = .ok (.aload_n 0, 1) := by decide +kernel
theorem dX4_readNumber_30 : decode cX4_readNumber 30 = .ok (.getfield 28, 3) := by decide +kernel
theorem dX4_readNumber_33 : decode cX4_readNumber 33 = .ok (.istore 4, 2) := by decide +kernel
theorem dX4_readNumber_35 : decode cX4_readNumber 35 = .ok (.iload 4, 2) := by decide +kernel
theorem dX4_readNumber_37 : decode cX4_readNumber 37 = .ok (.aload_n 0, 1) := by decide +kernel
theorem dX4_readNumber_38 : decode cX4_readNumber 38 = .ok (.getfield 31, 3) := by decide +kernel
theorem dX4_readNumber_41 : decode cX4_readNumber 41 = .ok (.if_icmp .ge 27, 3) := by decide +kernel
theorem dX4_readNumber_44 : decode cX4_readNumber 44 = .ok (.iload_n 3, 1) := by decide +kernel
theorem dX4_readNumber_45 : decode cX4_readNumber 45 = .ok (.bipush 10, 2) := by decide +kernel
theorem dX4_readNumber_47 : decode cX4_readNumber 47 = .ok (.imul, 1) := by decide +kernel
theorem dX4_readNumber_48 : decode cX4_readNumber 48 = .ok (.aload_n 0, 1) := by decide +kernel
theorem dX4_readNumber_49 : decode cX4_readNumber 49 = .ok (.getfield 52, 3) := by decide +kernel
theorem dX4_readNumber_52 : decode cX4_readNumber 52 = .ok (.iload 4, 2) := by decide +kernel
theorem dX4_readNumber_54 : decode cX4_readNumber 54 = .ok (.invokevirtual 177, 3) := by decide +kernel
theorem dX4_readNumber_57 : decode cX4_readNumber 57 = .ok (.iadd, 1) := by decide +kernel
theorem dX4_readNumber_58 : decode cX4_readNumber 58 = .ok (.bipush 48, 2) := by decide +kernel
theorem dX4_readNumber_60 : decode cX4_readNumber 60 = .ok (.isub, 1) := by decide +kernel
theorem dX4_readNumber_61 : decode cX4_readNumber 61 = .ok (.istore_n 3, 1) := by decide +kernel
theorem dX4_readNumber_62 : decode cX4_readNumber 62 = .ok (.iinc 4 1, 3) := by decide +kernel
theorem dX4_readNumber_65 : decode cX4_readNumber 65 = .ok (.goto (-30), 3) := by decide +kernel
theorem dX4_readNumber_68 : decode cX4_readNumber 68 = .ok (.iload_n 3, 1) := by decide +kernel
theorem dX4_readNumber_69 : decode cX4_readNumber 69 = .ok (.iload_n 1, 1) := by decide +kernel
theorem dX4_readNumber_70 : decode cX4_readNumber 70 = .ok (.if_icmp .lt 8, 3) := by decide +kernel
theorem dX4_readNumber_73 : decode cX4_readNumber 73 = .ok (.iload_n 3, 1) := by decide +kernel
theorem dX4_readNumber_74 : decode cX4_readNumber 74 = .ok (.iload_n 2, 1) := by decide +kernel
theorem dX4_readNumber_75 : decode cX4_readNumber 75 = .ok (.if_icmp .le 9, 3) := by decide +kernel
theorem dX4_readNumber_78 : decode cX4_readNumber 78 = .ok (.aload_n 0, 1) := by decide +kernel
theorem dX4_readNumber_79 : decode cX4_readNumber 79 = .ok (.iconst 2, 1) := by decide +kernel
theorem dX4_readNumber_80 : decode cX4_readNumber 80 = .ok (.invokevirtual 81, 3) := by decide +kernel
theorem dX4_readNumber_83 : decode cX4_readNumber 83 = .ok (.ireturn, 1) := by decide +kernel
theorem dX4_readNumber_84 : decode cX4_readNumber 84 = .ok (.aload_n 0, 1) := by decide +kernel
theorem dX4_readNumber_85 : decode cX4_readNumber 85 = .ok (.iload_n 3, 1) := by decide +kernel
theorem dX4_readNumber_86 : decode cX4_readNumber 86 = .ok (.putfield 46, 3) := by decide +kernel
theorem dX4_readNumber_89 : decode cX4_readNumber 89 = .ok (.aload_n 0, 1) := by decide +kernel
theorem dX4_readNumber_90 : decode cX4_readNumber 90 = .ok (.invokevirtual 60, 3) := by decide +kernel
theorem dX4_readNumber_93 : decode cX4_readNumber 93 = .ok (.iconst 1, 1) := by decide +kernel
theorem dX4_readNumber_94 : decode cX4_readNumber 94 = .ok (.ireturn, 1) := by decide +kernel
theorem dX4_isName_0 : decode cX4_isName 0 = .ok (.aload_n 0, 1) := by decide +kernel
theorem dX4_isName_1 : decode cX4_isName 1 = .ok (.getfield 25, 3) := by decide +kernel
theorem dX4_isName_4 : decode cX4_isName 4 = .ok (.iconst 4, 1) := by decide +kernel
theorem dX4_isName_5 : decode cX4_isName 5 = .ok (.if_icmp .ne 31, 3) := by decide +kernel
theorem dX4_isName_8 : decode cX4_isName 8 = .ok (.aload_n 0, 1) := by decide +kernel
theorem dX4_isName_9 : decode cX4_isName 9 = .ok (.getfield 40, 3) := by decide +kernel
theorem dX4_isName_12 : decode cX4_isName 12 = .ok (.getstatic 34, 3) := by decide +kernel
theorem dX4_isName_15 : decode cX4_isName 15 = .ok (.if_acmp .ne 21, 3) := by decide +kernel
theorem dX4_isName_18 : decode cX4_isName 18 = .ok (.aload_n 0, 1) := by decide +kernel
theorem dX4_isName_19 : decode cX4_isName 19 = .ok (.getfield 31, 3) := by decide +kernel
theorem dX4_isName_22 : decode cX4_isName 22 = .ok (.aload_n 0, 1) := by decide +kernel
theorem dX4_isName_23 : decode cX4_isName 23 = .ok (.getfield 28, 3) := by decide +kernel
theorem dX4_isName_26 : decode cX4_isName 26 = .ok (.isub, 1) := by decide +kernel
theorem dX4_isName_27 : decode cX4_isName 27 = .ok (.bipush 6, 2) := by decide +kernel
theorem dX4_isName_29 : decode cX4_isName 29 = .ok (.if_icmp .gt 7, 3) := by decide +kernel
theorem dX4_isName_32 : decode cX4_isName 32 = .ok (.iconst 1, 1) := by decide +kernel
theorem dX4_isName_33 : decode cX4_isName 33 = .ok (.goto 4, 3) := by decide +kernel
theorem dX4_isName_36 : decode cX4_isName 36 = .ok (.iconst 0, 1) := by decide +kernel
theorem dX4_isName_37 : decode cX4_isName 37 = .ok (.ireturn, 1) := by decide +kernel
theorem dX4_readProcess_0 : decode cX4_readProcess 0 = .ok (.aload_n 0, 1) := by decide +kernel
theorem dX4_readProcess_1 : decode cX4_readProcess 1 = .ok (.invokevirtual 130, 3) := by decide +kernel
theorem dX4_readProcess_4 : decode cX4_readProcess 4 = .ok (.ifCond .ne 9, 3) := by decide +kernel
theorem dX4_readProcess_7 : decode cX4_readProcess 7 = .ok (.aload_n 0, 1) := by decide +kernel
theorem dX4_readProcess_8 : decode cX4_readProcess 8 = .ok (.iconst 1, 1) := by decide +kernel
theorem dX4_readProcess_9 : decode cX4_readProcess 9 = .ok (.invokevirtual 81, 3) := by decide +kernel
theorem dX4_readProcess_12 : decode cX4_readProcess 12 = .ok (.ireturn, 1) := by decide +kernel
theorem dX4_readProcess_13 : decode cX4_readProcess 13 = .ok (.aload_n 0, 1) := by decide +kernel
theorem dX4_readProcess_14 : decode cX4_readProcess 14 = .ok (.aload_n 0, 1) := by decide +kernel
theorem dX4_readProcess_15 : decode cX4_readProcess 15 = .ok (.getfield 12, 3) := by decide +kernel
theorem dX4_readProcess_18 : decode cX4_readProcess 18 = .ok (.aload_n 0, 1) := by decide +kernel
theorem dX4_readProcess_19 : decode cX4_readProcess 19 = .ok (.getfield 52, 3) := by decide +kernel
theorem dX4_readProcess_22 : decode cX4_readProcess 22 = .ok (.aload_n 0, 1) := by decide +kernel
theorem dX4_readProcess_23 : decode cX4_readProcess 23 = .ok (.getfield 28, 3) := by decide +kernel
theorem dX4_readProcess_26 : decode cX4_readProcess 26 = .ok (.aload_n 0, 1) := by decide +kernel
theorem dX4_readProcess_27 : decode cX4_readProcess 27 = .ok (.getfield 31, 3) := by decide +kernel
theorem dX4_readProcess_30 : decode cX4_readProcess 30 = .ok (.invokevirtual 133, 3) := by decide +kernel
theorem dX4_readProcess_33 : decode cX4_readProcess 33 = .ok (.putfield 43, 3) := by decide +kernel
theorem dX4_readProcess_36 : decode cX4_readProcess 36 = .ok (.aload_n 0, 1) := by decide +kernel
theorem dX4_readProcess_37 : decode cX4_readProcess 37 = .ok (.getfield 43, 3) := by decide +kernel
theorem dX4_readProcess_40 : decode cX4_readProcess 40 = .ok (.iconst (-1), 1) := by decide +kernel
theorem dX4_readProcess_41 : decode cX4_readProcess 41 = .ok (.if_icmp .ne 9, 3) := by decide +kernel
theorem dX4_readProcess_44 : decode cX4_readProcess 44 = .ok (.aload_n 0, 1) := by decide +kernel
theorem dX4_readProcess_45 : decode cX4_readProcess 45 = .ok (.iconst 3, 1) := by decide +kernel
theorem dX4_readProcess_46 : decode cX4_readProcess 46 = .ok (.invokevirtual 81, 3) := by decide +kernel
theorem dX4_readProcess_49 : decode cX4_readProcess 49 = .ok (.ireturn, 1) := by decide +kernel
theorem dX4_readProcess_50 : decode cX4_readProcess 50 = .ok (.aload_n 0, 1) := by decide +kernel
theorem dX4_readProcess_51 : decode cX4_readProcess 51 = .ok (.invokevirtual 60, 3) := by decide +kernel
theorem dX4_readProcess_54 : decode cX4_readProcess 54 = .ok (.iconst 1, 1) := by decide +kernel
theorem dX4_readProcess_55 : decode cX4_readProcess 55 = .ok (.ireturn, 1) := by decide +kernel
theorem dX4_isFirstOfItsKind_0 : decode cX4_isFirstOfItsKind 0 = .ok (.aload_n 0, 1) := by decide +kernel
theorem dX4_isFirstOfItsKind_1 : decode cX4_isFirstOfItsKind 1 = .ok (.getfield 49, 3) := by decide +kernel
theorem dX4_isFirstOfItsKind_4 : decode cX4_isFirstOfItsKind 4 = .ok (.aload_n 0, 1) := by decide +kernel
theorem dX4_isFirstOfItsKind_5 : decode cX4_isFirstOfItsKind 5 = .ok (.getfield 40, 3) := by decide +kernel
theorem dX4_isFirstOfItsKind_8 : decode cX4_isFirstOfItsKind 8 = .ok (.getfield 174, 3) := by decide +kernel
theorem dX4_isFirstOfItsKind_11 : decode cX4_isFirstOfItsKind 11 = .ok (.iand, 1) := by decide +kernel
theorem dX4_isFirstOfItsKind_12 : decode cX4_isFirstOfItsKind 12 = .ok (.ifCond .ne 7, 3) := by decide +kernel
theorem dX4_isFirstOfItsKind_15 : decode cX4_isFirstOfItsKind 15 = .ok (.iconst 1, 1) := by decide +kernel
theorem dX4_isFirstOfItsKind_16 : decode cX4_isFirstOfItsKind 16 = .ok (.goto 4, 3) := by decide +kernel
theorem dX4_isFirstOfItsKind_19 : decode cX4_isFirstOfItsKind 19 = .ok (.iconst 0, 1) := by decide +kernel
theorem dX4_isFirstOfItsKind_20 : decode cX4_isFirstOfItsKind 20 = .ok (.istore_n 1, 1) := by decide +kernel
theorem dX4_isFirstOfItsKind_21 : decode cX4_isFirstOfItsKind 21 = .ok (.aload_n 0, 1) := by decide +kernel
theorem dX4_isFirstOfItsKind_22 : decode cX4_isFirstOfItsKind 22 = .ok (.dup, 1) := by decide +kernel
theorem dX4_isFirstOfItsKind_23 : decode cX4_isFirstOfItsKind 23 = .ok (.getfield 49, 3) := by decide +kernel
theorem dX4_isFirstOfItsKind_26 : decode cX4_isFirstOfItsKind 26 = .ok (.aload_n 0, 1) := by decide +kernel
theorem dX4_isFirstOfItsKind_27 : decode cX4_isFirstOfItsKind 27 = .ok (.getfield 40, 3) := by decide +kernel
theorem dX4_isFirstOfItsKind_30 : decode cX4_isFirstOfItsKind 30 = .ok (.getfield 174, 3) := by decide +kernel
theorem dX4_isFirstOfItsKind_33 : decode cX4_isFirstOfItsKind 33 = .ok (.ior, 1) := by decide +kernel
theorem dX4_isFirstOfItsKind_34 : decode cX4_isFirstOfItsKind 34 = .ok (.putfield 49, 3) := by decide +kernel
theorem dX4_isFirstOfItsKind_37 : decode cX4_isFirstOfItsKind 37 = .ok (.iload_n 1, 1) := by decide +kernel
theorem dX4_isFirstOfItsKind_38 : decode cX4_isFirstOfItsKind 38 = .ok (.ireturn, 1) := by decide +kernel
theorem dX4_readSetting_0 : decode cX4_readSetting 0 = .ok (.aload_n 0, 1) := by decide +kernel
theorem dX4_readSetting_1 : decode cX4_readSetting 1 = .ok (.invokevirtual 164, 3) := by decide +kernel
theorem dX4_readSetting_4 : decode cX4_readSetting 4 = .ok (.ifCond .ne 9, 3) := by decide +kernel
theorem dX4_readSetting_7 : decode cX4_readSetting 7 = .ok (.aload_n 0, 1) := by decide +kernel
theorem dX4_readSetting_8 : decode cX4_readSetting 8 = .ok (.iconst 3, 1) := by decide +kernel
theorem dX4_readSetting_9 : decode cX4_readSetting 9 = .ok (.invokevirtual 81, 3) := by decide +kernel
theorem dX4_readSetting_12 : decode cX4_readSetting 12 = .ok (.ireturn, 1) := by decide +kernel
theorem dX4_readSetting_13 : decode cX4_readSetting 13 = .ok (.aload_n 0, 1) := by decide +kernel
theorem dX4_readSetting_14 : decode cX4_readSetting 14 = .ok (.getfield 40, 3) := by decide +kernel
theorem dX4_readSetting_17 : decode cX4_readSetting 17 = .ok (.astore_n 1, 1) := by decide +kernel
theorem dX4_readSetting_18 : decode cX4_readSetting 18 = .ok (.aload_n 0, 1) := by decide +kernel
theorem dX4_readSetting_19 : decode cX4_readSetting 19 = .ok (.invokevirtual 60, 3) := by decide +kernel
theorem dX4_readSetting_22 : decode cX4_readSetting 22 = .ok (.aload_n 0, 1) := by decide +kernel
theorem dX4_readSetting_23 : decode cX4_readSetting 23 = .ok (.aload_n 1, 1) := by decide +kernel
theorem dX4_readSetting_24 : decode cX4_readSetting 24 = .ok (.getfield 85, 3) := by decide +kernel
theorem dX4_readSetting_27 : decode cX4_readSetting 27 = .ok (.aload_n 1, 1) := by decide +kernel
theorem dX4_readSetting_28 : decode cX4_readSetting 28 = .ok (.getfield 88, 3) := by decide +kernel
theorem dX4_readSetting_31 : decode cX4_readSetting 31 = .ok (.invokevirtual 91, 3) := by decide +kernel
theorem dX4_readSetting_34 : decode cX4_readSetting 34 = .ok (.ifCond .ne 5, 3) := by decide +kernel
theorem dX4_readSetting_37 : decode cX4_readSetting 37 = .ok (.iconst 0, 1) := by decide +kernel
theorem dX4_readSetting_38 : decode cX4_readSetting 38 = .ok (.ireturn, 1) := by decide +kernel
theorem dX4_readSetting_39 : decode cX4_readSetting 39 = .ok (.aload_n 0, 1) := by decide +kernel
theorem dX4_readSetting_40 : decode cX4_readSetting 40 = .ok (.getfield 12, 3) := by decide +kernel
theorem dX4_readSetting_43 : decode cX4_readSetting 43 = .ok (.aload_n 1, 1) := by decide +kernel
theorem dX4_readSetting_44 : decode cX4_readSetting 44 = .ok (.aload_n 0, 1) := by decide +kernel
theorem dX4_readSetting_45 : decode cX4_readSetting 45 = .ok (.getfield 46, 3) := by decide +kernel
theorem dX4_readSetting_48 : decode cX4_readSetting 48 = .ok (.invokevirtual 170, 3) := by decide +kernel
theorem dX4_readSetting_51 : decode cX4_readSetting 51 = .ok (.iconst 1, 1) := by decide +kernel
theorem dX4_readSetting_52 : decode cX4_readSetting 52 = .ok (.ireturn, 1) := by decide +kernel
theorem dX4_readOrder_0 : decode cX4_readOrder 0 = .ok (.aload_n 0, 1) := by decide +kernel
theorem dX4_readOrder_1 : decode cX4_readOrder 1 = .ok (.invokevirtual 164, 3) := by decide +kernel
theorem dX4_readOrder_4 : decode cX4_readOrder 4 = .ok (.ifCond .ne 9, 3) := by decide +kernel
theorem dX4_readOrder_7 : decode cX4_readOrder 7 = .ok (.aload_n 0, 1) := by decide +kernel
theorem dX4_readOrder_8 : decode cX4_readOrder 8 = .ok (.iconst 3, 1) := by decide +kernel
theorem dX4_readOrder_9 : decode cX4_readOrder 9 = .ok (.invokevirtual 81, 3) := by decide +kernel
theorem dX4_readOrder_12 : decode cX4_readOrder 12 = .ok (.ireturn, 1) := by decide +kernel
theorem dX4_readOrder_13 : decode cX4_readOrder 13 = .ok (.aload_n 0, 1) := by decide +kernel
theorem dX4_readOrder_14 : decode cX4_readOrder 14 = .ok (.invokevirtual 60, 3) := by decide +kernel
theorem dX4_readOrder_17 : decode cX4_readOrder 17 = .ok (.getstatic 102, 3) := by decide +kernel
theorem dX4_readOrder_20 : decode cX4_readOrder 20 = .ok (.aload_n 0, 1) := by decide +kernel
theorem dX4_readOrder_21 : decode cX4_readOrder 21 = .ok (.getfield 40, 3) := by decide +kernel
theorem dX4_readOrder_24 : decode cX4_readOrder 24 = .ok (.invokevirtual 108, 3) := by decide +kernel
theorem dX4_readOrder_27 : decode cX4_readOrder 27 = .ok (.iaload, 1) := by decide +kernel
theorem dX4_readOrder_28 : decode cX4_readOrder 28 = .ok (.tableswitch 61 10 12 #[28, 39, 50], 28) := by decide +kernel
theorem dX4_readOrder_56 : decode cX4_readOrder 56 = .ok (.aload_n 0, 1) := by decide +kernel
theorem dX4_readOrder_57 : decode cX4_readOrder 57 = .ok (.getfield 56, 3) := by decide +kernel
theorem dX4_readOrder_60 : decode cX4_readOrder 60 = .ok (.iconst 0, 1) := by decide +kernel
theorem dX4_readOrder_61 : decode cX4_readOrder 61 = .ok (.putfield 167, 3) := by decide +kernel
theorem dX4_readOrder_64 : decode cX4_readOrder 64 = .ok (.goto 31, 3) := by decide +kernel
theorem dX4_readOrder_67 : decode cX4_readOrder 67 = .ok (.aload_n 0, 1) := by decide +kernel
theorem dX4_readOrder_68 : decode cX4_readOrder 68 = .ok (.getfield 56, 3) := by decide +kernel
theorem dX4_readOrder_71 : decode cX4_readOrder 71 = .ok (.iconst 1, 1) := by decide +kernel
theorem dX4_readOrder_72 : decode cX4_readOrder 72 = .ok (.putfield 167, 3) := by decide +kernel
theorem dX4_readOrder_75 : decode cX4_readOrder 75 = .ok (.goto 20, 3) := by decide +kernel
theorem dX4_readOrder_78 : decode cX4_readOrder 78 = .ok (.aload_n 0, 1) := by decide +kernel
theorem dX4_readOrder_79 : decode cX4_readOrder 79 = .ok (.getfield 56, 3) := by decide +kernel
theorem dX4_readOrder_82 : decode cX4_readOrder 82 = .ok (.iconst 2, 1) := by decide +kernel
theorem dX4_readOrder_83 : decode cX4_readOrder 83 = .ok (.putfield 167, 3) := by decide +kernel
theorem dX4_readOrder_86 : decode cX4_readOrder 86 = .ok (.goto 9, 3) := by decide +kernel
theorem dX4_readOrder_89 : decode cX4_readOrder 89 = .ok (.aload_n 0, 1) := by decide +kernel
theorem dX4_readOrder_90 : decode cX4_readOrder 90 = .ok (.iconst 1, 1) := by decide +kernel
theorem dX4_readOrder_91 : decode cX4_readOrder 91 = .ok (.invokevirtual 81, 3) := by decide +kernel
theorem dX4_readOrder_94 : decode cX4_readOrder 94 = .ok (.ireturn, 1) := by decide +kernel
theorem dX4_readOrder_95 : decode cX4_readOrder 95 = .ok (.aload_n 0, 1) := by decide +kernel
theorem dX4_readOrder_96 : decode cX4_readOrder 96 = .ok (.invokevirtual 60, 3) := by decide +kernel
theorem dX4_readOrder_99 : decode cX4_readOrder 99 = .ok (.iconst 1, 1) := by decide +kernel
theorem dX4_readOrder_100 : decode cX4_readOrder 100 = .ok (.ireturn, 1) := by decide +kernel
theorem dX4_readClaim_0 : decode cX4_readClaim 0 = .ok (.aload_n 0, 1) := by decide +kernel
theorem dX4_readClaim_1 : decode cX4_readClaim 1 = .ok (.getfield 56, 3) := by decide +kernel
theorem dX4_readClaim_4 : decode cX4_readClaim 4 = .ok (.getfield 154, 3) := by decide +kernel
theorem dX4_readClaim_7 : decode cX4_readClaim 7 = .ok (.bipush 60, 2) := by decide +kernel
theorem dX4_readClaim_9 : decode cX4_readClaim 9 = .ok (.if_icmp .lt 9, 3) := by decide +kernel
theorem dX4_readClaim_12 : decode cX4_readClaim 12 = .ok (.aload_n 0, 1) := by decide +kernel
theorem dX4_readClaim_13 : decode cX4_readClaim 13 = .ok (.iconst 4, 1) := by decide +kernel
theorem dX4_readClaim_14 : decode cX4_readClaim 14 = .ok (.invokevirtual 81, 3) := by decide +kernel
theorem dX4_readClaim_17 : decode cX4_readClaim 17 = .ok (.ireturn, 1) := by decide +kernel
theorem dX4_readClaim_18 : decode cX4_readClaim 18 = .ok (.aload_n 0, 1) := by decide +kernel
theorem dX4_readClaim_19 : decode cX4_readClaim 19 = .ok (.invokevirtual 60, 3) := by decide +kernel
theorem dX4_readClaim_22 : decode cX4_readClaim 22 = .ok (.aload_n 0, 1) := by decide +kernel
theorem dX4_readClaim_23 : decode cX4_readClaim 23 = .ok (.invokevirtual 144, 3) := by decide +kernel
theorem dX4_readClaim_26 : decode cX4_readClaim 26 = .ok (.ifCond .eq 18, 3) := by decide +kernel
theorem dX4_readClaim_29 : decode cX4_readClaim 29 = .ok (.aload_n 0, 1) := by decide +kernel
theorem dX4_readClaim_30 : decode cX4_readClaim 30 = .ok (.iconst 1, 1) := by decide +kernel
theorem dX4_readClaim_31 : decode cX4_readClaim 31 = .ok (.aload_n 0, 1) := by decide +kernel
theorem dX4_readClaim_32 : decode cX4_readClaim 32 = .ok (.getfield 12, 3) := by decide +kernel
theorem dX4_readClaim_35 : decode cX4_readClaim 35 = .ok (.getfield 157, 3) := by decide +kernel
theorem dX4_readClaim_38 : decode cX4_readClaim 38 = .ok (.invokevirtual 91, 3) := by decide +kernel
theorem dX4_readClaim_41 : decode cX4_readClaim 41 = .ok (.ifCond .ne 5, 3) := by decide +kernel
theorem dX4_readClaim_44 : decode cX4_readClaim 44 = .ok (.iconst 0, 1) := by decide +kernel
theorem dX4_readClaim_45 : decode cX4_readClaim 45 = .ok (.ireturn, 1) := by decide +kernel
theorem dX4_readClaim_46 : decode cX4_readClaim 46 = .ok (.aload_n 0, 1) := by decide +kernel
theorem dX4_readClaim_47 : decode cX4_readClaim 47 = .ok (.getfield 46, 3) := by decide +kernel
theorem dX4_readClaim_50 : decode cX4_readClaim 50 = .ok (.istore_n 1, 1) := by decide +kernel
theorem dX4_readClaim_51 : decode cX4_readClaim 51 = .ok (.aload_n 0, 1) := by decide +kernel
theorem dX4_readClaim_52 : decode cX4_readClaim 52 = .ok (.iconst 1, 1) := by decide +kernel
theorem dX4_readClaim_53 : decode cX4_readClaim 53 = .ok (.bipush 99, 2) := by decide +kernel
theorem dX4_readClaim_55 : decode cX4_readClaim 55 = .ok (.invokevirtual 91, 3) := by decide +kernel
theorem dX4_readClaim_58 : decode cX4_readClaim 58 = .ok (.ifCond .ne 5, 3) := by decide +kernel
theorem dX4_readClaim_61 : decode cX4_readClaim 61 = .ok (.iconst 0, 1) := by decide +kernel
theorem dX4_readClaim_62 : decode cX4_readClaim 62 = .ok (.ireturn, 1) := by decide +kernel
theorem dX4_readClaim_63 : decode cX4_readClaim 63 = .ok (.aload_n 0, 1) := by decide +kernel
theorem dX4_readClaim_64 : decode cX4_readClaim 64 = .ok (.getfield 56, 3) := by decide +kernel
theorem dX4_readClaim_67 : decode cX4_readClaim 67 = .ok (.aload_n 0, 1) := by decide +kernel
theorem dX4_readClaim_68 : decode cX4_readClaim 68 = .ok (.getfield 43, 3) := by decide +kernel
theorem dX4_readClaim_71 : decode cX4_readClaim 71 = .ok (.iload_n 1, 1) := by decide +kernel
theorem dX4_readClaim_72 : decode cX4_readClaim 72 = .ok (.aload_n 0, 1) := by decide +kernel
theorem dX4_readClaim_73 : decode cX4_readClaim 73 = .ok (.getfield 46, 3) := by decide +kernel
theorem dX4_readClaim_76 : decode cX4_readClaim 76 = .ok (.invokevirtual 160, 3) := by decide +kernel
theorem dX4_readClaim_79 : decode cX4_readClaim 79 = .ok (.pop, 1) := by decide +kernel
theorem dX4_readClaim_80 : decode cX4_readClaim 80 = .ok (.iconst 1, 1) := by decide +kernel
theorem dX4_readClaim_81 : decode cX4_readClaim 81 = .ok (.ireturn, 1) := by decide +kernel
theorem dX4_readLoan_0 : decode cX4_readLoan 0 = .ok (.aload_n 0, 1) := by decide +kernel
theorem dX4_readLoan_1 : decode cX4_readLoan 1 = .ok (.getfield 56, 3) := by decide +kernel
theorem dX4_readLoan_4 : decode cX4_readLoan 4 = .ok (.getfield 141, 3) := by decide +kernel
theorem dX4_readLoan_7 : decode cX4_readLoan 7 = .ok (.bipush 20, 2) := by decide +kernel
theorem dX4_readLoan_9 : decode cX4_readLoan 9 = .ok (.if_icmp .lt 9, 3) := by decide +kernel
theorem dX4_readLoan_12 : decode cX4_readLoan 12 = .ok (.aload_n 0, 1) := by decide +kernel
theorem dX4_readLoan_13 : decode cX4_readLoan 13 = .ok (.iconst 4, 1) := by decide +kernel
theorem dX4_readLoan_14 : decode cX4_readLoan 14 = .ok (.invokevirtual 81, 3) := by decide +kernel
theorem dX4_readLoan_17 : decode cX4_readLoan 17 = .ok (.ireturn, 1) := by decide +kernel
theorem dX4_readLoan_18 : decode cX4_readLoan 18 = .ok (.aload_n 0, 1) := by decide +kernel
theorem dX4_readLoan_19 : decode cX4_readLoan 19 = .ok (.invokevirtual 60, 3) := by decide +kernel
theorem dX4_readLoan_22 : decode cX4_readLoan 22 = .ok (.aload_n 0, 1) := by decide +kernel
theorem dX4_readLoan_23 : decode cX4_readLoan 23 = .ok (.invokevirtual 144, 3) := by decide +kernel
theorem dX4_readLoan_26 : decode cX4_readLoan 26 = .ok (.ifCond .eq 18, 3) := by decide +kernel
theorem dX4_readLoan_29 : decode cX4_readLoan 29 = .ok (.aload_n 0, 1) := by decide +kernel
theorem dX4_readLoan_30 : decode cX4_readLoan 30 = .ok (.iconst 1, 1) := by decide +kernel
theorem dX4_readLoan_31 : decode cX4_readLoan 31 = .ok (.aload_n 0, 1) := by decide +kernel
theorem dX4_readLoan_32 : decode cX4_readLoan 32 = .ok (.getfield 56, 3) := by decide +kernel
theorem dX4_readLoan_35 : decode cX4_readLoan 35 = .ok (.getfield 147, 3) := by decide +kernel
theorem dX4_readLoan_38 : decode cX4_readLoan 38 = .ok (.invokevirtual 91, 3) := by decide +kernel
theorem dX4_readLoan_41 : decode cX4_readLoan 41 = .ok (.ifCond .ne 5, 3) := by decide +kernel
theorem dX4_readLoan_44 : decode cX4_readLoan 44 = .ok (.iconst 0, 1) := by decide +kernel
theorem dX4_readLoan_45 : decode cX4_readLoan 45 = .ok (.ireturn, 1) := by decide +kernel
theorem dX4_readLoan_46 : decode cX4_readLoan 46 = .ok (.aload_n 0, 1) := by decide +kernel
theorem dX4_readLoan_47 : decode cX4_readLoan 47 = .ok (.getfield 46, 3) := by decide +kernel
theorem dX4_readLoan_50 : decode cX4_readLoan 50 = .ok (.istore_n 1, 1) := by decide +kernel
theorem dX4_readLoan_51 : decode cX4_readLoan 51 = .ok (.aload_n 0, 1) := by decide +kernel
theorem dX4_readLoan_52 : decode cX4_readLoan 52 = .ok (.iconst 1, 1) := by decide +kernel
theorem dX4_readLoan_53 : decode cX4_readLoan 53 = .ok (.bipush 99, 2) := by decide +kernel
theorem dX4_readLoan_55 : decode cX4_readLoan 55 = .ok (.invokevirtual 91, 3) := by decide +kernel
theorem dX4_readLoan_58 : decode cX4_readLoan 58 = .ok (.ifCond .ne 5, 3) := by decide +kernel
theorem dX4_readLoan_61 : decode cX4_readLoan 61 = .ok (.iconst 0, 1) := by decide +kernel
theorem dX4_readLoan_62 : decode cX4_readLoan 62 = .ok (.ireturn, 1) := by decide +kernel
theorem dX4_readLoan_63 : decode cX4_readLoan 63 = .ok (.aload_n 0, 1) := by decide +kernel
theorem dX4_readLoan_64 : decode cX4_readLoan 64 = .ok (.getfield 56, 3) := by decide +kernel
theorem dX4_readLoan_67 : decode cX4_readLoan 67 = .ok (.aload_n 0, 1) := by decide +kernel
theorem dX4_readLoan_68 : decode cX4_readLoan 68 = .ok (.getfield 43, 3) := by decide +kernel
theorem dX4_readLoan_71 : decode cX4_readLoan 71 = .ok (.iload_n 1, 1) := by decide +kernel
theorem dX4_readLoan_72 : decode cX4_readLoan 72 = .ok (.aload_n 0, 1) := by decide +kernel
theorem dX4_readLoan_73 : decode cX4_readLoan 73 = .ok (.getfield 46, 3) := by decide +kernel
theorem dX4_readLoan_76 : decode cX4_readLoan 76 = .ok (.iconst (-1), 1) := by decide +kernel
theorem dX4_readLoan_77 : decode cX4_readLoan 77 = .ok (.invokevirtual 150, 3) := by decide +kernel
theorem dX4_readLoan_80 : decode cX4_readLoan 80 = .ok (.pop, 1) := by decide +kernel
theorem dX4_readLoan_81 : decode cX4_readLoan 81 = .ok (.iconst 1, 1) := by decide +kernel
theorem dX4_readLoan_82 : decode cX4_readLoan 82 = .ok (.ireturn, 1) := by decide +kernel
theorem dX4_readNewProcess_0 : decode cX4_readNewProcess 0 = .ok (.aload_n 0, 1) := by decide +kernel
theorem dX4_readNewProcess_1 : decode cX4_readNewProcess 1 = .ok (.getfield 12, 3) := by decide +kernel
theorem dX4_readNewProcess_4 : decode cX4_readNewProcess 4 = .ok (.getfield 127, 3) := by decide +kernel
theorem dX4_readNewProcess_7 : decode cX4_readNewProcess 7 = .ok (.bipush 8, 2) := by decide +kernel
theorem dX4_readNewProcess_9 : decode cX4_readNewProcess 9 = .ok (.if_icmp .lt 9, 3) := by decide +kernel
theorem dX4_readNewProcess_12 : decode cX4_readNewProcess 12 = .ok (.aload_n 0, 1) := by decide +kernel
theorem dX4_readNewProcess_13 : decode cX4_readNewProcess 13 = .ok (.iconst 4, 1) := by decide +kernel
theorem dX4_readNewProcess_14 : decode cX4_readNewProcess 14 = .ok (.invokevirtual 81, 3) := by decide +kernel
theorem dX4_readNewProcess_17 : decode cX4_readNewProcess 17 = .ok (.ireturn, 1) := by decide +kernel
theorem dX4_readNewProcess_18 : decode cX4_readNewProcess 18 = .ok (.aload_n 0, 1) := by decide +kernel
theorem dX4_readNewProcess_19 : decode cX4_readNewProcess 19 = .ok (.invokevirtual 60, 3) := by decide +kernel
theorem dX4_readNewProcess_22 : decode cX4_readNewProcess 22 = .ok (.aload_n 0, 1) := by decide +kernel
theorem dX4_readNewProcess_23 : decode cX4_readNewProcess 23 = .ok (.invokevirtual 130, 3) := by decide +kernel
theorem dX4_readNewProcess_26 : decode cX4_readNewProcess 26 = .ok (.ifCond .ne 9, 3) := by decide +kernel
theorem dX4_readNewProcess_29 : decode cX4_readNewProcess 29 = .ok (.aload_n 0, 1) := by decide +kernel
theorem dX4_readNewProcess_30 : decode cX4_readNewProcess 30 = .ok (.iconst 1, 1) := by decide +kernel
theorem dX4_readNewProcess_31 : decode cX4_readNewProcess 31 = .ok (.invokevirtual 81, 3) := by decide +kernel
theorem dX4_readNewProcess_34 : decode cX4_readNewProcess 34 = .ok (.ireturn, 1) := by decide +kernel
theorem dX4_readNewProcess_35 : decode cX4_readNewProcess 35 = .ok (.aload_n 0, 1) := by decide +kernel
theorem dX4_readNewProcess_36 : decode cX4_readNewProcess 36 = .ok (.getfield 12, 3) := by decide +kernel
theorem dX4_readNewProcess_39 : decode cX4_readNewProcess 39 = .ok (.aload_n 0, 1) := by decide +kernel
theorem dX4_readNewProcess_40 : decode cX4_readNewProcess 40 = .ok (.getfield 52, 3) := by decide +kernel
theorem dX4_readNewProcess_43 : decode cX4_readNewProcess 43 = .ok (.aload_n 0, 1) := by decide +kernel
theorem dX4_readNewProcess_44 : decode cX4_readNewProcess 44 = .ok (.getfield 28, 3) := by decide +kernel
theorem dX4_readNewProcess_47 : decode cX4_readNewProcess 47 = .ok (.aload_n 0, 1) := by decide +kernel
theorem dX4_readNewProcess_48 : decode cX4_readNewProcess 48 = .ok (.getfield 31, 3) := by decide +kernel
theorem dX4_readNewProcess_51 : decode cX4_readNewProcess 51 = .ok (.invokevirtual 133, 3) := by decide +kernel
theorem dX4_readNewProcess_54 : decode cX4_readNewProcess 54 = .ok (.iconst (-1), 1) := by decide +kernel
theorem dX4_readNewProcess_55 : decode cX4_readNewProcess 55 = .ok (.if_icmp .eq 9, 3) := by decide +kernel
theorem dX4_readNewProcess_58 : decode cX4_readNewProcess 58 = .ok (.aload_n 0, 1) := by decide +kernel
theorem dX4_readNewProcess_59 : decode cX4_readNewProcess 59 = .ok (.iconst 3, 1) := by decide +kernel
theorem dX4_readNewProcess_60 : decode cX4_readNewProcess 60 = .ok (.invokevirtual 81, 3) := by decide +kernel
theorem dX4_readNewProcess_63 : decode cX4_readNewProcess 63 = .ok (.ireturn, 1) := by decide +kernel
theorem dX4_readNewProcess_64 : decode cX4_readNewProcess 64 = .ok (.aload_n 0, 1) := by decide +kernel
theorem dX4_readNewProcess_65 : decode cX4_readNewProcess 65 = .ok (.getfield 12, 3) := by decide +kernel
theorem dX4_readNewProcess_68 : decode cX4_readNewProcess 68 = .ok (.aload_n 0, 1) := by decide +kernel
theorem dX4_readNewProcess_69 : decode cX4_readNewProcess 69 = .ok (.getfield 52, 3) := by decide +kernel
theorem dX4_readNewProcess_72 : decode cX4_readNewProcess 72 = .ok (.aload_n 0, 1) := by decide +kernel
theorem dX4_readNewProcess_73 : decode cX4_readNewProcess 73 = .ok (.getfield 28, 3) := by decide +kernel
theorem dX4_readNewProcess_76 : decode cX4_readNewProcess 76 = .ok (.aload_n 0, 1) := by decide +kernel
theorem dX4_readNewProcess_77 : decode cX4_readNewProcess 77 = .ok (.getfield 31, 3) := by decide +kernel
theorem dX4_readNewProcess_80 : decode cX4_readNewProcess 80 = .ok (.invokevirtual 137, 3) := by decide +kernel
theorem dX4_readNewProcess_83 : decode cX4_readNewProcess 83 = .ok (.aload_n 0, 1) := by decide +kernel
theorem dX4_readNewProcess_84 : decode cX4_readNewProcess 84 = .ok (.invokevirtual 60, 3) := by decide +kernel
theorem dX4_readNewProcess_87 : decode cX4_readNewProcess 87 = .ok (.iconst 1, 1) := by decide +kernel
theorem dX4_readNewProcess_88 : decode cX4_readNewProcess 88 = .ok (.ireturn, 1) := by decide +kernel
theorem dX4_readStatement_0 : decode cX4_readStatement 0 = .ok (.getstatic 102, 3) := by decide +kernel
theorem dX4_readStatement_3 : decode cX4_readStatement 3 = .ok (.aload_n 0, 1) := by decide +kernel
theorem dX4_readStatement_4 : decode cX4_readStatement 4 = .ok (.getfield 40, 3) := by decide +kernel
theorem dX4_readStatement_7 : decode cX4_readStatement 7 = .ok (.invokevirtual 108, 3) := by decide +kernel
theorem dX4_readStatement_10 : decode cX4_readStatement 10 = .ok (.iaload, 1) := by decide +kernel
theorem dX4_readStatement_11 : decode cX4_readStatement 11 = .ok (.tableswitch 74 1 9 #[69, 69, 69, 69, 69, 49, 54, 59, 64], 49) := by decide +kernel
theorem dX4_readStatement_60 : decode cX4_readStatement 60 = .ok (.aload_n 0, 1) := by decide +kernel
theorem dX4_readStatement_61 : decode cX4_readStatement 61 = .ok (.invokevirtual 112, 3) := by decide +kernel
theorem dX4_readStatement_64 : decode cX4_readStatement 64 = .ok (.ireturn, 1) := by decide +kernel
theorem dX4_readStatement_65 : decode cX4_readStatement 65 = .ok (.aload_n 0, 1) := by decide +kernel
theorem dX4_readStatement_66 : decode cX4_readStatement 66 = .ok (.invokevirtual 115, 3) := by decide +kernel
theorem dX4_readStatement_69 : decode cX4_readStatement 69 = .ok (.ireturn, 1) := by decide +kernel
theorem dX4_readStatement_70 : decode cX4_readStatement 70 = .ok (.aload_n 0, 1) := by decide +kernel
theorem dX4_readStatement_71 : decode cX4_readStatement 71 = .ok (.invokevirtual 118, 3) := by decide +kernel
theorem dX4_readStatement_74 : decode cX4_readStatement 74 = .ok (.ireturn, 1) := by decide +kernel
theorem dX4_readStatement_75 : decode cX4_readStatement 75 = .ok (.aload_n 0, 1) := by decide +kernel
theorem dX4_readStatement_76 : decode cX4_readStatement 76 = .ok (.invokevirtual 121, 3) := by decide +kernel
theorem dX4_readStatement_79 : decode cX4_readStatement 79 = .ok (.ireturn, 1) := by decide +kernel
theorem dX4_readStatement_80 : decode cX4_readStatement 80 = .ok (.aload_n 0, 1) := by decide +kernel
theorem dX4_readStatement_81 : decode cX4_readStatement 81 = .ok (.invokevirtual 124, 3) := by decide +kernel
theorem dX4_readStatement_84 : decode cX4_readStatement 84 = .ok (.ireturn, 1) := by decide +kernel
theorem dX4_readStatement_85 : decode cX4_readStatement 85 = .ok (.aload_n 0, 1) := by decide +kernel
theorem dX4_readStatement_86 : decode cX4_readStatement 86 = .ok (.iconst 1, 1) := by decide +kernel
theorem dX4_readStatement_87 : decode cX4_readStatement 87 = .ok (.invokevirtual 81, 3) := by decide +kernel
theorem dX4_readStatement_90 : decode cX4_readStatement 90 = .ok (.ireturn, 1) := by decide +kernel
theorem dX4_readPages_0 : decode cX4_readPages 0 = .ok (.aload_n 0, 1) := by decide +kernel
theorem dX4_readPages_1 : decode cX4_readPages 1 = .ok (.getfield 40, 3) := by decide +kernel
theorem dX4_readPages_4 : decode cX4_readPages 4 = .ok (.getstatic 78, 3) := by decide +kernel
theorem dX4_readPages_7 : decode cX4_readPages 7 = .ok (.if_acmp .eq 9, 3) := by decide +kernel
theorem dX4_readPages_10 : decode cX4_readPages 10 = .ok (.aload_n 0, 1) := by decide +kernel
theorem dX4_readPages_11 : decode cX4_readPages 11 = .ok (.iconst 1, 1) := by decide +kernel
theorem dX4_readPages_12 : decode cX4_readPages 12 = .ok (.invokevirtual 81, 3) := by decide +kernel
theorem dX4_readPages_15 : decode cX4_readPages 15 = .ok (.ireturn, 1) := by decide +kernel
theorem dX4_readPages_16 : decode cX4_readPages 16 = .ok (.aload_n 0, 1) := by decide +kernel
theorem dX4_readPages_17 : decode cX4_readPages 17 = .ok (.invokevirtual 60, 3) := by decide +kernel
theorem dX4_readPages_20 : decode cX4_readPages 20 = .ok (.aload_n 0, 1) := by decide +kernel
theorem dX4_readPages_21 : decode cX4_readPages 21 = .ok (.getstatic 78, 3) := by decide +kernel
theorem dX4_readPages_24 : decode cX4_readPages 24 = .ok (.getfield 85, 3) := by decide +kernel
theorem dX4_readPages_27 : decode cX4_readPages 27 = .ok (.getstatic 78, 3) := by decide +kernel
theorem dX4_readPages_30 : decode cX4_readPages 30 = .ok (.getfield 88, 3) := by decide +kernel
theorem dX4_readPages_33 : decode cX4_readPages 33 = .ok (.invokevirtual 91, 3) := by decide +kernel
theorem dX4_readPages_36 : decode cX4_readPages 36 = .ok (.ifCond .ne 5, 3) := by decide +kernel
theorem dX4_readPages_39 : decode cX4_readPages 39 = .ok (.iconst 0, 1) := by decide +kernel
theorem dX4_readPages_40 : decode cX4_readPages 40 = .ok (.ireturn, 1) := by decide +kernel
theorem dX4_readPages_41 : decode cX4_readPages 41 = .ok (.aload_n 0, 1) := by decide +kernel
theorem dX4_readPages_42 : decode cX4_readPages 42 = .ok (.getfield 12, 3) := by decide +kernel
theorem dX4_readPages_45 : decode cX4_readPages 45 = .ok (.aload_n 0, 1) := by decide +kernel
theorem dX4_readPages_46 : decode cX4_readPages 46 = .ok (.getfield 46, 3) := by decide +kernel
theorem dX4_readPages_49 : decode cX4_readPages 49 = .ok (.invokevirtual 95, 3) := by decide +kernel
theorem dX4_readPages_52 : decode cX4_readPages 52 = .ok (.aload_n 0, 1) := by decide +kernel
theorem dX4_readPages_53 : decode cX4_readPages 53 = .ok (.getfield 56, 3) := by decide +kernel
theorem dX4_readPages_56 : decode cX4_readPages 56 = .ok (.aload_n 0, 1) := by decide +kernel
theorem dX4_readPages_57 : decode cX4_readPages 57 = .ok (.getfield 46, 3) := by decide +kernel
theorem dX4_readPages_60 : decode cX4_readPages 60 = .ok (.invokevirtual 99, 3) := by decide +kernel
theorem dX4_readPages_63 : decode cX4_readPages 63 = .ok (.aload_n 0, 1) := by decide +kernel
theorem dX4_readPages_64 : decode cX4_readPages 64 = .ok (.invokevirtual 75, 3) := by decide +kernel
theorem dX4_readPages_67 : decode cX4_readPages 67 = .ok (.ireturn, 1) := by decide +kernel
theorem dX4_readText_0 : decode cX4_readText 0 = .ok (.aload_n 0, 1) := by decide +kernel
theorem dX4_readText_1 : decode cX4_readText 1 = .ok (.iconst 0, 1) := by decide +kernel
theorem dX4_readText_2 : decode cX4_readText 2 = .ok (.putfield 18, 3) := by decide +kernel
theorem dX4_readText_5 : decode cX4_readText 5 = .ok (.aload_n 0, 1) := by decide +kernel
theorem dX4_readText_6 : decode cX4_readText 6 = .ok (.iconst (-1), 1) := by decide +kernel
theorem dX4_readText_7 : decode cX4_readText 7 = .ok (.putfield 22, 3) := by decide +kernel
theorem dX4_readText_10 : decode cX4_readText 10 = .ok (.aload_n 0, 1) := by decide +kernel
theorem dX4_readText_11 : decode cX4_readText 11 = .ok (.iconst 0, 1) := by decide +kernel
theorem dX4_readText_12 : decode cX4_readText 12 = .ok (.putfield 49, 3) := by decide +kernel
theorem dX4_readText_15 : decode cX4_readText 15 = .ok (.aload_n 0, 1) := by decide +kernel
theorem dX4_readText_16 : decode cX4_readText 16 = .ok (.iconst 0, 1) := by decide +kernel
theorem dX4_readText_17 : decode cX4_readText 17 = .ok (.putfield 31, 3) := by decide +kernel
theorem dX4_readText_20 : decode cX4_readText 20 = .ok (.aload_n 0, 1) := by decide +kernel
theorem dX4_readText_21 : decode cX4_readText 21 = .ok (.invokevirtual 60, 3) := by decide +kernel
theorem dX4_readText_24 : decode cX4_readText 24 = .ok (.aload_n 0, 1) := by decide +kernel
theorem dX4_readText_25 : decode cX4_readText 25 = .ok (.invokevirtual 63, 3) := by decide +kernel
theorem dX4_readText_28 : decode cX4_readText 28 = .ok (.ifCond .ne 5, 3) := by decide +kernel
theorem dX4_readText_31 : decode cX4_readText 31 = .ok (.iconst 0, 1) := by decide +kernel
theorem dX4_readText_32 : decode cX4_readText 32 = .ok (.ireturn, 1) := by decide +kernel
theorem dX4_readText_33 : decode cX4_readText 33 = .ok (.aload_n 0, 1) := by decide +kernel
theorem dX4_readText_34 : decode cX4_readText 34 = .ok (.getfield 52, 3) := by decide +kernel
theorem dX4_readText_37 : decode cX4_readText 37 = .ok (.getfield 67, 3) := by decide +kernel
theorem dX4_readText_40 : decode cX4_readText 40 = .ok (.istore_n 1, 1) := by decide +kernel
theorem dX4_readText_41 : decode cX4_readText 41 = .ok (.iload_n 1, 1) := by decide +kernel
theorem dX4_readText_42 : decode cX4_readText 42 = .ok (.ifCond .le 32, 3) := by decide +kernel
theorem dX4_readText_45 : decode cX4_readText 45 = .ok (.aload_n 0, 1) := by decide +kernel
theorem dX4_readText_46 : decode cX4_readText 46 = .ok (.getfield 25, 3) := by decide +kernel
theorem dX4_readText_49 : decode cX4_readText 49 = .ok (.ifCond .eq 25, 3) := by decide +kernel
theorem dX4_readText_52 : decode cX4_readText 52 = .ok (.aload_n 0, 1) := by decide +kernel
theorem dX4_readText_53 : decode cX4_readText 53 = .ok (.invokevirtual 72, 3) := by decide +kernel
theorem dX4_readText_56 : decode cX4_readText 56 = .ok (.ifCond .eq 10, 3) := by decide +kernel
theorem dX4_readText_59 : decode cX4_readText 59 = .ok (.aload_n 0, 1) := by decide +kernel
theorem dX4_readText_60 : decode cX4_readText 60 = .ok (.invokevirtual 75, 3) := by decide +kernel
theorem dX4_readText_63 : decode cX4_readText 63 = .ok (.ifCond .ne 5, 3) := by decide +kernel
theorem dX4_readText_66 : decode cX4_readText 66 = .ok (.iconst 0, 1) := by decide +kernel
theorem dX4_readText_67 : decode cX4_readText 67 = .ok (.ireturn, 1) := by decide +kernel
theorem dX4_readText_68 : decode cX4_readText 68 = .ok (.iinc 1 (-1), 3) := by decide +kernel
theorem dX4_readText_71 : decode cX4_readText 71 = .ok (.goto (-30), 3) := by decide +kernel
theorem dX4_readText_74 : decode cX4_readText 74 = .ok (.iconst 1, 1) := by decide +kernel
theorem dX4_readText_75 : decode cX4_readText 75 = .ok (.ireturn, 1) := by decide +kernel
theorem dX8_parse_0 : decode cX8_parse 0 = .ok (.aload_n 0, 1) := by decide +kernel
theorem dX8_parse_1 : decode cX8_parse 1 = .ok (.getfield 43, 3) := by decide +kernel
theorem dX8_parse_4 : decode cX8_parse 4 = .ok (.invokevirtual 81, 3) := by decide +kernel
theorem dX8_parse_7 : decode cX8_parse 7 = .ok (.istore_n 1, 1) := by decide +kernel
theorem dX8_parse_8 : decode cX8_parse 8 = .ok (.aload_n 0, 1) := by decide +kernel
theorem dX8_parse_9 : decode cX8_parse 9 = .ok (.getfield 14, 3) := by decide +kernel
theorem dX8_parse_12 : decode cX8_parse 12 = .ok (.iconst 0, 1) := by decide +kernel
theorem dX8_parse_13 : decode cX8_parse 13 = .ok (.putfield 75, 3) := by decide +kernel
theorem dX8_parse_16 : decode cX8_parse 16 = .ok (.iload_n 1, 1) := by decide +kernel
theorem dX8_parse_17 : decode cX8_parse 17 = .ok (.ifCond .ne 5, 3) := by decide +kernel
theorem dX8_parse_20 : decode cX8_parse 20 = .ok (.iconst (-1), 1) := by decide +kernel
theorem dX8_parse_21 : decode cX8_parse 21 = .ok (.ireturn, 1) := by decide +kernel
theorem dX8_parse_22 : decode cX8_parse 22 = .ok (.aload_n 0, 1) := by decide +kernel
theorem dX8_parse_23 : decode cX8_parse 23 = .ok (.getfield 24, 3) := by decide +kernel
theorem dX8_parse_26 : decode cX8_parse 26 = .ok (.aload_n 0, 1) := by decide +kernel
theorem dX8_parse_27 : decode cX8_parse 27 = .ok (.getfield 43, 3) := by decide +kernel
theorem dX8_parse_30 : decode cX8_parse 30 = .ok (.getfield 85, 3) := by decide +kernel
theorem dX8_parse_33 : decode cX8_parse 33 = .ok (.invokevirtual 86, 3) := by decide +kernel
theorem dX8_parse_36 : decode cX8_parse 36 = .ok (.aload_n 0, 1) := by decide +kernel
theorem dX8_parse_37 : decode cX8_parse 37 = .ok (.getfield 31, 3) := by decide +kernel
theorem dX8_parse_40 : decode cX8_parse 40 = .ok (.aload_n 0, 1) := by decide +kernel
theorem dX8_parse_41 : decode cX8_parse 41 = .ok (.getfield 35, 3) := by decide +kernel
theorem dX8_parse_44 : decode cX8_parse 44 = .ok (.invokevirtual 90, 3) := by decide +kernel
theorem dX8_parse_47 : decode cX8_parse 47 = .ok (.aload_n 0, 1) := by decide +kernel
theorem dX8_parse_48 : decode cX8_parse 48 = .ok (.getfield 50, 3) := by decide +kernel
theorem dX8_parse_51 : decode cX8_parse 51 = .ok (.invokevirtual 93, 3) := by decide +kernel
theorem dX8_parse_54 : decode cX8_parse 54 = .ok (.aload_n 0, 1) := by decide +kernel
theorem dX8_parse_55 : decode cX8_parse 55 = .ok (.iconst 0, 1) := by decide +kernel
theorem dX8_parse_56 : decode cX8_parse 56 = .ok (.putfield 57, 3) := by decide +kernel
theorem dX8_parse_59 : decode cX8_parse 59 = .ok (.aload_n 0, 1) := by decide +kernel
theorem dX8_parse_60 : decode cX8_parse 60 = .ok (.getfield 24, 3) := by decide +kernel
theorem dX8_parse_63 : decode cX8_parse 63 = .ok (.getfield 96, 3) := by decide +kernel
theorem dX8_parse_66 : decode cX8_parse 66 = .ok (.ireturn, 1) := by decide +kernel
def f_X5_begin (n : Nat) (th_0 : OS) (v1_0 : Int32) : Option (OS) :=
  Let (sI th_0 0 v1_0) (fun th_1 : OS =>
  Let (sI th_1 1 (0 : Int32)) (fun th_2 : OS =>
  gI 14 (3 : Int32) (
  Let (sI th_2 2 (wUsual (3 : Int32))) (fun th_3 : OS =>
  gI 14 (4 : Int32) (
  Let (sI th_3 3 (wUsual (4 : Int32))) (fun th_4 : OS =>
  gI 14 (5 : Int32) (
  Let (sI th_4 4 (wUsual (5 : Int32))) (fun th_5 : OS =>
  gI 14 (6 : Int32) (
  Let (sI th_5 5 (wUsual (6 : Int32))) (fun th_6 : OS =>
  gI 14 (7 : Int32) (
  Let (sI th_6 6 (wUsual (7 : Int32))) (fun th_7 : OS =>
  some th_7))))))))))))
set_option maxHeartbeats 4000000 in
set_option maxRecDepth 100000 in
theorem c_X5_begin (n : Nat) (l : Launch) (k : KT) (hE : EH k) (a_th : Nat → Nat) (th_0 : OS) (v1_0 : Int32) (res : (OS)) (hf : f_X5_begin n th_0 v1_0 = some res) : CG l k yX5_begin cX5_begin 2 none 0 0 0 0 [.ref (a_th 0), .int v1_0] (wRules k a_th th_0) (Qv k (fun u : OS => wRules k a_th u) (fun u : OS => res = u)) := by
  refine CG.ofV (by decide) (Nat.le_of_ble_eq_true rfl) (fun p e s m args below meth c A Q E hnm hW hA hret ls hl => ?_)
  have hl : lv_has ls 2 [(0, .ref (a_th 0)), (1, .int v1_0)] := hl
  unfold f_X5_begin at hf
  refine k_aload_n E hl 0 dX5_begin_0 rfl ?_
  refine k_iload_n E hl 1 dX5_begin_1 rfl ?_
  obtain ⟨th_1, eth_1, hf⟩ := oL hf
  refine pf_X5_9 (ws2 := wRules k a_th th_1) E hW 0 rfl rfl rfl (Nat.le_of_ble_eq_true rfl) dX5_begin_2 (by rw [eth_1]; rfl) (fun H locs hW => ?_)
  refine k_aload_n E hl 0 dX5_begin_5 rfl ?_
  refine lv_iconst (v := (0 : Int32)) E.hx E.hb dX5_begin_6 ic_0 ?_
  obtain ⟨th_2, eth_2, hf⟩ := oL hf
  refine pf_X5_15 (ws2 := wRules k a_th th_2) E hW 0 rfl rfl rfl (Nat.le_of_ble_eq_true rfl) dX5_begin_7 (by rw [eth_2]; rfl) (fun H locs hW => ?_)
  refine k_aload_n E hl 0 dX5_begin_10 rfl ?_
  refine k_wconst hE E hW (n := "EVERY") (3 : Int32) (by decide) rfl tm_293 dX5_begin_11 ?_
  obtain ⟨hin, hf⟩ := oI hf
  refine k_wusual hE E hW hin tm_1228 dX5_begin_14 ?_
  obtain ⟨th_3, eth_3, hf⟩ := oL hf
  refine pf_X5_18 (ws2 := wRules k a_th th_3) E hW 0 rfl rfl rfl (Nat.le_of_ble_eq_true rfl) dX5_begin_17 (by rw [eth_3]; rfl) (fun H locs hW => ?_)
  refine k_aload_n E hl 0 dX5_begin_20 rfl ?_
  refine k_wconst hE E hW (n := "BASE") (4 : Int32) (by decide) rfl tm_295 dX5_begin_21 ?_
  obtain ⟨hin, hf⟩ := oI hf
  refine k_wusual hE E hW hin tm_1228 dX5_begin_24 ?_
  obtain ⟨th_4, eth_4, hf⟩ := oL hf
  refine pf_X5_21 (ws2 := wRules k a_th th_4) E hW 0 rfl rfl rfl (Nat.le_of_ble_eq_true rfl) dX5_begin_27 (by rw [eth_4]; rfl) (fun H locs hW => ?_)
  refine k_aload_n E hl 0 dX5_begin_30 rfl ?_
  refine k_wconst hE E hW (n := "FADE") (5 : Int32) (by decide) rfl tm_297 dX5_begin_31 ?_
  obtain ⟨hin, hf⟩ := oI hf
  refine k_wusual hE E hW hin tm_1228 dX5_begin_34 ?_
  obtain ⟨th_5, eth_5, hf⟩ := oL hf
  refine pf_X5_24 (ws2 := wRules k a_th th_5) E hW 0 rfl rfl rfl (Nat.le_of_ble_eq_true rfl) dX5_begin_37 (by rw [eth_5]; rfl) (fun H locs hW => ?_)
  refine k_aload_n E hl 0 dX5_begin_40 rfl ?_
  refine k_wconst hE E hW (n := "PATIENCE") (6 : Int32) (by decide) rfl tm_299 dX5_begin_41 ?_
  obtain ⟨hin, hf⟩ := oI hf
  refine k_wusual hE E hW hin tm_1228 dX5_begin_44 ?_
  obtain ⟨th_6, eth_6, hf⟩ := oL hf
  refine pf_X5_27 (ws2 := wRules k a_th th_6) E hW 0 rfl rfl rfl (Nat.le_of_ble_eq_true rfl) dX5_begin_47 (by rw [eth_6]; rfl) (fun H locs hW => ?_)
  refine k_aload_n E hl 0 dX5_begin_50 rfl ?_
  refine k_wconst hE E hW (n := "APPEAL") (7 : Int32) (by decide) rfl tm_301 dX5_begin_51 ?_
  obtain ⟨hin, hf⟩ := oI hf
  refine k_wusual hE E hW hin tm_1228 dX5_begin_54 ?_
  obtain ⟨th_7, eth_7, hf⟩ := oL hf
  refine pf_X5_30 (ws2 := wRules k a_th th_7) E hW 0 rfl rfl rfl (Nat.le_of_ble_eq_true rfl) dX5_begin_57 (by rw [eth_7]; rfl) (fun H locs hW => ?_)
  exact hret th_7 _ _ _ _ _ _ hW (Option.some.inj hf).symm (by decide) (by decide) dX5_begin_60
def f_X5_set (n : Nat) (th_0 : OS) (v1_0 : Int32) (v2_0 : Int32) : Option (OS) :=
  gI 14 v1_0 (
  gI 14 v1_0 (Let (wMap v1_0) (fun x_1 : Int32 =>
  if (x_1).toInt < 1 ∨ 5 < (x_1).toInt then (
  some th_0) else (if x_1 = (1 : Int32) then (
  Let (sI th_0 2 v2_0) (fun th_2 : OS =>
  some th_2)) else (if x_1 = (2 : Int32) then (
  Let (sI th_0 3 v2_0) (fun th_3 : OS =>
  some th_3)) else (if x_1 = (3 : Int32) then (
  Let (sI th_0 4 v2_0) (fun th_4 : OS =>
  some th_4)) else (if x_1 = (4 : Int32) then (
  Let (sI th_0 5 v2_0) (fun th_5 : OS =>
  some th_5)) else (Let (sI th_0 6 v2_0) (fun th_6 : OS =>
  some th_6)))))))))
set_option maxHeartbeats 4000000 in
set_option maxRecDepth 100000 in
theorem c_X5_set (n : Nat) (l : Launch) (k : KT) (hE : EH k) (a_th : Nat → Nat) (th_0 : OS) (v1_0 : Int32) (v2_0 : Int32) (res : (OS)) (hf : f_X5_set n th_0 v1_0 v2_0 = some res) : CG l k yX5_set cX5_set 3 none 1 0 0 20 [.ref (a_th 0), .ref (wordAd k v1_0), .int v2_0] (wRules k a_th th_0) (Qv k (fun u : OS => wRules k a_th u) (fun u : OS => res = u)) := by
  refine CG.ofV (by decide) (Nat.le_of_ble_eq_true rfl) (fun p e s m args below meth c A Q E hnm hW hA hret ls hl => ?_)
  have hl : lv_has ls 3 [(0, .ref (a_th 0)), (1, .ref (wordAd k v1_0)), (2, .int v2_0)] := hl
  unfold f_X5_set at hf
  refine k_smap hE E hW tm_874 dX5_set_0 (fun aw_0 hw_0 => ?_)
  refine k_aload_n E hl 1 dX5_set_3 rfl ?_
  obtain ⟨hin, hf⟩ := oI hf
  refine k_ordinal hE E ul_X5_73 v1_0 hin dX5_set_4 hW hA hl ⟨by decide, by decide⟩ ⟨by decide, by decide⟩ (Nat.le_of_ble_eq_true rfl) (fun H locs hW => ?_)
  obtain ⟨hin, hf⟩ := oI hf
  obtain ⟨x_1, ex_1, hf⟩ := oL hf
  refine k_smald E hW hw_0 hin dX5_set_7 ?_
  refine k_topi ex_1 ?_
  by_cases hsw : (x_1).toInt < 1 ∨ 5 < (x_1).toInt
  · have hf := oT hsw hf
    refine lv_tableOut (tgt := 84) E.hx E.hb dX5_set_8 hsw (by decide) ?_
    exact hret th_0 _ _ _ _ _ _ hW (Option.some.inj hf).symm (by decide) (by decide) dX5_set_84
  · have hf := oF hsw hf
    by_cases hc : x_1 = (1 : Int32)
    · have hf := oT hc hf
      refine lv_tableIn (off := (36)) (tgt := 44) E.hx E.hb dX5_set_8 (by rw [hc]; decide) (by rw [hc]; decide) (by rw [hc]; rfl) (by decide) ?_
      refine k_aload_n E hl 0 dX5_set_44 rfl ?_
      refine k_iload_n E hl 2 dX5_set_45 rfl ?_
      obtain ⟨th_2, eth_2, hf⟩ := oL hf
      refine pf_X5_18 (ws2 := wRules k a_th th_2) E hW 0 rfl rfl rfl (Nat.le_of_ble_eq_true rfl) dX5_set_46 (by rw [eth_2]; rfl) (fun H locs hW => ?_)
      refine lv_goto (tgt := 84) E.hx E.hb dX5_set_49 (by decide) ?_
      exact hret th_2 _ _ _ _ _ _ hW (Option.some.inj hf).symm (by decide) (by decide) dX5_set_84
    have hf := oF hc hf; have hn_1 := hc; clear hc
    by_cases hc : x_1 = (2 : Int32)
    · have hf := oT hc hf
      refine lv_tableIn (off := (44)) (tgt := 52) E.hx E.hb dX5_set_8 (by rw [hc]; decide) (by rw [hc]; decide) (by rw [hc]; rfl) (by decide) ?_
      refine k_aload_n E hl 0 dX5_set_52 rfl ?_
      refine k_iload_n E hl 2 dX5_set_53 rfl ?_
      obtain ⟨th_3, eth_3, hf⟩ := oL hf
      refine pf_X5_21 (ws2 := wRules k a_th th_3) E hW 0 rfl rfl rfl (Nat.le_of_ble_eq_true rfl) dX5_set_54 (by rw [eth_3]; rfl) (fun H locs hW => ?_)
      refine lv_goto (tgt := 84) E.hx E.hb dX5_set_57 (by decide) ?_
      exact hret th_3 _ _ _ _ _ _ hW (Option.some.inj hf).symm (by decide) (by decide) dX5_set_84
    have hf := oF hc hf; have hn_2 := hc; clear hc
    by_cases hc : x_1 = (3 : Int32)
    · have hf := oT hc hf
      refine lv_tableIn (off := (52)) (tgt := 60) E.hx E.hb dX5_set_8 (by rw [hc]; decide) (by rw [hc]; decide) (by rw [hc]; rfl) (by decide) ?_
      refine k_aload_n E hl 0 dX5_set_60 rfl ?_
      refine k_iload_n E hl 2 dX5_set_61 rfl ?_
      obtain ⟨th_4, eth_4, hf⟩ := oL hf
      refine pf_X5_24 (ws2 := wRules k a_th th_4) E hW 0 rfl rfl rfl (Nat.le_of_ble_eq_true rfl) dX5_set_62 (by rw [eth_4]; rfl) (fun H locs hW => ?_)
      refine lv_goto (tgt := 84) E.hx E.hb dX5_set_65 (by decide) ?_
      exact hret th_4 _ _ _ _ _ _ hW (Option.some.inj hf).symm (by decide) (by decide) dX5_set_84
    have hf := oF hc hf; have hn_3 := hc; clear hc
    by_cases hc : x_1 = (4 : Int32)
    · have hf := oT hc hf
      refine lv_tableIn (off := (60)) (tgt := 68) E.hx E.hb dX5_set_8 (by rw [hc]; decide) (by rw [hc]; decide) (by rw [hc]; rfl) (by decide) ?_
      refine k_aload_n E hl 0 dX5_set_68 rfl ?_
      refine k_iload_n E hl 2 dX5_set_69 rfl ?_
      obtain ⟨th_5, eth_5, hf⟩ := oL hf
      refine pf_X5_27 (ws2 := wRules k a_th th_5) E hW 0 rfl rfl rfl (Nat.le_of_ble_eq_true rfl) dX5_set_70 (by rw [eth_5]; rfl) (fun H locs hW => ?_)
      refine lv_goto (tgt := 84) E.hx E.hb dX5_set_73 (by decide) ?_
      exact hret th_5 _ _ _ _ _ _ hW (Option.some.inj hf).symm (by decide) (by decide) dX5_set_84
    have hf := oF hc hf; have hn_4 := hc; clear hc
    have hc : x_1 = (5 : Int32) := by
      apply Int32.toInt_inj.mp; rw [show ((5 : Int32)).toInt = 5 from by decide]
      have hn_1 : ¬ (x_1).toInt = 1 := fun z => hn_1 (Int32.toInt_inj.mp (z.trans (show (1 : Int) = ((1 : Int32)).toInt from by decide)))
      have hn_2 : ¬ (x_1).toInt = 2 := fun z => hn_2 (Int32.toInt_inj.mp (z.trans (show (2 : Int) = ((2 : Int32)).toInt from by decide)))
      have hn_3 : ¬ (x_1).toInt = 3 := fun z => hn_3 (Int32.toInt_inj.mp (z.trans (show (3 : Int) = ((3 : Int32)).toInt from by decide)))
      have hn_4 : ¬ (x_1).toInt = 4 := fun z => hn_4 (Int32.toInt_inj.mp (z.trans (show (4 : Int) = ((4 : Int32)).toInt from by decide)))
      omega
    refine lv_tableIn (off := (68)) (tgt := 76) E.hx E.hb dX5_set_8 (by rw [hc]; decide) (by rw [hc]; decide) (by rw [hc]; rfl) (by decide) ?_
    refine k_aload_n E hl 0 dX5_set_76 rfl ?_
    refine k_iload_n E hl 2 dX5_set_77 rfl ?_
    obtain ⟨th_6, eth_6, hf⟩ := oL hf
    refine pf_X5_30 (ws2 := wRules k a_th th_6) E hW 0 rfl rfl rfl (Nat.le_of_ble_eq_true rfl) dX5_set_78 (by rw [eth_6]; rfl) (fun H locs hW => ?_)
    refine lv_goto (tgt := 84) E.hx E.hb dX5_set_81 (by decide) ?_
    exact hret th_6 _ _ _ _ _ _ hW (Option.some.inj hf).symm (by decide) (by decide) dX5_set_84
def s_X7_standing_52 (n : Nat) (z_p0 : Nat) (p0_0 : OS) (w1_j52 : Int32) (w2_j52 : Int32) (w4_j52 : Int32) (w5_j52 : Int32) (w6_j52 : Int32) (w7_j52 : Int32) (rc_11 : (Int32) → Option (Int32)) (rc_52 : (Int32) → (Int32) → Option (Int32)) (w8_j52 : Int32) (w9_j52 : Int32) : Option (Int32) :=
  if w7_j52 ≤ w9_j52 then (
  if w8_j52 = 0 then (
  Let (w5_j52 + (1 : Int32)) (fun v5_2 : Int32 =>
  rc_11 v5_2)) else (
  some w6_j52)) else (
  if w8_j52 = 0 then (
  if w8_j52 = 0 then (
  Let (w5_j52 + (1 : Int32)) (fun v5_3 : Int32 =>
  rc_11 v5_3)) else (
  some w6_j52)) else (
  gI 14 w6_j52 (
  gI 14 w6_j52 (gI (sLenL.getD w6_j52.toNatClampNeg 0) w9_j52 (Let (sChr w6_j52 w9_j52) (fun x_4 : Int32 =>
  bnd (f_X1_at n z_p0 p0_0 (w1_j52 + w9_j52)) (fun (r_5 : Int32) =>
  if x_4 = r_5 then (
  Let (w9_j52 + (1 : Int32)) (fun v9_7 : Int32 =>
  rc_52 (1 : Int32) v9_7)) else (
  Let (w9_j52 + (1 : Int32)) (fun v9_6 : Int32 =>
  rc_52 (0 : Int32) v9_6)))))))))
def l_X7_standing_52 (n : Nat) (z_p0 : Nat) (p0_0 : OS) (w1_j52 : Int32) (w2_j52 : Int32) (w4_j52 : Int32) (w5_j52 : Int32) (w6_j52 : Int32) (w7_j52 : Int32) (rc_11 : (Int32) → Option (Int32)) : Nat → (Int32) → (Int32) → Option (Int32)
  | 0 => fun _ _ => none
  | N + 1 => s_X7_standing_52 n z_p0 p0_0 w1_j52 w2_j52 w4_j52 w5_j52 w6_j52 w7_j52 rc_11 (l_X7_standing_52 n z_p0 p0_0 w1_j52 w2_j52 w4_j52 w5_j52 w6_j52 w7_j52 rc_11 N)
def j_X7_standing_47 (n : Nat) (z_p0 : Nat) (p0_0 : OS) (w1_j11 : Int32) (w2_j11 : Int32) (w4_j11 : Int32) (rc_11 : (Int32) → Option (Int32)) (w5_j47 : Int32) (w6_j47 : Int32) (w7_j47 : Int32) (s0_j47 : Int32) : Option (Int32) :=
  l_X7_standing_52 n z_p0 p0_0 w1_j11 w2_j11 w4_j11 w5_j47 w6_j47 w7_j47 rc_11 n s0_j47 (0 : Int32)
def s_X7_standing_11 (n : Nat) (z_p0 : Nat) (p0_0 : OS) (w1_j11 : Int32) (w2_j11 : Int32) (w4_j11 : Int32) (rc_11 : (Int32) → Option (Int32)) (w5_j11 : Int32) : Option (Int32) :=
  if w4_j11 ≤ w5_j11 then (
  some (0 : Int32)) else (
  gI 14 w5_j11 (
  gI 14 w5_j11 (
  gI 14 w5_j11 (Let (sLen w5_j11) (fun x_1 : Int32 =>
  if x_1 = (w2_j11 - w1_j11) then (
  j_X7_standing_47 n z_p0 p0_0 w1_j11 w2_j11 w4_j11 rc_11 w5_j11 w5_j11 x_1 (1 : Int32)) else (
  j_X7_standing_47 n z_p0 p0_0 w1_j11 w2_j11 w4_j11 rc_11 w5_j11 w5_j11 x_1 (0 : Int32)))))))
def l_X7_standing_11 (n : Nat) (z_p0 : Nat) (p0_0 : OS) (w1_j11 : Int32) (w2_j11 : Int32) (w4_j11 : Int32) : Nat → (Int32) → Option (Int32)
  | 0 => fun _ => none
  | N + 1 => s_X7_standing_11 n z_p0 p0_0 w1_j11 w2_j11 w4_j11 (l_X7_standing_11 n z_p0 p0_0 w1_j11 w2_j11 w4_j11 N)
def f_X7_standing (n : Nat) (z_p0 : Nat) (p0_0 : OS) (v1_0 : Int32) (v2_0 : Int32) : Option (Int32) :=
  l_X7_standing_11 n z_p0 p0_0 v1_0 v2_0 (14 : Int32) n (0 : Int32)
set_option maxHeartbeats 4000000 in
set_option maxRecDepth 100000 in
theorem c_X7_standing (n : Nat) (l : Launch) (k : KT) (hE : EH k) (a_p0 : Nat → Nat) (z_p0 : Nat) (p0_0 : OS) (v1_0 : Int32) (v2_0 : Int32) (res : (Int32)) (hf : f_X7_standing n z_p0 p0_0 v1_0 v2_0 = some res) : CG l k yX7_standing cX7_standing 10 (some (.object "MemoryCourt$Word")) 4 0 0 90 [.ref (a_p0 0), .int v1_0, .int v2_0] (wBytes k a_p0 z_p0 p0_0) (Qw k (fun u : Unit => wBytes k a_p0 z_p0 p0_0) (fun (r0 : Nat) (u : Unit) => ∃ r, r0 = wordAd k r ∧ res = r)) := by
  refine CG.ofW (by decide) (Nat.le_of_ble_eq_true rfl) (fun p e s m args below meth c A Q E hnm hW hA hret ls hl => ?_)
  have hl : lv_has ls 10 [(0, .ref (a_p0 0)), (1, .int v1_0), (2, .int v2_0)] := hl
  unfold f_X7_standing at hf
  refine k_wall hE E hW tm_781 dX7_standing_0 (fun aw_0 hw_0 => ?_)
  refine lv_astore_n (lv' := [(3, .ref aw_0), (0, .ref (a_p0 0)), (1, .int v1_0), (2, .int v2_0)]) E.hx E.hb dX7_standing_3 rfl hl (by decide) rfl (fun ls hl => ?_)
  refine k_aload_n E hl 0 dX7_standing_4 rfl ?_
  refine k_walen E hW hw_0 dX7_standing_5 ?_
  refine k_istore (lv' := [(4, .int (14 : Int32)), (3, .ref aw_0), (0, .ref (a_p0 0)), (1, .int v1_0), (2, .int v2_0)]) E rfl hl dX7_standing_6 (by decide) rfl (fun ls hl => ?_)
  refine lv_iconst (v := (0 : Int32)) E.hx E.hb dX7_standing_8 ic_0 ?_
  refine k_istore (lv' := [(5, .int (0 : Int32)), (4, .int (14 : Int32)), (3, .ref aw_0), (0, .ref (a_p0 0)), (1, .int v1_0), (2, .int v2_0)]) E rfl hl dX7_standing_9 (by decide) rfl (fun ls hl => ?_)
  have L_11 : ∀ (N_11 : Nat) (w5_j11 : Int32) (H : Heap) (locs : List Loc) (ls : Array Slot) (hW : WD k A s.heap (wBytes k a_p0 z_p0 p0_0) H locs) (hl : lv_has ls 10 [(0, .ref (a_p0 0)), (1, .int v1_0), (2, .int v2_0), (3, .ref aw_0), (4, .int (14 : Int32)), (5, .int w5_j11)]) (hf : l_X7_standing_11 n z_p0 p0_0 v1_0 v2_0 (14 : Int32) N_11 w5_j11 = some res), W p l e { frames := 4, cells := 0, slots := 0, locals := 90 } s m args below meth c H locs 0 0 Q (F0 m 11 ls []) := by
    intro N_11
    induction N_11 with
    | zero => intro w5_j11 H locs ls hW hl hf; exact o0 hf
    | succ N_11 ih_11 =>
      intro w5_j11 H locs ls hW hl hf
      have hf : s_X7_standing_11 n z_p0 p0_0 v1_0 v2_0 (14 : Int32) (l_X7_standing_11 n z_p0 p0_0 v1_0 v2_0 (14 : Int32) N_11) w5_j11 = some res := hf
      unfold s_X7_standing_11 at hf
      refine k_iload E hl 5 dX7_standing_11 rfl ?_
      refine k_iload E hl 4 dX7_standing_13 rfl ?_
      refine lv_icmp_ge (tgt := 112) E.hx E.hb dX7_standing_15 (by decide) (fun hc => ?_) (fun hc => ?_)
      · have hf := oT hc hf
        refine k_wconst hE E hW (n := "OTHER") (0 : Int32) (by decide) rfl tm_786 dX7_standing_112 ?_
        exact hret _ () _ _ _ _ _ _ hW ⟨_, rfl, (Option.some.inj hf).symm⟩ (by decide) (by decide) dX7_standing_115
      · have hf := oF hc hf
        refine k_aload_n E hl 3 dX7_standing_18 rfl ?_
        refine k_iload E hl 5 dX7_standing_19 rfl ?_
        obtain ⟨hin, hf⟩ := oI hf
        refine k_wald E hW hw_0 hin dX7_standing_21 ?_
        refine lv_astore (lv' := [(6, .ref (wordAd k w5_j11)), (0, .ref (a_p0 0)), (1, .int v1_0), (2, .int v2_0), (3, .ref aw_0), (4, .int (14 : Int32)), (5, .int w5_j11)]) E.hx E.hb dX7_standing_22 hl (by decide) rfl (fun ls hl => ?_)
        refine k_aload E hl 0 dX7_standing_24 rfl ?_
        obtain ⟨hin, hf⟩ := oI hf
        refine k_wtext hE E hW hin tm_1229 dX7_standing_26 ?_
        obtain ⟨hin, hf⟩ := oI hf
        obtain ⟨x_1, ex_1, hf⟩ := oL hf
        refine k_callO (As := []) (c_slen l k hE w5_j11 (sIn_of hin)) E vl_X7_87 (strF hE E (sIn_of hin)).1 dX7_standing_29 rfl hW hA hl rfl ⟨by decide, by decide⟩ ⟨by decide, by decide⟩ (Nat.le_of_ble_eq_true rfl) (fun r H locs hp hW => ?_)
        subst hp
        refine k_topi ex_1 ?_
        refine k_istore (lv' := [(7, .int x_1), (6, .ref (wordAd k w5_j11)), (0, .ref (a_p0 0)), (1, .int v1_0), (2, .int v2_0), (3, .ref aw_0), (4, .int (14 : Int32)), (5, .int w5_j11)]) E rfl hl dX7_standing_32 (by decide) rfl (fun ls hl => ?_)
        refine k_iload E hl 0 dX7_standing_34 rfl ?_
        refine k_iload_n E hl 4 dX7_standing_36 rfl ?_
        refine k_iload_n E hl 3 dX7_standing_37 rfl ?_
        refine lv_isub E.hx E.hb dX7_standing_38 ?_
        have J_47 : ∀ (w5_j47 : Int32) (w6_j47 : Int32) (w7_j47 : Int32) (s0_j47 : Int32) (H : Heap) (locs : List Loc) (ls : Array Slot) (hW : WD k A s.heap (wBytes k a_p0 z_p0 p0_0) H locs) (hl : lv_has ls 10 [(0, .ref (a_p0 0)), (1, .int v1_0), (2, .int v2_0), (3, .ref aw_0), (4, .int (14 : Int32)), (5, .int w5_j47), (6, .ref (wordAd k w6_j47)), (7, .int w7_j47)]) (hf : j_X7_standing_47 n z_p0 p0_0 v1_0 v2_0 (14 : Int32) (l_X7_standing_11 n z_p0 p0_0 v1_0 v2_0 (14 : Int32) N_11) w5_j47 w6_j47 w7_j47 s0_j47 = some res), W p l e { frames := 4, cells := 0, slots := 0, locals := 90 } s m args below meth c H locs 0 0 Q (F0 m 47 ls [.int s0_j47]) := by
          intro w5_j47 w6_j47 w7_j47 s0_j47 H locs ls hW hl hf
          unfold j_X7_standing_47 at hf
          refine k_istore (lv' := [(8, .int s0_j47), (0, .ref (a_p0 0)), (1, .int v1_0), (2, .int v2_0), (3, .ref aw_0), (4, .int (14 : Int32)), (5, .int w5_j47), (6, .ref (wordAd k w6_j47)), (7, .int w7_j47)]) E rfl hl dX7_standing_47 (by decide) rfl (fun ls hl => ?_)
          refine lv_iconst (v := (0 : Int32)) E.hx E.hb dX7_standing_49 ic_0 ?_
          refine k_istore (lv' := [(9, .int (0 : Int32)), (8, .int s0_j47), (0, .ref (a_p0 0)), (1, .int v1_0), (2, .int v2_0), (3, .ref aw_0), (4, .int (14 : Int32)), (5, .int w5_j47), (6, .ref (wordAd k w6_j47)), (7, .int w7_j47)]) E rfl hl dX7_standing_50 (by decide) rfl (fun ls hl => ?_)
          have L_52 : ∀ (N_52 : Nat) (w8_j52 : Int32) (w9_j52 : Int32) (H : Heap) (locs : List Loc) (ls : Array Slot) (hW : WD k A s.heap (wBytes k a_p0 z_p0 p0_0) H locs) (hl : lv_has ls 10 [(0, .ref (a_p0 0)), (1, .int v1_0), (2, .int v2_0), (3, .ref aw_0), (4, .int (14 : Int32)), (5, .int w5_j47), (6, .ref (wordAd k w6_j47)), (7, .int w7_j47), (8, .int w8_j52), (9, .int w9_j52)]) (hf : l_X7_standing_52 n z_p0 p0_0 v1_0 v2_0 (14 : Int32) w5_j47 w6_j47 w7_j47 (l_X7_standing_11 n z_p0 p0_0 v1_0 v2_0 (14 : Int32) N_11) N_52 w8_j52 w9_j52 = some res), W p l e { frames := 4, cells := 0, slots := 0, locals := 90 } s m args below meth c H locs 0 0 Q (F0 m 52 ls []) := by
            intro N_52
            induction N_52 with
            | zero => intro w8_j52 w9_j52 H locs ls hW hl hf; exact o0 hf
            | succ N_52 ih_52 =>
              intro w8_j52 w9_j52 H locs ls hW hl hf
              have hf : s_X7_standing_52 n z_p0 p0_0 v1_0 v2_0 (14 : Int32) w5_j47 w6_j47 w7_j47 (l_X7_standing_11 n z_p0 p0_0 v1_0 v2_0 (14 : Int32) N_11) (l_X7_standing_52 n z_p0 p0_0 v1_0 v2_0 (14 : Int32) w5_j47 w6_j47 w7_j47 (l_X7_standing_11 n z_p0 p0_0 v1_0 v2_0 (14 : Int32) N_11) N_52) w8_j52 w9_j52 = some res := hf
              unfold s_X7_standing_52 at hf
              refine k_iload E hl 9 dX7_standing_52 rfl ?_
              refine k_iload E hl 7 dX7_standing_54 rfl ?_
              refine lv_icmp_ge (tgt := 98) E.hx E.hb dX7_standing_56 (by decide) (fun hc => ?_) (fun hc => ?_)
              · have hf := oT hc hf
                refine k_iload E hl 8 dX7_standing_98 rfl ?_
                refine lv_if_eq (tgt := 106) E.hx E.hb dX7_standing_100 (by decide) (fun hc => ?_) (fun hc => ?_)
                · have hf := oT hc hf
                  obtain ⟨v5_2, ev5_2, hf⟩ := oL hf
                  refine k_iinc (lv' := [(5, .int v5_2), (0, .ref (a_p0 0)), (1, .int v1_0), (2, .int v2_0), (3, .ref aw_0), (4, .int (14 : Int32)), (6, .ref (wordAd k w6_j47)), (7, .int w7_j47), (8, .int w8_j52), (9, .int w9_j52)]) E hl 5 dX7_standing_106 rfl (ev5_2.trans (congrArg (fun z => w5_j47 + z) ic_1.symm)) (by decide) rfl (fun ls hl => ?_)
                  refine lv_goto (tgt := 11) E.hx E.hb dX7_standing_109 (by decide) ?_
                  exact ih_11 v5_2 _ _ _ hW (lv_sub hl [1, 2, 3, 4, 5, 0] rfl) hf
                · have hf := oF hc hf
                  refine k_aload E hl 6 dX7_standing_103 rfl ?_
                  exact hret _ () _ _ _ _ _ _ hW ⟨_, rfl, (Option.some.inj hf).symm⟩ (by decide) (by decide) dX7_standing_105
              · have hf := oF hc hf
                refine k_iload E hl 8 dX7_standing_59 rfl ?_
                refine lv_if_eq (tgt := 98) E.hx E.hb dX7_standing_61 (by decide) (fun hc => ?_) (fun hc => ?_)
                · have hf := oT hc hf
                  refine k_iload E hl 8 dX7_standing_98 rfl ?_
                  refine lv_if_eq (tgt := 106) E.hx E.hb dX7_standing_100 (by decide) (fun hc => ?_) (fun hc => ?_)
                  · have hf := oT hc hf
                    obtain ⟨v5_3, ev5_3, hf⟩ := oL hf
                    refine k_iinc (lv' := [(5, .int v5_3), (0, .ref (a_p0 0)), (1, .int v1_0), (2, .int v2_0), (3, .ref aw_0), (4, .int (14 : Int32)), (6, .ref (wordAd k w6_j47)), (7, .int w7_j47), (8, .int w8_j52), (9, .int w9_j52)]) E hl 5 dX7_standing_106 rfl (ev5_3.trans (congrArg (fun z => w5_j47 + z) ic_1.symm)) (by decide) rfl (fun ls hl => ?_)
                    refine lv_goto (tgt := 11) E.hx E.hb dX7_standing_109 (by decide) ?_
                    exact ih_11 v5_3 _ _ _ hW (lv_sub hl [1, 2, 3, 4, 5, 0] rfl) hf
                  · have hf := oF hc hf
                    refine k_aload E hl 6 dX7_standing_103 rfl ?_
                    exact hret _ () _ _ _ _ _ _ hW ⟨_, rfl, (Option.some.inj hf).symm⟩ (by decide) (by decide) dX7_standing_105
                · have hf := oF hc hf
                  refine k_aload E hl 6 dX7_standing_64 rfl ?_
                  obtain ⟨hin, hf⟩ := oI hf
                  refine k_wtext hE E hW hin tm_1229 dX7_standing_66 ?_
                  refine k_iload E hl 9 dX7_standing_69 rfl ?_
                  obtain ⟨hin, hf⟩ := oI hf
                  obtain ⟨hin2, hf⟩ := oI hf
                  obtain ⟨x_4, ex_4, hf⟩ := oL hf
                  refine k_callO (As := [.int w9_j52]) (c_sat l k hE w6_j47 w9_j52 (sIn_of hin) hin2) E vl_X7_93 (strF hE E (sIn_of hin)).1 dX7_standing_71 rfl hW hA hl rfl ⟨by decide, by decide⟩ ⟨by decide, by decide⟩ (Nat.le_of_ble_eq_true rfl) (fun r H locs hp hW => ?_)
                  subst hp
                  refine k_topi ex_4 ?_
                  refine k_aload_n E hl 0 dX7_standing_74 rfl ?_
                  refine k_iload_n E hl 1 dX7_standing_75 rfl ?_
                  refine k_iload E hl 9 dX7_standing_76 rfl ?_
                  refine lv_iadd E.hx E.hb dX7_standing_78 ?_
                  obtain ⟨r_5, hg, hf⟩ := ob hf
                  refine k_callVi (As := [.int (v1_0 + w9_j52)]) (rest := [.int x_4]) (ws2 := fun u => wBytes k a_p0 z_p0 p0_0) (c_X1_at n l k a_p0 z_p0 p0_0 (v1_0 + w9_j52) r_5 hg) E vl_X7_97 dX7_standing_79 rfl [0, 1] 2 0 hW hA hl rfl rfl rfl rfl ⟨by decide, by decide⟩ ⟨by decide, by decide⟩ (Nat.le_of_ble_eq_true rfl) rfl (fun _ => rfl) (fun _ => rfl) (fun r u H locs hp hW => ?_)
                  cases hp
                  have hW : WD k A s.heap (wBytes k a_p0 z_p0 p0_0) H locs := hW
                  refine lv_icmp_ne (tgt := 89) E.hx E.hb dX7_standing_82 (by decide) (fun hc => ?_) (fun hc => ?_)
                  · have hf := oF hc hf
                    refine lv_iconst (v := (0 : Int32)) E.hx E.hb dX7_standing_89 ic_0 ?_
                    refine k_istore (lv' := [(8, .int (0 : Int32)), (0, .ref (a_p0 0)), (1, .int v1_0), (2, .int v2_0), (3, .ref aw_0), (4, .int (14 : Int32)), (5, .int w5_j47), (6, .ref (wordAd k w6_j47)), (7, .int w7_j47), (9, .int w9_j52)]) E rfl hl dX7_standing_90 (by decide) rfl (fun ls hl => ?_)
                    obtain ⟨v9_6, ev9_6, hf⟩ := oL hf
                    refine k_iinc (lv' := [(9, .int v9_6), (8, .int (0 : Int32)), (0, .ref (a_p0 0)), (1, .int v1_0), (2, .int v2_0), (3, .ref aw_0), (4, .int (14 : Int32)), (5, .int w5_j47), (6, .ref (wordAd k w6_j47)), (7, .int w7_j47)]) E hl 9 dX7_standing_92 rfl (ev9_6.trans (congrArg (fun z => w9_j52 + z) ic_1.symm)) (by decide) rfl (fun ls hl => ?_)
                    refine lv_goto (tgt := 52) E.hx E.hb dX7_standing_95 (by decide) ?_
                    exact ih_52 (0 : Int32) v9_6 _ _ _ hW (lv_sub hl [2, 3, 4, 5, 6, 7, 8, 9, 1, 0] rfl) hf
                  · have hf := oT hc hf
                    refine lv_iconst (v := (1 : Int32)) E.hx E.hb dX7_standing_85 ic_1 ?_
                    refine lv_goto (tgt := 90) E.hx E.hb dX7_standing_86 (by decide) ?_
                    refine k_istore (lv' := [(8, .int (1 : Int32)), (0, .ref (a_p0 0)), (1, .int v1_0), (2, .int v2_0), (3, .ref aw_0), (4, .int (14 : Int32)), (5, .int w5_j47), (6, .ref (wordAd k w6_j47)), (7, .int w7_j47), (9, .int w9_j52)]) E rfl hl dX7_standing_90 (by decide) rfl (fun ls hl => ?_)
                    obtain ⟨v9_7, ev9_7, hf⟩ := oL hf
                    refine k_iinc (lv' := [(9, .int v9_7), (8, .int (1 : Int32)), (0, .ref (a_p0 0)), (1, .int v1_0), (2, .int v2_0), (3, .ref aw_0), (4, .int (14 : Int32)), (5, .int w5_j47), (6, .ref (wordAd k w6_j47)), (7, .int w7_j47)]) E hl 9 dX7_standing_92 rfl (ev9_7.trans (congrArg (fun z => w9_j52 + z) ic_1.symm)) (by decide) rfl (fun ls hl => ?_)
                    refine lv_goto (tgt := 52) E.hx E.hb dX7_standing_95 (by decide) ?_
                    exact ih_52 (1 : Int32) v9_7 _ _ _ hW (lv_sub hl [2, 3, 4, 5, 6, 7, 8, 9, 1, 0] rfl) hf
          exact L_52 n s0_j47 (0 : Int32) _ _ _ hW (lv_sub hl [2, 3, 4, 5, 6, 7, 8, 9, 1, 0] rfl) hf
        refine lv_icmp_ne (tgt := 46) E.hx E.hb dX7_standing_39 (by decide) (fun hc => ?_) (fun hc => ?_)
        · have hf := oF hc hf
          refine lv_iconst (v := (0 : Int32)) E.hx E.hb dX7_standing_46 ic_0 ?_
          exact J_47 w5_j11 w5_j11 x_1 (0 : Int32) _ _ _ hW (lv_sub hl [2, 3, 4, 5, 6, 7, 1, 0] rfl) hf
        · have hf := oT hc hf
          refine lv_iconst (v := (1 : Int32)) E.hx E.hb dX7_standing_42 ic_1 ?_
          refine lv_goto (tgt := 47) E.hx E.hb dX7_standing_43 (by decide) ?_
          exact J_47 w5_j11 w5_j11 x_1 (1 : Int32) _ _ _ hW (lv_sub hl [2, 3, 4, 5, 6, 7, 1, 0] rfl) hf
  exact L_11 n (0 : Int32) _ _ _ hW (lv_sub hl [3, 4, 5, 2, 1, 0] rfl) hf
def j_X4_kindAt_52 (n : Nat) (z_in : Nat) (th_0 : OS) (in_0 : OS) (w2_j52 : Int32) : Option (Int32) :=
  if w2_j52 < (48 : Int32) then (
  some (2 : Int32)) else (
  if (57 : Int32) < w2_j52 then (
  some (2 : Int32)) else (
  some (5 : Int32)))
def f_X4_kindAt (n : Nat) (th_0 : OS) (z_in : Nat) (in_0 : OS) (v1_0 : Int32) : Option (Int32) :=
  bnd (f_X1_at n z_in in_0 v1_0) (fun (r_1 : Int32) =>
  if r_1 = (-1 : Int32) then (
  some (0 : Int32)) else (
  if r_1 = (32 : Int32) then (
  some (1 : Int32)) else (
  if r_1 = (10 : Int32) then (
  some (1 : Int32)) else (
  if r_1 = (59 : Int32) then (
  some (3 : Int32)) else (
  if r_1 < (97 : Int32) then (
  j_X4_kindAt_52 n z_in th_0 in_0 r_1) else (
  if (122 : Int32) < r_1 then (
  j_X4_kindAt_52 n z_in th_0 in_0 r_1) else (
  some (4 : Int32))))))))
set_option maxHeartbeats 4000000 in
set_option maxRecDepth 100000 in
theorem c_X4_kindAt (n : Nat) (l : Launch) (k : KT) (a_th : Nat → Nat) (a_in : Nat → Nat) (a_ru : Nat → Nat) (a_co : Nat → Nat) (th_0 : OS) (z_in : Nat) (in_0 : OS) (v1_0 : Int32) (res : (Int32)) (hf : f_X4_kindAt n th_0 z_in in_0 v1_0 = some res) : CG l k yX4_kindAt cX4_kindAt 3 (some .int) 1 0 0 21 [.ref (a_th 0), .int v1_0] (wReader k a_th (a_in 0) (a_co 0) (a_ru 0) th_0 ++ wBytes k a_in z_in in_0) (Qi k (fun u : Unit => wReader k a_th (a_in 0) (a_co 0) (a_ru 0) th_0 ++ wBytes k a_in z_in in_0) (fun (r : Int32) (u : Unit) => res = r)) := by
  refine CG.ofI (by decide) (Nat.le_of_ble_eq_true rfl) (fun p e s m args below meth c A Q E hnm hW hA hret ls hl => ?_)
  have hl : lv_has ls 3 [(0, .ref (a_th 0)), (1, .int v1_0)] := hl
  unfold f_X4_kindAt at hf
  refine k_aload_n E hl 0 dX4_kindAt_0 rfl ?_
  refine gf_X4_52 E hW 0 rfl rfl dX4_kindAt_1 ?_
  refine k_iload_n E hl 1 dX4_kindAt_4 rfl ?_
  obtain ⟨r_1, hg, hf⟩ := ob hf
  refine k_callVi (As := [.int v1_0]) (rest := []) (ws2 := fun u => wReader k a_th (a_in 0) (a_co 0) (a_ru 0) th_0 ++ wBytes k a_in z_in in_0) (c_X1_at n l k a_in z_in in_0 v1_0 r_1 hg) E vl_X4_177 dX4_kindAt_5 rfl [1, 2] 2 1 hW hA hl rfl rfl rfl rfl ⟨by decide, by decide⟩ ⟨by decide, by decide⟩ (Nat.le_of_ble_eq_true rfl) rfl (fun _ => rfl) (fun _ => rfl) (fun r u H locs hp hW => ?_)
  cases hp
  have hW : WD k A s.heap (wReader k a_th (a_in 0) (a_co 0) (a_ru 0) th_0 ++ wBytes k a_in z_in in_0) H locs := hW
  refine k_istore_n (lv' := [(2, .int r_1), (0, .ref (a_th 0)), (1, .int v1_0)]) E rfl hl dX4_kindAt_8 rfl (by decide) rfl (fun ls hl => ?_)
  refine k_iload_n E hl 0 dX4_kindAt_9 rfl ?_
  refine lv_iconst (v := (-1 : Int32)) E.hx E.hb dX4_kindAt_10 ic_m1 ?_
  refine lv_icmp_ne (tgt := 16) E.hx E.hb dX4_kindAt_11 (by decide) (fun hc => ?_) (fun hc => ?_)
  · have hf := oF hc hf
    refine k_iload_n E hl 0 dX4_kindAt_16 rfl ?_
    refine lv_bipush (v := (32 : Int32)) E.hx E.hb dX4_kindAt_17 bp_32 ?_
    refine lv_icmp_eq (tgt := 28) E.hx E.hb dX4_kindAt_19 (by decide) (fun hc => ?_) (fun hc => ?_)
    · have hf := oT hc hf
      refine lv_iconst (v := (1 : Int32)) E.hx E.hb dX4_kindAt_28 ic_1 ?_
      exact hret _ () _ _ _ _ _ _ hW (Option.some.inj hf).symm rfl (by decide) (by decide) dX4_kindAt_29
    · have hf := oF hc hf
      refine k_iload_n E hl 0 dX4_kindAt_22 rfl ?_
      refine lv_bipush (v := (10 : Int32)) E.hx E.hb dX4_kindAt_23 bp_10 ?_
      refine lv_icmp_ne (tgt := 30) E.hx E.hb dX4_kindAt_25 (by decide) (fun hc => ?_) (fun hc => ?_)
      · have hf := oF hc hf
        refine k_iload_n E hl 0 dX4_kindAt_30 rfl ?_
        refine lv_bipush (v := (59 : Int32)) E.hx E.hb dX4_kindAt_31 bp_59 ?_
        refine lv_icmp_ne (tgt := 38) E.hx E.hb dX4_kindAt_33 (by decide) (fun hc => ?_) (fun hc => ?_)
        · have hf := oF hc hf
          refine k_iload_n E hl 0 dX4_kindAt_38 rfl ?_
          refine lv_bipush (v := (97 : Int32)) E.hx E.hb dX4_kindAt_39 bp_97 ?_
          have J_52 : ∀ (w2_j52 : Int32) (H : Heap) (locs : List Loc) (ls : Array Slot) (hW : WD k A s.heap (wReader k a_th (a_in 0) (a_co 0) (a_ru 0) th_0 ++ wBytes k a_in z_in in_0) H locs) (hl : lv_has ls 3 [(2, .int w2_j52)]) (hf : j_X4_kindAt_52 n z_in th_0 in_0 w2_j52 = some res), W p l e { frames := 1, cells := 0, slots := 0, locals := 21 } s m args below meth c H locs 0 0 Q (F0 m 52 ls []) := by
            intro w2_j52 H locs ls hW hl hf
            unfold j_X4_kindAt_52 at hf
            refine k_iload_n E hl 0 dX4_kindAt_52 rfl ?_
            refine lv_bipush (v := (48 : Int32)) E.hx E.hb dX4_kindAt_53 bp_48 ?_
            refine lv_icmp_lt (tgt := 68) E.hx E.hb dX4_kindAt_55 (by decide) (fun hc => ?_) (fun hc => ?_)
            · have hf := oT hc hf
              refine lv_iconst (v := (2 : Int32)) E.hx E.hb dX4_kindAt_68 ic_2 ?_
              exact hret _ () _ _ _ _ _ _ hW (Option.some.inj hf).symm rfl (by decide) (by decide) dX4_kindAt_69
            · have hf := oF hc hf
              refine k_iload_n E hl 0 dX4_kindAt_58 rfl ?_
              refine lv_bipush (v := (57 : Int32)) E.hx E.hb dX4_kindAt_59 bp_57 ?_
              refine lv_icmp_gt (tgt := 68) E.hx E.hb dX4_kindAt_61 (by decide) (fun hc => ?_) (fun hc => ?_)
              · have hf := oT hc hf
                refine lv_iconst (v := (2 : Int32)) E.hx E.hb dX4_kindAt_68 ic_2 ?_
                exact hret _ () _ _ _ _ _ _ hW (Option.some.inj hf).symm rfl (by decide) (by decide) dX4_kindAt_69
              · have hf := oF hc hf
                refine lv_iconst (v := (5 : Int32)) E.hx E.hb dX4_kindAt_64 ic_5 ?_
                refine lv_goto (tgt := 69) E.hx E.hb dX4_kindAt_65 (by decide) ?_
                exact hret _ () _ _ _ _ _ _ hW (Option.some.inj hf).symm rfl (by decide) (by decide) dX4_kindAt_69
          refine lv_icmp_lt (tgt := 52) E.hx E.hb dX4_kindAt_41 (by decide) (fun hc => ?_) (fun hc => ?_)
          · have hf := oT hc hf
            exact J_52 r_1 _ _ _ hW (lv_sub hl [0] rfl) hf
          · have hf := oF hc hf
            refine k_iload_n E hl 0 dX4_kindAt_44 rfl ?_
            refine lv_bipush (v := (122 : Int32)) E.hx E.hb dX4_kindAt_45 bp_122 ?_
            refine lv_icmp_gt (tgt := 52) E.hx E.hb dX4_kindAt_47 (by decide) (fun hc => ?_) (fun hc => ?_)
            · have hf := oT hc hf
              exact J_52 r_1 _ _ _ hW (lv_sub hl [0] rfl) hf
            · have hf := oF hc hf
              refine lv_iconst (v := (4 : Int32)) E.hx E.hb dX4_kindAt_50 ic_4 ?_
              exact hret _ () _ _ _ _ _ _ hW (Option.some.inj hf).symm rfl (by decide) (by decide) dX4_kindAt_51
        · have hf := oT hc hf
          refine lv_iconst (v := (3 : Int32)) E.hx E.hb dX4_kindAt_36 ic_3 ?_
          exact hret _ () _ _ _ _ _ _ hW (Option.some.inj hf).symm rfl (by decide) (by decide) dX4_kindAt_37
      · have hf := oT hc hf
        refine lv_iconst (v := (1 : Int32)) E.hx E.hb dX4_kindAt_28 ic_1 ?_
        exact hret _ () _ _ _ _ _ _ hW (Option.some.inj hf).symm rfl (by decide) (by decide) dX4_kindAt_29
  · have hf := oT hc hf
    refine lv_iconst (v := (0 : Int32)) E.hx E.hb dX4_kindAt_14 ic_0 ?_
    exact hret _ () _ _ _ _ _ _ hW (Option.some.inj hf).symm rfl (by decide) (by decide) dX4_kindAt_15
def j_X4_advance_139 (n : Nat) (z_in : Nat) (in_0 : OS) (th_j139 : OS) : Option (OS) :=
  if (th_j139.1 5) = (4 : Int32) then (
  bnd (f_X7_standing n z_in in_0 (th_j139.1 6) (th_j139.1 7)) (fun (r_7 : Int32) =>
  Let (sI th_j139 8 r_7) (fun th_8 : OS =>
  some th_8))) else (
  Let (sI th_j139 8 (0 : Int32)) (fun th_6 : OS =>
  some th_6))
def s_X4_advance_103 (n : Nat) (z_in : Nat) (in_0 : OS) (rc_103 : (OS) → (Int32) → Option (OS)) (th_j103 : OS) (w1_j103 : Int32) : Option (OS) :=
  if (in_0.1 1) ≤ w1_j103 then (
  j_X4_advance_139 n z_in in_0 th_j103) else (
  bnd (f_X4_kindAt n th_j103 z_in in_0 w1_j103) (fun (r_10 : Int32) =>
  if r_10 = (th_j103.1 5) then (
  Let (sI th_j103 7 (w1_j103 + (1 : Int32))) (fun th_11 : OS =>
  Let (w1_j103 + (1 : Int32)) (fun v1_12 : Int32 =>
  rc_103 th_11 v1_12))) else (
  j_X4_advance_139 n z_in in_0 th_j103)))
def l_X4_advance_103 (n : Nat) (z_in : Nat) (in_0 : OS) : Nat → (OS) → (Int32) → Option (OS)
  | 0 => fun _ _ => none
  | N + 1 => s_X4_advance_103 n z_in in_0 (l_X4_advance_103 n z_in in_0 N)
def j_X4_advance_98 (n : Nat) (z_in : Nat) (in_0 : OS) (th_j98 : OS) : Option (OS) :=
  Let (th_j98.1 7) (fun v1_9 : Int32 =>
  l_X4_advance_103 n z_in in_0 n th_j98 v1_9)
def j_X4_advance_79 (n : Nat) (z_in : Nat) (in_0 : OS) (th_j79 : OS) (s1_j79 : Int32) : Option (OS) :=
  Let (sI th_j79 7 s1_j79) (fun th_5 : OS =>
  if (th_5.1 5) = (4 : Int32) then (
  j_X4_advance_98 n z_in in_0 th_5) else (
  if (th_5.1 5) = (5 : Int32) then (
  j_X4_advance_98 n z_in in_0 th_5) else (
  j_X4_advance_139 n z_in in_0 th_5)))
def j_X4_advance_46 (n : Nat) (z_in : Nat) (in_0 : OS) (th_j46 : OS) : Option (OS) :=
  bnd (f_X4_kindAt n th_j46 z_in in_0 (th_j46.1 6)) (fun (r_3 : Int32) =>
  Let (sI th_j46 5 r_3) (fun th_4 : OS =>
  if (th_4.1 5) = 0 then (
  j_X4_advance_79 n z_in in_0 th_4 (th_4.1 6)) else (
  j_X4_advance_79 n z_in in_0 th_4 ((th_4.1 6) + (1 : Int32)))))
def s_X4_advance_13 (n : Nat) (z_in : Nat) (in_0 : OS) (rc_13 : (OS) → (Int32) → Option (OS)) (th_j13 : OS) (w1_j13 : Int32) : Option (OS) :=
  if (in_0.1 1) ≤ w1_j13 then (
  j_X4_advance_46 n z_in in_0 th_j13) else (
  bnd (f_X4_kindAt n th_j13 z_in in_0 w1_j13) (fun (r_13 : Int32) =>
  if r_13 = (1 : Int32) then (
  Let (sI th_j13 6 (w1_j13 + (1 : Int32))) (fun th_14 : OS =>
  Let (w1_j13 + (1 : Int32)) (fun v1_15 : Int32 =>
  rc_13 th_14 v1_15))) else (
  j_X4_advance_46 n z_in in_0 th_j13)))
def l_X4_advance_13 (n : Nat) (z_in : Nat) (in_0 : OS) : Nat → (OS) → (Int32) → Option (OS)
  | 0 => fun _ _ => none
  | N + 1 => s_X4_advance_13 n z_in in_0 (l_X4_advance_13 n z_in in_0 N)
def f_X4_advance (n : Nat) (th_0 : OS) (z_in : Nat) (in_0 : OS) : Option (OS) :=
  Let (sI th_0 6 (th_0.1 7)) (fun th_1 : OS =>
  Let (th_1.1 7) (fun v1_2 : Int32 =>
  l_X4_advance_13 n z_in in_0 n th_1 v1_2))
set_option maxHeartbeats 4000000 in
set_option maxRecDepth 100000 in
theorem c_X4_advance (n : Nat) (l : Launch) (k : KT) (hE : EH k) (a_th : Nat → Nat) (a_in : Nat → Nat) (a_ru : Nat → Nat) (a_co : Nat → Nat) (th_0 : OS) (z_in : Nat) (in_0 : OS) (res : (OS)) (hf : f_X4_advance n th_0 z_in in_0 = some res) : CG l k yX4_advance cX4_advance 2 none 5 0 0 119 [.ref (a_th 0)] (wReader k a_th (a_in 0) (a_co 0) (a_ru 0) th_0 ++ wBytes k a_in z_in in_0) (Qv k (fun u : OS => wReader k a_th (a_in 0) (a_co 0) (a_ru 0) u ++ wBytes k a_in z_in in_0) (fun u : OS => res = u)) := by
  refine CG.ofV (by decide) (Nat.le_of_ble_eq_true rfl) (fun p e s m args below meth c A Q E hnm hW hA hret ls hl => ?_)
  have hl : lv_has ls 2 [(0, .ref (a_th 0))] := hl
  unfold f_X4_advance at hf
  refine k_aload_n E hl 0 dX4_advance_0 rfl ?_
  refine k_aload_n E hl 0 dX4_advance_1 rfl ?_
  refine gf_X4_31 E hW 0 rfl rfl dX4_advance_2 ?_
  obtain ⟨th_1, eth_1, hf⟩ := oL hf
  refine pf_X4_28 (ws2 := wReader k a_th (a_in 0) (a_co 0) (a_ru 0) th_1 ++ wBytes k a_in z_in in_0) E hW 0 rfl rfl rfl (Nat.le_of_ble_eq_true rfl) dX4_advance_5 (by rw [eth_1]; rfl) (fun H locs hW => ?_)
  refine k_aload_n E hl 0 dX4_advance_8 rfl ?_
  refine gf_X4_31 E hW 0 rfl rfl dX4_advance_9 ?_
  obtain ⟨v1_2, ev1_2, hf⟩ := oL hf
  refine k_istore_n (lv' := [(1, .int v1_2), (0, .ref (a_th 0))]) E ev1_2 hl dX4_advance_12 rfl (by decide) rfl (fun ls hl => ?_)
  have L_13 : ∀ (N_13 : Nat) (th_j13 : OS) (w1_j13 : Int32) (H : Heap) (locs : List Loc) (ls : Array Slot) (hW : WD k A s.heap (wReader k a_th (a_in 0) (a_co 0) (a_ru 0) th_j13 ++ wBytes k a_in z_in in_0) H locs) (hl : lv_has ls 2 [(0, .ref (a_th 0)), (1, .int w1_j13)]) (hf : l_X4_advance_13 n z_in in_0 N_13 th_j13 w1_j13 = some res), W p l e { frames := 5, cells := 0, slots := 0, locals := 119 } s m args below meth c H locs 0 0 Q (F0 m 13 ls []) := by
    intro N_13
    induction N_13 with
    | zero => intro th_j13 w1_j13 H locs ls hW hl hf; exact o0 hf
    | succ N_13 ih_13 =>
      intro th_j13 w1_j13 H locs ls hW hl hf
      have hf : s_X4_advance_13 n z_in in_0 (l_X4_advance_13 n z_in in_0 N_13) th_j13 w1_j13 = some res := hf
      unfold s_X4_advance_13 at hf
      refine k_iload_n E hl 1 dX4_advance_13 rfl ?_
      refine k_aload_n E hl 0 dX4_advance_14 rfl ?_
      refine gf_X4_52 E hW 0 rfl rfl dX4_advance_15 ?_
      refine gf_X4_67 E hW 1 rfl rfl dX4_advance_18 ?_
      have J_46 : ∀ (th_j46 : OS) (H : Heap) (locs : List Loc) (ls : Array Slot) (hW : WD k A s.heap (wReader k a_th (a_in 0) (a_co 0) (a_ru 0) th_j46 ++ wBytes k a_in z_in in_0) H locs) (hl : lv_has ls 2 [(0, .ref (a_th 0))]) (hf : j_X4_advance_46 n z_in in_0 th_j46 = some res), W p l e { frames := 5, cells := 0, slots := 0, locals := 119 } s m args below meth c H locs 0 0 Q (F0 m 46 ls []) := by
        intro th_j46 H locs ls hW hl hf
        unfold j_X4_advance_46 at hf
        refine k_aload_n E hl 0 dX4_advance_46 rfl ?_
        refine k_aload_n E hl 0 dX4_advance_47 rfl ?_
        refine k_aload_n E hl 0 dX4_advance_48 rfl ?_
        refine gf_X4_28 E hW 0 rfl rfl dX4_advance_49 ?_
        obtain ⟨r_3, hg, hf⟩ := ob hf
        refine k_callVi (As := [.int (th_j46.1 6)]) (rest := [.ref (a_th 0)]) (ws2 := fun u => wReader k a_th (a_in 0) (a_co 0) (a_ru 0) th_j46 ++ wBytes k a_in z_in in_0) (c_X4_kindAt n l k a_th a_in a_ru a_co th_j46 z_in in_0 (th_j46.1 6) r_3 hg) E vl_X4_181 dX4_advance_52 rfl [0, 1, 2] 5 0 hW hA hl rfl rfl rfl rfl ⟨by decide, by decide⟩ ⟨by decide, by decide⟩ (Nat.le_of_ble_eq_true rfl) rfl (fun _ => rfl) (fun _ => rfl) (fun r u H locs hp hW => ?_)
        cases hp
        have hW : WD k A s.heap (wReader k a_th (a_in 0) (a_co 0) (a_ru 0) th_j46 ++ wBytes k a_in z_in in_0) H locs := hW
        obtain ⟨th_4, eth_4, hf⟩ := oL hf
        refine pf_X4_25 (ws2 := wReader k a_th (a_in 0) (a_co 0) (a_ru 0) th_4 ++ wBytes k a_in z_in in_0) E hW 0 rfl rfl rfl (Nat.le_of_ble_eq_true rfl) dX4_advance_55 (by rw [eth_4]; rfl) (fun H locs hW => ?_)
        refine k_aload_n E hl 0 dX4_advance_58 rfl ?_
        refine k_aload_n E hl 0 dX4_advance_59 rfl ?_
        refine gf_X4_25 E hW 0 rfl rfl dX4_advance_60 ?_
        have J_79 : ∀ (th_j79 : OS) (s1_j79 : Int32) (H : Heap) (locs : List Loc) (ls : Array Slot) (hW : WD k A s.heap (wReader k a_th (a_in 0) (a_co 0) (a_ru 0) th_j79 ++ wBytes k a_in z_in in_0) H locs) (hl : lv_has ls 2 [(0, .ref (a_th 0))]) (hf : j_X4_advance_79 n z_in in_0 th_j79 s1_j79 = some res), W p l e { frames := 5, cells := 0, slots := 0, locals := 119 } s m args below meth c H locs 0 0 Q (F0 m 79 ls [.int s1_j79, .ref (a_th 0)]) := by
          intro th_j79 s1_j79 H locs ls hW hl hf
          unfold j_X4_advance_79 at hf
          obtain ⟨th_5, eth_5, hf⟩ := oL hf
          refine pf_X4_31 (ws2 := wReader k a_th (a_in 0) (a_co 0) (a_ru 0) th_5 ++ wBytes k a_in z_in in_0) E hW 0 rfl rfl rfl (Nat.le_of_ble_eq_true rfl) dX4_advance_79 (by rw [eth_5]; rfl) (fun H locs hW => ?_)
          refine k_aload_n E hl 0 dX4_advance_82 rfl ?_
          refine gf_X4_25 E hW 0 rfl rfl dX4_advance_83 ?_
          refine lv_iconst (v := (4 : Int32)) E.hx E.hb dX4_advance_86 ic_4 ?_
          have J_139 : ∀ (th_j139 : OS) (H : Heap) (locs : List Loc) (ls : Array Slot) (hW : WD k A s.heap (wReader k a_th (a_in 0) (a_co 0) (a_ru 0) th_j139 ++ wBytes k a_in z_in in_0) H locs) (hl : lv_has ls 2 [(0, .ref (a_th 0))]) (hf : j_X4_advance_139 n z_in in_0 th_j139 = some res), W p l e { frames := 5, cells := 0, slots := 0, locals := 119 } s m args below meth c H locs 0 0 Q (F0 m 139 ls []) := by
            intro th_j139 H locs ls hW hl hf
            unfold j_X4_advance_139 at hf
            refine k_aload_n E hl 0 dX4_advance_139 rfl ?_
            refine k_aload_n E hl 0 dX4_advance_140 rfl ?_
            refine gf_X4_25 E hW 0 rfl rfl dX4_advance_141 ?_
            refine lv_iconst (v := (4 : Int32)) E.hx E.hb dX4_advance_144 ic_4 ?_
            refine lv_icmp_ne (tgt := 166) E.hx E.hb dX4_advance_145 (by decide) (fun hc => ?_) (fun hc => ?_)
            · have hf := oF hc hf
              refine k_wconst hE E hW (n := "OTHER") (0 : Int32) (by decide) rfl tm_228 dX4_advance_166 ?_
              obtain ⟨th_6, eth_6, hf⟩ := oL hf
              refine pf_X4_40 (ws2 := wReader k a_th (a_in 0) (a_co 0) (a_ru 0) th_6 ++ wBytes k a_in z_in in_0) E hW 0 rfl rfl rfl (Nat.le_of_ble_eq_true rfl) dX4_advance_169 (by rw [eth_6]; rfl) (fun H locs hW => ?_)
              exact hret th_6 _ _ _ _ _ _ hW (Option.some.inj hf).symm (by decide) (by decide) dX4_advance_172
            · have hf := oT hc hf
              refine k_aload_n E hl 0 dX4_advance_148 rfl ?_
              refine gf_X4_52 E hW 0 rfl rfl dX4_advance_149 ?_
              refine k_aload_n E hl 0 dX4_advance_152 rfl ?_
              refine gf_X4_28 E hW 0 rfl rfl dX4_advance_153 ?_
              refine k_aload_n E hl 0 dX4_advance_156 rfl ?_
              refine gf_X4_31 E hW 0 rfl rfl dX4_advance_157 ?_
              obtain ⟨r_7, hg, hf⟩ := ob hf
              refine k_callSw (As := [.ref (a_in 0), .int (th_j139.1 6), .int (th_j139.1 7)]) (rest := [.ref (a_th 0)]) (ws2 := fun u => wReader k a_th (a_in 0) (a_co 0) (a_ru 0) th_j139 ++ wBytes k a_in z_in in_0) (c_X7_standing n l k hE a_in z_in in_0 (th_j139.1 6) (th_j139.1 7) r_7 hg) E sl_X4_184 dX4_advance_160 rfl [1, 2] hW hA hl rfl rfl ⟨by decide, by decide⟩ ⟨by decide, by decide⟩ (Nat.le_of_ble_eq_true rfl) rfl (fun _ => rfl) (fun _ => rfl) (fun r u H locs hp hW => ?_)
              obtain ⟨r, rfl, hp⟩ := hp
              cases hp
              have hW : WD k A s.heap (wReader k a_th (a_in 0) (a_co 0) (a_ru 0) th_j139 ++ wBytes k a_in z_in in_0) H locs := hW
              refine lv_goto (tgt := 169) E.hx E.hb dX4_advance_163 (by decide) ?_
              obtain ⟨th_8, eth_8, hf⟩ := oL hf
              refine pf_X4_40 (ws2 := wReader k a_th (a_in 0) (a_co 0) (a_ru 0) th_8 ++ wBytes k a_in z_in in_0) E hW 0 rfl rfl rfl (Nat.le_of_ble_eq_true rfl) dX4_advance_169 (by rw [eth_8]; rfl) (fun H locs hW => ?_)
              exact hret th_8 _ _ _ _ _ _ hW (Option.some.inj hf).symm (by decide) (by decide) dX4_advance_172
          have J_98 : ∀ (th_j98 : OS) (H : Heap) (locs : List Loc) (ls : Array Slot) (hW : WD k A s.heap (wReader k a_th (a_in 0) (a_co 0) (a_ru 0) th_j98 ++ wBytes k a_in z_in in_0) H locs) (hl : lv_has ls 2 [(0, .ref (a_th 0))]) (hf : j_X4_advance_98 n z_in in_0 th_j98 = some res), W p l e { frames := 5, cells := 0, slots := 0, locals := 119 } s m args below meth c H locs 0 0 Q (F0 m 98 ls []) := by
            intro th_j98 H locs ls hW hl hf
            unfold j_X4_advance_98 at hf
            refine k_aload_n E hl 0 dX4_advance_98 rfl ?_
            refine gf_X4_31 E hW 0 rfl rfl dX4_advance_99 ?_
            obtain ⟨v1_9, ev1_9, hf⟩ := oL hf
            refine k_istore_n (lv' := [(1, .int v1_9), (0, .ref (a_th 0))]) E ev1_9 hl dX4_advance_102 rfl (by decide) rfl (fun ls hl => ?_)
            have L_103 : ∀ (N_103 : Nat) (th_j103 : OS) (w1_j103 : Int32) (H : Heap) (locs : List Loc) (ls : Array Slot) (hW : WD k A s.heap (wReader k a_th (a_in 0) (a_co 0) (a_ru 0) th_j103 ++ wBytes k a_in z_in in_0) H locs) (hl : lv_has ls 2 [(0, .ref (a_th 0)), (1, .int w1_j103)]) (hf : l_X4_advance_103 n z_in in_0 N_103 th_j103 w1_j103 = some res), W p l e { frames := 5, cells := 0, slots := 0, locals := 119 } s m args below meth c H locs 0 0 Q (F0 m 103 ls []) := by
              intro N_103
              induction N_103 with
              | zero => intro th_j103 w1_j103 H locs ls hW hl hf; exact o0 hf
              | succ N_103 ih_103 =>
                intro th_j103 w1_j103 H locs ls hW hl hf
                have hf : s_X4_advance_103 n z_in in_0 (l_X4_advance_103 n z_in in_0 N_103) th_j103 w1_j103 = some res := hf
                unfold s_X4_advance_103 at hf
                refine k_iload_n E hl 1 dX4_advance_103 rfl ?_
                refine k_aload_n E hl 0 dX4_advance_104 rfl ?_
                refine gf_X4_52 E hW 0 rfl rfl dX4_advance_105 ?_
                refine gf_X4_67 E hW 1 rfl rfl dX4_advance_108 ?_
                refine lv_icmp_ge (tgt := 139) E.hx E.hb dX4_advance_111 (by decide) (fun hc => ?_) (fun hc => ?_)
                · have hf := oT hc hf
                  exact J_139 th_j103 _ _ _ hW (lv_sub hl [0] rfl) hf
                · have hf := oF hc hf
                  refine k_aload_n E hl 0 dX4_advance_114 rfl ?_
                  refine k_iload_n E hl 1 dX4_advance_115 rfl ?_
                  obtain ⟨r_10, hg, hf⟩ := ob hf
                  refine k_callVi (As := [.int w1_j103]) (rest := []) (ws2 := fun u => wReader k a_th (a_in 0) (a_co 0) (a_ru 0) th_j103 ++ wBytes k a_in z_in in_0) (c_X4_kindAt n l k a_th a_in a_ru a_co th_j103 z_in in_0 w1_j103 r_10 hg) E vl_X4_181 dX4_advance_116 rfl [0, 1, 2] 5 0 hW hA hl rfl rfl rfl rfl ⟨by decide, by decide⟩ ⟨by decide, by decide⟩ (Nat.le_of_ble_eq_true rfl) rfl (fun _ => rfl) (fun _ => rfl) (fun r u H locs hp hW => ?_)
                  cases hp
                  have hW : WD k A s.heap (wReader k a_th (a_in 0) (a_co 0) (a_ru 0) th_j103 ++ wBytes k a_in z_in in_0) H locs := hW
                  refine k_aload_n E hl 0 dX4_advance_119 rfl ?_
                  refine gf_X4_25 E hW 0 rfl rfl dX4_advance_120 ?_
                  refine lv_icmp_ne (tgt := 139) E.hx E.hb dX4_advance_123 (by decide) (fun hc => ?_) (fun hc => ?_)
                  · have hf := oF hc hf
                    exact J_139 th_j103 _ _ _ hW (lv_sub hl [0] rfl) hf
                  · have hf := oT hc hf
                    refine k_aload_n E hl 0 dX4_advance_126 rfl ?_
                    refine k_iload_n E hl 1 dX4_advance_127 rfl ?_
                    refine lv_iconst (v := (1 : Int32)) E.hx E.hb dX4_advance_128 ic_1 ?_
                    refine lv_iadd E.hx E.hb dX4_advance_129 ?_
                    obtain ⟨th_11, eth_11, hf⟩ := oL hf
                    refine pf_X4_31 (ws2 := wReader k a_th (a_in 0) (a_co 0) (a_ru 0) th_11 ++ wBytes k a_in z_in in_0) E hW 0 rfl rfl rfl (Nat.le_of_ble_eq_true rfl) dX4_advance_130 (by rw [eth_11]; rfl) (fun H locs hW => ?_)
                    obtain ⟨v1_12, ev1_12, hf⟩ := oL hf
                    refine k_iinc (lv' := [(1, .int v1_12), (0, .ref (a_th 0))]) E hl 1 dX4_advance_133 rfl (ev1_12.trans (congrArg (fun z => w1_j103 + z) ic_1.symm)) (by decide) rfl (fun ls hl => ?_)
                    refine lv_goto (tgt := 103) E.hx E.hb dX4_advance_136 (by decide) ?_
                    exact ih_103 th_11 v1_12 _ _ _ hW (lv_sub hl [1, 0] rfl) hf
            exact L_103 n th_j98 v1_9 _ _ _ hW (lv_sub hl [1, 0] rfl) hf
          refine lv_icmp_eq (tgt := 98) E.hx E.hb dX4_advance_87 (by decide) (fun hc => ?_) (fun hc => ?_)
          · have hf := oT hc hf
            exact J_98 th_5 _ _ _ hW (lv_sub hl [0] rfl) hf
          · have hf := oF hc hf
            refine k_aload_n E hl 0 dX4_advance_90 rfl ?_
            refine gf_X4_25 E hW 0 rfl rfl dX4_advance_91 ?_
            refine lv_iconst (v := (5 : Int32)) E.hx E.hb dX4_advance_94 ic_5 ?_
            refine lv_icmp_ne (tgt := 139) E.hx E.hb dX4_advance_95 (by decide) (fun hc => ?_) (fun hc => ?_)
            · have hf := oF hc hf
              exact J_139 th_5 _ _ _ hW (lv_sub hl [0] rfl) hf
            · have hf := oT hc hf
              exact J_98 th_5 _ _ _ hW (lv_sub hl [0] rfl) hf
        refine lv_if_ne (tgt := 73) E.hx E.hb dX4_advance_63 (by decide) (fun hc => ?_) (fun hc => ?_)
        · have hf := oF hc hf
          refine k_aload_n E hl 0 dX4_advance_73 rfl ?_
          refine gf_X4_28 E hW 0 rfl rfl dX4_advance_74 ?_
          refine lv_iconst (v := (1 : Int32)) E.hx E.hb dX4_advance_77 ic_1 ?_
          refine lv_iadd E.hx E.hb dX4_advance_78 ?_
          exact J_79 th_4 ((th_4.1 6) + (1 : Int32)) _ _ _ hW (lv_sub hl [0] rfl) hf
        · have hf := oT hc hf
          refine k_aload_n E hl 0 dX4_advance_66 rfl ?_
          refine gf_X4_28 E hW 0 rfl rfl dX4_advance_67 ?_
          refine lv_goto (tgt := 79) E.hx E.hb dX4_advance_70 (by decide) ?_
          exact J_79 th_4 (th_4.1 6) _ _ _ hW (lv_sub hl [0] rfl) hf
      refine lv_icmp_ge (tgt := 46) E.hx E.hb dX4_advance_21 (by decide) (fun hc => ?_) (fun hc => ?_)
      · have hf := oT hc hf
        exact J_46 th_j13 _ _ _ hW (lv_sub hl [0] rfl) hf
      · have hf := oF hc hf
        refine k_aload_n E hl 0 dX4_advance_24 rfl ?_
        refine k_iload_n E hl 1 dX4_advance_25 rfl ?_
        obtain ⟨r_13, hg, hf⟩ := ob hf
        refine k_callVi (As := [.int w1_j13]) (rest := []) (ws2 := fun u => wReader k a_th (a_in 0) (a_co 0) (a_ru 0) th_j13 ++ wBytes k a_in z_in in_0) (c_X4_kindAt n l k a_th a_in a_ru a_co th_j13 z_in in_0 w1_j13 r_13 hg) E vl_X4_181 dX4_advance_26 rfl [0, 1, 2] 5 0 hW hA hl rfl rfl rfl rfl ⟨by decide, by decide⟩ ⟨by decide, by decide⟩ (Nat.le_of_ble_eq_true rfl) rfl (fun _ => rfl) (fun _ => rfl) (fun r u H locs hp hW => ?_)
        cases hp
        have hW : WD k A s.heap (wReader k a_th (a_in 0) (a_co 0) (a_ru 0) th_j13 ++ wBytes k a_in z_in in_0) H locs := hW
        refine lv_iconst (v := (1 : Int32)) E.hx E.hb dX4_advance_29 ic_1 ?_
        refine lv_icmp_ne (tgt := 46) E.hx E.hb dX4_advance_30 (by decide) (fun hc => ?_) (fun hc => ?_)
        · have hf := oF hc hf
          exact J_46 th_j13 _ _ _ hW (lv_sub hl [0] rfl) hf
        · have hf := oT hc hf
          refine k_aload_n E hl 0 dX4_advance_33 rfl ?_
          refine k_iload_n E hl 1 dX4_advance_34 rfl ?_
          refine lv_iconst (v := (1 : Int32)) E.hx E.hb dX4_advance_35 ic_1 ?_
          refine lv_iadd E.hx E.hb dX4_advance_36 ?_
          obtain ⟨th_14, eth_14, hf⟩ := oL hf
          refine pf_X4_28 (ws2 := wReader k a_th (a_in 0) (a_co 0) (a_ru 0) th_14 ++ wBytes k a_in z_in in_0) E hW 0 rfl rfl rfl (Nat.le_of_ble_eq_true rfl) dX4_advance_37 (by rw [eth_14]; rfl) (fun H locs hW => ?_)
          obtain ⟨v1_15, ev1_15, hf⟩ := oL hf
          refine k_iinc (lv' := [(1, .int v1_15), (0, .ref (a_th 0))]) E hl 1 dX4_advance_40 rfl (ev1_15.trans (congrArg (fun z => w1_j13 + z) ic_1.symm)) (by decide) rfl (fun ls hl => ?_)
          refine lv_goto (tgt := 13) E.hx E.hb dX4_advance_43 (by decide) ?_
          exact ih_13 th_14 v1_15 _ _ _ hW (lv_sub hl [1, 0] rfl) hf
  exact L_13 n th_1 v1_2 _ _ _ hW (lv_sub hl [1, 0] rfl) hf
def f_X4_fail (n : Nat) (th_0 : OS) (v1_0 : Int32) : Option (OS × Int32) :=
  Let (sI th_0 3 v1_0) (fun th_1 : OS =>
  Let (sI th_1 4 (th_1.1 6)) (fun th_2 : OS =>
  some (th_2, (0 : Int32))))
set_option maxHeartbeats 4000000 in
set_option maxRecDepth 100000 in
theorem c_X4_fail (n : Nat) (l : Launch) (k : KT) (a_th : Nat → Nat) (a_in : Nat → Nat) (a_ru : Nat → Nat) (a_co : Nat → Nat) (th_0 : OS) (v1_0 : Int32) (res : (OS × Int32)) (hf : f_X4_fail n th_0 v1_0 = some res) : CG l k yX4_fail cX4_fail 2 (some .boolean) 0 0 0 0 [.ref (a_th 0), .int v1_0] (wReader k a_th (a_in 0) (a_co 0) (a_ru 0) th_0) (Qi k (fun u : OS => wReader k a_th (a_in 0) (a_co 0) (a_ru 0) u) (fun (r : Int32) (u : OS) => res = (u, r))) := by
  refine CG.ofI (by decide) (Nat.le_of_ble_eq_true rfl) (fun p e s m args below meth c A Q E hnm hW hA hret ls hl => ?_)
  have hl : lv_has ls 2 [(0, .ref (a_th 0)), (1, .int v1_0)] := hl
  unfold f_X4_fail at hf
  refine k_aload_n E hl 0 dX4_fail_0 rfl ?_
  refine k_iload_n E hl 1 dX4_fail_1 rfl ?_
  obtain ⟨th_1, eth_1, hf⟩ := oL hf
  refine pf_X4_18 (ws2 := wReader k a_th (a_in 0) (a_co 0) (a_ru 0) th_1) E hW 0 rfl rfl rfl (Nat.le_of_ble_eq_true rfl) dX4_fail_2 (by rw [eth_1]; rfl) (fun H locs hW => ?_)
  refine k_aload_n E hl 0 dX4_fail_5 rfl ?_
  refine k_aload_n E hl 0 dX4_fail_6 rfl ?_
  refine gf_X4_28 E hW 0 rfl rfl dX4_fail_7 ?_
  obtain ⟨th_2, eth_2, hf⟩ := oL hf
  refine pf_X4_22 (ws2 := wReader k a_th (a_in 0) (a_co 0) (a_ru 0) th_2) E hW 0 rfl rfl rfl (Nat.le_of_ble_eq_true rfl) dX4_fail_10 (by rw [eth_2]; rfl) (fun H locs hW => ?_)
  refine lv_iconst (v := (0 : Int32)) E.hx E.hb dX4_fail_13 ic_0 ?_
  exact hret _ th_2 _ _ _ _ _ _ hW (Option.some.inj hf).symm (by decide) (by decide) (by decide) dX4_fail_14
def f_X4_readSemicolon (n : Nat) (th_0 : OS) (z_in : Nat) (in_0 : OS) : Option (OS × Int32) :=
  if (th_0.1 5) = (3 : Int32) then (
  bnd (f_X4_advance n th_0 z_in in_0) (fun (th_1 : OS) =>
  some (th_1, (1 : Int32)))) else (
  bnd2 (f_X4_fail n th_0 (1 : Int32)) (fun (th_2 : OS) (r_3 : Int32) =>
  gZ r_3 (some (th_2, r_3))))
set_option maxHeartbeats 4000000 in
set_option maxRecDepth 100000 in
theorem c_X4_readSemicolon (n : Nat) (l : Launch) (k : KT) (hE : EH k) (a_th : Nat → Nat) (a_in : Nat → Nat) (a_ru : Nat → Nat) (a_co : Nat → Nat) (th_0 : OS) (z_in : Nat) (in_0 : OS) (res : (OS × Int32)) (hf : f_X4_readSemicolon n th_0 z_in in_0 = some res) : CG l k yX4_readSemicolon cX4_readSemicolon 1 (some .boolean) 6 0 0 140 [.ref (a_th 0)] (wReader k a_th (a_in 0) (a_co 0) (a_ru 0) th_0 ++ wBytes k a_in z_in in_0) (Qi k (fun u : OS => wReader k a_th (a_in 0) (a_co 0) (a_ru 0) u ++ wBytes k a_in z_in in_0) (fun (r : Int32) (u : OS) => res = (u, r))) := by
  refine CG.ofI (by decide) (Nat.le_of_ble_eq_true rfl) (fun p e s m args below meth c A Q E hnm hW hA hret ls hl => ?_)
  have hl : lv_has ls 1 [(0, .ref (a_th 0))] := hl
  unfold f_X4_readSemicolon at hf
  refine k_aload_n E hl 0 dX4_readSemicolon_0 rfl ?_
  refine gf_X4_25 E hW 0 rfl rfl dX4_readSemicolon_1 ?_
  refine lv_iconst (v := (3 : Int32)) E.hx E.hb dX4_readSemicolon_4 ic_3 ?_
  refine lv_icmp_eq (tgt := 14) E.hx E.hb dX4_readSemicolon_5 (by decide) (fun hc => ?_) (fun hc => ?_)
  · have hf := oT hc hf
    refine k_aload_n E hl 0 dX4_readSemicolon_14 rfl ?_
    obtain ⟨th_1, hg, hf⟩ := ob hf
    refine k_callVv (As := []) (rest := []) (ws2 := fun u => wReader k a_th (a_in 0) (a_co 0) (a_ru 0) (u) ++ wBytes k a_in z_in in_0) (c_X4_advance n l k hE a_th a_in a_ru a_co th_0 z_in in_0 th_1 hg) E vl_X4_60 dX4_readSemicolon_15 rfl [0, 1, 2] 5 0 hW hA hl rfl rfl rfl rfl ⟨by decide, by decide⟩ ⟨by decide, by decide⟩ (Nat.le_of_ble_eq_true rfl) rfl (fun _ => rfl) (fun _ => rfl) (fun u H locs hp hW => ?_)
    cases hp
    have hW : WD k A s.heap (wReader k a_th (a_in 0) (a_co 0) (a_ru 0) th_1 ++ wBytes k a_in z_in in_0) H locs := hW
    refine lv_iconst (v := (1 : Int32)) E.hx E.hb dX4_readSemicolon_18 ic_1 ?_
    exact hret _ th_1 _ _ _ _ _ _ hW (Option.some.inj hf).symm (by decide) (by decide) (by decide) dX4_readSemicolon_19
  · have hf := oF hc hf
    refine k_aload_n E hl 0 dX4_readSemicolon_8 rfl ?_
    refine lv_iconst (v := (1 : Int32)) E.hx E.hb dX4_readSemicolon_9 ic_1 ?_
    obtain ⟨th_2, r_3, hg, hf⟩ := ob2 hf
    refine k_callVi (As := [.int (1 : Int32)]) (rest := []) (ws2 := fun u => wReader k a_th (a_in 0) (a_co 0) (a_ru 0) (u) ++ wBytes k a_in z_in in_0) (c_X4_fail n l k a_th a_in a_ru a_co th_0 (1 : Int32) (th_2, r_3) hg) E vl_X4_81 dX4_readSemicolon_10 rfl [0] 5 0 hW hA hl rfl rfl rfl rfl ⟨by decide, by decide⟩ ⟨by decide, by decide⟩ (Nat.le_of_ble_eq_true rfl) rfl (fun _ => rfl) (fun _ => rfl) (fun r u H locs hp hW => ?_)
    cases hp
    have hW : WD k A s.heap (wReader k a_th (a_in 0) (a_co 0) (a_ru 0) th_2 ++ wBytes k a_in z_in in_0) H locs := hW
    obtain ⟨hz, hf⟩ := oZ hf
    exact hret _ th_2 _ _ _ _ _ _ hW (Option.some.inj hf).symm hz (by decide) (by decide) dX4_readSemicolon_13
def j_X4_readNumber_68 (n : Nat) (z_in : Nat) (in_0 : OS) (w1_j35 : Int32) (w2_j35 : Int32) (th_j68 : OS) (w3_j68 : Int32) : Option (OS × Int32) :=
  if w3_j68 < w1_j35 then (
  bnd2 (f_X4_fail n th_j68 (2 : Int32)) (fun (th_4 : OS) (r_5 : Int32) =>
  gZ r_5 (some (th_4, r_5)))) else (
  if w3_j68 ≤ w2_j35 then (
  Let (sI th_j68 10 w3_j68) (fun th_6 : OS =>
  bnd (f_X4_advance n th_6 z_in in_0) (fun (th_7 : OS) =>
  some (th_7, (1 : Int32))))) else (
  bnd2 (f_X4_fail n th_j68 (2 : Int32)) (fun (th_8 : OS) (r_9 : Int32) =>
  gZ r_9 (some (th_8, r_9)))))
def s_X4_readNumber_35 (n : Nat) (z_in : Nat) (in_0 : OS) (w1_j35 : Int32) (w2_j35 : Int32) (rc_35 : (OS) → (Int32) → (Int32) → Option (OS × Int32)) (th_j35 : OS) (w3_j35 : Int32) (w4_j35 : Int32) : Option (OS × Int32) :=
  if (th_j35.1 7) ≤ w4_j35 then (
  j_X4_readNumber_68 n z_in in_0 w1_j35 w2_j35 th_j35 w3_j35) else (
  bnd (f_X1_at n z_in in_0 w4_j35) (fun (r_10 : Int32) =>
  Let (((w3_j35 * (10 : Int32)) + r_10) - (48 : Int32)) (fun v3_11 : Int32 =>
  Let (w4_j35 + (1 : Int32)) (fun v4_12 : Int32 =>
  rc_35 th_j35 v3_11 v4_12))))
def l_X4_readNumber_35 (n : Nat) (z_in : Nat) (in_0 : OS) (w1_j35 : Int32) (w2_j35 : Int32) : Nat → (OS) → (Int32) → (Int32) → Option (OS × Int32)
  | 0 => fun _ _ _ => none
  | N + 1 => s_X4_readNumber_35 n z_in in_0 w1_j35 w2_j35 (l_X4_readNumber_35 n z_in in_0 w1_j35 w2_j35 N)
def f_X4_readNumber (n : Nat) (th_0 : OS) (z_in : Nat) (in_0 : OS) (v1_0 : Int32) (v2_0 : Int32) : Option (OS × Int32) :=
  if (th_0.1 5) = (5 : Int32) then (
  if ((th_0.1 7) - (th_0.1 6)) ≤ (3 : Int32) then (
  Let (th_0.1 6) (fun v4_3 : Int32 =>
  l_X4_readNumber_35 n z_in in_0 v1_0 v2_0 n th_0 (0 : Int32) v4_3)) else (
  bnd2 (f_X4_fail n th_0 (1 : Int32)) (fun (th_13 : OS) (r_14 : Int32) =>
  gZ r_14 (some (th_13, r_14))))) else (
  bnd2 (f_X4_fail n th_0 (1 : Int32)) (fun (th_1 : OS) (r_2 : Int32) =>
  gZ r_2 (some (th_1, r_2))))
set_option maxHeartbeats 4000000 in
set_option maxRecDepth 100000 in
theorem c_X4_readNumber (n : Nat) (l : Launch) (k : KT) (hE : EH k) (a_th : Nat → Nat) (a_in : Nat → Nat) (a_ru : Nat → Nat) (a_co : Nat → Nat) (th_0 : OS) (z_in : Nat) (in_0 : OS) (v1_0 : Int32) (v2_0 : Int32) (res : (OS × Int32)) (hf : f_X4_readNumber n th_0 z_in in_0 v1_0 v2_0 = some res) : CG l k yX4_readNumber cX4_readNumber 5 (some .boolean) 6 0 0 140 [.ref (a_th 0), .int v1_0, .int v2_0] (wReader k a_th (a_in 0) (a_co 0) (a_ru 0) th_0 ++ wBytes k a_in z_in in_0) (Qi k (fun u : OS => wReader k a_th (a_in 0) (a_co 0) (a_ru 0) u ++ wBytes k a_in z_in in_0) (fun (r : Int32) (u : OS) => res = (u, r))) := by
  refine CG.ofI (by decide) (Nat.le_of_ble_eq_true rfl) (fun p e s m args below meth c A Q E hnm hW hA hret ls hl => ?_)
  have hl : lv_has ls 5 [(0, .ref (a_th 0)), (1, .int v1_0), (2, .int v2_0)] := hl
  unfold f_X4_readNumber at hf
  refine k_aload_n E hl 0 dX4_readNumber_0 rfl ?_
  refine gf_X4_25 E hW 0 rfl rfl dX4_readNumber_1 ?_
  refine lv_iconst (v := (5 : Int32)) E.hx E.hb dX4_readNumber_4 ic_5 ?_
  refine lv_icmp_ne (tgt := 21) E.hx E.hb dX4_readNumber_5 (by decide) (fun hc => ?_) (fun hc => ?_)
  · have hf := oF hc hf
    refine k_aload_n E hl 0 dX4_readNumber_21 rfl ?_
    refine lv_iconst (v := (1 : Int32)) E.hx E.hb dX4_readNumber_22 ic_1 ?_
    obtain ⟨th_1, r_2, hg, hf⟩ := ob2 hf
    refine k_callVi (As := [.int (1 : Int32)]) (rest := []) (ws2 := fun u => wReader k a_th (a_in 0) (a_co 0) (a_ru 0) (u) ++ wBytes k a_in z_in in_0) (c_X4_fail n l k a_th a_in a_ru a_co th_0 (1 : Int32) (th_1, r_2) hg) E vl_X4_81 dX4_readNumber_23 rfl [0] 5 0 hW hA hl rfl rfl rfl rfl ⟨by decide, by decide⟩ ⟨by decide, by decide⟩ (Nat.le_of_ble_eq_true rfl) rfl (fun _ => rfl) (fun _ => rfl) (fun r u H locs hp hW => ?_)
    cases hp
    have hW : WD k A s.heap (wReader k a_th (a_in 0) (a_co 0) (a_ru 0) th_1 ++ wBytes k a_in z_in in_0) H locs := hW
    obtain ⟨hz, hf⟩ := oZ hf
    exact hret _ th_1 _ _ _ _ _ _ hW (Option.some.inj hf).symm hz (by decide) (by decide) dX4_readNumber_26
  · have hf := oT hc hf
    refine k_aload_n E hl 0 dX4_readNumber_8 rfl ?_
    refine gf_X4_31 E hW 0 rfl rfl dX4_readNumber_9 ?_
    refine k_aload_n E hl 0 dX4_readNumber_12 rfl ?_
    refine gf_X4_28 E hW 0 rfl rfl dX4_readNumber_13 ?_
    refine lv_isub E.hx E.hb dX4_readNumber_16 ?_
    refine lv_iconst (v := (3 : Int32)) E.hx E.hb dX4_readNumber_17 ic_3 ?_
    refine lv_icmp_le (tgt := 27) E.hx E.hb dX4_readNumber_18 (by decide) (fun hc => ?_) (fun hc => ?_)
    · have hf := oT hc hf
      refine lv_iconst (v := (0 : Int32)) E.hx E.hb dX4_readNumber_27 ic_0 ?_
      refine k_istore_n (lv' := [(3, .int (0 : Int32)), (0, .ref (a_th 0)), (1, .int v1_0), (2, .int v2_0)]) E rfl hl dX4_readNumber_28 rfl (by decide) rfl (fun ls hl => ?_)
      refine k_aload_n E hl 1 dX4_readNumber_29 rfl ?_
      refine gf_X4_28 E hW 0 rfl rfl dX4_readNumber_30 ?_
      obtain ⟨v4_3, ev4_3, hf⟩ := oL hf
      refine k_istore (lv' := [(4, .int v4_3), (3, .int (0 : Int32)), (0, .ref (a_th 0)), (1, .int v1_0), (2, .int v2_0)]) E ev4_3 hl dX4_readNumber_33 (by decide) rfl (fun ls hl => ?_)
      have L_35 : ∀ (N_35 : Nat) (th_j35 : OS) (w3_j35 : Int32) (w4_j35 : Int32) (H : Heap) (locs : List Loc) (ls : Array Slot) (hW : WD k A s.heap (wReader k a_th (a_in 0) (a_co 0) (a_ru 0) th_j35 ++ wBytes k a_in z_in in_0) H locs) (hl : lv_has ls 5 [(0, .ref (a_th 0)), (1, .int v1_0), (2, .int v2_0), (3, .int w3_j35), (4, .int w4_j35)]) (hf : l_X4_readNumber_35 n z_in in_0 v1_0 v2_0 N_35 th_j35 w3_j35 w4_j35 = some res), W p l e { frames := 6, cells := 0, slots := 0, locals := 140 } s m args below meth c H locs 0 0 Q (F0 m 35 ls []) := by
        intro N_35
        induction N_35 with
        | zero => intro th_j35 w3_j35 w4_j35 H locs ls hW hl hf; exact o0 hf
        | succ N_35 ih_35 =>
          intro th_j35 w3_j35 w4_j35 H locs ls hW hl hf
          have hf : s_X4_readNumber_35 n z_in in_0 v1_0 v2_0 (l_X4_readNumber_35 n z_in in_0 v1_0 v2_0 N_35) th_j35 w3_j35 w4_j35 = some res := hf
          unfold s_X4_readNumber_35 at hf
          refine k_iload E hl 4 dX4_readNumber_35 rfl ?_
          refine k_aload_n E hl 0 dX4_readNumber_37 rfl ?_
          refine gf_X4_31 E hW 0 rfl rfl dX4_readNumber_38 ?_
          have J_68 : ∀ (th_j68 : OS) (w3_j68 : Int32) (H : Heap) (locs : List Loc) (ls : Array Slot) (hW : WD k A s.heap (wReader k a_th (a_in 0) (a_co 0) (a_ru 0) th_j68 ++ wBytes k a_in z_in in_0) H locs) (hl : lv_has ls 5 [(0, .ref (a_th 0)), (1, .int v1_0), (2, .int v2_0), (3, .int w3_j68)]) (hf : j_X4_readNumber_68 n z_in in_0 v1_0 v2_0 th_j68 w3_j68 = some res), W p l e { frames := 6, cells := 0, slots := 0, locals := 140 } s m args below meth c H locs 0 0 Q (F0 m 68 ls []) := by
            intro th_j68 w3_j68 H locs ls hW hl hf
            unfold j_X4_readNumber_68 at hf
            refine k_iload_n E hl 3 dX4_readNumber_68 rfl ?_
            refine k_iload_n E hl 1 dX4_readNumber_69 rfl ?_
            refine lv_icmp_lt (tgt := 78) E.hx E.hb dX4_readNumber_70 (by decide) (fun hc => ?_) (fun hc => ?_)
            · have hf := oT hc hf
              refine k_aload_n E hl 0 dX4_readNumber_78 rfl ?_
              refine lv_iconst (v := (2 : Int32)) E.hx E.hb dX4_readNumber_79 ic_2 ?_
              obtain ⟨th_4, r_5, hg, hf⟩ := ob2 hf
              refine k_callVi (As := [.int (2 : Int32)]) (rest := []) (ws2 := fun u => wReader k a_th (a_in 0) (a_co 0) (a_ru 0) (u) ++ wBytes k a_in z_in in_0) (c_X4_fail n l k a_th a_in a_ru a_co th_j68 (2 : Int32) (th_4, r_5) hg) E vl_X4_81 dX4_readNumber_80 rfl [0] 5 0 hW hA hl rfl rfl rfl rfl ⟨by decide, by decide⟩ ⟨by decide, by decide⟩ (Nat.le_of_ble_eq_true rfl) rfl (fun _ => rfl) (fun _ => rfl) (fun r u H locs hp hW => ?_)
              cases hp
              have hW : WD k A s.heap (wReader k a_th (a_in 0) (a_co 0) (a_ru 0) th_4 ++ wBytes k a_in z_in in_0) H locs := hW
              obtain ⟨hz, hf⟩ := oZ hf
              exact hret _ th_4 _ _ _ _ _ _ hW (Option.some.inj hf).symm hz (by decide) (by decide) dX4_readNumber_83
            · have hf := oF hc hf
              refine k_iload_n E hl 3 dX4_readNumber_73 rfl ?_
              refine k_iload_n E hl 2 dX4_readNumber_74 rfl ?_
              refine lv_icmp_le (tgt := 84) E.hx E.hb dX4_readNumber_75 (by decide) (fun hc => ?_) (fun hc => ?_)
              · have hf := oT hc hf
                refine k_aload_n E hl 0 dX4_readNumber_84 rfl ?_
                refine k_iload_n E hl 3 dX4_readNumber_85 rfl ?_
                obtain ⟨th_6, eth_6, hf⟩ := oL hf
                refine pf_X4_46 (ws2 := wReader k a_th (a_in 0) (a_co 0) (a_ru 0) th_6 ++ wBytes k a_in z_in in_0) E hW 0 rfl rfl rfl (Nat.le_of_ble_eq_true rfl) dX4_readNumber_86 (by rw [eth_6]; rfl) (fun H locs hW => ?_)
                refine k_aload_n E hl 0 dX4_readNumber_89 rfl ?_
                obtain ⟨th_7, hg, hf⟩ := ob hf
                refine k_callVv (As := []) (rest := []) (ws2 := fun u => wReader k a_th (a_in 0) (a_co 0) (a_ru 0) (u) ++ wBytes k a_in z_in in_0) (c_X4_advance n l k hE a_th a_in a_ru a_co th_6 z_in in_0 th_7 hg) E vl_X4_60 dX4_readNumber_90 rfl [0, 1, 2] 5 0 hW hA hl rfl rfl rfl rfl ⟨by decide, by decide⟩ ⟨by decide, by decide⟩ (Nat.le_of_ble_eq_true rfl) rfl (fun _ => rfl) (fun _ => rfl) (fun u H locs hp hW => ?_)
                cases hp
                have hW : WD k A s.heap (wReader k a_th (a_in 0) (a_co 0) (a_ru 0) th_7 ++ wBytes k a_in z_in in_0) H locs := hW
                refine lv_iconst (v := (1 : Int32)) E.hx E.hb dX4_readNumber_93 ic_1 ?_
                exact hret _ th_7 _ _ _ _ _ _ hW (Option.some.inj hf).symm (by decide) (by decide) (by decide) dX4_readNumber_94
              · have hf := oF hc hf
                refine k_aload_n E hl 0 dX4_readNumber_78 rfl ?_
                refine lv_iconst (v := (2 : Int32)) E.hx E.hb dX4_readNumber_79 ic_2 ?_
                obtain ⟨th_8, r_9, hg, hf⟩ := ob2 hf
                refine k_callVi (As := [.int (2 : Int32)]) (rest := []) (ws2 := fun u => wReader k a_th (a_in 0) (a_co 0) (a_ru 0) (u) ++ wBytes k a_in z_in in_0) (c_X4_fail n l k a_th a_in a_ru a_co th_j68 (2 : Int32) (th_8, r_9) hg) E vl_X4_81 dX4_readNumber_80 rfl [0] 5 0 hW hA hl rfl rfl rfl rfl ⟨by decide, by decide⟩ ⟨by decide, by decide⟩ (Nat.le_of_ble_eq_true rfl) rfl (fun _ => rfl) (fun _ => rfl) (fun r u H locs hp hW => ?_)
                cases hp
                have hW : WD k A s.heap (wReader k a_th (a_in 0) (a_co 0) (a_ru 0) th_8 ++ wBytes k a_in z_in in_0) H locs := hW
                obtain ⟨hz, hf⟩ := oZ hf
                exact hret _ th_8 _ _ _ _ _ _ hW (Option.some.inj hf).symm hz (by decide) (by decide) dX4_readNumber_83
          refine lv_icmp_ge (tgt := 68) E.hx E.hb dX4_readNumber_41 (by decide) (fun hc => ?_) (fun hc => ?_)
          · have hf := oT hc hf
            exact J_68 th_j35 w3_j35 _ _ _ hW (lv_sub hl [0, 1, 2, 3] rfl) hf
          · have hf := oF hc hf
            refine k_iload_n E hl 3 dX4_readNumber_44 rfl ?_
            refine lv_bipush (v := (10 : Int32)) E.hx E.hb dX4_readNumber_45 bp_10 ?_
            refine lv_imul E.hx E.hb dX4_readNumber_47 ?_
            refine k_aload_n E hl 0 dX4_readNumber_48 rfl ?_
            refine gf_X4_52 E hW 0 rfl rfl dX4_readNumber_49 ?_
            refine k_iload E hl 4 dX4_readNumber_52 rfl ?_
            obtain ⟨r_10, hg, hf⟩ := ob hf
            refine k_callVi (As := [.int w4_j35]) (rest := [.int (w3_j35 * (10 : Int32))]) (ws2 := fun u => wReader k a_th (a_in 0) (a_co 0) (a_ru 0) th_j35 ++ wBytes k a_in z_in in_0) (c_X1_at n l k a_in z_in in_0 w4_j35 r_10 hg) E vl_X4_177 dX4_readNumber_54 rfl [1, 2] 2 1 hW hA hl rfl rfl rfl rfl ⟨by decide, by decide⟩ ⟨by decide, by decide⟩ (Nat.le_of_ble_eq_true rfl) rfl (fun _ => rfl) (fun _ => rfl) (fun r u H locs hp hW => ?_)
            cases hp
            have hW : WD k A s.heap (wReader k a_th (a_in 0) (a_co 0) (a_ru 0) th_j35 ++ wBytes k a_in z_in in_0) H locs := hW
            refine lv_iadd E.hx E.hb dX4_readNumber_57 ?_
            refine lv_bipush (v := (48 : Int32)) E.hx E.hb dX4_readNumber_58 bp_48 ?_
            refine lv_isub E.hx E.hb dX4_readNumber_60 ?_
            obtain ⟨v3_11, ev3_11, hf⟩ := oL hf
            refine k_istore_n (lv' := [(3, .int v3_11), (0, .ref (a_th 0)), (1, .int v1_0), (2, .int v2_0), (4, .int w4_j35)]) E ev3_11 hl dX4_readNumber_61 rfl (by decide) rfl (fun ls hl => ?_)
            obtain ⟨v4_12, ev4_12, hf⟩ := oL hf
            refine k_iinc (lv' := [(4, .int v4_12), (3, .int v3_11), (0, .ref (a_th 0)), (1, .int v1_0), (2, .int v2_0)]) E hl 4 dX4_readNumber_62 rfl (ev4_12.trans (congrArg (fun z => w4_j35 + z) ic_1.symm)) (by decide) rfl (fun ls hl => ?_)
            refine lv_goto (tgt := 35) E.hx E.hb dX4_readNumber_65 (by decide) ?_
            exact ih_35 th_j35 v3_11 v4_12 _ _ _ hW (lv_sub hl [2, 3, 4, 1, 0] rfl) hf
      exact L_35 n th_0 (0 : Int32) v4_3 _ _ _ hW (lv_sub hl [2, 3, 4, 1, 0] rfl) hf
    · have hf := oF hc hf
      refine k_aload_n E hl 0 dX4_readNumber_21 rfl ?_
      refine lv_iconst (v := (1 : Int32)) E.hx E.hb dX4_readNumber_22 ic_1 ?_
      obtain ⟨th_13, r_14, hg, hf⟩ := ob2 hf
      refine k_callVi (As := [.int (1 : Int32)]) (rest := []) (ws2 := fun u => wReader k a_th (a_in 0) (a_co 0) (a_ru 0) (u) ++ wBytes k a_in z_in in_0) (c_X4_fail n l k a_th a_in a_ru a_co th_0 (1 : Int32) (th_13, r_14) hg) E vl_X4_81 dX4_readNumber_23 rfl [0] 5 0 hW hA hl rfl rfl rfl rfl ⟨by decide, by decide⟩ ⟨by decide, by decide⟩ (Nat.le_of_ble_eq_true rfl) rfl (fun _ => rfl) (fun _ => rfl) (fun r u H locs hp hW => ?_)
      cases hp
      have hW : WD k A s.heap (wReader k a_th (a_in 0) (a_co 0) (a_ru 0) th_13 ++ wBytes k a_in z_in in_0) H locs := hW
      obtain ⟨hz, hf⟩ := oZ hf
      exact hret _ th_13 _ _ _ _ _ _ hW (Option.some.inj hf).symm hz (by decide) (by decide) dX4_readNumber_26
def f_X4_isName (n : Nat) (th_0 : OS) : Option (Int32) :=
  if (th_0.1 5) = (4 : Int32) then (
  gI 14 (th_0.1 8) (gI 14 (0 : Int32) (
  if (th_0.1 8) = (0 : Int32) then (
  if (6 : Int32) < ((th_0.1 7) - (th_0.1 6)) then (
  some (0 : Int32)) else (
  some (1 : Int32))) else (
  some (0 : Int32))))) else (
  some (0 : Int32))
set_option maxHeartbeats 4000000 in
set_option maxRecDepth 100000 in
theorem c_X4_isName (n : Nat) (l : Launch) (k : KT) (hE : EH k) (a_th : Nat → Nat) (a_in : Nat → Nat) (a_ru : Nat → Nat) (a_co : Nat → Nat) (th_0 : OS) (res : (Int32)) (hf : f_X4_isName n th_0 = some res) : CG l k yX4_isName cX4_isName 1 (some .boolean) 0 0 0 0 [.ref (a_th 0)] (wReader k a_th (a_in 0) (a_co 0) (a_ru 0) th_0) (Qi k (fun u : Unit => wReader k a_th (a_in 0) (a_co 0) (a_ru 0) th_0) (fun (r : Int32) (u : Unit) => res = r)) := by
  refine CG.ofI (by decide) (Nat.le_of_ble_eq_true rfl) (fun p e s m args below meth c A Q E hnm hW hA hret ls hl => ?_)
  have hl : lv_has ls 1 [(0, .ref (a_th 0))] := hl
  unfold f_X4_isName at hf
  refine k_aload_n E hl 0 dX4_isName_0 rfl ?_
  refine gf_X4_25 E hW 0 rfl rfl dX4_isName_1 ?_
  refine lv_iconst (v := (4 : Int32)) E.hx E.hb dX4_isName_4 ic_4 ?_
  refine lv_icmp_ne (tgt := 36) E.hx E.hb dX4_isName_5 (by decide) (fun hc => ?_) (fun hc => ?_)
  · have hf := oF hc hf
    refine lv_iconst (v := (0 : Int32)) E.hx E.hb dX4_isName_36 ic_0 ?_
    exact hret _ () _ _ _ _ _ _ hW (Option.some.inj hf).symm (by decide) (by decide) (by decide) dX4_isName_37
  · have hf := oT hc hf
    refine k_aload_n E hl 0 dX4_isName_8 rfl ?_
    refine gf_X4_40 E hW 0 rfl rfl dX4_isName_9 ?_
    refine k_wconst hE E hW (n := "OTHER") (0 : Int32) (by decide) rfl tm_228 dX4_isName_12 ?_
    obtain ⟨hinx, hf⟩ := oI hf
    obtain ⟨hiny, hf⟩ := oI hf
    refine k_wacmp_ne (tgt := 36) hE E hinx hiny dX4_isName_15 (by decide) (fun hc => ?_) (fun hc => ?_)
    · have hf := oF hc hf
      refine lv_iconst (v := (0 : Int32)) E.hx E.hb dX4_isName_36 ic_0 ?_
      exact hret _ () _ _ _ _ _ _ hW (Option.some.inj hf).symm (by decide) (by decide) (by decide) dX4_isName_37
    · have hf := oT hc hf
      refine k_aload_n E hl 0 dX4_isName_18 rfl ?_
      refine gf_X4_31 E hW 0 rfl rfl dX4_isName_19 ?_
      refine k_aload_n E hl 0 dX4_isName_22 rfl ?_
      refine gf_X4_28 E hW 0 rfl rfl dX4_isName_23 ?_
      refine lv_isub E.hx E.hb dX4_isName_26 ?_
      refine lv_bipush (v := (6 : Int32)) E.hx E.hb dX4_isName_27 bp_6 ?_
      refine lv_icmp_gt (tgt := 36) E.hx E.hb dX4_isName_29 (by decide) (fun hc => ?_) (fun hc => ?_)
      · have hf := oT hc hf
        refine lv_iconst (v := (0 : Int32)) E.hx E.hb dX4_isName_36 ic_0 ?_
        exact hret _ () _ _ _ _ _ _ hW (Option.some.inj hf).symm (by decide) (by decide) (by decide) dX4_isName_37
      · have hf := oF hc hf
        refine lv_iconst (v := (1 : Int32)) E.hx E.hb dX4_isName_32 ic_1 ?_
        refine lv_goto (tgt := 37) E.hx E.hb dX4_isName_33 (by decide) ?_
        exact hret _ () _ _ _ _ _ _ hW (Option.some.inj hf).symm (by decide) (by decide) (by decide) dX4_isName_37
def f_X4_readProcess (n : Nat) (th_0 : OS) (z_in : Nat) (in_0 : OS) (ru_0 : OS) : Option (OS × Int32) :=
  bnd (f_X4_isName n th_0) (fun (r_1 : Int32) =>
  if r_1 = 0 then (
  bnd2 (f_X4_fail n th_0 (1 : Int32)) (fun (th_7 : OS) (r_8 : Int32) =>
  gZ r_8 (some (th_7, r_8)))) else (
  bnd (f_X5_processNamed n ru_0 z_in in_0 (th_0.1 6) (th_0.1 7)) (fun (r_2 : Int32) =>
  Let (sI th_0 9 r_2) (fun th_3 : OS =>
  if (th_3.1 9) = (-1 : Int32) then (
  bnd2 (f_X4_fail n th_3 (3 : Int32)) (fun (th_5 : OS) (r_6 : Int32) =>
  gZ r_6 (some (th_5, r_6)))) else (
  bnd (f_X4_advance n th_3 z_in in_0) (fun (th_4 : OS) =>
  some (th_4, (1 : Int32))))))))
set_option maxHeartbeats 4000000 in
set_option maxRecDepth 100000 in
theorem c_X4_readProcess (n : Nat) (l : Launch) (k : KT) (hE : EH k) (a_th : Nat → Nat) (a_in : Nat → Nat) (a_ru : Nat → Nat) (a_co : Nat → Nat) (th_0 : OS) (z_in : Nat) (in_0 : OS) (ru_0 : OS) (res : (OS × Int32)) (hf : f_X4_readProcess n th_0 z_in in_0 ru_0 = some res) : CG l k yX4_readProcess cX4_readProcess 1 (some .boolean) 6 0 0 140 [.ref (a_th 0)] (wReader k a_th (a_in 0) (a_co 0) (a_ru 0) th_0 ++ wBytes k a_in z_in in_0 ++ wRules k a_ru ru_0) (Qi k (fun u : OS => wReader k a_th (a_in 0) (a_co 0) (a_ru 0) u ++ wBytes k a_in z_in in_0 ++ wRules k a_ru ru_0) (fun (r : Int32) (u : OS) => res = (u, r))) := by
  refine CG.ofI (by decide) (Nat.le_of_ble_eq_true rfl) (fun p e s m args below meth c A Q E hnm hW hA hret ls hl => ?_)
  have hl : lv_has ls 1 [(0, .ref (a_th 0))] := hl
  unfold f_X4_readProcess at hf
  refine k_aload_n E hl 0 dX4_readProcess_0 rfl ?_
  obtain ⟨r_1, hg, hf⟩ := ob hf
  refine k_callVi (As := []) (rest := []) (ws2 := fun u => wReader k a_th (a_in 0) (a_co 0) (a_ru 0) th_0 ++ wBytes k a_in z_in in_0 ++ wRules k a_ru ru_0) (c_X4_isName n l k hE a_th a_in a_ru a_co th_0 r_1 hg) E vl_X4_130 dX4_readProcess_1 rfl [0] 5 0 hW hA hl rfl rfl rfl rfl ⟨by decide, by decide⟩ ⟨by decide, by decide⟩ (Nat.le_of_ble_eq_true rfl) rfl (fun _ => rfl) (fun _ => rfl) (fun r u H locs hp hW => ?_)
  cases hp
  have hW : WD k A s.heap (wReader k a_th (a_in 0) (a_co 0) (a_ru 0) th_0 ++ wBytes k a_in z_in in_0 ++ wRules k a_ru ru_0) H locs := hW
  refine lv_if_ne (tgt := 13) E.hx E.hb dX4_readProcess_4 (by decide) (fun hc => ?_) (fun hc => ?_)
  · have hf := oF hc hf
    refine k_aload_n E hl 0 dX4_readProcess_13 rfl ?_
    refine k_aload_n E hl 0 dX4_readProcess_14 rfl ?_
    refine gf_X4_12 E hW 0 rfl rfl dX4_readProcess_15 ?_
    refine k_aload_n E hl 0 dX4_readProcess_18 rfl ?_
    refine gf_X4_52 E hW 0 rfl rfl dX4_readProcess_19 ?_
    refine k_aload_n E hl 0 dX4_readProcess_22 rfl ?_
    refine gf_X4_28 E hW 0 rfl rfl dX4_readProcess_23 ?_
    refine k_aload_n E hl 0 dX4_readProcess_26 rfl ?_
    refine gf_X4_31 E hW 0 rfl rfl dX4_readProcess_27 ?_
    obtain ⟨r_2, hg, hf⟩ := ob hf
    refine k_callVi (As := [.ref (a_in 0), .int (th_0.1 6), .int (th_0.1 7)]) (rest := [.ref (a_th 0)]) (ws2 := fun u => wReader k a_th (a_in 0) (a_co 0) (a_ru 0) th_0 ++ wBytes k a_in z_in in_0 ++ wRules k a_ru ru_0) (c_X5_processNamed n l k a_ru a_in ru_0 z_in in_0 (th_0.1 6) (th_0.1 7) r_2 hg) E vl_X4_133 dX4_readProcess_30 rfl [3, 4, 5, 1, 2] 6 3 hW hA hl rfl rfl rfl rfl ⟨by decide, by decide⟩ ⟨by decide, by decide⟩ (Nat.le_of_ble_eq_true rfl) rfl (fun _ => rfl) (fun _ => rfl) (fun r u H locs hp hW => ?_)
    cases hp
    have hW : WD k A s.heap (wReader k a_th (a_in 0) (a_co 0) (a_ru 0) th_0 ++ wBytes k a_in z_in in_0 ++ wRules k a_ru ru_0) H locs := hW
    obtain ⟨th_3, eth_3, hf⟩ := oL hf
    refine pf_X4_43 (ws2 := wReader k a_th (a_in 0) (a_co 0) (a_ru 0) th_3 ++ wBytes k a_in z_in in_0 ++ wRules k a_ru ru_0) E hW 0 rfl rfl rfl (Nat.le_of_ble_eq_true rfl) dX4_readProcess_33 (by rw [eth_3]; rfl) (fun H locs hW => ?_)
    refine k_aload_n E hl 0 dX4_readProcess_36 rfl ?_
    refine gf_X4_43 E hW 0 rfl rfl dX4_readProcess_37 ?_
    refine lv_iconst (v := (-1 : Int32)) E.hx E.hb dX4_readProcess_40 ic_m1 ?_
    refine lv_icmp_ne (tgt := 50) E.hx E.hb dX4_readProcess_41 (by decide) (fun hc => ?_) (fun hc => ?_)
    · have hf := oF hc hf
      refine k_aload_n E hl 0 dX4_readProcess_50 rfl ?_
      obtain ⟨th_4, hg, hf⟩ := ob hf
      refine k_callVv (As := []) (rest := []) (ws2 := fun u => wReader k a_th (a_in 0) (a_co 0) (a_ru 0) (u) ++ wBytes k a_in z_in in_0 ++ wRules k a_ru ru_0) (c_X4_advance n l k hE a_th a_in a_ru a_co th_3 z_in in_0 th_4 hg) E vl_X4_60 dX4_readProcess_51 rfl [0, 1, 2] 5 0 hW hA hl rfl rfl rfl rfl ⟨by decide, by decide⟩ ⟨by decide, by decide⟩ (Nat.le_of_ble_eq_true rfl) rfl (fun _ => rfl) (fun _ => rfl) (fun u H locs hp hW => ?_)
      cases hp
      have hW : WD k A s.heap (wReader k a_th (a_in 0) (a_co 0) (a_ru 0) th_4 ++ wBytes k a_in z_in in_0 ++ wRules k a_ru ru_0) H locs := hW
      refine lv_iconst (v := (1 : Int32)) E.hx E.hb dX4_readProcess_54 ic_1 ?_
      exact hret _ th_4 _ _ _ _ _ _ hW (Option.some.inj hf).symm (by decide) (by decide) (by decide) dX4_readProcess_55
    · have hf := oT hc hf
      refine k_aload_n E hl 0 dX4_readProcess_44 rfl ?_
      refine lv_iconst (v := (3 : Int32)) E.hx E.hb dX4_readProcess_45 ic_3 ?_
      obtain ⟨th_5, r_6, hg, hf⟩ := ob2 hf
      refine k_callVi (As := [.int (3 : Int32)]) (rest := []) (ws2 := fun u => wReader k a_th (a_in 0) (a_co 0) (a_ru 0) (u) ++ wBytes k a_in z_in in_0 ++ wRules k a_ru ru_0) (c_X4_fail n l k a_th a_in a_ru a_co th_3 (3 : Int32) (th_5, r_6) hg) E vl_X4_81 dX4_readProcess_46 rfl [0] 5 0 hW hA hl rfl rfl rfl rfl ⟨by decide, by decide⟩ ⟨by decide, by decide⟩ (Nat.le_of_ble_eq_true rfl) rfl (fun _ => rfl) (fun _ => rfl) (fun r u H locs hp hW => ?_)
      cases hp
      have hW : WD k A s.heap (wReader k a_th (a_in 0) (a_co 0) (a_ru 0) th_5 ++ wBytes k a_in z_in in_0 ++ wRules k a_ru ru_0) H locs := hW
      obtain ⟨hz, hf⟩ := oZ hf
      exact hret _ th_5 _ _ _ _ _ _ hW (Option.some.inj hf).symm hz (by decide) (by decide) dX4_readProcess_49
  · have hf := oT hc hf
    refine k_aload_n E hl 0 dX4_readProcess_7 rfl ?_
    refine lv_iconst (v := (1 : Int32)) E.hx E.hb dX4_readProcess_8 ic_1 ?_
    obtain ⟨th_7, r_8, hg, hf⟩ := ob2 hf
    refine k_callVi (As := [.int (1 : Int32)]) (rest := []) (ws2 := fun u => wReader k a_th (a_in 0) (a_co 0) (a_ru 0) (u) ++ wBytes k a_in z_in in_0 ++ wRules k a_ru ru_0) (c_X4_fail n l k a_th a_in a_ru a_co th_0 (1 : Int32) (th_7, r_8) hg) E vl_X4_81 dX4_readProcess_9 rfl [0] 5 0 hW hA hl rfl rfl rfl rfl ⟨by decide, by decide⟩ ⟨by decide, by decide⟩ (Nat.le_of_ble_eq_true rfl) rfl (fun _ => rfl) (fun _ => rfl) (fun r u H locs hp hW => ?_)
    cases hp
    have hW : WD k A s.heap (wReader k a_th (a_in 0) (a_co 0) (a_ru 0) th_7 ++ wBytes k a_in z_in in_0 ++ wRules k a_ru ru_0) H locs := hW
    obtain ⟨hz, hf⟩ := oZ hf
    exact hret _ th_7 _ _ _ _ _ _ hW (Option.some.inj hf).symm hz (by decide) (by decide) dX4_readProcess_12
def j_X4_isFirstOfItsKind_20 (n : Nat) (th_j20 : OS) (s0_j20 : Int32) : Option (OS × Int32) :=
  gI 14 (th_j20.1 8) (
  Let (sI th_j20 11 ((th_j20.1 11) ||| (wBit (th_j20.1 8)))) (fun th_1 : OS =>
  gZ s0_j20 (some (th_1, s0_j20))))
def f_X4_isFirstOfItsKind (n : Nat) (th_0 : OS) : Option (OS × Int32) :=
  gI 14 (th_0.1 8) (
  if ((th_0.1 11) &&& (wBit (th_0.1 8))) = 0 then (
  j_X4_isFirstOfItsKind_20 n th_0 (1 : Int32)) else (
  j_X4_isFirstOfItsKind_20 n th_0 (0 : Int32)))
set_option maxHeartbeats 4000000 in
set_option maxRecDepth 100000 in
theorem c_X4_isFirstOfItsKind (n : Nat) (l : Launch) (k : KT) (hE : EH k) (a_th : Nat → Nat) (a_in : Nat → Nat) (a_ru : Nat → Nat) (a_co : Nat → Nat) (th_0 : OS) (res : (OS × Int32)) (hf : f_X4_isFirstOfItsKind n th_0 = some res) : CG l k yX4_isFirstOfItsKind cX4_isFirstOfItsKind 2 (some .boolean) 0 0 0 0 [.ref (a_th 0)] (wReader k a_th (a_in 0) (a_co 0) (a_ru 0) th_0) (Qi k (fun u : OS => wReader k a_th (a_in 0) (a_co 0) (a_ru 0) u) (fun (r : Int32) (u : OS) => res = (u, r))) := by
  refine CG.ofI (by decide) (Nat.le_of_ble_eq_true rfl) (fun p e s m args below meth c A Q E hnm hW hA hret ls hl => ?_)
  have hl : lv_has ls 2 [(0, .ref (a_th 0))] := hl
  unfold f_X4_isFirstOfItsKind at hf
  refine k_aload_n E hl 0 dX4_isFirstOfItsKind_0 rfl ?_
  refine gf_X4_49 E hW 0 rfl rfl dX4_isFirstOfItsKind_1 ?_
  refine k_aload_n E hl 0 dX4_isFirstOfItsKind_4 rfl ?_
  refine gf_X4_40 E hW 0 rfl rfl dX4_isFirstOfItsKind_5 ?_
  obtain ⟨hin, hf⟩ := oI hf
  refine k_wbit hE E hW hin tm_1233 dX4_isFirstOfItsKind_8 ?_
  refine lv_iand E.hx E.hb dX4_isFirstOfItsKind_11 ?_
  have J_20 : ∀ (th_j20 : OS) (s0_j20 : Int32) (H : Heap) (locs : List Loc) (ls : Array Slot) (hW : WD k A s.heap (wReader k a_th (a_in 0) (a_co 0) (a_ru 0) th_j20) H locs) (hl : lv_has ls 2 [(0, .ref (a_th 0))]) (hf : j_X4_isFirstOfItsKind_20 n  th_j20 s0_j20 = some res), W p l e { frames := 0, cells := 0, slots := 0, locals := 0 } s m args below meth c H locs 0 0 Q (F0 m 20 ls [.int s0_j20]) := by
    intro th_j20 s0_j20 H locs ls hW hl hf
    unfold j_X4_isFirstOfItsKind_20 at hf
    refine k_istore_n (lv' := [(1, .int s0_j20), (0, .ref (a_th 0))]) E rfl hl dX4_isFirstOfItsKind_20 rfl (by decide) rfl (fun ls hl => ?_)
    refine k_aload_n E hl 1 dX4_isFirstOfItsKind_21 rfl ?_
    refine lv_dup E.hx E.hb dX4_isFirstOfItsKind_22 rfl ?_
    refine gf_X4_49 E hW 0 rfl rfl dX4_isFirstOfItsKind_23 ?_
    refine k_aload_n E hl 1 dX4_isFirstOfItsKind_26 rfl ?_
    refine gf_X4_40 E hW 0 rfl rfl dX4_isFirstOfItsKind_27 ?_
    obtain ⟨hin, hf⟩ := oI hf
    refine k_wbit hE E hW hin tm_1233 dX4_isFirstOfItsKind_30 ?_
    refine lv_ior E.hx E.hb dX4_isFirstOfItsKind_33 ?_
    obtain ⟨th_1, eth_1, hf⟩ := oL hf
    refine pf_X4_49 (ws2 := wReader k a_th (a_in 0) (a_co 0) (a_ru 0) th_1) E hW 0 rfl rfl rfl (Nat.le_of_ble_eq_true rfl) dX4_isFirstOfItsKind_34 (by rw [eth_1]; rfl) (fun H locs hW => ?_)
    refine k_iload_n E hl 0 dX4_isFirstOfItsKind_37 rfl ?_
    obtain ⟨hz, hf⟩ := oZ hf
    exact hret _ th_1 _ _ _ _ _ _ hW (Option.some.inj hf).symm hz (by decide) (by decide) dX4_isFirstOfItsKind_38
  refine lv_if_ne (tgt := 19) E.hx E.hb dX4_isFirstOfItsKind_12 (by decide) (fun hc => ?_) (fun hc => ?_)
  · have hf := oF hc hf
    refine lv_iconst (v := (0 : Int32)) E.hx E.hb dX4_isFirstOfItsKind_19 ic_0 ?_
    exact J_20 th_0 (0 : Int32) _ _ _ hW (lv_sub hl [0] rfl) hf
  · have hf := oT hc hf
    refine lv_iconst (v := (1 : Int32)) E.hx E.hb dX4_isFirstOfItsKind_15 ic_1 ?_
    refine lv_goto (tgt := 20) E.hx E.hb dX4_isFirstOfItsKind_16 (by decide) ?_
    exact J_20 th_0 (1 : Int32) _ _ _ hW (lv_sub hl [0] rfl) hf
def f_X4_readSetting (n : Nat) (th_0 : OS) (z_in : Nat) (in_0 : OS) (ru_0 : OS) : Option (OS × OS × Int32) :=
  bnd2 (f_X4_isFirstOfItsKind n th_0) (fun (th_1 : OS) (r_2 : Int32) =>
  if r_2 = 0 then (
  bnd2 (f_X4_fail n th_1 (3 : Int32)) (fun (th_7 : OS) (r_8 : Int32) =>
  gZ r_8 (some (th_7, ru_0, r_8)))) else (
  bnd (f_X4_advance n th_1 z_in in_0) (fun (th_3 : OS) =>
  gI 14 (th_1.1 8) (
  gI 14 (th_1.1 8) (
  bnd2 (f_X4_readNumber n th_3 z_in in_0 (wLow (th_1.1 8)) (wHigh (th_1.1 8))) (fun (th_4 : OS) (r_5 : Int32) =>
  if r_5 = 0 then (
  some (th_4, ru_0, (0 : Int32))) else (
  bnd (f_X5_set n ru_0 (th_1.1 8) (th_4.1 10)) (fun (ru_6 : OS) =>
  some (th_4, ru_6, (1 : Int32))))))))))
set_option maxHeartbeats 4000000 in
set_option maxRecDepth 100000 in
theorem c_X4_readSetting (n : Nat) (l : Launch) (k : KT) (hE : EH k) (a_th : Nat → Nat) (a_in : Nat → Nat) (a_ru : Nat → Nat) (a_co : Nat → Nat) (th_0 : OS) (z_in : Nat) (in_0 : OS) (ru_0 : OS) (res : (OS × OS × Int32)) (hf : f_X4_readSetting n th_0 z_in in_0 ru_0 = some res) : CG l k yX4_readSetting cX4_readSetting 2 (some .boolean) 7 0 0 164 [.ref (a_th 0)] (wReader k a_th (a_in 0) (a_co 0) (a_ru 0) th_0 ++ wBytes k a_in z_in in_0 ++ wRules k a_ru ru_0) (Qi k (fun u : (OS) × (OS) => wReader k a_th (a_in 0) (a_co 0) (a_ru 0) (u.1) ++ wBytes k a_in z_in in_0 ++ wRules k a_ru (u.2)) (fun (r : Int32) (u : (OS) × (OS)) => res = (u.1, u.2, r))) := by
  refine CG.ofI (by decide) (Nat.le_of_ble_eq_true rfl) (fun p e s m args below meth c A Q E hnm hW hA hret ls hl => ?_)
  have hl : lv_has ls 2 [(0, .ref (a_th 0))] := hl
  unfold f_X4_readSetting at hf
  refine k_aload_n E hl 0 dX4_readSetting_0 rfl ?_
  obtain ⟨th_1, r_2, hg, hf⟩ := ob2 hf
  refine k_callVi (As := []) (rest := []) (ws2 := fun u => wReader k a_th (a_in 0) (a_co 0) (a_ru 0) (u) ++ wBytes k a_in z_in in_0 ++ wRules k a_ru ru_0) (c_X4_isFirstOfItsKind n l k hE a_th a_in a_ru a_co th_0 (th_1, r_2) hg) E vl_X4_164 dX4_readSetting_1 rfl [0] 5 0 hW hA hl rfl rfl rfl rfl ⟨by decide, by decide⟩ ⟨by decide, by decide⟩ (Nat.le_of_ble_eq_true rfl) rfl (fun _ => rfl) (fun _ => rfl) (fun r u H locs hp hW => ?_)
  cases hp
  have hW : WD k A s.heap (wReader k a_th (a_in 0) (a_co 0) (a_ru 0) th_1 ++ wBytes k a_in z_in in_0 ++ wRules k a_ru ru_0) H locs := hW
  refine lv_if_ne (tgt := 13) E.hx E.hb dX4_readSetting_4 (by decide) (fun hc => ?_) (fun hc => ?_)
  · have hf := oF hc hf
    refine k_aload_n E hl 0 dX4_readSetting_13 rfl ?_
    refine gf_X4_40 E hW 0 rfl rfl dX4_readSetting_14 ?_
    refine lv_astore_n (lv' := [(1, .ref (wordAd k (th_1.1 8))), (0, .ref (a_th 0))]) E.hx E.hb dX4_readSetting_17 rfl hl (by decide) rfl (fun ls hl => ?_)
    refine k_aload_n E hl 1 dX4_readSetting_18 rfl ?_
    obtain ⟨th_3, hg, hf⟩ := ob hf
    refine k_callVv (As := []) (rest := []) (ws2 := fun u => wReader k a_th (a_in 0) (a_co 0) (a_ru 0) (u) ++ wBytes k a_in z_in in_0 ++ wRules k a_ru ru_0) (c_X4_advance n l k hE a_th a_in a_ru a_co th_1 z_in in_0 th_3 hg) E vl_X4_60 dX4_readSetting_19 rfl [0, 1, 2] 5 0 hW hA hl rfl rfl rfl rfl ⟨by decide, by decide⟩ ⟨by decide, by decide⟩ (Nat.le_of_ble_eq_true rfl) rfl (fun _ => rfl) (fun _ => rfl) (fun u H locs hp hW => ?_)
    cases hp
    have hW : WD k A s.heap (wReader k a_th (a_in 0) (a_co 0) (a_ru 0) th_3 ++ wBytes k a_in z_in in_0 ++ wRules k a_ru ru_0) H locs := hW
    refine k_aload_n E hl 1 dX4_readSetting_22 rfl ?_
    refine k_aload_n E hl 0 dX4_readSetting_23 rfl ?_
    obtain ⟨hin, hf⟩ := oI hf
    refine k_wlow hE E hW hin tm_1230 dX4_readSetting_24 ?_
    refine k_aload_n E hl 0 dX4_readSetting_27 rfl ?_
    obtain ⟨hin, hf⟩ := oI hf
    refine k_whigh hE E hW hin tm_1231 dX4_readSetting_28 ?_
    obtain ⟨th_4, r_5, hg, hf⟩ := ob2 hf
    refine k_callVi (As := [.int (wLow (th_1.1 8)), .int (wHigh (th_1.1 8))]) (rest := []) (ws2 := fun u => wReader k a_th (a_in 0) (a_co 0) (a_ru 0) (u) ++ wBytes k a_in z_in in_0 ++ wRules k a_ru ru_0) (c_X4_readNumber n l k hE a_th a_in a_ru a_co th_3 z_in in_0 (wLow (th_1.1 8)) (wHigh (th_1.1 8)) (th_4, r_5) hg) E vl_X4_91 dX4_readSetting_31 rfl [0, 1, 2] 5 0 hW hA hl rfl rfl rfl rfl ⟨by decide, by decide⟩ ⟨by decide, by decide⟩ (Nat.le_of_ble_eq_true rfl) rfl (fun _ => rfl) (fun _ => rfl) (fun r u H locs hp hW => ?_)
    cases hp
    have hW : WD k A s.heap (wReader k a_th (a_in 0) (a_co 0) (a_ru 0) th_4 ++ wBytes k a_in z_in in_0 ++ wRules k a_ru ru_0) H locs := hW
    refine lv_if_ne (tgt := 39) E.hx E.hb dX4_readSetting_34 (by decide) (fun hc => ?_) (fun hc => ?_)
    · have hf := oF hc hf
      refine k_aload_n E hl 1 dX4_readSetting_39 rfl ?_
      refine gf_X4_12 E hW 0 rfl rfl dX4_readSetting_40 ?_
      refine k_aload_n E hl 0 dX4_readSetting_43 rfl ?_
      refine k_aload_n E hl 1 dX4_readSetting_44 rfl ?_
      refine gf_X4_46 E hW 0 rfl rfl dX4_readSetting_45 ?_
      obtain ⟨ru_6, hg, hf⟩ := ob hf
      refine k_callVv (As := [.ref (wordAd k (th_1.1 8)), .int (th_4.1 10)]) (rest := []) (ws2 := fun u => wReader k a_th (a_in 0) (a_co 0) (a_ru 0) th_4 ++ wBytes k a_in z_in in_0 ++ wRules k a_ru (u)) (c_X5_set n l k hE a_ru ru_0 (th_1.1 8) (th_4.1 10) ru_6 hg) E vl_X4_170 dX4_readSetting_48 rfl [3, 4, 5] 6 3 hW hA hl rfl rfl rfl rfl ⟨by decide, by decide⟩ ⟨by decide, by decide⟩ (Nat.le_of_ble_eq_true rfl) rfl (fun _ => rfl) (fun _ => rfl) (fun u H locs hp hW => ?_)
      cases hp
      have hW : WD k A s.heap (wReader k a_th (a_in 0) (a_co 0) (a_ru 0) th_4 ++ wBytes k a_in z_in in_0 ++ wRules k a_ru ru_6) H locs := hW
      refine lv_iconst (v := (1 : Int32)) E.hx E.hb dX4_readSetting_51 ic_1 ?_
      exact hret _ (th_4, ru_6) _ _ _ _ _ _ hW (Option.some.inj hf).symm (by decide) (by decide) (by decide) dX4_readSetting_52
    · have hf := oT hc hf
      refine lv_iconst (v := (0 : Int32)) E.hx E.hb dX4_readSetting_37 ic_0 ?_
      exact hret _ (th_4, ru_0) _ _ _ _ _ _ hW (Option.some.inj hf).symm (by decide) (by decide) (by decide) dX4_readSetting_38
  · have hf := oT hc hf
    refine k_aload_n E hl 0 dX4_readSetting_7 rfl ?_
    refine lv_iconst (v := (3 : Int32)) E.hx E.hb dX4_readSetting_8 ic_3 ?_
    obtain ⟨th_7, r_8, hg, hf⟩ := ob2 hf
    refine k_callVi (As := [.int (3 : Int32)]) (rest := []) (ws2 := fun u => wReader k a_th (a_in 0) (a_co 0) (a_ru 0) (u) ++ wBytes k a_in z_in in_0 ++ wRules k a_ru ru_0) (c_X4_fail n l k a_th a_in a_ru a_co th_1 (3 : Int32) (th_7, r_8) hg) E vl_X4_81 dX4_readSetting_9 rfl [0] 5 0 hW hA hl rfl rfl rfl rfl ⟨by decide, by decide⟩ ⟨by decide, by decide⟩ (Nat.le_of_ble_eq_true rfl) rfl (fun _ => rfl) (fun _ => rfl) (fun r u H locs hp hW => ?_)
    cases hp
    have hW : WD k A s.heap (wReader k a_th (a_in 0) (a_co 0) (a_ru 0) th_7 ++ wBytes k a_in z_in in_0 ++ wRules k a_ru ru_0) H locs := hW
    obtain ⟨hz, hf⟩ := oZ hf
    exact hret _ (th_7, ru_0) _ _ _ _ _ _ hW (Option.some.inj hf).symm hz (by decide) (by decide) dX4_readSetting_12
def f_X4_readOrder (n : Nat) (th_0 : OS) (z_in : Nat) (in_0 : OS) (co_0 : OS) : Option (OS × OS × Int32) :=
  bnd2 (f_X4_isFirstOfItsKind n th_0) (fun (th_1 : OS) (r_2 : Int32) =>
  if r_2 = 0 then (
  bnd2 (f_X4_fail n th_1 (3 : Int32)) (fun (th_13 : OS) (r_14 : Int32) =>
  gZ r_14 (some (th_13, co_0, r_14)))) else (
  bnd (f_X4_advance n th_1 z_in in_0) (fun (th_3 : OS) =>
  gI 14 (th_3.1 8) (
  gI 14 (th_3.1 8) (Let (wMap (th_3.1 8)) (fun x_4 : Int32 =>
  if (x_4).toInt < 10 ∨ 12 < (x_4).toInt then (
  bnd2 (f_X4_fail n th_3 (1 : Int32)) (fun (th_5 : OS) (r_6 : Int32) =>
  gZ r_6 (some (th_5, co_0, r_6)))) else (if x_4 = (10 : Int32) then (
  Let (sI co_0 1 (0 : Int32)) (fun co_7 : OS =>
  bnd (f_X4_advance n th_3 z_in in_0) (fun (th_8 : OS) =>
  some (th_8, co_7, (1 : Int32))))) else (if x_4 = (11 : Int32) then (
  Let (sI co_0 1 (1 : Int32)) (fun co_9 : OS =>
  bnd (f_X4_advance n th_3 z_in in_0) (fun (th_10 : OS) =>
  some (th_10, co_9, (1 : Int32))))) else (Let (sI co_0 1 (2 : Int32)) (fun co_11 : OS =>
  bnd (f_X4_advance n th_3 z_in in_0) (fun (th_12 : OS) =>
  some (th_12, co_11, (1 : Int32)))))))))))))
set_option maxHeartbeats 4000000 in
set_option maxRecDepth 100000 in
theorem c_X4_readOrder (n : Nat) (l : Launch) (k : KT) (hE : EH k) (a_th : Nat → Nat) (a_in : Nat → Nat) (a_ru : Nat → Nat) (a_co : Nat → Nat) (th_0 : OS) (z_in : Nat) (in_0 : OS) (co_0 : OS) (res : (OS × OS × Int32)) (hf : f_X4_readOrder n th_0 z_in in_0 co_0 = some res) : CG l k yX4_readOrder cX4_readOrder 1 (some .boolean) 6 0 0 140 [.ref (a_th 0)] (wReader k a_th (a_in 0) (a_co 0) (a_ru 0) th_0 ++ wBytes k a_in z_in in_0 ++ wCourt k a_co co_0) (Qi k (fun u : (OS) × (OS) => wReader k a_th (a_in 0) (a_co 0) (a_ru 0) (u.1) ++ wBytes k a_in z_in in_0 ++ wCourt k a_co (u.2)) (fun (r : Int32) (u : (OS) × (OS)) => res = (u.1, u.2, r))) := by
  refine CG.ofI (by decide) (Nat.le_of_ble_eq_true rfl) (fun p e s m args below meth c A Q E hnm hW hA hret ls hl => ?_)
  have hl : lv_has ls 1 [(0, .ref (a_th 0))] := hl
  unfold f_X4_readOrder at hf
  refine k_aload_n E hl 0 dX4_readOrder_0 rfl ?_
  obtain ⟨th_1, r_2, hg, hf⟩ := ob2 hf
  refine k_callVi (As := []) (rest := []) (ws2 := fun u => wReader k a_th (a_in 0) (a_co 0) (a_ru 0) (u) ++ wBytes k a_in z_in in_0 ++ wCourt k a_co co_0) (c_X4_isFirstOfItsKind n l k hE a_th a_in a_ru a_co th_0 (th_1, r_2) hg) E vl_X4_164 dX4_readOrder_1 rfl [0] 5 0 hW hA hl rfl rfl rfl rfl ⟨by decide, by decide⟩ ⟨by decide, by decide⟩ (Nat.le_of_ble_eq_true rfl) rfl (fun _ => rfl) (fun _ => rfl) (fun r u H locs hp hW => ?_)
  cases hp
  have hW : WD k A s.heap (wReader k a_th (a_in 0) (a_co 0) (a_ru 0) th_1 ++ wBytes k a_in z_in in_0 ++ wCourt k a_co co_0) H locs := hW
  refine lv_if_ne (tgt := 13) E.hx E.hb dX4_readOrder_4 (by decide) (fun hc => ?_) (fun hc => ?_)
  · have hf := oF hc hf
    refine k_aload_n E hl 0 dX4_readOrder_13 rfl ?_
    obtain ⟨th_3, hg, hf⟩ := ob hf
    refine k_callVv (As := []) (rest := []) (ws2 := fun u => wReader k a_th (a_in 0) (a_co 0) (a_ru 0) (u) ++ wBytes k a_in z_in in_0 ++ wCourt k a_co co_0) (c_X4_advance n l k hE a_th a_in a_ru a_co th_1 z_in in_0 th_3 hg) E vl_X4_60 dX4_readOrder_14 rfl [0, 1, 2] 5 0 hW hA hl rfl rfl rfl rfl ⟨by decide, by decide⟩ ⟨by decide, by decide⟩ (Nat.le_of_ble_eq_true rfl) rfl (fun _ => rfl) (fun _ => rfl) (fun u H locs hp hW => ?_)
    cases hp
    have hW : WD k A s.heap (wReader k a_th (a_in 0) (a_co 0) (a_ru 0) th_3 ++ wBytes k a_in z_in in_0 ++ wCourt k a_co co_0) H locs := hW
    refine k_smap hE E hW tm_810 dX4_readOrder_17 (fun aw_17 hw_17 => ?_)
    refine k_aload_n E hl 0 dX4_readOrder_20 rfl ?_
    refine gf_X4_40 E hW 0 rfl rfl dX4_readOrder_21 ?_
    obtain ⟨hin, hf⟩ := oI hf
    refine k_ordinal hE E ul_X4_108 (th_3.1 8) hin dX4_readOrder_24 hW hA hl ⟨by decide, by decide⟩ ⟨by decide, by decide⟩ (Nat.le_of_ble_eq_true rfl) (fun H locs hW => ?_)
    obtain ⟨hin, hf⟩ := oI hf
    obtain ⟨x_4, ex_4, hf⟩ := oL hf
    refine k_smald E hW hw_17 hin dX4_readOrder_27 ?_
    refine k_topi ex_4 ?_
    by_cases hsw : (x_4).toInt < 10 ∨ 12 < (x_4).toInt
    · have hf := oT hsw hf
      refine lv_tableOut (tgt := 89) E.hx E.hb dX4_readOrder_28 hsw (by decide) ?_
      refine k_aload_n E hl 0 dX4_readOrder_89 rfl ?_
      refine lv_iconst (v := (1 : Int32)) E.hx E.hb dX4_readOrder_90 ic_1 ?_
      obtain ⟨th_5, r_6, hg, hf⟩ := ob2 hf
      refine k_callVi (As := [.int (1 : Int32)]) (rest := []) (ws2 := fun u => wReader k a_th (a_in 0) (a_co 0) (a_ru 0) (u) ++ wBytes k a_in z_in in_0 ++ wCourt k a_co co_0) (c_X4_fail n l k a_th a_in a_ru a_co th_3 (1 : Int32) (th_5, r_6) hg) E vl_X4_81 dX4_readOrder_91 rfl [0] 5 0 hW hA hl rfl rfl rfl rfl ⟨by decide, by decide⟩ ⟨by decide, by decide⟩ (Nat.le_of_ble_eq_true rfl) rfl (fun _ => rfl) (fun _ => rfl) (fun r u H locs hp hW => ?_)
      cases hp
      have hW : WD k A s.heap (wReader k a_th (a_in 0) (a_co 0) (a_ru 0) th_5 ++ wBytes k a_in z_in in_0 ++ wCourt k a_co co_0) H locs := hW
      obtain ⟨hz, hf⟩ := oZ hf
      exact hret _ (th_5, co_0) _ _ _ _ _ _ hW (Option.some.inj hf).symm hz (by decide) (by decide) dX4_readOrder_94
    · have hf := oF hsw hf
      by_cases hc : x_4 = (10 : Int32)
      · have hf := oT hc hf
        refine lv_tableIn (off := (28)) (tgt := 56) E.hx E.hb dX4_readOrder_28 (by rw [hc]; decide) (by rw [hc]; decide) (by rw [hc]; rfl) (by decide) ?_
        refine k_aload_n E hl 0 dX4_readOrder_56 rfl ?_
        refine gf_X4_56 E hW 0 rfl rfl dX4_readOrder_57 ?_
        refine lv_iconst (v := (0 : Int32)) E.hx E.hb dX4_readOrder_60 ic_0 ?_
        obtain ⟨co_7, eco_7, hf⟩ := oL hf
        refine pf_X4_167 (ws2 := wReader k a_th (a_in 0) (a_co 0) (a_ru 0) th_3 ++ wBytes k a_in z_in in_0 ++ wCourt k a_co co_7) E hW 3 rfl rfl rfl (Nat.le_of_ble_eq_true rfl) dX4_readOrder_61 (by rw [eco_7]; rfl) (fun H locs hW => ?_)
        refine lv_goto (tgt := 95) E.hx E.hb dX4_readOrder_64 (by decide) ?_
        refine k_aload_n E hl 0 dX4_readOrder_95 rfl ?_
        obtain ⟨th_8, hg, hf⟩ := ob hf
        refine k_callVv (As := []) (rest := []) (ws2 := fun u => wReader k a_th (a_in 0) (a_co 0) (a_ru 0) (u) ++ wBytes k a_in z_in in_0 ++ wCourt k a_co co_7) (c_X4_advance n l k hE a_th a_in a_ru a_co th_3 z_in in_0 th_8 hg) E vl_X4_60 dX4_readOrder_96 rfl [0, 1, 2] 5 0 hW hA hl rfl rfl rfl rfl ⟨by decide, by decide⟩ ⟨by decide, by decide⟩ (Nat.le_of_ble_eq_true rfl) rfl (fun _ => rfl) (fun _ => rfl) (fun u H locs hp hW => ?_)
        cases hp
        have hW : WD k A s.heap (wReader k a_th (a_in 0) (a_co 0) (a_ru 0) th_8 ++ wBytes k a_in z_in in_0 ++ wCourt k a_co co_7) H locs := hW
        refine lv_iconst (v := (1 : Int32)) E.hx E.hb dX4_readOrder_99 ic_1 ?_
        exact hret _ (th_8, co_7) _ _ _ _ _ _ hW (Option.some.inj hf).symm (by decide) (by decide) (by decide) dX4_readOrder_100
      have hf := oF hc hf; have hn_10 := hc; clear hc
      by_cases hc : x_4 = (11 : Int32)
      · have hf := oT hc hf
        refine lv_tableIn (off := (39)) (tgt := 67) E.hx E.hb dX4_readOrder_28 (by rw [hc]; decide) (by rw [hc]; decide) (by rw [hc]; rfl) (by decide) ?_
        refine k_aload_n E hl 0 dX4_readOrder_67 rfl ?_
        refine gf_X4_56 E hW 0 rfl rfl dX4_readOrder_68 ?_
        refine lv_iconst (v := (1 : Int32)) E.hx E.hb dX4_readOrder_71 ic_1 ?_
        obtain ⟨co_9, eco_9, hf⟩ := oL hf
        refine pf_X4_167 (ws2 := wReader k a_th (a_in 0) (a_co 0) (a_ru 0) th_3 ++ wBytes k a_in z_in in_0 ++ wCourt k a_co co_9) E hW 3 rfl rfl rfl (Nat.le_of_ble_eq_true rfl) dX4_readOrder_72 (by rw [eco_9]; rfl) (fun H locs hW => ?_)
        refine lv_goto (tgt := 95) E.hx E.hb dX4_readOrder_75 (by decide) ?_
        refine k_aload_n E hl 0 dX4_readOrder_95 rfl ?_
        obtain ⟨th_10, hg, hf⟩ := ob hf
        refine k_callVv (As := []) (rest := []) (ws2 := fun u => wReader k a_th (a_in 0) (a_co 0) (a_ru 0) (u) ++ wBytes k a_in z_in in_0 ++ wCourt k a_co co_9) (c_X4_advance n l k hE a_th a_in a_ru a_co th_3 z_in in_0 th_10 hg) E vl_X4_60 dX4_readOrder_96 rfl [0, 1, 2] 5 0 hW hA hl rfl rfl rfl rfl ⟨by decide, by decide⟩ ⟨by decide, by decide⟩ (Nat.le_of_ble_eq_true rfl) rfl (fun _ => rfl) (fun _ => rfl) (fun u H locs hp hW => ?_)
        cases hp
        have hW : WD k A s.heap (wReader k a_th (a_in 0) (a_co 0) (a_ru 0) th_10 ++ wBytes k a_in z_in in_0 ++ wCourt k a_co co_9) H locs := hW
        refine lv_iconst (v := (1 : Int32)) E.hx E.hb dX4_readOrder_99 ic_1 ?_
        exact hret _ (th_10, co_9) _ _ _ _ _ _ hW (Option.some.inj hf).symm (by decide) (by decide) (by decide) dX4_readOrder_100
      have hf := oF hc hf; have hn_11 := hc; clear hc
      have hc : x_4 = (12 : Int32) := by
        apply Int32.toInt_inj.mp; rw [show ((12 : Int32)).toInt = 12 from by decide]
        have hn_10 : ¬ (x_4).toInt = 10 := fun z => hn_10 (Int32.toInt_inj.mp (z.trans (show (10 : Int) = ((10 : Int32)).toInt from by decide)))
        have hn_11 : ¬ (x_4).toInt = 11 := fun z => hn_11 (Int32.toInt_inj.mp (z.trans (show (11 : Int) = ((11 : Int32)).toInt from by decide)))
        omega
      refine lv_tableIn (off := (50)) (tgt := 78) E.hx E.hb dX4_readOrder_28 (by rw [hc]; decide) (by rw [hc]; decide) (by rw [hc]; rfl) (by decide) ?_
      refine k_aload_n E hl 0 dX4_readOrder_78 rfl ?_
      refine gf_X4_56 E hW 0 rfl rfl dX4_readOrder_79 ?_
      refine lv_iconst (v := (2 : Int32)) E.hx E.hb dX4_readOrder_82 ic_2 ?_
      obtain ⟨co_11, eco_11, hf⟩ := oL hf
      refine pf_X4_167 (ws2 := wReader k a_th (a_in 0) (a_co 0) (a_ru 0) th_3 ++ wBytes k a_in z_in in_0 ++ wCourt k a_co co_11) E hW 3 rfl rfl rfl (Nat.le_of_ble_eq_true rfl) dX4_readOrder_83 (by rw [eco_11]; rfl) (fun H locs hW => ?_)
      refine lv_goto (tgt := 95) E.hx E.hb dX4_readOrder_86 (by decide) ?_
      refine k_aload_n E hl 0 dX4_readOrder_95 rfl ?_
      obtain ⟨th_12, hg, hf⟩ := ob hf
      refine k_callVv (As := []) (rest := []) (ws2 := fun u => wReader k a_th (a_in 0) (a_co 0) (a_ru 0) (u) ++ wBytes k a_in z_in in_0 ++ wCourt k a_co co_11) (c_X4_advance n l k hE a_th a_in a_ru a_co th_3 z_in in_0 th_12 hg) E vl_X4_60 dX4_readOrder_96 rfl [0, 1, 2] 5 0 hW hA hl rfl rfl rfl rfl ⟨by decide, by decide⟩ ⟨by decide, by decide⟩ (Nat.le_of_ble_eq_true rfl) rfl (fun _ => rfl) (fun _ => rfl) (fun u H locs hp hW => ?_)
      cases hp
      have hW : WD k A s.heap (wReader k a_th (a_in 0) (a_co 0) (a_ru 0) th_12 ++ wBytes k a_in z_in in_0 ++ wCourt k a_co co_11) H locs := hW
      refine lv_iconst (v := (1 : Int32)) E.hx E.hb dX4_readOrder_99 ic_1 ?_
      exact hret _ (th_12, co_11) _ _ _ _ _ _ hW (Option.some.inj hf).symm (by decide) (by decide) (by decide) dX4_readOrder_100
  · have hf := oT hc hf
    refine k_aload_n E hl 0 dX4_readOrder_7 rfl ?_
    refine lv_iconst (v := (3 : Int32)) E.hx E.hb dX4_readOrder_8 ic_3 ?_
    obtain ⟨th_13, r_14, hg, hf⟩ := ob2 hf
    refine k_callVi (As := [.int (3 : Int32)]) (rest := []) (ws2 := fun u => wReader k a_th (a_in 0) (a_co 0) (a_ru 0) (u) ++ wBytes k a_in z_in in_0 ++ wCourt k a_co co_0) (c_X4_fail n l k a_th a_in a_ru a_co th_1 (3 : Int32) (th_13, r_14) hg) E vl_X4_81 dX4_readOrder_9 rfl [0] 5 0 hW hA hl rfl rfl rfl rfl ⟨by decide, by decide⟩ ⟨by decide, by decide⟩ (Nat.le_of_ble_eq_true rfl) rfl (fun _ => rfl) (fun _ => rfl) (fun r u H locs hp hW => ?_)
    cases hp
    have hW : WD k A s.heap (wReader k a_th (a_in 0) (a_co 0) (a_ru 0) th_13 ++ wBytes k a_in z_in in_0 ++ wCourt k a_co co_0) H locs := hW
    obtain ⟨hz, hf⟩ := oZ hf
    exact hret _ (th_13, co_0) _ _ _ _ _ _ hW (Option.some.inj hf).symm hz (by decide) (by decide) dX4_readOrder_12
def f_X4_readClaim (n : Nat) (th_0 : OS) (z_in : Nat) (in_0 : OS) (ru_0 : OS) (co_0 : OS) : Option (OS × OS × Int32) :=
  if (co_0.1 4) < (60 : Int32) then (
  bnd (f_X4_advance n th_0 z_in in_0) (fun (th_1 : OS) =>
  bnd2 (f_X4_readProcess n th_1 z_in in_0 ru_0) (fun (th_2 : OS) (r_3 : Int32) =>
  if r_3 = 0 then (
  some (th_2, co_0, (0 : Int32))) else (
  bnd2 (f_X4_readNumber n th_2 z_in in_0 (1 : Int32) (ru_0.1 0)) (fun (th_4 : OS) (r_5 : Int32) =>
  if r_5 = 0 then (
  some (th_4, co_0, (0 : Int32))) else (
  Let (th_4.1 10) (fun v1_6 : Int32 =>
  bnd2 (f_X4_readNumber n th_4 z_in in_0 (1 : Int32) (99 : Int32)) (fun (th_7 : OS) (r_8 : Int32) =>
  if r_8 = 0 then (
  some (th_7, co_0, (0 : Int32))) else (
  bnd2 (f_X2_addClaim n co_0 (th_7.1 9) v1_6 (th_7.1 10)) (fun (co_9 : OS) (r_10 : Int32) =>
  some (th_7, co_9, (1 : Int32)))))))))))) else (
  bnd2 (f_X4_fail n th_0 (4 : Int32)) (fun (th_11 : OS) (r_12 : Int32) =>
  gZ r_12 (some (th_11, co_0, r_12))))
set_option maxHeartbeats 4000000 in
set_option maxRecDepth 100000 in
theorem c_X4_readClaim (n : Nat) (l : Launch) (k : KT) (hE : EH k) (a_th : Nat → Nat) (a_in : Nat → Nat) (a_ru : Nat → Nat) (a_co : Nat → Nat) (th_0 : OS) (z_in : Nat) (in_0 : OS) (ru_0 : OS) (co_0 : OS) (res : (OS × OS × Int32)) (hf : f_X4_readClaim n th_0 z_in in_0 ru_0 co_0 = some res) : CG l k yX4_readClaim cX4_readClaim 2 (some .boolean) 7 0 0 164 [.ref (a_th 0)] (wReader k a_th (a_in 0) (a_co 0) (a_ru 0) th_0 ++ wBytes k a_in z_in in_0 ++ wRules k a_ru ru_0 ++ wCourt k a_co co_0) (Qi k (fun u : (OS) × (OS) => wReader k a_th (a_in 0) (a_co 0) (a_ru 0) (u.1) ++ wBytes k a_in z_in in_0 ++ wRules k a_ru ru_0 ++ wCourt k a_co (u.2)) (fun (r : Int32) (u : (OS) × (OS)) => res = (u.1, u.2, r))) := by
  refine CG.ofI (by decide) (Nat.le_of_ble_eq_true rfl) (fun p e s m args below meth c A Q E hnm hW hA hret ls hl => ?_)
  have hl : lv_has ls 2 [(0, .ref (a_th 0))] := hl
  unfold f_X4_readClaim at hf
  refine k_aload_n E hl 0 dX4_readClaim_0 rfl ?_
  refine gf_X4_56 E hW 0 rfl rfl dX4_readClaim_1 ?_
  refine gf_X4_154 E hW 6 rfl rfl dX4_readClaim_4 ?_
  refine lv_bipush (v := (60 : Int32)) E.hx E.hb dX4_readClaim_7 bp_60 ?_
  refine lv_icmp_lt (tgt := 18) E.hx E.hb dX4_readClaim_9 (by decide) (fun hc => ?_) (fun hc => ?_)
  · have hf := oT hc hf
    refine k_aload_n E hl 0 dX4_readClaim_18 rfl ?_
    obtain ⟨th_1, hg, hf⟩ := ob hf
    refine k_callVv (As := []) (rest := []) (ws2 := fun u => wReader k a_th (a_in 0) (a_co 0) (a_ru 0) (u) ++ wBytes k a_in z_in in_0 ++ wRules k a_ru ru_0 ++ wCourt k a_co co_0) (c_X4_advance n l k hE a_th a_in a_ru a_co th_0 z_in in_0 th_1 hg) E vl_X4_60 dX4_readClaim_19 rfl [0, 1, 2] 5 0 hW hA hl rfl rfl rfl rfl ⟨by decide, by decide⟩ ⟨by decide, by decide⟩ (Nat.le_of_ble_eq_true rfl) rfl (fun _ => rfl) (fun _ => rfl) (fun u H locs hp hW => ?_)
    cases hp
    have hW : WD k A s.heap (wReader k a_th (a_in 0) (a_co 0) (a_ru 0) th_1 ++ wBytes k a_in z_in in_0 ++ wRules k a_ru ru_0 ++ wCourt k a_co co_0) H locs := hW
    refine k_aload_n E hl 0 dX4_readClaim_22 rfl ?_
    obtain ⟨th_2, r_3, hg, hf⟩ := ob2 hf
    refine k_callVi (As := []) (rest := []) (ws2 := fun u => wReader k a_th (a_in 0) (a_co 0) (a_ru 0) (u) ++ wBytes k a_in z_in in_0 ++ wRules k a_ru ru_0 ++ wCourt k a_co co_0) (c_X4_readProcess n l k hE a_th a_in a_ru a_co th_1 z_in in_0 ru_0 (th_2, r_3) hg) E vl_X4_144 dX4_readClaim_23 rfl [0, 1, 2, 3, 4, 5] 5 0 hW hA hl rfl rfl rfl rfl ⟨by decide, by decide⟩ ⟨by decide, by decide⟩ (Nat.le_of_ble_eq_true rfl) rfl (fun _ => rfl) (fun _ => rfl) (fun r u H locs hp hW => ?_)
    cases hp
    have hW : WD k A s.heap (wReader k a_th (a_in 0) (a_co 0) (a_ru 0) th_2 ++ wBytes k a_in z_in in_0 ++ wRules k a_ru ru_0 ++ wCourt k a_co co_0) H locs := hW
    refine lv_if_eq (tgt := 44) E.hx E.hb dX4_readClaim_26 (by decide) (fun hc => ?_) (fun hc => ?_)
    · have hf := oT hc hf
      refine lv_iconst (v := (0 : Int32)) E.hx E.hb dX4_readClaim_44 ic_0 ?_
      exact hret _ (th_2, co_0) _ _ _ _ _ _ hW (Option.some.inj hf).symm (by decide) (by decide) (by decide) dX4_readClaim_45
    · have hf := oF hc hf
      refine k_aload_n E hl 0 dX4_readClaim_29 rfl ?_
      refine lv_iconst (v := (1 : Int32)) E.hx E.hb dX4_readClaim_30 ic_1 ?_
      refine k_aload_n E hl 0 dX4_readClaim_31 rfl ?_
      refine gf_X4_12 E hW 0 rfl rfl dX4_readClaim_32 ?_
      refine gf_X4_157 E hW 3 rfl rfl dX4_readClaim_35 ?_
      obtain ⟨th_4, r_5, hg, hf⟩ := ob2 hf
      refine k_callVi (As := [.int (1 : Int32), .int (ru_0.1 0)]) (rest := []) (ws2 := fun u => wReader k a_th (a_in 0) (a_co 0) (a_ru 0) (u) ++ wBytes k a_in z_in in_0 ++ wRules k a_ru ru_0 ++ wCourt k a_co co_0) (c_X4_readNumber n l k hE a_th a_in a_ru a_co th_2 z_in in_0 (1 : Int32) (ru_0.1 0) (th_4, r_5) hg) E vl_X4_91 dX4_readClaim_38 rfl [0, 1, 2] 5 0 hW hA hl rfl rfl rfl rfl ⟨by decide, by decide⟩ ⟨by decide, by decide⟩ (Nat.le_of_ble_eq_true rfl) rfl (fun _ => rfl) (fun _ => rfl) (fun r u H locs hp hW => ?_)
      cases hp
      have hW : WD k A s.heap (wReader k a_th (a_in 0) (a_co 0) (a_ru 0) th_4 ++ wBytes k a_in z_in in_0 ++ wRules k a_ru ru_0 ++ wCourt k a_co co_0) H locs := hW
      refine lv_if_ne (tgt := 46) E.hx E.hb dX4_readClaim_41 (by decide) (fun hc => ?_) (fun hc => ?_)
      · have hf := oF hc hf
        refine k_aload_n E hl 0 dX4_readClaim_46 rfl ?_
        refine gf_X4_46 E hW 0 rfl rfl dX4_readClaim_47 ?_
        obtain ⟨v1_6, ev1_6, hf⟩ := oL hf
        refine k_istore_n (lv' := [(1, .int v1_6), (0, .ref (a_th 0))]) E ev1_6 hl dX4_readClaim_50 rfl (by decide) rfl (fun ls hl => ?_)
        refine k_aload_n E hl 1 dX4_readClaim_51 rfl ?_
        refine lv_iconst (v := (1 : Int32)) E.hx E.hb dX4_readClaim_52 ic_1 ?_
        refine lv_bipush (v := (99 : Int32)) E.hx E.hb dX4_readClaim_53 bp_99 ?_
        obtain ⟨th_7, r_8, hg, hf⟩ := ob2 hf
        refine k_callVi (As := [.int (1 : Int32), .int (99 : Int32)]) (rest := []) (ws2 := fun u => wReader k a_th (a_in 0) (a_co 0) (a_ru 0) (u) ++ wBytes k a_in z_in in_0 ++ wRules k a_ru ru_0 ++ wCourt k a_co co_0) (c_X4_readNumber n l k hE a_th a_in a_ru a_co th_4 z_in in_0 (1 : Int32) (99 : Int32) (th_7, r_8) hg) E vl_X4_91 dX4_readClaim_55 rfl [0, 1, 2] 5 0 hW hA hl rfl rfl rfl rfl ⟨by decide, by decide⟩ ⟨by decide, by decide⟩ (Nat.le_of_ble_eq_true rfl) rfl (fun _ => rfl) (fun _ => rfl) (fun r u H locs hp hW => ?_)
        cases hp
        have hW : WD k A s.heap (wReader k a_th (a_in 0) (a_co 0) (a_ru 0) th_7 ++ wBytes k a_in z_in in_0 ++ wRules k a_ru ru_0 ++ wCourt k a_co co_0) H locs := hW
        refine lv_if_ne (tgt := 63) E.hx E.hb dX4_readClaim_58 (by decide) (fun hc => ?_) (fun hc => ?_)
        · have hf := oF hc hf
          refine k_aload_n E hl 1 dX4_readClaim_63 rfl ?_
          refine gf_X4_56 E hW 0 rfl rfl dX4_readClaim_64 ?_
          refine k_aload_n E hl 1 dX4_readClaim_67 rfl ?_
          refine gf_X4_43 E hW 0 rfl rfl dX4_readClaim_68 ?_
          refine k_iload_n E hl 0 dX4_readClaim_71 rfl ?_
          refine k_aload_n E hl 1 dX4_readClaim_72 rfl ?_
          refine gf_X4_46 E hW 0 rfl rfl dX4_readClaim_73 ?_
          obtain ⟨co_9, r_10, hg, hf⟩ := ob2 hf
          refine k_callVi (As := [.int (th_7.1 9), .int v1_6, .int (th_7.1 10)]) (rest := []) (ws2 := fun u => wReader k a_th (a_in 0) (a_co 0) (a_ru 0) th_7 ++ wBytes k a_in z_in in_0 ++ wRules k a_ru ru_0 ++ wCourt k a_co (u)) (c_X2_addClaim n l k a_co co_0 (th_7.1 9) v1_6 (th_7.1 10) (co_9, r_10) hg) E vl_X4_160 dX4_readClaim_76 rfl [6, 7, 8, 9, 10, 11, 12, 13, 14, 15, 16, 17] 3 6 hW hA hl rfl rfl rfl rfl ⟨by decide, by decide⟩ ⟨by decide, by decide⟩ (Nat.le_of_ble_eq_true rfl) rfl (fun _ => rfl) (fun _ => rfl) (fun r u H locs hp hW => ?_)
          cases hp
          have hW : WD k A s.heap (wReader k a_th (a_in 0) (a_co 0) (a_ru 0) th_7 ++ wBytes k a_in z_in in_0 ++ wRules k a_ru ru_0 ++ wCourt k a_co co_9) H locs := hW
          refine lv_pop E.hx E.hb dX4_readClaim_79 rfl ?_
          refine lv_iconst (v := (1 : Int32)) E.hx E.hb dX4_readClaim_80 ic_1 ?_
          exact hret _ (th_7, co_9) _ _ _ _ _ _ hW (Option.some.inj hf).symm (by decide) (by decide) (by decide) dX4_readClaim_81
        · have hf := oT hc hf
          refine lv_iconst (v := (0 : Int32)) E.hx E.hb dX4_readClaim_61 ic_0 ?_
          exact hret _ (th_7, co_0) _ _ _ _ _ _ hW (Option.some.inj hf).symm (by decide) (by decide) (by decide) dX4_readClaim_62
      · have hf := oT hc hf
        refine lv_iconst (v := (0 : Int32)) E.hx E.hb dX4_readClaim_44 ic_0 ?_
        exact hret _ (th_4, co_0) _ _ _ _ _ _ hW (Option.some.inj hf).symm (by decide) (by decide) (by decide) dX4_readClaim_45
  · have hf := oF hc hf
    refine k_aload_n E hl 0 dX4_readClaim_12 rfl ?_
    refine lv_iconst (v := (4 : Int32)) E.hx E.hb dX4_readClaim_13 ic_4 ?_
    obtain ⟨th_11, r_12, hg, hf⟩ := ob2 hf
    refine k_callVi (As := [.int (4 : Int32)]) (rest := []) (ws2 := fun u => wReader k a_th (a_in 0) (a_co 0) (a_ru 0) (u) ++ wBytes k a_in z_in in_0 ++ wRules k a_ru ru_0 ++ wCourt k a_co co_0) (c_X4_fail n l k a_th a_in a_ru a_co th_0 (4 : Int32) (th_11, r_12) hg) E vl_X4_81 dX4_readClaim_14 rfl [0] 5 0 hW hA hl rfl rfl rfl rfl ⟨by decide, by decide⟩ ⟨by decide, by decide⟩ (Nat.le_of_ble_eq_true rfl) rfl (fun _ => rfl) (fun _ => rfl) (fun r u H locs hp hW => ?_)
    cases hp
    have hW : WD k A s.heap (wReader k a_th (a_in 0) (a_co 0) (a_ru 0) th_11 ++ wBytes k a_in z_in in_0 ++ wRules k a_ru ru_0 ++ wCourt k a_co co_0) H locs := hW
    obtain ⟨hz, hf⟩ := oZ hf
    exact hret _ (th_11, co_0) _ _ _ _ _ _ hW (Option.some.inj hf).symm hz (by decide) (by decide) dX4_readClaim_17
def f_X4_readLoan (n : Nat) (th_0 : OS) (z_in : Nat) (in_0 : OS) (ru_0 : OS) (co_0 : OS) : Option (OS × OS × Int32) :=
  if (co_0.1 3) < (20 : Int32) then (
  bnd (f_X4_advance n th_0 z_in in_0) (fun (th_1 : OS) =>
  bnd2 (f_X4_readProcess n th_1 z_in in_0 ru_0) (fun (th_2 : OS) (r_3 : Int32) =>
  if r_3 = 0 then (
  some (th_2, co_0, (0 : Int32))) else (
  bnd2 (f_X4_readNumber n th_2 z_in in_0 (1 : Int32) (co_0.1 2)) (fun (th_4 : OS) (r_5 : Int32) =>
  if r_5 = 0 then (
  some (th_4, co_0, (0 : Int32))) else (
  Let (th_4.1 10) (fun v1_6 : Int32 =>
  bnd2 (f_X4_readNumber n th_4 z_in in_0 (1 : Int32) (99 : Int32)) (fun (th_7 : OS) (r_8 : Int32) =>
  if r_8 = 0 then (
  some (th_7, co_0, (0 : Int32))) else (
  bnd2 (f_X2_lend n co_0 (th_7.1 9) v1_6 (th_7.1 10) (-1 : Int32)) (fun (co_9 : OS) (r_10 : Int32) =>
  some (th_7, co_9, (1 : Int32)))))))))))) else (
  bnd2 (f_X4_fail n th_0 (4 : Int32)) (fun (th_11 : OS) (r_12 : Int32) =>
  gZ r_12 (some (th_11, co_0, r_12))))
set_option maxHeartbeats 4000000 in
set_option maxRecDepth 100000 in
theorem c_X4_readLoan (n : Nat) (l : Launch) (k : KT) (hE : EH k) (a_th : Nat → Nat) (a_in : Nat → Nat) (a_ru : Nat → Nat) (a_co : Nat → Nat) (th_0 : OS) (z_in : Nat) (in_0 : OS) (ru_0 : OS) (co_0 : OS) (res : (OS × OS × Int32)) (hf : f_X4_readLoan n th_0 z_in in_0 ru_0 co_0 = some res) : CG l k yX4_readLoan cX4_readLoan 2 (some .boolean) 7 0 0 164 [.ref (a_th 0)] (wReader k a_th (a_in 0) (a_co 0) (a_ru 0) th_0 ++ wBytes k a_in z_in in_0 ++ wRules k a_ru ru_0 ++ wCourt k a_co co_0) (Qi k (fun u : (OS) × (OS) => wReader k a_th (a_in 0) (a_co 0) (a_ru 0) (u.1) ++ wBytes k a_in z_in in_0 ++ wRules k a_ru ru_0 ++ wCourt k a_co (u.2)) (fun (r : Int32) (u : (OS) × (OS)) => res = (u.1, u.2, r))) := by
  refine CG.ofI (by decide) (Nat.le_of_ble_eq_true rfl) (fun p e s m args below meth c A Q E hnm hW hA hret ls hl => ?_)
  have hl : lv_has ls 2 [(0, .ref (a_th 0))] := hl
  unfold f_X4_readLoan at hf
  refine k_aload_n E hl 0 dX4_readLoan_0 rfl ?_
  refine gf_X4_56 E hW 0 rfl rfl dX4_readLoan_1 ?_
  refine gf_X4_141 E hW 6 rfl rfl dX4_readLoan_4 ?_
  refine lv_bipush (v := (20 : Int32)) E.hx E.hb dX4_readLoan_7 bp_20 ?_
  refine lv_icmp_lt (tgt := 18) E.hx E.hb dX4_readLoan_9 (by decide) (fun hc => ?_) (fun hc => ?_)
  · have hf := oT hc hf
    refine k_aload_n E hl 0 dX4_readLoan_18 rfl ?_
    obtain ⟨th_1, hg, hf⟩ := ob hf
    refine k_callVv (As := []) (rest := []) (ws2 := fun u => wReader k a_th (a_in 0) (a_co 0) (a_ru 0) (u) ++ wBytes k a_in z_in in_0 ++ wRules k a_ru ru_0 ++ wCourt k a_co co_0) (c_X4_advance n l k hE a_th a_in a_ru a_co th_0 z_in in_0 th_1 hg) E vl_X4_60 dX4_readLoan_19 rfl [0, 1, 2] 5 0 hW hA hl rfl rfl rfl rfl ⟨by decide, by decide⟩ ⟨by decide, by decide⟩ (Nat.le_of_ble_eq_true rfl) rfl (fun _ => rfl) (fun _ => rfl) (fun u H locs hp hW => ?_)
    cases hp
    have hW : WD k A s.heap (wReader k a_th (a_in 0) (a_co 0) (a_ru 0) th_1 ++ wBytes k a_in z_in in_0 ++ wRules k a_ru ru_0 ++ wCourt k a_co co_0) H locs := hW
    refine k_aload_n E hl 0 dX4_readLoan_22 rfl ?_
    obtain ⟨th_2, r_3, hg, hf⟩ := ob2 hf
    refine k_callVi (As := []) (rest := []) (ws2 := fun u => wReader k a_th (a_in 0) (a_co 0) (a_ru 0) (u) ++ wBytes k a_in z_in in_0 ++ wRules k a_ru ru_0 ++ wCourt k a_co co_0) (c_X4_readProcess n l k hE a_th a_in a_ru a_co th_1 z_in in_0 ru_0 (th_2, r_3) hg) E vl_X4_144 dX4_readLoan_23 rfl [0, 1, 2, 3, 4, 5] 5 0 hW hA hl rfl rfl rfl rfl ⟨by decide, by decide⟩ ⟨by decide, by decide⟩ (Nat.le_of_ble_eq_true rfl) rfl (fun _ => rfl) (fun _ => rfl) (fun r u H locs hp hW => ?_)
    cases hp
    have hW : WD k A s.heap (wReader k a_th (a_in 0) (a_co 0) (a_ru 0) th_2 ++ wBytes k a_in z_in in_0 ++ wRules k a_ru ru_0 ++ wCourt k a_co co_0) H locs := hW
    refine lv_if_eq (tgt := 44) E.hx E.hb dX4_readLoan_26 (by decide) (fun hc => ?_) (fun hc => ?_)
    · have hf := oT hc hf
      refine lv_iconst (v := (0 : Int32)) E.hx E.hb dX4_readLoan_44 ic_0 ?_
      exact hret _ (th_2, co_0) _ _ _ _ _ _ hW (Option.some.inj hf).symm (by decide) (by decide) (by decide) dX4_readLoan_45
    · have hf := oF hc hf
      refine k_aload_n E hl 0 dX4_readLoan_29 rfl ?_
      refine lv_iconst (v := (1 : Int32)) E.hx E.hb dX4_readLoan_30 ic_1 ?_
      refine k_aload_n E hl 0 dX4_readLoan_31 rfl ?_
      refine gf_X4_56 E hW 0 rfl rfl dX4_readLoan_32 ?_
      refine gf_X4_147 E hW 6 rfl rfl dX4_readLoan_35 ?_
      obtain ⟨th_4, r_5, hg, hf⟩ := ob2 hf
      refine k_callVi (As := [.int (1 : Int32), .int (co_0.1 2)]) (rest := []) (ws2 := fun u => wReader k a_th (a_in 0) (a_co 0) (a_ru 0) (u) ++ wBytes k a_in z_in in_0 ++ wRules k a_ru ru_0 ++ wCourt k a_co co_0) (c_X4_readNumber n l k hE a_th a_in a_ru a_co th_2 z_in in_0 (1 : Int32) (co_0.1 2) (th_4, r_5) hg) E vl_X4_91 dX4_readLoan_38 rfl [0, 1, 2] 5 0 hW hA hl rfl rfl rfl rfl ⟨by decide, by decide⟩ ⟨by decide, by decide⟩ (Nat.le_of_ble_eq_true rfl) rfl (fun _ => rfl) (fun _ => rfl) (fun r u H locs hp hW => ?_)
      cases hp
      have hW : WD k A s.heap (wReader k a_th (a_in 0) (a_co 0) (a_ru 0) th_4 ++ wBytes k a_in z_in in_0 ++ wRules k a_ru ru_0 ++ wCourt k a_co co_0) H locs := hW
      refine lv_if_ne (tgt := 46) E.hx E.hb dX4_readLoan_41 (by decide) (fun hc => ?_) (fun hc => ?_)
      · have hf := oF hc hf
        refine k_aload_n E hl 0 dX4_readLoan_46 rfl ?_
        refine gf_X4_46 E hW 0 rfl rfl dX4_readLoan_47 ?_
        obtain ⟨v1_6, ev1_6, hf⟩ := oL hf
        refine k_istore_n (lv' := [(1, .int v1_6), (0, .ref (a_th 0))]) E ev1_6 hl dX4_readLoan_50 rfl (by decide) rfl (fun ls hl => ?_)
        refine k_aload_n E hl 1 dX4_readLoan_51 rfl ?_
        refine lv_iconst (v := (1 : Int32)) E.hx E.hb dX4_readLoan_52 ic_1 ?_
        refine lv_bipush (v := (99 : Int32)) E.hx E.hb dX4_readLoan_53 bp_99 ?_
        obtain ⟨th_7, r_8, hg, hf⟩ := ob2 hf
        refine k_callVi (As := [.int (1 : Int32), .int (99 : Int32)]) (rest := []) (ws2 := fun u => wReader k a_th (a_in 0) (a_co 0) (a_ru 0) (u) ++ wBytes k a_in z_in in_0 ++ wRules k a_ru ru_0 ++ wCourt k a_co co_0) (c_X4_readNumber n l k hE a_th a_in a_ru a_co th_4 z_in in_0 (1 : Int32) (99 : Int32) (th_7, r_8) hg) E vl_X4_91 dX4_readLoan_55 rfl [0, 1, 2] 5 0 hW hA hl rfl rfl rfl rfl ⟨by decide, by decide⟩ ⟨by decide, by decide⟩ (Nat.le_of_ble_eq_true rfl) rfl (fun _ => rfl) (fun _ => rfl) (fun r u H locs hp hW => ?_)
        cases hp
        have hW : WD k A s.heap (wReader k a_th (a_in 0) (a_co 0) (a_ru 0) th_7 ++ wBytes k a_in z_in in_0 ++ wRules k a_ru ru_0 ++ wCourt k a_co co_0) H locs := hW
        refine lv_if_ne (tgt := 63) E.hx E.hb dX4_readLoan_58 (by decide) (fun hc => ?_) (fun hc => ?_)
        · have hf := oF hc hf
          refine k_aload_n E hl 1 dX4_readLoan_63 rfl ?_
          refine gf_X4_56 E hW 0 rfl rfl dX4_readLoan_64 ?_
          refine k_aload_n E hl 1 dX4_readLoan_67 rfl ?_
          refine gf_X4_43 E hW 0 rfl rfl dX4_readLoan_68 ?_
          refine k_iload_n E hl 0 dX4_readLoan_71 rfl ?_
          refine k_aload_n E hl 1 dX4_readLoan_72 rfl ?_
          refine gf_X4_46 E hW 0 rfl rfl dX4_readLoan_73 ?_
          refine lv_iconst (v := (-1 : Int32)) E.hx E.hb dX4_readLoan_76 ic_m1 ?_
          obtain ⟨co_9, r_10, hg, hf⟩ := ob2 hf
          refine k_callVi (As := [.int (th_7.1 9), .int v1_6, .int (th_7.1 10), .int (-1 : Int32)]) (rest := []) (ws2 := fun u => wReader k a_th (a_in 0) (a_co 0) (a_ru 0) th_7 ++ wBytes k a_in z_in in_0 ++ wRules k a_ru ru_0 ++ wCourt k a_co (u)) (c_X2_lend n l k a_co co_0 (th_7.1 9) v1_6 (th_7.1 10) (-1 : Int32) (co_9, r_10) hg) E vl_X4_150 dX4_readLoan_77 rfl [6, 7, 8, 9, 10, 11, 12, 13, 14, 15, 16, 17] 3 6 hW hA hl rfl rfl rfl rfl ⟨by decide, by decide⟩ ⟨by decide, by decide⟩ (Nat.le_of_ble_eq_true rfl) rfl (fun _ => rfl) (fun _ => rfl) (fun r u H locs hp hW => ?_)
          cases hp
          have hW : WD k A s.heap (wReader k a_th (a_in 0) (a_co 0) (a_ru 0) th_7 ++ wBytes k a_in z_in in_0 ++ wRules k a_ru ru_0 ++ wCourt k a_co co_9) H locs := hW
          refine lv_pop E.hx E.hb dX4_readLoan_80 rfl ?_
          refine lv_iconst (v := (1 : Int32)) E.hx E.hb dX4_readLoan_81 ic_1 ?_
          exact hret _ (th_7, co_9) _ _ _ _ _ _ hW (Option.some.inj hf).symm (by decide) (by decide) (by decide) dX4_readLoan_82
        · have hf := oT hc hf
          refine lv_iconst (v := (0 : Int32)) E.hx E.hb dX4_readLoan_61 ic_0 ?_
          exact hret _ (th_7, co_0) _ _ _ _ _ _ hW (Option.some.inj hf).symm (by decide) (by decide) (by decide) dX4_readLoan_62
      · have hf := oT hc hf
        refine lv_iconst (v := (0 : Int32)) E.hx E.hb dX4_readLoan_44 ic_0 ?_
        exact hret _ (th_4, co_0) _ _ _ _ _ _ hW (Option.some.inj hf).symm (by decide) (by decide) (by decide) dX4_readLoan_45
  · have hf := oF hc hf
    refine k_aload_n E hl 0 dX4_readLoan_12 rfl ?_
    refine lv_iconst (v := (4 : Int32)) E.hx E.hb dX4_readLoan_13 ic_4 ?_
    obtain ⟨th_11, r_12, hg, hf⟩ := ob2 hf
    refine k_callVi (As := [.int (4 : Int32)]) (rest := []) (ws2 := fun u => wReader k a_th (a_in 0) (a_co 0) (a_ru 0) (u) ++ wBytes k a_in z_in in_0 ++ wRules k a_ru ru_0 ++ wCourt k a_co co_0) (c_X4_fail n l k a_th a_in a_ru a_co th_0 (4 : Int32) (th_11, r_12) hg) E vl_X4_81 dX4_readLoan_14 rfl [0] 5 0 hW hA hl rfl rfl rfl rfl ⟨by decide, by decide⟩ ⟨by decide, by decide⟩ (Nat.le_of_ble_eq_true rfl) rfl (fun _ => rfl) (fun _ => rfl) (fun r u H locs hp hW => ?_)
    cases hp
    have hW : WD k A s.heap (wReader k a_th (a_in 0) (a_co 0) (a_ru 0) th_11 ++ wBytes k a_in z_in in_0 ++ wRules k a_ru ru_0 ++ wCourt k a_co co_0) H locs := hW
    obtain ⟨hz, hf⟩ := oZ hf
    exact hret _ (th_11, co_0) _ _ _ _ _ _ hW (Option.some.inj hf).symm hz (by decide) (by decide) dX4_readLoan_17
def f_X4_readNewProcess (n : Nat) (th_0 : OS) (z_in : Nat) (in_0 : OS) (ru_0 : OS) : Option (OS × OS × Int32) :=
  if (ru_0.1 1) < (8 : Int32) then (
  bnd (f_X4_advance n th_0 z_in in_0) (fun (th_1 : OS) =>
  bnd (f_X4_isName n th_1) (fun (r_2 : Int32) =>
  if r_2 = 0 then (
  bnd2 (f_X4_fail n th_1 (1 : Int32)) (fun (th_8 : OS) (r_9 : Int32) =>
  gZ r_9 (some (th_8, ru_0, r_9)))) else (
  bnd (f_X5_processNamed n ru_0 z_in in_0 (th_1.1 6) (th_1.1 7)) (fun (r_3 : Int32) =>
  if r_3 = (-1 : Int32) then (
  bnd (f_X5_addProcess n ru_0 z_in in_0 (th_1.1 6) (th_1.1 7)) (fun (ru_4 : OS) =>
  bnd (f_X4_advance n th_1 z_in in_0) (fun (th_5 : OS) =>
  some (th_5, ru_4, (1 : Int32))))) else (
  bnd2 (f_X4_fail n th_1 (3 : Int32)) (fun (th_6 : OS) (r_7 : Int32) =>
  gZ r_7 (some (th_6, ru_0, r_7))))))))) else (
  bnd2 (f_X4_fail n th_0 (4 : Int32)) (fun (th_10 : OS) (r_11 : Int32) =>
  gZ r_11 (some (th_10, ru_0, r_11))))
set_option maxHeartbeats 4000000 in
set_option maxRecDepth 100000 in
theorem c_X4_readNewProcess (n : Nat) (l : Launch) (k : KT) (hE : EH k) (a_th : Nat → Nat) (a_in : Nat → Nat) (a_ru : Nat → Nat) (a_co : Nat → Nat) (th_0 : OS) (z_in : Nat) (in_0 : OS) (ru_0 : OS) (res : (OS × OS × Int32)) (hf : f_X4_readNewProcess n th_0 z_in in_0 ru_0 = some res) : CG l k yX4_readNewProcess cX4_readNewProcess 1 (some .boolean) 6 0 0 140 [.ref (a_th 0)] (wReader k a_th (a_in 0) (a_co 0) (a_ru 0) th_0 ++ wBytes k a_in z_in in_0 ++ wRules k a_ru ru_0) (Qi k (fun u : (OS) × (OS) => wReader k a_th (a_in 0) (a_co 0) (a_ru 0) (u.1) ++ wBytes k a_in z_in in_0 ++ wRules k a_ru (u.2)) (fun (r : Int32) (u : (OS) × (OS)) => res = (u.1, u.2, r))) := by
  refine CG.ofI (by decide) (Nat.le_of_ble_eq_true rfl) (fun p e s m args below meth c A Q E hnm hW hA hret ls hl => ?_)
  have hl : lv_has ls 1 [(0, .ref (a_th 0))] := hl
  unfold f_X4_readNewProcess at hf
  refine k_aload_n E hl 0 dX4_readNewProcess_0 rfl ?_
  refine gf_X4_12 E hW 0 rfl rfl dX4_readNewProcess_1 ?_
  refine gf_X4_127 E hW 3 rfl rfl dX4_readNewProcess_4 ?_
  refine lv_bipush (v := (8 : Int32)) E.hx E.hb dX4_readNewProcess_7 bp_8 ?_
  refine lv_icmp_lt (tgt := 18) E.hx E.hb dX4_readNewProcess_9 (by decide) (fun hc => ?_) (fun hc => ?_)
  · have hf := oT hc hf
    refine k_aload_n E hl 0 dX4_readNewProcess_18 rfl ?_
    obtain ⟨th_1, hg, hf⟩ := ob hf
    refine k_callVv (As := []) (rest := []) (ws2 := fun u => wReader k a_th (a_in 0) (a_co 0) (a_ru 0) (u) ++ wBytes k a_in z_in in_0 ++ wRules k a_ru ru_0) (c_X4_advance n l k hE a_th a_in a_ru a_co th_0 z_in in_0 th_1 hg) E vl_X4_60 dX4_readNewProcess_19 rfl [0, 1, 2] 5 0 hW hA hl rfl rfl rfl rfl ⟨by decide, by decide⟩ ⟨by decide, by decide⟩ (Nat.le_of_ble_eq_true rfl) rfl (fun _ => rfl) (fun _ => rfl) (fun u H locs hp hW => ?_)
    cases hp
    have hW : WD k A s.heap (wReader k a_th (a_in 0) (a_co 0) (a_ru 0) th_1 ++ wBytes k a_in z_in in_0 ++ wRules k a_ru ru_0) H locs := hW
    refine k_aload_n E hl 0 dX4_readNewProcess_22 rfl ?_
    obtain ⟨r_2, hg, hf⟩ := ob hf
    refine k_callVi (As := []) (rest := []) (ws2 := fun u => wReader k a_th (a_in 0) (a_co 0) (a_ru 0) th_1 ++ wBytes k a_in z_in in_0 ++ wRules k a_ru ru_0) (c_X4_isName n l k hE a_th a_in a_ru a_co th_1 r_2 hg) E vl_X4_130 dX4_readNewProcess_23 rfl [0] 5 0 hW hA hl rfl rfl rfl rfl ⟨by decide, by decide⟩ ⟨by decide, by decide⟩ (Nat.le_of_ble_eq_true rfl) rfl (fun _ => rfl) (fun _ => rfl) (fun r u H locs hp hW => ?_)
    cases hp
    have hW : WD k A s.heap (wReader k a_th (a_in 0) (a_co 0) (a_ru 0) th_1 ++ wBytes k a_in z_in in_0 ++ wRules k a_ru ru_0) H locs := hW
    refine lv_if_ne (tgt := 35) E.hx E.hb dX4_readNewProcess_26 (by decide) (fun hc => ?_) (fun hc => ?_)
    · have hf := oF hc hf
      refine k_aload_n E hl 0 dX4_readNewProcess_35 rfl ?_
      refine gf_X4_12 E hW 0 rfl rfl dX4_readNewProcess_36 ?_
      refine k_aload_n E hl 0 dX4_readNewProcess_39 rfl ?_
      refine gf_X4_52 E hW 0 rfl rfl dX4_readNewProcess_40 ?_
      refine k_aload_n E hl 0 dX4_readNewProcess_43 rfl ?_
      refine gf_X4_28 E hW 0 rfl rfl dX4_readNewProcess_44 ?_
      refine k_aload_n E hl 0 dX4_readNewProcess_47 rfl ?_
      refine gf_X4_31 E hW 0 rfl rfl dX4_readNewProcess_48 ?_
      obtain ⟨r_3, hg, hf⟩ := ob hf
      refine k_callVi (As := [.ref (a_in 0), .int (th_1.1 6), .int (th_1.1 7)]) (rest := []) (ws2 := fun u => wReader k a_th (a_in 0) (a_co 0) (a_ru 0) th_1 ++ wBytes k a_in z_in in_0 ++ wRules k a_ru ru_0) (c_X5_processNamed n l k a_ru a_in ru_0 z_in in_0 (th_1.1 6) (th_1.1 7) r_3 hg) E vl_X4_133 dX4_readNewProcess_51 rfl [3, 4, 5, 1, 2] 6 3 hW hA hl rfl rfl rfl rfl ⟨by decide, by decide⟩ ⟨by decide, by decide⟩ (Nat.le_of_ble_eq_true rfl) rfl (fun _ => rfl) (fun _ => rfl) (fun r u H locs hp hW => ?_)
      cases hp
      have hW : WD k A s.heap (wReader k a_th (a_in 0) (a_co 0) (a_ru 0) th_1 ++ wBytes k a_in z_in in_0 ++ wRules k a_ru ru_0) H locs := hW
      refine lv_iconst (v := (-1 : Int32)) E.hx E.hb dX4_readNewProcess_54 ic_m1 ?_
      refine lv_icmp_eq (tgt := 64) E.hx E.hb dX4_readNewProcess_55 (by decide) (fun hc => ?_) (fun hc => ?_)
      · have hf := oT hc hf
        refine k_aload_n E hl 0 dX4_readNewProcess_64 rfl ?_
        refine gf_X4_12 E hW 0 rfl rfl dX4_readNewProcess_65 ?_
        refine k_aload_n E hl 0 dX4_readNewProcess_68 rfl ?_
        refine gf_X4_52 E hW 0 rfl rfl dX4_readNewProcess_69 ?_
        refine k_aload_n E hl 0 dX4_readNewProcess_72 rfl ?_
        refine gf_X4_28 E hW 0 rfl rfl dX4_readNewProcess_73 ?_
        refine k_aload_n E hl 0 dX4_readNewProcess_76 rfl ?_
        refine gf_X4_31 E hW 0 rfl rfl dX4_readNewProcess_77 ?_
        obtain ⟨ru_4, hg, hf⟩ := ob hf
        refine k_callVv (As := [.ref (a_in 0), .int (th_1.1 6), .int (th_1.1 7)]) (rest := []) (ws2 := fun u => wReader k a_th (a_in 0) (a_co 0) (a_ru 0) th_1 ++ wBytes k a_in z_in in_0 ++ wRules k a_ru (u)) (c_X5_addProcess n l k a_ru a_in ru_0 z_in in_0 (th_1.1 6) (th_1.1 7) ru_4 hg) E vl_X4_137 dX4_readNewProcess_80 rfl [3, 4, 5, 1, 2] 6 3 hW hA hl rfl rfl rfl rfl ⟨by decide, by decide⟩ ⟨by decide, by decide⟩ (Nat.le_of_ble_eq_true rfl) rfl (fun _ => rfl) (fun _ => rfl) (fun u H locs hp hW => ?_)
        cases hp
        have hW : WD k A s.heap (wReader k a_th (a_in 0) (a_co 0) (a_ru 0) th_1 ++ wBytes k a_in z_in in_0 ++ wRules k a_ru ru_4) H locs := hW
        refine k_aload_n E hl 0 dX4_readNewProcess_83 rfl ?_
        obtain ⟨th_5, hg, hf⟩ := ob hf
        refine k_callVv (As := []) (rest := []) (ws2 := fun u => wReader k a_th (a_in 0) (a_co 0) (a_ru 0) (u) ++ wBytes k a_in z_in in_0 ++ wRules k a_ru ru_4) (c_X4_advance n l k hE a_th a_in a_ru a_co th_1 z_in in_0 th_5 hg) E vl_X4_60 dX4_readNewProcess_84 rfl [0, 1, 2] 5 0 hW hA hl rfl rfl rfl rfl ⟨by decide, by decide⟩ ⟨by decide, by decide⟩ (Nat.le_of_ble_eq_true rfl) rfl (fun _ => rfl) (fun _ => rfl) (fun u H locs hp hW => ?_)
        cases hp
        have hW : WD k A s.heap (wReader k a_th (a_in 0) (a_co 0) (a_ru 0) th_5 ++ wBytes k a_in z_in in_0 ++ wRules k a_ru ru_4) H locs := hW
        refine lv_iconst (v := (1 : Int32)) E.hx E.hb dX4_readNewProcess_87 ic_1 ?_
        exact hret _ (th_5, ru_4) _ _ _ _ _ _ hW (Option.some.inj hf).symm (by decide) (by decide) (by decide) dX4_readNewProcess_88
      · have hf := oF hc hf
        refine k_aload_n E hl 0 dX4_readNewProcess_58 rfl ?_
        refine lv_iconst (v := (3 : Int32)) E.hx E.hb dX4_readNewProcess_59 ic_3 ?_
        obtain ⟨th_6, r_7, hg, hf⟩ := ob2 hf
        refine k_callVi (As := [.int (3 : Int32)]) (rest := []) (ws2 := fun u => wReader k a_th (a_in 0) (a_co 0) (a_ru 0) (u) ++ wBytes k a_in z_in in_0 ++ wRules k a_ru ru_0) (c_X4_fail n l k a_th a_in a_ru a_co th_1 (3 : Int32) (th_6, r_7) hg) E vl_X4_81 dX4_readNewProcess_60 rfl [0] 5 0 hW hA hl rfl rfl rfl rfl ⟨by decide, by decide⟩ ⟨by decide, by decide⟩ (Nat.le_of_ble_eq_true rfl) rfl (fun _ => rfl) (fun _ => rfl) (fun r u H locs hp hW => ?_)
        cases hp
        have hW : WD k A s.heap (wReader k a_th (a_in 0) (a_co 0) (a_ru 0) th_6 ++ wBytes k a_in z_in in_0 ++ wRules k a_ru ru_0) H locs := hW
        obtain ⟨hz, hf⟩ := oZ hf
        exact hret _ (th_6, ru_0) _ _ _ _ _ _ hW (Option.some.inj hf).symm hz (by decide) (by decide) dX4_readNewProcess_63
    · have hf := oT hc hf
      refine k_aload_n E hl 0 dX4_readNewProcess_29 rfl ?_
      refine lv_iconst (v := (1 : Int32)) E.hx E.hb dX4_readNewProcess_30 ic_1 ?_
      obtain ⟨th_8, r_9, hg, hf⟩ := ob2 hf
      refine k_callVi (As := [.int (1 : Int32)]) (rest := []) (ws2 := fun u => wReader k a_th (a_in 0) (a_co 0) (a_ru 0) (u) ++ wBytes k a_in z_in in_0 ++ wRules k a_ru ru_0) (c_X4_fail n l k a_th a_in a_ru a_co th_1 (1 : Int32) (th_8, r_9) hg) E vl_X4_81 dX4_readNewProcess_31 rfl [0] 5 0 hW hA hl rfl rfl rfl rfl ⟨by decide, by decide⟩ ⟨by decide, by decide⟩ (Nat.le_of_ble_eq_true rfl) rfl (fun _ => rfl) (fun _ => rfl) (fun r u H locs hp hW => ?_)
      cases hp
      have hW : WD k A s.heap (wReader k a_th (a_in 0) (a_co 0) (a_ru 0) th_8 ++ wBytes k a_in z_in in_0 ++ wRules k a_ru ru_0) H locs := hW
      obtain ⟨hz, hf⟩ := oZ hf
      exact hret _ (th_8, ru_0) _ _ _ _ _ _ hW (Option.some.inj hf).symm hz (by decide) (by decide) dX4_readNewProcess_34
  · have hf := oF hc hf
    refine k_aload_n E hl 0 dX4_readNewProcess_12 rfl ?_
    refine lv_iconst (v := (4 : Int32)) E.hx E.hb dX4_readNewProcess_13 ic_4 ?_
    obtain ⟨th_10, r_11, hg, hf⟩ := ob2 hf
    refine k_callVi (As := [.int (4 : Int32)]) (rest := []) (ws2 := fun u => wReader k a_th (a_in 0) (a_co 0) (a_ru 0) (u) ++ wBytes k a_in z_in in_0 ++ wRules k a_ru ru_0) (c_X4_fail n l k a_th a_in a_ru a_co th_0 (4 : Int32) (th_10, r_11) hg) E vl_X4_81 dX4_readNewProcess_14 rfl [0] 5 0 hW hA hl rfl rfl rfl rfl ⟨by decide, by decide⟩ ⟨by decide, by decide⟩ (Nat.le_of_ble_eq_true rfl) rfl (fun _ => rfl) (fun _ => rfl) (fun r u H locs hp hW => ?_)
    cases hp
    have hW : WD k A s.heap (wReader k a_th (a_in 0) (a_co 0) (a_ru 0) th_10 ++ wBytes k a_in z_in in_0 ++ wRules k a_ru ru_0) H locs := hW
    obtain ⟨hz, hf⟩ := oZ hf
    exact hret _ (th_10, ru_0) _ _ _ _ _ _ hW (Option.some.inj hf).symm hz (by decide) (by decide) dX4_readNewProcess_17
def f_X4_readStatement (n : Nat) (th_0 : OS) (z_in : Nat) (in_0 : OS) (ru_0 : OS) (co_0 : OS) : Option (OS × OS × OS × Int32) :=
  gI 14 (th_0.1 8) (
  gI 14 (th_0.1 8) (Let (wMap (th_0.1 8)) (fun x_1 : Int32 =>
  if (x_1).toInt < 1 ∨ 9 < (x_1).toInt then (
  bnd2 (f_X4_fail n th_0 (1 : Int32)) (fun (th_2 : OS) (r_3 : Int32) =>
  gZ r_3 (some (th_2, ru_0, co_0, r_3)))) else (if x_1 = (1 : Int32) then (
  bnd3 (f_X4_readSetting n th_0 z_in in_0 ru_0) (fun (th_4 : OS) (ru_5 : OS) (r_6 : Int32) =>
  gZ r_6 (some (th_4, ru_5, co_0, r_6)))) else (if x_1 = (2 : Int32) then (
  bnd3 (f_X4_readSetting n th_0 z_in in_0 ru_0) (fun (th_7 : OS) (ru_8 : OS) (r_9 : Int32) =>
  gZ r_9 (some (th_7, ru_8, co_0, r_9)))) else (if x_1 = (3 : Int32) then (
  bnd3 (f_X4_readSetting n th_0 z_in in_0 ru_0) (fun (th_10 : OS) (ru_11 : OS) (r_12 : Int32) =>
  gZ r_12 (some (th_10, ru_11, co_0, r_12)))) else (if x_1 = (4 : Int32) then (
  bnd3 (f_X4_readSetting n th_0 z_in in_0 ru_0) (fun (th_13 : OS) (ru_14 : OS) (r_15 : Int32) =>
  gZ r_15 (some (th_13, ru_14, co_0, r_15)))) else (if x_1 = (5 : Int32) then (
  bnd3 (f_X4_readSetting n th_0 z_in in_0 ru_0) (fun (th_16 : OS) (ru_17 : OS) (r_18 : Int32) =>
  gZ r_18 (some (th_16, ru_17, co_0, r_18)))) else (if x_1 = (6 : Int32) then (
  bnd3 (f_X4_readNewProcess n th_0 z_in in_0 ru_0) (fun (th_19 : OS) (ru_20 : OS) (r_21 : Int32) =>
  gZ r_21 (some (th_19, ru_20, co_0, r_21)))) else (if x_1 = (7 : Int32) then (
  bnd3 (f_X4_readLoan n th_0 z_in in_0 ru_0 co_0) (fun (th_22 : OS) (co_23 : OS) (r_24 : Int32) =>
  gZ r_24 (some (th_22, ru_0, co_23, r_24)))) else (if x_1 = (8 : Int32) then (
  bnd3 (f_X4_readClaim n th_0 z_in in_0 ru_0 co_0) (fun (th_25 : OS) (co_26 : OS) (r_27 : Int32) =>
  gZ r_27 (some (th_25, ru_0, co_26, r_27)))) else (bnd3 (f_X4_readOrder n th_0 z_in in_0 co_0) (fun (th_28 : OS) (co_29 : OS) (r_30 : Int32) =>
  gZ r_30 (some (th_28, ru_0, co_29, r_30)))))))))))))))
set_option maxHeartbeats 4000000 in
set_option maxRecDepth 100000 in
theorem c_X4_readStatement (n : Nat) (l : Launch) (k : KT) (hE : EH k) (a_th : Nat → Nat) (a_in : Nat → Nat) (a_ru : Nat → Nat) (a_co : Nat → Nat) (th_0 : OS) (z_in : Nat) (in_0 : OS) (ru_0 : OS) (co_0 : OS) (res : (OS × OS × OS × Int32)) (hf : f_X4_readStatement n th_0 z_in in_0 ru_0 co_0 = some res) : CG l k yX4_readStatement cX4_readStatement 1 (some .boolean) 8 0 0 185 [.ref (a_th 0)] (wReader k a_th (a_in 0) (a_co 0) (a_ru 0) th_0 ++ wBytes k a_in z_in in_0 ++ wRules k a_ru ru_0 ++ wCourt k a_co co_0) (Qi k (fun u : (OS) × (OS) × (OS) => wReader k a_th (a_in 0) (a_co 0) (a_ru 0) (u.1) ++ wBytes k a_in z_in in_0 ++ wRules k a_ru (u.2.1) ++ wCourt k a_co (u.2.2)) (fun (r : Int32) (u : (OS) × (OS) × (OS)) => res = (u.1, u.2.1, u.2.2, r))) := by
  refine CG.ofI (by decide) (Nat.le_of_ble_eq_true rfl) (fun p e s m args below meth c A Q E hnm hW hA hret ls hl => ?_)
  have hl : lv_has ls 1 [(0, .ref (a_th 0))] := hl
  unfold f_X4_readStatement at hf
  refine k_smap hE E hW tm_810 dX4_readStatement_0 (fun aw_0 hw_0 => ?_)
  refine k_aload_n E hl 0 dX4_readStatement_3 rfl ?_
  refine gf_X4_40 E hW 0 rfl rfl dX4_readStatement_4 ?_
  obtain ⟨hin, hf⟩ := oI hf
  refine k_ordinal hE E ul_X4_108 (th_0.1 8) hin dX4_readStatement_7 hW hA hl ⟨by decide, by decide⟩ ⟨by decide, by decide⟩ (Nat.le_of_ble_eq_true rfl) (fun H locs hW => ?_)
  obtain ⟨hin, hf⟩ := oI hf
  obtain ⟨x_1, ex_1, hf⟩ := oL hf
  refine k_smald E hW hw_0 hin dX4_readStatement_10 ?_
  refine k_topi ex_1 ?_
  by_cases hsw : (x_1).toInt < 1 ∨ 9 < (x_1).toInt
  · have hf := oT hsw hf
    refine lv_tableOut (tgt := 85) E.hx E.hb dX4_readStatement_11 hsw (by decide) ?_
    refine k_aload_n E hl 0 dX4_readStatement_85 rfl ?_
    refine lv_iconst (v := (1 : Int32)) E.hx E.hb dX4_readStatement_86 ic_1 ?_
    obtain ⟨th_2, r_3, hg, hf⟩ := ob2 hf
    refine k_callVi (As := [.int (1 : Int32)]) (rest := []) (ws2 := fun u => wReader k a_th (a_in 0) (a_co 0) (a_ru 0) (u) ++ wBytes k a_in z_in in_0 ++ wRules k a_ru ru_0 ++ wCourt k a_co co_0) (c_X4_fail n l k a_th a_in a_ru a_co th_0 (1 : Int32) (th_2, r_3) hg) E vl_X4_81 dX4_readStatement_87 rfl [0] 5 0 hW hA hl rfl rfl rfl rfl ⟨by decide, by decide⟩ ⟨by decide, by decide⟩ (Nat.le_of_ble_eq_true rfl) rfl (fun _ => rfl) (fun _ => rfl) (fun r u H locs hp hW => ?_)
    cases hp
    have hW : WD k A s.heap (wReader k a_th (a_in 0) (a_co 0) (a_ru 0) th_2 ++ wBytes k a_in z_in in_0 ++ wRules k a_ru ru_0 ++ wCourt k a_co co_0) H locs := hW
    obtain ⟨hz, hf⟩ := oZ hf
    exact hret _ (th_2, ru_0, co_0) _ _ _ _ _ _ hW (Option.some.inj hf).symm hz (by decide) (by decide) dX4_readStatement_90
  · have hf := oF hsw hf
    by_cases hc : x_1 = (1 : Int32)
    · have hf := oT hc hf
      refine lv_tableIn (off := (69)) (tgt := 80) E.hx E.hb dX4_readStatement_11 (by rw [hc]; decide) (by rw [hc]; decide) (by rw [hc]; rfl) (by decide) ?_
      refine k_aload_n E hl 0 dX4_readStatement_80 rfl ?_
      obtain ⟨th_4, ru_5, r_6, hg, hf⟩ := ob3 hf
      refine k_callVi (As := []) (rest := []) (ws2 := fun u => wReader k a_th (a_in 0) (a_co 0) (a_ru 0) (u.1) ++ wBytes k a_in z_in in_0 ++ wRules k a_ru (u.2) ++ wCourt k a_co co_0) (c_X4_readSetting n l k hE a_th a_in a_ru a_co th_0 z_in in_0 ru_0 (th_4, ru_5, r_6) hg) E vl_X4_124 dX4_readStatement_81 rfl [0, 1, 2, 3, 4, 5] 5 0 hW hA hl rfl rfl rfl rfl ⟨by decide, by decide⟩ ⟨by decide, by decide⟩ (Nat.le_of_ble_eq_true rfl) rfl (fun _ => rfl) (fun _ => rfl) (fun r u H locs hp hW => ?_)
      obtain ⟨u0, u1⟩ := u
      try dsimp only at hp
      cases hp
      have hW : WD k A s.heap (wReader k a_th (a_in 0) (a_co 0) (a_ru 0) th_4 ++ wBytes k a_in z_in in_0 ++ wRules k a_ru ru_5 ++ wCourt k a_co co_0) H locs := hW
      obtain ⟨hz, hf⟩ := oZ hf
      exact hret _ (th_4, ru_5, co_0) _ _ _ _ _ _ hW (Option.some.inj hf).symm hz (by decide) (by decide) dX4_readStatement_84
    have hf := oF hc hf; have hn_1 := hc; clear hc
    by_cases hc : x_1 = (2 : Int32)
    · have hf := oT hc hf
      refine lv_tableIn (off := (69)) (tgt := 80) E.hx E.hb dX4_readStatement_11 (by rw [hc]; decide) (by rw [hc]; decide) (by rw [hc]; rfl) (by decide) ?_
      refine k_aload_n E hl 0 dX4_readStatement_80 rfl ?_
      obtain ⟨th_7, ru_8, r_9, hg, hf⟩ := ob3 hf
      refine k_callVi (As := []) (rest := []) (ws2 := fun u => wReader k a_th (a_in 0) (a_co 0) (a_ru 0) (u.1) ++ wBytes k a_in z_in in_0 ++ wRules k a_ru (u.2) ++ wCourt k a_co co_0) (c_X4_readSetting n l k hE a_th a_in a_ru a_co th_0 z_in in_0 ru_0 (th_7, ru_8, r_9) hg) E vl_X4_124 dX4_readStatement_81 rfl [0, 1, 2, 3, 4, 5] 5 0 hW hA hl rfl rfl rfl rfl ⟨by decide, by decide⟩ ⟨by decide, by decide⟩ (Nat.le_of_ble_eq_true rfl) rfl (fun _ => rfl) (fun _ => rfl) (fun r u H locs hp hW => ?_)
      obtain ⟨u0, u1⟩ := u
      try dsimp only at hp
      cases hp
      have hW : WD k A s.heap (wReader k a_th (a_in 0) (a_co 0) (a_ru 0) th_7 ++ wBytes k a_in z_in in_0 ++ wRules k a_ru ru_8 ++ wCourt k a_co co_0) H locs := hW
      obtain ⟨hz, hf⟩ := oZ hf
      exact hret _ (th_7, ru_8, co_0) _ _ _ _ _ _ hW (Option.some.inj hf).symm hz (by decide) (by decide) dX4_readStatement_84
    have hf := oF hc hf; have hn_2 := hc; clear hc
    by_cases hc : x_1 = (3 : Int32)
    · have hf := oT hc hf
      refine lv_tableIn (off := (69)) (tgt := 80) E.hx E.hb dX4_readStatement_11 (by rw [hc]; decide) (by rw [hc]; decide) (by rw [hc]; rfl) (by decide) ?_
      refine k_aload_n E hl 0 dX4_readStatement_80 rfl ?_
      obtain ⟨th_10, ru_11, r_12, hg, hf⟩ := ob3 hf
      refine k_callVi (As := []) (rest := []) (ws2 := fun u => wReader k a_th (a_in 0) (a_co 0) (a_ru 0) (u.1) ++ wBytes k a_in z_in in_0 ++ wRules k a_ru (u.2) ++ wCourt k a_co co_0) (c_X4_readSetting n l k hE a_th a_in a_ru a_co th_0 z_in in_0 ru_0 (th_10, ru_11, r_12) hg) E vl_X4_124 dX4_readStatement_81 rfl [0, 1, 2, 3, 4, 5] 5 0 hW hA hl rfl rfl rfl rfl ⟨by decide, by decide⟩ ⟨by decide, by decide⟩ (Nat.le_of_ble_eq_true rfl) rfl (fun _ => rfl) (fun _ => rfl) (fun r u H locs hp hW => ?_)
      obtain ⟨u0, u1⟩ := u
      try dsimp only at hp
      cases hp
      have hW : WD k A s.heap (wReader k a_th (a_in 0) (a_co 0) (a_ru 0) th_10 ++ wBytes k a_in z_in in_0 ++ wRules k a_ru ru_11 ++ wCourt k a_co co_0) H locs := hW
      obtain ⟨hz, hf⟩ := oZ hf
      exact hret _ (th_10, ru_11, co_0) _ _ _ _ _ _ hW (Option.some.inj hf).symm hz (by decide) (by decide) dX4_readStatement_84
    have hf := oF hc hf; have hn_3 := hc; clear hc
    by_cases hc : x_1 = (4 : Int32)
    · have hf := oT hc hf
      refine lv_tableIn (off := (69)) (tgt := 80) E.hx E.hb dX4_readStatement_11 (by rw [hc]; decide) (by rw [hc]; decide) (by rw [hc]; rfl) (by decide) ?_
      refine k_aload_n E hl 0 dX4_readStatement_80 rfl ?_
      obtain ⟨th_13, ru_14, r_15, hg, hf⟩ := ob3 hf
      refine k_callVi (As := []) (rest := []) (ws2 := fun u => wReader k a_th (a_in 0) (a_co 0) (a_ru 0) (u.1) ++ wBytes k a_in z_in in_0 ++ wRules k a_ru (u.2) ++ wCourt k a_co co_0) (c_X4_readSetting n l k hE a_th a_in a_ru a_co th_0 z_in in_0 ru_0 (th_13, ru_14, r_15) hg) E vl_X4_124 dX4_readStatement_81 rfl [0, 1, 2, 3, 4, 5] 5 0 hW hA hl rfl rfl rfl rfl ⟨by decide, by decide⟩ ⟨by decide, by decide⟩ (Nat.le_of_ble_eq_true rfl) rfl (fun _ => rfl) (fun _ => rfl) (fun r u H locs hp hW => ?_)
      obtain ⟨u0, u1⟩ := u
      try dsimp only at hp
      cases hp
      have hW : WD k A s.heap (wReader k a_th (a_in 0) (a_co 0) (a_ru 0) th_13 ++ wBytes k a_in z_in in_0 ++ wRules k a_ru ru_14 ++ wCourt k a_co co_0) H locs := hW
      obtain ⟨hz, hf⟩ := oZ hf
      exact hret _ (th_13, ru_14, co_0) _ _ _ _ _ _ hW (Option.some.inj hf).symm hz (by decide) (by decide) dX4_readStatement_84
    have hf := oF hc hf; have hn_4 := hc; clear hc
    by_cases hc : x_1 = (5 : Int32)
    · have hf := oT hc hf
      refine lv_tableIn (off := (69)) (tgt := 80) E.hx E.hb dX4_readStatement_11 (by rw [hc]; decide) (by rw [hc]; decide) (by rw [hc]; rfl) (by decide) ?_
      refine k_aload_n E hl 0 dX4_readStatement_80 rfl ?_
      obtain ⟨th_16, ru_17, r_18, hg, hf⟩ := ob3 hf
      refine k_callVi (As := []) (rest := []) (ws2 := fun u => wReader k a_th (a_in 0) (a_co 0) (a_ru 0) (u.1) ++ wBytes k a_in z_in in_0 ++ wRules k a_ru (u.2) ++ wCourt k a_co co_0) (c_X4_readSetting n l k hE a_th a_in a_ru a_co th_0 z_in in_0 ru_0 (th_16, ru_17, r_18) hg) E vl_X4_124 dX4_readStatement_81 rfl [0, 1, 2, 3, 4, 5] 5 0 hW hA hl rfl rfl rfl rfl ⟨by decide, by decide⟩ ⟨by decide, by decide⟩ (Nat.le_of_ble_eq_true rfl) rfl (fun _ => rfl) (fun _ => rfl) (fun r u H locs hp hW => ?_)
      obtain ⟨u0, u1⟩ := u
      try dsimp only at hp
      cases hp
      have hW : WD k A s.heap (wReader k a_th (a_in 0) (a_co 0) (a_ru 0) th_16 ++ wBytes k a_in z_in in_0 ++ wRules k a_ru ru_17 ++ wCourt k a_co co_0) H locs := hW
      obtain ⟨hz, hf⟩ := oZ hf
      exact hret _ (th_16, ru_17, co_0) _ _ _ _ _ _ hW (Option.some.inj hf).symm hz (by decide) (by decide) dX4_readStatement_84
    have hf := oF hc hf; have hn_5 := hc; clear hc
    by_cases hc : x_1 = (6 : Int32)
    · have hf := oT hc hf
      refine lv_tableIn (off := (49)) (tgt := 60) E.hx E.hb dX4_readStatement_11 (by rw [hc]; decide) (by rw [hc]; decide) (by rw [hc]; rfl) (by decide) ?_
      refine k_aload_n E hl 0 dX4_readStatement_60 rfl ?_
      obtain ⟨th_19, ru_20, r_21, hg, hf⟩ := ob3 hf
      refine k_callVi (As := []) (rest := []) (ws2 := fun u => wReader k a_th (a_in 0) (a_co 0) (a_ru 0) (u.1) ++ wBytes k a_in z_in in_0 ++ wRules k a_ru (u.2) ++ wCourt k a_co co_0) (c_X4_readNewProcess n l k hE a_th a_in a_ru a_co th_0 z_in in_0 ru_0 (th_19, ru_20, r_21) hg) E vl_X4_112 dX4_readStatement_61 rfl [0, 1, 2, 3, 4, 5] 5 0 hW hA hl rfl rfl rfl rfl ⟨by decide, by decide⟩ ⟨by decide, by decide⟩ (Nat.le_of_ble_eq_true rfl) rfl (fun _ => rfl) (fun _ => rfl) (fun r u H locs hp hW => ?_)
      obtain ⟨u0, u1⟩ := u
      try dsimp only at hp
      cases hp
      have hW : WD k A s.heap (wReader k a_th (a_in 0) (a_co 0) (a_ru 0) th_19 ++ wBytes k a_in z_in in_0 ++ wRules k a_ru ru_20 ++ wCourt k a_co co_0) H locs := hW
      obtain ⟨hz, hf⟩ := oZ hf
      exact hret _ (th_19, ru_20, co_0) _ _ _ _ _ _ hW (Option.some.inj hf).symm hz (by decide) (by decide) dX4_readStatement_64
    have hf := oF hc hf; have hn_6 := hc; clear hc
    by_cases hc : x_1 = (7 : Int32)
    · have hf := oT hc hf
      refine lv_tableIn (off := (54)) (tgt := 65) E.hx E.hb dX4_readStatement_11 (by rw [hc]; decide) (by rw [hc]; decide) (by rw [hc]; rfl) (by decide) ?_
      refine k_aload_n E hl 0 dX4_readStatement_65 rfl ?_
      obtain ⟨th_22, co_23, r_24, hg, hf⟩ := ob3 hf
      refine k_callVi (As := []) (rest := []) (ws2 := fun u => wReader k a_th (a_in 0) (a_co 0) (a_ru 0) (u.1) ++ wBytes k a_in z_in in_0 ++ wRules k a_ru ru_0 ++ wCourt k a_co (u.2)) (c_X4_readLoan n l k hE a_th a_in a_ru a_co th_0 z_in in_0 ru_0 co_0 (th_22, co_23, r_24) hg) E vl_X4_115 dX4_readStatement_66 rfl (List.range' 0 18) 5 0 hW hA hl rfl (blk_map [] (wReader k a_th (a_in 0) (a_co 0) (a_ru 0) th_0 ++ wBytes k a_in z_in in_0 ++ wRules k a_ru ru_0 ++ wCourt k a_co co_0) [] 0 18 (by simp only [List.nil_append, List.append_nil]) rfl rfl) rfl rfl ⟨by decide, by decide⟩ ⟨by decide, by decide⟩ (Nat.le_of_ble_eq_true rfl) rfl (fun _ => rfl) (fun u => by rw [blk_put [] (wReader k a_th (a_in 0) (a_co 0) (a_ru 0) th_0 ++ wBytes k a_in z_in in_0 ++ wRules k a_ru ru_0 ++ wCourt k a_co co_0) [] (wReader k a_th (a_in 0) (a_co 0) (a_ru 0) (u.1) ++ wBytes k a_in z_in in_0 ++ wRules k a_ru ru_0 ++ wCourt k a_co (u.2)) 0 18 (by simp only [List.nil_append, List.append_nil]) rfl rfl rfl]; try simp only [List.nil_append, List.append_nil]) (fun r u H locs hp hW => ?_)
      obtain ⟨u0, u1⟩ := u
      try dsimp only at hp
      cases hp
      have hW : WD k A s.heap (wReader k a_th (a_in 0) (a_co 0) (a_ru 0) th_22 ++ wBytes k a_in z_in in_0 ++ wRules k a_ru ru_0 ++ wCourt k a_co co_23) H locs := hW
      obtain ⟨hz, hf⟩ := oZ hf
      exact hret _ (th_22, ru_0, co_23) _ _ _ _ _ _ hW (Option.some.inj hf).symm hz (by decide) (by decide) dX4_readStatement_69
    have hf := oF hc hf; have hn_7 := hc; clear hc
    by_cases hc : x_1 = (8 : Int32)
    · have hf := oT hc hf
      refine lv_tableIn (off := (59)) (tgt := 70) E.hx E.hb dX4_readStatement_11 (by rw [hc]; decide) (by rw [hc]; decide) (by rw [hc]; rfl) (by decide) ?_
      refine k_aload_n E hl 0 dX4_readStatement_70 rfl ?_
      obtain ⟨th_25, co_26, r_27, hg, hf⟩ := ob3 hf
      refine k_callVi (As := []) (rest := []) (ws2 := fun u => wReader k a_th (a_in 0) (a_co 0) (a_ru 0) (u.1) ++ wBytes k a_in z_in in_0 ++ wRules k a_ru ru_0 ++ wCourt k a_co (u.2)) (c_X4_readClaim n l k hE a_th a_in a_ru a_co th_0 z_in in_0 ru_0 co_0 (th_25, co_26, r_27) hg) E vl_X4_118 dX4_readStatement_71 rfl (List.range' 0 18) 5 0 hW hA hl rfl (blk_map [] (wReader k a_th (a_in 0) (a_co 0) (a_ru 0) th_0 ++ wBytes k a_in z_in in_0 ++ wRules k a_ru ru_0 ++ wCourt k a_co co_0) [] 0 18 (by simp only [List.nil_append, List.append_nil]) rfl rfl) rfl rfl ⟨by decide, by decide⟩ ⟨by decide, by decide⟩ (Nat.le_of_ble_eq_true rfl) rfl (fun _ => rfl) (fun u => by rw [blk_put [] (wReader k a_th (a_in 0) (a_co 0) (a_ru 0) th_0 ++ wBytes k a_in z_in in_0 ++ wRules k a_ru ru_0 ++ wCourt k a_co co_0) [] (wReader k a_th (a_in 0) (a_co 0) (a_ru 0) (u.1) ++ wBytes k a_in z_in in_0 ++ wRules k a_ru ru_0 ++ wCourt k a_co (u.2)) 0 18 (by simp only [List.nil_append, List.append_nil]) rfl rfl rfl]; try simp only [List.nil_append, List.append_nil]) (fun r u H locs hp hW => ?_)
      obtain ⟨u0, u1⟩ := u
      try dsimp only at hp
      cases hp
      have hW : WD k A s.heap (wReader k a_th (a_in 0) (a_co 0) (a_ru 0) th_25 ++ wBytes k a_in z_in in_0 ++ wRules k a_ru ru_0 ++ wCourt k a_co co_26) H locs := hW
      obtain ⟨hz, hf⟩ := oZ hf
      exact hret _ (th_25, ru_0, co_26) _ _ _ _ _ _ hW (Option.some.inj hf).symm hz (by decide) (by decide) dX4_readStatement_74
    have hf := oF hc hf; have hn_8 := hc; clear hc
    have hc : x_1 = (9 : Int32) := by
      apply Int32.toInt_inj.mp; rw [show ((9 : Int32)).toInt = 9 from by decide]
      have hn_1 : ¬ (x_1).toInt = 1 := fun z => hn_1 (Int32.toInt_inj.mp (z.trans (show (1 : Int) = ((1 : Int32)).toInt from by decide)))
      have hn_2 : ¬ (x_1).toInt = 2 := fun z => hn_2 (Int32.toInt_inj.mp (z.trans (show (2 : Int) = ((2 : Int32)).toInt from by decide)))
      have hn_3 : ¬ (x_1).toInt = 3 := fun z => hn_3 (Int32.toInt_inj.mp (z.trans (show (3 : Int) = ((3 : Int32)).toInt from by decide)))
      have hn_4 : ¬ (x_1).toInt = 4 := fun z => hn_4 (Int32.toInt_inj.mp (z.trans (show (4 : Int) = ((4 : Int32)).toInt from by decide)))
      have hn_5 : ¬ (x_1).toInt = 5 := fun z => hn_5 (Int32.toInt_inj.mp (z.trans (show (5 : Int) = ((5 : Int32)).toInt from by decide)))
      have hn_6 : ¬ (x_1).toInt = 6 := fun z => hn_6 (Int32.toInt_inj.mp (z.trans (show (6 : Int) = ((6 : Int32)).toInt from by decide)))
      have hn_7 : ¬ (x_1).toInt = 7 := fun z => hn_7 (Int32.toInt_inj.mp (z.trans (show (7 : Int) = ((7 : Int32)).toInt from by decide)))
      have hn_8 : ¬ (x_1).toInt = 8 := fun z => hn_8 (Int32.toInt_inj.mp (z.trans (show (8 : Int) = ((8 : Int32)).toInt from by decide)))
      omega
    refine lv_tableIn (off := (64)) (tgt := 75) E.hx E.hb dX4_readStatement_11 (by rw [hc]; decide) (by rw [hc]; decide) (by rw [hc]; rfl) (by decide) ?_
    refine k_aload_n E hl 0 dX4_readStatement_75 rfl ?_
    obtain ⟨th_28, co_29, r_30, hg, hf⟩ := ob3 hf
    refine k_callVi (As := []) (rest := []) (ws2 := fun u => wReader k a_th (a_in 0) (a_co 0) (a_ru 0) (u.1) ++ wBytes k a_in z_in in_0 ++ wRules k a_ru ru_0 ++ wCourt k a_co (u.2)) (c_X4_readOrder n l k hE a_th a_in a_ru a_co th_0 z_in in_0 co_0 (th_28, co_29, r_30) hg) E vl_X4_121 dX4_readStatement_76 rfl [0, 1, 2, 6, 7, 8, 9, 10, 11, 12, 13, 14, 15, 16, 17] 5 0 hW hA hl rfl rfl rfl rfl ⟨by decide, by decide⟩ ⟨by decide, by decide⟩ (Nat.le_of_ble_eq_true rfl) rfl (fun _ => rfl) (fun _ => rfl) (fun r u H locs hp hW => ?_)
    obtain ⟨u0, u1⟩ := u
    try dsimp only at hp
    cases hp
    have hW : WD k A s.heap (wReader k a_th (a_in 0) (a_co 0) (a_ru 0) th_28 ++ wBytes k a_in z_in in_0 ++ wRules k a_ru ru_0 ++ wCourt k a_co co_29) H locs := hW
    obtain ⟨hz, hf⟩ := oZ hf
    exact hret _ (th_28, ru_0, co_29) _ _ _ _ _ _ hW (Option.some.inj hf).symm hz (by decide) (by decide) dX4_readStatement_79
def f_X4_readPages (n : Nat) (th_0 : OS) (z_in : Nat) (in_0 : OS) (ru_0 : OS) (co_0 : OS) : Option (OS × OS × OS × Int32) :=
  gI 14 (th_0.1 8) (gI 14 (1 : Int32) (
  if (th_0.1 8) = (1 : Int32) then (
  bnd (f_X4_advance n th_0 z_in in_0) (fun (th_1 : OS) =>
  gI 14 (1 : Int32) (
  gI 14 (1 : Int32) (
  bnd2 (f_X4_readNumber n th_1 z_in in_0 (wLow (1 : Int32)) (wHigh (1 : Int32))) (fun (th_2 : OS) (r_3 : Int32) =>
  if r_3 = 0 then (
  some (th_2, ru_0, co_0, (0 : Int32))) else (
  bnd (f_X5_begin n ru_0 (th_2.1 10)) (fun (ru_4 : OS) =>
  bnd (f_X2_begin n co_0 (th_2.1 10)) (fun (co_5 : OS) =>
  bnd2 (f_X4_readSemicolon n th_2 z_in in_0) (fun (th_6 : OS) (r_7 : Int32) =>
  gZ r_7 (some (th_6, ru_4, co_5, r_7))))))))))) else (
  bnd2 (f_X4_fail n th_0 (1 : Int32)) (fun (th_8 : OS) (r_9 : Int32) =>
  gZ r_9 (some (th_8, ru_0, co_0, r_9))))))
set_option maxHeartbeats 4000000 in
set_option maxRecDepth 100000 in
theorem c_X4_readPages (n : Nat) (l : Launch) (k : KT) (hE : EH k) (a_th : Nat → Nat) (a_in : Nat → Nat) (a_ru : Nat → Nat) (a_co : Nat → Nat) (th_0 : OS) (z_in : Nat) (in_0 : OS) (ru_0 : OS) (co_0 : OS) (res : (OS × OS × OS × Int32)) (hf : f_X4_readPages n th_0 z_in in_0 ru_0 co_0 = some res) : CG l k yX4_readPages cX4_readPages 1 (some .boolean) 7 0 0 164 [.ref (a_th 0)] (wReader k a_th (a_in 0) (a_co 0) (a_ru 0) th_0 ++ wBytes k a_in z_in in_0 ++ wRules k a_ru ru_0 ++ wCourt k a_co co_0) (Qi k (fun u : (OS) × (OS) × (OS) => wReader k a_th (a_in 0) (a_co 0) (a_ru 0) (u.1) ++ wBytes k a_in z_in in_0 ++ wRules k a_ru (u.2.1) ++ wCourt k a_co (u.2.2)) (fun (r : Int32) (u : (OS) × (OS) × (OS)) => res = (u.1, u.2.1, u.2.2, r))) := by
  refine CG.ofI (by decide) (Nat.le_of_ble_eq_true rfl) (fun p e s m args below meth c A Q E hnm hW hA hret ls hl => ?_)
  have hl : lv_has ls 1 [(0, .ref (a_th 0))] := hl
  unfold f_X4_readPages at hf
  refine k_aload_n E hl 0 dX4_readPages_0 rfl ?_
  refine gf_X4_40 E hW 0 rfl rfl dX4_readPages_1 ?_
  refine k_wconst hE E hW (n := "PAGES") (1 : Int32) (by decide) rfl tm_791 dX4_readPages_4 ?_
  obtain ⟨hinx, hf⟩ := oI hf
  obtain ⟨hiny, hf⟩ := oI hf
  refine k_wacmp_eq (tgt := 16) hE E hinx hiny dX4_readPages_7 (by decide) (fun hc => ?_) (fun hc => ?_)
  · have hf := oT hc hf
    refine k_aload_n E hl 0 dX4_readPages_16 rfl ?_
    obtain ⟨th_1, hg, hf⟩ := ob hf
    refine k_callVv (As := []) (rest := []) (ws2 := fun u => wReader k a_th (a_in 0) (a_co 0) (a_ru 0) (u) ++ wBytes k a_in z_in in_0 ++ wRules k a_ru ru_0 ++ wCourt k a_co co_0) (c_X4_advance n l k hE a_th a_in a_ru a_co th_0 z_in in_0 th_1 hg) E vl_X4_60 dX4_readPages_17 rfl [0, 1, 2] 5 0 hW hA hl rfl rfl rfl rfl ⟨by decide, by decide⟩ ⟨by decide, by decide⟩ (Nat.le_of_ble_eq_true rfl) rfl (fun _ => rfl) (fun _ => rfl) (fun u H locs hp hW => ?_)
    cases hp
    have hW : WD k A s.heap (wReader k a_th (a_in 0) (a_co 0) (a_ru 0) th_1 ++ wBytes k a_in z_in in_0 ++ wRules k a_ru ru_0 ++ wCourt k a_co co_0) H locs := hW
    refine k_aload_n E hl 0 dX4_readPages_20 rfl ?_
    refine k_wconst hE E hW (n := "PAGES") (1 : Int32) (by decide) rfl tm_791 dX4_readPages_21 ?_
    obtain ⟨hin, hf⟩ := oI hf
    refine k_wlow hE E hW hin tm_1230 dX4_readPages_24 ?_
    refine k_wconst hE E hW (n := "PAGES") (1 : Int32) (by decide) rfl tm_791 dX4_readPages_27 ?_
    obtain ⟨hin, hf⟩ := oI hf
    refine k_whigh hE E hW hin tm_1231 dX4_readPages_30 ?_
    obtain ⟨th_2, r_3, hg, hf⟩ := ob2 hf
    refine k_callVi (As := [.int (wLow (1 : Int32)), .int (wHigh (1 : Int32))]) (rest := []) (ws2 := fun u => wReader k a_th (a_in 0) (a_co 0) (a_ru 0) (u) ++ wBytes k a_in z_in in_0 ++ wRules k a_ru ru_0 ++ wCourt k a_co co_0) (c_X4_readNumber n l k hE a_th a_in a_ru a_co th_1 z_in in_0 (wLow (1 : Int32)) (wHigh (1 : Int32)) (th_2, r_3) hg) E vl_X4_91 dX4_readPages_33 rfl [0, 1, 2] 5 0 hW hA hl rfl rfl rfl rfl ⟨by decide, by decide⟩ ⟨by decide, by decide⟩ (Nat.le_of_ble_eq_true rfl) rfl (fun _ => rfl) (fun _ => rfl) (fun r u H locs hp hW => ?_)
    cases hp
    have hW : WD k A s.heap (wReader k a_th (a_in 0) (a_co 0) (a_ru 0) th_2 ++ wBytes k a_in z_in in_0 ++ wRules k a_ru ru_0 ++ wCourt k a_co co_0) H locs := hW
    refine lv_if_ne (tgt := 41) E.hx E.hb dX4_readPages_36 (by decide) (fun hc => ?_) (fun hc => ?_)
    · have hf := oF hc hf
      refine k_aload_n E hl 0 dX4_readPages_41 rfl ?_
      refine gf_X4_12 E hW 0 rfl rfl dX4_readPages_42 ?_
      refine k_aload_n E hl 0 dX4_readPages_45 rfl ?_
      refine gf_X4_46 E hW 0 rfl rfl dX4_readPages_46 ?_
      obtain ⟨ru_4, hg, hf⟩ := ob hf
      refine k_callVv (As := [.int (th_2.1 10)]) (rest := []) (ws2 := fun u => wReader k a_th (a_in 0) (a_co 0) (a_ru 0) th_2 ++ wBytes k a_in z_in in_0 ++ wRules k a_ru (u) ++ wCourt k a_co co_0) (c_X5_begin n l k hE a_ru ru_0 (th_2.1 10) ru_4 hg) E vl_X4_95 dX4_readPages_49 rfl [3, 4, 5] 6 3 hW hA hl rfl rfl rfl rfl ⟨by decide, by decide⟩ ⟨by decide, by decide⟩ (Nat.le_of_ble_eq_true rfl) rfl (fun _ => rfl) (fun _ => rfl) (fun u H locs hp hW => ?_)
      cases hp
      have hW : WD k A s.heap (wReader k a_th (a_in 0) (a_co 0) (a_ru 0) th_2 ++ wBytes k a_in z_in in_0 ++ wRules k a_ru ru_4 ++ wCourt k a_co co_0) H locs := hW
      refine k_aload_n E hl 0 dX4_readPages_52 rfl ?_
      refine gf_X4_56 E hW 0 rfl rfl dX4_readPages_53 ?_
      refine k_aload_n E hl 0 dX4_readPages_56 rfl ?_
      refine gf_X4_46 E hW 0 rfl rfl dX4_readPages_57 ?_
      obtain ⟨co_5, hg, hf⟩ := ob hf
      refine k_callVv (As := [.int (th_2.1 10)]) (rest := []) (ws2 := fun u => wReader k a_th (a_in 0) (a_co 0) (a_ru 0) th_2 ++ wBytes k a_in z_in in_0 ++ wRules k a_ru ru_4 ++ wCourt k a_co (u)) (c_X2_begin n l k a_co co_0 (th_2.1 10) co_5 hg) E vl_X4_99 dX4_readPages_60 rfl [6, 7, 8, 9, 10, 11, 12, 13, 14, 15, 16, 17] 3 6 hW hA hl rfl rfl rfl rfl ⟨by decide, by decide⟩ ⟨by decide, by decide⟩ (Nat.le_of_ble_eq_true rfl) rfl (fun _ => rfl) (fun _ => rfl) (fun u H locs hp hW => ?_)
      cases hp
      have hW : WD k A s.heap (wReader k a_th (a_in 0) (a_co 0) (a_ru 0) th_2 ++ wBytes k a_in z_in in_0 ++ wRules k a_ru ru_4 ++ wCourt k a_co co_5) H locs := hW
      refine k_aload_n E hl 0 dX4_readPages_63 rfl ?_
      obtain ⟨th_6, r_7, hg, hf⟩ := ob2 hf
      refine k_callVi (As := []) (rest := []) (ws2 := fun u => wReader k a_th (a_in 0) (a_co 0) (a_ru 0) (u) ++ wBytes k a_in z_in in_0 ++ wRules k a_ru ru_4 ++ wCourt k a_co co_5) (c_X4_readSemicolon n l k hE a_th a_in a_ru a_co th_2 z_in in_0 (th_6, r_7) hg) E vl_X4_75 dX4_readPages_64 rfl [0, 1, 2] 5 0 hW hA hl rfl rfl rfl rfl ⟨by decide, by decide⟩ ⟨by decide, by decide⟩ (Nat.le_of_ble_eq_true rfl) rfl (fun _ => rfl) (fun _ => rfl) (fun r u H locs hp hW => ?_)
      cases hp
      have hW : WD k A s.heap (wReader k a_th (a_in 0) (a_co 0) (a_ru 0) th_6 ++ wBytes k a_in z_in in_0 ++ wRules k a_ru ru_4 ++ wCourt k a_co co_5) H locs := hW
      obtain ⟨hz, hf⟩ := oZ hf
      exact hret _ (th_6, ru_4, co_5) _ _ _ _ _ _ hW (Option.some.inj hf).symm hz (by decide) (by decide) dX4_readPages_67
    · have hf := oT hc hf
      refine lv_iconst (v := (0 : Int32)) E.hx E.hb dX4_readPages_39 ic_0 ?_
      exact hret _ (th_2, ru_0, co_0) _ _ _ _ _ _ hW (Option.some.inj hf).symm (by decide) (by decide) (by decide) dX4_readPages_40
  · have hf := oF hc hf
    refine k_aload_n E hl 0 dX4_readPages_10 rfl ?_
    refine lv_iconst (v := (1 : Int32)) E.hx E.hb dX4_readPages_11 ic_1 ?_
    obtain ⟨th_8, r_9, hg, hf⟩ := ob2 hf
    refine k_callVi (As := [.int (1 : Int32)]) (rest := []) (ws2 := fun u => wReader k a_th (a_in 0) (a_co 0) (a_ru 0) (u) ++ wBytes k a_in z_in in_0 ++ wRules k a_ru ru_0 ++ wCourt k a_co co_0) (c_X4_fail n l k a_th a_in a_ru a_co th_0 (1 : Int32) (th_8, r_9) hg) E vl_X4_81 dX4_readPages_12 rfl [0] 5 0 hW hA hl rfl rfl rfl rfl ⟨by decide, by decide⟩ ⟨by decide, by decide⟩ (Nat.le_of_ble_eq_true rfl) rfl (fun _ => rfl) (fun _ => rfl) (fun r u H locs hp hW => ?_)
    cases hp
    have hW : WD k A s.heap (wReader k a_th (a_in 0) (a_co 0) (a_ru 0) th_8 ++ wBytes k a_in z_in in_0 ++ wRules k a_ru ru_0 ++ wCourt k a_co co_0) H locs := hW
    obtain ⟨hz, hf⟩ := oZ hf
    exact hret _ (th_8, ru_0, co_0) _ _ _ _ _ _ hW (Option.some.inj hf).symm hz (by decide) (by decide) dX4_readPages_15
def s_X4_readText_41 (n : Nat) (z_in : Nat) (in_0 : OS) (rc_41 : (OS) → (OS) → (OS) → (Int32) → Option (OS × OS × OS × Int32)) (th_j41 : OS) (ru_j41 : OS) (co_j41 : OS) (w1_j41 : Int32) : Option (OS × OS × OS × Int32) :=
  if w1_j41 ≤ 0 then (
  some (th_j41, ru_j41, co_j41, (1 : Int32))) else (
  if (th_j41.1 5) = 0 then (
  some (th_j41, ru_j41, co_j41, (1 : Int32))) else (
  bnd4 (f_X4_readStatement n th_j41 z_in in_0 ru_j41 co_j41) (fun (th_11 : OS) (ru_12 : OS) (co_13 : OS) (r_14 : Int32) =>
  if r_14 = 0 then (
  some (th_11, ru_12, co_13, (0 : Int32))) else (
  bnd2 (f_X4_readSemicolon n th_11 z_in in_0) (fun (th_15 : OS) (r_16 : Int32) =>
  if r_16 = 0 then (
  some (th_15, ru_12, co_13, (0 : Int32))) else (
  Let (w1_j41 + (-1 : Int32)) (fun v1_17 : Int32 =>
  rc_41 th_15 ru_12 co_13 v1_17)))))))
def l_X4_readText_41 (n : Nat) (z_in : Nat) (in_0 : OS) : Nat → (OS) → (OS) → (OS) → (Int32) → Option (OS × OS × OS × Int32)
  | 0 => fun _ _ _ _ => none
  | N + 1 => s_X4_readText_41 n z_in in_0 (l_X4_readText_41 n z_in in_0 N)
def f_X4_readText (n : Nat) (th_0 : OS) (z_in : Nat) (in_0 : OS) (ru_0 : OS) (co_0 : OS) : Option (OS × OS × OS × Int32) :=
  Let (sI th_0 3 (0 : Int32)) (fun th_1 : OS =>
  Let (sI th_1 4 (-1 : Int32)) (fun th_2 : OS =>
  Let (sI th_2 11 (0 : Int32)) (fun th_3 : OS =>
  Let (sI th_3 7 (0 : Int32)) (fun th_4 : OS =>
  bnd (f_X4_advance n th_4 z_in in_0) (fun (th_5 : OS) =>
  bnd4 (f_X4_readPages n th_5 z_in in_0 ru_0 co_0) (fun (th_6 : OS) (ru_7 : OS) (co_8 : OS) (r_9 : Int32) =>
  if r_9 = 0 then (
  some (th_6, ru_7, co_8, (0 : Int32))) else (
  Let (in_0.1 1) (fun v1_10 : Int32 =>
  l_X4_readText_41 n z_in in_0 n th_6 ru_7 co_8 v1_10))))))))
set_option maxHeartbeats 4000000 in
set_option maxRecDepth 100000 in
theorem c_X4_readText (n : Nat) (l : Launch) (k : KT) (hE : EH k) (a_th : Nat → Nat) (a_in : Nat → Nat) (a_ru : Nat → Nat) (a_co : Nat → Nat) (th_0 : OS) (z_in : Nat) (in_0 : OS) (ru_0 : OS) (co_0 : OS) (res : (OS × OS × OS × Int32)) (hf : f_X4_readText n th_0 z_in in_0 ru_0 co_0 = some res) : CG l k yX4_readText cX4_readText 2 (some .boolean) 9 0 0 205 [.ref (a_th 0)] (wReader k a_th (a_in 0) (a_co 0) (a_ru 0) th_0 ++ wBytes k a_in z_in in_0 ++ wRules k a_ru ru_0 ++ wCourt k a_co co_0) (Qi k (fun u : (OS) × (OS) × (OS) => wReader k a_th (a_in 0) (a_co 0) (a_ru 0) (u.1) ++ wBytes k a_in z_in in_0 ++ wRules k a_ru (u.2.1) ++ wCourt k a_co (u.2.2)) (fun (r : Int32) (u : (OS) × (OS) × (OS)) => res = (u.1, u.2.1, u.2.2, r))) := by
  refine CG.ofI (by decide) (Nat.le_of_ble_eq_true rfl) (fun p e s m args below meth c A Q E hnm hW hA hret ls hl => ?_)
  have hl : lv_has ls 2 [(0, .ref (a_th 0))] := hl
  unfold f_X4_readText at hf
  refine k_aload_n E hl 0 dX4_readText_0 rfl ?_
  refine lv_iconst (v := (0 : Int32)) E.hx E.hb dX4_readText_1 ic_0 ?_
  obtain ⟨th_1, eth_1, hf⟩ := oL hf
  refine pf_X4_18 (ws2 := wReader k a_th (a_in 0) (a_co 0) (a_ru 0) th_1 ++ wBytes k a_in z_in in_0 ++ wRules k a_ru ru_0 ++ wCourt k a_co co_0) E hW 0 rfl rfl rfl (Nat.le_of_ble_eq_true rfl) dX4_readText_2 (by rw [eth_1]; rfl) (fun H locs hW => ?_)
  refine k_aload_n E hl 0 dX4_readText_5 rfl ?_
  refine lv_iconst (v := (-1 : Int32)) E.hx E.hb dX4_readText_6 ic_m1 ?_
  obtain ⟨th_2, eth_2, hf⟩ := oL hf
  refine pf_X4_22 (ws2 := wReader k a_th (a_in 0) (a_co 0) (a_ru 0) th_2 ++ wBytes k a_in z_in in_0 ++ wRules k a_ru ru_0 ++ wCourt k a_co co_0) E hW 0 rfl rfl rfl (Nat.le_of_ble_eq_true rfl) dX4_readText_7 (by rw [eth_2]; rfl) (fun H locs hW => ?_)
  refine k_aload_n E hl 0 dX4_readText_10 rfl ?_
  refine lv_iconst (v := (0 : Int32)) E.hx E.hb dX4_readText_11 ic_0 ?_
  obtain ⟨th_3, eth_3, hf⟩ := oL hf
  refine pf_X4_49 (ws2 := wReader k a_th (a_in 0) (a_co 0) (a_ru 0) th_3 ++ wBytes k a_in z_in in_0 ++ wRules k a_ru ru_0 ++ wCourt k a_co co_0) E hW 0 rfl rfl rfl (Nat.le_of_ble_eq_true rfl) dX4_readText_12 (by rw [eth_3]; rfl) (fun H locs hW => ?_)
  refine k_aload_n E hl 0 dX4_readText_15 rfl ?_
  refine lv_iconst (v := (0 : Int32)) E.hx E.hb dX4_readText_16 ic_0 ?_
  obtain ⟨th_4, eth_4, hf⟩ := oL hf
  refine pf_X4_31 (ws2 := wReader k a_th (a_in 0) (a_co 0) (a_ru 0) th_4 ++ wBytes k a_in z_in in_0 ++ wRules k a_ru ru_0 ++ wCourt k a_co co_0) E hW 0 rfl rfl rfl (Nat.le_of_ble_eq_true rfl) dX4_readText_17 (by rw [eth_4]; rfl) (fun H locs hW => ?_)
  refine k_aload_n E hl 0 dX4_readText_20 rfl ?_
  obtain ⟨th_5, hg, hf⟩ := ob hf
  refine k_callVv (As := []) (rest := []) (ws2 := fun u => wReader k a_th (a_in 0) (a_co 0) (a_ru 0) (u) ++ wBytes k a_in z_in in_0 ++ wRules k a_ru ru_0 ++ wCourt k a_co co_0) (c_X4_advance n l k hE a_th a_in a_ru a_co th_4 z_in in_0 th_5 hg) E vl_X4_60 dX4_readText_21 rfl [0, 1, 2] 5 0 hW hA hl rfl rfl rfl rfl ⟨by decide, by decide⟩ ⟨by decide, by decide⟩ (Nat.le_of_ble_eq_true rfl) rfl (fun _ => rfl) (fun _ => rfl) (fun u H locs hp hW => ?_)
  cases hp
  have hW : WD k A s.heap (wReader k a_th (a_in 0) (a_co 0) (a_ru 0) th_5 ++ wBytes k a_in z_in in_0 ++ wRules k a_ru ru_0 ++ wCourt k a_co co_0) H locs := hW
  refine k_aload_n E hl 0 dX4_readText_24 rfl ?_
  obtain ⟨th_6, ru_7, co_8, r_9, hg, hf⟩ := ob4 hf
  refine k_callVi (As := []) (rest := []) (ws2 := fun u => wReader k a_th (a_in 0) (a_co 0) (a_ru 0) (u.1) ++ wBytes k a_in z_in in_0 ++ wRules k a_ru (u.2.1) ++ wCourt k a_co (u.2.2)) (c_X4_readPages n l k hE a_th a_in a_ru a_co th_5 z_in in_0 ru_0 co_0 (th_6, ru_7, co_8, r_9) hg) E vl_X4_63 dX4_readText_25 rfl (List.range' 0 18) 5 0 hW hA hl rfl (blk_map [] (wReader k a_th (a_in 0) (a_co 0) (a_ru 0) th_5 ++ wBytes k a_in z_in in_0 ++ wRules k a_ru ru_0 ++ wCourt k a_co co_0) [] 0 18 (by simp only [List.nil_append, List.append_nil]) rfl rfl) rfl rfl ⟨by decide, by decide⟩ ⟨by decide, by decide⟩ (Nat.le_of_ble_eq_true rfl) rfl (fun _ => rfl) (fun u => by rw [blk_put [] (wReader k a_th (a_in 0) (a_co 0) (a_ru 0) th_5 ++ wBytes k a_in z_in in_0 ++ wRules k a_ru ru_0 ++ wCourt k a_co co_0) [] (wReader k a_th (a_in 0) (a_co 0) (a_ru 0) (u.1) ++ wBytes k a_in z_in in_0 ++ wRules k a_ru (u.2.1) ++ wCourt k a_co (u.2.2)) 0 18 (by simp only [List.nil_append, List.append_nil]) rfl rfl rfl]; try simp only [List.nil_append, List.append_nil]) (fun r u H locs hp hW => ?_)
  obtain ⟨u0, u1, u2⟩ := u
  try dsimp only at hp
  cases hp
  have hW : WD k A s.heap (wReader k a_th (a_in 0) (a_co 0) (a_ru 0) th_6 ++ wBytes k a_in z_in in_0 ++ wRules k a_ru ru_7 ++ wCourt k a_co co_8) H locs := hW
  refine lv_if_ne (tgt := 33) E.hx E.hb dX4_readText_28 (by decide) (fun hc => ?_) (fun hc => ?_)
  · have hf := oF hc hf
    refine k_aload_n E hl 0 dX4_readText_33 rfl ?_
    refine gf_X4_52 E hW 0 rfl rfl dX4_readText_34 ?_
    refine gf_X4_67 E hW 1 rfl rfl dX4_readText_37 ?_
    obtain ⟨v1_10, ev1_10, hf⟩ := oL hf
    refine k_istore_n (lv' := [(1, .int v1_10), (0, .ref (a_th 0))]) E ev1_10 hl dX4_readText_40 rfl (by decide) rfl (fun ls hl => ?_)
    have L_41 : ∀ (N_41 : Nat) (th_j41 : OS) (ru_j41 : OS) (co_j41 : OS) (w1_j41 : Int32) (H : Heap) (locs : List Loc) (ls : Array Slot) (hW : WD k A s.heap (wReader k a_th (a_in 0) (a_co 0) (a_ru 0) th_j41 ++ wBytes k a_in z_in in_0 ++ wRules k a_ru ru_j41 ++ wCourt k a_co co_j41) H locs) (hl : lv_has ls 2 [(0, .ref (a_th 0)), (1, .int w1_j41)]) (hf : l_X4_readText_41 n z_in in_0 N_41 th_j41 ru_j41 co_j41 w1_j41 = some res), W p l e { frames := 9, cells := 0, slots := 0, locals := 205 } s m args below meth c H locs 0 0 Q (F0 m 41 ls []) := by
      intro N_41
      induction N_41 with
      | zero => intro th_j41 ru_j41 co_j41 w1_j41 H locs ls hW hl hf; exact o0 hf
      | succ N_41 ih_41 =>
        intro th_j41 ru_j41 co_j41 w1_j41 H locs ls hW hl hf
        have hf : s_X4_readText_41 n z_in in_0 (l_X4_readText_41 n z_in in_0 N_41) th_j41 ru_j41 co_j41 w1_j41 = some res := hf
        unfold s_X4_readText_41 at hf
        refine k_iload_n E hl 1 dX4_readText_41 rfl ?_
        refine lv_if_le (tgt := 74) E.hx E.hb dX4_readText_42 (by decide) (fun hc => ?_) (fun hc => ?_)
        · have hf := oT hc hf
          refine lv_iconst (v := (1 : Int32)) E.hx E.hb dX4_readText_74 ic_1 ?_
          exact hret _ (th_j41, ru_j41, co_j41) _ _ _ _ _ _ hW (Option.some.inj hf).symm (by decide) (by decide) (by decide) dX4_readText_75
        · have hf := oF hc hf
          refine k_aload_n E hl 0 dX4_readText_45 rfl ?_
          refine gf_X4_25 E hW 0 rfl rfl dX4_readText_46 ?_
          refine lv_if_eq (tgt := 74) E.hx E.hb dX4_readText_49 (by decide) (fun hc => ?_) (fun hc => ?_)
          · have hf := oT hc hf
            refine lv_iconst (v := (1 : Int32)) E.hx E.hb dX4_readText_74 ic_1 ?_
            exact hret _ (th_j41, ru_j41, co_j41) _ _ _ _ _ _ hW (Option.some.inj hf).symm (by decide) (by decide) (by decide) dX4_readText_75
          · have hf := oF hc hf
            refine k_aload_n E hl 0 dX4_readText_52 rfl ?_
            obtain ⟨th_11, ru_12, co_13, r_14, hg, hf⟩ := ob4 hf
            refine k_callVi (As := []) (rest := []) (ws2 := fun u => wReader k a_th (a_in 0) (a_co 0) (a_ru 0) (u.1) ++ wBytes k a_in z_in in_0 ++ wRules k a_ru (u.2.1) ++ wCourt k a_co (u.2.2)) (c_X4_readStatement n l k hE a_th a_in a_ru a_co th_j41 z_in in_0 ru_j41 co_j41 (th_11, ru_12, co_13, r_14) hg) E vl_X4_72 dX4_readText_53 rfl (List.range' 0 18) 5 0 hW hA hl rfl (blk_map [] (wReader k a_th (a_in 0) (a_co 0) (a_ru 0) th_j41 ++ wBytes k a_in z_in in_0 ++ wRules k a_ru ru_j41 ++ wCourt k a_co co_j41) [] 0 18 (by simp only [List.nil_append, List.append_nil]) rfl rfl) rfl rfl ⟨by decide, by decide⟩ ⟨by decide, by decide⟩ (Nat.le_of_ble_eq_true rfl) rfl (fun _ => rfl) (fun u => by rw [blk_put [] (wReader k a_th (a_in 0) (a_co 0) (a_ru 0) th_j41 ++ wBytes k a_in z_in in_0 ++ wRules k a_ru ru_j41 ++ wCourt k a_co co_j41) [] (wReader k a_th (a_in 0) (a_co 0) (a_ru 0) (u.1) ++ wBytes k a_in z_in in_0 ++ wRules k a_ru (u.2.1) ++ wCourt k a_co (u.2.2)) 0 18 (by simp only [List.nil_append, List.append_nil]) rfl rfl rfl]; try simp only [List.nil_append, List.append_nil]) (fun r u H locs hp hW => ?_)
            obtain ⟨u0, u1, u2⟩ := u
            try dsimp only at hp
            cases hp
            have hW : WD k A s.heap (wReader k a_th (a_in 0) (a_co 0) (a_ru 0) th_11 ++ wBytes k a_in z_in in_0 ++ wRules k a_ru ru_12 ++ wCourt k a_co co_13) H locs := hW
            refine lv_if_eq (tgt := 66) E.hx E.hb dX4_readText_56 (by decide) (fun hc => ?_) (fun hc => ?_)
            · have hf := oT hc hf
              refine lv_iconst (v := (0 : Int32)) E.hx E.hb dX4_readText_66 ic_0 ?_
              exact hret _ (th_11, ru_12, co_13) _ _ _ _ _ _ hW (Option.some.inj hf).symm (by decide) (by decide) (by decide) dX4_readText_67
            · have hf := oF hc hf
              refine k_aload_n E hl 0 dX4_readText_59 rfl ?_
              obtain ⟨th_15, r_16, hg, hf⟩ := ob2 hf
              refine k_callVi (As := []) (rest := []) (ws2 := fun u => wReader k a_th (a_in 0) (a_co 0) (a_ru 0) (u) ++ wBytes k a_in z_in in_0 ++ wRules k a_ru ru_12 ++ wCourt k a_co co_13) (c_X4_readSemicolon n l k hE a_th a_in a_ru a_co th_11 z_in in_0 (th_15, r_16) hg) E vl_X4_75 dX4_readText_60 rfl [0, 1, 2] 5 0 hW hA hl rfl rfl rfl rfl ⟨by decide, by decide⟩ ⟨by decide, by decide⟩ (Nat.le_of_ble_eq_true rfl) rfl (fun _ => rfl) (fun _ => rfl) (fun r u H locs hp hW => ?_)
              cases hp
              have hW : WD k A s.heap (wReader k a_th (a_in 0) (a_co 0) (a_ru 0) th_15 ++ wBytes k a_in z_in in_0 ++ wRules k a_ru ru_12 ++ wCourt k a_co co_13) H locs := hW
              refine lv_if_ne (tgt := 68) E.hx E.hb dX4_readText_63 (by decide) (fun hc => ?_) (fun hc => ?_)
              · have hf := oF hc hf
                obtain ⟨v1_17, ev1_17, hf⟩ := oL hf
                refine k_iinc (lv' := [(1, .int v1_17), (0, .ref (a_th 0))]) E hl 1 dX4_readText_68 rfl (ev1_17.trans (congrArg (fun z => w1_j41 + z) ic_m1.symm)) (by decide) rfl (fun ls hl => ?_)
                refine lv_goto (tgt := 41) E.hx E.hb dX4_readText_71 (by decide) ?_
                exact ih_41 th_15 ru_12 co_13 v1_17 _ _ _ hW (lv_sub hl [1, 0] rfl) hf
              · have hf := oT hc hf
                refine lv_iconst (v := (0 : Int32)) E.hx E.hb dX4_readText_66 ic_0 ?_
                exact hret _ (th_15, ru_12, co_13) _ _ _ _ _ _ hW (Option.some.inj hf).symm (by decide) (by decide) (by decide) dX4_readText_67
    exact L_41 n th_6 ru_7 co_8 v1_10 _ _ _ hW (lv_sub hl [1, 0] rfl) hf
  · have hf := oT hc hf
    refine lv_iconst (v := (0 : Int32)) E.hx E.hb dX4_readText_31 ic_0 ?_
    exact hret _ (th_6, ru_7, co_8) _ _ _ _ _ _ hW (Option.some.inj hf).symm (by decide) (by decide) (by decide) dX4_readText_32
def f_X8_parse (n : Nat) (sv_th : Value) (th_0 : OS) (z_in : Nat) (in_0 : OS) (ru_0 : OS) (no_0 : OS) (fo_0 : OS) (rd_0 : OS) (rr_0 : OS) (pa_0 : PS) : Option (OS × OS × OS × OS × OS × OS × OS × PS × Int32) :=
  bnd4 (f_X4_readText n rd_0 z_in in_0 rr_0 fo_0) (fun (rd_1 : OS) (rr_2 : OS) (fo_3 : OS) (r_4 : Int32) =>
  Let (sI in_0 1 (0 : Int32)) (fun in_5 : OS =>
  if r_4 = 0 then (
  some (th_0, in_5, ru_0, no_0, fo_3, rd_1, rr_2, pa_0, (-1 : Int32))) else (
  bnd (f_X5_copyFrom n ru_0 rr_2) (fun (ru_6 : OS) =>
  bnd (f_X2_copyFrom n no_0 fo_3) (fun (no_7 : OS) =>
  bnd (f_X3_forget n pa_0) (fun (pa_8 : PS) =>
  Let (sI th_0 8 (0 : Int32)) (fun th_9 : OS =>
  some (th_9, in_5, ru_6, no_7, fo_3, rd_1, rr_2, pa_8, (ru_6.1 1)))))))))
set_option maxHeartbeats 4000000 in
set_option maxRecDepth 100000 in
theorem c_X8_parse (n : Nat) (l : Launch) (k : KT) (hE : EH k) (a_th : Nat → Nat) (a_in : Nat → Nat) (a_ou : Nat → Nat) (a_ru : Nat → Nat) (a_no : Nat → Nat) (a_fo : Nat → Nat) (a_rd : Nat → Nat) (a_rr : Nat → Nat) (a_pa : Nat → Nat) (pp_0 : Nat → Nat → Nat) (sv_th : Value) (th_0 : OS) (z_in : Nat) (in_0 : OS) (ru_0 : OS) (no_0 : OS) (fo_0 : OS) (rd_0 : OS) (rr_0 : OS) (pa_0 : PS) (res : (OS × OS × OS × OS × OS × OS × OS × PS × Int32)) (hf : f_X8_parse n sv_th th_0 z_in in_0 ru_0 no_0 fo_0 rd_0 rr_0 pa_0 = some res) : CG l k yX8_parse cX8_parse 2 (some .int) 10 0 0 226 [.ref (a_th 0)] (wMCo k a_th (a_in 0) (a_ou 0) (a_ru 0) (a_no 0) (a_fo 0) (a_rd 0) (a_pa 0) sv_th th_0 ++ wBytes k a_in z_in in_0 ++ wRules k a_ru ru_0 ++ wCourt k a_no no_0 ++ wCourt k a_fo fo_0 ++ wReader k a_rd (a_in 0) (a_fo 0) (a_rr 0) rd_0 ++ wRules k a_rr rr_0 ++ wPast k a_pa pp_0 pa_0) (Qi k (fun u : (OS) × (OS) × (OS) × (OS) × (OS) × (OS) × (OS) × (PS) => wMCo k a_th (a_in 0) (a_ou 0) (a_ru 0) (a_no 0) (a_fo 0) (a_rd 0) (a_pa 0) sv_th (u.1) ++ wBytes k a_in z_in (u.2.1) ++ wRules k a_ru (u.2.2.1) ++ wCourt k a_no (u.2.2.2.1) ++ wCourt k a_fo (u.2.2.2.2.1) ++ wReader k a_rd (a_in 0) (a_fo 0) (a_rr 0) (u.2.2.2.2.2.1) ++ wRules k a_rr (u.2.2.2.2.2.2.1) ++ wPast k a_pa pp_0 (u.2.2.2.2.2.2.2)) (fun (r : Int32) (u : (OS) × (OS) × (OS) × (OS) × (OS) × (OS) × (OS) × (PS)) => res = (u.1, u.2.1, u.2.2.1, u.2.2.2.1, u.2.2.2.2.1, u.2.2.2.2.2.1, u.2.2.2.2.2.2.1, u.2.2.2.2.2.2.2, r))) := by
  refine CG.ofI (by decide) (Nat.le_of_ble_eq_true rfl) (fun p e s m args below meth c A Q E hnm hW hA hret ls hl => ?_)
  have hl : lv_has ls 2 [(0, .ref (a_th 0))] := hl
  unfold f_X8_parse at hf
  refine k_aload_n E hl 0 dX8_parse_0 rfl ?_
  refine gf_X8_43 E hW 0 rfl rfl dX8_parse_1 ?_
  obtain ⟨rd_1, rr_2, fo_3, r_4, hg, hf⟩ := ob4 hf
  refine k_callVi (As := []) (rest := []) (ws2 := fun u => wMCo k a_th (a_in 0) (a_ou 0) (a_ru 0) (a_no 0) (a_fo 0) (a_rd 0) (a_pa 0) sv_th th_0 ++ wBytes k a_in z_in in_0 ++ wRules k a_ru ru_0 ++ wCourt k a_no no_0 ++ wCourt k a_fo (u.2.2) ++ wReader k a_rd (a_in 0) (a_fo 0) (a_rr 0) (u.1) ++ wRules k a_rr (u.2.1) ++ wPast k a_pa pp_0 pa_0) (c_X4_readText n l k hE a_rd a_in a_rr a_fo rd_0 z_in in_0 rr_0 fo_0 (rd_1, rr_2, fo_3, r_4) hg) E vl_X8_81 dX8_parse_4 rfl (List.range' 30 1 ++ List.range' 1 2 ++ List.range' 31 3 ++ List.range' 18 12) 5 30 hW hA hl rfl (by simp only [List.map_append]; exact app2 (app2 (app2 (blk_map (wMCo k a_th (a_in 0) (a_ou 0) (a_ru 0) (a_no 0) (a_fo 0) (a_rd 0) (a_pa 0) sv_th th_0 ++ wBytes k a_in z_in in_0 ++ wRules k a_ru ru_0 ++ wCourt k a_no no_0 ++ wCourt k a_fo fo_0) (wReader k a_rd (a_in 0) (a_fo 0) (a_rr 0) rd_0) (wRules k a_rr rr_0 ++ wPast k a_pa pp_0 pa_0) 30 1 (by simp only [List.append_assoc, List.nil_append, List.append_nil]) rfl rfl) (blk_map (wMCo k a_th (a_in 0) (a_ou 0) (a_ru 0) (a_no 0) (a_fo 0) (a_rd 0) (a_pa 0) sv_th th_0) (wBytes k a_in z_in in_0) (wRules k a_ru ru_0 ++ wCourt k a_no no_0 ++ wCourt k a_fo fo_0 ++ wReader k a_rd (a_in 0) (a_fo 0) (a_rr 0) rd_0 ++ wRules k a_rr rr_0 ++ wPast k a_pa pp_0 pa_0) 1 2 (by simp only [List.append_assoc, List.nil_append, List.append_nil]) rfl rfl)) (blk_map (wMCo k a_th (a_in 0) (a_ou 0) (a_ru 0) (a_no 0) (a_fo 0) (a_rd 0) (a_pa 0) sv_th th_0 ++ wBytes k a_in z_in in_0 ++ wRules k a_ru ru_0 ++ wCourt k a_no no_0 ++ wCourt k a_fo fo_0 ++ wReader k a_rd (a_in 0) (a_fo 0) (a_rr 0) rd_0) (wRules k a_rr rr_0) (wPast k a_pa pp_0 pa_0) 31 3 (by simp only [List.append_assoc, List.nil_append, List.append_nil]) rfl rfl)) (blk_map (wMCo k a_th (a_in 0) (a_ou 0) (a_ru 0) (a_no 0) (a_fo 0) (a_rd 0) (a_pa 0) sv_th th_0 ++ wBytes k a_in z_in in_0 ++ wRules k a_ru ru_0 ++ wCourt k a_no no_0) (wCourt k a_fo fo_0) (wReader k a_rd (a_in 0) (a_fo 0) (a_rr 0) rd_0 ++ wRules k a_rr rr_0 ++ wPast k a_pa pp_0 pa_0) 18 12 (by simp only [List.append_assoc, List.nil_append, List.append_nil]) rfl rfl)) rfl rfl ⟨by decide, by decide⟩ ⟨by decide, by decide⟩ (Nat.le_of_ble_eq_true rfl) rfl (fun _ => rfl) (fun u => by show putW _ (_ ++ _) (_ ++ _) = _; rw [putW_app _ _ _ _ _ rfl, putW_app _ _ _ _ _ rfl, putW_app _ _ _ _ _ rfl, blk_put (wMCo k a_th (a_in 0) (a_ou 0) (a_ru 0) (a_no 0) (a_fo 0) (a_rd 0) (a_pa 0) sv_th th_0 ++ wBytes k a_in z_in in_0 ++ wRules k a_ru ru_0 ++ wCourt k a_no no_0 ++ wCourt k a_fo fo_0) (wReader k a_rd (a_in 0) (a_fo 0) (a_rr 0) rd_0) (wRules k a_rr rr_0 ++ wPast k a_pa pp_0 pa_0) (wReader k a_rd (a_in 0) (a_fo 0) (a_rr 0) (u.1)) 30 1 (by simp only [List.append_assoc, List.nil_append, List.append_nil]) rfl rfl rfl, blk_put (wMCo k a_th (a_in 0) (a_ou 0) (a_ru 0) (a_no 0) (a_fo 0) (a_rd 0) (a_pa 0) sv_th th_0) (wBytes k a_in z_in in_0) (wRules k a_ru ru_0 ++ wCourt k a_no no_0 ++ wCourt k a_fo fo_0 ++ wReader k a_rd (a_in 0) (a_fo 0) (a_rr 0) (u.1) ++ wRules k a_rr rr_0 ++ wPast k a_pa pp_0 pa_0) (wBytes k a_in z_in in_0) 1 2 (by simp only [List.append_assoc, List.nil_append, List.append_nil]) rfl rfl rfl, blk_put (wMCo k a_th (a_in 0) (a_ou 0) (a_ru 0) (a_no 0) (a_fo 0) (a_rd 0) (a_pa 0) sv_th th_0 ++ wBytes k a_in z_in in_0 ++ wRules k a_ru ru_0 ++ wCourt k a_no no_0 ++ wCourt k a_fo fo_0 ++ wReader k a_rd (a_in 0) (a_fo 0) (a_rr 0) (u.1)) (wRules k a_rr rr_0) (wPast k a_pa pp_0 pa_0) (wRules k a_rr (u.2.1)) 31 3 (by simp only [List.append_assoc, List.nil_append, List.append_nil]) rfl rfl rfl, blk_put (wMCo k a_th (a_in 0) (a_ou 0) (a_ru 0) (a_no 0) (a_fo 0) (a_rd 0) (a_pa 0) sv_th th_0 ++ wBytes k a_in z_in in_0 ++ wRules k a_ru ru_0 ++ wCourt k a_no no_0) (wCourt k a_fo fo_0) (wReader k a_rd (a_in 0) (a_fo 0) (a_rr 0) (u.1) ++ wRules k a_rr (u.2.1) ++ wPast k a_pa pp_0 pa_0) (wCourt k a_fo (u.2.2)) 18 12 (by simp only [List.append_assoc, List.nil_append, List.append_nil]) rfl rfl rfl]; try simp only [List.append_assoc, List.nil_append, List.append_nil]) (fun r u H locs hp hW => ?_)
  obtain ⟨u0, u1, u2⟩ := u
  try dsimp only at hp
  cases hp
  have hW : WD k A s.heap (wMCo k a_th (a_in 0) (a_ou 0) (a_ru 0) (a_no 0) (a_fo 0) (a_rd 0) (a_pa 0) sv_th th_0 ++ wBytes k a_in z_in in_0 ++ wRules k a_ru ru_0 ++ wCourt k a_no no_0 ++ wCourt k a_fo fo_3 ++ wReader k a_rd (a_in 0) (a_fo 0) (a_rr 0) rd_1 ++ wRules k a_rr rr_2 ++ wPast k a_pa pp_0 pa_0) H locs := hW
  refine k_istore_n (lv' := [(1, .int r_4), (0, .ref (a_th 0))]) E rfl hl dX8_parse_7 rfl (by decide) rfl (fun ls hl => ?_)
  refine k_aload_n E hl 1 dX8_parse_8 rfl ?_
  refine gf_X8_14 E hW 0 rfl rfl dX8_parse_9 ?_
  refine lv_iconst (v := (0 : Int32)) E.hx E.hb dX8_parse_12 ic_0 ?_
  obtain ⟨in_5, ein_5, hf⟩ := oL hf
  refine pf_X8_75 (ws2 := wMCo k a_th (a_in 0) (a_ou 0) (a_ru 0) (a_no 0) (a_fo 0) (a_rd 0) (a_pa 0) sv_th th_0 ++ wBytes k a_in z_in in_5 ++ wRules k a_ru ru_0 ++ wCourt k a_no no_0 ++ wCourt k a_fo fo_3 ++ wReader k a_rd (a_in 0) (a_fo 0) (a_rr 0) rd_1 ++ wRules k a_rr rr_2 ++ wPast k a_pa pp_0 pa_0) E hW 1 rfl rfl rfl (Nat.le_of_ble_eq_true rfl) dX8_parse_13 (by rw [ein_5]; rfl) (fun H locs hW => ?_)
  refine k_iload_n E hl 0 dX8_parse_16 rfl ?_
  refine lv_if_ne (tgt := 22) E.hx E.hb dX8_parse_17 (by decide) (fun hc => ?_) (fun hc => ?_)
  · have hf := oF hc hf
    refine k_aload_n E hl 1 dX8_parse_22 rfl ?_
    refine gf_X8_24 E hW 0 rfl rfl dX8_parse_23 ?_
    refine k_aload_n E hl 1 dX8_parse_26 rfl ?_
    refine gf_X8_43 E hW 0 rfl rfl dX8_parse_27 ?_
    refine gf_X8_85 E hW 30 rfl rfl dX8_parse_30 ?_
    obtain ⟨ru_6, hg, hf⟩ := ob hf
    refine k_callVv (As := [.ref (a_rr 0)]) (rest := []) (ws2 := fun u => wMCo k a_th (a_in 0) (a_ou 0) (a_ru 0) (a_no 0) (a_fo 0) (a_rd 0) (a_pa 0) sv_th th_0 ++ wBytes k a_in z_in in_5 ++ wRules k a_ru (u) ++ wCourt k a_no no_0 ++ wCourt k a_fo fo_3 ++ wReader k a_rd (a_in 0) (a_fo 0) (a_rr 0) rd_1 ++ wRules k a_rr rr_2 ++ wPast k a_pa pp_0 pa_0) (c_X5_copyFrom n l k a_ru a_rr ru_0 rr_2 ru_6 hg) E vl_X8_86 dX8_parse_33 rfl [3, 4, 5, 31, 32, 33] 6 3 hW hA hl rfl rfl rfl rfl ⟨by decide, by decide⟩ ⟨by decide, by decide⟩ (Nat.le_of_ble_eq_true rfl) rfl (fun _ => rfl) (fun _ => rfl) (fun u H locs hp hW => ?_)
    cases hp
    have hW : WD k A s.heap (wMCo k a_th (a_in 0) (a_ou 0) (a_ru 0) (a_no 0) (a_fo 0) (a_rd 0) (a_pa 0) sv_th th_0 ++ wBytes k a_in z_in in_5 ++ wRules k a_ru ru_6 ++ wCourt k a_no no_0 ++ wCourt k a_fo fo_3 ++ wReader k a_rd (a_in 0) (a_fo 0) (a_rr 0) rd_1 ++ wRules k a_rr rr_2 ++ wPast k a_pa pp_0 pa_0) H locs := hW
    refine k_aload_n E hl 1 dX8_parse_36 rfl ?_
    refine gf_X8_31 E hW 0 rfl rfl dX8_parse_37 ?_
    refine k_aload_n E hl 1 dX8_parse_40 rfl ?_
    refine gf_X8_35 E hW 0 rfl rfl dX8_parse_41 ?_
    obtain ⟨no_7, hg, hf⟩ := ob hf
    refine k_callVv (As := [.ref (a_fo 0)]) (rest := []) (ws2 := fun u => wMCo k a_th (a_in 0) (a_ou 0) (a_ru 0) (a_no 0) (a_fo 0) (a_rd 0) (a_pa 0) sv_th th_0 ++ wBytes k a_in z_in in_5 ++ wRules k a_ru ru_6 ++ wCourt k a_no (u) ++ wCourt k a_fo fo_3 ++ wReader k a_rd (a_in 0) (a_fo 0) (a_rr 0) rd_1 ++ wRules k a_rr rr_2 ++ wPast k a_pa pp_0 pa_0) (c_X2_copyFrom n l k a_no a_fo no_0 fo_3 no_7 hg) E vl_X8_90 dX8_parse_44 rfl (List.range' 6 12 ++ List.range' 18 12) 3 6 hW hA hl rfl (by simp only [List.map_append]; exact app2 (blk_map (wMCo k a_th (a_in 0) (a_ou 0) (a_ru 0) (a_no 0) (a_fo 0) (a_rd 0) (a_pa 0) sv_th th_0 ++ wBytes k a_in z_in in_5 ++ wRules k a_ru ru_6) (wCourt k a_no no_0) (wCourt k a_fo fo_3 ++ wReader k a_rd (a_in 0) (a_fo 0) (a_rr 0) rd_1 ++ wRules k a_rr rr_2 ++ wPast k a_pa pp_0 pa_0) 6 12 (by simp only [List.append_assoc, List.nil_append, List.append_nil]) rfl rfl) (blk_map (wMCo k a_th (a_in 0) (a_ou 0) (a_ru 0) (a_no 0) (a_fo 0) (a_rd 0) (a_pa 0) sv_th th_0 ++ wBytes k a_in z_in in_5 ++ wRules k a_ru ru_6 ++ wCourt k a_no no_0) (wCourt k a_fo fo_3) (wReader k a_rd (a_in 0) (a_fo 0) (a_rr 0) rd_1 ++ wRules k a_rr rr_2 ++ wPast k a_pa pp_0 pa_0) 18 12 (by simp only [List.append_assoc, List.nil_append, List.append_nil]) rfl rfl)) rfl rfl ⟨by decide, by decide⟩ ⟨by decide, by decide⟩ (Nat.le_of_ble_eq_true rfl) rfl (fun _ => rfl) (fun u => by show putW _ (_ ++ _) (_ ++ _) = _; rw [putW_app _ _ _ _ _ rfl, blk_put (wMCo k a_th (a_in 0) (a_ou 0) (a_ru 0) (a_no 0) (a_fo 0) (a_rd 0) (a_pa 0) sv_th th_0 ++ wBytes k a_in z_in in_5 ++ wRules k a_ru ru_6) (wCourt k a_no no_0) (wCourt k a_fo fo_3 ++ wReader k a_rd (a_in 0) (a_fo 0) (a_rr 0) rd_1 ++ wRules k a_rr rr_2 ++ wPast k a_pa pp_0 pa_0) (wCourt k a_no (u)) 6 12 (by simp only [List.append_assoc, List.nil_append, List.append_nil]) rfl rfl rfl, blk_put (wMCo k a_th (a_in 0) (a_ou 0) (a_ru 0) (a_no 0) (a_fo 0) (a_rd 0) (a_pa 0) sv_th th_0 ++ wBytes k a_in z_in in_5 ++ wRules k a_ru ru_6 ++ wCourt k a_no (u)) (wCourt k a_fo fo_3) (wReader k a_rd (a_in 0) (a_fo 0) (a_rr 0) rd_1 ++ wRules k a_rr rr_2 ++ wPast k a_pa pp_0 pa_0) (wCourt k a_fo fo_3) 18 12 (by simp only [List.append_assoc, List.nil_append, List.append_nil]) rfl rfl rfl]; try simp only [List.append_assoc, List.nil_append, List.append_nil]) (fun u H locs hp hW => ?_)
    cases hp
    have hW : WD k A s.heap (wMCo k a_th (a_in 0) (a_ou 0) (a_ru 0) (a_no 0) (a_fo 0) (a_rd 0) (a_pa 0) sv_th th_0 ++ wBytes k a_in z_in in_5 ++ wRules k a_ru ru_6 ++ wCourt k a_no no_7 ++ wCourt k a_fo fo_3 ++ wReader k a_rd (a_in 0) (a_fo 0) (a_rr 0) rd_1 ++ wRules k a_rr rr_2 ++ wPast k a_pa pp_0 pa_0) H locs := hW
    refine k_aload_n E hl 1 dX8_parse_47 rfl ?_
    refine gf_X8_50 E hW 0 rfl rfl dX8_parse_48 ?_
    obtain ⟨pa_8, hg, hf⟩ := ob hf
    refine k_callVv (As := []) (rest := []) (ws2 := fun u => wMCo k a_th (a_in 0) (a_ou 0) (a_ru 0) (a_no 0) (a_fo 0) (a_rd 0) (a_pa 0) sv_th th_0 ++ wBytes k a_in z_in in_5 ++ wRules k a_ru ru_6 ++ wCourt k a_no no_7 ++ wCourt k a_fo fo_3 ++ wReader k a_rd (a_in 0) (a_fo 0) (a_rr 0) rd_1 ++ wRules k a_rr rr_2 ++ wPast k a_pa pp_0 (u)) (c_X3_forget n l k a_pa pp_0 pa_0 pa_8 hg) E vl_X8_93 dX8_parse_51 rfl [34, 35] 4 34 hW hA hl rfl rfl rfl rfl ⟨by decide, by decide⟩ ⟨by decide, by decide⟩ (Nat.le_of_ble_eq_true rfl) rfl (fun _ => rfl) (fun _ => rfl) (fun u H locs hp hW => ?_)
    cases hp
    have hW : WD k A s.heap (wMCo k a_th (a_in 0) (a_ou 0) (a_ru 0) (a_no 0) (a_fo 0) (a_rd 0) (a_pa 0) sv_th th_0 ++ wBytes k a_in z_in in_5 ++ wRules k a_ru ru_6 ++ wCourt k a_no no_7 ++ wCourt k a_fo fo_3 ++ wReader k a_rd (a_in 0) (a_fo 0) (a_rr 0) rd_1 ++ wRules k a_rr rr_2 ++ wPast k a_pa pp_0 pa_8) H locs := hW
    refine k_aload_n E hl 1 dX8_parse_54 rfl ?_
    refine lv_iconst (v := (0 : Int32)) E.hx E.hb dX8_parse_55 ic_0 ?_
    obtain ⟨th_9, eth_9, hf⟩ := oL hf
    refine pf_X8_57 (ws2 := wMCo k a_th (a_in 0) (a_ou 0) (a_ru 0) (a_no 0) (a_fo 0) (a_rd 0) (a_pa 0) sv_th th_9 ++ wBytes k a_in z_in in_5 ++ wRules k a_ru ru_6 ++ wCourt k a_no no_7 ++ wCourt k a_fo fo_3 ++ wReader k a_rd (a_in 0) (a_fo 0) (a_rr 0) rd_1 ++ wRules k a_rr rr_2 ++ wPast k a_pa pp_0 pa_8) E hW 0 rfl (by decide) (by decide) (Nat.le_of_ble_eq_true rfl) dX8_parse_56 (by rw [eth_9]; rfl) (fun H locs hW => ?_)
    refine k_aload_n E hl 1 dX8_parse_59 rfl ?_
    refine gf_X8_24 E hW 0 rfl rfl dX8_parse_60 ?_
    refine gf_X8_96 E hW 3 rfl rfl dX8_parse_63 ?_
    exact hret _ (th_9, in_5, ru_6, no_7, fo_3, rd_1, rr_2, pa_8) _ _ _ _ _ _ hW (Option.some.inj hf).symm rfl (by decide) (by decide) dX8_parse_66
  · have hf := oT hc hf
    refine lv_iconst (v := (-1 : Int32)) E.hx E.hb dX8_parse_20 ic_m1 ?_
    exact hret _ (th_0, in_5, ru_0, no_0, fo_3, rd_1, rr_2, pa_0) _ _ _ _ _ _ hW (Option.some.inj hf).symm rfl (by decide) (by decide) dX8_parse_21
