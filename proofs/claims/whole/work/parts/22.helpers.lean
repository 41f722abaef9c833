theorem tm_753 : (Jvm.Cond.methodLink "MemoryCourtLaw" (7 : Nat) ({ cls := "MemoryCourt", name := "process", desc := "(II)I" } : Jvm.MethodName)) ∈ lw_tbl := List.mem_of_getElem? (i := 753) (by decide +kernel)
theorem tm_754 : (Jvm.Cond.instanceMethod ({ cls := "MemoryCourt", name := "process", desc := "(II)I" } : Jvm.MethodName)) ∈ lw_tbl := List.mem_of_getElem? (i := 754) (by decide +kernel)
theorem tm_755 : (Jvm.Cond.selects "MemoryCourt" ({ cls := "MemoryCourt", name := "process", desc := "(II)I" } : Jvm.MethodName) ({ cls := "MemoryCourt", name := "process", desc := "(II)I" } : Jvm.MethodName)) ∈ lw_tbl := List.mem_of_getElem? (i := 755) (by decide +kernel)
theorem tm_756 : (Jvm.Cond.code ({ cls := "MemoryCourt", name := "process", desc := "(II)I" } : Jvm.MethodName) prog_1_method_9_code (3 : Nat) (Option.some Jvm.ClassFile.FieldType.int)) ∈ lw_tbl := List.mem_of_getElem? (i := 756) (by decide +kernel)
theorem tm_752 : (Jvm.Cond.classLink "MemoryCourtLaw" (13 : Nat) "java/lang/IndexOutOfBoundsException") ∈ lw_tbl := List.mem_of_getElem? (i := 752) (by decide +kernel)
theorem tm_763 : (Jvm.Cond.castable "java/lang/IndexOutOfBoundsException" "java/lang/IndexOutOfBoundsException") ∈ lw_tbl := List.mem_of_getElem? (i := 763) (by decide +kernel)
theorem tm_838 : (Jvm.Cond.methodLink "MemoryCourtLaw" (15 : Nat) ({ cls := "MemoryCourt", name := "loan", desc := "(II)I" } : Jvm.MethodName)) ∈ lw_tbl := List.mem_of_getElem? (i := 838) (by decide +kernel)
theorem tm_839 : (Jvm.Cond.instanceMethod ({ cls := "MemoryCourt", name := "loan", desc := "(II)I" } : Jvm.MethodName)) ∈ lw_tbl := List.mem_of_getElem? (i := 839) (by decide +kernel)
theorem tm_840 : (Jvm.Cond.selects "MemoryCourt" ({ cls := "MemoryCourt", name := "loan", desc := "(II)I" } : Jvm.MethodName) ({ cls := "MemoryCourt", name := "loan", desc := "(II)I" } : Jvm.MethodName)) ∈ lw_tbl := List.mem_of_getElem? (i := 840) (by decide +kernel)
theorem tm_841 : (Jvm.Cond.code ({ cls := "MemoryCourt", name := "loan", desc := "(II)I" } : Jvm.MethodName) prog_1_method_10_code (3 : Nat) (Option.some Jvm.ClassFile.FieldType.int)) ∈ lw_tbl := List.mem_of_getElem? (i := 841) (by decide +kernel)
theorem tm_852 : (Jvm.Cond.methodLink "MemoryCourtLaw" (18 : Nat) ({ cls := "MemoryCourt", name := "page", desc := "(I)I" } : Jvm.MethodName)) ∈ lw_tbl := List.mem_of_getElem? (i := 852) (by decide +kernel)
theorem tm_853 : (Jvm.Cond.instanceMethod ({ cls := "MemoryCourt", name := "page", desc := "(I)I" } : Jvm.MethodName)) ∈ lw_tbl := List.mem_of_getElem? (i := 853) (by decide +kernel)
theorem tm_854 : (Jvm.Cond.selects "MemoryCourt" ({ cls := "MemoryCourt", name := "page", desc := "(I)I" } : Jvm.MethodName) ({ cls := "MemoryCourt", name := "page", desc := "(I)I" } : Jvm.MethodName)) ∈ lw_tbl := List.mem_of_getElem? (i := 854) (by decide +kernel)
theorem tm_855 : (Jvm.Cond.code ({ cls := "MemoryCourt", name := "page", desc := "(I)I" } : Jvm.MethodName) prog_1_method_11_code (2 : Nat) (Option.some Jvm.ClassFile.FieldType.int)) ∈ lw_tbl := List.mem_of_getElem? (i := 855) (by decide +kernel)
theorem tm_865 : (Jvm.Cond.methodLink "MemoryCourtLaw" (22 : Nat) ({ cls := "MemoryCourt", name := "pageOf", desc := "(II)I" } : Jvm.MethodName)) ∈ lw_tbl := List.mem_of_getElem? (i := 865) (by decide +kernel)
theorem tm_866 : (Jvm.Cond.instanceMethod ({ cls := "MemoryCourt", name := "pageOf", desc := "(II)I" } : Jvm.MethodName)) ∈ lw_tbl := List.mem_of_getElem? (i := 866) (by decide +kernel)
theorem tm_867 : (Jvm.Cond.selects "MemoryCourt" ({ cls := "MemoryCourt", name := "pageOf", desc := "(II)I" } : Jvm.MethodName) ({ cls := "MemoryCourt", name := "pageOf", desc := "(II)I" } : Jvm.MethodName)) ∈ lw_tbl := List.mem_of_getElem? (i := 867) (by decide +kernel)
theorem tm_868 : (Jvm.Cond.code ({ cls := "MemoryCourt", name := "pageOf", desc := "(II)I" } : Jvm.MethodName) prog_1_method_12_code (4 : Nat) (Option.some Jvm.ClassFile.FieldType.int)) ∈ lw_tbl := List.mem_of_getElem? (i := 868) (by decide +kernel)
theorem tm_864 : (Jvm.Cond.classLink "MemoryCourtLaw" (25 : Nat) "java/util/NoSuchElementException") ∈ lw_tbl := List.mem_of_getElem? (i := 864) (by decide +kernel)
theorem tm_875 : (Jvm.Cond.castable "java/util/NoSuchElementException" "java/util/NoSuchElementException") ∈ lw_tbl := List.mem_of_getElem? (i := 875) (by decide +kernel)
theorem tm_892 : (Jvm.Cond.methodLink "MemoryCourtLaw" (27 : Nat) ({ cls := "MemoryCourt", name := "pieces", desc := "(I)I" } : Jvm.MethodName)) ∈ lw_tbl := List.mem_of_getElem? (i := 892) (by decide +kernel)
theorem tm_893 : (Jvm.Cond.instanceMethod ({ cls := "MemoryCourt", name := "pieces", desc := "(I)I" } : Jvm.MethodName)) ∈ lw_tbl := List.mem_of_getElem? (i := 893) (by decide +kernel)
theorem tm_894 : (Jvm.Cond.selects "MemoryCourt" ({ cls := "MemoryCourt", name := "pieces", desc := "(I)I" } : Jvm.MethodName) ({ cls := "MemoryCourt", name := "pieces", desc := "(I)I" } : Jvm.MethodName)) ∈ lw_tbl := List.mem_of_getElem? (i := 894) (by decide +kernel)
theorem tm_895 : (Jvm.Cond.code ({ cls := "MemoryCourt", name := "pieces", desc := "(I)I" } : Jvm.MethodName) prog_1_method_13_code (2 : Nat) (Option.some Jvm.ClassFile.FieldType.int)) ∈ lw_tbl := List.mem_of_getElem? (i := 895) (by decide +kernel)
theorem tm_903 : (Jvm.Cond.methodLink "MemoryCourtLaw" (30 : Nat) ({ cls := "MemoryCourt", name := "claim", desc := "(II)I" } : Jvm.MethodName)) ∈ lw_tbl := List.mem_of_getElem? (i := 903) (by decide +kernel)
theorem tm_904 : (Jvm.Cond.instanceMethod ({ cls := "MemoryCourt", name := "claim", desc := "(II)I" } : Jvm.MethodName)) ∈ lw_tbl := List.mem_of_getElem? (i := 904) (by decide +kernel)
theorem tm_905 : (Jvm.Cond.selects "MemoryCourt" ({ cls := "MemoryCourt", name := "claim", desc := "(II)I" } : Jvm.MethodName) ({ cls := "MemoryCourt", name := "claim", desc := "(II)I" } : Jvm.MethodName)) ∈ lw_tbl := List.mem_of_getElem? (i := 905) (by decide +kernel)
theorem tm_906 : (Jvm.Cond.code ({ cls := "MemoryCourt", name := "claim", desc := "(II)I" } : Jvm.MethodName) prog_1_method_15_code (3 : Nat) (Option.some Jvm.ClassFile.FieldType.int)) ∈ lw_tbl := List.mem_of_getElem? (i := 906) (by decide +kernel)
theorem tm_916 : (Jvm.Cond.methodLink "MemoryCourtLaw" (33 : Nat) ({ cls := "MemoryCourt", name := "waiting", desc := "(I)I" } : Jvm.MethodName)) ∈ lw_tbl := List.mem_of_getElem? (i := 916) (by decide +kernel)
theorem tm_917 : (Jvm.Cond.instanceMethod ({ cls := "MemoryCourt", name := "waiting", desc := "(I)I" } : Jvm.MethodName)) ∈ lw_tbl := List.mem_of_getElem? (i := 917) (by decide +kernel)
theorem tm_918 : (Jvm.Cond.selects "MemoryCourt" ({ cls := "MemoryCourt", name := "waiting", desc := "(I)I" } : Jvm.MethodName) ({ cls := "MemoryCourt", name := "waiting", desc := "(I)I" } : Jvm.MethodName)) ∈ lw_tbl := List.mem_of_getElem? (i := 918) (by decide +kernel)
theorem tm_919 : (Jvm.Cond.code ({ cls := "MemoryCourt", name := "waiting", desc := "(I)I" } : Jvm.MethodName) prog_1_method_16_code (3 : Nat) (Option.some Jvm.ClassFile.FieldType.int)) ∈ lw_tbl := List.mem_of_getElem? (i := 919) (by decide +kernel)
theorem tm_937 : (Jvm.Cond.methodLink "MemoryCourtLaw" (36 : Nat) ({ cls := "MemoryCourt", name := "fine", desc := "(II)I" } : Jvm.MethodName)) ∈ lw_tbl := List.mem_of_getElem? (i := 937) (by decide +kernel)
theorem tm_938 : (Jvm.Cond.instanceMethod ({ cls := "MemoryCourt", name := "fine", desc := "(II)I" } : Jvm.MethodName)) ∈ lw_tbl := List.mem_of_getElem? (i := 938) (by decide +kernel)
theorem tm_939 : (Jvm.Cond.selects "MemoryCourt" ({ cls := "MemoryCourt", name := "fine", desc := "(II)I" } : Jvm.MethodName) ({ cls := "MemoryCourt", name := "fine", desc := "(II)I" } : Jvm.MethodName)) ∈ lw_tbl := List.mem_of_getElem? (i := 939) (by decide +kernel)
theorem tm_940 : (Jvm.Cond.code ({ cls := "MemoryCourt", name := "fine", desc := "(II)I" } : Jvm.MethodName) prog_1_method_17_code (3 : Nat) (Option.some Jvm.ClassFile.FieldType.int)) ∈ lw_tbl := List.mem_of_getElem? (i := 940) (by decide +kernel)
theorem tm_936 : (Jvm.Cond.classLink "MemoryCourtLaw" (39 : Nat) "java/lang/IllegalArgumentException") ∈ lw_tbl := List.mem_of_getElem? (i := 936) (by decide +kernel)
theorem tm_943 : (Jvm.Cond.castable "java/lang/IllegalArgumentException" "java/lang/IllegalArgumentException") ∈ lw_tbl := List.mem_of_getElem? (i := 943) (by decide +kernel)
theorem tm_973 : (Jvm.Cond.methodLink "MemoryCourtLaw" (41 : Nat) ({ cls := "MemoryCourt", name := "evidence", desc := "(I)I" } : Jvm.MethodName)) ∈ lw_tbl := List.mem_of_getElem? (i := 973) (by decide +kernel)
theorem tm_974 : (Jvm.Cond.instanceMethod ({ cls := "MemoryCourt", name := "evidence", desc := "(I)I" } : Jvm.MethodName)) ∈ lw_tbl := List.mem_of_getElem? (i := 974) (by decide +kernel)
theorem tm_975 : (Jvm.Cond.selects "MemoryCourt" ({ cls := "MemoryCourt", name := "evidence", desc := "(I)I" } : Jvm.MethodName) ({ cls := "MemoryCourt", name := "evidence", desc := "(I)I" } : Jvm.MethodName)) ∈ lw_tbl := List.mem_of_getElem? (i := 975) (by decide +kernel)
theorem tm_976 : (Jvm.Cond.code ({ cls := "MemoryCourt", name := "evidence", desc := "(I)I" } : Jvm.MethodName) prog_1_method_18_code (2 : Nat) (Option.some Jvm.ClassFile.FieldType.int)) ∈ lw_tbl := List.mem_of_getElem? (i := 976) (by decide +kernel)
theorem tm_989 : (Jvm.Cond.methodLink "MemoryCourtLaw" (44 : Nat) ({ cls := "MemoryCourt", name := "wasStalled", desc := "(II)Z" } : Jvm.MethodName)) ∈ lw_tbl := List.mem_of_getElem? (i := 989) (by decide +kernel)
theorem tm_990 : (Jvm.Cond.instanceMethod ({ cls := "MemoryCourt", name := "wasStalled", desc := "(II)Z" } : Jvm.MethodName)) ∈ lw_tbl := List.mem_of_getElem? (i := 990) (by decide +kernel)
theorem tm_991 : (Jvm.Cond.selects "MemoryCourt" ({ cls := "MemoryCourt", name := "wasStalled", desc := "(II)Z" } : Jvm.MethodName) ({ cls := "MemoryCourt", name := "wasStalled", desc := "(II)Z" } : Jvm.MethodName)) ∈ lw_tbl := List.mem_of_getElem? (i := 991) (by decide +kernel)
theorem tm_992 : (Jvm.Cond.code ({ cls := "MemoryCourt", name := "wasStalled", desc := "(II)Z" } : Jvm.MethodName) prog_1_method_19_code (3 : Nat) (Option.some Jvm.ClassFile.FieldType.boolean)) ∈ lw_tbl := List.mem_of_getElem? (i := 992) (by decide +kernel)
theorem tm_998 : (Jvm.Cond.methodLink "MemoryCourtLaw" (48 : Nat) ({ cls := "MemoryCourt", name := "run", desc := "(I)I" } : Jvm.MethodName)) ∈ lw_tbl := List.mem_of_getElem? (i := 998) (by decide +kernel)
theorem tm_999 : (Jvm.Cond.instanceMethod ({ cls := "MemoryCourt", name := "run", desc := "(I)I" } : Jvm.MethodName)) ∈ lw_tbl := List.mem_of_getElem? (i := 999) (by decide +kernel)
theorem tm_1000 : (Jvm.Cond.selects "MemoryCourt" ({ cls := "MemoryCourt", name := "run", desc := "(I)I" } : Jvm.MethodName) ({ cls := "MemoryCourt", name := "run", desc := "(I)I" } : Jvm.MethodName)) ∈ lw_tbl := List.mem_of_getElem? (i := 1000) (by decide +kernel)
theorem tm_1001 : (Jvm.Cond.code ({ cls := "MemoryCourt", name := "run", desc := "(I)I" } : Jvm.MethodName) prog_1_method_27_code (4 : Nat) (Option.some Jvm.ClassFile.FieldType.int)) ∈ lw_tbl := List.mem_of_getElem? (i := 1001) (by decide +kernel)
theorem tm_997 : (Jvm.Cond.classLink "MemoryCourtLaw" (51 : Nat) "java/lang/IllegalStateException") ∈ lw_tbl := List.mem_of_getElem? (i := 997) (by decide +kernel)
theorem tm_1009 : (Jvm.Cond.castable "java/lang/IllegalStateException" "java/lang/IllegalStateException") ∈ lw_tbl := List.mem_of_getElem? (i := 1009) (by decide +kernel)
theorem tm_1093 : (Jvm.Cond.methodLink "MemoryCourtLaw" (53 : Nat) ({ cls := "MemoryCourt", name := "ask", desc := "(III)I" } : Jvm.MethodName)) ∈ lw_tbl := List.mem_of_getElem? (i := 1093) (by decide +kernel)
theorem tm_1094 : (Jvm.Cond.instanceMethod ({ cls := "MemoryCourt", name := "ask", desc := "(III)I" } : Jvm.MethodName)) ∈ lw_tbl := List.mem_of_getElem? (i := 1094) (by decide +kernel)
theorem tm_1095 : (Jvm.Cond.selects "MemoryCourt" ({ cls := "MemoryCourt", name := "ask", desc := "(III)I" } : Jvm.MethodName) ({ cls := "MemoryCourt", name := "ask", desc := "(III)I" } : Jvm.MethodName)) ∈ lw_tbl := List.mem_of_getElem? (i := 1095) (by decide +kernel)
theorem tm_1096 : (Jvm.Cond.code ({ cls := "MemoryCourt", name := "ask", desc := "(III)I" } : Jvm.MethodName) prog_1_method_28_code (4 : Nat) (Option.some Jvm.ClassFile.FieldType.int)) ∈ lw_tbl := List.mem_of_getElem? (i := 1096) (by decide +kernel)
theorem tm_1103 : (Jvm.Cond.methodLink "MemoryCourtLaw" (57 : Nat) ({ cls := "MemoryCourt", name := "withdraw", desc := "(I)I" } : Jvm.MethodName)) ∈ lw_tbl := List.mem_of_getElem? (i := 1103) (by decide +kernel)
theorem tm_1104 : (Jvm.Cond.instanceMethod ({ cls := "MemoryCourt", name := "withdraw", desc := "(I)I" } : Jvm.MethodName)) ∈ lw_tbl := List.mem_of_getElem? (i := 1104) (by decide +kernel)
theorem tm_1105 : (Jvm.Cond.selects "MemoryCourt" ({ cls := "MemoryCourt", name := "withdraw", desc := "(I)I" } : Jvm.MethodName) ({ cls := "MemoryCourt", name := "withdraw", desc := "(I)I" } : Jvm.MethodName)) ∈ lw_tbl := List.mem_of_getElem? (i := 1105) (by decide +kernel)
theorem tm_1106 : (Jvm.Cond.code ({ cls := "MemoryCourt", name := "withdraw", desc := "(I)I" } : Jvm.MethodName) prog_1_method_29_code (2 : Nat) (Option.some Jvm.ClassFile.FieldType.int)) ∈ lw_tbl := List.mem_of_getElem? (i := 1106) (by decide +kernel)
theorem tm_1113 : (Jvm.Cond.methodLink "MemoryCourtLaw" (60 : Nat) ({ cls := "MemoryCourt", name := "giveBack", desc := "(II)I" } : Jvm.MethodName)) ∈ lw_tbl := List.mem_of_getElem? (i := 1113) (by decide +kernel)
theorem tm_1114 : (Jvm.Cond.instanceMethod ({ cls := "MemoryCourt", name := "giveBack", desc := "(II)I" } : Jvm.MethodName)) ∈ lw_tbl := List.mem_of_getElem? (i := 1114) (by decide +kernel)
theorem tm_1115 : (Jvm.Cond.selects "MemoryCourt" ({ cls := "MemoryCourt", name := "giveBack", desc := "(II)I" } : Jvm.MethodName) ({ cls := "MemoryCourt", name := "giveBack", desc := "(II)I" } : Jvm.MethodName)) ∈ lw_tbl := List.mem_of_getElem? (i := 1115) (by decide +kernel)
theorem tm_1116 : (Jvm.Cond.code ({ cls := "MemoryCourt", name := "giveBack", desc := "(II)I" } : Jvm.MethodName) prog_1_method_30_code (3 : Nat) (Option.some Jvm.ClassFile.FieldType.int)) ∈ lw_tbl := List.mem_of_getElem? (i := 1116) (by decide +kernel)
theorem tm_1122 : (Jvm.Cond.methodLink "MemoryCourtLaw" (63 : Nat) ({ cls := "MemoryCourt", name := "renew", desc := "(II)I" } : Jvm.MethodName)) ∈ lw_tbl := List.mem_of_getElem? (i := 1122) (by decide +kernel)
theorem tm_1123 : (Jvm.Cond.instanceMethod ({ cls := "MemoryCourt", name := "renew", desc := "(II)I" } : Jvm.MethodName)) ∈ lw_tbl := List.mem_of_getElem? (i := 1123) (by decide +kernel)
theorem tm_1124 : (Jvm.Cond.selects "MemoryCourt" ({ cls := "MemoryCourt", name := "renew", desc := "(II)I" } : Jvm.MethodName) ({ cls := "MemoryCourt", name := "renew", desc := "(II)I" } : Jvm.MethodName)) ∈ lw_tbl := List.mem_of_getElem? (i := 1124) (by decide +kernel)
theorem tm_1125 : (Jvm.Cond.code ({ cls := "MemoryCourt", name := "renew", desc := "(II)I" } : Jvm.MethodName) prog_1_method_31_code (3 : Nat) (Option.some Jvm.ClassFile.FieldType.int)) ∈ lw_tbl := List.mem_of_getElem? (i := 1125) (by decide +kernel)
theorem tm_1136 : (Jvm.Cond.methodLink "MemoryCourtLaw" (66 : Nat) ({ cls := "MemoryCourt", name := "stall", desc := "(II)I" } : Jvm.MethodName)) ∈ lw_tbl := List.mem_of_getElem? (i := 1136) (by decide +kernel)
theorem tm_1137 : (Jvm.Cond.instanceMethod ({ cls := "MemoryCourt", name := "stall", desc := "(II)I" } : Jvm.MethodName)) ∈ lw_tbl := List.mem_of_getElem? (i := 1137) (by decide +kernel)
theorem tm_1138 : (Jvm.Cond.selects "MemoryCourt" ({ cls := "MemoryCourt", name := "stall", desc := "(II)I" } : Jvm.MethodName) ({ cls := "MemoryCourt", name := "stall", desc := "(II)I" } : Jvm.MethodName)) ∈ lw_tbl := List.mem_of_getElem? (i := 1138) (by decide +kernel)
theorem tm_1139 : (Jvm.Cond.code ({ cls := "MemoryCourt", name := "stall", desc := "(II)I" } : Jvm.MethodName) prog_1_method_32_code (4 : Nat) (Option.some Jvm.ClassFile.FieldType.int)) ∈ lw_tbl := List.mem_of_getElem? (i := 1139) (by decide +kernel)
theorem tm_1143 : (Jvm.Cond.methodLink "MemoryCourtLaw" (69 : Nat) ({ cls := "MemoryCourt", name := "appeal", desc := "(I)I" } : Jvm.MethodName)) ∈ lw_tbl := List.mem_of_getElem? (i := 1143) (by decide +kernel)
theorem tm_1144 : (Jvm.Cond.instanceMethod ({ cls := "MemoryCourt", name := "appeal", desc := "(I)I" } : Jvm.MethodName)) ∈ lw_tbl := List.mem_of_getElem? (i := 1144) (by decide +kernel)
theorem tm_1145 : (Jvm.Cond.selects "MemoryCourt" ({ cls := "MemoryCourt", name := "appeal", desc := "(I)I" } : Jvm.MethodName) ({ cls := "MemoryCourt", name := "appeal", desc := "(I)I" } : Jvm.MethodName)) ∈ lw_tbl := List.mem_of_getElem? (i := 1145) (by decide +kernel)
theorem tm_1146 : (Jvm.Cond.code ({ cls := "MemoryCourt", name := "appeal", desc := "(I)I" } : Jvm.MethodName) prog_1_method_33_code (2 : Nat) (Option.some Jvm.ClassFile.FieldType.int)) ∈ lw_tbl := List.mem_of_getElem? (i := 1146) (by decide +kernel)
theorem tm_1163 : (Jvm.Cond.methodLink "MemoryCourtLaw" (72 : Nat) ({ cls := "MemoryCourt", name := "setOrder", desc := "(I)I" } : Jvm.MethodName)) ∈ lw_tbl := List.mem_of_getElem? (i := 1163) (by decide +kernel)
theorem tm_1164 : (Jvm.Cond.instanceMethod ({ cls := "MemoryCourt", name := "setOrder", desc := "(I)I" } : Jvm.MethodName)) ∈ lw_tbl := List.mem_of_getElem? (i := 1164) (by decide +kernel)
theorem tm_1165 : (Jvm.Cond.selects "MemoryCourt" ({ cls := "MemoryCourt", name := "setOrder", desc := "(I)I" } : Jvm.MethodName) ({ cls := "MemoryCourt", name := "setOrder", desc := "(I)I" } : Jvm.MethodName)) ∈ lw_tbl := List.mem_of_getElem? (i := 1165) (by decide +kernel)
theorem tm_1166 : (Jvm.Cond.code ({ cls := "MemoryCourt", name := "setOrder", desc := "(I)I" } : Jvm.MethodName) prog_1_method_34_code (3 : Nat) (Option.some Jvm.ClassFile.FieldType.int)) ∈ lw_tbl := List.mem_of_getElem? (i := 1166) (by decide +kernel)
theorem tm_1171 : (Jvm.Cond.methodLink "MemoryCourtLaw" (75 : Nat) ({ cls := "MemoryCourt", name := "undo", desc := "()I" } : Jvm.MethodName)) ∈ lw_tbl := List.mem_of_getElem? (i := 1171) (by decide +kernel)
theorem tm_1172 : (Jvm.Cond.instanceMethod ({ cls := "MemoryCourt", name := "undo", desc := "()I" } : Jvm.MethodName)) ∈ lw_tbl := List.mem_of_getElem? (i := 1172) (by decide +kernel)
theorem tm_1173 : (Jvm.Cond.selects "MemoryCourt" ({ cls := "MemoryCourt", name := "undo", desc := "()I" } : Jvm.MethodName) ({ cls := "MemoryCourt", name := "undo", desc := "()I" } : Jvm.MethodName)) ∈ lw_tbl := List.mem_of_getElem? (i := 1173) (by decide +kernel)
theorem tm_1174 : (Jvm.Cond.code ({ cls := "MemoryCourt", name := "undo", desc := "()I" } : Jvm.MethodName) prog_1_method_35_code (1 : Nat) (Option.some Jvm.ClassFile.FieldType.int)) ∈ lw_tbl := List.mem_of_getElem? (i := 1174) (by decide +kernel)
theorem tm_1183 : (Jvm.Cond.methodLink "MemoryCourtLaw" (79 : Nat) ({ cls := "MemoryCourt", name := "metIn", desc := "(II)I" } : Jvm.MethodName)) ∈ lw_tbl := List.mem_of_getElem? (i := 1183) (by decide +kernel)
theorem tm_1184 : (Jvm.Cond.instanceMethod ({ cls := "MemoryCourt", name := "metIn", desc := "(II)I" } : Jvm.MethodName)) ∈ lw_tbl := List.mem_of_getElem? (i := 1184) (by decide +kernel)
theorem tm_1185 : (Jvm.Cond.selects "MemoryCourt" ({ cls := "MemoryCourt", name := "metIn", desc := "(II)I" } : Jvm.MethodName) ({ cls := "MemoryCourt", name := "metIn", desc := "(II)I" } : Jvm.MethodName)) ∈ lw_tbl := List.mem_of_getElem? (i := 1185) (by decide +kernel)
theorem tm_1186 : (Jvm.Cond.code ({ cls := "MemoryCourt", name := "metIn", desc := "(II)I" } : Jvm.MethodName) prog_1_method_36_code (3 : Nat) (Option.some Jvm.ClassFile.FieldType.int)) ∈ lw_tbl := List.mem_of_getElem? (i := 1186) (by decide +kernel)
theorem tm_1195 : (Jvm.Cond.methodLink "MemoryCourtLaw" (82 : Nat) ({ cls := "MemoryCourt", name := "refusedIn", desc := "(II)I" } : Jvm.MethodName)) ∈ lw_tbl := List.mem_of_getElem? (i := 1195) (by decide +kernel)
theorem tm_1196 : (Jvm.Cond.instanceMethod ({ cls := "MemoryCourt", name := "refusedIn", desc := "(II)I" } : Jvm.MethodName)) ∈ lw_tbl := List.mem_of_getElem? (i := 1196) (by decide +kernel)
theorem tm_1197 : (Jvm.Cond.selects "MemoryCourt" ({ cls := "MemoryCourt", name := "refusedIn", desc := "(II)I" } : Jvm.MethodName) ({ cls := "MemoryCourt", name := "refusedIn", desc := "(II)I" } : Jvm.MethodName)) ∈ lw_tbl := List.mem_of_getElem? (i := 1197) (by decide +kernel)
theorem tm_1198 : (Jvm.Cond.code ({ cls := "MemoryCourt", name := "refusedIn", desc := "(II)I" } : Jvm.MethodName) prog_1_method_37_code (3 : Nat) (Option.some Jvm.ClassFile.FieldType.int)) ∈ lw_tbl := List.mem_of_getElem? (i := 1198) (by decide +kernel)
theorem tm_1202 : (Jvm.Cond.methodLink "MemoryCourtLaw" (85 : Nat) ({ cls := "MemoryCourt", name := "wouldFine", desc := "(I)I" } : Jvm.MethodName)) ∈ lw_tbl := List.mem_of_getElem? (i := 1202) (by decide +kernel)
theorem tm_1203 : (Jvm.Cond.instanceMethod ({ cls := "MemoryCourt", name := "wouldFine", desc := "(I)I" } : Jvm.MethodName)) ∈ lw_tbl := List.mem_of_getElem? (i := 1203) (by decide +kernel)
theorem tm_1204 : (Jvm.Cond.selects "MemoryCourt" ({ cls := "MemoryCourt", name := "wouldFine", desc := "(I)I" } : Jvm.MethodName) ({ cls := "MemoryCourt", name := "wouldFine", desc := "(I)I" } : Jvm.MethodName)) ∈ lw_tbl := List.mem_of_getElem? (i := 1204) (by decide +kernel)
theorem tm_1205 : (Jvm.Cond.code ({ cls := "MemoryCourt", name := "wouldFine", desc := "(I)I" } : Jvm.MethodName) prog_1_method_38_code (2 : Nat) (Option.some Jvm.ClassFile.FieldType.int)) ∈ lw_tbl := List.mem_of_getElem? (i := 1205) (by decide +kernel)
theorem tm_1214 : (Jvm.Cond.methodLink "MemoryCourtLaw" (88 : Nat) ({ cls := "MemoryCourt", name := "wouldPay", desc := "(I)I" } : Jvm.MethodName)) ∈ lw_tbl := List.mem_of_getElem? (i := 1214) (by decide +kernel)
theorem tm_1215 : (Jvm.Cond.instanceMethod ({ cls := "MemoryCourt", name := "wouldPay", desc := "(I)I" } : Jvm.MethodName)) ∈ lw_tbl := List.mem_of_getElem? (i := 1215) (by decide +kernel)
theorem tm_1216 : (Jvm.Cond.selects "MemoryCourt" ({ cls := "MemoryCourt", name := "wouldPay", desc := "(I)I" } : Jvm.MethodName) ({ cls := "MemoryCourt", name := "wouldPay", desc := "(I)I" } : Jvm.MethodName)) ∈ lw_tbl := List.mem_of_getElem? (i := 1216) (by decide +kernel)
theorem tm_1217 : (Jvm.Cond.code ({ cls := "MemoryCourt", name := "wouldPay", desc := "(I)I" } : Jvm.MethodName) prog_1_method_39_code (2 : Nat) (Option.some Jvm.ClassFile.FieldType.int)) ∈ lw_tbl := List.mem_of_getElem? (i := 1217) (by decide +kernel)
theorem tm_1225 : (Jvm.Cond.methodLink "MemoryCourtLaw" (91 : Nat) ({ cls := "MemoryCourt", name := "freeIn", desc := "(I)I" } : Jvm.MethodName)) ∈ lw_tbl := List.mem_of_getElem? (i := 1225) (by decide +kernel)
theorem tm_1226 : (Jvm.Cond.instanceMethod ({ cls := "MemoryCourt", name := "freeIn", desc := "(I)I" } : Jvm.MethodName)) ∈ lw_tbl := List.mem_of_getElem? (i := 1226) (by decide +kernel)
theorem tm_1227 : (Jvm.Cond.selects "MemoryCourt" ({ cls := "MemoryCourt", name := "freeIn", desc := "(I)I" } : Jvm.MethodName) ({ cls := "MemoryCourt", name := "freeIn", desc := "(I)I" } : Jvm.MethodName)) ∈ lw_tbl := List.mem_of_getElem? (i := 1227) (by decide +kernel)
theorem tm_1228 : (Jvm.Cond.code ({ cls := "MemoryCourt", name := "freeIn", desc := "(I)I" } : Jvm.MethodName) prog_1_method_40_code (2 : Nat) (Option.some Jvm.ClassFile.FieldType.int)) ∈ lw_tbl := List.mem_of_getElem? (i := 1228) (by decide +kernel)
theorem tm_1236 : (Jvm.Cond.methodLink "MemoryCourtLaw" (94 : Nat) ({ cls := "MemoryCourt", name := "processIn", desc := "(III)I" } : Jvm.MethodName)) ∈ lw_tbl := List.mem_of_getElem? (i := 1236) (by decide +kernel)
theorem tm_1237 : (Jvm.Cond.instanceMethod ({ cls := "MemoryCourt", name := "processIn", desc := "(III)I" } : Jvm.MethodName)) ∈ lw_tbl := List.mem_of_getElem? (i := 1237) (by decide +kernel)
theorem tm_1238 : (Jvm.Cond.selects "MemoryCourt" ({ cls := "MemoryCourt", name := "processIn", desc := "(III)I" } : Jvm.MethodName) ({ cls := "MemoryCourt", name := "processIn", desc := "(III)I" } : Jvm.MethodName)) ∈ lw_tbl := List.mem_of_getElem? (i := 1238) (by decide +kernel)
theorem tm_1239 : (Jvm.Cond.code ({ cls := "MemoryCourt", name := "processIn", desc := "(III)I" } : Jvm.MethodName) prog_1_method_41_code (4 : Nat) (Option.some Jvm.ClassFile.FieldType.int)) ∈ lw_tbl := List.mem_of_getElem? (i := 1239) (by decide +kernel)
theorem tm_1244 : (Jvm.Cond.methodLink "MemoryCourtLaw" (97 : Nat) ({ cls := "MemoryCourt", name := "bestOrder", desc := "(I)I" } : Jvm.MethodName)) ∈ lw_tbl := List.mem_of_getElem? (i := 1244) (by decide +kernel)
theorem tm_1245 : (Jvm.Cond.instanceMethod ({ cls := "MemoryCourt", name := "bestOrder", desc := "(I)I" } : Jvm.MethodName)) ∈ lw_tbl := List.mem_of_getElem? (i := 1245) (by decide +kernel)
theorem tm_1246 : (Jvm.Cond.selects "MemoryCourt" ({ cls := "MemoryCourt", name := "bestOrder", desc := "(I)I" } : Jvm.MethodName) ({ cls := "MemoryCourt", name := "bestOrder", desc := "(I)I" } : Jvm.MethodName)) ∈ lw_tbl := List.mem_of_getElem? (i := 1246) (by decide +kernel)
theorem tm_1247 : (Jvm.Cond.code ({ cls := "MemoryCourt", name := "bestOrder", desc := "(I)I" } : Jvm.MethodName) prog_1_method_42_code (6 : Nat) (Option.some Jvm.ClassFile.FieldType.int)) ∈ lw_tbl := List.mem_of_getElem? (i := 1247) (by decide +kernel)
theorem tm_1251 : (Jvm.Cond.methodLink "MemoryCourtLaw" (100 : Nat) ({ cls := "MemoryCourt", name := "helps", desc := "(II)I" } : Jvm.MethodName)) ∈ lw_tbl := List.mem_of_getElem? (i := 1251) (by decide +kernel)
theorem tm_1252 : (Jvm.Cond.instanceMethod ({ cls := "MemoryCourt", name := "helps", desc := "(II)I" } : Jvm.MethodName)) ∈ lw_tbl := List.mem_of_getElem? (i := 1252) (by decide +kernel)
theorem tm_1253 : (Jvm.Cond.selects "MemoryCourt" ({ cls := "MemoryCourt", name := "helps", desc := "(II)I" } : Jvm.MethodName) ({ cls := "MemoryCourt", name := "helps", desc := "(II)I" } : Jvm.MethodName)) ∈ lw_tbl := List.mem_of_getElem? (i := 1253) (by decide +kernel)
theorem tm_1254 : (Jvm.Cond.code ({ cls := "MemoryCourt", name := "helps", desc := "(II)I" } : Jvm.MethodName) prog_1_method_43_code (5 : Nat) (Option.some Jvm.ClassFile.FieldType.int)) ∈ lw_tbl := List.mem_of_getElem? (i := 1254) (by decide +kernel)
theorem tm_1258 : (Jvm.Cond.methodLink "MemoryCourtLaw" (103 : Nat) ({ cls := "MemoryCourt", name := "wouldAppeal", desc := "(I)I" } : Jvm.MethodName)) ∈ lw_tbl := List.mem_of_getElem? (i := 1258) (by decide +kernel)
theorem tm_1259 : (Jvm.Cond.instanceMethod ({ cls := "MemoryCourt", name := "wouldAppeal", desc := "(I)I" } : Jvm.MethodName)) ∈ lw_tbl := List.mem_of_getElem? (i := 1259) (by decide +kernel)
theorem tm_1260 : (Jvm.Cond.selects "MemoryCourt" ({ cls := "MemoryCourt", name := "wouldAppeal", desc := "(I)I" } : Jvm.MethodName) ({ cls := "MemoryCourt", name := "wouldAppeal", desc := "(I)I" } : Jvm.MethodName)) ∈ lw_tbl := List.mem_of_getElem? (i := 1260) (by decide +kernel)
theorem tm_1261 : (Jvm.Cond.code ({ cls := "MemoryCourt", name := "wouldAppeal", desc := "(I)I" } : Jvm.MethodName) prog_1_method_44_code (2 : Nat) (Option.some Jvm.ClassFile.FieldType.int)) ∈ lw_tbl := List.mem_of_getElem? (i := 1261) (by decide +kernel)
theorem tm_1266 : (Jvm.Cond.methodLink "MemoryCourtLaw" (106 : Nat) ({ cls := "MemoryCourt", name := "printProcess", desc := "(I)I" } : Jvm.MethodName)) ∈ lw_tbl := List.mem_of_getElem? (i := 1266) (by decide +kernel)
theorem tm_1267 : (Jvm.Cond.instanceMethod ({ cls := "MemoryCourt", name := "printProcess", desc := "(I)I" } : Jvm.MethodName)) ∈ lw_tbl := List.mem_of_getElem? (i := 1267) (by decide +kernel)
theorem tm_1268 : (Jvm.Cond.selects "MemoryCourt" ({ cls := "MemoryCourt", name := "printProcess", desc := "(I)I" } : Jvm.MethodName) ({ cls := "MemoryCourt", name := "printProcess", desc := "(I)I" } : Jvm.MethodName)) ∈ lw_tbl := List.mem_of_getElem? (i := 1268) (by decide +kernel)
theorem tm_1269 : (Jvm.Cond.code ({ cls := "MemoryCourt", name := "printProcess", desc := "(I)I" } : Jvm.MethodName) prog_1_method_45_code (2 : Nat) (Option.some Jvm.ClassFile.FieldType.int)) ∈ lw_tbl := List.mem_of_getElem? (i := 1269) (by decide +kernel)
theorem vl_L_7 : VL RL 7 RX8 yX8_process cX8_process 3 (some .int) 2 := ⟨⟨tm_753, tm_754, tm_755, tm_108, tm_756⟩, by decide +kernel⟩
theorem vl_L_15 : VL RL 15 RX8 yX8_loan cX8_loan 3 (some .int) 2 := ⟨⟨tm_838, tm_839, tm_840, tm_108, tm_841⟩, by decide +kernel⟩
theorem vl_L_18 : VL RL 18 RX8 yX8_page cX8_page 2 (some .int) 1 := ⟨⟨tm_852, tm_853, tm_854, tm_108, tm_855⟩, by decide +kernel⟩
theorem vl_L_22 : VL RL 22 RX8 yX8_pageOf cX8_pageOf 4 (some .int) 2 := ⟨⟨tm_865, tm_866, tm_867, tm_108, tm_868⟩, by decide +kernel⟩
theorem vl_L_27 : VL RL 27 RX8 yX8_pieces cX8_pieces 2 (some .int) 1 := ⟨⟨tm_892, tm_893, tm_894, tm_108, tm_895⟩, by decide +kernel⟩
theorem vl_L_30 : VL RL 30 RX8 yX8_claim cX8_claim 3 (some .int) 2 := ⟨⟨tm_903, tm_904, tm_905, tm_108, tm_906⟩, by decide +kernel⟩
theorem vl_L_33 : VL RL 33 RX8 yX8_waiting cX8_waiting 3 (some .int) 1 := ⟨⟨tm_916, tm_917, tm_918, tm_108, tm_919⟩, by decide +kernel⟩
theorem vl_L_36 : VL RL 36 RX8 yX8_fine cX8_fine 3 (some .int) 2 := ⟨⟨tm_937, tm_938, tm_939, tm_108, tm_940⟩, by decide +kernel⟩
theorem vl_L_41 : VL RL 41 RX8 yX8_evidence cX8_evidence 2 (some .int) 1 := ⟨⟨tm_973, tm_974, tm_975, tm_108, tm_976⟩, by decide +kernel⟩
theorem vl_L_44 : VL RL 44 RX8 yX8_wasStalled cX8_wasStalled 3 (some .boolean) 2 := ⟨⟨tm_989, tm_990, tm_991, tm_108, tm_992⟩, by decide +kernel⟩
theorem vl_L_48 : VL RL 48 RX8 yX8_run cX8_run 4 (some .int) 1 := ⟨⟨tm_998, tm_999, tm_1000, tm_108, tm_1001⟩, by decide +kernel⟩
theorem vl_L_53 : VL RL 53 RX8 yX8_ask cX8_ask 4 (some .int) 3 := ⟨⟨tm_1093, tm_1094, tm_1095, tm_108, tm_1096⟩, by decide +kernel⟩
theorem vl_L_57 : VL RL 57 RX8 yX8_withdraw cX8_withdraw 2 (some .int) 1 := ⟨⟨tm_1103, tm_1104, tm_1105, tm_108, tm_1106⟩, by decide +kernel⟩
theorem vl_L_60 : VL RL 60 RX8 yX8_giveBack cX8_giveBack 3 (some .int) 2 := ⟨⟨tm_1113, tm_1114, tm_1115, tm_108, tm_1116⟩, by decide +kernel⟩
theorem vl_L_63 : VL RL 63 RX8 yX8_renew cX8_renew 3 (some .int) 2 := ⟨⟨tm_1122, tm_1123, tm_1124, tm_108, tm_1125⟩, by decide +kernel⟩
theorem vl_L_66 : VL RL 66 RX8 yX8_stall cX8_stall 4 (some .int) 2 := ⟨⟨tm_1136, tm_1137, tm_1138, tm_108, tm_1139⟩, by decide +kernel⟩
theorem vl_L_69 : VL RL 69 RX8 yX8_appeal cX8_appeal 2 (some .int) 1 := ⟨⟨tm_1143, tm_1144, tm_1145, tm_108, tm_1146⟩, by decide +kernel⟩
theorem vl_L_72 : VL RL 72 RX8 yX8_setOrder cX8_setOrder 3 (some .int) 1 := ⟨⟨tm_1163, tm_1164, tm_1165, tm_108, tm_1166⟩, by decide +kernel⟩
theorem vl_L_75 : VL RL 75 RX8 yX8_undo cX8_undo 1 (some .int) 0 := ⟨⟨tm_1171, tm_1172, tm_1173, tm_108, tm_1174⟩, by decide +kernel⟩
theorem vl_L_79 : VL RL 79 RX8 yX8_metIn cX8_metIn 3 (some .int) 2 := ⟨⟨tm_1183, tm_1184, tm_1185, tm_108, tm_1186⟩, by decide +kernel⟩
theorem vl_L_82 : VL RL 82 RX8 yX8_refusedIn cX8_refusedIn 3 (some .int) 2 := ⟨⟨tm_1195, tm_1196, tm_1197, tm_108, tm_1198⟩, by decide +kernel⟩
theorem vl_L_85 : VL RL 85 RX8 yX8_wouldFine cX8_wouldFine 2 (some .int) 1 := ⟨⟨tm_1202, tm_1203, tm_1204, tm_108, tm_1205⟩, by decide +kernel⟩
theorem vl_L_88 : VL RL 88 RX8 yX8_wouldPay cX8_wouldPay 2 (some .int) 1 := ⟨⟨tm_1214, tm_1215, tm_1216, tm_108, tm_1217⟩, by decide +kernel⟩
theorem vl_L_91 : VL RL 91 RX8 yX8_freeIn cX8_freeIn 2 (some .int) 1 := ⟨⟨tm_1225, tm_1226, tm_1227, tm_108, tm_1228⟩, by decide +kernel⟩
theorem vl_L_94 : VL RL 94 RX8 yX8_processIn cX8_processIn 4 (some .int) 3 := ⟨⟨tm_1236, tm_1237, tm_1238, tm_108, tm_1239⟩, by decide +kernel⟩
theorem vl_L_97 : VL RL 97 RX8 yX8_bestOrder cX8_bestOrder 6 (some .int) 1 := ⟨⟨tm_1244, tm_1245, tm_1246, tm_108, tm_1247⟩, by decide +kernel⟩
theorem vl_L_100 : VL RL 100 RX8 yX8_helps cX8_helps 5 (some .int) 2 := ⟨⟨tm_1251, tm_1252, tm_1253, tm_108, tm_1254⟩, by decide +kernel⟩
theorem vl_L_103 : VL RL 103 RX8 yX8_wouldAppeal cX8_wouldAppeal 2 (some .int) 1 := ⟨⟨tm_1258, tm_1259, tm_1260, tm_108, tm_1261⟩, by decide +kernel⟩
theorem vl_L_106 : VL RL 106 RX8 yX8_printProcess cX8_printProcess 2 (some .int) 1 := ⟨⟨tm_1266, tm_1267, tm_1268, tm_108, tm_1269⟩, by decide +kernel⟩
theorem dL_process_0 : decode cL_process 0 = .ok (.aload_n 3, 1) := by decide +kernel
theorem dL_process_1 : decode cL_process 1 = .ok (.iconst 0, 1) := by decide +kernel
theorem dL_process_2 : decode cL_process 2 = .ok (.aload_n 0, 1) := by decide +kernel
theorem dL_process_3 : decode cL_process 3 = .ok (.iload_n 1, 1) := by decide +kernel
theorem dL_process_4 : decode cL_process 4 = .ok (.iload_n 2, 1) := by decide +kernel
theorem dL_process_5 : decode cL_process 5 = .ok (.invokevirtual 7, 3) := by decide +kernel
theorem dL_process_8 : decode cL_process 8 = .ok (.i2l, 1) := by decide +kernel
theorem dL_process_9 : decode cL_process 9 = .ok (.lastore, 1) := by decide +kernel
theorem dL_process_10 : decode cL_process 10 = .ok (.goto 7, 3) := by decide +kernel
theorem dL_process_13 : decode cL_process 13 = .ok (.astore 4, 2) := by decide +kernel
theorem dL_process_15 : decode cL_process 15 = .ok (.iconst 1, 1) := by decide +kernel
theorem dL_process_16 : decode cL_process 16 = .ok (.ireturn, 1) := by decide +kernel
theorem dL_process_17 : decode cL_process 17 = .ok (.iconst 0, 1) := by decide +kernel
theorem dL_process_18 : decode cL_process 18 = .ok (.ireturn, 1) := by decide +kernel
theorem dL_loan_0 : decode cL_loan 0 = .ok (.aload_n 3, 1) := by decide +kernel
theorem dL_loan_1 : decode cL_loan 1 = .ok (.iconst 0, 1) := by decide +kernel
theorem dL_loan_2 : decode cL_loan 2 = .ok (.aload_n 0, 1) := by decide +kernel
theorem dL_loan_3 : decode cL_loan 3 = .ok (.iload_n 1, 1) := by decide +kernel
theorem dL_loan_4 : decode cL_loan 4 = .ok (.iload_n 2, 1) := by decide +kernel
theorem dL_loan_5 : decode cL_loan 5 = .ok (.invokevirtual 15, 3) := by decide +kernel
theorem dL_loan_8 : decode cL_loan 8 = .ok (.i2l, 1) := by decide +kernel
theorem dL_loan_9 : decode cL_loan 9 = .ok (.lastore, 1) := by decide +kernel
theorem dL_loan_10 : decode cL_loan 10 = .ok (.goto 7, 3) := by decide +kernel
theorem dL_loan_13 : decode cL_loan 13 = .ok (.astore 4, 2) := by decide +kernel
theorem dL_loan_15 : decode cL_loan 15 = .ok (.iconst 1, 1) := by decide +kernel
theorem dL_loan_16 : decode cL_loan 16 = .ok (.ireturn, 1) := by decide +kernel
theorem dL_loan_17 : decode cL_loan 17 = .ok (.iconst 0, 1) := by decide +kernel
theorem dL_loan_18 : decode cL_loan 18 = .ok (.ireturn, 1) := by decide +kernel
theorem dL_page_0 : decode cL_page 0 = .ok (.aload_n 2, 1) := by decide +kernel
theorem dL_page_1 : decode cL_page 1 = .ok (.iconst 0, 1) := by decide +kernel
theorem dL_page_2 : decode cL_page 2 = .ok (.aload_n 0, 1) := by decide +kernel
theorem dL_page_3 : decode cL_page 3 = .ok (.iload_n 1, 1) := by decide +kernel
theorem dL_page_4 : decode cL_page 4 = .ok (.invokevirtual 18, 3) := by decide +kernel
theorem dL_page_7 : decode cL_page 7 = .ok (.i2l, 1) := by decide +kernel
theorem dL_page_8 : decode cL_page 8 = .ok (.lastore, 1) := by decide +kernel
theorem dL_page_9 : decode cL_page 9 = .ok (.goto 6, 3) := by decide +kernel
theorem dL_page_12 : decode cL_page 12 = .ok (.astore_n 3, 1) := by decide +kernel
theorem dL_page_13 : decode cL_page 13 = .ok (.iconst 1, 1) := by decide +kernel
theorem dL_page_14 : decode cL_page 14 = .ok (.ireturn, 1) := by decide +kernel
theorem dL_page_15 : decode cL_page 15 = .ok (.iconst 0, 1) := by decide +kernel
theorem dL_page_16 : decode cL_page 16 = .ok (.ireturn, 1) := by decide +kernel
theorem dL_pageOf_0 : decode cL_pageOf 0 = .ok (.aload_n 3, 1) := by decide +kernel
theorem dL_pageOf_1 : decode cL_pageOf 1 = .ok (.iconst 0, 1) := by decide +kernel
theorem dL_pageOf_2 : decode cL_pageOf 2 = .ok (.aload_n 0, 1) := by decide +kernel
theorem dL_pageOf_3 : decode cL_pageOf 3 = .ok (.iload_n 1, 1) := by decide +kernel
theorem dL_pageOf_4 : decode cL_pageOf 4 = .ok (.iload_n 2, 1) := by decide +kernel
theorem dL_pageOf_5 : decode cL_pageOf 5 = .ok (.invokevirtual 22, 3) := by decide +kernel
theorem dL_pageOf_8 : decode cL_pageOf 8 = .ok (.i2l, 1) := by decide +kernel
theorem dL_pageOf_9 : decode cL_pageOf 9 = .ok (.lastore, 1) := by decide +kernel
theorem dL_pageOf_10 : decode cL_pageOf 10 = .ok (.goto 11, 3) := by decide +kernel
theorem dL_pageOf_13 : decode cL_pageOf 13 = .ok (.astore 4, 2) := by decide +kernel
theorem dL_pageOf_15 : decode cL_pageOf 15 = .ok (.iconst 1, 1) := by decide +kernel
theorem dL_pageOf_16 : decode cL_pageOf 16 = .ok (.ireturn, 1) := by decide +kernel
theorem dL_pageOf_17 : decode cL_pageOf 17 = .ok (.astore 4, 2) := by decide +kernel
theorem dL_pageOf_19 : decode cL_pageOf 19 = .ok (.iconst 2, 1) := by decide +kernel
theorem dL_pageOf_20 : decode cL_pageOf 20 = .ok (.ireturn, 1) := by decide +kernel
theorem dL_pageOf_21 : decode cL_pageOf 21 = .ok (.iconst 0, 1) := by decide +kernel
theorem dL_pageOf_22 : decode cL_pageOf 22 = .ok (.ireturn, 1) := by decide +kernel
theorem dL_pieces_0 : decode cL_pieces 0 = .ok (.aload_n 2, 1) := by decide +kernel
theorem dL_pieces_1 : decode cL_pieces 1 = .ok (.iconst 0, 1) := by decide +kernel
theorem dL_pieces_2 : decode cL_pieces 2 = .ok (.aload_n 0, 1) := by decide +kernel
theorem dL_pieces_3 : decode cL_pieces 3 = .ok (.iload_n 1, 1) := by decide +kernel
theorem dL_pieces_4 : decode cL_pieces 4 = .ok (.invokevirtual 27, 3) := by decide +kernel
theorem dL_pieces_7 : decode cL_pieces 7 = .ok (.i2l, 1) := by decide +kernel
theorem dL_pieces_8 : decode cL_pieces 8 = .ok (.lastore, 1) := by decide +kernel
theorem dL_pieces_9 : decode cL_pieces 9 = .ok (.goto 6, 3) := by decide +kernel
theorem dL_pieces_12 : decode cL_pieces 12 = .ok (.astore_n 3, 1) := by decide +kernel
theorem dL_pieces_13 : decode cL_pieces 13 = .ok (.iconst 1, 1) := by decide +kernel
theorem dL_pieces_14 : decode cL_pieces 14 = .ok (.ireturn, 1) := by decide +kernel
theorem dL_pieces_15 : decode cL_pieces 15 = .ok (.iconst 0, 1) := by decide +kernel
theorem dL_pieces_16 : decode cL_pieces 16 = .ok (.ireturn, 1) := by decide +kernel
theorem dL_claim_0 : decode cL_claim 0 = .ok (.aload_n 3, 1) := by decide +kernel
theorem dL_claim_1 : decode cL_claim 1 = .ok (.iconst 0, 1) := by decide +kernel
theorem dL_claim_2 : decode cL_claim 2 = .ok (.aload_n 0, 1) := by decide +kernel
theorem dL_claim_3 : decode cL_claim 3 = .ok (.iload_n 1, 1) := by decide +kernel
theorem dL_claim_4 : decode cL_claim 4 = .ok (.iload_n 2, 1) := by decide +kernel
theorem dL_claim_5 : decode cL_claim 5 = .ok (.invokevirtual 30, 3) := by decide +kernel
theorem dL_claim_8 : decode cL_claim 8 = .ok (.i2l, 1) := by decide +kernel
theorem dL_claim_9 : decode cL_claim 9 = .ok (.lastore, 1) := by decide +kernel
theorem dL_claim_10 : decode cL_claim 10 = .ok (.goto 7, 3) := by decide +kernel
theorem dL_claim_13 : decode cL_claim 13 = .ok (.astore 4, 2) := by decide +kernel
theorem dL_claim_15 : decode cL_claim 15 = .ok (.iconst 1, 1) := by decide +kernel
theorem dL_claim_16 : decode cL_claim 16 = .ok (.ireturn, 1) := by decide +kernel
theorem dL_claim_17 : decode cL_claim 17 = .ok (.iconst 0, 1) := by decide +kernel
theorem dL_claim_18 : decode cL_claim 18 = .ok (.ireturn, 1) := by decide +kernel
theorem dL_waiting_0 : decode cL_waiting 0 = .ok (.aload_n 2, 1) := by decide +kernel
theorem dL_waiting_1 : decode cL_waiting 1 = .ok (.iconst 0, 1) := by decide +kernel
theorem dL_waiting_2 : decode cL_waiting 2 = .ok (.aload_n 0, 1) := by decide +kernel
theorem dL_waiting_3 : decode cL_waiting 3 = .ok (.iload_n 1, 1) := by decide +kernel
theorem dL_waiting_4 : decode cL_waiting 4 = .ok (.invokevirtual 33, 3) := by decide +kernel
theorem dL_waiting_7 : decode cL_waiting 7 = .ok (.i2l, 1) := by decide +kernel
theorem dL_waiting_8 : decode cL_waiting 8 = .ok (.lastore, 1) := by decide +kernel
theorem dL_waiting_9 : decode cL_waiting 9 = .ok (.goto 6, 3) := by decide +kernel
theorem dL_waiting_12 : decode cL_waiting 12 = .ok (.astore_n 3, 1) := by decide +kernel
theorem dL_waiting_13 : decode cL_waiting 13 = .ok (.iconst 1, 1) := by decide +kernel
theorem dL_waiting_14 : decode cL_waiting 14 = .ok (.ireturn, 1) := by decide +kernel
theorem dL_waiting_15 : decode cL_waiting 15 = .ok (.iconst 0, 1) := by decide +kernel
theorem dL_waiting_16 : decode cL_waiting 16 = .ok (.ireturn, 1) := by decide +kernel
theorem dL_fine_0 : decode cL_fine 0 = .ok (.aload_n 3, 1) := by decide +kernel
theorem dL_fine_1 : decode cL_fine 1 = .ok (.iconst 0, 1) := by decide +kernel
theorem dL_fine_2 : decode cL_fine 2 = .ok (.aload_n 0, 1) := by decide +kernel
theorem dL_fine_3 : decode cL_fine 3 = .ok (.iload_n 1, 1) := by decide +kernel
theorem dL_fine_4 : decode cL_fine 4 = .ok (.iload_n 2, 1) := by decide +kernel
theorem dL_fine_5 : decode cL_fine 5 = .ok (.invokevirtual 36, 3) := by decide +kernel
theorem dL_fine_8 : decode cL_fine 8 = .ok (.i2l, 1) := by decide +kernel
theorem dL_fine_9 : decode cL_fine 9 = .ok (.lastore, 1) := by decide +kernel
theorem dL_fine_10 : decode cL_fine 10 = .ok (.goto 11, 3) := by decide +kernel
theorem dL_fine_13 : decode cL_fine 13 = .ok (.astore 4, 2) := by decide +kernel
theorem dL_fine_15 : decode cL_fine 15 = .ok (.iconst 1, 1) := by decide +kernel
theorem dL_fine_16 : decode cL_fine 16 = .ok (.ireturn, 1) := by decide +kernel
theorem dL_fine_17 : decode cL_fine 17 = .ok (.astore 4, 2) := by decide +kernel
theorem dL_fine_19 : decode cL_fine 19 = .ok (.iconst 2, 1) := by decide +kernel
theorem dL_fine_20 : decode cL_fine 20 = .ok (.ireturn, 1) := by decide +kernel
theorem dL_fine_21 : decode cL_fine 21 = .ok (.iconst 0, 1) := by decide +kernel
theorem dL_fine_22 : decode cL_fine 22 = .ok (.ireturn, 1) := by decide +kernel
theorem dL_evidence_0 : decode cL_evidence 0 = .ok (.aload_n 2, 1) := by decide +kernel
theorem dL_evidence_1 : decode cL_evidence 1 = .ok (.iconst 0, 1) := by decide +kernel
theorem dL_evidence_2 : decode cL_evidence 2 = .ok (.aload_n 0, 1) := by decide +kernel
theorem dL_evidence_3 : decode cL_evidence 3 = .ok (.iload_n 1, 1) := by decide +kernel
theorem dL_evidence_4 : decode cL_evidence 4 = .ok (.invokevirtual 41, 3) := by decide +kernel
theorem dL_evidence_7 : decode cL_evidence 7 = .ok (.i2l, 1) := by decide +kernel
theorem dL_evidence_8 : decode cL_evidence 8 = .ok (.lastore, 1) := by decide +kernel
theorem dL_evidence_9 : decode cL_evidence 9 = .ok (.goto 6, 3) := by decide +kernel
theorem dL_evidence_12 : decode cL_evidence 12 = .ok (.astore_n 3, 1) := by decide +kernel
theorem dL_evidence_13 : decode cL_evidence 13 = .ok (.iconst 1, 1) := by decide +kernel
theorem dL_evidence_14 : decode cL_evidence 14 = .ok (.ireturn, 1) := by decide +kernel
theorem dL_evidence_15 : decode cL_evidence 15 = .ok (.iconst 0, 1) := by decide +kernel
theorem dL_evidence_16 : decode cL_evidence 16 = .ok (.ireturn, 1) := by decide +kernel
theorem dL_wasStalled_0 : decode cL_wasStalled 0 = .ok (.aload_n 3, 1) := by decide +kernel
theorem dL_wasStalled_1 : decode cL_wasStalled 1 = .ok (.iconst 0, 1) := by decide +kernel
theorem dL_wasStalled_2 : decode cL_wasStalled 2 = .ok (.aload_n 0, 1) := by decide +kernel
theorem dL_wasStalled_3 : decode cL_wasStalled 3 = .ok (.iload_n 1, 1) := by decide +kernel
theorem dL_wasStalled_4 : decode cL_wasStalled 4 = .ok (.iload_n 2, 1) := by decide +kernel
theorem dL_wasStalled_5 : decode cL_wasStalled 5 = .ok (.invokevirtual 44, 3) := by decide +kernel
theorem dL_wasStalled_8 : decode cL_wasStalled 8 = .ok (.ifCond .eq 7, 3) := by decide +kernel
theorem dL_wasStalled_11 : decode cL_wasStalled 11 = .ok (.lconst 1, 1) := by decide +kernel
theorem dL_wasStalled_12 : decode cL_wasStalled 12 = .ok (.goto 4, 3) := by decide +kernel
theorem dL_wasStalled_15 : decode cL_wasStalled 15 = .ok (.lconst 0, 1) := by decide +kernel
theorem dL_wasStalled_16 : decode cL_wasStalled 16 = .ok (.lastore, 1) := by decide +kernel
theorem dL_wasStalled_17 : decode cL_wasStalled 17 = .ok (.goto 7, 3) := by decide +kernel
theorem dL_wasStalled_20 : decode cL_wasStalled 20 = .ok (.astore 4, 2) := by decide +kernel
theorem dL_wasStalled_22 : decode cL_wasStalled 22 = .ok (.iconst 1, 1) := by decide +kernel
theorem dL_wasStalled_23 : decode cL_wasStalled 23 = .ok (.ireturn, 1) := by decide +kernel
theorem dL_wasStalled_24 : decode cL_wasStalled 24 = .ok (.iconst 0, 1) := by decide +kernel
theorem dL_wasStalled_25 : decode cL_wasStalled 25 = .ok (.ireturn, 1) := by decide +kernel
theorem dL_run_0 : decode cL_run 0 = .ok (.aload_n 2, 1) := by decide +kernel
theorem dL_run_1 : decode cL_run 1 = .ok (.iconst 0, 1) := by decide +kernel
theorem dL_run_2 : decode cL_run 2 = .ok (.aload_n 0, 1) := by decide +kernel
theorem dL_run_3 : decode cL_run 3 = .ok (.iload_n 1, 1) := by decide +kernel
theorem dL_run_4 : decode cL_run 4 = .ok (.invokevirtual 48, 3) := by decide +kernel
theorem dL_run_7 : decode cL_run 7 = .ok (.i2l, 1) := by decide +kernel
theorem dL_run_8 : decode cL_run 8 = .ok (.lastore, 1) := by decide +kernel
theorem dL_run_9 : decode cL_run 9 = .ok (.goto 9, 3) := by decide +kernel
theorem dL_run_12 : decode cL_run 12 = .ok (.astore_n 3, 1) := by decide +kernel
theorem dL_run_13 : decode cL_run 13 = .ok (.iconst 1, 1) := by decide +kernel
theorem dL_run_14 : decode cL_run 14 = .ok (.ireturn, 1) := by decide +kernel
theorem dL_run_15 : decode cL_run 15 = .ok (.astore_n 3, 1) := by decide +kernel
theorem dL_run_16 : decode cL_run 16 = .ok (.iconst 2, 1) := by decide +kernel
theorem dL_run_17 : decode cL_run 17 = .ok (.ireturn, 1) := by decide +kernel
theorem dL_run_18 : decode cL_run 18 = .ok (.iconst 0, 1) := by decide +kernel
theorem dL_run_19 : decode cL_run 19 = .ok (.ireturn, 1) := by decide +kernel
theorem dL_ask_0 : decode cL_ask 0 = .ok (.aload 4, 2) := by decide +kernel
theorem dL_ask_2 : decode cL_ask 2 = .ok (.iconst 0, 1) := by decide +kernel
theorem dL_ask_3 : decode cL_ask 3 = .ok (.aload_n 0, 1) := by decide +kernel
theorem dL_ask_4 : decode cL_ask 4 = .ok (.iload_n 1, 1) := by decide +kernel
theorem dL_ask_5 : decode cL_ask 5 = .ok (.iload_n 2, 1) := by decide +kernel
theorem dL_ask_6 : decode cL_ask 6 = .ok (.iload_n 3, 1) := by decide +kernel
theorem dL_ask_7 : decode cL_ask 7 = .ok (.invokevirtual 53, 3) := by decide +kernel
theorem dL_ask_10 : decode cL_ask 10 = .ok (.i2l, 1) := by decide +kernel
theorem dL_ask_11 : decode cL_ask 11 = .ok (.lastore, 1) := by decide +kernel
theorem dL_ask_12 : decode cL_ask 12 = .ok (.goto 15, 3) := by decide +kernel
theorem dL_ask_15 : decode cL_ask 15 = .ok (.astore 5, 2) := by decide +kernel
theorem dL_ask_17 : decode cL_ask 17 = .ok (.iconst 1, 1) := by decide +kernel
theorem dL_ask_18 : decode cL_ask 18 = .ok (.ireturn, 1) := by decide +kernel
theorem dL_ask_19 : decode cL_ask 19 = .ok (.astore 5, 2) := by decide +kernel
theorem dL_ask_21 : decode cL_ask 21 = .ok (.iconst 2, 1) := by decide +kernel
theorem dL_ask_22 : decode cL_ask 22 = .ok (.ireturn, 1) := by decide +kernel
theorem dL_ask_23 : decode cL_ask 23 = .ok (.astore 5, 2) := by decide +kernel
theorem dL_ask_25 : decode cL_ask 25 = .ok (.iconst 3, 1) := by decide +kernel
theorem dL_ask_26 : decode cL_ask 26 = .ok (.ireturn, 1) := by decide +kernel
theorem dL_ask_27 : decode cL_ask 27 = .ok (.iconst 0, 1) := by decide +kernel
theorem dL_ask_28 : decode cL_ask 28 = .ok (.ireturn, 1) := by decide +kernel
theorem dL_withdraw_0 : decode cL_withdraw 0 = .ok (.aload_n 2, 1) := by decide +kernel
theorem dL_withdraw_1 : decode cL_withdraw 1 = .ok (.iconst 0, 1) := by decide +kernel
theorem dL_withdraw_2 : decode cL_withdraw 2 = .ok (.aload_n 0, 1) := by decide +kernel
theorem dL_withdraw_3 : decode cL_withdraw 3 = .ok (.iload_n 1, 1) := by decide +kernel
theorem dL_withdraw_4 : decode cL_withdraw 4 = .ok (.invokevirtual 57, 3) := by decide +kernel
theorem dL_withdraw_7 : decode cL_withdraw 7 = .ok (.i2l, 1) := by decide +kernel
theorem dL_withdraw_8 : decode cL_withdraw 8 = .ok (.lastore, 1) := by decide +kernel
theorem dL_withdraw_9 : decode cL_withdraw 9 = .ok (.goto 9, 3) := by decide +kernel
theorem dL_withdraw_12 : decode cL_withdraw 12 = .ok (.astore_n 3, 1) := by decide +kernel
theorem dL_withdraw_13 : decode cL_withdraw 13 = .ok (.iconst 1, 1) := by decide +kernel
theorem dL_withdraw_14 : decode cL_withdraw 14 = .ok (.ireturn, 1) := by decide +kernel
theorem dL_withdraw_15 : decode cL_withdraw 15 = .ok (.astore_n 3, 1) := by decide +kernel
theorem dL_withdraw_16 : decode cL_withdraw 16 = .ok (.iconst 2, 1) := by decide +kernel
theorem dL_withdraw_17 : decode cL_withdraw 17 = .ok (.ireturn, 1) := by decide +kernel
theorem dL_withdraw_18 : decode cL_withdraw 18 = .ok (.iconst 0, 1) := by decide +kernel
theorem dL_withdraw_19 : decode cL_withdraw 19 = .ok (.ireturn, 1) := by decide +kernel
theorem dL_giveBack_0 : decode cL_giveBack 0 = .ok (.aload_n 3, 1) := by decide +kernel
theorem dL_giveBack_1 : decode cL_giveBack 1 = .ok (.iconst 0, 1) := by decide +kernel
theorem dL_giveBack_2 : decode cL_giveBack 2 = .ok (.aload_n 0, 1) := by decide +kernel
theorem dL_giveBack_3 : decode cL_giveBack 3 = .ok (.iload_n 1, 1) := by decide +kernel
theorem dL_giveBack_4 : decode cL_giveBack 4 = .ok (.iload_n 2, 1) := by decide +kernel
theorem dL_giveBack_5 : decode cL_giveBack 5 = .ok (.invokevirtual 60, 3) := by decide +kernel
theorem dL_giveBack_8 : decode cL_giveBack 8 = .ok (.i2l, 1) := by decide +kernel
theorem dL_giveBack_9 : decode cL_giveBack 9 = .ok (.lastore, 1) := by decide +kernel
theorem dL_giveBack_10 : decode cL_giveBack 10 = .ok (.goto 11, 3) := by decide +kernel
theorem dL_giveBack_13 : decode cL_giveBack 13 = .ok (.astore 4, 2) := by decide +kernel
theorem dL_giveBack_15 : decode cL_giveBack 15 = .ok (.iconst 1, 1) := by decide +kernel
theorem dL_giveBack_16 : decode cL_giveBack 16 = .ok (.ireturn, 1) := by decide +kernel
theorem dL_giveBack_17 : decode cL_giveBack 17 = .ok (.astore 4, 2) := by decide +kernel
theorem dL_giveBack_19 : decode cL_giveBack 19 = .ok (.iconst 2, 1) := by decide +kernel
theorem dL_giveBack_20 : decode cL_giveBack 20 = .ok (.ireturn, 1) := by decide +kernel
theorem dL_giveBack_21 : decode cL_giveBack 21 = .ok (.iconst 0, 1) := by decide +kernel
theorem dL_giveBack_22 : decode cL_giveBack 22 = .ok (.ireturn, 1) := by decide +kernel
theorem dL_renew_0 : decode cL_renew 0 = .ok (.aload_n 3, 1) := by decide +kernel
theorem dL_renew_1 : decode cL_renew 1 = .ok (.iconst 0, 1) := by decide +kernel
theorem dL_renew_2 : decode cL_renew 2 = .ok (.aload_n 0, 1) := by decide +kernel
theorem dL_renew_3 : decode cL_renew 3 = .ok (.iload_n 1, 1) := by decide +kernel
theorem dL_renew_4 : decode cL_renew 4 = .ok (.iload_n 2, 1) := by decide +kernel
theorem dL_renew_5 : decode cL_renew 5 = .ok (.invokevirtual 63, 3) := by decide +kernel
theorem dL_renew_8 : decode cL_renew 8 = .ok (.i2l, 1) := by decide +kernel
theorem dL_renew_9 : decode cL_renew 9 = .ok (.lastore, 1) := by decide +kernel
theorem dL_renew_10 : decode cL_renew 10 = .ok (.goto 15, 3) := by decide +kernel
theorem dL_renew_13 : decode cL_renew 13 = .ok (.astore 4, 2) := by decide +kernel
theorem dL_renew_15 : decode cL_renew 15 = .ok (.iconst 1, 1) := by decide +kernel
theorem dL_renew_16 : decode cL_renew 16 = .ok (.ireturn, 1) := by decide +kernel
theorem dL_renew_17 : decode cL_renew 17 = .ok (.astore 4, 2) := by decide +kernel
theorem dL_renew_19 : decode cL_renew 19 = .ok (.iconst 2, 1) := by decide +kernel
theorem dL_renew_20 : decode cL_renew 20 = .ok (.ireturn, 1) := by decide +kernel
theorem dL_renew_21 : decode cL_renew 21 = .ok (.astore 4, 2) := by decide +kernel
theorem dL_renew_23 : decode cL_renew 23 = .ok (.iconst 3, 1) := by decide +kernel
theorem dL_renew_24 : decode cL_renew 24 = .ok (.ireturn, 1) := by decide +kernel
theorem dL_renew_25 : decode cL_renew 25 = .ok (.iconst 0, 1) := by decide +kernel
theorem dL_renew_26 : decode cL_renew 26 = .ok (.ireturn, 1) := by decide +kernel
theorem dL_stall_0 : decode cL_stall 0 = .ok (.aload_n 3, 1) := by decide +kernel
theorem dL_stall_1 : decode cL_stall 1 = .ok (.iconst 0, 1) := by decide +kernel
theorem dL_stall_2 : decode cL_stall 2 = .ok (.aload_n 0, 1) := by decide +kernel
theorem dL_stall_3 : decode cL_stall 3 = .ok (.iload_n 1, 1) := by decide +kernel
theorem dL_stall_4 : decode cL_stall 4 = .ok (.iload_n 2, 1) := by decide +kernel
theorem dL_stall_5 : decode cL_stall 5 = .ok (.invokevirtual 66, 3) := by decide +kernel
theorem dL_stall_8 : decode cL_stall 8 = .ok (.i2l, 1) := by decide +kernel
theorem dL_stall_9 : decode cL_stall 9 = .ok (.lastore, 1) := by decide +kernel
theorem dL_stall_10 : decode cL_stall 10 = .ok (.goto 11, 3) := by decide +kernel
theorem dL_stall_13 : decode cL_stall 13 = .ok (.astore 4, 2) := by decide +kernel
theorem dL_stall_15 : decode cL_stall 15 = .ok (.iconst 1, 1) := by decide +kernel
theorem dL_stall_16 : decode cL_stall 16 = .ok (.ireturn, 1) := by decide +kernel
theorem dL_stall_17 : decode cL_stall 17 = .ok (.astore 4, 2) := by decide +kernel
theorem dL_stall_19 : decode cL_stall 19 = .ok (.iconst 2, 1) := by decide +kernel
theorem dL_stall_20 : decode cL_stall 20 = .ok (.ireturn, 1) := by decide +kernel
theorem dL_stall_21 : decode cL_stall 21 = .ok (.iconst 0, 1) := by decide +kernel
theorem dL_stall_22 : decode cL_stall 22 = .ok (.ireturn, 1) := by decide +kernel
theorem dL_appeal_0 : decode cL_appeal 0 = .ok (.aload_n 2, 1) := by decide +kernel
theorem dL_appeal_1 : decode cL_appeal 1 = .ok (.iconst 0, 1) := by decide +kernel
theorem dL_appeal_2 : decode cL_appeal 2 = .ok (.aload_n 0, 1) := by decide +kernel
theorem dL_appeal_3 : decode cL_appeal 3 = .ok (.iload_n 1, 1) := by decide +kernel
theorem dL_appeal_4 : decode cL_appeal 4 = .ok (.invokevirtual 69, 3) := by decide +kernel
theorem dL_appeal_7 : decode cL_appeal 7 = .ok (.i2l, 1) := by decide +kernel
theorem dL_appeal_8 : decode cL_appeal 8 = .ok (.lastore, 1) := by decide +kernel
theorem dL_appeal_9 : decode cL_appeal 9 = .ok (.goto 9, 3) := by decide +kernel
theorem dL_appeal_12 : decode cL_appeal 12 = .ok (.astore_n 3, 1) := by decide +kernel
theorem dL_appeal_13 : decode cL_appeal 13 = .ok (.iconst 1, 1) := by decide +kernel
theorem dL_appeal_14 : decode cL_appeal 14 = .ok (.ireturn, 1) := by decide +kernel
theorem dL_appeal_15 : decode cL_appeal 15 = .ok (.astore_n 3, 1) := by decide +kernel
theorem dL_appeal_16 : decode cL_appeal 16 = .ok (.iconst 2, 1) := by decide +kernel
theorem dL_appeal_17 : decode cL_appeal 17 = .ok (.ireturn, 1) := by decide +kernel
theorem dL_appeal_18 : decode cL_appeal 18 = .ok (.iconst 0, 1) := by decide +kernel
theorem dL_appeal_19 : decode cL_appeal 19 = .ok (.ireturn, 1) := by decide +kernel
theorem dL_setOrder_0 : decode cL_setOrder 0 = .ok (.aload_n 2, 1) := by decide +kernel
theorem dL_setOrder_1 : decode cL_setOrder 1 = .ok (.iconst 0, 1) := by decide +kernel
theorem dL_setOrder_2 : decode cL_setOrder 2 = .ok (.aload_n 0, 1) := by decide +kernel
theorem dL_setOrder_3 : decode cL_setOrder 3 = .ok (.iload_n 1, 1) := by decide +kernel
theorem dL_setOrder_4 : decode cL_setOrder 4 = .ok (.invokevirtual 72, 3) := by decide +kernel
theorem dL_setOrder_7 : decode cL_setOrder 7 = .ok (.i2l, 1) := by decide +kernel
theorem dL_setOrder_8 : decode cL_setOrder 8 = .ok (.lastore, 1) := by decide +kernel
theorem dL_setOrder_9 : decode cL_setOrder 9 = .ok (.goto 6, 3) := by decide +kernel
theorem dL_setOrder_12 : decode cL_setOrder 12 = .ok (.astore_n 3, 1) := by decide +kernel
theorem dL_setOrder_13 : decode cL_setOrder 13 = .ok (.iconst 1, 1) := by decide +kernel
theorem dL_setOrder_14 : decode cL_setOrder 14 = .ok (.ireturn, 1) := by decide +kernel
theorem dL_setOrder_15 : decode cL_setOrder 15 = .ok (.iconst 0, 1) := by decide +kernel
theorem dL_setOrder_16 : decode cL_setOrder 16 = .ok (.ireturn, 1) := by decide +kernel
theorem dL_undo_0 : decode cL_undo 0 = .ok (.aload_n 1, 1) := by decide +kernel
theorem dL_undo_1 : decode cL_undo 1 = .ok (.iconst 0, 1) := by decide +kernel
theorem dL_undo_2 : decode cL_undo 2 = .ok (.aload_n 0, 1) := by decide +kernel
theorem dL_undo_3 : decode cL_undo 3 = .ok (.invokevirtual 75, 3) := by decide +kernel
theorem dL_undo_6 : decode cL_undo 6 = .ok (.i2l, 1) := by decide +kernel
theorem dL_undo_7 : decode cL_undo 7 = .ok (.lastore, 1) := by decide +kernel
theorem dL_undo_8 : decode cL_undo 8 = .ok (.goto 6, 3) := by decide +kernel
theorem dL_undo_11 : decode cL_undo 11 = .ok (.astore_n 2, 1) := by decide +kernel
theorem dL_undo_12 : decode cL_undo 12 = .ok (.iconst 1, 1) := by decide +kernel
theorem dL_undo_13 : decode cL_undo 13 = .ok (.ireturn, 1) := by decide +kernel
theorem dL_undo_14 : decode cL_undo 14 = .ok (.iconst 0, 1) := by decide +kernel
theorem dL_undo_15 : decode cL_undo 15 = .ok (.ireturn, 1) := by decide +kernel
theorem dL_metIn_0 : decode cL_metIn 0 = .ok (.aload_n 3, 1) := by decide +kernel
theorem dL_metIn_1 : decode cL_metIn 1 = .ok (.iconst 0, 1) := by decide +kernel
theorem dL_metIn_2 : decode cL_metIn 2 = .ok (.aload_n 0, 1) := by decide +kernel
theorem dL_metIn_3 : decode cL_metIn 3 = .ok (.iload_n 1, 1) := by decide +kernel
theorem dL_metIn_4 : decode cL_metIn 4 = .ok (.iload_n 2, 1) := by decide +kernel
theorem dL_metIn_5 : decode cL_metIn 5 = .ok (.invokevirtual 79, 3) := by decide +kernel
theorem dL_metIn_8 : decode cL_metIn 8 = .ok (.i2l, 1) := by decide +kernel
theorem dL_metIn_9 : decode cL_metIn 9 = .ok (.lastore, 1) := by decide +kernel
theorem dL_metIn_10 : decode cL_metIn 10 = .ok (.goto 11, 3) := by decide +kernel
theorem dL_metIn_13 : decode cL_metIn 13 = .ok (.astore 4, 2) := by decide +kernel
theorem dL_metIn_15 : decode cL_metIn 15 = .ok (.iconst 1, 1) := by decide +kernel
theorem dL_metIn_16 : decode cL_metIn 16 = .ok (.ireturn, 1) := by decide +kernel
theorem dL_metIn_17 : decode cL_metIn 17 = .ok (.astore 4, 2) := by decide +kernel
theorem dL_metIn_19 : decode cL_metIn 19 = .ok (.iconst 2, 1) := by decide +kernel
theorem dL_metIn_20 : decode cL_metIn 20 = .ok (.ireturn, 1) := by decide +kernel
theorem dL_metIn_21 : decode cL_metIn 21 = .ok (.iconst 0, 1) := by decide +kernel
theorem dL_metIn_22 : decode cL_metIn 22 = .ok (.ireturn, 1) := by decide +kernel
theorem dL_refusedIn_0 : decode cL_refusedIn 0 = .ok (.aload_n 3, 1) := by decide +kernel
theorem dL_refusedIn_1 : decode cL_refusedIn 1 = .ok (.iconst 0, 1) := by decide +kernel
theorem dL_refusedIn_2 : decode cL_refusedIn 2 = .ok (.aload_n 0, 1) := by decide +kernel
theorem dL_refusedIn_3 : decode cL_refusedIn 3 = .ok (.iload_n 1, 1) := by decide +kernel
theorem dL_refusedIn_4 : decode cL_refusedIn 4 = .ok (.iload_n 2, 1) := by decide +kernel
theorem dL_refusedIn_5 : decode cL_refusedIn 5 = .ok (.invokevirtual 82, 3) := by decide +kernel
theorem dL_refusedIn_8 : decode cL_refusedIn 8 = .ok (.i2l, 1) := by decide +kernel
theorem dL_refusedIn_9 : decode cL_refusedIn 9 = .ok (.lastore, 1) := by decide +kernel
theorem dL_refusedIn_10 : decode cL_refusedIn 10 = .ok (.goto 11, 3) := by decide +kernel
theorem dL_refusedIn_13 : decode cL_refusedIn 13 = .ok (.astore 4, 2) := by decide +kernel
theorem dL_refusedIn_15 : decode cL_refusedIn 15 = .ok (.iconst 1, 1) := by decide +kernel
theorem dL_refusedIn_16 : decode cL_refusedIn 16 = .ok (.ireturn, 1) := by decide +kernel
theorem dL_refusedIn_17 : decode cL_refusedIn 17 = .ok (.astore 4, 2) := by decide +kernel
theorem dL_refusedIn_19 : decode cL_refusedIn 19 = .ok (.iconst 2, 1) := by decide +kernel
theorem dL_refusedIn_20 : decode cL_refusedIn 20 = .ok (.ireturn, 1) := by decide +kernel
theorem dL_refusedIn_21 : decode cL_refusedIn 21 = .ok (.iconst 0, 1) := by decide +kernel
theorem dL_refusedIn_22 : decode cL_refusedIn 22 = .ok (.ireturn, 1) := by decide +kernel
theorem dL_wouldFine_0 : decode cL_wouldFine 0 = .ok (.aload_n 2, 1) := by decide +kernel
theorem dL_wouldFine_1 : decode cL_wouldFine 1 = .ok (.iconst 0, 1) := by decide +kernel
theorem dL_wouldFine_2 : decode cL_wouldFine 2 = .ok (.aload_n 0, 1) := by decide +kernel
theorem dL_wouldFine_3 : decode cL_wouldFine 3 = .ok (.iload_n 1, 1) := by decide +kernel
theorem dL_wouldFine_4 : decode cL_wouldFine 4 = .ok (.invokevirtual 85, 3) := by decide +kernel
theorem dL_wouldFine_7 : decode cL_wouldFine 7 = .ok (.i2l, 1) := by decide +kernel
theorem dL_wouldFine_8 : decode cL_wouldFine 8 = .ok (.lastore, 1) := by decide +kernel
theorem dL_wouldFine_9 : decode cL_wouldFine 9 = .ok (.goto 6, 3) := by decide +kernel
theorem dL_wouldFine_12 : decode cL_wouldFine 12 = .ok (.astore_n 3, 1) := by decide +kernel
theorem dL_wouldFine_13 : decode cL_wouldFine 13 = .ok (.iconst 1, 1) := by decide +kernel
theorem dL_wouldFine_14 : decode cL_wouldFine 14 = .ok (.ireturn, 1) := by decide +kernel
theorem dL_wouldFine_15 : decode cL_wouldFine 15 = .ok (.iconst 0, 1) := by decide +kernel
theorem dL_wouldFine_16 : decode cL_wouldFine 16 = .ok (.ireturn, 1) := by decide +kernel
theorem dL_wouldPay_0 : decode cL_wouldPay 0 = .ok (.aload_n 2, 1) := by decide +kernel
theorem dL_wouldPay_1 : decode cL_wouldPay 1 = .ok (.iconst 0, 1) := by decide +kernel
theorem dL_wouldPay_2 : decode cL_wouldPay 2 = .ok (.aload_n 0, 1) := by decide +kernel
theorem dL_wouldPay_3 : decode cL_wouldPay 3 = .ok (.iload_n 1, 1) := by decide +kernel
theorem dL_wouldPay_4 : decode cL_wouldPay 4 = .ok (.invokevirtual 88, 3) := by decide +kernel
theorem dL_wouldPay_7 : decode cL_wouldPay 7 = .ok (.i2l, 1) := by decide +kernel
theorem dL_wouldPay_8 : decode cL_wouldPay 8 = .ok (.lastore, 1) := by decide +kernel
theorem dL_wouldPay_9 : decode cL_wouldPay 9 = .ok (.goto 6, 3) := by decide +kernel
theorem dL_wouldPay_12 : decode cL_wouldPay 12 = .ok (.astore_n 3, 1) := by decide +kernel
theorem dL_wouldPay_13 : decode cL_wouldPay 13 = .ok (.iconst 1, 1) := by decide +kernel
theorem dL_wouldPay_14 : decode cL_wouldPay 14 = .ok (.ireturn, 1) := by decide +kernel
theorem dL_wouldPay_15 : decode cL_wouldPay 15 = .ok (.iconst 0, 1) := by decide +kernel
theorem dL_wouldPay_16 : decode cL_wouldPay 16 = .ok (.ireturn, 1) := by decide +kernel
theorem dL_freeIn_0 : decode cL_freeIn 0 = .ok (.aload_n 2, 1) := by decide +kernel
theorem dL_freeIn_1 : decode cL_freeIn 1 = .ok (.iconst 0, 1) := by decide +kernel
theorem dL_freeIn_2 : decode cL_freeIn 2 = .ok (.aload_n 0, 1) := by decide +kernel
theorem dL_freeIn_3 : decode cL_freeIn 3 = .ok (.iload_n 1, 1) := by decide +kernel
theorem dL_freeIn_4 : decode cL_freeIn 4 = .ok (.invokevirtual 91, 3) := by decide +kernel
theorem dL_freeIn_7 : decode cL_freeIn 7 = .ok (.i2l, 1) := by decide +kernel
theorem dL_freeIn_8 : decode cL_freeIn 8 = .ok (.lastore, 1) := by decide +kernel
theorem dL_freeIn_9 : decode cL_freeIn 9 = .ok (.goto 6, 3) := by decide +kernel
theorem dL_freeIn_12 : decode cL_freeIn 12 = .ok (.astore_n 3, 1) := by decide +kernel
theorem dL_freeIn_13 : decode cL_freeIn 13 = .ok (.iconst 1, 1) := by decide +kernel
theorem dL_freeIn_14 : decode cL_freeIn 14 = .ok (.ireturn, 1) := by decide +kernel
theorem dL_freeIn_15 : decode cL_freeIn 15 = .ok (.iconst 0, 1) := by decide +kernel
theorem dL_freeIn_16 : decode cL_freeIn 16 = .ok (.ireturn, 1) := by decide +kernel
theorem dL_processIn_0 : decode cL_processIn 0 = .ok (.aload 4, 2) := by decide +kernel
theorem dL_processIn_2 : decode cL_processIn 2 = .ok (.iconst 0, 1) := by decide +kernel
theorem dL_processIn_3 : decode cL_processIn 3 = .ok (.aload_n 0, 1) := by decide +kernel
theorem dL_processIn_4 : decode cL_processIn 4 = .ok (.iload_n 1, 1) := by decide +kernel
theorem dL_processIn_5 : decode cL_processIn 5 = .ok (.iload_n 2, 1) := by decide +kernel
theorem dL_processIn_6 : decode cL_processIn 6 = .ok (.iload_n 3, 1) := by decide +kernel
theorem dL_processIn_7 : decode cL_processIn 7 = .ok (.invokevirtual 94, 3) := by decide +kernel
theorem dL_processIn_10 : decode cL_processIn 10 = .ok (.i2l, 1) := by decide +kernel
theorem dL_processIn_11 : decode cL_processIn 11 = .ok (.lastore, 1) := by decide +kernel
theorem dL_processIn_12 : decode cL_processIn 12 = .ok (.goto 11, 3) := by decide +kernel
theorem dL_processIn_15 : decode cL_processIn 15 = .ok (.astore 5, 2) := by decide +kernel
theorem dL_processIn_17 : decode cL_processIn 17 = .ok (.iconst 1, 1) := by decide +kernel
theorem dL_processIn_18 : decode cL_processIn 18 = .ok (.ireturn, 1) := by decide +kernel
theorem dL_processIn_19 : decode cL_processIn 19 = .ok (.astore 5, 2) := by decide +kernel
theorem dL_processIn_21 : decode cL_processIn 21 = .ok (.iconst 2, 1) := by decide +kernel
theorem dL_processIn_22 : decode cL_processIn 22 = .ok (.ireturn, 1) := by decide +kernel
theorem dL_processIn_23 : decode cL_processIn 23 = .ok (.iconst 0, 1) := by decide +kernel
theorem dL_processIn_24 : decode cL_processIn 24 = .ok (.ireturn, 1) := by decide +kernel
theorem dL_bestOrder_0 : decode cL_bestOrder 0 = .ok (.aload_n 2, 1) := by decide +kernel
theorem dL_bestOrder_1 : decode cL_bestOrder 1 = .ok (.iconst 0, 1) := by decide +kernel
theorem dL_bestOrder_2 : decode cL_bestOrder 2 = .ok (.aload_n 0, 1) := by decide +kernel
theorem dL_bestOrder_3 : decode cL_bestOrder 3 = .ok (.iload_n 1, 1) := by decide +kernel
theorem dL_bestOrder_4 : decode cL_bestOrder 4 = .ok (.invokevirtual 97, 3) := by decide +kernel
theorem dL_bestOrder_7 : decode cL_bestOrder 7 = .ok (.i2l, 1) := by decide +kernel
theorem dL_bestOrder_8 : decode cL_bestOrder 8 = .ok (.lastore, 1) := by decide +kernel
theorem dL_bestOrder_9 : decode cL_bestOrder 9 = .ok (.goto 6, 3) := by decide +kernel
theorem dL_bestOrder_12 : decode cL_bestOrder 12 = .ok (.astore_n 3, 1) := by decide +kernel
theorem dL_bestOrder_13 : decode cL_bestOrder 13 = .ok (.iconst 1, 1) := by decide +kernel
theorem dL_bestOrder_14 : decode cL_bestOrder 14 = .ok (.ireturn, 1) := by decide +kernel
theorem dL_bestOrder_15 : decode cL_bestOrder 15 = .ok (.iconst 0, 1) := by decide +kernel
theorem dL_bestOrder_16 : decode cL_bestOrder 16 = .ok (.ireturn, 1) := by decide +kernel
theorem dL_helps_0 : decode cL_helps 0 = .ok (.aload_n 3, 1) := by decide +kernel
theorem dL_helps_1 : decode cL_helps 1 = .ok (.iconst 0, 1) := by decide +kernel
theorem dL_helps_2 : decode cL_helps 2 = .ok (.aload_n 0, 1) := by decide +kernel
theorem dL_helps_3 : decode cL_helps 3 = .ok (.iload_n 1, 1) := by decide +kernel
theorem dL_helps_4 : decode cL_helps 4 = .ok (.iload_n 2, 1) := by decide +kernel
theorem dL_helps_5 : decode cL_helps 5 = .ok (.invokevirtual 100, 3) := by decide +kernel
theorem dL_helps_8 : decode cL_helps 8 = .ok (.i2l, 1) := by decide +kernel
theorem dL_helps_9 : decode cL_helps 9 = .ok (.lastore, 1) := by decide +kernel
theorem dL_helps_10 : decode cL_helps 10 = .ok (.goto 7, 3) := by decide +kernel
theorem dL_helps_13 : decode cL_helps 13 = .ok (.astore 4, 2) := by decide +kernel
theorem dL_helps_15 : decode cL_helps 15 = .ok (.iconst 1, 1) := by decide +kernel
theorem dL_helps_16 : decode cL_helps 16 = .ok (.ireturn, 1) := by decide +kernel
theorem dL_helps_17 : decode cL_helps 17 = .ok (.iconst 0, 1) := by decide +kernel
theorem dL_helps_18 : decode cL_helps 18 = .ok (.ireturn, 1) := by decide +kernel
theorem dL_wouldAppeal_0 : decode cL_wouldAppeal 0 = .ok (.aload_n 2, 1) := by decide +kernel
theorem dL_wouldAppeal_1 : decode cL_wouldAppeal 1 = .ok (.iconst 0, 1) := by decide +kernel
theorem dL_wouldAppeal_2 : decode cL_wouldAppeal 2 = .ok (.aload_n 0, 1) := by decide +kernel
theorem dL_wouldAppeal_3 : decode cL_wouldAppeal 3 = .ok (.iload_n 1, 1) := by decide +kernel
theorem dL_wouldAppeal_4 : decode cL_wouldAppeal 4 = .ok (.invokevirtual 103, 3) := by decide +kernel
theorem dL_wouldAppeal_7 : decode cL_wouldAppeal 7 = .ok (.i2l, 1) := by decide +kernel
theorem dL_wouldAppeal_8 : decode cL_wouldAppeal 8 = .ok (.lastore, 1) := by decide +kernel
theorem dL_wouldAppeal_9 : decode cL_wouldAppeal 9 = .ok (.goto 6, 3) := by decide +kernel
theorem dL_wouldAppeal_12 : decode cL_wouldAppeal 12 = .ok (.astore_n 3, 1) := by decide +kernel
theorem dL_wouldAppeal_13 : decode cL_wouldAppeal 13 = .ok (.iconst 1, 1) := by decide +kernel
theorem dL_wouldAppeal_14 : decode cL_wouldAppeal 14 = .ok (.ireturn, 1) := by decide +kernel
theorem dL_wouldAppeal_15 : decode cL_wouldAppeal 15 = .ok (.iconst 0, 1) := by decide +kernel
theorem dL_wouldAppeal_16 : decode cL_wouldAppeal 16 = .ok (.ireturn, 1) := by decide +kernel
theorem dL_printProcess_0 : decode cL_printProcess 0 = .ok (.aload_n 2, 1) := by decide +kernel
theorem dL_printProcess_1 : decode cL_printProcess 1 = .ok (.iconst 0, 1) := by decide +kernel
theorem dL_printProcess_2 : decode cL_printProcess 2 = .ok (.aload_n 0, 1) := by decide +kernel
theorem dL_printProcess_3 : decode cL_printProcess 3 = .ok (.iload_n 1, 1) := by decide +kernel
theorem dL_printProcess_4 : decode cL_printProcess 4 = .ok (.invokevirtual 106, 3) := by decide +kernel
theorem dL_printProcess_7 : decode cL_printProcess 7 = .ok (.i2l, 1) := by decide +kernel
theorem dL_printProcess_8 : decode cL_printProcess 8 = .ok (.lastore, 1) := by decide +kernel
theorem dL_printProcess_9 : decode cL_printProcess 9 = .ok (.goto 6, 3) := by decide +kernel
theorem dL_printProcess_12 : decode cL_printProcess 12 = .ok (.astore_n 3, 1) := by decide +kernel
theorem dL_printProcess_13 : decode cL_printProcess 13 = .ok (.iconst 1, 1) := by decide +kernel
theorem dL_printProcess_14 : decode cL_printProcess 14 = .ok (.ireturn, 1) := by decide +kernel
theorem dL_printProcess_15 : decode cL_printProcess 15 = .ok (.iconst 0, 1) := by decide +kernel
theorem dL_printProcess_16 : decode cL_printProcess 16 = .ok (.ireturn, 1) := by decide +kernel
def f_L_process (n : Nat) (sv_p0 : Value) (p0_0 : OS) (p0ru_0 : OS) (p0no_0 : OS) (z_p3 : Nat) (p3_0 : Nat → Int64) (v1_0 : Int32) (v2_0 : Int32) : Option ((Nat → Int64) × Int32) :=
  bnd2 (f_X8_process n sv_p0 p0_0 p0ru_0 p0no_0 v1_0 v2_0) (fun (r_1 : Int32) (cd_2 : Nat) =>
  if cd_2 = 0 then (
  gI z_p3 (0 : Int32) (Let (vp_updL p3_0 (0 : Int32).toNatClampNeg ((r_1).toInt64)) (fun p3_3 : Nat → Int64 =>
  some (p3_3, (0 : Int32))))) else (
  if cd_2 = 1 then (
  some (p3_0, (1 : Int32))) else (none)))
set_option maxHeartbeats 4000000 in
set_option maxRecDepth 100000 in
theorem c_L_process (n : Nat) (l : Launch) (k : KT) (hN : CCH k) (hx : XH l k) (a_p0 : Nat → Nat) (a_p0in : Nat → Nat) (a_p0ou : Nat → Nat) (a_p0ru : Nat → Nat) (a_p0no : Nat → Nat) (a_p0fo : Nat → Nat) (a_p0rd : Nat → Nat) (a_p0pa : Nat → Nat) (a_p3 : Nat → Nat) (sv_p0 : Value) (p0_0 : OS) (p0ru_0 : OS) (p0no_0 : OS) (z_p3 : Nat) (p3_0 : Nat → Int64) (v1_0 : Int32) (v2_0 : Int32) (res : ((Nat → Int64) × Int32)) (hf : f_L_process n sv_p0 p0_0 p0ru_0 p0no_0 z_p3 p3_0 v1_0 v2_0 = some res) : CXW l k yL_process cL_process 5 (some .int) [(0, 10, 13, 13)] 8 2 12 125 [.ref (a_p0 0), .int v1_0, .int v2_0, .ref (a_p3 0)] (wMCo k a_p0 (a_p0in 0) (a_p0ou 0) (a_p0ru 0) (a_p0no 0) (a_p0fo 0) (a_p0rd 0) (a_p0pa 0) sv_p0 p0_0 ++ wRules k a_p0ru p0ru_0 ++ wCourt k a_p0no p0no_0 ++ wJArr k a_p3 z_p3 p3_0) (Qi k (fun u : Nat → Int64 => wMCo k a_p0 (a_p0in 0) (a_p0ou 0) (a_p0ru 0) (a_p0no 0) (a_p0fo 0) (a_p0rd 0) (a_p0pa 0) sv_p0 p0_0 ++ wRules k a_p0ru p0ru_0 ++ wCourt k a_p0no p0no_0 ++ wJArr k a_p3 z_p3 u) (fun (r : Int32) (u : Nat → Int64) => res = (u, r))) := by
  refine CXW.ofI (by decide) (Nat.le_of_ble_eq_true rfl) (fun p e s m args below meth c A Q E hnm htab hW hA hret ls hl => ?_)
  have hl : lv_has ls 5 [(0, .ref (a_p0 0)), (1, .int v1_0), (2, .int v2_0), (3, .ref (a_p3 0))] := hl
  unfold f_L_process at hf
  refine k_aload_n E hl 3 dL_process_0 rfl ?_
  refine lv_iconst (v := (0 : Int32)) E.hx E.hb dL_process_1 ic_0 ?_
  refine k_aload_n E hl 0 dL_process_2 rfl ?_
  refine k_iload_n E hl 1 dL_process_3 rfl ?_
  refine k_iload_n E hl 2 dL_process_4 rfl ?_
  obtain ⟨r_1, cd_2, hg, hf⟩ := ob2 hf
  refine k_callXi (As := [.int v1_0, .int v2_0]) (rest := [.int (0 : Int32), .ref (a_p3 0)]) (ws2 := fun u => wMCo k a_p0 (a_p0in 0) (a_p0ou 0) (a_p0ru 0) (a_p0no 0) (a_p0fo 0) (a_p0rd 0) (a_p0pa 0) sv_p0 p0_0 ++ wRules k a_p0ru p0ru_0 ++ wCourt k a_p0no p0no_0 ++ wJArr k a_p3 z_p3 p3_0) (c_X8_process n l k hx a_p0 a_p0in a_p0ou a_p0ru a_p0no a_p0fo a_p0rd a_p0pa sv_p0 p0_0 p0ru_0 p0no_0 v1_0 v2_0 (r_1, cd_2) hg) E vl_L_7 dL_process_5 rfl (List.range' 0 16) 6 0 hW hA hl rfl (blk_map [] (wMCo k a_p0 (a_p0in 0) (a_p0ou 0) (a_p0ru 0) (a_p0no 0) (a_p0fo 0) (a_p0rd 0) (a_p0pa 0) sv_p0 p0_0 ++ wRules k a_p0ru p0ru_0 ++ wCourt k a_p0no p0no_0) (wJArr k a_p3 z_p3 p3_0) 0 16 (by simp only [List.nil_append]) rfl rfl) rfl rfl ⟨by decide, by decide⟩ ⟨by decide, by decide⟩ (Nat.le_of_ble_eq_true rfl) rfl (fun _ => rfl) (fun u => by rw [blk_put [] (wMCo k a_p0 (a_p0in 0) (a_p0ou 0) (a_p0ru 0) (a_p0no 0) (a_p0fo 0) (a_p0rd 0) (a_p0pa 0) sv_p0 p0_0 ++ wRules k a_p0ru p0ru_0 ++ wCourt k a_p0no p0no_0) (wJArr k a_p3 z_p3 p3_0) (wMCo k a_p0 (a_p0in 0) (a_p0ou 0) (a_p0ru 0) (a_p0no 0) (a_p0fo 0) (a_p0rd 0) (a_p0pa 0) sv_p0 p0_0 ++ wRules k a_p0ru p0ru_0 ++ wCourt k a_p0no p0no_0) 0 16 (by simp only [List.nil_append]) rfl rfl rfl]; try simp only [List.nil_append]) (fun cd9 u ce9 q9 H locs hp hW hce hcv hcls => ?_) (fun r u H locs hp hW => ?_)
  · obtain ⟨hcd, hp⟩ := hp
    cases hp
    have hW : WD k A s.heap (wMCo k a_p0 (a_p0in 0) (a_p0ou 0) (a_p0ru 0) (a_p0no 0) (a_p0fo 0) (a_p0rd 0) (a_p0pa 0) sv_p0 p0_0 ++ wRules k a_p0ru p0ru_0 ++ wCourt k a_p0no p0no_0 ++ wJArr k a_p3 z_p3 p3_0) H locs := hW
    have hf := oF hcd hf
    by_cases hc : cd_2 = 1
    · have hf := oT hc hf
      subst hc
      refine k_catch (cd := 1) hN E htab [] (0, 10, 13, 13) [] rfl (fun z hz => by simp at hz) (by decide) (by decide) rfl (by decide) tm_752 tm_763 hce hcv hcls ?_
      refine lv_astore (lv' := [(4, .ref q9), (0, .ref (a_p0 0)), (1, .int v1_0), (2, .int v2_0), (3, .ref (a_p3 0))]) E.hx E.hb dL_process_13 hl (by decide) rfl (fun ls hl => ?_)
      refine lv_iconst (v := (1 : Int32)) E.hx E.hb dL_process_15 ic_1 ?_
      exact hret _ p3_0 _ _ _ _ _ _ hW (Option.some.inj hf).symm rfl (by decide) (by decide) dL_process_16
    have hf := oF hc hf
    exact o0 hf
  cases hp
  have hW : WD k A s.heap (wMCo k a_p0 (a_p0in 0) (a_p0ou 0) (a_p0ru 0) (a_p0no 0) (a_p0fo 0) (a_p0rd 0) (a_p0pa 0) sv_p0 p0_0 ++ wRules k a_p0ru p0ru_0 ++ wCourt k a_p0no p0no_0 ++ wJArr k a_p3 z_p3 p3_0) H locs := hW
  have hf := oT rfl hf
  refine lv_i2l (v := (r_1).toInt64) E.hx E.hb dL_process_8 rfl ?_
  obtain ⟨hin, hf⟩ := oI hf
  obtain ⟨p3_3, ep3_3, hf⟩ := oL hf
  refine k_last (ws2 := wMCo k a_p0 (a_p0in 0) (a_p0ou 0) (a_p0ru 0) (a_p0no 0) (a_p0fo 0) (a_p0rd 0) (a_p0pa 0) sv_p0 p0_0 ++ wRules k a_p0ru p0ru_0 ++ wCourt k a_p0no p0no_0 ++ wJArr k a_p3 z_p3 p3_3) E hW 16 rfl hin dL_process_9 (by rw [ep3_3]; rfl) (fun H locs hW => ?_)
  refine lv_goto (tgt := 17) E.hx E.hb dL_process_10 (by decide) ?_
  refine lv_iconst (v := (0 : Int32)) E.hx E.hb dL_process_17 ic_0 ?_
  exact hret _ p3_3 _ _ _ _ _ _ hW (Option.some.inj hf).symm rfl (by decide) (by decide) dL_process_18
def f_L_loan (n : Nat) (sv_p0 : Value) (p0_0 : OS) (p0no_0 : OS) (z_p3 : Nat) (p3_0 : Nat → Int64) (v1_0 : Int32) (v2_0 : Int32) : Option ((Nat → Int64) × Int32) :=
  bnd2 (f_X8_loan n sv_p0 p0_0 p0no_0 v1_0 v2_0) (fun (r_1 : Int32) (cd_2 : Nat) =>
  if cd_2 = 0 then (
  gI z_p3 (0 : Int32) (Let (vp_updL p3_0 (0 : Int32).toNatClampNeg ((r_1).toInt64)) (fun p3_3 : Nat → Int64 =>
  some (p3_3, (0 : Int32))))) else (
  if cd_2 = 1 then (
  some (p3_0, (1 : Int32))) else (none)))
set_option maxHeartbeats 4000000 in
set_option maxRecDepth 100000 in
theorem c_L_loan (n : Nat) (l : Launch) (k : KT) (hN : CCH k) (hx : XH l k) (a_p0 : Nat → Nat) (a_p0in : Nat → Nat) (a_p0ou : Nat → Nat) (a_p0ru : Nat → Nat) (a_p0no : Nat → Nat) (a_p0fo : Nat → Nat) (a_p0rd : Nat → Nat) (a_p0pa : Nat → Nat) (a_p3 : Nat → Nat) (sv_p0 : Value) (p0_0 : OS) (p0no_0 : OS) (z_p3 : Nat) (p3_0 : Nat → Int64) (v1_0 : Int32) (v2_0 : Int32) (res : ((Nat → Int64) × Int32)) (hf : f_L_loan n sv_p0 p0_0 p0no_0 z_p3 p3_0 v1_0 v2_0 = some res) : CXW l k yL_loan cL_loan 5 (some .int) [(0, 10, 13, 13)] 8 2 12 125 [.ref (a_p0 0), .int v1_0, .int v2_0, .ref (a_p3 0)] (wMCo k a_p0 (a_p0in 0) (a_p0ou 0) (a_p0ru 0) (a_p0no 0) (a_p0fo 0) (a_p0rd 0) (a_p0pa 0) sv_p0 p0_0 ++ wCourt k a_p0no p0no_0 ++ wJArr k a_p3 z_p3 p3_0) (Qi k (fun u : Nat → Int64 => wMCo k a_p0 (a_p0in 0) (a_p0ou 0) (a_p0ru 0) (a_p0no 0) (a_p0fo 0) (a_p0rd 0) (a_p0pa 0) sv_p0 p0_0 ++ wCourt k a_p0no p0no_0 ++ wJArr k a_p3 z_p3 u) (fun (r : Int32) (u : Nat → Int64) => res = (u, r))) := by
  refine CXW.ofI (by decide) (Nat.le_of_ble_eq_true rfl) (fun p e s m args below meth c A Q E hnm htab hW hA hret ls hl => ?_)
  have hl : lv_has ls 5 [(0, .ref (a_p0 0)), (1, .int v1_0), (2, .int v2_0), (3, .ref (a_p3 0))] := hl
  unfold f_L_loan at hf
  refine k_aload_n E hl 3 dL_loan_0 rfl ?_
  refine lv_iconst (v := (0 : Int32)) E.hx E.hb dL_loan_1 ic_0 ?_
  refine k_aload_n E hl 0 dL_loan_2 rfl ?_
  refine k_iload_n E hl 1 dL_loan_3 rfl ?_
  refine k_iload_n E hl 2 dL_loan_4 rfl ?_
  obtain ⟨r_1, cd_2, hg, hf⟩ := ob2 hf
  refine k_callXi (As := [.int v1_0, .int v2_0]) (rest := [.int (0 : Int32), .ref (a_p3 0)]) (ws2 := fun u => wMCo k a_p0 (a_p0in 0) (a_p0ou 0) (a_p0ru 0) (a_p0no 0) (a_p0fo 0) (a_p0rd 0) (a_p0pa 0) sv_p0 p0_0 ++ wCourt k a_p0no p0no_0 ++ wJArr k a_p3 z_p3 p3_0) (c_X8_loan n l k hx a_p0 a_p0in a_p0ou a_p0ru a_p0no a_p0fo a_p0rd a_p0pa sv_p0 p0_0 p0no_0 v1_0 v2_0 (r_1, cd_2) hg) E vl_L_15 dL_loan_5 rfl (List.range' 0 13) 6 0 hW hA hl rfl (blk_map [] (wMCo k a_p0 (a_p0in 0) (a_p0ou 0) (a_p0ru 0) (a_p0no 0) (a_p0fo 0) (a_p0rd 0) (a_p0pa 0) sv_p0 p0_0 ++ wCourt k a_p0no p0no_0) (wJArr k a_p3 z_p3 p3_0) 0 13 (by simp only [List.nil_append]) rfl rfl) rfl rfl ⟨by decide, by decide⟩ ⟨by decide, by decide⟩ (Nat.le_of_ble_eq_true rfl) rfl (fun _ => rfl) (fun u => by rw [blk_put [] (wMCo k a_p0 (a_p0in 0) (a_p0ou 0) (a_p0ru 0) (a_p0no 0) (a_p0fo 0) (a_p0rd 0) (a_p0pa 0) sv_p0 p0_0 ++ wCourt k a_p0no p0no_0) (wJArr k a_p3 z_p3 p3_0) (wMCo k a_p0 (a_p0in 0) (a_p0ou 0) (a_p0ru 0) (a_p0no 0) (a_p0fo 0) (a_p0rd 0) (a_p0pa 0) sv_p0 p0_0 ++ wCourt k a_p0no p0no_0) 0 13 (by simp only [List.nil_append]) rfl rfl rfl]; try simp only [List.nil_append]) (fun cd9 u ce9 q9 H locs hp hW hce hcv hcls => ?_) (fun r u H locs hp hW => ?_)
  · obtain ⟨hcd, hp⟩ := hp
    cases hp
    have hW : WD k A s.heap (wMCo k a_p0 (a_p0in 0) (a_p0ou 0) (a_p0ru 0) (a_p0no 0) (a_p0fo 0) (a_p0rd 0) (a_p0pa 0) sv_p0 p0_0 ++ wCourt k a_p0no p0no_0 ++ wJArr k a_p3 z_p3 p3_0) H locs := hW
    have hf := oF hcd hf
    by_cases hc : cd_2 = 1
    · have hf := oT hc hf
      subst hc
      refine k_catch (cd := 1) hN E htab [] (0, 10, 13, 13) [] rfl (fun z hz => by simp at hz) (by decide) (by decide) rfl (by decide) tm_752 tm_763 hce hcv hcls ?_
      refine lv_astore (lv' := [(4, .ref q9), (0, .ref (a_p0 0)), (1, .int v1_0), (2, .int v2_0), (3, .ref (a_p3 0))]) E.hx E.hb dL_loan_13 hl (by decide) rfl (fun ls hl => ?_)
      refine lv_iconst (v := (1 : Int32)) E.hx E.hb dL_loan_15 ic_1 ?_
      exact hret _ p3_0 _ _ _ _ _ _ hW (Option.some.inj hf).symm rfl (by decide) (by decide) dL_loan_16
    have hf := oF hc hf
    exact o0 hf
  cases hp
  have hW : WD k A s.heap (wMCo k a_p0 (a_p0in 0) (a_p0ou 0) (a_p0ru 0) (a_p0no 0) (a_p0fo 0) (a_p0rd 0) (a_p0pa 0) sv_p0 p0_0 ++ wCourt k a_p0no p0no_0 ++ wJArr k a_p3 z_p3 p3_0) H locs := hW
  have hf := oT rfl hf
  refine lv_i2l (v := (r_1).toInt64) E.hx E.hb dL_loan_8 rfl ?_
  obtain ⟨hin, hf⟩ := oI hf
  obtain ⟨p3_3, ep3_3, hf⟩ := oL hf
  refine k_last (ws2 := wMCo k a_p0 (a_p0in 0) (a_p0ou 0) (a_p0ru 0) (a_p0no 0) (a_p0fo 0) (a_p0rd 0) (a_p0pa 0) sv_p0 p0_0 ++ wCourt k a_p0no p0no_0 ++ wJArr k a_p3 z_p3 p3_3) E hW 13 rfl hin dL_loan_9 (by rw [ep3_3]; rfl) (fun H locs hW => ?_)
  refine lv_goto (tgt := 17) E.hx E.hb dL_loan_10 (by decide) ?_
  refine lv_iconst (v := (0 : Int32)) E.hx E.hb dL_loan_17 ic_0 ?_
  exact hret _ p3_3 _ _ _ _ _ _ hW (Option.some.inj hf).symm rfl (by decide) (by decide) dL_loan_18
def f_L_page (n : Nat) (sv_p0 : Value) (p0_0 : OS) (p0ru_0 : OS) (p0no_0 : OS) (z_p2 : Nat) (p2_0 : Nat → Int64) (v1_0 : Int32) : Option ((Nat → Int64) × Int32) :=
  bnd2 (f_X8_page n sv_p0 p0_0 p0ru_0 p0no_0 v1_0) (fun (r_1 : Int32) (cd_2 : Nat) =>
  if cd_2 = 0 then (
  gI z_p2 (0 : Int32) (Let (vp_updL p2_0 (0 : Int32).toNatClampNeg ((r_1).toInt64)) (fun p2_3 : Nat → Int64 =>
  some (p2_3, (0 : Int32))))) else (
  if cd_2 = 1 then (
  some (p2_0, (1 : Int32))) else (none)))
set_option maxHeartbeats 4000000 in
set_option maxRecDepth 100000 in
theorem c_L_page (n : Nat) (l : Launch) (k : KT) (hN : CCH k) (hx : XH l k) (a_p0 : Nat → Nat) (a_p0in : Nat → Nat) (a_p0ou : Nat → Nat) (a_p0ru : Nat → Nat) (a_p0no : Nat → Nat) (a_p0fo : Nat → Nat) (a_p0rd : Nat → Nat) (a_p0pa : Nat → Nat) (a_p2 : Nat → Nat) (sv_p0 : Value) (p0_0 : OS) (p0ru_0 : OS) (p0no_0 : OS) (z_p2 : Nat) (p2_0 : Nat → Int64) (v1_0 : Int32) (res : ((Nat → Int64) × Int32)) (hf : f_L_page n sv_p0 p0_0 p0ru_0 p0no_0 z_p2 p2_0 v1_0 = some res) : CXW l k yL_page cL_page 4 (some .int) [(0, 9, 12, 13)] 7 1 6 103 [.ref (a_p0 0), .int v1_0, .ref (a_p2 0)] (wMCo k a_p0 (a_p0in 0) (a_p0ou 0) (a_p0ru 0) (a_p0no 0) (a_p0fo 0) (a_p0rd 0) (a_p0pa 0) sv_p0 p0_0 ++ wRules k a_p0ru p0ru_0 ++ wCourt k a_p0no p0no_0 ++ wJArr k a_p2 z_p2 p2_0) (Qi k (fun u : Nat → Int64 => wMCo k a_p0 (a_p0in 0) (a_p0ou 0) (a_p0ru 0) (a_p0no 0) (a_p0fo 0) (a_p0rd 0) (a_p0pa 0) sv_p0 p0_0 ++ wRules k a_p0ru p0ru_0 ++ wCourt k a_p0no p0no_0 ++ wJArr k a_p2 z_p2 u) (fun (r : Int32) (u : Nat → Int64) => res = (u, r))) := by
  refine CXW.ofI (by decide) (Nat.le_of_ble_eq_true rfl) (fun p e s m args below meth c A Q E hnm htab hW hA hret ls hl => ?_)
  have hl : lv_has ls 4 [(0, .ref (a_p0 0)), (1, .int v1_0), (2, .ref (a_p2 0))] := hl
  unfold f_L_page at hf
  refine k_aload_n E hl 2 dL_page_0 rfl ?_
  refine lv_iconst (v := (0 : Int32)) E.hx E.hb dL_page_1 ic_0 ?_
  refine k_aload_n E hl 0 dL_page_2 rfl ?_
  refine k_iload_n E hl 1 dL_page_3 rfl ?_
  obtain ⟨r_1, cd_2, hg, hf⟩ := ob2 hf
  refine k_callXi (As := [.int v1_0]) (rest := [.int (0 : Int32), .ref (a_p2 0)]) (ws2 := fun u => wMCo k a_p0 (a_p0in 0) (a_p0ou 0) (a_p0ru 0) (a_p0no 0) (a_p0fo 0) (a_p0rd 0) (a_p0pa 0) sv_p0 p0_0 ++ wRules k a_p0ru p0ru_0 ++ wCourt k a_p0no p0no_0 ++ wJArr k a_p2 z_p2 p2_0) (c_X8_page n l k hx a_p0 a_p0in a_p0ou a_p0ru a_p0no a_p0fo a_p0rd a_p0pa sv_p0 p0_0 p0ru_0 p0no_0 v1_0 (r_1, cd_2) hg) E vl_L_18 dL_page_4 rfl (List.range' 0 16) 6 0 hW hA hl rfl (blk_map [] (wMCo k a_p0 (a_p0in 0) (a_p0ou 0) (a_p0ru 0) (a_p0no 0) (a_p0fo 0) (a_p0rd 0) (a_p0pa 0) sv_p0 p0_0 ++ wRules k a_p0ru p0ru_0 ++ wCourt k a_p0no p0no_0) (wJArr k a_p2 z_p2 p2_0) 0 16 (by simp only [List.nil_append]) rfl rfl) rfl rfl ⟨by decide, by decide⟩ ⟨by decide, by decide⟩ (Nat.le_of_ble_eq_true rfl) rfl (fun _ => rfl) (fun u => by rw [blk_put [] (wMCo k a_p0 (a_p0in 0) (a_p0ou 0) (a_p0ru 0) (a_p0no 0) (a_p0fo 0) (a_p0rd 0) (a_p0pa 0) sv_p0 p0_0 ++ wRules k a_p0ru p0ru_0 ++ wCourt k a_p0no p0no_0) (wJArr k a_p2 z_p2 p2_0) (wMCo k a_p0 (a_p0in 0) (a_p0ou 0) (a_p0ru 0) (a_p0no 0) (a_p0fo 0) (a_p0rd 0) (a_p0pa 0) sv_p0 p0_0 ++ wRules k a_p0ru p0ru_0 ++ wCourt k a_p0no p0no_0) 0 16 (by simp only [List.nil_append]) rfl rfl rfl]; try simp only [List.nil_append]) (fun cd9 u ce9 q9 H locs hp hW hce hcv hcls => ?_) (fun r u H locs hp hW => ?_)
  · obtain ⟨hcd, hp⟩ := hp
    cases hp
    have hW : WD k A s.heap (wMCo k a_p0 (a_p0in 0) (a_p0ou 0) (a_p0ru 0) (a_p0no 0) (a_p0fo 0) (a_p0rd 0) (a_p0pa 0) sv_p0 p0_0 ++ wRules k a_p0ru p0ru_0 ++ wCourt k a_p0no p0no_0 ++ wJArr k a_p2 z_p2 p2_0) H locs := hW
    have hf := oF hcd hf
    by_cases hc : cd_2 = 1
    · have hf := oT hc hf
      subst hc
      refine k_catch (cd := 1) hN E htab [] (0, 9, 12, 13) [] rfl (fun z hz => by simp at hz) (by decide) (by decide) rfl (by decide) tm_752 tm_763 hce hcv hcls ?_
      refine lv_astore_n (lv' := [(3, .ref q9), (0, .ref (a_p0 0)), (1, .int v1_0), (2, .ref (a_p2 0))]) E.hx E.hb dL_page_12 rfl hl (by decide) rfl (fun ls hl => ?_)
      refine lv_iconst (v := (1 : Int32)) E.hx E.hb dL_page_13 ic_1 ?_
      exact hret _ p2_0 _ _ _ _ _ _ hW (Option.some.inj hf).symm rfl (by decide) (by decide) dL_page_14
    have hf := oF hc hf
    exact o0 hf
  cases hp
  have hW : WD k A s.heap (wMCo k a_p0 (a_p0in 0) (a_p0ou 0) (a_p0ru 0) (a_p0no 0) (a_p0fo 0) (a_p0rd 0) (a_p0pa 0) sv_p0 p0_0 ++ wRules k a_p0ru p0ru_0 ++ wCourt k a_p0no p0no_0 ++ wJArr k a_p2 z_p2 p2_0) H locs := hW
  have hf := oT rfl hf
  refine lv_i2l (v := (r_1).toInt64) E.hx E.hb dL_page_7 rfl ?_
  obtain ⟨hin, hf⟩ := oI hf
  obtain ⟨p2_3, ep2_3, hf⟩ := oL hf
  refine k_last (ws2 := wMCo k a_p0 (a_p0in 0) (a_p0ou 0) (a_p0ru 0) (a_p0no 0) (a_p0fo 0) (a_p0rd 0) (a_p0pa 0) sv_p0 p0_0 ++ wRules k a_p0ru p0ru_0 ++ wCourt k a_p0no p0no_0 ++ wJArr k a_p2 z_p2 p2_3) E hW 16 rfl hin dL_page_8 (by rw [ep2_3]; rfl) (fun H locs hW => ?_)
  refine lv_goto (tgt := 15) E.hx E.hb dL_page_9 (by decide) ?_
  refine lv_iconst (v := (0 : Int32)) E.hx E.hb dL_page_15 ic_0 ?_
  exact hret _ p2_3 _ _ _ _ _ _ hW (Option.some.inj hf).symm rfl (by decide) (by decide) dL_page_16
def f_L_pageOf (n : Nat) (sv_p0 : Value) (p0_0 : OS) (p0no_0 : OS) (z_p3 : Nat) (p3_0 : Nat → Int64) (v1_0 : Int32) (v2_0 : Int32) : Option ((Nat → Int64) × Int32) :=
  bnd2 (f_X8_pageOf n sv_p0 p0_0 p0no_0 v1_0 v2_0) (fun (r_1 : Int32) (cd_2 : Nat) =>
  if cd_2 = 0 then (
  gI z_p3 (0 : Int32) (Let (vp_updL p3_0 (0 : Int32).toNatClampNeg ((r_1).toInt64)) (fun p3_3 : Nat → Int64 =>
  some (p3_3, (0 : Int32))))) else (
  if cd_2 = 1 then (
  some (p3_0, (1 : Int32))) else (if cd_2 = 4 then (
  some (p3_0, (2 : Int32))) else (none))))
set_option maxHeartbeats 4000000 in
set_option maxRecDepth 100000 in
theorem c_L_pageOf (n : Nat) (l : Launch) (k : KT) (hN : CCH k) (hx : XH l k) (a_p0 : Nat → Nat) (a_p0in : Nat → Nat) (a_p0ou : Nat → Nat) (a_p0ru : Nat → Nat) (a_p0no : Nat → Nat) (a_p0fo : Nat → Nat) (a_p0rd : Nat → Nat) (a_p0pa : Nat → Nat) (a_p3 : Nat → Nat) (sv_p0 : Value) (p0_0 : OS) (p0no_0 : OS) (z_p3 : Nat) (p3_0 : Nat → Int64) (v1_0 : Int32) (v2_0 : Int32) (res : ((Nat → Int64) × Int32)) (hf : f_L_pageOf n sv_p0 p0_0 p0no_0 z_p3 p3_0 v1_0 v2_0 = some res) : CXW l k yL_pageOf cL_pageOf 5 (some .int) [(0, 10, 13, 13), (0, 10, 17, 25)] 8 2 12 126 [.ref (a_p0 0), .int v1_0, .int v2_0, .ref (a_p3 0)] (wMCo k a_p0 (a_p0in 0) (a_p0ou 0) (a_p0ru 0) (a_p0no 0) (a_p0fo 0) (a_p0rd 0) (a_p0pa 0) sv_p0 p0_0 ++ wCourt k a_p0no p0no_0 ++ wJArr k a_p3 z_p3 p3_0) (Qi k (fun u : Nat → Int64 => wMCo k a_p0 (a_p0in 0) (a_p0ou 0) (a_p0ru 0) (a_p0no 0) (a_p0fo 0) (a_p0rd 0) (a_p0pa 0) sv_p0 p0_0 ++ wCourt k a_p0no p0no_0 ++ wJArr k a_p3 z_p3 u) (fun (r : Int32) (u : Nat → Int64) => res = (u, r))) := by
  refine CXW.ofI (by decide) (Nat.le_of_ble_eq_true rfl) (fun p e s m args below meth c A Q E hnm htab hW hA hret ls hl => ?_)
  have hl : lv_has ls 5 [(0, .ref (a_p0 0)), (1, .int v1_0), (2, .int v2_0), (3, .ref (a_p3 0))] := hl
  unfold f_L_pageOf at hf
  refine k_aload_n E hl 3 dL_pageOf_0 rfl ?_
  refine lv_iconst (v := (0 : Int32)) E.hx E.hb dL_pageOf_1 ic_0 ?_
  refine k_aload_n E hl 0 dL_pageOf_2 rfl ?_
  refine k_iload_n E hl 1 dL_pageOf_3 rfl ?_
  refine k_iload_n E hl 2 dL_pageOf_4 rfl ?_
  obtain ⟨r_1, cd_2, hg, hf⟩ := ob2 hf
  refine k_callXi (As := [.int v1_0, .int v2_0]) (rest := [.int (0 : Int32), .ref (a_p3 0)]) (ws2 := fun u => wMCo k a_p0 (a_p0in 0) (a_p0ou 0) (a_p0ru 0) (a_p0no 0) (a_p0fo 0) (a_p0rd 0) (a_p0pa 0) sv_p0 p0_0 ++ wCourt k a_p0no p0no_0 ++ wJArr k a_p3 z_p3 p3_0) (c_X8_pageOf n l k hx a_p0 a_p0in a_p0ou a_p0ru a_p0no a_p0fo a_p0rd a_p0pa sv_p0 p0_0 p0no_0 v1_0 v2_0 (r_1, cd_2) hg) E vl_L_22 dL_pageOf_5 rfl (List.range' 0 13) 6 0 hW hA hl rfl (blk_map [] (wMCo k a_p0 (a_p0in 0) (a_p0ou 0) (a_p0ru 0) (a_p0no 0) (a_p0fo 0) (a_p0rd 0) (a_p0pa 0) sv_p0 p0_0 ++ wCourt k a_p0no p0no_0) (wJArr k a_p3 z_p3 p3_0) 0 13 (by simp only [List.nil_append]) rfl rfl) rfl rfl ⟨by decide, by decide⟩ ⟨by decide, by decide⟩ (Nat.le_of_ble_eq_true rfl) rfl (fun _ => rfl) (fun u => by rw [blk_put [] (wMCo k a_p0 (a_p0in 0) (a_p0ou 0) (a_p0ru 0) (a_p0no 0) (a_p0fo 0) (a_p0rd 0) (a_p0pa 0) sv_p0 p0_0 ++ wCourt k a_p0no p0no_0) (wJArr k a_p3 z_p3 p3_0) (wMCo k a_p0 (a_p0in 0) (a_p0ou 0) (a_p0ru 0) (a_p0no 0) (a_p0fo 0) (a_p0rd 0) (a_p0pa 0) sv_p0 p0_0 ++ wCourt k a_p0no p0no_0) 0 13 (by simp only [List.nil_append]) rfl rfl rfl]; try simp only [List.nil_append]) (fun cd9 u ce9 q9 H locs hp hW hce hcv hcls => ?_) (fun r u H locs hp hW => ?_)
  · obtain ⟨hcd, hp⟩ := hp
    cases hp
    have hW : WD k A s.heap (wMCo k a_p0 (a_p0in 0) (a_p0ou 0) (a_p0ru 0) (a_p0no 0) (a_p0fo 0) (a_p0rd 0) (a_p0pa 0) sv_p0 p0_0 ++ wCourt k a_p0no p0no_0 ++ wJArr k a_p3 z_p3 p3_0) H locs := hW
    have hf := oF hcd hf
    by_cases hc : cd_2 = 1
    · have hf := oT hc hf
      subst hc
      refine k_catch (cd := 1) hN E htab [] (0, 10, 13, 13) [(0, 10, 17, 25)] rfl (fun z hz => by simp at hz) (by decide) (by decide) rfl (by decide) tm_752 tm_763 hce hcv hcls ?_
      refine lv_astore (lv' := [(4, .ref q9), (0, .ref (a_p0 0)), (1, .int v1_0), (2, .int v2_0), (3, .ref (a_p3 0))]) E.hx E.hb dL_pageOf_13 hl (by decide) rfl (fun ls hl => ?_)
      refine lv_iconst (v := (1 : Int32)) E.hx E.hb dL_pageOf_15 ic_1 ?_
      exact hret _ p3_0 _ _ _ _ _ _ hW (Option.some.inj hf).symm rfl (by decide) (by decide) dL_pageOf_16
    have hf := oF hc hf
    by_cases hc : cd_2 = 4
    · have hf := oT hc hf
      subst hc
      refine k_catch (cd := 4) hN E htab [(0, 10, 13, 13)] (0, 10, 17, 25) [] rfl (by intro z hz; simp only [List.mem_cons, List.not_mem_nil, or_false] at hz; subst hz; exact ⟨by decide, 1, by decide, by decide, by decide, tm_752⟩) (by decide) (by decide) rfl (by decide) tm_864 tm_875 hce hcv hcls ?_
      refine lv_astore (lv' := [(4, .ref q9), (0, .ref (a_p0 0)), (1, .int v1_0), (2, .int v2_0), (3, .ref (a_p3 0))]) E.hx E.hb dL_pageOf_17 hl (by decide) rfl (fun ls hl => ?_)
      refine lv_iconst (v := (2 : Int32)) E.hx E.hb dL_pageOf_19 ic_2 ?_
      exact hret _ p3_0 _ _ _ _ _ _ hW (Option.some.inj hf).symm rfl (by decide) (by decide) dL_pageOf_20
    have hf := oF hc hf
    exact o0 hf
  cases hp
  have hW : WD k A s.heap (wMCo k a_p0 (a_p0in 0) (a_p0ou 0) (a_p0ru 0) (a_p0no 0) (a_p0fo 0) (a_p0rd 0) (a_p0pa 0) sv_p0 p0_0 ++ wCourt k a_p0no p0no_0 ++ wJArr k a_p3 z_p3 p3_0) H locs := hW
  have hf := oT rfl hf
  refine lv_i2l (v := (r_1).toInt64) E.hx E.hb dL_pageOf_8 rfl ?_
  obtain ⟨hin, hf⟩ := oI hf
  obtain ⟨p3_3, ep3_3, hf⟩ := oL hf
  refine k_last (ws2 := wMCo k a_p0 (a_p0in 0) (a_p0ou 0) (a_p0ru 0) (a_p0no 0) (a_p0fo 0) (a_p0rd 0) (a_p0pa 0) sv_p0 p0_0 ++ wCourt k a_p0no p0no_0 ++ wJArr k a_p3 z_p3 p3_3) E hW 13 rfl hin dL_pageOf_9 (by rw [ep3_3]; rfl) (fun H locs hW => ?_)
  refine lv_goto (tgt := 21) E.hx E.hb dL_pageOf_10 (by decide) ?_
  refine lv_iconst (v := (0 : Int32)) E.hx E.hb dL_pageOf_21 ic_0 ?_
  exact hret _ p3_3 _ _ _ _ _ _ hW (Option.some.inj hf).symm rfl (by decide) (by decide) dL_pageOf_22
def f_L_pieces (n : Nat) (sv_p0 : Value) (p0_0 : OS) (p0no_0 : OS) (z_p2 : Nat) (p2_0 : Nat → Int64) (v1_0 : Int32) : Option ((Nat → Int64) × Int32) :=
  bnd2 (f_X8_pieces n sv_p0 p0_0 p0no_0 v1_0) (fun (r_1 : Int32) (cd_2 : Nat) =>
  if cd_2 = 0 then (
  gI z_p2 (0 : Int32) (Let (vp_updL p2_0 (0 : Int32).toNatClampNeg ((r_1).toInt64)) (fun p2_3 : Nat → Int64 =>
  some (p2_3, (0 : Int32))))) else (
  if cd_2 = 1 then (
  some (p2_0, (1 : Int32))) else (none)))
set_option maxHeartbeats 4000000 in
set_option maxRecDepth 100000 in
theorem c_L_pieces (n : Nat) (l : Launch) (k : KT) (hN : CCH k) (hx : XH l k) (a_p0 : Nat → Nat) (a_p0in : Nat → Nat) (a_p0ou : Nat → Nat) (a_p0ru : Nat → Nat) (a_p0no : Nat → Nat) (a_p0fo : Nat → Nat) (a_p0rd : Nat → Nat) (a_p0pa : Nat → Nat) (a_p2 : Nat → Nat) (sv_p0 : Value) (p0_0 : OS) (p0no_0 : OS) (z_p2 : Nat) (p2_0 : Nat → Int64) (v1_0 : Int32) (res : ((Nat → Int64) × Int32)) (hf : f_L_pieces n sv_p0 p0_0 p0no_0 z_p2 p2_0 v1_0 = some res) : CXW l k yL_pieces cL_pieces 4 (some .int) [(0, 9, 12, 13)] 8 1 6 124 [.ref (a_p0 0), .int v1_0, .ref (a_p2 0)] (wMCo k a_p0 (a_p0in 0) (a_p0ou 0) (a_p0ru 0) (a_p0no 0) (a_p0fo 0) (a_p0rd 0) (a_p0pa 0) sv_p0 p0_0 ++ wCourt k a_p0no p0no_0 ++ wJArr k a_p2 z_p2 p2_0) (Qi k (fun u : Nat → Int64 => wMCo k a_p0 (a_p0in 0) (a_p0ou 0) (a_p0ru 0) (a_p0no 0) (a_p0fo 0) (a_p0rd 0) (a_p0pa 0) sv_p0 p0_0 ++ wCourt k a_p0no p0no_0 ++ wJArr k a_p2 z_p2 u) (fun (r : Int32) (u : Nat → Int64) => res = (u, r))) := by
  refine CXW.ofI (by decide) (Nat.le_of_ble_eq_true rfl) (fun p e s m args below meth c A Q E hnm htab hW hA hret ls hl => ?_)
  have hl : lv_has ls 4 [(0, .ref (a_p0 0)), (1, .int v1_0), (2, .ref (a_p2 0))] := hl
  unfold f_L_pieces at hf
  refine k_aload_n E hl 2 dL_pieces_0 rfl ?_
  refine lv_iconst (v := (0 : Int32)) E.hx E.hb dL_pieces_1 ic_0 ?_
  refine k_aload_n E hl 0 dL_pieces_2 rfl ?_
  refine k_iload_n E hl 1 dL_pieces_3 rfl ?_
  obtain ⟨r_1, cd_2, hg, hf⟩ := ob2 hf
  refine k_callXi (As := [.int v1_0]) (rest := [.int (0 : Int32), .ref (a_p2 0)]) (ws2 := fun u => wMCo k a_p0 (a_p0in 0) (a_p0ou 0) (a_p0ru 0) (a_p0no 0) (a_p0fo 0) (a_p0rd 0) (a_p0pa 0) sv_p0 p0_0 ++ wCourt k a_p0no p0no_0 ++ wJArr k a_p2 z_p2 p2_0) (c_X8_pieces n l k hx a_p0 a_p0in a_p0ou a_p0ru a_p0no a_p0fo a_p0rd a_p0pa sv_p0 p0_0 p0no_0 v1_0 (r_1, cd_2) hg) E vl_L_27 dL_pieces_4 rfl (List.range' 0 13) 6 0 hW hA hl rfl (blk_map [] (wMCo k a_p0 (a_p0in 0) (a_p0ou 0) (a_p0ru 0) (a_p0no 0) (a_p0fo 0) (a_p0rd 0) (a_p0pa 0) sv_p0 p0_0 ++ wCourt k a_p0no p0no_0) (wJArr k a_p2 z_p2 p2_0) 0 13 (by simp only [List.nil_append]) rfl rfl) rfl rfl ⟨by decide, by decide⟩ ⟨by decide, by decide⟩ (Nat.le_of_ble_eq_true rfl) rfl (fun _ => rfl) (fun u => by rw [blk_put [] (wMCo k a_p0 (a_p0in 0) (a_p0ou 0) (a_p0ru 0) (a_p0no 0) (a_p0fo 0) (a_p0rd 0) (a_p0pa 0) sv_p0 p0_0 ++ wCourt k a_p0no p0no_0) (wJArr k a_p2 z_p2 p2_0) (wMCo k a_p0 (a_p0in 0) (a_p0ou 0) (a_p0ru 0) (a_p0no 0) (a_p0fo 0) (a_p0rd 0) (a_p0pa 0) sv_p0 p0_0 ++ wCourt k a_p0no p0no_0) 0 13 (by simp only [List.nil_append]) rfl rfl rfl]; try simp only [List.nil_append]) (fun cd9 u ce9 q9 H locs hp hW hce hcv hcls => ?_) (fun r u H locs hp hW => ?_)
  · obtain ⟨hcd, hp⟩ := hp
    cases hp
    have hW : WD k A s.heap (wMCo k a_p0 (a_p0in 0) (a_p0ou 0) (a_p0ru 0) (a_p0no 0) (a_p0fo 0) (a_p0rd 0) (a_p0pa 0) sv_p0 p0_0 ++ wCourt k a_p0no p0no_0 ++ wJArr k a_p2 z_p2 p2_0) H locs := hW
    have hf := oF hcd hf
    by_cases hc : cd_2 = 1
    · have hf := oT hc hf
      subst hc
      refine k_catch (cd := 1) hN E htab [] (0, 9, 12, 13) [] rfl (fun z hz => by simp at hz) (by decide) (by decide) rfl (by decide) tm_752 tm_763 hce hcv hcls ?_
      refine lv_astore_n (lv' := [(3, .ref q9), (0, .ref (a_p0 0)), (1, .int v1_0), (2, .ref (a_p2 0))]) E.hx E.hb dL_pieces_12 rfl hl (by decide) rfl (fun ls hl => ?_)
      refine lv_iconst (v := (1 : Int32)) E.hx E.hb dL_pieces_13 ic_1 ?_
      exact hret _ p2_0 _ _ _ _ _ _ hW (Option.some.inj hf).symm rfl (by decide) (by decide) dL_pieces_14
    have hf := oF hc hf
    exact o0 hf
  cases hp
  have hW : WD k A s.heap (wMCo k a_p0 (a_p0in 0) (a_p0ou 0) (a_p0ru 0) (a_p0no 0) (a_p0fo 0) (a_p0rd 0) (a_p0pa 0) sv_p0 p0_0 ++ wCourt k a_p0no p0no_0 ++ wJArr k a_p2 z_p2 p2_0) H locs := hW
  have hf := oT rfl hf
  refine lv_i2l (v := (r_1).toInt64) E.hx E.hb dL_pieces_7 rfl ?_
  obtain ⟨hin, hf⟩ := oI hf
  obtain ⟨p2_3, ep2_3, hf⟩ := oL hf
  refine k_last (ws2 := wMCo k a_p0 (a_p0in 0) (a_p0ou 0) (a_p0ru 0) (a_p0no 0) (a_p0fo 0) (a_p0rd 0) (a_p0pa 0) sv_p0 p0_0 ++ wCourt k a_p0no p0no_0 ++ wJArr k a_p2 z_p2 p2_3) E hW 13 rfl hin dL_pieces_8 (by rw [ep2_3]; rfl) (fun H locs hW => ?_)
  refine lv_goto (tgt := 15) E.hx E.hb dL_pieces_9 (by decide) ?_
  refine lv_iconst (v := (0 : Int32)) E.hx E.hb dL_pieces_15 ic_0 ?_
  exact hret _ p2_3 _ _ _ _ _ _ hW (Option.some.inj hf).symm rfl (by decide) (by decide) dL_pieces_16
def f_L_claim (n : Nat) (sv_p0 : Value) (p0_0 : OS) (p0no_0 : OS) (z_p3 : Nat) (p3_0 : Nat → Int64) (v1_0 : Int32) (v2_0 : Int32) : Option ((Nat → Int64) × Int32) :=
  bnd2 (f_X8_claim n sv_p0 p0_0 p0no_0 v1_0 v2_0) (fun (r_1 : Int32) (cd_2 : Nat) =>
  if cd_2 = 0 then (
  gI z_p3 (0 : Int32) (Let (vp_updL p3_0 (0 : Int32).toNatClampNeg ((r_1).toInt64)) (fun p3_3 : Nat → Int64 =>
  some (p3_3, (0 : Int32))))) else (
  if cd_2 = 1 then (
  some (p3_0, (1 : Int32))) else (none)))
set_option maxHeartbeats 4000000 in
set_option maxRecDepth 100000 in
theorem c_L_claim (n : Nat) (l : Launch) (k : KT) (hN : CCH k) (hx : XH l k) (a_p0 : Nat → Nat) (a_p0in : Nat → Nat) (a_p0ou : Nat → Nat) (a_p0ru : Nat → Nat) (a_p0no : Nat → Nat) (a_p0fo : Nat → Nat) (a_p0rd : Nat → Nat) (a_p0pa : Nat → Nat) (a_p3 : Nat → Nat) (sv_p0 : Value) (p0_0 : OS) (p0no_0 : OS) (z_p3 : Nat) (p3_0 : Nat → Int64) (v1_0 : Int32) (v2_0 : Int32) (res : ((Nat → Int64) × Int32)) (hf : f_L_claim n sv_p0 p0_0 p0no_0 z_p3 p3_0 v1_0 v2_0 = some res) : CXW l k yL_claim cL_claim 5 (some .int) [(0, 10, 13, 13)] 8 2 12 125 [.ref (a_p0 0), .int v1_0, .int v2_0, .ref (a_p3 0)] (wMCo k a_p0 (a_p0in 0) (a_p0ou 0) (a_p0ru 0) (a_p0no 0) (a_p0fo 0) (a_p0rd 0) (a_p0pa 0) sv_p0 p0_0 ++ wCourt k a_p0no p0no_0 ++ wJArr k a_p3 z_p3 p3_0) (Qi k (fun u : Nat → Int64 => wMCo k a_p0 (a_p0in 0) (a_p0ou 0) (a_p0ru 0) (a_p0no 0) (a_p0fo 0) (a_p0rd 0) (a_p0pa 0) sv_p0 p0_0 ++ wCourt k a_p0no p0no_0 ++ wJArr k a_p3 z_p3 u) (fun (r : Int32) (u : Nat → Int64) => res = (u, r))) := by
  refine CXW.ofI (by decide) (Nat.le_of_ble_eq_true rfl) (fun p e s m args below meth c A Q E hnm htab hW hA hret ls hl => ?_)
  have hl : lv_has ls 5 [(0, .ref (a_p0 0)), (1, .int v1_0), (2, .int v2_0), (3, .ref (a_p3 0))] := hl
  unfold f_L_claim at hf
  refine k_aload_n E hl 3 dL_claim_0 rfl ?_
  refine lv_iconst (v := (0 : Int32)) E.hx E.hb dL_claim_1 ic_0 ?_
  refine k_aload_n E hl 0 dL_claim_2 rfl ?_
  refine k_iload_n E hl 1 dL_claim_3 rfl ?_
  refine k_iload_n E hl 2 dL_claim_4 rfl ?_
  obtain ⟨r_1, cd_2, hg, hf⟩ := ob2 hf
  refine k_callXi (As := [.int v1_0, .int v2_0]) (rest := [.int (0 : Int32), .ref (a_p3 0)]) (ws2 := fun u => wMCo k a_p0 (a_p0in 0) (a_p0ou 0) (a_p0ru 0) (a_p0no 0) (a_p0fo 0) (a_p0rd 0) (a_p0pa 0) sv_p0 p0_0 ++ wCourt k a_p0no p0no_0 ++ wJArr k a_p3 z_p3 p3_0) (c_X8_claim n l k hx a_p0 a_p0in a_p0ou a_p0ru a_p0no a_p0fo a_p0rd a_p0pa sv_p0 p0_0 p0no_0 v1_0 v2_0 (r_1, cd_2) hg) E vl_L_30 dL_claim_5 rfl (List.range' 0 13) 6 0 hW hA hl rfl (blk_map [] (wMCo k a_p0 (a_p0in 0) (a_p0ou 0) (a_p0ru 0) (a_p0no 0) (a_p0fo 0) (a_p0rd 0) (a_p0pa 0) sv_p0 p0_0 ++ wCourt k a_p0no p0no_0) (wJArr k a_p3 z_p3 p3_0) 0 13 (by simp only [List.nil_append]) rfl rfl) rfl rfl ⟨by decide, by decide⟩ ⟨by decide, by decide⟩ (Nat.le_of_ble_eq_true rfl) rfl (fun _ => rfl) (fun u => by rw [blk_put [] (wMCo k a_p0 (a_p0in 0) (a_p0ou 0) (a_p0ru 0) (a_p0no 0) (a_p0fo 0) (a_p0rd 0) (a_p0pa 0) sv_p0 p0_0 ++ wCourt k a_p0no p0no_0) (wJArr k a_p3 z_p3 p3_0) (wMCo k a_p0 (a_p0in 0) (a_p0ou 0) (a_p0ru 0) (a_p0no 0) (a_p0fo 0) (a_p0rd 0) (a_p0pa 0) sv_p0 p0_0 ++ wCourt k a_p0no p0no_0) 0 13 (by simp only [List.nil_append]) rfl rfl rfl]; try simp only [List.nil_append]) (fun cd9 u ce9 q9 H locs hp hW hce hcv hcls => ?_) (fun r u H locs hp hW => ?_)
  · obtain ⟨hcd, hp⟩ := hp
    cases hp
    have hW : WD k A s.heap (wMCo k a_p0 (a_p0in 0) (a_p0ou 0) (a_p0ru 0) (a_p0no 0) (a_p0fo 0) (a_p0rd 0) (a_p0pa 0) sv_p0 p0_0 ++ wCourt k a_p0no p0no_0 ++ wJArr k a_p3 z_p3 p3_0) H locs := hW
    have hf := oF hcd hf
    by_cases hc : cd_2 = 1
    · have hf := oT hc hf
      subst hc
      refine k_catch (cd := 1) hN E htab [] (0, 10, 13, 13) [] rfl (fun z hz => by simp at hz) (by decide) (by decide) rfl (by decide) tm_752 tm_763 hce hcv hcls ?_
      refine lv_astore (lv' := [(4, .ref q9), (0, .ref (a_p0 0)), (1, .int v1_0), (2, .int v2_0), (3, .ref (a_p3 0))]) E.hx E.hb dL_claim_13 hl (by decide) rfl (fun ls hl => ?_)
      refine lv_iconst (v := (1 : Int32)) E.hx E.hb dL_claim_15 ic_1 ?_
      exact hret _ p3_0 _ _ _ _ _ _ hW (Option.some.inj hf).symm rfl (by decide) (by decide) dL_claim_16
    have hf := oF hc hf
    exact o0 hf
  cases hp
  have hW : WD k A s.heap (wMCo k a_p0 (a_p0in 0) (a_p0ou 0) (a_p0ru 0) (a_p0no 0) (a_p0fo 0) (a_p0rd 0) (a_p0pa 0) sv_p0 p0_0 ++ wCourt k a_p0no p0no_0 ++ wJArr k a_p3 z_p3 p3_0) H locs := hW
  have hf := oT rfl hf
  refine lv_i2l (v := (r_1).toInt64) E.hx E.hb dL_claim_8 rfl ?_
  obtain ⟨hin, hf⟩ := oI hf
  obtain ⟨p3_3, ep3_3, hf⟩ := oL hf
  refine k_last (ws2 := wMCo k a_p0 (a_p0in 0) (a_p0ou 0) (a_p0ru 0) (a_p0no 0) (a_p0fo 0) (a_p0rd 0) (a_p0pa 0) sv_p0 p0_0 ++ wCourt k a_p0no p0no_0 ++ wJArr k a_p3 z_p3 p3_3) E hW 13 rfl hin dL_claim_9 (by rw [ep3_3]; rfl) (fun H locs hW => ?_)
  refine lv_goto (tgt := 17) E.hx E.hb dL_claim_10 (by decide) ?_
  refine lv_iconst (v := (0 : Int32)) E.hx E.hb dL_claim_17 ic_0 ?_
  exact hret _ p3_3 _ _ _ _ _ _ hW (Option.some.inj hf).symm rfl (by decide) (by decide) dL_claim_18
def f_L_waiting (n : Nat) (sv_p0 : Value) (p0_0 : OS) (p0no_0 : OS) (z_p2 : Nat) (p2_0 : Nat → Int64) (v1_0 : Int32) : Option (OS × (Nat → Int64) × Int32) :=
  bnd3 (f_X8_waiting n sv_p0 p0_0 p0no_0 v1_0) (fun (p0no_1 : OS) (r_2 : Int32) (cd_3 : Nat) =>
  if cd_3 = 0 then (
  gI z_p2 (0 : Int32) (Let (vp_updL p2_0 (0 : Int32).toNatClampNeg ((r_2).toInt64)) (fun p2_4 : Nat → Int64 =>
  some (p0no_1, p2_4, (0 : Int32))))) else (
  if cd_3 = 4 then (
  some (p0no_1, p2_0, (1 : Int32))) else (none)))
set_option maxHeartbeats 4000000 in
set_option maxRecDepth 100000 in
theorem c_L_waiting (n : Nat) (l : Launch) (k : KT) (hN : CCH k) (hx : XH l k) (a_p0 : Nat → Nat) (a_p0in : Nat → Nat) (a_p0ou : Nat → Nat) (a_p0ru : Nat → Nat) (a_p0no : Nat → Nat) (a_p0fo : Nat → Nat) (a_p0rd : Nat → Nat) (a_p0pa : Nat → Nat) (a_p2 : Nat → Nat) (sv_p0 : Value) (p0_0 : OS) (p0no_0 : OS) (z_p2 : Nat) (p2_0 : Nat → Int64) (v1_0 : Int32) (res : (OS × (Nat → Int64) × Int32)) (hf : f_L_waiting n sv_p0 p0_0 p0no_0 z_p2 p2_0 v1_0 = some res) : CXW l k yL_waiting cL_waiting 4 (some .int) [(0, 9, 12, 25)] 7 1 6 104 [.ref (a_p0 0), .int v1_0, .ref (a_p2 0)] (wMCo k a_p0 (a_p0in 0) (a_p0ou 0) (a_p0ru 0) (a_p0no 0) (a_p0fo 0) (a_p0rd 0) (a_p0pa 0) sv_p0 p0_0 ++ wCourt k a_p0no p0no_0 ++ wJArr k a_p2 z_p2 p2_0) (Qi k (fun u : (OS) × (Nat → Int64) => wMCo k a_p0 (a_p0in 0) (a_p0ou 0) (a_p0ru 0) (a_p0no 0) (a_p0fo 0) (a_p0rd 0) (a_p0pa 0) sv_p0 p0_0 ++ wCourt k a_p0no (u.1) ++ wJArr k a_p2 z_p2 (u.2)) (fun (r : Int32) (u : (OS) × (Nat → Int64)) => res = (u.1, u.2, r))) := by
  refine CXW.ofI (by decide) (Nat.le_of_ble_eq_true rfl) (fun p e s m args below meth c A Q E hnm htab hW hA hret ls hl => ?_)
  have hl : lv_has ls 4 [(0, .ref (a_p0 0)), (1, .int v1_0), (2, .ref (a_p2 0))] := hl
  unfold f_L_waiting at hf
  refine k_aload_n E hl 2 dL_waiting_0 rfl ?_
  refine lv_iconst (v := (0 : Int32)) E.hx E.hb dL_waiting_1 ic_0 ?_
  refine k_aload_n E hl 0 dL_waiting_2 rfl ?_
  refine k_iload_n E hl 1 dL_waiting_3 rfl ?_
  obtain ⟨p0no_1, r_2, cd_3, hg, hf⟩ := ob3 hf
  refine k_callXi (As := [.int v1_0]) (rest := [.int (0 : Int32), .ref (a_p2 0)]) (ws2 := fun u => wMCo k a_p0 (a_p0in 0) (a_p0ou 0) (a_p0ru 0) (a_p0no 0) (a_p0fo 0) (a_p0rd 0) (a_p0pa 0) sv_p0 p0_0 ++ wCourt k a_p0no (u) ++ wJArr k a_p2 z_p2 p2_0) (c_X8_waiting n l k hx a_p0 a_p0in a_p0ou a_p0ru a_p0no a_p0fo a_p0rd a_p0pa sv_p0 p0_0 p0no_0 v1_0 (p0no_1, r_2, cd_3) hg) E vl_L_33 dL_waiting_4 rfl (List.range' 0 13) 6 0 hW hA hl rfl (blk_map [] (wMCo k a_p0 (a_p0in 0) (a_p0ou 0) (a_p0ru 0) (a_p0no 0) (a_p0fo 0) (a_p0rd 0) (a_p0pa 0) sv_p0 p0_0 ++ wCourt k a_p0no p0no_0) (wJArr k a_p2 z_p2 p2_0) 0 13 (by simp only [List.nil_append]) rfl rfl) rfl rfl ⟨by decide, by decide⟩ ⟨by decide, by decide⟩ (Nat.le_of_ble_eq_true rfl) rfl (fun _ => rfl) (fun u => by rw [blk_put [] (wMCo k a_p0 (a_p0in 0) (a_p0ou 0) (a_p0ru 0) (a_p0no 0) (a_p0fo 0) (a_p0rd 0) (a_p0pa 0) sv_p0 p0_0 ++ wCourt k a_p0no p0no_0) (wJArr k a_p2 z_p2 p2_0) (wMCo k a_p0 (a_p0in 0) (a_p0ou 0) (a_p0ru 0) (a_p0no 0) (a_p0fo 0) (a_p0rd 0) (a_p0pa 0) sv_p0 p0_0 ++ wCourt k a_p0no (u)) 0 13 (by simp only [List.nil_append]) rfl rfl rfl]; try simp only [List.nil_append]) (fun cd9 u ce9 q9 H locs hp hW hce hcv hcls => ?_) (fun r u H locs hp hW => ?_)
  · obtain ⟨hcd, hp⟩ := hp
    cases hp
    have hW : WD k A s.heap (wMCo k a_p0 (a_p0in 0) (a_p0ou 0) (a_p0ru 0) (a_p0no 0) (a_p0fo 0) (a_p0rd 0) (a_p0pa 0) sv_p0 p0_0 ++ wCourt k a_p0no p0no_1 ++ wJArr k a_p2 z_p2 p2_0) H locs := hW
    have hf := oF hcd hf
    by_cases hc : cd_3 = 4
    · have hf := oT hc hf
      subst hc
      refine k_catch (cd := 4) hN E htab [] (0, 9, 12, 25) [] rfl (fun z hz => by simp at hz) (by decide) (by decide) rfl (by decide) tm_864 tm_875 hce hcv hcls ?_
      refine lv_astore_n (lv' := [(3, .ref q9), (0, .ref (a_p0 0)), (1, .int v1_0), (2, .ref (a_p2 0))]) E.hx E.hb dL_waiting_12 rfl hl (by decide) rfl (fun ls hl => ?_)
      refine lv_iconst (v := (1 : Int32)) E.hx E.hb dL_waiting_13 ic_1 ?_
      exact hret _ (p0no_1, p2_0) _ _ _ _ _ _ hW (Option.some.inj hf).symm rfl (by decide) (by decide) dL_waiting_14
    have hf := oF hc hf
    exact o0 hf
  cases hp
  have hW : WD k A s.heap (wMCo k a_p0 (a_p0in 0) (a_p0ou 0) (a_p0ru 0) (a_p0no 0) (a_p0fo 0) (a_p0rd 0) (a_p0pa 0) sv_p0 p0_0 ++ wCourt k a_p0no p0no_1 ++ wJArr k a_p2 z_p2 p2_0) H locs := hW
  have hf := oT rfl hf
  refine lv_i2l (v := (r_2).toInt64) E.hx E.hb dL_waiting_7 rfl ?_
  obtain ⟨hin, hf⟩ := oI hf
  obtain ⟨p2_4, ep2_4, hf⟩ := oL hf
  refine k_last (ws2 := wMCo k a_p0 (a_p0in 0) (a_p0ou 0) (a_p0ru 0) (a_p0no 0) (a_p0fo 0) (a_p0rd 0) (a_p0pa 0) sv_p0 p0_0 ++ wCourt k a_p0no p0no_1 ++ wJArr k a_p2 z_p2 p2_4) E hW 13 rfl hin dL_waiting_8 (by rw [ep2_4]; rfl) (fun H locs hW => ?_)
  refine lv_goto (tgt := 15) E.hx E.hb dL_waiting_9 (by decide) ?_
  refine lv_iconst (v := (0 : Int32)) E.hx E.hb dL_waiting_15 ic_0 ?_
  exact hret _ (p0no_1, p2_4) _ _ _ _ _ _ hW (Option.some.inj hf).symm rfl (by decide) (by decide) dL_waiting_16
def f_L_fine (n : Nat) (sv_p0 : Value) (p0_0 : OS) (p0no_0 : OS) (z_p3 : Nat) (p3_0 : Nat → Int64) (v1_0 : Int32) (v2_0 : Int32) : Option ((Nat → Int64) × Int32) :=
  bnd2 (f_X8_fine n sv_p0 p0_0 p0no_0 v1_0 v2_0) (fun (r_1 : Int32) (cd_2 : Nat) =>
  if cd_2 = 0 then (
  gI z_p3 (0 : Int32) (Let (vp_updL p3_0 (0 : Int32).toNatClampNeg ((r_1).toInt64)) (fun p3_3 : Nat → Int64 =>
  some (p3_3, (0 : Int32))))) else (
  if cd_2 = 2 then (
  some (p3_0, (1 : Int32))) else (if cd_2 = 4 then (
  some (p3_0, (2 : Int32))) else (none))))
set_option maxHeartbeats 4000000 in
set_option maxRecDepth 100000 in
theorem c_L_fine (n : Nat) (l : Launch) (k : KT) (hN : CCH k) (hx : XH l k) (a_p0 : Nat → Nat) (a_p0in : Nat → Nat) (a_p0ou : Nat → Nat) (a_p0ru : Nat → Nat) (a_p0no : Nat → Nat) (a_p0fo : Nat → Nat) (a_p0rd : Nat → Nat) (a_p0pa : Nat → Nat) (a_p3 : Nat → Nat) (sv_p0 : Value) (p0_0 : OS) (p0no_0 : OS) (z_p3 : Nat) (p3_0 : Nat → Int64) (v1_0 : Int32) (v2_0 : Int32) (res : ((Nat → Int64) × Int32)) (hf : f_L_fine n sv_p0 p0_0 p0no_0 z_p3 p3_0 v1_0 v2_0 = some res) : CXW l k yL_fine cL_fine 5 (some .int) [(0, 10, 13, 39), (0, 10, 17, 25)] 8 1 6 125 [.ref (a_p0 0), .int v1_0, .int v2_0, .ref (a_p3 0)] (wMCo k a_p0 (a_p0in 0) (a_p0ou 0) (a_p0ru 0) (a_p0no 0) (a_p0fo 0) (a_p0rd 0) (a_p0pa 0) sv_p0 p0_0 ++ wCourt k a_p0no p0no_0 ++ wJArr k a_p3 z_p3 p3_0) (Qi k (fun u : Nat → Int64 => wMCo k a_p0 (a_p0in 0) (a_p0ou 0) (a_p0ru 0) (a_p0no 0) (a_p0fo 0) (a_p0rd 0) (a_p0pa 0) sv_p0 p0_0 ++ wCourt k a_p0no p0no_0 ++ wJArr k a_p3 z_p3 u) (fun (r : Int32) (u : Nat → Int64) => res = (u, r))) := by
  refine CXW.ofI (by decide) (Nat.le_of_ble_eq_true rfl) (fun p e s m args below meth c A Q E hnm htab hW hA hret ls hl => ?_)
  have hl : lv_has ls 5 [(0, .ref (a_p0 0)), (1, .int v1_0), (2, .int v2_0), (3, .ref (a_p3 0))] := hl
  unfold f_L_fine at hf
  refine k_aload_n E hl 3 dL_fine_0 rfl ?_
  refine lv_iconst (v := (0 : Int32)) E.hx E.hb dL_fine_1 ic_0 ?_
  refine k_aload_n E hl 0 dL_fine_2 rfl ?_
  refine k_iload_n E hl 1 dL_fine_3 rfl ?_
  refine k_iload_n E hl 2 dL_fine_4 rfl ?_
  obtain ⟨r_1, cd_2, hg, hf⟩ := ob2 hf
  refine k_callXi (As := [.int v1_0, .int v2_0]) (rest := [.int (0 : Int32), .ref (a_p3 0)]) (ws2 := fun u => wMCo k a_p0 (a_p0in 0) (a_p0ou 0) (a_p0ru 0) (a_p0no 0) (a_p0fo 0) (a_p0rd 0) (a_p0pa 0) sv_p0 p0_0 ++ wCourt k a_p0no p0no_0 ++ wJArr k a_p3 z_p3 p3_0) (c_X8_fine n l k hx a_p0 a_p0in a_p0ou a_p0ru a_p0no a_p0fo a_p0rd a_p0pa sv_p0 p0_0 p0no_0 v1_0 v2_0 (r_1, cd_2) hg) E vl_L_36 dL_fine_5 rfl (List.range' 0 13) 6 0 hW hA hl rfl (blk_map [] (wMCo k a_p0 (a_p0in 0) (a_p0ou 0) (a_p0ru 0) (a_p0no 0) (a_p0fo 0) (a_p0rd 0) (a_p0pa 0) sv_p0 p0_0 ++ wCourt k a_p0no p0no_0) (wJArr k a_p3 z_p3 p3_0) 0 13 (by simp only [List.nil_append]) rfl rfl) rfl rfl ⟨by decide, by decide⟩ ⟨by decide, by decide⟩ (Nat.le_of_ble_eq_true rfl) rfl (fun _ => rfl) (fun u => by rw [blk_put [] (wMCo k a_p0 (a_p0in 0) (a_p0ou 0) (a_p0ru 0) (a_p0no 0) (a_p0fo 0) (a_p0rd 0) (a_p0pa 0) sv_p0 p0_0 ++ wCourt k a_p0no p0no_0) (wJArr k a_p3 z_p3 p3_0) (wMCo k a_p0 (a_p0in 0) (a_p0ou 0) (a_p0ru 0) (a_p0no 0) (a_p0fo 0) (a_p0rd 0) (a_p0pa 0) sv_p0 p0_0 ++ wCourt k a_p0no p0no_0) 0 13 (by simp only [List.nil_append]) rfl rfl rfl]; try simp only [List.nil_append]) (fun cd9 u ce9 q9 H locs hp hW hce hcv hcls => ?_) (fun r u H locs hp hW => ?_)
  · obtain ⟨hcd, hp⟩ := hp
    cases hp
    have hW : WD k A s.heap (wMCo k a_p0 (a_p0in 0) (a_p0ou 0) (a_p0ru 0) (a_p0no 0) (a_p0fo 0) (a_p0rd 0) (a_p0pa 0) sv_p0 p0_0 ++ wCourt k a_p0no p0no_0 ++ wJArr k a_p3 z_p3 p3_0) H locs := hW
    have hf := oF hcd hf
    by_cases hc : cd_2 = 2
    · have hf := oT hc hf
      subst hc
      refine k_catch (cd := 2) hN E htab [] (0, 10, 13, 39) [(0, 10, 17, 25)] rfl (fun z hz => by simp at hz) (by decide) (by decide) rfl (by decide) tm_936 tm_943 hce hcv hcls ?_
      refine lv_astore (lv' := [(4, .ref q9), (0, .ref (a_p0 0)), (1, .int v1_0), (2, .int v2_0), (3, .ref (a_p3 0))]) E.hx E.hb dL_fine_13 hl (by decide) rfl (fun ls hl => ?_)
      refine lv_iconst (v := (1 : Int32)) E.hx E.hb dL_fine_15 ic_1 ?_
      exact hret _ p3_0 _ _ _ _ _ _ hW (Option.some.inj hf).symm rfl (by decide) (by decide) dL_fine_16
    have hf := oF hc hf
    by_cases hc : cd_2 = 4
    · have hf := oT hc hf
      subst hc
      refine k_catch (cd := 4) hN E htab [(0, 10, 13, 39)] (0, 10, 17, 25) [] rfl (by intro z hz; simp only [List.mem_cons, List.not_mem_nil, or_false] at hz; subst hz; exact ⟨by decide, 2, by decide, by decide, by decide, tm_936⟩) (by decide) (by decide) rfl (by decide) tm_864 tm_875 hce hcv hcls ?_
      refine lv_astore (lv' := [(4, .ref q9), (0, .ref (a_p0 0)), (1, .int v1_0), (2, .int v2_0), (3, .ref (a_p3 0))]) E.hx E.hb dL_fine_17 hl (by decide) rfl (fun ls hl => ?_)
      refine lv_iconst (v := (2 : Int32)) E.hx E.hb dL_fine_19 ic_2 ?_
      exact hret _ p3_0 _ _ _ _ _ _ hW (Option.some.inj hf).symm rfl (by decide) (by decide) dL_fine_20
    have hf := oF hc hf
    exact o0 hf
  cases hp
  have hW : WD k A s.heap (wMCo k a_p0 (a_p0in 0) (a_p0ou 0) (a_p0ru 0) (a_p0no 0) (a_p0fo 0) (a_p0rd 0) (a_p0pa 0) sv_p0 p0_0 ++ wCourt k a_p0no p0no_0 ++ wJArr k a_p3 z_p3 p3_0) H locs := hW
  have hf := oT rfl hf
  refine lv_i2l (v := (r_1).toInt64) E.hx E.hb dL_fine_8 rfl ?_
  obtain ⟨hin, hf⟩ := oI hf
  obtain ⟨p3_3, ep3_3, hf⟩ := oL hf
  refine k_last (ws2 := wMCo k a_p0 (a_p0in 0) (a_p0ou 0) (a_p0ru 0) (a_p0no 0) (a_p0fo 0) (a_p0rd 0) (a_p0pa 0) sv_p0 p0_0 ++ wCourt k a_p0no p0no_0 ++ wJArr k a_p3 z_p3 p3_3) E hW 13 rfl hin dL_fine_9 (by rw [ep3_3]; rfl) (fun H locs hW => ?_)
  refine lv_goto (tgt := 21) E.hx E.hb dL_fine_10 (by decide) ?_
  refine lv_iconst (v := (0 : Int32)) E.hx E.hb dL_fine_21 ic_0 ?_
  exact hret _ p3_3 _ _ _ _ _ _ hW (Option.some.inj hf).symm rfl (by decide) (by decide) dL_fine_22
def f_L_evidence (n : Nat) (sv_p0 : Value) (p0_0 : OS) (p0no_0 : OS) (z_p2 : Nat) (p2_0 : Nat → Int64) (v1_0 : Int32) : Option ((Nat → Int64) × Int32) :=
  bnd2 (f_X8_evidence n sv_p0 p0_0 p0no_0 v1_0) (fun (r_1 : Int32) (cd_2 : Nat) =>
  if cd_2 = 0 then (
  gI z_p2 (0 : Int32) (Let (vp_updL p2_0 (0 : Int32).toNatClampNeg ((r_1).toInt64)) (fun p2_3 : Nat → Int64 =>
  some (p2_3, (0 : Int32))))) else (
  if cd_2 = 4 then (
  some (p2_0, (1 : Int32))) else (none)))
set_option maxHeartbeats 4000000 in
set_option maxRecDepth 100000 in
theorem c_L_evidence (n : Nat) (l : Launch) (k : KT) (hN : CCH k) (hx : XH l k) (a_p0 : Nat → Nat) (a_p0in : Nat → Nat) (a_p0ou : Nat → Nat) (a_p0ru : Nat → Nat) (a_p0no : Nat → Nat) (a_p0fo : Nat → Nat) (a_p0rd : Nat → Nat) (a_p0pa : Nat → Nat) (a_p2 : Nat → Nat) (sv_p0 : Value) (p0_0 : OS) (p0no_0 : OS) (z_p2 : Nat) (p2_0 : Nat → Int64) (v1_0 : Int32) (res : ((Nat → Int64) × Int32)) (hf : f_L_evidence n sv_p0 p0_0 p0no_0 z_p2 p2_0 v1_0 = some res) : CXW l k yL_evidence cL_evidence 4 (some .int) [(0, 9, 12, 25)] 8 1 6 124 [.ref (a_p0 0), .int v1_0, .ref (a_p2 0)] (wMCo k a_p0 (a_p0in 0) (a_p0ou 0) (a_p0ru 0) (a_p0no 0) (a_p0fo 0) (a_p0rd 0) (a_p0pa 0) sv_p0 p0_0 ++ wCourt k a_p0no p0no_0 ++ wJArr k a_p2 z_p2 p2_0) (Qi k (fun u : Nat → Int64 => wMCo k a_p0 (a_p0in 0) (a_p0ou 0) (a_p0ru 0) (a_p0no 0) (a_p0fo 0) (a_p0rd 0) (a_p0pa 0) sv_p0 p0_0 ++ wCourt k a_p0no p0no_0 ++ wJArr k a_p2 z_p2 u) (fun (r : Int32) (u : Nat → Int64) => res = (u, r))) := by
  refine CXW.ofI (by decide) (Nat.le_of_ble_eq_true rfl) (fun p e s m args below meth c A Q E hnm htab hW hA hret ls hl => ?_)
  have hl : lv_has ls 4 [(0, .ref (a_p0 0)), (1, .int v1_0), (2, .ref (a_p2 0))] := hl
  unfold f_L_evidence at hf
  refine k_aload_n E hl 2 dL_evidence_0 rfl ?_
  refine lv_iconst (v := (0 : Int32)) E.hx E.hb dL_evidence_1 ic_0 ?_
  refine k_aload_n E hl 0 dL_evidence_2 rfl ?_
  refine k_iload_n E hl 1 dL_evidence_3 rfl ?_
  obtain ⟨r_1, cd_2, hg, hf⟩ := ob2 hf
  refine k_callXi (As := [.int v1_0]) (rest := [.int (0 : Int32), .ref (a_p2 0)]) (ws2 := fun u => wMCo k a_p0 (a_p0in 0) (a_p0ou 0) (a_p0ru 0) (a_p0no 0) (a_p0fo 0) (a_p0rd 0) (a_p0pa 0) sv_p0 p0_0 ++ wCourt k a_p0no p0no_0 ++ wJArr k a_p2 z_p2 p2_0) (c_X8_evidence n l k hx a_p0 a_p0in a_p0ou a_p0ru a_p0no a_p0fo a_p0rd a_p0pa sv_p0 p0_0 p0no_0 v1_0 (r_1, cd_2) hg) E vl_L_41 dL_evidence_4 rfl (List.range' 0 13) 6 0 hW hA hl rfl (blk_map [] (wMCo k a_p0 (a_p0in 0) (a_p0ou 0) (a_p0ru 0) (a_p0no 0) (a_p0fo 0) (a_p0rd 0) (a_p0pa 0) sv_p0 p0_0 ++ wCourt k a_p0no p0no_0) (wJArr k a_p2 z_p2 p2_0) 0 13 (by simp only [List.nil_append]) rfl rfl) rfl rfl ⟨by decide, by decide⟩ ⟨by decide, by decide⟩ (Nat.le_of_ble_eq_true rfl) rfl (fun _ => rfl) (fun u => by rw [blk_put [] (wMCo k a_p0 (a_p0in 0) (a_p0ou 0) (a_p0ru 0) (a_p0no 0) (a_p0fo 0) (a_p0rd 0) (a_p0pa 0) sv_p0 p0_0 ++ wCourt k a_p0no p0no_0) (wJArr k a_p2 z_p2 p2_0) (wMCo k a_p0 (a_p0in 0) (a_p0ou 0) (a_p0ru 0) (a_p0no 0) (a_p0fo 0) (a_p0rd 0) (a_p0pa 0) sv_p0 p0_0 ++ wCourt k a_p0no p0no_0) 0 13 (by simp only [List.nil_append]) rfl rfl rfl]; try simp only [List.nil_append]) (fun cd9 u ce9 q9 H locs hp hW hce hcv hcls => ?_) (fun r u H locs hp hW => ?_)
  · obtain ⟨hcd, hp⟩ := hp
    cases hp
    have hW : WD k A s.heap (wMCo k a_p0 (a_p0in 0) (a_p0ou 0) (a_p0ru 0) (a_p0no 0) (a_p0fo 0) (a_p0rd 0) (a_p0pa 0) sv_p0 p0_0 ++ wCourt k a_p0no p0no_0 ++ wJArr k a_p2 z_p2 p2_0) H locs := hW
    have hf := oF hcd hf
    by_cases hc : cd_2 = 4
    · have hf := oT hc hf
      subst hc
      refine k_catch (cd := 4) hN E htab [] (0, 9, 12, 25) [] rfl (fun z hz => by simp at hz) (by decide) (by decide) rfl (by decide) tm_864 tm_875 hce hcv hcls ?_
      refine lv_astore_n (lv' := [(3, .ref q9), (0, .ref (a_p0 0)), (1, .int v1_0), (2, .ref (a_p2 0))]) E.hx E.hb dL_evidence_12 rfl hl (by decide) rfl (fun ls hl => ?_)
      refine lv_iconst (v := (1 : Int32)) E.hx E.hb dL_evidence_13 ic_1 ?_
      exact hret _ p2_0 _ _ _ _ _ _ hW (Option.some.inj hf).symm rfl (by decide) (by decide) dL_evidence_14
    have hf := oF hc hf
    exact o0 hf
  cases hp
  have hW : WD k A s.heap (wMCo k a_p0 (a_p0in 0) (a_p0ou 0) (a_p0ru 0) (a_p0no 0) (a_p0fo 0) (a_p0rd 0) (a_p0pa 0) sv_p0 p0_0 ++ wCourt k a_p0no p0no_0 ++ wJArr k a_p2 z_p2 p2_0) H locs := hW
  have hf := oT rfl hf
  refine lv_i2l (v := (r_1).toInt64) E.hx E.hb dL_evidence_7 rfl ?_
  obtain ⟨hin, hf⟩ := oI hf
  obtain ⟨p2_3, ep2_3, hf⟩ := oL hf
  refine k_last (ws2 := wMCo k a_p0 (a_p0in 0) (a_p0ou 0) (a_p0ru 0) (a_p0no 0) (a_p0fo 0) (a_p0rd 0) (a_p0pa 0) sv_p0 p0_0 ++ wCourt k a_p0no p0no_0 ++ wJArr k a_p2 z_p2 p2_3) E hW 13 rfl hin dL_evidence_8 (by rw [ep2_3]; rfl) (fun H locs hW => ?_)
  refine lv_goto (tgt := 15) E.hx E.hb dL_evidence_9 (by decide) ?_
  refine lv_iconst (v := (0 : Int32)) E.hx E.hb dL_evidence_15 ic_0 ?_
  exact hret _ p2_3 _ _ _ _ _ _ hW (Option.some.inj hf).symm rfl (by decide) (by decide) dL_evidence_16
def f_L_wasStalled (n : Nat) (sv_p0 : Value) (p0_0 : OS) (p0ru_0 : OS) (p0no_0 : OS) (z_p3 : Nat) (p3_0 : Nat → Int64) (v1_0 : Int32) (v2_0 : Int32) : Option ((Nat → Int64) × Int32) :=
  bnd2 (f_X8_wasStalled n sv_p0 p0_0 p0ru_0 p0no_0 v1_0 v2_0) (fun (r_1 : Int32) (cd_2 : Nat) =>
  if cd_2 = 0 then (
  if r_1 = 0 then (
  gI z_p3 (0 : Int32) (Let (vp_updL p3_0 (0 : Int32).toNatClampNeg (0 : Int64)) (fun p3_3 : Nat → Int64 =>
  some (p3_3, (0 : Int32))))) else (
  gI z_p3 (0 : Int32) (Let (vp_updL p3_0 (0 : Int32).toNatClampNeg (1 : Int64)) (fun p3_4 : Nat → Int64 =>
  some (p3_4, (0 : Int32)))))) else (
  if cd_2 = 1 then (
  some (p3_0, (1 : Int32))) else (none)))
set_option maxHeartbeats 4000000 in
set_option maxRecDepth 100000 in
theorem c_L_wasStalled (n : Nat) (l : Launch) (k : KT) (hN : CCH k) (hx : XH l k) (a_p0 : Nat → Nat) (a_p0in : Nat → Nat) (a_p0ou : Nat → Nat) (a_p0ru : Nat → Nat) (a_p0no : Nat → Nat) (a_p0fo : Nat → Nat) (a_p0rd : Nat → Nat) (a_p0pa : Nat → Nat) (a_p3 : Nat → Nat) (sv_p0 : Value) (p0_0 : OS) (p0ru_0 : OS) (p0no_0 : OS) (z_p3 : Nat) (p3_0 : Nat → Int64) (v1_0 : Int32) (v2_0 : Int32) (res : ((Nat → Int64) × Int32)) (hf : f_L_wasStalled n sv_p0 p0_0 p0ru_0 p0no_0 z_p3 p3_0 v1_0 v2_0 = some res) : CXW l k yL_wasStalled cL_wasStalled 5 (some .int) [(0, 17, 20, 13)] 8 1 6 125 [.ref (a_p0 0), .int v1_0, .int v2_0, .ref (a_p3 0)] (wMCo k a_p0 (a_p0in 0) (a_p0ou 0) (a_p0ru 0) (a_p0no 0) (a_p0fo 0) (a_p0rd 0) (a_p0pa 0) sv_p0 p0_0 ++ wRules k a_p0ru p0ru_0 ++ wCourt k a_p0no p0no_0 ++ wJArr k a_p3 z_p3 p3_0) (Qi k (fun u : Nat → Int64 => wMCo k a_p0 (a_p0in 0) (a_p0ou 0) (a_p0ru 0) (a_p0no 0) (a_p0fo 0) (a_p0rd 0) (a_p0pa 0) sv_p0 p0_0 ++ wRules k a_p0ru p0ru_0 ++ wCourt k a_p0no p0no_0 ++ wJArr k a_p3 z_p3 u) (fun (r : Int32) (u : Nat → Int64) => res = (u, r))) := by
  refine CXW.ofI (by decide) (Nat.le_of_ble_eq_true rfl) (fun p e s m args below meth c A Q E hnm htab hW hA hret ls hl => ?_)
  have hl : lv_has ls 5 [(0, .ref (a_p0 0)), (1, .int v1_0), (2, .int v2_0), (3, .ref (a_p3 0))] := hl
  unfold f_L_wasStalled at hf
  refine k_aload_n E hl 3 dL_wasStalled_0 rfl ?_
  refine lv_iconst (v := (0 : Int32)) E.hx E.hb dL_wasStalled_1 ic_0 ?_
  refine k_aload_n E hl 0 dL_wasStalled_2 rfl ?_
  refine k_iload_n E hl 1 dL_wasStalled_3 rfl ?_
  refine k_iload_n E hl 2 dL_wasStalled_4 rfl ?_
  obtain ⟨r_1, cd_2, hg, hf⟩ := ob2 hf
  refine k_callXi (As := [.int v1_0, .int v2_0]) (rest := [.int (0 : Int32), .ref (a_p3 0)]) (ws2 := fun u => wMCo k a_p0 (a_p0in 0) (a_p0ou 0) (a_p0ru 0) (a_p0no 0) (a_p0fo 0) (a_p0rd 0) (a_p0pa 0) sv_p0 p0_0 ++ wRules k a_p0ru p0ru_0 ++ wCourt k a_p0no p0no_0 ++ wJArr k a_p3 z_p3 p3_0) (c_X8_wasStalled n l k hx a_p0 a_p0in a_p0ou a_p0ru a_p0no a_p0fo a_p0rd a_p0pa sv_p0 p0_0 p0ru_0 p0no_0 v1_0 v2_0 (r_1, cd_2) hg) E vl_L_44 dL_wasStalled_5 rfl (List.range' 0 16) 6 0 hW hA hl rfl (blk_map [] (wMCo k a_p0 (a_p0in 0) (a_p0ou 0) (a_p0ru 0) (a_p0no 0) (a_p0fo 0) (a_p0rd 0) (a_p0pa 0) sv_p0 p0_0 ++ wRules k a_p0ru p0ru_0 ++ wCourt k a_p0no p0no_0) (wJArr k a_p3 z_p3 p3_0) 0 16 (by simp only [List.nil_append]) rfl rfl) rfl rfl ⟨by decide, by decide⟩ ⟨by decide, by decide⟩ (Nat.le_of_ble_eq_true rfl) rfl (fun _ => rfl) (fun u => by rw [blk_put [] (wMCo k a_p0 (a_p0in 0) (a_p0ou 0) (a_p0ru 0) (a_p0no 0) (a_p0fo 0) (a_p0rd 0) (a_p0pa 0) sv_p0 p0_0 ++ wRules k a_p0ru p0ru_0 ++ wCourt k a_p0no p0no_0) (wJArr k a_p3 z_p3 p3_0) (wMCo k a_p0 (a_p0in 0) (a_p0ou 0) (a_p0ru 0) (a_p0no 0) (a_p0fo 0) (a_p0rd 0) (a_p0pa 0) sv_p0 p0_0 ++ wRules k a_p0ru p0ru_0 ++ wCourt k a_p0no p0no_0) 0 16 (by simp only [List.nil_append]) rfl rfl rfl]; try simp only [List.nil_append]) (fun cd9 u ce9 q9 H locs hp hW hce hcv hcls => ?_) (fun r u H locs hp hW => ?_)
  · obtain ⟨hcd, hp⟩ := hp
    cases hp
    have hW : WD k A s.heap (wMCo k a_p0 (a_p0in 0) (a_p0ou 0) (a_p0ru 0) (a_p0no 0) (a_p0fo 0) (a_p0rd 0) (a_p0pa 0) sv_p0 p0_0 ++ wRules k a_p0ru p0ru_0 ++ wCourt k a_p0no p0no_0 ++ wJArr k a_p3 z_p3 p3_0) H locs := hW
    have hf := oF hcd hf
    by_cases hc : cd_2 = 1
    · have hf := oT hc hf
      subst hc
      refine k_catch (cd := 1) hN E htab [] (0, 17, 20, 13) [] rfl (fun z hz => by simp at hz) (by decide) (by decide) rfl (by decide) tm_752 tm_763 hce hcv hcls ?_
      refine lv_astore (lv' := [(4, .ref q9), (0, .ref (a_p0 0)), (1, .int v1_0), (2, .int v2_0), (3, .ref (a_p3 0))]) E.hx E.hb dL_wasStalled_20 hl (by decide) rfl (fun ls hl => ?_)
      refine lv_iconst (v := (1 : Int32)) E.hx E.hb dL_wasStalled_22 ic_1 ?_
      exact hret _ p3_0 _ _ _ _ _ _ hW (Option.some.inj hf).symm rfl (by decide) (by decide) dL_wasStalled_23
    have hf := oF hc hf
    exact o0 hf
  cases hp
  have hW : WD k A s.heap (wMCo k a_p0 (a_p0in 0) (a_p0ou 0) (a_p0ru 0) (a_p0no 0) (a_p0fo 0) (a_p0rd 0) (a_p0pa 0) sv_p0 p0_0 ++ wRules k a_p0ru p0ru_0 ++ wCourt k a_p0no p0no_0 ++ wJArr k a_p3 z_p3 p3_0) H locs := hW
  have hf := oT rfl hf
  refine lv_if_eq (tgt := 15) E.hx E.hb dL_wasStalled_8 (by decide) (fun hc => ?_) (fun hc => ?_)
  · have hf := oT hc hf
    refine lv_lconst (v := (0 : Int64)) E.hx E.hb dL_wasStalled_15 (by decide) ?_
    obtain ⟨hin, hf⟩ := oI hf
    obtain ⟨p3_3, ep3_3, hf⟩ := oL hf
    refine k_last (ws2 := wMCo k a_p0 (a_p0in 0) (a_p0ou 0) (a_p0ru 0) (a_p0no 0) (a_p0fo 0) (a_p0rd 0) (a_p0pa 0) sv_p0 p0_0 ++ wRules k a_p0ru p0ru_0 ++ wCourt k a_p0no p0no_0 ++ wJArr k a_p3 z_p3 p3_3) E hW 16 rfl hin dL_wasStalled_16 (by rw [ep3_3]; rfl) (fun H locs hW => ?_)
    refine lv_goto (tgt := 24) E.hx E.hb dL_wasStalled_17 (by decide) ?_
    refine lv_iconst (v := (0 : Int32)) E.hx E.hb dL_wasStalled_24 ic_0 ?_
    exact hret _ p3_3 _ _ _ _ _ _ hW (Option.some.inj hf).symm rfl (by decide) (by decide) dL_wasStalled_25
  · have hf := oF hc hf
    refine lv_lconst (v := (1 : Int64)) E.hx E.hb dL_wasStalled_11 (by decide) ?_
    refine lv_goto (tgt := 16) E.hx E.hb dL_wasStalled_12 (by decide) ?_
    obtain ⟨hin, hf⟩ := oI hf
    obtain ⟨p3_4, ep3_4, hf⟩ := oL hf
    refine k_last (ws2 := wMCo k a_p0 (a_p0in 0) (a_p0ou 0) (a_p0ru 0) (a_p0no 0) (a_p0fo 0) (a_p0rd 0) (a_p0pa 0) sv_p0 p0_0 ++ wRules k a_p0ru p0ru_0 ++ wCourt k a_p0no p0no_0 ++ wJArr k a_p3 z_p3 p3_4) E hW 16 rfl hin dL_wasStalled_16 (by rw [ep3_4]; rfl) (fun H locs hW => ?_)
    refine lv_goto (tgt := 24) E.hx E.hb dL_wasStalled_17 (by decide) ?_
    refine lv_iconst (v := (0 : Int32)) E.hx E.hb dL_wasStalled_24 ic_0 ?_
    exact hret _ p3_4 _ _ _ _ _ _ hW (Option.some.inj hf).symm rfl (by decide) (by decide) dL_wasStalled_25
def f_L_run (n : Nat) (sv_p0 : Value) (p0_0 : OS) (p0ru_0 : OS) (p0no_0 : OS) (p0pa_0 : PS) (z_p2 : Nat) (p2_0 : Nat → Int64) (v1_0 : Int32) : Option (OS × PS × (Nat → Int64) × Int32) :=
  bnd4 (f_X8_run n sv_p0 p0_0 p0ru_0 p0no_0 p0pa_0 v1_0) (fun (p0no_1 : OS) (p0pa_2 : PS) (r_3 : Int32) (cd_4 : Nat) =>
  if cd_4 = 0 then (
  gI z_p2 (0 : Int32) (Let (vp_updL p2_0 (0 : Int32).toNatClampNeg ((r_3).toInt64)) (fun p2_6 : Nat → Int64 =>
  some (p0no_1, p0pa_2, p2_6, (0 : Int32))))) else (
  if cd_4 = 2 then (
  some (p0no_1, p0pa_2, p2_0, (1 : Int32))) else (if cd_4 = 3 then (
  some (p0no_1, p0pa_2, p2_0, (2 : Int32))) else (none))))
set_option maxHeartbeats 4000000 in
set_option maxRecDepth 100000 in
theorem c_L_run (n : Nat) (l : Launch) (k : KT) (hN : CCH k) (hx : XH l k) (a_p0 : Nat → Nat) (a_p0in : Nat → Nat) (a_p0ou : Nat → Nat) (a_p0ru : Nat → Nat) (a_p0no : Nat → Nat) (a_p0fo : Nat → Nat) (a_p0rd : Nat → Nat) (a_p0pa : Nat → Nat) (a_p2 : Nat → Nat) (pp_0 : Nat → Nat → Nat) (sv_p0 : Value) (p0_0 : OS) (p0ru_0 : OS) (p0no_0 : OS) (p0pa_0 : PS) (z_p2 : Nat) (p2_0 : Nat → Int64) (v1_0 : Int32) (res : (OS × PS × (Nat → Int64) × Int32)) (hf : f_L_run n sv_p0 p0_0 p0ru_0 p0no_0 p0pa_0 z_p2 p2_0 v1_0 = some res) : CXW l k yL_run cL_run 4 (some .int) [(0, 9, 12, 39), (0, 9, 15, 51)] 8 14 2006 245 [.ref (a_p0 0), .int v1_0, .ref (a_p2 0)] ((wMCo k a_p0 (a_p0in 0) (a_p0ou 0) (a_p0ru 0) (a_p0no 0) (a_p0fo 0) (a_p0rd 0) (a_p0pa 0) sv_p0 p0_0 ++ wRules k a_p0ru p0ru_0 ++ wCourt k a_p0no p0no_0 ++ wPast k a_p0pa pp_0 p0pa_0 ++ wJArr k a_p2 z_p2 p2_0) ++ poolW k pp_0 p0pa_0.2) (Qi k (fun u : (OS) × (PS) × (Nat → Int64) × (Nat → Nat → Nat) => (wMCo k a_p0 (a_p0in 0) (a_p0ou 0) (a_p0ru 0) (a_p0no 0) (a_p0fo 0) (a_p0rd 0) (a_p0pa 0) sv_p0 p0_0 ++ wRules k a_p0ru p0ru_0 ++ wCourt k a_p0no (u.1) ++ wPast k a_p0pa (u.2.2.2) (u.2.1) ++ wJArr k a_p2 z_p2 (u.2.2.1)) ++ poolW k (u.2.2.2) (u.2.1).2) (fun (r : Int32) (u : (OS) × (PS) × (Nat → Int64) × (Nat → Nat → Nat)) => res = (u.1, u.2.1, u.2.2.1, r))) := by
  refine CXW.ofI (by decide) (Nat.le_of_ble_eq_true rfl) (fun p e s m args below meth c A Q E hnm htab hW hA hret ls hl => ?_)
  have hl : lv_has ls 4 [(0, .ref (a_p0 0)), (1, .int v1_0), (2, .ref (a_p2 0))] := hl
  unfold f_L_run at hf
  refine k_aload_n E hl 2 dL_run_0 rfl ?_
  refine lv_iconst (v := (0 : Int32)) E.hx E.hb dL_run_1 ic_0 ?_
  refine k_aload_n E hl 0 dL_run_2 rfl ?_
  refine k_iload_n E hl 1 dL_run_3 rfl ?_
  obtain ⟨p0no_1, p0pa_2, r_3, cd_4, hg, hf⟩ := ob4 hf
  refine k_callXGi (As := [.int v1_0]) (rest := [.int (0 : Int32), .ref (a_p2 0)]) (ws2 := fun u => (wMCo k a_p0 (a_p0in 0) (a_p0ou 0) (a_p0ru 0) (a_p0no 0) (a_p0fo 0) (a_p0rd 0) (a_p0pa 0) sv_p0 p0_0 ++ wRules k a_p0ru p0ru_0 ++ wCourt k a_p0no (u.1) ++ wPast k a_p0pa (u.2.2) (u.2.1) ++ wJArr k a_p2 z_p2 p2_0) ++ poolW k (u.2.2) (u.2.1).2) (c_X8_run n l k hx a_p0 a_p0in a_p0ou a_p0ru a_p0no a_p0fo a_p0rd a_p0pa pp_0 sv_p0 p0_0 p0ru_0 p0no_0 p0pa_0 v1_0 (p0no_1, p0pa_2, r_3, cd_4) hg) E vl_L_48 dL_run_4 rfl (List.range' 0 18) 6 0 hW hA hl rfl (blk_map [] (wMCo k a_p0 (a_p0in 0) (a_p0ou 0) (a_p0ru 0) (a_p0no 0) (a_p0fo 0) (a_p0rd 0) (a_p0pa 0) sv_p0 p0_0 ++ wRules k a_p0ru p0ru_0 ++ wCourt k a_p0no p0no_0 ++ wPast k a_p0pa pp_0 p0pa_0) (wJArr k a_p2 z_p2 p2_0) 0 18 (by simp only [List.nil_append]) rfl rfl) rfl rfl ⟨by decide, by decide⟩ ⟨by decide, by decide⟩ (Nat.le_of_ble_eq_true rfl) rfl (fun _ => rfl) (fun u => by rw [blk_put [] (wMCo k a_p0 (a_p0in 0) (a_p0ou 0) (a_p0ru 0) (a_p0no 0) (a_p0fo 0) (a_p0rd 0) (a_p0pa 0) sv_p0 p0_0 ++ wRules k a_p0ru p0ru_0 ++ wCourt k a_p0no p0no_0 ++ wPast k a_p0pa pp_0 p0pa_0) (wJArr k a_p2 z_p2 p2_0) (wMCo k a_p0 (a_p0in 0) (a_p0ou 0) (a_p0ru 0) (a_p0no 0) (a_p0fo 0) (a_p0rd 0) (a_p0pa 0) sv_p0 p0_0 ++ wRules k a_p0ru p0ru_0 ++ wCourt k a_p0no (u.1) ++ wPast k a_p0pa (u.2.2) (u.2.1)) 0 18 (by simp only [List.nil_append]) rfl rfl rfl]; try simp only [List.nil_append]) (fun cd9 u ce9 q9 H locs hp hW hce hcv hcls => ?_) (fun r u H locs hp hW => ?_)
  · obtain ⟨u0, u1, pp_5⟩ := u
    try dsimp only at hp
    obtain ⟨hcd, hp⟩ := hp
    cases hp
    have hW : WD k A s.heap ((wMCo k a_p0 (a_p0in 0) (a_p0ou 0) (a_p0ru 0) (a_p0no 0) (a_p0fo 0) (a_p0rd 0) (a_p0pa 0) sv_p0 p0_0 ++ wRules k a_p0ru p0ru_0 ++ wCourt k a_p0no p0no_1 ++ wPast k a_p0pa pp_5 p0pa_2 ++ wJArr k a_p2 z_p2 p2_0) ++ poolW k pp_5 p0pa_2.2) H locs := hW
    have hf := oF hcd hf
    by_cases hc : cd_4 = 2
    · have hf := oT hc hf
      subst hc
      refine k_catch (cd := 2) hN E htab [] (0, 9, 12, 39) [(0, 9, 15, 51)] rfl (fun z hz => by simp at hz) (by decide) (by decide) rfl (by decide) tm_936 tm_943 hce hcv hcls ?_
      refine lv_astore_n (lv' := [(3, .ref q9), (0, .ref (a_p0 0)), (1, .int v1_0), (2, .ref (a_p2 0))]) E.hx E.hb dL_run_12 rfl hl (by decide) rfl (fun ls hl => ?_)
      refine lv_iconst (v := (1 : Int32)) E.hx E.hb dL_run_13 ic_1 ?_
      exact hret _ (p0no_1, p0pa_2, p2_0, pp_5) _ _ _ _ _ _ hW (Option.some.inj hf).symm rfl (by decide) (by decide) dL_run_14
    have hf := oF hc hf
    by_cases hc : cd_4 = 3
    · have hf := oT hc hf
      subst hc
      refine k_catch (cd := 3) hN E htab [(0, 9, 12, 39)] (0, 9, 15, 51) [] rfl (by intro z hz; simp only [List.mem_cons, List.not_mem_nil, or_false] at hz; subst hz; exact ⟨by decide, 2, by decide, by decide, by decide, tm_936⟩) (by decide) (by decide) rfl (by decide) tm_997 tm_1009 hce hcv hcls ?_
      refine lv_astore_n (lv' := [(3, .ref q9), (0, .ref (a_p0 0)), (1, .int v1_0), (2, .ref (a_p2 0))]) E.hx E.hb dL_run_15 rfl hl (by decide) rfl (fun ls hl => ?_)
      refine lv_iconst (v := (2 : Int32)) E.hx E.hb dL_run_16 ic_2 ?_
      exact hret _ (p0no_1, p0pa_2, p2_0, pp_5) _ _ _ _ _ _ hW (Option.some.inj hf).symm rfl (by decide) (by decide) dL_run_17
    have hf := oF hc hf
    exact o0 hf
  obtain ⟨u0, u1, pp_5⟩ := u
  try dsimp only at hp
  cases hp
  have hW : WD k A s.heap ((wMCo k a_p0 (a_p0in 0) (a_p0ou 0) (a_p0ru 0) (a_p0no 0) (a_p0fo 0) (a_p0rd 0) (a_p0pa 0) sv_p0 p0_0 ++ wRules k a_p0ru p0ru_0 ++ wCourt k a_p0no p0no_1 ++ wPast k a_p0pa pp_5 p0pa_2 ++ wJArr k a_p2 z_p2 p2_0) ++ poolW k pp_5 p0pa_2.2) H locs := hW
  have hf := oT rfl hf
  refine lv_i2l (v := (r_3).toInt64) E.hx E.hb dL_run_7 rfl ?_
  obtain ⟨hin, hf⟩ := oI hf
  obtain ⟨p2_6, ep2_6, hf⟩ := oL hf
  refine k_last (ws2 := (wMCo k a_p0 (a_p0in 0) (a_p0ou 0) (a_p0ru 0) (a_p0no 0) (a_p0fo 0) (a_p0rd 0) (a_p0pa 0) sv_p0 p0_0 ++ wRules k a_p0ru p0ru_0 ++ wCourt k a_p0no p0no_1 ++ wPast k a_p0pa pp_5 p0pa_2 ++ wJArr k a_p2 z_p2 p2_6) ++ poolW k pp_5 p0pa_2.2) E hW 18 rfl hin dL_run_8 (by rw [ep2_6]; rfl) (fun H locs hW => ?_)
  refine lv_goto (tgt := 18) E.hx E.hb dL_run_9 (by decide) ?_
  refine lv_iconst (v := (0 : Int32)) E.hx E.hb dL_run_18 ic_0 ?_
  exact hret _ (p0no_1, p0pa_2, p2_6, pp_5) _ _ _ _ _ _ hW (Option.some.inj hf).symm rfl (by decide) (by decide) dL_run_19
def f_L_ask (n : Nat) (sv_p0 : Value) (p0_0 : OS) (p0ru_0 : OS) (p0no_0 : OS) (p0pa_0 : PS) (z_p4 : Nat) (p4_0 : Nat → Int64) (v1_0 : Int32) (v2_0 : Int32) (v3_0 : Int32) : Option (OS × PS × (Nat → Int64) × Int32) :=
  bnd4 (f_X8_ask n sv_p0 p0_0 p0ru_0 p0no_0 p0pa_0 v1_0 v2_0 v3_0) (fun (p0no_1 : OS) (p0pa_2 : PS) (r_3 : Int32) (cd_4 : Nat) =>
  if cd_4 = 0 then (
  gI z_p4 (0 : Int32) (Let (vp_updL p4_0 (0 : Int32).toNatClampNeg ((r_3).toInt64)) (fun p4_6 : Nat → Int64 =>
  some (p0no_1, p0pa_2, p4_6, (0 : Int32))))) else (
  if cd_4 = 1 then (
  some (p0no_1, p0pa_2, p4_0, (1 : Int32))) else (if cd_4 = 2 then (
  some (p0no_1, p0pa_2, p4_0, (2 : Int32))) else (if cd_4 = 3 then (
  some (p0no_1, p0pa_2, p4_0, (3 : Int32))) else (none)))))
set_option maxHeartbeats 4000000 in
set_option maxRecDepth 100000 in
theorem c_L_ask (n : Nat) (l : Launch) (k : KT) (hN : CCH k) (hx : XH l k) (a_p0 : Nat → Nat) (a_p0in : Nat → Nat) (a_p0ou : Nat → Nat) (a_p0ru : Nat → Nat) (a_p0no : Nat → Nat) (a_p0fo : Nat → Nat) (a_p0rd : Nat → Nat) (a_p0pa : Nat → Nat) (a_p4 : Nat → Nat) (pp_0 : Nat → Nat → Nat) (sv_p0 : Value) (p0_0 : OS) (p0ru_0 : OS) (p0no_0 : OS) (p0pa_0 : PS) (z_p4 : Nat) (p4_0 : Nat → Int64) (v1_0 : Int32) (v2_0 : Int32) (v3_0 : Int32) (res : (OS × PS × (Nat → Int64) × Int32)) (hf : f_L_ask n sv_p0 p0_0 p0ru_0 p0no_0 p0pa_0 z_p4 p4_0 v1_0 v2_0 v3_0 = some res) : CXW l k yL_ask cL_ask 6 (some .int) [(0, 12, 15, 13), (0, 12, 19, 39), (0, 12, 23, 51)] 8 14 2006 245 [.ref (a_p0 0), .int v1_0, .int v2_0, .int v3_0, .ref (a_p4 0)] ((wMCo k a_p0 (a_p0in 0) (a_p0ou 0) (a_p0ru 0) (a_p0no 0) (a_p0fo 0) (a_p0rd 0) (a_p0pa 0) sv_p0 p0_0 ++ wRules k a_p0ru p0ru_0 ++ wCourt k a_p0no p0no_0 ++ wPast k a_p0pa pp_0 p0pa_0 ++ wJArr k a_p4 z_p4 p4_0) ++ poolW k pp_0 p0pa_0.2) (Qi k (fun u : (OS) × (PS) × (Nat → Int64) × (Nat → Nat → Nat) => (wMCo k a_p0 (a_p0in 0) (a_p0ou 0) (a_p0ru 0) (a_p0no 0) (a_p0fo 0) (a_p0rd 0) (a_p0pa 0) sv_p0 p0_0 ++ wRules k a_p0ru p0ru_0 ++ wCourt k a_p0no (u.1) ++ wPast k a_p0pa (u.2.2.2) (u.2.1) ++ wJArr k a_p4 z_p4 (u.2.2.1)) ++ poolW k (u.2.2.2) (u.2.1).2) (fun (r : Int32) (u : (OS) × (PS) × (Nat → Int64) × (Nat → Nat → Nat)) => res = (u.1, u.2.1, u.2.2.1, r))) := by
  refine CXW.ofI (by decide) (Nat.le_of_ble_eq_true rfl) (fun p e s m args below meth c A Q E hnm htab hW hA hret ls hl => ?_)
  have hl : lv_has ls 6 [(0, .ref (a_p0 0)), (1, .int v1_0), (2, .int v2_0), (3, .int v3_0), (4, .ref (a_p4 0))] := hl
  unfold f_L_ask at hf
  refine k_aload E hl 4 dL_ask_0 rfl ?_
  refine lv_iconst (v := (0 : Int32)) E.hx E.hb dL_ask_2 ic_0 ?_
  refine k_aload_n E hl 0 dL_ask_3 rfl ?_
  refine k_iload_n E hl 1 dL_ask_4 rfl ?_
  refine k_iload_n E hl 2 dL_ask_5 rfl ?_
  refine k_iload_n E hl 3 dL_ask_6 rfl ?_
  obtain ⟨p0no_1, p0pa_2, r_3, cd_4, hg, hf⟩ := ob4 hf
  refine k_callXGi (As := [.int v1_0, .int v2_0, .int v3_0]) (rest := [.int (0 : Int32), .ref (a_p4 0)]) (ws2 := fun u => (wMCo k a_p0 (a_p0in 0) (a_p0ou 0) (a_p0ru 0) (a_p0no 0) (a_p0fo 0) (a_p0rd 0) (a_p0pa 0) sv_p0 p0_0 ++ wRules k a_p0ru p0ru_0 ++ wCourt k a_p0no (u.1) ++ wPast k a_p0pa (u.2.2) (u.2.1) ++ wJArr k a_p4 z_p4 p4_0) ++ poolW k (u.2.2) (u.2.1).2) (c_X8_ask n l k hx a_p0 a_p0in a_p0ou a_p0ru a_p0no a_p0fo a_p0rd a_p0pa pp_0 sv_p0 p0_0 p0ru_0 p0no_0 p0pa_0 v1_0 v2_0 v3_0 (p0no_1, p0pa_2, r_3, cd_4) hg) E vl_L_53 dL_ask_7 rfl (List.range' 0 18) 6 0 hW hA hl rfl (blk_map [] (wMCo k a_p0 (a_p0in 0) (a_p0ou 0) (a_p0ru 0) (a_p0no 0) (a_p0fo 0) (a_p0rd 0) (a_p0pa 0) sv_p0 p0_0 ++ wRules k a_p0ru p0ru_0 ++ wCourt k a_p0no p0no_0 ++ wPast k a_p0pa pp_0 p0pa_0) (wJArr k a_p4 z_p4 p4_0) 0 18 (by simp only [List.nil_append]) rfl rfl) rfl rfl ⟨by decide, by decide⟩ ⟨by decide, by decide⟩ (Nat.le_of_ble_eq_true rfl) rfl (fun _ => rfl) (fun u => by rw [blk_put [] (wMCo k a_p0 (a_p0in 0) (a_p0ou 0) (a_p0ru 0) (a_p0no 0) (a_p0fo 0) (a_p0rd 0) (a_p0pa 0) sv_p0 p0_0 ++ wRules k a_p0ru p0ru_0 ++ wCourt k a_p0no p0no_0 ++ wPast k a_p0pa pp_0 p0pa_0) (wJArr k a_p4 z_p4 p4_0) (wMCo k a_p0 (a_p0in 0) (a_p0ou 0) (a_p0ru 0) (a_p0no 0) (a_p0fo 0) (a_p0rd 0) (a_p0pa 0) sv_p0 p0_0 ++ wRules k a_p0ru p0ru_0 ++ wCourt k a_p0no (u.1) ++ wPast k a_p0pa (u.2.2) (u.2.1)) 0 18 (by simp only [List.nil_append]) rfl rfl rfl]; try simp only [List.nil_append]) (fun cd9 u ce9 q9 H locs hp hW hce hcv hcls => ?_) (fun r u H locs hp hW => ?_)
  · obtain ⟨u0, u1, pp_5⟩ := u
    try dsimp only at hp
    obtain ⟨hcd, hp⟩ := hp
    cases hp
    have hW : WD k A s.heap ((wMCo k a_p0 (a_p0in 0) (a_p0ou 0) (a_p0ru 0) (a_p0no 0) (a_p0fo 0) (a_p0rd 0) (a_p0pa 0) sv_p0 p0_0 ++ wRules k a_p0ru p0ru_0 ++ wCourt k a_p0no p0no_1 ++ wPast k a_p0pa pp_5 p0pa_2 ++ wJArr k a_p4 z_p4 p4_0) ++ poolW k pp_5 p0pa_2.2) H locs := hW
    have hf := oF hcd hf
    by_cases hc : cd_4 = 1
    · have hf := oT hc hf
      subst hc
      refine k_catch (cd := 1) hN E htab [] (0, 12, 15, 13) [(0, 12, 19, 39), (0, 12, 23, 51)] rfl (fun z hz => by simp at hz) (by decide) (by decide) rfl (by decide) tm_752 tm_763 hce hcv hcls ?_
      refine lv_astore (lv' := [(5, .ref q9), (0, .ref (a_p0 0)), (1, .int v1_0), (2, .int v2_0), (3, .int v3_0), (4, .ref (a_p4 0))]) E.hx E.hb dL_ask_15 hl (by decide) rfl (fun ls hl => ?_)
      refine lv_iconst (v := (1 : Int32)) E.hx E.hb dL_ask_17 ic_1 ?_
      exact hret _ (p0no_1, p0pa_2, p4_0, pp_5) _ _ _ _ _ _ hW (Option.some.inj hf).symm rfl (by decide) (by decide) dL_ask_18
    have hf := oF hc hf
    by_cases hc : cd_4 = 2
    · have hf := oT hc hf
      subst hc
      refine k_catch (cd := 2) hN E htab [(0, 12, 15, 13)] (0, 12, 19, 39) [(0, 12, 23, 51)] rfl (by intro z hz; simp only [List.mem_cons, List.not_mem_nil, or_false] at hz; subst hz; exact ⟨by decide, 1, by decide, by decide, by decide, tm_752⟩) (by decide) (by decide) rfl (by decide) tm_936 tm_943 hce hcv hcls ?_
      refine lv_astore (lv' := [(5, .ref q9), (0, .ref (a_p0 0)), (1, .int v1_0), (2, .int v2_0), (3, .int v3_0), (4, .ref (a_p4 0))]) E.hx E.hb dL_ask_19 hl (by decide) rfl (fun ls hl => ?_)
      refine lv_iconst (v := (2 : Int32)) E.hx E.hb dL_ask_21 ic_2 ?_
      exact hret _ (p0no_1, p0pa_2, p4_0, pp_5) _ _ _ _ _ _ hW (Option.some.inj hf).symm rfl (by decide) (by decide) dL_ask_22
    have hf := oF hc hf
    by_cases hc : cd_4 = 3
    · have hf := oT hc hf
      subst hc
      refine k_catch (cd := 3) hN E htab [(0, 12, 15, 13), (0, 12, 19, 39)] (0, 12, 23, 51) [] rfl (by intro z hz; simp only [List.mem_cons, List.not_mem_nil, or_false] at hz; rcases hz with rfl | rfl; exact ⟨by decide, 1, by decide, by decide, by decide, tm_752⟩; exact ⟨by decide, 2, by decide, by decide, by decide, tm_936⟩) (by decide) (by decide) rfl (by decide) tm_997 tm_1009 hce hcv hcls ?_
      refine lv_astore (lv' := [(5, .ref q9), (0, .ref (a_p0 0)), (1, .int v1_0), (2, .int v2_0), (3, .int v3_0), (4, .ref (a_p4 0))]) E.hx E.hb dL_ask_23 hl (by decide) rfl (fun ls hl => ?_)
      refine lv_iconst (v := (3 : Int32)) E.hx E.hb dL_ask_25 ic_3 ?_
      exact hret _ (p0no_1, p0pa_2, p4_0, pp_5) _ _ _ _ _ _ hW (Option.some.inj hf).symm rfl (by decide) (by decide) dL_ask_26
    have hf := oF hc hf
    exact o0 hf
  obtain ⟨u0, u1, pp_5⟩ := u
  try dsimp only at hp
  cases hp
  have hW : WD k A s.heap ((wMCo k a_p0 (a_p0in 0) (a_p0ou 0) (a_p0ru 0) (a_p0no 0) (a_p0fo 0) (a_p0rd 0) (a_p0pa 0) sv_p0 p0_0 ++ wRules k a_p0ru p0ru_0 ++ wCourt k a_p0no p0no_1 ++ wPast k a_p0pa pp_5 p0pa_2 ++ wJArr k a_p4 z_p4 p4_0) ++ poolW k pp_5 p0pa_2.2) H locs := hW
  have hf := oT rfl hf
  refine lv_i2l (v := (r_3).toInt64) E.hx E.hb dL_ask_10 rfl ?_
  obtain ⟨hin, hf⟩ := oI hf
  obtain ⟨p4_6, ep4_6, hf⟩ := oL hf
  refine k_last (ws2 := (wMCo k a_p0 (a_p0in 0) (a_p0ou 0) (a_p0ru 0) (a_p0no 0) (a_p0fo 0) (a_p0rd 0) (a_p0pa 0) sv_p0 p0_0 ++ wRules k a_p0ru p0ru_0 ++ wCourt k a_p0no p0no_1 ++ wPast k a_p0pa pp_5 p0pa_2 ++ wJArr k a_p4 z_p4 p4_6) ++ poolW k pp_5 p0pa_2.2) E hW 18 rfl hin dL_ask_11 (by rw [ep4_6]; rfl) (fun H locs hW => ?_)
  refine lv_goto (tgt := 27) E.hx E.hb dL_ask_12 (by decide) ?_
  refine lv_iconst (v := (0 : Int32)) E.hx E.hb dL_ask_27 ic_0 ?_
  exact hret _ (p0no_1, p0pa_2, p4_6, pp_5) _ _ _ _ _ _ hW (Option.some.inj hf).symm rfl (by decide) (by decide) dL_ask_28
def f_L_withdraw (n : Nat) (sv_p0 : Value) (p0_0 : OS) (p0no_0 : OS) (p0pa_0 : PS) (z_p2 : Nat) (p2_0 : Nat → Int64) (v1_0 : Int32) : Option (OS × PS × (Nat → Int64) × Int32) :=
  bnd4 (f_X8_withdraw n sv_p0 p0_0 p0no_0 p0pa_0 v1_0) (fun (p0no_1 : OS) (p0pa_2 : PS) (r_3 : Int32) (cd_4 : Nat) =>
  if cd_4 = 0 then (
  gI z_p2 (0 : Int32) (Let (vp_updL p2_0 (0 : Int32).toNatClampNeg ((r_3).toInt64)) (fun p2_6 : Nat → Int64 =>
  some (p0no_1, p0pa_2, p2_6, (0 : Int32))))) else (
  if cd_4 = 1 then (
  some (p0no_1, p0pa_2, p2_0, (1 : Int32))) else (if cd_4 = 3 then (
  some (p0no_1, p0pa_2, p2_0, (2 : Int32))) else (none))))
set_option maxHeartbeats 4000000 in
set_option maxRecDepth 100000 in
theorem c_L_withdraw (n : Nat) (l : Launch) (k : KT) (hN : CCH k) (hx : XH l k) (a_p0 : Nat → Nat) (a_p0in : Nat → Nat) (a_p0ou : Nat → Nat) (a_p0ru : Nat → Nat) (a_p0no : Nat → Nat) (a_p0fo : Nat → Nat) (a_p0rd : Nat → Nat) (a_p0pa : Nat → Nat) (a_p2 : Nat → Nat) (pp_0 : Nat → Nat → Nat) (sv_p0 : Value) (p0_0 : OS) (p0no_0 : OS) (p0pa_0 : PS) (z_p2 : Nat) (p2_0 : Nat → Int64) (v1_0 : Int32) (res : (OS × PS × (Nat → Int64) × Int32)) (hf : f_L_withdraw n sv_p0 p0_0 p0no_0 p0pa_0 z_p2 p2_0 v1_0 = some res) : CXW l k yL_withdraw cL_withdraw 4 (some .int) [(0, 9, 12, 13), (0, 9, 15, 51)] 8 14 2006 243 [.ref (a_p0 0), .int v1_0, .ref (a_p2 0)] ((wMCo k a_p0 (a_p0in 0) (a_p0ou 0) (a_p0ru 0) (a_p0no 0) (a_p0fo 0) (a_p0rd 0) (a_p0pa 0) sv_p0 p0_0 ++ wCourt k a_p0no p0no_0 ++ wPast k a_p0pa pp_0 p0pa_0 ++ wJArr k a_p2 z_p2 p2_0) ++ poolW k pp_0 p0pa_0.2) (Qi k (fun u : (OS) × (PS) × (Nat → Int64) × (Nat → Nat → Nat) => (wMCo k a_p0 (a_p0in 0) (a_p0ou 0) (a_p0ru 0) (a_p0no 0) (a_p0fo 0) (a_p0rd 0) (a_p0pa 0) sv_p0 p0_0 ++ wCourt k a_p0no (u.1) ++ wPast k a_p0pa (u.2.2.2) (u.2.1) ++ wJArr k a_p2 z_p2 (u.2.2.1)) ++ poolW k (u.2.2.2) (u.2.1).2) (fun (r : Int32) (u : (OS) × (PS) × (Nat → Int64) × (Nat → Nat → Nat)) => res = (u.1, u.2.1, u.2.2.1, r))) := by
  refine CXW.ofI (by decide) (Nat.le_of_ble_eq_true rfl) (fun p e s m args below meth c A Q E hnm htab hW hA hret ls hl => ?_)
  have hl : lv_has ls 4 [(0, .ref (a_p0 0)), (1, .int v1_0), (2, .ref (a_p2 0))] := hl
  unfold f_L_withdraw at hf
  refine k_aload_n E hl 2 dL_withdraw_0 rfl ?_
  refine lv_iconst (v := (0 : Int32)) E.hx E.hb dL_withdraw_1 ic_0 ?_
  refine k_aload_n E hl 0 dL_withdraw_2 rfl ?_
  refine k_iload_n E hl 1 dL_withdraw_3 rfl ?_
  obtain ⟨p0no_1, p0pa_2, r_3, cd_4, hg, hf⟩ := ob4 hf
  refine k_callXGi (As := [.int v1_0]) (rest := [.int (0 : Int32), .ref (a_p2 0)]) (ws2 := fun u => (wMCo k a_p0 (a_p0in 0) (a_p0ou 0) (a_p0ru 0) (a_p0no 0) (a_p0fo 0) (a_p0rd 0) (a_p0pa 0) sv_p0 p0_0 ++ wCourt k a_p0no (u.1) ++ wPast k a_p0pa (u.2.2) (u.2.1) ++ wJArr k a_p2 z_p2 p2_0) ++ poolW k (u.2.2) (u.2.1).2) (c_X8_withdraw n l k hx a_p0 a_p0in a_p0ou a_p0ru a_p0no a_p0fo a_p0rd a_p0pa pp_0 sv_p0 p0_0 p0no_0 p0pa_0 v1_0 (p0no_1, p0pa_2, r_3, cd_4) hg) E vl_L_57 dL_withdraw_4 rfl (List.range' 0 15) 6 0 hW hA hl rfl (blk_map [] (wMCo k a_p0 (a_p0in 0) (a_p0ou 0) (a_p0ru 0) (a_p0no 0) (a_p0fo 0) (a_p0rd 0) (a_p0pa 0) sv_p0 p0_0 ++ wCourt k a_p0no p0no_0 ++ wPast k a_p0pa pp_0 p0pa_0) (wJArr k a_p2 z_p2 p2_0) 0 15 (by simp only [List.nil_append]) rfl rfl) rfl rfl ⟨by decide, by decide⟩ ⟨by decide, by decide⟩ (Nat.le_of_ble_eq_true rfl) rfl (fun _ => rfl) (fun u => by rw [blk_put [] (wMCo k a_p0 (a_p0in 0) (a_p0ou 0) (a_p0ru 0) (a_p0no 0) (a_p0fo 0) (a_p0rd 0) (a_p0pa 0) sv_p0 p0_0 ++ wCourt k a_p0no p0no_0 ++ wPast k a_p0pa pp_0 p0pa_0) (wJArr k a_p2 z_p2 p2_0) (wMCo k a_p0 (a_p0in 0) (a_p0ou 0) (a_p0ru 0) (a_p0no 0) (a_p0fo 0) (a_p0rd 0) (a_p0pa 0) sv_p0 p0_0 ++ wCourt k a_p0no (u.1) ++ wPast k a_p0pa (u.2.2) (u.2.1)) 0 15 (by simp only [List.nil_append]) rfl rfl rfl]; try simp only [List.nil_append]) (fun cd9 u ce9 q9 H locs hp hW hce hcv hcls => ?_) (fun r u H locs hp hW => ?_)
  · obtain ⟨u0, u1, pp_5⟩ := u
    try dsimp only at hp
    obtain ⟨hcd, hp⟩ := hp
    cases hp
    have hW : WD k A s.heap ((wMCo k a_p0 (a_p0in 0) (a_p0ou 0) (a_p0ru 0) (a_p0no 0) (a_p0fo 0) (a_p0rd 0) (a_p0pa 0) sv_p0 p0_0 ++ wCourt k a_p0no p0no_1 ++ wPast k a_p0pa pp_5 p0pa_2 ++ wJArr k a_p2 z_p2 p2_0) ++ poolW k pp_5 p0pa_2.2) H locs := hW
    have hf := oF hcd hf
    by_cases hc : cd_4 = 1
    · have hf := oT hc hf
      subst hc
      refine k_catch (cd := 1) hN E htab [] (0, 9, 12, 13) [(0, 9, 15, 51)] rfl (fun z hz => by simp at hz) (by decide) (by decide) rfl (by decide) tm_752 tm_763 hce hcv hcls ?_
      refine lv_astore_n (lv' := [(3, .ref q9), (0, .ref (a_p0 0)), (1, .int v1_0), (2, .ref (a_p2 0))]) E.hx E.hb dL_withdraw_12 rfl hl (by decide) rfl (fun ls hl => ?_)
      refine lv_iconst (v := (1 : Int32)) E.hx E.hb dL_withdraw_13 ic_1 ?_
      exact hret _ (p0no_1, p0pa_2, p2_0, pp_5) _ _ _ _ _ _ hW (Option.some.inj hf).symm rfl (by decide) (by decide) dL_withdraw_14
    have hf := oF hc hf
    by_cases hc : cd_4 = 3
    · have hf := oT hc hf
      subst hc
      refine k_catch (cd := 3) hN E htab [(0, 9, 12, 13)] (0, 9, 15, 51) [] rfl (by intro z hz; simp only [List.mem_cons, List.not_mem_nil, or_false] at hz; subst hz; exact ⟨by decide, 1, by decide, by decide, by decide, tm_752⟩) (by decide) (by decide) rfl (by decide) tm_997 tm_1009 hce hcv hcls ?_
      refine lv_astore_n (lv' := [(3, .ref q9), (0, .ref (a_p0 0)), (1, .int v1_0), (2, .ref (a_p2 0))]) E.hx E.hb dL_withdraw_15 rfl hl (by decide) rfl (fun ls hl => ?_)
      refine lv_iconst (v := (2 : Int32)) E.hx E.hb dL_withdraw_16 ic_2 ?_
      exact hret _ (p0no_1, p0pa_2, p2_0, pp_5) _ _ _ _ _ _ hW (Option.some.inj hf).symm rfl (by decide) (by decide) dL_withdraw_17
    have hf := oF hc hf
    exact o0 hf
  obtain ⟨u0, u1, pp_5⟩ := u
  try dsimp only at hp
  cases hp
  have hW : WD k A s.heap ((wMCo k a_p0 (a_p0in 0) (a_p0ou 0) (a_p0ru 0) (a_p0no 0) (a_p0fo 0) (a_p0rd 0) (a_p0pa 0) sv_p0 p0_0 ++ wCourt k a_p0no p0no_1 ++ wPast k a_p0pa pp_5 p0pa_2 ++ wJArr k a_p2 z_p2 p2_0) ++ poolW k pp_5 p0pa_2.2) H locs := hW
  have hf := oT rfl hf
  refine lv_i2l (v := (r_3).toInt64) E.hx E.hb dL_withdraw_7 rfl ?_
  obtain ⟨hin, hf⟩ := oI hf
  obtain ⟨p2_6, ep2_6, hf⟩ := oL hf
  refine k_last (ws2 := (wMCo k a_p0 (a_p0in 0) (a_p0ou 0) (a_p0ru 0) (a_p0no 0) (a_p0fo 0) (a_p0rd 0) (a_p0pa 0) sv_p0 p0_0 ++ wCourt k a_p0no p0no_1 ++ wPast k a_p0pa pp_5 p0pa_2 ++ wJArr k a_p2 z_p2 p2_6) ++ poolW k pp_5 p0pa_2.2) E hW 15 rfl hin dL_withdraw_8 (by rw [ep2_6]; rfl) (fun H locs hW => ?_)
  refine lv_goto (tgt := 18) E.hx E.hb dL_withdraw_9 (by decide) ?_
  refine lv_iconst (v := (0 : Int32)) E.hx E.hb dL_withdraw_18 ic_0 ?_
  exact hret _ (p0no_1, p0pa_2, p2_6, pp_5) _ _ _ _ _ _ hW (Option.some.inj hf).symm rfl (by decide) (by decide) dL_withdraw_19
def f_L_giveBack (n : Nat) (sv_p0 : Value) (p0_0 : OS) (p0no_0 : OS) (p0pa_0 : PS) (z_p3 : Nat) (p3_0 : Nat → Int64) (v1_0 : Int32) (v2_0 : Int32) : Option (OS × PS × (Nat → Int64) × Int32) :=
  bnd4 (f_X8_giveBack n sv_p0 p0_0 p0no_0 p0pa_0 v1_0 v2_0) (fun (p0no_1 : OS) (p0pa_2 : PS) (r_3 : Int32) (cd_4 : Nat) =>
  if cd_4 = 0 then (
  gI z_p3 (0 : Int32) (Let (vp_updL p3_0 (0 : Int32).toNatClampNeg ((r_3).toInt64)) (fun p3_6 : Nat → Int64 =>
  some (p0no_1, p0pa_2, p3_6, (0 : Int32))))) else (
  if cd_4 = 1 then (
  some (p0no_1, p0pa_2, p3_0, (1 : Int32))) else (if cd_4 = 2 then (
  some (p0no_1, p0pa_2, p3_0, (2 : Int32))) else (none))))
set_option maxHeartbeats 4000000 in
set_option maxRecDepth 100000 in
theorem c_L_giveBack (n : Nat) (l : Launch) (k : KT) (hN : CCH k) (hx : XH l k) (a_p0 : Nat → Nat) (a_p0in : Nat → Nat) (a_p0ou : Nat → Nat) (a_p0ru : Nat → Nat) (a_p0no : Nat → Nat) (a_p0fo : Nat → Nat) (a_p0rd : Nat → Nat) (a_p0pa : Nat → Nat) (a_p3 : Nat → Nat) (pp_0 : Nat → Nat → Nat) (sv_p0 : Value) (p0_0 : OS) (p0no_0 : OS) (p0pa_0 : PS) (z_p3 : Nat) (p3_0 : Nat → Int64) (v1_0 : Int32) (v2_0 : Int32) (res : (OS × PS × (Nat → Int64) × Int32)) (hf : f_L_giveBack n sv_p0 p0_0 p0no_0 p0pa_0 z_p3 p3_0 v1_0 v2_0 = some res) : CXW l k yL_giveBack cL_giveBack 5 (some .int) [(0, 10, 13, 13), (0, 10, 17, 39)] 8 14 2006 244 [.ref (a_p0 0), .int v1_0, .int v2_0, .ref (a_p3 0)] ((wMCo k a_p0 (a_p0in 0) (a_p0ou 0) (a_p0ru 0) (a_p0no 0) (a_p0fo 0) (a_p0rd 0) (a_p0pa 0) sv_p0 p0_0 ++ wCourt k a_p0no p0no_0 ++ wPast k a_p0pa pp_0 p0pa_0 ++ wJArr k a_p3 z_p3 p3_0) ++ poolW k pp_0 p0pa_0.2) (Qi k (fun u : (OS) × (PS) × (Nat → Int64) × (Nat → Nat → Nat) => (wMCo k a_p0 (a_p0in 0) (a_p0ou 0) (a_p0ru 0) (a_p0no 0) (a_p0fo 0) (a_p0rd 0) (a_p0pa 0) sv_p0 p0_0 ++ wCourt k a_p0no (u.1) ++ wPast k a_p0pa (u.2.2.2) (u.2.1) ++ wJArr k a_p3 z_p3 (u.2.2.1)) ++ poolW k (u.2.2.2) (u.2.1).2) (fun (r : Int32) (u : (OS) × (PS) × (Nat → Int64) × (Nat → Nat → Nat)) => res = (u.1, u.2.1, u.2.2.1, r))) := by
  refine CXW.ofI (by decide) (Nat.le_of_ble_eq_true rfl) (fun p e s m args below meth c A Q E hnm htab hW hA hret ls hl => ?_)
  have hl : lv_has ls 5 [(0, .ref (a_p0 0)), (1, .int v1_0), (2, .int v2_0), (3, .ref (a_p3 0))] := hl
  unfold f_L_giveBack at hf
  refine k_aload_n E hl 3 dL_giveBack_0 rfl ?_
  refine lv_iconst (v := (0 : Int32)) E.hx E.hb dL_giveBack_1 ic_0 ?_
  refine k_aload_n E hl 0 dL_giveBack_2 rfl ?_
  refine k_iload_n E hl 1 dL_giveBack_3 rfl ?_
  refine k_iload_n E hl 2 dL_giveBack_4 rfl ?_
  obtain ⟨p0no_1, p0pa_2, r_3, cd_4, hg, hf⟩ := ob4 hf
  refine k_callXGi (As := [.int v1_0, .int v2_0]) (rest := [.int (0 : Int32), .ref (a_p3 0)]) (ws2 := fun u => (wMCo k a_p0 (a_p0in 0) (a_p0ou 0) (a_p0ru 0) (a_p0no 0) (a_p0fo 0) (a_p0rd 0) (a_p0pa 0) sv_p0 p0_0 ++ wCourt k a_p0no (u.1) ++ wPast k a_p0pa (u.2.2) (u.2.1) ++ wJArr k a_p3 z_p3 p3_0) ++ poolW k (u.2.2) (u.2.1).2) (c_X8_giveBack n l k hx a_p0 a_p0in a_p0ou a_p0ru a_p0no a_p0fo a_p0rd a_p0pa pp_0 sv_p0 p0_0 p0no_0 p0pa_0 v1_0 v2_0 (p0no_1, p0pa_2, r_3, cd_4) hg) E vl_L_60 dL_giveBack_5 rfl (List.range' 0 15) 6 0 hW hA hl rfl (blk_map [] (wMCo k a_p0 (a_p0in 0) (a_p0ou 0) (a_p0ru 0) (a_p0no 0) (a_p0fo 0) (a_p0rd 0) (a_p0pa 0) sv_p0 p0_0 ++ wCourt k a_p0no p0no_0 ++ wPast k a_p0pa pp_0 p0pa_0) (wJArr k a_p3 z_p3 p3_0) 0 15 (by simp only [List.nil_append]) rfl rfl) rfl rfl ⟨by decide, by decide⟩ ⟨by decide, by decide⟩ (Nat.le_of_ble_eq_true rfl) rfl (fun _ => rfl) (fun u => by rw [blk_put [] (wMCo k a_p0 (a_p0in 0) (a_p0ou 0) (a_p0ru 0) (a_p0no 0) (a_p0fo 0) (a_p0rd 0) (a_p0pa 0) sv_p0 p0_0 ++ wCourt k a_p0no p0no_0 ++ wPast k a_p0pa pp_0 p0pa_0) (wJArr k a_p3 z_p3 p3_0) (wMCo k a_p0 (a_p0in 0) (a_p0ou 0) (a_p0ru 0) (a_p0no 0) (a_p0fo 0) (a_p0rd 0) (a_p0pa 0) sv_p0 p0_0 ++ wCourt k a_p0no (u.1) ++ wPast k a_p0pa (u.2.2) (u.2.1)) 0 15 (by simp only [List.nil_append]) rfl rfl rfl]; try simp only [List.nil_append]) (fun cd9 u ce9 q9 H locs hp hW hce hcv hcls => ?_) (fun r u H locs hp hW => ?_)
  · obtain ⟨u0, u1, pp_5⟩ := u
    try dsimp only at hp
    obtain ⟨hcd, hp⟩ := hp
    cases hp
    have hW : WD k A s.heap ((wMCo k a_p0 (a_p0in 0) (a_p0ou 0) (a_p0ru 0) (a_p0no 0) (a_p0fo 0) (a_p0rd 0) (a_p0pa 0) sv_p0 p0_0 ++ wCourt k a_p0no p0no_1 ++ wPast k a_p0pa pp_5 p0pa_2 ++ wJArr k a_p3 z_p3 p3_0) ++ poolW k pp_5 p0pa_2.2) H locs := hW
    have hf := oF hcd hf
    by_cases hc : cd_4 = 1
    · have hf := oT hc hf
      subst hc
      refine k_catch (cd := 1) hN E htab [] (0, 10, 13, 13) [(0, 10, 17, 39)] rfl (fun z hz => by simp at hz) (by decide) (by decide) rfl (by decide) tm_752 tm_763 hce hcv hcls ?_
      refine lv_astore (lv' := [(4, .ref q9), (0, .ref (a_p0 0)), (1, .int v1_0), (2, .int v2_0), (3, .ref (a_p3 0))]) E.hx E.hb dL_giveBack_13 hl (by decide) rfl (fun ls hl => ?_)
      refine lv_iconst (v := (1 : Int32)) E.hx E.hb dL_giveBack_15 ic_1 ?_
      exact hret _ (p0no_1, p0pa_2, p3_0, pp_5) _ _ _ _ _ _ hW (Option.some.inj hf).symm rfl (by decide) (by decide) dL_giveBack_16
    have hf := oF hc hf
    by_cases hc : cd_4 = 2
    · have hf := oT hc hf
      subst hc
      refine k_catch (cd := 2) hN E htab [(0, 10, 13, 13)] (0, 10, 17, 39) [] rfl (by intro z hz; simp only [List.mem_cons, List.not_mem_nil, or_false] at hz; subst hz; exact ⟨by decide, 1, by decide, by decide, by decide, tm_752⟩) (by decide) (by decide) rfl (by decide) tm_936 tm_943 hce hcv hcls ?_
      refine lv_astore (lv' := [(4, .ref q9), (0, .ref (a_p0 0)), (1, .int v1_0), (2, .int v2_0), (3, .ref (a_p3 0))]) E.hx E.hb dL_giveBack_17 hl (by decide) rfl (fun ls hl => ?_)
      refine lv_iconst (v := (2 : Int32)) E.hx E.hb dL_giveBack_19 ic_2 ?_
      exact hret _ (p0no_1, p0pa_2, p3_0, pp_5) _ _ _ _ _ _ hW (Option.some.inj hf).symm rfl (by decide) (by decide) dL_giveBack_20
    have hf := oF hc hf
    exact o0 hf
  obtain ⟨u0, u1, pp_5⟩ := u
  try dsimp only at hp
  cases hp
  have hW : WD k A s.heap ((wMCo k a_p0 (a_p0in 0) (a_p0ou 0) (a_p0ru 0) (a_p0no 0) (a_p0fo 0) (a_p0rd 0) (a_p0pa 0) sv_p0 p0_0 ++ wCourt k a_p0no p0no_1 ++ wPast k a_p0pa pp_5 p0pa_2 ++ wJArr k a_p3 z_p3 p3_0) ++ poolW k pp_5 p0pa_2.2) H locs := hW
  have hf := oT rfl hf
  refine lv_i2l (v := (r_3).toInt64) E.hx E.hb dL_giveBack_8 rfl ?_
  obtain ⟨hin, hf⟩ := oI hf
  obtain ⟨p3_6, ep3_6, hf⟩ := oL hf
  refine k_last (ws2 := (wMCo k a_p0 (a_p0in 0) (a_p0ou 0) (a_p0ru 0) (a_p0no 0) (a_p0fo 0) (a_p0rd 0) (a_p0pa 0) sv_p0 p0_0 ++ wCourt k a_p0no p0no_1 ++ wPast k a_p0pa pp_5 p0pa_2 ++ wJArr k a_p3 z_p3 p3_6) ++ poolW k pp_5 p0pa_2.2) E hW 15 rfl hin dL_giveBack_9 (by rw [ep3_6]; rfl) (fun H locs hW => ?_)
  refine lv_goto (tgt := 21) E.hx E.hb dL_giveBack_10 (by decide) ?_
  refine lv_iconst (v := (0 : Int32)) E.hx E.hb dL_giveBack_21 ic_0 ?_
  exact hret _ (p0no_1, p0pa_2, p3_6, pp_5) _ _ _ _ _ _ hW (Option.some.inj hf).symm rfl (by decide) (by decide) dL_giveBack_22
def f_L_renew (n : Nat) (sv_p0 : Value) (p0_0 : OS) (p0no_0 : OS) (p0pa_0 : PS) (z_p3 : Nat) (p3_0 : Nat → Int64) (v1_0 : Int32) (v2_0 : Int32) : Option (OS × PS × (Nat → Int64) × Int32) :=
  bnd4 (f_X8_renew n sv_p0 p0_0 p0no_0 p0pa_0 v1_0 v2_0) (fun (p0no_1 : OS) (p0pa_2 : PS) (r_3 : Int32) (cd_4 : Nat) =>
  if cd_4 = 0 then (
  gI z_p3 (0 : Int32) (Let (vp_updL p3_0 (0 : Int32).toNatClampNeg ((r_3).toInt64)) (fun p3_6 : Nat → Int64 =>
  some (p0no_1, p0pa_2, p3_6, (0 : Int32))))) else (
  if cd_4 = 1 then (
  some (p0no_1, p0pa_2, p3_0, (1 : Int32))) else (if cd_4 = 2 then (
  some (p0no_1, p0pa_2, p3_0, (2 : Int32))) else (if cd_4 = 3 then (
  some (p0no_1, p0pa_2, p3_0, (3 : Int32))) else (none)))))
set_option maxHeartbeats 4000000 in
set_option maxRecDepth 100000 in
theorem c_L_renew (n : Nat) (l : Launch) (k : KT) (hN : CCH k) (hx : XH l k) (a_p0 : Nat → Nat) (a_p0in : Nat → Nat) (a_p0ou : Nat → Nat) (a_p0ru : Nat → Nat) (a_p0no : Nat → Nat) (a_p0fo : Nat → Nat) (a_p0rd : Nat → Nat) (a_p0pa : Nat → Nat) (a_p3 : Nat → Nat) (pp_0 : Nat → Nat → Nat) (sv_p0 : Value) (p0_0 : OS) (p0no_0 : OS) (p0pa_0 : PS) (z_p3 : Nat) (p3_0 : Nat → Int64) (v1_0 : Int32) (v2_0 : Int32) (res : (OS × PS × (Nat → Int64) × Int32)) (hf : f_L_renew n sv_p0 p0_0 p0no_0 p0pa_0 z_p3 p3_0 v1_0 v2_0 = some res) : CXW l k yL_renew cL_renew 5 (some .int) [(0, 10, 13, 13), (0, 10, 17, 39), (0, 10, 21, 51)] 8 14 2006 244 [.ref (a_p0 0), .int v1_0, .int v2_0, .ref (a_p3 0)] ((wMCo k a_p0 (a_p0in 0) (a_p0ou 0) (a_p0ru 0) (a_p0no 0) (a_p0fo 0) (a_p0rd 0) (a_p0pa 0) sv_p0 p0_0 ++ wCourt k a_p0no p0no_0 ++ wPast k a_p0pa pp_0 p0pa_0 ++ wJArr k a_p3 z_p3 p3_0) ++ poolW k pp_0 p0pa_0.2) (Qi k (fun u : (OS) × (PS) × (Nat → Int64) × (Nat → Nat → Nat) => (wMCo k a_p0 (a_p0in 0) (a_p0ou 0) (a_p0ru 0) (a_p0no 0) (a_p0fo 0) (a_p0rd 0) (a_p0pa 0) sv_p0 p0_0 ++ wCourt k a_p0no (u.1) ++ wPast k a_p0pa (u.2.2.2) (u.2.1) ++ wJArr k a_p3 z_p3 (u.2.2.1)) ++ poolW k (u.2.2.2) (u.2.1).2) (fun (r : Int32) (u : (OS) × (PS) × (Nat → Int64) × (Nat → Nat → Nat)) => res = (u.1, u.2.1, u.2.2.1, r))) := by
  refine CXW.ofI (by decide) (Nat.le_of_ble_eq_true rfl) (fun p e s m args below meth c A Q E hnm htab hW hA hret ls hl => ?_)
  have hl : lv_has ls 5 [(0, .ref (a_p0 0)), (1, .int v1_0), (2, .int v2_0), (3, .ref (a_p3 0))] := hl
  unfold f_L_renew at hf
  refine k_aload_n E hl 3 dL_renew_0 rfl ?_
  refine lv_iconst (v := (0 : Int32)) E.hx E.hb dL_renew_1 ic_0 ?_
  refine k_aload_n E hl 0 dL_renew_2 rfl ?_
  refine k_iload_n E hl 1 dL_renew_3 rfl ?_
  refine k_iload_n E hl 2 dL_renew_4 rfl ?_
  obtain ⟨p0no_1, p0pa_2, r_3, cd_4, hg, hf⟩ := ob4 hf
  refine k_callXGi (As := [.int v1_0, .int v2_0]) (rest := [.int (0 : Int32), .ref (a_p3 0)]) (ws2 := fun u => (wMCo k a_p0 (a_p0in 0) (a_p0ou 0) (a_p0ru 0) (a_p0no 0) (a_p0fo 0) (a_p0rd 0) (a_p0pa 0) sv_p0 p0_0 ++ wCourt k a_p0no (u.1) ++ wPast k a_p0pa (u.2.2) (u.2.1) ++ wJArr k a_p3 z_p3 p3_0) ++ poolW k (u.2.2) (u.2.1).2) (c_X8_renew n l k hx a_p0 a_p0in a_p0ou a_p0ru a_p0no a_p0fo a_p0rd a_p0pa pp_0 sv_p0 p0_0 p0no_0 p0pa_0 v1_0 v2_0 (p0no_1, p0pa_2, r_3, cd_4) hg) E vl_L_63 dL_renew_5 rfl (List.range' 0 15) 6 0 hW hA hl rfl (blk_map [] (wMCo k a_p0 (a_p0in 0) (a_p0ou 0) (a_p0ru 0) (a_p0no 0) (a_p0fo 0) (a_p0rd 0) (a_p0pa 0) sv_p0 p0_0 ++ wCourt k a_p0no p0no_0 ++ wPast k a_p0pa pp_0 p0pa_0) (wJArr k a_p3 z_p3 p3_0) 0 15 (by simp only [List.nil_append]) rfl rfl) rfl rfl ⟨by decide, by decide⟩ ⟨by decide, by decide⟩ (Nat.le_of_ble_eq_true rfl) rfl (fun _ => rfl) (fun u => by rw [blk_put [] (wMCo k a_p0 (a_p0in 0) (a_p0ou 0) (a_p0ru 0) (a_p0no 0) (a_p0fo 0) (a_p0rd 0) (a_p0pa 0) sv_p0 p0_0 ++ wCourt k a_p0no p0no_0 ++ wPast k a_p0pa pp_0 p0pa_0) (wJArr k a_p3 z_p3 p3_0) (wMCo k a_p0 (a_p0in 0) (a_p0ou 0) (a_p0ru 0) (a_p0no 0) (a_p0fo 0) (a_p0rd 0) (a_p0pa 0) sv_p0 p0_0 ++ wCourt k a_p0no (u.1) ++ wPast k a_p0pa (u.2.2) (u.2.1)) 0 15 (by simp only [List.nil_append]) rfl rfl rfl]; try simp only [List.nil_append]) (fun cd9 u ce9 q9 H locs hp hW hce hcv hcls => ?_) (fun r u H locs hp hW => ?_)
  · obtain ⟨u0, u1, pp_5⟩ := u
    try dsimp only at hp
    obtain ⟨hcd, hp⟩ := hp
    cases hp
    have hW : WD k A s.heap ((wMCo k a_p0 (a_p0in 0) (a_p0ou 0) (a_p0ru 0) (a_p0no 0) (a_p0fo 0) (a_p0rd 0) (a_p0pa 0) sv_p0 p0_0 ++ wCourt k a_p0no p0no_1 ++ wPast k a_p0pa pp_5 p0pa_2 ++ wJArr k a_p3 z_p3 p3_0) ++ poolW k pp_5 p0pa_2.2) H locs := hW
    have hf := oF hcd hf
    by_cases hc : cd_4 = 1
    · have hf := oT hc hf
      subst hc
      refine k_catch (cd := 1) hN E htab [] (0, 10, 13, 13) [(0, 10, 17, 39), (0, 10, 21, 51)] rfl (fun z hz => by simp at hz) (by decide) (by decide) rfl (by decide) tm_752 tm_763 hce hcv hcls ?_
      refine lv_astore (lv' := [(4, .ref q9), (0, .ref (a_p0 0)), (1, .int v1_0), (2, .int v2_0), (3, .ref (a_p3 0))]) E.hx E.hb dL_renew_13 hl (by decide) rfl (fun ls hl => ?_)
      refine lv_iconst (v := (1 : Int32)) E.hx E.hb dL_renew_15 ic_1 ?_
      exact hret _ (p0no_1, p0pa_2, p3_0, pp_5) _ _ _ _ _ _ hW (Option.some.inj hf).symm rfl (by decide) (by decide) dL_renew_16
    have hf := oF hc hf
    by_cases hc : cd_4 = 2
    · have hf := oT hc hf
      subst hc
      refine k_catch (cd := 2) hN E htab [(0, 10, 13, 13)] (0, 10, 17, 39) [(0, 10, 21, 51)] rfl (by intro z hz; simp only [List.mem_cons, List.not_mem_nil, or_false] at hz; subst hz; exact ⟨by decide, 1, by decide, by decide, by decide, tm_752⟩) (by decide) (by decide) rfl (by decide) tm_936 tm_943 hce hcv hcls ?_
      refine lv_astore (lv' := [(4, .ref q9), (0, .ref (a_p0 0)), (1, .int v1_0), (2, .int v2_0), (3, .ref (a_p3 0))]) E.hx E.hb dL_renew_17 hl (by decide) rfl (fun ls hl => ?_)
      refine lv_iconst (v := (2 : Int32)) E.hx E.hb dL_renew_19 ic_2 ?_
      exact hret _ (p0no_1, p0pa_2, p3_0, pp_5) _ _ _ _ _ _ hW (Option.some.inj hf).symm rfl (by decide) (by decide) dL_renew_20
    have hf := oF hc hf
    by_cases hc : cd_4 = 3
    · have hf := oT hc hf
      subst hc
      refine k_catch (cd := 3) hN E htab [(0, 10, 13, 13), (0, 10, 17, 39)] (0, 10, 21, 51) [] rfl (by intro z hz; simp only [List.mem_cons, List.not_mem_nil, or_false] at hz; rcases hz with rfl | rfl; exact ⟨by decide, 1, by decide, by decide, by decide, tm_752⟩; exact ⟨by decide, 2, by decide, by decide, by decide, tm_936⟩) (by decide) (by decide) rfl (by decide) tm_997 tm_1009 hce hcv hcls ?_
      refine lv_astore (lv' := [(4, .ref q9), (0, .ref (a_p0 0)), (1, .int v1_0), (2, .int v2_0), (3, .ref (a_p3 0))]) E.hx E.hb dL_renew_21 hl (by decide) rfl (fun ls hl => ?_)
      refine lv_iconst (v := (3 : Int32)) E.hx E.hb dL_renew_23 ic_3 ?_
      exact hret _ (p0no_1, p0pa_2, p3_0, pp_5) _ _ _ _ _ _ hW (Option.some.inj hf).symm rfl (by decide) (by decide) dL_renew_24
    have hf := oF hc hf
    exact o0 hf
  obtain ⟨u0, u1, pp_5⟩ := u
  try dsimp only at hp
  cases hp
  have hW : WD k A s.heap ((wMCo k a_p0 (a_p0in 0) (a_p0ou 0) (a_p0ru 0) (a_p0no 0) (a_p0fo 0) (a_p0rd 0) (a_p0pa 0) sv_p0 p0_0 ++ wCourt k a_p0no p0no_1 ++ wPast k a_p0pa pp_5 p0pa_2 ++ wJArr k a_p3 z_p3 p3_0) ++ poolW k pp_5 p0pa_2.2) H locs := hW
  have hf := oT rfl hf
  refine lv_i2l (v := (r_3).toInt64) E.hx E.hb dL_renew_8 rfl ?_
  obtain ⟨hin, hf⟩ := oI hf
  obtain ⟨p3_6, ep3_6, hf⟩ := oL hf
  refine k_last (ws2 := (wMCo k a_p0 (a_p0in 0) (a_p0ou 0) (a_p0ru 0) (a_p0no 0) (a_p0fo 0) (a_p0rd 0) (a_p0pa 0) sv_p0 p0_0 ++ wCourt k a_p0no p0no_1 ++ wPast k a_p0pa pp_5 p0pa_2 ++ wJArr k a_p3 z_p3 p3_6) ++ poolW k pp_5 p0pa_2.2) E hW 15 rfl hin dL_renew_9 (by rw [ep3_6]; rfl) (fun H locs hW => ?_)
  refine lv_goto (tgt := 25) E.hx E.hb dL_renew_10 (by decide) ?_
  refine lv_iconst (v := (0 : Int32)) E.hx E.hb dL_renew_25 ic_0 ?_
  exact hret _ (p0no_1, p0pa_2, p3_6, pp_5) _ _ _ _ _ _ hW (Option.some.inj hf).symm rfl (by decide) (by decide) dL_renew_26
def f_L_stall (n : Nat) (sv_p0 : Value) (p0_0 : OS) (p0ru_0 : OS) (p0no_0 : OS) (p0pa_0 : PS) (z_p3 : Nat) (p3_0 : Nat → Int64) (v1_0 : Int32) (v2_0 : Int32) : Option (OS × PS × (Nat → Int64) × Int32) :=
  bnd4 (f_X8_stall n sv_p0 p0_0 p0ru_0 p0no_0 p0pa_0 v1_0 v2_0) (fun (p0no_1 : OS) (p0pa_2 : PS) (r_3 : Int32) (cd_4 : Nat) =>
  if cd_4 = 0 then (
  gI z_p3 (0 : Int32) (Let (vp_updL p3_0 (0 : Int32).toNatClampNeg ((r_3).toInt64)) (fun p3_6 : Nat → Int64 =>
  some (p0no_1, p0pa_2, p3_6, (0 : Int32))))) else (
  if cd_4 = 1 then (
  some (p0no_1, p0pa_2, p3_0, (1 : Int32))) else (if cd_4 = 2 then (
  some (p0no_1, p0pa_2, p3_0, (2 : Int32))) else (none))))
set_option maxHeartbeats 4000000 in
set_option maxRecDepth 100000 in
theorem c_L_stall (n : Nat) (l : Launch) (k : KT) (hN : CCH k) (hx : XH l k) (a_p0 : Nat → Nat) (a_p0in : Nat → Nat) (a_p0ou : Nat → Nat) (a_p0ru : Nat → Nat) (a_p0no : Nat → Nat) (a_p0fo : Nat → Nat) (a_p0rd : Nat → Nat) (a_p0pa : Nat → Nat) (a_p3 : Nat → Nat) (pp_0 : Nat → Nat → Nat) (sv_p0 : Value) (p0_0 : OS) (p0ru_0 : OS) (p0no_0 : OS) (p0pa_0 : PS) (z_p3 : Nat) (p3_0 : Nat → Int64) (v1_0 : Int32) (v2_0 : Int32) (res : (OS × PS × (Nat → Int64) × Int32)) (hf : f_L_stall n sv_p0 p0_0 p0ru_0 p0no_0 p0pa_0 z_p3 p3_0 v1_0 v2_0 = some res) : CXW l k yL_stall cL_stall 5 (some .int) [(0, 10, 13, 13), (0, 10, 17, 39)] 8 14 2006 245 [.ref (a_p0 0), .int v1_0, .int v2_0, .ref (a_p3 0)] ((wMCo k a_p0 (a_p0in 0) (a_p0ou 0) (a_p0ru 0) (a_p0no 0) (a_p0fo 0) (a_p0rd 0) (a_p0pa 0) sv_p0 p0_0 ++ wRules k a_p0ru p0ru_0 ++ wCourt k a_p0no p0no_0 ++ wPast k a_p0pa pp_0 p0pa_0 ++ wJArr k a_p3 z_p3 p3_0) ++ poolW k pp_0 p0pa_0.2) (Qi k (fun u : (OS) × (PS) × (Nat → Int64) × (Nat → Nat → Nat) => (wMCo k a_p0 (a_p0in 0) (a_p0ou 0) (a_p0ru 0) (a_p0no 0) (a_p0fo 0) (a_p0rd 0) (a_p0pa 0) sv_p0 p0_0 ++ wRules k a_p0ru p0ru_0 ++ wCourt k a_p0no (u.1) ++ wPast k a_p0pa (u.2.2.2) (u.2.1) ++ wJArr k a_p3 z_p3 (u.2.2.1)) ++ poolW k (u.2.2.2) (u.2.1).2) (fun (r : Int32) (u : (OS) × (PS) × (Nat → Int64) × (Nat → Nat → Nat)) => res = (u.1, u.2.1, u.2.2.1, r))) := by
  refine CXW.ofI (by decide) (Nat.le_of_ble_eq_true rfl) (fun p e s m args below meth c A Q E hnm htab hW hA hret ls hl => ?_)
  have hl : lv_has ls 5 [(0, .ref (a_p0 0)), (1, .int v1_0), (2, .int v2_0), (3, .ref (a_p3 0))] := hl
  unfold f_L_stall at hf
  refine k_aload_n E hl 3 dL_stall_0 rfl ?_
  refine lv_iconst (v := (0 : Int32)) E.hx E.hb dL_stall_1 ic_0 ?_
  refine k_aload_n E hl 0 dL_stall_2 rfl ?_
  refine k_iload_n E hl 1 dL_stall_3 rfl ?_
  refine k_iload_n E hl 2 dL_stall_4 rfl ?_
  obtain ⟨p0no_1, p0pa_2, r_3, cd_4, hg, hf⟩ := ob4 hf
  refine k_callXGi (As := [.int v1_0, .int v2_0]) (rest := [.int (0 : Int32), .ref (a_p3 0)]) (ws2 := fun u => (wMCo k a_p0 (a_p0in 0) (a_p0ou 0) (a_p0ru 0) (a_p0no 0) (a_p0fo 0) (a_p0rd 0) (a_p0pa 0) sv_p0 p0_0 ++ wRules k a_p0ru p0ru_0 ++ wCourt k a_p0no (u.1) ++ wPast k a_p0pa (u.2.2) (u.2.1) ++ wJArr k a_p3 z_p3 p3_0) ++ poolW k (u.2.2) (u.2.1).2) (c_X8_stall n l k hx a_p0 a_p0in a_p0ou a_p0ru a_p0no a_p0fo a_p0rd a_p0pa pp_0 sv_p0 p0_0 p0ru_0 p0no_0 p0pa_0 v1_0 v2_0 (p0no_1, p0pa_2, r_3, cd_4) hg) E vl_L_66 dL_stall_5 rfl (List.range' 0 18) 6 0 hW hA hl rfl (blk_map [] (wMCo k a_p0 (a_p0in 0) (a_p0ou 0) (a_p0ru 0) (a_p0no 0) (a_p0fo 0) (a_p0rd 0) (a_p0pa 0) sv_p0 p0_0 ++ wRules k a_p0ru p0ru_0 ++ wCourt k a_p0no p0no_0 ++ wPast k a_p0pa pp_0 p0pa_0) (wJArr k a_p3 z_p3 p3_0) 0 18 (by simp only [List.nil_append]) rfl rfl) rfl rfl ⟨by decide, by decide⟩ ⟨by decide, by decide⟩ (Nat.le_of_ble_eq_true rfl) rfl (fun _ => rfl) (fun u => by rw [blk_put [] (wMCo k a_p0 (a_p0in 0) (a_p0ou 0) (a_p0ru 0) (a_p0no 0) (a_p0fo 0) (a_p0rd 0) (a_p0pa 0) sv_p0 p0_0 ++ wRules k a_p0ru p0ru_0 ++ wCourt k a_p0no p0no_0 ++ wPast k a_p0pa pp_0 p0pa_0) (wJArr k a_p3 z_p3 p3_0) (wMCo k a_p0 (a_p0in 0) (a_p0ou 0) (a_p0ru 0) (a_p0no 0) (a_p0fo 0) (a_p0rd 0) (a_p0pa 0) sv_p0 p0_0 ++ wRules k a_p0ru p0ru_0 ++ wCourt k a_p0no (u.1) ++ wPast k a_p0pa (u.2.2) (u.2.1)) 0 18 (by simp only [List.nil_append]) rfl rfl rfl]; try simp only [List.nil_append]) (fun cd9 u ce9 q9 H locs hp hW hce hcv hcls => ?_) (fun r u H locs hp hW => ?_)
  · obtain ⟨u0, u1, pp_5⟩ := u
    try dsimp only at hp
    obtain ⟨hcd, hp⟩ := hp
    cases hp
    have hW : WD k A s.heap ((wMCo k a_p0 (a_p0in 0) (a_p0ou 0) (a_p0ru 0) (a_p0no 0) (a_p0fo 0) (a_p0rd 0) (a_p0pa 0) sv_p0 p0_0 ++ wRules k a_p0ru p0ru_0 ++ wCourt k a_p0no p0no_1 ++ wPast k a_p0pa pp_5 p0pa_2 ++ wJArr k a_p3 z_p3 p3_0) ++ poolW k pp_5 p0pa_2.2) H locs := hW
    have hf := oF hcd hf
    by_cases hc : cd_4 = 1
    · have hf := oT hc hf
      subst hc
      refine k_catch (cd := 1) hN E htab [] (0, 10, 13, 13) [(0, 10, 17, 39)] rfl (fun z hz => by simp at hz) (by decide) (by decide) rfl (by decide) tm_752 tm_763 hce hcv hcls ?_
      refine lv_astore (lv' := [(4, .ref q9), (0, .ref (a_p0 0)), (1, .int v1_0), (2, .int v2_0), (3, .ref (a_p3 0))]) E.hx E.hb dL_stall_13 hl (by decide) rfl (fun ls hl => ?_)
      refine lv_iconst (v := (1 : Int32)) E.hx E.hb dL_stall_15 ic_1 ?_
      exact hret _ (p0no_1, p0pa_2, p3_0, pp_5) _ _ _ _ _ _ hW (Option.some.inj hf).symm rfl (by decide) (by decide) dL_stall_16
    have hf := oF hc hf
    by_cases hc : cd_4 = 2
    · have hf := oT hc hf
      subst hc
      refine k_catch (cd := 2) hN E htab [(0, 10, 13, 13)] (0, 10, 17, 39) [] rfl (by intro z hz; simp only [List.mem_cons, List.not_mem_nil, or_false] at hz; subst hz; exact ⟨by decide, 1, by decide, by decide, by decide, tm_752⟩) (by decide) (by decide) rfl (by decide) tm_936 tm_943 hce hcv hcls ?_
      refine lv_astore (lv' := [(4, .ref q9), (0, .ref (a_p0 0)), (1, .int v1_0), (2, .int v2_0), (3, .ref (a_p3 0))]) E.hx E.hb dL_stall_17 hl (by decide) rfl (fun ls hl => ?_)
      refine lv_iconst (v := (2 : Int32)) E.hx E.hb dL_stall_19 ic_2 ?_
      exact hret _ (p0no_1, p0pa_2, p3_0, pp_5) _ _ _ _ _ _ hW (Option.some.inj hf).symm rfl (by decide) (by decide) dL_stall_20
    have hf := oF hc hf
    exact o0 hf
  obtain ⟨u0, u1, pp_5⟩ := u
  try dsimp only at hp
  cases hp
  have hW : WD k A s.heap ((wMCo k a_p0 (a_p0in 0) (a_p0ou 0) (a_p0ru 0) (a_p0no 0) (a_p0fo 0) (a_p0rd 0) (a_p0pa 0) sv_p0 p0_0 ++ wRules k a_p0ru p0ru_0 ++ wCourt k a_p0no p0no_1 ++ wPast k a_p0pa pp_5 p0pa_2 ++ wJArr k a_p3 z_p3 p3_0) ++ poolW k pp_5 p0pa_2.2) H locs := hW
  have hf := oT rfl hf
  refine lv_i2l (v := (r_3).toInt64) E.hx E.hb dL_stall_8 rfl ?_
  obtain ⟨hin, hf⟩ := oI hf
  obtain ⟨p3_6, ep3_6, hf⟩ := oL hf
  refine k_last (ws2 := (wMCo k a_p0 (a_p0in 0) (a_p0ou 0) (a_p0ru 0) (a_p0no 0) (a_p0fo 0) (a_p0rd 0) (a_p0pa 0) sv_p0 p0_0 ++ wRules k a_p0ru p0ru_0 ++ wCourt k a_p0no p0no_1 ++ wPast k a_p0pa pp_5 p0pa_2 ++ wJArr k a_p3 z_p3 p3_6) ++ poolW k pp_5 p0pa_2.2) E hW 18 rfl hin dL_stall_9 (by rw [ep3_6]; rfl) (fun H locs hW => ?_)
  refine lv_goto (tgt := 21) E.hx E.hb dL_stall_10 (by decide) ?_
  refine lv_iconst (v := (0 : Int32)) E.hx E.hb dL_stall_21 ic_0 ?_
  exact hret _ (p0no_1, p0pa_2, p3_6, pp_5) _ _ _ _ _ _ hW (Option.some.inj hf).symm rfl (by decide) (by decide) dL_stall_22
def f_L_appeal (n : Nat) (sv_p0 : Value) (p0_0 : OS) (p0ru_0 : OS) (p0no_0 : OS) (p0pa_0 : PS) (z_p2 : Nat) (p2_0 : Nat → Int64) (v1_0 : Int32) : Option (OS × PS × (Nat → Int64) × Int32) :=
  bnd4 (f_X8_appeal n sv_p0 p0_0 p0ru_0 p0no_0 p0pa_0 v1_0) (fun (p0no_1 : OS) (p0pa_2 : PS) (r_3 : Int32) (cd_4 : Nat) =>
  if cd_4 = 0 then (
  gI z_p2 (0 : Int32) (Let (vp_updL p2_0 (0 : Int32).toNatClampNeg ((r_3).toInt64)) (fun p2_6 : Nat → Int64 =>
  some (p0no_1, p0pa_2, p2_6, (0 : Int32))))) else (
  if cd_4 = 3 then (
  some (p0no_1, p0pa_2, p2_0, (1 : Int32))) else (if cd_4 = 4 then (
  some (p0no_1, p0pa_2, p2_0, (2 : Int32))) else (none))))
set_option maxHeartbeats 4000000 in
set_option maxRecDepth 100000 in
theorem c_L_appeal (n : Nat) (l : Launch) (k : KT) (hN : CCH k) (hx : XH l k) (a_p0 : Nat → Nat) (a_p0in : Nat → Nat) (a_p0ou : Nat → Nat) (a_p0ru : Nat → Nat) (a_p0no : Nat → Nat) (a_p0fo : Nat → Nat) (a_p0rd : Nat → Nat) (a_p0pa : Nat → Nat) (a_p2 : Nat → Nat) (pp_0 : Nat → Nat → Nat) (sv_p0 : Value) (p0_0 : OS) (p0ru_0 : OS) (p0no_0 : OS) (p0pa_0 : PS) (z_p2 : Nat) (p2_0 : Nat → Int64) (v1_0 : Int32) (res : (OS × PS × (Nat → Int64) × Int32)) (hf : f_L_appeal n sv_p0 p0_0 p0ru_0 p0no_0 p0pa_0 z_p2 p2_0 v1_0 = some res) : CXW l k yL_appeal cL_appeal 4 (some .int) [(0, 9, 12, 51), (0, 9, 15, 25)] 8 14 2006 243 [.ref (a_p0 0), .int v1_0, .ref (a_p2 0)] ((wMCo k a_p0 (a_p0in 0) (a_p0ou 0) (a_p0ru 0) (a_p0no 0) (a_p0fo 0) (a_p0rd 0) (a_p0pa 0) sv_p0 p0_0 ++ wRules k a_p0ru p0ru_0 ++ wCourt k a_p0no p0no_0 ++ wPast k a_p0pa pp_0 p0pa_0 ++ wJArr k a_p2 z_p2 p2_0) ++ poolW k pp_0 p0pa_0.2) (Qi k (fun u : (OS) × (PS) × (Nat → Int64) × (Nat → Nat → Nat) => (wMCo k a_p0 (a_p0in 0) (a_p0ou 0) (a_p0ru 0) (a_p0no 0) (a_p0fo 0) (a_p0rd 0) (a_p0pa 0) sv_p0 p0_0 ++ wRules k a_p0ru p0ru_0 ++ wCourt k a_p0no (u.1) ++ wPast k a_p0pa (u.2.2.2) (u.2.1) ++ wJArr k a_p2 z_p2 (u.2.2.1)) ++ poolW k (u.2.2.2) (u.2.1).2) (fun (r : Int32) (u : (OS) × (PS) × (Nat → Int64) × (Nat → Nat → Nat)) => res = (u.1, u.2.1, u.2.2.1, r))) := by
  refine CXW.ofI (by decide) (Nat.le_of_ble_eq_true rfl) (fun p e s m args below meth c A Q E hnm htab hW hA hret ls hl => ?_)
  have hl : lv_has ls 4 [(0, .ref (a_p0 0)), (1, .int v1_0), (2, .ref (a_p2 0))] := hl
  unfold f_L_appeal at hf
  refine k_aload_n E hl 2 dL_appeal_0 rfl ?_
  refine lv_iconst (v := (0 : Int32)) E.hx E.hb dL_appeal_1 ic_0 ?_
  refine k_aload_n E hl 0 dL_appeal_2 rfl ?_
  refine k_iload_n E hl 1 dL_appeal_3 rfl ?_
  obtain ⟨p0no_1, p0pa_2, r_3, cd_4, hg, hf⟩ := ob4 hf
  refine k_callXGi (As := [.int v1_0]) (rest := [.int (0 : Int32), .ref (a_p2 0)]) (ws2 := fun u => (wMCo k a_p0 (a_p0in 0) (a_p0ou 0) (a_p0ru 0) (a_p0no 0) (a_p0fo 0) (a_p0rd 0) (a_p0pa 0) sv_p0 p0_0 ++ wRules k a_p0ru p0ru_0 ++ wCourt k a_p0no (u.1) ++ wPast k a_p0pa (u.2.2) (u.2.1) ++ wJArr k a_p2 z_p2 p2_0) ++ poolW k (u.2.2) (u.2.1).2) (c_X8_appeal n l k hx a_p0 a_p0in a_p0ou a_p0ru a_p0no a_p0fo a_p0rd a_p0pa pp_0 sv_p0 p0_0 p0ru_0 p0no_0 p0pa_0 v1_0 (p0no_1, p0pa_2, r_3, cd_4) hg) E vl_L_69 dL_appeal_4 rfl (List.range' 0 18) 6 0 hW hA hl rfl (blk_map [] (wMCo k a_p0 (a_p0in 0) (a_p0ou 0) (a_p0ru 0) (a_p0no 0) (a_p0fo 0) (a_p0rd 0) (a_p0pa 0) sv_p0 p0_0 ++ wRules k a_p0ru p0ru_0 ++ wCourt k a_p0no p0no_0 ++ wPast k a_p0pa pp_0 p0pa_0) (wJArr k a_p2 z_p2 p2_0) 0 18 (by simp only [List.nil_append]) rfl rfl) rfl rfl ⟨by decide, by decide⟩ ⟨by decide, by decide⟩ (Nat.le_of_ble_eq_true rfl) rfl (fun _ => rfl) (fun u => by rw [blk_put [] (wMCo k a_p0 (a_p0in 0) (a_p0ou 0) (a_p0ru 0) (a_p0no 0) (a_p0fo 0) (a_p0rd 0) (a_p0pa 0) sv_p0 p0_0 ++ wRules k a_p0ru p0ru_0 ++ wCourt k a_p0no p0no_0 ++ wPast k a_p0pa pp_0 p0pa_0) (wJArr k a_p2 z_p2 p2_0) (wMCo k a_p0 (a_p0in 0) (a_p0ou 0) (a_p0ru 0) (a_p0no 0) (a_p0fo 0) (a_p0rd 0) (a_p0pa 0) sv_p0 p0_0 ++ wRules k a_p0ru p0ru_0 ++ wCourt k a_p0no (u.1) ++ wPast k a_p0pa (u.2.2) (u.2.1)) 0 18 (by simp only [List.nil_append]) rfl rfl rfl]; try simp only [List.nil_append]) (fun cd9 u ce9 q9 H locs hp hW hce hcv hcls => ?_) (fun r u H locs hp hW => ?_)
  · obtain ⟨u0, u1, pp_5⟩ := u
    try dsimp only at hp
    obtain ⟨hcd, hp⟩ := hp
    cases hp
    have hW : WD k A s.heap ((wMCo k a_p0 (a_p0in 0) (a_p0ou 0) (a_p0ru 0) (a_p0no 0) (a_p0fo 0) (a_p0rd 0) (a_p0pa 0) sv_p0 p0_0 ++ wRules k a_p0ru p0ru_0 ++ wCourt k a_p0no p0no_1 ++ wPast k a_p0pa pp_5 p0pa_2 ++ wJArr k a_p2 z_p2 p2_0) ++ poolW k pp_5 p0pa_2.2) H locs := hW
    have hf := oF hcd hf
    by_cases hc : cd_4 = 3
    · have hf := oT hc hf
      subst hc
      refine k_catch (cd := 3) hN E htab [] (0, 9, 12, 51) [(0, 9, 15, 25)] rfl (fun z hz => by simp at hz) (by decide) (by decide) rfl (by decide) tm_997 tm_1009 hce hcv hcls ?_
      refine lv_astore_n (lv' := [(3, .ref q9), (0, .ref (a_p0 0)), (1, .int v1_0), (2, .ref (a_p2 0))]) E.hx E.hb dL_appeal_12 rfl hl (by decide) rfl (fun ls hl => ?_)
      refine lv_iconst (v := (1 : Int32)) E.hx E.hb dL_appeal_13 ic_1 ?_
      exact hret _ (p0no_1, p0pa_2, p2_0, pp_5) _ _ _ _ _ _ hW (Option.some.inj hf).symm rfl (by decide) (by decide) dL_appeal_14
    have hf := oF hc hf
    by_cases hc : cd_4 = 4
    · have hf := oT hc hf
      subst hc
      refine k_catch (cd := 4) hN E htab [(0, 9, 12, 51)] (0, 9, 15, 25) [] rfl (by intro z hz; simp only [List.mem_cons, List.not_mem_nil, or_false] at hz; subst hz; exact ⟨by decide, 3, by decide, by decide, by decide, tm_997⟩) (by decide) (by decide) rfl (by decide) tm_864 tm_875 hce hcv hcls ?_
      refine lv_astore_n (lv' := [(3, .ref q9), (0, .ref (a_p0 0)), (1, .int v1_0), (2, .ref (a_p2 0))]) E.hx E.hb dL_appeal_15 rfl hl (by decide) rfl (fun ls hl => ?_)
      refine lv_iconst (v := (2 : Int32)) E.hx E.hb dL_appeal_16 ic_2 ?_
      exact hret _ (p0no_1, p0pa_2, p2_0, pp_5) _ _ _ _ _ _ hW (Option.some.inj hf).symm rfl (by decide) (by decide) dL_appeal_17
    have hf := oF hc hf
    exact o0 hf
  obtain ⟨u0, u1, pp_5⟩ := u
  try dsimp only at hp
  cases hp
  have hW : WD k A s.heap ((wMCo k a_p0 (a_p0in 0) (a_p0ou 0) (a_p0ru 0) (a_p0no 0) (a_p0fo 0) (a_p0rd 0) (a_p0pa 0) sv_p0 p0_0 ++ wRules k a_p0ru p0ru_0 ++ wCourt k a_p0no p0no_1 ++ wPast k a_p0pa pp_5 p0pa_2 ++ wJArr k a_p2 z_p2 p2_0) ++ poolW k pp_5 p0pa_2.2) H locs := hW
  have hf := oT rfl hf
  refine lv_i2l (v := (r_3).toInt64) E.hx E.hb dL_appeal_7 rfl ?_
  obtain ⟨hin, hf⟩ := oI hf
  obtain ⟨p2_6, ep2_6, hf⟩ := oL hf
  refine k_last (ws2 := (wMCo k a_p0 (a_p0in 0) (a_p0ou 0) (a_p0ru 0) (a_p0no 0) (a_p0fo 0) (a_p0rd 0) (a_p0pa 0) sv_p0 p0_0 ++ wRules k a_p0ru p0ru_0 ++ wCourt k a_p0no p0no_1 ++ wPast k a_p0pa pp_5 p0pa_2 ++ wJArr k a_p2 z_p2 p2_6) ++ poolW k pp_5 p0pa_2.2) E hW 18 rfl hin dL_appeal_8 (by rw [ep2_6]; rfl) (fun H locs hW => ?_)
  refine lv_goto (tgt := 18) E.hx E.hb dL_appeal_9 (by decide) ?_
  refine lv_iconst (v := (0 : Int32)) E.hx E.hb dL_appeal_18 ic_0 ?_
  exact hret _ (p0no_1, p0pa_2, p2_6, pp_5) _ _ _ _ _ _ hW (Option.some.inj hf).symm rfl (by decide) (by decide) dL_appeal_19
def f_L_setOrder (n : Nat) (sv_p0 : Value) (p0_0 : OS) (p0no_0 : OS) (p0pa_0 : PS) (z_p2 : Nat) (p2_0 : Nat → Int64) (v1_0 : Int32) : Option (OS × PS × (Nat → Int64) × Int32) :=
  bnd4 (f_X8_setOrder n sv_p0 p0_0 p0no_0 p0pa_0 v1_0) (fun (p0no_1 : OS) (p0pa_2 : PS) (r_3 : Int32) (cd_4 : Nat) =>
  if cd_4 = 0 then (
  gI z_p2 (0 : Int32) (Let (vp_updL p2_0 (0 : Int32).toNatClampNeg ((r_3).toInt64)) (fun p2_6 : Nat → Int64 =>
  some (p0no_1, p0pa_2, p2_6, (0 : Int32))))) else (
  if cd_4 = 2 then (
  some (p0no_1, p0pa_2, p2_0, (1 : Int32))) else (none)))
set_option maxHeartbeats 4000000 in
set_option maxRecDepth 100000 in
theorem c_L_setOrder (n : Nat) (l : Launch) (k : KT) (hN : CCH k) (hx : XH l k) (a_p0 : Nat → Nat) (a_p0in : Nat → Nat) (a_p0ou : Nat → Nat) (a_p0ru : Nat → Nat) (a_p0no : Nat → Nat) (a_p0fo : Nat → Nat) (a_p0rd : Nat → Nat) (a_p0pa : Nat → Nat) (a_p2 : Nat → Nat) (pp_0 : Nat → Nat → Nat) (sv_p0 : Value) (p0_0 : OS) (p0no_0 : OS) (p0pa_0 : PS) (z_p2 : Nat) (p2_0 : Nat → Int64) (v1_0 : Int32) (res : (OS × PS × (Nat → Int64) × Int32)) (hf : f_L_setOrder n sv_p0 p0_0 p0no_0 p0pa_0 z_p2 p2_0 v1_0 = some res) : CXW l k yL_setOrder cL_setOrder 4 (some .int) [(0, 9, 12, 39)] 7 13 2000 244 [.ref (a_p0 0), .int v1_0, .ref (a_p2 0)] ((wMCo k a_p0 (a_p0in 0) (a_p0ou 0) (a_p0ru 0) (a_p0no 0) (a_p0fo 0) (a_p0rd 0) (a_p0pa 0) sv_p0 p0_0 ++ wCourt k a_p0no p0no_0 ++ wPast k a_p0pa pp_0 p0pa_0 ++ wJArr k a_p2 z_p2 p2_0) ++ poolW k pp_0 p0pa_0.2) (Qi k (fun u : (OS) × (PS) × (Nat → Int64) × (Nat → Nat → Nat) => (wMCo k a_p0 (a_p0in 0) (a_p0ou 0) (a_p0ru 0) (a_p0no 0) (a_p0fo 0) (a_p0rd 0) (a_p0pa 0) sv_p0 p0_0 ++ wCourt k a_p0no (u.1) ++ wPast k a_p0pa (u.2.2.2) (u.2.1) ++ wJArr k a_p2 z_p2 (u.2.2.1)) ++ poolW k (u.2.2.2) (u.2.1).2) (fun (r : Int32) (u : (OS) × (PS) × (Nat → Int64) × (Nat → Nat → Nat)) => res = (u.1, u.2.1, u.2.2.1, r))) := by
  refine CXW.ofI (by decide) (Nat.le_of_ble_eq_true rfl) (fun p e s m args below meth c A Q E hnm htab hW hA hret ls hl => ?_)
  have hl : lv_has ls 4 [(0, .ref (a_p0 0)), (1, .int v1_0), (2, .ref (a_p2 0))] := hl
  unfold f_L_setOrder at hf
  refine k_aload_n E hl 2 dL_setOrder_0 rfl ?_
  refine lv_iconst (v := (0 : Int32)) E.hx E.hb dL_setOrder_1 ic_0 ?_
  refine k_aload_n E hl 0 dL_setOrder_2 rfl ?_
  refine k_iload_n E hl 1 dL_setOrder_3 rfl ?_
  obtain ⟨p0no_1, p0pa_2, r_3, cd_4, hg, hf⟩ := ob4 hf
  refine k_callXGi (As := [.int v1_0]) (rest := [.int (0 : Int32), .ref (a_p2 0)]) (ws2 := fun u => (wMCo k a_p0 (a_p0in 0) (a_p0ou 0) (a_p0ru 0) (a_p0no 0) (a_p0fo 0) (a_p0rd 0) (a_p0pa 0) sv_p0 p0_0 ++ wCourt k a_p0no (u.1) ++ wPast k a_p0pa (u.2.2) (u.2.1) ++ wJArr k a_p2 z_p2 p2_0) ++ poolW k (u.2.2) (u.2.1).2) (c_X8_setOrder n l k hx a_p0 a_p0in a_p0ou a_p0ru a_p0no a_p0fo a_p0rd a_p0pa pp_0 sv_p0 p0_0 p0no_0 p0pa_0 v1_0 (p0no_1, p0pa_2, r_3, cd_4) hg) E vl_L_72 dL_setOrder_4 rfl (List.range' 0 15) 6 0 hW hA hl rfl (blk_map [] (wMCo k a_p0 (a_p0in 0) (a_p0ou 0) (a_p0ru 0) (a_p0no 0) (a_p0fo 0) (a_p0rd 0) (a_p0pa 0) sv_p0 p0_0 ++ wCourt k a_p0no p0no_0 ++ wPast k a_p0pa pp_0 p0pa_0) (wJArr k a_p2 z_p2 p2_0) 0 15 (by simp only [List.nil_append]) rfl rfl) rfl rfl ⟨by decide, by decide⟩ ⟨by decide, by decide⟩ (Nat.le_of_ble_eq_true rfl) rfl (fun _ => rfl) (fun u => by rw [blk_put [] (wMCo k a_p0 (a_p0in 0) (a_p0ou 0) (a_p0ru 0) (a_p0no 0) (a_p0fo 0) (a_p0rd 0) (a_p0pa 0) sv_p0 p0_0 ++ wCourt k a_p0no p0no_0 ++ wPast k a_p0pa pp_0 p0pa_0) (wJArr k a_p2 z_p2 p2_0) (wMCo k a_p0 (a_p0in 0) (a_p0ou 0) (a_p0ru 0) (a_p0no 0) (a_p0fo 0) (a_p0rd 0) (a_p0pa 0) sv_p0 p0_0 ++ wCourt k a_p0no (u.1) ++ wPast k a_p0pa (u.2.2) (u.2.1)) 0 15 (by simp only [List.nil_append]) rfl rfl rfl]; try simp only [List.nil_append]) (fun cd9 u ce9 q9 H locs hp hW hce hcv hcls => ?_) (fun r u H locs hp hW => ?_)
  · obtain ⟨u0, u1, pp_5⟩ := u
    try dsimp only at hp
    obtain ⟨hcd, hp⟩ := hp
    cases hp
    have hW : WD k A s.heap ((wMCo k a_p0 (a_p0in 0) (a_p0ou 0) (a_p0ru 0) (a_p0no 0) (a_p0fo 0) (a_p0rd 0) (a_p0pa 0) sv_p0 p0_0 ++ wCourt k a_p0no p0no_1 ++ wPast k a_p0pa pp_5 p0pa_2 ++ wJArr k a_p2 z_p2 p2_0) ++ poolW k pp_5 p0pa_2.2) H locs := hW
    have hf := oF hcd hf
    by_cases hc : cd_4 = 2
    · have hf := oT hc hf
      subst hc
      refine k_catch (cd := 2) hN E htab [] (0, 9, 12, 39) [] rfl (fun z hz => by simp at hz) (by decide) (by decide) rfl (by decide) tm_936 tm_943 hce hcv hcls ?_
      refine lv_astore_n (lv' := [(3, .ref q9), (0, .ref (a_p0 0)), (1, .int v1_0), (2, .ref (a_p2 0))]) E.hx E.hb dL_setOrder_12 rfl hl (by decide) rfl (fun ls hl => ?_)
      refine lv_iconst (v := (1 : Int32)) E.hx E.hb dL_setOrder_13 ic_1 ?_
      exact hret _ (p0no_1, p0pa_2, p2_0, pp_5) _ _ _ _ _ _ hW (Option.some.inj hf).symm rfl (by decide) (by decide) dL_setOrder_14
    have hf := oF hc hf
    exact o0 hf
  obtain ⟨u0, u1, pp_5⟩ := u
  try dsimp only at hp
  cases hp
  have hW : WD k A s.heap ((wMCo k a_p0 (a_p0in 0) (a_p0ou 0) (a_p0ru 0) (a_p0no 0) (a_p0fo 0) (a_p0rd 0) (a_p0pa 0) sv_p0 p0_0 ++ wCourt k a_p0no p0no_1 ++ wPast k a_p0pa pp_5 p0pa_2 ++ wJArr k a_p2 z_p2 p2_0) ++ poolW k pp_5 p0pa_2.2) H locs := hW
  have hf := oT rfl hf
  refine lv_i2l (v := (r_3).toInt64) E.hx E.hb dL_setOrder_7 rfl ?_
  obtain ⟨hin, hf⟩ := oI hf
  obtain ⟨p2_6, ep2_6, hf⟩ := oL hf
  refine k_last (ws2 := (wMCo k a_p0 (a_p0in 0) (a_p0ou 0) (a_p0ru 0) (a_p0no 0) (a_p0fo 0) (a_p0rd 0) (a_p0pa 0) sv_p0 p0_0 ++ wCourt k a_p0no p0no_1 ++ wPast k a_p0pa pp_5 p0pa_2 ++ wJArr k a_p2 z_p2 p2_6) ++ poolW k pp_5 p0pa_2.2) E hW 15 rfl hin dL_setOrder_8 (by rw [ep2_6]; rfl) (fun H locs hW => ?_)
  refine lv_goto (tgt := 15) E.hx E.hb dL_setOrder_9 (by decide) ?_
  refine lv_iconst (v := (0 : Int32)) E.hx E.hb dL_setOrder_15 ic_0 ?_
  exact hret _ (p0no_1, p0pa_2, p2_6, pp_5) _ _ _ _ _ _ hW (Option.some.inj hf).symm rfl (by decide) (by decide) dL_setOrder_16
def f_L_undo (n : Nat) (sv_p0 : Value) (p0_0 : OS) (p0no_0 : OS) (p0pa_0 : PS) (z_p1 : Nat) (p1_0 : Nat → Int64) : Option (OS × PS × (Nat → Int64) × Int32) :=
  bnd4 (f_X8_undo n sv_p0 p0_0 p0no_0 p0pa_0) (fun (p0no_1 : OS) (p0pa_2 : PS) (r_3 : Int32) (cd_4 : Nat) =>
  if cd_4 = 0 then (
  gI z_p1 (0 : Int32) (Let (vp_updL p1_0 (0 : Int32).toNatClampNeg ((r_3).toInt64)) (fun p1_6 : Nat → Int64 =>
  some (p0no_1, p0pa_2, p1_6, (0 : Int32))))) else (
  if cd_4 = 3 then (
  some (p0no_1, p0pa_2, p1_0, (1 : Int32))) else (none)))
set_option maxHeartbeats 4000000 in
set_option maxRecDepth 100000 in
theorem c_L_undo (n : Nat) (l : Launch) (k : KT) (hN : CCH k) (hx : XH l k) (a_p0 : Nat → Nat) (a_p0in : Nat → Nat) (a_p0ou : Nat → Nat) (a_p0ru : Nat → Nat) (a_p0no : Nat → Nat) (a_p0fo : Nat → Nat) (a_p0rd : Nat → Nat) (a_p0pa : Nat → Nat) (a_p1 : Nat → Nat) (pp_0 : Nat → Nat → Nat) (sv_p0 : Value) (p0_0 : OS) (p0no_0 : OS) (p0pa_0 : PS) (z_p1 : Nat) (p1_0 : Nat → Int64) (res : (OS × PS × (Nat → Int64) × Int32)) (hf : f_L_undo n sv_p0 p0_0 p0no_0 p0pa_0 z_p1 p1_0 = some res) : CXW l k yL_undo cL_undo 3 (some .int) [(0, 8, 11, 51)] 7 1 6 242 [.ref (a_p0 0), .ref (a_p1 0)] ((wMCo k a_p0 (a_p0in 0) (a_p0ou 0) (a_p0ru 0) (a_p0no 0) (a_p0fo 0) (a_p0rd 0) (a_p0pa 0) sv_p0 p0_0 ++ wCourt k a_p0no p0no_0 ++ wPast k a_p0pa pp_0 p0pa_0 ++ wJArr k a_p1 z_p1 p1_0) ++ poolW k pp_0 p0pa_0.2) (Qi k (fun u : (OS) × (PS) × (Nat → Int64) × (Nat → Nat → Nat) => (wMCo k a_p0 (a_p0in 0) (a_p0ou 0) (a_p0ru 0) (a_p0no 0) (a_p0fo 0) (a_p0rd 0) (a_p0pa 0) sv_p0 p0_0 ++ wCourt k a_p0no (u.1) ++ wPast k a_p0pa (u.2.2.2) (u.2.1) ++ wJArr k a_p1 z_p1 (u.2.2.1)) ++ poolW k (u.2.2.2) (u.2.1).2) (fun (r : Int32) (u : (OS) × (PS) × (Nat → Int64) × (Nat → Nat → Nat)) => res = (u.1, u.2.1, u.2.2.1, r))) := by
  refine CXW.ofI (by decide) (Nat.le_of_ble_eq_true rfl) (fun p e s m args below meth c A Q E hnm htab hW hA hret ls hl => ?_)
  have hl : lv_has ls 3 [(0, .ref (a_p0 0)), (1, .ref (a_p1 0))] := hl
  unfold f_L_undo at hf
  refine k_aload_n E hl 1 dL_undo_0 rfl ?_
  refine lv_iconst (v := (0 : Int32)) E.hx E.hb dL_undo_1 ic_0 ?_
  refine k_aload_n E hl 0 dL_undo_2 rfl ?_
  obtain ⟨p0no_1, p0pa_2, r_3, cd_4, hg, hf⟩ := ob4 hf
  refine k_callXGi (As := []) (rest := [.int (0 : Int32), .ref (a_p1 0)]) (ws2 := fun u => (wMCo k a_p0 (a_p0in 0) (a_p0ou 0) (a_p0ru 0) (a_p0no 0) (a_p0fo 0) (a_p0rd 0) (a_p0pa 0) sv_p0 p0_0 ++ wCourt k a_p0no (u.1) ++ wPast k a_p0pa (u.2.2) (u.2.1) ++ wJArr k a_p1 z_p1 p1_0) ++ poolW k (u.2.2) (u.2.1).2) (c_X8_undo n l k hx a_p0 a_p0in a_p0ou a_p0ru a_p0no a_p0fo a_p0rd a_p0pa pp_0 sv_p0 p0_0 p0no_0 p0pa_0 (p0no_1, p0pa_2, r_3, cd_4) hg) E vl_L_75 dL_undo_3 rfl (List.range' 0 15) 6 0 hW hA hl rfl (blk_map [] (wMCo k a_p0 (a_p0in 0) (a_p0ou 0) (a_p0ru 0) (a_p0no 0) (a_p0fo 0) (a_p0rd 0) (a_p0pa 0) sv_p0 p0_0 ++ wCourt k a_p0no p0no_0 ++ wPast k a_p0pa pp_0 p0pa_0) (wJArr k a_p1 z_p1 p1_0) 0 15 (by simp only [List.nil_append]) rfl rfl) rfl rfl ⟨by decide, by decide⟩ ⟨by decide, by decide⟩ (Nat.le_of_ble_eq_true rfl) rfl (fun _ => rfl) (fun u => by rw [blk_put [] (wMCo k a_p0 (a_p0in 0) (a_p0ou 0) (a_p0ru 0) (a_p0no 0) (a_p0fo 0) (a_p0rd 0) (a_p0pa 0) sv_p0 p0_0 ++ wCourt k a_p0no p0no_0 ++ wPast k a_p0pa pp_0 p0pa_0) (wJArr k a_p1 z_p1 p1_0) (wMCo k a_p0 (a_p0in 0) (a_p0ou 0) (a_p0ru 0) (a_p0no 0) (a_p0fo 0) (a_p0rd 0) (a_p0pa 0) sv_p0 p0_0 ++ wCourt k a_p0no (u.1) ++ wPast k a_p0pa (u.2.2) (u.2.1)) 0 15 (by simp only [List.nil_append]) rfl rfl rfl]; try simp only [List.nil_append]) (fun cd9 u ce9 q9 H locs hp hW hce hcv hcls => ?_) (fun r u H locs hp hW => ?_)
  · obtain ⟨u0, u1, pp_5⟩ := u
    try dsimp only at hp
    obtain ⟨hcd, hp⟩ := hp
    cases hp
    have hW : WD k A s.heap ((wMCo k a_p0 (a_p0in 0) (a_p0ou 0) (a_p0ru 0) (a_p0no 0) (a_p0fo 0) (a_p0rd 0) (a_p0pa 0) sv_p0 p0_0 ++ wCourt k a_p0no p0no_1 ++ wPast k a_p0pa pp_5 p0pa_2 ++ wJArr k a_p1 z_p1 p1_0) ++ poolW k pp_5 p0pa_2.2) H locs := hW
    have hf := oF hcd hf
    by_cases hc : cd_4 = 3
    · have hf := oT hc hf
      subst hc
      refine k_catch (cd := 3) hN E htab [] (0, 8, 11, 51) [] rfl (fun z hz => by simp at hz) (by decide) (by decide) rfl (by decide) tm_997 tm_1009 hce hcv hcls ?_
      refine lv_astore_n (lv' := [(2, .ref q9), (0, .ref (a_p0 0)), (1, .ref (a_p1 0))]) E.hx E.hb dL_undo_11 rfl hl (by decide) rfl (fun ls hl => ?_)
      refine lv_iconst (v := (1 : Int32)) E.hx E.hb dL_undo_12 ic_1 ?_
      exact hret _ (p0no_1, p0pa_2, p1_0, pp_5) _ _ _ _ _ _ hW (Option.some.inj hf).symm rfl (by decide) (by decide) dL_undo_13
    have hf := oF hc hf
    exact o0 hf
  obtain ⟨u0, u1, pp_5⟩ := u
  try dsimp only at hp
  cases hp
  have hW : WD k A s.heap ((wMCo k a_p0 (a_p0in 0) (a_p0ou 0) (a_p0ru 0) (a_p0no 0) (a_p0fo 0) (a_p0rd 0) (a_p0pa 0) sv_p0 p0_0 ++ wCourt k a_p0no p0no_1 ++ wPast k a_p0pa pp_5 p0pa_2 ++ wJArr k a_p1 z_p1 p1_0) ++ poolW k pp_5 p0pa_2.2) H locs := hW
  have hf := oT rfl hf
  refine lv_i2l (v := (r_3).toInt64) E.hx E.hb dL_undo_6 rfl ?_
  obtain ⟨hin, hf⟩ := oI hf
  obtain ⟨p1_6, ep1_6, hf⟩ := oL hf
  refine k_last (ws2 := (wMCo k a_p0 (a_p0in 0) (a_p0ou 0) (a_p0ru 0) (a_p0no 0) (a_p0fo 0) (a_p0rd 0) (a_p0pa 0) sv_p0 p0_0 ++ wCourt k a_p0no p0no_1 ++ wPast k a_p0pa pp_5 p0pa_2 ++ wJArr k a_p1 z_p1 p1_6) ++ poolW k pp_5 p0pa_2.2) E hW 15 rfl hin dL_undo_7 (by rw [ep1_6]; rfl) (fun H locs hW => ?_)
  refine lv_goto (tgt := 14) E.hx E.hb dL_undo_8 (by decide) ?_
  refine lv_iconst (v := (0 : Int32)) E.hx E.hb dL_undo_14 ic_0 ?_
  exact hret _ (p0no_1, p0pa_2, p1_6, pp_5) _ _ _ _ _ _ hW (Option.some.inj hf).symm rfl (by decide) (by decide) dL_undo_15
def f_L_metIn (n : Nat) (sv_p0 : Value) (p0_0 : OS) (p0ru_0 : OS) (p0no_0 : OS) (p0fo_0 : OS) (z_p3 : Nat) (p3_0 : Nat → Int64) (v1_0 : Int32) (v2_0 : Int32) : Option (OS × (Nat → Int64) × Int32) :=
  bnd3 (f_X8_metIn n sv_p0 p0_0 p0ru_0 p0no_0 p0fo_0 v1_0 v2_0) (fun (p0fo_1 : OS) (r_2 : Int32) (cd_3 : Nat) =>
  if cd_3 = 0 then (
  gI z_p3 (0 : Int32) (Let (vp_updL p3_0 (0 : Int32).toNatClampNeg ((r_2).toInt64)) (fun p3_4 : Nat → Int64 =>
  some (p0fo_1, p3_4, (0 : Int32))))) else (
  if cd_3 = 1 then (
  some (p0fo_1, p3_0, (1 : Int32))) else (if cd_3 = 2 then (
  some (p0fo_1, p3_0, (2 : Int32))) else (none))))
set_option maxHeartbeats 4000000 in
set_option maxRecDepth 100000 in
theorem c_L_metIn (n : Nat) (l : Launch) (k : KT) (hN : CCH k) (hx : XH l k) (a_p0 : Nat → Nat) (a_p0in : Nat → Nat) (a_p0ou : Nat → Nat) (a_p0ru : Nat → Nat) (a_p0no : Nat → Nat) (a_p0fo : Nat → Nat) (a_p0rd : Nat → Nat) (a_p0pa : Nat → Nat) (a_p3 : Nat → Nat) (sv_p0 : Value) (p0_0 : OS) (p0ru_0 : OS) (p0no_0 : OS) (p0fo_0 : OS) (z_p3 : Nat) (p3_0 : Nat → Int64) (v1_0 : Int32) (v2_0 : Int32) (res : (OS × (Nat → Int64) × Int32)) (hf : f_L_metIn n sv_p0 p0_0 p0ru_0 p0no_0 p0fo_0 z_p3 p3_0 v1_0 v2_0 = some res) : CXW l k yL_metIn cL_metIn 5 (some .int) [(0, 10, 13, 13), (0, 10, 17, 39)] 8 2 12 191 [.ref (a_p0 0), .int v1_0, .int v2_0, .ref (a_p3 0)] (wMCo k a_p0 (a_p0in 0) (a_p0ou 0) (a_p0ru 0) (a_p0no 0) (a_p0fo 0) (a_p0rd 0) (a_p0pa 0) sv_p0 p0_0 ++ wRules k a_p0ru p0ru_0 ++ wCourt k a_p0no p0no_0 ++ wCourt k a_p0fo p0fo_0 ++ wJArr k a_p3 z_p3 p3_0) (Qi k (fun u : (OS) × (Nat → Int64) => wMCo k a_p0 (a_p0in 0) (a_p0ou 0) (a_p0ru 0) (a_p0no 0) (a_p0fo 0) (a_p0rd 0) (a_p0pa 0) sv_p0 p0_0 ++ wRules k a_p0ru p0ru_0 ++ wCourt k a_p0no p0no_0 ++ wCourt k a_p0fo (u.1) ++ wJArr k a_p3 z_p3 (u.2)) (fun (r : Int32) (u : (OS) × (Nat → Int64)) => res = (u.1, u.2, r))) := by
  refine CXW.ofI (by decide) (Nat.le_of_ble_eq_true rfl) (fun p e s m args below meth c A Q E hnm htab hW hA hret ls hl => ?_)
  have hl : lv_has ls 5 [(0, .ref (a_p0 0)), (1, .int v1_0), (2, .int v2_0), (3, .ref (a_p3 0))] := hl
  unfold f_L_metIn at hf
  refine k_aload_n E hl 3 dL_metIn_0 rfl ?_
  refine lv_iconst (v := (0 : Int32)) E.hx E.hb dL_metIn_1 ic_0 ?_
  refine k_aload_n E hl 0 dL_metIn_2 rfl ?_
  refine k_iload_n E hl 1 dL_metIn_3 rfl ?_
  refine k_iload_n E hl 2 dL_metIn_4 rfl ?_
  obtain ⟨p0fo_1, r_2, cd_3, hg, hf⟩ := ob3 hf
  refine k_callXi (As := [.int v1_0, .int v2_0]) (rest := [.int (0 : Int32), .ref (a_p3 0)]) (ws2 := fun u => wMCo k a_p0 (a_p0in 0) (a_p0ou 0) (a_p0ru 0) (a_p0no 0) (a_p0fo 0) (a_p0rd 0) (a_p0pa 0) sv_p0 p0_0 ++ wRules k a_p0ru p0ru_0 ++ wCourt k a_p0no p0no_0 ++ wCourt k a_p0fo (u) ++ wJArr k a_p3 z_p3 p3_0) (c_X8_metIn n l k hx a_p0 a_p0in a_p0ou a_p0ru a_p0no a_p0fo a_p0rd a_p0pa sv_p0 p0_0 p0ru_0 p0no_0 p0fo_0 v1_0 v2_0 (p0fo_1, r_2, cd_3) hg) E vl_L_79 dL_metIn_5 rfl (List.range' 0 28) 6 0 hW hA hl rfl (blk_map [] (wMCo k a_p0 (a_p0in 0) (a_p0ou 0) (a_p0ru 0) (a_p0no 0) (a_p0fo 0) (a_p0rd 0) (a_p0pa 0) sv_p0 p0_0 ++ wRules k a_p0ru p0ru_0 ++ wCourt k a_p0no p0no_0 ++ wCourt k a_p0fo p0fo_0) (wJArr k a_p3 z_p3 p3_0) 0 28 (by simp only [List.nil_append]) rfl rfl) rfl rfl ⟨by decide, by decide⟩ ⟨by decide, by decide⟩ (Nat.le_of_ble_eq_true rfl) rfl (fun _ => rfl) (fun u => by rw [blk_put [] (wMCo k a_p0 (a_p0in 0) (a_p0ou 0) (a_p0ru 0) (a_p0no 0) (a_p0fo 0) (a_p0rd 0) (a_p0pa 0) sv_p0 p0_0 ++ wRules k a_p0ru p0ru_0 ++ wCourt k a_p0no p0no_0 ++ wCourt k a_p0fo p0fo_0) (wJArr k a_p3 z_p3 p3_0) (wMCo k a_p0 (a_p0in 0) (a_p0ou 0) (a_p0ru 0) (a_p0no 0) (a_p0fo 0) (a_p0rd 0) (a_p0pa 0) sv_p0 p0_0 ++ wRules k a_p0ru p0ru_0 ++ wCourt k a_p0no p0no_0 ++ wCourt k a_p0fo (u)) 0 28 (by simp only [List.nil_append]) rfl rfl rfl]; try simp only [List.nil_append]) (fun cd9 u ce9 q9 H locs hp hW hce hcv hcls => ?_) (fun r u H locs hp hW => ?_)
  · obtain ⟨hcd, hp⟩ := hp
    cases hp
    have hW : WD k A s.heap (wMCo k a_p0 (a_p0in 0) (a_p0ou 0) (a_p0ru 0) (a_p0no 0) (a_p0fo 0) (a_p0rd 0) (a_p0pa 0) sv_p0 p0_0 ++ wRules k a_p0ru p0ru_0 ++ wCourt k a_p0no p0no_0 ++ wCourt k a_p0fo p0fo_1 ++ wJArr k a_p3 z_p3 p3_0) H locs := hW
    have hf := oF hcd hf
    by_cases hc : cd_3 = 1
    · have hf := oT hc hf
      subst hc
      refine k_catch (cd := 1) hN E htab [] (0, 10, 13, 13) [(0, 10, 17, 39)] rfl (fun z hz => by simp at hz) (by decide) (by decide) rfl (by decide) tm_752 tm_763 hce hcv hcls ?_
      refine lv_astore (lv' := [(4, .ref q9), (0, .ref (a_p0 0)), (1, .int v1_0), (2, .int v2_0), (3, .ref (a_p3 0))]) E.hx E.hb dL_metIn_13 hl (by decide) rfl (fun ls hl => ?_)
      refine lv_iconst (v := (1 : Int32)) E.hx E.hb dL_metIn_15 ic_1 ?_
      exact hret _ (p0fo_1, p3_0) _ _ _ _ _ _ hW (Option.some.inj hf).symm rfl (by decide) (by decide) dL_metIn_16
    have hf := oF hc hf
    by_cases hc : cd_3 = 2
    · have hf := oT hc hf
      subst hc
      refine k_catch (cd := 2) hN E htab [(0, 10, 13, 13)] (0, 10, 17, 39) [] rfl (by intro z hz; simp only [List.mem_cons, List.not_mem_nil, or_false] at hz; subst hz; exact ⟨by decide, 1, by decide, by decide, by decide, tm_752⟩) (by decide) (by decide) rfl (by decide) tm_936 tm_943 hce hcv hcls ?_
      refine lv_astore (lv' := [(4, .ref q9), (0, .ref (a_p0 0)), (1, .int v1_0), (2, .int v2_0), (3, .ref (a_p3 0))]) E.hx E.hb dL_metIn_17 hl (by decide) rfl (fun ls hl => ?_)
      refine lv_iconst (v := (2 : Int32)) E.hx E.hb dL_metIn_19 ic_2 ?_
      exact hret _ (p0fo_1, p3_0) _ _ _ _ _ _ hW (Option.some.inj hf).symm rfl (by decide) (by decide) dL_metIn_20
    have hf := oF hc hf
    exact o0 hf
  cases hp
  have hW : WD k A s.heap (wMCo k a_p0 (a_p0in 0) (a_p0ou 0) (a_p0ru 0) (a_p0no 0) (a_p0fo 0) (a_p0rd 0) (a_p0pa 0) sv_p0 p0_0 ++ wRules k a_p0ru p0ru_0 ++ wCourt k a_p0no p0no_0 ++ wCourt k a_p0fo p0fo_1 ++ wJArr k a_p3 z_p3 p3_0) H locs := hW
  have hf := oT rfl hf
  refine lv_i2l (v := (r_2).toInt64) E.hx E.hb dL_metIn_8 rfl ?_
  obtain ⟨hin, hf⟩ := oI hf
  obtain ⟨p3_4, ep3_4, hf⟩ := oL hf
  refine k_last (ws2 := wMCo k a_p0 (a_p0in 0) (a_p0ou 0) (a_p0ru 0) (a_p0no 0) (a_p0fo 0) (a_p0rd 0) (a_p0pa 0) sv_p0 p0_0 ++ wRules k a_p0ru p0ru_0 ++ wCourt k a_p0no p0no_0 ++ wCourt k a_p0fo p0fo_1 ++ wJArr k a_p3 z_p3 p3_4) E hW 28 rfl hin dL_metIn_9 (by rw [ep3_4]; rfl) (fun H locs hW => ?_)
  refine lv_goto (tgt := 21) E.hx E.hb dL_metIn_10 (by decide) ?_
  refine lv_iconst (v := (0 : Int32)) E.hx E.hb dL_metIn_21 ic_0 ?_
  exact hret _ (p0fo_1, p3_4) _ _ _ _ _ _ hW (Option.some.inj hf).symm rfl (by decide) (by decide) dL_metIn_22
def f_L_refusedIn (n : Nat) (sv_p0 : Value) (p0_0 : OS) (p0ru_0 : OS) (p0no_0 : OS) (p0fo_0 : OS) (z_p3 : Nat) (p3_0 : Nat → Int64) (v1_0 : Int32) (v2_0 : Int32) : Option (OS × (Nat → Int64) × Int32) :=
  bnd3 (f_X8_refusedIn n sv_p0 p0_0 p0ru_0 p0no_0 p0fo_0 v1_0 v2_0) (fun (p0fo_1 : OS) (r_2 : Int32) (cd_3 : Nat) =>
  if cd_3 = 0 then (
  gI z_p3 (0 : Int32) (Let (vp_updL p3_0 (0 : Int32).toNatClampNeg ((r_2).toInt64)) (fun p3_4 : Nat → Int64 =>
  some (p0fo_1, p3_4, (0 : Int32))))) else (
  if cd_3 = 1 then (
  some (p0fo_1, p3_0, (1 : Int32))) else (if cd_3 = 2 then (
  some (p0fo_1, p3_0, (2 : Int32))) else (none))))
set_option maxHeartbeats 4000000 in
set_option maxRecDepth 100000 in
theorem c_L_refusedIn (n : Nat) (l : Launch) (k : KT) (hN : CCH k) (hx : XH l k) (a_p0 : Nat → Nat) (a_p0in : Nat → Nat) (a_p0ou : Nat → Nat) (a_p0ru : Nat → Nat) (a_p0no : Nat → Nat) (a_p0fo : Nat → Nat) (a_p0rd : Nat → Nat) (a_p0pa : Nat → Nat) (a_p3 : Nat → Nat) (sv_p0 : Value) (p0_0 : OS) (p0ru_0 : OS) (p0no_0 : OS) (p0fo_0 : OS) (z_p3 : Nat) (p3_0 : Nat → Int64) (v1_0 : Int32) (v2_0 : Int32) (res : (OS × (Nat → Int64) × Int32)) (hf : f_L_refusedIn n sv_p0 p0_0 p0ru_0 p0no_0 p0fo_0 z_p3 p3_0 v1_0 v2_0 = some res) : CXW l k yL_refusedIn cL_refusedIn 5 (some .int) [(0, 10, 13, 13), (0, 10, 17, 39)] 8 2 12 191 [.ref (a_p0 0), .int v1_0, .int v2_0, .ref (a_p3 0)] (wMCo k a_p0 (a_p0in 0) (a_p0ou 0) (a_p0ru 0) (a_p0no 0) (a_p0fo 0) (a_p0rd 0) (a_p0pa 0) sv_p0 p0_0 ++ wRules k a_p0ru p0ru_0 ++ wCourt k a_p0no p0no_0 ++ wCourt k a_p0fo p0fo_0 ++ wJArr k a_p3 z_p3 p3_0) (Qi k (fun u : (OS) × (Nat → Int64) => wMCo k a_p0 (a_p0in 0) (a_p0ou 0) (a_p0ru 0) (a_p0no 0) (a_p0fo 0) (a_p0rd 0) (a_p0pa 0) sv_p0 p0_0 ++ wRules k a_p0ru p0ru_0 ++ wCourt k a_p0no p0no_0 ++ wCourt k a_p0fo (u.1) ++ wJArr k a_p3 z_p3 (u.2)) (fun (r : Int32) (u : (OS) × (Nat → Int64)) => res = (u.1, u.2, r))) := by
  refine CXW.ofI (by decide) (Nat.le_of_ble_eq_true rfl) (fun p e s m args below meth c A Q E hnm htab hW hA hret ls hl => ?_)
  have hl : lv_has ls 5 [(0, .ref (a_p0 0)), (1, .int v1_0), (2, .int v2_0), (3, .ref (a_p3 0))] := hl
  unfold f_L_refusedIn at hf
  refine k_aload_n E hl 3 dL_refusedIn_0 rfl ?_
  refine lv_iconst (v := (0 : Int32)) E.hx E.hb dL_refusedIn_1 ic_0 ?_
  refine k_aload_n E hl 0 dL_refusedIn_2 rfl ?_
  refine k_iload_n E hl 1 dL_refusedIn_3 rfl ?_
  refine k_iload_n E hl 2 dL_refusedIn_4 rfl ?_
  obtain ⟨p0fo_1, r_2, cd_3, hg, hf⟩ := ob3 hf
  refine k_callXi (As := [.int v1_0, .int v2_0]) (rest := [.int (0 : Int32), .ref (a_p3 0)]) (ws2 := fun u => wMCo k a_p0 (a_p0in 0) (a_p0ou 0) (a_p0ru 0) (a_p0no 0) (a_p0fo 0) (a_p0rd 0) (a_p0pa 0) sv_p0 p0_0 ++ wRules k a_p0ru p0ru_0 ++ wCourt k a_p0no p0no_0 ++ wCourt k a_p0fo (u) ++ wJArr k a_p3 z_p3 p3_0) (c_X8_refusedIn n l k hx a_p0 a_p0in a_p0ou a_p0ru a_p0no a_p0fo a_p0rd a_p0pa sv_p0 p0_0 p0ru_0 p0no_0 p0fo_0 v1_0 v2_0 (p0fo_1, r_2, cd_3) hg) E vl_L_82 dL_refusedIn_5 rfl (List.range' 0 28) 6 0 hW hA hl rfl (blk_map [] (wMCo k a_p0 (a_p0in 0) (a_p0ou 0) (a_p0ru 0) (a_p0no 0) (a_p0fo 0) (a_p0rd 0) (a_p0pa 0) sv_p0 p0_0 ++ wRules k a_p0ru p0ru_0 ++ wCourt k a_p0no p0no_0 ++ wCourt k a_p0fo p0fo_0) (wJArr k a_p3 z_p3 p3_0) 0 28 (by simp only [List.nil_append]) rfl rfl) rfl rfl ⟨by decide, by decide⟩ ⟨by decide, by decide⟩ (Nat.le_of_ble_eq_true rfl) rfl (fun _ => rfl) (fun u => by rw [blk_put [] (wMCo k a_p0 (a_p0in 0) (a_p0ou 0) (a_p0ru 0) (a_p0no 0) (a_p0fo 0) (a_p0rd 0) (a_p0pa 0) sv_p0 p0_0 ++ wRules k a_p0ru p0ru_0 ++ wCourt k a_p0no p0no_0 ++ wCourt k a_p0fo p0fo_0) (wJArr k a_p3 z_p3 p3_0) (wMCo k a_p0 (a_p0in 0) (a_p0ou 0) (a_p0ru 0) (a_p0no 0) (a_p0fo 0) (a_p0rd 0) (a_p0pa 0) sv_p0 p0_0 ++ wRules k a_p0ru p0ru_0 ++ wCourt k a_p0no p0no_0 ++ wCourt k a_p0fo (u)) 0 28 (by simp only [List.nil_append]) rfl rfl rfl]; try simp only [List.nil_append]) (fun cd9 u ce9 q9 H locs hp hW hce hcv hcls => ?_) (fun r u H locs hp hW => ?_)
  · obtain ⟨hcd, hp⟩ := hp
    cases hp
    have hW : WD k A s.heap (wMCo k a_p0 (a_p0in 0) (a_p0ou 0) (a_p0ru 0) (a_p0no 0) (a_p0fo 0) (a_p0rd 0) (a_p0pa 0) sv_p0 p0_0 ++ wRules k a_p0ru p0ru_0 ++ wCourt k a_p0no p0no_0 ++ wCourt k a_p0fo p0fo_1 ++ wJArr k a_p3 z_p3 p3_0) H locs := hW
    have hf := oF hcd hf
    by_cases hc : cd_3 = 1
    · have hf := oT hc hf
      subst hc
      refine k_catch (cd := 1) hN E htab [] (0, 10, 13, 13) [(0, 10, 17, 39)] rfl (fun z hz => by simp at hz) (by decide) (by decide) rfl (by decide) tm_752 tm_763 hce hcv hcls ?_
      refine lv_astore (lv' := [(4, .ref q9), (0, .ref (a_p0 0)), (1, .int v1_0), (2, .int v2_0), (3, .ref (a_p3 0))]) E.hx E.hb dL_refusedIn_13 hl (by decide) rfl (fun ls hl => ?_)
      refine lv_iconst (v := (1 : Int32)) E.hx E.hb dL_refusedIn_15 ic_1 ?_
      exact hret _ (p0fo_1, p3_0) _ _ _ _ _ _ hW (Option.some.inj hf).symm rfl (by decide) (by decide) dL_refusedIn_16
    have hf := oF hc hf
    by_cases hc : cd_3 = 2
    · have hf := oT hc hf
      subst hc
      refine k_catch (cd := 2) hN E htab [(0, 10, 13, 13)] (0, 10, 17, 39) [] rfl (by intro z hz; simp only [List.mem_cons, List.not_mem_nil, or_false] at hz; subst hz; exact ⟨by decide, 1, by decide, by decide, by decide, tm_752⟩) (by decide) (by decide) rfl (by decide) tm_936 tm_943 hce hcv hcls ?_
      refine lv_astore (lv' := [(4, .ref q9), (0, .ref (a_p0 0)), (1, .int v1_0), (2, .int v2_0), (3, .ref (a_p3 0))]) E.hx E.hb dL_refusedIn_17 hl (by decide) rfl (fun ls hl => ?_)
      refine lv_iconst (v := (2 : Int32)) E.hx E.hb dL_refusedIn_19 ic_2 ?_
      exact hret _ (p0fo_1, p3_0) _ _ _ _ _ _ hW (Option.some.inj hf).symm rfl (by decide) (by decide) dL_refusedIn_20
    have hf := oF hc hf
    exact o0 hf
  cases hp
  have hW : WD k A s.heap (wMCo k a_p0 (a_p0in 0) (a_p0ou 0) (a_p0ru 0) (a_p0no 0) (a_p0fo 0) (a_p0rd 0) (a_p0pa 0) sv_p0 p0_0 ++ wRules k a_p0ru p0ru_0 ++ wCourt k a_p0no p0no_0 ++ wCourt k a_p0fo p0fo_1 ++ wJArr k a_p3 z_p3 p3_0) H locs := hW
  have hf := oT rfl hf
  refine lv_i2l (v := (r_2).toInt64) E.hx E.hb dL_refusedIn_8 rfl ?_
  obtain ⟨hin, hf⟩ := oI hf
  obtain ⟨p3_4, ep3_4, hf⟩ := oL hf
  refine k_last (ws2 := wMCo k a_p0 (a_p0in 0) (a_p0ou 0) (a_p0ru 0) (a_p0no 0) (a_p0fo 0) (a_p0rd 0) (a_p0pa 0) sv_p0 p0_0 ++ wRules k a_p0ru p0ru_0 ++ wCourt k a_p0no p0no_0 ++ wCourt k a_p0fo p0fo_1 ++ wJArr k a_p3 z_p3 p3_4) E hW 28 rfl hin dL_refusedIn_9 (by rw [ep3_4]; rfl) (fun H locs hW => ?_)
  refine lv_goto (tgt := 21) E.hx E.hb dL_refusedIn_10 (by decide) ?_
  refine lv_iconst (v := (0 : Int32)) E.hx E.hb dL_refusedIn_21 ic_0 ?_
  exact hret _ (p0fo_1, p3_4) _ _ _ _ _ _ hW (Option.some.inj hf).symm rfl (by decide) (by decide) dL_refusedIn_22
def f_L_wouldFine (n : Nat) (sv_p0 : Value) (p0_0 : OS) (p0ru_0 : OS) (p0no_0 : OS) (p0fo_0 : OS) (z_p2 : Nat) (p2_0 : Nat → Int64) (v1_0 : Int32) : Option (OS × (Nat → Int64) × Int32) :=
  bnd3 (f_X8_wouldFine n sv_p0 p0_0 p0ru_0 p0no_0 p0fo_0 v1_0) (fun (p0fo_1 : OS) (r_2 : Int32) (cd_3 : Nat) =>
  if cd_3 = 0 then (
  gI z_p2 (0 : Int32) (Let (vp_updL p2_0 (0 : Int32).toNatClampNeg ((r_2).toInt64)) (fun p2_4 : Nat → Int64 =>
  some (p0fo_1, p2_4, (0 : Int32))))) else (
  if cd_3 = 1 then (
  some (p0fo_1, p2_0, (1 : Int32))) else (none)))
set_option maxHeartbeats 4000000 in
set_option maxRecDepth 100000 in
theorem c_L_wouldFine (n : Nat) (l : Launch) (k : KT) (hN : CCH k) (hx : XH l k) (a_p0 : Nat → Nat) (a_p0in : Nat → Nat) (a_p0ou : Nat → Nat) (a_p0ru : Nat → Nat) (a_p0no : Nat → Nat) (a_p0fo : Nat → Nat) (a_p0rd : Nat → Nat) (a_p0pa : Nat → Nat) (a_p2 : Nat → Nat) (sv_p0 : Value) (p0_0 : OS) (p0ru_0 : OS) (p0no_0 : OS) (p0fo_0 : OS) (z_p2 : Nat) (p2_0 : Nat → Int64) (v1_0 : Int32) (res : (OS × (Nat → Int64) × Int32)) (hf : f_L_wouldFine n sv_p0 p0_0 p0ru_0 p0no_0 p0fo_0 z_p2 p2_0 v1_0 = some res) : CXW l k yL_wouldFine cL_wouldFine 4 (some .int) [(0, 9, 12, 13)] 8 1 6 187 [.ref (a_p0 0), .int v1_0, .ref (a_p2 0)] (wMCo k a_p0 (a_p0in 0) (a_p0ou 0) (a_p0ru 0) (a_p0no 0) (a_p0fo 0) (a_p0rd 0) (a_p0pa 0) sv_p0 p0_0 ++ wRules k a_p0ru p0ru_0 ++ wCourt k a_p0no p0no_0 ++ wCourt k a_p0fo p0fo_0 ++ wJArr k a_p2 z_p2 p2_0) (Qi k (fun u : (OS) × (Nat → Int64) => wMCo k a_p0 (a_p0in 0) (a_p0ou 0) (a_p0ru 0) (a_p0no 0) (a_p0fo 0) (a_p0rd 0) (a_p0pa 0) sv_p0 p0_0 ++ wRules k a_p0ru p0ru_0 ++ wCourt k a_p0no p0no_0 ++ wCourt k a_p0fo (u.1) ++ wJArr k a_p2 z_p2 (u.2)) (fun (r : Int32) (u : (OS) × (Nat → Int64)) => res = (u.1, u.2, r))) := by
  refine CXW.ofI (by decide) (Nat.le_of_ble_eq_true rfl) (fun p e s m args below meth c A Q E hnm htab hW hA hret ls hl => ?_)
  have hl : lv_has ls 4 [(0, .ref (a_p0 0)), (1, .int v1_0), (2, .ref (a_p2 0))] := hl
  unfold f_L_wouldFine at hf
  refine k_aload_n E hl 2 dL_wouldFine_0 rfl ?_
  refine lv_iconst (v := (0 : Int32)) E.hx E.hb dL_wouldFine_1 ic_0 ?_
  refine k_aload_n E hl 0 dL_wouldFine_2 rfl ?_
  refine k_iload_n E hl 1 dL_wouldFine_3 rfl ?_
  obtain ⟨p0fo_1, r_2, cd_3, hg, hf⟩ := ob3 hf
  refine k_callXi (As := [.int v1_0]) (rest := [.int (0 : Int32), .ref (a_p2 0)]) (ws2 := fun u => wMCo k a_p0 (a_p0in 0) (a_p0ou 0) (a_p0ru 0) (a_p0no 0) (a_p0fo 0) (a_p0rd 0) (a_p0pa 0) sv_p0 p0_0 ++ wRules k a_p0ru p0ru_0 ++ wCourt k a_p0no p0no_0 ++ wCourt k a_p0fo (u) ++ wJArr k a_p2 z_p2 p2_0) (c_X8_wouldFine n l k hx a_p0 a_p0in a_p0ou a_p0ru a_p0no a_p0fo a_p0rd a_p0pa sv_p0 p0_0 p0ru_0 p0no_0 p0fo_0 v1_0 (p0fo_1, r_2, cd_3) hg) E vl_L_85 dL_wouldFine_4 rfl (List.range' 0 28) 6 0 hW hA hl rfl (blk_map [] (wMCo k a_p0 (a_p0in 0) (a_p0ou 0) (a_p0ru 0) (a_p0no 0) (a_p0fo 0) (a_p0rd 0) (a_p0pa 0) sv_p0 p0_0 ++ wRules k a_p0ru p0ru_0 ++ wCourt k a_p0no p0no_0 ++ wCourt k a_p0fo p0fo_0) (wJArr k a_p2 z_p2 p2_0) 0 28 (by simp only [List.nil_append]) rfl rfl) rfl rfl ⟨by decide, by decide⟩ ⟨by decide, by decide⟩ (Nat.le_of_ble_eq_true rfl) rfl (fun _ => rfl) (fun u => by rw [blk_put [] (wMCo k a_p0 (a_p0in 0) (a_p0ou 0) (a_p0ru 0) (a_p0no 0) (a_p0fo 0) (a_p0rd 0) (a_p0pa 0) sv_p0 p0_0 ++ wRules k a_p0ru p0ru_0 ++ wCourt k a_p0no p0no_0 ++ wCourt k a_p0fo p0fo_0) (wJArr k a_p2 z_p2 p2_0) (wMCo k a_p0 (a_p0in 0) (a_p0ou 0) (a_p0ru 0) (a_p0no 0) (a_p0fo 0) (a_p0rd 0) (a_p0pa 0) sv_p0 p0_0 ++ wRules k a_p0ru p0ru_0 ++ wCourt k a_p0no p0no_0 ++ wCourt k a_p0fo (u)) 0 28 (by simp only [List.nil_append]) rfl rfl rfl]; try simp only [List.nil_append]) (fun cd9 u ce9 q9 H locs hp hW hce hcv hcls => ?_) (fun r u H locs hp hW => ?_)
  · obtain ⟨hcd, hp⟩ := hp
    cases hp
    have hW : WD k A s.heap (wMCo k a_p0 (a_p0in 0) (a_p0ou 0) (a_p0ru 0) (a_p0no 0) (a_p0fo 0) (a_p0rd 0) (a_p0pa 0) sv_p0 p0_0 ++ wRules k a_p0ru p0ru_0 ++ wCourt k a_p0no p0no_0 ++ wCourt k a_p0fo p0fo_1 ++ wJArr k a_p2 z_p2 p2_0) H locs := hW
    have hf := oF hcd hf
    by_cases hc : cd_3 = 1
    · have hf := oT hc hf
      subst hc
      refine k_catch (cd := 1) hN E htab [] (0, 9, 12, 13) [] rfl (fun z hz => by simp at hz) (by decide) (by decide) rfl (by decide) tm_752 tm_763 hce hcv hcls ?_
      refine lv_astore_n (lv' := [(3, .ref q9), (0, .ref (a_p0 0)), (1, .int v1_0), (2, .ref (a_p2 0))]) E.hx E.hb dL_wouldFine_12 rfl hl (by decide) rfl (fun ls hl => ?_)
      refine lv_iconst (v := (1 : Int32)) E.hx E.hb dL_wouldFine_13 ic_1 ?_
      exact hret _ (p0fo_1, p2_0) _ _ _ _ _ _ hW (Option.some.inj hf).symm rfl (by decide) (by decide) dL_wouldFine_14
    have hf := oF hc hf
    exact o0 hf
  cases hp
  have hW : WD k A s.heap (wMCo k a_p0 (a_p0in 0) (a_p0ou 0) (a_p0ru 0) (a_p0no 0) (a_p0fo 0) (a_p0rd 0) (a_p0pa 0) sv_p0 p0_0 ++ wRules k a_p0ru p0ru_0 ++ wCourt k a_p0no p0no_0 ++ wCourt k a_p0fo p0fo_1 ++ wJArr k a_p2 z_p2 p2_0) H locs := hW
  have hf := oT rfl hf
  refine lv_i2l (v := (r_2).toInt64) E.hx E.hb dL_wouldFine_7 rfl ?_
  obtain ⟨hin, hf⟩ := oI hf
  obtain ⟨p2_4, ep2_4, hf⟩ := oL hf
  refine k_last (ws2 := wMCo k a_p0 (a_p0in 0) (a_p0ou 0) (a_p0ru 0) (a_p0no 0) (a_p0fo 0) (a_p0rd 0) (a_p0pa 0) sv_p0 p0_0 ++ wRules k a_p0ru p0ru_0 ++ wCourt k a_p0no p0no_0 ++ wCourt k a_p0fo p0fo_1 ++ wJArr k a_p2 z_p2 p2_4) E hW 28 rfl hin dL_wouldFine_8 (by rw [ep2_4]; rfl) (fun H locs hW => ?_)
  refine lv_goto (tgt := 15) E.hx E.hb dL_wouldFine_9 (by decide) ?_
  refine lv_iconst (v := (0 : Int32)) E.hx E.hb dL_wouldFine_15 ic_0 ?_
  exact hret _ (p0fo_1, p2_4) _ _ _ _ _ _ hW (Option.some.inj hf).symm rfl (by decide) (by decide) dL_wouldFine_16
def f_L_wouldPay (n : Nat) (sv_p0 : Value) (p0_0 : OS) (p0ru_0 : OS) (p0no_0 : OS) (p0fo_0 : OS) (z_p2 : Nat) (p2_0 : Nat → Int64) (v1_0 : Int32) : Option (OS × (Nat → Int64) × Int32) :=
  bnd3 (f_X8_wouldPay n sv_p0 p0_0 p0ru_0 p0no_0 p0fo_0 v1_0) (fun (p0fo_1 : OS) (r_2 : Int32) (cd_3 : Nat) =>
  if cd_3 = 0 then (
  gI z_p2 (0 : Int32) (Let (vp_updL p2_0 (0 : Int32).toNatClampNeg ((r_2).toInt64)) (fun p2_4 : Nat → Int64 =>
  some (p0fo_1, p2_4, (0 : Int32))))) else (
  if cd_3 = 1 then (
  some (p0fo_1, p2_0, (1 : Int32))) else (none)))
set_option maxHeartbeats 4000000 in
set_option maxRecDepth 100000 in
theorem c_L_wouldPay (n : Nat) (l : Launch) (k : KT) (hN : CCH k) (hx : XH l k) (a_p0 : Nat → Nat) (a_p0in : Nat → Nat) (a_p0ou : Nat → Nat) (a_p0ru : Nat → Nat) (a_p0no : Nat → Nat) (a_p0fo : Nat → Nat) (a_p0rd : Nat → Nat) (a_p0pa : Nat → Nat) (a_p2 : Nat → Nat) (sv_p0 : Value) (p0_0 : OS) (p0ru_0 : OS) (p0no_0 : OS) (p0fo_0 : OS) (z_p2 : Nat) (p2_0 : Nat → Int64) (v1_0 : Int32) (res : (OS × (Nat → Int64) × Int32)) (hf : f_L_wouldPay n sv_p0 p0_0 p0ru_0 p0no_0 p0fo_0 z_p2 p2_0 v1_0 = some res) : CXW l k yL_wouldPay cL_wouldPay 4 (some .int) [(0, 9, 12, 13)] 8 1 6 187 [.ref (a_p0 0), .int v1_0, .ref (a_p2 0)] (wMCo k a_p0 (a_p0in 0) (a_p0ou 0) (a_p0ru 0) (a_p0no 0) (a_p0fo 0) (a_p0rd 0) (a_p0pa 0) sv_p0 p0_0 ++ wRules k a_p0ru p0ru_0 ++ wCourt k a_p0no p0no_0 ++ wCourt k a_p0fo p0fo_0 ++ wJArr k a_p2 z_p2 p2_0) (Qi k (fun u : (OS) × (Nat → Int64) => wMCo k a_p0 (a_p0in 0) (a_p0ou 0) (a_p0ru 0) (a_p0no 0) (a_p0fo 0) (a_p0rd 0) (a_p0pa 0) sv_p0 p0_0 ++ wRules k a_p0ru p0ru_0 ++ wCourt k a_p0no p0no_0 ++ wCourt k a_p0fo (u.1) ++ wJArr k a_p2 z_p2 (u.2)) (fun (r : Int32) (u : (OS) × (Nat → Int64)) => res = (u.1, u.2, r))) := by
  refine CXW.ofI (by decide) (Nat.le_of_ble_eq_true rfl) (fun p e s m args below meth c A Q E hnm htab hW hA hret ls hl => ?_)
  have hl : lv_has ls 4 [(0, .ref (a_p0 0)), (1, .int v1_0), (2, .ref (a_p2 0))] := hl
  unfold f_L_wouldPay at hf
  refine k_aload_n E hl 2 dL_wouldPay_0 rfl ?_
  refine lv_iconst (v := (0 : Int32)) E.hx E.hb dL_wouldPay_1 ic_0 ?_
  refine k_aload_n E hl 0 dL_wouldPay_2 rfl ?_
  refine k_iload_n E hl 1 dL_wouldPay_3 rfl ?_
  obtain ⟨p0fo_1, r_2, cd_3, hg, hf⟩ := ob3 hf
  refine k_callXi (As := [.int v1_0]) (rest := [.int (0 : Int32), .ref (a_p2 0)]) (ws2 := fun u => wMCo k a_p0 (a_p0in 0) (a_p0ou 0) (a_p0ru 0) (a_p0no 0) (a_p0fo 0) (a_p0rd 0) (a_p0pa 0) sv_p0 p0_0 ++ wRules k a_p0ru p0ru_0 ++ wCourt k a_p0no p0no_0 ++ wCourt k a_p0fo (u) ++ wJArr k a_p2 z_p2 p2_0) (c_X8_wouldPay n l k hx a_p0 a_p0in a_p0ou a_p0ru a_p0no a_p0fo a_p0rd a_p0pa sv_p0 p0_0 p0ru_0 p0no_0 p0fo_0 v1_0 (p0fo_1, r_2, cd_3) hg) E vl_L_88 dL_wouldPay_4 rfl (List.range' 0 28) 6 0 hW hA hl rfl (blk_map [] (wMCo k a_p0 (a_p0in 0) (a_p0ou 0) (a_p0ru 0) (a_p0no 0) (a_p0fo 0) (a_p0rd 0) (a_p0pa 0) sv_p0 p0_0 ++ wRules k a_p0ru p0ru_0 ++ wCourt k a_p0no p0no_0 ++ wCourt k a_p0fo p0fo_0) (wJArr k a_p2 z_p2 p2_0) 0 28 (by simp only [List.nil_append]) rfl rfl) rfl rfl ⟨by decide, by decide⟩ ⟨by decide, by decide⟩ (Nat.le_of_ble_eq_true rfl) rfl (fun _ => rfl) (fun u => by rw [blk_put [] (wMCo k a_p0 (a_p0in 0) (a_p0ou 0) (a_p0ru 0) (a_p0no 0) (a_p0fo 0) (a_p0rd 0) (a_p0pa 0) sv_p0 p0_0 ++ wRules k a_p0ru p0ru_0 ++ wCourt k a_p0no p0no_0 ++ wCourt k a_p0fo p0fo_0) (wJArr k a_p2 z_p2 p2_0) (wMCo k a_p0 (a_p0in 0) (a_p0ou 0) (a_p0ru 0) (a_p0no 0) (a_p0fo 0) (a_p0rd 0) (a_p0pa 0) sv_p0 p0_0 ++ wRules k a_p0ru p0ru_0 ++ wCourt k a_p0no p0no_0 ++ wCourt k a_p0fo (u)) 0 28 (by simp only [List.nil_append]) rfl rfl rfl]; try simp only [List.nil_append]) (fun cd9 u ce9 q9 H locs hp hW hce hcv hcls => ?_) (fun r u H locs hp hW => ?_)
  · obtain ⟨hcd, hp⟩ := hp
    cases hp
    have hW : WD k A s.heap (wMCo k a_p0 (a_p0in 0) (a_p0ou 0) (a_p0ru 0) (a_p0no 0) (a_p0fo 0) (a_p0rd 0) (a_p0pa 0) sv_p0 p0_0 ++ wRules k a_p0ru p0ru_0 ++ wCourt k a_p0no p0no_0 ++ wCourt k a_p0fo p0fo_1 ++ wJArr k a_p2 z_p2 p2_0) H locs := hW
    have hf := oF hcd hf
    by_cases hc : cd_3 = 1
    · have hf := oT hc hf
      subst hc
      refine k_catch (cd := 1) hN E htab [] (0, 9, 12, 13) [] rfl (fun z hz => by simp at hz) (by decide) (by decide) rfl (by decide) tm_752 tm_763 hce hcv hcls ?_
      refine lv_astore_n (lv' := [(3, .ref q9), (0, .ref (a_p0 0)), (1, .int v1_0), (2, .ref (a_p2 0))]) E.hx E.hb dL_wouldPay_12 rfl hl (by decide) rfl (fun ls hl => ?_)
      refine lv_iconst (v := (1 : Int32)) E.hx E.hb dL_wouldPay_13 ic_1 ?_
      exact hret _ (p0fo_1, p2_0) _ _ _ _ _ _ hW (Option.some.inj hf).symm rfl (by decide) (by decide) dL_wouldPay_14
    have hf := oF hc hf
    exact o0 hf
  cases hp
  have hW : WD k A s.heap (wMCo k a_p0 (a_p0in 0) (a_p0ou 0) (a_p0ru 0) (a_p0no 0) (a_p0fo 0) (a_p0rd 0) (a_p0pa 0) sv_p0 p0_0 ++ wRules k a_p0ru p0ru_0 ++ wCourt k a_p0no p0no_0 ++ wCourt k a_p0fo p0fo_1 ++ wJArr k a_p2 z_p2 p2_0) H locs := hW
  have hf := oT rfl hf
  refine lv_i2l (v := (r_2).toInt64) E.hx E.hb dL_wouldPay_7 rfl ?_
  obtain ⟨hin, hf⟩ := oI hf
  obtain ⟨p2_4, ep2_4, hf⟩ := oL hf
  refine k_last (ws2 := wMCo k a_p0 (a_p0in 0) (a_p0ou 0) (a_p0ru 0) (a_p0no 0) (a_p0fo 0) (a_p0rd 0) (a_p0pa 0) sv_p0 p0_0 ++ wRules k a_p0ru p0ru_0 ++ wCourt k a_p0no p0no_0 ++ wCourt k a_p0fo p0fo_1 ++ wJArr k a_p2 z_p2 p2_4) E hW 28 rfl hin dL_wouldPay_8 (by rw [ep2_4]; rfl) (fun H locs hW => ?_)
  refine lv_goto (tgt := 15) E.hx E.hb dL_wouldPay_9 (by decide) ?_
  refine lv_iconst (v := (0 : Int32)) E.hx E.hb dL_wouldPay_15 ic_0 ?_
  exact hret _ (p0fo_1, p2_4) _ _ _ _ _ _ hW (Option.some.inj hf).symm rfl (by decide) (by decide) dL_wouldPay_16
def f_L_freeIn (n : Nat) (sv_p0 : Value) (p0_0 : OS) (p0ru_0 : OS) (p0no_0 : OS) (p0fo_0 : OS) (z_p2 : Nat) (p2_0 : Nat → Int64) (v1_0 : Int32) : Option (OS × (Nat → Int64) × Int32) :=
  bnd3 (f_X8_freeIn n sv_p0 p0_0 p0ru_0 p0no_0 p0fo_0 v1_0) (fun (p0fo_1 : OS) (r_2 : Int32) (cd_3 : Nat) =>
  if cd_3 = 0 then (
  gI z_p2 (0 : Int32) (Let (vp_updL p2_0 (0 : Int32).toNatClampNeg ((r_2).toInt64)) (fun p2_4 : Nat → Int64 =>
  some (p0fo_1, p2_4, (0 : Int32))))) else (
  if cd_3 = 2 then (
  some (p0fo_1, p2_0, (1 : Int32))) else (none)))
set_option maxHeartbeats 4000000 in
set_option maxRecDepth 100000 in
theorem c_L_freeIn (n : Nat) (l : Launch) (k : KT) (hN : CCH k) (hx : XH l k) (a_p0 : Nat → Nat) (a_p0in : Nat → Nat) (a_p0ou : Nat → Nat) (a_p0ru : Nat → Nat) (a_p0no : Nat → Nat) (a_p0fo : Nat → Nat) (a_p0rd : Nat → Nat) (a_p0pa : Nat → Nat) (a_p2 : Nat → Nat) (sv_p0 : Value) (p0_0 : OS) (p0ru_0 : OS) (p0no_0 : OS) (p0fo_0 : OS) (z_p2 : Nat) (p2_0 : Nat → Int64) (v1_0 : Int32) (res : (OS × (Nat → Int64) × Int32)) (hf : f_L_freeIn n sv_p0 p0_0 p0ru_0 p0no_0 p0fo_0 z_p2 p2_0 v1_0 = some res) : CXW l k yL_freeIn cL_freeIn 4 (some .int) [(0, 9, 12, 39)] 8 1 6 189 [.ref (a_p0 0), .int v1_0, .ref (a_p2 0)] (wMCo k a_p0 (a_p0in 0) (a_p0ou 0) (a_p0ru 0) (a_p0no 0) (a_p0fo 0) (a_p0rd 0) (a_p0pa 0) sv_p0 p0_0 ++ wRules k a_p0ru p0ru_0 ++ wCourt k a_p0no p0no_0 ++ wCourt k a_p0fo p0fo_0 ++ wJArr k a_p2 z_p2 p2_0) (Qi k (fun u : (OS) × (Nat → Int64) => wMCo k a_p0 (a_p0in 0) (a_p0ou 0) (a_p0ru 0) (a_p0no 0) (a_p0fo 0) (a_p0rd 0) (a_p0pa 0) sv_p0 p0_0 ++ wRules k a_p0ru p0ru_0 ++ wCourt k a_p0no p0no_0 ++ wCourt k a_p0fo (u.1) ++ wJArr k a_p2 z_p2 (u.2)) (fun (r : Int32) (u : (OS) × (Nat → Int64)) => res = (u.1, u.2, r))) := by
  refine CXW.ofI (by decide) (Nat.le_of_ble_eq_true rfl) (fun p e s m args below meth c A Q E hnm htab hW hA hret ls hl => ?_)
  have hl : lv_has ls 4 [(0, .ref (a_p0 0)), (1, .int v1_0), (2, .ref (a_p2 0))] := hl
  unfold f_L_freeIn at hf
  refine k_aload_n E hl 2 dL_freeIn_0 rfl ?_
  refine lv_iconst (v := (0 : Int32)) E.hx E.hb dL_freeIn_1 ic_0 ?_
  refine k_aload_n E hl 0 dL_freeIn_2 rfl ?_
  refine k_iload_n E hl 1 dL_freeIn_3 rfl ?_
  obtain ⟨p0fo_1, r_2, cd_3, hg, hf⟩ := ob3 hf
  refine k_callXi (As := [.int v1_0]) (rest := [.int (0 : Int32), .ref (a_p2 0)]) (ws2 := fun u => wMCo k a_p0 (a_p0in 0) (a_p0ou 0) (a_p0ru 0) (a_p0no 0) (a_p0fo 0) (a_p0rd 0) (a_p0pa 0) sv_p0 p0_0 ++ wRules k a_p0ru p0ru_0 ++ wCourt k a_p0no p0no_0 ++ wCourt k a_p0fo (u) ++ wJArr k a_p2 z_p2 p2_0) (c_X8_freeIn n l k hx a_p0 a_p0in a_p0ou a_p0ru a_p0no a_p0fo a_p0rd a_p0pa sv_p0 p0_0 p0ru_0 p0no_0 p0fo_0 v1_0 (p0fo_1, r_2, cd_3) hg) E vl_L_91 dL_freeIn_4 rfl (List.range' 0 28) 6 0 hW hA hl rfl (blk_map [] (wMCo k a_p0 (a_p0in 0) (a_p0ou 0) (a_p0ru 0) (a_p0no 0) (a_p0fo 0) (a_p0rd 0) (a_p0pa 0) sv_p0 p0_0 ++ wRules k a_p0ru p0ru_0 ++ wCourt k a_p0no p0no_0 ++ wCourt k a_p0fo p0fo_0) (wJArr k a_p2 z_p2 p2_0) 0 28 (by simp only [List.nil_append]) rfl rfl) rfl rfl ⟨by decide, by decide⟩ ⟨by decide, by decide⟩ (Nat.le_of_ble_eq_true rfl) rfl (fun _ => rfl) (fun u => by rw [blk_put [] (wMCo k a_p0 (a_p0in 0) (a_p0ou 0) (a_p0ru 0) (a_p0no 0) (a_p0fo 0) (a_p0rd 0) (a_p0pa 0) sv_p0 p0_0 ++ wRules k a_p0ru p0ru_0 ++ wCourt k a_p0no p0no_0 ++ wCourt k a_p0fo p0fo_0) (wJArr k a_p2 z_p2 p2_0) (wMCo k a_p0 (a_p0in 0) (a_p0ou 0) (a_p0ru 0) (a_p0no 0) (a_p0fo 0) (a_p0rd 0) (a_p0pa 0) sv_p0 p0_0 ++ wRules k a_p0ru p0ru_0 ++ wCourt k a_p0no p0no_0 ++ wCourt k a_p0fo (u)) 0 28 (by simp only [List.nil_append]) rfl rfl rfl]; try simp only [List.nil_append]) (fun cd9 u ce9 q9 H locs hp hW hce hcv hcls => ?_) (fun r u H locs hp hW => ?_)
  · obtain ⟨hcd, hp⟩ := hp
    cases hp
    have hW : WD k A s.heap (wMCo k a_p0 (a_p0in 0) (a_p0ou 0) (a_p0ru 0) (a_p0no 0) (a_p0fo 0) (a_p0rd 0) (a_p0pa 0) sv_p0 p0_0 ++ wRules k a_p0ru p0ru_0 ++ wCourt k a_p0no p0no_0 ++ wCourt k a_p0fo p0fo_1 ++ wJArr k a_p2 z_p2 p2_0) H locs := hW
    have hf := oF hcd hf
    by_cases hc : cd_3 = 2
    · have hf := oT hc hf
      subst hc
      refine k_catch (cd := 2) hN E htab [] (0, 9, 12, 39) [] rfl (fun z hz => by simp at hz) (by decide) (by decide) rfl (by decide) tm_936 tm_943 hce hcv hcls ?_
      refine lv_astore_n (lv' := [(3, .ref q9), (0, .ref (a_p0 0)), (1, .int v1_0), (2, .ref (a_p2 0))]) E.hx E.hb dL_freeIn_12 rfl hl (by decide) rfl (fun ls hl => ?_)
      refine lv_iconst (v := (1 : Int32)) E.hx E.hb dL_freeIn_13 ic_1 ?_
      exact hret _ (p0fo_1, p2_0) _ _ _ _ _ _ hW (Option.some.inj hf).symm rfl (by decide) (by decide) dL_freeIn_14
    have hf := oF hc hf
    exact o0 hf
  cases hp
  have hW : WD k A s.heap (wMCo k a_p0 (a_p0in 0) (a_p0ou 0) (a_p0ru 0) (a_p0no 0) (a_p0fo 0) (a_p0rd 0) (a_p0pa 0) sv_p0 p0_0 ++ wRules k a_p0ru p0ru_0 ++ wCourt k a_p0no p0no_0 ++ wCourt k a_p0fo p0fo_1 ++ wJArr k a_p2 z_p2 p2_0) H locs := hW
  have hf := oT rfl hf
  refine lv_i2l (v := (r_2).toInt64) E.hx E.hb dL_freeIn_7 rfl ?_
  obtain ⟨hin, hf⟩ := oI hf
  obtain ⟨p2_4, ep2_4, hf⟩ := oL hf
  refine k_last (ws2 := wMCo k a_p0 (a_p0in 0) (a_p0ou 0) (a_p0ru 0) (a_p0no 0) (a_p0fo 0) (a_p0rd 0) (a_p0pa 0) sv_p0 p0_0 ++ wRules k a_p0ru p0ru_0 ++ wCourt k a_p0no p0no_0 ++ wCourt k a_p0fo p0fo_1 ++ wJArr k a_p2 z_p2 p2_4) E hW 28 rfl hin dL_freeIn_8 (by rw [ep2_4]; rfl) (fun H locs hW => ?_)
  refine lv_goto (tgt := 15) E.hx E.hb dL_freeIn_9 (by decide) ?_
  refine lv_iconst (v := (0 : Int32)) E.hx E.hb dL_freeIn_15 ic_0 ?_
  exact hret _ (p0fo_1, p2_4) _ _ _ _ _ _ hW (Option.some.inj hf).symm rfl (by decide) (by decide) dL_freeIn_16
def f_L_processIn (n : Nat) (sv_p0 : Value) (p0_0 : OS) (p0ru_0 : OS) (p0no_0 : OS) (p0fo_0 : OS) (z_p4 : Nat) (p4_0 : Nat → Int64) (v1_0 : Int32) (v2_0 : Int32) (v3_0 : Int32) : Option (OS × (Nat → Int64) × Int32) :=
  bnd3 (f_X8_processIn n sv_p0 p0_0 p0ru_0 p0no_0 p0fo_0 v1_0 v2_0 v3_0) (fun (p0fo_1 : OS) (r_2 : Int32) (cd_3 : Nat) =>
  if cd_3 = 0 then (
  gI z_p4 (0 : Int32) (Let (vp_updL p4_0 (0 : Int32).toNatClampNeg ((r_2).toInt64)) (fun p4_4 : Nat → Int64 =>
  some (p0fo_1, p4_4, (0 : Int32))))) else (
  if cd_3 = 1 then (
  some (p0fo_1, p4_0, (1 : Int32))) else (if cd_3 = 2 then (
  some (p0fo_1, p4_0, (2 : Int32))) else (none))))
set_option maxHeartbeats 4000000 in
set_option maxRecDepth 100000 in
theorem c_L_processIn (n : Nat) (l : Launch) (k : KT) (hN : CCH k) (hx : XH l k) (a_p0 : Nat → Nat) (a_p0in : Nat → Nat) (a_p0ou : Nat → Nat) (a_p0ru : Nat → Nat) (a_p0no : Nat → Nat) (a_p0fo : Nat → Nat) (a_p0rd : Nat → Nat) (a_p0pa : Nat → Nat) (a_p4 : Nat → Nat) (sv_p0 : Value) (p0_0 : OS) (p0ru_0 : OS) (p0no_0 : OS) (p0fo_0 : OS) (z_p4 : Nat) (p4_0 : Nat → Int64) (v1_0 : Int32) (v2_0 : Int32) (v3_0 : Int32) (res : (OS × (Nat → Int64) × Int32)) (hf : f_L_processIn n sv_p0 p0_0 p0ru_0 p0no_0 p0fo_0 z_p4 p4_0 v1_0 v2_0 v3_0 = some res) : CXW l k yL_processIn cL_processIn 6 (some .int) [(0, 12, 15, 13), (0, 12, 19, 39)] 8 3 18 191 [.ref (a_p0 0), .int v1_0, .int v2_0, .int v3_0, .ref (a_p4 0)] (wMCo k a_p0 (a_p0in 0) (a_p0ou 0) (a_p0ru 0) (a_p0no 0) (a_p0fo 0) (a_p0rd 0) (a_p0pa 0) sv_p0 p0_0 ++ wRules k a_p0ru p0ru_0 ++ wCourt k a_p0no p0no_0 ++ wCourt k a_p0fo p0fo_0 ++ wJArr k a_p4 z_p4 p4_0) (Qi k (fun u : (OS) × (Nat → Int64) => wMCo k a_p0 (a_p0in 0) (a_p0ou 0) (a_p0ru 0) (a_p0no 0) (a_p0fo 0) (a_p0rd 0) (a_p0pa 0) sv_p0 p0_0 ++ wRules k a_p0ru p0ru_0 ++ wCourt k a_p0no p0no_0 ++ wCourt k a_p0fo (u.1) ++ wJArr k a_p4 z_p4 (u.2)) (fun (r : Int32) (u : (OS) × (Nat → Int64)) => res = (u.1, u.2, r))) := by
  refine CXW.ofI (by decide) (Nat.le_of_ble_eq_true rfl) (fun p e s m args below meth c A Q E hnm htab hW hA hret ls hl => ?_)
  have hl : lv_has ls 6 [(0, .ref (a_p0 0)), (1, .int v1_0), (2, .int v2_0), (3, .int v3_0), (4, .ref (a_p4 0))] := hl
  unfold f_L_processIn at hf
  refine k_aload E hl 4 dL_processIn_0 rfl ?_
  refine lv_iconst (v := (0 : Int32)) E.hx E.hb dL_processIn_2 ic_0 ?_
  refine k_aload_n E hl 0 dL_processIn_3 rfl ?_
  refine k_iload_n E hl 1 dL_processIn_4 rfl ?_
  refine k_iload_n E hl 2 dL_processIn_5 rfl ?_
  refine k_iload_n E hl 3 dL_processIn_6 rfl ?_
  obtain ⟨p0fo_1, r_2, cd_3, hg, hf⟩ := ob3 hf
  refine k_callXi (As := [.int v1_0, .int v2_0, .int v3_0]) (rest := [.int (0 : Int32), .ref (a_p4 0)]) (ws2 := fun u => wMCo k a_p0 (a_p0in 0) (a_p0ou 0) (a_p0ru 0) (a_p0no 0) (a_p0fo 0) (a_p0rd 0) (a_p0pa 0) sv_p0 p0_0 ++ wRules k a_p0ru p0ru_0 ++ wCourt k a_p0no p0no_0 ++ wCourt k a_p0fo (u) ++ wJArr k a_p4 z_p4 p4_0) (c_X8_processIn n l k hx a_p0 a_p0in a_p0ou a_p0ru a_p0no a_p0fo a_p0rd a_p0pa sv_p0 p0_0 p0ru_0 p0no_0 p0fo_0 v1_0 v2_0 v3_0 (p0fo_1, r_2, cd_3) hg) E vl_L_94 dL_processIn_7 rfl (List.range' 0 28) 6 0 hW hA hl rfl (blk_map [] (wMCo k a_p0 (a_p0in 0) (a_p0ou 0) (a_p0ru 0) (a_p0no 0) (a_p0fo 0) (a_p0rd 0) (a_p0pa 0) sv_p0 p0_0 ++ wRules k a_p0ru p0ru_0 ++ wCourt k a_p0no p0no_0 ++ wCourt k a_p0fo p0fo_0) (wJArr k a_p4 z_p4 p4_0) 0 28 (by simp only [List.nil_append]) rfl rfl) rfl rfl ⟨by decide, by decide⟩ ⟨by decide, by decide⟩ (Nat.le_of_ble_eq_true rfl) rfl (fun _ => rfl) (fun u => by rw [blk_put [] (wMCo k a_p0 (a_p0in 0) (a_p0ou 0) (a_p0ru 0) (a_p0no 0) (a_p0fo 0) (a_p0rd 0) (a_p0pa 0) sv_p0 p0_0 ++ wRules k a_p0ru p0ru_0 ++ wCourt k a_p0no p0no_0 ++ wCourt k a_p0fo p0fo_0) (wJArr k a_p4 z_p4 p4_0) (wMCo k a_p0 (a_p0in 0) (a_p0ou 0) (a_p0ru 0) (a_p0no 0) (a_p0fo 0) (a_p0rd 0) (a_p0pa 0) sv_p0 p0_0 ++ wRules k a_p0ru p0ru_0 ++ wCourt k a_p0no p0no_0 ++ wCourt k a_p0fo (u)) 0 28 (by simp only [List.nil_append]) rfl rfl rfl]; try simp only [List.nil_append]) (fun cd9 u ce9 q9 H locs hp hW hce hcv hcls => ?_) (fun r u H locs hp hW => ?_)
  · obtain ⟨hcd, hp⟩ := hp
    cases hp
    have hW : WD k A s.heap (wMCo k a_p0 (a_p0in 0) (a_p0ou 0) (a_p0ru 0) (a_p0no 0) (a_p0fo 0) (a_p0rd 0) (a_p0pa 0) sv_p0 p0_0 ++ wRules k a_p0ru p0ru_0 ++ wCourt k a_p0no p0no_0 ++ wCourt k a_p0fo p0fo_1 ++ wJArr k a_p4 z_p4 p4_0) H locs := hW
    have hf := oF hcd hf
    by_cases hc : cd_3 = 1
    · have hf := oT hc hf
      subst hc
      refine k_catch (cd := 1) hN E htab [] (0, 12, 15, 13) [(0, 12, 19, 39)] rfl (fun z hz => by simp at hz) (by decide) (by decide) rfl (by decide) tm_752 tm_763 hce hcv hcls ?_
      refine lv_astore (lv' := [(5, .ref q9), (0, .ref (a_p0 0)), (1, .int v1_0), (2, .int v2_0), (3, .int v3_0), (4, .ref (a_p4 0))]) E.hx E.hb dL_processIn_15 hl (by decide) rfl (fun ls hl => ?_)
      refine lv_iconst (v := (1 : Int32)) E.hx E.hb dL_processIn_17 ic_1 ?_
      exact hret _ (p0fo_1, p4_0) _ _ _ _ _ _ hW (Option.some.inj hf).symm rfl (by decide) (by decide) dL_processIn_18
    have hf := oF hc hf
    by_cases hc : cd_3 = 2
    · have hf := oT hc hf
      subst hc
      refine k_catch (cd := 2) hN E htab [(0, 12, 15, 13)] (0, 12, 19, 39) [] rfl (by intro z hz; simp only [List.mem_cons, List.not_mem_nil, or_false] at hz; subst hz; exact ⟨by decide, 1, by decide, by decide, by decide, tm_752⟩) (by decide) (by decide) rfl (by decide) tm_936 tm_943 hce hcv hcls ?_
      refine lv_astore (lv' := [(5, .ref q9), (0, .ref (a_p0 0)), (1, .int v1_0), (2, .int v2_0), (3, .int v3_0), (4, .ref (a_p4 0))]) E.hx E.hb dL_processIn_19 hl (by decide) rfl (fun ls hl => ?_)
      refine lv_iconst (v := (2 : Int32)) E.hx E.hb dL_processIn_21 ic_2 ?_
      exact hret _ (p0fo_1, p4_0) _ _ _ _ _ _ hW (Option.some.inj hf).symm rfl (by decide) (by decide) dL_processIn_22
    have hf := oF hc hf
    exact o0 hf
  cases hp
  have hW : WD k A s.heap (wMCo k a_p0 (a_p0in 0) (a_p0ou 0) (a_p0ru 0) (a_p0no 0) (a_p0fo 0) (a_p0rd 0) (a_p0pa 0) sv_p0 p0_0 ++ wRules k a_p0ru p0ru_0 ++ wCourt k a_p0no p0no_0 ++ wCourt k a_p0fo p0fo_1 ++ wJArr k a_p4 z_p4 p4_0) H locs := hW
  have hf := oT rfl hf
  refine lv_i2l (v := (r_2).toInt64) E.hx E.hb dL_processIn_10 rfl ?_
  obtain ⟨hin, hf⟩ := oI hf
  obtain ⟨p4_4, ep4_4, hf⟩ := oL hf
  refine k_last (ws2 := wMCo k a_p0 (a_p0in 0) (a_p0ou 0) (a_p0ru 0) (a_p0no 0) (a_p0fo 0) (a_p0rd 0) (a_p0pa 0) sv_p0 p0_0 ++ wRules k a_p0ru p0ru_0 ++ wCourt k a_p0no p0no_0 ++ wCourt k a_p0fo p0fo_1 ++ wJArr k a_p4 z_p4 p4_4) E hW 28 rfl hin dL_processIn_11 (by rw [ep4_4]; rfl) (fun H locs hW => ?_)
  refine lv_goto (tgt := 23) E.hx E.hb dL_processIn_12 (by decide) ?_
  refine lv_iconst (v := (0 : Int32)) E.hx E.hb dL_processIn_23 ic_0 ?_
  exact hret _ (p0fo_1, p4_4) _ _ _ _ _ _ hW (Option.some.inj hf).symm rfl (by decide) (by decide) dL_processIn_24
def f_L_bestOrder (n : Nat) (sv_p0 : Value) (p0_0 : OS) (p0ru_0 : OS) (p0no_0 : OS) (p0fo_0 : OS) (z_p2 : Nat) (p2_0 : Nat → Int64) (v1_0 : Int32) : Option (OS × (Nat → Int64) × Int32) :=
  bnd3 (f_X8_bestOrder n sv_p0 p0_0 p0ru_0 p0no_0 p0fo_0 v1_0) (fun (p0fo_1 : OS) (r_2 : Int32) (cd_3 : Nat) =>
  if cd_3 = 0 then (
  gI z_p2 (0 : Int32) (Let (vp_updL p2_0 (0 : Int32).toNatClampNeg ((r_2).toInt64)) (fun p2_4 : Nat → Int64 =>
  some (p0fo_1, p2_4, (0 : Int32))))) else (
  if cd_3 = 2 then (
  some (p0fo_1, p2_0, (1 : Int32))) else (none)))
set_option maxHeartbeats 4000000 in
set_option maxRecDepth 100000 in
theorem c_L_bestOrder (n : Nat) (l : Launch) (k : KT) (hN : CCH k) (hx : XH l k) (a_p0 : Nat → Nat) (a_p0in : Nat → Nat) (a_p0ou : Nat → Nat) (a_p0ru : Nat → Nat) (a_p0no : Nat → Nat) (a_p0fo : Nat → Nat) (a_p0rd : Nat → Nat) (a_p0pa : Nat → Nat) (a_p2 : Nat → Nat) (sv_p0 : Value) (p0_0 : OS) (p0ru_0 : OS) (p0no_0 : OS) (p0fo_0 : OS) (z_p2 : Nat) (p2_0 : Nat → Int64) (v1_0 : Int32) (res : (OS × (Nat → Int64) × Int32)) (hf : f_L_bestOrder n sv_p0 p0_0 p0ru_0 p0no_0 p0fo_0 z_p2 p2_0 v1_0 = some res) : CXW l k yL_bestOrder cL_bestOrder 4 (some .int) [(0, 9, 12, 39)] 8 1 6 193 [.ref (a_p0 0), .int v1_0, .ref (a_p2 0)] (wMCo k a_p0 (a_p0in 0) (a_p0ou 0) (a_p0ru 0) (a_p0no 0) (a_p0fo 0) (a_p0rd 0) (a_p0pa 0) sv_p0 p0_0 ++ wRules k a_p0ru p0ru_0 ++ wCourt k a_p0no p0no_0 ++ wCourt k a_p0fo p0fo_0 ++ wJArr k a_p2 z_p2 p2_0) (Qi k (fun u : (OS) × (Nat → Int64) => wMCo k a_p0 (a_p0in 0) (a_p0ou 0) (a_p0ru 0) (a_p0no 0) (a_p0fo 0) (a_p0rd 0) (a_p0pa 0) sv_p0 p0_0 ++ wRules k a_p0ru p0ru_0 ++ wCourt k a_p0no p0no_0 ++ wCourt k a_p0fo (u.1) ++ wJArr k a_p2 z_p2 (u.2)) (fun (r : Int32) (u : (OS) × (Nat → Int64)) => res = (u.1, u.2, r))) := by
  refine CXW.ofI (by decide) (Nat.le_of_ble_eq_true rfl) (fun p e s m args below meth c A Q E hnm htab hW hA hret ls hl => ?_)
  have hl : lv_has ls 4 [(0, .ref (a_p0 0)), (1, .int v1_0), (2, .ref (a_p2 0))] := hl
  unfold f_L_bestOrder at hf
  refine k_aload_n E hl 2 dL_bestOrder_0 rfl ?_
  refine lv_iconst (v := (0 : Int32)) E.hx E.hb dL_bestOrder_1 ic_0 ?_
  refine k_aload_n E hl 0 dL_bestOrder_2 rfl ?_
  refine k_iload_n E hl 1 dL_bestOrder_3 rfl ?_
  obtain ⟨p0fo_1, r_2, cd_3, hg, hf⟩ := ob3 hf
  refine k_callXi (As := [.int v1_0]) (rest := [.int (0 : Int32), .ref (a_p2 0)]) (ws2 := fun u => wMCo k a_p0 (a_p0in 0) (a_p0ou 0) (a_p0ru 0) (a_p0no 0) (a_p0fo 0) (a_p0rd 0) (a_p0pa 0) sv_p0 p0_0 ++ wRules k a_p0ru p0ru_0 ++ wCourt k a_p0no p0no_0 ++ wCourt k a_p0fo (u) ++ wJArr k a_p2 z_p2 p2_0) (c_X8_bestOrder n l k hx a_p0 a_p0in a_p0ou a_p0ru a_p0no a_p0fo a_p0rd a_p0pa sv_p0 p0_0 p0ru_0 p0no_0 p0fo_0 v1_0 (p0fo_1, r_2, cd_3) hg) E vl_L_97 dL_bestOrder_4 rfl (List.range' 0 28) 6 0 hW hA hl rfl (blk_map [] (wMCo k a_p0 (a_p0in 0) (a_p0ou 0) (a_p0ru 0) (a_p0no 0) (a_p0fo 0) (a_p0rd 0) (a_p0pa 0) sv_p0 p0_0 ++ wRules k a_p0ru p0ru_0 ++ wCourt k a_p0no p0no_0 ++ wCourt k a_p0fo p0fo_0) (wJArr k a_p2 z_p2 p2_0) 0 28 (by simp only [List.nil_append]) rfl rfl) rfl rfl ⟨by decide, by decide⟩ ⟨by decide, by decide⟩ (Nat.le_of_ble_eq_true rfl) rfl (fun _ => rfl) (fun u => by rw [blk_put [] (wMCo k a_p0 (a_p0in 0) (a_p0ou 0) (a_p0ru 0) (a_p0no 0) (a_p0fo 0) (a_p0rd 0) (a_p0pa 0) sv_p0 p0_0 ++ wRules k a_p0ru p0ru_0 ++ wCourt k a_p0no p0no_0 ++ wCourt k a_p0fo p0fo_0) (wJArr k a_p2 z_p2 p2_0) (wMCo k a_p0 (a_p0in 0) (a_p0ou 0) (a_p0ru 0) (a_p0no 0) (a_p0fo 0) (a_p0rd 0) (a_p0pa 0) sv_p0 p0_0 ++ wRules k a_p0ru p0ru_0 ++ wCourt k a_p0no p0no_0 ++ wCourt k a_p0fo (u)) 0 28 (by simp only [List.nil_append]) rfl rfl rfl]; try simp only [List.nil_append]) (fun cd9 u ce9 q9 H locs hp hW hce hcv hcls => ?_) (fun r u H locs hp hW => ?_)
  · obtain ⟨hcd, hp⟩ := hp
    cases hp
    have hW : WD k A s.heap (wMCo k a_p0 (a_p0in 0) (a_p0ou 0) (a_p0ru 0) (a_p0no 0) (a_p0fo 0) (a_p0rd 0) (a_p0pa 0) sv_p0 p0_0 ++ wRules k a_p0ru p0ru_0 ++ wCourt k a_p0no p0no_0 ++ wCourt k a_p0fo p0fo_1 ++ wJArr k a_p2 z_p2 p2_0) H locs := hW
    have hf := oF hcd hf
    by_cases hc : cd_3 = 2
    · have hf := oT hc hf
      subst hc
      refine k_catch (cd := 2) hN E htab [] (0, 9, 12, 39) [] rfl (fun z hz => by simp at hz) (by decide) (by decide) rfl (by decide) tm_936 tm_943 hce hcv hcls ?_
      refine lv_astore_n (lv' := [(3, .ref q9), (0, .ref (a_p0 0)), (1, .int v1_0), (2, .ref (a_p2 0))]) E.hx E.hb dL_bestOrder_12 rfl hl (by decide) rfl (fun ls hl => ?_)
      refine lv_iconst (v := (1 : Int32)) E.hx E.hb dL_bestOrder_13 ic_1 ?_
      exact hret _ (p0fo_1, p2_0) _ _ _ _ _ _ hW (Option.some.inj hf).symm rfl (by decide) (by decide) dL_bestOrder_14
    have hf := oF hc hf
    exact o0 hf
  cases hp
  have hW : WD k A s.heap (wMCo k a_p0 (a_p0in 0) (a_p0ou 0) (a_p0ru 0) (a_p0no 0) (a_p0fo 0) (a_p0rd 0) (a_p0pa 0) sv_p0 p0_0 ++ wRules k a_p0ru p0ru_0 ++ wCourt k a_p0no p0no_0 ++ wCourt k a_p0fo p0fo_1 ++ wJArr k a_p2 z_p2 p2_0) H locs := hW
  have hf := oT rfl hf
  refine lv_i2l (v := (r_2).toInt64) E.hx E.hb dL_bestOrder_7 rfl ?_
  obtain ⟨hin, hf⟩ := oI hf
  obtain ⟨p2_4, ep2_4, hf⟩ := oL hf
  refine k_last (ws2 := wMCo k a_p0 (a_p0in 0) (a_p0ou 0) (a_p0ru 0) (a_p0no 0) (a_p0fo 0) (a_p0rd 0) (a_p0pa 0) sv_p0 p0_0 ++ wRules k a_p0ru p0ru_0 ++ wCourt k a_p0no p0no_0 ++ wCourt k a_p0fo p0fo_1 ++ wJArr k a_p2 z_p2 p2_4) E hW 28 rfl hin dL_bestOrder_8 (by rw [ep2_4]; rfl) (fun H locs hW => ?_)
  refine lv_goto (tgt := 15) E.hx E.hb dL_bestOrder_9 (by decide) ?_
  refine lv_iconst (v := (0 : Int32)) E.hx E.hb dL_bestOrder_15 ic_0 ?_
  exact hret _ (p0fo_1, p2_4) _ _ _ _ _ _ hW (Option.some.inj hf).symm rfl (by decide) (by decide) dL_bestOrder_16
def f_L_helps (n : Nat) (sv_p0 : Value) (p0_0 : OS) (p0ru_0 : OS) (p0no_0 : OS) (p0fo_0 : OS) (z_p3 : Nat) (p3_0 : Nat → Int64) (v1_0 : Int32) (v2_0 : Int32) : Option (OS × (Nat → Int64) × Int32) :=
  bnd3 (f_X8_helps n sv_p0 p0_0 p0ru_0 p0no_0 p0fo_0 v1_0 v2_0) (fun (p0fo_1 : OS) (r_2 : Int32) (cd_3 : Nat) =>
  if cd_3 = 0 then (
  gI z_p3 (0 : Int32) (Let (vp_updL p3_0 (0 : Int32).toNatClampNeg ((r_2).toInt64)) (fun p3_4 : Nat → Int64 =>
  some (p0fo_1, p3_4, (0 : Int32))))) else (
  if cd_3 = 1 then (
  some (p0fo_1, p3_0, (1 : Int32))) else (none)))
set_option maxHeartbeats 4000000 in
set_option maxRecDepth 100000 in
theorem c_L_helps (n : Nat) (l : Launch) (k : KT) (hN : CCH k) (hx : XH l k) (a_p0 : Nat → Nat) (a_p0in : Nat → Nat) (a_p0ou : Nat → Nat) (a_p0ru : Nat → Nat) (a_p0no : Nat → Nat) (a_p0fo : Nat → Nat) (a_p0rd : Nat → Nat) (a_p0pa : Nat → Nat) (a_p3 : Nat → Nat) (sv_p0 : Value) (p0_0 : OS) (p0ru_0 : OS) (p0no_0 : OS) (p0fo_0 : OS) (z_p3 : Nat) (p3_0 : Nat → Int64) (v1_0 : Int32) (v2_0 : Int32) (res : (OS × (Nat → Int64) × Int32)) (hf : f_L_helps n sv_p0 p0_0 p0ru_0 p0no_0 p0fo_0 z_p3 p3_0 v1_0 v2_0 = some res) : CXW l k yL_helps cL_helps 5 (some .int) [(0, 10, 13, 13)] 8 2 12 190 [.ref (a_p0 0), .int v1_0, .int v2_0, .ref (a_p3 0)] (wMCo k a_p0 (a_p0in 0) (a_p0ou 0) (a_p0ru 0) (a_p0no 0) (a_p0fo 0) (a_p0rd 0) (a_p0pa 0) sv_p0 p0_0 ++ wRules k a_p0ru p0ru_0 ++ wCourt k a_p0no p0no_0 ++ wCourt k a_p0fo p0fo_0 ++ wJArr k a_p3 z_p3 p3_0) (Qi k (fun u : (OS) × (Nat → Int64) => wMCo k a_p0 (a_p0in 0) (a_p0ou 0) (a_p0ru 0) (a_p0no 0) (a_p0fo 0) (a_p0rd 0) (a_p0pa 0) sv_p0 p0_0 ++ wRules k a_p0ru p0ru_0 ++ wCourt k a_p0no p0no_0 ++ wCourt k a_p0fo (u.1) ++ wJArr k a_p3 z_p3 (u.2)) (fun (r : Int32) (u : (OS) × (Nat → Int64)) => res = (u.1, u.2, r))) := by
  refine CXW.ofI (by decide) (Nat.le_of_ble_eq_true rfl) (fun p e s m args below meth c A Q E hnm htab hW hA hret ls hl => ?_)
  have hl : lv_has ls 5 [(0, .ref (a_p0 0)), (1, .int v1_0), (2, .int v2_0), (3, .ref (a_p3 0))] := hl
  unfold f_L_helps at hf
  refine k_aload_n E hl 3 dL_helps_0 rfl ?_
  refine lv_iconst (v := (0 : Int32)) E.hx E.hb dL_helps_1 ic_0 ?_
  refine k_aload_n E hl 0 dL_helps_2 rfl ?_
  refine k_iload_n E hl 1 dL_helps_3 rfl ?_
  refine k_iload_n E hl 2 dL_helps_4 rfl ?_
  obtain ⟨p0fo_1, r_2, cd_3, hg, hf⟩ := ob3 hf
  refine k_callXi (As := [.int v1_0, .int v2_0]) (rest := [.int (0 : Int32), .ref (a_p3 0)]) (ws2 := fun u => wMCo k a_p0 (a_p0in 0) (a_p0ou 0) (a_p0ru 0) (a_p0no 0) (a_p0fo 0) (a_p0rd 0) (a_p0pa 0) sv_p0 p0_0 ++ wRules k a_p0ru p0ru_0 ++ wCourt k a_p0no p0no_0 ++ wCourt k a_p0fo (u) ++ wJArr k a_p3 z_p3 p3_0) (c_X8_helps n l k hx a_p0 a_p0in a_p0ou a_p0ru a_p0no a_p0fo a_p0rd a_p0pa sv_p0 p0_0 p0ru_0 p0no_0 p0fo_0 v1_0 v2_0 (p0fo_1, r_2, cd_3) hg) E vl_L_100 dL_helps_5 rfl (List.range' 0 28) 6 0 hW hA hl rfl (blk_map [] (wMCo k a_p0 (a_p0in 0) (a_p0ou 0) (a_p0ru 0) (a_p0no 0) (a_p0fo 0) (a_p0rd 0) (a_p0pa 0) sv_p0 p0_0 ++ wRules k a_p0ru p0ru_0 ++ wCourt k a_p0no p0no_0 ++ wCourt k a_p0fo p0fo_0) (wJArr k a_p3 z_p3 p3_0) 0 28 (by simp only [List.nil_append]) rfl rfl) rfl rfl ⟨by decide, by decide⟩ ⟨by decide, by decide⟩ (Nat.le_of_ble_eq_true rfl) rfl (fun _ => rfl) (fun u => by rw [blk_put [] (wMCo k a_p0 (a_p0in 0) (a_p0ou 0) (a_p0ru 0) (a_p0no 0) (a_p0fo 0) (a_p0rd 0) (a_p0pa 0) sv_p0 p0_0 ++ wRules k a_p0ru p0ru_0 ++ wCourt k a_p0no p0no_0 ++ wCourt k a_p0fo p0fo_0) (wJArr k a_p3 z_p3 p3_0) (wMCo k a_p0 (a_p0in 0) (a_p0ou 0) (a_p0ru 0) (a_p0no 0) (a_p0fo 0) (a_p0rd 0) (a_p0pa 0) sv_p0 p0_0 ++ wRules k a_p0ru p0ru_0 ++ wCourt k a_p0no p0no_0 ++ wCourt k a_p0fo (u)) 0 28 (by simp only [List.nil_append]) rfl rfl rfl]; try simp only [List.nil_append]) (fun cd9 u ce9 q9 H locs hp hW hce hcv hcls => ?_) (fun r u H locs hp hW => ?_)
  · obtain ⟨hcd, hp⟩ := hp
    cases hp
    have hW : WD k A s.heap (wMCo k a_p0 (a_p0in 0) (a_p0ou 0) (a_p0ru 0) (a_p0no 0) (a_p0fo 0) (a_p0rd 0) (a_p0pa 0) sv_p0 p0_0 ++ wRules k a_p0ru p0ru_0 ++ wCourt k a_p0no p0no_0 ++ wCourt k a_p0fo p0fo_1 ++ wJArr k a_p3 z_p3 p3_0) H locs := hW
    have hf := oF hcd hf
    by_cases hc : cd_3 = 1
    · have hf := oT hc hf
      subst hc
      refine k_catch (cd := 1) hN E htab [] (0, 10, 13, 13) [] rfl (fun z hz => by simp at hz) (by decide) (by decide) rfl (by decide) tm_752 tm_763 hce hcv hcls ?_
      refine lv_astore (lv' := [(4, .ref q9), (0, .ref (a_p0 0)), (1, .int v1_0), (2, .int v2_0), (3, .ref (a_p3 0))]) E.hx E.hb dL_helps_13 hl (by decide) rfl (fun ls hl => ?_)
      refine lv_iconst (v := (1 : Int32)) E.hx E.hb dL_helps_15 ic_1 ?_
      exact hret _ (p0fo_1, p3_0) _ _ _ _ _ _ hW (Option.some.inj hf).symm rfl (by decide) (by decide) dL_helps_16
    have hf := oF hc hf
    exact o0 hf
  cases hp
  have hW : WD k A s.heap (wMCo k a_p0 (a_p0in 0) (a_p0ou 0) (a_p0ru 0) (a_p0no 0) (a_p0fo 0) (a_p0rd 0) (a_p0pa 0) sv_p0 p0_0 ++ wRules k a_p0ru p0ru_0 ++ wCourt k a_p0no p0no_0 ++ wCourt k a_p0fo p0fo_1 ++ wJArr k a_p3 z_p3 p3_0) H locs := hW
  have hf := oT rfl hf
  refine lv_i2l (v := (r_2).toInt64) E.hx E.hb dL_helps_8 rfl ?_
  obtain ⟨hin, hf⟩ := oI hf
  obtain ⟨p3_4, ep3_4, hf⟩ := oL hf
  refine k_last (ws2 := wMCo k a_p0 (a_p0in 0) (a_p0ou 0) (a_p0ru 0) (a_p0no 0) (a_p0fo 0) (a_p0rd 0) (a_p0pa 0) sv_p0 p0_0 ++ wRules k a_p0ru p0ru_0 ++ wCourt k a_p0no p0no_0 ++ wCourt k a_p0fo p0fo_1 ++ wJArr k a_p3 z_p3 p3_4) E hW 28 rfl hin dL_helps_9 (by rw [ep3_4]; rfl) (fun H locs hW => ?_)
  refine lv_goto (tgt := 17) E.hx E.hb dL_helps_10 (by decide) ?_
  refine lv_iconst (v := (0 : Int32)) E.hx E.hb dL_helps_17 ic_0 ?_
  exact hret _ (p0fo_1, p3_4) _ _ _ _ _ _ hW (Option.some.inj hf).symm rfl (by decide) (by decide) dL_helps_18
def f_L_wouldAppeal (n : Nat) (sv_p0 : Value) (p0_0 : OS) (p0ru_0 : OS) (p0no_0 : OS) (z_p2 : Nat) (p2_0 : Nat → Int64) (v1_0 : Int32) : Option ((Nat → Int64) × Int32) :=
  bnd2 (f_X8_wouldAppeal n sv_p0 p0_0 p0ru_0 p0no_0 v1_0) (fun (r_1 : Int32) (cd_2 : Nat) =>
  if cd_2 = 0 then (
  gI z_p2 (0 : Int32) (Let (vp_updL p2_0 (0 : Int32).toNatClampNeg ((r_1).toInt64)) (fun p2_3 : Nat → Int64 =>
  some (p2_3, (0 : Int32))))) else (
  if cd_2 = 4 then (
  some (p2_0, (1 : Int32))) else (none)))
set_option maxHeartbeats 4000000 in
set_option maxRecDepth 100000 in
theorem c_L_wouldAppeal (n : Nat) (l : Launch) (k : KT) (hN : CCH k) (hx : XH l k) (a_p0 : Nat → Nat) (a_p0in : Nat → Nat) (a_p0ou : Nat → Nat) (a_p0ru : Nat → Nat) (a_p0no : Nat → Nat) (a_p0fo : Nat → Nat) (a_p0rd : Nat → Nat) (a_p0pa : Nat → Nat) (a_p2 : Nat → Nat) (sv_p0 : Value) (p0_0 : OS) (p0ru_0 : OS) (p0no_0 : OS) (z_p2 : Nat) (p2_0 : Nat → Int64) (v1_0 : Int32) (res : ((Nat → Int64) × Int32)) (hf : f_L_wouldAppeal n sv_p0 p0_0 p0ru_0 p0no_0 z_p2 p2_0 v1_0 = some res) : CXW l k yL_wouldAppeal cL_wouldAppeal 4 (some .int) [(0, 9, 12, 25)] 8 1 6 124 [.ref (a_p0 0), .int v1_0, .ref (a_p2 0)] (wMCo k a_p0 (a_p0in 0) (a_p0ou 0) (a_p0ru 0) (a_p0no 0) (a_p0fo 0) (a_p0rd 0) (a_p0pa 0) sv_p0 p0_0 ++ wRules k a_p0ru p0ru_0 ++ wCourt k a_p0no p0no_0 ++ wJArr k a_p2 z_p2 p2_0) (Qi k (fun u : Nat → Int64 => wMCo k a_p0 (a_p0in 0) (a_p0ou 0) (a_p0ru 0) (a_p0no 0) (a_p0fo 0) (a_p0rd 0) (a_p0pa 0) sv_p0 p0_0 ++ wRules k a_p0ru p0ru_0 ++ wCourt k a_p0no p0no_0 ++ wJArr k a_p2 z_p2 u) (fun (r : Int32) (u : Nat → Int64) => res = (u, r))) := by
  refine CXW.ofI (by decide) (Nat.le_of_ble_eq_true rfl) (fun p e s m args below meth c A Q E hnm htab hW hA hret ls hl => ?_)
  have hl : lv_has ls 4 [(0, .ref (a_p0 0)), (1, .int v1_0), (2, .ref (a_p2 0))] := hl
  unfold f_L_wouldAppeal at hf
  refine k_aload_n E hl 2 dL_wouldAppeal_0 rfl ?_
  refine lv_iconst (v := (0 : Int32)) E.hx E.hb dL_wouldAppeal_1 ic_0 ?_
  refine k_aload_n E hl 0 dL_wouldAppeal_2 rfl ?_
  refine k_iload_n E hl 1 dL_wouldAppeal_3 rfl ?_
  obtain ⟨r_1, cd_2, hg, hf⟩ := ob2 hf
  refine k_callXi (As := [.int v1_0]) (rest := [.int (0 : Int32), .ref (a_p2 0)]) (ws2 := fun u => wMCo k a_p0 (a_p0in 0) (a_p0ou 0) (a_p0ru 0) (a_p0no 0) (a_p0fo 0) (a_p0rd 0) (a_p0pa 0) sv_p0 p0_0 ++ wRules k a_p0ru p0ru_0 ++ wCourt k a_p0no p0no_0 ++ wJArr k a_p2 z_p2 p2_0) (c_X8_wouldAppeal n l k hx a_p0 a_p0in a_p0ou a_p0ru a_p0no a_p0fo a_p0rd a_p0pa sv_p0 p0_0 p0ru_0 p0no_0 v1_0 (r_1, cd_2) hg) E vl_L_103 dL_wouldAppeal_4 rfl (List.range' 0 16) 6 0 hW hA hl rfl (blk_map [] (wMCo k a_p0 (a_p0in 0) (a_p0ou 0) (a_p0ru 0) (a_p0no 0) (a_p0fo 0) (a_p0rd 0) (a_p0pa 0) sv_p0 p0_0 ++ wRules k a_p0ru p0ru_0 ++ wCourt k a_p0no p0no_0) (wJArr k a_p2 z_p2 p2_0) 0 16 (by simp only [List.nil_append]) rfl rfl) rfl rfl ⟨by decide, by decide⟩ ⟨by decide, by decide⟩ (Nat.le_of_ble_eq_true rfl) rfl (fun _ => rfl) (fun u => by rw [blk_put [] (wMCo k a_p0 (a_p0in 0) (a_p0ou 0) (a_p0ru 0) (a_p0no 0) (a_p0fo 0) (a_p0rd 0) (a_p0pa 0) sv_p0 p0_0 ++ wRules k a_p0ru p0ru_0 ++ wCourt k a_p0no p0no_0) (wJArr k a_p2 z_p2 p2_0) (wMCo k a_p0 (a_p0in 0) (a_p0ou 0) (a_p0ru 0) (a_p0no 0) (a_p0fo 0) (a_p0rd 0) (a_p0pa 0) sv_p0 p0_0 ++ wRules k a_p0ru p0ru_0 ++ wCourt k a_p0no p0no_0) 0 16 (by simp only [List.nil_append]) rfl rfl rfl]; try simp only [List.nil_append]) (fun cd9 u ce9 q9 H locs hp hW hce hcv hcls => ?_) (fun r u H locs hp hW => ?_)
  · obtain ⟨hcd, hp⟩ := hp
    cases hp
    have hW : WD k A s.heap (wMCo k a_p0 (a_p0in 0) (a_p0ou 0) (a_p0ru 0) (a_p0no 0) (a_p0fo 0) (a_p0rd 0) (a_p0pa 0) sv_p0 p0_0 ++ wRules k a_p0ru p0ru_0 ++ wCourt k a_p0no p0no_0 ++ wJArr k a_p2 z_p2 p2_0) H locs := hW
    have hf := oF hcd hf
    by_cases hc : cd_2 = 4
    · have hf := oT hc hf
      subst hc
      refine k_catch (cd := 4) hN E htab [] (0, 9, 12, 25) [] rfl (fun z hz => by simp at hz) (by decide) (by decide) rfl (by decide) tm_864 tm_875 hce hcv hcls ?_
      refine lv_astore_n (lv' := [(3, .ref q9), (0, .ref (a_p0 0)), (1, .int v1_0), (2, .ref (a_p2 0))]) E.hx E.hb dL_wouldAppeal_12 rfl hl (by decide) rfl (fun ls hl => ?_)
      refine lv_iconst (v := (1 : Int32)) E.hx E.hb dL_wouldAppeal_13 ic_1 ?_
      exact hret _ p2_0 _ _ _ _ _ _ hW (Option.some.inj hf).symm rfl (by decide) (by decide) dL_wouldAppeal_14
    have hf := oF hc hf
    exact o0 hf
  cases hp
  have hW : WD k A s.heap (wMCo k a_p0 (a_p0in 0) (a_p0ou 0) (a_p0ru 0) (a_p0no 0) (a_p0fo 0) (a_p0rd 0) (a_p0pa 0) sv_p0 p0_0 ++ wRules k a_p0ru p0ru_0 ++ wCourt k a_p0no p0no_0 ++ wJArr k a_p2 z_p2 p2_0) H locs := hW
  have hf := oT rfl hf
  refine lv_i2l (v := (r_1).toInt64) E.hx E.hb dL_wouldAppeal_7 rfl ?_
  obtain ⟨hin, hf⟩ := oI hf
  obtain ⟨p2_3, ep2_3, hf⟩ := oL hf
  refine k_last (ws2 := wMCo k a_p0 (a_p0in 0) (a_p0ou 0) (a_p0ru 0) (a_p0no 0) (a_p0fo 0) (a_p0rd 0) (a_p0pa 0) sv_p0 p0_0 ++ wRules k a_p0ru p0ru_0 ++ wCourt k a_p0no p0no_0 ++ wJArr k a_p2 z_p2 p2_3) E hW 16 rfl hin dL_wouldAppeal_8 (by rw [ep2_3]; rfl) (fun H locs hW => ?_)
  refine lv_goto (tgt := 15) E.hx E.hb dL_wouldAppeal_9 (by decide) ?_
  refine lv_iconst (v := (0 : Int32)) E.hx E.hb dL_wouldAppeal_15 ic_0 ?_
  exact hret _ p2_3 _ _ _ _ _ _ hW (Option.some.inj hf).symm rfl (by decide) (by decide) dL_wouldAppeal_16
def f_L_printProcess (n : Nat) (sv_p0 : Value) (p0_0 : OS) (z_p0ou : Nat) (p0ou_0 : OS) (p0ru_0 : OS) (p0no_0 : OS) (z_p2 : Nat) (p2_0 : Nat → Int64) (v1_0 : Int32) : Option (OS × (Nat → Int64) × Int32) :=
  bnd3 (f_X8_printProcess n sv_p0 p0_0 z_p0ou p0ou_0 p0ru_0 p0no_0 v1_0) (fun (p0ou_1 : OS) (r_2 : Int32) (cd_3 : Nat) =>
  if cd_3 = 0 then (
  gI z_p2 (0 : Int32) (Let (vp_updL p2_0 (0 : Int32).toNatClampNeg ((r_2).toInt64)) (fun p2_4 : Nat → Int64 =>
  some (p0ou_1, p2_4, (0 : Int32))))) else (
  if cd_3 = 1 then (
  some (p0ou_1, p2_0, (1 : Int32))) else (none)))
set_option maxHeartbeats 4000000 in
set_option maxRecDepth 100000 in
theorem c_L_printProcess (n : Nat) (l : Launch) (k : KT) (hN : CCH k) (hx : XH l k) (a_p0 : Nat → Nat) (a_p0in : Nat → Nat) (a_p0ou : Nat → Nat) (a_p0ru : Nat → Nat) (a_p0no : Nat → Nat) (a_p0fo : Nat → Nat) (a_p0rd : Nat → Nat) (a_p0pa : Nat → Nat) (a_p2 : Nat → Nat) (sv_p0 : Value) (p0_0 : OS) (z_p0ou : Nat) (p0ou_0 : OS) (p0ru_0 : OS) (p0no_0 : OS) (z_p2 : Nat) (p2_0 : Nat → Int64) (v1_0 : Int32) (res : (OS × (Nat → Int64) × Int32)) (hf : f_L_printProcess n sv_p0 p0_0 z_p0ou p0ou_0 p0ru_0 p0no_0 z_p2 p2_0 v1_0 = some res) : CXW l k yL_printProcess cL_printProcess 4 (some .int) [(0, 9, 12, 13)] 8 1 6 124 [.ref (a_p0 0), .int v1_0, .ref (a_p2 0)] (wMCo k a_p0 (a_p0in 0) (a_p0ou 0) (a_p0ru 0) (a_p0no 0) (a_p0fo 0) (a_p0rd 0) (a_p0pa 0) sv_p0 p0_0 ++ wBytes k a_p0ou z_p0ou p0ou_0 ++ wRules k a_p0ru p0ru_0 ++ wCourt k a_p0no p0no_0 ++ wJArr k a_p2 z_p2 p2_0) (Qi k (fun u : (OS) × (Nat → Int64) => wMCo k a_p0 (a_p0in 0) (a_p0ou 0) (a_p0ru 0) (a_p0no 0) (a_p0fo 0) (a_p0rd 0) (a_p0pa 0) sv_p0 p0_0 ++ wBytes k a_p0ou z_p0ou (u.1) ++ wRules k a_p0ru p0ru_0 ++ wCourt k a_p0no p0no_0 ++ wJArr k a_p2 z_p2 (u.2)) (fun (r : Int32) (u : (OS) × (Nat → Int64)) => res = (u.1, u.2, r))) := by
  refine CXW.ofI (by decide) (Nat.le_of_ble_eq_true rfl) (fun p e s m args below meth c A Q E hnm htab hW hA hret ls hl => ?_)
  have hl : lv_has ls 4 [(0, .ref (a_p0 0)), (1, .int v1_0), (2, .ref (a_p2 0))] := hl
  unfold f_L_printProcess at hf
  refine k_aload_n E hl 2 dL_printProcess_0 rfl ?_
  refine lv_iconst (v := (0 : Int32)) E.hx E.hb dL_printProcess_1 ic_0 ?_
  refine k_aload_n E hl 0 dL_printProcess_2 rfl ?_
  refine k_iload_n E hl 1 dL_printProcess_3 rfl ?_
  obtain ⟨p0ou_1, r_2, cd_3, hg, hf⟩ := ob3 hf
  refine k_callXi (As := [.int v1_0]) (rest := [.int (0 : Int32), .ref (a_p2 0)]) (ws2 := fun u => wMCo k a_p0 (a_p0in 0) (a_p0ou 0) (a_p0ru 0) (a_p0no 0) (a_p0fo 0) (a_p0rd 0) (a_p0pa 0) sv_p0 p0_0 ++ wBytes k a_p0ou z_p0ou (u) ++ wRules k a_p0ru p0ru_0 ++ wCourt k a_p0no p0no_0 ++ wJArr k a_p2 z_p2 p2_0) (c_X8_printProcess n l k hx a_p0 a_p0in a_p0ou a_p0ru a_p0no a_p0fo a_p0rd a_p0pa sv_p0 p0_0 z_p0ou p0ou_0 p0ru_0 p0no_0 v1_0 (p0ou_1, r_2, cd_3) hg) E vl_L_106 dL_printProcess_4 rfl (List.range' 0 18) 6 0 hW hA hl rfl (blk_map [] (wMCo k a_p0 (a_p0in 0) (a_p0ou 0) (a_p0ru 0) (a_p0no 0) (a_p0fo 0) (a_p0rd 0) (a_p0pa 0) sv_p0 p0_0 ++ wBytes k a_p0ou z_p0ou p0ou_0 ++ wRules k a_p0ru p0ru_0 ++ wCourt k a_p0no p0no_0) (wJArr k a_p2 z_p2 p2_0) 0 18 (by simp only [List.nil_append]) rfl rfl) rfl rfl ⟨by decide, by decide⟩ ⟨by decide, by decide⟩ (Nat.le_of_ble_eq_true rfl) rfl (fun _ => rfl) (fun u => by rw [blk_put [] (wMCo k a_p0 (a_p0in 0) (a_p0ou 0) (a_p0ru 0) (a_p0no 0) (a_p0fo 0) (a_p0rd 0) (a_p0pa 0) sv_p0 p0_0 ++ wBytes k a_p0ou z_p0ou p0ou_0 ++ wRules k a_p0ru p0ru_0 ++ wCourt k a_p0no p0no_0) (wJArr k a_p2 z_p2 p2_0) (wMCo k a_p0 (a_p0in 0) (a_p0ou 0) (a_p0ru 0) (a_p0no 0) (a_p0fo 0) (a_p0rd 0) (a_p0pa 0) sv_p0 p0_0 ++ wBytes k a_p0ou z_p0ou (u) ++ wRules k a_p0ru p0ru_0 ++ wCourt k a_p0no p0no_0) 0 18 (by simp only [List.nil_append]) rfl rfl rfl]; try simp only [List.nil_append]) (fun cd9 u ce9 q9 H locs hp hW hce hcv hcls => ?_) (fun r u H locs hp hW => ?_)
  · obtain ⟨hcd, hp⟩ := hp
    cases hp
    have hW : WD k A s.heap (wMCo k a_p0 (a_p0in 0) (a_p0ou 0) (a_p0ru 0) (a_p0no 0) (a_p0fo 0) (a_p0rd 0) (a_p0pa 0) sv_p0 p0_0 ++ wBytes k a_p0ou z_p0ou p0ou_1 ++ wRules k a_p0ru p0ru_0 ++ wCourt k a_p0no p0no_0 ++ wJArr k a_p2 z_p2 p2_0) H locs := hW
    have hf := oF hcd hf
    by_cases hc : cd_3 = 1
    · have hf := oT hc hf
      subst hc
      refine k_catch (cd := 1) hN E htab [] (0, 9, 12, 13) [] rfl (fun z hz => by simp at hz) (by decide) (by decide) rfl (by decide) tm_752 tm_763 hce hcv hcls ?_
      refine lv_astore_n (lv' := [(3, .ref q9), (0, .ref (a_p0 0)), (1, .int v1_0), (2, .ref (a_p2 0))]) E.hx E.hb dL_printProcess_12 rfl hl (by decide) rfl (fun ls hl => ?_)
      refine lv_iconst (v := (1 : Int32)) E.hx E.hb dL_printProcess_13 ic_1 ?_
      exact hret _ (p0ou_1, p2_0) _ _ _ _ _ _ hW (Option.some.inj hf).symm rfl (by decide) (by decide) dL_printProcess_14
    have hf := oF hc hf
    exact o0 hf
  cases hp
  have hW : WD k A s.heap (wMCo k a_p0 (a_p0in 0) (a_p0ou 0) (a_p0ru 0) (a_p0no 0) (a_p0fo 0) (a_p0rd 0) (a_p0pa 0) sv_p0 p0_0 ++ wBytes k a_p0ou z_p0ou p0ou_1 ++ wRules k a_p0ru p0ru_0 ++ wCourt k a_p0no p0no_0 ++ wJArr k a_p2 z_p2 p2_0) H locs := hW
  have hf := oT rfl hf
  refine lv_i2l (v := (r_2).toInt64) E.hx E.hb dL_printProcess_7 rfl ?_
  obtain ⟨hin, hf⟩ := oI hf
  obtain ⟨p2_4, ep2_4, hf⟩ := oL hf
  refine k_last (ws2 := wMCo k a_p0 (a_p0in 0) (a_p0ou 0) (a_p0ru 0) (a_p0no 0) (a_p0fo 0) (a_p0rd 0) (a_p0pa 0) sv_p0 p0_0 ++ wBytes k a_p0ou z_p0ou p0ou_1 ++ wRules k a_p0ru p0ru_0 ++ wCourt k a_p0no p0no_0 ++ wJArr k a_p2 z_p2 p2_4) E hW 18 rfl hin dL_printProcess_8 (by rw [ep2_4]; rfl) (fun H locs hW => ?_)
  refine lv_goto (tgt := 15) E.hx E.hb dL_printProcess_9 (by decide) ?_
  refine lv_iconst (v := (0 : Int32)) E.hx E.hb dL_printProcess_15 ic_0 ?_
  exact hret _ (p0ou_1, p2_4) _ _ _ _ _ _ hW (Option.some.inj hf).symm rfl (by decide) (by decide) dL_printProcess_16
